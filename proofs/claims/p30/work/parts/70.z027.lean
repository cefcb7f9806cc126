abbrev Pz_X12_sum_1 (ad : Nat → Nat) (cy : Nat → ClassId) (B : Int) (qr : Nat) (s1 : Int)  (gT gb gd : Int) (w0 : va_W) : Int32 → va_W → Prop := fun r u => TW ksM ad cy B qr 12 u ∧ FE ksM [(12, 14, 14), (12, 15, 15), (12, 16, 16), (12, 18, 18), (61, 0, 2400), (62, 0, 7)] w0 u ∧ Ev (fun n => m_X12_sum n 0 (sI w0)) (r.toInt, sI u) ∧ ((r = 0 ∧ (∃ y : Int32, gi u 0 1 = y ∧ 1 ≤ y.toInt ∧ y.toInt ≤ 400) ∧ (∃ y : Int32, gi u 0 15 = y ∧ 1 ≤ y.toInt ∧ y.toInt ≤ 3205) ∧ (∃ y : Int32, gi u 0 17 = y ∧ 0 ≤ y.toInt ∧ y.toInt ≤ 5) ∧ RLc u gT) ∨ (r = 0 ∧ (∃ y : Int32, gi u 0 1 = y ∧ 0 ≤ y.toInt ∧ y.toInt ≤ 400) ∧ (∃ y : Int32, gi u 0 15 = y ∧ 1 ≤ y.toInt ∧ y.toInt ≤ 3205) ∧ (∃ y : Int32, gi u 0 17 = y ∧ 0 ≤ y.toInt ∧ y.toInt ≤ 5) ∧ RLc u gT) ∨ (r = 1 ∧ (∃ y : Int32, gi u 0 1 = y ∧ 1 ≤ y.toInt ∧ y.toInt ≤ 400) ∧ (∃ y : Int32, gi u 0 17 = y ∧ 0 ≤ y.toInt ∧ y.toInt ≤ 5) ∧ (∃ y : Int32, gi u 0 18 = y ∧ 1 ≤ y.toInt ∧ y.toInt ≤ 60) ∧ OKW u gT gb (gd + 1) ∧ (3 * (gi u 3 ((gi u 0 17).toInt).toNat).toInt + 11 ≤ 3 * (gi w0 3 ((gi w0 0 17).toInt).toNat).toInt + 14 * ((gi u 0 18).toInt - (gi w0 0 18).toInt)) ∧ ((gi w0 0 18).toInt + 1 ≤ (gi u 0 18).toInt)) ∨ (r = 1 ∧ (∃ y : Int32, gi u 0 1 = y ∧ 0 ≤ y.toInt ∧ y.toInt ≤ 400) ∧ (∃ y : Int32, gi u 0 17 = y ∧ 0 ≤ y.toInt ∧ y.toInt ≤ 5) ∧ (∃ y : Int32, gi u 0 18 = y ∧ 1 ≤ y.toInt ∧ y.toInt ≤ 60) ∧ OKW u gT gb (gd + 1) ∧ (3 * (gi u 3 ((gi u 0 17).toInt).toNat).toInt + 11 ≤ 3 * (gi w0 3 ((gi w0 0 17).toInt).toNat).toInt + 14 * ((gi u 0 18).toInt - (gi w0 0 18).toInt)) ∧ ((gi w0 0 18).toInt + 1 ≤ (gi u 0 18).toInt)))
set_option maxHeartbeats 4000000 in
set_option maxRecDepth 100000 in
theorem kz_X12_sum_1 (l : Launch) (adK adV : Nat → Nat) (dC : Nat → ClassId) (dI : Nat → Nat → Nat) (cy : Nat → ClassId) (ad : Nat → Nat) (B : Int) (hB0 : 100000 ≤ B) (hB1 : B ≤ 1073741824) (qr : Nat) (s1 : Int)   (w0 : va_W) (sz : Nat) (hT : TW ksM ad cy B qr 12 w0) (f0_ : Int32) (cf0_ : gi w0 0 17 = f0_) (rf0_ : 0 ≤ f0_.toInt) (tf0_ : f0_.toInt ≤ 5) (f1_ : Int32) (cf1_ : gi w0 0 18 = f1_) (rf1_ : 0 ≤ f1_.toInt) (tf1_ : f1_.toInt ≤ 60) (f2_ : Int32) (cf2_ : gi w0 3 (f0_.toInt).toNat = f2_) (rf2_ : 0 ≤ f2_.toInt) (tf2_ : f2_.toInt ≤ 400) (pr0_ : 3 * f2_.toInt ≤ 14 * f1_.toInt + 60) (pr1_ : f2_.toInt ≤ 300) (gb gd : Int) (hgd0 : 0 ≤ gd) (hgd1 : gd ≤ f1_.toInt) (hO : OKW w0 f0_.toInt gb (gd)) : Met l yX12_sum (wu yX12_sum cX12_sum 2 (some .boolean)) ({ frames := 6, cells := 0, slots := 0, locals := 121 }) (va_Pc [.ref (ad 0)] (wpreS adK adV dC dI cy sz w0)) (va_Qi (Pz_X12_sum_1 ad cy B qr s1  f0_.toInt gb gd w0) (fun u : va_W => wpost dC dI cy (va_A w0 sz) u) (va_A w0 sz)) 0 0 (va_A w0 sz) := by
  refine Met.ofW (cc := cX12_sum) (maxL := 2) (ret := (some .boolean)) (by decide) rfl ?_
  intro p e s m args below meth c s₁ Bk hml hv
  obtain ⟨rfl, ⟨hsz, hP, hK, hD0⟩, hE, hSR⟩ := hv
  have hx := Bk.exec
  have hb := Bk.bytes
  have hr := Bk.returns
  have hlocks := Bk.notSynchronized
  have hC : CallFix p m c cX12_sum 2 s _ (wu yX12_sum cX12_sum 2 (some .boolean)) RX12 := ⟨hx, hb, hml, findClass_of_methodNamed Bk.named, atoms_spec (ws := (wu yX12_sum cX12_sum 2 (some .boolean))) Bk.pre⟩
  subst hsz
  have hD := hD0.self (sz := s.heap.size)
  generalize hAe : va_A w0 s.heap.size = A at hD hE ⊢
  have hA : ∀ q : Nat, s.heap.size ≤ q → A q := fun q h => by rw [← hAe]; exact Or.inr h
  have hw : Wd dC dI A s.heap s.heap [] w0 := ⟨hP, hD, va_S.rf⟩
  have hF : FE ksM [(12, 14, 14), (12, 15, 15), (12, 16, 16), (12, 18, 18), (61, 0, 2400), (62, 0, 7)] w0 w0 := FE.rf
  have hl := lv_entry ([.ref (ad 0)]) (n := 2) (Nat.le_of_ble_eq_true rfl)
  rw [lg_entry_eq]
  generalize (lg_sl ([.ref (ad 0)]) ++ List.replicate (2 - (lg_sl ([.ref (ad 0)])).length) Slot.unset).toArray = ls at hl ⊢
  have hl : lv_has ls 2 [(0, .ref (ad 0))] := hl
  generalize hloc : ([] : List Loc) = locs at hw ⊢
  have hinX12 : ∀ w ∈ u_ws RX12 TX12 42, w ∈ (wu yX12_sum cX12_sum 2 (some .boolean)) := fun _ h => List.mem_cons_of_mem _ (up_71 h)
  have L9 : ∀ (n9 : Nat) (f9_0_1 : Int32) (f9_0_18 : Int32) (f9_3__f0__toInt_toNat : Int32) (H : Heap) (locs : List Loc) (ls : Array Slot) (w1 : va_W), 0 ≤ f9_0_1.toInt → f9_0_1.toInt ≤ 400 → 0 ≤ f0_.toInt → f0_.toInt ≤ 5 → 1 ≤ f9_0_18.toInt → f9_0_18.toInt ≤ 60 → 0 ≤ f9_3__f0__toInt_toNat.toInt → f9_3__f0__toInt_toNat.toInt ≤ 300 → (3 * f9_3__f0__toInt_toNat.toInt + 11 ≤ 3 * f2_.toInt + 14 * (f9_0_18.toInt - f1_.toInt)) → (f1_.toInt + 1 ≤ f9_0_18.toInt) → (f9_3__f0__toInt_toNat.toInt ≤ 300) → (60 - f9_0_18.toInt).toNat < n9 → Wd dC dI A s.heap H locs w1 → TW ksM ad cy B qr 12 w1 → FE ksM [(12, 14, 14), (12, 15, 15), (12, 16, 16), (12, 18, 18), (61, 0, 2400), (62, 0, 7)] w0 w1 → OKW w1 f0_.toInt gb (gd + 1) → gi w1 0 1 = f9_0_1 → gi w1 0 17 = f0_ → gi w1 0 18 = f9_0_18 → gi w1 3 (f0_.toInt).toNat = f9_3__f0__toInt_toNat → TT (fun n => m_X12_sum n 0 (sI w0)) (fun n => j_X12_sum 0 n 9 [] (sI w1)) → lv_has ls 2 [(0, .ref (ad 0))] → W p l e ({ frames := 6, cells := 0, slots := 0, locals := 121 }) s m (List.toArray [.ref (ad 0)]) below meth c H locs 0 0 (MQ below (va_Qi (Pz_X12_sum_1 ad cy B qr s1  f0_.toInt gb gd w0) (fun u : va_W => wpost dC dI cy A u) A) (List.toArray [.ref (ad 0)]) s 0 0 A) (F0 m 9 ls []) := by
    intro n9
    induction n9 with
    | zero => intro f9_0_1 f9_0_18 f9_3__f0__toInt_toNat H locs ls w1 r2 t3 r5 t6 r8 t9 r11 t12 hcr9_0 hcr9_1 hcr9_2 hm9 hw hT hF hO c4 c7 c10 c13 hM hl; omega
    | succ n9 ih9 =>
      intro f9_0_1 f9_0_18 f9_3__f0__toInt_toNat H locs ls w1 r2 t3 r5 t6 r8 t9 r11 t12 hcr9_0 hcr9_1 hcr9_2 hm9 hw hT hF hO c4 c7 c10 c13 hM hl
      have J27 : ∀ (f27_0_14 : Int32) (H : Heap) (locs : List Loc) (ls : Array Slot) (w14 : va_W), 1 ≤ f9_0_1.toInt → f9_0_1.toInt ≤ 400 → 0 ≤ f27_0_14.toInt → f27_0_14.toInt ≤ 399 → 0 ≤ f0_.toInt → f0_.toInt ≤ 5 → 1 ≤ f9_0_18.toInt → f9_0_18.toInt ≤ 60 → 0 ≤ f9_3__f0__toInt_toNat.toInt → f9_3__f0__toInt_toNat.toInt ≤ 300 → (3 * f9_3__f0__toInt_toNat.toInt + 11 ≤ 3 * f2_.toInt + 14 * (f9_0_18.toInt - f1_.toInt)) → (f1_.toInt + 1 ≤ f9_0_18.toInt) → (f9_3__f0__toInt_toNat.toInt ≤ 300) → Wd dC dI A s.heap H locs w14 → TW ksM ad cy B qr 12 w14 → FE ksM [(12, 14, 14), (12, 15, 15), (12, 16, 16), (12, 18, 18), (61, 0, 2400), (62, 0, 7)] w0 w14 → OKW w14 f0_.toInt gb (gd + 1) → gi w14 0 1 = f9_0_1 → gi w14 0 14 = f27_0_14 → gi w14 0 17 = f0_ → gi w14 0 18 = f9_0_18 → gi w14 3 (f0_.toInt).toNat = f9_3__f0__toInt_toNat → TT (fun n => m_X12_sum n 0 (sI w0)) (fun n => b_X12_sum_27 (j_X12_sum 0 n) n 0 (sI w14)) → lv_has ls 2 [(0, .ref (ad 0))] → W p l e ({ frames := 6, cells := 0, slots := 0, locals := 121 }) s m (List.toArray [.ref (ad 0)]) below meth c H locs 0 0 (MQ below (va_Qi (Pz_X12_sum_1 ad cy B qr s1  f0_.toInt gb gd w0) (fun u : va_W => wpost dC dI cy A u) A) (List.toArray [.ref (ad 0)]) s 0 0 A) (F0 m 27 ls []) := by
        intro f27_0_14 H locs ls w14 r15 t16 r18 t19 r21 t22 r24 t25 r27 t28 hcr27_0 hcr27_1 hcr27_2 hw hT hF hO c17 c20 c23 c26 c29 hM hl
        refine lv_aload_n hx hb dX12_sum_27 rfl (lv_at hl 0 rfl) ?_
        refine tk_getA hC hK hw hT hinX12 kM_at0 (by decide) rfl 0 (by decide) (List.mem_cons_of_mem _ uw_6_14) rfl rfl dX12_sum_28 ?_
        refine lv_aload_n hx hb dX12_sum_31 rfl (lv_at hl 0 rfl) ?_
        refine tk_geti hC hK hw hT hinX12 kM_at0 (by decide) rfl 14 (by decide) (List.mem_cons_of_mem _ uw_19_18) rfl rfl dX12_sum_32 (fun x30 c31 rx30 tx30 => ?_)
        refine wk_top f27_0_14 (c31.symm.trans c20) ?_
        replace hM := hM.rd (sI_at c20)
        refine tk_bald hC hK hw hT kM_at1 rfl rfl (show 0 ≤ f27_0_14.toInt from r18) (show f27_0_14.toInt < 400 from Int.lt_of_le_of_lt t19 (by decide)) dX12_sum_35 (fun x32 c33 rx32 tx32 => ?_)
        have hox32 := c33
        replace hM := hM.rd (sI_at hox32)
        have c33 : gi w14 1 (f27_0_14.toInt).toNat = x32 := (congrArg (gi w14 1) (congrArg Int.toNat (show f27_0_14.toInt = f27_0_14.toInt from rfl))).trans c33
        refine lv_bipush (v := 43) hx hb dX12_sum_36 (by decide) ?_
        refine lv_icmp_ne (tgt := 45) hx hb dX12_sum_38 (by decide) (fun c34 => ?_) (fun c34 => ?_)
        · have c34 : ¬ x32.toInt = (43 : Int) := wk_eqF c34
          replace hM := hM.pos c34
          refine lv_iconst (v := 3) hx hb dX12_sum_45 (by decide) ?_
          refine lv_istore_n (lv' := [(1, .int 3), (0, .ref (ad 0))]) hx hb dX12_sum_46 rfl hl (by decide) rfl (fun ls hl => ?_)
          refine lv_aload_n hx hb dX12_sum_47 rfl (lv_at hl 1 rfl) ?_
          refine lv_dup hx hb dX12_sum_48 rfl ?_
          refine tk_geti hC hK hw hT hinX12 kM_at0 (by decide) rfl 14 (by decide) (List.mem_cons_of_mem _ uw_19_18) rfl rfl dX12_sum_49 (fun x35 c36 rx35 tx35 => ?_)
          refine wk_top f27_0_14 (c36.symm.trans c20) ?_
          replace hM := hM.rd (sI_at c20)
          refine lv_iconst (v := 1) hx hb dX12_sum_52 (by decide) ?_
          refine lv_iadd hx hb dX12_sum_53 ?_
          refine lv_topi (fun x37 ex37 => ?_)
          have ezx37 := ex37
          have ex37 : x37.toInt = f27_0_14.toInt + (1 : Int) := by rw [ex37]; exact wk_add (show (-2147483648) ≤ f27_0_14.toInt + (1 : Int) by omega) (show f27_0_14.toInt + (1 : Int) ≤ 2147483647 by omega)
          replace hM := hM.lt ex37.symm
          refine tk_puti hC hK hw hT hinX12 tyX12_ok nmX12 kM_at0 (by decide) rfl rfl 14 (by decide) (List.mem_cons_of_mem _ uw_19_18) rfl rfl rfl rfl (show 0 ≤ x37.toInt by first | with_reducible assumption | omega) (show x37.toInt ≤ 400 by first | with_reducible assumption | omega) dX12_sum_54 (fun H locs w38 hw hT k40 c39 => ?_)
          replace hM := hM.wr (sI_up k40 c39)
          have hO := OKW_F1 k40 (by decide) (by decide) (by decide) (by decide) hO
          have hF := hF.put kM_at0 (k := 14) (by decide) k40
          have c41 := k40.gi (Or.inr (by decide)) c17
          have c42 := k40.gi (Or.inr (by decide)) c23
          have c43 := k40.gi (Or.inr (by decide)) c26
          have c44 := k40.gi (Or.inl (tk_ne kM_at3 kM_at0 (by decide))) c29
          have c45 := k40.gi (Or.inl (tk_ne kM_at1 kM_at0 (by decide))) c33
          refine lv_aload_n hx hb dX12_sum_57 rfl (lv_at hl 1 rfl) ?_
          refine tk_Vi hC hK hw hT hA hE hSR kM_at0 (by decide) rfl (kz_X12_term_1 l adK adV dC dI cy ad B hB0 (Int.le_trans hB1 (by decide)) qr s1    w38 H.size hT f0_ c42 (show 0 ≤ f0_.toInt from r21) (show f0_.toInt ≤ 5 from t22) f9_0_18 c43 (show 0 ≤ f9_0_18.toInt from Int.le_trans (by decide) r24) (show f9_0_18.toInt ≤ 60 from t25) f9_3__f0__toInt_toNat c44 (show 0 ≤ f9_3__f0__toInt_toNat.toInt from r27) (show f9_3__f0__toInt_toNat.toInt ≤ 400 from Int.le_trans t28 (by decide)) (show 3 * f9_3__f0__toInt_toNat.toInt ≤ 14 * f9_0_18.toInt + 60 by omega) (show f9_3__f0__toInt_toNat.toInt ≤ 300 from t28) gb (gd + 1) (by omega) (by omega) (OKW_cast hO (show gd + 1 = gd + 1 from rfl))) (cwV 0 hC.2.2.2.2 uV_RX12_180 rfl rfl rfl (by decide +kernel) ⟨Nat.le_of_ble_eq_true rfl, Nat.le_of_ble_eq_true rfl⟩) rfl hl.1 rfl (Nat.le_of_ble_eq_true rfl) dX12_sum_58 (fun r46 w48 H locs hp47 hw => ?_)
          obtain ⟨hT, k49, hv83, hg82⟩ := hp47
          have hF := hF.tr k49 (by decide)
          have c84 := k49.gi kM_at0 (by decide) c41
          have c85 := k49.gi kM_at0 (by decide) c42
          have c86 := k49.gi kM_at1 rfl c45
          rcases hg82 with ⟨rfl, ⟨x50, c51, rx50, tx50⟩, ⟨x52, c53, rx52, tx52⟩, ⟨x54, c55, rx54, tx54⟩, hq56⟩ | ⟨rfl, ⟨x57, c58, rx57, tx57⟩, ⟨x59, c60, rx59, tx59⟩, ⟨x61, c62, rx61, tx61⟩, hq63⟩ | ⟨rfl, ⟨x64, c65, rx64, tx64⟩, ⟨x66, c67, rx66, tx66⟩, ⟨x68, c69, rx68, tx68⟩, hq70, g71, g72⟩ | ⟨rfl, ⟨x73, c74, rx73, tx73⟩, ⟨x75, c76, rx75, tx75⟩, ⟨x77, c78, rx77, tx77⟩, hq79, g80, g81⟩
          · replace hM := hM.call (r' := 0) hv83 (by decide)
            have ex50 : x50.toInt = f9_0_1.toInt := by rw [← c84.symm.trans c51]
            have ex54 : x54.toInt = f0_.toInt := by rw [← c85.symm.trans c55]
            obtain ⟨x87, c88, rx87, tx87⟩ := hT.rda (lo := 0) (hi := 400) (i := (f0_.toInt).toNat) kM_at3 rfl rfl (by omega)
            obtain ⟨x89, c90, rx89, tx89⟩ := hT.rdi (lo := 0) (hi := 60) (k := 18) kM_at0 (by decide) rfl
            have hR := hq56
            refine lv_if_ne (tgt := 66) hx hb dX12_sum_61 (by decide) (fun c => absurd (by decide) c) (fun _ => ?_)
            replace hM := hM.neg (by decide)
            refine lv_iconst (v := 0) hx hb dX12_sum_64 (by decide) ?_
            exact tk_zret hC hr rfl hlocks hK ⟨hT, hF, hM.ret (by decide), (Or.inl ⟨rfl, ⟨f9_0_1, c84, (show 1 ≤ f9_0_1.toInt from r15), (show f9_0_1.toInt ≤ 400 from t16)⟩, ⟨x52, c53, (show 1 ≤ x52.toInt by first | with_reducible assumption | omega), (show x52.toInt ≤ 3205 by first | with_reducible assumption | omega)⟩, ⟨f0_, c85, (show 0 ≤ f0_.toInt from r21), (show f0_.toInt ≤ 5 from t22)⟩, hR⟩)⟩ hw dX12_sum_65
          · replace hM := hM.call (r' := 0) hv83 (by decide)
            have ex57 : x57.toInt = f9_0_1.toInt := by rw [← c84.symm.trans c58]
            have ex61 : x61.toInt = f0_.toInt := by rw [← c85.symm.trans c62]
            obtain ⟨x91, c92, rx91, tx91⟩ := hT.rda (lo := 0) (hi := 400) (i := (f0_.toInt).toNat) kM_at3 rfl rfl (by omega)
            obtain ⟨x93, c94, rx93, tx93⟩ := hT.rdi (lo := 0) (hi := 60) (k := 18) kM_at0 (by decide) rfl
            have hR := hq63
            refine lv_if_ne (tgt := 66) hx hb dX12_sum_61 (by decide) (fun c => absurd (by decide) c) (fun _ => ?_)
            replace hM := hM.neg (by decide)
            refine lv_iconst (v := 0) hx hb dX12_sum_64 (by decide) ?_
            exact tk_zret hC hr rfl hlocks hK ⟨hT, hF, hM.ret (by decide), (Or.inl ⟨rfl, ⟨f9_0_1, c84, (show 1 ≤ f9_0_1.toInt from r15), (show f9_0_1.toInt ≤ 400 from t16)⟩, ⟨x59, c60, (show 1 ≤ x59.toInt by first | with_reducible assumption | omega), (show x59.toInt ≤ 3205 by first | with_reducible assumption | omega)⟩, ⟨f0_, c85, (show 0 ≤ f0_.toInt from r21), (show f0_.toInt ≤ 5 from t22)⟩, hR⟩)⟩ hw dX12_sum_65
          · replace hM := hM.call (r' := 1) hv83 (by decide)
            have ex64 : x64.toInt = f9_0_1.toInt := by rw [← c84.symm.trans c65]
            have ex66 : x66.toInt = f0_.toInt := by rw [← c85.symm.trans c67]
            obtain ⟨x95, c96, rx95, tx95⟩ := hT.rda (lo := 0) (hi := 400) (i := (f0_.toInt).toNat) kM_at3 rfl rfl (by omega)
            have g71 : 3 * x95.toInt + 11 ≤ 3 * f9_3__f0__toInt_toNat.toInt + 14 * (x68.toInt - f9_0_18.toInt) := by have q := g71; simp only [c42, c85, c44, c96, c43, c69] at q; first | with_reducible exact q | omega
            have g72 : f9_0_18.toInt + 1 ≤ x68.toInt := by have q := g72; simp only [c42, c85, c43, c69] at q; first | with_reducible exact q | omega
            have hO : OKW w48 f0_.toInt gb ((gd + 1) + 1) := by have q := hq70; exact OKW_cast q (by omega)
            refine lv_if_ne (tgt := 66) hx hb dX12_sum_61 (by decide) (fun _ => ?_) (fun c => absurd c (by decide))
            replace hM := hM.pos (by decide)
            refine lv_aload_n hx hb dX12_sum_66 rfl (lv_at hl 1 rfl) ?_
            refine lv_iload_n hx hb dX12_sum_67 rfl (lv_at hl 0 rfl) ?_
            refine lv_iconst (v := 0) hx hb dX12_sum_68 (by decide) ?_
            refine tk_Vv hC hK hw hT hA hE hSR kM_at0 (by decide) rfl (kz_X12_puts_1 l adK adV dC dI cy ad B hB0 (Int.le_trans hB1 (by decide)) qr s1   3 (by decide) (by decide) 0 (by decide) (by decide) w48 H.size hT f0_ c85 (show 0 ≤ f0_.toInt from r21) (show f0_.toInt ≤ 5 from t22) x95 c96 (show 0 ≤ x95.toInt by first | with_reducible assumption | omega) (show x95.toInt ≤ 400 by first | with_reducible assumption | omega) (show x95.toInt ≤ 399 by first | with_reducible assumption | omega)) (cwV 2 hC.2.2.2.2 uV_RX12_162 rfl rfl rfl (by decide +kernel) ⟨Nat.le_of_ble_eq_true rfl, Nat.le_of_ble_eq_true rfl⟩) rfl hl.1 rfl (Nat.le_of_ble_eq_true rfl) dX12_sum_69 (fun w101 H locs hp100 hw => ?_)
            obtain ⟨hT, k102, hv108, hg107⟩ := hp100
            try simp only [show (3 : Int32).toInt = 3 by decide] at hv108
            try simp only [show (0 : Int32).toInt = 0 by decide] at hv108
            have hF := hF.tr k102 (by decide)
            have c109 := k102.gi kM_at0 (by decide) c84
            have c110 := k102.gi kM_at0 (by decide) c85
            have c111 := k102.gi kM_at1 rfl c86
            have c112 := k102.gi kM_at0 (by decide) c69
            obtain ⟨⟨x103, c104, rx103, tx103⟩, hq105, g106⟩ := hg107
            replace hM := hM.call hv108 rfl
            have ex103 : x103.toInt = f0_.toInt := by rw [← c110.symm.trans c104]
            obtain ⟨x113, c114, rx113, tx113⟩ := hT.rda (lo := 0) (hi := 400) (i := (f0_.toInt).toNat) kM_at3 rfl rfl (by omega)
            have g106 : x113.toInt = x95.toInt + 1 := by have q := g106; simp only [c85, c110, c96, c114] at q; first | with_reducible exact q | omega
            have hO : OKW w101 f0_.toInt gb (((gd + 1) + 1) - 1) := OKW_put hO (by have q := hq105; rw [c85] at q; exact q) (by rw [c96]; omega) (fun x hx => by simp only [(show (3 : Int32).toInt = 3 by decide), (show (0 : Int32).toInt = 0 by decide)] at hx; exact okT_bin (by omega) (by omega) (by omega) (by omega)) (by omega) (by omega)
            refine lv_goto (tgt := 9) hx hb dX12_sum_72 (by decide) ?_
            exact ih9 f9_0_1 x68 x113 H locs ls w101 (show 0 ≤ f9_0_1.toInt from r2) (show f9_0_1.toInt ≤ 400 from t16) (show 0 ≤ f0_.toInt from r21) (show f0_.toInt ≤ 5 from t22) (show 1 ≤ x68.toInt by first | with_reducible assumption | omega) (show x68.toInt ≤ 60 by first | with_reducible assumption | omega) (show 0 ≤ x113.toInt by first | with_reducible assumption | omega) (show x113.toInt ≤ 300 by first | with_reducible assumption | omega) (show 3 * x113.toInt + 11 ≤ 3 * f2_.toInt + 14 * (x68.toInt - f1_.toInt) by omega) (show f1_.toInt + 1 ≤ x68.toInt by omega) (show x113.toInt ≤ 300 by first | with_reducible assumption | omega) (show (60 - x68.toInt).toNat < n9 by first | exact tn_lt hm9 (by omega) (by omega) | omega) hw hT hF (OKW_cast hO (show ((gd + 1) + 1) - 1 = gd + 1 by first | exact Int.le_antisymm (by omega) (by omega) | omega)) c109 c110 c112 c114 hM (lv_sub hl [1] rfl)
          · replace hM := hM.call (r' := 1) hv83 (by decide)
            have ex73 : x73.toInt = f9_0_1.toInt := by rw [← c84.symm.trans c74]
            have ex75 : x75.toInt = f0_.toInt := by rw [← c85.symm.trans c76]
            obtain ⟨x97, c98, rx97, tx97⟩ := hT.rda (lo := 0) (hi := 400) (i := (f0_.toInt).toNat) kM_at3 rfl rfl (by omega)
            have g80 : 3 * x97.toInt + 11 ≤ 3 * f9_3__f0__toInt_toNat.toInt + 14 * (x77.toInt - f9_0_18.toInt) := by have q := g80; simp only [c42, c85, c44, c98, c43, c78] at q; first | with_reducible exact q | omega
            have g81 : f9_0_18.toInt + 1 ≤ x77.toInt := by have q := g81; simp only [c42, c85, c43, c78] at q; first | with_reducible exact q | omega
            have hO : OKW w48 f0_.toInt gb ((gd + 1) + 1) := by have q := hq79; exact OKW_cast q (by omega)
            refine lv_if_ne (tgt := 66) hx hb dX12_sum_61 (by decide) (fun _ => ?_) (fun c => absurd c (by decide))
            replace hM := hM.pos (by decide)
            refine lv_aload_n hx hb dX12_sum_66 rfl (lv_at hl 1 rfl) ?_
            refine lv_iload_n hx hb dX12_sum_67 rfl (lv_at hl 0 rfl) ?_
            refine lv_iconst (v := 0) hx hb dX12_sum_68 (by decide) ?_
            refine tk_Vv hC hK hw hT hA hE hSR kM_at0 (by decide) rfl (kz_X12_puts_1 l adK adV dC dI cy ad B hB0 (Int.le_trans hB1 (by decide)) qr s1   3 (by decide) (by decide) 0 (by decide) (by decide) w48 H.size hT f0_ c85 (show 0 ≤ f0_.toInt from r21) (show f0_.toInt ≤ 5 from t22) x97 c98 (show 0 ≤ x97.toInt by first | with_reducible assumption | omega) (show x97.toInt ≤ 400 by first | with_reducible assumption | omega) (show x97.toInt ≤ 399 by first | with_reducible assumption | omega)) (cwV 2 hC.2.2.2.2 uV_RX12_162 rfl rfl rfl (by decide +kernel) ⟨Nat.le_of_ble_eq_true rfl, Nat.le_of_ble_eq_true rfl⟩) rfl hl.1 rfl (Nat.le_of_ble_eq_true rfl) dX12_sum_69 (fun w117 H locs hp116 hw => ?_)
            obtain ⟨hT, k118, hv124, hg123⟩ := hp116
            try simp only [show (3 : Int32).toInt = 3 by decide] at hv124
            try simp only [show (0 : Int32).toInt = 0 by decide] at hv124
            have hF := hF.tr k118 (by decide)
            have c125 := k118.gi kM_at0 (by decide) c84
            have c126 := k118.gi kM_at0 (by decide) c85
            have c127 := k118.gi kM_at1 rfl c86
            have c128 := k118.gi kM_at0 (by decide) c78
            obtain ⟨⟨x119, c120, rx119, tx119⟩, hq121, g122⟩ := hg123
            replace hM := hM.call hv124 rfl
            have ex119 : x119.toInt = f0_.toInt := by rw [← c126.symm.trans c120]
            obtain ⟨x129, c130, rx129, tx129⟩ := hT.rda (lo := 0) (hi := 400) (i := (f0_.toInt).toNat) kM_at3 rfl rfl (by omega)
            have g122 : x129.toInt = x97.toInt + 1 := by have q := g122; simp only [c85, c126, c98, c130] at q; first | with_reducible exact q | omega
            have hO : OKW w117 f0_.toInt gb (((gd + 1) + 1) - 1) := OKW_put hO (by have q := hq121; rw [c85] at q; exact q) (by rw [c98]; omega) (fun x hx => by simp only [(show (3 : Int32).toInt = 3 by decide), (show (0 : Int32).toInt = 0 by decide)] at hx; exact okT_bin (by omega) (by omega) (by omega) (by omega)) (by omega) (by omega)
            refine lv_goto (tgt := 9) hx hb dX12_sum_72 (by decide) ?_
            exact ih9 f9_0_1 x77 x129 H locs ls w117 (show 0 ≤ f9_0_1.toInt from r2) (show f9_0_1.toInt ≤ 400 from t16) (show 0 ≤ f0_.toInt from r21) (show f0_.toInt ≤ 5 from t22) (show 1 ≤ x77.toInt by first | with_reducible assumption | omega) (show x77.toInt ≤ 60 by first | with_reducible assumption | omega) (show 0 ≤ x129.toInt by first | with_reducible assumption | omega) (show x129.toInt ≤ 300 by first | with_reducible assumption | omega) (show 3 * x129.toInt + 11 ≤ 3 * f2_.toInt + 14 * (x77.toInt - f1_.toInt) by omega) (show f1_.toInt + 1 ≤ x77.toInt by omega) (show x129.toInt ≤ 300 by first | with_reducible assumption | omega) (show (60 - x77.toInt).toNat < n9 by first | exact tn_lt hm9 (by omega) (by omega) | omega) hw hT hF (OKW_cast hO (show ((gd + 1) + 1) - 1 = gd + 1 by first | exact Int.le_antisymm (by omega) (by omega) | omega)) c125 c126 c128 c130 hM (lv_sub hl [1] rfl)
        · have c34 : x32.toInt = (43 : Int) := wk_eq.mp c34
          replace hM := hM.neg (fun q => q c34)
          refine lv_iconst (v := 2) hx hb dX12_sum_41 (by decide) ?_
          refine lv_goto (tgt := 46) hx hb dX12_sum_42 (by decide) ?_
          refine lv_istore_n (lv' := [(1, .int 2), (0, .ref (ad 0))]) hx hb dX12_sum_46 rfl hl (by decide) rfl (fun ls hl => ?_)
          refine lv_aload_n hx hb dX12_sum_47 rfl (lv_at hl 1 rfl) ?_
          refine lv_dup hx hb dX12_sum_48 rfl ?_
          refine tk_geti hC hK hw hT hinX12 kM_at0 (by decide) rfl 14 (by decide) (List.mem_cons_of_mem _ uw_19_18) rfl rfl dX12_sum_49 (fun x131 c132 rx131 tx131 => ?_)
          refine wk_top f27_0_14 (c132.symm.trans c20) ?_
          replace hM := hM.rd (sI_at c20)
          refine lv_iconst (v := 1) hx hb dX12_sum_52 (by decide) ?_
          refine lv_iadd hx hb dX12_sum_53 ?_
          refine lv_topi (fun x133 ex133 => ?_)
          have ezx133 := ex133
          have ex133 : x133.toInt = f27_0_14.toInt + (1 : Int) := by rw [ex133]; exact wk_add (show (-2147483648) ≤ f27_0_14.toInt + (1 : Int) by omega) (show f27_0_14.toInt + (1 : Int) ≤ 2147483647 by omega)
          replace hM := hM.lt ex133.symm
          refine tk_puti hC hK hw hT hinX12 tyX12_ok nmX12 kM_at0 (by decide) rfl rfl 14 (by decide) (List.mem_cons_of_mem _ uw_19_18) rfl rfl rfl rfl (show 0 ≤ x133.toInt by first | with_reducible assumption | omega) (show x133.toInt ≤ 400 by first | with_reducible assumption | omega) dX12_sum_54 (fun H locs w134 hw hT k136 c135 => ?_)
          replace hM := hM.wr (sI_up k136 c135)
          have hO := OKW_F1 k136 (by decide) (by decide) (by decide) (by decide) hO
          have hF := hF.put kM_at0 (k := 14) (by decide) k136
          have c137 := k136.gi (Or.inr (by decide)) c17
          have c138 := k136.gi (Or.inr (by decide)) c23
          have c139 := k136.gi (Or.inr (by decide)) c26
          have c140 := k136.gi (Or.inl (tk_ne kM_at3 kM_at0 (by decide))) c29
          have c141 := k136.gi (Or.inl (tk_ne kM_at1 kM_at0 (by decide))) c33
          refine lv_aload_n hx hb dX12_sum_57 rfl (lv_at hl 1 rfl) ?_
          refine tk_Vi hC hK hw hT hA hE hSR kM_at0 (by decide) rfl (kz_X12_term_1 l adK adV dC dI cy ad B hB0 (Int.le_trans hB1 (by decide)) qr s1    w134 H.size hT f0_ c138 (show 0 ≤ f0_.toInt from r21) (show f0_.toInt ≤ 5 from t22) f9_0_18 c139 (show 0 ≤ f9_0_18.toInt from Int.le_trans (by decide) r24) (show f9_0_18.toInt ≤ 60 from t25) f9_3__f0__toInt_toNat c140 (show 0 ≤ f9_3__f0__toInt_toNat.toInt from r27) (show f9_3__f0__toInt_toNat.toInt ≤ 400 from Int.le_trans t28 (by decide)) (show 3 * f9_3__f0__toInt_toNat.toInt ≤ 14 * f9_0_18.toInt + 60 by omega) (show f9_3__f0__toInt_toNat.toInt ≤ 300 from t28) gb (gd + 1) (by omega) (by omega) (OKW_cast hO (show gd + 1 = gd + 1 from rfl))) (cwV 0 hC.2.2.2.2 uV_RX12_180 rfl rfl rfl (by decide +kernel) ⟨Nat.le_of_ble_eq_true rfl, Nat.le_of_ble_eq_true rfl⟩) rfl hl.1 rfl (Nat.le_of_ble_eq_true rfl) dX12_sum_58 (fun r142 w144 H locs hp143 hw => ?_)
          obtain ⟨hT, k145, hv179, hg178⟩ := hp143
          have hF := hF.tr k145 (by decide)
          have c180 := k145.gi kM_at0 (by decide) c137
          have c181 := k145.gi kM_at0 (by decide) c138
          have c182 := k145.gi kM_at1 rfl c141
          rcases hg178 with ⟨rfl, ⟨x146, c147, rx146, tx146⟩, ⟨x148, c149, rx148, tx148⟩, ⟨x150, c151, rx150, tx150⟩, hq152⟩ | ⟨rfl, ⟨x153, c154, rx153, tx153⟩, ⟨x155, c156, rx155, tx155⟩, ⟨x157, c158, rx157, tx157⟩, hq159⟩ | ⟨rfl, ⟨x160, c161, rx160, tx160⟩, ⟨x162, c163, rx162, tx162⟩, ⟨x164, c165, rx164, tx164⟩, hq166, g167, g168⟩ | ⟨rfl, ⟨x169, c170, rx169, tx169⟩, ⟨x171, c172, rx171, tx171⟩, ⟨x173, c174, rx173, tx173⟩, hq175, g176, g177⟩
          · replace hM := hM.call (r' := 0) hv179 (by decide)
            have ex146 : x146.toInt = f9_0_1.toInt := by rw [← c180.symm.trans c147]
            have ex150 : x150.toInt = f0_.toInt := by rw [← c181.symm.trans c151]
            obtain ⟨x183, c184, rx183, tx183⟩ := hT.rda (lo := 0) (hi := 400) (i := (f0_.toInt).toNat) kM_at3 rfl rfl (by omega)
            obtain ⟨x185, c186, rx185, tx185⟩ := hT.rdi (lo := 0) (hi := 60) (k := 18) kM_at0 (by decide) rfl
            have hR := hq152
            refine lv_if_ne (tgt := 66) hx hb dX12_sum_61 (by decide) (fun c => absurd (by decide) c) (fun _ => ?_)
            replace hM := hM.neg (by decide)
            refine lv_iconst (v := 0) hx hb dX12_sum_64 (by decide) ?_
            exact tk_zret hC hr rfl hlocks hK ⟨hT, hF, hM.ret (by decide), (Or.inl ⟨rfl, ⟨f9_0_1, c180, (show 1 ≤ f9_0_1.toInt from r15), (show f9_0_1.toInt ≤ 400 from t16)⟩, ⟨x148, c149, (show 1 ≤ x148.toInt by first | with_reducible assumption | omega), (show x148.toInt ≤ 3205 by first | with_reducible assumption | omega)⟩, ⟨f0_, c181, (show 0 ≤ f0_.toInt from r21), (show f0_.toInt ≤ 5 from t22)⟩, hR⟩)⟩ hw dX12_sum_65
          · replace hM := hM.call (r' := 0) hv179 (by decide)
            have ex153 : x153.toInt = f9_0_1.toInt := by rw [← c180.symm.trans c154]
            have ex157 : x157.toInt = f0_.toInt := by rw [← c181.symm.trans c158]
            obtain ⟨x187, c188, rx187, tx187⟩ := hT.rda (lo := 0) (hi := 400) (i := (f0_.toInt).toNat) kM_at3 rfl rfl (by omega)
            obtain ⟨x189, c190, rx189, tx189⟩ := hT.rdi (lo := 0) (hi := 60) (k := 18) kM_at0 (by decide) rfl
            have hR := hq159
            refine lv_if_ne (tgt := 66) hx hb dX12_sum_61 (by decide) (fun c => absurd (by decide) c) (fun _ => ?_)
            replace hM := hM.neg (by decide)
            refine lv_iconst (v := 0) hx hb dX12_sum_64 (by decide) ?_
            exact tk_zret hC hr rfl hlocks hK ⟨hT, hF, hM.ret (by decide), (Or.inl ⟨rfl, ⟨f9_0_1, c180, (show 1 ≤ f9_0_1.toInt from r15), (show f9_0_1.toInt ≤ 400 from t16)⟩, ⟨x155, c156, (show 1 ≤ x155.toInt by first | with_reducible assumption | omega), (show x155.toInt ≤ 3205 by first | with_reducible assumption | omega)⟩, ⟨f0_, c181, (show 0 ≤ f0_.toInt from r21), (show f0_.toInt ≤ 5 from t22)⟩, hR⟩)⟩ hw dX12_sum_65
          · replace hM := hM.call (r' := 1) hv179 (by decide)
            have ex160 : x160.toInt = f9_0_1.toInt := by rw [← c180.symm.trans c161]
            have ex162 : x162.toInt = f0_.toInt := by rw [← c181.symm.trans c163]
            obtain ⟨x191, c192, rx191, tx191⟩ := hT.rda (lo := 0) (hi := 400) (i := (f0_.toInt).toNat) kM_at3 rfl rfl (by omega)
            have g167 : 3 * x191.toInt + 11 ≤ 3 * f9_3__f0__toInt_toNat.toInt + 14 * (x164.toInt - f9_0_18.toInt) := by have q := g167; simp only [c138, c181, c140, c192, c139, c165] at q; first | with_reducible exact q | omega
            have g168 : f9_0_18.toInt + 1 ≤ x164.toInt := by have q := g168; simp only [c138, c181, c139, c165] at q; first | with_reducible exact q | omega
            have hO : OKW w144 f0_.toInt gb ((gd + 1) + 1) := by have q := hq166; exact OKW_cast q (by omega)
            refine lv_if_ne (tgt := 66) hx hb dX12_sum_61 (by decide) (fun _ => ?_) (fun c => absurd c (by decide))
            replace hM := hM.pos (by decide)
            refine lv_aload_n hx hb dX12_sum_66 rfl (lv_at hl 1 rfl) ?_
            refine lv_iload_n hx hb dX12_sum_67 rfl (lv_at hl 0 rfl) ?_
            refine lv_iconst (v := 0) hx hb dX12_sum_68 (by decide) ?_
            refine tk_Vv hC hK hw hT hA hE hSR kM_at0 (by decide) rfl (kz_X12_puts_1 l adK adV dC dI cy ad B hB0 (Int.le_trans hB1 (by decide)) qr s1   2 (by decide) (by decide) 0 (by decide) (by decide) w144 H.size hT f0_ c181 (show 0 ≤ f0_.toInt from r21) (show f0_.toInt ≤ 5 from t22) x191 c192 (show 0 ≤ x191.toInt by first | with_reducible assumption | omega) (show x191.toInt ≤ 400 by first | with_reducible assumption | omega) (show x191.toInt ≤ 399 by first | with_reducible assumption | omega)) (cwV 2 hC.2.2.2.2 uV_RX12_162 rfl rfl rfl (by decide +kernel) ⟨Nat.le_of_ble_eq_true rfl, Nat.le_of_ble_eq_true rfl⟩) rfl hl.1 rfl (Nat.le_of_ble_eq_true rfl) dX12_sum_69 (fun w197 H locs hp196 hw => ?_)
            obtain ⟨hT, k198, hv204, hg203⟩ := hp196
            try simp only [show (2 : Int32).toInt = 2 by decide] at hv204
            try simp only [show (0 : Int32).toInt = 0 by decide] at hv204
            have hF := hF.tr k198 (by decide)
            have c205 := k198.gi kM_at0 (by decide) c180
            have c206 := k198.gi kM_at0 (by decide) c181
            have c207 := k198.gi kM_at1 rfl c182
            have c208 := k198.gi kM_at0 (by decide) c165
            obtain ⟨⟨x199, c200, rx199, tx199⟩, hq201, g202⟩ := hg203
            replace hM := hM.call hv204 rfl
            have ex199 : x199.toInt = f0_.toInt := by rw [← c206.symm.trans c200]
            obtain ⟨x209, c210, rx209, tx209⟩ := hT.rda (lo := 0) (hi := 400) (i := (f0_.toInt).toNat) kM_at3 rfl rfl (by omega)
            have g202 : x209.toInt = x191.toInt + 1 := by have q := g202; simp only [c181, c206, c192, c210] at q; first | with_reducible exact q | omega
            have hO : OKW w197 f0_.toInt gb (((gd + 1) + 1) - 1) := OKW_put hO (by have q := hq201; rw [c181] at q; exact q) (by rw [c192]; omega) (fun x hx => by simp only [(show (2 : Int32).toInt = 2 by decide), (show (0 : Int32).toInt = 0 by decide)] at hx; exact okT_bin (by omega) (by omega) (by omega) (by omega)) (by omega) (by omega)
            refine lv_goto (tgt := 9) hx hb dX12_sum_72 (by decide) ?_
            exact ih9 f9_0_1 x164 x209 H locs ls w197 (show 0 ≤ f9_0_1.toInt from r2) (show f9_0_1.toInt ≤ 400 from t16) (show 0 ≤ f0_.toInt from r21) (show f0_.toInt ≤ 5 from t22) (show 1 ≤ x164.toInt by first | with_reducible assumption | omega) (show x164.toInt ≤ 60 by first | with_reducible assumption | omega) (show 0 ≤ x209.toInt by first | with_reducible assumption | omega) (show x209.toInt ≤ 300 by first | with_reducible assumption | omega) (show 3 * x209.toInt + 11 ≤ 3 * f2_.toInt + 14 * (x164.toInt - f1_.toInt) by omega) (show f1_.toInt + 1 ≤ x164.toInt by omega) (show x209.toInt ≤ 300 by first | with_reducible assumption | omega) (show (60 - x164.toInt).toNat < n9 by first | exact tn_lt hm9 (by omega) (by omega) | omega) hw hT hF (OKW_cast hO (show ((gd + 1) + 1) - 1 = gd + 1 by first | exact Int.le_antisymm (by omega) (by omega) | omega)) c205 c206 c208 c210 hM (lv_sub hl [1] rfl)
          · replace hM := hM.call (r' := 1) hv179 (by decide)
            have ex169 : x169.toInt = f9_0_1.toInt := by rw [← c180.symm.trans c170]
            have ex171 : x171.toInt = f0_.toInt := by rw [← c181.symm.trans c172]
            obtain ⟨x193, c194, rx193, tx193⟩ := hT.rda (lo := 0) (hi := 400) (i := (f0_.toInt).toNat) kM_at3 rfl rfl (by omega)
            have g176 : 3 * x193.toInt + 11 ≤ 3 * f9_3__f0__toInt_toNat.toInt + 14 * (x173.toInt - f9_0_18.toInt) := by have q := g176; simp only [c138, c181, c140, c194, c139, c174] at q; first | with_reducible exact q | omega
            have g177 : f9_0_18.toInt + 1 ≤ x173.toInt := by have q := g177; simp only [c138, c181, c139, c174] at q; first | with_reducible exact q | omega
            have hO : OKW w144 f0_.toInt gb ((gd + 1) + 1) := by have q := hq175; exact OKW_cast q (by omega)
            refine lv_if_ne (tgt := 66) hx hb dX12_sum_61 (by decide) (fun _ => ?_) (fun c => absurd c (by decide))
            replace hM := hM.pos (by decide)
            refine lv_aload_n hx hb dX12_sum_66 rfl (lv_at hl 1 rfl) ?_
            refine lv_iload_n hx hb dX12_sum_67 rfl (lv_at hl 0 rfl) ?_
            refine lv_iconst (v := 0) hx hb dX12_sum_68 (by decide) ?_
            refine tk_Vv hC hK hw hT hA hE hSR kM_at0 (by decide) rfl (kz_X12_puts_1 l adK adV dC dI cy ad B hB0 (Int.le_trans hB1 (by decide)) qr s1   2 (by decide) (by decide) 0 (by decide) (by decide) w144 H.size hT f0_ c181 (show 0 ≤ f0_.toInt from r21) (show f0_.toInt ≤ 5 from t22) x193 c194 (show 0 ≤ x193.toInt by first | with_reducible assumption | omega) (show x193.toInt ≤ 400 by first | with_reducible assumption | omega) (show x193.toInt ≤ 399 by first | with_reducible assumption | omega)) (cwV 2 hC.2.2.2.2 uV_RX12_162 rfl rfl rfl (by decide +kernel) ⟨Nat.le_of_ble_eq_true rfl, Nat.le_of_ble_eq_true rfl⟩) rfl hl.1 rfl (Nat.le_of_ble_eq_true rfl) dX12_sum_69 (fun w213 H locs hp212 hw => ?_)
            obtain ⟨hT, k214, hv220, hg219⟩ := hp212
            try simp only [show (2 : Int32).toInt = 2 by decide] at hv220
            try simp only [show (0 : Int32).toInt = 0 by decide] at hv220
            have hF := hF.tr k214 (by decide)
            have c221 := k214.gi kM_at0 (by decide) c180
            have c222 := k214.gi kM_at0 (by decide) c181
            have c223 := k214.gi kM_at1 rfl c182
            have c224 := k214.gi kM_at0 (by decide) c174
            obtain ⟨⟨x215, c216, rx215, tx215⟩, hq217, g218⟩ := hg219
            replace hM := hM.call hv220 rfl
            have ex215 : x215.toInt = f0_.toInt := by rw [← c222.symm.trans c216]
            obtain ⟨x225, c226, rx225, tx225⟩ := hT.rda (lo := 0) (hi := 400) (i := (f0_.toInt).toNat) kM_at3 rfl rfl (by omega)
            have g218 : x225.toInt = x193.toInt + 1 := by have q := g218; simp only [c181, c222, c194, c226] at q; first | with_reducible exact q | omega
            have hO : OKW w213 f0_.toInt gb (((gd + 1) + 1) - 1) := OKW_put hO (by have q := hq217; rw [c181] at q; exact q) (by rw [c194]; omega) (fun x hx => by simp only [(show (2 : Int32).toInt = 2 by decide), (show (0 : Int32).toInt = 0 by decide)] at hx; exact okT_bin (by omega) (by omega) (by omega) (by omega)) (by omega) (by omega)
            refine lv_goto (tgt := 9) hx hb dX12_sum_72 (by decide) ?_
            exact ih9 f9_0_1 x173 x225 H locs ls w213 (show 0 ≤ f9_0_1.toInt from r2) (show f9_0_1.toInt ≤ 400 from t16) (show 0 ≤ f0_.toInt from r21) (show f0_.toInt ≤ 5 from t22) (show 1 ≤ x173.toInt by first | with_reducible assumption | omega) (show x173.toInt ≤ 60 by first | with_reducible assumption | omega) (show 0 ≤ x225.toInt by first | with_reducible assumption | omega) (show x225.toInt ≤ 300 by first | with_reducible assumption | omega) (show 3 * x225.toInt + 11 ≤ 3 * f2_.toInt + 14 * (x173.toInt - f1_.toInt) by omega) (show f1_.toInt + 1 ≤ x173.toInt by omega) (show x225.toInt ≤ 300 by first | with_reducible assumption | omega) (show (60 - x173.toInt).toNat < n9 by first | exact tn_lt hm9 (by omega) (by omega) | omega) hw hT hF (OKW_cast hO (show ((gd + 1) + 1) - 1 = gd + 1 by first | exact Int.le_antisymm (by omega) (by omega) | omega)) c221 c222 c224 c226 hM (lv_sub hl [1] rfl)
      replace hM := hM.suc (fun _ => e_X12_sum_9)
      refine lv_aload_n hx hb dX12_sum_9 rfl (lv_at hl 0 rfl) ?_
      obtain ⟨x227, c228, rx227, tx227⟩ := hT.rdi (lo := 0) (hi := 400) (k := 14) kM_at0 (by decide) rfl
      refine tk_Vi hC hK hw hT hA hE hSR kM_at0 (by decide) rfl (kz_X12_see_1 l adK adV dC dI cy ad B hB0 (Int.le_trans hB1 (by decide)) qr s1    w1 H.size hT x227 c228 (show 0 ≤ x227.toInt by first | with_reducible assumption | omega) (show x227.toInt ≤ 400 by first | with_reducible assumption | omega)) (cwV 0 hC.2.2.2.2 uV_RX12_97 rfl rfl rfl (by decide +kernel) ⟨Nat.le_of_ble_eq_true rfl, Nat.le_of_ble_eq_true rfl⟩) rfl hl.1 rfl (Nat.le_of_ble_eq_true rfl) dX12_sum_10 (fun r229 w231 H locs hp230 hw => ?_)
      obtain ⟨hT, k232, hv250, hg249⟩ := hp230
      have hO := OKW_FE k232 (fun _ => rfl) (fun _ => rfl) (fun _ => rfl) (fun _ => rfl) hO
      have hF := hF.tr k232 (by decide)
      have c251 := k232.gi kM_at0 (by decide) c4
      have c252 := k232.gi kM_at0 (by decide) c7
      have c253 := k232.gi kM_at0 (by decide) c10
      have c254 := k232.gi kM_at3 rfl c13
      rcases hg249 with ⟨g233, g234, ⟨x235, c236, rx235, tx235⟩, ⟨x237, c238, rx237, tx237⟩, g239, g240⟩ | ⟨rfl, ⟨x241, c242, rx241, tx241⟩, ⟨x243, c244, rx243, tx243⟩, g245⟩ | ⟨rfl, ⟨x246, c247, rx246, tx246⟩, g248⟩
      · replace hM := hM.call hv250 rfl
        have ex235 : x235.toInt = f9_0_1.toInt := by rw [← c251.symm.trans c236]
        have g239 : (gi w231 1 (x237.toInt).toNat).toInt ≠ 32 := by have q := g239; simp only [c7, c252, c238] at q; first | with_reducible exact q | omega
        have g240 : (x237.toInt = x227.toInt ∨ (gi w1 1 (x227.toInt).toNat).toInt = 32) := by have q := g240; simp only [c7, c252, c228, c238] at q; first | with_reducible exact q | omega
        refine lv_bipush (v := 43) hx hb dX12_sum_13 (by decide) ?_
        refine lv_icmp_eq (tgt := 27) hx hb dX12_sum_15 (by decide) (fun c257 => ?_) (fun c257 => ?_)
        · have c257 : r229.toInt = (43 : Int) := wk_eq.mp c257
          replace hM := hM.pos c257
          exact J27 x237 H locs ls w231 (show 1 ≤ f9_0_1.toInt by first | with_reducible assumption | omega) (show f9_0_1.toInt ≤ 400 from t3) (show 0 ≤ x237.toInt by first | with_reducible assumption | omega) (show x237.toInt ≤ 399 by first | with_reducible assumption | omega) (show 0 ≤ f0_.toInt from r5) (show f0_.toInt ≤ 5 from t6) (show 1 ≤ f9_0_18.toInt from r8) (show f9_0_18.toInt ≤ 60 from t9) (show 0 ≤ f9_3__f0__toInt_toNat.toInt from r11) (show f9_3__f0__toInt_toNat.toInt ≤ 300 from t12) (show 3 * f9_3__f0__toInt_toNat.toInt + 11 ≤ 3 * f2_.toInt + 14 * (f9_0_18.toInt - f1_.toInt) by omega) (show f1_.toInt + 1 ≤ f9_0_18.toInt by omega) (show f9_3__f0__toInt_toNat.toInt ≤ 300 from t12)  hw hT hF (OKW_cast hO (show gd + 1 = gd + 1 from rfl)) c251 c238 c252 c253 c254 hM (lv_sub hl [0] rfl)
        · have c257 : ¬ r229.toInt = (43 : Int) := wk_eqF c257
          replace hM := hM.neg c257
          refine lv_aload_n hx hb dX12_sum_18 rfl (lv_at hl 0 rfl) ?_
          refine tk_Vi hC hK hw hT hA hE hSR kM_at0 (by decide) rfl (kz_X12_see_1 l adK adV dC dI cy ad B hB0 (Int.le_trans hB1 (by decide)) qr s1    w231 H.size hT x237 c238 (show 0 ≤ x237.toInt by first | with_reducible assumption | omega) (show x237.toInt ≤ 400 by first | with_reducible assumption | omega)) (cwV 0 hC.2.2.2.2 uV_RX12_97 rfl rfl rfl (by decide +kernel) ⟨Nat.le_of_ble_eq_true rfl, Nat.le_of_ble_eq_true rfl⟩) rfl hl.1 rfl (Nat.le_of_ble_eq_true rfl) dX12_sum_19 (fun r258 w260 H locs hp259 hw => ?_)
          obtain ⟨hT, k261, hv279, hg278⟩ := hp259
          have hO := OKW_FE k261 (fun _ => rfl) (fun _ => rfl) (fun _ => rfl) (fun _ => rfl) hO
          have hF := hF.tr k261 (by decide)
          have c280 := k261.gi kM_at0 (by decide) c251
          have c281 := k261.gi kM_at0 (by decide) c252
          have c282 := k261.gi kM_at0 (by decide) c253
          have c283 := k261.gi kM_at3 rfl c254
          rcases hg278 with ⟨g262, g263, ⟨x264, c265, rx264, tx264⟩, ⟨x266, c267, rx266, tx266⟩, g268, g269⟩ | ⟨rfl, ⟨x270, c271, rx270, tx270⟩, ⟨x272, c273, rx272, tx272⟩, g274⟩ | ⟨rfl, ⟨x275, c276, rx275, tx275⟩, g277⟩
          · replace hM := hM.call hv279 rfl
            have ex264 : x264.toInt = f9_0_1.toInt := by rw [← c280.symm.trans c265]
            have g268 : (gi w260 1 (x266.toInt).toNat).toInt ≠ 32 := by have q := g268; simp only [c252, c281, c267] at q; first | with_reducible exact q | omega
            have g269 : (x266.toInt = x237.toInt ∨ (gi w231 1 (x237.toInt).toNat).toInt = 32) := by have q := g269; simp only [c252, c281, c238, c267] at q; first | with_reducible exact q | omega
            refine lv_bipush (v := 45) hx hb dX12_sum_22 (by decide) ?_
            refine lv_icmp_ne (tgt := 75) hx hb dX12_sum_24 (by decide) (fun c286 => ?_) (fun c286 => ?_)
            · have c286 : ¬ r258.toInt = (45 : Int) := wk_eqF c286
              replace hM := hM.pos c286
              refine lv_iconst (v := 1) hx hb dX12_sum_75 (by decide) ?_
              exact tk_zret hC hr rfl hlocks hK ⟨hT, hF, hM.ret (by decide), (Or.inr (Or.inr (Or.inl ⟨rfl, ⟨f9_0_1, c280, (show 1 ≤ f9_0_1.toInt by first | with_reducible assumption | omega), (show f9_0_1.toInt ≤ 400 from t3)⟩, ⟨f0_, c281, (show 0 ≤ f0_.toInt from r5), (show f0_.toInt ≤ 5 from t6)⟩, ⟨f9_0_18, c282, (show 1 ≤ f9_0_18.toInt from r8), (show f9_0_18.toInt ≤ 60 from t9)⟩, (OKW_cast hO (by omega)), (by simp only [c281, cf0_, cf2_, c283, cf1_, c282]; omega), (by simp only [c281, cf0_, cf1_, c282]; omega)⟩)))⟩ hw dX12_sum_76
            · have c286 : r258.toInt = (45 : Int) := wk_eq.mp c286
              replace hM := hM.neg (fun q => q c286)
              exact J27 x266 H locs ls w260 (show 1 ≤ f9_0_1.toInt by first | with_reducible assumption | omega) (show f9_0_1.toInt ≤ 400 from t3) (show 0 ≤ x266.toInt by first | with_reducible assumption | omega) (show x266.toInt ≤ 399 by first | with_reducible assumption | omega) (show 0 ≤ f0_.toInt from r5) (show f0_.toInt ≤ 5 from t6) (show 1 ≤ f9_0_18.toInt from r8) (show f9_0_18.toInt ≤ 60 from t9) (show 0 ≤ f9_3__f0__toInt_toNat.toInt from r11) (show f9_3__f0__toInt_toNat.toInt ≤ 300 from t12) (show 3 * f9_3__f0__toInt_toNat.toInt + 11 ≤ 3 * f2_.toInt + 14 * (f9_0_18.toInt - f1_.toInt) by omega) (show f1_.toInt + 1 ≤ f9_0_18.toInt by omega) (show f9_3__f0__toInt_toNat.toInt ≤ 300 from t12)  hw hT hF (OKW_cast hO (show gd + 1 = gd + 1 from rfl)) c280 c267 c281 c282 c283 hM (lv_sub hl [0] rfl)
          · replace hM := hM.call (r' := (-1)) hv279 (by decide)
            have ex270 : x270.toInt = f9_0_1.toInt := by rw [← c280.symm.trans c271]
            have g274 : (x272.toInt = x237.toInt ∨ (gi w231 1 (x237.toInt).toNat).toInt = 32) := by have q := g274; simp only [c252, c281, c238, c273] at q; first | with_reducible exact q | omega
            refine lv_bipush (v := 45) hx hb dX12_sum_22 (by decide) ?_
            refine lv_icmp_ne (tgt := 75) hx hb dX12_sum_24 (by decide) (fun _ => ?_) (fun c => absurd c (by decide))
            replace hM := hM.pos (by decide)
            refine lv_iconst (v := 1) hx hb dX12_sum_75 (by decide) ?_
            exact tk_zret hC hr rfl hlocks hK ⟨hT, hF, hM.ret (by decide), (Or.inr (Or.inr (Or.inl ⟨rfl, ⟨f9_0_1, c280, (show 1 ≤ f9_0_1.toInt by first | with_reducible assumption | omega), (show f9_0_1.toInt ≤ 400 from t3)⟩, ⟨f0_, c281, (show 0 ≤ f0_.toInt from r5), (show f0_.toInt ≤ 5 from t6)⟩, ⟨f9_0_18, c282, (show 1 ≤ f9_0_18.toInt from r8), (show f9_0_18.toInt ≤ 60 from t9)⟩, (OKW_cast hO (by omega)), (by simp only [c281, cf0_, cf2_, c283, cf1_, c282]; omega), (by simp only [c281, cf0_, cf1_, c282]; omega)⟩)))⟩ hw dX12_sum_76
          · replace hM := hM.call (r' := (-1)) hv279 (by decide)
            have ex275 : x275.toInt = f9_0_1.toInt := by rw [← c280.symm.trans c276]
            obtain ⟨x284, c285, rx284, tx284⟩ := hT.rdi (lo := 0) (hi := 400) (k := 14) kM_at0 (by decide) rfl
            have g277 : (x284.toInt = x237.toInt ∨ (gi w231 1 (x237.toInt).toNat).toInt = 32) := by have q := g277; simp only [c252, c281, c238, c285] at q; first | with_reducible exact q | omega
            refine lv_bipush (v := 45) hx hb dX12_sum_22 (by decide) ?_
            refine lv_icmp_ne (tgt := 75) hx hb dX12_sum_24 (by decide) (fun _ => ?_) (fun c => absurd c (by decide))
            replace hM := hM.pos (by decide)
            refine lv_iconst (v := 1) hx hb dX12_sum_75 (by decide) ?_
            exact tk_zret hC hr rfl hlocks hK ⟨hT, hF, hM.ret (by decide), (Or.inr (Or.inr (Or.inl ⟨rfl, ⟨f9_0_1, c280, (show 1 ≤ f9_0_1.toInt by first | with_reducible assumption | omega), (show f9_0_1.toInt ≤ 400 from t3)⟩, ⟨f0_, c281, (show 0 ≤ f0_.toInt from r5), (show f0_.toInt ≤ 5 from t6)⟩, ⟨f9_0_18, c282, (show 1 ≤ f9_0_18.toInt from r8), (show f9_0_18.toInt ≤ 60 from t9)⟩, (OKW_cast hO (by omega)), (by simp only [c281, cf0_, cf2_, c283, cf1_, c282]; omega), (by simp only [c281, cf0_, cf1_, c282]; omega)⟩)))⟩ hw dX12_sum_76
      · replace hM := hM.call (r' := (-1)) hv250 (by decide)
        have ex241 : x241.toInt = f9_0_1.toInt := by rw [← c251.symm.trans c242]
        have g245 : (x243.toInt = x227.toInt ∨ (gi w1 1 (x227.toInt).toNat).toInt = 32) := by have q := g245; simp only [c7, c252, c228, c244] at q; first | with_reducible exact q | omega
        refine lv_bipush (v := 43) hx hb dX12_sum_13 (by decide) ?_
        refine lv_icmp_eq (tgt := 27) hx hb dX12_sum_15 (by decide) (fun c => absurd c (by decide)) (fun _ => ?_)
        replace hM := hM.neg (by decide)
        refine lv_aload_n hx hb dX12_sum_18 rfl (lv_at hl 0 rfl) ?_
        refine tk_Vi hC hK hw hT hA hE hSR kM_at0 (by decide) rfl (kz_X12_see_1 l adK adV dC dI cy ad B hB0 (Int.le_trans hB1 (by decide)) qr s1    w231 H.size hT x243 c244 (show 0 ≤ x243.toInt by first | with_reducible assumption | omega) (show x243.toInt ≤ 400 by first | with_reducible assumption | omega)) (cwV 0 hC.2.2.2.2 uV_RX12_97 rfl rfl rfl (by decide +kernel) ⟨Nat.le_of_ble_eq_true rfl, Nat.le_of_ble_eq_true rfl⟩) rfl hl.1 rfl (Nat.le_of_ble_eq_true rfl) dX12_sum_19 (fun r287 w289 H locs hp288 hw => ?_)
        obtain ⟨hT, k290, hv308, hg307⟩ := hp288
        have hO := OKW_FE k290 (fun _ => rfl) (fun _ => rfl) (fun _ => rfl) (fun _ => rfl) hO
        have hF := hF.tr k290 (by decide)
        have c309 := k290.gi kM_at0 (by decide) c251
        have c310 := k290.gi kM_at0 (by decide) c252
        have c311 := k290.gi kM_at0 (by decide) c253
        have c312 := k290.gi kM_at3 rfl c254
        rcases hg307 with ⟨g291, g292, ⟨x293, c294, rx293, tx293⟩, ⟨x295, c296, rx295, tx295⟩, g297, g298⟩ | ⟨rfl, ⟨x299, c300, rx299, tx299⟩, ⟨x301, c302, rx301, tx301⟩, g303⟩ | ⟨rfl, ⟨x304, c305, rx304, tx304⟩, g306⟩
        · replace hM := hM.call hv308 rfl
          have ex293 : x293.toInt = f9_0_1.toInt := by rw [← c309.symm.trans c294]
          have g297 : (gi w289 1 (x295.toInt).toNat).toInt ≠ 32 := by have q := g297; simp only [c252, c310, c296] at q; first | with_reducible exact q | omega
          have g298 : (x295.toInt = x243.toInt ∨ (gi w231 1 (x243.toInt).toNat).toInt = 32) := by have q := g298; simp only [c252, c310, c244, c296] at q; first | with_reducible exact q | omega
          refine lv_bipush (v := 45) hx hb dX12_sum_22 (by decide) ?_
          refine lv_icmp_ne (tgt := 75) hx hb dX12_sum_24 (by decide) (fun c315 => ?_) (fun c315 => ?_)
          · have c315 : ¬ r287.toInt = (45 : Int) := wk_eqF c315
            replace hM := hM.pos c315
            refine lv_iconst (v := 1) hx hb dX12_sum_75 (by decide) ?_
            exact tk_zret hC hr rfl hlocks hK ⟨hT, hF, hM.ret (by decide), (Or.inr (Or.inr (Or.inl ⟨rfl, ⟨f9_0_1, c309, (show 1 ≤ f9_0_1.toInt by first | with_reducible assumption | omega), (show f9_0_1.toInt ≤ 400 from t3)⟩, ⟨f0_, c310, (show 0 ≤ f0_.toInt from r5), (show f0_.toInt ≤ 5 from t6)⟩, ⟨f9_0_18, c311, (show 1 ≤ f9_0_18.toInt from r8), (show f9_0_18.toInt ≤ 60 from t9)⟩, (OKW_cast hO (by omega)), (by simp only [c310, cf0_, cf2_, c312, cf1_, c311]; omega), (by simp only [c310, cf0_, cf1_, c311]; omega)⟩)))⟩ hw dX12_sum_76
          · have c315 : r287.toInt = (45 : Int) := wk_eq.mp c315
            replace hM := hM.neg (fun q => q c315)
            exact J27 x295 H locs ls w289 (show 1 ≤ f9_0_1.toInt by first | with_reducible assumption | omega) (show f9_0_1.toInt ≤ 400 from t3) (show 0 ≤ x295.toInt by first | with_reducible assumption | omega) (show x295.toInt ≤ 399 by first | with_reducible assumption | omega) (show 0 ≤ f0_.toInt from r5) (show f0_.toInt ≤ 5 from t6) (show 1 ≤ f9_0_18.toInt from r8) (show f9_0_18.toInt ≤ 60 from t9) (show 0 ≤ f9_3__f0__toInt_toNat.toInt from r11) (show f9_3__f0__toInt_toNat.toInt ≤ 300 from t12) (show 3 * f9_3__f0__toInt_toNat.toInt + 11 ≤ 3 * f2_.toInt + 14 * (f9_0_18.toInt - f1_.toInt) by omega) (show f1_.toInt + 1 ≤ f9_0_18.toInt by omega) (show f9_3__f0__toInt_toNat.toInt ≤ 300 from t12)  hw hT hF (OKW_cast hO (show gd + 1 = gd + 1 from rfl)) c309 c296 c310 c311 c312 hM (lv_sub hl [0] rfl)
        · replace hM := hM.call (r' := (-1)) hv308 (by decide)
          have ex299 : x299.toInt = f9_0_1.toInt := by rw [← c309.symm.trans c300]
          have g303 : (x301.toInt = x243.toInt ∨ (gi w231 1 (x243.toInt).toNat).toInt = 32) := by have q := g303; simp only [c252, c310, c244, c302] at q; first | with_reducible exact q | omega
          refine lv_bipush (v := 45) hx hb dX12_sum_22 (by decide) ?_
          refine lv_icmp_ne (tgt := 75) hx hb dX12_sum_24 (by decide) (fun _ => ?_) (fun c => absurd c (by decide))
          replace hM := hM.pos (by decide)
          refine lv_iconst (v := 1) hx hb dX12_sum_75 (by decide) ?_
          exact tk_zret hC hr rfl hlocks hK ⟨hT, hF, hM.ret (by decide), (Or.inr (Or.inr (Or.inl ⟨rfl, ⟨f9_0_1, c309, (show 1 ≤ f9_0_1.toInt by first | with_reducible assumption | omega), (show f9_0_1.toInt ≤ 400 from t3)⟩, ⟨f0_, c310, (show 0 ≤ f0_.toInt from r5), (show f0_.toInt ≤ 5 from t6)⟩, ⟨f9_0_18, c311, (show 1 ≤ f9_0_18.toInt from r8), (show f9_0_18.toInt ≤ 60 from t9)⟩, (OKW_cast hO (by omega)), (by simp only [c310, cf0_, cf2_, c312, cf1_, c311]; omega), (by simp only [c310, cf0_, cf1_, c311]; omega)⟩)))⟩ hw dX12_sum_76
        · replace hM := hM.call (r' := (-1)) hv308 (by decide)
          have ex304 : x304.toInt = f9_0_1.toInt := by rw [← c309.symm.trans c305]
          obtain ⟨x313, c314, rx313, tx313⟩ := hT.rdi (lo := 0) (hi := 400) (k := 14) kM_at0 (by decide) rfl
          have g306 : (x313.toInt = x243.toInt ∨ (gi w231 1 (x243.toInt).toNat).toInt = 32) := by have q := g306; simp only [c252, c310, c244, c314] at q; first | with_reducible exact q | omega
          refine lv_bipush (v := 45) hx hb dX12_sum_22 (by decide) ?_
          refine lv_icmp_ne (tgt := 75) hx hb dX12_sum_24 (by decide) (fun _ => ?_) (fun c => absurd c (by decide))
          replace hM := hM.pos (by decide)
          refine lv_iconst (v := 1) hx hb dX12_sum_75 (by decide) ?_
          exact tk_zret hC hr rfl hlocks hK ⟨hT, hF, hM.ret (by decide), (Or.inr (Or.inr (Or.inl ⟨rfl, ⟨f9_0_1, c309, (show 1 ≤ f9_0_1.toInt by first | with_reducible assumption | omega), (show f9_0_1.toInt ≤ 400 from t3)⟩, ⟨f0_, c310, (show 0 ≤ f0_.toInt from r5), (show f0_.toInt ≤ 5 from t6)⟩, ⟨f9_0_18, c311, (show 1 ≤ f9_0_18.toInt from r8), (show f9_0_18.toInt ≤ 60 from t9)⟩, (OKW_cast hO (by omega)), (by simp only [c310, cf0_, cf2_, c312, cf1_, c311]; omega), (by simp only [c310, cf0_, cf1_, c311]; omega)⟩)))⟩ hw dX12_sum_76
      · replace hM := hM.call (r' := (-1)) hv250 (by decide)
        have ex246 : x246.toInt = f9_0_1.toInt := by rw [← c251.symm.trans c247]
        obtain ⟨x255, c256, rx255, tx255⟩ := hT.rdi (lo := 0) (hi := 400) (k := 14) kM_at0 (by decide) rfl
        have g248 : (x255.toInt = x227.toInt ∨ (gi w1 1 (x227.toInt).toNat).toInt = 32) := by have q := g248; simp only [c7, c252, c228, c256] at q; first | with_reducible exact q | omega
        refine lv_bipush (v := 43) hx hb dX12_sum_13 (by decide) ?_
        refine lv_icmp_eq (tgt := 27) hx hb dX12_sum_15 (by decide) (fun c => absurd c (by decide)) (fun _ => ?_)
        replace hM := hM.neg (by decide)
        refine lv_aload_n hx hb dX12_sum_18 rfl (lv_at hl 0 rfl) ?_
        refine tk_Vi hC hK hw hT hA hE hSR kM_at0 (by decide) rfl (kz_X12_see_1 l adK adV dC dI cy ad B hB0 (Int.le_trans hB1 (by decide)) qr s1    w231 H.size hT x255 c256 (show 0 ≤ x255.toInt by first | with_reducible assumption | omega) (show x255.toInt ≤ 400 by first | with_reducible assumption | omega)) (cwV 0 hC.2.2.2.2 uV_RX12_97 rfl rfl rfl (by decide +kernel) ⟨Nat.le_of_ble_eq_true rfl, Nat.le_of_ble_eq_true rfl⟩) rfl hl.1 rfl (Nat.le_of_ble_eq_true rfl) dX12_sum_19 (fun r316 w318 H locs hp317 hw => ?_)
        obtain ⟨hT, k319, hv337, hg336⟩ := hp317
        have hO := OKW_FE k319 (fun _ => rfl) (fun _ => rfl) (fun _ => rfl) (fun _ => rfl) hO
        have hF := hF.tr k319 (by decide)
        have c338 := k319.gi kM_at0 (by decide) c251
        have c339 := k319.gi kM_at0 (by decide) c252
        have c340 := k319.gi kM_at0 (by decide) c253
        have c341 := k319.gi kM_at3 rfl c254
        rcases hg336 with ⟨g320, g321, ⟨x322, c323, rx322, tx322⟩, ⟨x324, c325, rx324, tx324⟩, g326, g327⟩ | ⟨rfl, ⟨x328, c329, rx328, tx328⟩, ⟨x330, c331, rx330, tx330⟩, g332⟩ | ⟨rfl, ⟨x333, c334, rx333, tx333⟩, g335⟩
        · replace hM := hM.call hv337 rfl
          have ex322 : x322.toInt = f9_0_1.toInt := by rw [← c338.symm.trans c323]
          have g326 : (gi w318 1 (x324.toInt).toNat).toInt ≠ 32 := by have q := g326; simp only [c252, c339, c325] at q; first | with_reducible exact q | omega
          have g327 : (x324.toInt = x255.toInt ∨ (gi w231 1 (x255.toInt).toNat).toInt = 32) := by have q := g327; simp only [c252, c339, c256, c325] at q; first | with_reducible exact q | omega
          refine lv_bipush (v := 45) hx hb dX12_sum_22 (by decide) ?_
          refine lv_icmp_ne (tgt := 75) hx hb dX12_sum_24 (by decide) (fun c344 => ?_) (fun c344 => ?_)
          · have c344 : ¬ r316.toInt = (45 : Int) := wk_eqF c344
            replace hM := hM.pos c344
            refine lv_iconst (v := 1) hx hb dX12_sum_75 (by decide) ?_
            exact tk_zret hC hr rfl hlocks hK ⟨hT, hF, hM.ret (by decide), (Or.inr (Or.inr (Or.inl ⟨rfl, ⟨f9_0_1, c338, (show 1 ≤ f9_0_1.toInt by first | with_reducible assumption | omega), (show f9_0_1.toInt ≤ 400 from t3)⟩, ⟨f0_, c339, (show 0 ≤ f0_.toInt from r5), (show f0_.toInt ≤ 5 from t6)⟩, ⟨f9_0_18, c340, (show 1 ≤ f9_0_18.toInt from r8), (show f9_0_18.toInt ≤ 60 from t9)⟩, (OKW_cast hO (by omega)), (by simp only [c339, cf0_, cf2_, c341, cf1_, c340]; omega), (by simp only [c339, cf0_, cf1_, c340]; omega)⟩)))⟩ hw dX12_sum_76
          · have c344 : r316.toInt = (45 : Int) := wk_eq.mp c344
            replace hM := hM.neg (fun q => q c344)
            exact J27 x324 H locs ls w318 (show 1 ≤ f9_0_1.toInt by first | with_reducible assumption | omega) (show f9_0_1.toInt ≤ 400 from t3) (show 0 ≤ x324.toInt by first | with_reducible assumption | omega) (show x324.toInt ≤ 399 by first | with_reducible assumption | omega) (show 0 ≤ f0_.toInt from r5) (show f0_.toInt ≤ 5 from t6) (show 1 ≤ f9_0_18.toInt from r8) (show f9_0_18.toInt ≤ 60 from t9) (show 0 ≤ f9_3__f0__toInt_toNat.toInt from r11) (show f9_3__f0__toInt_toNat.toInt ≤ 300 from t12) (show 3 * f9_3__f0__toInt_toNat.toInt + 11 ≤ 3 * f2_.toInt + 14 * (f9_0_18.toInt - f1_.toInt) by omega) (show f1_.toInt + 1 ≤ f9_0_18.toInt by omega) (show f9_3__f0__toInt_toNat.toInt ≤ 300 from t12)  hw hT hF (OKW_cast hO (show gd + 1 = gd + 1 from rfl)) c338 c325 c339 c340 c341 hM (lv_sub hl [0] rfl)
        · replace hM := hM.call (r' := (-1)) hv337 (by decide)
          have ex328 : x328.toInt = f9_0_1.toInt := by rw [← c338.symm.trans c329]
          have g332 : (x330.toInt = x255.toInt ∨ (gi w231 1 (x255.toInt).toNat).toInt = 32) := by have q := g332; simp only [c252, c339, c256, c331] at q; first | with_reducible exact q | omega
          refine lv_bipush (v := 45) hx hb dX12_sum_22 (by decide) ?_
          refine lv_icmp_ne (tgt := 75) hx hb dX12_sum_24 (by decide) (fun _ => ?_) (fun c => absurd c (by decide))
          replace hM := hM.pos (by decide)
          refine lv_iconst (v := 1) hx hb dX12_sum_75 (by decide) ?_
          exact tk_zret hC hr rfl hlocks hK ⟨hT, hF, hM.ret (by decide), (Or.inr (Or.inr (Or.inl ⟨rfl, ⟨f9_0_1, c338, (show 1 ≤ f9_0_1.toInt by first | with_reducible assumption | omega), (show f9_0_1.toInt ≤ 400 from t3)⟩, ⟨f0_, c339, (show 0 ≤ f0_.toInt from r5), (show f0_.toInt ≤ 5 from t6)⟩, ⟨f9_0_18, c340, (show 1 ≤ f9_0_18.toInt from r8), (show f9_0_18.toInt ≤ 60 from t9)⟩, (OKW_cast hO (by omega)), (by simp only [c339, cf0_, cf2_, c341, cf1_, c340]; omega), (by simp only [c339, cf0_, cf1_, c340]; omega)⟩)))⟩ hw dX12_sum_76
        · replace hM := hM.call (r' := (-1)) hv337 (by decide)
          have ex333 : x333.toInt = f9_0_1.toInt := by rw [← c338.symm.trans c334]
          obtain ⟨x342, c343, rx342, tx342⟩ := hT.rdi (lo := 0) (hi := 400) (k := 14) kM_at0 (by decide) rfl
          have g335 : (x342.toInt = x255.toInt ∨ (gi w231 1 (x255.toInt).toNat).toInt = 32) := by have q := g335; simp only [c252, c339, c256, c343] at q; first | with_reducible exact q | omega
          refine lv_bipush (v := 45) hx hb dX12_sum_22 (by decide) ?_
          refine lv_icmp_ne (tgt := 75) hx hb dX12_sum_24 (by decide) (fun _ => ?_) (fun c => absurd c (by decide))
          replace hM := hM.pos (by decide)
          refine lv_iconst (v := 1) hx hb dX12_sum_75 (by decide) ?_
          exact tk_zret hC hr rfl hlocks hK ⟨hT, hF, hM.ret (by decide), (Or.inr (Or.inr (Or.inr ⟨rfl, ⟨f9_0_1, c338, (show 0 ≤ f9_0_1.toInt from r2), (show f9_0_1.toInt ≤ 400 from t3)⟩, ⟨f0_, c339, (show 0 ≤ f0_.toInt from r5), (show f0_.toInt ≤ 5 from t6)⟩, ⟨f9_0_18, c340, (show 1 ≤ f9_0_18.toInt from r8), (show f9_0_18.toInt ≤ 60 from t9)⟩, (OKW_cast hO (by omega)), (by simp only [c339, cf0_, cf2_, c341, cf1_, c340]; omega), (by simp only [c339, cf0_, cf1_, c340]; omega)⟩)))⟩ hw dX12_sum_76
  have hM : TT (fun n => m_X12_sum n 0 (sI w0)) (fun n => m_X12_sum n 0 (sI w0)) := TT.rf
  refine lv_aload_n hx hb dX12_sum_0 rfl (lv_at hl 0 rfl) ?_
  refine tk_Vi hC hK hw hT hA hE hSR kM_at0 (by decide) rfl (kz_X12_term_1 l adK adV dC dI cy ad B hB0 (Int.le_trans hB1 (by decide)) qr s1    w0 s.heap.size hT f0_ cf0_ (show 0 ≤ f0_.toInt from rf0_) (show f0_.toInt ≤ 5 from tf0_) f1_ cf1_ (show 0 ≤ f1_.toInt from rf1_) (show f1_.toInt ≤ 60 from tf1_) f2_ cf2_ (show 0 ≤ f2_.toInt from rf2_) (show f2_.toInt ≤ 400 from tf2_) (show 3 * f2_.toInt ≤ 14 * f1_.toInt + 60 from pr0_) (show f2_.toInt ≤ 300 from pr1_) gb (gd) (by omega) (by omega) (OKW_cast hO (show gd = gd from rfl))) (cwV 0 hC.2.2.2.2 uV_RX12_180 rfl rfl rfl (by decide +kernel) ⟨Nat.le_of_ble_eq_true rfl, Nat.le_of_ble_eq_true rfl⟩) rfl hl.1 rfl (Nat.le_of_ble_eq_true rfl) dX12_sum_1 (fun r345 w347 H locs hp346 hw => ?_)
  obtain ⟨hT, k348, hv382, hg381⟩ := hp346
  have hF := hF.tr k348 (by decide)
  have c383 := k348.gi kM_at0 (by decide) cf0_
  rcases hg381 with ⟨rfl, ⟨x349, c350, rx349, tx349⟩, ⟨x351, c352, rx351, tx351⟩, ⟨x353, c354, rx353, tx353⟩, hq355⟩ | ⟨rfl, ⟨x356, c357, rx356, tx356⟩, ⟨x358, c359, rx358, tx358⟩, ⟨x360, c361, rx360, tx360⟩, hq362⟩ | ⟨rfl, ⟨x363, c364, rx363, tx363⟩, ⟨x365, c366, rx365, tx365⟩, ⟨x367, c368, rx367, tx367⟩, hq369, g370, g371⟩ | ⟨rfl, ⟨x372, c373, rx372, tx372⟩, ⟨x374, c375, rx374, tx374⟩, ⟨x376, c377, rx376, tx376⟩, hq378, g379, g380⟩
  · replace hM := hM.call (r' := 0) hv382 (by decide)
    have ex353 : x353.toInt = f0_.toInt := by rw [← c383.symm.trans c354]
    obtain ⟨x384, c385, rx384, tx384⟩ := hT.rda (lo := 0) (hi := 400) (i := (f0_.toInt).toNat) kM_at3 rfl rfl (by omega)
    obtain ⟨x386, c387, rx386, tx386⟩ := hT.rdi (lo := 0) (hi := 60) (k := 18) kM_at0 (by decide) rfl
    have hR := hq355
    refine lv_if_ne (tgt := 9) hx hb dX12_sum_4 (by decide) (fun c => absurd (by decide) c) (fun _ => ?_)
    replace hM := hM.neg (by decide)
    refine lv_iconst (v := 0) hx hb dX12_sum_7 (by decide) ?_
    exact tk_zret hC hr rfl hlocks hK ⟨hT, hF, hM.ret (by decide), (Or.inl ⟨rfl, ⟨x349, c350, (show 1 ≤ x349.toInt by first | with_reducible assumption | omega), (show x349.toInt ≤ 400 by first | with_reducible assumption | omega)⟩, ⟨x351, c352, (show 1 ≤ x351.toInt by first | with_reducible assumption | omega), (show x351.toInt ≤ 3205 by first | with_reducible assumption | omega)⟩, ⟨f0_, c383, (show 0 ≤ f0_.toInt from rf0_), (show f0_.toInt ≤ 5 from tf0_)⟩, hR⟩)⟩ hw dX12_sum_8
  · replace hM := hM.call (r' := 0) hv382 (by decide)
    have ex360 : x360.toInt = f0_.toInt := by rw [← c383.symm.trans c361]
    obtain ⟨x388, c389, rx388, tx388⟩ := hT.rda (lo := 0) (hi := 400) (i := (f0_.toInt).toNat) kM_at3 rfl rfl (by omega)
    obtain ⟨x390, c391, rx390, tx390⟩ := hT.rdi (lo := 0) (hi := 60) (k := 18) kM_at0 (by decide) rfl
    have hR := hq362
    refine lv_if_ne (tgt := 9) hx hb dX12_sum_4 (by decide) (fun c => absurd (by decide) c) (fun _ => ?_)
    replace hM := hM.neg (by decide)
    refine lv_iconst (v := 0) hx hb dX12_sum_7 (by decide) ?_
    exact tk_zret hC hr rfl hlocks hK ⟨hT, hF, hM.ret (by decide), (Or.inr (Or.inl ⟨rfl, ⟨x356, c357, (show 0 ≤ x356.toInt by first | with_reducible assumption | omega), (show x356.toInt ≤ 400 by first | with_reducible assumption | omega)⟩, ⟨x358, c359, (show 1 ≤ x358.toInt by first | with_reducible assumption | omega), (show x358.toInt ≤ 3205 by first | with_reducible assumption | omega)⟩, ⟨f0_, c383, (show 0 ≤ f0_.toInt from rf0_), (show f0_.toInt ≤ 5 from tf0_)⟩, hR⟩))⟩ hw dX12_sum_8
  · replace hM := hM.call (r' := 1) hv382 (by decide)
    have ex365 : x365.toInt = f0_.toInt := by rw [← c383.symm.trans c366]
    obtain ⟨x392, c393, rx392, tx392⟩ := hT.rda (lo := 0) (hi := 400) (i := (f0_.toInt).toNat) kM_at3 rfl rfl (by omega)
    have g370 : 3 * x392.toInt + 11 ≤ 3 * f2_.toInt + 14 * (x367.toInt - f1_.toInt) := by have q := g370; simp only [cf0_, c383, cf2_, c393, cf1_, c368] at q; first | with_reducible exact q | omega
    have g371 : f1_.toInt + 1 ≤ x367.toInt := by have q := g371; simp only [cf0_, c383, cf1_, c368] at q; first | with_reducible exact q | omega
    have hO : OKW w347 f0_.toInt gb ((gd) + 1) := by have q := hq369; exact OKW_cast q (by omega)
    refine lv_if_ne (tgt := 9) hx hb dX12_sum_4 (by decide) (fun _ => ?_) (fun c => absurd c (by decide))
    replace hM := hM.pos (by decide)
    exact L9 ((60 - x367.toInt).toNat + 1) x363 x367 x392 H locs ls w347 (show 0 ≤ x363.toInt by first | with_reducible assumption | omega) (show x363.toInt ≤ 400 by first | with_reducible assumption | omega) (show 0 ≤ f0_.toInt from rf0_) (show f0_.toInt ≤ 5 from tf0_) (show 1 ≤ x367.toInt by first | with_reducible assumption | omega) (show x367.toInt ≤ 60 by first | with_reducible assumption | omega) (show 0 ≤ x392.toInt by first | with_reducible assumption | omega) (show x392.toInt ≤ 300 by first | with_reducible assumption | omega) (show 3 * x392.toInt + 11 ≤ 3 * f2_.toInt + 14 * (x367.toInt - f1_.toInt) from g370) (show f1_.toInt + 1 ≤ x367.toInt from g371) (show x392.toInt ≤ 300 by first | with_reducible assumption | omega) (Nat.lt_succ_self _) hw hT hF (OKW_cast hO (show (gd) + 1 = gd + 1 by first | exact Int.le_antisymm (by omega) (by omega) | omega)) c364 c383 c368 c393 hM (lv_sub hl [0] rfl)
  · replace hM := hM.call (r' := 1) hv382 (by decide)
    have ex374 : x374.toInt = f0_.toInt := by rw [← c383.symm.trans c375]
    obtain ⟨x394, c395, rx394, tx394⟩ := hT.rda (lo := 0) (hi := 400) (i := (f0_.toInt).toNat) kM_at3 rfl rfl (by omega)
    have g379 : 3 * x394.toInt + 11 ≤ 3 * f2_.toInt + 14 * (x376.toInt - f1_.toInt) := by have q := g379; simp only [cf0_, c383, cf2_, c395, cf1_, c377] at q; first | with_reducible exact q | omega
    have g380 : f1_.toInt + 1 ≤ x376.toInt := by have q := g380; simp only [cf0_, c383, cf1_, c377] at q; first | with_reducible exact q | omega
    have hO : OKW w347 f0_.toInt gb ((gd) + 1) := by have q := hq378; exact OKW_cast q (by omega)
    refine lv_if_ne (tgt := 9) hx hb dX12_sum_4 (by decide) (fun _ => ?_) (fun c => absurd c (by decide))
    replace hM := hM.pos (by decide)
    exact L9 ((60 - x376.toInt).toNat + 1) x372 x376 x394 H locs ls w347 (show 0 ≤ x372.toInt by first | with_reducible assumption | omega) (show x372.toInt ≤ 400 by first | with_reducible assumption | omega) (show 0 ≤ f0_.toInt from rf0_) (show f0_.toInt ≤ 5 from tf0_) (show 1 ≤ x376.toInt by first | with_reducible assumption | omega) (show x376.toInt ≤ 60 by first | with_reducible assumption | omega) (show 0 ≤ x394.toInt by first | with_reducible assumption | omega) (show x394.toInt ≤ 300 by first | with_reducible assumption | omega) (show 3 * x394.toInt + 11 ≤ 3 * f2_.toInt + 14 * (x376.toInt - f1_.toInt) from g379) (show f1_.toInt + 1 ≤ x376.toInt from g380) (show x394.toInt ≤ 300 by first | with_reducible assumption | omega) (Nat.lt_succ_self _) hw hT hF (OKW_cast hO (show (gd) + 1 = gd + 1 by first | exact Int.le_antisymm (by omega) (by omega) | omega)) c373 c383 c377 c395 hM (lv_sub hl [0] rfl)
abbrev Pz_X12_makes_4 (ad : Nat → Nat) (cy : Nat → ClassId) (B : Int) (qr : Nat) (s1 : Int) (a1 : Int32) (w0 : va_W) : Int32 → va_W → Prop := fun r u => TW ksM ad cy B qr 12 u ∧ FE ksM [(12, 15, 15), (12, 18, 18)] w0 u ∧ Ev (fun n => m_X12_makes n 0 a1.toInt (sI w0)) (r.toInt, sI u) ∧ ((r = 0 ∧ (∃ y : Int32, gi u 0 15 = y ∧ 1 ≤ y.toInt ∧ y.toInt ≤ 3205) ∧ (∃ y : Int32, gi u 0 18 = y ∧ 60 ≤ y.toInt ∧ y.toInt ≤ 60)) ∨ (r = 1 ∧ (∃ y : Int32, gi u 0 18 = y ∧ 1 ≤ y.toInt ∧ y.toInt ≤ 60) ∧ ((gi u 0 18).toInt = (gi w0 0 18).toInt + 1)))
set_option maxHeartbeats 4000000 in
set_option maxRecDepth 100000 in
theorem kz_X12_makes_4 (l : Launch) (adK adV : Nat → Nat) (dC : Nat → ClassId) (dI : Nat → Nat → Nat) (cy : Nat → ClassId) (ad : Nat → Nat) (B : Int) (hB0 : 100000 ≤ B) (hB1 : B ≤ 1073741824) (qr : Nat) (s1 : Int)  (a1 : Int32) (ra1 : 0 ≤ a1.toInt) (ta1 : a1.toInt ≤ 398) (w0 : va_W) (sz : Nat) (hT : TW ksM ad cy B qr 12 w0) (f0_ : Int32) (cf0_ : gi w0 0 18 = f0_) (rf0_ : 0 ≤ f0_.toInt) (tf0_ : f0_.toInt ≤ 60) : Met l yX12_makes (wu yX12_makes cX12_makes 2 (some .boolean)) ({ frames := 2, cells := 0, slots := 0, locals := 34 }) (va_Pc [.ref (ad 0), .int a1] (wpreS adK adV dC dI cy sz w0)) (va_Qi (Pz_X12_makes_4 ad cy B qr s1 a1 w0) (fun u : va_W => wpost dC dI cy (va_A w0 sz) u) (va_A w0 sz)) 0 0 (va_A w0 sz) := by
  refine Met.ofW (cc := cX12_makes) (maxL := 2) (ret := (some .boolean)) (by decide) rfl ?_
  intro p e s m args below meth c s₁ Bk hml hv
  obtain ⟨rfl, ⟨hsz, hP, hK, hD0⟩, hE, hSR⟩ := hv
  have hx := Bk.exec
  have hb := Bk.bytes
  have hr := Bk.returns
  have hlocks := Bk.notSynchronized
  have hC : CallFix p m c cX12_makes 2 s _ (wu yX12_makes cX12_makes 2 (some .boolean)) RX12 := ⟨hx, hb, hml, findClass_of_methodNamed Bk.named, atoms_spec (ws := (wu yX12_makes cX12_makes 2 (some .boolean))) Bk.pre⟩
  subst hsz
  have hD := hD0.self (sz := s.heap.size)
  generalize hAe : va_A w0 s.heap.size = A at hD hE ⊢
  have hA : ∀ q : Nat, s.heap.size ≤ q → A q := fun q h => by rw [← hAe]; exact Or.inr h
  have hw : Wd dC dI A s.heap s.heap [] w0 := ⟨hP, hD, va_S.rf⟩
  have hF : FE ksM [(12, 15, 15), (12, 18, 18)] w0 w0 := FE.rf
  have hl := lv_entry ([.ref (ad 0), .int a1]) (n := 2) (Nat.le_of_ble_eq_true rfl)
  rw [lg_entry_eq]
  generalize (lg_sl ([.ref (ad 0), .int a1]) ++ List.replicate (2 - (lg_sl ([.ref (ad 0), .int a1])).length) Slot.unset).toArray = ls at hl ⊢
  have hl : lv_has ls 2 [(0, .ref (ad 0)), (1, .int a1)] := hl
  generalize hloc : ([] : List Loc) = locs at hw ⊢
  have hinX12 : ∀ w ∈ u_ws RX12 TX12 42, w ∈ (wu yX12_makes cX12_makes 2 (some .boolean)) := fun _ h => List.mem_cons_of_mem _ (up_71 h)
  have hM : TT (fun n => m_X12_makes n 0 a1.toInt (sI w0)) (fun n => m_X12_makes n 0 a1.toInt (sI w0)) := TT.rf
  refine lv_aload_n hx hb dX12_makes_0 rfl (lv_at hl 0 rfl) ?_
  refine tk_geti hC hK hw hT hinX12 kM_at0 (by decide) rfl 18 (by decide) (List.mem_cons_of_mem _ uw_19_19) rfl rfl dX12_makes_1 (fun x1 c2 rx1 tx1 => ?_)
  refine wk_top f0_ (c2.symm.trans cf0_) ?_
  replace hM := hM.rd (sI_at cf0_)
  refine lv_bipush (v := 60) hx hb dX12_makes_4 (by decide) ?_
  refine lv_icmp_ne (tgt := 16) hx hb dX12_makes_6 (by decide) (fun c3 => ?_) (fun c3 => ?_)
  · have c3 : ¬ f0_.toInt = (60 : Int) := wk_eqF c3
    replace hM := hM.pos c3
    refine lv_aload_n hx hb dX12_makes_16 rfl (lv_at hl 0 rfl) ?_
    refine lv_dup hx hb dX12_makes_17 rfl ?_
    refine tk_geti hC hK hw hT hinX12 kM_at0 (by decide) rfl 18 (by decide) (List.mem_cons_of_mem _ uw_19_19) rfl rfl dX12_makes_18 (fun x4 c5 rx4 tx4 => ?_)
    refine wk_top f0_ (c5.symm.trans cf0_) ?_
    replace hM := hM.rd (sI_at cf0_)
    refine lv_iconst (v := 1) hx hb dX12_makes_21 (by decide) ?_
    refine lv_iadd hx hb dX12_makes_22 ?_
    refine lv_topi (fun x6 ex6 => ?_)
    have ezx6 := ex6
    have ex6 : x6.toInt = f0_.toInt + (1 : Int) := by rw [ex6]; exact wk_add (show (-2147483648) ≤ f0_.toInt + (1 : Int) by omega) (show f0_.toInt + (1 : Int) ≤ 2147483647 by omega)
    replace hM := hM.lt ex6.symm
    refine tk_puti hC hK hw hT hinX12 tyX12_ok nmX12 kM_at0 (by decide) rfl rfl 18 (by decide) (List.mem_cons_of_mem _ uw_19_19) rfl rfl rfl rfl (show 0 ≤ x6.toInt by first | with_reducible assumption | omega) (show x6.toInt ≤ 60 by first | with_reducible assumption | omega) dX12_makes_23 (fun H locs w7 hw hT k9 c8 => ?_)
    replace hM := hM.wr (sI_up k9 c8)
    have hF := hF.put kM_at0 (k := 18) (by decide) k9
    refine lv_iconst (v := 1) hx hb dX12_makes_26 (by decide) ?_
    exact tk_zret hC hr rfl hlocks hK ⟨hT, hF, hM.ret (by decide), (Or.inr ⟨rfl, ⟨x6, c8, (show 1 ≤ x6.toInt by first | with_reducible assumption | omega), (show x6.toInt ≤ 60 by first | with_reducible assumption | omega)⟩, (by simp only [cf0_, c8]; omega)⟩)⟩ hw dX12_makes_27
  · have c3 : f0_.toInt = (60 : Int) := wk_eq.mp c3
    replace hM := hM.neg (fun q => q c3)
    refine lv_aload_n hx hb dX12_makes_9 rfl (lv_at hl 0 rfl) ?_
    refine lv_iconst (v := 3) hx hb dX12_makes_10 (by decide) ?_
    refine lv_iload_n hx hb dX12_makes_11 rfl (lv_at hl 1 rfl) ?_
    refine tk_Vi hC hK hw hT hA hE hSR kM_at0 (by decide) rfl (kz_X12_fails_1 l adK adV dC dI cy ad B hB0 (Int.le_trans hB1 (by decide)) qr s1   3 (by decide) (by decide) a1 (show 0 ≤ a1.toInt from ra1) (show a1.toInt ≤ 400 from Int.le_trans ta1 (by decide)) w0 s.heap.size hT ) (cwV 2 hC.2.2.2.2 uV_RX12_115 rfl rfl rfl (by decide +kernel) ⟨Nat.le_of_ble_eq_true rfl, Nat.le_of_ble_eq_true rfl⟩) rfl hl.1 rfl (Nat.le_of_ble_eq_true rfl) dX12_makes_12 (fun r10 w12 H locs hp11 hw => ?_)
    obtain ⟨hT, k13, hv17, hg16⟩ := hp11
    try simp only [show (3 : Int32).toInt = 3 by decide] at hv17
    have hF := hF.tr k13 (by decide)
    have c18 := k13.gi kM_at0 (by decide) cf0_
    obtain ⟨rfl, ⟨x14, c15, rx14, tx14⟩⟩ := hg16
    replace hM := hM.call (r' := 0) hv17 (by decide)
    exact tk_zret hC hr rfl hlocks hK ⟨hT, hF, hM.ret (by decide), (Or.inl ⟨rfl, ⟨x14, c15, (show 1 ≤ x14.toInt by first | with_reducible assumption | omega), (show x14.toInt ≤ 3205 by first | with_reducible assumption | omega)⟩, ⟨f0_, c18, (show 60 ≤ f0_.toInt by first | with_reducible assumption | omega), (show f0_.toInt ≤ 60 from tf0_)⟩⟩)⟩ hw dX12_makes_15
abbrev Pz_X12_compare_1 (ad : Nat → Nat) (cy : Nat → ClassId) (B : Int) (qr : Nat) (s1 : Int)  (gT gb gd : Int) (w0 : va_W) : Int32 → va_W → Prop := fun r u => TW ksM ad cy B qr 12 u ∧ FE ksM [(12, 14, 14), (12, 15, 15), (12, 16, 16), (12, 18, 18), (61, 0, 2400), (62, 0, 7)] w0 u ∧ Ev (fun n => m_X12_compare n 0 (sI w0)) (r.toInt, sI u) ∧ ((r = 0 ∧ (∃ y : Int32, gi u 0 1 = y ∧ 1 ≤ y.toInt ∧ y.toInt ≤ 400) ∧ (∃ y : Int32, gi u 0 15 = y ∧ 1 ≤ y.toInt ∧ y.toInt ≤ 3205) ∧ (∃ y : Int32, gi u 0 17 = y ∧ 0 ≤ y.toInt ∧ y.toInt ≤ 5) ∧ RLc u gT) ∨ (r = 0 ∧ (∃ y : Int32, gi u 0 1 = y ∧ 0 ≤ y.toInt ∧ y.toInt ≤ 400) ∧ (∃ y : Int32, gi u 0 15 = y ∧ 1 ≤ y.toInt ∧ y.toInt ≤ 3205) ∧ (∃ y : Int32, gi u 0 17 = y ∧ 0 ≤ y.toInt ∧ y.toInt ≤ 5) ∧ RLc u gT) ∨ (r = 1 ∧ (∃ y : Int32, gi u 0 1 = y ∧ 1 ≤ y.toInt ∧ y.toInt ≤ 400) ∧ (∃ y : Int32, gi u 0 17 = y ∧ 0 ≤ y.toInt ∧ y.toInt ≤ 5) ∧ (∃ y : Int32, gi u 0 18 = y ∧ 1 ≤ y.toInt ∧ y.toInt ≤ 60) ∧ OKW u gT gb (gd + 1) ∧ (3 * (gi u 3 ((gi u 0 17).toInt).toNat).toInt + 33 ≤ 3 * (gi w0 3 ((gi w0 0 17).toInt).toNat).toInt + 14 * ((gi u 0 18).toInt - (gi w0 0 18).toInt)) ∧ ((gi w0 0 18).toInt + 3 ≤ (gi u 0 18).toInt)))
set_option maxHeartbeats 4000000 in
set_option maxRecDepth 100000 in
theorem kz_X12_compare_1 (l : Launch) (adK adV : Nat → Nat) (dC : Nat → ClassId) (dI : Nat → Nat → Nat) (cy : Nat → ClassId) (ad : Nat → Nat) (B : Int) (hB0 : 100000 ≤ B) (hB1 : B ≤ 1073741824) (qr : Nat) (s1 : Int)   (w0 : va_W) (sz : Nat) (hT : TW ksM ad cy B qr 12 w0) (f0_ : Int32) (cf0_ : gi w0 0 17 = f0_) (rf0_ : 0 ≤ f0_.toInt) (tf0_ : f0_.toInt ≤ 5) (f1_ : Int32) (cf1_ : gi w0 0 18 = f1_) (rf1_ : 0 ≤ f1_.toInt) (tf1_ : f1_.toInt ≤ 60) (f2_ : Int32) (cf2_ : gi w0 3 (f0_.toInt).toNat = f2_) (rf2_ : 0 ≤ f2_.toInt) (tf2_ : f2_.toInt ≤ 400) (pr0_ : 3 * f2_.toInt ≤ 14 * f1_.toInt + 30) (pr1_ : f2_.toInt ≤ 290) (gb gd : Int) (hgd0 : 0 ≤ gd) (hgd1 : gd ≤ f1_.toInt) (hO : OKW w0 f0_.toInt gb (gd)) : Met l yX12_compare (wu yX12_compare cX12_compare 5 (some .boolean)) ({ frames := 7, cells := 0, slots := 0, locals := 142 }) (va_Pc [.ref (ad 0)] (wpreS adK adV dC dI cy sz w0)) (va_Qi (Pz_X12_compare_1 ad cy B qr s1  f0_.toInt gb gd w0) (fun u : va_W => wpost dC dI cy (va_A w0 sz) u) (va_A w0 sz)) 0 0 (va_A w0 sz) := by
  refine Met.ofW (cc := cX12_compare) (maxL := 5) (ret := (some .boolean)) (by decide) rfl ?_
  intro p e s m args below meth c s₁ Bk hml hv
  obtain ⟨rfl, ⟨hsz, hP, hK, hD0⟩, hE, hSR⟩ := hv
  have hx := Bk.exec
  have hb := Bk.bytes
  have hr := Bk.returns
  have hlocks := Bk.notSynchronized
  have hC : CallFix p m c cX12_compare 5 s _ (wu yX12_compare cX12_compare 5 (some .boolean)) RX12 := ⟨hx, hb, hml, findClass_of_methodNamed Bk.named, atoms_spec (ws := (wu yX12_compare cX12_compare 5 (some .boolean))) Bk.pre⟩
  subst hsz
  have hD := hD0.self (sz := s.heap.size)
  generalize hAe : va_A w0 s.heap.size = A at hD hE ⊢
  have hA : ∀ q : Nat, s.heap.size ≤ q → A q := fun q h => by rw [← hAe]; exact Or.inr h
  have hw : Wd dC dI A s.heap s.heap [] w0 := ⟨hP, hD, va_S.rf⟩
  have hF : FE ksM [(12, 14, 14), (12, 15, 15), (12, 16, 16), (12, 18, 18), (61, 0, 2400), (62, 0, 7)] w0 w0 := FE.rf
  have hl := lv_entry ([.ref (ad 0)]) (n := 5) (Nat.le_of_ble_eq_true rfl)
  rw [lg_entry_eq]
  generalize (lg_sl ([.ref (ad 0)]) ++ List.replicate (5 - (lg_sl ([.ref (ad 0)])).length) Slot.unset).toArray = ls at hl ⊢
  have hl : lv_has ls 5 [(0, .ref (ad 0))] := hl
  generalize hloc : ([] : List Loc) = locs at hw ⊢
  have hinX12 : ∀ w ∈ u_ws RX12 TX12 42, w ∈ (wu yX12_compare cX12_compare 5 (some .boolean)) := fun _ h => List.mem_cons_of_mem _ (up_71 h)
  have hM : TT (fun n => m_X12_compare n 0 (sI w0)) (fun n => m_X12_compare n 0 (sI w0)) := TT.rf
  refine lv_aload_n hx hb dX12_compare_0 rfl (lv_at hl 0 rfl) ?_
  refine tk_Vi hC hK hw hT hA hE hSR kM_at0 (by decide) rfl (kz_X12_sum_1 l adK adV dC dI cy ad B hB0 (Int.le_trans hB1 (by decide)) qr s1    w0 s.heap.size hT f0_ cf0_ (show 0 ≤ f0_.toInt from rf0_) (show f0_.toInt ≤ 5 from tf0_) f1_ cf1_ (show 0 ≤ f1_.toInt from rf1_) (show f1_.toInt ≤ 60 from tf1_) f2_ cf2_ (show 0 ≤ f2_.toInt from rf2_) (show f2_.toInt ≤ 400 from tf2_) (show 3 * f2_.toInt ≤ 14 * f1_.toInt + 60 by omega) (show f2_.toInt ≤ 300 from Int.le_trans pr1_ (by decide)) gb (gd) (by omega) (by omega) (OKW_cast hO (show gd = gd from rfl))) (cwV 0 hC.2.2.2.2 uV_RX12_183 rfl rfl rfl (by decide +kernel) ⟨Nat.le_of_ble_eq_true rfl, Nat.le_of_ble_eq_true rfl⟩) rfl hl.1 rfl (Nat.le_of_ble_eq_true rfl) dX12_compare_1 (fun r1 w3 H locs hp2 hw => ?_)
  obtain ⟨hT, k4, hv38, hg37⟩ := hp2
  have hF := hF.tr k4 (by decide)
  have c39 := k4.gi kM_at0 (by decide) cf0_
  rcases hg37 with ⟨rfl, ⟨x5, c6, rx5, tx5⟩, ⟨x7, c8, rx7, tx7⟩, ⟨x9, c10, rx9, tx9⟩, hq11⟩ | ⟨rfl, ⟨x12, c13, rx12, tx12⟩, ⟨x14, c15, rx14, tx14⟩, ⟨x16, c17, rx16, tx16⟩, hq18⟩ | ⟨rfl, ⟨x19, c20, rx19, tx19⟩, ⟨x21, c22, rx21, tx21⟩, ⟨x23, c24, rx23, tx23⟩, hq25, g26, g27⟩ | ⟨rfl, ⟨x28, c29, rx28, tx28⟩, ⟨x30, c31, rx30, tx30⟩, ⟨x32, c33, rx32, tx32⟩, hq34, g35, g36⟩
  · replace hM := hM.call (r' := 0) hv38 (by decide)
    have ex9 : x9.toInt = f0_.toInt := by rw [← c39.symm.trans c10]
    obtain ⟨x40, c41, rx40, tx40⟩ := hT.rda (lo := 0) (hi := 400) (i := (f0_.toInt).toNat) kM_at3 rfl rfl (by omega)
    obtain ⟨x42, c43, rx42, tx42⟩ := hT.rdi (lo := 0) (hi := 60) (k := 18) kM_at0 (by decide) rfl
    have hR := hq11
    refine lv_if_ne (tgt := 9) hx hb dX12_compare_4 (by decide) (fun c => absurd (by decide) c) (fun _ => ?_)
    replace hM := hM.neg (by decide)
    refine lv_iconst (v := 0) hx hb dX12_compare_7 (by decide) ?_
    exact tk_zret hC hr rfl hlocks hK ⟨hT, hF, hM.ret (by decide), (Or.inl ⟨rfl, ⟨x5, c6, (show 1 ≤ x5.toInt by first | with_reducible assumption | omega), (show x5.toInt ≤ 400 by first | with_reducible assumption | omega)⟩, ⟨x7, c8, (show 1 ≤ x7.toInt by first | with_reducible assumption | omega), (show x7.toInt ≤ 3205 by first | with_reducible assumption | omega)⟩, ⟨f0_, c39, (show 0 ≤ f0_.toInt from rf0_), (show f0_.toInt ≤ 5 from tf0_)⟩, hR⟩)⟩ hw dX12_compare_8
  · replace hM := hM.call (r' := 0) hv38 (by decide)
    have ex16 : x16.toInt = f0_.toInt := by rw [← c39.symm.trans c17]
    obtain ⟨x44, c45, rx44, tx44⟩ := hT.rda (lo := 0) (hi := 400) (i := (f0_.toInt).toNat) kM_at3 rfl rfl (by omega)
    obtain ⟨x46, c47, rx46, tx46⟩ := hT.rdi (lo := 0) (hi := 60) (k := 18) kM_at0 (by decide) rfl
    have hR := hq18
    refine lv_if_ne (tgt := 9) hx hb dX12_compare_4 (by decide) (fun c => absurd (by decide) c) (fun _ => ?_)
    replace hM := hM.neg (by decide)
    refine lv_iconst (v := 0) hx hb dX12_compare_7 (by decide) ?_
    exact tk_zret hC hr rfl hlocks hK ⟨hT, hF, hM.ret (by decide), (Or.inr (Or.inl ⟨rfl, ⟨x12, c13, (show 0 ≤ x12.toInt by first | with_reducible assumption | omega), (show x12.toInt ≤ 400 by first | with_reducible assumption | omega)⟩, ⟨x14, c15, (show 1 ≤ x14.toInt by first | with_reducible assumption | omega), (show x14.toInt ≤ 3205 by first | with_reducible assumption | omega)⟩, ⟨f0_, c39, (show 0 ≤ f0_.toInt from rf0_), (show f0_.toInt ≤ 5 from tf0_)⟩, hR⟩))⟩ hw dX12_compare_8
  · replace hM := hM.call (r' := 1) hv38 (by decide)
    have ex21 : x21.toInt = f0_.toInt := by rw [← c39.symm.trans c22]
    obtain ⟨x48, c49, rx48, tx48⟩ := hT.rda (lo := 0) (hi := 400) (i := (f0_.toInt).toNat) kM_at3 rfl rfl (by omega)
    have g26 : 3 * x48.toInt + 11 ≤ 3 * f2_.toInt + 14 * (x23.toInt - f1_.toInt) := by have q := g26; simp only [cf0_, c39, cf2_, c49, cf1_, c24] at q; first | with_reducible exact q | omega
    have g27 : f1_.toInt + 1 ≤ x23.toInt := by have q := g27; simp only [cf0_, c39, cf1_, c24] at q; first | with_reducible exact q | omega
    have hO : OKW w3 f0_.toInt gb ((gd) + 1) := by have q := hq25; exact OKW_cast q (by omega)
    refine lv_if_ne (tgt := 9) hx hb dX12_compare_4 (by decide) (fun _ => ?_) (fun c => absurd c (by decide))
    replace hM := hM.pos (by decide)
    refine lv_aload_n hx hb dX12_compare_9 rfl (lv_at hl 0 rfl) ?_
    obtain ⟨x52, c53, rx52, tx52⟩ := hT.rdi (lo := 0) (hi := 400) (k := 14) kM_at0 (by decide) rfl
    refine tk_Vi hC hK hw hT hA hE hSR kM_at0 (by decide) rfl (kz_X12_see_1 l adK adV dC dI cy ad B hB0 (Int.le_trans hB1 (by decide)) qr s1    w3 H.size hT x52 c53 (show 0 ≤ x52.toInt by first | with_reducible assumption | omega) (show x52.toInt ≤ 400 by first | with_reducible assumption | omega)) (cwV 0 hC.2.2.2.2 uV_RX12_97 rfl rfl rfl (by decide +kernel) ⟨Nat.le_of_ble_eq_true rfl, Nat.le_of_ble_eq_true rfl⟩) rfl hl.1 rfl (Nat.le_of_ble_eq_true rfl) dX12_compare_10 (fun r54 w56 H locs hp55 hw => ?_)
    obtain ⟨hT, k57, hv75, hg74⟩ := hp55
    have hO := OKW_FE k57 (fun _ => rfl) (fun _ => rfl) (fun _ => rfl) (fun _ => rfl) hO
    have hF := hF.tr k57 (by decide)
    have c76 := k57.gi kM_at0 (by decide) c39
    have c77 := k57.gi kM_at0 (by decide) c20
    have c78 := k57.gi kM_at0 (by decide) c24
    have c79 := k57.gi kM_at3 rfl c49
    rcases hg74 with ⟨g58, g59, ⟨x60, c61, rx60, tx60⟩, ⟨x62, c63, rx62, tx62⟩, g64, g65⟩ | ⟨rfl, ⟨x66, c67, rx66, tx66⟩, ⟨x68, c69, rx68, tx68⟩, g70⟩ | ⟨rfl, ⟨x71, c72, rx71, tx71⟩, g73⟩
    · replace hM := hM.call hv75 rfl
      have ex60 : x60.toInt = x19.toInt := by rw [← c77.symm.trans c61]
      have g64 : (gi w56 1 (x62.toInt).toNat).toInt ≠ 32 := by have q := g64; simp only [c39, c76, c63] at q; first | with_reducible exact q | omega
      have g65 : (x62.toInt = x52.toInt ∨ (gi w3 1 (x52.toInt).toNat).toInt = 32) := by have q := g65; simp only [c39, c76, c53, c63] at q; first | with_reducible exact q | omega
      refine lv_istore_n (lv' := [(1, .int r54), (0, .ref (ad 0))]) hx hb dX12_compare_13 rfl hl (by decide) rfl (fun ls hl => ?_)
      refine lv_aload_n hx hb dX12_compare_14 rfl (lv_at hl 1 rfl) ?_
      refine tk_geti hC hK hw hT hinX12 kM_at0 (by decide) rfl 14 (by decide) (List.mem_cons_of_mem _ uw_19_18) rfl rfl dX12_compare_15 (fun x82 c83 rx82 tx82 => ?_)
      refine wk_top x62 (c83.symm.trans c63) ?_
      replace hM := hM.rd (sI_at c63)
      refine lv_istore_n (lv' := [(2, .int x62), (1, .int r54), (0, .ref (ad 0))]) hx hb dX12_compare_18 rfl hl (by decide) rfl (fun ls hl => ?_)
      refine lv_iload_n hx hb dX12_compare_19 rfl (lv_at hl 1 rfl) ?_
      refine lv_bipush (v := 60) hx hb dX12_compare_20 (by decide) ?_
      refine lv_icmp_eq (tgt := 44) hx hb dX12_compare_22 (by decide) (fun c84 => ?_) (fun c84 => ?_)
      · have c84 : r54.toInt = (60 : Int) := wk_eq.mp c84
        replace hM := hM.pos c84
        refine lv_aload_n hx hb dX12_compare_44 rfl (lv_at hl 2 rfl) ?_
        refine lv_dup hx hb dX12_compare_45 rfl ?_
        refine tk_geti hC hK hw hT hinX12 kM_at0 (by decide) rfl 14 (by decide) (List.mem_cons_of_mem _ uw_19_18) rfl rfl dX12_compare_46 (fun x85 c86 rx85 tx85 => ?_)
        refine wk_top x62 (c86.symm.trans c63) ?_
        replace hM := hM.rd (sI_at c63)
        refine lv_iconst (v := 1) hx hb dX12_compare_49 (by decide) ?_
        refine lv_iadd hx hb dX12_compare_50 ?_
        refine lv_topi (fun x87 ex87 => ?_)
        have ezx87 := ex87
        have ex87 : x87.toInt = x62.toInt + (1 : Int) := by rw [ex87]; exact wk_add (show (-2147483648) ≤ x62.toInt + (1 : Int) by omega) (show x62.toInt + (1 : Int) ≤ 2147483647 by omega)
        replace hM := hM.lt ex87.symm
        refine tk_puti hC hK hw hT hinX12 tyX12_ok nmX12 kM_at0 (by decide) rfl rfl 14 (by decide) (List.mem_cons_of_mem _ uw_19_18) rfl rfl rfl rfl (show 0 ≤ x87.toInt by first | with_reducible assumption | omega) (show x87.toInt ≤ 400 by first | with_reducible assumption | omega) dX12_compare_51 (fun H locs w88 hw hT k90 c89 => ?_)
        replace hM := hM.wr (sI_up k90 c89)
        have hO := OKW_F1 k90 (by decide) (by decide) (by decide) (by decide) hO
        have hF := hF.put kM_at0 (k := 14) (by decide) k90
        have c91 := k90.gi (Or.inr (by decide)) c76
        have c92 := k90.gi (Or.inr (by decide)) c77
        have c93 := k90.gi (Or.inr (by decide)) c78
        have c94 := k90.gi (Or.inl (tk_ne kM_at3 kM_at0 (by decide))) c79
        refine lv_iload_n hx hb dX12_compare_54 rfl (lv_at hl 1 rfl) ?_
        refine lv_bipush (v := 61) hx hb dX12_compare_55 (by decide) ?_
        refine lv_icmp_eq (tgt := 89) hx hb dX12_compare_57 (by decide) (fun c => absurd c (fun h => absurd (show r54.toInt = (61 : Int) from wk_eq.mp h) (by omega))) (fun _ => ?_)
        replace hM := hM.neg (by omega)
        refine lv_aload_n hx hb dX12_compare_60 rfl (lv_at hl 2 rfl) ?_
        refine tk_geti hC hK hw hT hinX12 kM_at0 (by decide) rfl 14 (by decide) (List.mem_cons_of_mem _ uw_19_18) rfl rfl dX12_compare_61 (fun x95 c96 rx95 tx95 => ?_)
        refine wk_top x87 (c96.symm.trans c89) ?_
        replace hM := hM.rd (sI_at c89)
        refine lv_aload_n hx hb dX12_compare_64 rfl (lv_at hl 2 rfl) ?_
        refine tk_geti hC hK hw hT hinX12 kM_at0 (by decide) rfl 1 (by decide) (List.mem_cons_of_mem _ uw_8_7) rfl rfl dX12_compare_65 (fun x97 c98 rx97 tx97 => ?_)
        refine wk_top x19 (c98.symm.trans c92) ?_
        replace hM := hM.rd (sI_at c92)
        refine lv_icmp_ge (tgt := 89) hx hb dX12_compare_68 (by decide) (fun c99 => ?_) (fun c99 => ?_)
        · have c99 : x19.toInt ≤ x87.toInt := wk_le.mp c99
          replace hM := hM.pos c99
          refine lv_iconst (v := 0) hx hb dX12_compare_89 (by decide) ?_
          refine lv_istore_n (lv' := [(3, .int 0), (2, .int x62), (1, .int r54), (0, .ref (ad 0))]) hx hb dX12_compare_90 rfl hl (by decide) rfl (fun ls hl => ?_)
          refine lv_iload_n hx hb dX12_compare_91 rfl (lv_at hl 0 rfl) ?_
          refine lv_if_eq (tgt := 105) hx hb dX12_compare_92 (by decide) (fun _ => ?_) (fun c => absurd (by decide) c)
          replace hM := hM.pos (by decide)
          refine lv_aload_n hx hb dX12_compare_105 rfl (lv_at hl 3 rfl) ?_
          refine lv_iload_n hx hb dX12_compare_106 rfl (lv_at hl 1 rfl) ?_
          refine tk_Vi hC hK hw hT hA hE hSR kM_at0 (by decide) rfl (kz_X12_makes_1 l adK adV dC dI cy ad B hB0 (Int.le_trans hB1 (by decide)) qr s1   x62 (show 0 ≤ x62.toInt by first | with_reducible assumption | omega) (show x62.toInt ≤ 399 by first | with_reducible assumption | omega) w88 H.size hT x23 c93 (show 0 ≤ x23.toInt by first | with_reducible assumption | omega) (show x23.toInt ≤ 60 by first | with_reducible assumption | omega)) (cwV 1 hC.2.2.2.2 uV_RX12_170 rfl rfl rfl (by decide +kernel) ⟨Nat.le_of_ble_eq_true rfl, Nat.le_of_ble_eq_true rfl⟩) rfl hl.1 rfl (Nat.le_of_ble_eq_true rfl) dX12_compare_107 (fun r100 w102 H locs hp101 hw => ?_)
          obtain ⟨hT, k103, hv112, hg111⟩ := hp101
          have hO := OKW_FE k103 (fun _ => rfl) (fun _ => rfl) (fun _ => rfl) (fun _ => rfl) hO
          have hF := hF.tr k103 (by decide)
          have c113 := k103.gi kM_at0 (by decide) c91
          have c114 := k103.gi kM_at0 (by decide) c92
          have c115 := k103.gi kM_at3 rfl c94
          have c116 := k103.gi kM_at0 (by decide) c89
          rcases hg111 with ⟨rfl, ⟨x104, c105, rx104, tx104⟩, ⟨x106, c107, rx106, tx106⟩⟩ | ⟨rfl, ⟨x108, c109, rx108, tx108⟩, g110⟩
          · replace hM := hM.call (r' := 0) hv112 (by decide)
            refine lv_if_ne (tgt := 115) hx hb dX12_compare_110 (by decide) (fun c => absurd (by decide) c) (fun _ => ?_)
            replace hM := hM.neg (by decide)
            refine lv_iconst (v := 0) hx hb dX12_compare_113 (by decide) ?_
            exact tk_zret hC hr rfl hlocks hK ⟨hT, hF, hM.ret (by decide), (Or.inl ⟨rfl, ⟨x19, c114, (show 1 ≤ x19.toInt by first | with_reducible assumption | omega), (show x19.toInt ≤ 400 by first | with_reducible assumption | omega)⟩, ⟨x104, c105, (show 1 ≤ x104.toInt by first | with_reducible assumption | omega), (show x104.toInt ≤ 3205 by first | with_reducible assumption | omega)⟩, ⟨f0_, c113, (show 0 ≤ f0_.toInt from rf0_), (show f0_.toInt ≤ 5 from tf0_)⟩, hO.1⟩)⟩ hw dX12_compare_114
          · replace hM := hM.call (r' := 1) hv112 (by decide)
            have g110 : x108.toInt = x23.toInt + 1 := by have q := g110; simp only [c91, c113, c93, c109] at q; first | with_reducible exact q | omega
            refine lv_if_ne (tgt := 115) hx hb dX12_compare_110 (by decide) (fun _ => ?_) (fun c => absurd c (by decide))
            replace hM := hM.pos (by decide)
            refine lv_iload_n hx hb dX12_compare_115 rfl (lv_at hl 2 rfl) ?_
            refine lv_bipush (v := 60) hx hb dX12_compare_116 (by decide) ?_
            refine lv_icmp_ne (tgt := 133) hx hb dX12_compare_118 (by decide) (fun c => (c (wk_eq.mpr (show r54.toInt = (60 : Int) by first | exact Int.le_antisymm (by omega) (by omega) | omega))).elim) (fun _ => ?_)
            replace hM := hM.neg (by omega)
            refine lv_iload_n hx hb dX12_compare_121 rfl (lv_at hl 0 rfl) ?_
            refine lv_if_eq (tgt := 129) hx hb dX12_compare_122 (by decide) (fun _ => ?_) (fun c => absurd (by decide) c)
            replace hM := hM.pos (by decide)
            refine lv_iconst (v := 0) hx hb dX12_compare_129 (by decide) ?_
            refine lv_goto (tgt := 152) hx hb dX12_compare_130 (by decide) ?_
            refine lv_istore (lv' := [(4, .int 0), (3, .int 0), (2, .int x62), (1, .int r54), (0, .ref (ad 0))]) hx hb dX12_compare_152 hl (by decide) rfl (fun ls hl => ?_)
            refine lv_aload_n hx hb dX12_compare_154 rfl (lv_at hl 4 rfl) ?_
            refine tk_Vi hC hK hw hT hA hE hSR kM_at0 (by decide) rfl (kz_X12_sum_1 l adK adV dC dI cy ad B hB0 (Int.le_trans hB1 (by decide)) qr s1    w102 H.size hT f0_ c113 (show 0 ≤ f0_.toInt from rf0_) (show f0_.toInt ≤ 5 from tf0_) x108 c109 (show 0 ≤ x108.toInt by first | with_reducible assumption | omega) (show x108.toInt ≤ 60 by first | with_reducible assumption | omega) x48 c115 (show 0 ≤ x48.toInt by first | with_reducible assumption | omega) (show x48.toInt ≤ 400 by first | with_reducible assumption | omega) (show 3 * x48.toInt ≤ 14 * x108.toInt + 60 by omega) (show x48.toInt ≤ 300 by first | with_reducible assumption | omega) gb ((gd) + 1) (by omega) (by omega) (OKW_cast hO (show (gd) + 1 = (gd) + 1 from rfl))) (cwV 0 hC.2.2.2.2 uV_RX12_183 rfl rfl rfl (by decide +kernel) ⟨Nat.le_of_ble_eq_true rfl, Nat.le_of_ble_eq_true rfl⟩) rfl hl.1 rfl (Nat.le_of_ble_eq_true rfl) dX12_compare_155 (fun r117 w119 H locs hp118 hw => ?_)
            obtain ⟨hT, k120, hv154, hg153⟩ := hp118
            have hF := hF.tr k120 (by decide)
            have c155 := k120.gi kM_at0 (by decide) c113
            have c156 := k120.gi kM_at0 (by decide) c114
            rcases hg153 with ⟨rfl, ⟨x121, c122, rx121, tx121⟩, ⟨x123, c124, rx123, tx123⟩, ⟨x125, c126, rx125, tx125⟩, hq127⟩ | ⟨rfl, ⟨x128, c129, rx128, tx128⟩, ⟨x130, c131, rx130, tx130⟩, ⟨x132, c133, rx132, tx132⟩, hq134⟩ | ⟨rfl, ⟨x135, c136, rx135, tx135⟩, ⟨x137, c138, rx137, tx137⟩, ⟨x139, c140, rx139, tx139⟩, hq141, g142, g143⟩ | ⟨rfl, ⟨x144, c145, rx144, tx144⟩, ⟨x146, c147, rx146, tx146⟩, ⟨x148, c149, rx148, tx148⟩, hq150, g151, g152⟩
            · replace hM := hM.call (r' := 0) hv154 (by decide)
              have ex121 : x121.toInt = x19.toInt := by rw [← c156.symm.trans c122]
              have ex125 : x125.toInt = f0_.toInt := by rw [← c155.symm.trans c126]
              obtain ⟨x157, c158, rx157, tx157⟩ := hT.rda (lo := 0) (hi := 400) (i := (f0_.toInt).toNat) kM_at3 rfl rfl (by omega)
              obtain ⟨x159, c160, rx159, tx159⟩ := hT.rdi (lo := 0) (hi := 60) (k := 18) kM_at0 (by decide) rfl
              have hR := hq127
              refine lv_if_ne (tgt := 163) hx hb dX12_compare_158 (by decide) (fun c => absurd (by decide) c) (fun _ => ?_)
              replace hM := hM.neg (by decide)
              refine lv_iconst (v := 0) hx hb dX12_compare_161 (by decide) ?_
              exact tk_zret hC hr rfl hlocks hK ⟨hT, hF, hM.ret (by decide), (Or.inl ⟨rfl, ⟨x19, c156, (show 1 ≤ x19.toInt by first | with_reducible assumption | omega), (show x19.toInt ≤ 400 by first | with_reducible assumption | omega)⟩, ⟨x123, c124, (show 1 ≤ x123.toInt by first | with_reducible assumption | omega), (show x123.toInt ≤ 3205 by first | with_reducible assumption | omega)⟩, ⟨f0_, c155, (show 0 ≤ f0_.toInt from rf0_), (show f0_.toInt ≤ 5 from tf0_)⟩, hR⟩)⟩ hw dX12_compare_162
            · replace hM := hM.call (r' := 0) hv154 (by decide)
              have ex128 : x128.toInt = x19.toInt := by rw [← c156.symm.trans c129]
              have ex132 : x132.toInt = f0_.toInt := by rw [← c155.symm.trans c133]
              obtain ⟨x161, c162, rx161, tx161⟩ := hT.rda (lo := 0) (hi := 400) (i := (f0_.toInt).toNat) kM_at3 rfl rfl (by omega)
              obtain ⟨x163, c164, rx163, tx163⟩ := hT.rdi (lo := 0) (hi := 60) (k := 18) kM_at0 (by decide) rfl
              have hR := hq134
              refine lv_if_ne (tgt := 163) hx hb dX12_compare_158 (by decide) (fun c => absurd (by decide) c) (fun _ => ?_)
              replace hM := hM.neg (by decide)
              refine lv_iconst (v := 0) hx hb dX12_compare_161 (by decide) ?_
              exact tk_zret hC hr rfl hlocks hK ⟨hT, hF, hM.ret (by decide), (Or.inl ⟨rfl, ⟨x19, c156, (show 1 ≤ x19.toInt by first | with_reducible assumption | omega), (show x19.toInt ≤ 400 by first | with_reducible assumption | omega)⟩, ⟨x130, c131, (show 1 ≤ x130.toInt by first | with_reducible assumption | omega), (show x130.toInt ≤ 3205 by first | with_reducible assumption | omega)⟩, ⟨f0_, c155, (show 0 ≤ f0_.toInt from rf0_), (show f0_.toInt ≤ 5 from tf0_)⟩, hR⟩)⟩ hw dX12_compare_162
            · replace hM := hM.call (r' := 1) hv154 (by decide)
              have ex135 : x135.toInt = x19.toInt := by rw [← c156.symm.trans c136]
              have ex137 : x137.toInt = f0_.toInt := by rw [← c155.symm.trans c138]
              obtain ⟨x165, c166, rx165, tx165⟩ := hT.rda (lo := 0) (hi := 400) (i := (f0_.toInt).toNat) kM_at3 rfl rfl (by omega)
              have g142 : 3 * x165.toInt + 11 ≤ 3 * x48.toInt + 14 * (x139.toInt - x108.toInt) := by have q := g142; simp only [c113, c155, c115, c166, c109, c140] at q; first | with_reducible exact q | omega
              have g143 : x108.toInt + 1 ≤ x139.toInt := by have q := g143; simp only [c113, c155, c109, c140] at q; first | with_reducible exact q | omega
              have hO : OKW w119 f0_.toInt gb (((gd) + 1) + 1) := by have q := hq141; exact OKW_cast q (by omega)
              refine lv_if_ne (tgt := 163) hx hb dX12_compare_158 (by decide) (fun _ => ?_) (fun c => absurd c (by decide))
              replace hM := hM.pos (by decide)
              refine lv_aload_n hx hb dX12_compare_163 rfl (lv_at hl 4 rfl) ?_
              refine lv_bipush (v := 6) hx hb dX12_compare_164 (by decide) ?_
              refine lv_iload hx hb dX12_compare_166 (lv_at hl 0 rfl) ?_
              refine lv_iadd hx hb dX12_compare_168 ?_
              refine wk_top 6 (by decide) ?_
              replace hM := hM.lt (v := 6) (by decide)
              refine lv_iconst (v := 0) hx hb dX12_compare_169 (by decide) ?_
              refine tk_Vv hC hK hw hT hA hE hSR kM_at0 (by decide) rfl (kz_X12_puts_1 l adK adV dC dI cy ad B hB0 (Int.le_trans hB1 (by decide)) qr s1   6 (by decide) (by decide) 0 (by decide) (by decide) w119 H.size hT f0_ c155 (show 0 ≤ f0_.toInt from rf0_) (show f0_.toInt ≤ 5 from tf0_) x165 c166 (show 0 ≤ x165.toInt by first | with_reducible assumption | omega) (show x165.toInt ≤ 400 by first | with_reducible assumption | omega) (show x165.toInt ≤ 399 by first | with_reducible assumption | omega)) (cwV 2 hC.2.2.2.2 uV_RX12_162 rfl rfl rfl (by decide +kernel) ⟨Nat.le_of_ble_eq_true rfl, Nat.le_of_ble_eq_true rfl⟩) rfl hl.1 rfl (Nat.le_of_ble_eq_true rfl) dX12_compare_170 (fun w171 H locs hp170 hw => ?_)
              obtain ⟨hT, k172, hv178, hg177⟩ := hp170
              try simp only [show (6 : Int32).toInt = 6 by decide] at hv178
              try simp only [show (0 : Int32).toInt = 0 by decide] at hv178
              have hF := hF.tr k172 (by decide)
              have c179 := k172.gi kM_at0 (by decide) c155
              have c180 := k172.gi kM_at0 (by decide) c156
              have c181 := k172.gi kM_at0 (by decide) c140
              obtain ⟨⟨x173, c174, rx173, tx173⟩, hq175, g176⟩ := hg177
              replace hM := hM.call hv178 rfl
              have ex173 : x173.toInt = f0_.toInt := by rw [← c179.symm.trans c174]
              obtain ⟨x182, c183, rx182, tx182⟩ := hT.rda (lo := 0) (hi := 400) (i := (f0_.toInt).toNat) kM_at3 rfl rfl (by omega)
              have g176 : x182.toInt = x165.toInt + 1 := by have q := g176; simp only [c155, c179, c166, c183] at q; first | with_reducible exact q | omega
              have hO : OKW w171 f0_.toInt gb ((((gd) + 1) + 1) - 1) := OKW_put hO (by have q := hq175; rw [c155] at q; exact q) (by rw [c166]; omega) (fun x hx => by simp only [(show (6 : Int32).toInt = 6 by decide), (show (0 : Int32).toInt = 0 by decide)] at hx; exact okT_bin (by omega) (by omega) (by omega) (by omega)) (by omega) (by omega)
              refine lv_iconst (v := 1) hx hb dX12_compare_173 (by decide) ?_
              exact tk_zret hC hr rfl hlocks hK ⟨hT, hF, hM.ret (by decide), (Or.inr (Or.inr ⟨rfl, ⟨x19, c180, (show 1 ≤ x19.toInt by first | with_reducible assumption | omega), (show x19.toInt ≤ 400 by first | with_reducible assumption | omega)⟩, ⟨f0_, c179, (show 0 ≤ f0_.toInt from rf0_), (show f0_.toInt ≤ 5 from tf0_)⟩, ⟨x139, c181, (show 1 ≤ x139.toInt by first | with_reducible assumption | omega), (show x139.toInt ≤ 60 by first | with_reducible assumption | omega)⟩, (OKW_cast hO (by omega)), (by simp only [c179, cf0_, cf2_, c183, cf1_, c181]; omega), (by simp only [c179, cf0_, cf1_, c181]; omega)⟩))⟩ hw dX12_compare_174
            · replace hM := hM.call (r' := 1) hv154 (by decide)
              have ex144 : x144.toInt = x19.toInt := by rw [← c156.symm.trans c145]
              have ex146 : x146.toInt = f0_.toInt := by rw [← c155.symm.trans c147]
              obtain ⟨x167, c168, rx167, tx167⟩ := hT.rda (lo := 0) (hi := 400) (i := (f0_.toInt).toNat) kM_at3 rfl rfl (by omega)
              have g151 : 3 * x167.toInt + 11 ≤ 3 * x48.toInt + 14 * (x148.toInt - x108.toInt) := by have q := g151; simp only [c113, c155, c115, c168, c109, c149] at q; first | with_reducible exact q | omega
              have g152 : x108.toInt + 1 ≤ x148.toInt := by have q := g152; simp only [c113, c155, c109, c149] at q; first | with_reducible exact q | omega
              have hO : OKW w119 f0_.toInt gb (((gd) + 1) + 1) := by have q := hq150; exact OKW_cast q (by omega)
              refine lv_if_ne (tgt := 163) hx hb dX12_compare_158 (by decide) (fun _ => ?_) (fun c => absurd c (by decide))
              replace hM := hM.pos (by decide)
              refine lv_aload_n hx hb dX12_compare_163 rfl (lv_at hl 4 rfl) ?_
              refine lv_bipush (v := 6) hx hb dX12_compare_164 (by decide) ?_
              refine lv_iload hx hb dX12_compare_166 (lv_at hl 0 rfl) ?_
              refine lv_iadd hx hb dX12_compare_168 ?_
              refine wk_top 6 (by decide) ?_
              replace hM := hM.lt (v := 6) (by decide)
              refine lv_iconst (v := 0) hx hb dX12_compare_169 (by decide) ?_
              refine tk_Vv hC hK hw hT hA hE hSR kM_at0 (by decide) rfl (kz_X12_puts_1 l adK adV dC dI cy ad B hB0 (Int.le_trans hB1 (by decide)) qr s1   6 (by decide) (by decide) 0 (by decide) (by decide) w119 H.size hT f0_ c155 (show 0 ≤ f0_.toInt from rf0_) (show f0_.toInt ≤ 5 from tf0_) x167 c168 (show 0 ≤ x167.toInt by first | with_reducible assumption | omega) (show x167.toInt ≤ 400 by first | with_reducible assumption | omega) (show x167.toInt ≤ 399 by first | with_reducible assumption | omega)) (cwV 2 hC.2.2.2.2 uV_RX12_162 rfl rfl rfl (by decide +kernel) ⟨Nat.le_of_ble_eq_true rfl, Nat.le_of_ble_eq_true rfl⟩) rfl hl.1 rfl (Nat.le_of_ble_eq_true rfl) dX12_compare_170 (fun w186 H locs hp185 hw => ?_)
              obtain ⟨hT, k187, hv193, hg192⟩ := hp185
              try simp only [show (6 : Int32).toInt = 6 by decide] at hv193
              try simp only [show (0 : Int32).toInt = 0 by decide] at hv193
              have hF := hF.tr k187 (by decide)
              have c194 := k187.gi kM_at0 (by decide) c155
              have c195 := k187.gi kM_at0 (by decide) c156
              have c196 := k187.gi kM_at0 (by decide) c149
              obtain ⟨⟨x188, c189, rx188, tx188⟩, hq190, g191⟩ := hg192
              replace hM := hM.call hv193 rfl
              have ex188 : x188.toInt = f0_.toInt := by rw [← c194.symm.trans c189]
              obtain ⟨x197, c198, rx197, tx197⟩ := hT.rda (lo := 0) (hi := 400) (i := (f0_.toInt).toNat) kM_at3 rfl rfl (by omega)
              have g191 : x197.toInt = x167.toInt + 1 := by have q := g191; simp only [c155, c194, c168, c198] at q; first | with_reducible exact q | omega
              have hO : OKW w186 f0_.toInt gb ((((gd) + 1) + 1) - 1) := OKW_put hO (by have q := hq190; rw [c155] at q; exact q) (by rw [c168]; omega) (fun x hx => by simp only [(show (6 : Int32).toInt = 6 by decide), (show (0 : Int32).toInt = 0 by decide)] at hx; exact okT_bin (by omega) (by omega) (by omega) (by omega)) (by omega) (by omega)
              refine lv_iconst (v := 1) hx hb dX12_compare_173 (by decide) ?_
              exact tk_zret hC hr rfl hlocks hK ⟨hT, hF, hM.ret (by decide), (Or.inr (Or.inr ⟨rfl, ⟨x19, c195, (show 1 ≤ x19.toInt by first | with_reducible assumption | omega), (show x19.toInt ≤ 400 by first | with_reducible assumption | omega)⟩, ⟨f0_, c194, (show 0 ≤ f0_.toInt from rf0_), (show f0_.toInt ≤ 5 from tf0_)⟩, ⟨x148, c196, (show 1 ≤ x148.toInt by first | with_reducible assumption | omega), (show x148.toInt ≤ 60 by first | with_reducible assumption | omega)⟩, (OKW_cast hO (by omega)), (by simp only [c194, cf0_, cf2_, c198, cf1_, c196]; omega), (by simp only [c194, cf0_, cf1_, c196]; omega)⟩))⟩ hw dX12_compare_174
        · have c99 : x87.toInt < x19.toInt := wk_leF c99
          replace hM := hM.neg (Int.not_le.mpr c99)
          refine lv_aload_n hx hb dX12_compare_71 rfl (lv_at hl 2 rfl) ?_
          refine tk_getA hC hK hw hT hinX12 kM_at0 (by decide) rfl 0 (by decide) (List.mem_cons_of_mem _ uw_6_14) rfl rfl dX12_compare_72 ?_
          refine lv_aload_n hx hb dX12_compare_75 rfl (lv_at hl 2 rfl) ?_
          refine tk_geti hC hK hw hT hinX12 kM_at0 (by decide) rfl 14 (by decide) (List.mem_cons_of_mem _ uw_19_18) rfl rfl dX12_compare_76 (fun x199 c200 rx199 tx199 => ?_)
          refine wk_top x87 (c200.symm.trans c89) ?_
          replace hM := hM.rd (sI_at c89)
          refine tk_bald hC hK hw hT kM_at1 rfl rfl (show 0 ≤ x87.toInt by first | with_reducible assumption | omega) (show x87.toInt < 400 by first | with_reducible assumption | omega) dX12_compare_79 (fun x201 c202 rx201 tx201 => ?_)
          have hox201 := c202
          replace hM := hM.rd (sI_at hox201)
          have c202 : gi w88 1 (1 * x62.toInt + 1).toNat = x201 := (congrArg (gi w88 1) (congrArg Int.toNat (show 1 * x62.toInt + 1 = x87.toInt by first | exact Int.le_antisymm (by omega) (by omega) | omega))).trans c202
          refine lv_bipush (v := 61) hx hb dX12_compare_80 (by decide) ?_
          refine lv_icmp_ne (tgt := 89) hx hb dX12_compare_82 (by decide) (fun c203 => ?_) (fun c203 => ?_)
          · have c203 : ¬ x201.toInt = (61 : Int) := wk_eqF c203
            replace hM := hM.pos c203
            refine lv_iconst (v := 0) hx hb dX12_compare_89 (by decide) ?_
            refine lv_istore_n (lv' := [(3, .int 0), (2, .int x62), (1, .int r54), (0, .ref (ad 0))]) hx hb dX12_compare_90 rfl hl (by decide) rfl (fun ls hl => ?_)
            refine lv_iload_n hx hb dX12_compare_91 rfl (lv_at hl 0 rfl) ?_
            refine lv_if_eq (tgt := 105) hx hb dX12_compare_92 (by decide) (fun _ => ?_) (fun c => absurd (by decide) c)
            replace hM := hM.pos (by decide)
            refine lv_aload_n hx hb dX12_compare_105 rfl (lv_at hl 3 rfl) ?_
            refine lv_iload_n hx hb dX12_compare_106 rfl (lv_at hl 1 rfl) ?_
            refine tk_Vi hC hK hw hT hA hE hSR kM_at0 (by decide) rfl (kz_X12_makes_4 l adK adV dC dI cy ad B hB0 (Int.le_trans hB1 (by decide)) qr s1   x62 (show 0 ≤ x62.toInt by first | with_reducible assumption | omega) (show x62.toInt ≤ 398 by first | with_reducible assumption | omega) w88 H.size hT x23 c93 (show 0 ≤ x23.toInt by first | with_reducible assumption | omega) (show x23.toInt ≤ 60 by first | with_reducible assumption | omega)) (cwV 1 hC.2.2.2.2 uV_RX12_170 rfl rfl rfl (by decide +kernel) ⟨Nat.le_of_ble_eq_true rfl, Nat.le_of_ble_eq_true rfl⟩) rfl hl.1 rfl (Nat.le_of_ble_eq_true rfl) dX12_compare_107 (fun r204 w206 H locs hp205 hw => ?_)
            obtain ⟨hT, k207, hv216, hg215⟩ := hp205
            have hO := OKW_FE k207 (fun _ => rfl) (fun _ => rfl) (fun _ => rfl) (fun _ => rfl) hO
            have hF := hF.tr k207 (by decide)
            have c217 := k207.gi kM_at0 (by decide) c91
            have c218 := k207.gi kM_at0 (by decide) c92
            have c219 := k207.gi kM_at3 rfl c94
            have c220 := k207.gi kM_at0 (by decide) c89
            have c221 := k207.gi kM_at1 rfl c202
            rcases hg215 with ⟨rfl, ⟨x208, c209, rx208, tx208⟩, ⟨x210, c211, rx210, tx210⟩⟩ | ⟨rfl, ⟨x212, c213, rx212, tx212⟩, g214⟩
            · replace hM := hM.call (r' := 0) hv216 (by decide)
              refine lv_if_ne (tgt := 115) hx hb dX12_compare_110 (by decide) (fun c => absurd (by decide) c) (fun _ => ?_)
              replace hM := hM.neg (by decide)
              refine lv_iconst (v := 0) hx hb dX12_compare_113 (by decide) ?_
              exact tk_zret hC hr rfl hlocks hK ⟨hT, hF, hM.ret (by decide), (Or.inl ⟨rfl, ⟨x19, c218, (show 1 ≤ x19.toInt by first | with_reducible assumption | omega), (show x19.toInt ≤ 400 by first | with_reducible assumption | omega)⟩, ⟨x208, c209, (show 1 ≤ x208.toInt by first | with_reducible assumption | omega), (show x208.toInt ≤ 3205 by first | with_reducible assumption | omega)⟩, ⟨f0_, c217, (show 0 ≤ f0_.toInt from rf0_), (show f0_.toInt ≤ 5 from tf0_)⟩, hO.1⟩)⟩ hw dX12_compare_114
            · replace hM := hM.call (r' := 1) hv216 (by decide)
              have g214 : x212.toInt = x23.toInt + 1 := by have q := g214; simp only [c91, c217, c93, c213] at q; first | with_reducible exact q | omega
              refine lv_if_ne (tgt := 115) hx hb dX12_compare_110 (by decide) (fun _ => ?_) (fun c => absurd c (by decide))
              replace hM := hM.pos (by decide)
              refine lv_iload_n hx hb dX12_compare_115 rfl (lv_at hl 2 rfl) ?_
              refine lv_bipush (v := 60) hx hb dX12_compare_116 (by decide) ?_
              refine lv_icmp_ne (tgt := 133) hx hb dX12_compare_118 (by decide) (fun c => (c (wk_eq.mpr (show r54.toInt = (60 : Int) by first | exact Int.le_antisymm (by omega) (by omega) | omega))).elim) (fun _ => ?_)
              replace hM := hM.neg (by omega)
              refine lv_iload_n hx hb dX12_compare_121 rfl (lv_at hl 0 rfl) ?_
              refine lv_if_eq (tgt := 129) hx hb dX12_compare_122 (by decide) (fun _ => ?_) (fun c => absurd (by decide) c)
              replace hM := hM.pos (by decide)
              refine lv_iconst (v := 0) hx hb dX12_compare_129 (by decide) ?_
              refine lv_goto (tgt := 152) hx hb dX12_compare_130 (by decide) ?_
              refine lv_istore (lv' := [(4, .int 0), (3, .int 0), (2, .int x62), (1, .int r54), (0, .ref (ad 0))]) hx hb dX12_compare_152 hl (by decide) rfl (fun ls hl => ?_)
              refine lv_aload_n hx hb dX12_compare_154 rfl (lv_at hl 4 rfl) ?_
              refine tk_Vi hC hK hw hT hA hE hSR kM_at0 (by decide) rfl (kz_X12_sum_1 l adK adV dC dI cy ad B hB0 (Int.le_trans hB1 (by decide)) qr s1    w206 H.size hT f0_ c217 (show 0 ≤ f0_.toInt from rf0_) (show f0_.toInt ≤ 5 from tf0_) x212 c213 (show 0 ≤ x212.toInt by first | with_reducible assumption | omega) (show x212.toInt ≤ 60 by first | with_reducible assumption | omega) x48 c219 (show 0 ≤ x48.toInt by first | with_reducible assumption | omega) (show x48.toInt ≤ 400 by first | with_reducible assumption | omega) (show 3 * x48.toInt ≤ 14 * x212.toInt + 60 by omega) (show x48.toInt ≤ 300 by first | with_reducible assumption | omega) gb ((gd) + 1) (by omega) (by omega) (OKW_cast hO (show (gd) + 1 = (gd) + 1 from rfl))) (cwV 0 hC.2.2.2.2 uV_RX12_183 rfl rfl rfl (by decide +kernel) ⟨Nat.le_of_ble_eq_true rfl, Nat.le_of_ble_eq_true rfl⟩) rfl hl.1 rfl (Nat.le_of_ble_eq_true rfl) dX12_compare_155 (fun r222 w224 H locs hp223 hw => ?_)
              obtain ⟨hT, k225, hv259, hg258⟩ := hp223
              have hF := hF.tr k225 (by decide)
              have c260 := k225.gi kM_at0 (by decide) c217
              have c261 := k225.gi kM_at0 (by decide) c218
              have c262 := k225.gi kM_at1 rfl c221
              rcases hg258 with ⟨rfl, ⟨x226, c227, rx226, tx226⟩, ⟨x228, c229, rx228, tx228⟩, ⟨x230, c231, rx230, tx230⟩, hq232⟩ | ⟨rfl, ⟨x233, c234, rx233, tx233⟩, ⟨x235, c236, rx235, tx235⟩, ⟨x237, c238, rx237, tx237⟩, hq239⟩ | ⟨rfl, ⟨x240, c241, rx240, tx240⟩, ⟨x242, c243, rx242, tx242⟩, ⟨x244, c245, rx244, tx244⟩, hq246, g247, g248⟩ | ⟨rfl, ⟨x249, c250, rx249, tx249⟩, ⟨x251, c252, rx251, tx251⟩, ⟨x253, c254, rx253, tx253⟩, hq255, g256, g257⟩
              · replace hM := hM.call (r' := 0) hv259 (by decide)
                have ex226 : x226.toInt = x19.toInt := by rw [← c261.symm.trans c227]
                have ex230 : x230.toInt = f0_.toInt := by rw [← c260.symm.trans c231]
                obtain ⟨x263, c264, rx263, tx263⟩ := hT.rda (lo := 0) (hi := 400) (i := (f0_.toInt).toNat) kM_at3 rfl rfl (by omega)
                obtain ⟨x265, c266, rx265, tx265⟩ := hT.rdi (lo := 0) (hi := 60) (k := 18) kM_at0 (by decide) rfl
                have hR := hq232
                refine lv_if_ne (tgt := 163) hx hb dX12_compare_158 (by decide) (fun c => absurd (by decide) c) (fun _ => ?_)
                replace hM := hM.neg (by decide)
                refine lv_iconst (v := 0) hx hb dX12_compare_161 (by decide) ?_
                exact tk_zret hC hr rfl hlocks hK ⟨hT, hF, hM.ret (by decide), (Or.inl ⟨rfl, ⟨x19, c261, (show 1 ≤ x19.toInt by first | with_reducible assumption | omega), (show x19.toInt ≤ 400 by first | with_reducible assumption | omega)⟩, ⟨x228, c229, (show 1 ≤ x228.toInt by first | with_reducible assumption | omega), (show x228.toInt ≤ 3205 by first | with_reducible assumption | omega)⟩, ⟨f0_, c260, (show 0 ≤ f0_.toInt from rf0_), (show f0_.toInt ≤ 5 from tf0_)⟩, hR⟩)⟩ hw dX12_compare_162
              · replace hM := hM.call (r' := 0) hv259 (by decide)
                have ex233 : x233.toInt = x19.toInt := by rw [← c261.symm.trans c234]
                have ex237 : x237.toInt = f0_.toInt := by rw [← c260.symm.trans c238]
                obtain ⟨x267, c268, rx267, tx267⟩ := hT.rda (lo := 0) (hi := 400) (i := (f0_.toInt).toNat) kM_at3 rfl rfl (by omega)
                obtain ⟨x269, c270, rx269, tx269⟩ := hT.rdi (lo := 0) (hi := 60) (k := 18) kM_at0 (by decide) rfl
                have hR := hq239
                refine lv_if_ne (tgt := 163) hx hb dX12_compare_158 (by decide) (fun c => absurd (by decide) c) (fun _ => ?_)
                replace hM := hM.neg (by decide)
                refine lv_iconst (v := 0) hx hb dX12_compare_161 (by decide) ?_
                exact tk_zret hC hr rfl hlocks hK ⟨hT, hF, hM.ret (by decide), (Or.inl ⟨rfl, ⟨x19, c261, (show 1 ≤ x19.toInt by first | with_reducible assumption | omega), (show x19.toInt ≤ 400 by first | with_reducible assumption | omega)⟩, ⟨x235, c236, (show 1 ≤ x235.toInt by first | with_reducible assumption | omega), (show x235.toInt ≤ 3205 by first | with_reducible assumption | omega)⟩, ⟨f0_, c260, (show 0 ≤ f0_.toInt from rf0_), (show f0_.toInt ≤ 5 from tf0_)⟩, hR⟩)⟩ hw dX12_compare_162
              · replace hM := hM.call (r' := 1) hv259 (by decide)
                have ex240 : x240.toInt = x19.toInt := by rw [← c261.symm.trans c241]
                have ex242 : x242.toInt = f0_.toInt := by rw [← c260.symm.trans c243]
                obtain ⟨x271, c272, rx271, tx271⟩ := hT.rda (lo := 0) (hi := 400) (i := (f0_.toInt).toNat) kM_at3 rfl rfl (by omega)
                have g247 : 3 * x271.toInt + 11 ≤ 3 * x48.toInt + 14 * (x244.toInt - x212.toInt) := by have q := g247; simp only [c217, c260, c219, c272, c213, c245] at q; first | with_reducible exact q | omega
                have g248 : x212.toInt + 1 ≤ x244.toInt := by have q := g248; simp only [c217, c260, c213, c245] at q; first | with_reducible exact q | omega
                have hO : OKW w224 f0_.toInt gb (((gd) + 1) + 1) := by have q := hq246; exact OKW_cast q (by omega)
                refine lv_if_ne (tgt := 163) hx hb dX12_compare_158 (by decide) (fun _ => ?_) (fun c => absurd c (by decide))
                replace hM := hM.pos (by decide)
                refine lv_aload_n hx hb dX12_compare_163 rfl (lv_at hl 4 rfl) ?_
                refine lv_bipush (v := 6) hx hb dX12_compare_164 (by decide) ?_
                refine lv_iload hx hb dX12_compare_166 (lv_at hl 0 rfl) ?_
                refine lv_iadd hx hb dX12_compare_168 ?_
                refine wk_top 6 (by decide) ?_
                replace hM := hM.lt (v := 6) (by decide)
                refine lv_iconst (v := 0) hx hb dX12_compare_169 (by decide) ?_
                refine tk_Vv hC hK hw hT hA hE hSR kM_at0 (by decide) rfl (kz_X12_puts_1 l adK adV dC dI cy ad B hB0 (Int.le_trans hB1 (by decide)) qr s1   6 (by decide) (by decide) 0 (by decide) (by decide) w224 H.size hT f0_ c260 (show 0 ≤ f0_.toInt from rf0_) (show f0_.toInt ≤ 5 from tf0_) x271 c272 (show 0 ≤ x271.toInt by first | with_reducible assumption | omega) (show x271.toInt ≤ 400 by first | with_reducible assumption | omega) (show x271.toInt ≤ 399 by first | with_reducible assumption | omega)) (cwV 2 hC.2.2.2.2 uV_RX12_162 rfl rfl rfl (by decide +kernel) ⟨Nat.le_of_ble_eq_true rfl, Nat.le_of_ble_eq_true rfl⟩) rfl hl.1 rfl (Nat.le_of_ble_eq_true rfl) dX12_compare_170 (fun w277 H locs hp276 hw => ?_)
                obtain ⟨hT, k278, hv284, hg283⟩ := hp276
                try simp only [show (6 : Int32).toInt = 6 by decide] at hv284
                try simp only [show (0 : Int32).toInt = 0 by decide] at hv284
                have hF := hF.tr k278 (by decide)
                have c285 := k278.gi kM_at0 (by decide) c260
                have c286 := k278.gi kM_at0 (by decide) c261
                have c287 := k278.gi kM_at1 rfl c262
                have c288 := k278.gi kM_at0 (by decide) c245
                obtain ⟨⟨x279, c280, rx279, tx279⟩, hq281, g282⟩ := hg283
                replace hM := hM.call hv284 rfl
                have ex279 : x279.toInt = f0_.toInt := by rw [← c285.symm.trans c280]
                obtain ⟨x289, c290, rx289, tx289⟩ := hT.rda (lo := 0) (hi := 400) (i := (f0_.toInt).toNat) kM_at3 rfl rfl (by omega)
                have g282 : x289.toInt = x271.toInt + 1 := by have q := g282; simp only [c260, c285, c272, c290] at q; first | with_reducible exact q | omega
                have hO : OKW w277 f0_.toInt gb ((((gd) + 1) + 1) - 1) := OKW_put hO (by have q := hq281; rw [c260] at q; exact q) (by rw [c272]; omega) (fun x hx => by simp only [(show (6 : Int32).toInt = 6 by decide), (show (0 : Int32).toInt = 0 by decide)] at hx; exact okT_bin (by omega) (by omega) (by omega) (by omega)) (by omega) (by omega)
                refine lv_iconst (v := 1) hx hb dX12_compare_173 (by decide) ?_
                exact tk_zret hC hr rfl hlocks hK ⟨hT, hF, hM.ret (by decide), (Or.inr (Or.inr ⟨rfl, ⟨x19, c286, (show 1 ≤ x19.toInt by first | with_reducible assumption | omega), (show x19.toInt ≤ 400 by first | with_reducible assumption | omega)⟩, ⟨f0_, c285, (show 0 ≤ f0_.toInt from rf0_), (show f0_.toInt ≤ 5 from tf0_)⟩, ⟨x244, c288, (show 1 ≤ x244.toInt by first | with_reducible assumption | omega), (show x244.toInt ≤ 60 by first | with_reducible assumption | omega)⟩, (OKW_cast hO (by omega)), (by simp only [c285, cf0_, cf2_, c290, cf1_, c288]; omega), (by simp only [c285, cf0_, cf1_, c288]; omega)⟩))⟩ hw dX12_compare_174
              · replace hM := hM.call (r' := 1) hv259 (by decide)
                have ex249 : x249.toInt = x19.toInt := by rw [← c261.symm.trans c250]
                have ex251 : x251.toInt = f0_.toInt := by rw [← c260.symm.trans c252]
                obtain ⟨x273, c274, rx273, tx273⟩ := hT.rda (lo := 0) (hi := 400) (i := (f0_.toInt).toNat) kM_at3 rfl rfl (by omega)
                have g256 : 3 * x273.toInt + 11 ≤ 3 * x48.toInt + 14 * (x253.toInt - x212.toInt) := by have q := g256; simp only [c217, c260, c219, c274, c213, c254] at q; first | with_reducible exact q | omega
                have g257 : x212.toInt + 1 ≤ x253.toInt := by have q := g257; simp only [c217, c260, c213, c254] at q; first | with_reducible exact q | omega
                have hO : OKW w224 f0_.toInt gb (((gd) + 1) + 1) := by have q := hq255; exact OKW_cast q (by omega)
                refine lv_if_ne (tgt := 163) hx hb dX12_compare_158 (by decide) (fun _ => ?_) (fun c => absurd c (by decide))
                replace hM := hM.pos (by decide)
                refine lv_aload_n hx hb dX12_compare_163 rfl (lv_at hl 4 rfl) ?_
                refine lv_bipush (v := 6) hx hb dX12_compare_164 (by decide) ?_
                refine lv_iload hx hb dX12_compare_166 (lv_at hl 0 rfl) ?_
                refine lv_iadd hx hb dX12_compare_168 ?_
                refine wk_top 6 (by decide) ?_
                replace hM := hM.lt (v := 6) (by decide)
                refine lv_iconst (v := 0) hx hb dX12_compare_169 (by decide) ?_
                refine tk_Vv hC hK hw hT hA hE hSR kM_at0 (by decide) rfl (kz_X12_puts_1 l adK adV dC dI cy ad B hB0 (Int.le_trans hB1 (by decide)) qr s1   6 (by decide) (by decide) 0 (by decide) (by decide) w224 H.size hT f0_ c260 (show 0 ≤ f0_.toInt from rf0_) (show f0_.toInt ≤ 5 from tf0_) x273 c274 (show 0 ≤ x273.toInt by first | with_reducible assumption | omega) (show x273.toInt ≤ 400 by first | with_reducible assumption | omega) (show x273.toInt ≤ 399 by first | with_reducible assumption | omega)) (cwV 2 hC.2.2.2.2 uV_RX12_162 rfl rfl rfl (by decide +kernel) ⟨Nat.le_of_ble_eq_true rfl, Nat.le_of_ble_eq_true rfl⟩) rfl hl.1 rfl (Nat.le_of_ble_eq_true rfl) dX12_compare_170 (fun w293 H locs hp292 hw => ?_)
                obtain ⟨hT, k294, hv300, hg299⟩ := hp292
                try simp only [show (6 : Int32).toInt = 6 by decide] at hv300
                try simp only [show (0 : Int32).toInt = 0 by decide] at hv300
                have hF := hF.tr k294 (by decide)
                have c301 := k294.gi kM_at0 (by decide) c260
                have c302 := k294.gi kM_at0 (by decide) c261
                have c303 := k294.gi kM_at1 rfl c262
                have c304 := k294.gi kM_at0 (by decide) c254
                obtain ⟨⟨x295, c296, rx295, tx295⟩, hq297, g298⟩ := hg299
                replace hM := hM.call hv300 rfl
                have ex295 : x295.toInt = f0_.toInt := by rw [← c301.symm.trans c296]
                obtain ⟨x305, c306, rx305, tx305⟩ := hT.rda (lo := 0) (hi := 400) (i := (f0_.toInt).toNat) kM_at3 rfl rfl (by omega)
                have g298 : x305.toInt = x273.toInt + 1 := by have q := g298; simp only [c260, c301, c274, c306] at q; first | with_reducible exact q | omega
                have hO : OKW w293 f0_.toInt gb ((((gd) + 1) + 1) - 1) := OKW_put hO (by have q := hq297; rw [c260] at q; exact q) (by rw [c274]; omega) (fun x hx => by simp only [(show (6 : Int32).toInt = 6 by decide), (show (0 : Int32).toInt = 0 by decide)] at hx; exact okT_bin (by omega) (by omega) (by omega) (by omega)) (by omega) (by omega)
                refine lv_iconst (v := 1) hx hb dX12_compare_173 (by decide) ?_
                exact tk_zret hC hr rfl hlocks hK ⟨hT, hF, hM.ret (by decide), (Or.inr (Or.inr ⟨rfl, ⟨x19, c302, (show 1 ≤ x19.toInt by first | with_reducible assumption | omega), (show x19.toInt ≤ 400 by first | with_reducible assumption | omega)⟩, ⟨f0_, c301, (show 0 ≤ f0_.toInt from rf0_), (show f0_.toInt ≤ 5 from tf0_)⟩, ⟨x253, c304, (show 1 ≤ x253.toInt by first | with_reducible assumption | omega), (show x253.toInt ≤ 60 by first | with_reducible assumption | omega)⟩, (OKW_cast hO (by omega)), (by simp only [c301, cf0_, cf2_, c306, cf1_, c304]; omega), (by simp only [c301, cf0_, cf1_, c304]; omega)⟩))⟩ hw dX12_compare_174
          · have c203 : x201.toInt = (61 : Int) := wk_eq.mp c203
            replace hM := hM.neg (fun q => q c203)
            refine lv_iconst (v := 1) hx hb dX12_compare_85 (by decide) ?_
            refine lv_goto (tgt := 90) hx hb dX12_compare_86 (by decide) ?_
            refine lv_istore_n (lv' := [(3, .int 1), (2, .int x62), (1, .int r54), (0, .ref (ad 0))]) hx hb dX12_compare_90 rfl hl (by decide) rfl (fun ls hl => ?_)
            refine lv_iload_n hx hb dX12_compare_91 rfl (lv_at hl 0 rfl) ?_
            refine lv_if_eq (tgt := 105) hx hb dX12_compare_92 (by decide) (fun c => absurd c (by decide)) (fun _ => ?_)
            replace hM := hM.neg (by decide)
            refine lv_aload_n hx hb dX12_compare_95 rfl (lv_at hl 3 rfl) ?_
            refine lv_dup hx hb dX12_compare_96 rfl ?_
            refine tk_geti hC hK hw hT hinX12 kM_at0 (by decide) rfl 14 (by decide) (List.mem_cons_of_mem _ uw_19_18) rfl rfl dX12_compare_97 (fun x307 c308 rx307 tx307 => ?_)
            refine wk_top x87 (c308.symm.trans c89) ?_
            replace hM := hM.rd (sI_at c89)
            refine lv_iconst (v := 1) hx hb dX12_compare_100 (by decide) ?_
            refine lv_iadd hx hb dX12_compare_101 ?_
            refine lv_topi (fun x309 ex309 => ?_)
            have ezx309 := ex309
            have ex309 : x309.toInt = x87.toInt + (1 : Int) := by rw [ex309]; exact wk_add (show (-2147483648) ≤ x87.toInt + (1 : Int) by omega) (show x87.toInt + (1 : Int) ≤ 2147483647 by omega)
            replace hM := hM.lt ex309.symm
            refine tk_puti hC hK hw hT hinX12 tyX12_ok nmX12 kM_at0 (by decide) rfl rfl 14 (by decide) (List.mem_cons_of_mem _ uw_19_18) rfl rfl rfl rfl (show 0 ≤ x309.toInt by first | with_reducible assumption | omega) (show x309.toInt ≤ 400 by first | with_reducible assumption | omega) dX12_compare_102 (fun H locs w310 hw hT k312 c311 => ?_)
            replace hM := hM.wr (sI_up k312 c311)
            have hO := OKW_F1 k312 (by decide) (by decide) (by decide) (by decide) hO
            have hF := hF.put kM_at0 (k := 14) (by decide) k312
            have c313 := k312.gi (Or.inr (by decide)) c91
            have c314 := k312.gi (Or.inr (by decide)) c92
            have c315 := k312.gi (Or.inr (by decide)) c93
            have c316 := k312.gi (Or.inl (tk_ne kM_at3 kM_at0 (by decide))) c94
            have c317 := k312.gi (Or.inl (tk_ne kM_at1 kM_at0 (by decide))) c202
            refine lv_aload_n hx hb dX12_compare_105 rfl (lv_at hl 3 rfl) ?_
            refine lv_iload_n hx hb dX12_compare_106 rfl (lv_at hl 1 rfl) ?_
            refine tk_Vi hC hK hw hT hA hE hSR kM_at0 (by decide) rfl (kz_X12_makes_4 l adK adV dC dI cy ad B hB0 (Int.le_trans hB1 (by decide)) qr s1   x62 (show 0 ≤ x62.toInt by first | with_reducible assumption | omega) (show x62.toInt ≤ 398 by first | with_reducible assumption | omega) w310 H.size hT x23 c315 (show 0 ≤ x23.toInt by first | with_reducible assumption | omega) (show x23.toInt ≤ 60 by first | with_reducible assumption | omega)) (cwV 1 hC.2.2.2.2 uV_RX12_170 rfl rfl rfl (by decide +kernel) ⟨Nat.le_of_ble_eq_true rfl, Nat.le_of_ble_eq_true rfl⟩) rfl hl.1 rfl (Nat.le_of_ble_eq_true rfl) dX12_compare_107 (fun r318 w320 H locs hp319 hw => ?_)
            obtain ⟨hT, k321, hv330, hg329⟩ := hp319
            have hO := OKW_FE k321 (fun _ => rfl) (fun _ => rfl) (fun _ => rfl) (fun _ => rfl) hO
            have hF := hF.tr k321 (by decide)
            have c331 := k321.gi kM_at0 (by decide) c313
            have c332 := k321.gi kM_at0 (by decide) c314
            have c333 := k321.gi kM_at3 rfl c316
            have c334 := k321.gi kM_at1 rfl c317
            have c335 := k321.gi kM_at0 (by decide) c311
            rcases hg329 with ⟨rfl, ⟨x322, c323, rx322, tx322⟩, ⟨x324, c325, rx324, tx324⟩⟩ | ⟨rfl, ⟨x326, c327, rx326, tx326⟩, g328⟩
            · replace hM := hM.call (r' := 0) hv330 (by decide)
              refine lv_if_ne (tgt := 115) hx hb dX12_compare_110 (by decide) (fun c => absurd (by decide) c) (fun _ => ?_)
              replace hM := hM.neg (by decide)
              refine lv_iconst (v := 0) hx hb dX12_compare_113 (by decide) ?_
              exact tk_zret hC hr rfl hlocks hK ⟨hT, hF, hM.ret (by decide), (Or.inl ⟨rfl, ⟨x19, c332, (show 1 ≤ x19.toInt by first | with_reducible assumption | omega), (show x19.toInt ≤ 400 by first | with_reducible assumption | omega)⟩, ⟨x322, c323, (show 1 ≤ x322.toInt by first | with_reducible assumption | omega), (show x322.toInt ≤ 3205 by first | with_reducible assumption | omega)⟩, ⟨f0_, c331, (show 0 ≤ f0_.toInt from rf0_), (show f0_.toInt ≤ 5 from tf0_)⟩, hO.1⟩)⟩ hw dX12_compare_114
            · replace hM := hM.call (r' := 1) hv330 (by decide)
              have g328 : x326.toInt = x23.toInt + 1 := by have q := g328; simp only [c313, c331, c315, c327] at q; first | with_reducible exact q | omega
              refine lv_if_ne (tgt := 115) hx hb dX12_compare_110 (by decide) (fun _ => ?_) (fun c => absurd c (by decide))
              replace hM := hM.pos (by decide)
              refine lv_iload_n hx hb dX12_compare_115 rfl (lv_at hl 2 rfl) ?_
              refine lv_bipush (v := 60) hx hb dX12_compare_116 (by decide) ?_
              refine lv_icmp_ne (tgt := 133) hx hb dX12_compare_118 (by decide) (fun c => (c (wk_eq.mpr (show r54.toInt = (60 : Int) by first | exact Int.le_antisymm (by omega) (by omega) | omega))).elim) (fun _ => ?_)
              replace hM := hM.neg (by omega)
              refine lv_iload_n hx hb dX12_compare_121 rfl (lv_at hl 0 rfl) ?_
              refine lv_if_eq (tgt := 129) hx hb dX12_compare_122 (by decide) (fun c => absurd c (by decide)) (fun _ => ?_)
              replace hM := hM.neg (by decide)
              refine lv_iconst (v := 1) hx hb dX12_compare_125 (by decide) ?_
              refine lv_goto (tgt := 152) hx hb dX12_compare_126 (by decide) ?_
              refine lv_istore (lv' := [(4, .int 1), (3, .int 1), (2, .int x62), (1, .int r54), (0, .ref (ad 0))]) hx hb dX12_compare_152 hl (by decide) rfl (fun ls hl => ?_)
              refine lv_aload_n hx hb dX12_compare_154 rfl (lv_at hl 4 rfl) ?_
              refine tk_Vi hC hK hw hT hA hE hSR kM_at0 (by decide) rfl (kz_X12_sum_1 l adK adV dC dI cy ad B hB0 (Int.le_trans hB1 (by decide)) qr s1    w320 H.size hT f0_ c331 (show 0 ≤ f0_.toInt from rf0_) (show f0_.toInt ≤ 5 from tf0_) x326 c327 (show 0 ≤ x326.toInt by first | with_reducible assumption | omega) (show x326.toInt ≤ 60 by first | with_reducible assumption | omega) x48 c333 (show 0 ≤ x48.toInt by first | with_reducible assumption | omega) (show x48.toInt ≤ 400 by first | with_reducible assumption | omega) (show 3 * x48.toInt ≤ 14 * x326.toInt + 60 by omega) (show x48.toInt ≤ 300 by first | with_reducible assumption | omega) gb ((gd) + 1) (by omega) (by omega) (OKW_cast hO (show (gd) + 1 = (gd) + 1 from rfl))) (cwV 0 hC.2.2.2.2 uV_RX12_183 rfl rfl rfl (by decide +kernel) ⟨Nat.le_of_ble_eq_true rfl, Nat.le_of_ble_eq_true rfl⟩) rfl hl.1 rfl (Nat.le_of_ble_eq_true rfl) dX12_compare_155 (fun r336 w338 H locs hp337 hw => ?_)
              obtain ⟨hT, k339, hv373, hg372⟩ := hp337
              have hF := hF.tr k339 (by decide)
              have c374 := k339.gi kM_at0 (by decide) c331
              have c375 := k339.gi kM_at0 (by decide) c332
              have c376 := k339.gi kM_at1 rfl c334
              rcases hg372 with ⟨rfl, ⟨x340, c341, rx340, tx340⟩, ⟨x342, c343, rx342, tx342⟩, ⟨x344, c345, rx344, tx344⟩, hq346⟩ | ⟨rfl, ⟨x347, c348, rx347, tx347⟩, ⟨x349, c350, rx349, tx349⟩, ⟨x351, c352, rx351, tx351⟩, hq353⟩ | ⟨rfl, ⟨x354, c355, rx354, tx354⟩, ⟨x356, c357, rx356, tx356⟩, ⟨x358, c359, rx358, tx358⟩, hq360, g361, g362⟩ | ⟨rfl, ⟨x363, c364, rx363, tx363⟩, ⟨x365, c366, rx365, tx365⟩, ⟨x367, c368, rx367, tx367⟩, hq369, g370, g371⟩
              · replace hM := hM.call (r' := 0) hv373 (by decide)
                have ex340 : x340.toInt = x19.toInt := by rw [← c375.symm.trans c341]
                have ex344 : x344.toInt = f0_.toInt := by rw [← c374.symm.trans c345]
                obtain ⟨x377, c378, rx377, tx377⟩ := hT.rda (lo := 0) (hi := 400) (i := (f0_.toInt).toNat) kM_at3 rfl rfl (by omega)
                obtain ⟨x379, c380, rx379, tx379⟩ := hT.rdi (lo := 0) (hi := 60) (k := 18) kM_at0 (by decide) rfl
                have hR := hq346
                refine lv_if_ne (tgt := 163) hx hb dX12_compare_158 (by decide) (fun c => absurd (by decide) c) (fun _ => ?_)
                replace hM := hM.neg (by decide)
                refine lv_iconst (v := 0) hx hb dX12_compare_161 (by decide) ?_
                exact tk_zret hC hr rfl hlocks hK ⟨hT, hF, hM.ret (by decide), (Or.inl ⟨rfl, ⟨x19, c375, (show 1 ≤ x19.toInt by first | with_reducible assumption | omega), (show x19.toInt ≤ 400 by first | with_reducible assumption | omega)⟩, ⟨x342, c343, (show 1 ≤ x342.toInt by first | with_reducible assumption | omega), (show x342.toInt ≤ 3205 by first | with_reducible assumption | omega)⟩, ⟨f0_, c374, (show 0 ≤ f0_.toInt from rf0_), (show f0_.toInt ≤ 5 from tf0_)⟩, hR⟩)⟩ hw dX12_compare_162
              · replace hM := hM.call (r' := 0) hv373 (by decide)
                have ex347 : x347.toInt = x19.toInt := by rw [← c375.symm.trans c348]
                have ex351 : x351.toInt = f0_.toInt := by rw [← c374.symm.trans c352]
                obtain ⟨x381, c382, rx381, tx381⟩ := hT.rda (lo := 0) (hi := 400) (i := (f0_.toInt).toNat) kM_at3 rfl rfl (by omega)
                obtain ⟨x383, c384, rx383, tx383⟩ := hT.rdi (lo := 0) (hi := 60) (k := 18) kM_at0 (by decide) rfl
                have hR := hq353
                refine lv_if_ne (tgt := 163) hx hb dX12_compare_158 (by decide) (fun c => absurd (by decide) c) (fun _ => ?_)
                replace hM := hM.neg (by decide)
                refine lv_iconst (v := 0) hx hb dX12_compare_161 (by decide) ?_
                exact tk_zret hC hr rfl hlocks hK ⟨hT, hF, hM.ret (by decide), (Or.inl ⟨rfl, ⟨x19, c375, (show 1 ≤ x19.toInt by first | with_reducible assumption | omega), (show x19.toInt ≤ 400 by first | with_reducible assumption | omega)⟩, ⟨x349, c350, (show 1 ≤ x349.toInt by first | with_reducible assumption | omega), (show x349.toInt ≤ 3205 by first | with_reducible assumption | omega)⟩, ⟨f0_, c374, (show 0 ≤ f0_.toInt from rf0_), (show f0_.toInt ≤ 5 from tf0_)⟩, hR⟩)⟩ hw dX12_compare_162
              · replace hM := hM.call (r' := 1) hv373 (by decide)
                have ex354 : x354.toInt = x19.toInt := by rw [← c375.symm.trans c355]
                have ex356 : x356.toInt = f0_.toInt := by rw [← c374.symm.trans c357]
                obtain ⟨x385, c386, rx385, tx385⟩ := hT.rda (lo := 0) (hi := 400) (i := (f0_.toInt).toNat) kM_at3 rfl rfl (by omega)
                have g361 : 3 * x385.toInt + 11 ≤ 3 * x48.toInt + 14 * (x358.toInt - x326.toInt) := by have q := g361; simp only [c331, c374, c333, c386, c327, c359] at q; first | with_reducible exact q | omega
                have g362 : x326.toInt + 1 ≤ x358.toInt := by have q := g362; simp only [c331, c374, c327, c359] at q; first | with_reducible exact q | omega
                have hO : OKW w338 f0_.toInt gb (((gd) + 1) + 1) := by have q := hq360; exact OKW_cast q (by omega)
                refine lv_if_ne (tgt := 163) hx hb dX12_compare_158 (by decide) (fun _ => ?_) (fun c => absurd c (by decide))
                replace hM := hM.pos (by decide)
                refine lv_aload_n hx hb dX12_compare_163 rfl (lv_at hl 4 rfl) ?_
                refine lv_bipush (v := 6) hx hb dX12_compare_164 (by decide) ?_
                refine lv_iload hx hb dX12_compare_166 (lv_at hl 0 rfl) ?_
                refine lv_iadd hx hb dX12_compare_168 ?_
                refine wk_top 7 (by decide) ?_
                replace hM := hM.lt (v := 7) (by decide)
                refine lv_iconst (v := 0) hx hb dX12_compare_169 (by decide) ?_
                refine tk_Vv hC hK hw hT hA hE hSR kM_at0 (by decide) rfl (kz_X12_puts_1 l adK adV dC dI cy ad B hB0 (Int.le_trans hB1 (by decide)) qr s1   7 (by decide) (by decide) 0 (by decide) (by decide) w338 H.size hT f0_ c374 (show 0 ≤ f0_.toInt from rf0_) (show f0_.toInt ≤ 5 from tf0_) x385 c386 (show 0 ≤ x385.toInt by first | with_reducible assumption | omega) (show x385.toInt ≤ 400 by first | with_reducible assumption | omega) (show x385.toInt ≤ 399 by first | with_reducible assumption | omega)) (cwV 2 hC.2.2.2.2 uV_RX12_162 rfl rfl rfl (by decide +kernel) ⟨Nat.le_of_ble_eq_true rfl, Nat.le_of_ble_eq_true rfl⟩) rfl hl.1 rfl (Nat.le_of_ble_eq_true rfl) dX12_compare_170 (fun w391 H locs hp390 hw => ?_)
                obtain ⟨hT, k392, hv398, hg397⟩ := hp390
                try simp only [show (7 : Int32).toInt = 7 by decide] at hv398
                try simp only [show (0 : Int32).toInt = 0 by decide] at hv398
                have hF := hF.tr k392 (by decide)
                have c399 := k392.gi kM_at0 (by decide) c374
                have c400 := k392.gi kM_at0 (by decide) c375
                have c401 := k392.gi kM_at1 rfl c376
                have c402 := k392.gi kM_at0 (by decide) c359
                obtain ⟨⟨x393, c394, rx393, tx393⟩, hq395, g396⟩ := hg397
                replace hM := hM.call hv398 rfl
                have ex393 : x393.toInt = f0_.toInt := by rw [← c399.symm.trans c394]
                obtain ⟨x403, c404, rx403, tx403⟩ := hT.rda (lo := 0) (hi := 400) (i := (f0_.toInt).toNat) kM_at3 rfl rfl (by omega)
                have g396 : x403.toInt = x385.toInt + 1 := by have q := g396; simp only [c374, c399, c386, c404] at q; first | with_reducible exact q | omega
                have hO : OKW w391 f0_.toInt gb ((((gd) + 1) + 1) - 1) := OKW_put hO (by have q := hq395; rw [c374] at q; exact q) (by rw [c386]; omega) (fun x hx => by simp only [(show (7 : Int32).toInt = 7 by decide), (show (0 : Int32).toInt = 0 by decide)] at hx; exact okT_bin (by omega) (by omega) (by omega) (by omega)) (by omega) (by omega)
                refine lv_iconst (v := 1) hx hb dX12_compare_173 (by decide) ?_
                exact tk_zret hC hr rfl hlocks hK ⟨hT, hF, hM.ret (by decide), (Or.inr (Or.inr ⟨rfl, ⟨x19, c400, (show 1 ≤ x19.toInt by first | with_reducible assumption | omega), (show x19.toInt ≤ 400 by first | with_reducible assumption | omega)⟩, ⟨f0_, c399, (show 0 ≤ f0_.toInt from rf0_), (show f0_.toInt ≤ 5 from tf0_)⟩, ⟨x358, c402, (show 1 ≤ x358.toInt by first | with_reducible assumption | omega), (show x358.toInt ≤ 60 by first | with_reducible assumption | omega)⟩, (OKW_cast hO (by omega)), (by simp only [c399, cf0_, cf2_, c404, cf1_, c402]; omega), (by simp only [c399, cf0_, cf1_, c402]; omega)⟩))⟩ hw dX12_compare_174
              · replace hM := hM.call (r' := 1) hv373 (by decide)
                have ex363 : x363.toInt = x19.toInt := by rw [← c375.symm.trans c364]
                have ex365 : x365.toInt = f0_.toInt := by rw [← c374.symm.trans c366]
                obtain ⟨x387, c388, rx387, tx387⟩ := hT.rda (lo := 0) (hi := 400) (i := (f0_.toInt).toNat) kM_at3 rfl rfl (by omega)
                have g370 : 3 * x387.toInt + 11 ≤ 3 * x48.toInt + 14 * (x367.toInt - x326.toInt) := by have q := g370; simp only [c331, c374, c333, c388, c327, c368] at q; first | with_reducible exact q | omega
                have g371 : x326.toInt + 1 ≤ x367.toInt := by have q := g371; simp only [c331, c374, c327, c368] at q; first | with_reducible exact q | omega
                have hO : OKW w338 f0_.toInt gb (((gd) + 1) + 1) := by have q := hq369; exact OKW_cast q (by omega)
                refine lv_if_ne (tgt := 163) hx hb dX12_compare_158 (by decide) (fun _ => ?_) (fun c => absurd c (by decide))
                replace hM := hM.pos (by decide)
                refine lv_aload_n hx hb dX12_compare_163 rfl (lv_at hl 4 rfl) ?_
                refine lv_bipush (v := 6) hx hb dX12_compare_164 (by decide) ?_
                refine lv_iload hx hb dX12_compare_166 (lv_at hl 0 rfl) ?_
                refine lv_iadd hx hb dX12_compare_168 ?_
                refine wk_top 7 (by decide) ?_
                replace hM := hM.lt (v := 7) (by decide)
                refine lv_iconst (v := 0) hx hb dX12_compare_169 (by decide) ?_
                refine tk_Vv hC hK hw hT hA hE hSR kM_at0 (by decide) rfl (kz_X12_puts_1 l adK adV dC dI cy ad B hB0 (Int.le_trans hB1 (by decide)) qr s1   7 (by decide) (by decide) 0 (by decide) (by decide) w338 H.size hT f0_ c374 (show 0 ≤ f0_.toInt from rf0_) (show f0_.toInt ≤ 5 from tf0_) x387 c388 (show 0 ≤ x387.toInt by first | with_reducible assumption | omega) (show x387.toInt ≤ 400 by first | with_reducible assumption | omega) (show x387.toInt ≤ 399 by first | with_reducible assumption | omega)) (cwV 2 hC.2.2.2.2 uV_RX12_162 rfl rfl rfl (by decide +kernel) ⟨Nat.le_of_ble_eq_true rfl, Nat.le_of_ble_eq_true rfl⟩) rfl hl.1 rfl (Nat.le_of_ble_eq_true rfl) dX12_compare_170 (fun w407 H locs hp406 hw => ?_)
                obtain ⟨hT, k408, hv414, hg413⟩ := hp406
                try simp only [show (7 : Int32).toInt = 7 by decide] at hv414
                try simp only [show (0 : Int32).toInt = 0 by decide] at hv414
                have hF := hF.tr k408 (by decide)
                have c415 := k408.gi kM_at0 (by decide) c374
                have c416 := k408.gi kM_at0 (by decide) c375
                have c417 := k408.gi kM_at1 rfl c376
                have c418 := k408.gi kM_at0 (by decide) c368
                obtain ⟨⟨x409, c410, rx409, tx409⟩, hq411, g412⟩ := hg413
                replace hM := hM.call hv414 rfl
                have ex409 : x409.toInt = f0_.toInt := by rw [← c415.symm.trans c410]
                obtain ⟨x419, c420, rx419, tx419⟩ := hT.rda (lo := 0) (hi := 400) (i := (f0_.toInt).toNat) kM_at3 rfl rfl (by omega)
                have g412 : x419.toInt = x387.toInt + 1 := by have q := g412; simp only [c374, c415, c388, c420] at q; first | with_reducible exact q | omega
                have hO : OKW w407 f0_.toInt gb ((((gd) + 1) + 1) - 1) := OKW_put hO (by have q := hq411; rw [c374] at q; exact q) (by rw [c388]; omega) (fun x hx => by simp only [(show (7 : Int32).toInt = 7 by decide), (show (0 : Int32).toInt = 0 by decide)] at hx; exact okT_bin (by omega) (by omega) (by omega) (by omega)) (by omega) (by omega)
                refine lv_iconst (v := 1) hx hb dX12_compare_173 (by decide) ?_
                exact tk_zret hC hr rfl hlocks hK ⟨hT, hF, hM.ret (by decide), (Or.inr (Or.inr ⟨rfl, ⟨x19, c416, (show 1 ≤ x19.toInt by first | with_reducible assumption | omega), (show x19.toInt ≤ 400 by first | with_reducible assumption | omega)⟩, ⟨f0_, c415, (show 0 ≤ f0_.toInt from rf0_), (show f0_.toInt ≤ 5 from tf0_)⟩, ⟨x367, c418, (show 1 ≤ x367.toInt by first | with_reducible assumption | omega), (show x367.toInt ≤ 60 by first | with_reducible assumption | omega)⟩, (OKW_cast hO (by omega)), (by simp only [c415, cf0_, cf2_, c420, cf1_, c418]; omega), (by simp only [c415, cf0_, cf1_, c418]; omega)⟩))⟩ hw dX12_compare_174
      · have c84 : ¬ r54.toInt = (60 : Int) := wk_eqF c84
        replace hM := hM.neg c84
        refine lv_iload_n hx hb dX12_compare_25 rfl (lv_at hl 1 rfl) ?_
        refine lv_bipush (v := 61) hx hb dX12_compare_26 (by decide) ?_
        refine lv_icmp_eq (tgt := 44) hx hb dX12_compare_28 (by decide) (fun c421 => ?_) (fun c421 => ?_)
        · have c421 : r54.toInt = (61 : Int) := wk_eq.mp c421
          replace hM := hM.pos c421
          refine lv_aload_n hx hb dX12_compare_44 rfl (lv_at hl 2 rfl) ?_
          refine lv_dup hx hb dX12_compare_45 rfl ?_
          refine tk_geti hC hK hw hT hinX12 kM_at0 (by decide) rfl 14 (by decide) (List.mem_cons_of_mem _ uw_19_18) rfl rfl dX12_compare_46 (fun x422 c423 rx422 tx422 => ?_)
          refine wk_top x62 (c423.symm.trans c63) ?_
          replace hM := hM.rd (sI_at c63)
          refine lv_iconst (v := 1) hx hb dX12_compare_49 (by decide) ?_
          refine lv_iadd hx hb dX12_compare_50 ?_
          refine lv_topi (fun x424 ex424 => ?_)
          have ezx424 := ex424
          have ex424 : x424.toInt = x62.toInt + (1 : Int) := by rw [ex424]; exact wk_add (show (-2147483648) ≤ x62.toInt + (1 : Int) by omega) (show x62.toInt + (1 : Int) ≤ 2147483647 by omega)
          replace hM := hM.lt ex424.symm
          refine tk_puti hC hK hw hT hinX12 tyX12_ok nmX12 kM_at0 (by decide) rfl rfl 14 (by decide) (List.mem_cons_of_mem _ uw_19_18) rfl rfl rfl rfl (show 0 ≤ x424.toInt by first | with_reducible assumption | omega) (show x424.toInt ≤ 400 by first | with_reducible assumption | omega) dX12_compare_51 (fun H locs w425 hw hT k427 c426 => ?_)
          replace hM := hM.wr (sI_up k427 c426)
          have hO := OKW_F1 k427 (by decide) (by decide) (by decide) (by decide) hO
          have hF := hF.put kM_at0 (k := 14) (by decide) k427
          have c428 := k427.gi (Or.inr (by decide)) c76
          have c429 := k427.gi (Or.inr (by decide)) c77
          have c430 := k427.gi (Or.inr (by decide)) c78
          have c431 := k427.gi (Or.inl (tk_ne kM_at3 kM_at0 (by decide))) c79
          refine lv_iload_n hx hb dX12_compare_54 rfl (lv_at hl 1 rfl) ?_
          refine lv_bipush (v := 61) hx hb dX12_compare_55 (by decide) ?_
          refine lv_icmp_eq (tgt := 89) hx hb dX12_compare_57 (by decide) (fun _ => ?_) (fun c => (c (wk_eq.mpr (show r54.toInt = (61 : Int) by first | exact Int.le_antisymm (by omega) (by omega) | omega))).elim)
          replace hM := hM.pos (by omega)
          refine lv_iconst (v := 0) hx hb dX12_compare_89 (by decide) ?_
          refine lv_istore_n (lv' := [(3, .int 0), (2, .int x62), (1, .int r54), (0, .ref (ad 0))]) hx hb dX12_compare_90 rfl hl (by decide) rfl (fun ls hl => ?_)
          refine lv_iload_n hx hb dX12_compare_91 rfl (lv_at hl 0 rfl) ?_
          refine lv_if_eq (tgt := 105) hx hb dX12_compare_92 (by decide) (fun _ => ?_) (fun c => absurd (by decide) c)
          replace hM := hM.pos (by decide)
          refine lv_aload_n hx hb dX12_compare_105 rfl (lv_at hl 3 rfl) ?_
          refine lv_iload_n hx hb dX12_compare_106 rfl (lv_at hl 1 rfl) ?_
          refine tk_Vi hC hK hw hT hA hE hSR kM_at0 (by decide) rfl (kz_X12_makes_1 l adK adV dC dI cy ad B hB0 (Int.le_trans hB1 (by decide)) qr s1   x62 (show 0 ≤ x62.toInt by first | with_reducible assumption | omega) (show x62.toInt ≤ 399 by first | with_reducible assumption | omega) w425 H.size hT x23 c430 (show 0 ≤ x23.toInt by first | with_reducible assumption | omega) (show x23.toInt ≤ 60 by first | with_reducible assumption | omega)) (cwV 1 hC.2.2.2.2 uV_RX12_170 rfl rfl rfl (by decide +kernel) ⟨Nat.le_of_ble_eq_true rfl, Nat.le_of_ble_eq_true rfl⟩) rfl hl.1 rfl (Nat.le_of_ble_eq_true rfl) dX12_compare_107 (fun r432 w434 H locs hp433 hw => ?_)
          obtain ⟨hT, k435, hv444, hg443⟩ := hp433
          have hO := OKW_FE k435 (fun _ => rfl) (fun _ => rfl) (fun _ => rfl) (fun _ => rfl) hO
          have hF := hF.tr k435 (by decide)
          have c445 := k435.gi kM_at0 (by decide) c428
          have c446 := k435.gi kM_at0 (by decide) c429
          have c447 := k435.gi kM_at3 rfl c431
          have c448 := k435.gi kM_at0 (by decide) c426
          rcases hg443 with ⟨rfl, ⟨x436, c437, rx436, tx436⟩, ⟨x438, c439, rx438, tx438⟩⟩ | ⟨rfl, ⟨x440, c441, rx440, tx440⟩, g442⟩
          · replace hM := hM.call (r' := 0) hv444 (by decide)
            refine lv_if_ne (tgt := 115) hx hb dX12_compare_110 (by decide) (fun c => absurd (by decide) c) (fun _ => ?_)
            replace hM := hM.neg (by decide)
            refine lv_iconst (v := 0) hx hb dX12_compare_113 (by decide) ?_
            exact tk_zret hC hr rfl hlocks hK ⟨hT, hF, hM.ret (by decide), (Or.inl ⟨rfl, ⟨x19, c446, (show 1 ≤ x19.toInt by first | with_reducible assumption | omega), (show x19.toInt ≤ 400 by first | with_reducible assumption | omega)⟩, ⟨x436, c437, (show 1 ≤ x436.toInt by first | with_reducible assumption | omega), (show x436.toInt ≤ 3205 by first | with_reducible assumption | omega)⟩, ⟨f0_, c445, (show 0 ≤ f0_.toInt from rf0_), (show f0_.toInt ≤ 5 from tf0_)⟩, hO.1⟩)⟩ hw dX12_compare_114
          · replace hM := hM.call (r' := 1) hv444 (by decide)
            have g442 : x440.toInt = x23.toInt + 1 := by have q := g442; simp only [c428, c445, c430, c441] at q; first | with_reducible exact q | omega
            refine lv_if_ne (tgt := 115) hx hb dX12_compare_110 (by decide) (fun _ => ?_) (fun c => absurd c (by decide))
            replace hM := hM.pos (by decide)
            refine lv_iload_n hx hb dX12_compare_115 rfl (lv_at hl 2 rfl) ?_
            refine lv_bipush (v := 60) hx hb dX12_compare_116 (by decide) ?_
            refine lv_icmp_ne (tgt := 133) hx hb dX12_compare_118 (by decide) (fun _ => ?_) (fun c => absurd (show r54.toInt = (60 : Int) from wk_eq.mp c) (by omega))
            replace hM := hM.pos (by omega)
            refine lv_iload_n hx hb dX12_compare_133 rfl (lv_at hl 2 rfl) ?_
            refine lv_bipush (v := 61) hx hb dX12_compare_134 (by decide) ?_
            refine lv_icmp_ne (tgt := 143) hx hb dX12_compare_136 (by decide) (fun c => (c (wk_eq.mpr (show r54.toInt = (61 : Int) by first | exact Int.le_antisymm (by omega) (by omega) | omega))).elim) (fun _ => ?_)
            replace hM := hM.neg (by omega)
            refine lv_iconst (v := 2) hx hb dX12_compare_139 (by decide) ?_
            refine lv_goto (tgt := 152) hx hb dX12_compare_140 (by decide) ?_
            refine lv_istore (lv' := [(4, .int 2), (3, .int 0), (2, .int x62), (1, .int r54), (0, .ref (ad 0))]) hx hb dX12_compare_152 hl (by decide) rfl (fun ls hl => ?_)
            refine lv_aload_n hx hb dX12_compare_154 rfl (lv_at hl 4 rfl) ?_
            refine tk_Vi hC hK hw hT hA hE hSR kM_at0 (by decide) rfl (kz_X12_sum_1 l adK adV dC dI cy ad B hB0 (Int.le_trans hB1 (by decide)) qr s1    w434 H.size hT f0_ c445 (show 0 ≤ f0_.toInt from rf0_) (show f0_.toInt ≤ 5 from tf0_) x440 c441 (show 0 ≤ x440.toInt by first | with_reducible assumption | omega) (show x440.toInt ≤ 60 by first | with_reducible assumption | omega) x48 c447 (show 0 ≤ x48.toInt by first | with_reducible assumption | omega) (show x48.toInt ≤ 400 by first | with_reducible assumption | omega) (show 3 * x48.toInt ≤ 14 * x440.toInt + 60 by omega) (show x48.toInt ≤ 300 by first | with_reducible assumption | omega) gb ((gd) + 1) (by omega) (by omega) (OKW_cast hO (show (gd) + 1 = (gd) + 1 from rfl))) (cwV 0 hC.2.2.2.2 uV_RX12_183 rfl rfl rfl (by decide +kernel) ⟨Nat.le_of_ble_eq_true rfl, Nat.le_of_ble_eq_true rfl⟩) rfl hl.1 rfl (Nat.le_of_ble_eq_true rfl) dX12_compare_155 (fun r449 w451 H locs hp450 hw => ?_)
            obtain ⟨hT, k452, hv486, hg485⟩ := hp450
            have hF := hF.tr k452 (by decide)
            have c487 := k452.gi kM_at0 (by decide) c445
            have c488 := k452.gi kM_at0 (by decide) c446
            rcases hg485 with ⟨rfl, ⟨x453, c454, rx453, tx453⟩, ⟨x455, c456, rx455, tx455⟩, ⟨x457, c458, rx457, tx457⟩, hq459⟩ | ⟨rfl, ⟨x460, c461, rx460, tx460⟩, ⟨x462, c463, rx462, tx462⟩, ⟨x464, c465, rx464, tx464⟩, hq466⟩ | ⟨rfl, ⟨x467, c468, rx467, tx467⟩, ⟨x469, c470, rx469, tx469⟩, ⟨x471, c472, rx471, tx471⟩, hq473, g474, g475⟩ | ⟨rfl, ⟨x476, c477, rx476, tx476⟩, ⟨x478, c479, rx478, tx478⟩, ⟨x480, c481, rx480, tx480⟩, hq482, g483, g484⟩
            · replace hM := hM.call (r' := 0) hv486 (by decide)
              have ex453 : x453.toInt = x19.toInt := by rw [← c488.symm.trans c454]
              have ex457 : x457.toInt = f0_.toInt := by rw [← c487.symm.trans c458]
              obtain ⟨x489, c490, rx489, tx489⟩ := hT.rda (lo := 0) (hi := 400) (i := (f0_.toInt).toNat) kM_at3 rfl rfl (by omega)
              obtain ⟨x491, c492, rx491, tx491⟩ := hT.rdi (lo := 0) (hi := 60) (k := 18) kM_at0 (by decide) rfl
              have hR := hq459
              refine lv_if_ne (tgt := 163) hx hb dX12_compare_158 (by decide) (fun c => absurd (by decide) c) (fun _ => ?_)
              replace hM := hM.neg (by decide)
              refine lv_iconst (v := 0) hx hb dX12_compare_161 (by decide) ?_
              exact tk_zret hC hr rfl hlocks hK ⟨hT, hF, hM.ret (by decide), (Or.inl ⟨rfl, ⟨x19, c488, (show 1 ≤ x19.toInt by first | with_reducible assumption | omega), (show x19.toInt ≤ 400 by first | with_reducible assumption | omega)⟩, ⟨x455, c456, (show 1 ≤ x455.toInt by first | with_reducible assumption | omega), (show x455.toInt ≤ 3205 by first | with_reducible assumption | omega)⟩, ⟨f0_, c487, (show 0 ≤ f0_.toInt from rf0_), (show f0_.toInt ≤ 5 from tf0_)⟩, hR⟩)⟩ hw dX12_compare_162
            · replace hM := hM.call (r' := 0) hv486 (by decide)
              have ex460 : x460.toInt = x19.toInt := by rw [← c488.symm.trans c461]
              have ex464 : x464.toInt = f0_.toInt := by rw [← c487.symm.trans c465]
              obtain ⟨x493, c494, rx493, tx493⟩ := hT.rda (lo := 0) (hi := 400) (i := (f0_.toInt).toNat) kM_at3 rfl rfl (by omega)
              obtain ⟨x495, c496, rx495, tx495⟩ := hT.rdi (lo := 0) (hi := 60) (k := 18) kM_at0 (by decide) rfl
              have hR := hq466
              refine lv_if_ne (tgt := 163) hx hb dX12_compare_158 (by decide) (fun c => absurd (by decide) c) (fun _ => ?_)
              replace hM := hM.neg (by decide)
              refine lv_iconst (v := 0) hx hb dX12_compare_161 (by decide) ?_
              exact tk_zret hC hr rfl hlocks hK ⟨hT, hF, hM.ret (by decide), (Or.inl ⟨rfl, ⟨x19, c488, (show 1 ≤ x19.toInt by first | with_reducible assumption | omega), (show x19.toInt ≤ 400 by first | with_reducible assumption | omega)⟩, ⟨x462, c463, (show 1 ≤ x462.toInt by first | with_reducible assumption | omega), (show x462.toInt ≤ 3205 by first | with_reducible assumption | omega)⟩, ⟨f0_, c487, (show 0 ≤ f0_.toInt from rf0_), (show f0_.toInt ≤ 5 from tf0_)⟩, hR⟩)⟩ hw dX12_compare_162
            · replace hM := hM.call (r' := 1) hv486 (by decide)
              have ex467 : x467.toInt = x19.toInt := by rw [← c488.symm.trans c468]
              have ex469 : x469.toInt = f0_.toInt := by rw [← c487.symm.trans c470]
              obtain ⟨x497, c498, rx497, tx497⟩ := hT.rda (lo := 0) (hi := 400) (i := (f0_.toInt).toNat) kM_at3 rfl rfl (by omega)
              have g474 : 3 * x497.toInt + 11 ≤ 3 * x48.toInt + 14 * (x471.toInt - x440.toInt) := by have q := g474; simp only [c445, c487, c447, c498, c441, c472] at q; first | with_reducible exact q | omega
              have g475 : x440.toInt + 1 ≤ x471.toInt := by have q := g475; simp only [c445, c487, c441, c472] at q; first | with_reducible exact q | omega
              have hO : OKW w451 f0_.toInt gb (((gd) + 1) + 1) := by have q := hq473; exact OKW_cast q (by omega)
              refine lv_if_ne (tgt := 163) hx hb dX12_compare_158 (by decide) (fun _ => ?_) (fun c => absurd c (by decide))
              replace hM := hM.pos (by decide)
              refine lv_aload_n hx hb dX12_compare_163 rfl (lv_at hl 4 rfl) ?_
              refine lv_bipush (v := 6) hx hb dX12_compare_164 (by decide) ?_
              refine lv_iload hx hb dX12_compare_166 (lv_at hl 0 rfl) ?_
              refine lv_iadd hx hb dX12_compare_168 ?_
              refine wk_top 8 (by decide) ?_
              replace hM := hM.lt (v := 8) (by decide)
              refine lv_iconst (v := 0) hx hb dX12_compare_169 (by decide) ?_
              refine tk_Vv hC hK hw hT hA hE hSR kM_at0 (by decide) rfl (kz_X12_puts_1 l adK adV dC dI cy ad B hB0 (Int.le_trans hB1 (by decide)) qr s1   8 (by decide) (by decide) 0 (by decide) (by decide) w451 H.size hT f0_ c487 (show 0 ≤ f0_.toInt from rf0_) (show f0_.toInt ≤ 5 from tf0_) x497 c498 (show 0 ≤ x497.toInt by first | with_reducible assumption | omega) (show x497.toInt ≤ 400 by first | with_reducible assumption | omega) (show x497.toInt ≤ 399 by first | with_reducible assumption | omega)) (cwV 2 hC.2.2.2.2 uV_RX12_162 rfl rfl rfl (by decide +kernel) ⟨Nat.le_of_ble_eq_true rfl, Nat.le_of_ble_eq_true rfl⟩) rfl hl.1 rfl (Nat.le_of_ble_eq_true rfl) dX12_compare_170 (fun w503 H locs hp502 hw => ?_)
              obtain ⟨hT, k504, hv510, hg509⟩ := hp502
              try simp only [show (8 : Int32).toInt = 8 by decide] at hv510
              try simp only [show (0 : Int32).toInt = 0 by decide] at hv510
              have hF := hF.tr k504 (by decide)
              have c511 := k504.gi kM_at0 (by decide) c487
              have c512 := k504.gi kM_at0 (by decide) c488
              have c513 := k504.gi kM_at0 (by decide) c472
              obtain ⟨⟨x505, c506, rx505, tx505⟩, hq507, g508⟩ := hg509
              replace hM := hM.call hv510 rfl
              have ex505 : x505.toInt = f0_.toInt := by rw [← c511.symm.trans c506]
              obtain ⟨x514, c515, rx514, tx514⟩ := hT.rda (lo := 0) (hi := 400) (i := (f0_.toInt).toNat) kM_at3 rfl rfl (by omega)
              have g508 : x514.toInt = x497.toInt + 1 := by have q := g508; simp only [c487, c511, c498, c515] at q; first | with_reducible exact q | omega
              have hO : OKW w503 f0_.toInt gb ((((gd) + 1) + 1) - 1) := OKW_put hO (by have q := hq507; rw [c487] at q; exact q) (by rw [c498]; omega) (fun x hx => by simp only [(show (8 : Int32).toInt = 8 by decide), (show (0 : Int32).toInt = 0 by decide)] at hx; exact okT_bin (by omega) (by omega) (by omega) (by omega)) (by omega) (by omega)
              refine lv_iconst (v := 1) hx hb dX12_compare_173 (by decide) ?_
              exact tk_zret hC hr rfl hlocks hK ⟨hT, hF, hM.ret (by decide), (Or.inr (Or.inr ⟨rfl, ⟨x19, c512, (show 1 ≤ x19.toInt by first | with_reducible assumption | omega), (show x19.toInt ≤ 400 by first | with_reducible assumption | omega)⟩, ⟨f0_, c511, (show 0 ≤ f0_.toInt from rf0_), (show f0_.toInt ≤ 5 from tf0_)⟩, ⟨x471, c513, (show 1 ≤ x471.toInt by first | with_reducible assumption | omega), (show x471.toInt ≤ 60 by first | with_reducible assumption | omega)⟩, (OKW_cast hO (by omega)), (by simp only [c511, cf0_, cf2_, c515, cf1_, c513]; omega), (by simp only [c511, cf0_, cf1_, c513]; omega)⟩))⟩ hw dX12_compare_174
            · replace hM := hM.call (r' := 1) hv486 (by decide)
              have ex476 : x476.toInt = x19.toInt := by rw [← c488.symm.trans c477]
              have ex478 : x478.toInt = f0_.toInt := by rw [← c487.symm.trans c479]
              obtain ⟨x499, c500, rx499, tx499⟩ := hT.rda (lo := 0) (hi := 400) (i := (f0_.toInt).toNat) kM_at3 rfl rfl (by omega)
              have g483 : 3 * x499.toInt + 11 ≤ 3 * x48.toInt + 14 * (x480.toInt - x440.toInt) := by have q := g483; simp only [c445, c487, c447, c500, c441, c481] at q; first | with_reducible exact q | omega
              have g484 : x440.toInt + 1 ≤ x480.toInt := by have q := g484; simp only [c445, c487, c441, c481] at q; first | with_reducible exact q | omega
              have hO : OKW w451 f0_.toInt gb (((gd) + 1) + 1) := by have q := hq482; exact OKW_cast q (by omega)
              refine lv_if_ne (tgt := 163) hx hb dX12_compare_158 (by decide) (fun _ => ?_) (fun c => absurd c (by decide))
              replace hM := hM.pos (by decide)
              refine lv_aload_n hx hb dX12_compare_163 rfl (lv_at hl 4 rfl) ?_
              refine lv_bipush (v := 6) hx hb dX12_compare_164 (by decide) ?_
              refine lv_iload hx hb dX12_compare_166 (lv_at hl 0 rfl) ?_
              refine lv_iadd hx hb dX12_compare_168 ?_
              refine wk_top 8 (by decide) ?_
              replace hM := hM.lt (v := 8) (by decide)
              refine lv_iconst (v := 0) hx hb dX12_compare_169 (by decide) ?_
              refine tk_Vv hC hK hw hT hA hE hSR kM_at0 (by decide) rfl (kz_X12_puts_1 l adK adV dC dI cy ad B hB0 (Int.le_trans hB1 (by decide)) qr s1   8 (by decide) (by decide) 0 (by decide) (by decide) w451 H.size hT f0_ c487 (show 0 ≤ f0_.toInt from rf0_) (show f0_.toInt ≤ 5 from tf0_) x499 c500 (show 0 ≤ x499.toInt by first | with_reducible assumption | omega) (show x499.toInt ≤ 400 by first | with_reducible assumption | omega) (show x499.toInt ≤ 399 by first | with_reducible assumption | omega)) (cwV 2 hC.2.2.2.2 uV_RX12_162 rfl rfl rfl (by decide +kernel) ⟨Nat.le_of_ble_eq_true rfl, Nat.le_of_ble_eq_true rfl⟩) rfl hl.1 rfl (Nat.le_of_ble_eq_true rfl) dX12_compare_170 (fun w518 H locs hp517 hw => ?_)
              obtain ⟨hT, k519, hv525, hg524⟩ := hp517
              try simp only [show (8 : Int32).toInt = 8 by decide] at hv525
              try simp only [show (0 : Int32).toInt = 0 by decide] at hv525
              have hF := hF.tr k519 (by decide)
              have c526 := k519.gi kM_at0 (by decide) c487
              have c527 := k519.gi kM_at0 (by decide) c488
              have c528 := k519.gi kM_at0 (by decide) c481
              obtain ⟨⟨x520, c521, rx520, tx520⟩, hq522, g523⟩ := hg524
              replace hM := hM.call hv525 rfl
              have ex520 : x520.toInt = f0_.toInt := by rw [← c526.symm.trans c521]
              obtain ⟨x529, c530, rx529, tx529⟩ := hT.rda (lo := 0) (hi := 400) (i := (f0_.toInt).toNat) kM_at3 rfl rfl (by omega)
              have g523 : x529.toInt = x499.toInt + 1 := by have q := g523; simp only [c487, c526, c500, c530] at q; first | with_reducible exact q | omega
              have hO : OKW w518 f0_.toInt gb ((((gd) + 1) + 1) - 1) := OKW_put hO (by have q := hq522; rw [c487] at q; exact q) (by rw [c500]; omega) (fun x hx => by simp only [(show (8 : Int32).toInt = 8 by decide), (show (0 : Int32).toInt = 0 by decide)] at hx; exact okT_bin (by omega) (by omega) (by omega) (by omega)) (by omega) (by omega)
              refine lv_iconst (v := 1) hx hb dX12_compare_173 (by decide) ?_
              exact tk_zret hC hr rfl hlocks hK ⟨hT, hF, hM.ret (by decide), (Or.inr (Or.inr ⟨rfl, ⟨x19, c527, (show 1 ≤ x19.toInt by first | with_reducible assumption | omega), (show x19.toInt ≤ 400 by first | with_reducible assumption | omega)⟩, ⟨f0_, c526, (show 0 ≤ f0_.toInt from rf0_), (show f0_.toInt ≤ 5 from tf0_)⟩, ⟨x480, c528, (show 1 ≤ x480.toInt by first | with_reducible assumption | omega), (show x480.toInt ≤ 60 by first | with_reducible assumption | omega)⟩, (OKW_cast hO (by omega)), (by simp only [c526, cf0_, cf2_, c530, cf1_, c528]; omega), (by simp only [c526, cf0_, cf1_, c528]; omega)⟩))⟩ hw dX12_compare_174
        · have c421 : ¬ r54.toInt = (61 : Int) := wk_eqF c421
          replace hM := hM.neg c421
          refine lv_iload_n hx hb dX12_compare_31 rfl (lv_at hl 1 rfl) ?_
          refine lv_bipush (v := 62) hx hb dX12_compare_32 (by decide) ?_
          refine lv_icmp_eq (tgt := 44) hx hb dX12_compare_34 (by decide) (fun c531 => ?_) (fun c531 => ?_)
          · have c531 : r54.toInt = (62 : Int) := wk_eq.mp c531
            replace hM := hM.pos c531
            refine lv_aload_n hx hb dX12_compare_44 rfl (lv_at hl 2 rfl) ?_
            refine lv_dup hx hb dX12_compare_45 rfl ?_
            refine tk_geti hC hK hw hT hinX12 kM_at0 (by decide) rfl 14 (by decide) (List.mem_cons_of_mem _ uw_19_18) rfl rfl dX12_compare_46 (fun x532 c533 rx532 tx532 => ?_)
            refine wk_top x62 (c533.symm.trans c63) ?_
            replace hM := hM.rd (sI_at c63)
            refine lv_iconst (v := 1) hx hb dX12_compare_49 (by decide) ?_
            refine lv_iadd hx hb dX12_compare_50 ?_
            refine lv_topi (fun x534 ex534 => ?_)
            have ezx534 := ex534
            have ex534 : x534.toInt = x62.toInt + (1 : Int) := by rw [ex534]; exact wk_add (show (-2147483648) ≤ x62.toInt + (1 : Int) by omega) (show x62.toInt + (1 : Int) ≤ 2147483647 by omega)
            replace hM := hM.lt ex534.symm
            refine tk_puti hC hK hw hT hinX12 tyX12_ok nmX12 kM_at0 (by decide) rfl rfl 14 (by decide) (List.mem_cons_of_mem _ uw_19_18) rfl rfl rfl rfl (show 0 ≤ x534.toInt by first | with_reducible assumption | omega) (show x534.toInt ≤ 400 by first | with_reducible assumption | omega) dX12_compare_51 (fun H locs w535 hw hT k537 c536 => ?_)
            replace hM := hM.wr (sI_up k537 c536)
            have hO := OKW_F1 k537 (by decide) (by decide) (by decide) (by decide) hO
            have hF := hF.put kM_at0 (k := 14) (by decide) k537
            have c538 := k537.gi (Or.inr (by decide)) c76
            have c539 := k537.gi (Or.inr (by decide)) c77
            have c540 := k537.gi (Or.inr (by decide)) c78
            have c541 := k537.gi (Or.inl (tk_ne kM_at3 kM_at0 (by decide))) c79
            refine lv_iload_n hx hb dX12_compare_54 rfl (lv_at hl 1 rfl) ?_
            refine lv_bipush (v := 61) hx hb dX12_compare_55 (by decide) ?_
            refine lv_icmp_eq (tgt := 89) hx hb dX12_compare_57 (by decide) (fun c => absurd c (fun h => absurd (show r54.toInt = (61 : Int) from wk_eq.mp h) (by omega))) (fun _ => ?_)
            replace hM := hM.neg (by omega)
            refine lv_aload_n hx hb dX12_compare_60 rfl (lv_at hl 2 rfl) ?_
            refine tk_geti hC hK hw hT hinX12 kM_at0 (by decide) rfl 14 (by decide) (List.mem_cons_of_mem _ uw_19_18) rfl rfl dX12_compare_61 (fun x542 c543 rx542 tx542 => ?_)
            refine wk_top x534 (c543.symm.trans c536) ?_
            replace hM := hM.rd (sI_at c536)
            refine lv_aload_n hx hb dX12_compare_64 rfl (lv_at hl 2 rfl) ?_
            refine tk_geti hC hK hw hT hinX12 kM_at0 (by decide) rfl 1 (by decide) (List.mem_cons_of_mem _ uw_8_7) rfl rfl dX12_compare_65 (fun x544 c545 rx544 tx544 => ?_)
            refine wk_top x19 (c545.symm.trans c539) ?_
            replace hM := hM.rd (sI_at c539)
            refine lv_icmp_ge (tgt := 89) hx hb dX12_compare_68 (by decide) (fun c546 => ?_) (fun c546 => ?_)
            · have c546 : x19.toInt ≤ x534.toInt := wk_le.mp c546
              replace hM := hM.pos c546
              refine lv_iconst (v := 0) hx hb dX12_compare_89 (by decide) ?_
              refine lv_istore_n (lv' := [(3, .int 0), (2, .int x62), (1, .int r54), (0, .ref (ad 0))]) hx hb dX12_compare_90 rfl hl (by decide) rfl (fun ls hl => ?_)
              refine lv_iload_n hx hb dX12_compare_91 rfl (lv_at hl 0 rfl) ?_
              refine lv_if_eq (tgt := 105) hx hb dX12_compare_92 (by decide) (fun _ => ?_) (fun c => absurd (by decide) c)
              replace hM := hM.pos (by decide)
              refine lv_aload_n hx hb dX12_compare_105 rfl (lv_at hl 3 rfl) ?_
              refine lv_iload_n hx hb dX12_compare_106 rfl (lv_at hl 1 rfl) ?_
              refine tk_Vi hC hK hw hT hA hE hSR kM_at0 (by decide) rfl (kz_X12_makes_1 l adK adV dC dI cy ad B hB0 (Int.le_trans hB1 (by decide)) qr s1   x62 (show 0 ≤ x62.toInt by first | with_reducible assumption | omega) (show x62.toInt ≤ 399 by first | with_reducible assumption | omega) w535 H.size hT x23 c540 (show 0 ≤ x23.toInt by first | with_reducible assumption | omega) (show x23.toInt ≤ 60 by first | with_reducible assumption | omega)) (cwV 1 hC.2.2.2.2 uV_RX12_170 rfl rfl rfl (by decide +kernel) ⟨Nat.le_of_ble_eq_true rfl, Nat.le_of_ble_eq_true rfl⟩) rfl hl.1 rfl (Nat.le_of_ble_eq_true rfl) dX12_compare_107 (fun r547 w549 H locs hp548 hw => ?_)
              obtain ⟨hT, k550, hv559, hg558⟩ := hp548
              have hO := OKW_FE k550 (fun _ => rfl) (fun _ => rfl) (fun _ => rfl) (fun _ => rfl) hO
              have hF := hF.tr k550 (by decide)
              have c560 := k550.gi kM_at0 (by decide) c538
              have c561 := k550.gi kM_at0 (by decide) c539
              have c562 := k550.gi kM_at3 rfl c541
              have c563 := k550.gi kM_at0 (by decide) c536
              rcases hg558 with ⟨rfl, ⟨x551, c552, rx551, tx551⟩, ⟨x553, c554, rx553, tx553⟩⟩ | ⟨rfl, ⟨x555, c556, rx555, tx555⟩, g557⟩
              · replace hM := hM.call (r' := 0) hv559 (by decide)
                refine lv_if_ne (tgt := 115) hx hb dX12_compare_110 (by decide) (fun c => absurd (by decide) c) (fun _ => ?_)
                replace hM := hM.neg (by decide)
                refine lv_iconst (v := 0) hx hb dX12_compare_113 (by decide) ?_
                exact tk_zret hC hr rfl hlocks hK ⟨hT, hF, hM.ret (by decide), (Or.inl ⟨rfl, ⟨x19, c561, (show 1 ≤ x19.toInt by first | with_reducible assumption | omega), (show x19.toInt ≤ 400 by first | with_reducible assumption | omega)⟩, ⟨x551, c552, (show 1 ≤ x551.toInt by first | with_reducible assumption | omega), (show x551.toInt ≤ 3205 by first | with_reducible assumption | omega)⟩, ⟨f0_, c560, (show 0 ≤ f0_.toInt from rf0_), (show f0_.toInt ≤ 5 from tf0_)⟩, hO.1⟩)⟩ hw dX12_compare_114
              · replace hM := hM.call (r' := 1) hv559 (by decide)
                have g557 : x555.toInt = x23.toInt + 1 := by have q := g557; simp only [c538, c560, c540, c556] at q; first | with_reducible exact q | omega
                refine lv_if_ne (tgt := 115) hx hb dX12_compare_110 (by decide) (fun _ => ?_) (fun c => absurd c (by decide))
                replace hM := hM.pos (by decide)
                refine lv_iload_n hx hb dX12_compare_115 rfl (lv_at hl 2 rfl) ?_
                refine lv_bipush (v := 60) hx hb dX12_compare_116 (by decide) ?_
                refine lv_icmp_ne (tgt := 133) hx hb dX12_compare_118 (by decide) (fun _ => ?_) (fun c => absurd (show r54.toInt = (60 : Int) from wk_eq.mp c) (by omega))
                replace hM := hM.pos (by omega)
                refine lv_iload_n hx hb dX12_compare_133 rfl (lv_at hl 2 rfl) ?_
                refine lv_bipush (v := 61) hx hb dX12_compare_134 (by decide) ?_
                refine lv_icmp_ne (tgt := 143) hx hb dX12_compare_136 (by decide) (fun _ => ?_) (fun c => absurd (show r54.toInt = (61 : Int) from wk_eq.mp c) (by omega))
                replace hM := hM.pos (by omega)
                refine lv_iload_n hx hb dX12_compare_143 rfl (lv_at hl 0 rfl) ?_
                refine lv_if_eq (tgt := 151) hx hb dX12_compare_144 (by decide) (fun _ => ?_) (fun c => absurd (by decide) c)
                replace hM := hM.pos (by decide)
                refine lv_iconst (v := 4) hx hb dX12_compare_151 (by decide) ?_
                refine lv_istore (lv' := [(4, .int 4), (3, .int 0), (2, .int x62), (1, .int r54), (0, .ref (ad 0))]) hx hb dX12_compare_152 hl (by decide) rfl (fun ls hl => ?_)
                refine lv_aload_n hx hb dX12_compare_154 rfl (lv_at hl 4 rfl) ?_
                refine tk_Vi hC hK hw hT hA hE hSR kM_at0 (by decide) rfl (kz_X12_sum_1 l adK adV dC dI cy ad B hB0 (Int.le_trans hB1 (by decide)) qr s1    w549 H.size hT f0_ c560 (show 0 ≤ f0_.toInt from rf0_) (show f0_.toInt ≤ 5 from tf0_) x555 c556 (show 0 ≤ x555.toInt by first | with_reducible assumption | omega) (show x555.toInt ≤ 60 by first | with_reducible assumption | omega) x48 c562 (show 0 ≤ x48.toInt by first | with_reducible assumption | omega) (show x48.toInt ≤ 400 by first | with_reducible assumption | omega) (show 3 * x48.toInt ≤ 14 * x555.toInt + 60 by omega) (show x48.toInt ≤ 300 by first | with_reducible assumption | omega) gb ((gd) + 1) (by omega) (by omega) (OKW_cast hO (show (gd) + 1 = (gd) + 1 from rfl))) (cwV 0 hC.2.2.2.2 uV_RX12_183 rfl rfl rfl (by decide +kernel) ⟨Nat.le_of_ble_eq_true rfl, Nat.le_of_ble_eq_true rfl⟩) rfl hl.1 rfl (Nat.le_of_ble_eq_true rfl) dX12_compare_155 (fun r564 w566 H locs hp565 hw => ?_)
                obtain ⟨hT, k567, hv601, hg600⟩ := hp565
                have hF := hF.tr k567 (by decide)
                have c602 := k567.gi kM_at0 (by decide) c560
                have c603 := k567.gi kM_at0 (by decide) c561
                rcases hg600 with ⟨rfl, ⟨x568, c569, rx568, tx568⟩, ⟨x570, c571, rx570, tx570⟩, ⟨x572, c573, rx572, tx572⟩, hq574⟩ | ⟨rfl, ⟨x575, c576, rx575, tx575⟩, ⟨x577, c578, rx577, tx577⟩, ⟨x579, c580, rx579, tx579⟩, hq581⟩ | ⟨rfl, ⟨x582, c583, rx582, tx582⟩, ⟨x584, c585, rx584, tx584⟩, ⟨x586, c587, rx586, tx586⟩, hq588, g589, g590⟩ | ⟨rfl, ⟨x591, c592, rx591, tx591⟩, ⟨x593, c594, rx593, tx593⟩, ⟨x595, c596, rx595, tx595⟩, hq597, g598, g599⟩
                · replace hM := hM.call (r' := 0) hv601 (by decide)
                  have ex568 : x568.toInt = x19.toInt := by rw [← c603.symm.trans c569]
                  have ex572 : x572.toInt = f0_.toInt := by rw [← c602.symm.trans c573]
                  obtain ⟨x604, c605, rx604, tx604⟩ := hT.rda (lo := 0) (hi := 400) (i := (f0_.toInt).toNat) kM_at3 rfl rfl (by omega)
                  obtain ⟨x606, c607, rx606, tx606⟩ := hT.rdi (lo := 0) (hi := 60) (k := 18) kM_at0 (by decide) rfl
                  have hR := hq574
                  refine lv_if_ne (tgt := 163) hx hb dX12_compare_158 (by decide) (fun c => absurd (by decide) c) (fun _ => ?_)
                  replace hM := hM.neg (by decide)
                  refine lv_iconst (v := 0) hx hb dX12_compare_161 (by decide) ?_
                  exact tk_zret hC hr rfl hlocks hK ⟨hT, hF, hM.ret (by decide), (Or.inl ⟨rfl, ⟨x19, c603, (show 1 ≤ x19.toInt by first | with_reducible assumption | omega), (show x19.toInt ≤ 400 by first | with_reducible assumption | omega)⟩, ⟨x570, c571, (show 1 ≤ x570.toInt by first | with_reducible assumption | omega), (show x570.toInt ≤ 3205 by first | with_reducible assumption | omega)⟩, ⟨f0_, c602, (show 0 ≤ f0_.toInt from rf0_), (show f0_.toInt ≤ 5 from tf0_)⟩, hR⟩)⟩ hw dX12_compare_162
                · replace hM := hM.call (r' := 0) hv601 (by decide)
                  have ex575 : x575.toInt = x19.toInt := by rw [← c603.symm.trans c576]
                  have ex579 : x579.toInt = f0_.toInt := by rw [← c602.symm.trans c580]
                  obtain ⟨x608, c609, rx608, tx608⟩ := hT.rda (lo := 0) (hi := 400) (i := (f0_.toInt).toNat) kM_at3 rfl rfl (by omega)
                  obtain ⟨x610, c611, rx610, tx610⟩ := hT.rdi (lo := 0) (hi := 60) (k := 18) kM_at0 (by decide) rfl
                  have hR := hq581
                  refine lv_if_ne (tgt := 163) hx hb dX12_compare_158 (by decide) (fun c => absurd (by decide) c) (fun _ => ?_)
                  replace hM := hM.neg (by decide)
                  refine lv_iconst (v := 0) hx hb dX12_compare_161 (by decide) ?_
                  exact tk_zret hC hr rfl hlocks hK ⟨hT, hF, hM.ret (by decide), (Or.inl ⟨rfl, ⟨x19, c603, (show 1 ≤ x19.toInt by first | with_reducible assumption | omega), (show x19.toInt ≤ 400 by first | with_reducible assumption | omega)⟩, ⟨x577, c578, (show 1 ≤ x577.toInt by first | with_reducible assumption | omega), (show x577.toInt ≤ 3205 by first | with_reducible assumption | omega)⟩, ⟨f0_, c602, (show 0 ≤ f0_.toInt from rf0_), (show f0_.toInt ≤ 5 from tf0_)⟩, hR⟩)⟩ hw dX12_compare_162
                · replace hM := hM.call (r' := 1) hv601 (by decide)
                  have ex582 : x582.toInt = x19.toInt := by rw [← c603.symm.trans c583]
                  have ex584 : x584.toInt = f0_.toInt := by rw [← c602.symm.trans c585]
                  obtain ⟨x612, c613, rx612, tx612⟩ := hT.rda (lo := 0) (hi := 400) (i := (f0_.toInt).toNat) kM_at3 rfl rfl (by omega)
                  have g589 : 3 * x612.toInt + 11 ≤ 3 * x48.toInt + 14 * (x586.toInt - x555.toInt) := by have q := g589; simp only [c560, c602, c562, c613, c556, c587] at q; first | with_reducible exact q | omega
                  have g590 : x555.toInt + 1 ≤ x586.toInt := by have q := g590; simp only [c560, c602, c556, c587] at q; first | with_reducible exact q | omega
                  have hO : OKW w566 f0_.toInt gb (((gd) + 1) + 1) := by have q := hq588; exact OKW_cast q (by omega)
                  refine lv_if_ne (tgt := 163) hx hb dX12_compare_158 (by decide) (fun _ => ?_) (fun c => absurd c (by decide))
                  replace hM := hM.pos (by decide)
                  refine lv_aload_n hx hb dX12_compare_163 rfl (lv_at hl 4 rfl) ?_
                  refine lv_bipush (v := 6) hx hb dX12_compare_164 (by decide) ?_
                  refine lv_iload hx hb dX12_compare_166 (lv_at hl 0 rfl) ?_
                  refine lv_iadd hx hb dX12_compare_168 ?_
                  refine wk_top 10 (by decide) ?_
                  replace hM := hM.lt (v := 10) (by decide)
                  refine lv_iconst (v := 0) hx hb dX12_compare_169 (by decide) ?_
                  refine tk_Vv hC hK hw hT hA hE hSR kM_at0 (by decide) rfl (kz_X12_puts_1 l adK adV dC dI cy ad B hB0 (Int.le_trans hB1 (by decide)) qr s1   10 (by decide) (by decide) 0 (by decide) (by decide) w566 H.size hT f0_ c602 (show 0 ≤ f0_.toInt from rf0_) (show f0_.toInt ≤ 5 from tf0_) x612 c613 (show 0 ≤ x612.toInt by first | with_reducible assumption | omega) (show x612.toInt ≤ 400 by first | with_reducible assumption | omega) (show x612.toInt ≤ 399 by first | with_reducible assumption | omega)) (cwV 2 hC.2.2.2.2 uV_RX12_162 rfl rfl rfl (by decide +kernel) ⟨Nat.le_of_ble_eq_true rfl, Nat.le_of_ble_eq_true rfl⟩) rfl hl.1 rfl (Nat.le_of_ble_eq_true rfl) dX12_compare_170 (fun w618 H locs hp617 hw => ?_)
                  obtain ⟨hT, k619, hv625, hg624⟩ := hp617
                  try simp only [show (10 : Int32).toInt = 10 by decide] at hv625
                  try simp only [show (0 : Int32).toInt = 0 by decide] at hv625
                  have hF := hF.tr k619 (by decide)
                  have c626 := k619.gi kM_at0 (by decide) c602
                  have c627 := k619.gi kM_at0 (by decide) c603
                  have c628 := k619.gi kM_at0 (by decide) c587
                  obtain ⟨⟨x620, c621, rx620, tx620⟩, hq622, g623⟩ := hg624
                  replace hM := hM.call hv625 rfl
                  have ex620 : x620.toInt = f0_.toInt := by rw [← c626.symm.trans c621]
                  obtain ⟨x629, c630, rx629, tx629⟩ := hT.rda (lo := 0) (hi := 400) (i := (f0_.toInt).toNat) kM_at3 rfl rfl (by omega)
                  have g623 : x629.toInt = x612.toInt + 1 := by have q := g623; simp only [c602, c626, c613, c630] at q; first | with_reducible exact q | omega
                  have hO : OKW w618 f0_.toInt gb ((((gd) + 1) + 1) - 1) := OKW_put hO (by have q := hq622; rw [c602] at q; exact q) (by rw [c613]; omega) (fun x hx => by simp only [(show (10 : Int32).toInt = 10 by decide), (show (0 : Int32).toInt = 0 by decide)] at hx; exact okT_bin (by omega) (by omega) (by omega) (by omega)) (by omega) (by omega)
                  refine lv_iconst (v := 1) hx hb dX12_compare_173 (by decide) ?_
                  exact tk_zret hC hr rfl hlocks hK ⟨hT, hF, hM.ret (by decide), (Or.inr (Or.inr ⟨rfl, ⟨x19, c627, (show 1 ≤ x19.toInt by first | with_reducible assumption | omega), (show x19.toInt ≤ 400 by first | with_reducible assumption | omega)⟩, ⟨f0_, c626, (show 0 ≤ f0_.toInt from rf0_), (show f0_.toInt ≤ 5 from tf0_)⟩, ⟨x586, c628, (show 1 ≤ x586.toInt by first | with_reducible assumption | omega), (show x586.toInt ≤ 60 by first | with_reducible assumption | omega)⟩, (OKW_cast hO (by omega)), (by simp only [c626, cf0_, cf2_, c630, cf1_, c628]; omega), (by simp only [c626, cf0_, cf1_, c628]; omega)⟩))⟩ hw dX12_compare_174
                · replace hM := hM.call (r' := 1) hv601 (by decide)
                  have ex591 : x591.toInt = x19.toInt := by rw [← c603.symm.trans c592]
                  have ex593 : x593.toInt = f0_.toInt := by rw [← c602.symm.trans c594]
                  obtain ⟨x614, c615, rx614, tx614⟩ := hT.rda (lo := 0) (hi := 400) (i := (f0_.toInt).toNat) kM_at3 rfl rfl (by omega)
                  have g598 : 3 * x614.toInt + 11 ≤ 3 * x48.toInt + 14 * (x595.toInt - x555.toInt) := by have q := g598; simp only [c560, c602, c562, c615, c556, c596] at q; first | with_reducible exact q | omega
                  have g599 : x555.toInt + 1 ≤ x595.toInt := by have q := g599; simp only [c560, c602, c556, c596] at q; first | with_reducible exact q | omega
                  have hO : OKW w566 f0_.toInt gb (((gd) + 1) + 1) := by have q := hq597; exact OKW_cast q (by omega)
                  refine lv_if_ne (tgt := 163) hx hb dX12_compare_158 (by decide) (fun _ => ?_) (fun c => absurd c (by decide))
                  replace hM := hM.pos (by decide)
                  refine lv_aload_n hx hb dX12_compare_163 rfl (lv_at hl 4 rfl) ?_
                  refine lv_bipush (v := 6) hx hb dX12_compare_164 (by decide) ?_
                  refine lv_iload hx hb dX12_compare_166 (lv_at hl 0 rfl) ?_
                  refine lv_iadd hx hb dX12_compare_168 ?_
                  refine wk_top 10 (by decide) ?_
                  replace hM := hM.lt (v := 10) (by decide)
                  refine lv_iconst (v := 0) hx hb dX12_compare_169 (by decide) ?_
                  refine tk_Vv hC hK hw hT hA hE hSR kM_at0 (by decide) rfl (kz_X12_puts_1 l adK adV dC dI cy ad B hB0 (Int.le_trans hB1 (by decide)) qr s1   10 (by decide) (by decide) 0 (by decide) (by decide) w566 H.size hT f0_ c602 (show 0 ≤ f0_.toInt from rf0_) (show f0_.toInt ≤ 5 from tf0_) x614 c615 (show 0 ≤ x614.toInt by first | with_reducible assumption | omega) (show x614.toInt ≤ 400 by first | with_reducible assumption | omega) (show x614.toInt ≤ 399 by first | with_reducible assumption | omega)) (cwV 2 hC.2.2.2.2 uV_RX12_162 rfl rfl rfl (by decide +kernel) ⟨Nat.le_of_ble_eq_true rfl, Nat.le_of_ble_eq_true rfl⟩) rfl hl.1 rfl (Nat.le_of_ble_eq_true rfl) dX12_compare_170 (fun w633 H locs hp632 hw => ?_)
                  obtain ⟨hT, k634, hv640, hg639⟩ := hp632
                  try simp only [show (10 : Int32).toInt = 10 by decide] at hv640
                  try simp only [show (0 : Int32).toInt = 0 by decide] at hv640
                  have hF := hF.tr k634 (by decide)
                  have c641 := k634.gi kM_at0 (by decide) c602
                  have c642 := k634.gi kM_at0 (by decide) c603
                  have c643 := k634.gi kM_at0 (by decide) c596
                  obtain ⟨⟨x635, c636, rx635, tx635⟩, hq637, g638⟩ := hg639
                  replace hM := hM.call hv640 rfl
                  have ex635 : x635.toInt = f0_.toInt := by rw [← c641.symm.trans c636]
                  obtain ⟨x644, c645, rx644, tx644⟩ := hT.rda (lo := 0) (hi := 400) (i := (f0_.toInt).toNat) kM_at3 rfl rfl (by omega)
                  have g638 : x644.toInt = x614.toInt + 1 := by have q := g638; simp only [c602, c641, c615, c645] at q; first | with_reducible exact q | omega
                  have hO : OKW w633 f0_.toInt gb ((((gd) + 1) + 1) - 1) := OKW_put hO (by have q := hq637; rw [c602] at q; exact q) (by rw [c615]; omega) (fun x hx => by simp only [(show (10 : Int32).toInt = 10 by decide), (show (0 : Int32).toInt = 0 by decide)] at hx; exact okT_bin (by omega) (by omega) (by omega) (by omega)) (by omega) (by omega)
                  refine lv_iconst (v := 1) hx hb dX12_compare_173 (by decide) ?_
                  exact tk_zret hC hr rfl hlocks hK ⟨hT, hF, hM.ret (by decide), (Or.inr (Or.inr ⟨rfl, ⟨x19, c642, (show 1 ≤ x19.toInt by first | with_reducible assumption | omega), (show x19.toInt ≤ 400 by first | with_reducible assumption | omega)⟩, ⟨f0_, c641, (show 0 ≤ f0_.toInt from rf0_), (show f0_.toInt ≤ 5 from tf0_)⟩, ⟨x595, c643, (show 1 ≤ x595.toInt by first | with_reducible assumption | omega), (show x595.toInt ≤ 60 by first | with_reducible assumption | omega)⟩, (OKW_cast hO (by omega)), (by simp only [c641, cf0_, cf2_, c645, cf1_, c643]; omega), (by simp only [c641, cf0_, cf1_, c643]; omega)⟩))⟩ hw dX12_compare_174
            · have c546 : x534.toInt < x19.toInt := wk_leF c546
              replace hM := hM.neg (Int.not_le.mpr c546)
              refine lv_aload_n hx hb dX12_compare_71 rfl (lv_at hl 2 rfl) ?_
              refine tk_getA hC hK hw hT hinX12 kM_at0 (by decide) rfl 0 (by decide) (List.mem_cons_of_mem _ uw_6_14) rfl rfl dX12_compare_72 ?_
              refine lv_aload_n hx hb dX12_compare_75 rfl (lv_at hl 2 rfl) ?_
              refine tk_geti hC hK hw hT hinX12 kM_at0 (by decide) rfl 14 (by decide) (List.mem_cons_of_mem _ uw_19_18) rfl rfl dX12_compare_76 (fun x646 c647 rx646 tx646 => ?_)
              refine wk_top x534 (c647.symm.trans c536) ?_
              replace hM := hM.rd (sI_at c536)
              refine tk_bald hC hK hw hT kM_at1 rfl rfl (show 0 ≤ x534.toInt by first | with_reducible assumption | omega) (show x534.toInt < 400 by first | with_reducible assumption | omega) dX12_compare_79 (fun x648 c649 rx648 tx648 => ?_)
              have hox648 := c649
              replace hM := hM.rd (sI_at hox648)
              have c649 : gi w535 1 (1 * x62.toInt + 1).toNat = x648 := (congrArg (gi w535 1) (congrArg Int.toNat (show 1 * x62.toInt + 1 = x534.toInt by first | exact Int.le_antisymm (by omega) (by omega) | omega))).trans c649
              refine lv_bipush (v := 61) hx hb dX12_compare_80 (by decide) ?_
              refine lv_icmp_ne (tgt := 89) hx hb dX12_compare_82 (by decide) (fun c650 => ?_) (fun c650 => ?_)
              · have c650 : ¬ x648.toInt = (61 : Int) := wk_eqF c650
                replace hM := hM.pos c650
                refine lv_iconst (v := 0) hx hb dX12_compare_89 (by decide) ?_
                refine lv_istore_n (lv' := [(3, .int 0), (2, .int x62), (1, .int r54), (0, .ref (ad 0))]) hx hb dX12_compare_90 rfl hl (by decide) rfl (fun ls hl => ?_)
                refine lv_iload_n hx hb dX12_compare_91 rfl (lv_at hl 0 rfl) ?_
                refine lv_if_eq (tgt := 105) hx hb dX12_compare_92 (by decide) (fun _ => ?_) (fun c => absurd (by decide) c)
                replace hM := hM.pos (by decide)
                refine lv_aload_n hx hb dX12_compare_105 rfl (lv_at hl 3 rfl) ?_
                refine lv_iload_n hx hb dX12_compare_106 rfl (lv_at hl 1 rfl) ?_
                refine tk_Vi hC hK hw hT hA hE hSR kM_at0 (by decide) rfl (kz_X12_makes_4 l adK adV dC dI cy ad B hB0 (Int.le_trans hB1 (by decide)) qr s1   x62 (show 0 ≤ x62.toInt by first | with_reducible assumption | omega) (show x62.toInt ≤ 398 by first | with_reducible assumption | omega) w535 H.size hT x23 c540 (show 0 ≤ x23.toInt by first | with_reducible assumption | omega) (show x23.toInt ≤ 60 by first | with_reducible assumption | omega)) (cwV 1 hC.2.2.2.2 uV_RX12_170 rfl rfl rfl (by decide +kernel) ⟨Nat.le_of_ble_eq_true rfl, Nat.le_of_ble_eq_true rfl⟩) rfl hl.1 rfl (Nat.le_of_ble_eq_true rfl) dX12_compare_107 (fun r651 w653 H locs hp652 hw => ?_)
                obtain ⟨hT, k654, hv663, hg662⟩ := hp652
                have hO := OKW_FE k654 (fun _ => rfl) (fun _ => rfl) (fun _ => rfl) (fun _ => rfl) hO
                have hF := hF.tr k654 (by decide)
                have c664 := k654.gi kM_at0 (by decide) c538
                have c665 := k654.gi kM_at0 (by decide) c539
                have c666 := k654.gi kM_at3 rfl c541
                have c667 := k654.gi kM_at0 (by decide) c536
                have c668 := k654.gi kM_at1 rfl c649
                rcases hg662 with ⟨rfl, ⟨x655, c656, rx655, tx655⟩, ⟨x657, c658, rx657, tx657⟩⟩ | ⟨rfl, ⟨x659, c660, rx659, tx659⟩, g661⟩
                · replace hM := hM.call (r' := 0) hv663 (by decide)
                  refine lv_if_ne (tgt := 115) hx hb dX12_compare_110 (by decide) (fun c => absurd (by decide) c) (fun _ => ?_)
                  replace hM := hM.neg (by decide)
                  refine lv_iconst (v := 0) hx hb dX12_compare_113 (by decide) ?_
                  exact tk_zret hC hr rfl hlocks hK ⟨hT, hF, hM.ret (by decide), (Or.inl ⟨rfl, ⟨x19, c665, (show 1 ≤ x19.toInt by first | with_reducible assumption | omega), (show x19.toInt ≤ 400 by first | with_reducible assumption | omega)⟩, ⟨x655, c656, (show 1 ≤ x655.toInt by first | with_reducible assumption | omega), (show x655.toInt ≤ 3205 by first | with_reducible assumption | omega)⟩, ⟨f0_, c664, (show 0 ≤ f0_.toInt from rf0_), (show f0_.toInt ≤ 5 from tf0_)⟩, hO.1⟩)⟩ hw dX12_compare_114
                · replace hM := hM.call (r' := 1) hv663 (by decide)
                  have g661 : x659.toInt = x23.toInt + 1 := by have q := g661; simp only [c538, c664, c540, c660] at q; first | with_reducible exact q | omega
                  refine lv_if_ne (tgt := 115) hx hb dX12_compare_110 (by decide) (fun _ => ?_) (fun c => absurd c (by decide))
                  replace hM := hM.pos (by decide)
                  refine lv_iload_n hx hb dX12_compare_115 rfl (lv_at hl 2 rfl) ?_
                  refine lv_bipush (v := 60) hx hb dX12_compare_116 (by decide) ?_
                  refine lv_icmp_ne (tgt := 133) hx hb dX12_compare_118 (by decide) (fun _ => ?_) (fun c => absurd (show r54.toInt = (60 : Int) from wk_eq.mp c) (by omega))
                  replace hM := hM.pos (by omega)
                  refine lv_iload_n hx hb dX12_compare_133 rfl (lv_at hl 2 rfl) ?_
                  refine lv_bipush (v := 61) hx hb dX12_compare_134 (by decide) ?_
                  refine lv_icmp_ne (tgt := 143) hx hb dX12_compare_136 (by decide) (fun _ => ?_) (fun c => absurd (show r54.toInt = (61 : Int) from wk_eq.mp c) (by omega))
                  replace hM := hM.pos (by omega)
                  refine lv_iload_n hx hb dX12_compare_143 rfl (lv_at hl 0 rfl) ?_
                  refine lv_if_eq (tgt := 151) hx hb dX12_compare_144 (by decide) (fun _ => ?_) (fun c => absurd (by decide) c)
                  replace hM := hM.pos (by decide)
                  refine lv_iconst (v := 4) hx hb dX12_compare_151 (by decide) ?_
                  refine lv_istore (lv' := [(4, .int 4), (3, .int 0), (2, .int x62), (1, .int r54), (0, .ref (ad 0))]) hx hb dX12_compare_152 hl (by decide) rfl (fun ls hl => ?_)
                  refine lv_aload_n hx hb dX12_compare_154 rfl (lv_at hl 4 rfl) ?_
                  refine tk_Vi hC hK hw hT hA hE hSR kM_at0 (by decide) rfl (kz_X12_sum_1 l adK adV dC dI cy ad B hB0 (Int.le_trans hB1 (by decide)) qr s1    w653 H.size hT f0_ c664 (show 0 ≤ f0_.toInt from rf0_) (show f0_.toInt ≤ 5 from tf0_) x659 c660 (show 0 ≤ x659.toInt by first | with_reducible assumption | omega) (show x659.toInt ≤ 60 by first | with_reducible assumption | omega) x48 c666 (show 0 ≤ x48.toInt by first | with_reducible assumption | omega) (show x48.toInt ≤ 400 by first | with_reducible assumption | omega) (show 3 * x48.toInt ≤ 14 * x659.toInt + 60 by omega) (show x48.toInt ≤ 300 by first | with_reducible assumption | omega) gb ((gd) + 1) (by omega) (by omega) (OKW_cast hO (show (gd) + 1 = (gd) + 1 from rfl))) (cwV 0 hC.2.2.2.2 uV_RX12_183 rfl rfl rfl (by decide +kernel) ⟨Nat.le_of_ble_eq_true rfl, Nat.le_of_ble_eq_true rfl⟩) rfl hl.1 rfl (Nat.le_of_ble_eq_true rfl) dX12_compare_155 (fun r669 w671 H locs hp670 hw => ?_)
                  obtain ⟨hT, k672, hv706, hg705⟩ := hp670
                  have hF := hF.tr k672 (by decide)
                  have c707 := k672.gi kM_at0 (by decide) c664
                  have c708 := k672.gi kM_at0 (by decide) c665
                  have c709 := k672.gi kM_at1 rfl c668
                  rcases hg705 with ⟨rfl, ⟨x673, c674, rx673, tx673⟩, ⟨x675, c676, rx675, tx675⟩, ⟨x677, c678, rx677, tx677⟩, hq679⟩ | ⟨rfl, ⟨x680, c681, rx680, tx680⟩, ⟨x682, c683, rx682, tx682⟩, ⟨x684, c685, rx684, tx684⟩, hq686⟩ | ⟨rfl, ⟨x687, c688, rx687, tx687⟩, ⟨x689, c690, rx689, tx689⟩, ⟨x691, c692, rx691, tx691⟩, hq693, g694, g695⟩ | ⟨rfl, ⟨x696, c697, rx696, tx696⟩, ⟨x698, c699, rx698, tx698⟩, ⟨x700, c701, rx700, tx700⟩, hq702, g703, g704⟩
                  · replace hM := hM.call (r' := 0) hv706 (by decide)
                    have ex673 : x673.toInt = x19.toInt := by rw [← c708.symm.trans c674]
                    have ex677 : x677.toInt = f0_.toInt := by rw [← c707.symm.trans c678]
                    obtain ⟨x710, c711, rx710, tx710⟩ := hT.rda (lo := 0) (hi := 400) (i := (f0_.toInt).toNat) kM_at3 rfl rfl (by omega)
                    obtain ⟨x712, c713, rx712, tx712⟩ := hT.rdi (lo := 0) (hi := 60) (k := 18) kM_at0 (by decide) rfl
                    have hR := hq679
                    refine lv_if_ne (tgt := 163) hx hb dX12_compare_158 (by decide) (fun c => absurd (by decide) c) (fun _ => ?_)
                    replace hM := hM.neg (by decide)
                    refine lv_iconst (v := 0) hx hb dX12_compare_161 (by decide) ?_
                    exact tk_zret hC hr rfl hlocks hK ⟨hT, hF, hM.ret (by decide), (Or.inl ⟨rfl, ⟨x19, c708, (show 1 ≤ x19.toInt by first | with_reducible assumption | omega), (show x19.toInt ≤ 400 by first | with_reducible assumption | omega)⟩, ⟨x675, c676, (show 1 ≤ x675.toInt by first | with_reducible assumption | omega), (show x675.toInt ≤ 3205 by first | with_reducible assumption | omega)⟩, ⟨f0_, c707, (show 0 ≤ f0_.toInt from rf0_), (show f0_.toInt ≤ 5 from tf0_)⟩, hR⟩)⟩ hw dX12_compare_162
                  · replace hM := hM.call (r' := 0) hv706 (by decide)
                    have ex680 : x680.toInt = x19.toInt := by rw [← c708.symm.trans c681]
                    have ex684 : x684.toInt = f0_.toInt := by rw [← c707.symm.trans c685]
                    obtain ⟨x714, c715, rx714, tx714⟩ := hT.rda (lo := 0) (hi := 400) (i := (f0_.toInt).toNat) kM_at3 rfl rfl (by omega)
                    obtain ⟨x716, c717, rx716, tx716⟩ := hT.rdi (lo := 0) (hi := 60) (k := 18) kM_at0 (by decide) rfl
                    have hR := hq686
                    refine lv_if_ne (tgt := 163) hx hb dX12_compare_158 (by decide) (fun c => absurd (by decide) c) (fun _ => ?_)
                    replace hM := hM.neg (by decide)
                    refine lv_iconst (v := 0) hx hb dX12_compare_161 (by decide) ?_
                    exact tk_zret hC hr rfl hlocks hK ⟨hT, hF, hM.ret (by decide), (Or.inl ⟨rfl, ⟨x19, c708, (show 1 ≤ x19.toInt by first | with_reducible assumption | omega), (show x19.toInt ≤ 400 by first | with_reducible assumption | omega)⟩, ⟨x682, c683, (show 1 ≤ x682.toInt by first | with_reducible assumption | omega), (show x682.toInt ≤ 3205 by first | with_reducible assumption | omega)⟩, ⟨f0_, c707, (show 0 ≤ f0_.toInt from rf0_), (show f0_.toInt ≤ 5 from tf0_)⟩, hR⟩)⟩ hw dX12_compare_162
                  · replace hM := hM.call (r' := 1) hv706 (by decide)
                    have ex687 : x687.toInt = x19.toInt := by rw [← c708.symm.trans c688]
                    have ex689 : x689.toInt = f0_.toInt := by rw [← c707.symm.trans c690]
                    obtain ⟨x718, c719, rx718, tx718⟩ := hT.rda (lo := 0) (hi := 400) (i := (f0_.toInt).toNat) kM_at3 rfl rfl (by omega)
                    have g694 : 3 * x718.toInt + 11 ≤ 3 * x48.toInt + 14 * (x691.toInt - x659.toInt) := by have q := g694; simp only [c664, c707, c666, c719, c660, c692] at q; first | with_reducible exact q | omega
                    have g695 : x659.toInt + 1 ≤ x691.toInt := by have q := g695; simp only [c664, c707, c660, c692] at q; first | with_reducible exact q | omega
                    have hO : OKW w671 f0_.toInt gb (((gd) + 1) + 1) := by have q := hq693; exact OKW_cast q (by omega)
                    refine lv_if_ne (tgt := 163) hx hb dX12_compare_158 (by decide) (fun _ => ?_) (fun c => absurd c (by decide))
                    replace hM := hM.pos (by decide)
                    refine lv_aload_n hx hb dX12_compare_163 rfl (lv_at hl 4 rfl) ?_
                    refine lv_bipush (v := 6) hx hb dX12_compare_164 (by decide) ?_
                    refine lv_iload hx hb dX12_compare_166 (lv_at hl 0 rfl) ?_
                    refine lv_iadd hx hb dX12_compare_168 ?_
                    refine wk_top 10 (by decide) ?_
                    replace hM := hM.lt (v := 10) (by decide)
                    refine lv_iconst (v := 0) hx hb dX12_compare_169 (by decide) ?_
                    refine tk_Vv hC hK hw hT hA hE hSR kM_at0 (by decide) rfl (kz_X12_puts_1 l adK adV dC dI cy ad B hB0 (Int.le_trans hB1 (by decide)) qr s1   10 (by decide) (by decide) 0 (by decide) (by decide) w671 H.size hT f0_ c707 (show 0 ≤ f0_.toInt from rf0_) (show f0_.toInt ≤ 5 from tf0_) x718 c719 (show 0 ≤ x718.toInt by first | with_reducible assumption | omega) (show x718.toInt ≤ 400 by first | with_reducible assumption | omega) (show x718.toInt ≤ 399 by first | with_reducible assumption | omega)) (cwV 2 hC.2.2.2.2 uV_RX12_162 rfl rfl rfl (by decide +kernel) ⟨Nat.le_of_ble_eq_true rfl, Nat.le_of_ble_eq_true rfl⟩) rfl hl.1 rfl (Nat.le_of_ble_eq_true rfl) dX12_compare_170 (fun w724 H locs hp723 hw => ?_)
                    obtain ⟨hT, k725, hv731, hg730⟩ := hp723
                    try simp only [show (10 : Int32).toInt = 10 by decide] at hv731
                    try simp only [show (0 : Int32).toInt = 0 by decide] at hv731
                    have hF := hF.tr k725 (by decide)
                    have c732 := k725.gi kM_at0 (by decide) c707
                    have c733 := k725.gi kM_at0 (by decide) c708
                    have c734 := k725.gi kM_at1 rfl c709
                    have c735 := k725.gi kM_at0 (by decide) c692
                    obtain ⟨⟨x726, c727, rx726, tx726⟩, hq728, g729⟩ := hg730
                    replace hM := hM.call hv731 rfl
                    have ex726 : x726.toInt = f0_.toInt := by rw [← c732.symm.trans c727]
                    obtain ⟨x736, c737, rx736, tx736⟩ := hT.rda (lo := 0) (hi := 400) (i := (f0_.toInt).toNat) kM_at3 rfl rfl (by omega)
                    have g729 : x736.toInt = x718.toInt + 1 := by have q := g729; simp only [c707, c732, c719, c737] at q; first | with_reducible exact q | omega
                    have hO : OKW w724 f0_.toInt gb ((((gd) + 1) + 1) - 1) := OKW_put hO (by have q := hq728; rw [c707] at q; exact q) (by rw [c719]; omega) (fun x hx => by simp only [(show (10 : Int32).toInt = 10 by decide), (show (0 : Int32).toInt = 0 by decide)] at hx; exact okT_bin (by omega) (by omega) (by omega) (by omega)) (by omega) (by omega)
                    refine lv_iconst (v := 1) hx hb dX12_compare_173 (by decide) ?_
                    exact tk_zret hC hr rfl hlocks hK ⟨hT, hF, hM.ret (by decide), (Or.inr (Or.inr ⟨rfl, ⟨x19, c733, (show 1 ≤ x19.toInt by first | with_reducible assumption | omega), (show x19.toInt ≤ 400 by first | with_reducible assumption | omega)⟩, ⟨f0_, c732, (show 0 ≤ f0_.toInt from rf0_), (show f0_.toInt ≤ 5 from tf0_)⟩, ⟨x691, c735, (show 1 ≤ x691.toInt by first | with_reducible assumption | omega), (show x691.toInt ≤ 60 by first | with_reducible assumption | omega)⟩, (OKW_cast hO (by omega)), (by simp only [c732, cf0_, cf2_, c737, cf1_, c735]; omega), (by simp only [c732, cf0_, cf1_, c735]; omega)⟩))⟩ hw dX12_compare_174
                  · replace hM := hM.call (r' := 1) hv706 (by decide)
                    have ex696 : x696.toInt = x19.toInt := by rw [← c708.symm.trans c697]
                    have ex698 : x698.toInt = f0_.toInt := by rw [← c707.symm.trans c699]
                    obtain ⟨x720, c721, rx720, tx720⟩ := hT.rda (lo := 0) (hi := 400) (i := (f0_.toInt).toNat) kM_at3 rfl rfl (by omega)
                    have g703 : 3 * x720.toInt + 11 ≤ 3 * x48.toInt + 14 * (x700.toInt - x659.toInt) := by have q := g703; simp only [c664, c707, c666, c721, c660, c701] at q; first | with_reducible exact q | omega
                    have g704 : x659.toInt + 1 ≤ x700.toInt := by have q := g704; simp only [c664, c707, c660, c701] at q; first | with_reducible exact q | omega
                    have hO : OKW w671 f0_.toInt gb (((gd) + 1) + 1) := by have q := hq702; exact OKW_cast q (by omega)
                    refine lv_if_ne (tgt := 163) hx hb dX12_compare_158 (by decide) (fun _ => ?_) (fun c => absurd c (by decide))
                    replace hM := hM.pos (by decide)
                    refine lv_aload_n hx hb dX12_compare_163 rfl (lv_at hl 4 rfl) ?_
                    refine lv_bipush (v := 6) hx hb dX12_compare_164 (by decide) ?_
                    refine lv_iload hx hb dX12_compare_166 (lv_at hl 0 rfl) ?_
                    refine lv_iadd hx hb dX12_compare_168 ?_
                    refine wk_top 10 (by decide) ?_
                    replace hM := hM.lt (v := 10) (by decide)
                    refine lv_iconst (v := 0) hx hb dX12_compare_169 (by decide) ?_
                    refine tk_Vv hC hK hw hT hA hE hSR kM_at0 (by decide) rfl (kz_X12_puts_1 l adK adV dC dI cy ad B hB0 (Int.le_trans hB1 (by decide)) qr s1   10 (by decide) (by decide) 0 (by decide) (by decide) w671 H.size hT f0_ c707 (show 0 ≤ f0_.toInt from rf0_) (show f0_.toInt ≤ 5 from tf0_) x720 c721 (show 0 ≤ x720.toInt by first | with_reducible assumption | omega) (show x720.toInt ≤ 400 by first | with_reducible assumption | omega) (show x720.toInt ≤ 399 by first | with_reducible assumption | omega)) (cwV 2 hC.2.2.2.2 uV_RX12_162 rfl rfl rfl (by decide +kernel) ⟨Nat.le_of_ble_eq_true rfl, Nat.le_of_ble_eq_true rfl⟩) rfl hl.1 rfl (Nat.le_of_ble_eq_true rfl) dX12_compare_170 (fun w740 H locs hp739 hw => ?_)
                    obtain ⟨hT, k741, hv747, hg746⟩ := hp739
                    try simp only [show (10 : Int32).toInt = 10 by decide] at hv747
                    try simp only [show (0 : Int32).toInt = 0 by decide] at hv747
                    have hF := hF.tr k741 (by decide)
                    have c748 := k741.gi kM_at0 (by decide) c707
                    have c749 := k741.gi kM_at0 (by decide) c708
                    have c750 := k741.gi kM_at1 rfl c709
                    have c751 := k741.gi kM_at0 (by decide) c701
                    obtain ⟨⟨x742, c743, rx742, tx742⟩, hq744, g745⟩ := hg746
                    replace hM := hM.call hv747 rfl
                    have ex742 : x742.toInt = f0_.toInt := by rw [← c748.symm.trans c743]
                    obtain ⟨x752, c753, rx752, tx752⟩ := hT.rda (lo := 0) (hi := 400) (i := (f0_.toInt).toNat) kM_at3 rfl rfl (by omega)
                    have g745 : x752.toInt = x720.toInt + 1 := by have q := g745; simp only [c707, c748, c721, c753] at q; first | with_reducible exact q | omega
                    have hO : OKW w740 f0_.toInt gb ((((gd) + 1) + 1) - 1) := OKW_put hO (by have q := hq744; rw [c707] at q; exact q) (by rw [c721]; omega) (fun x hx => by simp only [(show (10 : Int32).toInt = 10 by decide), (show (0 : Int32).toInt = 0 by decide)] at hx; exact okT_bin (by omega) (by omega) (by omega) (by omega)) (by omega) (by omega)
                    refine lv_iconst (v := 1) hx hb dX12_compare_173 (by decide) ?_
                    exact tk_zret hC hr rfl hlocks hK ⟨hT, hF, hM.ret (by decide), (Or.inr (Or.inr ⟨rfl, ⟨x19, c749, (show 1 ≤ x19.toInt by first | with_reducible assumption | omega), (show x19.toInt ≤ 400 by first | with_reducible assumption | omega)⟩, ⟨f0_, c748, (show 0 ≤ f0_.toInt from rf0_), (show f0_.toInt ≤ 5 from tf0_)⟩, ⟨x700, c751, (show 1 ≤ x700.toInt by first | with_reducible assumption | omega), (show x700.toInt ≤ 60 by first | with_reducible assumption | omega)⟩, (OKW_cast hO (by omega)), (by simp only [c748, cf0_, cf2_, c753, cf1_, c751]; omega), (by simp only [c748, cf0_, cf1_, c751]; omega)⟩))⟩ hw dX12_compare_174
              · have c650 : x648.toInt = (61 : Int) := wk_eq.mp c650
                replace hM := hM.neg (fun q => q c650)
                refine lv_iconst (v := 1) hx hb dX12_compare_85 (by decide) ?_
                refine lv_goto (tgt := 90) hx hb dX12_compare_86 (by decide) ?_
                refine lv_istore_n (lv' := [(3, .int 1), (2, .int x62), (1, .int r54), (0, .ref (ad 0))]) hx hb dX12_compare_90 rfl hl (by decide) rfl (fun ls hl => ?_)
                refine lv_iload_n hx hb dX12_compare_91 rfl (lv_at hl 0 rfl) ?_
                refine lv_if_eq (tgt := 105) hx hb dX12_compare_92 (by decide) (fun c => absurd c (by decide)) (fun _ => ?_)
                replace hM := hM.neg (by decide)
                refine lv_aload_n hx hb dX12_compare_95 rfl (lv_at hl 3 rfl) ?_
                refine lv_dup hx hb dX12_compare_96 rfl ?_
                refine tk_geti hC hK hw hT hinX12 kM_at0 (by decide) rfl 14 (by decide) (List.mem_cons_of_mem _ uw_19_18) rfl rfl dX12_compare_97 (fun x754 c755 rx754 tx754 => ?_)
                refine wk_top x534 (c755.symm.trans c536) ?_
                replace hM := hM.rd (sI_at c536)
                refine lv_iconst (v := 1) hx hb dX12_compare_100 (by decide) ?_
                refine lv_iadd hx hb dX12_compare_101 ?_
                refine lv_topi (fun x756 ex756 => ?_)
                have ezx756 := ex756
                have ex756 : x756.toInt = x534.toInt + (1 : Int) := by rw [ex756]; exact wk_add (show (-2147483648) ≤ x534.toInt + (1 : Int) by omega) (show x534.toInt + (1 : Int) ≤ 2147483647 by omega)
                replace hM := hM.lt ex756.symm
                refine tk_puti hC hK hw hT hinX12 tyX12_ok nmX12 kM_at0 (by decide) rfl rfl 14 (by decide) (List.mem_cons_of_mem _ uw_19_18) rfl rfl rfl rfl (show 0 ≤ x756.toInt by first | with_reducible assumption | omega) (show x756.toInt ≤ 400 by first | with_reducible assumption | omega) dX12_compare_102 (fun H locs w757 hw hT k759 c758 => ?_)
                replace hM := hM.wr (sI_up k759 c758)
                have hO := OKW_F1 k759 (by decide) (by decide) (by decide) (by decide) hO
                have hF := hF.put kM_at0 (k := 14) (by decide) k759
                have c760 := k759.gi (Or.inr (by decide)) c538
                have c761 := k759.gi (Or.inr (by decide)) c539
                have c762 := k759.gi (Or.inr (by decide)) c540
                have c763 := k759.gi (Or.inl (tk_ne kM_at3 kM_at0 (by decide))) c541
                have c764 := k759.gi (Or.inl (tk_ne kM_at1 kM_at0 (by decide))) c649
                refine lv_aload_n hx hb dX12_compare_105 rfl (lv_at hl 3 rfl) ?_
                refine lv_iload_n hx hb dX12_compare_106 rfl (lv_at hl 1 rfl) ?_
                refine tk_Vi hC hK hw hT hA hE hSR kM_at0 (by decide) rfl (kz_X12_makes_4 l adK adV dC dI cy ad B hB0 (Int.le_trans hB1 (by decide)) qr s1   x62 (show 0 ≤ x62.toInt by first | with_reducible assumption | omega) (show x62.toInt ≤ 398 by first | with_reducible assumption | omega) w757 H.size hT x23 c762 (show 0 ≤ x23.toInt by first | with_reducible assumption | omega) (show x23.toInt ≤ 60 by first | with_reducible assumption | omega)) (cwV 1 hC.2.2.2.2 uV_RX12_170 rfl rfl rfl (by decide +kernel) ⟨Nat.le_of_ble_eq_true rfl, Nat.le_of_ble_eq_true rfl⟩) rfl hl.1 rfl (Nat.le_of_ble_eq_true rfl) dX12_compare_107 (fun r765 w767 H locs hp766 hw => ?_)
                obtain ⟨hT, k768, hv777, hg776⟩ := hp766
                have hO := OKW_FE k768 (fun _ => rfl) (fun _ => rfl) (fun _ => rfl) (fun _ => rfl) hO
                have hF := hF.tr k768 (by decide)
                have c778 := k768.gi kM_at0 (by decide) c760
                have c779 := k768.gi kM_at0 (by decide) c761
                have c780 := k768.gi kM_at3 rfl c763
                have c781 := k768.gi kM_at1 rfl c764
                have c782 := k768.gi kM_at0 (by decide) c758
                rcases hg776 with ⟨rfl, ⟨x769, c770, rx769, tx769⟩, ⟨x771, c772, rx771, tx771⟩⟩ | ⟨rfl, ⟨x773, c774, rx773, tx773⟩, g775⟩
                · replace hM := hM.call (r' := 0) hv777 (by decide)
                  refine lv_if_ne (tgt := 115) hx hb dX12_compare_110 (by decide) (fun c => absurd (by decide) c) (fun _ => ?_)
                  replace hM := hM.neg (by decide)
                  refine lv_iconst (v := 0) hx hb dX12_compare_113 (by decide) ?_
                  exact tk_zret hC hr rfl hlocks hK ⟨hT, hF, hM.ret (by decide), (Or.inl ⟨rfl, ⟨x19, c779, (show 1 ≤ x19.toInt by first | with_reducible assumption | omega), (show x19.toInt ≤ 400 by first | with_reducible assumption | omega)⟩, ⟨x769, c770, (show 1 ≤ x769.toInt by first | with_reducible assumption | omega), (show x769.toInt ≤ 3205 by first | with_reducible assumption | omega)⟩, ⟨f0_, c778, (show 0 ≤ f0_.toInt from rf0_), (show f0_.toInt ≤ 5 from tf0_)⟩, hO.1⟩)⟩ hw dX12_compare_114
                · replace hM := hM.call (r' := 1) hv777 (by decide)
                  have g775 : x773.toInt = x23.toInt + 1 := by have q := g775; simp only [c760, c778, c762, c774] at q; first | with_reducible exact q | omega
                  refine lv_if_ne (tgt := 115) hx hb dX12_compare_110 (by decide) (fun _ => ?_) (fun c => absurd c (by decide))
                  replace hM := hM.pos (by decide)
                  refine lv_iload_n hx hb dX12_compare_115 rfl (lv_at hl 2 rfl) ?_
                  refine lv_bipush (v := 60) hx hb dX12_compare_116 (by decide) ?_
                  refine lv_icmp_ne (tgt := 133) hx hb dX12_compare_118 (by decide) (fun _ => ?_) (fun c => absurd (show r54.toInt = (60 : Int) from wk_eq.mp c) (by omega))
                  replace hM := hM.pos (by omega)
                  refine lv_iload_n hx hb dX12_compare_133 rfl (lv_at hl 2 rfl) ?_
                  refine lv_bipush (v := 61) hx hb dX12_compare_134 (by decide) ?_
                  refine lv_icmp_ne (tgt := 143) hx hb dX12_compare_136 (by decide) (fun _ => ?_) (fun c => absurd (show r54.toInt = (61 : Int) from wk_eq.mp c) (by omega))
                  replace hM := hM.pos (by omega)
                  refine lv_iload_n hx hb dX12_compare_143 rfl (lv_at hl 0 rfl) ?_
                  refine lv_if_eq (tgt := 151) hx hb dX12_compare_144 (by decide) (fun c => absurd c (by decide)) (fun _ => ?_)
                  replace hM := hM.neg (by decide)
                  refine lv_iconst (v := 3) hx hb dX12_compare_147 (by decide) ?_
                  refine lv_goto (tgt := 152) hx hb dX12_compare_148 (by decide) ?_
                  refine lv_istore (lv' := [(4, .int 3), (3, .int 1), (2, .int x62), (1, .int r54), (0, .ref (ad 0))]) hx hb dX12_compare_152 hl (by decide) rfl (fun ls hl => ?_)
                  refine lv_aload_n hx hb dX12_compare_154 rfl (lv_at hl 4 rfl) ?_
                  refine tk_Vi hC hK hw hT hA hE hSR kM_at0 (by decide) rfl (kz_X12_sum_1 l adK adV dC dI cy ad B hB0 (Int.le_trans hB1 (by decide)) qr s1    w767 H.size hT f0_ c778 (show 0 ≤ f0_.toInt from rf0_) (show f0_.toInt ≤ 5 from tf0_) x773 c774 (show 0 ≤ x773.toInt by first | with_reducible assumption | omega) (show x773.toInt ≤ 60 by first | with_reducible assumption | omega) x48 c780 (show 0 ≤ x48.toInt by first | with_reducible assumption | omega) (show x48.toInt ≤ 400 by first | with_reducible assumption | omega) (show 3 * x48.toInt ≤ 14 * x773.toInt + 60 by omega) (show x48.toInt ≤ 300 by first | with_reducible assumption | omega) gb ((gd) + 1) (by omega) (by omega) (OKW_cast hO (show (gd) + 1 = (gd) + 1 from rfl))) (cwV 0 hC.2.2.2.2 uV_RX12_183 rfl rfl rfl (by decide +kernel) ⟨Nat.le_of_ble_eq_true rfl, Nat.le_of_ble_eq_true rfl⟩) rfl hl.1 rfl (Nat.le_of_ble_eq_true rfl) dX12_compare_155 (fun r783 w785 H locs hp784 hw => ?_)
                  obtain ⟨hT, k786, hv820, hg819⟩ := hp784
                  have hF := hF.tr k786 (by decide)
                  have c821 := k786.gi kM_at0 (by decide) c778
                  have c822 := k786.gi kM_at0 (by decide) c779
                  have c823 := k786.gi kM_at1 rfl c781
                  rcases hg819 with ⟨rfl, ⟨x787, c788, rx787, tx787⟩, ⟨x789, c790, rx789, tx789⟩, ⟨x791, c792, rx791, tx791⟩, hq793⟩ | ⟨rfl, ⟨x794, c795, rx794, tx794⟩, ⟨x796, c797, rx796, tx796⟩, ⟨x798, c799, rx798, tx798⟩, hq800⟩ | ⟨rfl, ⟨x801, c802, rx801, tx801⟩, ⟨x803, c804, rx803, tx803⟩, ⟨x805, c806, rx805, tx805⟩, hq807, g808, g809⟩ | ⟨rfl, ⟨x810, c811, rx810, tx810⟩, ⟨x812, c813, rx812, tx812⟩, ⟨x814, c815, rx814, tx814⟩, hq816, g817, g818⟩
                  · replace hM := hM.call (r' := 0) hv820 (by decide)
                    have ex787 : x787.toInt = x19.toInt := by rw [← c822.symm.trans c788]
                    have ex791 : x791.toInt = f0_.toInt := by rw [← c821.symm.trans c792]
                    obtain ⟨x824, c825, rx824, tx824⟩ := hT.rda (lo := 0) (hi := 400) (i := (f0_.toInt).toNat) kM_at3 rfl rfl (by omega)
                    obtain ⟨x826, c827, rx826, tx826⟩ := hT.rdi (lo := 0) (hi := 60) (k := 18) kM_at0 (by decide) rfl
                    have hR := hq793
                    refine lv_if_ne (tgt := 163) hx hb dX12_compare_158 (by decide) (fun c => absurd (by decide) c) (fun _ => ?_)
                    replace hM := hM.neg (by decide)
                    refine lv_iconst (v := 0) hx hb dX12_compare_161 (by decide) ?_
                    exact tk_zret hC hr rfl hlocks hK ⟨hT, hF, hM.ret (by decide), (Or.inl ⟨rfl, ⟨x19, c822, (show 1 ≤ x19.toInt by first | with_reducible assumption | omega), (show x19.toInt ≤ 400 by first | with_reducible assumption | omega)⟩, ⟨x789, c790, (show 1 ≤ x789.toInt by first | with_reducible assumption | omega), (show x789.toInt ≤ 3205 by first | with_reducible assumption | omega)⟩, ⟨f0_, c821, (show 0 ≤ f0_.toInt from rf0_), (show f0_.toInt ≤ 5 from tf0_)⟩, hR⟩)⟩ hw dX12_compare_162
                  · replace hM := hM.call (r' := 0) hv820 (by decide)
                    have ex794 : x794.toInt = x19.toInt := by rw [← c822.symm.trans c795]
                    have ex798 : x798.toInt = f0_.toInt := by rw [← c821.symm.trans c799]
                    obtain ⟨x828, c829, rx828, tx828⟩ := hT.rda (lo := 0) (hi := 400) (i := (f0_.toInt).toNat) kM_at3 rfl rfl (by omega)
                    obtain ⟨x830, c831, rx830, tx830⟩ := hT.rdi (lo := 0) (hi := 60) (k := 18) kM_at0 (by decide) rfl
                    have hR := hq800
                    refine lv_if_ne (tgt := 163) hx hb dX12_compare_158 (by decide) (fun c => absurd (by decide) c) (fun _ => ?_)
                    replace hM := hM.neg (by decide)
                    refine lv_iconst (v := 0) hx hb dX12_compare_161 (by decide) ?_
                    exact tk_zret hC hr rfl hlocks hK ⟨hT, hF, hM.ret (by decide), (Or.inl ⟨rfl, ⟨x19, c822, (show 1 ≤ x19.toInt by first | with_reducible assumption | omega), (show x19.toInt ≤ 400 by first | with_reducible assumption | omega)⟩, ⟨x796, c797, (show 1 ≤ x796.toInt by first | with_reducible assumption | omega), (show x796.toInt ≤ 3205 by first | with_reducible assumption | omega)⟩, ⟨f0_, c821, (show 0 ≤ f0_.toInt from rf0_), (show f0_.toInt ≤ 5 from tf0_)⟩, hR⟩)⟩ hw dX12_compare_162
                  · replace hM := hM.call (r' := 1) hv820 (by decide)
                    have ex801 : x801.toInt = x19.toInt := by rw [← c822.symm.trans c802]
                    have ex803 : x803.toInt = f0_.toInt := by rw [← c821.symm.trans c804]
                    obtain ⟨x832, c833, rx832, tx832⟩ := hT.rda (lo := 0) (hi := 400) (i := (f0_.toInt).toNat) kM_at3 rfl rfl (by omega)
                    have g808 : 3 * x832.toInt + 11 ≤ 3 * x48.toInt + 14 * (x805.toInt - x773.toInt) := by have q := g808; simp only [c778, c821, c780, c833, c774, c806] at q; first | with_reducible exact q | omega
                    have g809 : x773.toInt + 1 ≤ x805.toInt := by have q := g809; simp only [c778, c821, c774, c806] at q; first | with_reducible exact q | omega
                    have hO : OKW w785 f0_.toInt gb (((gd) + 1) + 1) := by have q := hq807; exact OKW_cast q (by omega)
                    refine lv_if_ne (tgt := 163) hx hb dX12_compare_158 (by decide) (fun _ => ?_) (fun c => absurd c (by decide))
                    replace hM := hM.pos (by decide)
                    refine lv_aload_n hx hb dX12_compare_163 rfl (lv_at hl 4 rfl) ?_
                    refine lv_bipush (v := 6) hx hb dX12_compare_164 (by decide) ?_
                    refine lv_iload hx hb dX12_compare_166 (lv_at hl 0 rfl) ?_
                    refine lv_iadd hx hb dX12_compare_168 ?_
                    refine wk_top 9 (by decide) ?_
                    replace hM := hM.lt (v := 9) (by decide)
                    refine lv_iconst (v := 0) hx hb dX12_compare_169 (by decide) ?_
                    refine tk_Vv hC hK hw hT hA hE hSR kM_at0 (by decide) rfl (kz_X12_puts_1 l adK adV dC dI cy ad B hB0 (Int.le_trans hB1 (by decide)) qr s1   9 (by decide) (by decide) 0 (by decide) (by decide) w785 H.size hT f0_ c821 (show 0 ≤ f0_.toInt from rf0_) (show f0_.toInt ≤ 5 from tf0_) x832 c833 (show 0 ≤ x832.toInt by first | with_reducible assumption | omega) (show x832.toInt ≤ 400 by first | with_reducible assumption | omega) (show x832.toInt ≤ 399 by first | with_reducible assumption | omega)) (cwV 2 hC.2.2.2.2 uV_RX12_162 rfl rfl rfl (by decide +kernel) ⟨Nat.le_of_ble_eq_true rfl, Nat.le_of_ble_eq_true rfl⟩) rfl hl.1 rfl (Nat.le_of_ble_eq_true rfl) dX12_compare_170 (fun w838 H locs hp837 hw => ?_)
                    obtain ⟨hT, k839, hv845, hg844⟩ := hp837
                    try simp only [show (9 : Int32).toInt = 9 by decide] at hv845
                    try simp only [show (0 : Int32).toInt = 0 by decide] at hv845
                    have hF := hF.tr k839 (by decide)
                    have c846 := k839.gi kM_at0 (by decide) c821
                    have c847 := k839.gi kM_at0 (by decide) c822
                    have c848 := k839.gi kM_at1 rfl c823
                    have c849 := k839.gi kM_at0 (by decide) c806
                    obtain ⟨⟨x840, c841, rx840, tx840⟩, hq842, g843⟩ := hg844
                    replace hM := hM.call hv845 rfl
                    have ex840 : x840.toInt = f0_.toInt := by rw [← c846.symm.trans c841]
                    obtain ⟨x850, c851, rx850, tx850⟩ := hT.rda (lo := 0) (hi := 400) (i := (f0_.toInt).toNat) kM_at3 rfl rfl (by omega)
                    have g843 : x850.toInt = x832.toInt + 1 := by have q := g843; simp only [c821, c846, c833, c851] at q; first | with_reducible exact q | omega
                    have hO : OKW w838 f0_.toInt gb ((((gd) + 1) + 1) - 1) := OKW_put hO (by have q := hq842; rw [c821] at q; exact q) (by rw [c833]; omega) (fun x hx => by simp only [(show (9 : Int32).toInt = 9 by decide), (show (0 : Int32).toInt = 0 by decide)] at hx; exact okT_bin (by omega) (by omega) (by omega) (by omega)) (by omega) (by omega)
                    refine lv_iconst (v := 1) hx hb dX12_compare_173 (by decide) ?_
                    exact tk_zret hC hr rfl hlocks hK ⟨hT, hF, hM.ret (by decide), (Or.inr (Or.inr ⟨rfl, ⟨x19, c847, (show 1 ≤ x19.toInt by first | with_reducible assumption | omega), (show x19.toInt ≤ 400 by first | with_reducible assumption | omega)⟩, ⟨f0_, c846, (show 0 ≤ f0_.toInt from rf0_), (show f0_.toInt ≤ 5 from tf0_)⟩, ⟨x805, c849, (show 1 ≤ x805.toInt by first | with_reducible assumption | omega), (show x805.toInt ≤ 60 by first | with_reducible assumption | omega)⟩, (OKW_cast hO (by omega)), (by simp only [c846, cf0_, cf2_, c851, cf1_, c849]; omega), (by simp only [c846, cf0_, cf1_, c849]; omega)⟩))⟩ hw dX12_compare_174
                  · replace hM := hM.call (r' := 1) hv820 (by decide)
                    have ex810 : x810.toInt = x19.toInt := by rw [← c822.symm.trans c811]
                    have ex812 : x812.toInt = f0_.toInt := by rw [← c821.symm.trans c813]
                    obtain ⟨x834, c835, rx834, tx834⟩ := hT.rda (lo := 0) (hi := 400) (i := (f0_.toInt).toNat) kM_at3 rfl rfl (by omega)
                    have g817 : 3 * x834.toInt + 11 ≤ 3 * x48.toInt + 14 * (x814.toInt - x773.toInt) := by have q := g817; simp only [c778, c821, c780, c835, c774, c815] at q; first | with_reducible exact q | omega
                    have g818 : x773.toInt + 1 ≤ x814.toInt := by have q := g818; simp only [c778, c821, c774, c815] at q; first | with_reducible exact q | omega
                    have hO : OKW w785 f0_.toInt gb (((gd) + 1) + 1) := by have q := hq816; exact OKW_cast q (by omega)
                    refine lv_if_ne (tgt := 163) hx hb dX12_compare_158 (by decide) (fun _ => ?_) (fun c => absurd c (by decide))
                    replace hM := hM.pos (by decide)
                    refine lv_aload_n hx hb dX12_compare_163 rfl (lv_at hl 4 rfl) ?_
                    refine lv_bipush (v := 6) hx hb dX12_compare_164 (by decide) ?_
                    refine lv_iload hx hb dX12_compare_166 (lv_at hl 0 rfl) ?_
                    refine lv_iadd hx hb dX12_compare_168 ?_
                    refine wk_top 9 (by decide) ?_
                    replace hM := hM.lt (v := 9) (by decide)
                    refine lv_iconst (v := 0) hx hb dX12_compare_169 (by decide) ?_
                    refine tk_Vv hC hK hw hT hA hE hSR kM_at0 (by decide) rfl (kz_X12_puts_1 l adK adV dC dI cy ad B hB0 (Int.le_trans hB1 (by decide)) qr s1   9 (by decide) (by decide) 0 (by decide) (by decide) w785 H.size hT f0_ c821 (show 0 ≤ f0_.toInt from rf0_) (show f0_.toInt ≤ 5 from tf0_) x834 c835 (show 0 ≤ x834.toInt by first | with_reducible assumption | omega) (show x834.toInt ≤ 400 by first | with_reducible assumption | omega) (show x834.toInt ≤ 399 by first | with_reducible assumption | omega)) (cwV 2 hC.2.2.2.2 uV_RX12_162 rfl rfl rfl (by decide +kernel) ⟨Nat.le_of_ble_eq_true rfl, Nat.le_of_ble_eq_true rfl⟩) rfl hl.1 rfl (Nat.le_of_ble_eq_true rfl) dX12_compare_170 (fun w854 H locs hp853 hw => ?_)
                    obtain ⟨hT, k855, hv861, hg860⟩ := hp853
                    try simp only [show (9 : Int32).toInt = 9 by decide] at hv861
                    try simp only [show (0 : Int32).toInt = 0 by decide] at hv861
                    have hF := hF.tr k855 (by decide)
                    have c862 := k855.gi kM_at0 (by decide) c821
                    have c863 := k855.gi kM_at0 (by decide) c822
                    have c864 := k855.gi kM_at1 rfl c823
                    have c865 := k855.gi kM_at0 (by decide) c815
                    obtain ⟨⟨x856, c857, rx856, tx856⟩, hq858, g859⟩ := hg860
                    replace hM := hM.call hv861 rfl
                    have ex856 : x856.toInt = f0_.toInt := by rw [← c862.symm.trans c857]
                    obtain ⟨x866, c867, rx866, tx866⟩ := hT.rda (lo := 0) (hi := 400) (i := (f0_.toInt).toNat) kM_at3 rfl rfl (by omega)
                    have g859 : x866.toInt = x834.toInt + 1 := by have q := g859; simp only [c821, c862, c835, c867] at q; first | with_reducible exact q | omega
                    have hO : OKW w854 f0_.toInt gb ((((gd) + 1) + 1) - 1) := OKW_put hO (by have q := hq858; rw [c821] at q; exact q) (by rw [c835]; omega) (fun x hx => by simp only [(show (9 : Int32).toInt = 9 by decide), (show (0 : Int32).toInt = 0 by decide)] at hx; exact okT_bin (by omega) (by omega) (by omega) (by omega)) (by omega) (by omega)
                    refine lv_iconst (v := 1) hx hb dX12_compare_173 (by decide) ?_
                    exact tk_zret hC hr rfl hlocks hK ⟨hT, hF, hM.ret (by decide), (Or.inr (Or.inr ⟨rfl, ⟨x19, c863, (show 1 ≤ x19.toInt by first | with_reducible assumption | omega), (show x19.toInt ≤ 400 by first | with_reducible assumption | omega)⟩, ⟨f0_, c862, (show 0 ≤ f0_.toInt from rf0_), (show f0_.toInt ≤ 5 from tf0_)⟩, ⟨x814, c865, (show 1 ≤ x814.toInt by first | with_reducible assumption | omega), (show x814.toInt ≤ 60 by first | with_reducible assumption | omega)⟩, (OKW_cast hO (by omega)), (by simp only [c862, cf0_, cf2_, c867, cf1_, c865]; omega), (by simp only [c862, cf0_, cf1_, c865]; omega)⟩))⟩ hw dX12_compare_174
          · have c531 : ¬ r54.toInt = (62 : Int) := wk_eqF c531
            replace hM := hM.neg c531
            refine lv_aload_n hx hb dX12_compare_37 rfl (lv_at hl 2 rfl) ?_
            refine lv_iconst (v := 0) hx hb dX12_compare_38 (by decide) ?_
            refine lv_iload_n hx hb dX12_compare_39 rfl (lv_at hl 0 rfl) ?_
            refine tk_Vi hC hK hw hT hA hE hSR kM_at0 (by decide) rfl (kz_X12_fails_1 l adK adV dC dI cy ad B hB0 (Int.le_trans hB1 (by decide)) qr s1   0 (by decide) (by decide) x62 (show 0 ≤ x62.toInt by first | with_reducible assumption | omega) (show x62.toInt ≤ 400 by first | with_reducible assumption | omega) w56 H.size hT ) (cwV 2 hC.2.2.2.2 uV_RX12_115 rfl rfl rfl (by decide +kernel) ⟨Nat.le_of_ble_eq_true rfl, Nat.le_of_ble_eq_true rfl⟩) rfl hl.1 rfl (Nat.le_of_ble_eq_true rfl) dX12_compare_40 (fun r868 w870 H locs hp869 hw => ?_)
            obtain ⟨hT, k871, hv875, hg874⟩ := hp869
            try simp only [show (0 : Int32).toInt = 0 by decide] at hv875
            have hO := OKW_FE k871 (fun _ => rfl) (fun _ => rfl) (fun _ => rfl) (fun _ => rfl) hO
            have hF := hF.tr k871 (by decide)
            have c876 := k871.gi kM_at0 (by decide) c76
            have c877 := k871.gi kM_at0 (by decide) c77
            have c878 := k871.gi kM_at0 (by decide) c78
            have c879 := k871.gi kM_at3 rfl c79
            have c880 := k871.gi kM_at0 (by decide) c63
            obtain ⟨rfl, ⟨x872, c873, rx872, tx872⟩⟩ := hg874
            replace hM := hM.call (r' := 0) hv875 (by decide)
            exact tk_zret hC hr rfl hlocks hK ⟨hT, hF, hM.ret (by decide), (Or.inl ⟨rfl, ⟨x19, c877, (show 1 ≤ x19.toInt by first | with_reducible assumption | omega), (show x19.toInt ≤ 400 by first | with_reducible assumption | omega)⟩, ⟨x872, c873, (show 1 ≤ x872.toInt by first | with_reducible assumption | omega), (show x872.toInt ≤ 3205 by first | with_reducible assumption | omega)⟩, ⟨f0_, c876, (show 0 ≤ f0_.toInt from rf0_), (show f0_.toInt ≤ 5 from tf0_)⟩, hO.1⟩)⟩ hw dX12_compare_43
    · replace hM := hM.call (r' := (-1)) hv75 (by decide)
      have ex66 : x66.toInt = x19.toInt := by rw [← c77.symm.trans c67]
      have g70 : (x68.toInt = x52.toInt ∨ (gi w3 1 (x52.toInt).toNat).toInt = 32) := by have q := g70; simp only [c39, c76, c53, c69] at q; first | with_reducible exact q | omega
      refine lv_istore_n (lv' := [(1, .int (-1)), (0, .ref (ad 0))]) hx hb dX12_compare_13 rfl hl (by decide) rfl (fun ls hl => ?_)
      refine lv_aload_n hx hb dX12_compare_14 rfl (lv_at hl 1 rfl) ?_
      refine tk_geti hC hK hw hT hinX12 kM_at0 (by decide) rfl 14 (by decide) (List.mem_cons_of_mem _ uw_19_18) rfl rfl dX12_compare_15 (fun x881 c882 rx881 tx881 => ?_)
      refine wk_top x68 (c882.symm.trans c69) ?_
      replace hM := hM.rd (sI_at c69)
      refine lv_istore_n (lv' := [(2, .int x68), (1, .int (-1)), (0, .ref (ad 0))]) hx hb dX12_compare_18 rfl hl (by decide) rfl (fun ls hl => ?_)
      refine lv_iload_n hx hb dX12_compare_19 rfl (lv_at hl 1 rfl) ?_
      refine lv_bipush (v := 60) hx hb dX12_compare_20 (by decide) ?_
      refine lv_icmp_eq (tgt := 44) hx hb dX12_compare_22 (by decide) (fun c => absurd c (by decide)) (fun _ => ?_)
      replace hM := hM.neg (by decide)
      refine lv_iload_n hx hb dX12_compare_25 rfl (lv_at hl 1 rfl) ?_
      refine lv_bipush (v := 61) hx hb dX12_compare_26 (by decide) ?_
      refine lv_icmp_eq (tgt := 44) hx hb dX12_compare_28 (by decide) (fun c => absurd c (by decide)) (fun _ => ?_)
      replace hM := hM.neg (by decide)
      refine lv_iload_n hx hb dX12_compare_31 rfl (lv_at hl 1 rfl) ?_
      refine lv_bipush (v := 62) hx hb dX12_compare_32 (by decide) ?_
      refine lv_icmp_eq (tgt := 44) hx hb dX12_compare_34 (by decide) (fun c => absurd c (by decide)) (fun _ => ?_)
      replace hM := hM.neg (by decide)
      refine lv_aload_n hx hb dX12_compare_37 rfl (lv_at hl 2 rfl) ?_
      refine lv_iconst (v := 0) hx hb dX12_compare_38 (by decide) ?_
      refine lv_iload_n hx hb dX12_compare_39 rfl (lv_at hl 0 rfl) ?_
      refine tk_Vi hC hK hw hT hA hE hSR kM_at0 (by decide) rfl (kz_X12_fails_1 l adK adV dC dI cy ad B hB0 (Int.le_trans hB1 (by decide)) qr s1   0 (by decide) (by decide) x68 (show 0 ≤ x68.toInt by first | with_reducible assumption | omega) (show x68.toInt ≤ 400 by first | with_reducible assumption | omega) w56 H.size hT ) (cwV 2 hC.2.2.2.2 uV_RX12_115 rfl rfl rfl (by decide +kernel) ⟨Nat.le_of_ble_eq_true rfl, Nat.le_of_ble_eq_true rfl⟩) rfl hl.1 rfl (Nat.le_of_ble_eq_true rfl) dX12_compare_40 (fun r883 w885 H locs hp884 hw => ?_)
      obtain ⟨hT, k886, hv890, hg889⟩ := hp884
      try simp only [show (0 : Int32).toInt = 0 by decide] at hv890
      have hO := OKW_FE k886 (fun _ => rfl) (fun _ => rfl) (fun _ => rfl) (fun _ => rfl) hO
      have hF := hF.tr k886 (by decide)
      have c891 := k886.gi kM_at0 (by decide) c76
      have c892 := k886.gi kM_at0 (by decide) c77
      have c893 := k886.gi kM_at0 (by decide) c78
      have c894 := k886.gi kM_at3 rfl c79
      have c895 := k886.gi kM_at0 (by decide) c69
      obtain ⟨rfl, ⟨x887, c888, rx887, tx887⟩⟩ := hg889
      replace hM := hM.call (r' := 0) hv890 (by decide)
      exact tk_zret hC hr rfl hlocks hK ⟨hT, hF, hM.ret (by decide), (Or.inl ⟨rfl, ⟨x19, c892, (show 1 ≤ x19.toInt by first | with_reducible assumption | omega), (show x19.toInt ≤ 400 by first | with_reducible assumption | omega)⟩, ⟨x887, c888, (show 1 ≤ x887.toInt by first | with_reducible assumption | omega), (show x887.toInt ≤ 3205 by first | with_reducible assumption | omega)⟩, ⟨f0_, c891, (show 0 ≤ f0_.toInt from rf0_), (show f0_.toInt ≤ 5 from tf0_)⟩, hO.1⟩)⟩ hw dX12_compare_43
    · replace hM := hM.call (r' := (-1)) hv75 (by decide)
      have ex71 : x71.toInt = x19.toInt := by rw [← c77.symm.trans c72]
      obtain ⟨x80, c81, rx80, tx80⟩ := hT.rdi (lo := 0) (hi := 400) (k := 14) kM_at0 (by decide) rfl
      have g73 : (x80.toInt = x52.toInt ∨ (gi w3 1 (x52.toInt).toNat).toInt = 32) := by have q := g73; simp only [c39, c76, c53, c81] at q; first | with_reducible exact q | omega
      refine lv_istore_n (lv' := [(1, .int (-1)), (0, .ref (ad 0))]) hx hb dX12_compare_13 rfl hl (by decide) rfl (fun ls hl => ?_)
      refine lv_aload_n hx hb dX12_compare_14 rfl (lv_at hl 1 rfl) ?_
      refine tk_geti hC hK hw hT hinX12 kM_at0 (by decide) rfl 14 (by decide) (List.mem_cons_of_mem _ uw_19_18) rfl rfl dX12_compare_15 (fun x896 c897 rx896 tx896 => ?_)
      refine wk_top x80 (c897.symm.trans c81) ?_
      replace hM := hM.rd (sI_at c81)
      refine lv_istore_n (lv' := [(2, .int x80), (1, .int (-1)), (0, .ref (ad 0))]) hx hb dX12_compare_18 rfl hl (by decide) rfl (fun ls hl => ?_)
      refine lv_iload_n hx hb dX12_compare_19 rfl (lv_at hl 1 rfl) ?_
      refine lv_bipush (v := 60) hx hb dX12_compare_20 (by decide) ?_
      refine lv_icmp_eq (tgt := 44) hx hb dX12_compare_22 (by decide) (fun c => absurd c (by decide)) (fun _ => ?_)
      replace hM := hM.neg (by decide)
      refine lv_iload_n hx hb dX12_compare_25 rfl (lv_at hl 1 rfl) ?_
      refine lv_bipush (v := 61) hx hb dX12_compare_26 (by decide) ?_
      refine lv_icmp_eq (tgt := 44) hx hb dX12_compare_28 (by decide) (fun c => absurd c (by decide)) (fun _ => ?_)
      replace hM := hM.neg (by decide)
      refine lv_iload_n hx hb dX12_compare_31 rfl (lv_at hl 1 rfl) ?_
      refine lv_bipush (v := 62) hx hb dX12_compare_32 (by decide) ?_
      refine lv_icmp_eq (tgt := 44) hx hb dX12_compare_34 (by decide) (fun c => absurd c (by decide)) (fun _ => ?_)
      replace hM := hM.neg (by decide)
      refine lv_aload_n hx hb dX12_compare_37 rfl (lv_at hl 2 rfl) ?_
      refine lv_iconst (v := 0) hx hb dX12_compare_38 (by decide) ?_
      refine lv_iload_n hx hb dX12_compare_39 rfl (lv_at hl 0 rfl) ?_
      refine tk_Vi hC hK hw hT hA hE hSR kM_at0 (by decide) rfl (kz_X12_fails_1 l adK adV dC dI cy ad B hB0 (Int.le_trans hB1 (by decide)) qr s1   0 (by decide) (by decide) x80 (show 0 ≤ x80.toInt by first | with_reducible assumption | omega) (show x80.toInt ≤ 400 by first | with_reducible assumption | omega) w56 H.size hT ) (cwV 2 hC.2.2.2.2 uV_RX12_115 rfl rfl rfl (by decide +kernel) ⟨Nat.le_of_ble_eq_true rfl, Nat.le_of_ble_eq_true rfl⟩) rfl hl.1 rfl (Nat.le_of_ble_eq_true rfl) dX12_compare_40 (fun r898 w900 H locs hp899 hw => ?_)
      obtain ⟨hT, k901, hv905, hg904⟩ := hp899
      try simp only [show (0 : Int32).toInt = 0 by decide] at hv905
      have hO := OKW_FE k901 (fun _ => rfl) (fun _ => rfl) (fun _ => rfl) (fun _ => rfl) hO
      have hF := hF.tr k901 (by decide)
      have c906 := k901.gi kM_at0 (by decide) c76
      have c907 := k901.gi kM_at0 (by decide) c77
      have c908 := k901.gi kM_at0 (by decide) c78
      have c909 := k901.gi kM_at3 rfl c79
      have c910 := k901.gi kM_at0 (by decide) c81
      obtain ⟨rfl, ⟨x902, c903, rx902, tx902⟩⟩ := hg904
      replace hM := hM.call (r' := 0) hv905 (by decide)
      exact tk_zret hC hr rfl hlocks hK ⟨hT, hF, hM.ret (by decide), (Or.inl ⟨rfl, ⟨x19, c907, (show 1 ≤ x19.toInt by first | with_reducible assumption | omega), (show x19.toInt ≤ 400 by first | with_reducible assumption | omega)⟩, ⟨x902, c903, (show 1 ≤ x902.toInt by first | with_reducible assumption | omega), (show x902.toInt ≤ 3205 by first | with_reducible assumption | omega)⟩, ⟨f0_, c906, (show 0 ≤ f0_.toInt from rf0_), (show f0_.toInt ≤ 5 from tf0_)⟩, hO.1⟩)⟩ hw dX12_compare_43
  · replace hM := hM.call (r' := 1) hv38 (by decide)
    have ex30 : x30.toInt = f0_.toInt := by rw [← c39.symm.trans c31]
    obtain ⟨x50, c51, rx50, tx50⟩ := hT.rda (lo := 0) (hi := 400) (i := (f0_.toInt).toNat) kM_at3 rfl rfl (by omega)
    have g35 : 3 * x50.toInt + 11 ≤ 3 * f2_.toInt + 14 * (x32.toInt - f1_.toInt) := by have q := g35; simp only [cf0_, c39, cf2_, c51, cf1_, c33] at q; first | with_reducible exact q | omega
    have g36 : f1_.toInt + 1 ≤ x32.toInt := by have q := g36; simp only [cf0_, c39, cf1_, c33] at q; first | with_reducible exact q | omega
    have hO : OKW w3 f0_.toInt gb ((gd) + 1) := by have q := hq34; exact OKW_cast q (by omega)
    refine lv_if_ne (tgt := 9) hx hb dX12_compare_4 (by decide) (fun _ => ?_) (fun c => absurd c (by decide))
    replace hM := hM.pos (by decide)
    refine lv_aload_n hx hb dX12_compare_9 rfl (lv_at hl 0 rfl) ?_
    obtain ⟨x911, c912, rx911, tx911⟩ := hT.rdi (lo := 0) (hi := 400) (k := 14) kM_at0 (by decide) rfl
    refine tk_Vi hC hK hw hT hA hE hSR kM_at0 (by decide) rfl (kz_X12_see_1 l adK adV dC dI cy ad B hB0 (Int.le_trans hB1 (by decide)) qr s1    w3 H.size hT x911 c912 (show 0 ≤ x911.toInt by first | with_reducible assumption | omega) (show x911.toInt ≤ 400 by first | with_reducible assumption | omega)) (cwV 0 hC.2.2.2.2 uV_RX12_97 rfl rfl rfl (by decide +kernel) ⟨Nat.le_of_ble_eq_true rfl, Nat.le_of_ble_eq_true rfl⟩) rfl hl.1 rfl (Nat.le_of_ble_eq_true rfl) dX12_compare_10 (fun r913 w915 H locs hp914 hw => ?_)
    obtain ⟨hT, k916, hv934, hg933⟩ := hp914
    have hO := OKW_FE k916 (fun _ => rfl) (fun _ => rfl) (fun _ => rfl) (fun _ => rfl) hO
    have hF := hF.tr k916 (by decide)
    have c935 := k916.gi kM_at0 (by decide) c39
    have c936 := k916.gi kM_at0 (by decide) c29
    have c937 := k916.gi kM_at0 (by decide) c33
    have c938 := k916.gi kM_at3 rfl c51
    rcases hg933 with ⟨g917, g918, ⟨x919, c920, rx919, tx919⟩, ⟨x921, c922, rx921, tx921⟩, g923, g924⟩ | ⟨rfl, ⟨x925, c926, rx925, tx925⟩, ⟨x927, c928, rx927, tx927⟩, g929⟩ | ⟨rfl, ⟨x930, c931, rx930, tx930⟩, g932⟩
    · replace hM := hM.call hv934 rfl
      have ex919 : x919.toInt = x28.toInt := by rw [← c936.symm.trans c920]
      have g923 : (gi w915 1 (x921.toInt).toNat).toInt ≠ 32 := by have q := g923; simp only [c39, c935, c922] at q; first | with_reducible exact q | omega
      have g924 : (x921.toInt = x911.toInt ∨ (gi w3 1 (x911.toInt).toNat).toInt = 32) := by have q := g924; simp only [c39, c935, c912, c922] at q; first | with_reducible exact q | omega
      refine lv_istore_n (lv' := [(1, .int r913), (0, .ref (ad 0))]) hx hb dX12_compare_13 rfl hl (by decide) rfl (fun ls hl => ?_)
      refine lv_aload_n hx hb dX12_compare_14 rfl (lv_at hl 1 rfl) ?_
      refine tk_geti hC hK hw hT hinX12 kM_at0 (by decide) rfl 14 (by decide) (List.mem_cons_of_mem _ uw_19_18) rfl rfl dX12_compare_15 (fun x941 c942 rx941 tx941 => ?_)
      refine wk_top x921 (c942.symm.trans c922) ?_
      replace hM := hM.rd (sI_at c922)
      refine lv_istore_n (lv' := [(2, .int x921), (1, .int r913), (0, .ref (ad 0))]) hx hb dX12_compare_18 rfl hl (by decide) rfl (fun ls hl => ?_)
      refine lv_iload_n hx hb dX12_compare_19 rfl (lv_at hl 1 rfl) ?_
      refine lv_bipush (v := 60) hx hb dX12_compare_20 (by decide) ?_
      refine lv_icmp_eq (tgt := 44) hx hb dX12_compare_22 (by decide) (fun c943 => ?_) (fun c943 => ?_)
      · have c943 : r913.toInt = (60 : Int) := wk_eq.mp c943
        replace hM := hM.pos c943
        refine lv_aload_n hx hb dX12_compare_44 rfl (lv_at hl 2 rfl) ?_
        refine lv_dup hx hb dX12_compare_45 rfl ?_
        refine tk_geti hC hK hw hT hinX12 kM_at0 (by decide) rfl 14 (by decide) (List.mem_cons_of_mem _ uw_19_18) rfl rfl dX12_compare_46 (fun x944 c945 rx944 tx944 => ?_)
        refine wk_top x921 (c945.symm.trans c922) ?_
        replace hM := hM.rd (sI_at c922)
        refine lv_iconst (v := 1) hx hb dX12_compare_49 (by decide) ?_
        refine lv_iadd hx hb dX12_compare_50 ?_
        refine lv_topi (fun x946 ex946 => ?_)
        have ezx946 := ex946
        have ex946 : x946.toInt = x921.toInt + (1 : Int) := by rw [ex946]; exact wk_add (show (-2147483648) ≤ x921.toInt + (1 : Int) by omega) (show x921.toInt + (1 : Int) ≤ 2147483647 by omega)
        replace hM := hM.lt ex946.symm
        refine tk_puti hC hK hw hT hinX12 tyX12_ok nmX12 kM_at0 (by decide) rfl rfl 14 (by decide) (List.mem_cons_of_mem _ uw_19_18) rfl rfl rfl rfl (show 0 ≤ x946.toInt by first | with_reducible assumption | omega) (show x946.toInt ≤ 400 by first | with_reducible assumption | omega) dX12_compare_51 (fun H locs w947 hw hT k949 c948 => ?_)
        replace hM := hM.wr (sI_up k949 c948)
        have hO := OKW_F1 k949 (by decide) (by decide) (by decide) (by decide) hO
        have hF := hF.put kM_at0 (k := 14) (by decide) k949
        have c950 := k949.gi (Or.inr (by decide)) c935
        have c951 := k949.gi (Or.inr (by decide)) c936
        have c952 := k949.gi (Or.inr (by decide)) c937
        have c953 := k949.gi (Or.inl (tk_ne kM_at3 kM_at0 (by decide))) c938
        refine lv_iload_n hx hb dX12_compare_54 rfl (lv_at hl 1 rfl) ?_
        refine lv_bipush (v := 61) hx hb dX12_compare_55 (by decide) ?_
        refine lv_icmp_eq (tgt := 89) hx hb dX12_compare_57 (by decide) (fun c => absurd c (fun h => absurd (show r913.toInt = (61 : Int) from wk_eq.mp h) (by omega))) (fun _ => ?_)
        replace hM := hM.neg (by omega)
        refine lv_aload_n hx hb dX12_compare_60 rfl (lv_at hl 2 rfl) ?_
        refine tk_geti hC hK hw hT hinX12 kM_at0 (by decide) rfl 14 (by decide) (List.mem_cons_of_mem _ uw_19_18) rfl rfl dX12_compare_61 (fun x954 c955 rx954 tx954 => ?_)
        refine wk_top x946 (c955.symm.trans c948) ?_
        replace hM := hM.rd (sI_at c948)
        refine lv_aload_n hx hb dX12_compare_64 rfl (lv_at hl 2 rfl) ?_
        refine tk_geti hC hK hw hT hinX12 kM_at0 (by decide) rfl 1 (by decide) (List.mem_cons_of_mem _ uw_8_7) rfl rfl dX12_compare_65 (fun x956 c957 rx956 tx956 => ?_)
        refine wk_top x28 (c957.symm.trans c951) ?_
        replace hM := hM.rd (sI_at c951)
        refine lv_icmp_ge (tgt := 89) hx hb dX12_compare_68 (by decide) (fun c958 => ?_) (fun c958 => ?_)
        · have c958 : x28.toInt ≤ x946.toInt := wk_le.mp c958
          replace hM := hM.pos c958
          refine lv_iconst (v := 0) hx hb dX12_compare_89 (by decide) ?_
          refine lv_istore_n (lv' := [(3, .int 0), (2, .int x921), (1, .int r913), (0, .ref (ad 0))]) hx hb dX12_compare_90 rfl hl (by decide) rfl (fun ls hl => ?_)
          refine lv_iload_n hx hb dX12_compare_91 rfl (lv_at hl 0 rfl) ?_
          refine lv_if_eq (tgt := 105) hx hb dX12_compare_92 (by decide) (fun _ => ?_) (fun c => absurd (by decide) c)
          replace hM := hM.pos (by decide)
          refine lv_aload_n hx hb dX12_compare_105 rfl (lv_at hl 3 rfl) ?_
          refine lv_iload_n hx hb dX12_compare_106 rfl (lv_at hl 1 rfl) ?_
          refine tk_Vi hC hK hw hT hA hE hSR kM_at0 (by decide) rfl (kz_X12_makes_1 l adK adV dC dI cy ad B hB0 (Int.le_trans hB1 (by decide)) qr s1   x921 (show 0 ≤ x921.toInt by first | with_reducible assumption | omega) (show x921.toInt ≤ 399 by first | with_reducible assumption | omega) w947 H.size hT x32 c952 (show 0 ≤ x32.toInt by first | with_reducible assumption | omega) (show x32.toInt ≤ 60 by first | with_reducible assumption | omega)) (cwV 1 hC.2.2.2.2 uV_RX12_170 rfl rfl rfl (by decide +kernel) ⟨Nat.le_of_ble_eq_true rfl, Nat.le_of_ble_eq_true rfl⟩) rfl hl.1 rfl (Nat.le_of_ble_eq_true rfl) dX12_compare_107 (fun r959 w961 H locs hp960 hw => ?_)
          obtain ⟨hT, k962, hv971, hg970⟩ := hp960
          have hO := OKW_FE k962 (fun _ => rfl) (fun _ => rfl) (fun _ => rfl) (fun _ => rfl) hO
          have hF := hF.tr k962 (by decide)
          have c972 := k962.gi kM_at0 (by decide) c950
          have c973 := k962.gi kM_at0 (by decide) c951
          have c974 := k962.gi kM_at3 rfl c953
          have c975 := k962.gi kM_at0 (by decide) c948
          rcases hg970 with ⟨rfl, ⟨x963, c964, rx963, tx963⟩, ⟨x965, c966, rx965, tx965⟩⟩ | ⟨rfl, ⟨x967, c968, rx967, tx967⟩, g969⟩
          · replace hM := hM.call (r' := 0) hv971 (by decide)
            refine lv_if_ne (tgt := 115) hx hb dX12_compare_110 (by decide) (fun c => absurd (by decide) c) (fun _ => ?_)
            replace hM := hM.neg (by decide)
            refine lv_iconst (v := 0) hx hb dX12_compare_113 (by decide) ?_
            exact tk_zret hC hr rfl hlocks hK ⟨hT, hF, hM.ret (by decide), (Or.inl ⟨rfl, ⟨x28, c973, (show 1 ≤ x28.toInt by first | with_reducible assumption | omega), (show x28.toInt ≤ 400 by first | with_reducible assumption | omega)⟩, ⟨x963, c964, (show 1 ≤ x963.toInt by first | with_reducible assumption | omega), (show x963.toInt ≤ 3205 by first | with_reducible assumption | omega)⟩, ⟨f0_, c972, (show 0 ≤ f0_.toInt from rf0_), (show f0_.toInt ≤ 5 from tf0_)⟩, hO.1⟩)⟩ hw dX12_compare_114
          · replace hM := hM.call (r' := 1) hv971 (by decide)
            have g969 : x967.toInt = x32.toInt + 1 := by have q := g969; simp only [c950, c972, c952, c968] at q; first | with_reducible exact q | omega
            refine lv_if_ne (tgt := 115) hx hb dX12_compare_110 (by decide) (fun _ => ?_) (fun c => absurd c (by decide))
            replace hM := hM.pos (by decide)
            refine lv_iload_n hx hb dX12_compare_115 rfl (lv_at hl 2 rfl) ?_
            refine lv_bipush (v := 60) hx hb dX12_compare_116 (by decide) ?_
            refine lv_icmp_ne (tgt := 133) hx hb dX12_compare_118 (by decide) (fun c => (c (wk_eq.mpr (show r913.toInt = (60 : Int) by first | exact Int.le_antisymm (by omega) (by omega) | omega))).elim) (fun _ => ?_)
            replace hM := hM.neg (by omega)
            refine lv_iload_n hx hb dX12_compare_121 rfl (lv_at hl 0 rfl) ?_
            refine lv_if_eq (tgt := 129) hx hb dX12_compare_122 (by decide) (fun _ => ?_) (fun c => absurd (by decide) c)
            replace hM := hM.pos (by decide)
            refine lv_iconst (v := 0) hx hb dX12_compare_129 (by decide) ?_
            refine lv_goto (tgt := 152) hx hb dX12_compare_130 (by decide) ?_
            refine lv_istore (lv' := [(4, .int 0), (3, .int 0), (2, .int x921), (1, .int r913), (0, .ref (ad 0))]) hx hb dX12_compare_152 hl (by decide) rfl (fun ls hl => ?_)
            refine lv_aload_n hx hb dX12_compare_154 rfl (lv_at hl 4 rfl) ?_
            refine tk_Vi hC hK hw hT hA hE hSR kM_at0 (by decide) rfl (kz_X12_sum_1 l adK adV dC dI cy ad B hB0 (Int.le_trans hB1 (by decide)) qr s1    w961 H.size hT f0_ c972 (show 0 ≤ f0_.toInt from rf0_) (show f0_.toInt ≤ 5 from tf0_) x967 c968 (show 0 ≤ x967.toInt by first | with_reducible assumption | omega) (show x967.toInt ≤ 60 by first | with_reducible assumption | omega) x50 c974 (show 0 ≤ x50.toInt by first | with_reducible assumption | omega) (show x50.toInt ≤ 400 by first | with_reducible assumption | omega) (show 3 * x50.toInt ≤ 14 * x967.toInt + 60 by omega) (show x50.toInt ≤ 300 by first | with_reducible assumption | omega) gb ((gd) + 1) (by omega) (by omega) (OKW_cast hO (show (gd) + 1 = (gd) + 1 from rfl))) (cwV 0 hC.2.2.2.2 uV_RX12_183 rfl rfl rfl (by decide +kernel) ⟨Nat.le_of_ble_eq_true rfl, Nat.le_of_ble_eq_true rfl⟩) rfl hl.1 rfl (Nat.le_of_ble_eq_true rfl) dX12_compare_155 (fun r976 w978 H locs hp977 hw => ?_)
            obtain ⟨hT, k979, hv1013, hg1012⟩ := hp977
            have hF := hF.tr k979 (by decide)
            have c1014 := k979.gi kM_at0 (by decide) c972
            have c1015 := k979.gi kM_at0 (by decide) c973
            rcases hg1012 with ⟨rfl, ⟨x980, c981, rx980, tx980⟩, ⟨x982, c983, rx982, tx982⟩, ⟨x984, c985, rx984, tx984⟩, hq986⟩ | ⟨rfl, ⟨x987, c988, rx987, tx987⟩, ⟨x989, c990, rx989, tx989⟩, ⟨x991, c992, rx991, tx991⟩, hq993⟩ | ⟨rfl, ⟨x994, c995, rx994, tx994⟩, ⟨x996, c997, rx996, tx996⟩, ⟨x998, c999, rx998, tx998⟩, hq1000, g1001, g1002⟩ | ⟨rfl, ⟨x1003, c1004, rx1003, tx1003⟩, ⟨x1005, c1006, rx1005, tx1005⟩, ⟨x1007, c1008, rx1007, tx1007⟩, hq1009, g1010, g1011⟩
            · replace hM := hM.call (r' := 0) hv1013 (by decide)
              have ex980 : x980.toInt = x28.toInt := by rw [← c1015.symm.trans c981]
              have ex984 : x984.toInt = f0_.toInt := by rw [← c1014.symm.trans c985]
              obtain ⟨x1016, c1017, rx1016, tx1016⟩ := hT.rda (lo := 0) (hi := 400) (i := (f0_.toInt).toNat) kM_at3 rfl rfl (by omega)
              obtain ⟨x1018, c1019, rx1018, tx1018⟩ := hT.rdi (lo := 0) (hi := 60) (k := 18) kM_at0 (by decide) rfl
              have hR := hq986
              refine lv_if_ne (tgt := 163) hx hb dX12_compare_158 (by decide) (fun c => absurd (by decide) c) (fun _ => ?_)
              replace hM := hM.neg (by decide)
              refine lv_iconst (v := 0) hx hb dX12_compare_161 (by decide) ?_
              exact tk_zret hC hr rfl hlocks hK ⟨hT, hF, hM.ret (by decide), (Or.inl ⟨rfl, ⟨x28, c1015, (show 1 ≤ x28.toInt by first | with_reducible assumption | omega), (show x28.toInt ≤ 400 by first | with_reducible assumption | omega)⟩, ⟨x982, c983, (show 1 ≤ x982.toInt by first | with_reducible assumption | omega), (show x982.toInt ≤ 3205 by first | with_reducible assumption | omega)⟩, ⟨f0_, c1014, (show 0 ≤ f0_.toInt from rf0_), (show f0_.toInt ≤ 5 from tf0_)⟩, hR⟩)⟩ hw dX12_compare_162
            · replace hM := hM.call (r' := 0) hv1013 (by decide)
              have ex987 : x987.toInt = x28.toInt := by rw [← c1015.symm.trans c988]
              have ex991 : x991.toInt = f0_.toInt := by rw [← c1014.symm.trans c992]
              obtain ⟨x1020, c1021, rx1020, tx1020⟩ := hT.rda (lo := 0) (hi := 400) (i := (f0_.toInt).toNat) kM_at3 rfl rfl (by omega)
              obtain ⟨x1022, c1023, rx1022, tx1022⟩ := hT.rdi (lo := 0) (hi := 60) (k := 18) kM_at0 (by decide) rfl
              have hR := hq993
              refine lv_if_ne (tgt := 163) hx hb dX12_compare_158 (by decide) (fun c => absurd (by decide) c) (fun _ => ?_)
              replace hM := hM.neg (by decide)
              refine lv_iconst (v := 0) hx hb dX12_compare_161 (by decide) ?_
              exact tk_zret hC hr rfl hlocks hK ⟨hT, hF, hM.ret (by decide), (Or.inl ⟨rfl, ⟨x28, c1015, (show 1 ≤ x28.toInt by first | with_reducible assumption | omega), (show x28.toInt ≤ 400 by first | with_reducible assumption | omega)⟩, ⟨x989, c990, (show 1 ≤ x989.toInt by first | with_reducible assumption | omega), (show x989.toInt ≤ 3205 by first | with_reducible assumption | omega)⟩, ⟨f0_, c1014, (show 0 ≤ f0_.toInt from rf0_), (show f0_.toInt ≤ 5 from tf0_)⟩, hR⟩)⟩ hw dX12_compare_162
            · replace hM := hM.call (r' := 1) hv1013 (by decide)
              have ex994 : x994.toInt = x28.toInt := by rw [← c1015.symm.trans c995]
              have ex996 : x996.toInt = f0_.toInt := by rw [← c1014.symm.trans c997]
              obtain ⟨x1024, c1025, rx1024, tx1024⟩ := hT.rda (lo := 0) (hi := 400) (i := (f0_.toInt).toNat) kM_at3 rfl rfl (by omega)
              have g1001 : 3 * x1024.toInt + 11 ≤ 3 * x50.toInt + 14 * (x998.toInt - x967.toInt) := by have q := g1001; simp only [c972, c1014, c974, c1025, c968, c999] at q; first | with_reducible exact q | omega
              have g1002 : x967.toInt + 1 ≤ x998.toInt := by have q := g1002; simp only [c972, c1014, c968, c999] at q; first | with_reducible exact q | omega
              have hO : OKW w978 f0_.toInt gb (((gd) + 1) + 1) := by have q := hq1000; exact OKW_cast q (by omega)
              refine lv_if_ne (tgt := 163) hx hb dX12_compare_158 (by decide) (fun _ => ?_) (fun c => absurd c (by decide))
              replace hM := hM.pos (by decide)
              refine lv_aload_n hx hb dX12_compare_163 rfl (lv_at hl 4 rfl) ?_
              refine lv_bipush (v := 6) hx hb dX12_compare_164 (by decide) ?_
              refine lv_iload hx hb dX12_compare_166 (lv_at hl 0 rfl) ?_
              refine lv_iadd hx hb dX12_compare_168 ?_
              refine wk_top 6 (by decide) ?_
              replace hM := hM.lt (v := 6) (by decide)
              refine lv_iconst (v := 0) hx hb dX12_compare_169 (by decide) ?_
              refine tk_Vv hC hK hw hT hA hE hSR kM_at0 (by decide) rfl (kz_X12_puts_1 l adK adV dC dI cy ad B hB0 (Int.le_trans hB1 (by decide)) qr s1   6 (by decide) (by decide) 0 (by decide) (by decide) w978 H.size hT f0_ c1014 (show 0 ≤ f0_.toInt from rf0_) (show f0_.toInt ≤ 5 from tf0_) x1024 c1025 (show 0 ≤ x1024.toInt by first | with_reducible assumption | omega) (show x1024.toInt ≤ 400 by first | with_reducible assumption | omega) (show x1024.toInt ≤ 399 by first | with_reducible assumption | omega)) (cwV 2 hC.2.2.2.2 uV_RX12_162 rfl rfl rfl (by decide +kernel) ⟨Nat.le_of_ble_eq_true rfl, Nat.le_of_ble_eq_true rfl⟩) rfl hl.1 rfl (Nat.le_of_ble_eq_true rfl) dX12_compare_170 (fun w1030 H locs hp1029 hw => ?_)
              obtain ⟨hT, k1031, hv1037, hg1036⟩ := hp1029
              try simp only [show (6 : Int32).toInt = 6 by decide] at hv1037
              try simp only [show (0 : Int32).toInt = 0 by decide] at hv1037
              have hF := hF.tr k1031 (by decide)
              have c1038 := k1031.gi kM_at0 (by decide) c1014
              have c1039 := k1031.gi kM_at0 (by decide) c1015
              have c1040 := k1031.gi kM_at0 (by decide) c999
              obtain ⟨⟨x1032, c1033, rx1032, tx1032⟩, hq1034, g1035⟩ := hg1036
              replace hM := hM.call hv1037 rfl
              have ex1032 : x1032.toInt = f0_.toInt := by rw [← c1038.symm.trans c1033]
              obtain ⟨x1041, c1042, rx1041, tx1041⟩ := hT.rda (lo := 0) (hi := 400) (i := (f0_.toInt).toNat) kM_at3 rfl rfl (by omega)
              have g1035 : x1041.toInt = x1024.toInt + 1 := by have q := g1035; simp only [c1014, c1038, c1025, c1042] at q; first | with_reducible exact q | omega
              have hO : OKW w1030 f0_.toInt gb ((((gd) + 1) + 1) - 1) := OKW_put hO (by have q := hq1034; rw [c1014] at q; exact q) (by rw [c1025]; omega) (fun x hx => by simp only [(show (6 : Int32).toInt = 6 by decide), (show (0 : Int32).toInt = 0 by decide)] at hx; exact okT_bin (by omega) (by omega) (by omega) (by omega)) (by omega) (by omega)
              refine lv_iconst (v := 1) hx hb dX12_compare_173 (by decide) ?_
              exact tk_zret hC hr rfl hlocks hK ⟨hT, hF, hM.ret (by decide), (Or.inr (Or.inr ⟨rfl, ⟨x28, c1039, (show 1 ≤ x28.toInt by first | with_reducible assumption | omega), (show x28.toInt ≤ 400 by first | with_reducible assumption | omega)⟩, ⟨f0_, c1038, (show 0 ≤ f0_.toInt from rf0_), (show f0_.toInt ≤ 5 from tf0_)⟩, ⟨x998, c1040, (show 1 ≤ x998.toInt by first | with_reducible assumption | omega), (show x998.toInt ≤ 60 by first | with_reducible assumption | omega)⟩, (OKW_cast hO (by omega)), (by simp only [c1038, cf0_, cf2_, c1042, cf1_, c1040]; omega), (by simp only [c1038, cf0_, cf1_, c1040]; omega)⟩))⟩ hw dX12_compare_174
            · replace hM := hM.call (r' := 1) hv1013 (by decide)
              have ex1003 : x1003.toInt = x28.toInt := by rw [← c1015.symm.trans c1004]
              have ex1005 : x1005.toInt = f0_.toInt := by rw [← c1014.symm.trans c1006]
              obtain ⟨x1026, c1027, rx1026, tx1026⟩ := hT.rda (lo := 0) (hi := 400) (i := (f0_.toInt).toNat) kM_at3 rfl rfl (by omega)
              have g1010 : 3 * x1026.toInt + 11 ≤ 3 * x50.toInt + 14 * (x1007.toInt - x967.toInt) := by have q := g1010; simp only [c972, c1014, c974, c1027, c968, c1008] at q; first | with_reducible exact q | omega
              have g1011 : x967.toInt + 1 ≤ x1007.toInt := by have q := g1011; simp only [c972, c1014, c968, c1008] at q; first | with_reducible exact q | omega
              have hO : OKW w978 f0_.toInt gb (((gd) + 1) + 1) := by have q := hq1009; exact OKW_cast q (by omega)
              refine lv_if_ne (tgt := 163) hx hb dX12_compare_158 (by decide) (fun _ => ?_) (fun c => absurd c (by decide))
              replace hM := hM.pos (by decide)
              refine lv_aload_n hx hb dX12_compare_163 rfl (lv_at hl 4 rfl) ?_
              refine lv_bipush (v := 6) hx hb dX12_compare_164 (by decide) ?_
              refine lv_iload hx hb dX12_compare_166 (lv_at hl 0 rfl) ?_
              refine lv_iadd hx hb dX12_compare_168 ?_
              refine wk_top 6 (by decide) ?_
              replace hM := hM.lt (v := 6) (by decide)
              refine lv_iconst (v := 0) hx hb dX12_compare_169 (by decide) ?_
              refine tk_Vv hC hK hw hT hA hE hSR kM_at0 (by decide) rfl (kz_X12_puts_1 l adK adV dC dI cy ad B hB0 (Int.le_trans hB1 (by decide)) qr s1   6 (by decide) (by decide) 0 (by decide) (by decide) w978 H.size hT f0_ c1014 (show 0 ≤ f0_.toInt from rf0_) (show f0_.toInt ≤ 5 from tf0_) x1026 c1027 (show 0 ≤ x1026.toInt by first | with_reducible assumption | omega) (show x1026.toInt ≤ 400 by first | with_reducible assumption | omega) (show x1026.toInt ≤ 399 by first | with_reducible assumption | omega)) (cwV 2 hC.2.2.2.2 uV_RX12_162 rfl rfl rfl (by decide +kernel) ⟨Nat.le_of_ble_eq_true rfl, Nat.le_of_ble_eq_true rfl⟩) rfl hl.1 rfl (Nat.le_of_ble_eq_true rfl) dX12_compare_170 (fun w1045 H locs hp1044 hw => ?_)
              obtain ⟨hT, k1046, hv1052, hg1051⟩ := hp1044
              try simp only [show (6 : Int32).toInt = 6 by decide] at hv1052
              try simp only [show (0 : Int32).toInt = 0 by decide] at hv1052
              have hF := hF.tr k1046 (by decide)
              have c1053 := k1046.gi kM_at0 (by decide) c1014
              have c1054 := k1046.gi kM_at0 (by decide) c1015
              have c1055 := k1046.gi kM_at0 (by decide) c1008
              obtain ⟨⟨x1047, c1048, rx1047, tx1047⟩, hq1049, g1050⟩ := hg1051
              replace hM := hM.call hv1052 rfl
              have ex1047 : x1047.toInt = f0_.toInt := by rw [← c1053.symm.trans c1048]
              obtain ⟨x1056, c1057, rx1056, tx1056⟩ := hT.rda (lo := 0) (hi := 400) (i := (f0_.toInt).toNat) kM_at3 rfl rfl (by omega)
              have g1050 : x1056.toInt = x1026.toInt + 1 := by have q := g1050; simp only [c1014, c1053, c1027, c1057] at q; first | with_reducible exact q | omega
              have hO : OKW w1045 f0_.toInt gb ((((gd) + 1) + 1) - 1) := OKW_put hO (by have q := hq1049; rw [c1014] at q; exact q) (by rw [c1027]; omega) (fun x hx => by simp only [(show (6 : Int32).toInt = 6 by decide), (show (0 : Int32).toInt = 0 by decide)] at hx; exact okT_bin (by omega) (by omega) (by omega) (by omega)) (by omega) (by omega)
              refine lv_iconst (v := 1) hx hb dX12_compare_173 (by decide) ?_
              exact tk_zret hC hr rfl hlocks hK ⟨hT, hF, hM.ret (by decide), (Or.inr (Or.inr ⟨rfl, ⟨x28, c1054, (show 1 ≤ x28.toInt by first | with_reducible assumption | omega), (show x28.toInt ≤ 400 by first | with_reducible assumption | omega)⟩, ⟨f0_, c1053, (show 0 ≤ f0_.toInt from rf0_), (show f0_.toInt ≤ 5 from tf0_)⟩, ⟨x1007, c1055, (show 1 ≤ x1007.toInt by first | with_reducible assumption | omega), (show x1007.toInt ≤ 60 by first | with_reducible assumption | omega)⟩, (OKW_cast hO (by omega)), (by simp only [c1053, cf0_, cf2_, c1057, cf1_, c1055]; omega), (by simp only [c1053, cf0_, cf1_, c1055]; omega)⟩))⟩ hw dX12_compare_174
        · have c958 : x946.toInt < x28.toInt := wk_leF c958
          replace hM := hM.neg (Int.not_le.mpr c958)
          refine lv_aload_n hx hb dX12_compare_71 rfl (lv_at hl 2 rfl) ?_
          refine tk_getA hC hK hw hT hinX12 kM_at0 (by decide) rfl 0 (by decide) (List.mem_cons_of_mem _ uw_6_14) rfl rfl dX12_compare_72 ?_
          refine lv_aload_n hx hb dX12_compare_75 rfl (lv_at hl 2 rfl) ?_
          refine tk_geti hC hK hw hT hinX12 kM_at0 (by decide) rfl 14 (by decide) (List.mem_cons_of_mem _ uw_19_18) rfl rfl dX12_compare_76 (fun x1058 c1059 rx1058 tx1058 => ?_)
          refine wk_top x946 (c1059.symm.trans c948) ?_
          replace hM := hM.rd (sI_at c948)
          refine tk_bald hC hK hw hT kM_at1 rfl rfl (show 0 ≤ x946.toInt by first | with_reducible assumption | omega) (show x946.toInt < 400 by first | with_reducible assumption | omega) dX12_compare_79 (fun x1060 c1061 rx1060 tx1060 => ?_)
          have hox1060 := c1061
          replace hM := hM.rd (sI_at hox1060)
          have c1061 : gi w947 1 (1 * x921.toInt + 1).toNat = x1060 := (congrArg (gi w947 1) (congrArg Int.toNat (show 1 * x921.toInt + 1 = x946.toInt by first | exact Int.le_antisymm (by omega) (by omega) | omega))).trans c1061
          refine lv_bipush (v := 61) hx hb dX12_compare_80 (by decide) ?_
          refine lv_icmp_ne (tgt := 89) hx hb dX12_compare_82 (by decide) (fun c1062 => ?_) (fun c1062 => ?_)
          · have c1062 : ¬ x1060.toInt = (61 : Int) := wk_eqF c1062
            replace hM := hM.pos c1062
            refine lv_iconst (v := 0) hx hb dX12_compare_89 (by decide) ?_
            refine lv_istore_n (lv' := [(3, .int 0), (2, .int x921), (1, .int r913), (0, .ref (ad 0))]) hx hb dX12_compare_90 rfl hl (by decide) rfl (fun ls hl => ?_)
            refine lv_iload_n hx hb dX12_compare_91 rfl (lv_at hl 0 rfl) ?_
            refine lv_if_eq (tgt := 105) hx hb dX12_compare_92 (by decide) (fun _ => ?_) (fun c => absurd (by decide) c)
            replace hM := hM.pos (by decide)
            refine lv_aload_n hx hb dX12_compare_105 rfl (lv_at hl 3 rfl) ?_
            refine lv_iload_n hx hb dX12_compare_106 rfl (lv_at hl 1 rfl) ?_
            refine tk_Vi hC hK hw hT hA hE hSR kM_at0 (by decide) rfl (kz_X12_makes_4 l adK adV dC dI cy ad B hB0 (Int.le_trans hB1 (by decide)) qr s1   x921 (show 0 ≤ x921.toInt by first | with_reducible assumption | omega) (show x921.toInt ≤ 398 by first | with_reducible assumption | omega) w947 H.size hT x32 c952 (show 0 ≤ x32.toInt by first | with_reducible assumption | omega) (show x32.toInt ≤ 60 by first | with_reducible assumption | omega)) (cwV 1 hC.2.2.2.2 uV_RX12_170 rfl rfl rfl (by decide +kernel) ⟨Nat.le_of_ble_eq_true rfl, Nat.le_of_ble_eq_true rfl⟩) rfl hl.1 rfl (Nat.le_of_ble_eq_true rfl) dX12_compare_107 (fun r1063 w1065 H locs hp1064 hw => ?_)
            obtain ⟨hT, k1066, hv1075, hg1074⟩ := hp1064
            have hO := OKW_FE k1066 (fun _ => rfl) (fun _ => rfl) (fun _ => rfl) (fun _ => rfl) hO
            have hF := hF.tr k1066 (by decide)
            have c1076 := k1066.gi kM_at0 (by decide) c950
            have c1077 := k1066.gi kM_at0 (by decide) c951
            have c1078 := k1066.gi kM_at3 rfl c953
            have c1079 := k1066.gi kM_at0 (by decide) c948
            have c1080 := k1066.gi kM_at1 rfl c1061
            rcases hg1074 with ⟨rfl, ⟨x1067, c1068, rx1067, tx1067⟩, ⟨x1069, c1070, rx1069, tx1069⟩⟩ | ⟨rfl, ⟨x1071, c1072, rx1071, tx1071⟩, g1073⟩
            · replace hM := hM.call (r' := 0) hv1075 (by decide)
              refine lv_if_ne (tgt := 115) hx hb dX12_compare_110 (by decide) (fun c => absurd (by decide) c) (fun _ => ?_)
              replace hM := hM.neg (by decide)
              refine lv_iconst (v := 0) hx hb dX12_compare_113 (by decide) ?_
              exact tk_zret hC hr rfl hlocks hK ⟨hT, hF, hM.ret (by decide), (Or.inl ⟨rfl, ⟨x28, c1077, (show 1 ≤ x28.toInt by first | with_reducible assumption | omega), (show x28.toInt ≤ 400 by first | with_reducible assumption | omega)⟩, ⟨x1067, c1068, (show 1 ≤ x1067.toInt by first | with_reducible assumption | omega), (show x1067.toInt ≤ 3205 by first | with_reducible assumption | omega)⟩, ⟨f0_, c1076, (show 0 ≤ f0_.toInt from rf0_), (show f0_.toInt ≤ 5 from tf0_)⟩, hO.1⟩)⟩ hw dX12_compare_114
            · replace hM := hM.call (r' := 1) hv1075 (by decide)
              have g1073 : x1071.toInt = x32.toInt + 1 := by have q := g1073; simp only [c950, c1076, c952, c1072] at q; first | with_reducible exact q | omega
              refine lv_if_ne (tgt := 115) hx hb dX12_compare_110 (by decide) (fun _ => ?_) (fun c => absurd c (by decide))
              replace hM := hM.pos (by decide)
              refine lv_iload_n hx hb dX12_compare_115 rfl (lv_at hl 2 rfl) ?_
              refine lv_bipush (v := 60) hx hb dX12_compare_116 (by decide) ?_
              refine lv_icmp_ne (tgt := 133) hx hb dX12_compare_118 (by decide) (fun c => (c (wk_eq.mpr (show r913.toInt = (60 : Int) by first | exact Int.le_antisymm (by omega) (by omega) | omega))).elim) (fun _ => ?_)
              replace hM := hM.neg (by omega)
              refine lv_iload_n hx hb dX12_compare_121 rfl (lv_at hl 0 rfl) ?_
              refine lv_if_eq (tgt := 129) hx hb dX12_compare_122 (by decide) (fun _ => ?_) (fun c => absurd (by decide) c)
              replace hM := hM.pos (by decide)
              refine lv_iconst (v := 0) hx hb dX12_compare_129 (by decide) ?_
              refine lv_goto (tgt := 152) hx hb dX12_compare_130 (by decide) ?_
              refine lv_istore (lv' := [(4, .int 0), (3, .int 0), (2, .int x921), (1, .int r913), (0, .ref (ad 0))]) hx hb dX12_compare_152 hl (by decide) rfl (fun ls hl => ?_)
              refine lv_aload_n hx hb dX12_compare_154 rfl (lv_at hl 4 rfl) ?_
              refine tk_Vi hC hK hw hT hA hE hSR kM_at0 (by decide) rfl (kz_X12_sum_1 l adK adV dC dI cy ad B hB0 (Int.le_trans hB1 (by decide)) qr s1    w1065 H.size hT f0_ c1076 (show 0 ≤ f0_.toInt from rf0_) (show f0_.toInt ≤ 5 from tf0_) x1071 c1072 (show 0 ≤ x1071.toInt by first | with_reducible assumption | omega) (show x1071.toInt ≤ 60 by first | with_reducible assumption | omega) x50 c1078 (show 0 ≤ x50.toInt by first | with_reducible assumption | omega) (show x50.toInt ≤ 400 by first | with_reducible assumption | omega) (show 3 * x50.toInt ≤ 14 * x1071.toInt + 60 by omega) (show x50.toInt ≤ 300 by first | with_reducible assumption | omega) gb ((gd) + 1) (by omega) (by omega) (OKW_cast hO (show (gd) + 1 = (gd) + 1 from rfl))) (cwV 0 hC.2.2.2.2 uV_RX12_183 rfl rfl rfl (by decide +kernel) ⟨Nat.le_of_ble_eq_true rfl, Nat.le_of_ble_eq_true rfl⟩) rfl hl.1 rfl (Nat.le_of_ble_eq_true rfl) dX12_compare_155 (fun r1081 w1083 H locs hp1082 hw => ?_)
              obtain ⟨hT, k1084, hv1118, hg1117⟩ := hp1082
              have hF := hF.tr k1084 (by decide)
              have c1119 := k1084.gi kM_at0 (by decide) c1076
              have c1120 := k1084.gi kM_at0 (by decide) c1077
              have c1121 := k1084.gi kM_at1 rfl c1080
              rcases hg1117 with ⟨rfl, ⟨x1085, c1086, rx1085, tx1085⟩, ⟨x1087, c1088, rx1087, tx1087⟩, ⟨x1089, c1090, rx1089, tx1089⟩, hq1091⟩ | ⟨rfl, ⟨x1092, c1093, rx1092, tx1092⟩, ⟨x1094, c1095, rx1094, tx1094⟩, ⟨x1096, c1097, rx1096, tx1096⟩, hq1098⟩ | ⟨rfl, ⟨x1099, c1100, rx1099, tx1099⟩, ⟨x1101, c1102, rx1101, tx1101⟩, ⟨x1103, c1104, rx1103, tx1103⟩, hq1105, g1106, g1107⟩ | ⟨rfl, ⟨x1108, c1109, rx1108, tx1108⟩, ⟨x1110, c1111, rx1110, tx1110⟩, ⟨x1112, c1113, rx1112, tx1112⟩, hq1114, g1115, g1116⟩
              · replace hM := hM.call (r' := 0) hv1118 (by decide)
                have ex1085 : x1085.toInt = x28.toInt := by rw [← c1120.symm.trans c1086]
                have ex1089 : x1089.toInt = f0_.toInt := by rw [← c1119.symm.trans c1090]
                obtain ⟨x1122, c1123, rx1122, tx1122⟩ := hT.rda (lo := 0) (hi := 400) (i := (f0_.toInt).toNat) kM_at3 rfl rfl (by omega)
                obtain ⟨x1124, c1125, rx1124, tx1124⟩ := hT.rdi (lo := 0) (hi := 60) (k := 18) kM_at0 (by decide) rfl
                have hR := hq1091
                refine lv_if_ne (tgt := 163) hx hb dX12_compare_158 (by decide) (fun c => absurd (by decide) c) (fun _ => ?_)
                replace hM := hM.neg (by decide)
                refine lv_iconst (v := 0) hx hb dX12_compare_161 (by decide) ?_
                exact tk_zret hC hr rfl hlocks hK ⟨hT, hF, hM.ret (by decide), (Or.inl ⟨rfl, ⟨x28, c1120, (show 1 ≤ x28.toInt by first | with_reducible assumption | omega), (show x28.toInt ≤ 400 by first | with_reducible assumption | omega)⟩, ⟨x1087, c1088, (show 1 ≤ x1087.toInt by first | with_reducible assumption | omega), (show x1087.toInt ≤ 3205 by first | with_reducible assumption | omega)⟩, ⟨f0_, c1119, (show 0 ≤ f0_.toInt from rf0_), (show f0_.toInt ≤ 5 from tf0_)⟩, hR⟩)⟩ hw dX12_compare_162
              · replace hM := hM.call (r' := 0) hv1118 (by decide)
                have ex1092 : x1092.toInt = x28.toInt := by rw [← c1120.symm.trans c1093]
                have ex1096 : x1096.toInt = f0_.toInt := by rw [← c1119.symm.trans c1097]
                obtain ⟨x1126, c1127, rx1126, tx1126⟩ := hT.rda (lo := 0) (hi := 400) (i := (f0_.toInt).toNat) kM_at3 rfl rfl (by omega)
                obtain ⟨x1128, c1129, rx1128, tx1128⟩ := hT.rdi (lo := 0) (hi := 60) (k := 18) kM_at0 (by decide) rfl
                have hR := hq1098
                refine lv_if_ne (tgt := 163) hx hb dX12_compare_158 (by decide) (fun c => absurd (by decide) c) (fun _ => ?_)
                replace hM := hM.neg (by decide)
                refine lv_iconst (v := 0) hx hb dX12_compare_161 (by decide) ?_
                exact tk_zret hC hr rfl hlocks hK ⟨hT, hF, hM.ret (by decide), (Or.inl ⟨rfl, ⟨x28, c1120, (show 1 ≤ x28.toInt by first | with_reducible assumption | omega), (show x28.toInt ≤ 400 by first | with_reducible assumption | omega)⟩, ⟨x1094, c1095, (show 1 ≤ x1094.toInt by first | with_reducible assumption | omega), (show x1094.toInt ≤ 3205 by first | with_reducible assumption | omega)⟩, ⟨f0_, c1119, (show 0 ≤ f0_.toInt from rf0_), (show f0_.toInt ≤ 5 from tf0_)⟩, hR⟩)⟩ hw dX12_compare_162
              · replace hM := hM.call (r' := 1) hv1118 (by decide)
                have ex1099 : x1099.toInt = x28.toInt := by rw [← c1120.symm.trans c1100]
                have ex1101 : x1101.toInt = f0_.toInt := by rw [← c1119.symm.trans c1102]
                obtain ⟨x1130, c1131, rx1130, tx1130⟩ := hT.rda (lo := 0) (hi := 400) (i := (f0_.toInt).toNat) kM_at3 rfl rfl (by omega)
                have g1106 : 3 * x1130.toInt + 11 ≤ 3 * x50.toInt + 14 * (x1103.toInt - x1071.toInt) := by have q := g1106; simp only [c1076, c1119, c1078, c1131, c1072, c1104] at q; first | with_reducible exact q | omega
                have g1107 : x1071.toInt + 1 ≤ x1103.toInt := by have q := g1107; simp only [c1076, c1119, c1072, c1104] at q; first | with_reducible exact q | omega
                have hO : OKW w1083 f0_.toInt gb (((gd) + 1) + 1) := by have q := hq1105; exact OKW_cast q (by omega)
                refine lv_if_ne (tgt := 163) hx hb dX12_compare_158 (by decide) (fun _ => ?_) (fun c => absurd c (by decide))
                replace hM := hM.pos (by decide)
                refine lv_aload_n hx hb dX12_compare_163 rfl (lv_at hl 4 rfl) ?_
                refine lv_bipush (v := 6) hx hb dX12_compare_164 (by decide) ?_
                refine lv_iload hx hb dX12_compare_166 (lv_at hl 0 rfl) ?_
                refine lv_iadd hx hb dX12_compare_168 ?_
                refine wk_top 6 (by decide) ?_
                replace hM := hM.lt (v := 6) (by decide)
                refine lv_iconst (v := 0) hx hb dX12_compare_169 (by decide) ?_
                refine tk_Vv hC hK hw hT hA hE hSR kM_at0 (by decide) rfl (kz_X12_puts_1 l adK adV dC dI cy ad B hB0 (Int.le_trans hB1 (by decide)) qr s1   6 (by decide) (by decide) 0 (by decide) (by decide) w1083 H.size hT f0_ c1119 (show 0 ≤ f0_.toInt from rf0_) (show f0_.toInt ≤ 5 from tf0_) x1130 c1131 (show 0 ≤ x1130.toInt by first | with_reducible assumption | omega) (show x1130.toInt ≤ 400 by first | with_reducible assumption | omega) (show x1130.toInt ≤ 399 by first | with_reducible assumption | omega)) (cwV 2 hC.2.2.2.2 uV_RX12_162 rfl rfl rfl (by decide +kernel) ⟨Nat.le_of_ble_eq_true rfl, Nat.le_of_ble_eq_true rfl⟩) rfl hl.1 rfl (Nat.le_of_ble_eq_true rfl) dX12_compare_170 (fun w1136 H locs hp1135 hw => ?_)
                obtain ⟨hT, k1137, hv1143, hg1142⟩ := hp1135
                try simp only [show (6 : Int32).toInt = 6 by decide] at hv1143
                try simp only [show (0 : Int32).toInt = 0 by decide] at hv1143
                have hF := hF.tr k1137 (by decide)
                have c1144 := k1137.gi kM_at0 (by decide) c1119
                have c1145 := k1137.gi kM_at0 (by decide) c1120
                have c1146 := k1137.gi kM_at1 rfl c1121
                have c1147 := k1137.gi kM_at0 (by decide) c1104
                obtain ⟨⟨x1138, c1139, rx1138, tx1138⟩, hq1140, g1141⟩ := hg1142
                replace hM := hM.call hv1143 rfl
                have ex1138 : x1138.toInt = f0_.toInt := by rw [← c1144.symm.trans c1139]
                obtain ⟨x1148, c1149, rx1148, tx1148⟩ := hT.rda (lo := 0) (hi := 400) (i := (f0_.toInt).toNat) kM_at3 rfl rfl (by omega)
                have g1141 : x1148.toInt = x1130.toInt + 1 := by have q := g1141; simp only [c1119, c1144, c1131, c1149] at q; first | with_reducible exact q | omega
                have hO : OKW w1136 f0_.toInt gb ((((gd) + 1) + 1) - 1) := OKW_put hO (by have q := hq1140; rw [c1119] at q; exact q) (by rw [c1131]; omega) (fun x hx => by simp only [(show (6 : Int32).toInt = 6 by decide), (show (0 : Int32).toInt = 0 by decide)] at hx; exact okT_bin (by omega) (by omega) (by omega) (by omega)) (by omega) (by omega)
                refine lv_iconst (v := 1) hx hb dX12_compare_173 (by decide) ?_
                exact tk_zret hC hr rfl hlocks hK ⟨hT, hF, hM.ret (by decide), (Or.inr (Or.inr ⟨rfl, ⟨x28, c1145, (show 1 ≤ x28.toInt by first | with_reducible assumption | omega), (show x28.toInt ≤ 400 by first | with_reducible assumption | omega)⟩, ⟨f0_, c1144, (show 0 ≤ f0_.toInt from rf0_), (show f0_.toInt ≤ 5 from tf0_)⟩, ⟨x1103, c1147, (show 1 ≤ x1103.toInt by first | with_reducible assumption | omega), (show x1103.toInt ≤ 60 by first | with_reducible assumption | omega)⟩, (OKW_cast hO (by omega)), (by simp only [c1144, cf0_, cf2_, c1149, cf1_, c1147]; omega), (by simp only [c1144, cf0_, cf1_, c1147]; omega)⟩))⟩ hw dX12_compare_174
              · replace hM := hM.call (r' := 1) hv1118 (by decide)
                have ex1108 : x1108.toInt = x28.toInt := by rw [← c1120.symm.trans c1109]
                have ex1110 : x1110.toInt = f0_.toInt := by rw [← c1119.symm.trans c1111]
                obtain ⟨x1132, c1133, rx1132, tx1132⟩ := hT.rda (lo := 0) (hi := 400) (i := (f0_.toInt).toNat) kM_at3 rfl rfl (by omega)
                have g1115 : 3 * x1132.toInt + 11 ≤ 3 * x50.toInt + 14 * (x1112.toInt - x1071.toInt) := by have q := g1115; simp only [c1076, c1119, c1078, c1133, c1072, c1113] at q; first | with_reducible exact q | omega
                have g1116 : x1071.toInt + 1 ≤ x1112.toInt := by have q := g1116; simp only [c1076, c1119, c1072, c1113] at q; first | with_reducible exact q | omega
                have hO : OKW w1083 f0_.toInt gb (((gd) + 1) + 1) := by have q := hq1114; exact OKW_cast q (by omega)
                refine lv_if_ne (tgt := 163) hx hb dX12_compare_158 (by decide) (fun _ => ?_) (fun c => absurd c (by decide))
                replace hM := hM.pos (by decide)
                refine lv_aload_n hx hb dX12_compare_163 rfl (lv_at hl 4 rfl) ?_
                refine lv_bipush (v := 6) hx hb dX12_compare_164 (by decide) ?_
                refine lv_iload hx hb dX12_compare_166 (lv_at hl 0 rfl) ?_
                refine lv_iadd hx hb dX12_compare_168 ?_
                refine wk_top 6 (by decide) ?_
                replace hM := hM.lt (v := 6) (by decide)
                refine lv_iconst (v := 0) hx hb dX12_compare_169 (by decide) ?_
                refine tk_Vv hC hK hw hT hA hE hSR kM_at0 (by decide) rfl (kz_X12_puts_1 l adK adV dC dI cy ad B hB0 (Int.le_trans hB1 (by decide)) qr s1   6 (by decide) (by decide) 0 (by decide) (by decide) w1083 H.size hT f0_ c1119 (show 0 ≤ f0_.toInt from rf0_) (show f0_.toInt ≤ 5 from tf0_) x1132 c1133 (show 0 ≤ x1132.toInt by first | with_reducible assumption | omega) (show x1132.toInt ≤ 400 by first | with_reducible assumption | omega) (show x1132.toInt ≤ 399 by first | with_reducible assumption | omega)) (cwV 2 hC.2.2.2.2 uV_RX12_162 rfl rfl rfl (by decide +kernel) ⟨Nat.le_of_ble_eq_true rfl, Nat.le_of_ble_eq_true rfl⟩) rfl hl.1 rfl (Nat.le_of_ble_eq_true rfl) dX12_compare_170 (fun w1152 H locs hp1151 hw => ?_)
                obtain ⟨hT, k1153, hv1159, hg1158⟩ := hp1151
                try simp only [show (6 : Int32).toInt = 6 by decide] at hv1159
                try simp only [show (0 : Int32).toInt = 0 by decide] at hv1159
                have hF := hF.tr k1153 (by decide)
                have c1160 := k1153.gi kM_at0 (by decide) c1119
                have c1161 := k1153.gi kM_at0 (by decide) c1120
                have c1162 := k1153.gi kM_at1 rfl c1121
                have c1163 := k1153.gi kM_at0 (by decide) c1113
                obtain ⟨⟨x1154, c1155, rx1154, tx1154⟩, hq1156, g1157⟩ := hg1158
                replace hM := hM.call hv1159 rfl
                have ex1154 : x1154.toInt = f0_.toInt := by rw [← c1160.symm.trans c1155]
                obtain ⟨x1164, c1165, rx1164, tx1164⟩ := hT.rda (lo := 0) (hi := 400) (i := (f0_.toInt).toNat) kM_at3 rfl rfl (by omega)
                have g1157 : x1164.toInt = x1132.toInt + 1 := by have q := g1157; simp only [c1119, c1160, c1133, c1165] at q; first | with_reducible exact q | omega
                have hO : OKW w1152 f0_.toInt gb ((((gd) + 1) + 1) - 1) := OKW_put hO (by have q := hq1156; rw [c1119] at q; exact q) (by rw [c1133]; omega) (fun x hx => by simp only [(show (6 : Int32).toInt = 6 by decide), (show (0 : Int32).toInt = 0 by decide)] at hx; exact okT_bin (by omega) (by omega) (by omega) (by omega)) (by omega) (by omega)
                refine lv_iconst (v := 1) hx hb dX12_compare_173 (by decide) ?_
                exact tk_zret hC hr rfl hlocks hK ⟨hT, hF, hM.ret (by decide), (Or.inr (Or.inr ⟨rfl, ⟨x28, c1161, (show 1 ≤ x28.toInt by first | with_reducible assumption | omega), (show x28.toInt ≤ 400 by first | with_reducible assumption | omega)⟩, ⟨f0_, c1160, (show 0 ≤ f0_.toInt from rf0_), (show f0_.toInt ≤ 5 from tf0_)⟩, ⟨x1112, c1163, (show 1 ≤ x1112.toInt by first | with_reducible assumption | omega), (show x1112.toInt ≤ 60 by first | with_reducible assumption | omega)⟩, (OKW_cast hO (by omega)), (by simp only [c1160, cf0_, cf2_, c1165, cf1_, c1163]; omega), (by simp only [c1160, cf0_, cf1_, c1163]; omega)⟩))⟩ hw dX12_compare_174
          · have c1062 : x1060.toInt = (61 : Int) := wk_eq.mp c1062
            replace hM := hM.neg (fun q => q c1062)
            refine lv_iconst (v := 1) hx hb dX12_compare_85 (by decide) ?_
            refine lv_goto (tgt := 90) hx hb dX12_compare_86 (by decide) ?_
            refine lv_istore_n (lv' := [(3, .int 1), (2, .int x921), (1, .int r913), (0, .ref (ad 0))]) hx hb dX12_compare_90 rfl hl (by decide) rfl (fun ls hl => ?_)
            refine lv_iload_n hx hb dX12_compare_91 rfl (lv_at hl 0 rfl) ?_
            refine lv_if_eq (tgt := 105) hx hb dX12_compare_92 (by decide) (fun c => absurd c (by decide)) (fun _ => ?_)
            replace hM := hM.neg (by decide)
            refine lv_aload_n hx hb dX12_compare_95 rfl (lv_at hl 3 rfl) ?_
            refine lv_dup hx hb dX12_compare_96 rfl ?_
            refine tk_geti hC hK hw hT hinX12 kM_at0 (by decide) rfl 14 (by decide) (List.mem_cons_of_mem _ uw_19_18) rfl rfl dX12_compare_97 (fun x1166 c1167 rx1166 tx1166 => ?_)
            refine wk_top x946 (c1167.symm.trans c948) ?_
            replace hM := hM.rd (sI_at c948)
            refine lv_iconst (v := 1) hx hb dX12_compare_100 (by decide) ?_
            refine lv_iadd hx hb dX12_compare_101 ?_
            refine lv_topi (fun x1168 ex1168 => ?_)
            have ezx1168 := ex1168
            have ex1168 : x1168.toInt = x946.toInt + (1 : Int) := by rw [ex1168]; exact wk_add (show (-2147483648) ≤ x946.toInt + (1 : Int) by omega) (show x946.toInt + (1 : Int) ≤ 2147483647 by omega)
            replace hM := hM.lt ex1168.symm
            refine tk_puti hC hK hw hT hinX12 tyX12_ok nmX12 kM_at0 (by decide) rfl rfl 14 (by decide) (List.mem_cons_of_mem _ uw_19_18) rfl rfl rfl rfl (show 0 ≤ x1168.toInt by first | with_reducible assumption | omega) (show x1168.toInt ≤ 400 by first | with_reducible assumption | omega) dX12_compare_102 (fun H locs w1169 hw hT k1171 c1170 => ?_)
            replace hM := hM.wr (sI_up k1171 c1170)
            have hO := OKW_F1 k1171 (by decide) (by decide) (by decide) (by decide) hO
            have hF := hF.put kM_at0 (k := 14) (by decide) k1171
            have c1172 := k1171.gi (Or.inr (by decide)) c950
            have c1173 := k1171.gi (Or.inr (by decide)) c951
            have c1174 := k1171.gi (Or.inr (by decide)) c952
            have c1175 := k1171.gi (Or.inl (tk_ne kM_at3 kM_at0 (by decide))) c953
            have c1176 := k1171.gi (Or.inl (tk_ne kM_at1 kM_at0 (by decide))) c1061
            refine lv_aload_n hx hb dX12_compare_105 rfl (lv_at hl 3 rfl) ?_
            refine lv_iload_n hx hb dX12_compare_106 rfl (lv_at hl 1 rfl) ?_
            refine tk_Vi hC hK hw hT hA hE hSR kM_at0 (by decide) rfl (kz_X12_makes_4 l adK adV dC dI cy ad B hB0 (Int.le_trans hB1 (by decide)) qr s1   x921 (show 0 ≤ x921.toInt by first | with_reducible assumption | omega) (show x921.toInt ≤ 398 by first | with_reducible assumption | omega) w1169 H.size hT x32 c1174 (show 0 ≤ x32.toInt by first | with_reducible assumption | omega) (show x32.toInt ≤ 60 by first | with_reducible assumption | omega)) (cwV 1 hC.2.2.2.2 uV_RX12_170 rfl rfl rfl (by decide +kernel) ⟨Nat.le_of_ble_eq_true rfl, Nat.le_of_ble_eq_true rfl⟩) rfl hl.1 rfl (Nat.le_of_ble_eq_true rfl) dX12_compare_107 (fun r1177 w1179 H locs hp1178 hw => ?_)
            obtain ⟨hT, k1180, hv1189, hg1188⟩ := hp1178
            have hO := OKW_FE k1180 (fun _ => rfl) (fun _ => rfl) (fun _ => rfl) (fun _ => rfl) hO
            have hF := hF.tr k1180 (by decide)
            have c1190 := k1180.gi kM_at0 (by decide) c1172
            have c1191 := k1180.gi kM_at0 (by decide) c1173
            have c1192 := k1180.gi kM_at3 rfl c1175
            have c1193 := k1180.gi kM_at1 rfl c1176
            have c1194 := k1180.gi kM_at0 (by decide) c1170
            rcases hg1188 with ⟨rfl, ⟨x1181, c1182, rx1181, tx1181⟩, ⟨x1183, c1184, rx1183, tx1183⟩⟩ | ⟨rfl, ⟨x1185, c1186, rx1185, tx1185⟩, g1187⟩
            · replace hM := hM.call (r' := 0) hv1189 (by decide)
              refine lv_if_ne (tgt := 115) hx hb dX12_compare_110 (by decide) (fun c => absurd (by decide) c) (fun _ => ?_)
              replace hM := hM.neg (by decide)
              refine lv_iconst (v := 0) hx hb dX12_compare_113 (by decide) ?_
              exact tk_zret hC hr rfl hlocks hK ⟨hT, hF, hM.ret (by decide), (Or.inl ⟨rfl, ⟨x28, c1191, (show 1 ≤ x28.toInt by first | with_reducible assumption | omega), (show x28.toInt ≤ 400 by first | with_reducible assumption | omega)⟩, ⟨x1181, c1182, (show 1 ≤ x1181.toInt by first | with_reducible assumption | omega), (show x1181.toInt ≤ 3205 by first | with_reducible assumption | omega)⟩, ⟨f0_, c1190, (show 0 ≤ f0_.toInt from rf0_), (show f0_.toInt ≤ 5 from tf0_)⟩, hO.1⟩)⟩ hw dX12_compare_114
            · replace hM := hM.call (r' := 1) hv1189 (by decide)
              have g1187 : x1185.toInt = x32.toInt + 1 := by have q := g1187; simp only [c1172, c1190, c1174, c1186] at q; first | with_reducible exact q | omega
              refine lv_if_ne (tgt := 115) hx hb dX12_compare_110 (by decide) (fun _ => ?_) (fun c => absurd c (by decide))
              replace hM := hM.pos (by decide)
              refine lv_iload_n hx hb dX12_compare_115 rfl (lv_at hl 2 rfl) ?_
              refine lv_bipush (v := 60) hx hb dX12_compare_116 (by decide) ?_
              refine lv_icmp_ne (tgt := 133) hx hb dX12_compare_118 (by decide) (fun c => (c (wk_eq.mpr (show r913.toInt = (60 : Int) by first | exact Int.le_antisymm (by omega) (by omega) | omega))).elim) (fun _ => ?_)
              replace hM := hM.neg (by omega)
              refine lv_iload_n hx hb dX12_compare_121 rfl (lv_at hl 0 rfl) ?_
              refine lv_if_eq (tgt := 129) hx hb dX12_compare_122 (by decide) (fun c => absurd c (by decide)) (fun _ => ?_)
              replace hM := hM.neg (by decide)
              refine lv_iconst (v := 1) hx hb dX12_compare_125 (by decide) ?_
              refine lv_goto (tgt := 152) hx hb dX12_compare_126 (by decide) ?_
              refine lv_istore (lv' := [(4, .int 1), (3, .int 1), (2, .int x921), (1, .int r913), (0, .ref (ad 0))]) hx hb dX12_compare_152 hl (by decide) rfl (fun ls hl => ?_)
              refine lv_aload_n hx hb dX12_compare_154 rfl (lv_at hl 4 rfl) ?_
              refine tk_Vi hC hK hw hT hA hE hSR kM_at0 (by decide) rfl (kz_X12_sum_1 l adK adV dC dI cy ad B hB0 (Int.le_trans hB1 (by decide)) qr s1    w1179 H.size hT f0_ c1190 (show 0 ≤ f0_.toInt from rf0_) (show f0_.toInt ≤ 5 from tf0_) x1185 c1186 (show 0 ≤ x1185.toInt by first | with_reducible assumption | omega) (show x1185.toInt ≤ 60 by first | with_reducible assumption | omega) x50 c1192 (show 0 ≤ x50.toInt by first | with_reducible assumption | omega) (show x50.toInt ≤ 400 by first | with_reducible assumption | omega) (show 3 * x50.toInt ≤ 14 * x1185.toInt + 60 by omega) (show x50.toInt ≤ 300 by first | with_reducible assumption | omega) gb ((gd) + 1) (by omega) (by omega) (OKW_cast hO (show (gd) + 1 = (gd) + 1 from rfl))) (cwV 0 hC.2.2.2.2 uV_RX12_183 rfl rfl rfl (by decide +kernel) ⟨Nat.le_of_ble_eq_true rfl, Nat.le_of_ble_eq_true rfl⟩) rfl hl.1 rfl (Nat.le_of_ble_eq_true rfl) dX12_compare_155 (fun r1195 w1197 H locs hp1196 hw => ?_)
              obtain ⟨hT, k1198, hv1232, hg1231⟩ := hp1196
              have hF := hF.tr k1198 (by decide)
              have c1233 := k1198.gi kM_at0 (by decide) c1190
              have c1234 := k1198.gi kM_at0 (by decide) c1191
              have c1235 := k1198.gi kM_at1 rfl c1193
              rcases hg1231 with ⟨rfl, ⟨x1199, c1200, rx1199, tx1199⟩, ⟨x1201, c1202, rx1201, tx1201⟩, ⟨x1203, c1204, rx1203, tx1203⟩, hq1205⟩ | ⟨rfl, ⟨x1206, c1207, rx1206, tx1206⟩, ⟨x1208, c1209, rx1208, tx1208⟩, ⟨x1210, c1211, rx1210, tx1210⟩, hq1212⟩ | ⟨rfl, ⟨x1213, c1214, rx1213, tx1213⟩, ⟨x1215, c1216, rx1215, tx1215⟩, ⟨x1217, c1218, rx1217, tx1217⟩, hq1219, g1220, g1221⟩ | ⟨rfl, ⟨x1222, c1223, rx1222, tx1222⟩, ⟨x1224, c1225, rx1224, tx1224⟩, ⟨x1226, c1227, rx1226, tx1226⟩, hq1228, g1229, g1230⟩
              · replace hM := hM.call (r' := 0) hv1232 (by decide)
                have ex1199 : x1199.toInt = x28.toInt := by rw [← c1234.symm.trans c1200]
                have ex1203 : x1203.toInt = f0_.toInt := by rw [← c1233.symm.trans c1204]
                obtain ⟨x1236, c1237, rx1236, tx1236⟩ := hT.rda (lo := 0) (hi := 400) (i := (f0_.toInt).toNat) kM_at3 rfl rfl (by omega)
                obtain ⟨x1238, c1239, rx1238, tx1238⟩ := hT.rdi (lo := 0) (hi := 60) (k := 18) kM_at0 (by decide) rfl
                have hR := hq1205
                refine lv_if_ne (tgt := 163) hx hb dX12_compare_158 (by decide) (fun c => absurd (by decide) c) (fun _ => ?_)
                replace hM := hM.neg (by decide)
                refine lv_iconst (v := 0) hx hb dX12_compare_161 (by decide) ?_
                exact tk_zret hC hr rfl hlocks hK ⟨hT, hF, hM.ret (by decide), (Or.inl ⟨rfl, ⟨x28, c1234, (show 1 ≤ x28.toInt by first | with_reducible assumption | omega), (show x28.toInt ≤ 400 by first | with_reducible assumption | omega)⟩, ⟨x1201, c1202, (show 1 ≤ x1201.toInt by first | with_reducible assumption | omega), (show x1201.toInt ≤ 3205 by first | with_reducible assumption | omega)⟩, ⟨f0_, c1233, (show 0 ≤ f0_.toInt from rf0_), (show f0_.toInt ≤ 5 from tf0_)⟩, hR⟩)⟩ hw dX12_compare_162
              · replace hM := hM.call (r' := 0) hv1232 (by decide)
                have ex1206 : x1206.toInt = x28.toInt := by rw [← c1234.symm.trans c1207]
                have ex1210 : x1210.toInt = f0_.toInt := by rw [← c1233.symm.trans c1211]
                obtain ⟨x1240, c1241, rx1240, tx1240⟩ := hT.rda (lo := 0) (hi := 400) (i := (f0_.toInt).toNat) kM_at3 rfl rfl (by omega)
                obtain ⟨x1242, c1243, rx1242, tx1242⟩ := hT.rdi (lo := 0) (hi := 60) (k := 18) kM_at0 (by decide) rfl
                have hR := hq1212
                refine lv_if_ne (tgt := 163) hx hb dX12_compare_158 (by decide) (fun c => absurd (by decide) c) (fun _ => ?_)
                replace hM := hM.neg (by decide)
                refine lv_iconst (v := 0) hx hb dX12_compare_161 (by decide) ?_
                exact tk_zret hC hr rfl hlocks hK ⟨hT, hF, hM.ret (by decide), (Or.inl ⟨rfl, ⟨x28, c1234, (show 1 ≤ x28.toInt by first | with_reducible assumption | omega), (show x28.toInt ≤ 400 by first | with_reducible assumption | omega)⟩, ⟨x1208, c1209, (show 1 ≤ x1208.toInt by first | with_reducible assumption | omega), (show x1208.toInt ≤ 3205 by first | with_reducible assumption | omega)⟩, ⟨f0_, c1233, (show 0 ≤ f0_.toInt from rf0_), (show f0_.toInt ≤ 5 from tf0_)⟩, hR⟩)⟩ hw dX12_compare_162
              · replace hM := hM.call (r' := 1) hv1232 (by decide)
                have ex1213 : x1213.toInt = x28.toInt := by rw [← c1234.symm.trans c1214]
                have ex1215 : x1215.toInt = f0_.toInt := by rw [← c1233.symm.trans c1216]
                obtain ⟨x1244, c1245, rx1244, tx1244⟩ := hT.rda (lo := 0) (hi := 400) (i := (f0_.toInt).toNat) kM_at3 rfl rfl (by omega)
                have g1220 : 3 * x1244.toInt + 11 ≤ 3 * x50.toInt + 14 * (x1217.toInt - x1185.toInt) := by have q := g1220; simp only [c1190, c1233, c1192, c1245, c1186, c1218] at q; first | with_reducible exact q | omega
                have g1221 : x1185.toInt + 1 ≤ x1217.toInt := by have q := g1221; simp only [c1190, c1233, c1186, c1218] at q; first | with_reducible exact q | omega
                have hO : OKW w1197 f0_.toInt gb (((gd) + 1) + 1) := by have q := hq1219; exact OKW_cast q (by omega)
                refine lv_if_ne (tgt := 163) hx hb dX12_compare_158 (by decide) (fun _ => ?_) (fun c => absurd c (by decide))
                replace hM := hM.pos (by decide)
                refine lv_aload_n hx hb dX12_compare_163 rfl (lv_at hl 4 rfl) ?_
                refine lv_bipush (v := 6) hx hb dX12_compare_164 (by decide) ?_
                refine lv_iload hx hb dX12_compare_166 (lv_at hl 0 rfl) ?_
                refine lv_iadd hx hb dX12_compare_168 ?_
                refine wk_top 7 (by decide) ?_
                replace hM := hM.lt (v := 7) (by decide)
                refine lv_iconst (v := 0) hx hb dX12_compare_169 (by decide) ?_
                refine tk_Vv hC hK hw hT hA hE hSR kM_at0 (by decide) rfl (kz_X12_puts_1 l adK adV dC dI cy ad B hB0 (Int.le_trans hB1 (by decide)) qr s1   7 (by decide) (by decide) 0 (by decide) (by decide) w1197 H.size hT f0_ c1233 (show 0 ≤ f0_.toInt from rf0_) (show f0_.toInt ≤ 5 from tf0_) x1244 c1245 (show 0 ≤ x1244.toInt by first | with_reducible assumption | omega) (show x1244.toInt ≤ 400 by first | with_reducible assumption | omega) (show x1244.toInt ≤ 399 by first | with_reducible assumption | omega)) (cwV 2 hC.2.2.2.2 uV_RX12_162 rfl rfl rfl (by decide +kernel) ⟨Nat.le_of_ble_eq_true rfl, Nat.le_of_ble_eq_true rfl⟩) rfl hl.1 rfl (Nat.le_of_ble_eq_true rfl) dX12_compare_170 (fun w1250 H locs hp1249 hw => ?_)
                obtain ⟨hT, k1251, hv1257, hg1256⟩ := hp1249
                try simp only [show (7 : Int32).toInt = 7 by decide] at hv1257
                try simp only [show (0 : Int32).toInt = 0 by decide] at hv1257
                have hF := hF.tr k1251 (by decide)
                have c1258 := k1251.gi kM_at0 (by decide) c1233
                have c1259 := k1251.gi kM_at0 (by decide) c1234
                have c1260 := k1251.gi kM_at1 rfl c1235
                have c1261 := k1251.gi kM_at0 (by decide) c1218
                obtain ⟨⟨x1252, c1253, rx1252, tx1252⟩, hq1254, g1255⟩ := hg1256
                replace hM := hM.call hv1257 rfl
                have ex1252 : x1252.toInt = f0_.toInt := by rw [← c1258.symm.trans c1253]
                obtain ⟨x1262, c1263, rx1262, tx1262⟩ := hT.rda (lo := 0) (hi := 400) (i := (f0_.toInt).toNat) kM_at3 rfl rfl (by omega)
                have g1255 : x1262.toInt = x1244.toInt + 1 := by have q := g1255; simp only [c1233, c1258, c1245, c1263] at q; first | with_reducible exact q | omega
                have hO : OKW w1250 f0_.toInt gb ((((gd) + 1) + 1) - 1) := OKW_put hO (by have q := hq1254; rw [c1233] at q; exact q) (by rw [c1245]; omega) (fun x hx => by simp only [(show (7 : Int32).toInt = 7 by decide), (show (0 : Int32).toInt = 0 by decide)] at hx; exact okT_bin (by omega) (by omega) (by omega) (by omega)) (by omega) (by omega)
                refine lv_iconst (v := 1) hx hb dX12_compare_173 (by decide) ?_
                exact tk_zret hC hr rfl hlocks hK ⟨hT, hF, hM.ret (by decide), (Or.inr (Or.inr ⟨rfl, ⟨x28, c1259, (show 1 ≤ x28.toInt by first | with_reducible assumption | omega), (show x28.toInt ≤ 400 by first | with_reducible assumption | omega)⟩, ⟨f0_, c1258, (show 0 ≤ f0_.toInt from rf0_), (show f0_.toInt ≤ 5 from tf0_)⟩, ⟨x1217, c1261, (show 1 ≤ x1217.toInt by first | with_reducible assumption | omega), (show x1217.toInt ≤ 60 by first | with_reducible assumption | omega)⟩, (OKW_cast hO (by omega)), (by simp only [c1258, cf0_, cf2_, c1263, cf1_, c1261]; omega), (by simp only [c1258, cf0_, cf1_, c1261]; omega)⟩))⟩ hw dX12_compare_174
              · replace hM := hM.call (r' := 1) hv1232 (by decide)
                have ex1222 : x1222.toInt = x28.toInt := by rw [← c1234.symm.trans c1223]
                have ex1224 : x1224.toInt = f0_.toInt := by rw [← c1233.symm.trans c1225]
                obtain ⟨x1246, c1247, rx1246, tx1246⟩ := hT.rda (lo := 0) (hi := 400) (i := (f0_.toInt).toNat) kM_at3 rfl rfl (by omega)
                have g1229 : 3 * x1246.toInt + 11 ≤ 3 * x50.toInt + 14 * (x1226.toInt - x1185.toInt) := by have q := g1229; simp only [c1190, c1233, c1192, c1247, c1186, c1227] at q; first | with_reducible exact q | omega
                have g1230 : x1185.toInt + 1 ≤ x1226.toInt := by have q := g1230; simp only [c1190, c1233, c1186, c1227] at q; first | with_reducible exact q | omega
                have hO : OKW w1197 f0_.toInt gb (((gd) + 1) + 1) := by have q := hq1228; exact OKW_cast q (by omega)
                refine lv_if_ne (tgt := 163) hx hb dX12_compare_158 (by decide) (fun _ => ?_) (fun c => absurd c (by decide))
                replace hM := hM.pos (by decide)
                refine lv_aload_n hx hb dX12_compare_163 rfl (lv_at hl 4 rfl) ?_
                refine lv_bipush (v := 6) hx hb dX12_compare_164 (by decide) ?_
                refine lv_iload hx hb dX12_compare_166 (lv_at hl 0 rfl) ?_
                refine lv_iadd hx hb dX12_compare_168 ?_
                refine wk_top 7 (by decide) ?_
                replace hM := hM.lt (v := 7) (by decide)
                refine lv_iconst (v := 0) hx hb dX12_compare_169 (by decide) ?_
                refine tk_Vv hC hK hw hT hA hE hSR kM_at0 (by decide) rfl (kz_X12_puts_1 l adK adV dC dI cy ad B hB0 (Int.le_trans hB1 (by decide)) qr s1   7 (by decide) (by decide) 0 (by decide) (by decide) w1197 H.size hT f0_ c1233 (show 0 ≤ f0_.toInt from rf0_) (show f0_.toInt ≤ 5 from tf0_) x1246 c1247 (show 0 ≤ x1246.toInt by first | with_reducible assumption | omega) (show x1246.toInt ≤ 400 by first | with_reducible assumption | omega) (show x1246.toInt ≤ 399 by first | with_reducible assumption | omega)) (cwV 2 hC.2.2.2.2 uV_RX12_162 rfl rfl rfl (by decide +kernel) ⟨Nat.le_of_ble_eq_true rfl, Nat.le_of_ble_eq_true rfl⟩) rfl hl.1 rfl (Nat.le_of_ble_eq_true rfl) dX12_compare_170 (fun w1266 H locs hp1265 hw => ?_)
                obtain ⟨hT, k1267, hv1273, hg1272⟩ := hp1265
                try simp only [show (7 : Int32).toInt = 7 by decide] at hv1273
                try simp only [show (0 : Int32).toInt = 0 by decide] at hv1273
                have hF := hF.tr k1267 (by decide)
                have c1274 := k1267.gi kM_at0 (by decide) c1233
                have c1275 := k1267.gi kM_at0 (by decide) c1234
                have c1276 := k1267.gi kM_at1 rfl c1235
                have c1277 := k1267.gi kM_at0 (by decide) c1227
                obtain ⟨⟨x1268, c1269, rx1268, tx1268⟩, hq1270, g1271⟩ := hg1272
                replace hM := hM.call hv1273 rfl
                have ex1268 : x1268.toInt = f0_.toInt := by rw [← c1274.symm.trans c1269]
                obtain ⟨x1278, c1279, rx1278, tx1278⟩ := hT.rda (lo := 0) (hi := 400) (i := (f0_.toInt).toNat) kM_at3 rfl rfl (by omega)
                have g1271 : x1278.toInt = x1246.toInt + 1 := by have q := g1271; simp only [c1233, c1274, c1247, c1279] at q; first | with_reducible exact q | omega
                have hO : OKW w1266 f0_.toInt gb ((((gd) + 1) + 1) - 1) := OKW_put hO (by have q := hq1270; rw [c1233] at q; exact q) (by rw [c1247]; omega) (fun x hx => by simp only [(show (7 : Int32).toInt = 7 by decide), (show (0 : Int32).toInt = 0 by decide)] at hx; exact okT_bin (by omega) (by omega) (by omega) (by omega)) (by omega) (by omega)
                refine lv_iconst (v := 1) hx hb dX12_compare_173 (by decide) ?_
                exact tk_zret hC hr rfl hlocks hK ⟨hT, hF, hM.ret (by decide), (Or.inr (Or.inr ⟨rfl, ⟨x28, c1275, (show 1 ≤ x28.toInt by first | with_reducible assumption | omega), (show x28.toInt ≤ 400 by first | with_reducible assumption | omega)⟩, ⟨f0_, c1274, (show 0 ≤ f0_.toInt from rf0_), (show f0_.toInt ≤ 5 from tf0_)⟩, ⟨x1226, c1277, (show 1 ≤ x1226.toInt by first | with_reducible assumption | omega), (show x1226.toInt ≤ 60 by first | with_reducible assumption | omega)⟩, (OKW_cast hO (by omega)), (by simp only [c1274, cf0_, cf2_, c1279, cf1_, c1277]; omega), (by simp only [c1274, cf0_, cf1_, c1277]; omega)⟩))⟩ hw dX12_compare_174
      · have c943 : ¬ r913.toInt = (60 : Int) := wk_eqF c943
        replace hM := hM.neg c943
        refine lv_iload_n hx hb dX12_compare_25 rfl (lv_at hl 1 rfl) ?_
        refine lv_bipush (v := 61) hx hb dX12_compare_26 (by decide) ?_
        refine lv_icmp_eq (tgt := 44) hx hb dX12_compare_28 (by decide) (fun c1280 => ?_) (fun c1280 => ?_)
        · have c1280 : r913.toInt = (61 : Int) := wk_eq.mp c1280
          replace hM := hM.pos c1280
          refine lv_aload_n hx hb dX12_compare_44 rfl (lv_at hl 2 rfl) ?_
          refine lv_dup hx hb dX12_compare_45 rfl ?_
          refine tk_geti hC hK hw hT hinX12 kM_at0 (by decide) rfl 14 (by decide) (List.mem_cons_of_mem _ uw_19_18) rfl rfl dX12_compare_46 (fun x1281 c1282 rx1281 tx1281 => ?_)
          refine wk_top x921 (c1282.symm.trans c922) ?_
          replace hM := hM.rd (sI_at c922)
          refine lv_iconst (v := 1) hx hb dX12_compare_49 (by decide) ?_
          refine lv_iadd hx hb dX12_compare_50 ?_
          refine lv_topi (fun x1283 ex1283 => ?_)
          have ezx1283 := ex1283
          have ex1283 : x1283.toInt = x921.toInt + (1 : Int) := by rw [ex1283]; exact wk_add (show (-2147483648) ≤ x921.toInt + (1 : Int) by omega) (show x921.toInt + (1 : Int) ≤ 2147483647 by omega)
          replace hM := hM.lt ex1283.symm
          refine tk_puti hC hK hw hT hinX12 tyX12_ok nmX12 kM_at0 (by decide) rfl rfl 14 (by decide) (List.mem_cons_of_mem _ uw_19_18) rfl rfl rfl rfl (show 0 ≤ x1283.toInt by first | with_reducible assumption | omega) (show x1283.toInt ≤ 400 by first | with_reducible assumption | omega) dX12_compare_51 (fun H locs w1284 hw hT k1286 c1285 => ?_)
          replace hM := hM.wr (sI_up k1286 c1285)
          have hO := OKW_F1 k1286 (by decide) (by decide) (by decide) (by decide) hO
          have hF := hF.put kM_at0 (k := 14) (by decide) k1286
          have c1287 := k1286.gi (Or.inr (by decide)) c935
          have c1288 := k1286.gi (Or.inr (by decide)) c936
          have c1289 := k1286.gi (Or.inr (by decide)) c937
          have c1290 := k1286.gi (Or.inl (tk_ne kM_at3 kM_at0 (by decide))) c938
          refine lv_iload_n hx hb dX12_compare_54 rfl (lv_at hl 1 rfl) ?_
          refine lv_bipush (v := 61) hx hb dX12_compare_55 (by decide) ?_
          refine lv_icmp_eq (tgt := 89) hx hb dX12_compare_57 (by decide) (fun _ => ?_) (fun c => (c (wk_eq.mpr (show r913.toInt = (61 : Int) by first | exact Int.le_antisymm (by omega) (by omega) | omega))).elim)
          replace hM := hM.pos (by omega)
          refine lv_iconst (v := 0) hx hb dX12_compare_89 (by decide) ?_
          refine lv_istore_n (lv' := [(3, .int 0), (2, .int x921), (1, .int r913), (0, .ref (ad 0))]) hx hb dX12_compare_90 rfl hl (by decide) rfl (fun ls hl => ?_)
          refine lv_iload_n hx hb dX12_compare_91 rfl (lv_at hl 0 rfl) ?_
          refine lv_if_eq (tgt := 105) hx hb dX12_compare_92 (by decide) (fun _ => ?_) (fun c => absurd (by decide) c)
          replace hM := hM.pos (by decide)
          refine lv_aload_n hx hb dX12_compare_105 rfl (lv_at hl 3 rfl) ?_
          refine lv_iload_n hx hb dX12_compare_106 rfl (lv_at hl 1 rfl) ?_
          refine tk_Vi hC hK hw hT hA hE hSR kM_at0 (by decide) rfl (kz_X12_makes_1 l adK adV dC dI cy ad B hB0 (Int.le_trans hB1 (by decide)) qr s1   x921 (show 0 ≤ x921.toInt by first | with_reducible assumption | omega) (show x921.toInt ≤ 399 by first | with_reducible assumption | omega) w1284 H.size hT x32 c1289 (show 0 ≤ x32.toInt by first | with_reducible assumption | omega) (show x32.toInt ≤ 60 by first | with_reducible assumption | omega)) (cwV 1 hC.2.2.2.2 uV_RX12_170 rfl rfl rfl (by decide +kernel) ⟨Nat.le_of_ble_eq_true rfl, Nat.le_of_ble_eq_true rfl⟩) rfl hl.1 rfl (Nat.le_of_ble_eq_true rfl) dX12_compare_107 (fun r1291 w1293 H locs hp1292 hw => ?_)
          obtain ⟨hT, k1294, hv1303, hg1302⟩ := hp1292
          have hO := OKW_FE k1294 (fun _ => rfl) (fun _ => rfl) (fun _ => rfl) (fun _ => rfl) hO
          have hF := hF.tr k1294 (by decide)
          have c1304 := k1294.gi kM_at0 (by decide) c1287
          have c1305 := k1294.gi kM_at0 (by decide) c1288
          have c1306 := k1294.gi kM_at3 rfl c1290
          have c1307 := k1294.gi kM_at0 (by decide) c1285
          rcases hg1302 with ⟨rfl, ⟨x1295, c1296, rx1295, tx1295⟩, ⟨x1297, c1298, rx1297, tx1297⟩⟩ | ⟨rfl, ⟨x1299, c1300, rx1299, tx1299⟩, g1301⟩
          · replace hM := hM.call (r' := 0) hv1303 (by decide)
            refine lv_if_ne (tgt := 115) hx hb dX12_compare_110 (by decide) (fun c => absurd (by decide) c) (fun _ => ?_)
            replace hM := hM.neg (by decide)
            refine lv_iconst (v := 0) hx hb dX12_compare_113 (by decide) ?_
            exact tk_zret hC hr rfl hlocks hK ⟨hT, hF, hM.ret (by decide), (Or.inl ⟨rfl, ⟨x28, c1305, (show 1 ≤ x28.toInt by first | with_reducible assumption | omega), (show x28.toInt ≤ 400 by first | with_reducible assumption | omega)⟩, ⟨x1295, c1296, (show 1 ≤ x1295.toInt by first | with_reducible assumption | omega), (show x1295.toInt ≤ 3205 by first | with_reducible assumption | omega)⟩, ⟨f0_, c1304, (show 0 ≤ f0_.toInt from rf0_), (show f0_.toInt ≤ 5 from tf0_)⟩, hO.1⟩)⟩ hw dX12_compare_114
          · replace hM := hM.call (r' := 1) hv1303 (by decide)
            have g1301 : x1299.toInt = x32.toInt + 1 := by have q := g1301; simp only [c1287, c1304, c1289, c1300] at q; first | with_reducible exact q | omega
            refine lv_if_ne (tgt := 115) hx hb dX12_compare_110 (by decide) (fun _ => ?_) (fun c => absurd c (by decide))
            replace hM := hM.pos (by decide)
            refine lv_iload_n hx hb dX12_compare_115 rfl (lv_at hl 2 rfl) ?_
            refine lv_bipush (v := 60) hx hb dX12_compare_116 (by decide) ?_
            refine lv_icmp_ne (tgt := 133) hx hb dX12_compare_118 (by decide) (fun _ => ?_) (fun c => absurd (show r913.toInt = (60 : Int) from wk_eq.mp c) (by omega))
            replace hM := hM.pos (by omega)
            refine lv_iload_n hx hb dX12_compare_133 rfl (lv_at hl 2 rfl) ?_
            refine lv_bipush (v := 61) hx hb dX12_compare_134 (by decide) ?_
            refine lv_icmp_ne (tgt := 143) hx hb dX12_compare_136 (by decide) (fun c => (c (wk_eq.mpr (show r913.toInt = (61 : Int) by first | exact Int.le_antisymm (by omega) (by omega) | omega))).elim) (fun _ => ?_)
            replace hM := hM.neg (by omega)
            refine lv_iconst (v := 2) hx hb dX12_compare_139 (by decide) ?_
            refine lv_goto (tgt := 152) hx hb dX12_compare_140 (by decide) ?_
            refine lv_istore (lv' := [(4, .int 2), (3, .int 0), (2, .int x921), (1, .int r913), (0, .ref (ad 0))]) hx hb dX12_compare_152 hl (by decide) rfl (fun ls hl => ?_)
            refine lv_aload_n hx hb dX12_compare_154 rfl (lv_at hl 4 rfl) ?_
            refine tk_Vi hC hK hw hT hA hE hSR kM_at0 (by decide) rfl (kz_X12_sum_1 l adK adV dC dI cy ad B hB0 (Int.le_trans hB1 (by decide)) qr s1    w1293 H.size hT f0_ c1304 (show 0 ≤ f0_.toInt from rf0_) (show f0_.toInt ≤ 5 from tf0_) x1299 c1300 (show 0 ≤ x1299.toInt by first | with_reducible assumption | omega) (show x1299.toInt ≤ 60 by first | with_reducible assumption | omega) x50 c1306 (show 0 ≤ x50.toInt by first | with_reducible assumption | omega) (show x50.toInt ≤ 400 by first | with_reducible assumption | omega) (show 3 * x50.toInt ≤ 14 * x1299.toInt + 60 by omega) (show x50.toInt ≤ 300 by first | with_reducible assumption | omega) gb ((gd) + 1) (by omega) (by omega) (OKW_cast hO (show (gd) + 1 = (gd) + 1 from rfl))) (cwV 0 hC.2.2.2.2 uV_RX12_183 rfl rfl rfl (by decide +kernel) ⟨Nat.le_of_ble_eq_true rfl, Nat.le_of_ble_eq_true rfl⟩) rfl hl.1 rfl (Nat.le_of_ble_eq_true rfl) dX12_compare_155 (fun r1308 w1310 H locs hp1309 hw => ?_)
            obtain ⟨hT, k1311, hv1345, hg1344⟩ := hp1309
            have hF := hF.tr k1311 (by decide)
            have c1346 := k1311.gi kM_at0 (by decide) c1304
            have c1347 := k1311.gi kM_at0 (by decide) c1305
            rcases hg1344 with ⟨rfl, ⟨x1312, c1313, rx1312, tx1312⟩, ⟨x1314, c1315, rx1314, tx1314⟩, ⟨x1316, c1317, rx1316, tx1316⟩, hq1318⟩ | ⟨rfl, ⟨x1319, c1320, rx1319, tx1319⟩, ⟨x1321, c1322, rx1321, tx1321⟩, ⟨x1323, c1324, rx1323, tx1323⟩, hq1325⟩ | ⟨rfl, ⟨x1326, c1327, rx1326, tx1326⟩, ⟨x1328, c1329, rx1328, tx1328⟩, ⟨x1330, c1331, rx1330, tx1330⟩, hq1332, g1333, g1334⟩ | ⟨rfl, ⟨x1335, c1336, rx1335, tx1335⟩, ⟨x1337, c1338, rx1337, tx1337⟩, ⟨x1339, c1340, rx1339, tx1339⟩, hq1341, g1342, g1343⟩
            · replace hM := hM.call (r' := 0) hv1345 (by decide)
              have ex1312 : x1312.toInt = x28.toInt := by rw [← c1347.symm.trans c1313]
              have ex1316 : x1316.toInt = f0_.toInt := by rw [← c1346.symm.trans c1317]
              obtain ⟨x1348, c1349, rx1348, tx1348⟩ := hT.rda (lo := 0) (hi := 400) (i := (f0_.toInt).toNat) kM_at3 rfl rfl (by omega)
              obtain ⟨x1350, c1351, rx1350, tx1350⟩ := hT.rdi (lo := 0) (hi := 60) (k := 18) kM_at0 (by decide) rfl
              have hR := hq1318
              refine lv_if_ne (tgt := 163) hx hb dX12_compare_158 (by decide) (fun c => absurd (by decide) c) (fun _ => ?_)
              replace hM := hM.neg (by decide)
              refine lv_iconst (v := 0) hx hb dX12_compare_161 (by decide) ?_
              exact tk_zret hC hr rfl hlocks hK ⟨hT, hF, hM.ret (by decide), (Or.inl ⟨rfl, ⟨x28, c1347, (show 1 ≤ x28.toInt by first | with_reducible assumption | omega), (show x28.toInt ≤ 400 by first | with_reducible assumption | omega)⟩, ⟨x1314, c1315, (show 1 ≤ x1314.toInt by first | with_reducible assumption | omega), (show x1314.toInt ≤ 3205 by first | with_reducible assumption | omega)⟩, ⟨f0_, c1346, (show 0 ≤ f0_.toInt from rf0_), (show f0_.toInt ≤ 5 from tf0_)⟩, hR⟩)⟩ hw dX12_compare_162
            · replace hM := hM.call (r' := 0) hv1345 (by decide)
              have ex1319 : x1319.toInt = x28.toInt := by rw [← c1347.symm.trans c1320]
              have ex1323 : x1323.toInt = f0_.toInt := by rw [← c1346.symm.trans c1324]
              obtain ⟨x1352, c1353, rx1352, tx1352⟩ := hT.rda (lo := 0) (hi := 400) (i := (f0_.toInt).toNat) kM_at3 rfl rfl (by omega)
              obtain ⟨x1354, c1355, rx1354, tx1354⟩ := hT.rdi (lo := 0) (hi := 60) (k := 18) kM_at0 (by decide) rfl
              have hR := hq1325
              refine lv_if_ne (tgt := 163) hx hb dX12_compare_158 (by decide) (fun c => absurd (by decide) c) (fun _ => ?_)
              replace hM := hM.neg (by decide)
              refine lv_iconst (v := 0) hx hb dX12_compare_161 (by decide) ?_
              exact tk_zret hC hr rfl hlocks hK ⟨hT, hF, hM.ret (by decide), (Or.inl ⟨rfl, ⟨x28, c1347, (show 1 ≤ x28.toInt by first | with_reducible assumption | omega), (show x28.toInt ≤ 400 by first | with_reducible assumption | omega)⟩, ⟨x1321, c1322, (show 1 ≤ x1321.toInt by first | with_reducible assumption | omega), (show x1321.toInt ≤ 3205 by first | with_reducible assumption | omega)⟩, ⟨f0_, c1346, (show 0 ≤ f0_.toInt from rf0_), (show f0_.toInt ≤ 5 from tf0_)⟩, hR⟩)⟩ hw dX12_compare_162
            · replace hM := hM.call (r' := 1) hv1345 (by decide)
              have ex1326 : x1326.toInt = x28.toInt := by rw [← c1347.symm.trans c1327]
              have ex1328 : x1328.toInt = f0_.toInt := by rw [← c1346.symm.trans c1329]
              obtain ⟨x1356, c1357, rx1356, tx1356⟩ := hT.rda (lo := 0) (hi := 400) (i := (f0_.toInt).toNat) kM_at3 rfl rfl (by omega)
              have g1333 : 3 * x1356.toInt + 11 ≤ 3 * x50.toInt + 14 * (x1330.toInt - x1299.toInt) := by have q := g1333; simp only [c1304, c1346, c1306, c1357, c1300, c1331] at q; first | with_reducible exact q | omega
              have g1334 : x1299.toInt + 1 ≤ x1330.toInt := by have q := g1334; simp only [c1304, c1346, c1300, c1331] at q; first | with_reducible exact q | omega
              have hO : OKW w1310 f0_.toInt gb (((gd) + 1) + 1) := by have q := hq1332; exact OKW_cast q (by omega)
              refine lv_if_ne (tgt := 163) hx hb dX12_compare_158 (by decide) (fun _ => ?_) (fun c => absurd c (by decide))
              replace hM := hM.pos (by decide)
              refine lv_aload_n hx hb dX12_compare_163 rfl (lv_at hl 4 rfl) ?_
              refine lv_bipush (v := 6) hx hb dX12_compare_164 (by decide) ?_
              refine lv_iload hx hb dX12_compare_166 (lv_at hl 0 rfl) ?_
              refine lv_iadd hx hb dX12_compare_168 ?_
              refine wk_top 8 (by decide) ?_
              replace hM := hM.lt (v := 8) (by decide)
              refine lv_iconst (v := 0) hx hb dX12_compare_169 (by decide) ?_
              refine tk_Vv hC hK hw hT hA hE hSR kM_at0 (by decide) rfl (kz_X12_puts_1 l adK adV dC dI cy ad B hB0 (Int.le_trans hB1 (by decide)) qr s1   8 (by decide) (by decide) 0 (by decide) (by decide) w1310 H.size hT f0_ c1346 (show 0 ≤ f0_.toInt from rf0_) (show f0_.toInt ≤ 5 from tf0_) x1356 c1357 (show 0 ≤ x1356.toInt by first | with_reducible assumption | omega) (show x1356.toInt ≤ 400 by first | with_reducible assumption | omega) (show x1356.toInt ≤ 399 by first | with_reducible assumption | omega)) (cwV 2 hC.2.2.2.2 uV_RX12_162 rfl rfl rfl (by decide +kernel) ⟨Nat.le_of_ble_eq_true rfl, Nat.le_of_ble_eq_true rfl⟩) rfl hl.1 rfl (Nat.le_of_ble_eq_true rfl) dX12_compare_170 (fun w1362 H locs hp1361 hw => ?_)
              obtain ⟨hT, k1363, hv1369, hg1368⟩ := hp1361
              try simp only [show (8 : Int32).toInt = 8 by decide] at hv1369
              try simp only [show (0 : Int32).toInt = 0 by decide] at hv1369
              have hF := hF.tr k1363 (by decide)
              have c1370 := k1363.gi kM_at0 (by decide) c1346
              have c1371 := k1363.gi kM_at0 (by decide) c1347
              have c1372 := k1363.gi kM_at0 (by decide) c1331
              obtain ⟨⟨x1364, c1365, rx1364, tx1364⟩, hq1366, g1367⟩ := hg1368
              replace hM := hM.call hv1369 rfl
              have ex1364 : x1364.toInt = f0_.toInt := by rw [← c1370.symm.trans c1365]
              obtain ⟨x1373, c1374, rx1373, tx1373⟩ := hT.rda (lo := 0) (hi := 400) (i := (f0_.toInt).toNat) kM_at3 rfl rfl (by omega)
              have g1367 : x1373.toInt = x1356.toInt + 1 := by have q := g1367; simp only [c1346, c1370, c1357, c1374] at q; first | with_reducible exact q | omega
              have hO : OKW w1362 f0_.toInt gb ((((gd) + 1) + 1) - 1) := OKW_put hO (by have q := hq1366; rw [c1346] at q; exact q) (by rw [c1357]; omega) (fun x hx => by simp only [(show (8 : Int32).toInt = 8 by decide), (show (0 : Int32).toInt = 0 by decide)] at hx; exact okT_bin (by omega) (by omega) (by omega) (by omega)) (by omega) (by omega)
              refine lv_iconst (v := 1) hx hb dX12_compare_173 (by decide) ?_
              exact tk_zret hC hr rfl hlocks hK ⟨hT, hF, hM.ret (by decide), (Or.inr (Or.inr ⟨rfl, ⟨x28, c1371, (show 1 ≤ x28.toInt by first | with_reducible assumption | omega), (show x28.toInt ≤ 400 by first | with_reducible assumption | omega)⟩, ⟨f0_, c1370, (show 0 ≤ f0_.toInt from rf0_), (show f0_.toInt ≤ 5 from tf0_)⟩, ⟨x1330, c1372, (show 1 ≤ x1330.toInt by first | with_reducible assumption | omega), (show x1330.toInt ≤ 60 by first | with_reducible assumption | omega)⟩, (OKW_cast hO (by omega)), (by simp only [c1370, cf0_, cf2_, c1374, cf1_, c1372]; omega), (by simp only [c1370, cf0_, cf1_, c1372]; omega)⟩))⟩ hw dX12_compare_174
            · replace hM := hM.call (r' := 1) hv1345 (by decide)
              have ex1335 : x1335.toInt = x28.toInt := by rw [← c1347.symm.trans c1336]
              have ex1337 : x1337.toInt = f0_.toInt := by rw [← c1346.symm.trans c1338]
              obtain ⟨x1358, c1359, rx1358, tx1358⟩ := hT.rda (lo := 0) (hi := 400) (i := (f0_.toInt).toNat) kM_at3 rfl rfl (by omega)
              have g1342 : 3 * x1358.toInt + 11 ≤ 3 * x50.toInt + 14 * (x1339.toInt - x1299.toInt) := by have q := g1342; simp only [c1304, c1346, c1306, c1359, c1300, c1340] at q; first | with_reducible exact q | omega
              have g1343 : x1299.toInt + 1 ≤ x1339.toInt := by have q := g1343; simp only [c1304, c1346, c1300, c1340] at q; first | with_reducible exact q | omega
              have hO : OKW w1310 f0_.toInt gb (((gd) + 1) + 1) := by have q := hq1341; exact OKW_cast q (by omega)
              refine lv_if_ne (tgt := 163) hx hb dX12_compare_158 (by decide) (fun _ => ?_) (fun c => absurd c (by decide))
              replace hM := hM.pos (by decide)
              refine lv_aload_n hx hb dX12_compare_163 rfl (lv_at hl 4 rfl) ?_
              refine lv_bipush (v := 6) hx hb dX12_compare_164 (by decide) ?_
              refine lv_iload hx hb dX12_compare_166 (lv_at hl 0 rfl) ?_
              refine lv_iadd hx hb dX12_compare_168 ?_
              refine wk_top 8 (by decide) ?_
              replace hM := hM.lt (v := 8) (by decide)
              refine lv_iconst (v := 0) hx hb dX12_compare_169 (by decide) ?_
              refine tk_Vv hC hK hw hT hA hE hSR kM_at0 (by decide) rfl (kz_X12_puts_1 l adK adV dC dI cy ad B hB0 (Int.le_trans hB1 (by decide)) qr s1   8 (by decide) (by decide) 0 (by decide) (by decide) w1310 H.size hT f0_ c1346 (show 0 ≤ f0_.toInt from rf0_) (show f0_.toInt ≤ 5 from tf0_) x1358 c1359 (show 0 ≤ x1358.toInt by first | with_reducible assumption | omega) (show x1358.toInt ≤ 400 by first | with_reducible assumption | omega) (show x1358.toInt ≤ 399 by first | with_reducible assumption | omega)) (cwV 2 hC.2.2.2.2 uV_RX12_162 rfl rfl rfl (by decide +kernel) ⟨Nat.le_of_ble_eq_true rfl, Nat.le_of_ble_eq_true rfl⟩) rfl hl.1 rfl (Nat.le_of_ble_eq_true rfl) dX12_compare_170 (fun w1377 H locs hp1376 hw => ?_)
              obtain ⟨hT, k1378, hv1384, hg1383⟩ := hp1376
              try simp only [show (8 : Int32).toInt = 8 by decide] at hv1384
              try simp only [show (0 : Int32).toInt = 0 by decide] at hv1384
              have hF := hF.tr k1378 (by decide)
              have c1385 := k1378.gi kM_at0 (by decide) c1346
              have c1386 := k1378.gi kM_at0 (by decide) c1347
              have c1387 := k1378.gi kM_at0 (by decide) c1340
              obtain ⟨⟨x1379, c1380, rx1379, tx1379⟩, hq1381, g1382⟩ := hg1383
              replace hM := hM.call hv1384 rfl
              have ex1379 : x1379.toInt = f0_.toInt := by rw [← c1385.symm.trans c1380]
              obtain ⟨x1388, c1389, rx1388, tx1388⟩ := hT.rda (lo := 0) (hi := 400) (i := (f0_.toInt).toNat) kM_at3 rfl rfl (by omega)
              have g1382 : x1388.toInt = x1358.toInt + 1 := by have q := g1382; simp only [c1346, c1385, c1359, c1389] at q; first | with_reducible exact q | omega
              have hO : OKW w1377 f0_.toInt gb ((((gd) + 1) + 1) - 1) := OKW_put hO (by have q := hq1381; rw [c1346] at q; exact q) (by rw [c1359]; omega) (fun x hx => by simp only [(show (8 : Int32).toInt = 8 by decide), (show (0 : Int32).toInt = 0 by decide)] at hx; exact okT_bin (by omega) (by omega) (by omega) (by omega)) (by omega) (by omega)
              refine lv_iconst (v := 1) hx hb dX12_compare_173 (by decide) ?_
              exact tk_zret hC hr rfl hlocks hK ⟨hT, hF, hM.ret (by decide), (Or.inr (Or.inr ⟨rfl, ⟨x28, c1386, (show 1 ≤ x28.toInt by first | with_reducible assumption | omega), (show x28.toInt ≤ 400 by first | with_reducible assumption | omega)⟩, ⟨f0_, c1385, (show 0 ≤ f0_.toInt from rf0_), (show f0_.toInt ≤ 5 from tf0_)⟩, ⟨x1339, c1387, (show 1 ≤ x1339.toInt by first | with_reducible assumption | omega), (show x1339.toInt ≤ 60 by first | with_reducible assumption | omega)⟩, (OKW_cast hO (by omega)), (by simp only [c1385, cf0_, cf2_, c1389, cf1_, c1387]; omega), (by simp only [c1385, cf0_, cf1_, c1387]; omega)⟩))⟩ hw dX12_compare_174
        · have c1280 : ¬ r913.toInt = (61 : Int) := wk_eqF c1280
          replace hM := hM.neg c1280
          refine lv_iload_n hx hb dX12_compare_31 rfl (lv_at hl 1 rfl) ?_
          refine lv_bipush (v := 62) hx hb dX12_compare_32 (by decide) ?_
          refine lv_icmp_eq (tgt := 44) hx hb dX12_compare_34 (by decide) (fun c1390 => ?_) (fun c1390 => ?_)
          · have c1390 : r913.toInt = (62 : Int) := wk_eq.mp c1390
            replace hM := hM.pos c1390
            refine lv_aload_n hx hb dX12_compare_44 rfl (lv_at hl 2 rfl) ?_
            refine lv_dup hx hb dX12_compare_45 rfl ?_
            refine tk_geti hC hK hw hT hinX12 kM_at0 (by decide) rfl 14 (by decide) (List.mem_cons_of_mem _ uw_19_18) rfl rfl dX12_compare_46 (fun x1391 c1392 rx1391 tx1391 => ?_)
            refine wk_top x921 (c1392.symm.trans c922) ?_
            replace hM := hM.rd (sI_at c922)
            refine lv_iconst (v := 1) hx hb dX12_compare_49 (by decide) ?_
            refine lv_iadd hx hb dX12_compare_50 ?_
            refine lv_topi (fun x1393 ex1393 => ?_)
            have ezx1393 := ex1393
            have ex1393 : x1393.toInt = x921.toInt + (1 : Int) := by rw [ex1393]; exact wk_add (show (-2147483648) ≤ x921.toInt + (1 : Int) by omega) (show x921.toInt + (1 : Int) ≤ 2147483647 by omega)
            replace hM := hM.lt ex1393.symm
            refine tk_puti hC hK hw hT hinX12 tyX12_ok nmX12 kM_at0 (by decide) rfl rfl 14 (by decide) (List.mem_cons_of_mem _ uw_19_18) rfl rfl rfl rfl (show 0 ≤ x1393.toInt by first | with_reducible assumption | omega) (show x1393.toInt ≤ 400 by first | with_reducible assumption | omega) dX12_compare_51 (fun H locs w1394 hw hT k1396 c1395 => ?_)
            replace hM := hM.wr (sI_up k1396 c1395)
            have hO := OKW_F1 k1396 (by decide) (by decide) (by decide) (by decide) hO
            have hF := hF.put kM_at0 (k := 14) (by decide) k1396
            have c1397 := k1396.gi (Or.inr (by decide)) c935
            have c1398 := k1396.gi (Or.inr (by decide)) c936
            have c1399 := k1396.gi (Or.inr (by decide)) c937
            have c1400 := k1396.gi (Or.inl (tk_ne kM_at3 kM_at0 (by decide))) c938
            refine lv_iload_n hx hb dX12_compare_54 rfl (lv_at hl 1 rfl) ?_
            refine lv_bipush (v := 61) hx hb dX12_compare_55 (by decide) ?_
            refine lv_icmp_eq (tgt := 89) hx hb dX12_compare_57 (by decide) (fun c => absurd c (fun h => absurd (show r913.toInt = (61 : Int) from wk_eq.mp h) (by omega))) (fun _ => ?_)
            replace hM := hM.neg (by omega)
            refine lv_aload_n hx hb dX12_compare_60 rfl (lv_at hl 2 rfl) ?_
            refine tk_geti hC hK hw hT hinX12 kM_at0 (by decide) rfl 14 (by decide) (List.mem_cons_of_mem _ uw_19_18) rfl rfl dX12_compare_61 (fun x1401 c1402 rx1401 tx1401 => ?_)
            refine wk_top x1393 (c1402.symm.trans c1395) ?_
            replace hM := hM.rd (sI_at c1395)
            refine lv_aload_n hx hb dX12_compare_64 rfl (lv_at hl 2 rfl) ?_
            refine tk_geti hC hK hw hT hinX12 kM_at0 (by decide) rfl 1 (by decide) (List.mem_cons_of_mem _ uw_8_7) rfl rfl dX12_compare_65 (fun x1403 c1404 rx1403 tx1403 => ?_)
            refine wk_top x28 (c1404.symm.trans c1398) ?_
            replace hM := hM.rd (sI_at c1398)
            refine lv_icmp_ge (tgt := 89) hx hb dX12_compare_68 (by decide) (fun c1405 => ?_) (fun c1405 => ?_)
            · have c1405 : x28.toInt ≤ x1393.toInt := wk_le.mp c1405
              replace hM := hM.pos c1405
              refine lv_iconst (v := 0) hx hb dX12_compare_89 (by decide) ?_
              refine lv_istore_n (lv' := [(3, .int 0), (2, .int x921), (1, .int r913), (0, .ref (ad 0))]) hx hb dX12_compare_90 rfl hl (by decide) rfl (fun ls hl => ?_)
              refine lv_iload_n hx hb dX12_compare_91 rfl (lv_at hl 0 rfl) ?_
              refine lv_if_eq (tgt := 105) hx hb dX12_compare_92 (by decide) (fun _ => ?_) (fun c => absurd (by decide) c)
              replace hM := hM.pos (by decide)
              refine lv_aload_n hx hb dX12_compare_105 rfl (lv_at hl 3 rfl) ?_
              refine lv_iload_n hx hb dX12_compare_106 rfl (lv_at hl 1 rfl) ?_
              refine tk_Vi hC hK hw hT hA hE hSR kM_at0 (by decide) rfl (kz_X12_makes_1 l adK adV dC dI cy ad B hB0 (Int.le_trans hB1 (by decide)) qr s1   x921 (show 0 ≤ x921.toInt by first | with_reducible assumption | omega) (show x921.toInt ≤ 399 by first | with_reducible assumption | omega) w1394 H.size hT x32 c1399 (show 0 ≤ x32.toInt by first | with_reducible assumption | omega) (show x32.toInt ≤ 60 by first | with_reducible assumption | omega)) (cwV 1 hC.2.2.2.2 uV_RX12_170 rfl rfl rfl (by decide +kernel) ⟨Nat.le_of_ble_eq_true rfl, Nat.le_of_ble_eq_true rfl⟩) rfl hl.1 rfl (Nat.le_of_ble_eq_true rfl) dX12_compare_107 (fun r1406 w1408 H locs hp1407 hw => ?_)
              obtain ⟨hT, k1409, hv1418, hg1417⟩ := hp1407
              have hO := OKW_FE k1409 (fun _ => rfl) (fun _ => rfl) (fun _ => rfl) (fun _ => rfl) hO
              have hF := hF.tr k1409 (by decide)
              have c1419 := k1409.gi kM_at0 (by decide) c1397
              have c1420 := k1409.gi kM_at0 (by decide) c1398
              have c1421 := k1409.gi kM_at3 rfl c1400
              have c1422 := k1409.gi kM_at0 (by decide) c1395
              rcases hg1417 with ⟨rfl, ⟨x1410, c1411, rx1410, tx1410⟩, ⟨x1412, c1413, rx1412, tx1412⟩⟩ | ⟨rfl, ⟨x1414, c1415, rx1414, tx1414⟩, g1416⟩
              · replace hM := hM.call (r' := 0) hv1418 (by decide)
                refine lv_if_ne (tgt := 115) hx hb dX12_compare_110 (by decide) (fun c => absurd (by decide) c) (fun _ => ?_)
                replace hM := hM.neg (by decide)
                refine lv_iconst (v := 0) hx hb dX12_compare_113 (by decide) ?_
                exact tk_zret hC hr rfl hlocks hK ⟨hT, hF, hM.ret (by decide), (Or.inl ⟨rfl, ⟨x28, c1420, (show 1 ≤ x28.toInt by first | with_reducible assumption | omega), (show x28.toInt ≤ 400 by first | with_reducible assumption | omega)⟩, ⟨x1410, c1411, (show 1 ≤ x1410.toInt by first | with_reducible assumption | omega), (show x1410.toInt ≤ 3205 by first | with_reducible assumption | omega)⟩, ⟨f0_, c1419, (show 0 ≤ f0_.toInt from rf0_), (show f0_.toInt ≤ 5 from tf0_)⟩, hO.1⟩)⟩ hw dX12_compare_114
              · replace hM := hM.call (r' := 1) hv1418 (by decide)
                have g1416 : x1414.toInt = x32.toInt + 1 := by have q := g1416; simp only [c1397, c1419, c1399, c1415] at q; first | with_reducible exact q | omega
                refine lv_if_ne (tgt := 115) hx hb dX12_compare_110 (by decide) (fun _ => ?_) (fun c => absurd c (by decide))
                replace hM := hM.pos (by decide)
                refine lv_iload_n hx hb dX12_compare_115 rfl (lv_at hl 2 rfl) ?_
                refine lv_bipush (v := 60) hx hb dX12_compare_116 (by decide) ?_
                refine lv_icmp_ne (tgt := 133) hx hb dX12_compare_118 (by decide) (fun _ => ?_) (fun c => absurd (show r913.toInt = (60 : Int) from wk_eq.mp c) (by omega))
                replace hM := hM.pos (by omega)
                refine lv_iload_n hx hb dX12_compare_133 rfl (lv_at hl 2 rfl) ?_
                refine lv_bipush (v := 61) hx hb dX12_compare_134 (by decide) ?_
                refine lv_icmp_ne (tgt := 143) hx hb dX12_compare_136 (by decide) (fun _ => ?_) (fun c => absurd (show r913.toInt = (61 : Int) from wk_eq.mp c) (by omega))
                replace hM := hM.pos (by omega)
                refine lv_iload_n hx hb dX12_compare_143 rfl (lv_at hl 0 rfl) ?_
                refine lv_if_eq (tgt := 151) hx hb dX12_compare_144 (by decide) (fun _ => ?_) (fun c => absurd (by decide) c)
                replace hM := hM.pos (by decide)
                refine lv_iconst (v := 4) hx hb dX12_compare_151 (by decide) ?_
                refine lv_istore (lv' := [(4, .int 4), (3, .int 0), (2, .int x921), (1, .int r913), (0, .ref (ad 0))]) hx hb dX12_compare_152 hl (by decide) rfl (fun ls hl => ?_)
                refine lv_aload_n hx hb dX12_compare_154 rfl (lv_at hl 4 rfl) ?_
                refine tk_Vi hC hK hw hT hA hE hSR kM_at0 (by decide) rfl (kz_X12_sum_1 l adK adV dC dI cy ad B hB0 (Int.le_trans hB1 (by decide)) qr s1    w1408 H.size hT f0_ c1419 (show 0 ≤ f0_.toInt from rf0_) (show f0_.toInt ≤ 5 from tf0_) x1414 c1415 (show 0 ≤ x1414.toInt by first | with_reducible assumption | omega) (show x1414.toInt ≤ 60 by first | with_reducible assumption | omega) x50 c1421 (show 0 ≤ x50.toInt by first | with_reducible assumption | omega) (show x50.toInt ≤ 400 by first | with_reducible assumption | omega) (show 3 * x50.toInt ≤ 14 * x1414.toInt + 60 by omega) (show x50.toInt ≤ 300 by first | with_reducible assumption | omega) gb ((gd) + 1) (by omega) (by omega) (OKW_cast hO (show (gd) + 1 = (gd) + 1 from rfl))) (cwV 0 hC.2.2.2.2 uV_RX12_183 rfl rfl rfl (by decide +kernel) ⟨Nat.le_of_ble_eq_true rfl, Nat.le_of_ble_eq_true rfl⟩) rfl hl.1 rfl (Nat.le_of_ble_eq_true rfl) dX12_compare_155 (fun r1423 w1425 H locs hp1424 hw => ?_)
                obtain ⟨hT, k1426, hv1460, hg1459⟩ := hp1424
                have hF := hF.tr k1426 (by decide)
                have c1461 := k1426.gi kM_at0 (by decide) c1419
                have c1462 := k1426.gi kM_at0 (by decide) c1420
                rcases hg1459 with ⟨rfl, ⟨x1427, c1428, rx1427, tx1427⟩, ⟨x1429, c1430, rx1429, tx1429⟩, ⟨x1431, c1432, rx1431, tx1431⟩, hq1433⟩ | ⟨rfl, ⟨x1434, c1435, rx1434, tx1434⟩, ⟨x1436, c1437, rx1436, tx1436⟩, ⟨x1438, c1439, rx1438, tx1438⟩, hq1440⟩ | ⟨rfl, ⟨x1441, c1442, rx1441, tx1441⟩, ⟨x1443, c1444, rx1443, tx1443⟩, ⟨x1445, c1446, rx1445, tx1445⟩, hq1447, g1448, g1449⟩ | ⟨rfl, ⟨x1450, c1451, rx1450, tx1450⟩, ⟨x1452, c1453, rx1452, tx1452⟩, ⟨x1454, c1455, rx1454, tx1454⟩, hq1456, g1457, g1458⟩
                · replace hM := hM.call (r' := 0) hv1460 (by decide)
                  have ex1427 : x1427.toInt = x28.toInt := by rw [← c1462.symm.trans c1428]
                  have ex1431 : x1431.toInt = f0_.toInt := by rw [← c1461.symm.trans c1432]
                  obtain ⟨x1463, c1464, rx1463, tx1463⟩ := hT.rda (lo := 0) (hi := 400) (i := (f0_.toInt).toNat) kM_at3 rfl rfl (by omega)
                  obtain ⟨x1465, c1466, rx1465, tx1465⟩ := hT.rdi (lo := 0) (hi := 60) (k := 18) kM_at0 (by decide) rfl
                  have hR := hq1433
                  refine lv_if_ne (tgt := 163) hx hb dX12_compare_158 (by decide) (fun c => absurd (by decide) c) (fun _ => ?_)
                  replace hM := hM.neg (by decide)
                  refine lv_iconst (v := 0) hx hb dX12_compare_161 (by decide) ?_
                  exact tk_zret hC hr rfl hlocks hK ⟨hT, hF, hM.ret (by decide), (Or.inl ⟨rfl, ⟨x28, c1462, (show 1 ≤ x28.toInt by first | with_reducible assumption | omega), (show x28.toInt ≤ 400 by first | with_reducible assumption | omega)⟩, ⟨x1429, c1430, (show 1 ≤ x1429.toInt by first | with_reducible assumption | omega), (show x1429.toInt ≤ 3205 by first | with_reducible assumption | omega)⟩, ⟨f0_, c1461, (show 0 ≤ f0_.toInt from rf0_), (show f0_.toInt ≤ 5 from tf0_)⟩, hR⟩)⟩ hw dX12_compare_162
                · replace hM := hM.call (r' := 0) hv1460 (by decide)
                  have ex1434 : x1434.toInt = x28.toInt := by rw [← c1462.symm.trans c1435]
                  have ex1438 : x1438.toInt = f0_.toInt := by rw [← c1461.symm.trans c1439]
                  obtain ⟨x1467, c1468, rx1467, tx1467⟩ := hT.rda (lo := 0) (hi := 400) (i := (f0_.toInt).toNat) kM_at3 rfl rfl (by omega)
                  obtain ⟨x1469, c1470, rx1469, tx1469⟩ := hT.rdi (lo := 0) (hi := 60) (k := 18) kM_at0 (by decide) rfl
                  have hR := hq1440
                  refine lv_if_ne (tgt := 163) hx hb dX12_compare_158 (by decide) (fun c => absurd (by decide) c) (fun _ => ?_)
                  replace hM := hM.neg (by decide)
                  refine lv_iconst (v := 0) hx hb dX12_compare_161 (by decide) ?_
                  exact tk_zret hC hr rfl hlocks hK ⟨hT, hF, hM.ret (by decide), (Or.inl ⟨rfl, ⟨x28, c1462, (show 1 ≤ x28.toInt by first | with_reducible assumption | omega), (show x28.toInt ≤ 400 by first | with_reducible assumption | omega)⟩, ⟨x1436, c1437, (show 1 ≤ x1436.toInt by first | with_reducible assumption | omega), (show x1436.toInt ≤ 3205 by first | with_reducible assumption | omega)⟩, ⟨f0_, c1461, (show 0 ≤ f0_.toInt from rf0_), (show f0_.toInt ≤ 5 from tf0_)⟩, hR⟩)⟩ hw dX12_compare_162
                · replace hM := hM.call (r' := 1) hv1460 (by decide)
                  have ex1441 : x1441.toInt = x28.toInt := by rw [← c1462.symm.trans c1442]
                  have ex1443 : x1443.toInt = f0_.toInt := by rw [← c1461.symm.trans c1444]
                  obtain ⟨x1471, c1472, rx1471, tx1471⟩ := hT.rda (lo := 0) (hi := 400) (i := (f0_.toInt).toNat) kM_at3 rfl rfl (by omega)
                  have g1448 : 3 * x1471.toInt + 11 ≤ 3 * x50.toInt + 14 * (x1445.toInt - x1414.toInt) := by have q := g1448; simp only [c1419, c1461, c1421, c1472, c1415, c1446] at q; first | with_reducible exact q | omega
                  have g1449 : x1414.toInt + 1 ≤ x1445.toInt := by have q := g1449; simp only [c1419, c1461, c1415, c1446] at q; first | with_reducible exact q | omega
                  have hO : OKW w1425 f0_.toInt gb (((gd) + 1) + 1) := by have q := hq1447; exact OKW_cast q (by omega)
                  refine lv_if_ne (tgt := 163) hx hb dX12_compare_158 (by decide) (fun _ => ?_) (fun c => absurd c (by decide))
                  replace hM := hM.pos (by decide)
                  refine lv_aload_n hx hb dX12_compare_163 rfl (lv_at hl 4 rfl) ?_
                  refine lv_bipush (v := 6) hx hb dX12_compare_164 (by decide) ?_
                  refine lv_iload hx hb dX12_compare_166 (lv_at hl 0 rfl) ?_
                  refine lv_iadd hx hb dX12_compare_168 ?_
                  refine wk_top 10 (by decide) ?_
                  replace hM := hM.lt (v := 10) (by decide)
                  refine lv_iconst (v := 0) hx hb dX12_compare_169 (by decide) ?_
                  refine tk_Vv hC hK hw hT hA hE hSR kM_at0 (by decide) rfl (kz_X12_puts_1 l adK adV dC dI cy ad B hB0 (Int.le_trans hB1 (by decide)) qr s1   10 (by decide) (by decide) 0 (by decide) (by decide) w1425 H.size hT f0_ c1461 (show 0 ≤ f0_.toInt from rf0_) (show f0_.toInt ≤ 5 from tf0_) x1471 c1472 (show 0 ≤ x1471.toInt by first | with_reducible assumption | omega) (show x1471.toInt ≤ 400 by first | with_reducible assumption | omega) (show x1471.toInt ≤ 399 by first | with_reducible assumption | omega)) (cwV 2 hC.2.2.2.2 uV_RX12_162 rfl rfl rfl (by decide +kernel) ⟨Nat.le_of_ble_eq_true rfl, Nat.le_of_ble_eq_true rfl⟩) rfl hl.1 rfl (Nat.le_of_ble_eq_true rfl) dX12_compare_170 (fun w1477 H locs hp1476 hw => ?_)
                  obtain ⟨hT, k1478, hv1484, hg1483⟩ := hp1476
                  try simp only [show (10 : Int32).toInt = 10 by decide] at hv1484
                  try simp only [show (0 : Int32).toInt = 0 by decide] at hv1484
                  have hF := hF.tr k1478 (by decide)
                  have c1485 := k1478.gi kM_at0 (by decide) c1461
                  have c1486 := k1478.gi kM_at0 (by decide) c1462
                  have c1487 := k1478.gi kM_at0 (by decide) c1446
                  obtain ⟨⟨x1479, c1480, rx1479, tx1479⟩, hq1481, g1482⟩ := hg1483
                  replace hM := hM.call hv1484 rfl
                  have ex1479 : x1479.toInt = f0_.toInt := by rw [← c1485.symm.trans c1480]
                  obtain ⟨x1488, c1489, rx1488, tx1488⟩ := hT.rda (lo := 0) (hi := 400) (i := (f0_.toInt).toNat) kM_at3 rfl rfl (by omega)
                  have g1482 : x1488.toInt = x1471.toInt + 1 := by have q := g1482; simp only [c1461, c1485, c1472, c1489] at q; first | with_reducible exact q | omega
                  have hO : OKW w1477 f0_.toInt gb ((((gd) + 1) + 1) - 1) := OKW_put hO (by have q := hq1481; rw [c1461] at q; exact q) (by rw [c1472]; omega) (fun x hx => by simp only [(show (10 : Int32).toInt = 10 by decide), (show (0 : Int32).toInt = 0 by decide)] at hx; exact okT_bin (by omega) (by omega) (by omega) (by omega)) (by omega) (by omega)
                  refine lv_iconst (v := 1) hx hb dX12_compare_173 (by decide) ?_
                  exact tk_zret hC hr rfl hlocks hK ⟨hT, hF, hM.ret (by decide), (Or.inr (Or.inr ⟨rfl, ⟨x28, c1486, (show 1 ≤ x28.toInt by first | with_reducible assumption | omega), (show x28.toInt ≤ 400 by first | with_reducible assumption | omega)⟩, ⟨f0_, c1485, (show 0 ≤ f0_.toInt from rf0_), (show f0_.toInt ≤ 5 from tf0_)⟩, ⟨x1445, c1487, (show 1 ≤ x1445.toInt by first | with_reducible assumption | omega), (show x1445.toInt ≤ 60 by first | with_reducible assumption | omega)⟩, (OKW_cast hO (by omega)), (by simp only [c1485, cf0_, cf2_, c1489, cf1_, c1487]; omega), (by simp only [c1485, cf0_, cf1_, c1487]; omega)⟩))⟩ hw dX12_compare_174
                · replace hM := hM.call (r' := 1) hv1460 (by decide)
                  have ex1450 : x1450.toInt = x28.toInt := by rw [← c1462.symm.trans c1451]
                  have ex1452 : x1452.toInt = f0_.toInt := by rw [← c1461.symm.trans c1453]
                  obtain ⟨x1473, c1474, rx1473, tx1473⟩ := hT.rda (lo := 0) (hi := 400) (i := (f0_.toInt).toNat) kM_at3 rfl rfl (by omega)
                  have g1457 : 3 * x1473.toInt + 11 ≤ 3 * x50.toInt + 14 * (x1454.toInt - x1414.toInt) := by have q := g1457; simp only [c1419, c1461, c1421, c1474, c1415, c1455] at q; first | with_reducible exact q | omega
                  have g1458 : x1414.toInt + 1 ≤ x1454.toInt := by have q := g1458; simp only [c1419, c1461, c1415, c1455] at q; first | with_reducible exact q | omega
                  have hO : OKW w1425 f0_.toInt gb (((gd) + 1) + 1) := by have q := hq1456; exact OKW_cast q (by omega)
                  refine lv_if_ne (tgt := 163) hx hb dX12_compare_158 (by decide) (fun _ => ?_) (fun c => absurd c (by decide))
                  replace hM := hM.pos (by decide)
                  refine lv_aload_n hx hb dX12_compare_163 rfl (lv_at hl 4 rfl) ?_
                  refine lv_bipush (v := 6) hx hb dX12_compare_164 (by decide) ?_
                  refine lv_iload hx hb dX12_compare_166 (lv_at hl 0 rfl) ?_
                  refine lv_iadd hx hb dX12_compare_168 ?_
                  refine wk_top 10 (by decide) ?_
                  replace hM := hM.lt (v := 10) (by decide)
                  refine lv_iconst (v := 0) hx hb dX12_compare_169 (by decide) ?_
                  refine tk_Vv hC hK hw hT hA hE hSR kM_at0 (by decide) rfl (kz_X12_puts_1 l adK adV dC dI cy ad B hB0 (Int.le_trans hB1 (by decide)) qr s1   10 (by decide) (by decide) 0 (by decide) (by decide) w1425 H.size hT f0_ c1461 (show 0 ≤ f0_.toInt from rf0_) (show f0_.toInt ≤ 5 from tf0_) x1473 c1474 (show 0 ≤ x1473.toInt by first | with_reducible assumption | omega) (show x1473.toInt ≤ 400 by first | with_reducible assumption | omega) (show x1473.toInt ≤ 399 by first | with_reducible assumption | omega)) (cwV 2 hC.2.2.2.2 uV_RX12_162 rfl rfl rfl (by decide +kernel) ⟨Nat.le_of_ble_eq_true rfl, Nat.le_of_ble_eq_true rfl⟩) rfl hl.1 rfl (Nat.le_of_ble_eq_true rfl) dX12_compare_170 (fun w1492 H locs hp1491 hw => ?_)
                  obtain ⟨hT, k1493, hv1499, hg1498⟩ := hp1491
                  try simp only [show (10 : Int32).toInt = 10 by decide] at hv1499
                  try simp only [show (0 : Int32).toInt = 0 by decide] at hv1499
                  have hF := hF.tr k1493 (by decide)
                  have c1500 := k1493.gi kM_at0 (by decide) c1461
                  have c1501 := k1493.gi kM_at0 (by decide) c1462
                  have c1502 := k1493.gi kM_at0 (by decide) c1455
                  obtain ⟨⟨x1494, c1495, rx1494, tx1494⟩, hq1496, g1497⟩ := hg1498
                  replace hM := hM.call hv1499 rfl
                  have ex1494 : x1494.toInt = f0_.toInt := by rw [← c1500.symm.trans c1495]
                  obtain ⟨x1503, c1504, rx1503, tx1503⟩ := hT.rda (lo := 0) (hi := 400) (i := (f0_.toInt).toNat) kM_at3 rfl rfl (by omega)
                  have g1497 : x1503.toInt = x1473.toInt + 1 := by have q := g1497; simp only [c1461, c1500, c1474, c1504] at q; first | with_reducible exact q | omega
                  have hO : OKW w1492 f0_.toInt gb ((((gd) + 1) + 1) - 1) := OKW_put hO (by have q := hq1496; rw [c1461] at q; exact q) (by rw [c1474]; omega) (fun x hx => by simp only [(show (10 : Int32).toInt = 10 by decide), (show (0 : Int32).toInt = 0 by decide)] at hx; exact okT_bin (by omega) (by omega) (by omega) (by omega)) (by omega) (by omega)
                  refine lv_iconst (v := 1) hx hb dX12_compare_173 (by decide) ?_
                  exact tk_zret hC hr rfl hlocks hK ⟨hT, hF, hM.ret (by decide), (Or.inr (Or.inr ⟨rfl, ⟨x28, c1501, (show 1 ≤ x28.toInt by first | with_reducible assumption | omega), (show x28.toInt ≤ 400 by first | with_reducible assumption | omega)⟩, ⟨f0_, c1500, (show 0 ≤ f0_.toInt from rf0_), (show f0_.toInt ≤ 5 from tf0_)⟩, ⟨x1454, c1502, (show 1 ≤ x1454.toInt by first | with_reducible assumption | omega), (show x1454.toInt ≤ 60 by first | with_reducible assumption | omega)⟩, (OKW_cast hO (by omega)), (by simp only [c1500, cf0_, cf2_, c1504, cf1_, c1502]; omega), (by simp only [c1500, cf0_, cf1_, c1502]; omega)⟩))⟩ hw dX12_compare_174
            · have c1405 : x1393.toInt < x28.toInt := wk_leF c1405
              replace hM := hM.neg (Int.not_le.mpr c1405)
              refine lv_aload_n hx hb dX12_compare_71 rfl (lv_at hl 2 rfl) ?_
              refine tk_getA hC hK hw hT hinX12 kM_at0 (by decide) rfl 0 (by decide) (List.mem_cons_of_mem _ uw_6_14) rfl rfl dX12_compare_72 ?_
              refine lv_aload_n hx hb dX12_compare_75 rfl (lv_at hl 2 rfl) ?_
              refine tk_geti hC hK hw hT hinX12 kM_at0 (by decide) rfl 14 (by decide) (List.mem_cons_of_mem _ uw_19_18) rfl rfl dX12_compare_76 (fun x1505 c1506 rx1505 tx1505 => ?_)
              refine wk_top x1393 (c1506.symm.trans c1395) ?_
              replace hM := hM.rd (sI_at c1395)
              refine tk_bald hC hK hw hT kM_at1 rfl rfl (show 0 ≤ x1393.toInt by first | with_reducible assumption | omega) (show x1393.toInt < 400 by first | with_reducible assumption | omega) dX12_compare_79 (fun x1507 c1508 rx1507 tx1507 => ?_)
              have hox1507 := c1508
              replace hM := hM.rd (sI_at hox1507)
              have c1508 : gi w1394 1 (1 * x921.toInt + 1).toNat = x1507 := (congrArg (gi w1394 1) (congrArg Int.toNat (show 1 * x921.toInt + 1 = x1393.toInt by first | exact Int.le_antisymm (by omega) (by omega) | omega))).trans c1508
              refine lv_bipush (v := 61) hx hb dX12_compare_80 (by decide) ?_
              refine lv_icmp_ne (tgt := 89) hx hb dX12_compare_82 (by decide) (fun c1509 => ?_) (fun c1509 => ?_)
              · have c1509 : ¬ x1507.toInt = (61 : Int) := wk_eqF c1509
                replace hM := hM.pos c1509
                refine lv_iconst (v := 0) hx hb dX12_compare_89 (by decide) ?_
                refine lv_istore_n (lv' := [(3, .int 0), (2, .int x921), (1, .int r913), (0, .ref (ad 0))]) hx hb dX12_compare_90 rfl hl (by decide) rfl (fun ls hl => ?_)
                refine lv_iload_n hx hb dX12_compare_91 rfl (lv_at hl 0 rfl) ?_
                refine lv_if_eq (tgt := 105) hx hb dX12_compare_92 (by decide) (fun _ => ?_) (fun c => absurd (by decide) c)
                replace hM := hM.pos (by decide)
                refine lv_aload_n hx hb dX12_compare_105 rfl (lv_at hl 3 rfl) ?_
                refine lv_iload_n hx hb dX12_compare_106 rfl (lv_at hl 1 rfl) ?_
                refine tk_Vi hC hK hw hT hA hE hSR kM_at0 (by decide) rfl (kz_X12_makes_4 l adK adV dC dI cy ad B hB0 (Int.le_trans hB1 (by decide)) qr s1   x921 (show 0 ≤ x921.toInt by first | with_reducible assumption | omega) (show x921.toInt ≤ 398 by first | with_reducible assumption | omega) w1394 H.size hT x32 c1399 (show 0 ≤ x32.toInt by first | with_reducible assumption | omega) (show x32.toInt ≤ 60 by first | with_reducible assumption | omega)) (cwV 1 hC.2.2.2.2 uV_RX12_170 rfl rfl rfl (by decide +kernel) ⟨Nat.le_of_ble_eq_true rfl, Nat.le_of_ble_eq_true rfl⟩) rfl hl.1 rfl (Nat.le_of_ble_eq_true rfl) dX12_compare_107 (fun r1510 w1512 H locs hp1511 hw => ?_)
                obtain ⟨hT, k1513, hv1522, hg1521⟩ := hp1511
                have hO := OKW_FE k1513 (fun _ => rfl) (fun _ => rfl) (fun _ => rfl) (fun _ => rfl) hO
                have hF := hF.tr k1513 (by decide)
                have c1523 := k1513.gi kM_at0 (by decide) c1397
                have c1524 := k1513.gi kM_at0 (by decide) c1398
                have c1525 := k1513.gi kM_at3 rfl c1400
                have c1526 := k1513.gi kM_at0 (by decide) c1395
                have c1527 := k1513.gi kM_at1 rfl c1508
                rcases hg1521 with ⟨rfl, ⟨x1514, c1515, rx1514, tx1514⟩, ⟨x1516, c1517, rx1516, tx1516⟩⟩ | ⟨rfl, ⟨x1518, c1519, rx1518, tx1518⟩, g1520⟩
                · replace hM := hM.call (r' := 0) hv1522 (by decide)
                  refine lv_if_ne (tgt := 115) hx hb dX12_compare_110 (by decide) (fun c => absurd (by decide) c) (fun _ => ?_)
                  replace hM := hM.neg (by decide)
                  refine lv_iconst (v := 0) hx hb dX12_compare_113 (by decide) ?_
                  exact tk_zret hC hr rfl hlocks hK ⟨hT, hF, hM.ret (by decide), (Or.inl ⟨rfl, ⟨x28, c1524, (show 1 ≤ x28.toInt by first | with_reducible assumption | omega), (show x28.toInt ≤ 400 by first | with_reducible assumption | omega)⟩, ⟨x1514, c1515, (show 1 ≤ x1514.toInt by first | with_reducible assumption | omega), (show x1514.toInt ≤ 3205 by first | with_reducible assumption | omega)⟩, ⟨f0_, c1523, (show 0 ≤ f0_.toInt from rf0_), (show f0_.toInt ≤ 5 from tf0_)⟩, hO.1⟩)⟩ hw dX12_compare_114
                · replace hM := hM.call (r' := 1) hv1522 (by decide)
                  have g1520 : x1518.toInt = x32.toInt + 1 := by have q := g1520; simp only [c1397, c1523, c1399, c1519] at q; first | with_reducible exact q | omega
                  refine lv_if_ne (tgt := 115) hx hb dX12_compare_110 (by decide) (fun _ => ?_) (fun c => absurd c (by decide))
                  replace hM := hM.pos (by decide)
                  refine lv_iload_n hx hb dX12_compare_115 rfl (lv_at hl 2 rfl) ?_
                  refine lv_bipush (v := 60) hx hb dX12_compare_116 (by decide) ?_
                  refine lv_icmp_ne (tgt := 133) hx hb dX12_compare_118 (by decide) (fun _ => ?_) (fun c => absurd (show r913.toInt = (60 : Int) from wk_eq.mp c) (by omega))
                  replace hM := hM.pos (by omega)
                  refine lv_iload_n hx hb dX12_compare_133 rfl (lv_at hl 2 rfl) ?_
                  refine lv_bipush (v := 61) hx hb dX12_compare_134 (by decide) ?_
                  refine lv_icmp_ne (tgt := 143) hx hb dX12_compare_136 (by decide) (fun _ => ?_) (fun c => absurd (show r913.toInt = (61 : Int) from wk_eq.mp c) (by omega))
                  replace hM := hM.pos (by omega)
                  refine lv_iload_n hx hb dX12_compare_143 rfl (lv_at hl 0 rfl) ?_
                  refine lv_if_eq (tgt := 151) hx hb dX12_compare_144 (by decide) (fun _ => ?_) (fun c => absurd (by decide) c)
                  replace hM := hM.pos (by decide)
                  refine lv_iconst (v := 4) hx hb dX12_compare_151 (by decide) ?_
                  refine lv_istore (lv' := [(4, .int 4), (3, .int 0), (2, .int x921), (1, .int r913), (0, .ref (ad 0))]) hx hb dX12_compare_152 hl (by decide) rfl (fun ls hl => ?_)
                  refine lv_aload_n hx hb dX12_compare_154 rfl (lv_at hl 4 rfl) ?_
                  refine tk_Vi hC hK hw hT hA hE hSR kM_at0 (by decide) rfl (kz_X12_sum_1 l adK adV dC dI cy ad B hB0 (Int.le_trans hB1 (by decide)) qr s1    w1512 H.size hT f0_ c1523 (show 0 ≤ f0_.toInt from rf0_) (show f0_.toInt ≤ 5 from tf0_) x1518 c1519 (show 0 ≤ x1518.toInt by first | with_reducible assumption | omega) (show x1518.toInt ≤ 60 by first | with_reducible assumption | omega) x50 c1525 (show 0 ≤ x50.toInt by first | with_reducible assumption | omega) (show x50.toInt ≤ 400 by first | with_reducible assumption | omega) (show 3 * x50.toInt ≤ 14 * x1518.toInt + 60 by omega) (show x50.toInt ≤ 300 by first | with_reducible assumption | omega) gb ((gd) + 1) (by omega) (by omega) (OKW_cast hO (show (gd) + 1 = (gd) + 1 from rfl))) (cwV 0 hC.2.2.2.2 uV_RX12_183 rfl rfl rfl (by decide +kernel) ⟨Nat.le_of_ble_eq_true rfl, Nat.le_of_ble_eq_true rfl⟩) rfl hl.1 rfl (Nat.le_of_ble_eq_true rfl) dX12_compare_155 (fun r1528 w1530 H locs hp1529 hw => ?_)
                  obtain ⟨hT, k1531, hv1565, hg1564⟩ := hp1529
                  have hF := hF.tr k1531 (by decide)
                  have c1566 := k1531.gi kM_at0 (by decide) c1523
                  have c1567 := k1531.gi kM_at0 (by decide) c1524
                  have c1568 := k1531.gi kM_at1 rfl c1527
                  rcases hg1564 with ⟨rfl, ⟨x1532, c1533, rx1532, tx1532⟩, ⟨x1534, c1535, rx1534, tx1534⟩, ⟨x1536, c1537, rx1536, tx1536⟩, hq1538⟩ | ⟨rfl, ⟨x1539, c1540, rx1539, tx1539⟩, ⟨x1541, c1542, rx1541, tx1541⟩, ⟨x1543, c1544, rx1543, tx1543⟩, hq1545⟩ | ⟨rfl, ⟨x1546, c1547, rx1546, tx1546⟩, ⟨x1548, c1549, rx1548, tx1548⟩, ⟨x1550, c1551, rx1550, tx1550⟩, hq1552, g1553, g1554⟩ | ⟨rfl, ⟨x1555, c1556, rx1555, tx1555⟩, ⟨x1557, c1558, rx1557, tx1557⟩, ⟨x1559, c1560, rx1559, tx1559⟩, hq1561, g1562, g1563⟩
                  · replace hM := hM.call (r' := 0) hv1565 (by decide)
                    have ex1532 : x1532.toInt = x28.toInt := by rw [← c1567.symm.trans c1533]
                    have ex1536 : x1536.toInt = f0_.toInt := by rw [← c1566.symm.trans c1537]
                    obtain ⟨x1569, c1570, rx1569, tx1569⟩ := hT.rda (lo := 0) (hi := 400) (i := (f0_.toInt).toNat) kM_at3 rfl rfl (by omega)
                    obtain ⟨x1571, c1572, rx1571, tx1571⟩ := hT.rdi (lo := 0) (hi := 60) (k := 18) kM_at0 (by decide) rfl
                    have hR := hq1538
                    refine lv_if_ne (tgt := 163) hx hb dX12_compare_158 (by decide) (fun c => absurd (by decide) c) (fun _ => ?_)
                    replace hM := hM.neg (by decide)
                    refine lv_iconst (v := 0) hx hb dX12_compare_161 (by decide) ?_
                    exact tk_zret hC hr rfl hlocks hK ⟨hT, hF, hM.ret (by decide), (Or.inl ⟨rfl, ⟨x28, c1567, (show 1 ≤ x28.toInt by first | with_reducible assumption | omega), (show x28.toInt ≤ 400 by first | with_reducible assumption | omega)⟩, ⟨x1534, c1535, (show 1 ≤ x1534.toInt by first | with_reducible assumption | omega), (show x1534.toInt ≤ 3205 by first | with_reducible assumption | omega)⟩, ⟨f0_, c1566, (show 0 ≤ f0_.toInt from rf0_), (show f0_.toInt ≤ 5 from tf0_)⟩, hR⟩)⟩ hw dX12_compare_162
                  · replace hM := hM.call (r' := 0) hv1565 (by decide)
                    have ex1539 : x1539.toInt = x28.toInt := by rw [← c1567.symm.trans c1540]
                    have ex1543 : x1543.toInt = f0_.toInt := by rw [← c1566.symm.trans c1544]
                    obtain ⟨x1573, c1574, rx1573, tx1573⟩ := hT.rda (lo := 0) (hi := 400) (i := (f0_.toInt).toNat) kM_at3 rfl rfl (by omega)
                    obtain ⟨x1575, c1576, rx1575, tx1575⟩ := hT.rdi (lo := 0) (hi := 60) (k := 18) kM_at0 (by decide) rfl
                    have hR := hq1545
                    refine lv_if_ne (tgt := 163) hx hb dX12_compare_158 (by decide) (fun c => absurd (by decide) c) (fun _ => ?_)
                    replace hM := hM.neg (by decide)
                    refine lv_iconst (v := 0) hx hb dX12_compare_161 (by decide) ?_
                    exact tk_zret hC hr rfl hlocks hK ⟨hT, hF, hM.ret (by decide), (Or.inl ⟨rfl, ⟨x28, c1567, (show 1 ≤ x28.toInt by first | with_reducible assumption | omega), (show x28.toInt ≤ 400 by first | with_reducible assumption | omega)⟩, ⟨x1541, c1542, (show 1 ≤ x1541.toInt by first | with_reducible assumption | omega), (show x1541.toInt ≤ 3205 by first | with_reducible assumption | omega)⟩, ⟨f0_, c1566, (show 0 ≤ f0_.toInt from rf0_), (show f0_.toInt ≤ 5 from tf0_)⟩, hR⟩)⟩ hw dX12_compare_162
                  · replace hM := hM.call (r' := 1) hv1565 (by decide)
                    have ex1546 : x1546.toInt = x28.toInt := by rw [← c1567.symm.trans c1547]
                    have ex1548 : x1548.toInt = f0_.toInt := by rw [← c1566.symm.trans c1549]
                    obtain ⟨x1577, c1578, rx1577, tx1577⟩ := hT.rda (lo := 0) (hi := 400) (i := (f0_.toInt).toNat) kM_at3 rfl rfl (by omega)
                    have g1553 : 3 * x1577.toInt + 11 ≤ 3 * x50.toInt + 14 * (x1550.toInt - x1518.toInt) := by have q := g1553; simp only [c1523, c1566, c1525, c1578, c1519, c1551] at q; first | with_reducible exact q | omega
                    have g1554 : x1518.toInt + 1 ≤ x1550.toInt := by have q := g1554; simp only [c1523, c1566, c1519, c1551] at q; first | with_reducible exact q | omega
                    have hO : OKW w1530 f0_.toInt gb (((gd) + 1) + 1) := by have q := hq1552; exact OKW_cast q (by omega)
                    refine lv_if_ne (tgt := 163) hx hb dX12_compare_158 (by decide) (fun _ => ?_) (fun c => absurd c (by decide))
                    replace hM := hM.pos (by decide)
                    refine lv_aload_n hx hb dX12_compare_163 rfl (lv_at hl 4 rfl) ?_
                    refine lv_bipush (v := 6) hx hb dX12_compare_164 (by decide) ?_
                    refine lv_iload hx hb dX12_compare_166 (lv_at hl 0 rfl) ?_
                    refine lv_iadd hx hb dX12_compare_168 ?_
                    refine wk_top 10 (by decide) ?_
                    replace hM := hM.lt (v := 10) (by decide)
                    refine lv_iconst (v := 0) hx hb dX12_compare_169 (by decide) ?_
                    refine tk_Vv hC hK hw hT hA hE hSR kM_at0 (by decide) rfl (kz_X12_puts_1 l adK adV dC dI cy ad B hB0 (Int.le_trans hB1 (by decide)) qr s1   10 (by decide) (by decide) 0 (by decide) (by decide) w1530 H.size hT f0_ c1566 (show 0 ≤ f0_.toInt from rf0_) (show f0_.toInt ≤ 5 from tf0_) x1577 c1578 (show 0 ≤ x1577.toInt by first | with_reducible assumption | omega) (show x1577.toInt ≤ 400 by first | with_reducible assumption | omega) (show x1577.toInt ≤ 399 by first | with_reducible assumption | omega)) (cwV 2 hC.2.2.2.2 uV_RX12_162 rfl rfl rfl (by decide +kernel) ⟨Nat.le_of_ble_eq_true rfl, Nat.le_of_ble_eq_true rfl⟩) rfl hl.1 rfl (Nat.le_of_ble_eq_true rfl) dX12_compare_170 (fun w1583 H locs hp1582 hw => ?_)
                    obtain ⟨hT, k1584, hv1590, hg1589⟩ := hp1582
                    try simp only [show (10 : Int32).toInt = 10 by decide] at hv1590
                    try simp only [show (0 : Int32).toInt = 0 by decide] at hv1590
                    have hF := hF.tr k1584 (by decide)
                    have c1591 := k1584.gi kM_at0 (by decide) c1566
                    have c1592 := k1584.gi kM_at0 (by decide) c1567
                    have c1593 := k1584.gi kM_at1 rfl c1568
                    have c1594 := k1584.gi kM_at0 (by decide) c1551
                    obtain ⟨⟨x1585, c1586, rx1585, tx1585⟩, hq1587, g1588⟩ := hg1589
                    replace hM := hM.call hv1590 rfl
                    have ex1585 : x1585.toInt = f0_.toInt := by rw [← c1591.symm.trans c1586]
                    obtain ⟨x1595, c1596, rx1595, tx1595⟩ := hT.rda (lo := 0) (hi := 400) (i := (f0_.toInt).toNat) kM_at3 rfl rfl (by omega)
                    have g1588 : x1595.toInt = x1577.toInt + 1 := by have q := g1588; simp only [c1566, c1591, c1578, c1596] at q; first | with_reducible exact q | omega
                    have hO : OKW w1583 f0_.toInt gb ((((gd) + 1) + 1) - 1) := OKW_put hO (by have q := hq1587; rw [c1566] at q; exact q) (by rw [c1578]; omega) (fun x hx => by simp only [(show (10 : Int32).toInt = 10 by decide), (show (0 : Int32).toInt = 0 by decide)] at hx; exact okT_bin (by omega) (by omega) (by omega) (by omega)) (by omega) (by omega)
                    refine lv_iconst (v := 1) hx hb dX12_compare_173 (by decide) ?_
                    exact tk_zret hC hr rfl hlocks hK ⟨hT, hF, hM.ret (by decide), (Or.inr (Or.inr ⟨rfl, ⟨x28, c1592, (show 1 ≤ x28.toInt by first | with_reducible assumption | omega), (show x28.toInt ≤ 400 by first | with_reducible assumption | omega)⟩, ⟨f0_, c1591, (show 0 ≤ f0_.toInt from rf0_), (show f0_.toInt ≤ 5 from tf0_)⟩, ⟨x1550, c1594, (show 1 ≤ x1550.toInt by first | with_reducible assumption | omega), (show x1550.toInt ≤ 60 by first | with_reducible assumption | omega)⟩, (OKW_cast hO (by omega)), (by simp only [c1591, cf0_, cf2_, c1596, cf1_, c1594]; omega), (by simp only [c1591, cf0_, cf1_, c1594]; omega)⟩))⟩ hw dX12_compare_174
                  · replace hM := hM.call (r' := 1) hv1565 (by decide)
                    have ex1555 : x1555.toInt = x28.toInt := by rw [← c1567.symm.trans c1556]
                    have ex1557 : x1557.toInt = f0_.toInt := by rw [← c1566.symm.trans c1558]
                    obtain ⟨x1579, c1580, rx1579, tx1579⟩ := hT.rda (lo := 0) (hi := 400) (i := (f0_.toInt).toNat) kM_at3 rfl rfl (by omega)
                    have g1562 : 3 * x1579.toInt + 11 ≤ 3 * x50.toInt + 14 * (x1559.toInt - x1518.toInt) := by have q := g1562; simp only [c1523, c1566, c1525, c1580, c1519, c1560] at q; first | with_reducible exact q | omega
                    have g1563 : x1518.toInt + 1 ≤ x1559.toInt := by have q := g1563; simp only [c1523, c1566, c1519, c1560] at q; first | with_reducible exact q | omega
                    have hO : OKW w1530 f0_.toInt gb (((gd) + 1) + 1) := by have q := hq1561; exact OKW_cast q (by omega)
                    refine lv_if_ne (tgt := 163) hx hb dX12_compare_158 (by decide) (fun _ => ?_) (fun c => absurd c (by decide))
                    replace hM := hM.pos (by decide)
                    refine lv_aload_n hx hb dX12_compare_163 rfl (lv_at hl 4 rfl) ?_
                    refine lv_bipush (v := 6) hx hb dX12_compare_164 (by decide) ?_
                    refine lv_iload hx hb dX12_compare_166 (lv_at hl 0 rfl) ?_
                    refine lv_iadd hx hb dX12_compare_168 ?_
                    refine wk_top 10 (by decide) ?_
                    replace hM := hM.lt (v := 10) (by decide)
                    refine lv_iconst (v := 0) hx hb dX12_compare_169 (by decide) ?_
                    refine tk_Vv hC hK hw hT hA hE hSR kM_at0 (by decide) rfl (kz_X12_puts_1 l adK adV dC dI cy ad B hB0 (Int.le_trans hB1 (by decide)) qr s1   10 (by decide) (by decide) 0 (by decide) (by decide) w1530 H.size hT f0_ c1566 (show 0 ≤ f0_.toInt from rf0_) (show f0_.toInt ≤ 5 from tf0_) x1579 c1580 (show 0 ≤ x1579.toInt by first | with_reducible assumption | omega) (show x1579.toInt ≤ 400 by first | with_reducible assumption | omega) (show x1579.toInt ≤ 399 by first | with_reducible assumption | omega)) (cwV 2 hC.2.2.2.2 uV_RX12_162 rfl rfl rfl (by decide +kernel) ⟨Nat.le_of_ble_eq_true rfl, Nat.le_of_ble_eq_true rfl⟩) rfl hl.1 rfl (Nat.le_of_ble_eq_true rfl) dX12_compare_170 (fun w1599 H locs hp1598 hw => ?_)
                    obtain ⟨hT, k1600, hv1606, hg1605⟩ := hp1598
                    try simp only [show (10 : Int32).toInt = 10 by decide] at hv1606
                    try simp only [show (0 : Int32).toInt = 0 by decide] at hv1606
                    have hF := hF.tr k1600 (by decide)
                    have c1607 := k1600.gi kM_at0 (by decide) c1566
                    have c1608 := k1600.gi kM_at0 (by decide) c1567
                    have c1609 := k1600.gi kM_at1 rfl c1568
                    have c1610 := k1600.gi kM_at0 (by decide) c1560
                    obtain ⟨⟨x1601, c1602, rx1601, tx1601⟩, hq1603, g1604⟩ := hg1605
                    replace hM := hM.call hv1606 rfl
                    have ex1601 : x1601.toInt = f0_.toInt := by rw [← c1607.symm.trans c1602]
                    obtain ⟨x1611, c1612, rx1611, tx1611⟩ := hT.rda (lo := 0) (hi := 400) (i := (f0_.toInt).toNat) kM_at3 rfl rfl (by omega)
                    have g1604 : x1611.toInt = x1579.toInt + 1 := by have q := g1604; simp only [c1566, c1607, c1580, c1612] at q; first | with_reducible exact q | omega
                    have hO : OKW w1599 f0_.toInt gb ((((gd) + 1) + 1) - 1) := OKW_put hO (by have q := hq1603; rw [c1566] at q; exact q) (by rw [c1580]; omega) (fun x hx => by simp only [(show (10 : Int32).toInt = 10 by decide), (show (0 : Int32).toInt = 0 by decide)] at hx; exact okT_bin (by omega) (by omega) (by omega) (by omega)) (by omega) (by omega)
                    refine lv_iconst (v := 1) hx hb dX12_compare_173 (by decide) ?_
                    exact tk_zret hC hr rfl hlocks hK ⟨hT, hF, hM.ret (by decide), (Or.inr (Or.inr ⟨rfl, ⟨x28, c1608, (show 1 ≤ x28.toInt by first | with_reducible assumption | omega), (show x28.toInt ≤ 400 by first | with_reducible assumption | omega)⟩, ⟨f0_, c1607, (show 0 ≤ f0_.toInt from rf0_), (show f0_.toInt ≤ 5 from tf0_)⟩, ⟨x1559, c1610, (show 1 ≤ x1559.toInt by first | with_reducible assumption | omega), (show x1559.toInt ≤ 60 by first | with_reducible assumption | omega)⟩, (OKW_cast hO (by omega)), (by simp only [c1607, cf0_, cf2_, c1612, cf1_, c1610]; omega), (by simp only [c1607, cf0_, cf1_, c1610]; omega)⟩))⟩ hw dX12_compare_174
              · have c1509 : x1507.toInt = (61 : Int) := wk_eq.mp c1509
                replace hM := hM.neg (fun q => q c1509)
                refine lv_iconst (v := 1) hx hb dX12_compare_85 (by decide) ?_
                refine lv_goto (tgt := 90) hx hb dX12_compare_86 (by decide) ?_
                refine lv_istore_n (lv' := [(3, .int 1), (2, .int x921), (1, .int r913), (0, .ref (ad 0))]) hx hb dX12_compare_90 rfl hl (by decide) rfl (fun ls hl => ?_)
                refine lv_iload_n hx hb dX12_compare_91 rfl (lv_at hl 0 rfl) ?_
                refine lv_if_eq (tgt := 105) hx hb dX12_compare_92 (by decide) (fun c => absurd c (by decide)) (fun _ => ?_)
                replace hM := hM.neg (by decide)
                refine lv_aload_n hx hb dX12_compare_95 rfl (lv_at hl 3 rfl) ?_
                refine lv_dup hx hb dX12_compare_96 rfl ?_
                refine tk_geti hC hK hw hT hinX12 kM_at0 (by decide) rfl 14 (by decide) (List.mem_cons_of_mem _ uw_19_18) rfl rfl dX12_compare_97 (fun x1613 c1614 rx1613 tx1613 => ?_)
                refine wk_top x1393 (c1614.symm.trans c1395) ?_
                replace hM := hM.rd (sI_at c1395)
                refine lv_iconst (v := 1) hx hb dX12_compare_100 (by decide) ?_
                refine lv_iadd hx hb dX12_compare_101 ?_
                refine lv_topi (fun x1615 ex1615 => ?_)
                have ezx1615 := ex1615
                have ex1615 : x1615.toInt = x1393.toInt + (1 : Int) := by rw [ex1615]; exact wk_add (show (-2147483648) ≤ x1393.toInt + (1 : Int) by omega) (show x1393.toInt + (1 : Int) ≤ 2147483647 by omega)
                replace hM := hM.lt ex1615.symm
                refine tk_puti hC hK hw hT hinX12 tyX12_ok nmX12 kM_at0 (by decide) rfl rfl 14 (by decide) (List.mem_cons_of_mem _ uw_19_18) rfl rfl rfl rfl (show 0 ≤ x1615.toInt by first | with_reducible assumption | omega) (show x1615.toInt ≤ 400 by first | with_reducible assumption | omega) dX12_compare_102 (fun H locs w1616 hw hT k1618 c1617 => ?_)
                replace hM := hM.wr (sI_up k1618 c1617)
                have hO := OKW_F1 k1618 (by decide) (by decide) (by decide) (by decide) hO
                have hF := hF.put kM_at0 (k := 14) (by decide) k1618
                have c1619 := k1618.gi (Or.inr (by decide)) c1397
                have c1620 := k1618.gi (Or.inr (by decide)) c1398
                have c1621 := k1618.gi (Or.inr (by decide)) c1399
                have c1622 := k1618.gi (Or.inl (tk_ne kM_at3 kM_at0 (by decide))) c1400
                have c1623 := k1618.gi (Or.inl (tk_ne kM_at1 kM_at0 (by decide))) c1508
                refine lv_aload_n hx hb dX12_compare_105 rfl (lv_at hl 3 rfl) ?_
                refine lv_iload_n hx hb dX12_compare_106 rfl (lv_at hl 1 rfl) ?_
                refine tk_Vi hC hK hw hT hA hE hSR kM_at0 (by decide) rfl (kz_X12_makes_4 l adK adV dC dI cy ad B hB0 (Int.le_trans hB1 (by decide)) qr s1   x921 (show 0 ≤ x921.toInt by first | with_reducible assumption | omega) (show x921.toInt ≤ 398 by first | with_reducible assumption | omega) w1616 H.size hT x32 c1621 (show 0 ≤ x32.toInt by first | with_reducible assumption | omega) (show x32.toInt ≤ 60 by first | with_reducible assumption | omega)) (cwV 1 hC.2.2.2.2 uV_RX12_170 rfl rfl rfl (by decide +kernel) ⟨Nat.le_of_ble_eq_true rfl, Nat.le_of_ble_eq_true rfl⟩) rfl hl.1 rfl (Nat.le_of_ble_eq_true rfl) dX12_compare_107 (fun r1624 w1626 H locs hp1625 hw => ?_)
                obtain ⟨hT, k1627, hv1636, hg1635⟩ := hp1625
                have hO := OKW_FE k1627 (fun _ => rfl) (fun _ => rfl) (fun _ => rfl) (fun _ => rfl) hO
                have hF := hF.tr k1627 (by decide)
                have c1637 := k1627.gi kM_at0 (by decide) c1619
                have c1638 := k1627.gi kM_at0 (by decide) c1620
                have c1639 := k1627.gi kM_at3 rfl c1622
                have c1640 := k1627.gi kM_at1 rfl c1623
                have c1641 := k1627.gi kM_at0 (by decide) c1617
                rcases hg1635 with ⟨rfl, ⟨x1628, c1629, rx1628, tx1628⟩, ⟨x1630, c1631, rx1630, tx1630⟩⟩ | ⟨rfl, ⟨x1632, c1633, rx1632, tx1632⟩, g1634⟩
                · replace hM := hM.call (r' := 0) hv1636 (by decide)
                  refine lv_if_ne (tgt := 115) hx hb dX12_compare_110 (by decide) (fun c => absurd (by decide) c) (fun _ => ?_)
                  replace hM := hM.neg (by decide)
                  refine lv_iconst (v := 0) hx hb dX12_compare_113 (by decide) ?_
                  exact tk_zret hC hr rfl hlocks hK ⟨hT, hF, hM.ret (by decide), (Or.inl ⟨rfl, ⟨x28, c1638, (show 1 ≤ x28.toInt by first | with_reducible assumption | omega), (show x28.toInt ≤ 400 by first | with_reducible assumption | omega)⟩, ⟨x1628, c1629, (show 1 ≤ x1628.toInt by first | with_reducible assumption | omega), (show x1628.toInt ≤ 3205 by first | with_reducible assumption | omega)⟩, ⟨f0_, c1637, (show 0 ≤ f0_.toInt from rf0_), (show f0_.toInt ≤ 5 from tf0_)⟩, hO.1⟩)⟩ hw dX12_compare_114
                · replace hM := hM.call (r' := 1) hv1636 (by decide)
                  have g1634 : x1632.toInt = x32.toInt + 1 := by have q := g1634; simp only [c1619, c1637, c1621, c1633] at q; first | with_reducible exact q | omega
                  refine lv_if_ne (tgt := 115) hx hb dX12_compare_110 (by decide) (fun _ => ?_) (fun c => absurd c (by decide))
                  replace hM := hM.pos (by decide)
                  refine lv_iload_n hx hb dX12_compare_115 rfl (lv_at hl 2 rfl) ?_
                  refine lv_bipush (v := 60) hx hb dX12_compare_116 (by decide) ?_
                  refine lv_icmp_ne (tgt := 133) hx hb dX12_compare_118 (by decide) (fun _ => ?_) (fun c => absurd (show r913.toInt = (60 : Int) from wk_eq.mp c) (by omega))
                  replace hM := hM.pos (by omega)
                  refine lv_iload_n hx hb dX12_compare_133 rfl (lv_at hl 2 rfl) ?_
                  refine lv_bipush (v := 61) hx hb dX12_compare_134 (by decide) ?_
                  refine lv_icmp_ne (tgt := 143) hx hb dX12_compare_136 (by decide) (fun _ => ?_) (fun c => absurd (show r913.toInt = (61 : Int) from wk_eq.mp c) (by omega))
                  replace hM := hM.pos (by omega)
                  refine lv_iload_n hx hb dX12_compare_143 rfl (lv_at hl 0 rfl) ?_
                  refine lv_if_eq (tgt := 151) hx hb dX12_compare_144 (by decide) (fun c => absurd c (by decide)) (fun _ => ?_)
                  replace hM := hM.neg (by decide)
                  refine lv_iconst (v := 3) hx hb dX12_compare_147 (by decide) ?_
                  refine lv_goto (tgt := 152) hx hb dX12_compare_148 (by decide) ?_
                  refine lv_istore (lv' := [(4, .int 3), (3, .int 1), (2, .int x921), (1, .int r913), (0, .ref (ad 0))]) hx hb dX12_compare_152 hl (by decide) rfl (fun ls hl => ?_)
                  refine lv_aload_n hx hb dX12_compare_154 rfl (lv_at hl 4 rfl) ?_
                  refine tk_Vi hC hK hw hT hA hE hSR kM_at0 (by decide) rfl (kz_X12_sum_1 l adK adV dC dI cy ad B hB0 (Int.le_trans hB1 (by decide)) qr s1    w1626 H.size hT f0_ c1637 (show 0 ≤ f0_.toInt from rf0_) (show f0_.toInt ≤ 5 from tf0_) x1632 c1633 (show 0 ≤ x1632.toInt by first | with_reducible assumption | omega) (show x1632.toInt ≤ 60 by first | with_reducible assumption | omega) x50 c1639 (show 0 ≤ x50.toInt by first | with_reducible assumption | omega) (show x50.toInt ≤ 400 by first | with_reducible assumption | omega) (show 3 * x50.toInt ≤ 14 * x1632.toInt + 60 by omega) (show x50.toInt ≤ 300 by first | with_reducible assumption | omega) gb ((gd) + 1) (by omega) (by omega) (OKW_cast hO (show (gd) + 1 = (gd) + 1 from rfl))) (cwV 0 hC.2.2.2.2 uV_RX12_183 rfl rfl rfl (by decide +kernel) ⟨Nat.le_of_ble_eq_true rfl, Nat.le_of_ble_eq_true rfl⟩) rfl hl.1 rfl (Nat.le_of_ble_eq_true rfl) dX12_compare_155 (fun r1642 w1644 H locs hp1643 hw => ?_)
                  obtain ⟨hT, k1645, hv1679, hg1678⟩ := hp1643
                  have hF := hF.tr k1645 (by decide)
                  have c1680 := k1645.gi kM_at0 (by decide) c1637
                  have c1681 := k1645.gi kM_at0 (by decide) c1638
                  have c1682 := k1645.gi kM_at1 rfl c1640
                  rcases hg1678 with ⟨rfl, ⟨x1646, c1647, rx1646, tx1646⟩, ⟨x1648, c1649, rx1648, tx1648⟩, ⟨x1650, c1651, rx1650, tx1650⟩, hq1652⟩ | ⟨rfl, ⟨x1653, c1654, rx1653, tx1653⟩, ⟨x1655, c1656, rx1655, tx1655⟩, ⟨x1657, c1658, rx1657, tx1657⟩, hq1659⟩ | ⟨rfl, ⟨x1660, c1661, rx1660, tx1660⟩, ⟨x1662, c1663, rx1662, tx1662⟩, ⟨x1664, c1665, rx1664, tx1664⟩, hq1666, g1667, g1668⟩ | ⟨rfl, ⟨x1669, c1670, rx1669, tx1669⟩, ⟨x1671, c1672, rx1671, tx1671⟩, ⟨x1673, c1674, rx1673, tx1673⟩, hq1675, g1676, g1677⟩
                  · replace hM := hM.call (r' := 0) hv1679 (by decide)
                    have ex1646 : x1646.toInt = x28.toInt := by rw [← c1681.symm.trans c1647]
                    have ex1650 : x1650.toInt = f0_.toInt := by rw [← c1680.symm.trans c1651]
                    obtain ⟨x1683, c1684, rx1683, tx1683⟩ := hT.rda (lo := 0) (hi := 400) (i := (f0_.toInt).toNat) kM_at3 rfl rfl (by omega)
                    obtain ⟨x1685, c1686, rx1685, tx1685⟩ := hT.rdi (lo := 0) (hi := 60) (k := 18) kM_at0 (by decide) rfl
                    have hR := hq1652
                    refine lv_if_ne (tgt := 163) hx hb dX12_compare_158 (by decide) (fun c => absurd (by decide) c) (fun _ => ?_)
                    replace hM := hM.neg (by decide)
                    refine lv_iconst (v := 0) hx hb dX12_compare_161 (by decide) ?_
                    exact tk_zret hC hr rfl hlocks hK ⟨hT, hF, hM.ret (by decide), (Or.inl ⟨rfl, ⟨x28, c1681, (show 1 ≤ x28.toInt by first | with_reducible assumption | omega), (show x28.toInt ≤ 400 by first | with_reducible assumption | omega)⟩, ⟨x1648, c1649, (show 1 ≤ x1648.toInt by first | with_reducible assumption | omega), (show x1648.toInt ≤ 3205 by first | with_reducible assumption | omega)⟩, ⟨f0_, c1680, (show 0 ≤ f0_.toInt from rf0_), (show f0_.toInt ≤ 5 from tf0_)⟩, hR⟩)⟩ hw dX12_compare_162
                  · replace hM := hM.call (r' := 0) hv1679 (by decide)
                    have ex1653 : x1653.toInt = x28.toInt := by rw [← c1681.symm.trans c1654]
                    have ex1657 : x1657.toInt = f0_.toInt := by rw [← c1680.symm.trans c1658]
                    obtain ⟨x1687, c1688, rx1687, tx1687⟩ := hT.rda (lo := 0) (hi := 400) (i := (f0_.toInt).toNat) kM_at3 rfl rfl (by omega)
                    obtain ⟨x1689, c1690, rx1689, tx1689⟩ := hT.rdi (lo := 0) (hi := 60) (k := 18) kM_at0 (by decide) rfl
                    have hR := hq1659
                    refine lv_if_ne (tgt := 163) hx hb dX12_compare_158 (by decide) (fun c => absurd (by decide) c) (fun _ => ?_)
                    replace hM := hM.neg (by decide)
                    refine lv_iconst (v := 0) hx hb dX12_compare_161 (by decide) ?_
                    exact tk_zret hC hr rfl hlocks hK ⟨hT, hF, hM.ret (by decide), (Or.inl ⟨rfl, ⟨x28, c1681, (show 1 ≤ x28.toInt by first | with_reducible assumption | omega), (show x28.toInt ≤ 400 by first | with_reducible assumption | omega)⟩, ⟨x1655, c1656, (show 1 ≤ x1655.toInt by first | with_reducible assumption | omega), (show x1655.toInt ≤ 3205 by first | with_reducible assumption | omega)⟩, ⟨f0_, c1680, (show 0 ≤ f0_.toInt from rf0_), (show f0_.toInt ≤ 5 from tf0_)⟩, hR⟩)⟩ hw dX12_compare_162
                  · replace hM := hM.call (r' := 1) hv1679 (by decide)
                    have ex1660 : x1660.toInt = x28.toInt := by rw [← c1681.symm.trans c1661]
                    have ex1662 : x1662.toInt = f0_.toInt := by rw [← c1680.symm.trans c1663]
                    obtain ⟨x1691, c1692, rx1691, tx1691⟩ := hT.rda (lo := 0) (hi := 400) (i := (f0_.toInt).toNat) kM_at3 rfl rfl (by omega)
                    have g1667 : 3 * x1691.toInt + 11 ≤ 3 * x50.toInt + 14 * (x1664.toInt - x1632.toInt) := by have q := g1667; simp only [c1637, c1680, c1639, c1692, c1633, c1665] at q; first | with_reducible exact q | omega
                    have g1668 : x1632.toInt + 1 ≤ x1664.toInt := by have q := g1668; simp only [c1637, c1680, c1633, c1665] at q; first | with_reducible exact q | omega
                    have hO : OKW w1644 f0_.toInt gb (((gd) + 1) + 1) := by have q := hq1666; exact OKW_cast q (by omega)
                    refine lv_if_ne (tgt := 163) hx hb dX12_compare_158 (by decide) (fun _ => ?_) (fun c => absurd c (by decide))
                    replace hM := hM.pos (by decide)
                    refine lv_aload_n hx hb dX12_compare_163 rfl (lv_at hl 4 rfl) ?_
                    refine lv_bipush (v := 6) hx hb dX12_compare_164 (by decide) ?_
                    refine lv_iload hx hb dX12_compare_166 (lv_at hl 0 rfl) ?_
                    refine lv_iadd hx hb dX12_compare_168 ?_
                    refine wk_top 9 (by decide) ?_
                    replace hM := hM.lt (v := 9) (by decide)
                    refine lv_iconst (v := 0) hx hb dX12_compare_169 (by decide) ?_
                    refine tk_Vv hC hK hw hT hA hE hSR kM_at0 (by decide) rfl (kz_X12_puts_1 l adK adV dC dI cy ad B hB0 (Int.le_trans hB1 (by decide)) qr s1   9 (by decide) (by decide) 0 (by decide) (by decide) w1644 H.size hT f0_ c1680 (show 0 ≤ f0_.toInt from rf0_) (show f0_.toInt ≤ 5 from tf0_) x1691 c1692 (show 0 ≤ x1691.toInt by first | with_reducible assumption | omega) (show x1691.toInt ≤ 400 by first | with_reducible assumption | omega) (show x1691.toInt ≤ 399 by first | with_reducible assumption | omega)) (cwV 2 hC.2.2.2.2 uV_RX12_162 rfl rfl rfl (by decide +kernel) ⟨Nat.le_of_ble_eq_true rfl, Nat.le_of_ble_eq_true rfl⟩) rfl hl.1 rfl (Nat.le_of_ble_eq_true rfl) dX12_compare_170 (fun w1697 H locs hp1696 hw => ?_)
                    obtain ⟨hT, k1698, hv1704, hg1703⟩ := hp1696
                    try simp only [show (9 : Int32).toInt = 9 by decide] at hv1704
                    try simp only [show (0 : Int32).toInt = 0 by decide] at hv1704
                    have hF := hF.tr k1698 (by decide)
                    have c1705 := k1698.gi kM_at0 (by decide) c1680
                    have c1706 := k1698.gi kM_at0 (by decide) c1681
                    have c1707 := k1698.gi kM_at1 rfl c1682
                    have c1708 := k1698.gi kM_at0 (by decide) c1665
                    obtain ⟨⟨x1699, c1700, rx1699, tx1699⟩, hq1701, g1702⟩ := hg1703
                    replace hM := hM.call hv1704 rfl
                    have ex1699 : x1699.toInt = f0_.toInt := by rw [← c1705.symm.trans c1700]
                    obtain ⟨x1709, c1710, rx1709, tx1709⟩ := hT.rda (lo := 0) (hi := 400) (i := (f0_.toInt).toNat) kM_at3 rfl rfl (by omega)
                    have g1702 : x1709.toInt = x1691.toInt + 1 := by have q := g1702; simp only [c1680, c1705, c1692, c1710] at q; first | with_reducible exact q | omega
                    have hO : OKW w1697 f0_.toInt gb ((((gd) + 1) + 1) - 1) := OKW_put hO (by have q := hq1701; rw [c1680] at q; exact q) (by rw [c1692]; omega) (fun x hx => by simp only [(show (9 : Int32).toInt = 9 by decide), (show (0 : Int32).toInt = 0 by decide)] at hx; exact okT_bin (by omega) (by omega) (by omega) (by omega)) (by omega) (by omega)
                    refine lv_iconst (v := 1) hx hb dX12_compare_173 (by decide) ?_
                    exact tk_zret hC hr rfl hlocks hK ⟨hT, hF, hM.ret (by decide), (Or.inr (Or.inr ⟨rfl, ⟨x28, c1706, (show 1 ≤ x28.toInt by first | with_reducible assumption | omega), (show x28.toInt ≤ 400 by first | with_reducible assumption | omega)⟩, ⟨f0_, c1705, (show 0 ≤ f0_.toInt from rf0_), (show f0_.toInt ≤ 5 from tf0_)⟩, ⟨x1664, c1708, (show 1 ≤ x1664.toInt by first | with_reducible assumption | omega), (show x1664.toInt ≤ 60 by first | with_reducible assumption | omega)⟩, (OKW_cast hO (by omega)), (by simp only [c1705, cf0_, cf2_, c1710, cf1_, c1708]; omega), (by simp only [c1705, cf0_, cf1_, c1708]; omega)⟩))⟩ hw dX12_compare_174
                  · replace hM := hM.call (r' := 1) hv1679 (by decide)
                    have ex1669 : x1669.toInt = x28.toInt := by rw [← c1681.symm.trans c1670]
                    have ex1671 : x1671.toInt = f0_.toInt := by rw [← c1680.symm.trans c1672]
                    obtain ⟨x1693, c1694, rx1693, tx1693⟩ := hT.rda (lo := 0) (hi := 400) (i := (f0_.toInt).toNat) kM_at3 rfl rfl (by omega)
                    have g1676 : 3 * x1693.toInt + 11 ≤ 3 * x50.toInt + 14 * (x1673.toInt - x1632.toInt) := by have q := g1676; simp only [c1637, c1680, c1639, c1694, c1633, c1674] at q; first | with_reducible exact q | omega
                    have g1677 : x1632.toInt + 1 ≤ x1673.toInt := by have q := g1677; simp only [c1637, c1680, c1633, c1674] at q; first | with_reducible exact q | omega
                    have hO : OKW w1644 f0_.toInt gb (((gd) + 1) + 1) := by have q := hq1675; exact OKW_cast q (by omega)
                    refine lv_if_ne (tgt := 163) hx hb dX12_compare_158 (by decide) (fun _ => ?_) (fun c => absurd c (by decide))
                    replace hM := hM.pos (by decide)
                    refine lv_aload_n hx hb dX12_compare_163 rfl (lv_at hl 4 rfl) ?_
                    refine lv_bipush (v := 6) hx hb dX12_compare_164 (by decide) ?_
                    refine lv_iload hx hb dX12_compare_166 (lv_at hl 0 rfl) ?_
                    refine lv_iadd hx hb dX12_compare_168 ?_
                    refine wk_top 9 (by decide) ?_
                    replace hM := hM.lt (v := 9) (by decide)
                    refine lv_iconst (v := 0) hx hb dX12_compare_169 (by decide) ?_
                    refine tk_Vv hC hK hw hT hA hE hSR kM_at0 (by decide) rfl (kz_X12_puts_1 l adK adV dC dI cy ad B hB0 (Int.le_trans hB1 (by decide)) qr s1   9 (by decide) (by decide) 0 (by decide) (by decide) w1644 H.size hT f0_ c1680 (show 0 ≤ f0_.toInt from rf0_) (show f0_.toInt ≤ 5 from tf0_) x1693 c1694 (show 0 ≤ x1693.toInt by first | with_reducible assumption | omega) (show x1693.toInt ≤ 400 by first | with_reducible assumption | omega) (show x1693.toInt ≤ 399 by first | with_reducible assumption | omega)) (cwV 2 hC.2.2.2.2 uV_RX12_162 rfl rfl rfl (by decide +kernel) ⟨Nat.le_of_ble_eq_true rfl, Nat.le_of_ble_eq_true rfl⟩) rfl hl.1 rfl (Nat.le_of_ble_eq_true rfl) dX12_compare_170 (fun w1713 H locs hp1712 hw => ?_)
                    obtain ⟨hT, k1714, hv1720, hg1719⟩ := hp1712
                    try simp only [show (9 : Int32).toInt = 9 by decide] at hv1720
                    try simp only [show (0 : Int32).toInt = 0 by decide] at hv1720
                    have hF := hF.tr k1714 (by decide)
                    have c1721 := k1714.gi kM_at0 (by decide) c1680
                    have c1722 := k1714.gi kM_at0 (by decide) c1681
                    have c1723 := k1714.gi kM_at1 rfl c1682
                    have c1724 := k1714.gi kM_at0 (by decide) c1674
                    obtain ⟨⟨x1715, c1716, rx1715, tx1715⟩, hq1717, g1718⟩ := hg1719
                    replace hM := hM.call hv1720 rfl
                    have ex1715 : x1715.toInt = f0_.toInt := by rw [← c1721.symm.trans c1716]
                    obtain ⟨x1725, c1726, rx1725, tx1725⟩ := hT.rda (lo := 0) (hi := 400) (i := (f0_.toInt).toNat) kM_at3 rfl rfl (by omega)
                    have g1718 : x1725.toInt = x1693.toInt + 1 := by have q := g1718; simp only [c1680, c1721, c1694, c1726] at q; first | with_reducible exact q | omega
                    have hO : OKW w1713 f0_.toInt gb ((((gd) + 1) + 1) - 1) := OKW_put hO (by have q := hq1717; rw [c1680] at q; exact q) (by rw [c1694]; omega) (fun x hx => by simp only [(show (9 : Int32).toInt = 9 by decide), (show (0 : Int32).toInt = 0 by decide)] at hx; exact okT_bin (by omega) (by omega) (by omega) (by omega)) (by omega) (by omega)
                    refine lv_iconst (v := 1) hx hb dX12_compare_173 (by decide) ?_
                    exact tk_zret hC hr rfl hlocks hK ⟨hT, hF, hM.ret (by decide), (Or.inr (Or.inr ⟨rfl, ⟨x28, c1722, (show 1 ≤ x28.toInt by first | with_reducible assumption | omega), (show x28.toInt ≤ 400 by first | with_reducible assumption | omega)⟩, ⟨f0_, c1721, (show 0 ≤ f0_.toInt from rf0_), (show f0_.toInt ≤ 5 from tf0_)⟩, ⟨x1673, c1724, (show 1 ≤ x1673.toInt by first | with_reducible assumption | omega), (show x1673.toInt ≤ 60 by first | with_reducible assumption | omega)⟩, (OKW_cast hO (by omega)), (by simp only [c1721, cf0_, cf2_, c1726, cf1_, c1724]; omega), (by simp only [c1721, cf0_, cf1_, c1724]; omega)⟩))⟩ hw dX12_compare_174
          · have c1390 : ¬ r913.toInt = (62 : Int) := wk_eqF c1390
            replace hM := hM.neg c1390
            refine lv_aload_n hx hb dX12_compare_37 rfl (lv_at hl 2 rfl) ?_
            refine lv_iconst (v := 0) hx hb dX12_compare_38 (by decide) ?_
            refine lv_iload_n hx hb dX12_compare_39 rfl (lv_at hl 0 rfl) ?_
            refine tk_Vi hC hK hw hT hA hE hSR kM_at0 (by decide) rfl (kz_X12_fails_1 l adK adV dC dI cy ad B hB0 (Int.le_trans hB1 (by decide)) qr s1   0 (by decide) (by decide) x921 (show 0 ≤ x921.toInt by first | with_reducible assumption | omega) (show x921.toInt ≤ 400 by first | with_reducible assumption | omega) w915 H.size hT ) (cwV 2 hC.2.2.2.2 uV_RX12_115 rfl rfl rfl (by decide +kernel) ⟨Nat.le_of_ble_eq_true rfl, Nat.le_of_ble_eq_true rfl⟩) rfl hl.1 rfl (Nat.le_of_ble_eq_true rfl) dX12_compare_40 (fun r1727 w1729 H locs hp1728 hw => ?_)
            obtain ⟨hT, k1730, hv1734, hg1733⟩ := hp1728
            try simp only [show (0 : Int32).toInt = 0 by decide] at hv1734
            have hO := OKW_FE k1730 (fun _ => rfl) (fun _ => rfl) (fun _ => rfl) (fun _ => rfl) hO
            have hF := hF.tr k1730 (by decide)
            have c1735 := k1730.gi kM_at0 (by decide) c935
            have c1736 := k1730.gi kM_at0 (by decide) c936
            have c1737 := k1730.gi kM_at0 (by decide) c937
            have c1738 := k1730.gi kM_at3 rfl c938
            have c1739 := k1730.gi kM_at0 (by decide) c922
            obtain ⟨rfl, ⟨x1731, c1732, rx1731, tx1731⟩⟩ := hg1733
            replace hM := hM.call (r' := 0) hv1734 (by decide)
            exact tk_zret hC hr rfl hlocks hK ⟨hT, hF, hM.ret (by decide), (Or.inl ⟨rfl, ⟨x28, c1736, (show 1 ≤ x28.toInt by first | with_reducible assumption | omega), (show x28.toInt ≤ 400 by first | with_reducible assumption | omega)⟩, ⟨x1731, c1732, (show 1 ≤ x1731.toInt by first | with_reducible assumption | omega), (show x1731.toInt ≤ 3205 by first | with_reducible assumption | omega)⟩, ⟨f0_, c1735, (show 0 ≤ f0_.toInt from rf0_), (show f0_.toInt ≤ 5 from tf0_)⟩, hO.1⟩)⟩ hw dX12_compare_43
    · replace hM := hM.call (r' := (-1)) hv934 (by decide)
      have ex925 : x925.toInt = x28.toInt := by rw [← c936.symm.trans c926]
      have g929 : (x927.toInt = x911.toInt ∨ (gi w3 1 (x911.toInt).toNat).toInt = 32) := by have q := g929; simp only [c39, c935, c912, c928] at q; first | with_reducible exact q | omega
      refine lv_istore_n (lv' := [(1, .int (-1)), (0, .ref (ad 0))]) hx hb dX12_compare_13 rfl hl (by decide) rfl (fun ls hl => ?_)
      refine lv_aload_n hx hb dX12_compare_14 rfl (lv_at hl 1 rfl) ?_
      refine tk_geti hC hK hw hT hinX12 kM_at0 (by decide) rfl 14 (by decide) (List.mem_cons_of_mem _ uw_19_18) rfl rfl dX12_compare_15 (fun x1740 c1741 rx1740 tx1740 => ?_)
      refine wk_top x927 (c1741.symm.trans c928) ?_
      replace hM := hM.rd (sI_at c928)
      refine lv_istore_n (lv' := [(2, .int x927), (1, .int (-1)), (0, .ref (ad 0))]) hx hb dX12_compare_18 rfl hl (by decide) rfl (fun ls hl => ?_)
      refine lv_iload_n hx hb dX12_compare_19 rfl (lv_at hl 1 rfl) ?_
      refine lv_bipush (v := 60) hx hb dX12_compare_20 (by decide) ?_
      refine lv_icmp_eq (tgt := 44) hx hb dX12_compare_22 (by decide) (fun c => absurd c (by decide)) (fun _ => ?_)
      replace hM := hM.neg (by decide)
      refine lv_iload_n hx hb dX12_compare_25 rfl (lv_at hl 1 rfl) ?_
      refine lv_bipush (v := 61) hx hb dX12_compare_26 (by decide) ?_
      refine lv_icmp_eq (tgt := 44) hx hb dX12_compare_28 (by decide) (fun c => absurd c (by decide)) (fun _ => ?_)
      replace hM := hM.neg (by decide)
      refine lv_iload_n hx hb dX12_compare_31 rfl (lv_at hl 1 rfl) ?_
      refine lv_bipush (v := 62) hx hb dX12_compare_32 (by decide) ?_
      refine lv_icmp_eq (tgt := 44) hx hb dX12_compare_34 (by decide) (fun c => absurd c (by decide)) (fun _ => ?_)
      replace hM := hM.neg (by decide)
      refine lv_aload_n hx hb dX12_compare_37 rfl (lv_at hl 2 rfl) ?_
      refine lv_iconst (v := 0) hx hb dX12_compare_38 (by decide) ?_
      refine lv_iload_n hx hb dX12_compare_39 rfl (lv_at hl 0 rfl) ?_
      refine tk_Vi hC hK hw hT hA hE hSR kM_at0 (by decide) rfl (kz_X12_fails_1 l adK adV dC dI cy ad B hB0 (Int.le_trans hB1 (by decide)) qr s1   0 (by decide) (by decide) x927 (show 0 ≤ x927.toInt by first | with_reducible assumption | omega) (show x927.toInt ≤ 400 by first | with_reducible assumption | omega) w915 H.size hT ) (cwV 2 hC.2.2.2.2 uV_RX12_115 rfl rfl rfl (by decide +kernel) ⟨Nat.le_of_ble_eq_true rfl, Nat.le_of_ble_eq_true rfl⟩) rfl hl.1 rfl (Nat.le_of_ble_eq_true rfl) dX12_compare_40 (fun r1742 w1744 H locs hp1743 hw => ?_)
      obtain ⟨hT, k1745, hv1749, hg1748⟩ := hp1743
      try simp only [show (0 : Int32).toInt = 0 by decide] at hv1749
      have hO := OKW_FE k1745 (fun _ => rfl) (fun _ => rfl) (fun _ => rfl) (fun _ => rfl) hO
      have hF := hF.tr k1745 (by decide)
      have c1750 := k1745.gi kM_at0 (by decide) c935
      have c1751 := k1745.gi kM_at0 (by decide) c936
      have c1752 := k1745.gi kM_at0 (by decide) c937
      have c1753 := k1745.gi kM_at3 rfl c938
      have c1754 := k1745.gi kM_at0 (by decide) c928
      obtain ⟨rfl, ⟨x1746, c1747, rx1746, tx1746⟩⟩ := hg1748
      replace hM := hM.call (r' := 0) hv1749 (by decide)
      exact tk_zret hC hr rfl hlocks hK ⟨hT, hF, hM.ret (by decide), (Or.inl ⟨rfl, ⟨x28, c1751, (show 1 ≤ x28.toInt by first | with_reducible assumption | omega), (show x28.toInt ≤ 400 by first | with_reducible assumption | omega)⟩, ⟨x1746, c1747, (show 1 ≤ x1746.toInt by first | with_reducible assumption | omega), (show x1746.toInt ≤ 3205 by first | with_reducible assumption | omega)⟩, ⟨f0_, c1750, (show 0 ≤ f0_.toInt from rf0_), (show f0_.toInt ≤ 5 from tf0_)⟩, hO.1⟩)⟩ hw dX12_compare_43
    · replace hM := hM.call (r' := (-1)) hv934 (by decide)
      have ex930 : x930.toInt = x28.toInt := by rw [← c936.symm.trans c931]
      obtain ⟨x939, c940, rx939, tx939⟩ := hT.rdi (lo := 0) (hi := 400) (k := 14) kM_at0 (by decide) rfl
      have g932 : (x939.toInt = x911.toInt ∨ (gi w3 1 (x911.toInt).toNat).toInt = 32) := by have q := g932; simp only [c39, c935, c912, c940] at q; first | with_reducible exact q | omega
      refine lv_istore_n (lv' := [(1, .int (-1)), (0, .ref (ad 0))]) hx hb dX12_compare_13 rfl hl (by decide) rfl (fun ls hl => ?_)
      refine lv_aload_n hx hb dX12_compare_14 rfl (lv_at hl 1 rfl) ?_
      refine tk_geti hC hK hw hT hinX12 kM_at0 (by decide) rfl 14 (by decide) (List.mem_cons_of_mem _ uw_19_18) rfl rfl dX12_compare_15 (fun x1755 c1756 rx1755 tx1755 => ?_)
      refine wk_top x939 (c1756.symm.trans c940) ?_
      replace hM := hM.rd (sI_at c940)
      refine lv_istore_n (lv' := [(2, .int x939), (1, .int (-1)), (0, .ref (ad 0))]) hx hb dX12_compare_18 rfl hl (by decide) rfl (fun ls hl => ?_)
      refine lv_iload_n hx hb dX12_compare_19 rfl (lv_at hl 1 rfl) ?_
      refine lv_bipush (v := 60) hx hb dX12_compare_20 (by decide) ?_
      refine lv_icmp_eq (tgt := 44) hx hb dX12_compare_22 (by decide) (fun c => absurd c (by decide)) (fun _ => ?_)
      replace hM := hM.neg (by decide)
      refine lv_iload_n hx hb dX12_compare_25 rfl (lv_at hl 1 rfl) ?_
      refine lv_bipush (v := 61) hx hb dX12_compare_26 (by decide) ?_
      refine lv_icmp_eq (tgt := 44) hx hb dX12_compare_28 (by decide) (fun c => absurd c (by decide)) (fun _ => ?_)
      replace hM := hM.neg (by decide)
      refine lv_iload_n hx hb dX12_compare_31 rfl (lv_at hl 1 rfl) ?_
      refine lv_bipush (v := 62) hx hb dX12_compare_32 (by decide) ?_
      refine lv_icmp_eq (tgt := 44) hx hb dX12_compare_34 (by decide) (fun c => absurd c (by decide)) (fun _ => ?_)
      replace hM := hM.neg (by decide)
      refine lv_aload_n hx hb dX12_compare_37 rfl (lv_at hl 2 rfl) ?_
      refine lv_iconst (v := 0) hx hb dX12_compare_38 (by decide) ?_
      refine lv_iload_n hx hb dX12_compare_39 rfl (lv_at hl 0 rfl) ?_
      refine tk_Vi hC hK hw hT hA hE hSR kM_at0 (by decide) rfl (kz_X12_fails_1 l adK adV dC dI cy ad B hB0 (Int.le_trans hB1 (by decide)) qr s1   0 (by decide) (by decide) x939 (show 0 ≤ x939.toInt by first | with_reducible assumption | omega) (show x939.toInt ≤ 400 by first | with_reducible assumption | omega) w915 H.size hT ) (cwV 2 hC.2.2.2.2 uV_RX12_115 rfl rfl rfl (by decide +kernel) ⟨Nat.le_of_ble_eq_true rfl, Nat.le_of_ble_eq_true rfl⟩) rfl hl.1 rfl (Nat.le_of_ble_eq_true rfl) dX12_compare_40 (fun r1757 w1759 H locs hp1758 hw => ?_)
      obtain ⟨hT, k1760, hv1764, hg1763⟩ := hp1758
      try simp only [show (0 : Int32).toInt = 0 by decide] at hv1764
      have hO := OKW_FE k1760 (fun _ => rfl) (fun _ => rfl) (fun _ => rfl) (fun _ => rfl) hO
      have hF := hF.tr k1760 (by decide)
      have c1765 := k1760.gi kM_at0 (by decide) c935
      have c1766 := k1760.gi kM_at0 (by decide) c936
      have c1767 := k1760.gi kM_at0 (by decide) c937
      have c1768 := k1760.gi kM_at3 rfl c938
      have c1769 := k1760.gi kM_at0 (by decide) c940
      obtain ⟨rfl, ⟨x1761, c1762, rx1761, tx1761⟩⟩ := hg1763
      replace hM := hM.call (r' := 0) hv1764 (by decide)
      exact tk_zret hC hr rfl hlocks hK ⟨hT, hF, hM.ret (by decide), (Or.inr (Or.inl ⟨rfl, ⟨x28, c1766, (show 0 ≤ x28.toInt by first | with_reducible assumption | omega), (show x28.toInt ≤ 400 by first | with_reducible assumption | omega)⟩, ⟨x1761, c1762, (show 1 ≤ x1761.toInt by first | with_reducible assumption | omega), (show x1761.toInt ≤ 3205 by first | with_reducible assumption | omega)⟩, ⟨f0_, c1765, (show 0 ≤ f0_.toInt from rf0_), (show f0_.toInt ≤ 5 from tf0_)⟩, hO.1⟩))⟩ hw dX12_compare_43
