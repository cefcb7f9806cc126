abbrev P_X12_sum_6 (ad : Nat → Nat) (cy : Nat → ClassId) (B : Int) (qr : Nat) (s1 : Int)  (w0 : va_W) : Int32 → va_W → Prop := fun r u => TW ksM ad cy B qr 12 u ∧ FE ksM [(12, 14, 14), (12, 15, 15), (12, 16, 16), (12, 18, 18), (61, 0, 2400), (62, 0, 7)] w0 u ∧ ((r = 0 ∧ (∃ y : Int32, gi u 0 1 = y ∧ 1 ≤ y.toInt ∧ y.toInt ≤ 400) ∧ (∃ y : Int32, gi u 0 15 = y ∧ 1 ≤ y.toInt ∧ y.toInt ≤ 3205) ∧ (∃ y : Int32, gi u 0 17 = y ∧ 5 ≤ y.toInt ∧ y.toInt ≤ 5)) ∨ (r = 0 ∧ (∃ y : Int32, gi u 0 1 = y ∧ 0 ≤ y.toInt ∧ y.toInt ≤ 400) ∧ (∃ y : Int32, gi u 0 15 = y ∧ 1 ≤ y.toInt ∧ y.toInt ≤ 3205) ∧ (∃ y : Int32, gi u 0 17 = y ∧ 5 ≤ y.toInt ∧ y.toInt ≤ 5)) ∨ (r = 1 ∧ (∃ y : Int32, gi u 0 1 = y ∧ 1 ≤ y.toInt ∧ y.toInt ≤ 400) ∧ (∃ y : Int32, gi u 0 17 = y ∧ 5 ≤ y.toInt ∧ y.toInt ≤ 5) ∧ (∃ y : Int32, gi u 0 18 = y ∧ 1 ≤ y.toInt ∧ y.toInt ≤ 60) ∧ (3 * (gi u 3 5).toInt + 11 ≤ 3 * (gi w0 3 5).toInt + 14 * ((gi u 0 18).toInt - (gi w0 0 18).toInt)) ∧ ((gi w0 0 18).toInt + 1 ≤ (gi u 0 18).toInt)) ∨ (r = 1 ∧ (∃ y : Int32, gi u 0 1 = y ∧ 0 ≤ y.toInt ∧ y.toInt ≤ 400) ∧ (∃ y : Int32, gi u 0 17 = y ∧ 5 ≤ y.toInt ∧ y.toInt ≤ 5) ∧ (∃ y : Int32, gi u 0 18 = y ∧ 1 ≤ y.toInt ∧ y.toInt ≤ 60) ∧ (3 * (gi u 3 5).toInt + 11 ≤ 3 * (gi w0 3 5).toInt + 14 * ((gi u 0 18).toInt - (gi w0 0 18).toInt)) ∧ ((gi w0 0 18).toInt + 1 ≤ (gi u 0 18).toInt)))
set_option maxHeartbeats 4000000 in
set_option maxRecDepth 100000 in
theorem k_X12_sum_6 (l : Launch) (adK adV : Nat → Nat) (dC : Nat → ClassId) (dI : Nat → Nat → Nat) (cy : Nat → ClassId) (ad : Nat → Nat) (B : Int) (hB0 : 100000 ≤ B) (hB1 : B ≤ 1073741824) (qr : Nat) (s1 : Int)   (w0 : va_W) (sz : Nat) (hT : TW ksM ad cy B qr 12 w0) (cf0_ : gi w0 0 17 = 5) (f1_ : Int32) (cf1_ : gi w0 0 18 = f1_) (rf1_ : 0 ≤ f1_.toInt) (tf1_ : f1_.toInt ≤ 60) (f2_ : Int32) (cf2_ : gi w0 3 5 = f2_) (rf2_ : 0 ≤ f2_.toInt) (tf2_ : f2_.toInt ≤ 400) (pr0_ : 3 * f2_.toInt ≤ 14 * f1_.toInt + 60) (pr1_ : f2_.toInt ≤ 300) : Met l yX12_sum wsX12_sum ({ frames := 6, cells := 0, slots := 0, locals := 121 }) (va_Pc [.ref (ad 0)] (wpreS adK adV dC dI cy sz w0)) (va_Qi (P_X12_sum_6 ad cy B qr s1  w0) (fun u : va_W => wpost dC dI cy (va_A w0 sz) u) (va_A w0 sz)) 0 0 (va_A w0 sz) := by
  refine Met.ofW (cc := cX12_sum) (maxL := 2) (ret := (some .boolean)) (by decide) rfl ?_
  intro p e s m args below meth c s₁ Bk hml hv
  obtain ⟨rfl, ⟨hsz, hP, hK, hD0⟩, hE, hSR⟩ := hv
  have hx := Bk.exec
  have hb := Bk.bytes
  have hr := Bk.returns
  have hlocks := Bk.notSynchronized
  have hC : CallFix p m c cX12_sum 2 s _ wsX12_sum RX12 := ⟨hx, hb, hml, findClass_of_methodNamed Bk.named, atoms_spec (ws := wsX12_sum) Bk.pre⟩
  subst hsz
  have hD := hD0.self (sz := s.heap.size)
  generalize hAe : va_A w0 s.heap.size = A at hD hE ⊢
  have hA : ∀ q : Nat, s.heap.size ≤ q → A q := fun q h => by rw [← hAe]; exact Or.inr h
  have hw : Wd dC dI A s.heap s.heap [] w0 := ⟨hP, hD, va_S.rf⟩
  have hF : FE ksM [(12, 14, 14), (12, 15, 15), (12, 16, 16), (12, 18, 18), (61, 0, 2400), (62, 0, 7)] w0 w0 := FE.rf
  have hl := lv_entry ([.ref (ad 0)]) (n := 2) (Nat.le_of_ble_eq_true rfl)
  rw [lg_entry_eq]
  generalize (lg_sl ([.ref (ad 0)]) ++ List.replicate (2 - (lg_sl ([.ref (ad 0)])).length) Slot.unset).toArray = ls at hl ⊢
  have hl : lv_has ls 2 [(0, .ref (ad 0))] := hl
  generalize hloc : ([] : List Loc) = locs at hw ⊢
  have hinX12 : ∀ w ∈ u_ws RX12 TX12 42, w ∈ wsX12_sum := fun _ h => List.mem_cons_of_mem _ (List.mem_append_right _ (h))
  have L9 : ∀ (n9 : Nat) (f9_0_1 : Int32) (f9_0_18 : Int32) (f9_3_5 : Int32) (H : Heap) (locs : List Loc) (ls : Array Slot) (w1 : va_W), 0 ≤ f9_0_1.toInt → f9_0_1.toInt ≤ 400 → 1 ≤ f9_0_18.toInt → f9_0_18.toInt ≤ 60 → 0 ≤ f9_3_5.toInt → f9_3_5.toInt ≤ 300 → (3 * f9_3_5.toInt + 11 ≤ 3 * f2_.toInt + 14 * (f9_0_18.toInt - f1_.toInt)) → (f1_.toInt + 1 ≤ f9_0_18.toInt) → (f9_3_5.toInt ≤ 300) → (60 - f9_0_18.toInt).toNat < n9 → Wd dC dI A s.heap H locs w1 → TW ksM ad cy B qr 12 w1 → FE ksM [(12, 14, 14), (12, 15, 15), (12, 16, 16), (12, 18, 18), (61, 0, 2400), (62, 0, 7)] w0 w1 → gi w1 0 1 = f9_0_1 → gi w1 0 17 = 5 → gi w1 0 18 = f9_0_18 → gi w1 3 5 = f9_3_5 → lv_has ls 2 [(0, .ref (ad 0))] → W p l e ({ frames := 6, cells := 0, slots := 0, locals := 121 }) s m (List.toArray [.ref (ad 0)]) below meth c H locs 0 0 (MQ below (va_Qi (P_X12_sum_6 ad cy B qr s1  w0) (fun u : va_W => wpost dC dI cy A u) A) (List.toArray [.ref (ad 0)]) s 0 0 A) (F0 m 9 ls []) := by
    intro n9
    induction n9 with
    | zero => intro f9_0_1 f9_0_18 f9_3_5 H locs ls w1 r2 t3 r6 t7 r9 t10 hcr9_0 hcr9_1 hcr9_2 hm9 hw hT hF c4 c5 c8 c11 hl; omega
    | succ n9 ih9 =>
      intro f9_0_1 f9_0_18 f9_3_5 H locs ls w1 r2 t3 r6 t7 r9 t10 hcr9_0 hcr9_1 hcr9_2 hm9 hw hT hF c4 c5 c8 c11 hl
      have J27 : ∀ (f27_0_14 : Int32) (H : Heap) (locs : List Loc) (ls : Array Slot) (w12 : va_W), 1 ≤ f9_0_1.toInt → f9_0_1.toInt ≤ 400 → 0 ≤ f27_0_14.toInt → f27_0_14.toInt ≤ 399 → 1 ≤ f9_0_18.toInt → f9_0_18.toInt ≤ 60 → 0 ≤ f9_3_5.toInt → f9_3_5.toInt ≤ 300 → (3 * f9_3_5.toInt + 11 ≤ 3 * f2_.toInt + 14 * (f9_0_18.toInt - f1_.toInt)) → (f1_.toInt + 1 ≤ f9_0_18.toInt) → (f9_3_5.toInt ≤ 300) → Wd dC dI A s.heap H locs w12 → TW ksM ad cy B qr 12 w12 → FE ksM [(12, 14, 14), (12, 15, 15), (12, 16, 16), (12, 18, 18), (61, 0, 2400), (62, 0, 7)] w0 w12 → gi w12 0 1 = f9_0_1 → gi w12 0 14 = f27_0_14 → gi w12 0 17 = 5 → gi w12 0 18 = f9_0_18 → gi w12 3 5 = f9_3_5 → lv_has ls 2 [(0, .ref (ad 0))] → W p l e ({ frames := 6, cells := 0, slots := 0, locals := 121 }) s m (List.toArray [.ref (ad 0)]) below meth c H locs 0 0 (MQ below (va_Qi (P_X12_sum_6 ad cy B qr s1  w0) (fun u : va_W => wpost dC dI cy A u) A) (List.toArray [.ref (ad 0)]) s 0 0 A) (F0 m 27 ls []) := by
        intro f27_0_14 H locs ls w12 r13 t14 r16 t17 r20 t21 r23 t24 hcr27_0 hcr27_1 hcr27_2 hw hT hF c15 c18 c19 c22 c25 hl
        refine lv_aload_n hx hb dX12_sum_27 rfl (lv_at hl 0 rfl) ?_
        refine tk_getA hC hK hw hT hinX12 kM_at0 (by decide) rfl 0 (by decide) (List.mem_of_getElem? (i := 1) rfl) rfl rfl dX12_sum_28 ?_
        refine lv_aload_n hx hb dX12_sum_31 rfl (lv_at hl 0 rfl) ?_
        refine tk_geti hC hK hw hT hinX12 kM_at0 (by decide) rfl 14 (by decide) (List.mem_of_getElem? (i := 2) rfl) rfl rfl dX12_sum_32 (fun x26 c27 rx26 tx26 => ?_)
        refine wk_top f27_0_14 (c27.symm.trans c18) ?_
        refine tk_bald hC hK hw hT kM_at1 rfl rfl (show 0 ≤ f27_0_14.toInt by omega) (show f27_0_14.toInt < 400 by omega) dX12_sum_35 (fun x28 c29 rx28 tx28 => ?_)
        have c29 : gi w12 1 (f27_0_14.toInt).toNat = x28 := (congrArg (gi w12 1) (congrArg Int.toNat (show f27_0_14.toInt = f27_0_14.toInt by omega))).trans c29
        refine lv_bipush (v := 43) hx hb dX12_sum_36 (by decide) ?_
        refine lv_icmp_ne (tgt := 45) hx hb dX12_sum_38 (by decide) (fun c30 => ?_) (fun c30 => ?_)
        · have c30 : ¬ x28.toInt = (43 : Int) := wk_eqF c30
          refine lv_iconst (v := 3) hx hb dX12_sum_45 (by decide) ?_
          refine lv_istore_n (lv' := [(1, .int 3), (0, .ref (ad 0))]) hx hb dX12_sum_46 rfl hl (by decide) rfl (fun ls hl => ?_)
          refine lv_aload_n hx hb dX12_sum_47 rfl (lv_at hl 1 rfl) ?_
          refine lv_dup hx hb dX12_sum_48 rfl ?_
          refine tk_geti hC hK hw hT hinX12 kM_at0 (by decide) rfl 14 (by decide) (List.mem_of_getElem? (i := 2) rfl) rfl rfl dX12_sum_49 (fun x31 c32 rx31 tx31 => ?_)
          refine wk_top f27_0_14 (c32.symm.trans c18) ?_
          refine lv_iconst (v := 1) hx hb dX12_sum_52 (by decide) ?_
          refine lv_iadd hx hb dX12_sum_53 ?_
          refine lv_topi (fun x33 ex33 => ?_)
          have ex33 : x33.toInt = f27_0_14.toInt + (1 : Int) := by rw [ex33]; exact wk_add (show (-2147483648) ≤ f27_0_14.toInt + (1 : Int) by omega) (show f27_0_14.toInt + (1 : Int) ≤ 2147483647 by omega)
          refine tk_puti hC hK hw hT hinX12 tyX12_ok nmX12 kM_at0 (by decide) rfl rfl 14 (by decide) (List.mem_of_getElem? (i := 2) rfl) rfl rfl rfl rfl (show 0 ≤ x33.toInt by omega) (show x33.toInt ≤ 400 by omega) dX12_sum_54 (fun H locs w34 hw hT k36 c35 => ?_)
          have hF := hF.put kM_at0 (k := 14) (by decide) k36
          have c37 := k36.gi (Or.inr (by decide)) c15
          have c38 := k36.gi (Or.inr (by decide)) c19
          have c39 := k36.gi (Or.inr (by decide)) c22
          have c40 := k36.gi (Or.inr (by decide)) c25
          have c41 := k36.gi (Or.inl (tk_ne kM_at1 kM_at0 (by decide))) c29
          refine lv_aload_n hx hb dX12_sum_57 rfl (lv_at hl 1 rfl) ?_
          refine tk_Vi hC hK hw hT hA hE hSR kM_at0 (by decide) rfl (k_X12_term_6 l adK adV dC dI cy ad B (by omega) (by omega) qr s1    w34 H.size hT c38 f9_0_18 c39 (show 0 ≤ f9_0_18.toInt by omega) (show f9_0_18.toInt ≤ 60 by omega) f9_3_5 c40 (show 0 ≤ f9_3_5.toInt by omega) (show f9_3_5.toInt ≤ 400 by omega) (show 3 * f9_3_5.toInt ≤ 14 * f9_0_18.toInt + 60 by omega) (show f9_3_5.toInt ≤ 300 by omega)) (cwV 0 hC.2.2.2.2 gX12_sum_X12_term rfl rfl rfl (by decide +kernel) ⟨Nat.le_of_ble_eq_true rfl, Nat.le_of_ble_eq_true rfl⟩) rfl hl.1 rfl (Nat.le_of_ble_eq_true rfl) dX12_sum_58 (fun r42 w44 H locs hp43 hw => ?_)
          obtain ⟨hT, k45, hg74⟩ := hp43
          have hF := hF.tr k45 (by decide)
          have c75 := k45.gi kM_at0 (by decide) c37
          have c76 := k45.gi kM_at0 (by decide) c38
          have c77 := k45.gi kM_at1 rfl c41
          rcases hg74 with ⟨rfl, ⟨x46, c47, rx46, tx46⟩, ⟨x48, c49, rx48, tx48⟩, ⟨x50, c51, rx50, tx50⟩⟩ | ⟨rfl, ⟨x52, c53, rx52, tx52⟩, ⟨x54, c55, rx54, tx54⟩, ⟨x56, c57, rx56, tx56⟩⟩ | ⟨rfl, ⟨x58, c59, rx58, tx58⟩, ⟨x60, c61, rx60, tx60⟩, ⟨x62, c63, rx62, tx62⟩, g64, g65⟩ | ⟨rfl, ⟨x66, c67, rx66, tx66⟩, ⟨x68, c69, rx68, tx68⟩, ⟨x70, c71, rx70, tx70⟩, g72, g73⟩
          · have ex46 : x46.toInt = f9_0_1.toInt := by rw [← c75.symm.trans c47]
            have ex50 : x50.toInt = (5 : Int) := by rw [show x50 = 5 from c51.symm.trans c76]; decide
            obtain ⟨x78, c79, rx78, tx78⟩ := hT.rda (lo := 0) (hi := 400) (i := 5) kM_at3 rfl rfl (by decide)
            obtain ⟨x80, c81, rx80, tx80⟩ := hT.rdi (lo := 0) (hi := 60) (k := 18) kM_at0 (by decide) rfl
            refine lv_if_ne (tgt := 66) hx hb dX12_sum_61 (by decide) (fun c => absurd (by decide) c) (fun _ => ?_)
            refine lv_iconst (v := 0) hx hb dX12_sum_64 (by decide) ?_
            exact tk_zret hC hr rfl hlocks hK ⟨hT, hF, (Or.inl ⟨rfl, ⟨f9_0_1, c75, (show 1 ≤ f9_0_1.toInt by omega), (show f9_0_1.toInt ≤ 400 by omega)⟩, ⟨x48, c49, (show 1 ≤ x48.toInt by omega), (show x48.toInt ≤ 3205 by omega)⟩, ⟨5, c76, (by decide), (by decide)⟩⟩)⟩ hw dX12_sum_65
          · have ex52 : x52.toInt = f9_0_1.toInt := by rw [← c75.symm.trans c53]
            have ex56 : x56.toInt = (5 : Int) := by rw [show x56 = 5 from c57.symm.trans c76]; decide
            obtain ⟨x82, c83, rx82, tx82⟩ := hT.rda (lo := 0) (hi := 400) (i := 5) kM_at3 rfl rfl (by decide)
            obtain ⟨x84, c85, rx84, tx84⟩ := hT.rdi (lo := 0) (hi := 60) (k := 18) kM_at0 (by decide) rfl
            refine lv_if_ne (tgt := 66) hx hb dX12_sum_61 (by decide) (fun c => absurd (by decide) c) (fun _ => ?_)
            refine lv_iconst (v := 0) hx hb dX12_sum_64 (by decide) ?_
            exact tk_zret hC hr rfl hlocks hK ⟨hT, hF, (Or.inl ⟨rfl, ⟨f9_0_1, c75, (show 1 ≤ f9_0_1.toInt by omega), (show f9_0_1.toInt ≤ 400 by omega)⟩, ⟨x54, c55, (show 1 ≤ x54.toInt by omega), (show x54.toInt ≤ 3205 by omega)⟩, ⟨5, c76, (by decide), (by decide)⟩⟩)⟩ hw dX12_sum_65
          · have ex58 : x58.toInt = f9_0_1.toInt := by rw [← c75.symm.trans c59]
            have ex60 : x60.toInt = (5 : Int) := by rw [show x60 = 5 from c61.symm.trans c76]; decide
            obtain ⟨x86, c87, rx86, tx86⟩ := hT.rda (lo := 0) (hi := 400) (i := 5) kM_at3 rfl rfl (by decide)
            have g64 : 3 * x86.toInt + 11 ≤ 3 * f9_3_5.toInt + 14 * (x62.toInt - f9_0_18.toInt) := by have q := g64; simp only [c40, c87, c39, c63] at q; omega
            have g65 : f9_0_18.toInt + 1 ≤ x62.toInt := by have q := g65; simp only [c39, c63] at q; omega
            refine lv_if_ne (tgt := 66) hx hb dX12_sum_61 (by decide) (fun _ => ?_) (fun c => absurd c (by decide))
            refine lv_aload_n hx hb dX12_sum_66 rfl (lv_at hl 1 rfl) ?_
            refine lv_iload_n hx hb dX12_sum_67 rfl (lv_at hl 0 rfl) ?_
            refine lv_iconst (v := 0) hx hb dX12_sum_68 (by decide) ?_
            refine tk_Vv hC hK hw hT hA hE hSR kM_at0 (by decide) rfl (k_X12_puts_6 l adK adV dC dI cy ad B (by omega) (by omega) qr s1   3 (by decide) (by decide) 0 w44 H.size hT c76 x86 c87 (show 0 ≤ x86.toInt by omega) (show x86.toInt ≤ 400 by omega) (show x86.toInt ≤ 399 by omega)) (cwV 2 hC.2.2.2.2 gX12_sum_X12_puts rfl rfl rfl (by decide +kernel) ⟨Nat.le_of_ble_eq_true rfl, Nat.le_of_ble_eq_true rfl⟩) rfl hl.1 rfl (Nat.le_of_ble_eq_true rfl) dX12_sum_69 (fun w92 H locs hp91 hw => ?_)
            obtain ⟨hT, k93, hg97⟩ := hp91
            have hF := hF.tr k93 (by decide)
            have c98 := k93.gi kM_at0 (by decide) c75
            have c99 := k93.gi kM_at0 (by decide) c76
            have c100 := k93.gi kM_at1 rfl c77
            have c101 := k93.gi kM_at0 (by decide) c63
            obtain ⟨⟨x94, c95, rx94, tx94⟩, g96⟩ := hg97
            have ex94 : x94.toInt = (5 : Int) := by rw [show x94 = 5 from c95.symm.trans c99]; decide
            obtain ⟨x102, c103, rx102, tx102⟩ := hT.rda (lo := 0) (hi := 400) (i := 5) kM_at3 rfl rfl (by decide)
            have g96 : x102.toInt = x86.toInt + 1 := by have q := g96; simp only [c87, c103] at q; omega
            refine lv_goto (tgt := 9) hx hb dX12_sum_72 (by decide) ?_
            exact ih9 f9_0_1 x62 x102 H locs ls w92 (show 0 ≤ f9_0_1.toInt by omega) (show f9_0_1.toInt ≤ 400 by omega) (show 1 ≤ x62.toInt by omega) (show x62.toInt ≤ 60 by omega) (show 0 ≤ x102.toInt by omega) (show x102.toInt ≤ 300 by omega) (show 3 * x102.toInt + 11 ≤ 3 * f2_.toInt + 14 * (x62.toInt - f1_.toInt) by omega) (show f1_.toInt + 1 ≤ x62.toInt by omega) (show x102.toInt ≤ 300 by omega) (show (60 - x62.toInt).toNat < n9 by omega) hw hT hF c98 c99 c101 c103 (lv_sub hl [1] rfl)
          · have ex66 : x66.toInt = f9_0_1.toInt := by rw [← c75.symm.trans c67]
            have ex68 : x68.toInt = (5 : Int) := by rw [show x68 = 5 from c69.symm.trans c76]; decide
            obtain ⟨x88, c89, rx88, tx88⟩ := hT.rda (lo := 0) (hi := 400) (i := 5) kM_at3 rfl rfl (by decide)
            have g72 : 3 * x88.toInt + 11 ≤ 3 * f9_3_5.toInt + 14 * (x70.toInt - f9_0_18.toInt) := by have q := g72; simp only [c40, c89, c39, c71] at q; omega
            have g73 : f9_0_18.toInt + 1 ≤ x70.toInt := by have q := g73; simp only [c39, c71] at q; omega
            refine lv_if_ne (tgt := 66) hx hb dX12_sum_61 (by decide) (fun _ => ?_) (fun c => absurd c (by decide))
            refine lv_aload_n hx hb dX12_sum_66 rfl (lv_at hl 1 rfl) ?_
            refine lv_iload_n hx hb dX12_sum_67 rfl (lv_at hl 0 rfl) ?_
            refine lv_iconst (v := 0) hx hb dX12_sum_68 (by decide) ?_
            refine tk_Vv hC hK hw hT hA hE hSR kM_at0 (by decide) rfl (k_X12_puts_6 l adK adV dC dI cy ad B (by omega) (by omega) qr s1   3 (by decide) (by decide) 0 w44 H.size hT c76 x88 c89 (show 0 ≤ x88.toInt by omega) (show x88.toInt ≤ 400 by omega) (show x88.toInt ≤ 399 by omega)) (cwV 2 hC.2.2.2.2 gX12_sum_X12_puts rfl rfl rfl (by decide +kernel) ⟨Nat.le_of_ble_eq_true rfl, Nat.le_of_ble_eq_true rfl⟩) rfl hl.1 rfl (Nat.le_of_ble_eq_true rfl) dX12_sum_69 (fun w106 H locs hp105 hw => ?_)
            obtain ⟨hT, k107, hg111⟩ := hp105
            have hF := hF.tr k107 (by decide)
            have c112 := k107.gi kM_at0 (by decide) c75
            have c113 := k107.gi kM_at0 (by decide) c76
            have c114 := k107.gi kM_at1 rfl c77
            have c115 := k107.gi kM_at0 (by decide) c71
            obtain ⟨⟨x108, c109, rx108, tx108⟩, g110⟩ := hg111
            have ex108 : x108.toInt = (5 : Int) := by rw [show x108 = 5 from c109.symm.trans c113]; decide
            obtain ⟨x116, c117, rx116, tx116⟩ := hT.rda (lo := 0) (hi := 400) (i := 5) kM_at3 rfl rfl (by decide)
            have g110 : x116.toInt = x88.toInt + 1 := by have q := g110; simp only [c89, c117] at q; omega
            refine lv_goto (tgt := 9) hx hb dX12_sum_72 (by decide) ?_
            exact ih9 f9_0_1 x70 x116 H locs ls w106 (show 0 ≤ f9_0_1.toInt by omega) (show f9_0_1.toInt ≤ 400 by omega) (show 1 ≤ x70.toInt by omega) (show x70.toInt ≤ 60 by omega) (show 0 ≤ x116.toInt by omega) (show x116.toInt ≤ 300 by omega) (show 3 * x116.toInt + 11 ≤ 3 * f2_.toInt + 14 * (x70.toInt - f1_.toInt) by omega) (show f1_.toInt + 1 ≤ x70.toInt by omega) (show x116.toInt ≤ 300 by omega) (show (60 - x70.toInt).toNat < n9 by omega) hw hT hF c112 c113 c115 c117 (lv_sub hl [1] rfl)
        · have c30 : x28.toInt = (43 : Int) := wk_eq.mp c30
          refine lv_iconst (v := 2) hx hb dX12_sum_41 (by decide) ?_
          refine lv_goto (tgt := 46) hx hb dX12_sum_42 (by decide) ?_
          refine lv_istore_n (lv' := [(1, .int 2), (0, .ref (ad 0))]) hx hb dX12_sum_46 rfl hl (by decide) rfl (fun ls hl => ?_)
          refine lv_aload_n hx hb dX12_sum_47 rfl (lv_at hl 1 rfl) ?_
          refine lv_dup hx hb dX12_sum_48 rfl ?_
          refine tk_geti hC hK hw hT hinX12 kM_at0 (by decide) rfl 14 (by decide) (List.mem_of_getElem? (i := 2) rfl) rfl rfl dX12_sum_49 (fun x118 c119 rx118 tx118 => ?_)
          refine wk_top f27_0_14 (c119.symm.trans c18) ?_
          refine lv_iconst (v := 1) hx hb dX12_sum_52 (by decide) ?_
          refine lv_iadd hx hb dX12_sum_53 ?_
          refine lv_topi (fun x120 ex120 => ?_)
          have ex120 : x120.toInt = f27_0_14.toInt + (1 : Int) := by rw [ex120]; exact wk_add (show (-2147483648) ≤ f27_0_14.toInt + (1 : Int) by omega) (show f27_0_14.toInt + (1 : Int) ≤ 2147483647 by omega)
          refine tk_puti hC hK hw hT hinX12 tyX12_ok nmX12 kM_at0 (by decide) rfl rfl 14 (by decide) (List.mem_of_getElem? (i := 2) rfl) rfl rfl rfl rfl (show 0 ≤ x120.toInt by omega) (show x120.toInt ≤ 400 by omega) dX12_sum_54 (fun H locs w121 hw hT k123 c122 => ?_)
          have hF := hF.put kM_at0 (k := 14) (by decide) k123
          have c124 := k123.gi (Or.inr (by decide)) c15
          have c125 := k123.gi (Or.inr (by decide)) c19
          have c126 := k123.gi (Or.inr (by decide)) c22
          have c127 := k123.gi (Or.inr (by decide)) c25
          have c128 := k123.gi (Or.inl (tk_ne kM_at1 kM_at0 (by decide))) c29
          refine lv_aload_n hx hb dX12_sum_57 rfl (lv_at hl 1 rfl) ?_
          refine tk_Vi hC hK hw hT hA hE hSR kM_at0 (by decide) rfl (k_X12_term_6 l adK adV dC dI cy ad B (by omega) (by omega) qr s1    w121 H.size hT c125 f9_0_18 c126 (show 0 ≤ f9_0_18.toInt by omega) (show f9_0_18.toInt ≤ 60 by omega) f9_3_5 c127 (show 0 ≤ f9_3_5.toInt by omega) (show f9_3_5.toInt ≤ 400 by omega) (show 3 * f9_3_5.toInt ≤ 14 * f9_0_18.toInt + 60 by omega) (show f9_3_5.toInt ≤ 300 by omega)) (cwV 0 hC.2.2.2.2 gX12_sum_X12_term rfl rfl rfl (by decide +kernel) ⟨Nat.le_of_ble_eq_true rfl, Nat.le_of_ble_eq_true rfl⟩) rfl hl.1 rfl (Nat.le_of_ble_eq_true rfl) dX12_sum_58 (fun r129 w131 H locs hp130 hw => ?_)
          obtain ⟨hT, k132, hg161⟩ := hp130
          have hF := hF.tr k132 (by decide)
          have c162 := k132.gi kM_at0 (by decide) c124
          have c163 := k132.gi kM_at0 (by decide) c125
          have c164 := k132.gi kM_at1 rfl c128
          rcases hg161 with ⟨rfl, ⟨x133, c134, rx133, tx133⟩, ⟨x135, c136, rx135, tx135⟩, ⟨x137, c138, rx137, tx137⟩⟩ | ⟨rfl, ⟨x139, c140, rx139, tx139⟩, ⟨x141, c142, rx141, tx141⟩, ⟨x143, c144, rx143, tx143⟩⟩ | ⟨rfl, ⟨x145, c146, rx145, tx145⟩, ⟨x147, c148, rx147, tx147⟩, ⟨x149, c150, rx149, tx149⟩, g151, g152⟩ | ⟨rfl, ⟨x153, c154, rx153, tx153⟩, ⟨x155, c156, rx155, tx155⟩, ⟨x157, c158, rx157, tx157⟩, g159, g160⟩
          · have ex133 : x133.toInt = f9_0_1.toInt := by rw [← c162.symm.trans c134]
            have ex137 : x137.toInt = (5 : Int) := by rw [show x137 = 5 from c138.symm.trans c163]; decide
            obtain ⟨x165, c166, rx165, tx165⟩ := hT.rda (lo := 0) (hi := 400) (i := 5) kM_at3 rfl rfl (by decide)
            obtain ⟨x167, c168, rx167, tx167⟩ := hT.rdi (lo := 0) (hi := 60) (k := 18) kM_at0 (by decide) rfl
            refine lv_if_ne (tgt := 66) hx hb dX12_sum_61 (by decide) (fun c => absurd (by decide) c) (fun _ => ?_)
            refine lv_iconst (v := 0) hx hb dX12_sum_64 (by decide) ?_
            exact tk_zret hC hr rfl hlocks hK ⟨hT, hF, (Or.inl ⟨rfl, ⟨f9_0_1, c162, (show 1 ≤ f9_0_1.toInt by omega), (show f9_0_1.toInt ≤ 400 by omega)⟩, ⟨x135, c136, (show 1 ≤ x135.toInt by omega), (show x135.toInt ≤ 3205 by omega)⟩, ⟨5, c163, (by decide), (by decide)⟩⟩)⟩ hw dX12_sum_65
          · have ex139 : x139.toInt = f9_0_1.toInt := by rw [← c162.symm.trans c140]
            have ex143 : x143.toInt = (5 : Int) := by rw [show x143 = 5 from c144.symm.trans c163]; decide
            obtain ⟨x169, c170, rx169, tx169⟩ := hT.rda (lo := 0) (hi := 400) (i := 5) kM_at3 rfl rfl (by decide)
            obtain ⟨x171, c172, rx171, tx171⟩ := hT.rdi (lo := 0) (hi := 60) (k := 18) kM_at0 (by decide) rfl
            refine lv_if_ne (tgt := 66) hx hb dX12_sum_61 (by decide) (fun c => absurd (by decide) c) (fun _ => ?_)
            refine lv_iconst (v := 0) hx hb dX12_sum_64 (by decide) ?_
            exact tk_zret hC hr rfl hlocks hK ⟨hT, hF, (Or.inl ⟨rfl, ⟨f9_0_1, c162, (show 1 ≤ f9_0_1.toInt by omega), (show f9_0_1.toInt ≤ 400 by omega)⟩, ⟨x141, c142, (show 1 ≤ x141.toInt by omega), (show x141.toInt ≤ 3205 by omega)⟩, ⟨5, c163, (by decide), (by decide)⟩⟩)⟩ hw dX12_sum_65
          · have ex145 : x145.toInt = f9_0_1.toInt := by rw [← c162.symm.trans c146]
            have ex147 : x147.toInt = (5 : Int) := by rw [show x147 = 5 from c148.symm.trans c163]; decide
            obtain ⟨x173, c174, rx173, tx173⟩ := hT.rda (lo := 0) (hi := 400) (i := 5) kM_at3 rfl rfl (by decide)
            have g151 : 3 * x173.toInt + 11 ≤ 3 * f9_3_5.toInt + 14 * (x149.toInt - f9_0_18.toInt) := by have q := g151; simp only [c127, c174, c126, c150] at q; omega
            have g152 : f9_0_18.toInt + 1 ≤ x149.toInt := by have q := g152; simp only [c126, c150] at q; omega
            refine lv_if_ne (tgt := 66) hx hb dX12_sum_61 (by decide) (fun _ => ?_) (fun c => absurd c (by decide))
            refine lv_aload_n hx hb dX12_sum_66 rfl (lv_at hl 1 rfl) ?_
            refine lv_iload_n hx hb dX12_sum_67 rfl (lv_at hl 0 rfl) ?_
            refine lv_iconst (v := 0) hx hb dX12_sum_68 (by decide) ?_
            refine tk_Vv hC hK hw hT hA hE hSR kM_at0 (by decide) rfl (k_X12_puts_6 l adK adV dC dI cy ad B (by omega) (by omega) qr s1   2 (by decide) (by decide) 0 w131 H.size hT c163 x173 c174 (show 0 ≤ x173.toInt by omega) (show x173.toInt ≤ 400 by omega) (show x173.toInt ≤ 399 by omega)) (cwV 2 hC.2.2.2.2 gX12_sum_X12_puts rfl rfl rfl (by decide +kernel) ⟨Nat.le_of_ble_eq_true rfl, Nat.le_of_ble_eq_true rfl⟩) rfl hl.1 rfl (Nat.le_of_ble_eq_true rfl) dX12_sum_69 (fun w179 H locs hp178 hw => ?_)
            obtain ⟨hT, k180, hg184⟩ := hp178
            have hF := hF.tr k180 (by decide)
            have c185 := k180.gi kM_at0 (by decide) c162
            have c186 := k180.gi kM_at0 (by decide) c163
            have c187 := k180.gi kM_at1 rfl c164
            have c188 := k180.gi kM_at0 (by decide) c150
            obtain ⟨⟨x181, c182, rx181, tx181⟩, g183⟩ := hg184
            have ex181 : x181.toInt = (5 : Int) := by rw [show x181 = 5 from c182.symm.trans c186]; decide
            obtain ⟨x189, c190, rx189, tx189⟩ := hT.rda (lo := 0) (hi := 400) (i := 5) kM_at3 rfl rfl (by decide)
            have g183 : x189.toInt = x173.toInt + 1 := by have q := g183; simp only [c174, c190] at q; omega
            refine lv_goto (tgt := 9) hx hb dX12_sum_72 (by decide) ?_
            exact ih9 f9_0_1 x149 x189 H locs ls w179 (show 0 ≤ f9_0_1.toInt by omega) (show f9_0_1.toInt ≤ 400 by omega) (show 1 ≤ x149.toInt by omega) (show x149.toInt ≤ 60 by omega) (show 0 ≤ x189.toInt by omega) (show x189.toInt ≤ 300 by omega) (show 3 * x189.toInt + 11 ≤ 3 * f2_.toInt + 14 * (x149.toInt - f1_.toInt) by omega) (show f1_.toInt + 1 ≤ x149.toInt by omega) (show x189.toInt ≤ 300 by omega) (show (60 - x149.toInt).toNat < n9 by omega) hw hT hF c185 c186 c188 c190 (lv_sub hl [1] rfl)
          · have ex153 : x153.toInt = f9_0_1.toInt := by rw [← c162.symm.trans c154]
            have ex155 : x155.toInt = (5 : Int) := by rw [show x155 = 5 from c156.symm.trans c163]; decide
            obtain ⟨x175, c176, rx175, tx175⟩ := hT.rda (lo := 0) (hi := 400) (i := 5) kM_at3 rfl rfl (by decide)
            have g159 : 3 * x175.toInt + 11 ≤ 3 * f9_3_5.toInt + 14 * (x157.toInt - f9_0_18.toInt) := by have q := g159; simp only [c127, c176, c126, c158] at q; omega
            have g160 : f9_0_18.toInt + 1 ≤ x157.toInt := by have q := g160; simp only [c126, c158] at q; omega
            refine lv_if_ne (tgt := 66) hx hb dX12_sum_61 (by decide) (fun _ => ?_) (fun c => absurd c (by decide))
            refine lv_aload_n hx hb dX12_sum_66 rfl (lv_at hl 1 rfl) ?_
            refine lv_iload_n hx hb dX12_sum_67 rfl (lv_at hl 0 rfl) ?_
            refine lv_iconst (v := 0) hx hb dX12_sum_68 (by decide) ?_
            refine tk_Vv hC hK hw hT hA hE hSR kM_at0 (by decide) rfl (k_X12_puts_6 l adK adV dC dI cy ad B (by omega) (by omega) qr s1   2 (by decide) (by decide) 0 w131 H.size hT c163 x175 c176 (show 0 ≤ x175.toInt by omega) (show x175.toInt ≤ 400 by omega) (show x175.toInt ≤ 399 by omega)) (cwV 2 hC.2.2.2.2 gX12_sum_X12_puts rfl rfl rfl (by decide +kernel) ⟨Nat.le_of_ble_eq_true rfl, Nat.le_of_ble_eq_true rfl⟩) rfl hl.1 rfl (Nat.le_of_ble_eq_true rfl) dX12_sum_69 (fun w193 H locs hp192 hw => ?_)
            obtain ⟨hT, k194, hg198⟩ := hp192
            have hF := hF.tr k194 (by decide)
            have c199 := k194.gi kM_at0 (by decide) c162
            have c200 := k194.gi kM_at0 (by decide) c163
            have c201 := k194.gi kM_at1 rfl c164
            have c202 := k194.gi kM_at0 (by decide) c158
            obtain ⟨⟨x195, c196, rx195, tx195⟩, g197⟩ := hg198
            have ex195 : x195.toInt = (5 : Int) := by rw [show x195 = 5 from c196.symm.trans c200]; decide
            obtain ⟨x203, c204, rx203, tx203⟩ := hT.rda (lo := 0) (hi := 400) (i := 5) kM_at3 rfl rfl (by decide)
            have g197 : x203.toInt = x175.toInt + 1 := by have q := g197; simp only [c176, c204] at q; omega
            refine lv_goto (tgt := 9) hx hb dX12_sum_72 (by decide) ?_
            exact ih9 f9_0_1 x157 x203 H locs ls w193 (show 0 ≤ f9_0_1.toInt by omega) (show f9_0_1.toInt ≤ 400 by omega) (show 1 ≤ x157.toInt by omega) (show x157.toInt ≤ 60 by omega) (show 0 ≤ x203.toInt by omega) (show x203.toInt ≤ 300 by omega) (show 3 * x203.toInt + 11 ≤ 3 * f2_.toInt + 14 * (x157.toInt - f1_.toInt) by omega) (show f1_.toInt + 1 ≤ x157.toInt by omega) (show x203.toInt ≤ 300 by omega) (show (60 - x157.toInt).toNat < n9 by omega) hw hT hF c199 c200 c202 c204 (lv_sub hl [1] rfl)
      refine lv_aload_n hx hb dX12_sum_9 rfl (lv_at hl 0 rfl) ?_
      obtain ⟨x205, c206, rx205, tx205⟩ := hT.rdi (lo := 0) (hi := 400) (k := 14) kM_at0 (by decide) rfl
      refine tk_Vi hC hK hw hT hA hE hSR kM_at0 (by decide) rfl (k_X12_see_1 l adK adV dC dI cy ad B (by omega) (by omega) qr s1    w1 H.size hT x205 c206 (show 0 ≤ x205.toInt by omega) (show x205.toInt ≤ 400 by omega)) (cwV 0 hC.2.2.2.2 gX12_sum_X12_see rfl rfl rfl (by decide +kernel) ⟨Nat.le_of_ble_eq_true rfl, Nat.le_of_ble_eq_true rfl⟩) rfl hl.1 rfl (Nat.le_of_ble_eq_true rfl) dX12_sum_10 (fun r207 w209 H locs hp208 hw => ?_)
      obtain ⟨hT, k210, hg227⟩ := hp208
      have hF := hF.tr k210 (by decide)
      have c228 := k210.gi kM_at0 (by decide) c4
      have c229 := k210.gi kM_at0 (by decide) c5
      have c230 := k210.gi kM_at0 (by decide) c8
      have c231 := k210.gi kM_at3 (by decide) c11
      rcases hg227 with ⟨g211, g212, ⟨x213, c214, rx213, tx213⟩, ⟨x215, c216, rx215, tx215⟩, g217, g218⟩ | ⟨rfl, ⟨x219, c220, rx219, tx219⟩, ⟨x221, c222, rx221, tx221⟩, g223⟩ | ⟨rfl, ⟨x224, c225, rx224, tx224⟩, g226⟩
      · have ex213 : x213.toInt = f9_0_1.toInt := by rw [← c228.symm.trans c214]
        have g217 : (gi w209 1 (x215.toInt).toNat).toInt ≠ 32 := by have q := g217; simp only [c216] at q; omega
        have g218 : (x215.toInt = x205.toInt ∨ (gi w1 1 (x205.toInt).toNat).toInt = 32) := by have q := g218; simp only [c206, c216] at q; omega
        refine lv_bipush (v := 43) hx hb dX12_sum_13 (by decide) ?_
        refine lv_icmp_eq (tgt := 27) hx hb dX12_sum_15 (by decide) (fun c234 => ?_) (fun c234 => ?_)
        · have c234 : r207.toInt = (43 : Int) := wk_eq.mp c234
          exact J27 x215 H locs ls w209 (show 1 ≤ f9_0_1.toInt by omega) (show f9_0_1.toInt ≤ 400 by omega) (show 0 ≤ x215.toInt by omega) (show x215.toInt ≤ 399 by omega) (show 1 ≤ f9_0_18.toInt by omega) (show f9_0_18.toInt ≤ 60 by omega) (show 0 ≤ f9_3_5.toInt by omega) (show f9_3_5.toInt ≤ 300 by omega) (show 3 * f9_3_5.toInt + 11 ≤ 3 * f2_.toInt + 14 * (f9_0_18.toInt - f1_.toInt) by omega) (show f1_.toInt + 1 ≤ f9_0_18.toInt by omega) (show f9_3_5.toInt ≤ 300 by omega)  hw hT hF c228 c216 c229 c230 c231 (lv_sub hl [0] rfl)
        · have c234 : ¬ r207.toInt = (43 : Int) := wk_eqF c234
          refine lv_aload_n hx hb dX12_sum_18 rfl (lv_at hl 0 rfl) ?_
          refine tk_Vi hC hK hw hT hA hE hSR kM_at0 (by decide) rfl (k_X12_see_1 l adK adV dC dI cy ad B (by omega) (by omega) qr s1    w209 H.size hT x215 c216 (show 0 ≤ x215.toInt by omega) (show x215.toInt ≤ 400 by omega)) (cwV 0 hC.2.2.2.2 gX12_sum_X12_see rfl rfl rfl (by decide +kernel) ⟨Nat.le_of_ble_eq_true rfl, Nat.le_of_ble_eq_true rfl⟩) rfl hl.1 rfl (Nat.le_of_ble_eq_true rfl) dX12_sum_19 (fun r235 w237 H locs hp236 hw => ?_)
          obtain ⟨hT, k238, hg255⟩ := hp236
          have hF := hF.tr k238 (by decide)
          have c256 := k238.gi kM_at0 (by decide) c228
          have c257 := k238.gi kM_at0 (by decide) c229
          have c258 := k238.gi kM_at0 (by decide) c230
          have c259 := k238.gi kM_at3 (by decide) c231
          rcases hg255 with ⟨g239, g240, ⟨x241, c242, rx241, tx241⟩, ⟨x243, c244, rx243, tx243⟩, g245, g246⟩ | ⟨rfl, ⟨x247, c248, rx247, tx247⟩, ⟨x249, c250, rx249, tx249⟩, g251⟩ | ⟨rfl, ⟨x252, c253, rx252, tx252⟩, g254⟩
          · have ex241 : x241.toInt = f9_0_1.toInt := by rw [← c256.symm.trans c242]
            have g245 : (gi w237 1 (x243.toInt).toNat).toInt ≠ 32 := by have q := g245; simp only [c244] at q; omega
            have g246 : (x243.toInt = x215.toInt ∨ (gi w209 1 (x215.toInt).toNat).toInt = 32) := by have q := g246; simp only [c216, c244] at q; omega
            refine lv_bipush (v := 45) hx hb dX12_sum_22 (by decide) ?_
            refine lv_icmp_ne (tgt := 75) hx hb dX12_sum_24 (by decide) (fun c262 => ?_) (fun c262 => ?_)
            · have c262 : ¬ r235.toInt = (45 : Int) := wk_eqF c262
              refine lv_iconst (v := 1) hx hb dX12_sum_75 (by decide) ?_
              exact tk_zret hC hr rfl hlocks hK ⟨hT, hF, (Or.inr (Or.inr (Or.inl ⟨rfl, ⟨f9_0_1, c256, (show 1 ≤ f9_0_1.toInt by omega), (show f9_0_1.toInt ≤ 400 by omega)⟩, ⟨5, c257, (by decide), (by decide)⟩, ⟨f9_0_18, c258, (show 1 ≤ f9_0_18.toInt by omega), (show f9_0_18.toInt ≤ 60 by omega)⟩, (by simp only [cf2_, c259, cf1_, c258]; omega), (by simp only [cf1_, c258]; omega)⟩)))⟩ hw dX12_sum_76
            · have c262 : r235.toInt = (45 : Int) := wk_eq.mp c262
              exact J27 x243 H locs ls w237 (show 1 ≤ f9_0_1.toInt by omega) (show f9_0_1.toInt ≤ 400 by omega) (show 0 ≤ x243.toInt by omega) (show x243.toInt ≤ 399 by omega) (show 1 ≤ f9_0_18.toInt by omega) (show f9_0_18.toInt ≤ 60 by omega) (show 0 ≤ f9_3_5.toInt by omega) (show f9_3_5.toInt ≤ 300 by omega) (show 3 * f9_3_5.toInt + 11 ≤ 3 * f2_.toInt + 14 * (f9_0_18.toInt - f1_.toInt) by omega) (show f1_.toInt + 1 ≤ f9_0_18.toInt by omega) (show f9_3_5.toInt ≤ 300 by omega)  hw hT hF c256 c244 c257 c258 c259 (lv_sub hl [0] rfl)
          · have ex247 : x247.toInt = f9_0_1.toInt := by rw [← c256.symm.trans c248]
            have g251 : (x249.toInt = x215.toInt ∨ (gi w209 1 (x215.toInt).toNat).toInt = 32) := by have q := g251; simp only [c216, c250] at q; omega
            refine lv_bipush (v := 45) hx hb dX12_sum_22 (by decide) ?_
            refine lv_icmp_ne (tgt := 75) hx hb dX12_sum_24 (by decide) (fun _ => ?_) (fun c => absurd c (by decide))
            refine lv_iconst (v := 1) hx hb dX12_sum_75 (by decide) ?_
            exact tk_zret hC hr rfl hlocks hK ⟨hT, hF, (Or.inr (Or.inr (Or.inl ⟨rfl, ⟨f9_0_1, c256, (show 1 ≤ f9_0_1.toInt by omega), (show f9_0_1.toInt ≤ 400 by omega)⟩, ⟨5, c257, (by decide), (by decide)⟩, ⟨f9_0_18, c258, (show 1 ≤ f9_0_18.toInt by omega), (show f9_0_18.toInt ≤ 60 by omega)⟩, (by simp only [cf2_, c259, cf1_, c258]; omega), (by simp only [cf1_, c258]; omega)⟩)))⟩ hw dX12_sum_76
          · have ex252 : x252.toInt = f9_0_1.toInt := by rw [← c256.symm.trans c253]
            obtain ⟨x260, c261, rx260, tx260⟩ := hT.rdi (lo := 0) (hi := 400) (k := 14) kM_at0 (by decide) rfl
            have g254 : (x260.toInt = x215.toInt ∨ (gi w209 1 (x215.toInt).toNat).toInt = 32) := by have q := g254; simp only [c216, c261] at q; omega
            refine lv_bipush (v := 45) hx hb dX12_sum_22 (by decide) ?_
            refine lv_icmp_ne (tgt := 75) hx hb dX12_sum_24 (by decide) (fun _ => ?_) (fun c => absurd c (by decide))
            refine lv_iconst (v := 1) hx hb dX12_sum_75 (by decide) ?_
            exact tk_zret hC hr rfl hlocks hK ⟨hT, hF, (Or.inr (Or.inr (Or.inl ⟨rfl, ⟨f9_0_1, c256, (show 1 ≤ f9_0_1.toInt by omega), (show f9_0_1.toInt ≤ 400 by omega)⟩, ⟨5, c257, (by decide), (by decide)⟩, ⟨f9_0_18, c258, (show 1 ≤ f9_0_18.toInt by omega), (show f9_0_18.toInt ≤ 60 by omega)⟩, (by simp only [cf2_, c259, cf1_, c258]; omega), (by simp only [cf1_, c258]; omega)⟩)))⟩ hw dX12_sum_76
      · have ex219 : x219.toInt = f9_0_1.toInt := by rw [← c228.symm.trans c220]
        have g223 : (x221.toInt = x205.toInt ∨ (gi w1 1 (x205.toInt).toNat).toInt = 32) := by have q := g223; simp only [c206, c222] at q; omega
        refine lv_bipush (v := 43) hx hb dX12_sum_13 (by decide) ?_
        refine lv_icmp_eq (tgt := 27) hx hb dX12_sum_15 (by decide) (fun c => absurd c (by decide)) (fun _ => ?_)
        refine lv_aload_n hx hb dX12_sum_18 rfl (lv_at hl 0 rfl) ?_
        refine tk_Vi hC hK hw hT hA hE hSR kM_at0 (by decide) rfl (k_X12_see_1 l adK adV dC dI cy ad B (by omega) (by omega) qr s1    w209 H.size hT x221 c222 (show 0 ≤ x221.toInt by omega) (show x221.toInt ≤ 400 by omega)) (cwV 0 hC.2.2.2.2 gX12_sum_X12_see rfl rfl rfl (by decide +kernel) ⟨Nat.le_of_ble_eq_true rfl, Nat.le_of_ble_eq_true rfl⟩) rfl hl.1 rfl (Nat.le_of_ble_eq_true rfl) dX12_sum_19 (fun r263 w265 H locs hp264 hw => ?_)
        obtain ⟨hT, k266, hg283⟩ := hp264
        have hF := hF.tr k266 (by decide)
        have c284 := k266.gi kM_at0 (by decide) c228
        have c285 := k266.gi kM_at0 (by decide) c229
        have c286 := k266.gi kM_at0 (by decide) c230
        have c287 := k266.gi kM_at3 (by decide) c231
        rcases hg283 with ⟨g267, g268, ⟨x269, c270, rx269, tx269⟩, ⟨x271, c272, rx271, tx271⟩, g273, g274⟩ | ⟨rfl, ⟨x275, c276, rx275, tx275⟩, ⟨x277, c278, rx277, tx277⟩, g279⟩ | ⟨rfl, ⟨x280, c281, rx280, tx280⟩, g282⟩
        · have ex269 : x269.toInt = f9_0_1.toInt := by rw [← c284.symm.trans c270]
          have g273 : (gi w265 1 (x271.toInt).toNat).toInt ≠ 32 := by have q := g273; simp only [c272] at q; omega
          have g274 : (x271.toInt = x221.toInt ∨ (gi w209 1 (x221.toInt).toNat).toInt = 32) := by have q := g274; simp only [c222, c272] at q; omega
          refine lv_bipush (v := 45) hx hb dX12_sum_22 (by decide) ?_
          refine lv_icmp_ne (tgt := 75) hx hb dX12_sum_24 (by decide) (fun c290 => ?_) (fun c290 => ?_)
          · have c290 : ¬ r263.toInt = (45 : Int) := wk_eqF c290
            refine lv_iconst (v := 1) hx hb dX12_sum_75 (by decide) ?_
            exact tk_zret hC hr rfl hlocks hK ⟨hT, hF, (Or.inr (Or.inr (Or.inl ⟨rfl, ⟨f9_0_1, c284, (show 1 ≤ f9_0_1.toInt by omega), (show f9_0_1.toInt ≤ 400 by omega)⟩, ⟨5, c285, (by decide), (by decide)⟩, ⟨f9_0_18, c286, (show 1 ≤ f9_0_18.toInt by omega), (show f9_0_18.toInt ≤ 60 by omega)⟩, (by simp only [cf2_, c287, cf1_, c286]; omega), (by simp only [cf1_, c286]; omega)⟩)))⟩ hw dX12_sum_76
          · have c290 : r263.toInt = (45 : Int) := wk_eq.mp c290
            exact J27 x271 H locs ls w265 (show 1 ≤ f9_0_1.toInt by omega) (show f9_0_1.toInt ≤ 400 by omega) (show 0 ≤ x271.toInt by omega) (show x271.toInt ≤ 399 by omega) (show 1 ≤ f9_0_18.toInt by omega) (show f9_0_18.toInt ≤ 60 by omega) (show 0 ≤ f9_3_5.toInt by omega) (show f9_3_5.toInt ≤ 300 by omega) (show 3 * f9_3_5.toInt + 11 ≤ 3 * f2_.toInt + 14 * (f9_0_18.toInt - f1_.toInt) by omega) (show f1_.toInt + 1 ≤ f9_0_18.toInt by omega) (show f9_3_5.toInt ≤ 300 by omega)  hw hT hF c284 c272 c285 c286 c287 (lv_sub hl [0] rfl)
        · have ex275 : x275.toInt = f9_0_1.toInt := by rw [← c284.symm.trans c276]
          have g279 : (x277.toInt = x221.toInt ∨ (gi w209 1 (x221.toInt).toNat).toInt = 32) := by have q := g279; simp only [c222, c278] at q; omega
          refine lv_bipush (v := 45) hx hb dX12_sum_22 (by decide) ?_
          refine lv_icmp_ne (tgt := 75) hx hb dX12_sum_24 (by decide) (fun _ => ?_) (fun c => absurd c (by decide))
          refine lv_iconst (v := 1) hx hb dX12_sum_75 (by decide) ?_
          exact tk_zret hC hr rfl hlocks hK ⟨hT, hF, (Or.inr (Or.inr (Or.inl ⟨rfl, ⟨f9_0_1, c284, (show 1 ≤ f9_0_1.toInt by omega), (show f9_0_1.toInt ≤ 400 by omega)⟩, ⟨5, c285, (by decide), (by decide)⟩, ⟨f9_0_18, c286, (show 1 ≤ f9_0_18.toInt by omega), (show f9_0_18.toInt ≤ 60 by omega)⟩, (by simp only [cf2_, c287, cf1_, c286]; omega), (by simp only [cf1_, c286]; omega)⟩)))⟩ hw dX12_sum_76
        · have ex280 : x280.toInt = f9_0_1.toInt := by rw [← c284.symm.trans c281]
          obtain ⟨x288, c289, rx288, tx288⟩ := hT.rdi (lo := 0) (hi := 400) (k := 14) kM_at0 (by decide) rfl
          have g282 : (x288.toInt = x221.toInt ∨ (gi w209 1 (x221.toInt).toNat).toInt = 32) := by have q := g282; simp only [c222, c289] at q; omega
          refine lv_bipush (v := 45) hx hb dX12_sum_22 (by decide) ?_
          refine lv_icmp_ne (tgt := 75) hx hb dX12_sum_24 (by decide) (fun _ => ?_) (fun c => absurd c (by decide))
          refine lv_iconst (v := 1) hx hb dX12_sum_75 (by decide) ?_
          exact tk_zret hC hr rfl hlocks hK ⟨hT, hF, (Or.inr (Or.inr (Or.inl ⟨rfl, ⟨f9_0_1, c284, (show 1 ≤ f9_0_1.toInt by omega), (show f9_0_1.toInt ≤ 400 by omega)⟩, ⟨5, c285, (by decide), (by decide)⟩, ⟨f9_0_18, c286, (show 1 ≤ f9_0_18.toInt by omega), (show f9_0_18.toInt ≤ 60 by omega)⟩, (by simp only [cf2_, c287, cf1_, c286]; omega), (by simp only [cf1_, c286]; omega)⟩)))⟩ hw dX12_sum_76
      · have ex224 : x224.toInt = f9_0_1.toInt := by rw [← c228.symm.trans c225]
        obtain ⟨x232, c233, rx232, tx232⟩ := hT.rdi (lo := 0) (hi := 400) (k := 14) kM_at0 (by decide) rfl
        have g226 : (x232.toInt = x205.toInt ∨ (gi w1 1 (x205.toInt).toNat).toInt = 32) := by have q := g226; simp only [c206, c233] at q; omega
        refine lv_bipush (v := 43) hx hb dX12_sum_13 (by decide) ?_
        refine lv_icmp_eq (tgt := 27) hx hb dX12_sum_15 (by decide) (fun c => absurd c (by decide)) (fun _ => ?_)
        refine lv_aload_n hx hb dX12_sum_18 rfl (lv_at hl 0 rfl) ?_
        refine tk_Vi hC hK hw hT hA hE hSR kM_at0 (by decide) rfl (k_X12_see_1 l adK adV dC dI cy ad B (by omega) (by omega) qr s1    w209 H.size hT x232 c233 (show 0 ≤ x232.toInt by omega) (show x232.toInt ≤ 400 by omega)) (cwV 0 hC.2.2.2.2 gX12_sum_X12_see rfl rfl rfl (by decide +kernel) ⟨Nat.le_of_ble_eq_true rfl, Nat.le_of_ble_eq_true rfl⟩) rfl hl.1 rfl (Nat.le_of_ble_eq_true rfl) dX12_sum_19 (fun r291 w293 H locs hp292 hw => ?_)
        obtain ⟨hT, k294, hg311⟩ := hp292
        have hF := hF.tr k294 (by decide)
        have c312 := k294.gi kM_at0 (by decide) c228
        have c313 := k294.gi kM_at0 (by decide) c229
        have c314 := k294.gi kM_at0 (by decide) c230
        have c315 := k294.gi kM_at3 (by decide) c231
        rcases hg311 with ⟨g295, g296, ⟨x297, c298, rx297, tx297⟩, ⟨x299, c300, rx299, tx299⟩, g301, g302⟩ | ⟨rfl, ⟨x303, c304, rx303, tx303⟩, ⟨x305, c306, rx305, tx305⟩, g307⟩ | ⟨rfl, ⟨x308, c309, rx308, tx308⟩, g310⟩
        · have ex297 : x297.toInt = f9_0_1.toInt := by rw [← c312.symm.trans c298]
          have g301 : (gi w293 1 (x299.toInt).toNat).toInt ≠ 32 := by have q := g301; simp only [c300] at q; omega
          have g302 : (x299.toInt = x232.toInt ∨ (gi w209 1 (x232.toInt).toNat).toInt = 32) := by have q := g302; simp only [c233, c300] at q; omega
          refine lv_bipush (v := 45) hx hb dX12_sum_22 (by decide) ?_
          refine lv_icmp_ne (tgt := 75) hx hb dX12_sum_24 (by decide) (fun c318 => ?_) (fun c318 => ?_)
          · have c318 : ¬ r291.toInt = (45 : Int) := wk_eqF c318
            refine lv_iconst (v := 1) hx hb dX12_sum_75 (by decide) ?_
            exact tk_zret hC hr rfl hlocks hK ⟨hT, hF, (Or.inr (Or.inr (Or.inl ⟨rfl, ⟨f9_0_1, c312, (show 1 ≤ f9_0_1.toInt by omega), (show f9_0_1.toInt ≤ 400 by omega)⟩, ⟨5, c313, (by decide), (by decide)⟩, ⟨f9_0_18, c314, (show 1 ≤ f9_0_18.toInt by omega), (show f9_0_18.toInt ≤ 60 by omega)⟩, (by simp only [cf2_, c315, cf1_, c314]; omega), (by simp only [cf1_, c314]; omega)⟩)))⟩ hw dX12_sum_76
          · have c318 : r291.toInt = (45 : Int) := wk_eq.mp c318
            exact J27 x299 H locs ls w293 (show 1 ≤ f9_0_1.toInt by omega) (show f9_0_1.toInt ≤ 400 by omega) (show 0 ≤ x299.toInt by omega) (show x299.toInt ≤ 399 by omega) (show 1 ≤ f9_0_18.toInt by omega) (show f9_0_18.toInt ≤ 60 by omega) (show 0 ≤ f9_3_5.toInt by omega) (show f9_3_5.toInt ≤ 300 by omega) (show 3 * f9_3_5.toInt + 11 ≤ 3 * f2_.toInt + 14 * (f9_0_18.toInt - f1_.toInt) by omega) (show f1_.toInt + 1 ≤ f9_0_18.toInt by omega) (show f9_3_5.toInt ≤ 300 by omega)  hw hT hF c312 c300 c313 c314 c315 (lv_sub hl [0] rfl)
        · have ex303 : x303.toInt = f9_0_1.toInt := by rw [← c312.symm.trans c304]
          have g307 : (x305.toInt = x232.toInt ∨ (gi w209 1 (x232.toInt).toNat).toInt = 32) := by have q := g307; simp only [c233, c306] at q; omega
          refine lv_bipush (v := 45) hx hb dX12_sum_22 (by decide) ?_
          refine lv_icmp_ne (tgt := 75) hx hb dX12_sum_24 (by decide) (fun _ => ?_) (fun c => absurd c (by decide))
          refine lv_iconst (v := 1) hx hb dX12_sum_75 (by decide) ?_
          exact tk_zret hC hr rfl hlocks hK ⟨hT, hF, (Or.inr (Or.inr (Or.inl ⟨rfl, ⟨f9_0_1, c312, (show 1 ≤ f9_0_1.toInt by omega), (show f9_0_1.toInt ≤ 400 by omega)⟩, ⟨5, c313, (by decide), (by decide)⟩, ⟨f9_0_18, c314, (show 1 ≤ f9_0_18.toInt by omega), (show f9_0_18.toInt ≤ 60 by omega)⟩, (by simp only [cf2_, c315, cf1_, c314]; omega), (by simp only [cf1_, c314]; omega)⟩)))⟩ hw dX12_sum_76
        · have ex308 : x308.toInt = f9_0_1.toInt := by rw [← c312.symm.trans c309]
          obtain ⟨x316, c317, rx316, tx316⟩ := hT.rdi (lo := 0) (hi := 400) (k := 14) kM_at0 (by decide) rfl
          have g310 : (x316.toInt = x232.toInt ∨ (gi w209 1 (x232.toInt).toNat).toInt = 32) := by have q := g310; simp only [c233, c317] at q; omega
          refine lv_bipush (v := 45) hx hb dX12_sum_22 (by decide) ?_
          refine lv_icmp_ne (tgt := 75) hx hb dX12_sum_24 (by decide) (fun _ => ?_) (fun c => absurd c (by decide))
          refine lv_iconst (v := 1) hx hb dX12_sum_75 (by decide) ?_
          exact tk_zret hC hr rfl hlocks hK ⟨hT, hF, (Or.inr (Or.inr (Or.inr ⟨rfl, ⟨f9_0_1, c312, (show 0 ≤ f9_0_1.toInt by omega), (show f9_0_1.toInt ≤ 400 by omega)⟩, ⟨5, c313, (by decide), (by decide)⟩, ⟨f9_0_18, c314, (show 1 ≤ f9_0_18.toInt by omega), (show f9_0_18.toInt ≤ 60 by omega)⟩, (by simp only [cf2_, c315, cf1_, c314]; omega), (by simp only [cf1_, c314]; omega)⟩)))⟩ hw dX12_sum_76
  refine lv_aload_n hx hb dX12_sum_0 rfl (lv_at hl 0 rfl) ?_
  refine tk_Vi hC hK hw hT hA hE hSR kM_at0 (by decide) rfl (k_X12_term_6 l adK adV dC dI cy ad B (by omega) (by omega) qr s1    w0 s.heap.size hT cf0_ f1_ cf1_ (show 0 ≤ f1_.toInt by omega) (show f1_.toInt ≤ 60 by omega) f2_ cf2_ (show 0 ≤ f2_.toInt by omega) (show f2_.toInt ≤ 400 by omega) (show 3 * f2_.toInt ≤ 14 * f1_.toInt + 60 by omega) (show f2_.toInt ≤ 300 by omega)) (cwV 0 hC.2.2.2.2 gX12_sum_X12_term rfl rfl rfl (by decide +kernel) ⟨Nat.le_of_ble_eq_true rfl, Nat.le_of_ble_eq_true rfl⟩) rfl hl.1 rfl (Nat.le_of_ble_eq_true rfl) dX12_sum_1 (fun r319 w321 H locs hp320 hw => ?_)
  obtain ⟨hT, k322, hg351⟩ := hp320
  have hF := hF.tr k322 (by decide)
  have c352 := k322.gi kM_at0 (by decide) cf0_
  rcases hg351 with ⟨rfl, ⟨x323, c324, rx323, tx323⟩, ⟨x325, c326, rx325, tx325⟩, ⟨x327, c328, rx327, tx327⟩⟩ | ⟨rfl, ⟨x329, c330, rx329, tx329⟩, ⟨x331, c332, rx331, tx331⟩, ⟨x333, c334, rx333, tx333⟩⟩ | ⟨rfl, ⟨x335, c336, rx335, tx335⟩, ⟨x337, c338, rx337, tx337⟩, ⟨x339, c340, rx339, tx339⟩, g341, g342⟩ | ⟨rfl, ⟨x343, c344, rx343, tx343⟩, ⟨x345, c346, rx345, tx345⟩, ⟨x347, c348, rx347, tx347⟩, g349, g350⟩
  · have ex327 : x327.toInt = (5 : Int) := by rw [show x327 = 5 from c328.symm.trans c352]; decide
    obtain ⟨x353, c354, rx353, tx353⟩ := hT.rda (lo := 0) (hi := 400) (i := 5) kM_at3 rfl rfl (by decide)
    obtain ⟨x355, c356, rx355, tx355⟩ := hT.rdi (lo := 0) (hi := 60) (k := 18) kM_at0 (by decide) rfl
    refine lv_if_ne (tgt := 9) hx hb dX12_sum_4 (by decide) (fun c => absurd (by decide) c) (fun _ => ?_)
    refine lv_iconst (v := 0) hx hb dX12_sum_7 (by decide) ?_
    exact tk_zret hC hr rfl hlocks hK ⟨hT, hF, (Or.inl ⟨rfl, ⟨x323, c324, (show 1 ≤ x323.toInt by omega), (show x323.toInt ≤ 400 by omega)⟩, ⟨x325, c326, (show 1 ≤ x325.toInt by omega), (show x325.toInt ≤ 3205 by omega)⟩, ⟨5, c352, (by decide), (by decide)⟩⟩)⟩ hw dX12_sum_8
  · have ex333 : x333.toInt = (5 : Int) := by rw [show x333 = 5 from c334.symm.trans c352]; decide
    obtain ⟨x357, c358, rx357, tx357⟩ := hT.rda (lo := 0) (hi := 400) (i := 5) kM_at3 rfl rfl (by decide)
    obtain ⟨x359, c360, rx359, tx359⟩ := hT.rdi (lo := 0) (hi := 60) (k := 18) kM_at0 (by decide) rfl
    refine lv_if_ne (tgt := 9) hx hb dX12_sum_4 (by decide) (fun c => absurd (by decide) c) (fun _ => ?_)
    refine lv_iconst (v := 0) hx hb dX12_sum_7 (by decide) ?_
    exact tk_zret hC hr rfl hlocks hK ⟨hT, hF, (Or.inr (Or.inl ⟨rfl, ⟨x329, c330, (show 0 ≤ x329.toInt by omega), (show x329.toInt ≤ 400 by omega)⟩, ⟨x331, c332, (show 1 ≤ x331.toInt by omega), (show x331.toInt ≤ 3205 by omega)⟩, ⟨5, c352, (by decide), (by decide)⟩⟩))⟩ hw dX12_sum_8
  · have ex337 : x337.toInt = (5 : Int) := by rw [show x337 = 5 from c338.symm.trans c352]; decide
    obtain ⟨x361, c362, rx361, tx361⟩ := hT.rda (lo := 0) (hi := 400) (i := 5) kM_at3 rfl rfl (by decide)
    have g341 : 3 * x361.toInt + 11 ≤ 3 * f2_.toInt + 14 * (x339.toInt - f1_.toInt) := by have q := g341; simp only [cf2_, c362, cf1_, c340] at q; omega
    have g342 : f1_.toInt + 1 ≤ x339.toInt := by have q := g342; simp only [cf1_, c340] at q; omega
    refine lv_if_ne (tgt := 9) hx hb dX12_sum_4 (by decide) (fun _ => ?_) (fun c => absurd c (by decide))
    exact L9 ((60 - x339.toInt).toNat + 1) x335 x339 x361 H locs ls w321 (show 0 ≤ x335.toInt by omega) (show x335.toInt ≤ 400 by omega) (show 1 ≤ x339.toInt by omega) (show x339.toInt ≤ 60 by omega) (show 0 ≤ x361.toInt by omega) (show x361.toInt ≤ 300 by omega) (show 3 * x361.toInt + 11 ≤ 3 * f2_.toInt + 14 * (x339.toInt - f1_.toInt) by omega) (show f1_.toInt + 1 ≤ x339.toInt by omega) (show x361.toInt ≤ 300 by omega) (Nat.lt_succ_self _) hw hT hF c336 c352 c340 c362 (lv_sub hl [0] rfl)
  · have ex345 : x345.toInt = (5 : Int) := by rw [show x345 = 5 from c346.symm.trans c352]; decide
    obtain ⟨x363, c364, rx363, tx363⟩ := hT.rda (lo := 0) (hi := 400) (i := 5) kM_at3 rfl rfl (by decide)
    have g349 : 3 * x363.toInt + 11 ≤ 3 * f2_.toInt + 14 * (x347.toInt - f1_.toInt) := by have q := g349; simp only [cf2_, c364, cf1_, c348] at q; omega
    have g350 : f1_.toInt + 1 ≤ x347.toInt := by have q := g350; simp only [cf1_, c348] at q; omega
    refine lv_if_ne (tgt := 9) hx hb dX12_sum_4 (by decide) (fun _ => ?_) (fun c => absurd c (by decide))
    exact L9 ((60 - x347.toInt).toNat + 1) x343 x347 x363 H locs ls w321 (show 0 ≤ x343.toInt by omega) (show x343.toInt ≤ 400 by omega) (show 1 ≤ x347.toInt by omega) (show x347.toInt ≤ 60 by omega) (show 0 ≤ x363.toInt by omega) (show x363.toInt ≤ 300 by omega) (show 3 * x363.toInt + 11 ≤ 3 * f2_.toInt + 14 * (x347.toInt - f1_.toInt) by omega) (show f1_.toInt + 1 ≤ x347.toInt by omega) (show x363.toInt ≤ 300 by omega) (Nat.lt_succ_self _) hw hT hF c344 c352 c348 c364 (lv_sub hl [0] rfl)
abbrev P_X12_settles_18 (ad : Nat → Nat) (cy : Nat → ClassId) (B : Int) (qr : Nat) (s1 : Int)  (w0 : va_W) : va_W → Prop := fun u => TW ksM ad cy B qr 12 u ∧ FE ksM [(12, 19, 19), (12, 22, 22), (61, 0, 2400), (62, 0, 7)] w0 u ∧ (((∃ y : Int32, gi u 0 17 = y ∧ 5 ≤ y.toInt ∧ y.toInt ≤ 5) ∧ (∃ y : Int32, gi u 0 19 = y ∧ (-60) ≤ y.toInt ∧ y.toInt ≤ 10) ∧ (∃ y : Int32, gi u 0 22 = y ∧ 0 ≤ y.toInt ∧ y.toInt ≤ 390) ∧ ((gi u 3 5).toInt + (gi u 0 22).toInt = (gi w0 3 5).toInt + (gi w0 0 22).toInt) ∧ ((gi u 0 22).toInt ≤ (gi w0 0 22).toInt) ∧ ((gi u 0 22).toInt + (gi w0 0 19).toInt ≤ (gi w0 0 22).toInt + (gi u 0 19).toInt) ∧ ((gi u 0 22).toInt ≤ (gi u 0 19).toInt + (gi w0 0 18).toInt) ∧ ((gi u 0 22).toInt ≤ 390) ∧ ((gi u 3 5).toInt ≤ 390) ∧ (brkN w0 ((gi u 0 22).toInt).toNat = brkN w0 ((gi w0 0 22).toInt).toNat)))
set_option maxHeartbeats 4000000 in
set_option maxRecDepth 100000 in
theorem k_X12_settles_18 (l : Launch) (adK adV : Nat → Nat) (dC : Nat → ClassId) (dI : Nat → Nat → Nat) (cy : Nat → ClassId) (ad : Nat → Nat) (B : Int) (hB0 : 100000 ≤ B) (hB1 : B ≤ 1073741824) (qr : Nat) (s1 : Int)   (w0 : va_W) (sz : Nat) (hT : TW ksM ad cy B qr 12 w0) (cf0_ : gi w0 0 17 = 5) (f1_ : Int32) (cf1_ : gi w0 0 18 = f1_) (rf1_ : 0 ≤ f1_.toInt) (tf1_ : f1_.toInt ≤ 60) (f2_ : Int32) (cf2_ : gi w0 0 19 = f2_) (rf2_ : (-100) ≤ f2_.toInt) (tf2_ : f2_.toInt ≤ 10) (f3_ : Int32) (cf3_ : gi w0 0 22 = f3_) (rf3_ : 0 ≤ f3_.toInt) (tf3_ : f3_.toInt ≤ 400) (f4_ : Int32) (cf4_ : gi w0 3 5 = f4_) (rf4_ : 0 ≤ f4_.toInt) (tf4_ : f4_.toInt ≤ 400) (pr0_ : f4_.toInt + f3_.toInt ≤ 390) (pr1_ : f3_.toInt ≤ f2_.toInt + f1_.toInt) (pr2_ : f4_.toInt ≤ 390) (pr3_ : f3_.toInt ≤ 390) : Met l yX12_settles wsX12_settles ({ frames := 2, cells := 0, slots := 0, locals := 34 }) (va_Pc [.ref (ad 0), .int 2] (wpreS adK adV dC dI cy sz w0)) (va_Qv (P_X12_settles_18 ad cy B qr s1  w0) (fun u : va_W => wpost dC dI cy (va_A w0 sz) u) (va_A w0 sz)) 0 0 (va_A w0 sz) := by
  refine Met.ofW (cc := cX12_settles) (maxL := 2) (ret := none) (by decide) rfl ?_
  intro p e s m args below meth c s₁ Bk hml hv
  obtain ⟨rfl, ⟨hsz, hP, hK, hD0⟩, hE, hSR⟩ := hv
  have hx := Bk.exec
  have hb := Bk.bytes
  have hr := Bk.returns
  have hlocks := Bk.notSynchronized
  have hC : CallFix p m c cX12_settles 2 s _ wsX12_settles RX12 := ⟨hx, hb, hml, findClass_of_methodNamed Bk.named, atoms_spec (ws := wsX12_settles) Bk.pre⟩
  subst hsz
  have hD := hD0.self (sz := s.heap.size)
  generalize hAe : va_A w0 s.heap.size = A at hD hE ⊢
  have hA : ∀ q : Nat, s.heap.size ≤ q → A q := fun q h => by rw [← hAe]; exact Or.inr h
  have hw : Wd dC dI A s.heap s.heap [] w0 := ⟨hP, hD, va_S.rf⟩
  have hF : FE ksM [(12, 19, 19), (12, 22, 22), (61, 0, 2400), (62, 0, 7)] w0 w0 := FE.rf
  have hl := lv_entry ([.ref (ad 0), .int 2]) (n := 2) (Nat.le_of_ble_eq_true rfl)
  rw [lg_entry_eq]
  generalize (lg_sl ([.ref (ad 0), .int 2]) ++ List.replicate (2 - (lg_sl ([.ref (ad 0), .int 2])).length) Slot.unset).toArray = ls at hl ⊢
  have hl : lv_has ls 2 [(0, .ref (ad 0)), (1, .int 2)] := hl
  generalize hloc : ([] : List Loc) = locs at hw ⊢
  have hinX12 : ∀ w ∈ u_ws RX12 TX12 42, w ∈ wsX12_settles := fun _ h => List.mem_cons_of_mem _ (List.mem_append_right _ (h))
  have J76 : ∀ (f76_0_19 : Int32) (f76_0_22 : Int32) (f76_3_5 : Int32) (H : Heap) (locs : List Loc) (ls : Array Slot) (w1 : va_W), 0 ≤ f1_.toInt → f1_.toInt ≤ 60 → (-60) ≤ f76_0_19.toInt → f76_0_19.toInt ≤ 10 → 0 ≤ f76_0_22.toInt → f76_0_22.toInt ≤ 390 → 0 ≤ f76_3_5.toInt → f76_3_5.toInt ≤ 390 → (f76_3_5.toInt + f76_0_22.toInt = f4_.toInt + f3_.toInt) → (f76_0_22.toInt ≤ f3_.toInt) → (f76_0_22.toInt + f2_.toInt ≤ f3_.toInt + f76_0_19.toInt) → (f76_0_22.toInt ≤ f76_0_19.toInt + f1_.toInt) → (f76_3_5.toInt ≤ 390) → (f76_0_22.toInt ≤ 390) → (-60 ≤ f76_0_19.toInt) → (brkN w0 (f76_0_22.toInt).toNat = brkN w0 (f3_.toInt).toNat) → Wd dC dI A s.heap H locs w1 → TW ksM ad cy B qr 12 w1 → FE ksM [(12, 19, 19), (12, 22, 22), (61, 0, 2400), (62, 0, 7)] w0 w1 → gi w1 0 17 = 5 → gi w1 0 18 = f1_ → gi w1 0 19 = f76_0_19 → gi w1 0 22 = f76_0_22 → gi w1 3 5 = f76_3_5 → lv_has ls 2 [(0, .ref (ad 0)), (1, .int 2)] → W p l e ({ frames := 2, cells := 0, slots := 0, locals := 34 }) s m (List.toArray [.ref (ad 0), .int 2]) below meth c H locs 0 0 (MQ below (va_Qv (P_X12_settles_18 ad cy B qr s1  w0) (fun u : va_W => wpost dC dI cy A u) A) (List.toArray [.ref (ad 0), .int 2]) s 0 0 A) (F0 m 76 ls []) := by
    intro f76_0_19 f76_0_22 f76_3_5 H locs ls w1 r3 t4 r6 t7 r9 t10 r12 t13 hcr76_0 hcr76_1 hcr76_2 hcr76_3 hcr76_4 hcr76_5 hcr76_6 hcr76_7 hw hT hF c2 c5 c8 c11 c14 hl
    exact tk_vret hC hr hlocks hK ⟨hT, hF, ⟨⟨5, c2, (by decide), (by decide)⟩, ⟨f76_0_19, c8, (show (-60) ≤ f76_0_19.toInt by omega), (show f76_0_19.toInt ≤ 10 by omega)⟩, ⟨f76_0_22, c11, (show 0 ≤ f76_0_22.toInt by omega), (show f76_0_22.toInt ≤ 390 by omega)⟩, (by simp only [cf4_, c14, cf3_, c11]; omega), (by simp only [cf3_, c11]; omega), (by simp only [cf2_, c8, cf3_, c11]; omega), (by simp only [c8, cf1_, c11]; omega), (by simp only [c11]; omega), (by simp only [c14]; omega), (by simp only [cf3_, c11]; omega)⟩⟩ hw dX12_settles_76
  have L0 : ∀ (n0 : Nat) (f0_0_19 : Int32) (f0_0_22 : Int32) (f0_3_5 : Int32) (H : Heap) (locs : List Loc) (ls : Array Slot) (w15 : va_W), 0 ≤ f1_.toInt → f1_.toInt ≤ 60 → (-60) ≤ f0_0_19.toInt → f0_0_19.toInt ≤ 10 → 0 ≤ f0_0_22.toInt → f0_0_22.toInt ≤ 390 → 0 ≤ f0_3_5.toInt → f0_3_5.toInt ≤ 390 → (f0_3_5.toInt + f0_0_22.toInt = f4_.toInt + f3_.toInt) → (f0_0_22.toInt ≤ f3_.toInt) → (f0_0_22.toInt + f2_.toInt ≤ f3_.toInt + f0_0_19.toInt) → (f0_0_22.toInt ≤ f0_0_19.toInt + f1_.toInt) → (f0_3_5.toInt ≤ 390) → (f0_0_22.toInt ≤ 390) → (-60 ≤ f0_0_19.toInt) → (brkN w0 (f0_0_22.toInt).toNat = brkN w0 (f3_.toInt).toNat) → (f0_0_22.toInt - 0).toNat < n0 → Wd dC dI A s.heap H locs w15 → TW ksM ad cy B qr 12 w15 → FE ksM [(12, 19, 19), (12, 22, 22), (61, 0, 2400), (62, 0, 7)] w0 w15 → gi w15 0 17 = 5 → gi w15 0 18 = f1_ → gi w15 0 19 = f0_0_19 → gi w15 0 22 = f0_0_22 → gi w15 3 5 = f0_3_5 → lv_has ls 2 [(0, .ref (ad 0)), (1, .int 2)] → W p l e ({ frames := 2, cells := 0, slots := 0, locals := 34 }) s m (List.toArray [.ref (ad 0), .int 2]) below meth c H locs 0 0 (MQ below (va_Qv (P_X12_settles_18 ad cy B qr s1  w0) (fun u : va_W => wpost dC dI cy A u) A) (List.toArray [.ref (ad 0), .int 2]) s 0 0 A) (F0 m 0 ls []) := by
    intro n0
    induction n0 with
    | zero => intro f0_0_19 f0_0_22 f0_3_5 H locs ls w15 r17 t18 r20 t21 r23 t24 r26 t27 hcr0_0 hcr0_1 hcr0_2 hcr0_3 hcr0_4 hcr0_5 hcr0_6 hcr0_7 hm0 hw hT hF c16 c19 c22 c25 c28 hl; omega
    | succ n0 ih0 =>
      intro f0_0_19 f0_0_22 f0_3_5 H locs ls w15 r17 t18 r20 t21 r23 t24 r26 t27 hcr0_0 hcr0_1 hcr0_2 hcr0_3 hcr0_4 hcr0_5 hcr0_6 hcr0_7 hm0 hw hT hF c16 c19 c22 c25 c28 hl
      refine lv_aload_n hx hb dX12_settles_0 rfl (lv_at hl 0 rfl) ?_
      refine tk_geti hC hK hw hT hinX12 kM_at0 (by decide) rfl 22 (by decide) (List.mem_of_getElem? (i := 1) rfl) rfl rfl dX12_settles_1 (fun x29 c30 rx29 tx29 => ?_)
      refine wk_top f0_0_22 (c30.symm.trans c25) ?_
      refine lv_if_le (tgt := 76) hx hb dX12_settles_4 (by decide) (fun c31 => ?_) (fun c31 => ?_)
      · have c31 : f0_0_22.toInt ≤ (0 : Int) := wk_le.mp c31
        exact J76 f0_0_19 f0_0_22 f0_3_5 H locs ls w15 (show 0 ≤ f1_.toInt by omega) (show f1_.toInt ≤ 60 by omega) (show (-60) ≤ f0_0_19.toInt by omega) (show f0_0_19.toInt ≤ 10 by omega) (show 0 ≤ f0_0_22.toInt by omega) (show f0_0_22.toInt ≤ 390 by omega) (show 0 ≤ f0_3_5.toInt by omega) (show f0_3_5.toInt ≤ 390 by omega) (show f0_3_5.toInt + f0_0_22.toInt = f4_.toInt + f3_.toInt by omega) (show f0_0_22.toInt ≤ f3_.toInt by omega) (show f0_0_22.toInt + f2_.toInt ≤ f3_.toInt + f0_0_19.toInt by omega) (show f0_0_22.toInt ≤ f0_0_19.toInt + f1_.toInt by omega) (show f0_3_5.toInt ≤ 390 by omega) (show f0_0_22.toInt ≤ 390 by omega) (show -60 ≤ f0_0_19.toInt by omega) (show brkN w0 (f0_0_22.toInt).toNat = brkN w0 (f3_.toInt).toNat from hcr0_7)  hw hT hF c16 c19 c22 c25 c28 (lv_sub hl [0, 1] rfl)
      · have c31 : (0 : Int) < f0_0_22.toInt := wk_leF c31
        refine lv_aload_n hx hb dX12_settles_7 rfl (lv_at hl 0 rfl) ?_
        refine tk_getA hC hK hw hT hinX12 kM_at0 (by decide) rfl 21 (by decide) (List.mem_of_getElem? (i := 2) rfl) rfl rfl dX12_settles_8 ?_
        refine lv_aload_n hx hb dX12_settles_11 rfl (lv_at hl 0 rfl) ?_
        refine tk_geti hC hK hw hT hinX12 kM_at0 (by decide) rfl 22 (by decide) (List.mem_of_getElem? (i := 1) rfl) rfl rfl dX12_settles_12 (fun x32 c33 rx32 tx32 => ?_)
        refine wk_top f0_0_22 (c33.symm.trans c25) ?_
        refine lv_iconst (v := 1) hx hb dX12_settles_15 (by decide) ?_
        refine lv_isub hx hb dX12_settles_16 ?_
        refine lv_topi (fun x34 ex34 => ?_)
        have ex34 : x34.toInt = f0_0_22.toInt - (1 : Int) := by rw [ex34]; exact wk_sub (show (-2147483648) ≤ f0_0_22.toInt - (1 : Int) by omega) (show f0_0_22.toInt - (1 : Int) ≤ 2147483647 by omega)
        refine tk_iald hC hK hw hT kM_at9 rfl rfl (show 0 ≤ x34.toInt by omega) (show x34.toInt < 400 by omega) dX12_settles_17 (fun x35 c36 rx35 tx35 => ?_)
        have c36 : gi w15 9 (1 * f0_0_22.toInt + -1).toNat = x35 := (congrArg (gi w15 9) (congrArg Int.toNat (show 1 * f0_0_22.toInt + -1 = x34.toInt by omega))).trans c36
        refine tk_Si hC hK hw hT hA hE hSR (k_X12_strength_1 l adK adV dC dI cy ad B (by omega) (by omega) qr s1   x35 w15 H.size hT ) (va_cwS 1 hC.2.2.2.2 gX12_settles_X12_strength rfl rfl rfl (by decide +kernel) ⟨Nat.le_of_ble_eq_true rfl, Nat.le_of_ble_eq_true rfl⟩) rfl hl.1 rfl (Nat.le_of_ble_eq_true rfl) dX12_settles_18 (fun r37 w39 H locs hp38 hw => ?_)
        obtain ⟨rfl, hg47⟩ := hp38
        rcases hg47 with rfl | ⟨rfl, g41, g42⟩ | ⟨rfl, g43, g44⟩ | ⟨rfl, g45, g46⟩
        · refine lv_iload_n hx hb dX12_settles_21 rfl (lv_at hl 1 rfl) ?_
          refine lv_icmp_lt (tgt := 76) hx hb dX12_settles_22 (by decide) (fun _ => ?_) (fun c => absurd (by decide) c)
          exact J76 f0_0_19 f0_0_22 f0_3_5 H locs ls w15 (show 0 ≤ f1_.toInt by omega) (show f1_.toInt ≤ 60 by omega) (show (-60) ≤ f0_0_19.toInt by omega) (show f0_0_19.toInt ≤ 10 by omega) (show 0 ≤ f0_0_22.toInt by omega) (show f0_0_22.toInt ≤ 390 by omega) (show 0 ≤ f0_3_5.toInt by omega) (show f0_3_5.toInt ≤ 390 by omega) (show f0_3_5.toInt + f0_0_22.toInt = f4_.toInt + f3_.toInt by omega) (show f0_0_22.toInt ≤ f3_.toInt by omega) (show f0_0_22.toInt + f2_.toInt ≤ f3_.toInt + f0_0_19.toInt by omega) (show f0_0_22.toInt ≤ f0_0_19.toInt + f1_.toInt by omega) (show f0_3_5.toInt ≤ 390 by omega) (show f0_0_22.toInt ≤ 390 by omega) (show -60 ≤ f0_0_19.toInt by omega) (show brkN w0 (f0_0_22.toInt).toNat = brkN w0 (f3_.toInt).toNat from hcr0_7)  hw hT hF c16 c19 c22 c25 c28 (lv_sub hl [0, 1] rfl)
        · refine lv_iload_n hx hb dX12_settles_21 rfl (lv_at hl 1 rfl) ?_
          refine lv_icmp_lt (tgt := 76) hx hb dX12_settles_22 (by decide) (fun _ => ?_) (fun c => absurd (by decide) c)
          exact J76 f0_0_19 f0_0_22 f0_3_5 H locs ls w15 (show 0 ≤ f1_.toInt by omega) (show f1_.toInt ≤ 60 by omega) (show (-60) ≤ f0_0_19.toInt by omega) (show f0_0_19.toInt ≤ 10 by omega) (show 0 ≤ f0_0_22.toInt by omega) (show f0_0_22.toInt ≤ 390 by omega) (show 0 ≤ f0_3_5.toInt by omega) (show f0_3_5.toInt ≤ 390 by omega) (show f0_3_5.toInt + f0_0_22.toInt = f4_.toInt + f3_.toInt by omega) (show f0_0_22.toInt ≤ f3_.toInt by omega) (show f0_0_22.toInt + f2_.toInt ≤ f3_.toInt + f0_0_19.toInt by omega) (show f0_0_22.toInt ≤ f0_0_19.toInt + f1_.toInt by omega) (show f0_3_5.toInt ≤ 390 by omega) (show f0_0_22.toInt ≤ 390 by omega) (show -60 ≤ f0_0_19.toInt by omega) (show brkN w0 (f0_0_22.toInt).toNat = brkN w0 (f3_.toInt).toNat from hcr0_7)  hw hT hF c16 c19 c22 c25 c28 (lv_sub hl [0, 1] rfl)
        · refine lv_iload_n hx hb dX12_settles_21 rfl (lv_at hl 1 rfl) ?_
          refine lv_icmp_lt (tgt := 76) hx hb dX12_settles_22 (by decide) (fun c => absurd c (by decide)) (fun _ => ?_)
          refine lv_aload_n hx hb dX12_settles_25 rfl (lv_at hl 0 rfl) ?_
          refine lv_dup hx hb dX12_settles_26 rfl ?_
          refine tk_geti hC hK hw hT hinX12 kM_at0 (by decide) rfl 22 (by decide) (List.mem_of_getElem? (i := 1) rfl) rfl rfl dX12_settles_27 (fun x48 c49 rx48 tx48 => ?_)
          refine wk_top f0_0_22 (c49.symm.trans c25) ?_
          refine lv_iconst (v := 1) hx hb dX12_settles_30 (by decide) ?_
          refine lv_isub hx hb dX12_settles_31 ?_
          refine lv_topi (fun x50 ex50 => ?_)
          have ex50 : x50.toInt = f0_0_22.toInt - (1 : Int) := by rw [ex50]; exact wk_sub (show (-2147483648) ≤ f0_0_22.toInt - (1 : Int) by omega) (show f0_0_22.toInt - (1 : Int) ≤ 2147483647 by omega)
          refine tk_puti hC hK hw hT hinX12 tyX12_ok nmX12 kM_at0 (by decide) rfl rfl 22 (by decide) (List.mem_of_getElem? (i := 1) rfl) rfl rfl rfl rfl (show 0 ≤ x50.toInt by omega) (show x50.toInt ≤ 400 by omega) dX12_settles_32 (fun H locs w51 hw hT k53 c52 => ?_)
          have hF := hF.put kM_at0 (k := 22) (by decide) k53
          have c54 := k53.gi (Or.inr (by decide)) c16
          have c55 := k53.gi (Or.inr (by decide)) c19
          have c56 := k53.gi (Or.inr (by decide)) c22
          have c57 := k53.gi (Or.inr (by decide)) c28
          have c58 := k53.gi (Or.inl (tk_ne kM_at9 kM_at0 (by decide))) c36
          refine lv_aload_n hx hb dX12_settles_35 rfl (lv_at hl 0 rfl) ?_
          refine lv_aload_n hx hb dX12_settles_36 rfl (lv_at hl 0 rfl) ?_
          refine tk_getA hC hK hw hT hinX12 kM_at0 (by decide) rfl 21 (by decide) (List.mem_of_getElem? (i := 2) rfl) rfl rfl dX12_settles_37 ?_
          refine lv_aload_n hx hb dX12_settles_40 rfl (lv_at hl 0 rfl) ?_
          refine tk_geti hC hK hw hT hinX12 kM_at0 (by decide) rfl 22 (by decide) (List.mem_of_getElem? (i := 1) rfl) rfl rfl dX12_settles_41 (fun x59 c60 rx59 tx59 => ?_)
          refine wk_top x50 (c60.symm.trans c52) ?_
          refine tk_iald hC hK hw hT kM_at9 rfl rfl (show 0 ≤ x50.toInt by omega) (show x50.toInt < 400 by omega) dX12_settles_44 (fun x61 c62 rx61 tx61 => ?_)
          have c62 : gi w51 9 (1 * f0_0_22.toInt + -1).toNat = x61 := (congrArg (gi w51 9) (congrArg Int.toNat (show 1 * f0_0_22.toInt + -1 = x50.toInt by omega))).trans c62
          refine wk_top x35 (c62.symm.trans c58) ?_
          refine lv_iconst (v := 0) hx hb dX12_settles_45 (by decide) ?_
          obtain rfl : x35 = 12 := wk_eq.mpr (show x35.toInt = 12 by omega)
          refine tk_Vv hC hK hw hT hA hE hSR kM_at0 (by decide) rfl (k_X12_puts_6 l adK adV dC dI cy ad B (by omega) (by omega) qr s1   12 (by decide) (by decide) 0 w51 H.size hT c54 f0_3_5 c57 (show 0 ≤ f0_3_5.toInt by omega) (show f0_3_5.toInt ≤ 400 by omega) (show f0_3_5.toInt ≤ 399 by omega)) (cwV 2 hC.2.2.2.2 gX12_settles_X12_puts rfl rfl rfl (by decide +kernel) ⟨Nat.le_of_ble_eq_true rfl, Nat.le_of_ble_eq_true rfl⟩) rfl hl.1 rfl (Nat.le_of_ble_eq_true rfl) dX12_settles_46 (fun w65 H locs hp64 hw => ?_)
          obtain ⟨hT, k66, hg70⟩ := hp64
          have hF := hF.tr k66 (by decide)
          have c71 := k66.gi kM_at0 (by decide) c54
          have c72 := k66.gi kM_at0 (by decide) c55
          have c73 := k66.gi kM_at0 (by decide) c56
          have c74 := k66.gi kM_at9 rfl c58
          have c75 := k66.gi kM_at0 (by decide) c52
          obtain ⟨⟨x67, c68, rx67, tx67⟩, g69⟩ := hg70
          have ex67 : x67.toInt = (5 : Int) := by rw [show x67 = 5 from c68.symm.trans c71]; decide
          obtain ⟨x76, c77, rx76, tx76⟩ := hT.rda (lo := 0) (hi := 400) (i := 5) kM_at3 rfl rfl (by decide)
          have g69 : x76.toInt = f0_3_5.toInt + 1 := by have q := g69; simp only [c57, c77] at q; omega
          refine lv_aload_n hx hb dX12_settles_49 rfl (lv_at hl 0 rfl) ?_
          refine tk_getA hC hK hw hT hinX12 kM_at0 (by decide) rfl 21 (by decide) (List.mem_of_getElem? (i := 2) rfl) rfl rfl dX12_settles_50 ?_
          refine lv_aload_n hx hb dX12_settles_53 rfl (lv_at hl 0 rfl) ?_
          refine tk_geti hC hK hw hT hinX12 kM_at0 (by decide) rfl 22 (by decide) (List.mem_of_getElem? (i := 1) rfl) rfl rfl dX12_settles_54 (fun x78 c79 rx78 tx78 => ?_)
          refine wk_top x50 (c79.symm.trans c75) ?_
          refine tk_iald hC hK hw hT kM_at9 rfl rfl (show 0 ≤ x50.toInt by omega) (show x50.toInt < 400 by omega) dX12_settles_57 (fun x80 c81 rx80 tx80 => ?_)
          have c81 : gi w65 9 (1 * f0_0_22.toInt + -1).toNat = x80 := (congrArg (gi w65 9) (congrArg Int.toNat (show 1 * f0_0_22.toInt + -1 = x50.toInt by omega))).trans c81
          refine wk_top 12 (c81.symm.trans c74) ?_
          refine lv_bipush (v := 11) hx hb dX12_settles_58 (by decide) ?_
          refine lv_icmp_ne (tgt := 0) hx hb dX12_settles_60 (by decide) (fun _ => ?_) (fun c => absurd c (by decide))
          exact ih0 f0_0_19 x50 x76 H locs ls w65 (show 0 ≤ f1_.toInt by omega) (show f1_.toInt ≤ 60 by omega) (show (-60) ≤ f0_0_19.toInt by omega) (show f0_0_19.toInt ≤ 10 by omega) (show 0 ≤ x50.toInt by omega) (show x50.toInt ≤ 390 by omega) (show 0 ≤ x76.toInt by omega) (show x76.toInt ≤ 390 by omega) (show x76.toInt + x50.toInt = f4_.toInt + f3_.toInt by omega) (show x50.toInt ≤ f3_.toInt by omega) (show x50.toInt + f2_.toInt ≤ f3_.toInt + f0_0_19.toInt by omega) (show x50.toInt ≤ f0_0_19.toInt + f1_.toInt by omega) (show x76.toInt ≤ 390 by omega) (show x50.toInt ≤ 390 by omega) (show -60 ≤ f0_0_19.toInt by omega) (show brkN w0 (x50.toInt).toNat = brkN w0 (f3_.toInt).toNat from ((brk_step (by omega) (show f0_0_22.toInt = x50.toInt + 1 by omega) (show ¬ (gi w0 9 (x50.toInt).toNat).toInt = 91 by first | (rw [show (x50.toInt) = 1 * f0_0_22.toInt + -1 by omega, ← hF.gi kM_at9 rfl rfl, c74]; omega) | (rw [show (x50.toInt) = 1 * f0_0_22.toInt + -1 by omega, ← hF.gi kM_at9 rfl rfl, c74]; decide))).trans hcr0_7)) (show (x50.toInt - 0).toNat < n0 by omega) hw hT hF c71 c72 c73 c75 c77 (lv_sub hl [0, 1] rfl)
        · refine lv_iload_n hx hb dX12_settles_21 rfl (lv_at hl 1 rfl) ?_
          refine lv_icmp_lt (tgt := 76) hx hb dX12_settles_22 (by decide) (fun c => absurd c (by decide)) (fun _ => ?_)
          refine lv_aload_n hx hb dX12_settles_25 rfl (lv_at hl 0 rfl) ?_
          refine lv_dup hx hb dX12_settles_26 rfl ?_
          refine tk_geti hC hK hw hT hinX12 kM_at0 (by decide) rfl 22 (by decide) (List.mem_of_getElem? (i := 1) rfl) rfl rfl dX12_settles_27 (fun x82 c83 rx82 tx82 => ?_)
          refine wk_top f0_0_22 (c83.symm.trans c25) ?_
          refine lv_iconst (v := 1) hx hb dX12_settles_30 (by decide) ?_
          refine lv_isub hx hb dX12_settles_31 ?_
          refine lv_topi (fun x84 ex84 => ?_)
          have ex84 : x84.toInt = f0_0_22.toInt - (1 : Int) := by rw [ex84]; exact wk_sub (show (-2147483648) ≤ f0_0_22.toInt - (1 : Int) by omega) (show f0_0_22.toInt - (1 : Int) ≤ 2147483647 by omega)
          refine tk_puti hC hK hw hT hinX12 tyX12_ok nmX12 kM_at0 (by decide) rfl rfl 22 (by decide) (List.mem_of_getElem? (i := 1) rfl) rfl rfl rfl rfl (show 0 ≤ x84.toInt by omega) (show x84.toInt ≤ 400 by omega) dX12_settles_32 (fun H locs w85 hw hT k87 c86 => ?_)
          have hF := hF.put kM_at0 (k := 22) (by decide) k87
          have c88 := k87.gi (Or.inr (by decide)) c16
          have c89 := k87.gi (Or.inr (by decide)) c19
          have c90 := k87.gi (Or.inr (by decide)) c22
          have c91 := k87.gi (Or.inr (by decide)) c28
          have c92 := k87.gi (Or.inl (tk_ne kM_at9 kM_at0 (by decide))) c36
          refine lv_aload_n hx hb dX12_settles_35 rfl (lv_at hl 0 rfl) ?_
          refine lv_aload_n hx hb dX12_settles_36 rfl (lv_at hl 0 rfl) ?_
          refine tk_getA hC hK hw hT hinX12 kM_at0 (by decide) rfl 21 (by decide) (List.mem_of_getElem? (i := 2) rfl) rfl rfl dX12_settles_37 ?_
          refine lv_aload_n hx hb dX12_settles_40 rfl (lv_at hl 0 rfl) ?_
          refine tk_geti hC hK hw hT hinX12 kM_at0 (by decide) rfl 22 (by decide) (List.mem_of_getElem? (i := 1) rfl) rfl rfl dX12_settles_41 (fun x93 c94 rx93 tx93 => ?_)
          refine wk_top x84 (c94.symm.trans c86) ?_
          refine tk_iald hC hK hw hT kM_at9 rfl rfl (show 0 ≤ x84.toInt by omega) (show x84.toInt < 400 by omega) dX12_settles_44 (fun x95 c96 rx95 tx95 => ?_)
          have c96 : gi w85 9 (1 * f0_0_22.toInt + -1).toNat = x95 := (congrArg (gi w85 9) (congrArg Int.toNat (show 1 * f0_0_22.toInt + -1 = x84.toInt by omega))).trans c96
          refine wk_top x35 (c96.symm.trans c92) ?_
          refine lv_iconst (v := 0) hx hb dX12_settles_45 (by decide) ?_
          obtain rfl : x35 = 11 := wk_eq.mpr (show x35.toInt = 11 by omega)
          refine tk_Vv hC hK hw hT hA hE hSR kM_at0 (by decide) rfl (k_X12_puts_6 l adK adV dC dI cy ad B (by omega) (by omega) qr s1   11 (by decide) (by decide) 0 w85 H.size hT c88 f0_3_5 c91 (show 0 ≤ f0_3_5.toInt by omega) (show f0_3_5.toInt ≤ 400 by omega) (show f0_3_5.toInt ≤ 399 by omega)) (cwV 2 hC.2.2.2.2 gX12_settles_X12_puts rfl rfl rfl (by decide +kernel) ⟨Nat.le_of_ble_eq_true rfl, Nat.le_of_ble_eq_true rfl⟩) rfl hl.1 rfl (Nat.le_of_ble_eq_true rfl) dX12_settles_46 (fun w99 H locs hp98 hw => ?_)
          obtain ⟨hT, k100, hg104⟩ := hp98
          have hF := hF.tr k100 (by decide)
          have c105 := k100.gi kM_at0 (by decide) c88
          have c106 := k100.gi kM_at0 (by decide) c89
          have c107 := k100.gi kM_at0 (by decide) c90
          have c108 := k100.gi kM_at9 rfl c92
          have c109 := k100.gi kM_at0 (by decide) c86
          obtain ⟨⟨x101, c102, rx101, tx101⟩, g103⟩ := hg104
          have ex101 : x101.toInt = (5 : Int) := by rw [show x101 = 5 from c102.symm.trans c105]; decide
          obtain ⟨x110, c111, rx110, tx110⟩ := hT.rda (lo := 0) (hi := 400) (i := 5) kM_at3 rfl rfl (by decide)
          have g103 : x110.toInt = f0_3_5.toInt + 1 := by have q := g103; simp only [c91, c111] at q; omega
          refine lv_aload_n hx hb dX12_settles_49 rfl (lv_at hl 0 rfl) ?_
          refine tk_getA hC hK hw hT hinX12 kM_at0 (by decide) rfl 21 (by decide) (List.mem_of_getElem? (i := 2) rfl) rfl rfl dX12_settles_50 ?_
          refine lv_aload_n hx hb dX12_settles_53 rfl (lv_at hl 0 rfl) ?_
          refine tk_geti hC hK hw hT hinX12 kM_at0 (by decide) rfl 22 (by decide) (List.mem_of_getElem? (i := 1) rfl) rfl rfl dX12_settles_54 (fun x112 c113 rx112 tx112 => ?_)
          refine wk_top x84 (c113.symm.trans c109) ?_
          refine tk_iald hC hK hw hT kM_at9 rfl rfl (show 0 ≤ x84.toInt by omega) (show x84.toInt < 400 by omega) dX12_settles_57 (fun x114 c115 rx114 tx114 => ?_)
          have c115 : gi w99 9 (1 * f0_0_22.toInt + -1).toNat = x114 := (congrArg (gi w99 9) (congrArg Int.toNat (show 1 * f0_0_22.toInt + -1 = x84.toInt by omega))).trans c115
          refine wk_top 11 (c115.symm.trans c108) ?_
          refine lv_bipush (v := 11) hx hb dX12_settles_58 (by decide) ?_
          refine lv_icmp_ne (tgt := 0) hx hb dX12_settles_60 (by decide) (fun c => absurd (by decide) c) (fun _ => ?_)
          refine lv_aload_n hx hb dX12_settles_63 rfl (lv_at hl 0 rfl) ?_
          refine lv_dup hx hb dX12_settles_64 rfl ?_
          refine tk_geti hC hK hw hT hinX12 kM_at0 (by decide) rfl 19 (by decide) (List.mem_of_getElem? (i := 3) rfl) rfl rfl dX12_settles_65 (fun x116 c117 rx116 tx116 => ?_)
          refine wk_top f0_0_19 (c117.symm.trans c107) ?_
          refine lv_iconst (v := 1) hx hb dX12_settles_68 (by decide) ?_
          refine lv_isub hx hb dX12_settles_69 ?_
          refine lv_topi (fun x118 ex118 => ?_)
          have ex118 : x118.toInt = f0_0_19.toInt - (1 : Int) := by rw [ex118]; exact wk_sub (show (-2147483648) ≤ f0_0_19.toInt - (1 : Int) by omega) (show f0_0_19.toInt - (1 : Int) ≤ 2147483647 by omega)
          refine tk_puti hC hK hw hT hinX12 tyX12_ok nmX12 kM_at0 (by decide) rfl rfl 19 (by decide) (List.mem_of_getElem? (i := 3) rfl) rfl rfl rfl rfl (show (-100) ≤ x118.toInt by omega) (show x118.toInt ≤ 10 by omega) dX12_settles_70 (fun H locs w119 hw hT k121 c120 => ?_)
          have hF := hF.put kM_at0 (k := 19) (by decide) k121
          have c122 := k121.gi (Or.inr (by decide)) c105
          have c123 := k121.gi (Or.inr (by decide)) c106
          have c124 := k121.gi (Or.inl (tk_ne kM_at9 kM_at0 (by decide))) c108
          have c125 := k121.gi (Or.inr (by decide)) c109
          have c126 := k121.gi (Or.inr (by decide)) c111
          refine lv_goto (tgt := 0) hx hb dX12_settles_73 (by decide) ?_
          exact ih0 x118 x84 x110 H locs ls w119 (show 0 ≤ f1_.toInt by omega) (show f1_.toInt ≤ 60 by omega) (show (-60) ≤ x118.toInt by omega) (show x118.toInt ≤ 10 by omega) (show 0 ≤ x84.toInt by omega) (show x84.toInt ≤ 390 by omega) (show 0 ≤ x110.toInt by omega) (show x110.toInt ≤ 390 by omega) (show x110.toInt + x84.toInt = f4_.toInt + f3_.toInt by omega) (show x84.toInt ≤ f3_.toInt by omega) (show x84.toInt + f2_.toInt ≤ f3_.toInt + x118.toInt by omega) (show x84.toInt ≤ x118.toInt + f1_.toInt by omega) (show x110.toInt ≤ 390 by omega) (show x84.toInt ≤ 390 by omega) (show -60 ≤ x118.toInt by omega) (show brkN w0 (x84.toInt).toNat = brkN w0 (f3_.toInt).toNat from ((brk_step (by omega) (show f0_0_22.toInt = x84.toInt + 1 by omega) (show ¬ (gi w0 9 (x84.toInt).toNat).toInt = 91 by first | (rw [show (x84.toInt) = 1 * f0_0_22.toInt + -1 by omega, ← hF.gi kM_at9 rfl rfl, c124]; omega) | (rw [show (x84.toInt) = 1 * f0_0_22.toInt + -1 by omega, ← hF.gi kM_at9 rfl rfl, c124]; decide))).trans hcr0_7)) (show (x84.toInt - 0).toNat < n0 by omega) hw hT hF c122 c123 c120 c125 c126 (lv_sub hl [0, 1] rfl)
  exact L0 ((f3_.toInt - 0).toNat + 1) f2_ f3_ f4_ s.heap locs ls w0 (show 0 ≤ f1_.toInt by omega) (show f1_.toInt ≤ 60 by omega) (show (-60) ≤ f2_.toInt by omega) (show f2_.toInt ≤ 10 by omega) (show 0 ≤ f3_.toInt by omega) (show f3_.toInt ≤ 390 by omega) (show 0 ≤ f4_.toInt by omega) (show f4_.toInt ≤ 390 by omega) (show f4_.toInt + f3_.toInt = f4_.toInt + f3_.toInt by omega) (show f3_.toInt ≤ f3_.toInt by omega) (show f3_.toInt + f2_.toInt ≤ f3_.toInt + f2_.toInt by omega) (show f3_.toInt ≤ f2_.toInt + f1_.toInt by omega) (show f4_.toInt ≤ 390 by omega) (show f3_.toInt ≤ 390 by omega) (show -60 ≤ f2_.toInt by omega) (show brkN w0 (f3_.toInt).toNat = brkN w0 (f3_.toInt).toNat from rfl) (Nat.lt_succ_self _) hw hT hF cf0_ cf1_ cf2_ cf3_ cf4_ (lv_sub hl [0, 1] rfl)
abbrev P_X12_in_10 (ad : Nat → Nat) (cy : Nat → ClassId) (B : Int) (qr : Nat) (s1 : Int) (a0 : Int64) (w0 : va_W) : Int32 → va_W → Prop := fun r u => w0 = u ∧ ((r = 0) ∨ (r = 1 ∧ 0 ≤ a0.toInt ∧ a0.toInt ≤ 9))
set_option maxHeartbeats 4000000 in
set_option maxRecDepth 100000 in
theorem k_X12_in_10 (l : Launch) (adK adV : Nat → Nat) (dC : Nat → ClassId) (dI : Nat → Nat → Nat) (cy : Nat → ClassId) (ad : Nat → Nat) (B : Int) (hB0 : 100000 ≤ B) (hB1 : B ≤ 1073741824) (qr : Nat) (s1 : Int)  (a0 : Int64) (ra0 : (-2147483648) ≤ a0.toInt) (ta0 : a0.toInt ≤ 2147483647) (w0 : va_W) (sz : Nat) (hT : TW ksM ad cy B qr 12 w0)  : Met l yX12_in wsX12_in ({ frames := 1, cells := 0, slots := 0, locals := 12 }) (va_Pc [.long a0, .long 0, .long 9] (wpreS adK adV dC dI cy sz w0)) (va_Qi (P_X12_in_10 ad cy B qr s1 a0 w0) (fun u : va_W => wpost dC dI cy (va_A w0 sz) u) (va_A w0 sz)) 0 0 (va_A w0 sz) := by
  refine Met.ofW (cc := cX12_in) (maxL := 6) (ret := (some .boolean)) (by decide) rfl ?_
  intro p e s m args below meth c s₁ Bk hml hv
  obtain ⟨rfl, ⟨hsz, hP, hK, hD0⟩, hE, hSR⟩ := hv
  have hx := Bk.exec
  have hb := Bk.bytes
  have hr := Bk.returns
  have hlocks := Bk.notSynchronized
  have hC : CallFix p m c cX12_in 6 s _ wsX12_in RX12 := ⟨hx, hb, hml, findClass_of_methodNamed Bk.named, atoms_spec (ws := wsX12_in) Bk.pre⟩
  subst hsz
  have hD := hD0.self (sz := s.heap.size)
  generalize hAe : va_A w0 s.heap.size = A at hD hE ⊢
  have hA : ∀ q : Nat, s.heap.size ≤ q → A q := fun q h => by rw [← hAe]; exact Or.inr h
  have hw : Wd dC dI A s.heap s.heap [] w0 := ⟨hP, hD, va_S.rf⟩
  have hF : FE ksM ([] : List (Nat × Nat × Nat)) w0 w0 := FE.rf
  have hl := lv_entry ([.long a0, .long 0, .long 9]) (n := 6) (Nat.le_of_ble_eq_true rfl)
  rw [lg_entry_eq]
  generalize (lg_sl ([.long a0, .long 0, .long 9]) ++ List.replicate (6 - (lg_sl ([.long a0, .long 0, .long 9])).length) Slot.unset).toArray = ls at hl ⊢
  have hl : lv_has ls 6 [(0, .long a0), (2, .long 0), (4, .long 9)] := hl
  generalize hloc : ([] : List Loc) = locs at hw ⊢
  have J17 : ∀ (H : Heap) (locs : List Loc) (ls : Array Slot), (-2147483648) ≤ a0.toInt → a0.toInt ≤ 2147483647 → Wd dC dI A s.heap H locs w0 → lv_has ls 6 [(0, .long a0), (2, .long 0), (4, .long 9)] → W p l e ({ frames := 1, cells := 0, slots := 0, locals := 12 }) s m (List.toArray [.long a0, .long 0, .long 9]) below meth c H locs 0 0 (MQ below (va_Qi (P_X12_in_10 ad cy B qr s1 a0 w0) (fun u : va_W => wpost dC dI cy A u) A) (List.toArray [.long a0, .long 0, .long 9]) s 0 0 A) (F0 m 17 ls []) := by
    intro H locs ls r1 t2 hw hl
    refine lv_iconst (v := 0) hx hb dX12_in_17 (by decide) ?_
    exact tk_zret hC hr rfl hlocks hK ⟨rfl, (Or.inl rfl)⟩ hw dX12_in_18
  refine lv_lload_n hx hb dX12_in_0 rfl (lv_at hl 0 rfl) ?_
  refine lv_lload_n hx hb dX12_in_1 rfl (lv_at hl 1 rfl) ?_
  refine W.lcmp hx hb dX12_in_2 ?_
  refine lv_if_lt (tgt := 17) hx hb dX12_in_3 (by decide) (fun c3 => ?_) (fun c3 => ?_)
  · have c3 : a0.toInt < (0 : Int) := wk_cltT c3
    exact J17  s.heap locs ls  (show (-2147483648) ≤ a0.toInt by omega) (show a0.toInt ≤ 2147483647 by omega)  hw   (lv_sub hl [0, 1, 2] rfl)
  · have c3 : (0 : Int) ≤ a0.toInt := wk_cltF c3
    refine lv_lload_n hx hb dX12_in_6 rfl (lv_at hl 0 rfl) ?_
    refine lv_lload hx hb dX12_in_7 (lv_at hl 2 rfl) ?_
    refine W.lcmp hx hb dX12_in_9 ?_
    refine lv_if_gt (tgt := 17) hx hb dX12_in_10 (by decide) (fun c4 => ?_) (fun c4 => ?_)
    · have c4 : (9 : Int) < a0.toInt := wk_cgtT c4
      exact J17  s.heap locs ls  (show (-2147483648) ≤ a0.toInt by omega) (show a0.toInt ≤ 2147483647 by omega)  hw   (lv_sub hl [0, 1, 2] rfl)
    · have c4 : a0.toInt ≤ (9 : Int) := wk_cgtF c4
      refine lv_iconst (v := 1) hx hb dX12_in_13 (by decide) ?_
      refine lv_goto (tgt := 18) hx hb dX12_in_14 (by decide) ?_
      exact tk_zret hC hr rfl hlocks hK ⟨rfl, (Or.inr ⟨rfl, (show 0 ≤ a0.toInt by omega), (show a0.toInt ≤ 9 by omega)⟩)⟩ hw dX12_in_18
abbrev P_X12_isStreet_1 (ad : Nat → Nat) (cy : Nat → ClassId) (B : Int) (qr : Nat) (s1 : Int) (a1 : Int32) (w0 : va_W) : Int32 → va_W → Prop := fun r u => w0 = u ∧ ((r = 0) ∨ (r = 1 ∧ 0 ≤ a1.toInt ∧ a1.toInt ≤ 11 ∧ (∃ y : Int32, gi u 12 1 = y ∧ 1 ≤ y.toInt ∧ y.toInt ≤ 12)))
set_option maxHeartbeats 4000000 in
set_option maxRecDepth 100000 in
theorem k_X12_isStreet_1 (l : Launch) (adK adV : Nat → Nat) (dC : Nat → ClassId) (dI : Nat → Nat → Nat) (cy : Nat → ClassId) (ad : Nat → Nat) (B : Int) (hB0 : 100000 ≤ B) (hB1 : B ≤ 1073741824) (qr : Nat) (s1 : Int)  (a1 : Int32) (w0 : va_W) (sz : Nat) (hT : TW ksM ad cy B qr 12 w0)  : Met l yX12_isStreet wsX12_isStreet ({ frames := 1, cells := 0, slots := 0, locals := 12 }) (va_Pc [.ref (ad 0), .int a1] (wpreS adK adV dC dI cy sz w0)) (va_Qi (P_X12_isStreet_1 ad cy B qr s1 a1 w0) (fun u : va_W => wpost dC dI cy (va_A w0 sz) u) (va_A w0 sz)) 0 0 (va_A w0 sz) := by
  refine Met.ofW (cc := cX12_isStreet) (maxL := 2) (ret := (some .boolean)) (by decide) rfl ?_
  intro p e s m args below meth c s₁ Bk hml hv
  obtain ⟨rfl, ⟨hsz, hP, hK, hD0⟩, hE, hSR⟩ := hv
  have hx := Bk.exec
  have hb := Bk.bytes
  have hr := Bk.returns
  have hlocks := Bk.notSynchronized
  have hC : CallFix p m c cX12_isStreet 2 s _ wsX12_isStreet RX12 := ⟨hx, hb, hml, findClass_of_methodNamed Bk.named, atoms_spec (ws := wsX12_isStreet) Bk.pre⟩
  subst hsz
  have hD := hD0.self (sz := s.heap.size)
  generalize hAe : va_A w0 s.heap.size = A at hD hE ⊢
  have hA : ∀ q : Nat, s.heap.size ≤ q → A q := fun q h => by rw [← hAe]; exact Or.inr h
  have hw : Wd dC dI A s.heap s.heap [] w0 := ⟨hP, hD, va_S.rf⟩
  have hF : FE ksM ([] : List (Nat × Nat × Nat)) w0 w0 := FE.rf
  have hl := lv_entry ([.ref (ad 0), .int a1]) (n := 2) (Nat.le_of_ble_eq_true rfl)
  rw [lg_entry_eq]
  generalize (lg_sl ([.ref (ad 0), .int a1]) ++ List.replicate (2 - (lg_sl ([.ref (ad 0), .int a1])).length) Slot.unset).toArray = ls at hl ⊢
  have hl : lv_has ls 2 [(0, .ref (ad 0)), (1, .int a1)] := hl
  generalize hloc : ([] : List Loc) = locs at hw ⊢
  have hinX12 : ∀ w ∈ u_ws RX12 TX12 42, w ∈ wsX12_isStreet := fun _ h => List.mem_cons_of_mem _ (List.mem_append_right _ (h))
  have J18 : ∀ (H : Heap) (locs : List Loc) (ls : Array Slot), Wd dC dI A s.heap H locs w0 → lv_has ls 2 [(0, .ref (ad 0)), (1, .int a1)] → W p l e ({ frames := 1, cells := 0, slots := 0, locals := 12 }) s m (List.toArray [.ref (ad 0), .int a1]) below meth c H locs 0 0 (MQ below (va_Qi (P_X12_isStreet_1 ad cy B qr s1 a1 w0) (fun u : va_W => wpost dC dI cy A u) A) (List.toArray [.ref (ad 0), .int a1]) s 0 0 A) (F0 m 18 ls []) := by
    intro H locs ls hw hl
    refine lv_iconst (v := 0) hx hb dX12_isStreet_18 (by decide) ?_
    exact tk_zret hC hr rfl hlocks hK ⟨rfl, (Or.inl rfl)⟩ hw dX12_isStreet_19
  refine lv_iload_n hx hb dX12_isStreet_0 rfl (lv_at hl 1 rfl) ?_
  refine lv_if_lt (tgt := 18) hx hb dX12_isStreet_1 (by decide) (fun c1 => ?_) (fun c1 => ?_)
  · have c1 : a1.toInt < (0 : Int) := wk_lt.mp c1
    exact J18  s.heap locs ls    hw   (lv_sub hl [0, 1] rfl)
  · have c1 : (0 : Int) ≤ a1.toInt := wk_ltF c1
    refine lv_iload_n hx hb dX12_isStreet_4 rfl (lv_at hl 1 rfl) ?_
    refine lv_aload_n hx hb dX12_isStreet_5 rfl (lv_at hl 0 rfl) ?_
    refine tk_getA hC hK hw hT hinX12 kM_at0 (by decide) rfl 26 (by decide) (List.mem_of_getElem? (i := 1) rfl) rfl rfl dX12_isStreet_6 ?_
    refine lv_iconst (v := 1) hx hb dX12_isStreet_9 (by decide) ?_
    refine tk_ialdR hC hK hw hT kM_at12 rfl (by decide) (by decide) dX12_isStreet_10 (fun x2 c3 Ex2 => ?_)
    have bx2 : 0 ≤ x2.toInt ∧ x2.toInt ≤ 12 := (tk_rg1 rfl).mp Ex2
    have c3 : gi w0 12 1 = x2 := c3
    refine lv_icmp_ge (tgt := 18) hx hb dX12_isStreet_11 (by decide) (fun c4 => ?_) (fun c4 => ?_)
    · have c4 : x2.toInt ≤ a1.toInt := wk_le.mp c4
      exact J18  s.heap locs ls    hw   (lv_sub hl [0, 1] rfl)
    · have c4 : a1.toInt < x2.toInt := wk_leF c4
      refine lv_iconst (v := 1) hx hb dX12_isStreet_14 (by decide) ?_
      refine lv_goto (tgt := 19) hx hb dX12_isStreet_15 (by decide) ?_
      exact tk_zret hC hr rfl hlocks hK ⟨rfl, (Or.inr ⟨rfl, (show 0 ≤ a1.toInt by omega), (show a1.toInt ≤ 11 by omega), ⟨x2, c3, (show 1 ≤ x2.toInt by omega), (show x2.toInt ≤ 12 by omega)⟩⟩)⟩ hw dX12_isStreet_19
abbrev P_X12_streetOf_1 (ad : Nat → Nat) (cy : Nat → ClassId) (B : Int) (qr : Nat) (s1 : Int) (a1 : Int32) (a2 : Int32) (w0 : va_W) : Int32 → va_W → Prop := fun r u => w0 = u ∧ ((0 ≤ r.toInt ∧ r.toInt ≤ 9 ∧ gi u 12 (10 * a1.toInt + 1 * a2.toInt + 10).toNat = r))
set_option maxHeartbeats 4000000 in
set_option maxRecDepth 100000 in
theorem k_X12_streetOf_1 (l : Launch) (adK adV : Nat → Nat) (dC : Nat → ClassId) (dI : Nat → Nat → Nat) (cy : Nat → ClassId) (ad : Nat → Nat) (B : Int) (hB0 : 100000 ≤ B) (hB1 : B ≤ 1073741824) (qr : Nat) (s1 : Int)  (a1 : Int32) (ra1 : 0 ≤ a1.toInt) (ta1 : a1.toInt ≤ 11) (a2 : Int32) (ra2 : 0 ≤ a2.toInt) (ta2 : a2.toInt ≤ 9) (w0 : va_W) (sz : Nat) (hT : TW ksM ad cy B qr 12 w0)  : Met l yX12_streetOf wsX12_streetOf ({ frames := 1, cells := 0, slots := 0, locals := 12 }) (va_Pc [.ref (ad 0), .int a1, .int a2] (wpreS adK adV dC dI cy sz w0)) (va_Qi (P_X12_streetOf_1 ad cy B qr s1 a1 a2 w0) (fun u : va_W => wpost dC dI cy (va_A w0 sz) u) (va_A w0 sz)) 0 0 (va_A w0 sz) := by
  refine Met.ofW (cc := cX12_streetOf) (maxL := 3) (ret := (some .int)) (by decide) rfl ?_
  intro p e s m args below meth c s₁ Bk hml hv
  obtain ⟨rfl, ⟨hsz, hP, hK, hD0⟩, hE, hSR⟩ := hv
  have hx := Bk.exec
  have hb := Bk.bytes
  have hr := Bk.returns
  have hlocks := Bk.notSynchronized
  have hC : CallFix p m c cX12_streetOf 3 s _ wsX12_streetOf RX12 := ⟨hx, hb, hml, findClass_of_methodNamed Bk.named, atoms_spec (ws := wsX12_streetOf) Bk.pre⟩
  subst hsz
  have hD := hD0.self (sz := s.heap.size)
  generalize hAe : va_A w0 s.heap.size = A at hD hE ⊢
  have hA : ∀ q : Nat, s.heap.size ≤ q → A q := fun q h => by rw [← hAe]; exact Or.inr h
  have hw : Wd dC dI A s.heap s.heap [] w0 := ⟨hP, hD, va_S.rf⟩
  have hF : FE ksM ([] : List (Nat × Nat × Nat)) w0 w0 := FE.rf
  have hl := lv_entry ([.ref (ad 0), .int a1, .int a2]) (n := 3) (Nat.le_of_ble_eq_true rfl)
  rw [lg_entry_eq]
  generalize (lg_sl ([.ref (ad 0), .int a1, .int a2]) ++ List.replicate (3 - (lg_sl ([.ref (ad 0), .int a1, .int a2])).length) Slot.unset).toArray = ls at hl ⊢
  have hl : lv_has ls 3 [(0, .ref (ad 0)), (1, .int a1), (2, .int a2)] := hl
  generalize hloc : ([] : List Loc) = locs at hw ⊢
  have hinX12 : ∀ w ∈ u_ws RX12 TX12 42, w ∈ wsX12_streetOf := fun _ h => List.mem_cons_of_mem _ (List.mem_append_right _ (h))
  refine lv_aload_n hx hb dX12_streetOf_0 rfl (lv_at hl 0 rfl) ?_
  refine tk_getA hC hK hw hT hinX12 kM_at0 (by decide) rfl 26 (by decide) (List.mem_of_getElem? (i := 1) rfl) rfl rfl dX12_streetOf_1 ?_
  refine lv_bipush (v := 10) hx hb dX12_streetOf_4 (by decide) ?_
  refine lv_bipush (v := 10) hx hb dX12_streetOf_6 (by decide) ?_
  refine lv_iload_n hx hb dX12_streetOf_8 rfl (lv_at hl 1 rfl) ?_
  refine lv_imul hx hb dX12_streetOf_9 ?_
  refine lv_topi (fun x1 ex1 => ?_)
  have ex1 : x1.toInt = (10 : Int) * a1.toInt := by rw [ex1]; exact wk_mul (show (-2147483648) ≤ (10 : Int) * a1.toInt by omega) (show (10 : Int) * a1.toInt ≤ 2147483647 by omega)
  refine lv_iadd hx hb dX12_streetOf_10 ?_
  refine lv_topi (fun x2 ex2 => ?_)
  have ex2 : x2.toInt = (10 : Int) + x1.toInt := by rw [ex2]; exact wk_add (show (-2147483648) ≤ (10 : Int) + x1.toInt by omega) (show (10 : Int) + x1.toInt ≤ 2147483647 by omega)
  refine lv_iload_n hx hb dX12_streetOf_11 rfl (lv_at hl 2 rfl) ?_
  refine lv_iadd hx hb dX12_streetOf_12 ?_
  refine lv_topi (fun x3 ex3 => ?_)
  have ex3 : x3.toInt = x2.toInt + a2.toInt := by rw [ex3]; exact wk_add (show (-2147483648) ≤ x2.toInt + a2.toInt by omega) (show x2.toInt + a2.toInt ≤ 2147483647 by omega)
  refine tk_ialdR hC hK hw hT kM_at12 rfl (show 0 ≤ x3.toInt by omega) (show x3.toInt < 296 by omega) dX12_streetOf_13 (fun x4 c5 Ex4 => ?_)
  have c5 : gi w0 12 (10 * a1.toInt + 1 * a2.toInt + 10).toNat = x4 := (congrArg (gi w0 12) (congrArg Int.toNat (show 10 * a1.toInt + 1 * a2.toInt + 10 = x3.toInt by omega))).trans c5
  have bx4 := tk_rgI rfl 10 1 120 0 9 (by decide +kernel) ⟨(x3.toInt - 10).toNat, by omega, show x3.toInt.toNat = 10 + 1 * (x3.toInt - 10).toNat by omega⟩ Ex4
  exact tk_iret hC hr hlocks hK ⟨rfl, ⟨(show 0 ≤ x4.toInt by omega), (show x4.toInt ≤ 9 by omega), c5⟩⟩ hw dX12_streetOf_14
abbrev P_X12_street_1 (ad : Nat → Nat) (cy : Nat → ClassId) (B : Int) (qr : Nat) (s1 : Int) (a1 : Int32) (a2 : Int32) (w0 : va_W) : Int32 → va_W → Prop := fun r u => w0 = u ∧ ((0 ≤ r.toInt ∧ r.toInt ≤ 9 ∧ 0 ≤ a1.toInt ∧ a1.toInt ≤ 11 ∧ 0 ≤ a2.toInt ∧ a2.toInt ≤ 9 ∧ (∃ y : Int32, gi u 12 1 = y ∧ 1 ≤ y.toInt ∧ y.toInt ≤ 12)) ∨ (r = (-1)))
set_option maxHeartbeats 4000000 in
set_option maxRecDepth 100000 in
theorem k_X12_street_1 (l : Launch) (adK adV : Nat → Nat) (dC : Nat → ClassId) (dI : Nat → Nat → Nat) (cy : Nat → ClassId) (ad : Nat → Nat) (B : Int) (hB0 : 100000 ≤ B) (hB1 : B ≤ 1073741824) (qr : Nat) (s1 : Int)  (a1 : Int32) (a2 : Int32) (w0 : va_W) (sz : Nat) (hT : TW ksM ad cy B qr 12 w0)  : Met l yX12_street wsX12_street ({ frames := 2, cells := 0, slots := 0, locals := 37 }) (va_Pc [.ref (ad 0), .int a1, .int a2] (wpreS adK adV dC dI cy sz w0)) (va_Qi (P_X12_street_1 ad cy B qr s1 a1 a2 w0) (fun u : va_W => wpost dC dI cy (va_A w0 sz) u) (va_A w0 sz)) 0 0 (va_A w0 sz) := by
  refine Met.ofW (cc := cX12_street) (maxL := 3) (ret := (some .int)) (by decide) rfl ?_
  intro p e s m args below meth c s₁ Bk hml hv
  obtain ⟨rfl, ⟨hsz, hP, hK, hD0⟩, hE, hSR⟩ := hv
  have hx := Bk.exec
  have hb := Bk.bytes
  have hr := Bk.returns
  have hlocks := Bk.notSynchronized
  have hC : CallFix p m c cX12_street 3 s _ wsX12_street RX12 := ⟨hx, hb, hml, findClass_of_methodNamed Bk.named, atoms_spec (ws := wsX12_street) Bk.pre⟩
  subst hsz
  have hD := hD0.self (sz := s.heap.size)
  generalize hAe : va_A w0 s.heap.size = A at hD hE ⊢
  have hA : ∀ q : Nat, s.heap.size ≤ q → A q := fun q h => by rw [← hAe]; exact Or.inr h
  have hw : Wd dC dI A s.heap s.heap [] w0 := ⟨hP, hD, va_S.rf⟩
  have hF : FE ksM ([] : List (Nat × Nat × Nat)) w0 w0 := FE.rf
  have hl := lv_entry ([.ref (ad 0), .int a1, .int a2]) (n := 3) (Nat.le_of_ble_eq_true rfl)
  rw [lg_entry_eq]
  generalize (lg_sl ([.ref (ad 0), .int a1, .int a2]) ++ List.replicate (3 - (lg_sl ([.ref (ad 0), .int a1, .int a2])).length) Slot.unset).toArray = ls at hl ⊢
  have hl : lv_has ls 3 [(0, .ref (ad 0)), (1, .int a1), (2, .int a2)] := hl
  generalize hloc : ([] : List Loc) = locs at hw ⊢
  have J29 : ∀ (H : Heap) (locs : List Loc) (ls : Array Slot), Wd dC dI A s.heap H locs w0 → lv_has ls 3 [(0, .ref (ad 0)), (1, .int a1), (2, .int a2)] → W p l e ({ frames := 2, cells := 0, slots := 0, locals := 37 }) s m (List.toArray [.ref (ad 0), .int a1, .int a2]) below meth c H locs 0 0 (MQ below (va_Qi (P_X12_street_1 ad cy B qr s1 a1 a2 w0) (fun u : va_W => wpost dC dI cy A u) A) (List.toArray [.ref (ad 0), .int a1, .int a2]) s 0 0 A) (F0 m 29 ls []) := by
    intro H locs ls hw hl
    refine lv_iconst (v := (-1)) hx hb dX12_street_29 (by decide) ?_
    exact tk_iret hC hr hlocks hK ⟨rfl, (Or.inr rfl)⟩ hw dX12_street_30
  refine lv_aload_n hx hb dX12_street_0 rfl (lv_at hl 0 rfl) ?_
  refine lv_iload_n hx hb dX12_street_1 rfl (lv_at hl 1 rfl) ?_
  refine tk_Vi hC hK hw hT hA hE hSR kM_at0 (by decide) rfl (k_X12_isStreet_1 l adK adV dC dI cy ad B (by omega) (by omega) qr s1   a1 w0 s.heap.size hT ) (cwV 1 hC.2.2.2.2 gX12_street_X12_isStreet rfl rfl rfl (by decide +kernel) ⟨Nat.le_of_ble_eq_true rfl, Nat.le_of_ble_eq_true rfl⟩) rfl hl.1 rfl (Nat.le_of_ble_eq_true rfl) dX12_street_2 (fun r1 w3 H locs hp2 hw => ?_)
  obtain ⟨rfl, hg9⟩ := hp2
  rcases hg9 with rfl | ⟨rfl, g5, g6, ⟨x7, c8, rx7, tx7⟩⟩
  · refine lv_if_eq (tgt := 29) hx hb dX12_street_5 (by decide) (fun _ => ?_) (fun c => absurd (by decide) c)
    exact J29  H locs ls    hw   (lv_sub hl [0, 1, 2] rfl)
  · refine lv_if_eq (tgt := 29) hx hb dX12_street_5 (by decide) (fun c => absurd c (by decide)) (fun _ => ?_)
    refine lv_iload_n hx hb dX12_street_8 rfl (lv_at hl 2 rfl) ?_
    refine lv_i2l hx hb dX12_street_9 rfl ?_
    refine lv_topl (fun x10 ex10 => ?_)
    have ex10 : x10.toInt = a2.toInt := by rw [ex10]; exact wk_i2l _
    have bx10 := wk_i32 a2
    refine lv_lconst (v := 0) hx hb dX12_street_10 (by decide) ?_
    refine lv_ldc2 (v := 9) hx hb hC.2.2.2.1 (hC.2.2.2.2 _ (List.mem_of_getElem? (i := 1) rfl)) dX12_street_11 ?_
    refine tk_Si hC hK hw hT hA hE hSR (k_X12_in_10 l adK adV dC dI cy ad B (by omega) (by omega) qr s1   x10 (show (-2147483648) ≤ x10.toInt by omega) (show x10.toInt ≤ 2147483647 by omega) w0 H.size hT ) (va_cwS 3 hC.2.2.2.2 gX12_street_X12_in rfl rfl rfl (by decide +kernel) ⟨Nat.le_of_ble_eq_true rfl, Nat.le_of_ble_eq_true rfl⟩) rfl hl.1 rfl (Nat.le_of_ble_eq_true rfl) dX12_street_14 (fun r11 w13 H locs hp12 hw => ?_)
    obtain ⟨rfl, hg17⟩ := hp12
    rcases hg17 with rfl | ⟨rfl, g15, g16⟩
    · refine lv_if_eq (tgt := 29) hx hb dX12_street_17 (by decide) (fun _ => ?_) (fun c => absurd (by decide) c)
      exact J29  H locs ls    hw   (lv_sub hl [0, 1, 2] rfl)
    · refine lv_if_eq (tgt := 29) hx hb dX12_street_17 (by decide) (fun c => absurd c (by decide)) (fun _ => ?_)
      refine lv_aload_n hx hb dX12_street_20 rfl (lv_at hl 0 rfl) ?_
      refine lv_iload_n hx hb dX12_street_21 rfl (lv_at hl 1 rfl) ?_
      refine lv_iload_n hx hb dX12_street_22 rfl (lv_at hl 2 rfl) ?_
      refine tk_Vi hC hK hw hT hA hE hSR kM_at0 (by decide) rfl (k_X12_streetOf_1 l adK adV dC dI cy ad B (by omega) (by omega) qr s1   a1 (show 0 ≤ a1.toInt by omega) (show a1.toInt ≤ 11 by omega) a2 (show 0 ≤ a2.toInt by omega) (show a2.toInt ≤ 9 by omega) w0 H.size hT ) (cwV 2 hC.2.2.2.2 gX12_street_X12_streetOf rfl rfl rfl (by decide +kernel) ⟨Nat.le_of_ble_eq_true rfl, Nat.le_of_ble_eq_true rfl⟩) rfl hl.1 rfl (Nat.le_of_ble_eq_true rfl) dX12_street_23 (fun r18 w20 H locs hp19 hw => ?_)
      obtain ⟨rfl, hg25⟩ := hp19
      obtain ⟨g22, g23, c24⟩ := hg25
      refine lv_goto (tgt := 30) hx hb dX12_street_26 (by decide) ?_
      exact tk_iret hC hr hlocks hK ⟨rfl, (Or.inl ⟨(show 0 ≤ r18.toInt by omega), (show r18.toInt ≤ 9 by omega), (show 0 ≤ a1.toInt by omega), (show a1.toInt ≤ 11 by omega), (show 0 ≤ a2.toInt by omega), (show a2.toInt ≤ 9 by omega), ⟨x7, c8, (show 1 ≤ x7.toInt by omega), (show x7.toInt ≤ 12 by omega)⟩⟩)⟩ hw dX12_street_30
abbrev P_X12_streetOf_2 (ad : Nat → Nat) (cy : Nat → ClassId) (B : Int) (qr : Nat) (s1 : Int) (a1 : Int32) (w0 : va_W) : Int32 → va_W → Prop := fun r u => w0 = u ∧ ((0 ≤ r.toInt ∧ r.toInt ≤ 9 ∧ gi u 12 (10 * a1.toInt + 10).toNat = r))
set_option maxHeartbeats 4000000 in
set_option maxRecDepth 100000 in
theorem k_X12_streetOf_2 (l : Launch) (adK adV : Nat → Nat) (dC : Nat → ClassId) (dI : Nat → Nat → Nat) (cy : Nat → ClassId) (ad : Nat → Nat) (B : Int) (hB0 : 100000 ≤ B) (hB1 : B ≤ 1073741824) (qr : Nat) (s1 : Int)  (a1 : Int32) (ra1 : 0 ≤ a1.toInt) (ta1 : a1.toInt ≤ 11) (w0 : va_W) (sz : Nat) (hT : TW ksM ad cy B qr 12 w0)  : Met l yX12_streetOf wsX12_streetOf ({ frames := 1, cells := 0, slots := 0, locals := 12 }) (va_Pc [.ref (ad 0), .int a1, .int 0] (wpreS adK adV dC dI cy sz w0)) (va_Qi (P_X12_streetOf_2 ad cy B qr s1 a1 w0) (fun u : va_W => wpost dC dI cy (va_A w0 sz) u) (va_A w0 sz)) 0 0 (va_A w0 sz) := by
  refine Met.ofW (cc := cX12_streetOf) (maxL := 3) (ret := (some .int)) (by decide) rfl ?_
  intro p e s m args below meth c s₁ Bk hml hv
  obtain ⟨rfl, ⟨hsz, hP, hK, hD0⟩, hE, hSR⟩ := hv
  have hx := Bk.exec
  have hb := Bk.bytes
  have hr := Bk.returns
  have hlocks := Bk.notSynchronized
  have hC : CallFix p m c cX12_streetOf 3 s _ wsX12_streetOf RX12 := ⟨hx, hb, hml, findClass_of_methodNamed Bk.named, atoms_spec (ws := wsX12_streetOf) Bk.pre⟩
  subst hsz
  have hD := hD0.self (sz := s.heap.size)
  generalize hAe : va_A w0 s.heap.size = A at hD hE ⊢
  have hA : ∀ q : Nat, s.heap.size ≤ q → A q := fun q h => by rw [← hAe]; exact Or.inr h
  have hw : Wd dC dI A s.heap s.heap [] w0 := ⟨hP, hD, va_S.rf⟩
  have hF : FE ksM ([] : List (Nat × Nat × Nat)) w0 w0 := FE.rf
  have hl := lv_entry ([.ref (ad 0), .int a1, .int 0]) (n := 3) (Nat.le_of_ble_eq_true rfl)
  rw [lg_entry_eq]
  generalize (lg_sl ([.ref (ad 0), .int a1, .int 0]) ++ List.replicate (3 - (lg_sl ([.ref (ad 0), .int a1, .int 0])).length) Slot.unset).toArray = ls at hl ⊢
  have hl : lv_has ls 3 [(0, .ref (ad 0)), (1, .int a1), (2, .int 0)] := hl
  generalize hloc : ([] : List Loc) = locs at hw ⊢
  have hinX12 : ∀ w ∈ u_ws RX12 TX12 42, w ∈ wsX12_streetOf := fun _ h => List.mem_cons_of_mem _ (List.mem_append_right _ (h))
  refine lv_aload_n hx hb dX12_streetOf_0 rfl (lv_at hl 0 rfl) ?_
  refine tk_getA hC hK hw hT hinX12 kM_at0 (by decide) rfl 26 (by decide) (List.mem_of_getElem? (i := 1) rfl) rfl rfl dX12_streetOf_1 ?_
  refine lv_bipush (v := 10) hx hb dX12_streetOf_4 (by decide) ?_
  refine lv_bipush (v := 10) hx hb dX12_streetOf_6 (by decide) ?_
  refine lv_iload_n hx hb dX12_streetOf_8 rfl (lv_at hl 1 rfl) ?_
  refine lv_imul hx hb dX12_streetOf_9 ?_
  refine lv_topi (fun x1 ex1 => ?_)
  have ex1 : x1.toInt = (10 : Int) * a1.toInt := by rw [ex1]; exact wk_mul (show (-2147483648) ≤ (10 : Int) * a1.toInt by omega) (show (10 : Int) * a1.toInt ≤ 2147483647 by omega)
  refine lv_iadd hx hb dX12_streetOf_10 ?_
  refine lv_topi (fun x2 ex2 => ?_)
  have ex2 : x2.toInt = (10 : Int) + x1.toInt := by rw [ex2]; exact wk_add (show (-2147483648) ≤ (10 : Int) + x1.toInt by omega) (show (10 : Int) + x1.toInt ≤ 2147483647 by omega)
  refine lv_iload_n hx hb dX12_streetOf_11 rfl (lv_at hl 2 rfl) ?_
  refine lv_iadd hx hb dX12_streetOf_12 ?_
  refine lv_topi (fun x3 ex3 => ?_)
  have ex3 : x3.toInt = x2.toInt + (0 : Int) := by rw [ex3]; exact wk_add (show (-2147483648) ≤ x2.toInt + (0 : Int) by omega) (show x2.toInt + (0 : Int) ≤ 2147483647 by omega)
  refine tk_ialdR hC hK hw hT kM_at12 rfl (show 0 ≤ x3.toInt by omega) (show x3.toInt < 296 by omega) dX12_streetOf_13 (fun x4 c5 Ex4 => ?_)
  have c5 : gi w0 12 (10 * a1.toInt + 10).toNat = x4 := (congrArg (gi w0 12) (congrArg Int.toNat (show 10 * a1.toInt + 10 = x3.toInt by omega))).trans c5
  have bx4 := tk_rgI rfl 10 10 12 0 9 (by decide +kernel) ⟨(a1.toInt - 0).toNat, by omega, show x3.toInt.toNat = 10 + 10 * (a1.toInt - 0).toNat by omega⟩ Ex4
  exact tk_iret hC hr hlocks hK ⟨rfl, ⟨(show 0 ≤ x4.toInt by omega), (show x4.toInt ≤ 9 by omega), c5⟩⟩ hw dX12_streetOf_14
abbrev P_X12_streetOf_3 (ad : Nat → Nat) (cy : Nat → ClassId) (B : Int) (qr : Nat) (s1 : Int) (a1 : Int32) (w0 : va_W) : Int32 → va_W → Prop := fun r u => w0 = u ∧ ((0 ≤ r.toInt ∧ r.toInt ≤ 9 ∧ gi u 12 (10 * a1.toInt + 11).toNat = r))
set_option maxHeartbeats 4000000 in
set_option maxRecDepth 100000 in
theorem k_X12_streetOf_3 (l : Launch) (adK adV : Nat → Nat) (dC : Nat → ClassId) (dI : Nat → Nat → Nat) (cy : Nat → ClassId) (ad : Nat → Nat) (B : Int) (hB0 : 100000 ≤ B) (hB1 : B ≤ 1073741824) (qr : Nat) (s1 : Int)  (a1 : Int32) (ra1 : 0 ≤ a1.toInt) (ta1 : a1.toInt ≤ 11) (w0 : va_W) (sz : Nat) (hT : TW ksM ad cy B qr 12 w0)  : Met l yX12_streetOf wsX12_streetOf ({ frames := 1, cells := 0, slots := 0, locals := 12 }) (va_Pc [.ref (ad 0), .int a1, .int 1] (wpreS adK adV dC dI cy sz w0)) (va_Qi (P_X12_streetOf_3 ad cy B qr s1 a1 w0) (fun u : va_W => wpost dC dI cy (va_A w0 sz) u) (va_A w0 sz)) 0 0 (va_A w0 sz) := by
  refine Met.ofW (cc := cX12_streetOf) (maxL := 3) (ret := (some .int)) (by decide) rfl ?_
  intro p e s m args below meth c s₁ Bk hml hv
  obtain ⟨rfl, ⟨hsz, hP, hK, hD0⟩, hE, hSR⟩ := hv
  have hx := Bk.exec
  have hb := Bk.bytes
  have hr := Bk.returns
  have hlocks := Bk.notSynchronized
  have hC : CallFix p m c cX12_streetOf 3 s _ wsX12_streetOf RX12 := ⟨hx, hb, hml, findClass_of_methodNamed Bk.named, atoms_spec (ws := wsX12_streetOf) Bk.pre⟩
  subst hsz
  have hD := hD0.self (sz := s.heap.size)
  generalize hAe : va_A w0 s.heap.size = A at hD hE ⊢
  have hA : ∀ q : Nat, s.heap.size ≤ q → A q := fun q h => by rw [← hAe]; exact Or.inr h
  have hw : Wd dC dI A s.heap s.heap [] w0 := ⟨hP, hD, va_S.rf⟩
  have hF : FE ksM ([] : List (Nat × Nat × Nat)) w0 w0 := FE.rf
  have hl := lv_entry ([.ref (ad 0), .int a1, .int 1]) (n := 3) (Nat.le_of_ble_eq_true rfl)
  rw [lg_entry_eq]
  generalize (lg_sl ([.ref (ad 0), .int a1, .int 1]) ++ List.replicate (3 - (lg_sl ([.ref (ad 0), .int a1, .int 1])).length) Slot.unset).toArray = ls at hl ⊢
  have hl : lv_has ls 3 [(0, .ref (ad 0)), (1, .int a1), (2, .int 1)] := hl
  generalize hloc : ([] : List Loc) = locs at hw ⊢
  have hinX12 : ∀ w ∈ u_ws RX12 TX12 42, w ∈ wsX12_streetOf := fun _ h => List.mem_cons_of_mem _ (List.mem_append_right _ (h))
  refine lv_aload_n hx hb dX12_streetOf_0 rfl (lv_at hl 0 rfl) ?_
  refine tk_getA hC hK hw hT hinX12 kM_at0 (by decide) rfl 26 (by decide) (List.mem_of_getElem? (i := 1) rfl) rfl rfl dX12_streetOf_1 ?_
  refine lv_bipush (v := 10) hx hb dX12_streetOf_4 (by decide) ?_
  refine lv_bipush (v := 10) hx hb dX12_streetOf_6 (by decide) ?_
  refine lv_iload_n hx hb dX12_streetOf_8 rfl (lv_at hl 1 rfl) ?_
  refine lv_imul hx hb dX12_streetOf_9 ?_
  refine lv_topi (fun x1 ex1 => ?_)
  have ex1 : x1.toInt = (10 : Int) * a1.toInt := by rw [ex1]; exact wk_mul (show (-2147483648) ≤ (10 : Int) * a1.toInt by omega) (show (10 : Int) * a1.toInt ≤ 2147483647 by omega)
  refine lv_iadd hx hb dX12_streetOf_10 ?_
  refine lv_topi (fun x2 ex2 => ?_)
  have ex2 : x2.toInt = (10 : Int) + x1.toInt := by rw [ex2]; exact wk_add (show (-2147483648) ≤ (10 : Int) + x1.toInt by omega) (show (10 : Int) + x1.toInt ≤ 2147483647 by omega)
  refine lv_iload_n hx hb dX12_streetOf_11 rfl (lv_at hl 2 rfl) ?_
  refine lv_iadd hx hb dX12_streetOf_12 ?_
  refine lv_topi (fun x3 ex3 => ?_)
  have ex3 : x3.toInt = x2.toInt + (1 : Int) := by rw [ex3]; exact wk_add (show (-2147483648) ≤ x2.toInt + (1 : Int) by omega) (show x2.toInt + (1 : Int) ≤ 2147483647 by omega)
  refine tk_ialdR hC hK hw hT kM_at12 rfl (show 0 ≤ x3.toInt by omega) (show x3.toInt < 296 by omega) dX12_streetOf_13 (fun x4 c5 Ex4 => ?_)
  have c5 : gi w0 12 (10 * a1.toInt + 11).toNat = x4 := (congrArg (gi w0 12) (congrArg Int.toNat (show 10 * a1.toInt + 11 = x3.toInt by omega))).trans c5
  have bx4 := tk_rgI rfl 11 10 12 0 9 (by decide +kernel) ⟨(a1.toInt - 0).toNat, by omega, show x3.toInt.toNat = 11 + 10 * (a1.toInt - 0).toNat by omega⟩ Ex4
  exact tk_iret hC hr hlocks hK ⟨rfl, ⟨(show 0 ≤ x4.toInt by omega), (show x4.toInt ≤ 9 by omega), c5⟩⟩ hw dX12_streetOf_14
abbrev P_X12_isAt_1 (ad : Nat → Nat) (cy : Nat → ClassId) (B : Int) (qr : Nat) (s1 : Int) (a1 : Int32) (a2 : Int32) (w0 : va_W) : Int32 → va_W → Prop := fun r u => w0 = u ∧ ((r = 0 ∧ (¬ mAt w0 a1.toInt a2.toInt)) ∨ (r = 1 ∧ gi u 12 (10 * a1.toInt + 10).toNat = a2 ∧ (mAt w0 a1.toInt a2.toInt)) ∨ (r = 1 ∧ gi u 12 (10 * a1.toInt + 11).toNat = a2 ∧ (mAt w0 a1.toInt a2.toInt)))
set_option maxHeartbeats 4000000 in
set_option maxRecDepth 100000 in
theorem k_X12_isAt_1 (l : Launch) (adK adV : Nat → Nat) (dC : Nat → ClassId) (dI : Nat → Nat → Nat) (cy : Nat → ClassId) (ad : Nat → Nat) (B : Int) (hB0 : 100000 ≤ B) (hB1 : B ≤ 1073741824) (qr : Nat) (s1 : Int)  (a1 : Int32) (ra1 : 0 ≤ a1.toInt) (ta1 : a1.toInt ≤ 11) (a2 : Int32) (ra2 : 0 ≤ a2.toInt) (ta2 : a2.toInt ≤ 9) (w0 : va_W) (sz : Nat) (hT : TW ksM ad cy B qr 12 w0)  : Met l yX12_isAt wsX12_isAt ({ frames := 2, cells := 0, slots := 0, locals := 34 }) (va_Pc [.ref (ad 0), .int a1, .int a2] (wpreS adK adV dC dI cy sz w0)) (va_Qi (P_X12_isAt_1 ad cy B qr s1 a1 a2 w0) (fun u : va_W => wpost dC dI cy (va_A w0 sz) u) (va_A w0 sz)) 0 0 (va_A w0 sz) := by
  refine Met.ofW (cc := cX12_isAt) (maxL := 3) (ret := (some .boolean)) (by decide) rfl ?_
  intro p e s m args below meth c s₁ Bk hml hv
  obtain ⟨rfl, ⟨hsz, hP, hK, hD0⟩, hE, hSR⟩ := hv
  have hx := Bk.exec
  have hb := Bk.bytes
  have hr := Bk.returns
  have hlocks := Bk.notSynchronized
  have hC : CallFix p m c cX12_isAt 3 s _ wsX12_isAt RX12 := ⟨hx, hb, hml, findClass_of_methodNamed Bk.named, atoms_spec (ws := wsX12_isAt) Bk.pre⟩
  subst hsz
  have hD := hD0.self (sz := s.heap.size)
  generalize hAe : va_A w0 s.heap.size = A at hD hE ⊢
  have hA : ∀ q : Nat, s.heap.size ≤ q → A q := fun q h => by rw [← hAe]; exact Or.inr h
  have hw : Wd dC dI A s.heap s.heap [] w0 := ⟨hP, hD, va_S.rf⟩
  have hF : FE ksM ([] : List (Nat × Nat × Nat)) w0 w0 := FE.rf
  have hl := lv_entry ([.ref (ad 0), .int a1, .int a2]) (n := 3) (Nat.le_of_ble_eq_true rfl)
  rw [lg_entry_eq]
  generalize (lg_sl ([.ref (ad 0), .int a1, .int a2]) ++ List.replicate (3 - (lg_sl ([.ref (ad 0), .int a1, .int a2])).length) Slot.unset).toArray = ls at hl ⊢
  have hl : lv_has ls 3 [(0, .ref (ad 0)), (1, .int a1), (2, .int a2)] := hl
  generalize hloc : ([] : List Loc) = locs at hw ⊢
  refine lv_aload_n hx hb dX12_isAt_0 rfl (lv_at hl 0 rfl) ?_
  refine lv_iload_n hx hb dX12_isAt_1 rfl (lv_at hl 1 rfl) ?_
  refine lv_iconst (v := 0) hx hb dX12_isAt_2 (by decide) ?_
  refine tk_Vi hC hK hw hT hA hE hSR kM_at0 (by decide) rfl (k_X12_streetOf_2 l adK adV dC dI cy ad B (by omega) (by omega) qr s1   a1 (show 0 ≤ a1.toInt by omega) (show a1.toInt ≤ 11 by omega) w0 s.heap.size hT ) (cwV 2 hC.2.2.2.2 gX12_isAt_X12_streetOf rfl rfl rfl (by decide +kernel) ⟨Nat.le_of_ble_eq_true rfl, Nat.le_of_ble_eq_true rfl⟩) rfl hl.1 rfl (Nat.le_of_ble_eq_true rfl) dX12_isAt_3 (fun r1 w3 H locs hp2 hw => ?_)
  obtain ⟨rfl, hg8⟩ := hp2
  obtain ⟨g5, g6, c7⟩ := hg8
  refine lv_iload_n hx hb dX12_isAt_6 rfl (lv_at hl 2 rfl) ?_
  refine lv_icmp_eq (tgt := 20) hx hb dX12_isAt_7 (by decide) (fun c9 => ?_) (fun c9 => ?_)
  · have c9 : r1.toInt = a2.toInt := wk_eq.mp c9
    refine lv_iconst (v := 1) hx hb dX12_isAt_20 (by decide) ?_
    refine lv_goto (tgt := 25) hx hb dX12_isAt_21 (by decide) ?_
    exact tk_zret hC hr rfl hlocks hK ⟨rfl, (Or.inr (Or.inl ⟨rfl, (c7.trans (wk_eq.mpr (show r1.toInt = a2.toInt by omega))), (by unfold mAt; simp only [c7]; omega)⟩))⟩ hw dX12_isAt_25
  · have c9 : ¬ r1.toInt = a2.toInt := wk_eqF c9
    refine lv_aload_n hx hb dX12_isAt_10 rfl (lv_at hl 0 rfl) ?_
    refine lv_iload_n hx hb dX12_isAt_11 rfl (lv_at hl 1 rfl) ?_
    refine lv_iconst (v := 1) hx hb dX12_isAt_12 (by decide) ?_
    refine tk_Vi hC hK hw hT hA hE hSR kM_at0 (by decide) rfl (k_X12_streetOf_3 l adK adV dC dI cy ad B (by omega) (by omega) qr s1   a1 (show 0 ≤ a1.toInt by omega) (show a1.toInt ≤ 11 by omega) w0 H.size hT ) (cwV 2 hC.2.2.2.2 gX12_isAt_X12_streetOf rfl rfl rfl (by decide +kernel) ⟨Nat.le_of_ble_eq_true rfl, Nat.le_of_ble_eq_true rfl⟩) rfl hl.1 rfl (Nat.le_of_ble_eq_true rfl) dX12_isAt_13 (fun r10 w12 H locs hp11 hw => ?_)
    obtain ⟨rfl, hg17⟩ := hp11
    obtain ⟨g14, g15, c16⟩ := hg17
    refine lv_iload_n hx hb dX12_isAt_16 rfl (lv_at hl 2 rfl) ?_
    refine lv_icmp_ne (tgt := 24) hx hb dX12_isAt_17 (by decide) (fun c18 => ?_) (fun c18 => ?_)
    · have c18 : ¬ r10.toInt = a2.toInt := wk_eqF c18
      refine lv_iconst (v := 0) hx hb dX12_isAt_24 (by decide) ?_
      exact tk_zret hC hr rfl hlocks hK ⟨rfl, (Or.inl ⟨rfl, (by unfold mAt; simp only [c7, c16]; omega)⟩)⟩ hw dX12_isAt_25
    · have c18 : r10.toInt = a2.toInt := wk_eq.mp c18
      refine lv_iconst (v := 1) hx hb dX12_isAt_20 (by decide) ?_
      refine lv_goto (tgt := 25) hx hb dX12_isAt_21 (by decide) ?_
      exact tk_zret hC hr rfl hlocks hK ⟨rfl, (Or.inr (Or.inr ⟨rfl, (c16.trans (wk_eq.mpr (show r10.toInt = a2.toInt by omega))), (by unfold mAt; simp only [c7, c16]; omega)⟩))⟩ hw dX12_isAt_25
abbrev P_X12_isCorner_1 (ad : Nat → Nat) (cy : Nat → ClassId) (B : Int) (qr : Nat) (s1 : Int) (a1 : Int32) (w0 : va_W) : Int32 → va_W → Prop := fun r u => w0 = u ∧ ((r = 0) ∨ (r = 1 ∧ 0 ≤ a1.toInt ∧ a1.toInt ≤ 9 ∧ (∃ y : Int32, gi u 12 0 = y ∧ 1 ≤ y.toInt ∧ y.toInt ≤ 10)))
set_option maxHeartbeats 4000000 in
set_option maxRecDepth 100000 in
theorem k_X12_isCorner_1 (l : Launch) (adK adV : Nat → Nat) (dC : Nat → ClassId) (dI : Nat → Nat → Nat) (cy : Nat → ClassId) (ad : Nat → Nat) (B : Int) (hB0 : 100000 ≤ B) (hB1 : B ≤ 1073741824) (qr : Nat) (s1 : Int)  (a1 : Int32) (w0 : va_W) (sz : Nat) (hT : TW ksM ad cy B qr 12 w0)  : Met l yX12_isCorner wsX12_isCorner ({ frames := 1, cells := 0, slots := 0, locals := 12 }) (va_Pc [.ref (ad 0), .int a1] (wpreS adK adV dC dI cy sz w0)) (va_Qi (P_X12_isCorner_1 ad cy B qr s1 a1 w0) (fun u : va_W => wpost dC dI cy (va_A w0 sz) u) (va_A w0 sz)) 0 0 (va_A w0 sz) := by
  refine Met.ofW (cc := cX12_isCorner) (maxL := 2) (ret := (some .boolean)) (by decide) rfl ?_
  intro p e s m args below meth c s₁ Bk hml hv
  obtain ⟨rfl, ⟨hsz, hP, hK, hD0⟩, hE, hSR⟩ := hv
  have hx := Bk.exec
  have hb := Bk.bytes
  have hr := Bk.returns
  have hlocks := Bk.notSynchronized
  have hC : CallFix p m c cX12_isCorner 2 s _ wsX12_isCorner RX12 := ⟨hx, hb, hml, findClass_of_methodNamed Bk.named, atoms_spec (ws := wsX12_isCorner) Bk.pre⟩
  subst hsz
  have hD := hD0.self (sz := s.heap.size)
  generalize hAe : va_A w0 s.heap.size = A at hD hE ⊢
  have hA : ∀ q : Nat, s.heap.size ≤ q → A q := fun q h => by rw [← hAe]; exact Or.inr h
  have hw : Wd dC dI A s.heap s.heap [] w0 := ⟨hP, hD, va_S.rf⟩
  have hF : FE ksM ([] : List (Nat × Nat × Nat)) w0 w0 := FE.rf
  have hl := lv_entry ([.ref (ad 0), .int a1]) (n := 2) (Nat.le_of_ble_eq_true rfl)
  rw [lg_entry_eq]
  generalize (lg_sl ([.ref (ad 0), .int a1]) ++ List.replicate (2 - (lg_sl ([.ref (ad 0), .int a1])).length) Slot.unset).toArray = ls at hl ⊢
  have hl : lv_has ls 2 [(0, .ref (ad 0)), (1, .int a1)] := hl
  generalize hloc : ([] : List Loc) = locs at hw ⊢
  have hinX12 : ∀ w ∈ u_ws RX12 TX12 42, w ∈ wsX12_isCorner := fun _ h => List.mem_cons_of_mem _ (List.mem_append_right _ (h))
  have J18 : ∀ (H : Heap) (locs : List Loc) (ls : Array Slot), Wd dC dI A s.heap H locs w0 → lv_has ls 2 [(0, .ref (ad 0)), (1, .int a1)] → W p l e ({ frames := 1, cells := 0, slots := 0, locals := 12 }) s m (List.toArray [.ref (ad 0), .int a1]) below meth c H locs 0 0 (MQ below (va_Qi (P_X12_isCorner_1 ad cy B qr s1 a1 w0) (fun u : va_W => wpost dC dI cy A u) A) (List.toArray [.ref (ad 0), .int a1]) s 0 0 A) (F0 m 18 ls []) := by
    intro H locs ls hw hl
    refine lv_iconst (v := 0) hx hb dX12_isCorner_18 (by decide) ?_
    exact tk_zret hC hr rfl hlocks hK ⟨rfl, (Or.inl rfl)⟩ hw dX12_isCorner_19
  refine lv_iload_n hx hb dX12_isCorner_0 rfl (lv_at hl 1 rfl) ?_
  refine lv_if_lt (tgt := 18) hx hb dX12_isCorner_1 (by decide) (fun c1 => ?_) (fun c1 => ?_)
  · have c1 : a1.toInt < (0 : Int) := wk_lt.mp c1
    exact J18  s.heap locs ls    hw   (lv_sub hl [0, 1] rfl)
  · have c1 : (0 : Int) ≤ a1.toInt := wk_ltF c1
    refine lv_iload_n hx hb dX12_isCorner_4 rfl (lv_at hl 1 rfl) ?_
    refine lv_aload_n hx hb dX12_isCorner_5 rfl (lv_at hl 0 rfl) ?_
    refine tk_getA hC hK hw hT hinX12 kM_at0 (by decide) rfl 26 (by decide) (List.mem_of_getElem? (i := 1) rfl) rfl rfl dX12_isCorner_6 ?_
    refine lv_iconst (v := 0) hx hb dX12_isCorner_9 (by decide) ?_
    refine tk_ialdR hC hK hw hT kM_at12 rfl (by decide) (by decide) dX12_isCorner_10 (fun x2 c3 Ex2 => ?_)
    have bx2 := tk_rgI rfl 0 1 1 0 10 (by decide +kernel) ⟨0, by decide, by decide⟩ Ex2
    have c3 : gi w0 12 0 = x2 := c3
    refine lv_icmp_ge (tgt := 18) hx hb dX12_isCorner_11 (by decide) (fun c4 => ?_) (fun c4 => ?_)
    · have c4 : x2.toInt ≤ a1.toInt := wk_le.mp c4
      exact J18  s.heap locs ls    hw   (lv_sub hl [0, 1] rfl)
    · have c4 : a1.toInt < x2.toInt := wk_leF c4
      refine lv_iconst (v := 1) hx hb dX12_isCorner_14 (by decide) ?_
      refine lv_goto (tgt := 19) hx hb dX12_isCorner_15 (by decide) ?_
      exact tk_zret hC hr rfl hlocks hK ⟨rfl, (Or.inr ⟨rfl, (show 0 ≤ a1.toInt by omega), (show a1.toInt ≤ 9 by omega), ⟨x2, c3, (show 1 ≤ x2.toInt by omega), (show x2.toInt ≤ 10 by omega)⟩⟩)⟩ hw dX12_isCorner_19
abbrev P_X12_isHour_1 (ad : Nat → Nat) (cy : Nat → ClassId) (B : Int) (qr : Nat) (s1 : Int) (a0 : Int32) (w0 : va_W) : Int32 → va_W → Prop := fun r u => w0 = u ∧ ((r = 0) ∨ (r = 1 ∧ 0 ≤ a0.toInt ∧ a0.toInt ≤ 99999))
set_option maxHeartbeats 4000000 in
set_option maxRecDepth 100000 in
theorem k_X12_isHour_1 (l : Launch) (adK adV : Nat → Nat) (dC : Nat → ClassId) (dI : Nat → Nat → Nat) (cy : Nat → ClassId) (ad : Nat → Nat) (B : Int) (hB0 : 100000 ≤ B) (hB1 : B ≤ 1073741824) (qr : Nat) (s1 : Int)  (a0 : Int32) (w0 : va_W) (sz : Nat) (hT : TW ksM ad cy B qr 12 w0)  : Met l yX12_isHour wsX12_isHour ({ frames := 1, cells := 0, slots := 0, locals := 12 }) (va_Pc [.int a0] (wpreS adK adV dC dI cy sz w0)) (va_Qi (P_X12_isHour_1 ad cy B qr s1 a0 w0) (fun u : va_W => wpost dC dI cy (va_A w0 sz) u) (va_A w0 sz)) 0 0 (va_A w0 sz) := by
  refine Met.ofW (cc := cX12_isHour) (maxL := 1) (ret := (some .boolean)) (by decide) rfl ?_
  intro p e s m args below meth c s₁ Bk hml hv
  obtain ⟨rfl, ⟨hsz, hP, hK, hD0⟩, hE, hSR⟩ := hv
  have hx := Bk.exec
  have hb := Bk.bytes
  have hr := Bk.returns
  have hlocks := Bk.notSynchronized
  have hC : CallFix p m c cX12_isHour 1 s _ wsX12_isHour RX12 := ⟨hx, hb, hml, findClass_of_methodNamed Bk.named, atoms_spec (ws := wsX12_isHour) Bk.pre⟩
  subst hsz
  have hD := hD0.self (sz := s.heap.size)
  generalize hAe : va_A w0 s.heap.size = A at hD hE ⊢
  have hA : ∀ q : Nat, s.heap.size ≤ q → A q := fun q h => by rw [← hAe]; exact Or.inr h
  have hw : Wd dC dI A s.heap s.heap [] w0 := ⟨hP, hD, va_S.rf⟩
  have hF : FE ksM ([] : List (Nat × Nat × Nat)) w0 w0 := FE.rf
  have hl := lv_entry ([.int a0]) (n := 1) (Nat.le_of_ble_eq_true rfl)
  rw [lg_entry_eq]
  generalize (lg_sl ([.int a0]) ++ List.replicate (1 - (lg_sl ([.int a0])).length) Slot.unset).toArray = ls at hl ⊢
  have hl : lv_has ls 1 [(0, .int a0)] := hl
  generalize hloc : ([] : List Loc) = locs at hw ⊢
  have J14 : ∀ (H : Heap) (locs : List Loc) (ls : Array Slot), Wd dC dI A s.heap H locs w0 → lv_has ls 1 [(0, .int a0)] → W p l e ({ frames := 1, cells := 0, slots := 0, locals := 12 }) s m (List.toArray [.int a0]) below meth c H locs 0 0 (MQ below (va_Qi (P_X12_isHour_1 ad cy B qr s1 a0 w0) (fun u : va_W => wpost dC dI cy A u) A) (List.toArray [.int a0]) s 0 0 A) (F0 m 14 ls []) := by
    intro H locs ls hw hl
    refine lv_iconst (v := 0) hx hb dX12_isHour_14 (by decide) ?_
    exact tk_zret hC hr rfl hlocks hK ⟨rfl, (Or.inl rfl)⟩ hw dX12_isHour_15
  refine lv_iload_n hx hb dX12_isHour_0 rfl (lv_at hl 0 rfl) ?_
  refine lv_if_lt (tgt := 14) hx hb dX12_isHour_1 (by decide) (fun c1 => ?_) (fun c1 => ?_)
  · have c1 : a0.toInt < (0 : Int) := wk_lt.mp c1
    exact J14  s.heap locs ls    hw   (lv_sub hl [0] rfl)
  · have c1 : (0 : Int) ≤ a0.toInt := wk_ltF c1
    refine lv_iload_n hx hb dX12_isHour_4 rfl (lv_at hl 0 rfl) ?_
    refine lv_ldc (v := 99999) hx hb hC.2.2.2.1 (hC.2.2.2.2 _ (List.mem_of_getElem? (i := 1) rfl)) dX12_isHour_5 ?_
    refine lv_icmp_gt (tgt := 14) hx hb dX12_isHour_7 (by decide) (fun c2 => ?_) (fun c2 => ?_)
    · have c2 : (99999 : Int) < a0.toInt := wk_lt.mp c2
      exact J14  s.heap locs ls    hw   (lv_sub hl [0] rfl)
    · have c2 : a0.toInt ≤ (99999 : Int) := wk_ltF c2
      refine lv_iconst (v := 1) hx hb dX12_isHour_10 (by decide) ?_
      refine lv_goto (tgt := 15) hx hb dX12_isHour_11 (by decide) ?_
      exact tk_zret hC hr rfl hlocks hK ⟨rfl, (Or.inr ⟨rfl, (show 0 ≤ a0.toInt by omega), (show a0.toInt ≤ 99999 by omega)⟩)⟩ hw dX12_isHour_15
abbrev P_X12_isOf_1 (ad : Nat → Nat) (cy : Nat → ClassId) (B : Int) (qr : Nat) (s1 : Int) (a0 : Int32) (w0 : va_W) : Int32 → va_W → Prop := fun r u => w0 = u ∧ ((r = 0 ∧ (¬ mOf a0 (0 : Int32))) ∨ (r = 1 ∧ (mOf a0 (0 : Int32))))
set_option maxHeartbeats 4000000 in
set_option maxRecDepth 100000 in
theorem k_X12_isOf_1 (l : Launch) (adK adV : Nat → Nat) (dC : Nat → ClassId) (dI : Nat → Nat → Nat) (cy : Nat → ClassId) (ad : Nat → Nat) (B : Int) (hB0 : 100000 ≤ B) (hB1 : B ≤ 1073741824) (qr : Nat) (s1 : Int)  (a0 : Int32) (ra0 : 0 ≤ a0.toInt) (ta0 : a0.toInt ≤ 9) (w0 : va_W) (sz : Nat) (hT : TW ksM ad cy B qr 12 w0)  : Met l yX12_isOf wsX12_isOf ({ frames := 1, cells := 0, slots := 0, locals := 12 }) (va_Pc [.int a0, .int 0] (wpreS adK adV dC dI cy sz w0)) (va_Qi (P_X12_isOf_1 ad cy B qr s1 a0 w0) (fun u : va_W => wpost dC dI cy (va_A w0 sz) u) (va_A w0 sz)) 0 0 (va_A w0 sz) := by
  refine Met.ofW (cc := cX12_isOf) (maxL := 2) (ret := (some .boolean)) (by decide) rfl ?_
  intro p e s m args below meth c s₁ Bk hml hv
  obtain ⟨rfl, ⟨hsz, hP, hK, hD0⟩, hE, hSR⟩ := hv
  have hx := Bk.exec
  have hb := Bk.bytes
  have hr := Bk.returns
  have hlocks := Bk.notSynchronized
  have hC : CallFix p m c cX12_isOf 2 s _ wsX12_isOf RX12 := ⟨hx, hb, hml, findClass_of_methodNamed Bk.named, atoms_spec (ws := wsX12_isOf) Bk.pre⟩
  subst hsz
  have hD := hD0.self (sz := s.heap.size)
  generalize hAe : va_A w0 s.heap.size = A at hD hE ⊢
  have hA : ∀ q : Nat, s.heap.size ≤ q → A q := fun q h => by rw [← hAe]; exact Or.inr h
  have hw : Wd dC dI A s.heap s.heap [] w0 := ⟨hP, hD, va_S.rf⟩
  have hF : FE ksM ([] : List (Nat × Nat × Nat)) w0 w0 := FE.rf
  have hl := lv_entry ([.int a0, .int 0]) (n := 2) (Nat.le_of_ble_eq_true rfl)
  rw [lg_entry_eq]
  generalize (lg_sl ([.int a0, .int 0]) ++ List.replicate (2 - (lg_sl ([.int a0, .int 0])).length) Slot.unset).toArray = ls at hl ⊢
  have hl : lv_has ls 2 [(0, .int a0), (1, .int 0)] := hl
  generalize hloc : ([] : List Loc) = locs at hw ⊢
  refine lv_iload_n hx hb dX12_isOf_0 rfl (lv_at hl 0 rfl) ?_
  refine lv_iload_n hx hb dX12_isOf_1 rfl (lv_at hl 1 rfl) ?_
  refine lv_ishr hx hb dX12_isOf_2 ?_
  refine lv_topi (fun x1 ex1 => ?_)
  have bx1 : 0 ≤ x1.toInt ∧ x1.toInt ≤ a0.toInt := by rw [ex1]; exact wk_shr (by omega)
  refine lv_iconst (v := 1) hx hb dX12_isOf_3 (by decide) ?_
  refine lv_iand hx hb dX12_isOf_4 ?_
  refine lv_topi (fun x2 ex2 => ?_)
  have bx2 : 0 ≤ x2.toInt ∧ x2.toInt ≤ (1 : Int) := by rw [ex2]; exact wk_and (by decide)
  refine lv_iconst (v := 1) hx hb dX12_isOf_5 (by decide) ?_
  refine lv_icmp_ne (tgt := 13) hx hb dX12_isOf_6 (by decide) (fun c3 => ?_) (fun c3 => ?_)
  · have c3 : ¬ x2.toInt = (1 : Int) := wk_eqF c3
    refine lv_iconst (v := 0) hx hb dX12_isOf_13 (by decide) ?_
    exact tk_zret hC hr rfl hlocks hK ⟨rfl, (Or.inl ⟨rfl, (by unfold mOf; rw [← ex1, ← ex2]; omega)⟩)⟩ hw dX12_isOf_14
  · have c3 : x2.toInt = (1 : Int) := wk_eq.mp c3
    refine lv_iconst (v := 1) hx hb dX12_isOf_9 (by decide) ?_
    refine lv_goto (tgt := 14) hx hb dX12_isOf_10 (by decide) ?_
    exact tk_zret hC hr rfl hlocks hK ⟨rfl, (Or.inr ⟨rfl, (by unfold mOf; rw [← ex1, ← ex2]; omega)⟩)⟩ hw dX12_isOf_14
abbrev P_X12_isOf_2 (ad : Nat → Nat) (cy : Nat → ClassId) (B : Int) (qr : Nat) (s1 : Int) (a0 : Int32) (w0 : va_W) : Int32 → va_W → Prop := fun r u => w0 = u ∧ ((r = 0 ∧ (¬ mOf a0 (1 : Int32))) ∨ (r = 1 ∧ (mOf a0 (1 : Int32))))
set_option maxHeartbeats 4000000 in
set_option maxRecDepth 100000 in
theorem k_X12_isOf_2 (l : Launch) (adK adV : Nat → Nat) (dC : Nat → ClassId) (dI : Nat → Nat → Nat) (cy : Nat → ClassId) (ad : Nat → Nat) (B : Int) (hB0 : 100000 ≤ B) (hB1 : B ≤ 1073741824) (qr : Nat) (s1 : Int)  (a0 : Int32) (ra0 : 0 ≤ a0.toInt) (ta0 : a0.toInt ≤ 9) (w0 : va_W) (sz : Nat) (hT : TW ksM ad cy B qr 12 w0)  : Met l yX12_isOf wsX12_isOf ({ frames := 1, cells := 0, slots := 0, locals := 12 }) (va_Pc [.int a0, .int 1] (wpreS adK adV dC dI cy sz w0)) (va_Qi (P_X12_isOf_2 ad cy B qr s1 a0 w0) (fun u : va_W => wpost dC dI cy (va_A w0 sz) u) (va_A w0 sz)) 0 0 (va_A w0 sz) := by
  refine Met.ofW (cc := cX12_isOf) (maxL := 2) (ret := (some .boolean)) (by decide) rfl ?_
  intro p e s m args below meth c s₁ Bk hml hv
  obtain ⟨rfl, ⟨hsz, hP, hK, hD0⟩, hE, hSR⟩ := hv
  have hx := Bk.exec
  have hb := Bk.bytes
  have hr := Bk.returns
  have hlocks := Bk.notSynchronized
  have hC : CallFix p m c cX12_isOf 2 s _ wsX12_isOf RX12 := ⟨hx, hb, hml, findClass_of_methodNamed Bk.named, atoms_spec (ws := wsX12_isOf) Bk.pre⟩
  subst hsz
  have hD := hD0.self (sz := s.heap.size)
  generalize hAe : va_A w0 s.heap.size = A at hD hE ⊢
  have hA : ∀ q : Nat, s.heap.size ≤ q → A q := fun q h => by rw [← hAe]; exact Or.inr h
  have hw : Wd dC dI A s.heap s.heap [] w0 := ⟨hP, hD, va_S.rf⟩
  have hF : FE ksM ([] : List (Nat × Nat × Nat)) w0 w0 := FE.rf
  have hl := lv_entry ([.int a0, .int 1]) (n := 2) (Nat.le_of_ble_eq_true rfl)
  rw [lg_entry_eq]
  generalize (lg_sl ([.int a0, .int 1]) ++ List.replicate (2 - (lg_sl ([.int a0, .int 1])).length) Slot.unset).toArray = ls at hl ⊢
  have hl : lv_has ls 2 [(0, .int a0), (1, .int 1)] := hl
  generalize hloc : ([] : List Loc) = locs at hw ⊢
  refine lv_iload_n hx hb dX12_isOf_0 rfl (lv_at hl 0 rfl) ?_
  refine lv_iload_n hx hb dX12_isOf_1 rfl (lv_at hl 1 rfl) ?_
  refine lv_ishr hx hb dX12_isOf_2 ?_
  refine lv_topi (fun x1 ex1 => ?_)
  have bx1 : 0 ≤ x1.toInt ∧ x1.toInt ≤ a0.toInt := by rw [ex1]; exact wk_shr (by omega)
  refine lv_iconst (v := 1) hx hb dX12_isOf_3 (by decide) ?_
  refine lv_iand hx hb dX12_isOf_4 ?_
  refine lv_topi (fun x2 ex2 => ?_)
  have bx2 : 0 ≤ x2.toInt ∧ x2.toInt ≤ (1 : Int) := by rw [ex2]; exact wk_and (by decide)
  refine lv_iconst (v := 1) hx hb dX12_isOf_5 (by decide) ?_
  refine lv_icmp_ne (tgt := 13) hx hb dX12_isOf_6 (by decide) (fun c3 => ?_) (fun c3 => ?_)
  · have c3 : ¬ x2.toInt = (1 : Int) := wk_eqF c3
    refine lv_iconst (v := 0) hx hb dX12_isOf_13 (by decide) ?_
    exact tk_zret hC hr rfl hlocks hK ⟨rfl, (Or.inl ⟨rfl, (by unfold mOf; rw [← ex1, ← ex2]; omega)⟩)⟩ hw dX12_isOf_14
  · have c3 : x2.toInt = (1 : Int) := wk_eq.mp c3
    refine lv_iconst (v := 1) hx hb dX12_isOf_9 (by decide) ?_
    refine lv_goto (tgt := 14) hx hb dX12_isOf_10 (by decide) ?_
    exact tk_zret hC hr rfl hlocks hK ⟨rfl, (Or.inr ⟨rfl, (by unfold mOf; rw [← ex1, ← ex2]; omega)⟩)⟩ hw dX12_isOf_14
abbrev P_X12_hasSign_1 (ad : Nat → Nat) (cy : Nat → ClassId) (B : Int) (qr : Nat) (s1 : Int) (a1 : Int32) (a2 : Int32) (a3 : Int32) (w0 : va_W) : Int32 → va_W → Prop := fun r u => w0 = u ∧ ((r = 0 ∧ (¬ mSign w0 a1 a2.toInt a3.toInt)) ∨ (r = 0 ∧ gi u 12 (10 * a2.toInt + 10).toNat = a3 ∧ (¬ mSign w0 a1 a2.toInt a3.toInt)) ∨ (r = 1 ∧ (mSign w0 a1 a2.toInt a3.toInt)) ∨ (r = 1 ∧ gi u 12 (10 * a2.toInt + 10).toNat = a3 ∧ (mSign w0 a1 a2.toInt a3.toInt)))
set_option maxHeartbeats 4000000 in
set_option maxRecDepth 100000 in
theorem k_X12_hasSign_1 (l : Launch) (adK adV : Nat → Nat) (dC : Nat → ClassId) (dI : Nat → Nat → Nat) (cy : Nat → ClassId) (ad : Nat → Nat) (B : Int) (hB0 : 100000 ≤ B) (hB1 : B ≤ 1073741824) (qr : Nat) (s1 : Int)  (a1 : Int32) (ra1 : 0 ≤ a1.toInt) (ta1 : a1.toInt ≤ 9) (a2 : Int32) (ra2 : 0 ≤ a2.toInt) (ta2 : a2.toInt ≤ 11) (a3 : Int32) (ra3 : 0 ≤ a3.toInt) (ta3 : a3.toInt ≤ 9) (w0 : va_W) (sz : Nat) (hT : TW ksM ad cy B qr 12 w0)  : Met l yX12_hasSign wsX12_hasSign ({ frames := 2, cells := 0, slots := 0, locals := 34 }) (va_Pc [.ref (ad 0), .int a1, .int a2, .int a3] (wpreS adK adV dC dI cy sz w0)) (va_Qi (P_X12_hasSign_1 ad cy B qr s1 a1 a2 a3 w0) (fun u : va_W => wpost dC dI cy (va_A w0 sz) u) (va_A w0 sz)) 0 0 (va_A w0 sz) := by
  refine Met.ofW (cc := cX12_hasSign) (maxL := 4) (ret := (some .boolean)) (by decide) rfl ?_
  intro p e s m args below meth c s₁ Bk hml hv
  obtain ⟨rfl, ⟨hsz, hP, hK, hD0⟩, hE, hSR⟩ := hv
  have hx := Bk.exec
  have hb := Bk.bytes
  have hr := Bk.returns
  have hlocks := Bk.notSynchronized
  have hC : CallFix p m c cX12_hasSign 4 s _ wsX12_hasSign RX12 := ⟨hx, hb, hml, findClass_of_methodNamed Bk.named, atoms_spec (ws := wsX12_hasSign) Bk.pre⟩
  subst hsz
  have hD := hD0.self (sz := s.heap.size)
  generalize hAe : va_A w0 s.heap.size = A at hD hE ⊢
  have hA : ∀ q : Nat, s.heap.size ≤ q → A q := fun q h => by rw [← hAe]; exact Or.inr h
  have hw : Wd dC dI A s.heap s.heap [] w0 := ⟨hP, hD, va_S.rf⟩
  have hF : FE ksM ([] : List (Nat × Nat × Nat)) w0 w0 := FE.rf
  have hl := lv_entry ([.ref (ad 0), .int a1, .int a2, .int a3]) (n := 4) (Nat.le_of_ble_eq_true rfl)
  rw [lg_entry_eq]
  generalize (lg_sl ([.ref (ad 0), .int a1, .int a2, .int a3]) ++ List.replicate (4 - (lg_sl ([.ref (ad 0), .int a1, .int a2, .int a3])).length) Slot.unset).toArray = ls at hl ⊢
  have hl : lv_has ls 4 [(0, .ref (ad 0)), (1, .int a1), (2, .int a2), (3, .int a3)] := hl
  generalize hloc : ([] : List Loc) = locs at hw ⊢
  refine lv_iload_n hx hb dX12_hasSign_0 rfl (lv_at hl 1 rfl) ?_
  refine lv_aload_n hx hb dX12_hasSign_1 rfl (lv_at hl 0 rfl) ?_
  refine lv_iload_n hx hb dX12_hasSign_2 rfl (lv_at hl 2 rfl) ?_
  refine lv_iconst (v := 0) hx hb dX12_hasSign_3 (by decide) ?_
  refine tk_Vi hC hK hw hT hA hE hSR kM_at0 (by decide) rfl (k_X12_streetOf_2 l adK adV dC dI cy ad B (by omega) (by omega) qr s1   a2 (show 0 ≤ a2.toInt by omega) (show a2.toInt ≤ 11 by omega) w0 s.heap.size hT ) (cwV 2 hC.2.2.2.2 gX12_hasSign_X12_streetOf rfl rfl rfl (by decide +kernel) ⟨Nat.le_of_ble_eq_true rfl, Nat.le_of_ble_eq_true rfl⟩) rfl hl.1 rfl (Nat.le_of_ble_eq_true rfl) dX12_hasSign_4 (fun r1 w3 H locs hp2 hw => ?_)
  obtain ⟨rfl, hg8⟩ := hp2
  obtain ⟨g5, g6, c7⟩ := hg8
  refine lv_iload_n hx hb dX12_hasSign_7 rfl (lv_at hl 3 rfl) ?_
  refine lv_icmp_ne (tgt := 15) hx hb dX12_hasSign_8 (by decide) (fun c9 => ?_) (fun c9 => ?_)
  · have c9 : ¬ r1.toInt = a3.toInt := wk_eqF c9
    refine lv_iconst (v := 1) hx hb dX12_hasSign_15 (by decide) ?_
    refine tk_Si hC hK hw hT hA hE hSR (k_X12_isOf_2 l adK adV dC dI cy ad B (by omega) (by omega) qr s1   a1 (show 0 ≤ a1.toInt by omega) (show a1.toInt ≤ 9 by omega) w0 H.size hT ) (va_cwS 2 hC.2.2.2.2 gX12_hasSign_X12_isOf rfl rfl rfl (by decide +kernel) ⟨Nat.le_of_ble_eq_true rfl, Nat.le_of_ble_eq_true rfl⟩) rfl hl.1 rfl (Nat.le_of_ble_eq_true rfl) dX12_hasSign_16 (fun r10 w12 H locs hp11 hw => ?_)
    obtain ⟨rfl, hg16⟩ := hp11
    rcases hg16 with ⟨rfl, hq14⟩ | ⟨rfl, hq15⟩
    · exact tk_zret hC hr rfl hlocks hK ⟨rfl, (Or.inl ⟨rfl, (by unfold mSign; simp only [c7]; first | exact Or.inl ⟨by omega, by assumption⟩ | exact Or.inr ⟨by omega, by assumption⟩ | (rintro (⟨q1, q2⟩ | ⟨q1, q2⟩) <;> first | omega | contradiction))⟩)⟩ hw dX12_hasSign_19
    · exact tk_zret hC hr rfl hlocks hK ⟨rfl, (Or.inr (Or.inr (Or.inl ⟨rfl, (by unfold mSign; simp only [c7]; first | exact Or.inl ⟨by omega, by assumption⟩ | exact Or.inr ⟨by omega, by assumption⟩ | (rintro (⟨q1, q2⟩ | ⟨q1, q2⟩) <;> first | omega | contradiction))⟩)))⟩ hw dX12_hasSign_19
  · have c9 : r1.toInt = a3.toInt := wk_eq.mp c9
    refine lv_iconst (v := 0) hx hb dX12_hasSign_11 (by decide) ?_
    refine lv_goto (tgt := 16) hx hb dX12_hasSign_12 (by decide) ?_
    refine tk_Si hC hK hw hT hA hE hSR (k_X12_isOf_1 l adK adV dC dI cy ad B (by omega) (by omega) qr s1   a1 (show 0 ≤ a1.toInt by omega) (show a1.toInt ≤ 9 by omega) w0 H.size hT ) (va_cwS 2 hC.2.2.2.2 gX12_hasSign_X12_isOf rfl rfl rfl (by decide +kernel) ⟨Nat.le_of_ble_eq_true rfl, Nat.le_of_ble_eq_true rfl⟩) rfl hl.1 rfl (Nat.le_of_ble_eq_true rfl) dX12_hasSign_16 (fun r17 w19 H locs hp18 hw => ?_)
    obtain ⟨rfl, hg23⟩ := hp18
    rcases hg23 with ⟨rfl, hq21⟩ | ⟨rfl, hq22⟩
    · exact tk_zret hC hr rfl hlocks hK ⟨rfl, (Or.inr (Or.inl ⟨rfl, (c7.trans (wk_eq.mpr (show r1.toInt = a3.toInt by omega))), (by unfold mSign; simp only [c7]; first | exact Or.inl ⟨by omega, by assumption⟩ | exact Or.inr ⟨by omega, by assumption⟩ | (rintro (⟨q1, q2⟩ | ⟨q1, q2⟩) <;> first | omega | contradiction))⟩))⟩ hw dX12_hasSign_19
    · exact tk_zret hC hr rfl hlocks hK ⟨rfl, (Or.inr (Or.inr (Or.inr ⟨rfl, (c7.trans (wk_eq.mpr (show r1.toInt = a3.toInt by omega))), (by unfold mSign; simp only [c7]; first | exact Or.inl ⟨by omega, by assumption⟩ | exact Or.inr ⟨by omega, by assumption⟩ | (rintro (⟨q1, q2⟩ | ⟨q1, q2⟩) <;> first | omega | contradiction))⟩)))⟩ hw dX12_hasSign_19
abbrev P_X12_isClosed_1 (ad : Nat → Nat) (cy : Nat → ClassId) (B : Int) (qr : Nat) (s1 : Int) (a1 : Int32) (a2 : Int32) (w0 : va_W) : Int32 → va_W → Prop := fun r u => w0 = u ∧ ((r = 0 ∧ (¬ mCl w0 a1.toInt a2.toInt)) ∨ (r = 1 ∧ (∃ y : Int32, gi u 0 27 = y ∧ 1 ≤ y.toInt ∧ y.toInt ≤ 1) ∧ (∃ y : Int32, gi u 12 2 = y ∧ 1 ≤ y.toInt ∧ y.toInt ≤ 8) ∧ (mCl w0 a1.toInt a2.toInt)))
set_option maxHeartbeats 4000000 in
set_option maxRecDepth 100000 in
theorem k_X12_isClosed_1 (l : Launch) (adK adV : Nat → Nat) (dC : Nat → ClassId) (dI : Nat → Nat → Nat) (cy : Nat → ClassId) (ad : Nat → Nat) (B : Int) (hB0 : 100000 ≤ B) (hB1 : B ≤ 1073741824) (qr : Nat) (s1 : Int)  (a1 : Int32) (ra1 : 0 ≤ a1.toInt) (ta1 : a1.toInt ≤ 9) (a2 : Int32) (ra2 : 0 ≤ a2.toInt) (ta2 : a2.toInt ≤ 359) (w0 : va_W) (sz : Nat) (hT : TW ksM ad cy B qr 12 w0)  : Met l yX12_isClosed wsX12_isClosed ({ frames := 1, cells := 0, slots := 0, locals := 12 }) (va_Pc [.ref (ad 0), .int a1, .int a2] (wpreS adK adV dC dI cy sz w0)) (va_Qi (P_X12_isClosed_1 ad cy B qr s1 a1 a2 w0) (fun u : va_W => wpost dC dI cy (va_A w0 sz) u) (va_A w0 sz)) 0 0 (va_A w0 sz) := by
  refine Met.ofW (cc := cX12_isClosed) (maxL := 4) (ret := (some .boolean)) (by decide) rfl ?_
  intro p e s m args below meth c s₁ Bk hml hv
  obtain ⟨rfl, ⟨hsz, hP, hK, hD0⟩, hE, hSR⟩ := hv
  have hx := Bk.exec
  have hb := Bk.bytes
  have hr := Bk.returns
  have hlocks := Bk.notSynchronized
  have hC : CallFix p m c cX12_isClosed 4 s _ wsX12_isClosed RX12 := ⟨hx, hb, hml, findClass_of_methodNamed Bk.named, atoms_spec (ws := wsX12_isClosed) Bk.pre⟩
  subst hsz
  have hD := hD0.self (sz := s.heap.size)
  generalize hAe : va_A w0 s.heap.size = A at hD hE ⊢
  have hA : ∀ q : Nat, s.heap.size ≤ q → A q := fun q h => by rw [← hAe]; exact Or.inr h
  have hw : Wd dC dI A s.heap s.heap [] w0 := ⟨hP, hD, va_S.rf⟩
  have hF : FE ksM ([] : List (Nat × Nat × Nat)) w0 w0 := FE.rf
  have hl := lv_entry ([.ref (ad 0), .int a1, .int a2]) (n := 4) (Nat.le_of_ble_eq_true rfl)
  rw [lg_entry_eq]
  generalize (lg_sl ([.ref (ad 0), .int a1, .int a2]) ++ List.replicate (4 - (lg_sl ([.ref (ad 0), .int a1, .int a2])).length) Slot.unset).toArray = ls at hl ⊢
  have hl : lv_has ls 4 [(0, .ref (ad 0)), (1, .int a1), (2, .int a2)] := hl
  generalize hloc : ([] : List Loc) = locs at hw ⊢
  have hinX12 : ∀ w ∈ u_ws RX12 TX12 42, w ∈ wsX12_isClosed := fun _ h => List.mem_cons_of_mem _ (List.mem_append_right _ (h))
  have L2 : ∀ (n2 : Nat) (v2_3 : Int32) (H : Heap) (locs : List Loc) (ls : Array Slot), 0 ≤ a1.toInt → a1.toInt ≤ 9 → 0 ≤ a2.toInt → a2.toInt ≤ 359 → 0 ≤ v2_3.toInt → v2_3.toInt ≤ 8 → (∀ k : Int, 0 ≤ k → k < v2_3.toInt → ¬ mCl1 w0 k a1.toInt a2.toInt) → (8 - v2_3.toInt).toNat < n2 → Wd dC dI A s.heap H locs w0 → lv_has ls 4 [(0, .ref (ad 0)), (1, .int a1), (2, .int a2), (3, .int v2_3)] → W p l e ({ frames := 1, cells := 0, slots := 0, locals := 12 }) s m (List.toArray [.ref (ad 0), .int a1, .int a2]) below meth c H locs 0 0 (MQ below (va_Qi (P_X12_isClosed_1 ad cy B qr s1 a1 a2 w0) (fun u : va_W => wpost dC dI cy A u) A) (List.toArray [.ref (ad 0), .int a1, .int a2]) s 0 0 A) (F0 m 2 ls []) := by
    intro n2
    induction n2 with
    | zero => intro v2_3 H locs ls r1 t2 r3 t4 r5 t6 hcr2_0 hm2 hw hl; omega
    | succ n2 ih2 =>
      intro v2_3 H locs ls r1 t2 r3 t4 r5 t6 hcr2_0 hm2 hw hl
      refine lv_iload_n hx hb dX12_isClosed_2 rfl (lv_at hl 3 rfl) ?_
      refine lv_aload_n hx hb dX12_isClosed_3 rfl (lv_at hl 0 rfl) ?_
      refine tk_getA hC hK hw hT hinX12 kM_at0 (by decide) rfl 26 (by decide) (List.mem_of_getElem? (i := 1) rfl) rfl rfl dX12_isClosed_4 ?_
      refine lv_iconst (v := 2) hx hb dX12_isClosed_7 (by decide) ?_
      refine tk_ialdR hC hK hw hT kM_at12 rfl (by decide) (by decide) dX12_isClosed_8 (fun x7 c8 Ex7 => ?_)
      have bx7 := tk_rgI rfl 2 1 1 0 8 (by decide +kernel) ⟨0, by decide, by decide⟩ Ex7
      have c8 : gi w0 12 2 = x7 := c8
      refine lv_icmp_ge (tgt := 61) hx hb dX12_isClosed_9 (by decide) (fun c9 => ?_) (fun c9 => ?_)
      · have c9 : x7.toInt ≤ v2_3.toInt := wk_le.mp c9
        refine lv_iconst (v := 0) hx hb dX12_isClosed_61 (by decide) ?_
        exact tk_zret hC hr rfl hlocks hK ⟨rfl, (Or.inl ⟨rfl, (by first | exact mCl_no hcr2_0 (by simp only [c8]; omega) | exact mCl_off (by simp only [c8]; omega))⟩)⟩ hw dX12_isClosed_62
      · have c9 : v2_3.toInt < x7.toInt := wk_leF c9
        refine lv_aload_n hx hb dX12_isClosed_12 rfl (lv_at hl 0 rfl) ?_
        refine tk_geti hC hK hw hT hinX12 kM_at0 (by decide) rfl 27 (by decide) (List.mem_of_getElem? (i := 2) rfl) rfl rfl dX12_isClosed_13 (fun x10 c11 rx10 tx10 => ?_)
        refine lv_if_eq (tgt := 61) hx hb dX12_isClosed_16 (by decide) (fun c12 => ?_) (fun c12 => ?_)
        · have c12 : x10.toInt = (0 : Int) := wk_eq.mp c12
          refine lv_iconst (v := 0) hx hb dX12_isClosed_61 (by decide) ?_
          exact tk_zret hC hr rfl hlocks hK ⟨rfl, (Or.inl ⟨rfl, (by first | exact mCl_no hcr2_0 (by simp only [c8, c11]; omega) | exact mCl_off (by simp only [c8, c11]; omega))⟩)⟩ hw dX12_isClosed_62
        · have c12 : ¬ x10.toInt = (0 : Int) := wk_eqF c12
          refine lv_aload_n hx hb dX12_isClosed_19 rfl (lv_at hl 0 rfl) ?_
          refine tk_getA hC hK hw hT hinX12 kM_at0 (by decide) rfl 26 (by decide) (List.mem_of_getElem? (i := 1) rfl) rfl rfl dX12_isClosed_20 ?_
          refine lv_sipush (v := 140) hx hb dX12_isClosed_23 (by decide) ?_
          refine lv_iconst (v := 2) hx hb dX12_isClosed_26 (by decide) ?_
          refine lv_iload_n hx hb dX12_isClosed_27 rfl (lv_at hl 3 rfl) ?_
          refine lv_imul hx hb dX12_isClosed_28 ?_
          refine lv_topi (fun x13 ex13 => ?_)
          have ex13 : x13.toInt = (2 : Int) * v2_3.toInt := by rw [ex13]; exact wk_mul (show (-2147483648) ≤ (2 : Int) * v2_3.toInt by omega) (show (2 : Int) * v2_3.toInt ≤ 2147483647 by omega)
          refine lv_iadd hx hb dX12_isClosed_29 ?_
          refine lv_topi (fun x14 ex14 => ?_)
          have ex14 : x14.toInt = (140 : Int) + x13.toInt := by rw [ex14]; exact wk_add (show (-2147483648) ≤ (140 : Int) + x13.toInt by omega) (show (140 : Int) + x13.toInt ≤ 2147483647 by omega)
          refine tk_ialdR hC hK hw hT kM_at12 rfl (show 0 ≤ x14.toInt by omega) (show x14.toInt < 296 by omega) dX12_isClosed_30 (fun x15 c16 Ex15 => ?_)
          have c16 : gi w0 12 (2 * v2_3.toInt + 140).toNat = x15 := (congrArg (gi w0 12) (congrArg Int.toNat (show 2 * v2_3.toInt + 140 = x14.toInt by omega))).trans c16
          refine lv_iload_n hx hb dX12_isClosed_31 rfl (lv_at hl 1 rfl) ?_
          refine lv_icmp_ne (tgt := 55) hx hb dX12_isClosed_32 (by decide) (fun c17 => ?_) (fun c17 => ?_)
          · have c17 : ¬ x15.toInt = a1.toInt := wk_eqF c17
            obtain ⟨x18, ex18⟩ : ∃ y : Int32, y = v2_3 + Int32.ofInt 1 := ⟨_, rfl⟩
            refine lv_iinc (v := x18) (lv' := [(3, .int x18), (0, .ref (ad 0)), (1, .int a1), (2, .int a2)]) hx hb dX12_isClosed_55 hl (k := 3) rfl ex18.symm (by decide) rfl (fun ls hl => ?_)
            have ex18 : x18.toInt = v2_3.toInt + 1 := by rw [ex18]; exact wk_add (y := 1) (show -2147483648 ≤ v2_3.toInt + 1 by omega) (show v2_3.toInt + 1 ≤ 2147483647 by omega)
            refine lv_goto (tgt := 2) hx hb dX12_isClosed_58 (by decide) ?_
            exact ih2 x18 H locs ls  (show 0 ≤ a1.toInt by omega) (show a1.toInt ≤ 9 by omega) (show 0 ≤ a2.toInt by omega) (show a2.toInt ≤ 359 by omega) (show 0 ≤ x18.toInt by omega) (show x18.toInt ≤ 8 by omega) (show ∀ k : Int, 0 ≤ k → k < x18.toInt → ¬ mCl1 w0 k a1.toInt a2.toInt from all_step hcr2_0 (show ¬ mCl1 w0 v2_3.toInt a1.toInt a2.toInt by unfold mCl1; simp only [c8, c11, c16]; omega) (by omega)) (show (8 - x18.toInt).toNat < n2 by omega) hw   (lv_sub hl [1, 2, 3, 0] rfl)
          · have c17 : x15.toInt = a1.toInt := wk_eq.mp c17
            refine lv_aload_n hx hb dX12_isClosed_35 rfl (lv_at hl 0 rfl) ?_
            refine tk_getA hC hK hw hT hinX12 kM_at0 (by decide) rfl 26 (by decide) (List.mem_of_getElem? (i := 1) rfl) rfl rfl dX12_isClosed_36 ?_
            refine lv_sipush (v := 140) hx hb dX12_isClosed_39 (by decide) ?_
            refine lv_iconst (v := 2) hx hb dX12_isClosed_42 (by decide) ?_
            refine lv_iload_n hx hb dX12_isClosed_43 rfl (lv_at hl 3 rfl) ?_
            refine lv_imul hx hb dX12_isClosed_44 ?_
            refine lv_topi (fun x19 ex19 => ?_)
            have ex19 : x19.toInt = (2 : Int) * v2_3.toInt := by rw [ex19]; exact wk_mul (show (-2147483648) ≤ (2 : Int) * v2_3.toInt by omega) (show (2 : Int) * v2_3.toInt ≤ 2147483647 by omega)
            refine lv_iadd hx hb dX12_isClosed_45 ?_
            refine lv_topi (fun x20 ex20 => ?_)
            have ex20 : x20.toInt = (140 : Int) + x19.toInt := by rw [ex20]; exact wk_add (show (-2147483648) ≤ (140 : Int) + x19.toInt by omega) (show (140 : Int) + x19.toInt ≤ 2147483647 by omega)
            refine lv_iconst (v := 1) hx hb dX12_isClosed_46 (by decide) ?_
            refine lv_iadd hx hb dX12_isClosed_47 ?_
            refine lv_topi (fun x21 ex21 => ?_)
            have ex21 : x21.toInt = x20.toInt + (1 : Int) := by rw [ex21]; exact wk_add (show (-2147483648) ≤ x20.toInt + (1 : Int) by omega) (show x20.toInt + (1 : Int) ≤ 2147483647 by omega)
            refine tk_ialdR hC hK hw hT kM_at12 rfl (show 0 ≤ x21.toInt by omega) (show x21.toInt < 296 by omega) dX12_isClosed_48 (fun x22 c23 Ex22 => ?_)
            have c23 : gi w0 12 (2 * v2_3.toInt + 141).toNat = x22 := (congrArg (gi w0 12) (congrArg Int.toNat (show 2 * v2_3.toInt + 141 = x21.toInt by omega))).trans c23
            refine lv_iload_n hx hb dX12_isClosed_49 rfl (lv_at hl 2 rfl) ?_
            refine lv_icmp_ne (tgt := 55) hx hb dX12_isClosed_50 (by decide) (fun c24 => ?_) (fun c24 => ?_)
            · have c24 : ¬ x22.toInt = a2.toInt := wk_eqF c24
              obtain ⟨x25, ex25⟩ : ∃ y : Int32, y = v2_3 + Int32.ofInt 1 := ⟨_, rfl⟩
              refine lv_iinc (v := x25) (lv' := [(3, .int x25), (0, .ref (ad 0)), (1, .int a1), (2, .int a2)]) hx hb dX12_isClosed_55 hl (k := 3) rfl ex25.symm (by decide) rfl (fun ls hl => ?_)
              have ex25 : x25.toInt = v2_3.toInt + 1 := by rw [ex25]; exact wk_add (y := 1) (show -2147483648 ≤ v2_3.toInt + 1 by omega) (show v2_3.toInt + 1 ≤ 2147483647 by omega)
              refine lv_goto (tgt := 2) hx hb dX12_isClosed_58 (by decide) ?_
              exact ih2 x25 H locs ls  (show 0 ≤ a1.toInt by omega) (show a1.toInt ≤ 9 by omega) (show 0 ≤ a2.toInt by omega) (show a2.toInt ≤ 359 by omega) (show 0 ≤ x25.toInt by omega) (show x25.toInt ≤ 8 by omega) (show ∀ k : Int, 0 ≤ k → k < x25.toInt → ¬ mCl1 w0 k a1.toInt a2.toInt from all_step hcr2_0 (show ¬ mCl1 w0 v2_3.toInt a1.toInt a2.toInt by unfold mCl1; simp only [c8, c11, c16, c23]; omega) (by omega)) (show (8 - x25.toInt).toNat < n2 by omega) hw   (lv_sub hl [1, 2, 3, 0] rfl)
            · have c24 : x22.toInt = a2.toInt := wk_eq.mp c24
              refine lv_iconst (v := 1) hx hb dX12_isClosed_53 (by decide) ?_
              exact tk_zret hC hr rfl hlocks hK ⟨rfl, (Or.inr ⟨rfl, ⟨x10, c11, (show 1 ≤ x10.toInt by omega), (show x10.toInt ≤ 1 by omega)⟩, ⟨x7, c8, (show 1 ≤ x7.toInt by omega), (show x7.toInt ≤ 8 by omega)⟩, (by exact ⟨v2_3.toInt, by omega, by simp only [c8, c11, c16, c23]; omega, by unfold mCl1; simp only [c8, c11, c16, c23]; omega⟩)⟩)⟩ hw dX12_isClosed_54
  refine lv_iconst (v := 0) hx hb dX12_isClosed_0 (by decide) ?_
  refine lv_istore_n (lv' := [(3, .int 0), (0, .ref (ad 0)), (1, .int a1), (2, .int a2)]) hx hb dX12_isClosed_1 rfl hl (by decide) rfl (fun ls hl => ?_)
  exact L2 ((8 - (0 : Int)).toNat + 1) 0 s.heap locs ls  (show 0 ≤ a1.toInt by omega) (show a1.toInt ≤ 9 by omega) (show 0 ≤ a2.toInt by omega) (show a2.toInt ≤ 359 by omega) (by decide) (by decide) (show ∀ k : Int, 0 ≤ k → k < (0 : Int) → ¬ mCl1 w0 k a1.toInt a2.toInt from all_none) (Nat.lt_succ_self _) hw   (lv_sub hl [1, 2, 3, 0] rfl)
abbrev P_X12_streetOf_4 (ad : Nat → Nat) (cy : Nat → ClassId) (B : Int) (qr : Nat) (s1 : Int) (a1 : Int32) (a2 : Int32) (w0 : va_W) : Int32 → va_W → Prop := fun r u => w0 = u ∧ ((0 ≤ r.toInt ∧ r.toInt ≤ 9 ∧ gi u 12 (10 * a1.toInt + 1 * a2.toInt + 10).toNat = r))
set_option maxHeartbeats 4000000 in
set_option maxRecDepth 100000 in
theorem k_X12_streetOf_4 (l : Launch) (adK adV : Nat → Nat) (dC : Nat → ClassId) (dI : Nat → Nat → Nat) (cy : Nat → ClassId) (ad : Nat → Nat) (B : Int) (hB0 : 100000 ≤ B) (hB1 : B ≤ 1073741824) (qr : Nat) (s1 : Int)  (a1 : Int32) (ra1 : 0 ≤ a1.toInt) (ta1 : a1.toInt ≤ 11) (a2 : Int32) (ra2 : 3 ≤ a2.toInt) (ta2 : a2.toInt ≤ 9) (w0 : va_W) (sz : Nat) (hT : TW ksM ad cy B qr 12 w0)  : Met l yX12_streetOf wsX12_streetOf ({ frames := 1, cells := 0, slots := 0, locals := 12 }) (va_Pc [.ref (ad 0), .int a1, .int a2] (wpreS adK adV dC dI cy sz w0)) (va_Qi (P_X12_streetOf_4 ad cy B qr s1 a1 a2 w0) (fun u : va_W => wpost dC dI cy (va_A w0 sz) u) (va_A w0 sz)) 0 0 (va_A w0 sz) := by
  refine Met.ofW (cc := cX12_streetOf) (maxL := 3) (ret := (some .int)) (by decide) rfl ?_
  intro p e s m args below meth c s₁ Bk hml hv
  obtain ⟨rfl, ⟨hsz, hP, hK, hD0⟩, hE, hSR⟩ := hv
  have hx := Bk.exec
  have hb := Bk.bytes
  have hr := Bk.returns
  have hlocks := Bk.notSynchronized
  have hC : CallFix p m c cX12_streetOf 3 s _ wsX12_streetOf RX12 := ⟨hx, hb, hml, findClass_of_methodNamed Bk.named, atoms_spec (ws := wsX12_streetOf) Bk.pre⟩
  subst hsz
  have hD := hD0.self (sz := s.heap.size)
  generalize hAe : va_A w0 s.heap.size = A at hD hE ⊢
  have hA : ∀ q : Nat, s.heap.size ≤ q → A q := fun q h => by rw [← hAe]; exact Or.inr h
  have hw : Wd dC dI A s.heap s.heap [] w0 := ⟨hP, hD, va_S.rf⟩
  have hF : FE ksM ([] : List (Nat × Nat × Nat)) w0 w0 := FE.rf
  have hl := lv_entry ([.ref (ad 0), .int a1, .int a2]) (n := 3) (Nat.le_of_ble_eq_true rfl)
  rw [lg_entry_eq]
  generalize (lg_sl ([.ref (ad 0), .int a1, .int a2]) ++ List.replicate (3 - (lg_sl ([.ref (ad 0), .int a1, .int a2])).length) Slot.unset).toArray = ls at hl ⊢
  have hl : lv_has ls 3 [(0, .ref (ad 0)), (1, .int a1), (2, .int a2)] := hl
  generalize hloc : ([] : List Loc) = locs at hw ⊢
  have hinX12 : ∀ w ∈ u_ws RX12 TX12 42, w ∈ wsX12_streetOf := fun _ h => List.mem_cons_of_mem _ (List.mem_append_right _ (h))
  refine lv_aload_n hx hb dX12_streetOf_0 rfl (lv_at hl 0 rfl) ?_
  refine tk_getA hC hK hw hT hinX12 kM_at0 (by decide) rfl 26 (by decide) (List.mem_of_getElem? (i := 1) rfl) rfl rfl dX12_streetOf_1 ?_
  refine lv_bipush (v := 10) hx hb dX12_streetOf_4 (by decide) ?_
  refine lv_bipush (v := 10) hx hb dX12_streetOf_6 (by decide) ?_
  refine lv_iload_n hx hb dX12_streetOf_8 rfl (lv_at hl 1 rfl) ?_
  refine lv_imul hx hb dX12_streetOf_9 ?_
  refine lv_topi (fun x1 ex1 => ?_)
  have ex1 : x1.toInt = (10 : Int) * a1.toInt := by rw [ex1]; exact wk_mul (show (-2147483648) ≤ (10 : Int) * a1.toInt by omega) (show (10 : Int) * a1.toInt ≤ 2147483647 by omega)
  refine lv_iadd hx hb dX12_streetOf_10 ?_
  refine lv_topi (fun x2 ex2 => ?_)
  have ex2 : x2.toInt = (10 : Int) + x1.toInt := by rw [ex2]; exact wk_add (show (-2147483648) ≤ (10 : Int) + x1.toInt by omega) (show (10 : Int) + x1.toInt ≤ 2147483647 by omega)
  refine lv_iload_n hx hb dX12_streetOf_11 rfl (lv_at hl 2 rfl) ?_
  refine lv_iadd hx hb dX12_streetOf_12 ?_
  refine lv_topi (fun x3 ex3 => ?_)
  have ex3 : x3.toInt = x2.toInt + a2.toInt := by rw [ex3]; exact wk_add (show (-2147483648) ≤ x2.toInt + a2.toInt by omega) (show x2.toInt + a2.toInt ≤ 2147483647 by omega)
  refine tk_ialdR hC hK hw hT kM_at12 rfl (show 0 ≤ x3.toInt by omega) (show x3.toInt < 296 by omega) dX12_streetOf_13 (fun x4 c5 Ex4 => ?_)
  have c5 : gi w0 12 (10 * a1.toInt + 1 * a2.toInt + 10).toNat = x4 := (congrArg (gi w0 12) (congrArg Int.toNat (show 10 * a1.toInt + 1 * a2.toInt + 10 = x3.toInt by omega))).trans c5
  have bx4 := tk_rgI rfl 13 1 117 0 9 (by decide +kernel) ⟨(x3.toInt - 13).toNat, by omega, show x3.toInt.toNat = 13 + 1 * (x3.toInt - 13).toNat by omega⟩ Ex4
  exact tk_iret hC hr hlocks hK ⟨rfl, ⟨(show 0 ≤ x4.toInt by omega), (show x4.toInt ≤ 9 by omega), c5⟩⟩ hw dX12_streetOf_14
abbrev P_X12_isDayFor_1 (ad : Nat → Nat) (cy : Nat → ClassId) (B : Int) (qr : Nat) (s1 : Int) (a1 : Int32) (a2 : Int32) (a3 : Int32) (w0 : va_W) : Int32 → va_W → Prop := fun r u => w0 = u ∧ ((r = 0 ∧ (¬ mDay w0 a1.toInt a2.toInt a3.toInt)) ∨ (r = 0 ∧ gi u 12 (10 * a1.toInt + 10).toNat = a2 ∧ (¬ mDay w0 a1.toInt a2.toInt a3.toInt)) ∨ (r = 1 ∧ (mDay w0 a1.toInt a2.toInt a3.toInt)) ∨ (r = 1 ∧ gi u 12 (10 * a1.toInt + 10).toNat = a2 ∧ (mDay w0 a1.toInt a2.toInt a3.toInt)))
set_option maxHeartbeats 4000000 in
set_option maxRecDepth 100000 in
theorem k_X12_isDayFor_1 (l : Launch) (adK adV : Nat → Nat) (dC : Nat → ClassId) (dI : Nat → Nat → Nat) (cy : Nat → ClassId) (ad : Nat → Nat) (B : Int) (hB0 : 100000 ≤ B) (hB1 : B ≤ 1073741824) (qr : Nat) (s1 : Int)  (a1 : Int32) (ra1 : 0 ≤ a1.toInt) (ta1 : a1.toInt ≤ 11) (a2 : Int32) (ra2 : 0 ≤ a2.toInt) (ta2 : a2.toInt ≤ 9) (a3 : Int32) (ra3 : 0 ≤ a3.toInt) (ta3 : a3.toInt ≤ 4166) (w0 : va_W) (sz : Nat) (hT : TW ksM ad cy B qr 12 w0)  : Met l yX12_isDayFor wsX12_isDayFor ({ frames := 3, cells := 0, slots := 0, locals := 57 }) (va_Pc [.ref (ad 0), .int a1, .int a2, .int a3] (wpreS adK adV dC dI cy sz w0)) (va_Qi (P_X12_isDayFor_1 ad cy B qr s1 a1 a2 a3 w0) (fun u : va_W => wpost dC dI cy (va_A w0 sz) u) (va_A w0 sz)) 0 0 (va_A w0 sz) := by
  refine Met.ofW (cc := cX12_isDayFor) (maxL := 4) (ret := (some .boolean)) (by decide) rfl ?_
  intro p e s m args below meth c s₁ Bk hml hv
  obtain ⟨rfl, ⟨hsz, hP, hK, hD0⟩, hE, hSR⟩ := hv
  have hx := Bk.exec
  have hb := Bk.bytes
  have hr := Bk.returns
  have hlocks := Bk.notSynchronized
  have hC : CallFix p m c cX12_isDayFor 4 s _ wsX12_isDayFor RX12 := ⟨hx, hb, hml, findClass_of_methodNamed Bk.named, atoms_spec (ws := wsX12_isDayFor) Bk.pre⟩
  subst hsz
  have hD := hD0.self (sz := s.heap.size)
  generalize hAe : va_A w0 s.heap.size = A at hD hE ⊢
  have hA : ∀ q : Nat, s.heap.size ≤ q → A q := fun q h => by rw [← hAe]; exact Or.inr h
  have hw : Wd dC dI A s.heap s.heap [] w0 := ⟨hP, hD, va_S.rf⟩
  have hF : FE ksM ([] : List (Nat × Nat × Nat)) w0 w0 := FE.rf
  have hl := lv_entry ([.ref (ad 0), .int a1, .int a2, .int a3]) (n := 4) (Nat.le_of_ble_eq_true rfl)
  rw [lg_entry_eq]
  generalize (lg_sl ([.ref (ad 0), .int a1, .int a2, .int a3]) ++ List.replicate (4 - (lg_sl ([.ref (ad 0), .int a1, .int a2, .int a3])).length) Slot.unset).toArray = ls at hl ⊢
  have hl : lv_has ls 4 [(0, .ref (ad 0)), (1, .int a1), (2, .int a2), (3, .int a3)] := hl
  generalize hloc : ([] : List Loc) = locs at hw ⊢
  refine lv_aload_n hx hb dX12_isDayFor_0 rfl (lv_at hl 0 rfl) ?_
  refine lv_aload_n hx hb dX12_isDayFor_1 rfl (lv_at hl 0 rfl) ?_
  refine lv_iload_n hx hb dX12_isDayFor_2 rfl (lv_at hl 1 rfl) ?_
  refine lv_iconst (v := 3) hx hb dX12_isDayFor_3 (by decide) ?_
  refine lv_iload_n hx hb dX12_isDayFor_4 rfl (lv_at hl 3 rfl) ?_
  refine lv_bipush (v := 7) hx hb dX12_isDayFor_5 (by decide) ?_
  refine lv_irem hx hb dX12_isDayFor_7 (by decide) ?_
  refine lv_topi (fun x1 ex1 => ?_)
  have ex1 : x1.toInt = a3.toInt % (7 : Int) := by rw [ex1]; exact wk_rem (show 0 ≤ a3.toInt by omega) (show 0 < (7 : Int) by decide)
  refine lv_iadd hx hb dX12_isDayFor_8 ?_
  refine lv_topi (fun x2 ex2 => ?_)
  have ex2 : x2.toInt = (3 : Int) + x1.toInt := by rw [ex2]; exact wk_add (show (-2147483648) ≤ (3 : Int) + x1.toInt by omega) (show (3 : Int) + x1.toInt ≤ 2147483647 by omega)
  refine tk_Vi hC hK hw hT hA hE hSR kM_at0 (by decide) rfl (k_X12_streetOf_4 l adK adV dC dI cy ad B (by omega) (by omega) qr s1   a1 (show 0 ≤ a1.toInt by omega) (show a1.toInt ≤ 11 by omega) x2 (show 3 ≤ x2.toInt by omega) (show x2.toInt ≤ 9 by omega) w0 s.heap.size hT ) (cwV 2 hC.2.2.2.2 gX12_isDayFor_X12_streetOf rfl rfl rfl (by decide +kernel) ⟨Nat.le_of_ble_eq_true rfl, Nat.le_of_ble_eq_true rfl⟩) rfl hl.1 rfl (Nat.le_of_ble_eq_true rfl) dX12_isDayFor_9 (fun r3 w5 H locs hp4 hw => ?_)
  obtain ⟨rfl, hg10⟩ := hp4
  obtain ⟨g7, g8, c9⟩ := hg10
  refine lv_iload_n hx hb dX12_isDayFor_12 rfl (lv_at hl 1 rfl) ?_
  refine lv_iload_n hx hb dX12_isDayFor_13 rfl (lv_at hl 2 rfl) ?_
  refine tk_Vi hC hK hw hT hA hE hSR kM_at0 (by decide) rfl (k_X12_hasSign_1 l adK adV dC dI cy ad B (by omega) (by omega) qr s1   r3 (show 0 ≤ r3.toInt by omega) (show r3.toInt ≤ 9 by omega) a1 (show 0 ≤ a1.toInt by omega) (show a1.toInt ≤ 11 by omega) a2 (show 0 ≤ a2.toInt by omega) (show a2.toInt ≤ 9 by omega) w0 H.size hT ) (cwV 3 hC.2.2.2.2 gX12_isDayFor_X12_hasSign rfl rfl rfl (by decide +kernel) ⟨Nat.le_of_ble_eq_true rfl, Nat.le_of_ble_eq_true rfl⟩) rfl hl.1 rfl (Nat.le_of_ble_eq_true rfl) dX12_isDayFor_14 (fun r11 w13 H locs hp12 hw => ?_)
  obtain ⟨rfl, hg21⟩ := hp12
  rcases hg21 with ⟨rfl, hq15⟩ | ⟨rfl, c16, hq17⟩ | ⟨rfl, hq18⟩ | ⟨rfl, c19, hq20⟩
  · refine lv_if_ne (tgt := 22) hx hb dX12_isDayFor_17 (by decide) (fun c => absurd (by decide) c) (fun _ => ?_)
    refine lv_iconst (v := 0) hx hb dX12_isDayFor_20 (by decide) ?_
    exact tk_zret hC hr rfl hlocks hK ⟨rfl, (Or.inl ⟨rfl, (by unfold mDay; rw [show (10 * a1.toInt + (3 + a3.toInt % 7) + 10) = 10 * a1.toInt + 1 * x2.toInt + 10 by omega]; simp only [c9]; first | exact ⟨by assumption, by assumption, by assumption⟩ | (rintro ⟨q1, q2, q3⟩; first | exact absurd q1 (by assumption) | exact q2 (by assumption) | exact q3 (by assumption)))⟩)⟩ hw dX12_isDayFor_21
  · refine lv_if_ne (tgt := 22) hx hb dX12_isDayFor_17 (by decide) (fun c => absurd (by decide) c) (fun _ => ?_)
    refine lv_iconst (v := 0) hx hb dX12_isDayFor_20 (by decide) ?_
    exact tk_zret hC hr rfl hlocks hK ⟨rfl, (Or.inr (Or.inl ⟨rfl, c16, (by unfold mDay; rw [show (10 * a1.toInt + (3 + a3.toInt % 7) + 10) = 10 * a1.toInt + 1 * x2.toInt + 10 by omega]; simp only [c9, c16]; first | exact ⟨by assumption, by assumption, by assumption⟩ | (rintro ⟨q1, q2, q3⟩; first | exact absurd q1 (by assumption) | exact q2 (by assumption) | exact q3 (by assumption)))⟩))⟩ hw dX12_isDayFor_21
  · refine lv_if_ne (tgt := 22) hx hb dX12_isDayFor_17 (by decide) (fun _ => ?_) (fun c => absurd c (by decide))
    refine lv_aload_n hx hb dX12_isDayFor_22 rfl (lv_at hl 0 rfl) ?_
    refine lv_aload_n hx hb dX12_isDayFor_23 rfl (lv_at hl 0 rfl) ?_
    refine lv_iload_n hx hb dX12_isDayFor_24 rfl (lv_at hl 1 rfl) ?_
    refine lv_iconst (v := 0) hx hb dX12_isDayFor_25 (by decide) ?_
    refine tk_Vi hC hK hw hT hA hE hSR kM_at0 (by decide) rfl (k_X12_streetOf_2 l adK adV dC dI cy ad B (by omega) (by omega) qr s1   a1 (show 0 ≤ a1.toInt by omega) (show a1.toInt ≤ 11 by omega) w0 H.size hT ) (cwV 2 hC.2.2.2.2 gX12_isDayFor_X12_streetOf rfl rfl rfl (by decide +kernel) ⟨Nat.le_of_ble_eq_true rfl, Nat.le_of_ble_eq_true rfl⟩) rfl hl.1 rfl (Nat.le_of_ble_eq_true rfl) dX12_isDayFor_26 (fun r22 w24 H locs hp23 hw => ?_)
    obtain ⟨rfl, hg29⟩ := hp23
    obtain ⟨g26, g27, c28⟩ := hg29
    refine lv_iload_n hx hb dX12_isDayFor_29 rfl (lv_at hl 3 rfl) ?_
    refine lv_sipush (v := 360) hx hb dX12_isDayFor_30 (by decide) ?_
    refine lv_irem hx hb dX12_isDayFor_33 (by decide) ?_
    refine lv_topi (fun x30 ex30 => ?_)
    have ex30 : x30.toInt = a3.toInt % (360 : Int) := by rw [ex30]; exact wk_rem (show 0 ≤ a3.toInt by omega) (show 0 < (360 : Int) by decide)
    refine tk_Vi hC hK hw hT hA hE hSR kM_at0 (by decide) rfl (k_X12_isClosed_1 l adK adV dC dI cy ad B (by omega) (by omega) qr s1   r22 (show 0 ≤ r22.toInt by omega) (show r22.toInt ≤ 9 by omega) x30 (show 0 ≤ x30.toInt by omega) (show x30.toInt ≤ 359 by omega) w0 H.size hT ) (cwV 2 hC.2.2.2.2 gX12_isDayFor_X12_isClosed rfl rfl rfl (by decide +kernel) ⟨Nat.le_of_ble_eq_true rfl, Nat.le_of_ble_eq_true rfl⟩) rfl hl.1 rfl (Nat.le_of_ble_eq_true rfl) dX12_isDayFor_34 (fun r31 w33 H locs hp32 hw => ?_)
    obtain ⟨rfl, hg41⟩ := hp32
    rcases hg41 with ⟨rfl, hq35⟩ | ⟨rfl, ⟨x36, c37, rx36, tx36⟩, ⟨x38, c39, rx38, tx38⟩, hq40⟩
    · refine lv_if_ne (tgt := 62) hx hb dX12_isDayFor_37 (by decide) (fun c => absurd (by decide) c) (fun _ => ?_)
      refine lv_aload_n hx hb dX12_isDayFor_40 rfl (lv_at hl 0 rfl) ?_
      refine lv_aload_n hx hb dX12_isDayFor_41 rfl (lv_at hl 0 rfl) ?_
      refine lv_iload_n hx hb dX12_isDayFor_42 rfl (lv_at hl 1 rfl) ?_
      refine lv_iconst (v := 1) hx hb dX12_isDayFor_43 (by decide) ?_
      refine tk_Vi hC hK hw hT hA hE hSR kM_at0 (by decide) rfl (k_X12_streetOf_3 l adK adV dC dI cy ad B (by omega) (by omega) qr s1   a1 (show 0 ≤ a1.toInt by omega) (show a1.toInt ≤ 11 by omega) w0 H.size hT ) (cwV 2 hC.2.2.2.2 gX12_isDayFor_X12_streetOf rfl rfl rfl (by decide +kernel) ⟨Nat.le_of_ble_eq_true rfl, Nat.le_of_ble_eq_true rfl⟩) rfl hl.1 rfl (Nat.le_of_ble_eq_true rfl) dX12_isDayFor_44 (fun r42 w44 H locs hp43 hw => ?_)
      obtain ⟨rfl, hg49⟩ := hp43
      obtain ⟨g46, g47, c48⟩ := hg49
      refine lv_iload_n hx hb dX12_isDayFor_47 rfl (lv_at hl 3 rfl) ?_
      refine lv_sipush (v := 360) hx hb dX12_isDayFor_48 (by decide) ?_
      refine lv_irem hx hb dX12_isDayFor_51 (by decide) ?_
      refine lv_topi (fun x50 ex50 => ?_)
      have ex50 : x50.toInt = a3.toInt % (360 : Int) := by rw [ex50]; exact wk_rem (show 0 ≤ a3.toInt by omega) (show 0 < (360 : Int) by decide)
      refine tk_Vi hC hK hw hT hA hE hSR kM_at0 (by decide) rfl (k_X12_isClosed_1 l adK adV dC dI cy ad B (by omega) (by omega) qr s1   r42 (show 0 ≤ r42.toInt by omega) (show r42.toInt ≤ 9 by omega) x50 (show 0 ≤ x50.toInt by omega) (show x50.toInt ≤ 359 by omega) w0 H.size hT ) (cwV 2 hC.2.2.2.2 gX12_isDayFor_X12_isClosed rfl rfl rfl (by decide +kernel) ⟨Nat.le_of_ble_eq_true rfl, Nat.le_of_ble_eq_true rfl⟩) rfl hl.1 rfl (Nat.le_of_ble_eq_true rfl) dX12_isDayFor_52 (fun r51 w53 H locs hp52 hw => ?_)
      obtain ⟨rfl, hg61⟩ := hp52
      rcases hg61 with ⟨rfl, hq55⟩ | ⟨rfl, ⟨x56, c57, rx56, tx56⟩, ⟨x58, c59, rx58, tx58⟩, hq60⟩
      · refine lv_if_ne (tgt := 62) hx hb dX12_isDayFor_55 (by decide) (fun c => absurd (by decide) c) (fun _ => ?_)
        refine lv_iconst (v := 1) hx hb dX12_isDayFor_58 (by decide) ?_
        refine lv_goto (tgt := 63) hx hb dX12_isDayFor_59 (by decide) ?_
        exact tk_zret hC hr rfl hlocks hK ⟨rfl, (Or.inr (Or.inr (Or.inl ⟨rfl, (by have hq35 := hq35; rw [show x30.toInt = a3.toInt % 360 by omega] at hq35; have hq55 := hq55; rw [show x50.toInt = a3.toInt % 360 by omega] at hq55; unfold mDay; rw [show (10 * a1.toInt + (3 + a3.toInt % 7) + 10) = 10 * a1.toInt + 1 * x2.toInt + 10 by omega]; simp only [c9, c28, c48]; first | exact ⟨by assumption, by assumption, by assumption⟩ | (rintro ⟨q1, q2, q3⟩; first | exact absurd q1 (by assumption) | exact q2 (by assumption) | exact q3 (by assumption)))⟩)))⟩ hw dX12_isDayFor_63
      · refine lv_if_ne (tgt := 62) hx hb dX12_isDayFor_55 (by decide) (fun _ => ?_) (fun c => absurd c (by decide))
        refine lv_iconst (v := 0) hx hb dX12_isDayFor_62 (by decide) ?_
        exact tk_zret hC hr rfl hlocks hK ⟨rfl, (Or.inl ⟨rfl, (by have hq35 := hq35; rw [show x30.toInt = a3.toInt % 360 by omega] at hq35; have hq60 := hq60; rw [show x50.toInt = a3.toInt % 360 by omega] at hq60; unfold mDay; rw [show (10 * a1.toInt + (3 + a3.toInt % 7) + 10) = 10 * a1.toInt + 1 * x2.toInt + 10 by omega]; simp only [c9, c28, c48, c57, c59]; first | exact ⟨by assumption, by assumption, by assumption⟩ | (rintro ⟨q1, q2, q3⟩; first | exact absurd q1 (by assumption) | exact q2 (by assumption) | exact q3 (by assumption)))⟩)⟩ hw dX12_isDayFor_63
    · refine lv_if_ne (tgt := 62) hx hb dX12_isDayFor_37 (by decide) (fun _ => ?_) (fun c => absurd c (by decide))
      refine lv_iconst (v := 0) hx hb dX12_isDayFor_62 (by decide) ?_
      exact tk_zret hC hr rfl hlocks hK ⟨rfl, (Or.inl ⟨rfl, (by have hq40 := hq40; rw [show x30.toInt = a3.toInt % 360 by omega] at hq40; unfold mDay; rw [show (10 * a1.toInt + (3 + a3.toInt % 7) + 10) = 10 * a1.toInt + 1 * x2.toInt + 10 by omega]; simp only [c9, c28, c37, c39]; first | exact ⟨by assumption, by assumption, by assumption⟩ | (rintro ⟨q1, q2, q3⟩; first | exact absurd q1 (by assumption) | exact q2 (by assumption) | exact q3 (by assumption)))⟩)⟩ hw dX12_isDayFor_63
  · refine lv_if_ne (tgt := 22) hx hb dX12_isDayFor_17 (by decide) (fun _ => ?_) (fun c => absurd c (by decide))
    refine lv_aload_n hx hb dX12_isDayFor_22 rfl (lv_at hl 0 rfl) ?_
    refine lv_aload_n hx hb dX12_isDayFor_23 rfl (lv_at hl 0 rfl) ?_
    refine lv_iload_n hx hb dX12_isDayFor_24 rfl (lv_at hl 1 rfl) ?_
    refine lv_iconst (v := 0) hx hb dX12_isDayFor_25 (by decide) ?_
    refine tk_Vi hC hK hw hT hA hE hSR kM_at0 (by decide) rfl (k_X12_streetOf_2 l adK adV dC dI cy ad B (by omega) (by omega) qr s1   a1 (show 0 ≤ a1.toInt by omega) (show a1.toInt ≤ 11 by omega) w0 H.size hT ) (cwV 2 hC.2.2.2.2 gX12_isDayFor_X12_streetOf rfl rfl rfl (by decide +kernel) ⟨Nat.le_of_ble_eq_true rfl, Nat.le_of_ble_eq_true rfl⟩) rfl hl.1 rfl (Nat.le_of_ble_eq_true rfl) dX12_isDayFor_26 (fun r62 w64 H locs hp63 hw => ?_)
    obtain ⟨rfl, hg69⟩ := hp63
    obtain ⟨g66, g67, c68⟩ := hg69
    obtain rfl : a2 = r62 := c19.symm.trans c68
    refine lv_iload_n hx hb dX12_isDayFor_29 rfl (lv_at hl 3 rfl) ?_
    refine lv_sipush (v := 360) hx hb dX12_isDayFor_30 (by decide) ?_
    refine lv_irem hx hb dX12_isDayFor_33 (by decide) ?_
    refine lv_topi (fun x70 ex70 => ?_)
    have ex70 : x70.toInt = a3.toInt % (360 : Int) := by rw [ex70]; exact wk_rem (show 0 ≤ a3.toInt by omega) (show 0 < (360 : Int) by decide)
    refine tk_Vi hC hK hw hT hA hE hSR kM_at0 (by decide) rfl (k_X12_isClosed_1 l adK adV dC dI cy ad B (by omega) (by omega) qr s1   a2 (show 0 ≤ a2.toInt by omega) (show a2.toInt ≤ 9 by omega) x70 (show 0 ≤ x70.toInt by omega) (show x70.toInt ≤ 359 by omega) w0 H.size hT ) (cwV 2 hC.2.2.2.2 gX12_isDayFor_X12_isClosed rfl rfl rfl (by decide +kernel) ⟨Nat.le_of_ble_eq_true rfl, Nat.le_of_ble_eq_true rfl⟩) rfl hl.1 rfl (Nat.le_of_ble_eq_true rfl) dX12_isDayFor_34 (fun r71 w73 H locs hp72 hw => ?_)
    obtain ⟨rfl, hg81⟩ := hp72
    rcases hg81 with ⟨rfl, hq75⟩ | ⟨rfl, ⟨x76, c77, rx76, tx76⟩, ⟨x78, c79, rx78, tx78⟩, hq80⟩
    · refine lv_if_ne (tgt := 62) hx hb dX12_isDayFor_37 (by decide) (fun c => absurd (by decide) c) (fun _ => ?_)
      refine lv_aload_n hx hb dX12_isDayFor_40 rfl (lv_at hl 0 rfl) ?_
      refine lv_aload_n hx hb dX12_isDayFor_41 rfl (lv_at hl 0 rfl) ?_
      refine lv_iload_n hx hb dX12_isDayFor_42 rfl (lv_at hl 1 rfl) ?_
      refine lv_iconst (v := 1) hx hb dX12_isDayFor_43 (by decide) ?_
      refine tk_Vi hC hK hw hT hA hE hSR kM_at0 (by decide) rfl (k_X12_streetOf_3 l adK adV dC dI cy ad B (by omega) (by omega) qr s1   a1 (show 0 ≤ a1.toInt by omega) (show a1.toInt ≤ 11 by omega) w0 H.size hT ) (cwV 2 hC.2.2.2.2 gX12_isDayFor_X12_streetOf rfl rfl rfl (by decide +kernel) ⟨Nat.le_of_ble_eq_true rfl, Nat.le_of_ble_eq_true rfl⟩) rfl hl.1 rfl (Nat.le_of_ble_eq_true rfl) dX12_isDayFor_44 (fun r82 w84 H locs hp83 hw => ?_)
      obtain ⟨rfl, hg89⟩ := hp83
      obtain ⟨g86, g87, c88⟩ := hg89
      refine lv_iload_n hx hb dX12_isDayFor_47 rfl (lv_at hl 3 rfl) ?_
      refine lv_sipush (v := 360) hx hb dX12_isDayFor_48 (by decide) ?_
      refine lv_irem hx hb dX12_isDayFor_51 (by decide) ?_
      refine lv_topi (fun x90 ex90 => ?_)
      have ex90 : x90.toInt = a3.toInt % (360 : Int) := by rw [ex90]; exact wk_rem (show 0 ≤ a3.toInt by omega) (show 0 < (360 : Int) by decide)
      refine tk_Vi hC hK hw hT hA hE hSR kM_at0 (by decide) rfl (k_X12_isClosed_1 l adK adV dC dI cy ad B (by omega) (by omega) qr s1   r82 (show 0 ≤ r82.toInt by omega) (show r82.toInt ≤ 9 by omega) x90 (show 0 ≤ x90.toInt by omega) (show x90.toInt ≤ 359 by omega) w0 H.size hT ) (cwV 2 hC.2.2.2.2 gX12_isDayFor_X12_isClosed rfl rfl rfl (by decide +kernel) ⟨Nat.le_of_ble_eq_true rfl, Nat.le_of_ble_eq_true rfl⟩) rfl hl.1 rfl (Nat.le_of_ble_eq_true rfl) dX12_isDayFor_52 (fun r91 w93 H locs hp92 hw => ?_)
      obtain ⟨rfl, hg101⟩ := hp92
      rcases hg101 with ⟨rfl, hq95⟩ | ⟨rfl, ⟨x96, c97, rx96, tx96⟩, ⟨x98, c99, rx98, tx98⟩, hq100⟩
      · refine lv_if_ne (tgt := 62) hx hb dX12_isDayFor_55 (by decide) (fun c => absurd (by decide) c) (fun _ => ?_)
        refine lv_iconst (v := 1) hx hb dX12_isDayFor_58 (by decide) ?_
        refine lv_goto (tgt := 63) hx hb dX12_isDayFor_59 (by decide) ?_
        exact tk_zret hC hr rfl hlocks hK ⟨rfl, (Or.inr (Or.inr (Or.inr ⟨rfl, c19, (by have hq75 := hq75; rw [show x70.toInt = a3.toInt % 360 by omega] at hq75; have hq95 := hq95; rw [show x90.toInt = a3.toInt % 360 by omega] at hq95; unfold mDay; rw [show (10 * a1.toInt + (3 + a3.toInt % 7) + 10) = 10 * a1.toInt + 1 * x2.toInt + 10 by omega]; simp only [c9, c19, c88]; first | exact ⟨by assumption, by assumption, by assumption⟩ | (rintro ⟨q1, q2, q3⟩; first | exact absurd q1 (by assumption) | exact q2 (by assumption) | exact q3 (by assumption)))⟩)))⟩ hw dX12_isDayFor_63
      · refine lv_if_ne (tgt := 62) hx hb dX12_isDayFor_55 (by decide) (fun _ => ?_) (fun c => absurd c (by decide))
        refine lv_iconst (v := 0) hx hb dX12_isDayFor_62 (by decide) ?_
        exact tk_zret hC hr rfl hlocks hK ⟨rfl, (Or.inr (Or.inl ⟨rfl, c19, (by have hq75 := hq75; rw [show x70.toInt = a3.toInt % 360 by omega] at hq75; have hq100 := hq100; rw [show x90.toInt = a3.toInt % 360 by omega] at hq100; unfold mDay; rw [show (10 * a1.toInt + (3 + a3.toInt % 7) + 10) = 10 * a1.toInt + 1 * x2.toInt + 10 by omega]; simp only [c9, c19, c88, c97, c99]; first | exact ⟨by assumption, by assumption, by assumption⟩ | (rintro ⟨q1, q2, q3⟩; first | exact absurd q1 (by assumption) | exact q2 (by assumption) | exact q3 (by assumption)))⟩))⟩ hw dX12_isDayFor_63
    · refine lv_if_ne (tgt := 62) hx hb dX12_isDayFor_37 (by decide) (fun _ => ?_) (fun c => absurd c (by decide))
      refine lv_iconst (v := 0) hx hb dX12_isDayFor_62 (by decide) ?_
      exact tk_zret hC hr rfl hlocks hK ⟨rfl, (Or.inr (Or.inl ⟨rfl, c19, (by have hq80 := hq80; rw [show x70.toInt = a3.toInt % 360 by omega] at hq80; unfold mDay; rw [show (10 * a1.toInt + (3 + a3.toInt % 7) + 10) = 10 * a1.toInt + 1 * x2.toInt + 10 by omega]; simp only [c9, c19, c77, c79]; first | exact ⟨by assumption, by assumption, by assumption⟩ | (rintro ⟨q1, q2, q3⟩; first | exact absurd q1 (by assumption) | exact q2 (by assumption) | exact q3 (by assumption)))⟩))⟩ hw dX12_isDayFor_63
abbrev P_X12_isLifted_1 (ad : Nat → Nat) (cy : Nat → ClassId) (B : Int) (qr : Nat) (s1 : Int) (a1 : Int32) (a2 : Int32) (w0 : va_W) : Int32 → va_W → Prop := fun r u => w0 = u ∧ ((r = 0 ∧ (¬ mLf w0 a1.toInt a2.toInt)) ∨ (r = 1 ∧ (∃ y : Int32, gi u 12 3 = y ∧ 1 ≤ y.toInt ∧ y.toInt ≤ 4) ∧ (mLf w0 a1.toInt a2.toInt)))
set_option maxHeartbeats 4000000 in
set_option maxRecDepth 100000 in
theorem k_X12_isLifted_1 (l : Launch) (adK adV : Nat → Nat) (dC : Nat → ClassId) (dI : Nat → Nat → Nat) (cy : Nat → ClassId) (ad : Nat → Nat) (B : Int) (hB0 : 100000 ≤ B) (hB1 : B ≤ 1073741824) (qr : Nat) (s1 : Int)  (a1 : Int32) (ra1 : 0 ≤ a1.toInt) (ta1 : a1.toInt ≤ 11) (a2 : Int32) (ra2 : 0 ≤ a2.toInt) (ta2 : a2.toInt ≤ 99999) (w0 : va_W) (sz : Nat) (hT : TW ksM ad cy B qr 12 w0)  : Met l yX12_isLifted wsX12_isLifted ({ frames := 1, cells := 0, slots := 0, locals := 12 }) (va_Pc [.ref (ad 0), .int a1, .int a2] (wpreS adK adV dC dI cy sz w0)) (va_Qi (P_X12_isLifted_1 ad cy B qr s1 a1 a2 w0) (fun u : va_W => wpost dC dI cy (va_A w0 sz) u) (va_A w0 sz)) 0 0 (va_A w0 sz) := by
  refine Met.ofW (cc := cX12_isLifted) (maxL := 5) (ret := (some .boolean)) (by decide) rfl ?_
  intro p e s m args below meth c s₁ Bk hml hv
  obtain ⟨rfl, ⟨hsz, hP, hK, hD0⟩, hE, hSR⟩ := hv
  have hx := Bk.exec
  have hb := Bk.bytes
  have hr := Bk.returns
  have hlocks := Bk.notSynchronized
  have hC : CallFix p m c cX12_isLifted 5 s _ wsX12_isLifted RX12 := ⟨hx, hb, hml, findClass_of_methodNamed Bk.named, atoms_spec (ws := wsX12_isLifted) Bk.pre⟩
  subst hsz
  have hD := hD0.self (sz := s.heap.size)
  generalize hAe : va_A w0 s.heap.size = A at hD hE ⊢
  have hA : ∀ q : Nat, s.heap.size ≤ q → A q := fun q h => by rw [← hAe]; exact Or.inr h
  have hw : Wd dC dI A s.heap s.heap [] w0 := ⟨hP, hD, va_S.rf⟩
  have hF : FE ksM ([] : List (Nat × Nat × Nat)) w0 w0 := FE.rf
  have hl := lv_entry ([.ref (ad 0), .int a1, .int a2]) (n := 5) (Nat.le_of_ble_eq_true rfl)
  rw [lg_entry_eq]
  generalize (lg_sl ([.ref (ad 0), .int a1, .int a2]) ++ List.replicate (5 - (lg_sl ([.ref (ad 0), .int a1, .int a2])).length) Slot.unset).toArray = ls at hl ⊢
  have hl : lv_has ls 5 [(0, .ref (ad 0)), (1, .int a1), (2, .int a2)] := hl
  generalize hloc : ([] : List Loc) = locs at hw ⊢
  have hinX12 : ∀ w ∈ u_ws RX12 TX12 42, w ∈ wsX12_isLifted := fun _ h => List.mem_cons_of_mem _ (List.mem_append_right _ (h))
  have L2 : ∀ (n2 : Nat) (v2_3 : Int32) (H : Heap) (locs : List Loc) (ls : Array Slot), 0 ≤ a1.toInt → a1.toInt ≤ 11 → 0 ≤ a2.toInt → a2.toInt ≤ 99999 → 0 ≤ v2_3.toInt → v2_3.toInt ≤ 4 → (∀ k : Int, 0 ≤ k → k < v2_3.toInt → ¬ mLf1 w0 k a1.toInt a2.toInt) → (4 - v2_3.toInt).toNat < n2 → Wd dC dI A s.heap H locs w0 → lv_has ls 5 [(0, .ref (ad 0)), (1, .int a1), (2, .int a2), (3, .int v2_3)] → W p l e ({ frames := 1, cells := 0, slots := 0, locals := 12 }) s m (List.toArray [.ref (ad 0), .int a1, .int a2]) below meth c H locs 0 0 (MQ below (va_Qi (P_X12_isLifted_1 ad cy B qr s1 a1 a2 w0) (fun u : va_W => wpost dC dI cy A u) A) (List.toArray [.ref (ad 0), .int a1, .int a2]) s 0 0 A) (F0 m 2 ls []) := by
    intro n2
    induction n2 with
    | zero => intro v2_3 H locs ls r1 t2 r3 t4 r5 t6 hcr2_0 hm2 hw hl; omega
    | succ n2 ih2 =>
      intro v2_3 H locs ls r1 t2 r3 t4 r5 t6 hcr2_0 hm2 hw hl
      refine lv_iload_n hx hb dX12_isLifted_2 rfl (lv_at hl 3 rfl) ?_
      refine lv_aload_n hx hb dX12_isLifted_3 rfl (lv_at hl 0 rfl) ?_
      refine tk_getA hC hK hw hT hinX12 kM_at0 (by decide) rfl 26 (by decide) (List.mem_of_getElem? (i := 1) rfl) rfl rfl dX12_isLifted_4 ?_
      refine lv_iconst (v := 3) hx hb dX12_isLifted_7 (by decide) ?_
      refine tk_ialdR hC hK hw hT kM_at12 rfl (by decide) (by decide) dX12_isLifted_8 (fun x7 c8 Ex7 => ?_)
      have bx7 := tk_rgI rfl 3 1 1 0 4 (by decide +kernel) ⟨0, by decide, by decide⟩ Ex7
      have c8 : gi w0 12 3 = x7 := c8
      refine lv_icmp_ge (tgt := 72) hx hb dX12_isLifted_9 (by decide) (fun c9 => ?_) (fun c9 => ?_)
      · have c9 : x7.toInt ≤ v2_3.toInt := wk_le.mp c9
        refine lv_iconst (v := 0) hx hb dX12_isLifted_72 (by decide) ?_
        exact tk_zret hC hr rfl hlocks hK ⟨rfl, (Or.inl ⟨rfl, (by exact mLf_no hcr2_0 (by simp only [c8]; omega))⟩)⟩ hw dX12_isLifted_73
      · have c9 : v2_3.toInt < x7.toInt := wk_leF c9
        refine lv_sipush (v := 156) hx hb dX12_isLifted_12 (by decide) ?_
        refine lv_iconst (v := 3) hx hb dX12_isLifted_15 (by decide) ?_
        refine lv_iload_n hx hb dX12_isLifted_16 rfl (lv_at hl 3 rfl) ?_
        refine lv_imul hx hb dX12_isLifted_17 ?_
        refine lv_topi (fun x10 ex10 => ?_)
        have ex10 : x10.toInt = (3 : Int) * v2_3.toInt := by rw [ex10]; exact wk_mul (show (-2147483648) ≤ (3 : Int) * v2_3.toInt by omega) (show (3 : Int) * v2_3.toInt ≤ 2147483647 by omega)
        refine lv_iadd hx hb dX12_isLifted_18 ?_
        refine lv_topi (fun x11 ex11 => ?_)
        have ex11 : x11.toInt = (156 : Int) + x10.toInt := by rw [ex11]; exact wk_add (show (-2147483648) ≤ (156 : Int) + x10.toInt by omega) (show (156 : Int) + x10.toInt ≤ 2147483647 by omega)
        refine lv_istore (lv' := [(4, .int x11), (0, .ref (ad 0)), (1, .int a1), (2, .int a2), (3, .int v2_3)]) hx hb dX12_isLifted_19 hl (by decide) rfl (fun ls hl => ?_)
        refine lv_aload_n hx hb dX12_isLifted_21 rfl (lv_at hl 1 rfl) ?_
        refine tk_getA hC hK hw hT hinX12 kM_at0 (by decide) rfl 26 (by decide) (List.mem_of_getElem? (i := 1) rfl) rfl rfl dX12_isLifted_22 ?_
        refine lv_iload hx hb dX12_isLifted_25 (lv_at hl 0 rfl) ?_
        refine tk_ialdR hC hK hw hT kM_at12 rfl (show 0 ≤ x11.toInt by omega) (show x11.toInt < 296 by omega) dX12_isLifted_27 (fun x12 c13 Ex12 => ?_)
        have c13 : gi w0 12 (3 * v2_3.toInt + 156).toNat = x12 := (congrArg (gi w0 12) (congrArg Int.toNat (show 3 * v2_3.toInt + 156 = x11.toInt by omega))).trans c13
        refine lv_iload_n hx hb dX12_isLifted_28 rfl (lv_at hl 2 rfl) ?_
        refine lv_icmp_ne (tgt := 66) hx hb dX12_isLifted_29 (by decide) (fun c14 => ?_) (fun c14 => ?_)
        · have c14 : ¬ x12.toInt = a1.toInt := wk_eqF c14
          obtain ⟨x15, ex15⟩ : ∃ y : Int32, y = v2_3 + Int32.ofInt 1 := ⟨_, rfl⟩
          refine lv_iinc (v := x15) (lv' := [(3, .int x15), (4, .int x11), (0, .ref (ad 0)), (1, .int a1), (2, .int a2)]) hx hb dX12_isLifted_66 hl (k := 4) rfl ex15.symm (by decide) rfl (fun ls hl => ?_)
          have ex15 : x15.toInt = v2_3.toInt + 1 := by rw [ex15]; exact wk_add (y := 1) (show -2147483648 ≤ v2_3.toInt + 1 by omega) (show v2_3.toInt + 1 ≤ 2147483647 by omega)
          refine lv_goto (tgt := 2) hx hb dX12_isLifted_69 (by decide) ?_
          exact ih2 x15 H locs ls  (show 0 ≤ a1.toInt by omega) (show a1.toInt ≤ 11 by omega) (show 0 ≤ a2.toInt by omega) (show a2.toInt ≤ 99999 by omega) (show 0 ≤ x15.toInt by omega) (show x15.toInt ≤ 4 by omega) (show ∀ k : Int, 0 ≤ k → k < x15.toInt → ¬ mLf1 w0 k a1.toInt a2.toInt from all_step hcr2_0 (show ¬ mLf1 w0 v2_3.toInt a1.toInt a2.toInt by unfold mLf1; simp only [c8, c13]; omega) (by omega)) (show (4 - x15.toInt).toNat < n2 by omega) hw   (lv_sub hl [2, 3, 4, 0] rfl)
        · have c14 : x12.toInt = a1.toInt := wk_eq.mp c14
          refine lv_iload_n hx hb dX12_isLifted_32 rfl (lv_at hl 3 rfl) ?_
          refine lv_bipush (v := 24) hx hb dX12_isLifted_33 (by decide) ?_
          refine lv_irem hx hb dX12_isLifted_35 (by decide) ?_
          refine lv_topi (fun x16 ex16 => ?_)
          have ex16 : x16.toInt = a2.toInt % (24 : Int) := by rw [ex16]; exact wk_rem (show 0 ≤ a2.toInt by omega) (show 0 < (24 : Int) by decide)
          refine lv_aload_n hx hb dX12_isLifted_36 rfl (lv_at hl 1 rfl) ?_
          refine tk_getA hC hK hw hT hinX12 kM_at0 (by decide) rfl 26 (by decide) (List.mem_of_getElem? (i := 1) rfl) rfl rfl dX12_isLifted_37 ?_
          refine lv_iload hx hb dX12_isLifted_40 (lv_at hl 0 rfl) ?_
          refine lv_iconst (v := 1) hx hb dX12_isLifted_42 (by decide) ?_
          refine lv_iadd hx hb dX12_isLifted_43 ?_
          refine lv_topi (fun x17 ex17 => ?_)
          have ex17 : x17.toInt = x11.toInt + (1 : Int) := by rw [ex17]; exact wk_add (show (-2147483648) ≤ x11.toInt + (1 : Int) by omega) (show x11.toInt + (1 : Int) ≤ 2147483647 by omega)
          refine tk_ialdR hC hK hw hT kM_at12 rfl (show 0 ≤ x17.toInt by omega) (show x17.toInt < 296 by omega) dX12_isLifted_44 (fun x18 c19 Ex18 => ?_)
          have c19 : gi w0 12 (3 * v2_3.toInt + 157).toNat = x18 := (congrArg (gi w0 12) (congrArg Int.toNat (show 3 * v2_3.toInt + 157 = x17.toInt by omega))).trans c19
          refine lv_icmp_lt (tgt := 66) hx hb dX12_isLifted_45 (by decide) (fun c20 => ?_) (fun c20 => ?_)
          · have c20 : x16.toInt < x18.toInt := wk_lt.mp c20
            obtain ⟨x21, ex21⟩ : ∃ y : Int32, y = v2_3 + Int32.ofInt 1 := ⟨_, rfl⟩
            refine lv_iinc (v := x21) (lv' := [(3, .int x21), (4, .int x11), (0, .ref (ad 0)), (1, .int a1), (2, .int a2)]) hx hb dX12_isLifted_66 hl (k := 4) rfl ex21.symm (by decide) rfl (fun ls hl => ?_)
            have ex21 : x21.toInt = v2_3.toInt + 1 := by rw [ex21]; exact wk_add (y := 1) (show -2147483648 ≤ v2_3.toInt + 1 by omega) (show v2_3.toInt + 1 ≤ 2147483647 by omega)
            refine lv_goto (tgt := 2) hx hb dX12_isLifted_69 (by decide) ?_
            exact ih2 x21 H locs ls  (show 0 ≤ a1.toInt by omega) (show a1.toInt ≤ 11 by omega) (show 0 ≤ a2.toInt by omega) (show a2.toInt ≤ 99999 by omega) (show 0 ≤ x21.toInt by omega) (show x21.toInt ≤ 4 by omega) (show ∀ k : Int, 0 ≤ k → k < x21.toInt → ¬ mLf1 w0 k a1.toInt a2.toInt from all_step hcr2_0 (show ¬ mLf1 w0 v2_3.toInt a1.toInt a2.toInt by unfold mLf1; simp only [c8, c13, c19]; omega) (by omega)) (show (4 - x21.toInt).toNat < n2 by omega) hw   (lv_sub hl [2, 3, 4, 0] rfl)
          · have c20 : x18.toInt ≤ x16.toInt := wk_ltF c20
            refine lv_iload_n hx hb dX12_isLifted_48 rfl (lv_at hl 3 rfl) ?_
            refine lv_bipush (v := 24) hx hb dX12_isLifted_49 (by decide) ?_
            refine lv_irem hx hb dX12_isLifted_51 (by decide) ?_
            refine lv_topi (fun x22 ex22 => ?_)
            have ex22 : x22.toInt = a2.toInt % (24 : Int) := by rw [ex22]; exact wk_rem (show 0 ≤ a2.toInt by omega) (show 0 < (24 : Int) by decide)
            refine lv_aload_n hx hb dX12_isLifted_52 rfl (lv_at hl 1 rfl) ?_
            refine tk_getA hC hK hw hT hinX12 kM_at0 (by decide) rfl 26 (by decide) (List.mem_of_getElem? (i := 1) rfl) rfl rfl dX12_isLifted_53 ?_
            refine lv_iload hx hb dX12_isLifted_56 (lv_at hl 0 rfl) ?_
            refine lv_iconst (v := 2) hx hb dX12_isLifted_58 (by decide) ?_
            refine lv_iadd hx hb dX12_isLifted_59 ?_
            refine lv_topi (fun x23 ex23 => ?_)
            have ex23 : x23.toInt = x11.toInt + (2 : Int) := by rw [ex23]; exact wk_add (show (-2147483648) ≤ x11.toInt + (2 : Int) by omega) (show x11.toInt + (2 : Int) ≤ 2147483647 by omega)
            refine tk_ialdR hC hK hw hT kM_at12 rfl (show 0 ≤ x23.toInt by omega) (show x23.toInt < 296 by omega) dX12_isLifted_60 (fun x24 c25 Ex24 => ?_)
            have c25 : gi w0 12 (3 * v2_3.toInt + 158).toNat = x24 := (congrArg (gi w0 12) (congrArg Int.toNat (show 3 * v2_3.toInt + 158 = x23.toInt by omega))).trans c25
            refine lv_icmp_ge (tgt := 66) hx hb dX12_isLifted_61 (by decide) (fun c26 => ?_) (fun c26 => ?_)
            · have c26 : x24.toInt ≤ x22.toInt := wk_le.mp c26
              obtain ⟨x27, ex27⟩ : ∃ y : Int32, y = v2_3 + Int32.ofInt 1 := ⟨_, rfl⟩
              refine lv_iinc (v := x27) (lv' := [(3, .int x27), (4, .int x11), (0, .ref (ad 0)), (1, .int a1), (2, .int a2)]) hx hb dX12_isLifted_66 hl (k := 4) rfl ex27.symm (by decide) rfl (fun ls hl => ?_)
              have ex27 : x27.toInt = v2_3.toInt + 1 := by rw [ex27]; exact wk_add (y := 1) (show -2147483648 ≤ v2_3.toInt + 1 by omega) (show v2_3.toInt + 1 ≤ 2147483647 by omega)
              refine lv_goto (tgt := 2) hx hb dX12_isLifted_69 (by decide) ?_
              exact ih2 x27 H locs ls  (show 0 ≤ a1.toInt by omega) (show a1.toInt ≤ 11 by omega) (show 0 ≤ a2.toInt by omega) (show a2.toInt ≤ 99999 by omega) (show 0 ≤ x27.toInt by omega) (show x27.toInt ≤ 4 by omega) (show ∀ k : Int, 0 ≤ k → k < x27.toInt → ¬ mLf1 w0 k a1.toInt a2.toInt from all_step hcr2_0 (show ¬ mLf1 w0 v2_3.toInt a1.toInt a2.toInt by unfold mLf1; simp only [c8, c13, c19, c25]; omega) (by omega)) (show (4 - x27.toInt).toNat < n2 by omega) hw   (lv_sub hl [2, 3, 4, 0] rfl)
            · have c26 : x22.toInt < x24.toInt := wk_leF c26
              refine lv_iconst (v := 1) hx hb dX12_isLifted_64 (by decide) ?_
              exact tk_zret hC hr rfl hlocks hK ⟨rfl, (Or.inr ⟨rfl, ⟨x7, c8, (show 1 ≤ x7.toInt by omega), (show x7.toInt ≤ 4 by omega)⟩, (by exact ⟨v2_3.toInt, by omega, by simp only [c8, c13, c19, c25]; omega, by unfold mLf1; simp only [c8, c13, c19, c25]; omega⟩)⟩)⟩ hw dX12_isLifted_65
  refine lv_iconst (v := 0) hx hb dX12_isLifted_0 (by decide) ?_
  refine lv_istore_n (lv' := [(3, .int 0), (0, .ref (ad 0)), (1, .int a1), (2, .int a2)]) hx hb dX12_isLifted_1 rfl hl (by decide) rfl (fun ls hl => ?_)
  exact L2 ((4 - (0 : Int)).toNat + 1) 0 s.heap locs ls  (show 0 ≤ a1.toInt by omega) (show a1.toInt ≤ 11 by omega) (show 0 ≤ a2.toInt by omega) (show a2.toInt ≤ 99999 by omega) (by decide) (by decide) (show ∀ k : Int, 0 ≤ k → k < (0 : Int) → ¬ mLf1 w0 k a1.toInt a2.toInt from all_none) (Nat.lt_succ_self _) hw   (lv_sub hl [1, 2, 3, 0] rfl)
abbrev P_X12_isOpen_1 (ad : Nat → Nat) (cy : Nat → ClassId) (B : Int) (qr : Nat) (s1 : Int) (a1 : Int32) (a2 : Int32) (a3 : Int32) (w0 : va_W) : Int32 → va_W → Prop := fun r u => w0 = u ∧ ((r = 0 ∧ (¬ mOpen w0 a1.toInt a2.toInt a3.toInt)) ∨ (r = 0 ∧ gi u 12 (10 * a1.toInt + 10).toNat = a2 ∧ gi u 12 (10 * a1.toInt + 11).toNat = a2 ∧ (¬ mOpen w0 a1.toInt a2.toInt a3.toInt)) ∨ (r = 0 ∧ gi u 12 (10 * a1.toInt + 10).toNat = a2 ∧ (¬ mOpen w0 a1.toInt a2.toInt a3.toInt)) ∨ (r = 0 ∧ gi u 12 (10 * a1.toInt + 11).toNat = a2 ∧ (¬ mOpen w0 a1.toInt a2.toInt a3.toInt)) ∨ (r = 1 ∧ gi u 12 (10 * a1.toInt + 10).toNat = a2 ∧ gi u 12 (10 * a1.toInt + 11).toNat = a2 ∧ (mOpen w0 a1.toInt a2.toInt a3.toInt)) ∨ (r = 1 ∧ gi u 12 (10 * a1.toInt + 10).toNat = a2 ∧ (mOpen w0 a1.toInt a2.toInt a3.toInt)) ∨ (r = 1 ∧ gi u 12 (10 * a1.toInt + 11).toNat = a2 ∧ (mOpen w0 a1.toInt a2.toInt a3.toInt)))
set_option maxHeartbeats 4000000 in
set_option maxRecDepth 100000 in
theorem k_X12_isOpen_1 (l : Launch) (adK adV : Nat → Nat) (dC : Nat → ClassId) (dI : Nat → Nat → Nat) (cy : Nat → ClassId) (ad : Nat → Nat) (B : Int) (hB0 : 100000 ≤ B) (hB1 : B ≤ 1073741824) (qr : Nat) (s1 : Int)  (a1 : Int32) (ra1 : 0 ≤ a1.toInt) (ta1 : a1.toInt ≤ 11) (a2 : Int32) (ra2 : 0 ≤ a2.toInt) (ta2 : a2.toInt ≤ 9) (a3 : Int32) (ra3 : 0 ≤ a3.toInt) (ta3 : a3.toInt ≤ 99999) (w0 : va_W) (sz : Nat) (hT : TW ksM ad cy B qr 12 w0)  : Met l yX12_isOpen wsX12_isOpen ({ frames := 4, cells := 0, slots := 0, locals := 80 }) (va_Pc [.ref (ad 0), .int a1, .int a2, .int a3] (wpreS adK adV dC dI cy sz w0)) (va_Qi (P_X12_isOpen_1 ad cy B qr s1 a1 a2 a3 w0) (fun u : va_W => wpost dC dI cy (va_A w0 sz) u) (va_A w0 sz)) 0 0 (va_A w0 sz) := by
  refine Met.ofW (cc := cX12_isOpen) (maxL := 4) (ret := (some .boolean)) (by decide) rfl ?_
  intro p e s m args below meth c s₁ Bk hml hv
  obtain ⟨rfl, ⟨hsz, hP, hK, hD0⟩, hE, hSR⟩ := hv
  have hx := Bk.exec
  have hb := Bk.bytes
  have hr := Bk.returns
  have hlocks := Bk.notSynchronized
  have hC : CallFix p m c cX12_isOpen 4 s _ wsX12_isOpen RX12 := ⟨hx, hb, hml, findClass_of_methodNamed Bk.named, atoms_spec (ws := wsX12_isOpen) Bk.pre⟩
  subst hsz
  have hD := hD0.self (sz := s.heap.size)
  generalize hAe : va_A w0 s.heap.size = A at hD hE ⊢
  have hA : ∀ q : Nat, s.heap.size ≤ q → A q := fun q h => by rw [← hAe]; exact Or.inr h
  have hw : Wd dC dI A s.heap s.heap [] w0 := ⟨hP, hD, va_S.rf⟩
  have hF : FE ksM ([] : List (Nat × Nat × Nat)) w0 w0 := FE.rf
  have hl := lv_entry ([.ref (ad 0), .int a1, .int a2, .int a3]) (n := 4) (Nat.le_of_ble_eq_true rfl)
  rw [lg_entry_eq]
  generalize (lg_sl ([.ref (ad 0), .int a1, .int a2, .int a3]) ++ List.replicate (4 - (lg_sl ([.ref (ad 0), .int a1, .int a2, .int a3])).length) Slot.unset).toArray = ls at hl ⊢
  have hl : lv_has ls 4 [(0, .ref (ad 0)), (1, .int a1), (2, .int a2), (3, .int a3)] := hl
  generalize hloc : ([] : List Loc) = locs at hw ⊢
  refine lv_aload_n hx hb dX12_isOpen_0 rfl (lv_at hl 0 rfl) ?_
  refine lv_iload_n hx hb dX12_isOpen_1 rfl (lv_at hl 1 rfl) ?_
  refine lv_iload_n hx hb dX12_isOpen_2 rfl (lv_at hl 2 rfl) ?_
  refine tk_Vi hC hK hw hT hA hE hSR kM_at0 (by decide) rfl (k_X12_isAt_1 l adK adV dC dI cy ad B (by omega) (by omega) qr s1   a1 (show 0 ≤ a1.toInt by omega) (show a1.toInt ≤ 11 by omega) a2 (show 0 ≤ a2.toInt by omega) (show a2.toInt ≤ 9 by omega) w0 s.heap.size hT ) (cwV 2 hC.2.2.2.2 gX12_isOpen_X12_isAt rfl rfl rfl (by decide +kernel) ⟨Nat.le_of_ble_eq_true rfl, Nat.le_of_ble_eq_true rfl⟩) rfl hl.1 rfl (Nat.le_of_ble_eq_true rfl) dX12_isOpen_3 (fun r1 w3 H locs hp2 hw => ?_)
  obtain ⟨rfl, hg10⟩ := hp2
  rcases hg10 with ⟨rfl, hq5⟩ | ⟨rfl, c6, hq7⟩ | ⟨rfl, c8, hq9⟩
  · refine lv_if_eq (tgt := 35) hx hb dX12_isOpen_6 (by decide) (fun _ => ?_) (fun c => absurd (by decide) c)
    refine lv_iconst (v := 0) hx hb dX12_isOpen_35 (by decide) ?_
    exact tk_zret hC hr rfl hlocks hK ⟨rfl, (Or.inl ⟨rfl, (by unfold mOpen; first | exact ⟨by assumption, by assumption, by assumption⟩ | (rintro ⟨q1, q2, q3⟩; first | exact absurd q1 (by assumption) | exact absurd q2 (by assumption) | exact q3 (by assumption)))⟩)⟩ hw dX12_isOpen_36
  · refine lv_if_eq (tgt := 35) hx hb dX12_isOpen_6 (by decide) (fun c => absurd c (by decide)) (fun _ => ?_)
    refine lv_aload_n hx hb dX12_isOpen_9 rfl (lv_at hl 0 rfl) ?_
    refine lv_iload_n hx hb dX12_isOpen_10 rfl (lv_at hl 1 rfl) ?_
    refine lv_iload_n hx hb dX12_isOpen_11 rfl (lv_at hl 2 rfl) ?_
    refine lv_iload_n hx hb dX12_isOpen_12 rfl (lv_at hl 3 rfl) ?_
    refine lv_bipush (v := 24) hx hb dX12_isOpen_13 (by decide) ?_
    refine lv_idiv hx hb dX12_isOpen_15 (by decide) ?_
    refine lv_topi (fun x11 ex11 => ?_)
    have ex11 : x11.toInt = a3.toInt / (24 : Int) := by rw [ex11]; exact wk_div (show 0 ≤ a3.toInt by omega) (show 0 < (24 : Int) by decide)
    refine tk_Vi hC hK hw hT hA hE hSR kM_at0 (by decide) rfl (k_X12_isDayFor_1 l adK adV dC dI cy ad B (by omega) (by omega) qr s1   a1 (show 0 ≤ a1.toInt by omega) (show a1.toInt ≤ 11 by omega) a2 (show 0 ≤ a2.toInt by omega) (show a2.toInt ≤ 9 by omega) x11 (show 0 ≤ x11.toInt by omega) (show x11.toInt ≤ 4166 by omega) w0 H.size hT ) (cwV 3 hC.2.2.2.2 gX12_isOpen_X12_isDayFor rfl rfl rfl (by decide +kernel) ⟨Nat.le_of_ble_eq_true rfl, Nat.le_of_ble_eq_true rfl⟩) rfl hl.1 rfl (Nat.le_of_ble_eq_true rfl) dX12_isOpen_16 (fun r12 w14 H locs hp13 hw => ?_)
    obtain ⟨rfl, hg22⟩ := hp13
    rcases hg22 with ⟨rfl, hq16⟩ | ⟨rfl, c17, hq18⟩ | ⟨rfl, hq19⟩ | ⟨rfl, c20, hq21⟩
    · refine lv_if_eq (tgt := 35) hx hb dX12_isOpen_19 (by decide) (fun _ => ?_) (fun c => absurd (by decide) c)
      refine lv_iconst (v := 0) hx hb dX12_isOpen_35 (by decide) ?_
      exact tk_zret hC hr rfl hlocks hK ⟨rfl, (Or.inr (Or.inr (Or.inl ⟨rfl, c6, (by rw [show x11.toInt = a3.toInt / 24 by omega] at hq16; unfold mOpen; first | exact ⟨by assumption, by assumption, by assumption⟩ | (rintro ⟨q1, q2, q3⟩; first | exact absurd q1 (by assumption) | exact absurd q2 (by assumption) | exact q3 (by assumption)))⟩)))⟩ hw dX12_isOpen_36
    · refine lv_if_eq (tgt := 35) hx hb dX12_isOpen_19 (by decide) (fun _ => ?_) (fun c => absurd (by decide) c)
      refine lv_iconst (v := 0) hx hb dX12_isOpen_35 (by decide) ?_
      exact tk_zret hC hr rfl hlocks hK ⟨rfl, (Or.inr (Or.inr (Or.inl ⟨rfl, c6, (by rw [show x11.toInt = a3.toInt / 24 by omega] at hq18; unfold mOpen; first | exact ⟨by assumption, by assumption, by assumption⟩ | (rintro ⟨q1, q2, q3⟩; first | exact absurd q1 (by assumption) | exact absurd q2 (by assumption) | exact q3 (by assumption)))⟩)))⟩ hw dX12_isOpen_36
    · refine lv_if_eq (tgt := 35) hx hb dX12_isOpen_19 (by decide) (fun c => absurd c (by decide)) (fun _ => ?_)
      refine lv_aload_n hx hb dX12_isOpen_22 rfl (lv_at hl 0 rfl) ?_
      refine lv_iload_n hx hb dX12_isOpen_23 rfl (lv_at hl 1 rfl) ?_
      refine lv_iload_n hx hb dX12_isOpen_24 rfl (lv_at hl 3 rfl) ?_
      refine tk_Vi hC hK hw hT hA hE hSR kM_at0 (by decide) rfl (k_X12_isLifted_1 l adK adV dC dI cy ad B (by omega) (by omega) qr s1   a1 (show 0 ≤ a1.toInt by omega) (show a1.toInt ≤ 11 by omega) a3 (show 0 ≤ a3.toInt by omega) (show a3.toInt ≤ 99999 by omega) w0 H.size hT ) (cwV 2 hC.2.2.2.2 gX12_isOpen_X12_isLifted rfl rfl rfl (by decide +kernel) ⟨Nat.le_of_ble_eq_true rfl, Nat.le_of_ble_eq_true rfl⟩) rfl hl.1 rfl (Nat.le_of_ble_eq_true rfl) dX12_isOpen_25 (fun r23 w25 H locs hp24 hw => ?_)
      obtain ⟨rfl, hg31⟩ := hp24
      rcases hg31 with ⟨rfl, hq27⟩ | ⟨rfl, ⟨x28, c29, rx28, tx28⟩, hq30⟩
      · refine lv_if_ne (tgt := 35) hx hb dX12_isOpen_28 (by decide) (fun c => absurd (by decide) c) (fun _ => ?_)
        refine lv_iconst (v := 1) hx hb dX12_isOpen_31 (by decide) ?_
        refine lv_goto (tgt := 36) hx hb dX12_isOpen_32 (by decide) ?_
        exact tk_zret hC hr rfl hlocks hK ⟨rfl, (Or.inr (Or.inr (Or.inr (Or.inr (Or.inr (Or.inl ⟨rfl, c6, (by rw [show x11.toInt = a3.toInt / 24 by omega] at hq19; unfold mOpen; first | exact ⟨by assumption, by assumption, by assumption⟩ | (rintro ⟨q1, q2, q3⟩; first | exact absurd q1 (by assumption) | exact absurd q2 (by assumption) | exact q3 (by assumption)))⟩))))))⟩ hw dX12_isOpen_36
      · refine lv_if_ne (tgt := 35) hx hb dX12_isOpen_28 (by decide) (fun _ => ?_) (fun c => absurd c (by decide))
        refine lv_iconst (v := 0) hx hb dX12_isOpen_35 (by decide) ?_
        exact tk_zret hC hr rfl hlocks hK ⟨rfl, (Or.inr (Or.inr (Or.inl ⟨rfl, c6, (by rw [show x11.toInt = a3.toInt / 24 by omega] at hq19; unfold mOpen; first | exact ⟨by assumption, by assumption, by assumption⟩ | (rintro ⟨q1, q2, q3⟩; first | exact absurd q1 (by assumption) | exact absurd q2 (by assumption) | exact q3 (by assumption)))⟩)))⟩ hw dX12_isOpen_36
    · refine lv_if_eq (tgt := 35) hx hb dX12_isOpen_19 (by decide) (fun c => absurd c (by decide)) (fun _ => ?_)
      refine lv_aload_n hx hb dX12_isOpen_22 rfl (lv_at hl 0 rfl) ?_
      refine lv_iload_n hx hb dX12_isOpen_23 rfl (lv_at hl 1 rfl) ?_
      refine lv_iload_n hx hb dX12_isOpen_24 rfl (lv_at hl 3 rfl) ?_
      refine tk_Vi hC hK hw hT hA hE hSR kM_at0 (by decide) rfl (k_X12_isLifted_1 l adK adV dC dI cy ad B (by omega) (by omega) qr s1   a1 (show 0 ≤ a1.toInt by omega) (show a1.toInt ≤ 11 by omega) a3 (show 0 ≤ a3.toInt by omega) (show a3.toInt ≤ 99999 by omega) w0 H.size hT ) (cwV 2 hC.2.2.2.2 gX12_isOpen_X12_isLifted rfl rfl rfl (by decide +kernel) ⟨Nat.le_of_ble_eq_true rfl, Nat.le_of_ble_eq_true rfl⟩) rfl hl.1 rfl (Nat.le_of_ble_eq_true rfl) dX12_isOpen_25 (fun r32 w34 H locs hp33 hw => ?_)
      obtain ⟨rfl, hg40⟩ := hp33
      rcases hg40 with ⟨rfl, hq36⟩ | ⟨rfl, ⟨x37, c38, rx37, tx37⟩, hq39⟩
      · refine lv_if_ne (tgt := 35) hx hb dX12_isOpen_28 (by decide) (fun c => absurd (by decide) c) (fun _ => ?_)
        refine lv_iconst (v := 1) hx hb dX12_isOpen_31 (by decide) ?_
        refine lv_goto (tgt := 36) hx hb dX12_isOpen_32 (by decide) ?_
        exact tk_zret hC hr rfl hlocks hK ⟨rfl, (Or.inr (Or.inr (Or.inr (Or.inr (Or.inr (Or.inl ⟨rfl, c6, (by rw [show x11.toInt = a3.toInt / 24 by omega] at hq21; unfold mOpen; first | exact ⟨by assumption, by assumption, by assumption⟩ | (rintro ⟨q1, q2, q3⟩; first | exact absurd q1 (by assumption) | exact absurd q2 (by assumption) | exact q3 (by assumption)))⟩))))))⟩ hw dX12_isOpen_36
      · refine lv_if_ne (tgt := 35) hx hb dX12_isOpen_28 (by decide) (fun _ => ?_) (fun c => absurd c (by decide))
        refine lv_iconst (v := 0) hx hb dX12_isOpen_35 (by decide) ?_
        exact tk_zret hC hr rfl hlocks hK ⟨rfl, (Or.inr (Or.inr (Or.inl ⟨rfl, c6, (by rw [show x11.toInt = a3.toInt / 24 by omega] at hq21; unfold mOpen; first | exact ⟨by assumption, by assumption, by assumption⟩ | (rintro ⟨q1, q2, q3⟩; first | exact absurd q1 (by assumption) | exact absurd q2 (by assumption) | exact q3 (by assumption)))⟩)))⟩ hw dX12_isOpen_36
  · refine lv_if_eq (tgt := 35) hx hb dX12_isOpen_6 (by decide) (fun c => absurd c (by decide)) (fun _ => ?_)
    refine lv_aload_n hx hb dX12_isOpen_9 rfl (lv_at hl 0 rfl) ?_
    refine lv_iload_n hx hb dX12_isOpen_10 rfl (lv_at hl 1 rfl) ?_
    refine lv_iload_n hx hb dX12_isOpen_11 rfl (lv_at hl 2 rfl) ?_
    refine lv_iload_n hx hb dX12_isOpen_12 rfl (lv_at hl 3 rfl) ?_
    refine lv_bipush (v := 24) hx hb dX12_isOpen_13 (by decide) ?_
    refine lv_idiv hx hb dX12_isOpen_15 (by decide) ?_
    refine lv_topi (fun x41 ex41 => ?_)
    have ex41 : x41.toInt = a3.toInt / (24 : Int) := by rw [ex41]; exact wk_div (show 0 ≤ a3.toInt by omega) (show 0 < (24 : Int) by decide)
    refine tk_Vi hC hK hw hT hA hE hSR kM_at0 (by decide) rfl (k_X12_isDayFor_1 l adK adV dC dI cy ad B (by omega) (by omega) qr s1   a1 (show 0 ≤ a1.toInt by omega) (show a1.toInt ≤ 11 by omega) a2 (show 0 ≤ a2.toInt by omega) (show a2.toInt ≤ 9 by omega) x41 (show 0 ≤ x41.toInt by omega) (show x41.toInt ≤ 4166 by omega) w0 H.size hT ) (cwV 3 hC.2.2.2.2 gX12_isOpen_X12_isDayFor rfl rfl rfl (by decide +kernel) ⟨Nat.le_of_ble_eq_true rfl, Nat.le_of_ble_eq_true rfl⟩) rfl hl.1 rfl (Nat.le_of_ble_eq_true rfl) dX12_isOpen_16 (fun r42 w44 H locs hp43 hw => ?_)
    obtain ⟨rfl, hg52⟩ := hp43
    rcases hg52 with ⟨rfl, hq46⟩ | ⟨rfl, c47, hq48⟩ | ⟨rfl, hq49⟩ | ⟨rfl, c50, hq51⟩
    · refine lv_if_eq (tgt := 35) hx hb dX12_isOpen_19 (by decide) (fun _ => ?_) (fun c => absurd (by decide) c)
      refine lv_iconst (v := 0) hx hb dX12_isOpen_35 (by decide) ?_
      exact tk_zret hC hr rfl hlocks hK ⟨rfl, (Or.inr (Or.inr (Or.inr (Or.inl ⟨rfl, c8, (by rw [show x41.toInt = a3.toInt / 24 by omega] at hq46; unfold mOpen; first | exact ⟨by assumption, by assumption, by assumption⟩ | (rintro ⟨q1, q2, q3⟩; first | exact absurd q1 (by assumption) | exact absurd q2 (by assumption) | exact q3 (by assumption)))⟩))))⟩ hw dX12_isOpen_36
    · refine lv_if_eq (tgt := 35) hx hb dX12_isOpen_19 (by decide) (fun _ => ?_) (fun c => absurd (by decide) c)
      refine lv_iconst (v := 0) hx hb dX12_isOpen_35 (by decide) ?_
      exact tk_zret hC hr rfl hlocks hK ⟨rfl, (Or.inr (Or.inl ⟨rfl, c47, c8, (by rw [show x41.toInt = a3.toInt / 24 by omega] at hq48; unfold mOpen; first | exact ⟨by assumption, by assumption, by assumption⟩ | (rintro ⟨q1, q2, q3⟩; first | exact absurd q1 (by assumption) | exact absurd q2 (by assumption) | exact q3 (by assumption)))⟩))⟩ hw dX12_isOpen_36
    · refine lv_if_eq (tgt := 35) hx hb dX12_isOpen_19 (by decide) (fun c => absurd c (by decide)) (fun _ => ?_)
      refine lv_aload_n hx hb dX12_isOpen_22 rfl (lv_at hl 0 rfl) ?_
      refine lv_iload_n hx hb dX12_isOpen_23 rfl (lv_at hl 1 rfl) ?_
      refine lv_iload_n hx hb dX12_isOpen_24 rfl (lv_at hl 3 rfl) ?_
      refine tk_Vi hC hK hw hT hA hE hSR kM_at0 (by decide) rfl (k_X12_isLifted_1 l adK adV dC dI cy ad B (by omega) (by omega) qr s1   a1 (show 0 ≤ a1.toInt by omega) (show a1.toInt ≤ 11 by omega) a3 (show 0 ≤ a3.toInt by omega) (show a3.toInt ≤ 99999 by omega) w0 H.size hT ) (cwV 2 hC.2.2.2.2 gX12_isOpen_X12_isLifted rfl rfl rfl (by decide +kernel) ⟨Nat.le_of_ble_eq_true rfl, Nat.le_of_ble_eq_true rfl⟩) rfl hl.1 rfl (Nat.le_of_ble_eq_true rfl) dX12_isOpen_25 (fun r53 w55 H locs hp54 hw => ?_)
      obtain ⟨rfl, hg61⟩ := hp54
      rcases hg61 with ⟨rfl, hq57⟩ | ⟨rfl, ⟨x58, c59, rx58, tx58⟩, hq60⟩
      · refine lv_if_ne (tgt := 35) hx hb dX12_isOpen_28 (by decide) (fun c => absurd (by decide) c) (fun _ => ?_)
        refine lv_iconst (v := 1) hx hb dX12_isOpen_31 (by decide) ?_
        refine lv_goto (tgt := 36) hx hb dX12_isOpen_32 (by decide) ?_
        exact tk_zret hC hr rfl hlocks hK ⟨rfl, (Or.inr (Or.inr (Or.inr (Or.inr (Or.inr (Or.inr ⟨rfl, c8, (by rw [show x41.toInt = a3.toInt / 24 by omega] at hq49; unfold mOpen; first | exact ⟨by assumption, by assumption, by assumption⟩ | (rintro ⟨q1, q2, q3⟩; first | exact absurd q1 (by assumption) | exact absurd q2 (by assumption) | exact q3 (by assumption)))⟩))))))⟩ hw dX12_isOpen_36
      · refine lv_if_ne (tgt := 35) hx hb dX12_isOpen_28 (by decide) (fun _ => ?_) (fun c => absurd c (by decide))
        refine lv_iconst (v := 0) hx hb dX12_isOpen_35 (by decide) ?_
        exact tk_zret hC hr rfl hlocks hK ⟨rfl, (Or.inr (Or.inr (Or.inr (Or.inl ⟨rfl, c8, (by rw [show x41.toInt = a3.toInt / 24 by omega] at hq49; unfold mOpen; first | exact ⟨by assumption, by assumption, by assumption⟩ | (rintro ⟨q1, q2, q3⟩; first | exact absurd q1 (by assumption) | exact absurd q2 (by assumption) | exact q3 (by assumption)))⟩))))⟩ hw dX12_isOpen_36
    · refine lv_if_eq (tgt := 35) hx hb dX12_isOpen_19 (by decide) (fun c => absurd c (by decide)) (fun _ => ?_)
      refine lv_aload_n hx hb dX12_isOpen_22 rfl (lv_at hl 0 rfl) ?_
      refine lv_iload_n hx hb dX12_isOpen_23 rfl (lv_at hl 1 rfl) ?_
      refine lv_iload_n hx hb dX12_isOpen_24 rfl (lv_at hl 3 rfl) ?_
      refine tk_Vi hC hK hw hT hA hE hSR kM_at0 (by decide) rfl (k_X12_isLifted_1 l adK adV dC dI cy ad B (by omega) (by omega) qr s1   a1 (show 0 ≤ a1.toInt by omega) (show a1.toInt ≤ 11 by omega) a3 (show 0 ≤ a3.toInt by omega) (show a3.toInt ≤ 99999 by omega) w0 H.size hT ) (cwV 2 hC.2.2.2.2 gX12_isOpen_X12_isLifted rfl rfl rfl (by decide +kernel) ⟨Nat.le_of_ble_eq_true rfl, Nat.le_of_ble_eq_true rfl⟩) rfl hl.1 rfl (Nat.le_of_ble_eq_true rfl) dX12_isOpen_25 (fun r62 w64 H locs hp63 hw => ?_)
      obtain ⟨rfl, hg70⟩ := hp63
      rcases hg70 with ⟨rfl, hq66⟩ | ⟨rfl, ⟨x67, c68, rx67, tx67⟩, hq69⟩
      · refine lv_if_ne (tgt := 35) hx hb dX12_isOpen_28 (by decide) (fun c => absurd (by decide) c) (fun _ => ?_)
        refine lv_iconst (v := 1) hx hb dX12_isOpen_31 (by decide) ?_
        refine lv_goto (tgt := 36) hx hb dX12_isOpen_32 (by decide) ?_
        exact tk_zret hC hr rfl hlocks hK ⟨rfl, (Or.inr (Or.inr (Or.inr (Or.inr (Or.inl ⟨rfl, c50, c8, (by rw [show x41.toInt = a3.toInt / 24 by omega] at hq51; unfold mOpen; first | exact ⟨by assumption, by assumption, by assumption⟩ | (rintro ⟨q1, q2, q3⟩; first | exact absurd q1 (by assumption) | exact absurd q2 (by assumption) | exact q3 (by assumption)))⟩)))))⟩ hw dX12_isOpen_36
      · refine lv_if_ne (tgt := 35) hx hb dX12_isOpen_28 (by decide) (fun _ => ?_) (fun c => absurd c (by decide))
        refine lv_iconst (v := 0) hx hb dX12_isOpen_35 (by decide) ?_
        exact tk_zret hC hr rfl hlocks hK ⟨rfl, (Or.inr (Or.inl ⟨rfl, c50, c8, (by rw [show x41.toInt = a3.toInt / 24 by omega] at hq51; unfold mOpen; first | exact ⟨by assumption, by assumption, by assumption⟩ | (rintro ⟨q1, q2, q3⟩; first | exact absurd q1 (by assumption) | exact absurd q2 (by assumption) | exact q3 (by assumption)))⟩))⟩ hw dX12_isOpen_36
abbrev P_X12_open_1 (ad : Nat → Nat) (cy : Nat → ClassId) (B : Int) (qr : Nat) (s1 : Int) (a1 : Int32) (a2 : Int32) (a3 : Int32) (w0 : va_W) : Int32 → va_W → Prop := fun r u => w0 = u ∧ ((0 ≤ r.toInt ∧ r.toInt ≤ 1 ∧ 0 ≤ a1.toInt ∧ a1.toInt ≤ 11 ∧ 0 ≤ a2.toInt ∧ a2.toInt ≤ 9 ∧ 0 ≤ a3.toInt ∧ a3.toInt ≤ 99999 ∧ (∃ y : Int32, gi u 12 0 = y ∧ 1 ≤ y.toInt ∧ y.toInt ≤ 10) ∧ (∃ y : Int32, gi u 12 1 = y ∧ 1 ≤ y.toInt ∧ y.toInt ≤ 12) ∧ gi u 12 (10 * a1.toInt + 10).toNat = a2 ∧ gi u 12 (10 * a1.toInt + 11).toNat = a2) ∨ (0 ≤ r.toInt ∧ r.toInt ≤ 1 ∧ 0 ≤ a1.toInt ∧ a1.toInt ≤ 11 ∧ 0 ≤ a2.toInt ∧ a2.toInt ≤ 9 ∧ 0 ≤ a3.toInt ∧ a3.toInt ≤ 99999 ∧ (∃ y : Int32, gi u 12 0 = y ∧ 1 ≤ y.toInt ∧ y.toInt ≤ 10) ∧ (∃ y : Int32, gi u 12 1 = y ∧ 1 ≤ y.toInt ∧ y.toInt ≤ 12) ∧ gi u 12 (10 * a1.toInt + 10).toNat = a2) ∨ (0 ≤ r.toInt ∧ r.toInt ≤ 1 ∧ 0 ≤ a1.toInt ∧ a1.toInt ≤ 11 ∧ 0 ≤ a2.toInt ∧ a2.toInt ≤ 9 ∧ 0 ≤ a3.toInt ∧ a3.toInt ≤ 99999 ∧ (∃ y : Int32, gi u 12 0 = y ∧ 1 ≤ y.toInt ∧ y.toInt ≤ 10) ∧ (∃ y : Int32, gi u 12 1 = y ∧ 1 ≤ y.toInt ∧ y.toInt ≤ 12) ∧ gi u 12 (10 * a1.toInt + 11).toNat = a2) ∨ (r = (-1)))
set_option maxHeartbeats 4000000 in
set_option maxRecDepth 100000 in
theorem k_X12_open_1 (l : Launch) (adK adV : Nat → Nat) (dC : Nat → ClassId) (dI : Nat → Nat → Nat) (cy : Nat → ClassId) (ad : Nat → Nat) (B : Int) (hB0 : 100000 ≤ B) (hB1 : B ≤ 1073741824) (qr : Nat) (s1 : Int)  (a1 : Int32) (a2 : Int32) (a3 : Int32) (w0 : va_W) (sz : Nat) (hT : TW ksM ad cy B qr 12 w0)  : Met l yX12_open wsX12_open ({ frames := 5, cells := 0, slots := 0, locals := 103 }) (va_Pc [.ref (ad 0), .int a1, .int a2, .int a3] (wpreS adK adV dC dI cy sz w0)) (va_Qi (P_X12_open_1 ad cy B qr s1 a1 a2 a3 w0) (fun u : va_W => wpost dC dI cy (va_A w0 sz) u) (va_A w0 sz)) 0 0 (va_A w0 sz) := by
  refine Met.ofW (cc := cX12_open) (maxL := 4) (ret := (some .int)) (by decide) rfl ?_
  intro p e s m args below meth c s₁ Bk hml hv
  obtain ⟨rfl, ⟨hsz, hP, hK, hD0⟩, hE, hSR⟩ := hv
  have hx := Bk.exec
  have hb := Bk.bytes
  have hr := Bk.returns
  have hlocks := Bk.notSynchronized
  have hC : CallFix p m c cX12_open 4 s _ wsX12_open RX12 := ⟨hx, hb, hml, findClass_of_methodNamed Bk.named, atoms_spec (ws := wsX12_open) Bk.pre⟩
  subst hsz
  have hD := hD0.self (sz := s.heap.size)
  generalize hAe : va_A w0 s.heap.size = A at hD hE ⊢
  have hA : ∀ q : Nat, s.heap.size ≤ q → A q := fun q h => by rw [← hAe]; exact Or.inr h
  have hw : Wd dC dI A s.heap s.heap [] w0 := ⟨hP, hD, va_S.rf⟩
  have hF : FE ksM ([] : List (Nat × Nat × Nat)) w0 w0 := FE.rf
  have hl := lv_entry ([.ref (ad 0), .int a1, .int a2, .int a3]) (n := 4) (Nat.le_of_ble_eq_true rfl)
  rw [lg_entry_eq]
  generalize (lg_sl ([.ref (ad 0), .int a1, .int a2, .int a3]) ++ List.replicate (4 - (lg_sl ([.ref (ad 0), .int a1, .int a2, .int a3])).length) Slot.unset).toArray = ls at hl ⊢
  have hl : lv_has ls 4 [(0, .ref (ad 0)), (1, .int a1), (2, .int a2), (3, .int a3)] := hl
  generalize hloc : ([] : List Loc) = locs at hw ⊢
  have J32 : ∀ (H : Heap) (locs : List Loc) (ls : Array Slot), Wd dC dI A s.heap H locs w0 → lv_has ls 4 [(0, .ref (ad 0)), (1, .int a1), (2, .int a2), (3, .int a3)] → W p l e ({ frames := 5, cells := 0, slots := 0, locals := 103 }) s m (List.toArray [.ref (ad 0), .int a1, .int a2, .int a3]) below meth c H locs 0 0 (MQ below (va_Qi (P_X12_open_1 ad cy B qr s1 a1 a2 a3 w0) (fun u : va_W => wpost dC dI cy A u) A) (List.toArray [.ref (ad 0), .int a1, .int a2, .int a3]) s 0 0 A) (F0 m 32 ls []) := by
    intro H locs ls hw hl
    refine lv_iconst (v := (-1)) hx hb dX12_open_32 (by decide) ?_
    exact tk_iret hC hr hlocks hK ⟨rfl, (Or.inr (Or.inr (Or.inr rfl)))⟩ hw dX12_open_33
  refine lv_aload_n hx hb dX12_open_0 rfl (lv_at hl 0 rfl) ?_
  refine lv_iload_n hx hb dX12_open_1 rfl (lv_at hl 1 rfl) ?_
  refine tk_Vi hC hK hw hT hA hE hSR kM_at0 (by decide) rfl (k_X12_isStreet_1 l adK adV dC dI cy ad B (by omega) (by omega) qr s1   a1 w0 s.heap.size hT ) (cwV 1 hC.2.2.2.2 gX12_open_X12_isStreet rfl rfl rfl (by decide +kernel) ⟨Nat.le_of_ble_eq_true rfl, Nat.le_of_ble_eq_true rfl⟩) rfl hl.1 rfl (Nat.le_of_ble_eq_true rfl) dX12_open_2 (fun r1 w3 H locs hp2 hw => ?_)
  obtain ⟨rfl, hg9⟩ := hp2
  rcases hg9 with rfl | ⟨rfl, g5, g6, ⟨x7, c8, rx7, tx7⟩⟩
  · refine lv_if_eq (tgt := 32) hx hb dX12_open_5 (by decide) (fun _ => ?_) (fun c => absurd (by decide) c)
    exact J32  H locs ls    hw   (lv_sub hl [0, 1, 2, 3] rfl)
  · refine lv_if_eq (tgt := 32) hx hb dX12_open_5 (by decide) (fun c => absurd c (by decide)) (fun _ => ?_)
    refine lv_aload_n hx hb dX12_open_8 rfl (lv_at hl 0 rfl) ?_
    refine lv_iload_n hx hb dX12_open_9 rfl (lv_at hl 2 rfl) ?_
    refine tk_Vi hC hK hw hT hA hE hSR kM_at0 (by decide) rfl (k_X12_isCorner_1 l adK adV dC dI cy ad B (by omega) (by omega) qr s1   a2 w0 H.size hT ) (cwV 1 hC.2.2.2.2 gX12_open_X12_isCorner rfl rfl rfl (by decide +kernel) ⟨Nat.le_of_ble_eq_true rfl, Nat.le_of_ble_eq_true rfl⟩) rfl hl.1 rfl (Nat.le_of_ble_eq_true rfl) dX12_open_10 (fun r10 w12 H locs hp11 hw => ?_)
    obtain ⟨rfl, hg18⟩ := hp11
    rcases hg18 with rfl | ⟨rfl, g14, g15, ⟨x16, c17, rx16, tx16⟩⟩
    · refine lv_if_eq (tgt := 32) hx hb dX12_open_13 (by decide) (fun _ => ?_) (fun c => absurd (by decide) c)
      exact J32  H locs ls    hw   (lv_sub hl [0, 1, 2, 3] rfl)
    · refine lv_if_eq (tgt := 32) hx hb dX12_open_13 (by decide) (fun c => absurd c (by decide)) (fun _ => ?_)
      refine lv_aload_n hx hb dX12_open_16 rfl (lv_at hl 0 rfl) ?_
      refine lv_iload_n hx hb dX12_open_17 rfl (lv_at hl 1 rfl) ?_
      refine lv_iload_n hx hb dX12_open_18 rfl (lv_at hl 2 rfl) ?_
      refine tk_Vi hC hK hw hT hA hE hSR kM_at0 (by decide) rfl (k_X12_isAt_1 l adK adV dC dI cy ad B (by omega) (by omega) qr s1   a1 (show 0 ≤ a1.toInt by omega) (show a1.toInt ≤ 11 by omega) a2 (show 0 ≤ a2.toInt by omega) (show a2.toInt ≤ 9 by omega) w0 H.size hT ) (cwV 2 hC.2.2.2.2 gX12_open_X12_isAt rfl rfl rfl (by decide +kernel) ⟨Nat.le_of_ble_eq_true rfl, Nat.le_of_ble_eq_true rfl⟩) rfl hl.1 rfl (Nat.le_of_ble_eq_true rfl) dX12_open_19 (fun r19 w21 H locs hp20 hw => ?_)
      obtain ⟨rfl, hg28⟩ := hp20
      rcases hg28 with ⟨rfl, hq23⟩ | ⟨rfl, c24, hq25⟩ | ⟨rfl, c26, hq27⟩
      · refine lv_if_eq (tgt := 32) hx hb dX12_open_22 (by decide) (fun _ => ?_) (fun c => absurd (by decide) c)
        exact J32  H locs ls    hw   (lv_sub hl [0, 1, 2, 3] rfl)
      · refine lv_if_eq (tgt := 32) hx hb dX12_open_22 (by decide) (fun c => absurd c (by decide)) (fun _ => ?_)
        refine lv_iload_n hx hb dX12_open_25 rfl (lv_at hl 3 rfl) ?_
        refine tk_Si hC hK hw hT hA hE hSR (k_X12_isHour_1 l adK adV dC dI cy ad B (by omega) (by omega) qr s1   a3 w0 H.size hT ) (va_cwS 1 hC.2.2.2.2 gX12_open_X12_isHour rfl rfl rfl (by decide +kernel) ⟨Nat.le_of_ble_eq_true rfl, Nat.le_of_ble_eq_true rfl⟩) rfl hl.1 rfl (Nat.le_of_ble_eq_true rfl) dX12_open_26 (fun r29 w31 H locs hp30 hw => ?_)
        obtain ⟨rfl, hg35⟩ := hp30
        rcases hg35 with rfl | ⟨rfl, g33, g34⟩
        · refine lv_if_ne (tgt := 34) hx hb dX12_open_29 (by decide) (fun c => absurd (by decide) c) (fun _ => ?_)
          exact J32  H locs ls    hw   (lv_sub hl [0, 1, 2, 3] rfl)
        · refine lv_if_ne (tgt := 34) hx hb dX12_open_29 (by decide) (fun _ => ?_) (fun c => absurd c (by decide))
          refine lv_aload_n hx hb dX12_open_34 rfl (lv_at hl 0 rfl) ?_
          refine lv_iload_n hx hb dX12_open_35 rfl (lv_at hl 1 rfl) ?_
          refine lv_iload_n hx hb dX12_open_36 rfl (lv_at hl 2 rfl) ?_
          refine lv_iload_n hx hb dX12_open_37 rfl (lv_at hl 3 rfl) ?_
          refine tk_Vi hC hK hw hT hA hE hSR kM_at0 (by decide) rfl (k_X12_isOpen_1 l adK adV dC dI cy ad B (by omega) (by omega) qr s1   a1 (show 0 ≤ a1.toInt by omega) (show a1.toInt ≤ 11 by omega) a2 (show 0 ≤ a2.toInt by omega) (show a2.toInt ≤ 9 by omega) a3 (show 0 ≤ a3.toInt by omega) (show a3.toInt ≤ 99999 by omega) w0 H.size hT ) (cwV 3 hC.2.2.2.2 gX12_open_X12_isOpen rfl rfl rfl (by decide +kernel) ⟨Nat.le_of_ble_eq_true rfl, Nat.le_of_ble_eq_true rfl⟩) rfl hl.1 rfl (Nat.le_of_ble_eq_true rfl) dX12_open_38 (fun r36 w38 H locs hp37 hw => ?_)
          obtain ⟨rfl, hg55⟩ := hp37
          rcases hg55 with ⟨rfl, hq40⟩ | ⟨rfl, c41, c42, hq43⟩ | ⟨rfl, c44, hq45⟩ | ⟨rfl, c46, hq47⟩ | ⟨rfl, c48, c49, hq50⟩ | ⟨rfl, c51, hq52⟩ | ⟨rfl, c53, hq54⟩
          · refine lv_if_eq (tgt := 48) hx hb dX12_open_41 (by decide) (fun _ => ?_) (fun c => absurd (by decide) c)
            refine lv_iconst (v := 0) hx hb dX12_open_48 (by decide) ?_
            exact tk_iret hC hr hlocks hK ⟨rfl, (Or.inr (Or.inl ⟨(by decide), (by decide), (show 0 ≤ a1.toInt by omega), (show a1.toInt ≤ 11 by omega), (show 0 ≤ a2.toInt by omega), (show a2.toInt ≤ 9 by omega), (show 0 ≤ a3.toInt by omega), (show a3.toInt ≤ 99999 by omega), ⟨x16, c17, (show 1 ≤ x16.toInt by omega), (show x16.toInt ≤ 10 by omega)⟩, ⟨x7, c8, (show 1 ≤ x7.toInt by omega), (show x7.toInt ≤ 12 by omega)⟩, c24⟩))⟩ hw dX12_open_49
          · refine lv_if_eq (tgt := 48) hx hb dX12_open_41 (by decide) (fun _ => ?_) (fun c => absurd (by decide) c)
            refine lv_iconst (v := 0) hx hb dX12_open_48 (by decide) ?_
            exact tk_iret hC hr hlocks hK ⟨rfl, (Or.inl ⟨(by decide), (by decide), (show 0 ≤ a1.toInt by omega), (show a1.toInt ≤ 11 by omega), (show 0 ≤ a2.toInt by omega), (show a2.toInt ≤ 9 by omega), (show 0 ≤ a3.toInt by omega), (show a3.toInt ≤ 99999 by omega), ⟨x16, c17, (show 1 ≤ x16.toInt by omega), (show x16.toInt ≤ 10 by omega)⟩, ⟨x7, c8, (show 1 ≤ x7.toInt by omega), (show x7.toInt ≤ 12 by omega)⟩, c24, c42⟩)⟩ hw dX12_open_49
          · refine lv_if_eq (tgt := 48) hx hb dX12_open_41 (by decide) (fun _ => ?_) (fun c => absurd (by decide) c)
            refine lv_iconst (v := 0) hx hb dX12_open_48 (by decide) ?_
            exact tk_iret hC hr hlocks hK ⟨rfl, (Or.inr (Or.inl ⟨(by decide), (by decide), (show 0 ≤ a1.toInt by omega), (show a1.toInt ≤ 11 by omega), (show 0 ≤ a2.toInt by omega), (show a2.toInt ≤ 9 by omega), (show 0 ≤ a3.toInt by omega), (show a3.toInt ≤ 99999 by omega), ⟨x16, c17, (show 1 ≤ x16.toInt by omega), (show x16.toInt ≤ 10 by omega)⟩, ⟨x7, c8, (show 1 ≤ x7.toInt by omega), (show x7.toInt ≤ 12 by omega)⟩, c24⟩))⟩ hw dX12_open_49
          · refine lv_if_eq (tgt := 48) hx hb dX12_open_41 (by decide) (fun _ => ?_) (fun c => absurd (by decide) c)
            refine lv_iconst (v := 0) hx hb dX12_open_48 (by decide) ?_
            exact tk_iret hC hr hlocks hK ⟨rfl, (Or.inl ⟨(by decide), (by decide), (show 0 ≤ a1.toInt by omega), (show a1.toInt ≤ 11 by omega), (show 0 ≤ a2.toInt by omega), (show a2.toInt ≤ 9 by omega), (show 0 ≤ a3.toInt by omega), (show a3.toInt ≤ 99999 by omega), ⟨x16, c17, (show 1 ≤ x16.toInt by omega), (show x16.toInt ≤ 10 by omega)⟩, ⟨x7, c8, (show 1 ≤ x7.toInt by omega), (show x7.toInt ≤ 12 by omega)⟩, c24, c46⟩)⟩ hw dX12_open_49
          · refine lv_if_eq (tgt := 48) hx hb dX12_open_41 (by decide) (fun c => absurd c (by decide)) (fun _ => ?_)
            refine lv_iconst (v := 1) hx hb dX12_open_44 (by decide) ?_
            refine lv_goto (tgt := 49) hx hb dX12_open_45 (by decide) ?_
            exact tk_iret hC hr hlocks hK ⟨rfl, (Or.inl ⟨(by decide), (by decide), (show 0 ≤ a1.toInt by omega), (show a1.toInt ≤ 11 by omega), (show 0 ≤ a2.toInt by omega), (show a2.toInt ≤ 9 by omega), (show 0 ≤ a3.toInt by omega), (show a3.toInt ≤ 99999 by omega), ⟨x16, c17, (show 1 ≤ x16.toInt by omega), (show x16.toInt ≤ 10 by omega)⟩, ⟨x7, c8, (show 1 ≤ x7.toInt by omega), (show x7.toInt ≤ 12 by omega)⟩, c24, c49⟩)⟩ hw dX12_open_49
          · refine lv_if_eq (tgt := 48) hx hb dX12_open_41 (by decide) (fun c => absurd c (by decide)) (fun _ => ?_)
            refine lv_iconst (v := 1) hx hb dX12_open_44 (by decide) ?_
            refine lv_goto (tgt := 49) hx hb dX12_open_45 (by decide) ?_
            exact tk_iret hC hr hlocks hK ⟨rfl, (Or.inr (Or.inl ⟨(by decide), (by decide), (show 0 ≤ a1.toInt by omega), (show a1.toInt ≤ 11 by omega), (show 0 ≤ a2.toInt by omega), (show a2.toInt ≤ 9 by omega), (show 0 ≤ a3.toInt by omega), (show a3.toInt ≤ 99999 by omega), ⟨x16, c17, (show 1 ≤ x16.toInt by omega), (show x16.toInt ≤ 10 by omega)⟩, ⟨x7, c8, (show 1 ≤ x7.toInt by omega), (show x7.toInt ≤ 12 by omega)⟩, c24⟩))⟩ hw dX12_open_49
          · refine lv_if_eq (tgt := 48) hx hb dX12_open_41 (by decide) (fun c => absurd c (by decide)) (fun _ => ?_)
            refine lv_iconst (v := 1) hx hb dX12_open_44 (by decide) ?_
            refine lv_goto (tgt := 49) hx hb dX12_open_45 (by decide) ?_
            exact tk_iret hC hr hlocks hK ⟨rfl, (Or.inl ⟨(by decide), (by decide), (show 0 ≤ a1.toInt by omega), (show a1.toInt ≤ 11 by omega), (show 0 ≤ a2.toInt by omega), (show a2.toInt ≤ 9 by omega), (show 0 ≤ a3.toInt by omega), (show a3.toInt ≤ 99999 by omega), ⟨x16, c17, (show 1 ≤ x16.toInt by omega), (show x16.toInt ≤ 10 by omega)⟩, ⟨x7, c8, (show 1 ≤ x7.toInt by omega), (show x7.toInt ≤ 12 by omega)⟩, c24, c53⟩)⟩ hw dX12_open_49
      · refine lv_if_eq (tgt := 32) hx hb dX12_open_22 (by decide) (fun c => absurd c (by decide)) (fun _ => ?_)
        refine lv_iload_n hx hb dX12_open_25 rfl (lv_at hl 3 rfl) ?_
        refine tk_Si hC hK hw hT hA hE hSR (k_X12_isHour_1 l adK adV dC dI cy ad B (by omega) (by omega) qr s1   a3 w0 H.size hT ) (va_cwS 1 hC.2.2.2.2 gX12_open_X12_isHour rfl rfl rfl (by decide +kernel) ⟨Nat.le_of_ble_eq_true rfl, Nat.le_of_ble_eq_true rfl⟩) rfl hl.1 rfl (Nat.le_of_ble_eq_true rfl) dX12_open_26 (fun r56 w58 H locs hp57 hw => ?_)
        obtain ⟨rfl, hg62⟩ := hp57
        rcases hg62 with rfl | ⟨rfl, g60, g61⟩
        · refine lv_if_ne (tgt := 34) hx hb dX12_open_29 (by decide) (fun c => absurd (by decide) c) (fun _ => ?_)
          exact J32  H locs ls    hw   (lv_sub hl [0, 1, 2, 3] rfl)
        · refine lv_if_ne (tgt := 34) hx hb dX12_open_29 (by decide) (fun _ => ?_) (fun c => absurd c (by decide))
          refine lv_aload_n hx hb dX12_open_34 rfl (lv_at hl 0 rfl) ?_
          refine lv_iload_n hx hb dX12_open_35 rfl (lv_at hl 1 rfl) ?_
          refine lv_iload_n hx hb dX12_open_36 rfl (lv_at hl 2 rfl) ?_
          refine lv_iload_n hx hb dX12_open_37 rfl (lv_at hl 3 rfl) ?_
          refine tk_Vi hC hK hw hT hA hE hSR kM_at0 (by decide) rfl (k_X12_isOpen_1 l adK adV dC dI cy ad B (by omega) (by omega) qr s1   a1 (show 0 ≤ a1.toInt by omega) (show a1.toInt ≤ 11 by omega) a2 (show 0 ≤ a2.toInt by omega) (show a2.toInt ≤ 9 by omega) a3 (show 0 ≤ a3.toInt by omega) (show a3.toInt ≤ 99999 by omega) w0 H.size hT ) (cwV 3 hC.2.2.2.2 gX12_open_X12_isOpen rfl rfl rfl (by decide +kernel) ⟨Nat.le_of_ble_eq_true rfl, Nat.le_of_ble_eq_true rfl⟩) rfl hl.1 rfl (Nat.le_of_ble_eq_true rfl) dX12_open_38 (fun r63 w65 H locs hp64 hw => ?_)
          obtain ⟨rfl, hg82⟩ := hp64
          rcases hg82 with ⟨rfl, hq67⟩ | ⟨rfl, c68, c69, hq70⟩ | ⟨rfl, c71, hq72⟩ | ⟨rfl, c73, hq74⟩ | ⟨rfl, c75, c76, hq77⟩ | ⟨rfl, c78, hq79⟩ | ⟨rfl, c80, hq81⟩
          · refine lv_if_eq (tgt := 48) hx hb dX12_open_41 (by decide) (fun _ => ?_) (fun c => absurd (by decide) c)
            refine lv_iconst (v := 0) hx hb dX12_open_48 (by decide) ?_
            exact tk_iret hC hr hlocks hK ⟨rfl, (Or.inr (Or.inr (Or.inl ⟨(by decide), (by decide), (show 0 ≤ a1.toInt by omega), (show a1.toInt ≤ 11 by omega), (show 0 ≤ a2.toInt by omega), (show a2.toInt ≤ 9 by omega), (show 0 ≤ a3.toInt by omega), (show a3.toInt ≤ 99999 by omega), ⟨x16, c17, (show 1 ≤ x16.toInt by omega), (show x16.toInt ≤ 10 by omega)⟩, ⟨x7, c8, (show 1 ≤ x7.toInt by omega), (show x7.toInt ≤ 12 by omega)⟩, c26⟩)))⟩ hw dX12_open_49
          · refine lv_if_eq (tgt := 48) hx hb dX12_open_41 (by decide) (fun _ => ?_) (fun c => absurd (by decide) c)
            refine lv_iconst (v := 0) hx hb dX12_open_48 (by decide) ?_
            exact tk_iret hC hr hlocks hK ⟨rfl, (Or.inl ⟨(by decide), (by decide), (show 0 ≤ a1.toInt by omega), (show a1.toInt ≤ 11 by omega), (show 0 ≤ a2.toInt by omega), (show a2.toInt ≤ 9 by omega), (show 0 ≤ a3.toInt by omega), (show a3.toInt ≤ 99999 by omega), ⟨x16, c17, (show 1 ≤ x16.toInt by omega), (show x16.toInt ≤ 10 by omega)⟩, ⟨x7, c8, (show 1 ≤ x7.toInt by omega), (show x7.toInt ≤ 12 by omega)⟩, c68, c26⟩)⟩ hw dX12_open_49
          · refine lv_if_eq (tgt := 48) hx hb dX12_open_41 (by decide) (fun _ => ?_) (fun c => absurd (by decide) c)
            refine lv_iconst (v := 0) hx hb dX12_open_48 (by decide) ?_
            exact tk_iret hC hr hlocks hK ⟨rfl, (Or.inl ⟨(by decide), (by decide), (show 0 ≤ a1.toInt by omega), (show a1.toInt ≤ 11 by omega), (show 0 ≤ a2.toInt by omega), (show a2.toInt ≤ 9 by omega), (show 0 ≤ a3.toInt by omega), (show a3.toInt ≤ 99999 by omega), ⟨x16, c17, (show 1 ≤ x16.toInt by omega), (show x16.toInt ≤ 10 by omega)⟩, ⟨x7, c8, (show 1 ≤ x7.toInt by omega), (show x7.toInt ≤ 12 by omega)⟩, c71, c26⟩)⟩ hw dX12_open_49
          · refine lv_if_eq (tgt := 48) hx hb dX12_open_41 (by decide) (fun _ => ?_) (fun c => absurd (by decide) c)
            refine lv_iconst (v := 0) hx hb dX12_open_48 (by decide) ?_
            exact tk_iret hC hr hlocks hK ⟨rfl, (Or.inr (Or.inr (Or.inl ⟨(by decide), (by decide), (show 0 ≤ a1.toInt by omega), (show a1.toInt ≤ 11 by omega), (show 0 ≤ a2.toInt by omega), (show a2.toInt ≤ 9 by omega), (show 0 ≤ a3.toInt by omega), (show a3.toInt ≤ 99999 by omega), ⟨x16, c17, (show 1 ≤ x16.toInt by omega), (show x16.toInt ≤ 10 by omega)⟩, ⟨x7, c8, (show 1 ≤ x7.toInt by omega), (show x7.toInt ≤ 12 by omega)⟩, c26⟩)))⟩ hw dX12_open_49
          · refine lv_if_eq (tgt := 48) hx hb dX12_open_41 (by decide) (fun c => absurd c (by decide)) (fun _ => ?_)
            refine lv_iconst (v := 1) hx hb dX12_open_44 (by decide) ?_
            refine lv_goto (tgt := 49) hx hb dX12_open_45 (by decide) ?_
            exact tk_iret hC hr hlocks hK ⟨rfl, (Or.inl ⟨(by decide), (by decide), (show 0 ≤ a1.toInt by omega), (show a1.toInt ≤ 11 by omega), (show 0 ≤ a2.toInt by omega), (show a2.toInt ≤ 9 by omega), (show 0 ≤ a3.toInt by omega), (show a3.toInt ≤ 99999 by omega), ⟨x16, c17, (show 1 ≤ x16.toInt by omega), (show x16.toInt ≤ 10 by omega)⟩, ⟨x7, c8, (show 1 ≤ x7.toInt by omega), (show x7.toInt ≤ 12 by omega)⟩, c75, c26⟩)⟩ hw dX12_open_49
          · refine lv_if_eq (tgt := 48) hx hb dX12_open_41 (by decide) (fun c => absurd c (by decide)) (fun _ => ?_)
            refine lv_iconst (v := 1) hx hb dX12_open_44 (by decide) ?_
            refine lv_goto (tgt := 49) hx hb dX12_open_45 (by decide) ?_
            exact tk_iret hC hr hlocks hK ⟨rfl, (Or.inl ⟨(by decide), (by decide), (show 0 ≤ a1.toInt by omega), (show a1.toInt ≤ 11 by omega), (show 0 ≤ a2.toInt by omega), (show a2.toInt ≤ 9 by omega), (show 0 ≤ a3.toInt by omega), (show a3.toInt ≤ 99999 by omega), ⟨x16, c17, (show 1 ≤ x16.toInt by omega), (show x16.toInt ≤ 10 by omega)⟩, ⟨x7, c8, (show 1 ≤ x7.toInt by omega), (show x7.toInt ≤ 12 by omega)⟩, c78, c26⟩)⟩ hw dX12_open_49
          · refine lv_if_eq (tgt := 48) hx hb dX12_open_41 (by decide) (fun c => absurd c (by decide)) (fun _ => ?_)
            refine lv_iconst (v := 1) hx hb dX12_open_44 (by decide) ?_
            refine lv_goto (tgt := 49) hx hb dX12_open_45 (by decide) ?_
            exact tk_iret hC hr hlocks hK ⟨rfl, (Or.inr (Or.inr (Or.inl ⟨(by decide), (by decide), (show 0 ≤ a1.toInt by omega), (show a1.toInt ≤ 11 by omega), (show 0 ≤ a2.toInt by omega), (show a2.toInt ≤ 9 by omega), (show 0 ≤ a3.toInt by omega), (show a3.toInt ≤ 99999 by omega), ⟨x16, c17, (show 1 ≤ x16.toInt by omega), (show x16.toInt ≤ 10 by omega)⟩, ⟨x7, c8, (show 1 ≤ x7.toInt by omega), (show x7.toInt ≤ 12 by omega)⟩, c26⟩)))⟩ hw dX12_open_49
abbrev P_X12_in_11 (ad : Nat → Nat) (cy : Nat → ClassId) (B : Int) (qr : Nat) (s1 : Int) (a0 : Int64) (w0 : va_W) : Int32 → va_W → Prop := fun r u => w0 = u ∧ ((r = 0) ∨ (r = 1 ∧ 0 ≤ a0.toInt ∧ a0.toInt ≤ 6))
set_option maxHeartbeats 4000000 in
set_option maxRecDepth 100000 in
theorem k_X12_in_11 (l : Launch) (adK adV : Nat → Nat) (dC : Nat → ClassId) (dI : Nat → Nat → Nat) (cy : Nat → ClassId) (ad : Nat → Nat) (B : Int) (hB0 : 100000 ≤ B) (hB1 : B ≤ 1073741824) (qr : Nat) (s1 : Int)  (a0 : Int64) (ra0 : (-2147483648) ≤ a0.toInt) (ta0 : a0.toInt ≤ 2147483647) (w0 : va_W) (sz : Nat) (hT : TW ksM ad cy B qr 12 w0)  : Met l yX12_in wsX12_in ({ frames := 1, cells := 0, slots := 0, locals := 12 }) (va_Pc [.long a0, .long 0, .long 6] (wpreS adK adV dC dI cy sz w0)) (va_Qi (P_X12_in_11 ad cy B qr s1 a0 w0) (fun u : va_W => wpost dC dI cy (va_A w0 sz) u) (va_A w0 sz)) 0 0 (va_A w0 sz) := by
  refine Met.ofW (cc := cX12_in) (maxL := 6) (ret := (some .boolean)) (by decide) rfl ?_
  intro p e s m args below meth c s₁ Bk hml hv
  obtain ⟨rfl, ⟨hsz, hP, hK, hD0⟩, hE, hSR⟩ := hv
  have hx := Bk.exec
  have hb := Bk.bytes
  have hr := Bk.returns
  have hlocks := Bk.notSynchronized
  have hC : CallFix p m c cX12_in 6 s _ wsX12_in RX12 := ⟨hx, hb, hml, findClass_of_methodNamed Bk.named, atoms_spec (ws := wsX12_in) Bk.pre⟩
  subst hsz
  have hD := hD0.self (sz := s.heap.size)
  generalize hAe : va_A w0 s.heap.size = A at hD hE ⊢
  have hA : ∀ q : Nat, s.heap.size ≤ q → A q := fun q h => by rw [← hAe]; exact Or.inr h
  have hw : Wd dC dI A s.heap s.heap [] w0 := ⟨hP, hD, va_S.rf⟩
  have hF : FE ksM ([] : List (Nat × Nat × Nat)) w0 w0 := FE.rf
  have hl := lv_entry ([.long a0, .long 0, .long 6]) (n := 6) (Nat.le_of_ble_eq_true rfl)
  rw [lg_entry_eq]
  generalize (lg_sl ([.long a0, .long 0, .long 6]) ++ List.replicate (6 - (lg_sl ([.long a0, .long 0, .long 6])).length) Slot.unset).toArray = ls at hl ⊢
  have hl : lv_has ls 6 [(0, .long a0), (2, .long 0), (4, .long 6)] := hl
  generalize hloc : ([] : List Loc) = locs at hw ⊢
  have J17 : ∀ (H : Heap) (locs : List Loc) (ls : Array Slot), (-2147483648) ≤ a0.toInt → a0.toInt ≤ 2147483647 → Wd dC dI A s.heap H locs w0 → lv_has ls 6 [(0, .long a0), (2, .long 0), (4, .long 6)] → W p l e ({ frames := 1, cells := 0, slots := 0, locals := 12 }) s m (List.toArray [.long a0, .long 0, .long 6]) below meth c H locs 0 0 (MQ below (va_Qi (P_X12_in_11 ad cy B qr s1 a0 w0) (fun u : va_W => wpost dC dI cy A u) A) (List.toArray [.long a0, .long 0, .long 6]) s 0 0 A) (F0 m 17 ls []) := by
    intro H locs ls r1 t2 hw hl
    refine lv_iconst (v := 0) hx hb dX12_in_17 (by decide) ?_
    exact tk_zret hC hr rfl hlocks hK ⟨rfl, (Or.inl rfl)⟩ hw dX12_in_18
  refine lv_lload_n hx hb dX12_in_0 rfl (lv_at hl 0 rfl) ?_
  refine lv_lload_n hx hb dX12_in_1 rfl (lv_at hl 1 rfl) ?_
  refine W.lcmp hx hb dX12_in_2 ?_
  refine lv_if_lt (tgt := 17) hx hb dX12_in_3 (by decide) (fun c3 => ?_) (fun c3 => ?_)
  · have c3 : a0.toInt < (0 : Int) := wk_cltT c3
    exact J17  s.heap locs ls  (show (-2147483648) ≤ a0.toInt by omega) (show a0.toInt ≤ 2147483647 by omega)  hw   (lv_sub hl [0, 1, 2] rfl)
  · have c3 : (0 : Int) ≤ a0.toInt := wk_cltF c3
    refine lv_lload_n hx hb dX12_in_6 rfl (lv_at hl 0 rfl) ?_
    refine lv_lload hx hb dX12_in_7 (lv_at hl 2 rfl) ?_
    refine W.lcmp hx hb dX12_in_9 ?_
    refine lv_if_gt (tgt := 17) hx hb dX12_in_10 (by decide) (fun c4 => ?_) (fun c4 => ?_)
    · have c4 : (6 : Int) < a0.toInt := wk_cgtT c4
      exact J17  s.heap locs ls  (show (-2147483648) ≤ a0.toInt by omega) (show a0.toInt ≤ 2147483647 by omega)  hw   (lv_sub hl [0, 1, 2] rfl)
    · have c4 : a0.toInt ≤ (6 : Int) := wk_cgtF c4
      refine lv_iconst (v := 1) hx hb dX12_in_13 (by decide) ?_
      refine lv_goto (tgt := 18) hx hb dX12_in_14 (by decide) ?_
      exact tk_zret hC hr rfl hlocks hK ⟨rfl, (Or.inr ⟨rfl, (show 0 ≤ a0.toInt by omega), (show a0.toInt ≤ 6 by omega)⟩)⟩ hw dX12_in_18
abbrev P_X12_isTown_1 (ad : Nat → Nat) (cy : Nat → ClassId) (B : Int) (qr : Nat) (s1 : Int)  (w0 : va_W) : Int32 → va_W → Prop := fun r u => w0 = u ∧ ((r = 0 ∧ (∃ y : Int32, gi u 12 0 = y ∧ 0 ≤ y.toInt ∧ y.toInt ≤ 0)) ∨ (r = 1 ∧ (∃ y : Int32, gi u 12 0 = y ∧ 1 ≤ y.toInt ∧ y.toInt ≤ 10)))
set_option maxHeartbeats 4000000 in
set_option maxRecDepth 100000 in
theorem k_X12_isTown_1 (l : Launch) (adK adV : Nat → Nat) (dC : Nat → ClassId) (dI : Nat → Nat → Nat) (cy : Nat → ClassId) (ad : Nat → Nat) (B : Int) (hB0 : 100000 ≤ B) (hB1 : B ≤ 1073741824) (qr : Nat) (s1 : Int)   (w0 : va_W) (sz : Nat) (hT : TW ksM ad cy B qr 12 w0)  : Met l yX12_isTown wsX12_isTown ({ frames := 1, cells := 0, slots := 0, locals := 12 }) (va_Pc [.ref (ad 0)] (wpreS adK adV dC dI cy sz w0)) (va_Qi (P_X12_isTown_1 ad cy B qr s1  w0) (fun u : va_W => wpost dC dI cy (va_A w0 sz) u) (va_A w0 sz)) 0 0 (va_A w0 sz) := by
  refine Met.ofW (cc := cX12_isTown) (maxL := 1) (ret := (some .boolean)) (by decide) rfl ?_
  intro p e s m args below meth c s₁ Bk hml hv
  obtain ⟨rfl, ⟨hsz, hP, hK, hD0⟩, hE, hSR⟩ := hv
  have hx := Bk.exec
  have hb := Bk.bytes
  have hr := Bk.returns
  have hlocks := Bk.notSynchronized
  have hC : CallFix p m c cX12_isTown 1 s _ wsX12_isTown RX12 := ⟨hx, hb, hml, findClass_of_methodNamed Bk.named, atoms_spec (ws := wsX12_isTown) Bk.pre⟩
  subst hsz
  have hD := hD0.self (sz := s.heap.size)
  generalize hAe : va_A w0 s.heap.size = A at hD hE ⊢
  have hA : ∀ q : Nat, s.heap.size ≤ q → A q := fun q h => by rw [← hAe]; exact Or.inr h
  have hw : Wd dC dI A s.heap s.heap [] w0 := ⟨hP, hD, va_S.rf⟩
  have hF : FE ksM ([] : List (Nat × Nat × Nat)) w0 w0 := FE.rf
  have hl := lv_entry ([.ref (ad 0)]) (n := 1) (Nat.le_of_ble_eq_true rfl)
  rw [lg_entry_eq]
  generalize (lg_sl ([.ref (ad 0)]) ++ List.replicate (1 - (lg_sl ([.ref (ad 0)])).length) Slot.unset).toArray = ls at hl ⊢
  have hl : lv_has ls 1 [(0, .ref (ad 0))] := hl
  generalize hloc : ([] : List Loc) = locs at hw ⊢
  have hinX12 : ∀ w ∈ u_ws RX12 TX12 42, w ∈ wsX12_isTown := fun _ h => List.mem_cons_of_mem _ (List.mem_append_right _ (h))
  refine lv_aload_n hx hb dX12_isTown_0 rfl (lv_at hl 0 rfl) ?_
  refine tk_getA hC hK hw hT hinX12 kM_at0 (by decide) rfl 26 (by decide) (List.mem_of_getElem? (i := 1) rfl) rfl rfl dX12_isTown_1 ?_
  refine lv_iconst (v := 0) hx hb dX12_isTown_4 (by decide) ?_
  refine tk_ialdR hC hK hw hT kM_at12 rfl (by decide) (by decide) dX12_isTown_5 (fun x1 c2 Ex1 => ?_)
  have bx1 := tk_rgI rfl 0 1 1 0 10 (by decide +kernel) ⟨0, by decide, by decide⟩ Ex1
  have c2 : gi w0 12 0 = x1 := c2
  refine lv_if_le (tgt := 13) hx hb dX12_isTown_6 (by decide) (fun c3 => ?_) (fun c3 => ?_)
  · have c3 : x1.toInt ≤ (0 : Int) := wk_le.mp c3
    refine lv_iconst (v := 0) hx hb dX12_isTown_13 (by decide) ?_
    exact tk_zret hC hr rfl hlocks hK ⟨rfl, (Or.inl ⟨rfl, ⟨x1, c2, (show 0 ≤ x1.toInt by omega), (show x1.toInt ≤ 0 by omega)⟩⟩)⟩ hw dX12_isTown_14
  · have c3 : (0 : Int) < x1.toInt := wk_leF c3
    refine lv_iconst (v := 1) hx hb dX12_isTown_9 (by decide) ?_
    refine lv_goto (tgt := 14) hx hb dX12_isTown_10 (by decide) ?_
    exact tk_zret hC hr rfl hlocks hK ⟨rfl, (Or.inr ⟨rfl, ⟨x1, c2, (show 1 ≤ x1.toInt by omega), (show x1.toInt ≤ 10 by omega)⟩⟩)⟩ hw dX12_isTown_14
abbrev P_X12_print_1 (ad : Nat → Nat) (cy : Nat → ClassId) (B : Int) (qr : Nat) (s1 : Int) (a1 : Int32) (w0 : va_W) : Int32 → va_W → Prop := fun r u => TW ksM ad cy B qr 12 u ∧ FE ksM [(71, 4, 4), (71, 168, 215)] w0 u ∧ ((r = (-2)) ∨ (0 ≤ r.toInt ∧ r.toInt ≤ 3 ∧ 0 ≤ a1.toInt ∧ a1.toInt ≤ 6 ∧ (∃ y : Int32, gi u 12 0 = y ∧ 1 ≤ y.toInt ∧ y.toInt ≤ 10) ∧ (∃ y : Int32, gi u 12 4 = y ∧ 1 ≤ y.toInt ∧ y.toInt ≤ 4)))
set_option maxHeartbeats 4000000 in
set_option maxRecDepth 100000 in
theorem k_X12_print_1 (l : Launch) (adK adV : Nat → Nat) (dC : Nat → ClassId) (dI : Nat → Nat → Nat) (cy : Nat → ClassId) (ad : Nat → Nat) (B : Int) (hB0 : 100000 ≤ B) (hB1 : B ≤ 1073741824) (qr : Nat) (s1 : Int)  (a1 : Int32) (w0 : va_W) (sz : Nat) (hT : TW ksM ad cy B qr 12 w0)  : Met l yX12_print wsX12_print ({ frames := 2, cells := 0, slots := 0, locals := 37 }) (va_Pc [.ref (ad 0), .int a1] (wpreS adK adV dC dI cy sz w0)) (va_Qi (P_X12_print_1 ad cy B qr s1 a1 w0) (fun u : va_W => wpost dC dI cy (va_A w0 sz) u) (va_A w0 sz)) 0 0 (va_A w0 sz) := by
  refine Met.ofW (cc := cX12_print) (maxL := 3) (ret := (some .int)) (by decide) rfl ?_
  intro p e s m args below meth c s₁ Bk hml hv
  obtain ⟨rfl, ⟨hsz, hP, hK, hD0⟩, hE, hSR⟩ := hv
  have hx := Bk.exec
  have hb := Bk.bytes
  have hr := Bk.returns
  have hlocks := Bk.notSynchronized
  have hC : CallFix p m c cX12_print 3 s _ wsX12_print RX12 := ⟨hx, hb, hml, findClass_of_methodNamed Bk.named, atoms_spec (ws := wsX12_print) Bk.pre⟩
  subst hsz
  have hD := hD0.self (sz := s.heap.size)
  generalize hAe : va_A w0 s.heap.size = A at hD hE ⊢
  have hA : ∀ q : Nat, s.heap.size ≤ q → A q := fun q h => by rw [← hAe]; exact Or.inr h
  have hw : Wd dC dI A s.heap s.heap [] w0 := ⟨hP, hD, va_S.rf⟩
  have hF : FE ksM [(71, 4, 4), (71, 168, 215)] w0 w0 := FE.rf
  have hl := lv_entry ([.ref (ad 0), .int a1]) (n := 3) (Nat.le_of_ble_eq_true rfl)
  rw [lg_entry_eq]
  generalize (lg_sl ([.ref (ad 0), .int a1]) ++ List.replicate (3 - (lg_sl ([.ref (ad 0), .int a1])).length) Slot.unset).toArray = ls at hl ⊢
  have hl : lv_has ls 3 [(0, .ref (ad 0)), (1, .int a1)] := hl
  generalize hloc : ([] : List Loc) = locs at hw ⊢
  have hinX12 : ∀ w ∈ u_ws RX12 TX12 42, w ∈ wsX12_print := fun _ h => List.mem_cons_of_mem _ (List.mem_append_right _ (h))
  have J29 : ∀ (f29_12_0 : Int32) (H : Heap) (locs : List Loc) (ls : Array Slot) (w1 : va_W), 0 ≤ f29_12_0.toInt → f29_12_0.toInt ≤ 10 → Wd dC dI A s.heap H locs w1 → TW ksM ad cy B qr 12 w1 → FE ksM [(71, 4, 4), (71, 168, 215)] w0 w1 → gi w1 12 0 = f29_12_0 → lv_has ls 3 [(0, .ref (ad 0)), (1, .int a1)] → W p l e ({ frames := 2, cells := 0, slots := 0, locals := 37 }) s m (List.toArray [.ref (ad 0), .int a1]) below meth c H locs 0 0 (MQ below (va_Qi (P_X12_print_1 ad cy B qr s1 a1 w0) (fun u : va_W => wpost dC dI cy A u) A) (List.toArray [.ref (ad 0), .int a1]) s 0 0 A) (F0 m 29 ls []) := by
    intro f29_12_0 H locs ls w1 r2 t3 hw hT hF c4 hl
    refine lv_bipush (v := (-2)) hx hb dX12_print_29 (by decide) ?_
    exact tk_iret hC hr hlocks hK ⟨hT, hF, (Or.inl rfl)⟩ hw dX12_print_31
  have L34 : ∀ (n34 : Nat) (v34_2 : Int32) (f34_12_0 : Int32) (f34_12_4 : Int32) (H : Heap) (locs : List Loc) (ls : Array Slot) (w5 : va_W), 0 ≤ a1.toInt → a1.toInt ≤ 6 → 0 ≤ v34_2.toInt → v34_2.toInt ≤ 12 → 1 ≤ f34_12_0.toInt → f34_12_0.toInt ≤ 10 → 0 ≤ f34_12_4.toInt → f34_12_4.toInt ≤ 3 → (12 - v34_2.toInt).toNat < n34 → Wd dC dI A s.heap H locs w5 → TW ksM ad cy B qr 12 w5 → FE ksM [(71, 4, 4), (71, 168, 215)] w0 w5 → gi w5 12 0 = f34_12_0 → gi w5 12 4 = f34_12_4 → lv_has ls 3 [(0, .ref (ad 0)), (1, .int a1), (2, .int v34_2)] → W p l e ({ frames := 2, cells := 0, slots := 0, locals := 37 }) s m (List.toArray [.ref (ad 0), .int a1]) below meth c H locs 0 0 (MQ below (va_Qi (P_X12_print_1 ad cy B qr s1 a1 w0) (fun u : va_W => wpost dC dI cy A u) A) (List.toArray [.ref (ad 0), .int a1]) s 0 0 A) (F0 m 34 ls []) := by
    intro n34
    induction n34 with
    | zero => intro v34_2 f34_12_0 f34_12_4 H locs ls w5 r6 t7 r8 t9 r10 t11 r13 t14 hm34 hw hT hF c12 c15 hl; omega
    | succ n34 ih34 =>
      intro v34_2 f34_12_0 f34_12_4 H locs ls w5 r6 t7 r8 t9 r10 t11 r13 t14 hm34 hw hT hF c12 c15 hl
      refine lv_iload_n hx hb dX12_print_34 rfl (lv_at hl 2 rfl) ?_
      refine lv_aload_n hx hb dX12_print_35 rfl (lv_at hl 0 rfl) ?_
      refine tk_getA hC hK hw hT hinX12 kM_at0 (by decide) rfl 26 (by decide) (List.mem_of_getElem? (i := 2) rfl) rfl rfl dX12_print_36 ?_
      refine lv_iconst (v := 1) hx hb dX12_print_39 (by decide) ?_
      refine tk_ialdR hC hK hw hT kM_at12 rfl (by decide) (by decide) dX12_print_40 (fun x16 c17 Ex16 => ?_)
      have bx16 : 0 ≤ x16.toInt ∧ x16.toInt ≤ 12 := (tk_rg1 rfl).mp Ex16
      have c17 : gi w5 12 1 = x16 := c17
      refine lv_icmp_ge (tgt := 78) hx hb dX12_print_41 (by decide) (fun c18 => ?_) (fun c18 => ?_)
      · have c18 : x16.toInt ≤ v34_2.toInt := wk_le.mp c18
        refine lv_aload_n hx hb dX12_print_78 rfl (lv_at hl 0 rfl) ?_
        refine tk_getA hC hK hw hT hinX12 kM_at0 (by decide) rfl 26 (by decide) (List.mem_of_getElem? (i := 2) rfl) rfl rfl dX12_print_79 ?_
        refine lv_iconst (v := 4) hx hb dX12_print_82 (by decide) ?_
        refine lv_dup2_11 hx hb dX12_print_83 rfl rfl ?_
        refine tk_ialdR hC hK hw hT kM_at12 rfl (by decide) (by decide) dX12_print_84 (fun x19 c20 Ex19 => ?_)
        refine wk_top f34_12_4 (c20.symm.trans c15) ?_
        refine lv_iconst (v := 1) hx hb dX12_print_85 (by decide) ?_
        refine lv_iadd hx hb dX12_print_86 ?_
        refine lv_topi (fun x21 ex21 => ?_)
        have ex21 : x21.toInt = f34_12_4.toInt + (1 : Int) := by rw [ex21]; exact wk_add (show (-2147483648) ≤ f34_12_4.toInt + (1 : Int) by omega) (show f34_12_4.toInt + (1 : Int) ≤ 2147483647 by omega)
        refine tk_iastR hC hK hw hT kM_at12 (by decide) rfl (by decide) (by decide) (tk_rgS rfl 4 1 1 1 4 (by decide +kernel) ⟨0, by decide, by decide⟩ (show 1 ≤ x21.toInt by omega) (show x21.toInt ≤ 4 by omega)) dX12_print_87 (fun H locs w22 hw hT k24 c23 => ?_)
        have hF := hF.put kM_at12 (inE_of (a := 4) (b := 4) (by decide) (by decide) (by decide)) k24
        have c25 := k24.gi (Or.inr (by decide)) c12
        have c26 := k24.gi (Or.inr (by decide)) c17
        have c23 : gi w22 12 4 = x21 := c23
        refine lv_aload_n hx hb dX12_print_88 rfl (lv_at hl 0 rfl) ?_
        refine tk_getA hC hK hw hT hinX12 kM_at0 (by decide) rfl 26 (by decide) (List.mem_of_getElem? (i := 2) rfl) rfl rfl dX12_print_89 ?_
        refine lv_iconst (v := 4) hx hb dX12_print_92 (by decide) ?_
        refine tk_ialdR hC hK hw hT kM_at12 rfl (by decide) (by decide) dX12_print_93 (fun x27 c28 Ex27 => ?_)
        refine wk_top x21 (c28.symm.trans c23) ?_
        refine lv_iconst (v := 1) hx hb dX12_print_94 (by decide) ?_
        refine lv_isub hx hb dX12_print_95 ?_
        refine lv_topi (fun x29 ex29 => ?_)
        have ex29 : x29.toInt = x21.toInt - (1 : Int) := by rw [ex29]; exact wk_sub (show (-2147483648) ≤ x21.toInt - (1 : Int) by omega) (show x21.toInt - (1 : Int) ≤ 2147483647 by omega)
        exact tk_iret hC hr hlocks hK ⟨hT, hF, (Or.inr ⟨(show 0 ≤ x29.toInt by omega), (show x29.toInt ≤ 3 by omega), (show 0 ≤ a1.toInt by omega), (show a1.toInt ≤ 6 by omega), ⟨f34_12_0, c25, (show 1 ≤ f34_12_0.toInt by omega), (show f34_12_0.toInt ≤ 10 by omega)⟩, ⟨x21, c23, (show 1 ≤ x21.toInt by omega), (show x21.toInt ≤ 4 by omega)⟩⟩)⟩ hw dX12_print_96
      · have c18 : v34_2.toInt < x16.toInt := wk_leF c18
        refine lv_aload_n hx hb dX12_print_44 rfl (lv_at hl 0 rfl) ?_
        refine tk_getA hC hK hw hT hinX12 kM_at0 (by decide) rfl 26 (by decide) (List.mem_of_getElem? (i := 2) rfl) rfl rfl dX12_print_45 ?_
        refine lv_sipush (v := 168) hx hb dX12_print_48 (by decide) ?_
        refine lv_bipush (v := 12) hx hb dX12_print_51 (by decide) ?_
        refine lv_aload_n hx hb dX12_print_53 rfl (lv_at hl 0 rfl) ?_
        refine tk_getA hC hK hw hT hinX12 kM_at0 (by decide) rfl 26 (by decide) (List.mem_of_getElem? (i := 2) rfl) rfl rfl dX12_print_54 ?_
        refine lv_iconst (v := 4) hx hb dX12_print_57 (by decide) ?_
        refine tk_ialdR hC hK hw hT kM_at12 rfl (by decide) (by decide) dX12_print_58 (fun x30 c31 Ex30 => ?_)
        refine wk_top f34_12_4 (c31.symm.trans c15) ?_
        refine lv_imul hx hb dX12_print_59 ?_
        refine lv_topi (fun x32 ex32 => ?_)
        have ex32 : x32.toInt = (12 : Int) * f34_12_4.toInt := by rw [ex32]; exact wk_mul (show (-2147483648) ≤ (12 : Int) * f34_12_4.toInt by omega) (show (12 : Int) * f34_12_4.toInt ≤ 2147483647 by omega)
        refine lv_iadd hx hb dX12_print_60 ?_
        refine lv_topi (fun x33 ex33 => ?_)
        have ex33 : x33.toInt = (168 : Int) + x32.toInt := by rw [ex33]; exact wk_add (show (-2147483648) ≤ (168 : Int) + x32.toInt by omega) (show (168 : Int) + x32.toInt ≤ 2147483647 by omega)
        refine lv_iload_n hx hb dX12_print_61 rfl (lv_at hl 2 rfl) ?_
        refine lv_iadd hx hb dX12_print_62 ?_
        refine lv_topi (fun x34 ex34 => ?_)
        have ex34 : x34.toInt = x33.toInt + v34_2.toInt := by rw [ex34]; exact wk_add (show (-2147483648) ≤ x33.toInt + v34_2.toInt by omega) (show x33.toInt + v34_2.toInt ≤ 2147483647 by omega)
        refine lv_aload_n hx hb dX12_print_63 rfl (lv_at hl 0 rfl) ?_
        refine lv_iload_n hx hb dX12_print_64 rfl (lv_at hl 2 rfl) ?_
        refine lv_iconst (v := 3) hx hb dX12_print_65 (by decide) ?_
        refine lv_iload_n hx hb dX12_print_66 rfl (lv_at hl 1 rfl) ?_
        refine lv_iadd hx hb dX12_print_67 ?_
        refine lv_topi (fun x35 ex35 => ?_)
        have ex35 : x35.toInt = (3 : Int) + a1.toInt := by rw [ex35]; exact wk_add (show (-2147483648) ≤ (3 : Int) + a1.toInt by omega) (show (3 : Int) + a1.toInt ≤ 2147483647 by omega)
        refine tk_Vi hC hK hw hT hA hE hSR kM_at0 (by decide) rfl (k_X12_streetOf_4 l adK adV dC dI cy ad B (by omega) (by omega) qr s1   v34_2 (show 0 ≤ v34_2.toInt by omega) (show v34_2.toInt ≤ 11 by omega) x35 (show 3 ≤ x35.toInt by omega) (show x35.toInt ≤ 9 by omega) w5 H.size hT ) (cwV 2 hC.2.2.2.2 gX12_print_X12_streetOf rfl rfl rfl (by decide +kernel) ⟨Nat.le_of_ble_eq_true rfl, Nat.le_of_ble_eq_true rfl⟩) rfl hl.1 rfl (Nat.le_of_ble_eq_true rfl) dX12_print_68 (fun r36 w38 H locs hp37 hw => ?_)
        obtain ⟨rfl, hg43⟩ := hp37
        obtain ⟨g40, g41, c42⟩ := hg43
        refine tk_iastR hC hK hw hT kM_at12 (by decide) rfl (show 0 ≤ x34.toInt by omega) (show x34.toInt < 296 by omega) (tk_rgS rfl 168 1 48 0 9 (by decide +kernel) ⟨(x34.toInt - 168).toNat, by omega, show x34.toInt.toNat = 168 + 1 * (x34.toInt - 168).toNat by omega⟩ (show 0 ≤ r36.toInt by omega) (show r36.toInt ≤ 9 by omega)) dX12_print_71 (fun H locs w44 hw hT k46 c45 => ?_)
        have hF := hF.put kM_at12 (inE_of (a := 168) (b := 215) (by decide) (show 168 ≤ x34.toInt.toNat by omega) (show x34.toInt.toNat ≤ 215 by omega)) k46
        have c47 := k46.gi (Or.inr (show 0 ≠ x34.toInt.toNat by omega)) c12
        have c48 := k46.gi (Or.inr (show 4 ≠ x34.toInt.toNat by omega)) c15
        have c49 := k46.gi (Or.inr (show 1 ≠ x34.toInt.toNat by omega)) c17
        obtain ⟨x50, ex50⟩ : ∃ y : Int32, y = v34_2 + Int32.ofInt 1 := ⟨_, rfl⟩
        refine lv_iinc (v := x50) (lv' := [(2, .int x50), (0, .ref (ad 0)), (1, .int a1)]) hx hb dX12_print_72 hl (k := 2) rfl ex50.symm (by decide) rfl (fun ls hl => ?_)
        have ex50 : x50.toInt = v34_2.toInt + 1 := by rw [ex50]; exact wk_add (y := 1) (show -2147483648 ≤ v34_2.toInt + 1 by omega) (show v34_2.toInt + 1 ≤ 2147483647 by omega)
        refine lv_goto (tgt := 34) hx hb dX12_print_75 (by decide) ?_
        exact ih34 x50 f34_12_0 f34_12_4 H locs ls w44 (show 0 ≤ a1.toInt by omega) (show a1.toInt ≤ 6 by omega) (show 0 ≤ x50.toInt by omega) (show x50.toInt ≤ 12 by omega) (show 1 ≤ f34_12_0.toInt by omega) (show f34_12_0.toInt ≤ 10 by omega) (show 0 ≤ f34_12_4.toInt by omega) (show f34_12_4.toInt ≤ 3 by omega) (show (12 - x50.toInt).toNat < n34 by omega) hw hT hF c47 c48 (lv_sub hl [1, 2, 0] rfl)
  refine lv_aload_n hx hb dX12_print_0 rfl (lv_at hl 0 rfl) ?_
  refine tk_Vi hC hK hw hT hA hE hSR kM_at0 (by decide) rfl (k_X12_isTown_1 l adK adV dC dI cy ad B (by omega) (by omega) qr s1    w0 s.heap.size hT ) (cwV 0 hC.2.2.2.2 gX12_print_X12_isTown rfl rfl rfl (by decide +kernel) ⟨Nat.le_of_ble_eq_true rfl, Nat.le_of_ble_eq_true rfl⟩) rfl hl.1 rfl (Nat.le_of_ble_eq_true rfl) dX12_print_1 (fun r51 w53 H locs hp52 hw => ?_)
  obtain ⟨rfl, hg59⟩ := hp52
  rcases hg59 with ⟨rfl, ⟨x55, c56, rx55, tx55⟩⟩ | ⟨rfl, ⟨x57, c58, rx57, tx57⟩⟩
  · refine lv_if_eq (tgt := 29) hx hb dX12_print_4 (by decide) (fun _ => ?_) (fun c => absurd (by decide) c)
    exact J29 x55 H locs ls w0 (show 0 ≤ x55.toInt by omega) (show x55.toInt ≤ 10 by omega)  hw hT hF c56 (lv_sub hl [0, 1] rfl)
  · refine lv_if_eq (tgt := 29) hx hb dX12_print_4 (by decide) (fun c => absurd c (by decide)) (fun _ => ?_)
    refine lv_iload_n hx hb dX12_print_7 rfl (lv_at hl 1 rfl) ?_
    refine lv_i2l hx hb dX12_print_8 rfl ?_
    refine lv_topl (fun x60 ex60 => ?_)
    have ex60 : x60.toInt = a1.toInt := by rw [ex60]; exact wk_i2l _
    have bx60 := wk_i32 a1
    refine lv_lconst (v := 0) hx hb dX12_print_9 (by decide) ?_
    refine lv_ldc2 (v := 6) hx hb hC.2.2.2.1 (hC.2.2.2.2 _ (List.mem_of_getElem? (i := 1) rfl)) dX12_print_10 ?_
    refine tk_Si hC hK hw hT hA hE hSR (k_X12_in_11 l adK adV dC dI cy ad B (by omega) (by omega) qr s1   x60 (show (-2147483648) ≤ x60.toInt by omega) (show x60.toInt ≤ 2147483647 by omega) w0 H.size hT ) (va_cwS 3 hC.2.2.2.2 gX12_print_X12_in rfl rfl rfl (by decide +kernel) ⟨Nat.le_of_ble_eq_true rfl, Nat.le_of_ble_eq_true rfl⟩) rfl hl.1 rfl (Nat.le_of_ble_eq_true rfl) dX12_print_13 (fun r61 w63 H locs hp62 hw => ?_)
    obtain ⟨rfl, hg67⟩ := hp62
    rcases hg67 with rfl | ⟨rfl, g65, g66⟩
    · refine lv_if_eq (tgt := 29) hx hb dX12_print_16 (by decide) (fun _ => ?_) (fun c => absurd (by decide) c)
      exact J29 x57 H locs ls w0 (show 0 ≤ x57.toInt by omega) (show x57.toInt ≤ 10 by omega)  hw hT hF c58 (lv_sub hl [0, 1] rfl)
    · refine lv_if_eq (tgt := 29) hx hb dX12_print_16 (by decide) (fun c => absurd c (by decide)) (fun _ => ?_)
      refine lv_aload_n hx hb dX12_print_19 rfl (lv_at hl 0 rfl) ?_
      refine tk_getA hC hK hw hT hinX12 kM_at0 (by decide) rfl 26 (by decide) (List.mem_of_getElem? (i := 2) rfl) rfl rfl dX12_print_20 ?_
      refine lv_iconst (v := 4) hx hb dX12_print_23 (by decide) ?_
      refine tk_ialdR hC hK hw hT kM_at12 rfl (by decide) (by decide) dX12_print_24 (fun x68 c69 Ex68 => ?_)
      have bx68 := tk_rgI rfl 4 1 1 0 4 (by decide +kernel) ⟨0, by decide, by decide⟩ Ex68
      have c69 : gi w0 12 4 = x68 := c69
      refine lv_iconst (v := 4) hx hb dX12_print_25 (by decide) ?_
      refine lv_icmp_ne (tgt := 32) hx hb dX12_print_26 (by decide) (fun c70 => ?_) (fun c70 => ?_)
      · have c70 : ¬ x68.toInt = (4 : Int) := wk_eqF c70
        refine lv_iconst (v := 0) hx hb dX12_print_32 (by decide) ?_
        refine lv_istore_n (lv' := [(2, .int 0), (0, .ref (ad 0)), (1, .int a1)]) hx hb dX12_print_33 rfl hl (by decide) rfl (fun ls hl => ?_)
        exact L34 ((12 - (0 : Int)).toNat + 1) 0 x57 x68 H locs ls w0 (show 0 ≤ a1.toInt by omega) (show a1.toInt ≤ 6 by omega) (by decide) (by decide) (show 1 ≤ x57.toInt by omega) (show x57.toInt ≤ 10 by omega) (show 0 ≤ x68.toInt by omega) (show x68.toInt ≤ 3 by omega) (Nat.lt_succ_self _) hw hT hF c58 c69 (lv_sub hl [1, 2, 0] rfl)
      · have c70 : x68.toInt = (4 : Int) := wk_eq.mp c70
        exact J29 x57 H locs ls w0 (show 0 ≤ x57.toInt by omega) (show x57.toInt ≤ 10 by omega)  hw hT hF c58 (lv_sub hl [0, 1] rfl)
abbrev P_X12_in_12 (ad : Nat → Nat) (cy : Nat → ClassId) (B : Int) (qr : Nat) (s1 : Int) (a0 : Int64) (w0 : va_W) : Int32 → va_W → Prop := fun r u => w0 = u ∧ ((r = 0) ∨ (r = 1 ∧ 0 ≤ a0.toInt ∧ a0.toInt ≤ 3))
set_option maxHeartbeats 4000000 in
set_option maxRecDepth 100000 in
theorem k_X12_in_12 (l : Launch) (adK adV : Nat → Nat) (dC : Nat → ClassId) (dI : Nat → Nat → Nat) (cy : Nat → ClassId) (ad : Nat → Nat) (B : Int) (hB0 : 100000 ≤ B) (hB1 : B ≤ 1073741824) (qr : Nat) (s1 : Int)  (a0 : Int64) (ra0 : (-2147483648) ≤ a0.toInt) (ta0 : a0.toInt ≤ 2147483647) (w0 : va_W) (sz : Nat) (hT : TW ksM ad cy B qr 12 w0)  : Met l yX12_in wsX12_in ({ frames := 1, cells := 0, slots := 0, locals := 12 }) (va_Pc [.long a0, .long 0, .long 3] (wpreS adK adV dC dI cy sz w0)) (va_Qi (P_X12_in_12 ad cy B qr s1 a0 w0) (fun u : va_W => wpost dC dI cy (va_A w0 sz) u) (va_A w0 sz)) 0 0 (va_A w0 sz) := by
  refine Met.ofW (cc := cX12_in) (maxL := 6) (ret := (some .boolean)) (by decide) rfl ?_
  intro p e s m args below meth c s₁ Bk hml hv
  obtain ⟨rfl, ⟨hsz, hP, hK, hD0⟩, hE, hSR⟩ := hv
  have hx := Bk.exec
  have hb := Bk.bytes
  have hr := Bk.returns
  have hlocks := Bk.notSynchronized
  have hC : CallFix p m c cX12_in 6 s _ wsX12_in RX12 := ⟨hx, hb, hml, findClass_of_methodNamed Bk.named, atoms_spec (ws := wsX12_in) Bk.pre⟩
  subst hsz
  have hD := hD0.self (sz := s.heap.size)
  generalize hAe : va_A w0 s.heap.size = A at hD hE ⊢
  have hA : ∀ q : Nat, s.heap.size ≤ q → A q := fun q h => by rw [← hAe]; exact Or.inr h
  have hw : Wd dC dI A s.heap s.heap [] w0 := ⟨hP, hD, va_S.rf⟩
  have hF : FE ksM ([] : List (Nat × Nat × Nat)) w0 w0 := FE.rf
  have hl := lv_entry ([.long a0, .long 0, .long 3]) (n := 6) (Nat.le_of_ble_eq_true rfl)
  rw [lg_entry_eq]
  generalize (lg_sl ([.long a0, .long 0, .long 3]) ++ List.replicate (6 - (lg_sl ([.long a0, .long 0, .long 3])).length) Slot.unset).toArray = ls at hl ⊢
  have hl : lv_has ls 6 [(0, .long a0), (2, .long 0), (4, .long 3)] := hl
  generalize hloc : ([] : List Loc) = locs at hw ⊢
  have J17 : ∀ (H : Heap) (locs : List Loc) (ls : Array Slot), (-2147483648) ≤ a0.toInt → a0.toInt ≤ 2147483647 → Wd dC dI A s.heap H locs w0 → lv_has ls 6 [(0, .long a0), (2, .long 0), (4, .long 3)] → W p l e ({ frames := 1, cells := 0, slots := 0, locals := 12 }) s m (List.toArray [.long a0, .long 0, .long 3]) below meth c H locs 0 0 (MQ below (va_Qi (P_X12_in_12 ad cy B qr s1 a0 w0) (fun u : va_W => wpost dC dI cy A u) A) (List.toArray [.long a0, .long 0, .long 3]) s 0 0 A) (F0 m 17 ls []) := by
    intro H locs ls r1 t2 hw hl
    refine lv_iconst (v := 0) hx hb dX12_in_17 (by decide) ?_
    exact tk_zret hC hr rfl hlocks hK ⟨rfl, (Or.inl rfl)⟩ hw dX12_in_18
  refine lv_lload_n hx hb dX12_in_0 rfl (lv_at hl 0 rfl) ?_
  refine lv_lload_n hx hb dX12_in_1 rfl (lv_at hl 1 rfl) ?_
  refine W.lcmp hx hb dX12_in_2 ?_
  refine lv_if_lt (tgt := 17) hx hb dX12_in_3 (by decide) (fun c3 => ?_) (fun c3 => ?_)
  · have c3 : a0.toInt < (0 : Int) := wk_cltT c3
    exact J17  s.heap locs ls  (show (-2147483648) ≤ a0.toInt by omega) (show a0.toInt ≤ 2147483647 by omega)  hw   (lv_sub hl [0, 1, 2] rfl)
  · have c3 : (0 : Int) ≤ a0.toInt := wk_cltF c3
    refine lv_lload_n hx hb dX12_in_6 rfl (lv_at hl 0 rfl) ?_
    refine lv_lload hx hb dX12_in_7 (lv_at hl 2 rfl) ?_
    refine W.lcmp hx hb dX12_in_9 ?_
    refine lv_if_gt (tgt := 17) hx hb dX12_in_10 (by decide) (fun c4 => ?_) (fun c4 => ?_)
    · have c4 : (3 : Int) < a0.toInt := wk_cgtT c4
      exact J17  s.heap locs ls  (show (-2147483648) ≤ a0.toInt by omega) (show a0.toInt ≤ 2147483647 by omega)  hw   (lv_sub hl [0, 1, 2] rfl)
    · have c4 : a0.toInt ≤ (3 : Int) := wk_cgtF c4
      refine lv_iconst (v := 1) hx hb dX12_in_13 (by decide) ?_
      refine lv_goto (tgt := 18) hx hb dX12_in_14 (by decide) ?_
      exact tk_zret hC hr rfl hlocks hK ⟨rfl, (Or.inr ⟨rfl, (show 0 ≤ a0.toInt by omega), (show a0.toInt ≤ 3 by omega)⟩)⟩ hw dX12_in_18
abbrev P_X12_isMap_1 (ad : Nat → Nat) (cy : Nat → ClassId) (B : Int) (qr : Nat) (s1 : Int) (a1 : Int32) (w0 : va_W) : Int32 → va_W → Prop := fun r u => w0 = u ∧ ((r = 0) ∨ (r = 1 ∧ 0 ≤ a1.toInt ∧ a1.toInt ≤ 3 ∧ (∃ y : Int32, gi u 12 4 = y ∧ 1 ≤ y.toInt ∧ y.toInt ≤ 4)))
set_option maxHeartbeats 4000000 in
set_option maxRecDepth 100000 in
theorem k_X12_isMap_1 (l : Launch) (adK adV : Nat → Nat) (dC : Nat → ClassId) (dI : Nat → Nat → Nat) (cy : Nat → ClassId) (ad : Nat → Nat) (B : Int) (hB0 : 100000 ≤ B) (hB1 : B ≤ 1073741824) (qr : Nat) (s1 : Int)  (a1 : Int32) (w0 : va_W) (sz : Nat) (hT : TW ksM ad cy B qr 12 w0)  : Met l yX12_isMap wsX12_isMap ({ frames := 1, cells := 0, slots := 0, locals := 12 }) (va_Pc [.ref (ad 0), .int a1] (wpreS adK adV dC dI cy sz w0)) (va_Qi (P_X12_isMap_1 ad cy B qr s1 a1 w0) (fun u : va_W => wpost dC dI cy (va_A w0 sz) u) (va_A w0 sz)) 0 0 (va_A w0 sz) := by
  refine Met.ofW (cc := cX12_isMap) (maxL := 2) (ret := (some .boolean)) (by decide) rfl ?_
  intro p e s m args below meth c s₁ Bk hml hv
  obtain ⟨rfl, ⟨hsz, hP, hK, hD0⟩, hE, hSR⟩ := hv
  have hx := Bk.exec
  have hb := Bk.bytes
  have hr := Bk.returns
  have hlocks := Bk.notSynchronized
  have hC : CallFix p m c cX12_isMap 2 s _ wsX12_isMap RX12 := ⟨hx, hb, hml, findClass_of_methodNamed Bk.named, atoms_spec (ws := wsX12_isMap) Bk.pre⟩
  subst hsz
  have hD := hD0.self (sz := s.heap.size)
  generalize hAe : va_A w0 s.heap.size = A at hD hE ⊢
  have hA : ∀ q : Nat, s.heap.size ≤ q → A q := fun q h => by rw [← hAe]; exact Or.inr h
  have hw : Wd dC dI A s.heap s.heap [] w0 := ⟨hP, hD, va_S.rf⟩
  have hF : FE ksM ([] : List (Nat × Nat × Nat)) w0 w0 := FE.rf
  have hl := lv_entry ([.ref (ad 0), .int a1]) (n := 2) (Nat.le_of_ble_eq_true rfl)
  rw [lg_entry_eq]
  generalize (lg_sl ([.ref (ad 0), .int a1]) ++ List.replicate (2 - (lg_sl ([.ref (ad 0), .int a1])).length) Slot.unset).toArray = ls at hl ⊢
  have hl : lv_has ls 2 [(0, .ref (ad 0)), (1, .int a1)] := hl
  generalize hloc : ([] : List Loc) = locs at hw ⊢
  have hinX12 : ∀ w ∈ u_ws RX12 TX12 42, w ∈ wsX12_isMap := fun _ h => List.mem_cons_of_mem _ (List.mem_append_right _ (h))
  have J18 : ∀ (H : Heap) (locs : List Loc) (ls : Array Slot), Wd dC dI A s.heap H locs w0 → lv_has ls 2 [(0, .ref (ad 0)), (1, .int a1)] → W p l e ({ frames := 1, cells := 0, slots := 0, locals := 12 }) s m (List.toArray [.ref (ad 0), .int a1]) below meth c H locs 0 0 (MQ below (va_Qi (P_X12_isMap_1 ad cy B qr s1 a1 w0) (fun u : va_W => wpost dC dI cy A u) A) (List.toArray [.ref (ad 0), .int a1]) s 0 0 A) (F0 m 18 ls []) := by
    intro H locs ls hw hl
    refine lv_iconst (v := 0) hx hb dX12_isMap_18 (by decide) ?_
    exact tk_zret hC hr rfl hlocks hK ⟨rfl, (Or.inl rfl)⟩ hw dX12_isMap_19
  refine lv_iload_n hx hb dX12_isMap_0 rfl (lv_at hl 1 rfl) ?_
  refine lv_if_lt (tgt := 18) hx hb dX12_isMap_1 (by decide) (fun c1 => ?_) (fun c1 => ?_)
  · have c1 : a1.toInt < (0 : Int) := wk_lt.mp c1
    exact J18  s.heap locs ls    hw   (lv_sub hl [0, 1] rfl)
  · have c1 : (0 : Int) ≤ a1.toInt := wk_ltF c1
    refine lv_iload_n hx hb dX12_isMap_4 rfl (lv_at hl 1 rfl) ?_
    refine lv_aload_n hx hb dX12_isMap_5 rfl (lv_at hl 0 rfl) ?_
    refine tk_getA hC hK hw hT hinX12 kM_at0 (by decide) rfl 26 (by decide) (List.mem_of_getElem? (i := 1) rfl) rfl rfl dX12_isMap_6 ?_
    refine lv_iconst (v := 4) hx hb dX12_isMap_9 (by decide) ?_
    refine tk_ialdR hC hK hw hT kM_at12 rfl (by decide) (by decide) dX12_isMap_10 (fun x2 c3 Ex2 => ?_)
    have bx2 := tk_rgI rfl 4 1 1 0 4 (by decide +kernel) ⟨0, by decide, by decide⟩ Ex2
    have c3 : gi w0 12 4 = x2 := c3
    refine lv_icmp_ge (tgt := 18) hx hb dX12_isMap_11 (by decide) (fun c4 => ?_) (fun c4 => ?_)
    · have c4 : x2.toInt ≤ a1.toInt := wk_le.mp c4
      exact J18  s.heap locs ls    hw   (lv_sub hl [0, 1] rfl)
    · have c4 : a1.toInt < x2.toInt := wk_leF c4
      refine lv_iconst (v := 1) hx hb dX12_isMap_14 (by decide) ?_
      refine lv_goto (tgt := 19) hx hb dX12_isMap_15 (by decide) ?_
      exact tk_zret hC hr rfl hlocks hK ⟨rfl, (Or.inr ⟨rfl, (show 0 ≤ a1.toInt by omega), (show a1.toInt ≤ 3 by omega), ⟨x2, c3, (show 1 ≤ x2.toInt by omega), (show x2.toInt ≤ 4 by omega)⟩⟩)⟩ hw dX12_isMap_19
abbrev P_X12_misprint_1 (ad : Nat → Nat) (cy : Nat → ClassId) (B : Int) (qr : Nat) (s1 : Int) (a1 : Int32) (a2 : Int32) (a3 : Int32) (w0 : va_W) : Int32 → va_W → Prop := fun r u => TW ksM ad cy B qr 12 u ∧ FE ksM [(71, 168, 215)] w0 u ∧ ((0 ≤ a1.toInt ∧ a1.toInt ≤ 3 ∧ 0 ≤ a2.toInt ∧ a2.toInt ≤ 11 ∧ 0 ≤ a3.toInt ∧ a3.toInt ≤ 3 ∧ (∃ y : Int32, gi u 12 1 = y ∧ 1 ≤ y.toInt ∧ y.toInt ≤ 12) ∧ (∃ y : Int32, gi u 12 4 = y ∧ 1 ≤ y.toInt ∧ y.toInt ≤ 4)) ∨ (r = (-1)))
set_option maxHeartbeats 4000000 in
set_option maxRecDepth 100000 in
theorem k_X12_misprint_1 (l : Launch) (adK adV : Nat → Nat) (dC : Nat → ClassId) (dI : Nat → Nat → Nat) (cy : Nat → ClassId) (ad : Nat → Nat) (B : Int) (hB0 : 100000 ≤ B) (hB1 : B ≤ 1073741824) (qr : Nat) (s1 : Int)  (a1 : Int32) (a2 : Int32) (a3 : Int32) (w0 : va_W) (sz : Nat) (hT : TW ksM ad cy B qr 12 w0)  : Met l yX12_misprint wsX12_misprint ({ frames := 2, cells := 0, slots := 0, locals := 37 }) (va_Pc [.ref (ad 0), .int a1, .int a2, .int a3] (wpreS adK adV dC dI cy sz w0)) (va_Qi (P_X12_misprint_1 ad cy B qr s1 a1 a2 a3 w0) (fun u : va_W => wpost dC dI cy (va_A w0 sz) u) (va_A w0 sz)) 0 0 (va_A w0 sz) := by
  refine Met.ofW (cc := cX12_misprint) (maxL := 5) (ret := (some .int)) (by decide) rfl ?_
  intro p e s m args below meth c s₁ Bk hml hv
  obtain ⟨rfl, ⟨hsz, hP, hK, hD0⟩, hE, hSR⟩ := hv
  have hx := Bk.exec
  have hb := Bk.bytes
  have hr := Bk.returns
  have hlocks := Bk.notSynchronized
  have hC : CallFix p m c cX12_misprint 5 s _ wsX12_misprint RX12 := ⟨hx, hb, hml, findClass_of_methodNamed Bk.named, atoms_spec (ws := wsX12_misprint) Bk.pre⟩
  subst hsz
  have hD := hD0.self (sz := s.heap.size)
  generalize hAe : va_A w0 s.heap.size = A at hD hE ⊢
  have hA : ∀ q : Nat, s.heap.size ≤ q → A q := fun q h => by rw [← hAe]; exact Or.inr h
  have hw : Wd dC dI A s.heap s.heap [] w0 := ⟨hP, hD, va_S.rf⟩
  have hF : FE ksM [(71, 168, 215)] w0 w0 := FE.rf
  have hl := lv_entry ([.ref (ad 0), .int a1, .int a2, .int a3]) (n := 5) (Nat.le_of_ble_eq_true rfl)
  rw [lg_entry_eq]
  generalize (lg_sl ([.ref (ad 0), .int a1, .int a2, .int a3]) ++ List.replicate (5 - (lg_sl ([.ref (ad 0), .int a1, .int a2, .int a3])).length) Slot.unset).toArray = ls at hl ⊢
  have hl : lv_has ls 5 [(0, .ref (ad 0)), (1, .int a1), (2, .int a2), (3, .int a3)] := hl
  generalize hloc : ([] : List Loc) = locs at hw ⊢
  have hinX12 : ∀ w ∈ u_ws RX12 TX12 42, w ∈ wsX12_misprint := fun _ h => List.mem_cons_of_mem _ (List.mem_append_right _ (h))
  have J28 : ∀ (H : Heap) (locs : List Loc) (ls : Array Slot) (w1 : va_W), Wd dC dI A s.heap H locs w1 → TW ksM ad cy B qr 12 w1 → FE ksM [(71, 168, 215)] w0 w1 → lv_has ls 5 [(0, .ref (ad 0)), (1, .int a1), (2, .int a2), (3, .int a3)] → W p l e ({ frames := 2, cells := 0, slots := 0, locals := 37 }) s m (List.toArray [.ref (ad 0), .int a1, .int a2, .int a3]) below meth c H locs 0 0 (MQ below (va_Qi (P_X12_misprint_1 ad cy B qr s1 a1 a2 a3 w0) (fun u : va_W => wpost dC dI cy A u) A) (List.toArray [.ref (ad 0), .int a1, .int a2, .int a3]) s 0 0 A) (F0 m 28 ls []) := by
    intro H locs ls w1 hw hT hF hl
    refine lv_iconst (v := (-1)) hx hb dX12_misprint_28 (by decide) ?_
    exact tk_iret hC hr hlocks hK ⟨hT, hF, (Or.inr rfl)⟩ hw dX12_misprint_29
  refine lv_aload_n hx hb dX12_misprint_0 rfl (lv_at hl 0 rfl) ?_
  refine lv_iload_n hx hb dX12_misprint_1 rfl (lv_at hl 1 rfl) ?_
  refine tk_Vi hC hK hw hT hA hE hSR kM_at0 (by decide) rfl (k_X12_isMap_1 l adK adV dC dI cy ad B (by omega) (by omega) qr s1   a1 w0 s.heap.size hT ) (cwV 1 hC.2.2.2.2 gX12_misprint_X12_isMap rfl rfl rfl (by decide +kernel) ⟨Nat.le_of_ble_eq_true rfl, Nat.le_of_ble_eq_true rfl⟩) rfl hl.1 rfl (Nat.le_of_ble_eq_true rfl) dX12_misprint_2 (fun r2 w4 H locs hp3 hw => ?_)
  obtain ⟨rfl, hg10⟩ := hp3
  rcases hg10 with rfl | ⟨rfl, g6, g7, ⟨x8, c9, rx8, tx8⟩⟩
  · refine lv_if_eq (tgt := 28) hx hb dX12_misprint_5 (by decide) (fun _ => ?_) (fun c => absurd (by decide) c)
    exact J28  H locs ls w0   hw hT hF  (lv_sub hl [0, 1, 2, 3] rfl)
  · refine lv_if_eq (tgt := 28) hx hb dX12_misprint_5 (by decide) (fun c => absurd c (by decide)) (fun _ => ?_)
    refine lv_aload_n hx hb dX12_misprint_8 rfl (lv_at hl 0 rfl) ?_
    refine lv_iload_n hx hb dX12_misprint_9 rfl (lv_at hl 2 rfl) ?_
    refine tk_Vi hC hK hw hT hA hE hSR kM_at0 (by decide) rfl (k_X12_isStreet_1 l adK adV dC dI cy ad B (by omega) (by omega) qr s1   a2 w0 H.size hT ) (cwV 1 hC.2.2.2.2 gX12_misprint_X12_isStreet rfl rfl rfl (by decide +kernel) ⟨Nat.le_of_ble_eq_true rfl, Nat.le_of_ble_eq_true rfl⟩) rfl hl.1 rfl (Nat.le_of_ble_eq_true rfl) dX12_misprint_10 (fun r11 w13 H locs hp12 hw => ?_)
    obtain ⟨rfl, hg19⟩ := hp12
    rcases hg19 with rfl | ⟨rfl, g15, g16, ⟨x17, c18, rx17, tx17⟩⟩
    · refine lv_if_eq (tgt := 28) hx hb dX12_misprint_13 (by decide) (fun _ => ?_) (fun c => absurd (by decide) c)
      exact J28  H locs ls w0   hw hT hF  (lv_sub hl [0, 1, 2, 3] rfl)
    · refine lv_if_eq (tgt := 28) hx hb dX12_misprint_13 (by decide) (fun c => absurd c (by decide)) (fun _ => ?_)
      refine lv_iload_n hx hb dX12_misprint_16 rfl (lv_at hl 3 rfl) ?_
      refine lv_i2l hx hb dX12_misprint_17 rfl ?_
      refine lv_topl (fun x20 ex20 => ?_)
      have ex20 : x20.toInt = a3.toInt := by rw [ex20]; exact wk_i2l _
      have bx20 := wk_i32 a3
      refine lv_lconst (v := 0) hx hb dX12_misprint_18 (by decide) ?_
      refine lv_ldc2 (v := 3) hx hb hC.2.2.2.1 (hC.2.2.2.2 _ (List.mem_of_getElem? (i := 1) rfl)) dX12_misprint_19 ?_
      refine tk_Si hC hK hw hT hA hE hSR (k_X12_in_12 l adK adV dC dI cy ad B (by omega) (by omega) qr s1   x20 (show (-2147483648) ≤ x20.toInt by omega) (show x20.toInt ≤ 2147483647 by omega) w0 H.size hT ) (va_cwS 3 hC.2.2.2.2 gX12_misprint_X12_in rfl rfl rfl (by decide +kernel) ⟨Nat.le_of_ble_eq_true rfl, Nat.le_of_ble_eq_true rfl⟩) rfl hl.1 rfl (Nat.le_of_ble_eq_true rfl) dX12_misprint_22 (fun r21 w23 H locs hp22 hw => ?_)
      obtain ⟨rfl, hg27⟩ := hp22
      rcases hg27 with rfl | ⟨rfl, g25, g26⟩
      · refine lv_if_ne (tgt := 30) hx hb dX12_misprint_25 (by decide) (fun c => absurd (by decide) c) (fun _ => ?_)
        exact J28  H locs ls w0   hw hT hF  (lv_sub hl [0, 1, 2, 3] rfl)
      · refine lv_if_ne (tgt := 30) hx hb dX12_misprint_25 (by decide) (fun _ => ?_) (fun c => absurd c (by decide))
        refine lv_aload_n hx hb dX12_misprint_30 rfl (lv_at hl 0 rfl) ?_
        refine tk_getA hC hK hw hT hinX12 kM_at0 (by decide) rfl 26 (by decide) (List.mem_of_getElem? (i := 2) rfl) rfl rfl dX12_misprint_31 ?_
        refine lv_sipush (v := 168) hx hb dX12_misprint_34 (by decide) ?_
        refine lv_bipush (v := 12) hx hb dX12_misprint_37 (by decide) ?_
        refine lv_iload_n hx hb dX12_misprint_39 rfl (lv_at hl 1 rfl) ?_
        refine lv_imul hx hb dX12_misprint_40 ?_
        refine lv_topi (fun x28 ex28 => ?_)
        have ex28 : x28.toInt = (12 : Int) * a1.toInt := by rw [ex28]; exact wk_mul (show (-2147483648) ≤ (12 : Int) * a1.toInt by omega) (show (12 : Int) * a1.toInt ≤ 2147483647 by omega)
        refine lv_iadd hx hb dX12_misprint_41 ?_
        refine lv_topi (fun x29 ex29 => ?_)
        have ex29 : x29.toInt = (168 : Int) + x28.toInt := by rw [ex29]; exact wk_add (show (-2147483648) ≤ (168 : Int) + x28.toInt by omega) (show (168 : Int) + x28.toInt ≤ 2147483647 by omega)
        refine lv_iload_n hx hb dX12_misprint_42 rfl (lv_at hl 2 rfl) ?_
        refine lv_iadd hx hb dX12_misprint_43 ?_
        refine lv_topi (fun x30 ex30 => ?_)
        have ex30 : x30.toInt = x29.toInt + a2.toInt := by rw [ex30]; exact wk_add (show (-2147483648) ≤ x29.toInt + a2.toInt by omega) (show x29.toInt + a2.toInt ≤ 2147483647 by omega)
        refine tk_ialdR hC hK hw hT kM_at12 rfl (show 0 ≤ x30.toInt by omega) (show x30.toInt < 296 by omega) dX12_misprint_44 (fun x31 c32 Ex31 => ?_)
        have c32 : gi w0 12 (12 * a1.toInt + 1 * a2.toInt + 168).toNat = x31 := (congrArg (gi w0 12) (congrArg Int.toNat (show 12 * a1.toInt + 1 * a2.toInt + 168 = x30.toInt by omega))).trans c32
        refine lv_istore (lv' := [(4, .int x31), (0, .ref (ad 0)), (1, .int a1), (2, .int a2), (3, .int a3)]) hx hb dX12_misprint_45 hl (by decide) rfl (fun ls hl => ?_)
        refine lv_aload_n hx hb dX12_misprint_47 rfl (lv_at hl 1 rfl) ?_
        refine tk_getA hC hK hw hT hinX12 kM_at0 (by decide) rfl 26 (by decide) (List.mem_of_getElem? (i := 2) rfl) rfl rfl dX12_misprint_48 ?_
        refine lv_sipush (v := 168) hx hb dX12_misprint_51 (by decide) ?_
        refine lv_bipush (v := 12) hx hb dX12_misprint_54 (by decide) ?_
        refine lv_iload_n hx hb dX12_misprint_56 rfl (lv_at hl 2 rfl) ?_
        refine lv_imul hx hb dX12_misprint_57 ?_
        refine lv_topi (fun x33 ex33 => ?_)
        have ex33 : x33.toInt = (12 : Int) * a1.toInt := by rw [ex33]; exact wk_mul (show (-2147483648) ≤ (12 : Int) * a1.toInt by omega) (show (12 : Int) * a1.toInt ≤ 2147483647 by omega)
        refine lv_iadd hx hb dX12_misprint_58 ?_
        refine lv_topi (fun x34 ex34 => ?_)
        have ex34 : x34.toInt = (168 : Int) + x33.toInt := by rw [ex34]; exact wk_add (show (-2147483648) ≤ (168 : Int) + x33.toInt by omega) (show (168 : Int) + x33.toInt ≤ 2147483647 by omega)
        refine lv_iload_n hx hb dX12_misprint_59 rfl (lv_at hl 3 rfl) ?_
        refine lv_iadd hx hb dX12_misprint_60 ?_
        refine lv_topi (fun x35 ex35 => ?_)
        have ex35 : x35.toInt = x34.toInt + a2.toInt := by rw [ex35]; exact wk_add (show (-2147483648) ≤ x34.toInt + a2.toInt by omega) (show x34.toInt + a2.toInt ≤ 2147483647 by omega)
        refine lv_iload_n hx hb dX12_misprint_61 rfl (lv_at hl 4 rfl) ?_
        refine tk_iastR hC hK hw hT kM_at12 (by decide) rfl (show 0 ≤ x35.toInt by omega) (show x35.toInt < 296 by omega) (tk_rgS rfl 168 1 48 0 3 (by decide +kernel) ⟨(x35.toInt - 168).toNat, by omega, show x35.toInt.toNat = 168 + 1 * (x35.toInt - 168).toNat by omega⟩ (show 0 ≤ a3.toInt by omega) (show a3.toInt ≤ 3 by omega)) dX12_misprint_62 (fun H locs w36 hw hT k38 c37 => ?_)
        have hF := hF.put kM_at12 (inE_of (a := 168) (b := 215) (by decide) (show 168 ≤ x35.toInt.toNat by omega) (show x35.toInt.toNat ≤ 215 by omega)) k38
        have c39 := k38.gi (Or.inr (show 4 ≠ x35.toInt.toNat by omega)) c9
        have c40 := k38.gi (Or.inr (show 1 ≠ x35.toInt.toNat by omega)) c18
        refine lv_iload hx hb dX12_misprint_63 (lv_at hl 0 rfl) ?_
        exact tk_iret hC hr hlocks hK ⟨hT, hF, (Or.inl ⟨(show 0 ≤ a1.toInt by omega), (show a1.toInt ≤ 3 by omega), (show 0 ≤ a2.toInt by omega), (show a2.toInt ≤ 11 by omega), (show 0 ≤ a3.toInt by omega), (show a3.toInt ≤ 3 by omega), ⟨x17, c40, (show 1 ≤ x17.toInt by omega), (show x17.toInt ≤ 12 by omega)⟩, ⟨x8, c39, (show 1 ≤ x8.toInt by omega), (show x8.toInt ≤ 4 by omega)⟩⟩)⟩ hw dX12_misprint_65
abbrev P_X12_shown_1 (ad : Nat → Nat) (cy : Nat → ClassId) (B : Int) (qr : Nat) (s1 : Int) (a1 : Int32) (a2 : Int32) (w0 : va_W) : Int32 → va_W → Prop := fun r u => w0 = u ∧ ((0 ≤ a1.toInt ∧ a1.toInt ≤ 3 ∧ 0 ≤ a2.toInt ∧ a2.toInt ≤ 11 ∧ (∃ y : Int32, gi u 12 1 = y ∧ 1 ≤ y.toInt ∧ y.toInt ≤ 12) ∧ (∃ y : Int32, gi u 12 4 = y ∧ 1 ≤ y.toInt ∧ y.toInt ≤ 4)) ∨ (r = (-1)))
set_option maxHeartbeats 4000000 in
set_option maxRecDepth 100000 in
theorem k_X12_shown_1 (l : Launch) (adK adV : Nat → Nat) (dC : Nat → ClassId) (dI : Nat → Nat → Nat) (cy : Nat → ClassId) (ad : Nat → Nat) (B : Int) (hB0 : 100000 ≤ B) (hB1 : B ≤ 1073741824) (qr : Nat) (s1 : Int)  (a1 : Int32) (a2 : Int32) (w0 : va_W) (sz : Nat) (hT : TW ksM ad cy B qr 12 w0)  : Met l yX12_shown wsX12_shown ({ frames := 2, cells := 0, slots := 0, locals := 33 }) (va_Pc [.ref (ad 0), .int a1, .int a2] (wpreS adK adV dC dI cy sz w0)) (va_Qi (P_X12_shown_1 ad cy B qr s1 a1 a2 w0) (fun u : va_W => wpost dC dI cy (va_A w0 sz) u) (va_A w0 sz)) 0 0 (va_A w0 sz) := by
  refine Met.ofW (cc := cX12_shown) (maxL := 3) (ret := (some .int)) (by decide) rfl ?_
  intro p e s m args below meth c s₁ Bk hml hv
  obtain ⟨rfl, ⟨hsz, hP, hK, hD0⟩, hE, hSR⟩ := hv
  have hx := Bk.exec
  have hb := Bk.bytes
  have hr := Bk.returns
  have hlocks := Bk.notSynchronized
  have hC : CallFix p m c cX12_shown 3 s _ wsX12_shown RX12 := ⟨hx, hb, hml, findClass_of_methodNamed Bk.named, atoms_spec (ws := wsX12_shown) Bk.pre⟩
  subst hsz
  have hD := hD0.self (sz := s.heap.size)
  generalize hAe : va_A w0 s.heap.size = A at hD hE ⊢
  have hA : ∀ q : Nat, s.heap.size ≤ q → A q := fun q h => by rw [← hAe]; exact Or.inr h
  have hw : Wd dC dI A s.heap s.heap [] w0 := ⟨hP, hD, va_S.rf⟩
  have hF : FE ksM ([] : List (Nat × Nat × Nat)) w0 w0 := FE.rf
  have hl := lv_entry ([.ref (ad 0), .int a1, .int a2]) (n := 3) (Nat.le_of_ble_eq_true rfl)
  rw [lg_entry_eq]
  generalize (lg_sl ([.ref (ad 0), .int a1, .int a2]) ++ List.replicate (3 - (lg_sl ([.ref (ad 0), .int a1, .int a2])).length) Slot.unset).toArray = ls at hl ⊢
  have hl : lv_has ls 3 [(0, .ref (ad 0)), (1, .int a1), (2, .int a2)] := hl
  generalize hloc : ([] : List Loc) = locs at hw ⊢
  have hinX12 : ∀ w ∈ u_ws RX12 TX12 42, w ∈ wsX12_shown := fun _ h => List.mem_cons_of_mem _ (List.mem_append_right _ (h))
  have J34 : ∀ (H : Heap) (locs : List Loc) (ls : Array Slot), Wd dC dI A s.heap H locs w0 → lv_has ls 3 [(0, .ref (ad 0)), (1, .int a1), (2, .int a2)] → W p l e ({ frames := 2, cells := 0, slots := 0, locals := 33 }) s m (List.toArray [.ref (ad 0), .int a1, .int a2]) below meth c H locs 0 0 (MQ below (va_Qi (P_X12_shown_1 ad cy B qr s1 a1 a2 w0) (fun u : va_W => wpost dC dI cy A u) A) (List.toArray [.ref (ad 0), .int a1, .int a2]) s 0 0 A) (F0 m 34 ls []) := by
    intro H locs ls hw hl
    refine lv_iconst (v := (-1)) hx hb dX12_shown_34 (by decide) ?_
    exact tk_iret hC hr hlocks hK ⟨rfl, (Or.inr rfl)⟩ hw dX12_shown_35
  refine lv_aload_n hx hb dX12_shown_0 rfl (lv_at hl 0 rfl) ?_
  refine lv_iload_n hx hb dX12_shown_1 rfl (lv_at hl 1 rfl) ?_
  refine tk_Vi hC hK hw hT hA hE hSR kM_at0 (by decide) rfl (k_X12_isMap_1 l adK adV dC dI cy ad B (by omega) (by omega) qr s1   a1 w0 s.heap.size hT ) (cwV 1 hC.2.2.2.2 gX12_shown_X12_isMap rfl rfl rfl (by decide +kernel) ⟨Nat.le_of_ble_eq_true rfl, Nat.le_of_ble_eq_true rfl⟩) rfl hl.1 rfl (Nat.le_of_ble_eq_true rfl) dX12_shown_2 (fun r1 w3 H locs hp2 hw => ?_)
  obtain ⟨rfl, hg9⟩ := hp2
  rcases hg9 with rfl | ⟨rfl, g5, g6, ⟨x7, c8, rx7, tx7⟩⟩
  · refine lv_if_eq (tgt := 34) hx hb dX12_shown_5 (by decide) (fun _ => ?_) (fun c => absurd (by decide) c)
    exact J34  H locs ls    hw   (lv_sub hl [0, 1, 2] rfl)
  · refine lv_if_eq (tgt := 34) hx hb dX12_shown_5 (by decide) (fun c => absurd c (by decide)) (fun _ => ?_)
    refine lv_aload_n hx hb dX12_shown_8 rfl (lv_at hl 0 rfl) ?_
    refine lv_iload_n hx hb dX12_shown_9 rfl (lv_at hl 2 rfl) ?_
    refine tk_Vi hC hK hw hT hA hE hSR kM_at0 (by decide) rfl (k_X12_isStreet_1 l adK adV dC dI cy ad B (by omega) (by omega) qr s1   a2 w0 H.size hT ) (cwV 1 hC.2.2.2.2 gX12_shown_X12_isStreet rfl rfl rfl (by decide +kernel) ⟨Nat.le_of_ble_eq_true rfl, Nat.le_of_ble_eq_true rfl⟩) rfl hl.1 rfl (Nat.le_of_ble_eq_true rfl) dX12_shown_10 (fun r10 w12 H locs hp11 hw => ?_)
    obtain ⟨rfl, hg18⟩ := hp11
    rcases hg18 with rfl | ⟨rfl, g14, g15, ⟨x16, c17, rx16, tx16⟩⟩
    · refine lv_if_eq (tgt := 34) hx hb dX12_shown_13 (by decide) (fun _ => ?_) (fun c => absurd (by decide) c)
      exact J34  H locs ls    hw   (lv_sub hl [0, 1, 2] rfl)
    · refine lv_if_eq (tgt := 34) hx hb dX12_shown_13 (by decide) (fun c => absurd c (by decide)) (fun _ => ?_)
      refine lv_aload_n hx hb dX12_shown_16 rfl (lv_at hl 0 rfl) ?_
      refine tk_getA hC hK hw hT hinX12 kM_at0 (by decide) rfl 26 (by decide) (List.mem_of_getElem? (i := 1) rfl) rfl rfl dX12_shown_17 ?_
      refine lv_sipush (v := 168) hx hb dX12_shown_20 (by decide) ?_
      refine lv_bipush (v := 12) hx hb dX12_shown_23 (by decide) ?_
      refine lv_iload_n hx hb dX12_shown_25 rfl (lv_at hl 1 rfl) ?_
      refine lv_imul hx hb dX12_shown_26 ?_
      refine lv_topi (fun x19 ex19 => ?_)
      have ex19 : x19.toInt = (12 : Int) * a1.toInt := by rw [ex19]; exact wk_mul (show (-2147483648) ≤ (12 : Int) * a1.toInt by omega) (show (12 : Int) * a1.toInt ≤ 2147483647 by omega)
      refine lv_iadd hx hb dX12_shown_27 ?_
      refine lv_topi (fun x20 ex20 => ?_)
      have ex20 : x20.toInt = (168 : Int) + x19.toInt := by rw [ex20]; exact wk_add (show (-2147483648) ≤ (168 : Int) + x19.toInt by omega) (show (168 : Int) + x19.toInt ≤ 2147483647 by omega)
      refine lv_iload_n hx hb dX12_shown_28 rfl (lv_at hl 2 rfl) ?_
      refine lv_iadd hx hb dX12_shown_29 ?_
      refine lv_topi (fun x21 ex21 => ?_)
      have ex21 : x21.toInt = x20.toInt + a2.toInt := by rw [ex21]; exact wk_add (show (-2147483648) ≤ x20.toInt + a2.toInt by omega) (show x20.toInt + a2.toInt ≤ 2147483647 by omega)
      refine tk_ialdR hC hK hw hT kM_at12 rfl (show 0 ≤ x21.toInt by omega) (show x21.toInt < 296 by omega) dX12_shown_30 (fun x22 c23 Ex22 => ?_)
      have c23 : gi w0 12 (12 * a1.toInt + 1 * a2.toInt + 168).toNat = x22 := (congrArg (gi w0 12) (congrArg Int.toNat (show 12 * a1.toInt + 1 * a2.toInt + 168 = x21.toInt by omega))).trans c23
      refine lv_goto (tgt := 35) hx hb dX12_shown_31 (by decide) ?_
      exact tk_iret hC hr hlocks hK ⟨rfl, (Or.inl ⟨(show 0 ≤ a1.toInt by omega), (show a1.toInt ≤ 3 by omega), (show 0 ≤ a2.toInt by omega), (show a2.toInt ≤ 11 by omega), ⟨x16, c17, (show 1 ≤ x16.toInt by omega), (show x16.toInt ≤ 12 by omega)⟩, ⟨x7, c8, (show 1 ≤ x7.toInt by omega), (show x7.toInt ≤ 4 by omega)⟩⟩)⟩ hw dX12_shown_35
abbrev P_X12_in_13 (ad : Nat → Nat) (cy : Nat → ClassId) (B : Int) (qr : Nat) (s1 : Int) (a0 : Int64) (w0 : va_W) : Int32 → va_W → Prop := fun r u => w0 = u ∧ ((r = 0) ∨ (r = 1 ∧ 0 ≤ a0.toInt ∧ a0.toInt ≤ 1))
set_option maxHeartbeats 4000000 in
set_option maxRecDepth 100000 in
theorem k_X12_in_13 (l : Launch) (adK adV : Nat → Nat) (dC : Nat → ClassId) (dI : Nat → Nat → Nat) (cy : Nat → ClassId) (ad : Nat → Nat) (B : Int) (hB0 : 100000 ≤ B) (hB1 : B ≤ 1073741824) (qr : Nat) (s1 : Int)  (a0 : Int64) (ra0 : (-2147483648) ≤ a0.toInt) (ta0 : a0.toInt ≤ 2147483647) (w0 : va_W) (sz : Nat) (hT : TW ksM ad cy B qr 12 w0)  : Met l yX12_in wsX12_in ({ frames := 1, cells := 0, slots := 0, locals := 12 }) (va_Pc [.long a0, .long 0, .long 1] (wpreS adK adV dC dI cy sz w0)) (va_Qi (P_X12_in_13 ad cy B qr s1 a0 w0) (fun u : va_W => wpost dC dI cy (va_A w0 sz) u) (va_A w0 sz)) 0 0 (va_A w0 sz) := by
  refine Met.ofW (cc := cX12_in) (maxL := 6) (ret := (some .boolean)) (by decide) rfl ?_
  intro p e s m args below meth c s₁ Bk hml hv
  obtain ⟨rfl, ⟨hsz, hP, hK, hD0⟩, hE, hSR⟩ := hv
  have hx := Bk.exec
  have hb := Bk.bytes
  have hr := Bk.returns
  have hlocks := Bk.notSynchronized
  have hC : CallFix p m c cX12_in 6 s _ wsX12_in RX12 := ⟨hx, hb, hml, findClass_of_methodNamed Bk.named, atoms_spec (ws := wsX12_in) Bk.pre⟩
  subst hsz
  have hD := hD0.self (sz := s.heap.size)
  generalize hAe : va_A w0 s.heap.size = A at hD hE ⊢
  have hA : ∀ q : Nat, s.heap.size ≤ q → A q := fun q h => by rw [← hAe]; exact Or.inr h
  have hw : Wd dC dI A s.heap s.heap [] w0 := ⟨hP, hD, va_S.rf⟩
  have hF : FE ksM ([] : List (Nat × Nat × Nat)) w0 w0 := FE.rf
  have hl := lv_entry ([.long a0, .long 0, .long 1]) (n := 6) (Nat.le_of_ble_eq_true rfl)
  rw [lg_entry_eq]
  generalize (lg_sl ([.long a0, .long 0, .long 1]) ++ List.replicate (6 - (lg_sl ([.long a0, .long 0, .long 1])).length) Slot.unset).toArray = ls at hl ⊢
  have hl : lv_has ls 6 [(0, .long a0), (2, .long 0), (4, .long 1)] := hl
  generalize hloc : ([] : List Loc) = locs at hw ⊢
  have J17 : ∀ (H : Heap) (locs : List Loc) (ls : Array Slot), (-2147483648) ≤ a0.toInt → a0.toInt ≤ 2147483647 → Wd dC dI A s.heap H locs w0 → lv_has ls 6 [(0, .long a0), (2, .long 0), (4, .long 1)] → W p l e ({ frames := 1, cells := 0, slots := 0, locals := 12 }) s m (List.toArray [.long a0, .long 0, .long 1]) below meth c H locs 0 0 (MQ below (va_Qi (P_X12_in_13 ad cy B qr s1 a0 w0) (fun u : va_W => wpost dC dI cy A u) A) (List.toArray [.long a0, .long 0, .long 1]) s 0 0 A) (F0 m 17 ls []) := by
    intro H locs ls r1 t2 hw hl
    refine lv_iconst (v := 0) hx hb dX12_in_17 (by decide) ?_
    exact tk_zret hC hr rfl hlocks hK ⟨rfl, (Or.inl rfl)⟩ hw dX12_in_18
  refine lv_lload_n hx hb dX12_in_0 rfl (lv_at hl 0 rfl) ?_
  refine lv_lload_n hx hb dX12_in_1 rfl (lv_at hl 1 rfl) ?_
  refine W.lcmp hx hb dX12_in_2 ?_
  refine lv_if_lt (tgt := 17) hx hb dX12_in_3 (by decide) (fun c3 => ?_) (fun c3 => ?_)
  · have c3 : a0.toInt < (0 : Int) := wk_cltT c3
    exact J17  s.heap locs ls  (show (-2147483648) ≤ a0.toInt by omega) (show a0.toInt ≤ 2147483647 by omega)  hw   (lv_sub hl [0, 1, 2] rfl)
  · have c3 : (0 : Int) ≤ a0.toInt := wk_cltF c3
    refine lv_lload_n hx hb dX12_in_6 rfl (lv_at hl 0 rfl) ?_
    refine lv_lload hx hb dX12_in_7 (lv_at hl 2 rfl) ?_
    refine W.lcmp hx hb dX12_in_9 ?_
    refine lv_if_gt (tgt := 17) hx hb dX12_in_10 (by decide) (fun c4 => ?_) (fun c4 => ?_)
    · have c4 : (1 : Int) < a0.toInt := wk_cgtT c4
      exact J17  s.heap locs ls  (show (-2147483648) ≤ a0.toInt by omega) (show a0.toInt ≤ 2147483647 by omega)  hw   (lv_sub hl [0, 1, 2] rfl)
    · have c4 : a0.toInt ≤ (1 : Int) := wk_cgtF c4
      refine lv_iconst (v := 1) hx hb dX12_in_13 (by decide) ?_
      refine lv_goto (tgt := 18) hx hb dX12_in_14 (by decide) ?_
      exact tk_zret hC hr rfl hlocks hK ⟨rfl, (Or.inr ⟨rfl, (show 0 ≤ a0.toInt by omega), (show a0.toInt ≤ 1 by omega)⟩)⟩ hw dX12_in_18
abbrev P_X12_isOf_3 (ad : Nat → Nat) (cy : Nat → ClassId) (B : Int) (qr : Nat) (s1 : Int) (a0 : Int32) (a1 : Int32) (w0 : va_W) : Int32 → va_W → Prop := fun r u => w0 = u ∧ ((r = 0 ∧ (¬ mOf a0 a1)) ∨ (r = 1 ∧ (mOf a0 a1)))
set_option maxHeartbeats 4000000 in
set_option maxRecDepth 100000 in
theorem k_X12_isOf_3 (l : Launch) (adK adV : Nat → Nat) (dC : Nat → ClassId) (dI : Nat → Nat → Nat) (cy : Nat → ClassId) (ad : Nat → Nat) (B : Int) (hB0 : 100000 ≤ B) (hB1 : B ≤ 1073741824) (qr : Nat) (s1 : Int)  (a0 : Int32) (a1 : Int32) (ra1 : 0 ≤ a1.toInt) (ta1 : a1.toInt ≤ 1) (w0 : va_W) (sz : Nat) (hT : TW ksM ad cy B qr 12 w0)  : Met l yX12_isOf wsX12_isOf ({ frames := 1, cells := 0, slots := 0, locals := 12 }) (va_Pc [.int a0, .int a1] (wpreS adK adV dC dI cy sz w0)) (va_Qi (P_X12_isOf_3 ad cy B qr s1 a0 a1 w0) (fun u : va_W => wpost dC dI cy (va_A w0 sz) u) (va_A w0 sz)) 0 0 (va_A w0 sz) := by
  refine Met.ofW (cc := cX12_isOf) (maxL := 2) (ret := (some .boolean)) (by decide) rfl ?_
  intro p e s m args below meth c s₁ Bk hml hv
  obtain ⟨rfl, ⟨hsz, hP, hK, hD0⟩, hE, hSR⟩ := hv
  have hx := Bk.exec
  have hb := Bk.bytes
  have hr := Bk.returns
  have hlocks := Bk.notSynchronized
  have hC : CallFix p m c cX12_isOf 2 s _ wsX12_isOf RX12 := ⟨hx, hb, hml, findClass_of_methodNamed Bk.named, atoms_spec (ws := wsX12_isOf) Bk.pre⟩
  subst hsz
  have hD := hD0.self (sz := s.heap.size)
  generalize hAe : va_A w0 s.heap.size = A at hD hE ⊢
  have hA : ∀ q : Nat, s.heap.size ≤ q → A q := fun q h => by rw [← hAe]; exact Or.inr h
  have hw : Wd dC dI A s.heap s.heap [] w0 := ⟨hP, hD, va_S.rf⟩
  have hF : FE ksM ([] : List (Nat × Nat × Nat)) w0 w0 := FE.rf
  have hl := lv_entry ([.int a0, .int a1]) (n := 2) (Nat.le_of_ble_eq_true rfl)
  rw [lg_entry_eq]
  generalize (lg_sl ([.int a0, .int a1]) ++ List.replicate (2 - (lg_sl ([.int a0, .int a1])).length) Slot.unset).toArray = ls at hl ⊢
  have hl : lv_has ls 2 [(0, .int a0), (1, .int a1)] := hl
  generalize hloc : ([] : List Loc) = locs at hw ⊢
  refine lv_iload_n hx hb dX12_isOf_0 rfl (lv_at hl 0 rfl) ?_
  refine lv_iload_n hx hb dX12_isOf_1 rfl (lv_at hl 1 rfl) ?_
  refine lv_ishr hx hb dX12_isOf_2 ?_
  refine lv_topi (fun x1 ex1 => ?_)
  refine lv_iconst (v := 1) hx hb dX12_isOf_3 (by decide) ?_
  refine lv_iand hx hb dX12_isOf_4 ?_
  refine lv_topi (fun x2 ex2 => ?_)
  have bx2 : 0 ≤ x2.toInt ∧ x2.toInt ≤ (1 : Int) := by rw [ex2]; exact wk_and (by decide)
  refine lv_iconst (v := 1) hx hb dX12_isOf_5 (by decide) ?_
  refine lv_icmp_ne (tgt := 13) hx hb dX12_isOf_6 (by decide) (fun c3 => ?_) (fun c3 => ?_)
  · have c3 : ¬ x2.toInt = (1 : Int) := wk_eqF c3
    refine lv_iconst (v := 0) hx hb dX12_isOf_13 (by decide) ?_
    exact tk_zret hC hr rfl hlocks hK ⟨rfl, (Or.inl ⟨rfl, (by unfold mOf; rw [← ex1, ← ex2]; omega)⟩)⟩ hw dX12_isOf_14
  · have c3 : x2.toInt = (1 : Int) := wk_eq.mp c3
    refine lv_iconst (v := 1) hx hb dX12_isOf_9 (by decide) ?_
    refine lv_goto (tgt := 14) hx hb dX12_isOf_10 (by decide) ?_
    exact tk_zret hC hr rfl hlocks hK ⟨rfl, (Or.inr ⟨rfl, (by unfold mOf; rw [← ex1, ← ex2]; omega)⟩)⟩ hw dX12_isOf_14
abbrev P_X12_streetOf_5 (ad : Nat → Nat) (cy : Nat → ClassId) (B : Int) (qr : Nat) (s1 : Int) (a1 : Int32) (a2 : Int32) (w0 : va_W) : Int32 → va_W → Prop := fun r u => w0 = u ∧ ((0 ≤ r.toInt ∧ r.toInt ≤ 9 ∧ gi u 12 (10 * a1.toInt + 1 * a2.toInt + 10).toNat = r))
set_option maxHeartbeats 4000000 in
set_option maxRecDepth 100000 in
theorem k_X12_streetOf_5 (l : Launch) (adK adV : Nat → Nat) (dC : Nat → ClassId) (dI : Nat → Nat → Nat) (cy : Nat → ClassId) (ad : Nat → Nat) (B : Int) (hB0 : 100000 ≤ B) (hB1 : B ≤ 1073741824) (qr : Nat) (s1 : Int)  (a1 : Int32) (ra1 : 0 ≤ a1.toInt) (ta1 : a1.toInt ≤ 11) (a2 : Int32) (ra2 : 0 ≤ a2.toInt) (ta2 : a2.toInt ≤ 1) (w0 : va_W) (sz : Nat) (hT : TW ksM ad cy B qr 12 w0)  : Met l yX12_streetOf wsX12_streetOf ({ frames := 1, cells := 0, slots := 0, locals := 12 }) (va_Pc [.ref (ad 0), .int a1, .int a2] (wpreS adK adV dC dI cy sz w0)) (va_Qi (P_X12_streetOf_5 ad cy B qr s1 a1 a2 w0) (fun u : va_W => wpost dC dI cy (va_A w0 sz) u) (va_A w0 sz)) 0 0 (va_A w0 sz) := by
  refine Met.ofW (cc := cX12_streetOf) (maxL := 3) (ret := (some .int)) (by decide) rfl ?_
  intro p e s m args below meth c s₁ Bk hml hv
  obtain ⟨rfl, ⟨hsz, hP, hK, hD0⟩, hE, hSR⟩ := hv
  have hx := Bk.exec
  have hb := Bk.bytes
  have hr := Bk.returns
  have hlocks := Bk.notSynchronized
  have hC : CallFix p m c cX12_streetOf 3 s _ wsX12_streetOf RX12 := ⟨hx, hb, hml, findClass_of_methodNamed Bk.named, atoms_spec (ws := wsX12_streetOf) Bk.pre⟩
  subst hsz
  have hD := hD0.self (sz := s.heap.size)
  generalize hAe : va_A w0 s.heap.size = A at hD hE ⊢
  have hA : ∀ q : Nat, s.heap.size ≤ q → A q := fun q h => by rw [← hAe]; exact Or.inr h
  have hw : Wd dC dI A s.heap s.heap [] w0 := ⟨hP, hD, va_S.rf⟩
  have hF : FE ksM ([] : List (Nat × Nat × Nat)) w0 w0 := FE.rf
  have hl := lv_entry ([.ref (ad 0), .int a1, .int a2]) (n := 3) (Nat.le_of_ble_eq_true rfl)
  rw [lg_entry_eq]
  generalize (lg_sl ([.ref (ad 0), .int a1, .int a2]) ++ List.replicate (3 - (lg_sl ([.ref (ad 0), .int a1, .int a2])).length) Slot.unset).toArray = ls at hl ⊢
  have hl : lv_has ls 3 [(0, .ref (ad 0)), (1, .int a1), (2, .int a2)] := hl
  generalize hloc : ([] : List Loc) = locs at hw ⊢
  have hinX12 : ∀ w ∈ u_ws RX12 TX12 42, w ∈ wsX12_streetOf := fun _ h => List.mem_cons_of_mem _ (List.mem_append_right _ (h))
  refine lv_aload_n hx hb dX12_streetOf_0 rfl (lv_at hl 0 rfl) ?_
  refine tk_getA hC hK hw hT hinX12 kM_at0 (by decide) rfl 26 (by decide) (List.mem_of_getElem? (i := 1) rfl) rfl rfl dX12_streetOf_1 ?_
  refine lv_bipush (v := 10) hx hb dX12_streetOf_4 (by decide) ?_
  refine lv_bipush (v := 10) hx hb dX12_streetOf_6 (by decide) ?_
  refine lv_iload_n hx hb dX12_streetOf_8 rfl (lv_at hl 1 rfl) ?_
  refine lv_imul hx hb dX12_streetOf_9 ?_
  refine lv_topi (fun x1 ex1 => ?_)
  have ex1 : x1.toInt = (10 : Int) * a1.toInt := by rw [ex1]; exact wk_mul (show (-2147483648) ≤ (10 : Int) * a1.toInt by omega) (show (10 : Int) * a1.toInt ≤ 2147483647 by omega)
  refine lv_iadd hx hb dX12_streetOf_10 ?_
  refine lv_topi (fun x2 ex2 => ?_)
  have ex2 : x2.toInt = (10 : Int) + x1.toInt := by rw [ex2]; exact wk_add (show (-2147483648) ≤ (10 : Int) + x1.toInt by omega) (show (10 : Int) + x1.toInt ≤ 2147483647 by omega)
  refine lv_iload_n hx hb dX12_streetOf_11 rfl (lv_at hl 2 rfl) ?_
  refine lv_iadd hx hb dX12_streetOf_12 ?_
  refine lv_topi (fun x3 ex3 => ?_)
  have ex3 : x3.toInt = x2.toInt + a2.toInt := by rw [ex3]; exact wk_add (show (-2147483648) ≤ x2.toInt + a2.toInt by omega) (show x2.toInt + a2.toInt ≤ 2147483647 by omega)
  refine tk_ialdR hC hK hw hT kM_at12 rfl (show 0 ≤ x3.toInt by omega) (show x3.toInt < 296 by omega) dX12_streetOf_13 (fun x4 c5 Ex4 => ?_)
  have c5 : gi w0 12 (10 * a1.toInt + 1 * a2.toInt + 10).toNat = x4 := (congrArg (gi w0 12) (congrArg Int.toNat (show 10 * a1.toInt + 1 * a2.toInt + 10 = x3.toInt by omega))).trans c5
  have bx4 := tk_rgI rfl 10 1 112 0 9 (by decide +kernel) ⟨(x3.toInt - 10).toNat, by omega, show x3.toInt.toNat = 10 + 1 * (x3.toInt - 10).toNat by omega⟩ Ex4
  exact tk_iret hC hr hlocks hK ⟨rfl, ⟨(show 0 ≤ x4.toInt by omega), (show x4.toInt ≤ 9 by omega), c5⟩⟩ hw dX12_streetOf_14
abbrev P_X12_streetOf_6 (ad : Nat → Nat) (cy : Nat → ClassId) (B : Int) (qr : Nat) (s1 : Int) (a1 : Int32) (w0 : va_W) : Int32 → va_W → Prop := fun r u => w0 = u ∧ ((0 ≤ r.toInt ∧ r.toInt ≤ 9 ∧ gi u 12 (10 * a1.toInt + 12).toNat = r))
set_option maxHeartbeats 4000000 in
set_option maxRecDepth 100000 in
theorem k_X12_streetOf_6 (l : Launch) (adK adV : Nat → Nat) (dC : Nat → ClassId) (dI : Nat → Nat → Nat) (cy : Nat → ClassId) (ad : Nat → Nat) (B : Int) (hB0 : 100000 ≤ B) (hB1 : B ≤ 1073741824) (qr : Nat) (s1 : Int)  (a1 : Int32) (ra1 : 0 ≤ a1.toInt) (ta1 : a1.toInt ≤ 11) (w0 : va_W) (sz : Nat) (hT : TW ksM ad cy B qr 12 w0)  : Met l yX12_streetOf wsX12_streetOf ({ frames := 1, cells := 0, slots := 0, locals := 12 }) (va_Pc [.ref (ad 0), .int a1, .int 2] (wpreS adK adV dC dI cy sz w0)) (va_Qi (P_X12_streetOf_6 ad cy B qr s1 a1 w0) (fun u : va_W => wpost dC dI cy (va_A w0 sz) u) (va_A w0 sz)) 0 0 (va_A w0 sz) := by
  refine Met.ofW (cc := cX12_streetOf) (maxL := 3) (ret := (some .int)) (by decide) rfl ?_
  intro p e s m args below meth c s₁ Bk hml hv
  obtain ⟨rfl, ⟨hsz, hP, hK, hD0⟩, hE, hSR⟩ := hv
  have hx := Bk.exec
  have hb := Bk.bytes
  have hr := Bk.returns
  have hlocks := Bk.notSynchronized
  have hC : CallFix p m c cX12_streetOf 3 s _ wsX12_streetOf RX12 := ⟨hx, hb, hml, findClass_of_methodNamed Bk.named, atoms_spec (ws := wsX12_streetOf) Bk.pre⟩
  subst hsz
  have hD := hD0.self (sz := s.heap.size)
  generalize hAe : va_A w0 s.heap.size = A at hD hE ⊢
  have hA : ∀ q : Nat, s.heap.size ≤ q → A q := fun q h => by rw [← hAe]; exact Or.inr h
  have hw : Wd dC dI A s.heap s.heap [] w0 := ⟨hP, hD, va_S.rf⟩
  have hF : FE ksM ([] : List (Nat × Nat × Nat)) w0 w0 := FE.rf
  have hl := lv_entry ([.ref (ad 0), .int a1, .int 2]) (n := 3) (Nat.le_of_ble_eq_true rfl)
  rw [lg_entry_eq]
  generalize (lg_sl ([.ref (ad 0), .int a1, .int 2]) ++ List.replicate (3 - (lg_sl ([.ref (ad 0), .int a1, .int 2])).length) Slot.unset).toArray = ls at hl ⊢
  have hl : lv_has ls 3 [(0, .ref (ad 0)), (1, .int a1), (2, .int 2)] := hl
  generalize hloc : ([] : List Loc) = locs at hw ⊢
  have hinX12 : ∀ w ∈ u_ws RX12 TX12 42, w ∈ wsX12_streetOf := fun _ h => List.mem_cons_of_mem _ (List.mem_append_right _ (h))
  refine lv_aload_n hx hb dX12_streetOf_0 rfl (lv_at hl 0 rfl) ?_
  refine tk_getA hC hK hw hT hinX12 kM_at0 (by decide) rfl 26 (by decide) (List.mem_of_getElem? (i := 1) rfl) rfl rfl dX12_streetOf_1 ?_
  refine lv_bipush (v := 10) hx hb dX12_streetOf_4 (by decide) ?_
  refine lv_bipush (v := 10) hx hb dX12_streetOf_6 (by decide) ?_
  refine lv_iload_n hx hb dX12_streetOf_8 rfl (lv_at hl 1 rfl) ?_
  refine lv_imul hx hb dX12_streetOf_9 ?_
  refine lv_topi (fun x1 ex1 => ?_)
  have ex1 : x1.toInt = (10 : Int) * a1.toInt := by rw [ex1]; exact wk_mul (show (-2147483648) ≤ (10 : Int) * a1.toInt by omega) (show (10 : Int) * a1.toInt ≤ 2147483647 by omega)
  refine lv_iadd hx hb dX12_streetOf_10 ?_
  refine lv_topi (fun x2 ex2 => ?_)
  have ex2 : x2.toInt = (10 : Int) + x1.toInt := by rw [ex2]; exact wk_add (show (-2147483648) ≤ (10 : Int) + x1.toInt by omega) (show (10 : Int) + x1.toInt ≤ 2147483647 by omega)
  refine lv_iload_n hx hb dX12_streetOf_11 rfl (lv_at hl 2 rfl) ?_
  refine lv_iadd hx hb dX12_streetOf_12 ?_
  refine lv_topi (fun x3 ex3 => ?_)
  have ex3 : x3.toInt = x2.toInt + (2 : Int) := by rw [ex3]; exact wk_add (show (-2147483648) ≤ x2.toInt + (2 : Int) by omega) (show x2.toInt + (2 : Int) ≤ 2147483647 by omega)
  refine tk_ialdR hC hK hw hT kM_at12 rfl (show 0 ≤ x3.toInt by omega) (show x3.toInt < 296 by omega) dX12_streetOf_13 (fun x4 c5 Ex4 => ?_)
  have c5 : gi w0 12 (10 * a1.toInt + 12).toNat = x4 := (congrArg (gi w0 12) (congrArg Int.toNat (show 10 * a1.toInt + 12 = x3.toInt by omega))).trans c5
  have bx4 := tk_rgI rfl 12 10 12 0 9 (by decide +kernel) ⟨(a1.toInt - 0).toNat, by omega, show x3.toInt.toNat = 12 + 10 * (a1.toInt - 0).toNat by omega⟩ Ex4
  exact tk_iret hC hr hlocks hK ⟨rfl, ⟨(show 0 ≤ x4.toInt by omega), (show x4.toInt ≤ 9 by omega), c5⟩⟩ hw dX12_streetOf_14
abbrev P_X12_spreads_1 (ad : Nat → Nat) (cy : Nat → ClassId) (B : Int) (qr : Nat) (s1 : Int) (a1 : Int32) (w0 : va_W) : va_W → Prop := fun u => TW ksM ad cy B qr 12 u ∧ FE ksM [(73, 0, 10)] w0 u ∧ ((True))
set_option maxHeartbeats 4000000 in
set_option maxRecDepth 100000 in
theorem k_X12_spreads_1 (l : Launch) (adK adV : Nat → Nat) (dC : Nat → ClassId) (dI : Nat → Nat → Nat) (cy : Nat → ClassId) (ad : Nat → Nat) (B : Int) (hB0 : 100000 ≤ B) (hB1 : B ≤ 1073741824) (qr : Nat) (s1 : Int)  (a1 : Int32) (ra1 : 0 ≤ a1.toInt) (ta1 : a1.toInt ≤ 9) (w0 : va_W) (sz : Nat) (hT : TW ksM ad cy B qr 12 w0)  : Met l yX12_spreads wsX12_spreads ({ frames := 2, cells := 0, slots := 0, locals := 34 }) (va_Pc [.ref (ad 0), .int a1] (wpreS adK adV dC dI cy sz w0)) (va_Qv (P_X12_spreads_1 ad cy B qr s1 a1 w0) (fun u : va_W => wpost dC dI cy (va_A w0 sz) u) (va_A w0 sz)) 0 0 (va_A w0 sz) := by
  refine Met.ofW (cc := cX12_spreads) (maxL := 7) (ret := none) (by decide) rfl ?_
  intro p e s m args below meth c s₁ Bk hml hv
  obtain ⟨rfl, ⟨hsz, hP, hK, hD0⟩, hE, hSR⟩ := hv
  have hx := Bk.exec
  have hb := Bk.bytes
  have hr := Bk.returns
  have hlocks := Bk.notSynchronized
  have hC : CallFix p m c cX12_spreads 7 s _ wsX12_spreads RX12 := ⟨hx, hb, hml, findClass_of_methodNamed Bk.named, atoms_spec (ws := wsX12_spreads) Bk.pre⟩
  subst hsz
  have hD := hD0.self (sz := s.heap.size)
  generalize hAe : va_A w0 s.heap.size = A at hD hE ⊢
  have hA : ∀ q : Nat, s.heap.size ≤ q → A q := fun q h => by rw [← hAe]; exact Or.inr h
  have hw : Wd dC dI A s.heap s.heap [] w0 := ⟨hP, hD, va_S.rf⟩
  have hF : FE ksM [(73, 0, 10)] w0 w0 := FE.rf
  have hl := lv_entry ([.ref (ad 0), .int a1]) (n := 7) (Nat.le_of_ble_eq_true rfl)
  rw [lg_entry_eq]
  generalize (lg_sl ([.ref (ad 0), .int a1]) ++ List.replicate (7 - (lg_sl ([.ref (ad 0), .int a1])).length) Slot.unset).toArray = ls at hl ⊢
  have hl : lv_has ls 7 [(0, .ref (ad 0)), (1, .int a1)] := hl
  generalize hloc : ([] : List Loc) = locs at hw ⊢
  have hinX12 : ∀ w ∈ u_ws RX12 TX12 42, w ∈ wsX12_spreads := fun _ h => List.mem_cons_of_mem _ (List.mem_append_right _ (h))
  have L34 : ∀ (n34 : Nat) (v34_2 : Int32) (H : Heap) (locs : List Loc) (ls : Array Slot) (w1 : va_W), 0 ≤ a1.toInt → a1.toInt ≤ 9 → 0 ≤ v34_2.toInt → v34_2.toInt ≤ 1 → (0 ≤ (sumG 14 10 w1)) → (2 * (sumG 14 10 w1) + v34_2.toInt).toNat < n34 → Wd dC dI A s.heap H locs w1 → TW ksM ad cy B qr 12 w1 → FE ksM [(73, 0, 10)] w0 w1 → lv_has ls 7 [(0, .ref (ad 0)), (1, .int a1), (2, .int v34_2)] → W p l e ({ frames := 2, cells := 0, slots := 0, locals := 34 }) s m (List.toArray [.ref (ad 0), .int a1]) below meth c H locs 0 0 (MQ below (va_Qv (P_X12_spreads_1 ad cy B qr s1 a1 w0) (fun u : va_W => wpost dC dI cy A u) A) (List.toArray [.ref (ad 0), .int a1]) s 0 0 A) (F0 m 34 ls []) := by
    intro n34
    induction n34 with
    | zero => intro v34_2 H locs ls w1 r2 t3 r4 t5 hcr34_0 hm34 hw hT hF hl; omega
    | succ n34 ih34 =>
      intro v34_2 H locs ls w1 r2 t3 r4 t5 hcr34_0 hm34 hw hT hF hl
      have L42 : ∀ (n42 : Nat) (v42_2 : Int32) (v42_3 : Int32) (H : Heap) (locs : List Loc) (ls : Array Slot) (w6 : va_W), 0 ≤ a1.toInt → a1.toInt ≤ 9 → 0 ≤ v42_2.toInt → v42_2.toInt ≤ 1 → 0 ≤ v42_3.toInt → v42_3.toInt ≤ 12 → ((sumG 14 10 w6) + v42_2.toInt ≤ (sumG 14 10 w1)) → (12 - v42_3.toInt).toNat < n42 → Wd dC dI A s.heap H locs w6 → TW ksM ad cy B qr 12 w6 → FE ksM [(73, 0, 10)] w0 w6 → lv_has ls 7 [(0, .ref (ad 0)), (1, .int a1), (2, .int v42_2), (3, .int v42_3)] → W p l e ({ frames := 2, cells := 0, slots := 0, locals := 34 }) s m (List.toArray [.ref (ad 0), .int a1]) below meth c H locs 0 0 (MQ below (va_Qv (P_X12_spreads_1 ad cy B qr s1 a1 w0) (fun u : va_W => wpost dC dI cy A u) A) (List.toArray [.ref (ad 0), .int a1]) s 0 0 A) (F0 m 42 ls []) := by
        intro n42
        induction n42 with
        | zero => intro v42_2 v42_3 H locs ls w6 r7 t8 r9 t10 r11 t12 hcr42_0 hm42 hw hT hF hl; omega
        | succ n42 ih42 =>
          intro v42_2 v42_3 H locs ls w6 r7 t8 r9 t10 r11 t12 hcr42_0 hm42 hw hT hF hl
          have L55 : ∀ (n55 : Nat) (v55_2 : Int32) (v55_4 : Int32) (f55_12_1 : Int32) (H : Heap) (locs : List Loc) (ls : Array Slot) (w13 : va_W), 0 ≤ a1.toInt → a1.toInt ≤ 9 → 0 ≤ v55_2.toInt → v55_2.toInt ≤ 1 → 0 ≤ v42_3.toInt → v42_3.toInt ≤ 11 → 0 ≤ v55_4.toInt → v55_4.toInt ≤ 2 → 1 ≤ f55_12_1.toInt → f55_12_1.toInt ≤ 12 → ((sumG 14 10 w13) + v55_2.toInt ≤ (sumG 14 10 w1)) → (2 - v55_4.toInt).toNat < n55 → Wd dC dI A s.heap H locs w13 → TW ksM ad cy B qr 12 w13 → FE ksM [(73, 0, 10)] w0 w13 → gi w13 12 1 = f55_12_1 → lv_has ls 7 [(0, .ref (ad 0)), (1, .int a1), (2, .int v55_2), (3, .int v42_3), (4, .int v55_4)] → W p l e ({ frames := 2, cells := 0, slots := 0, locals := 34 }) s m (List.toArray [.ref (ad 0), .int a1]) below meth c H locs 0 0 (MQ below (va_Qv (P_X12_spreads_1 ad cy B qr s1 a1 w0) (fun u : va_W => wpost dC dI cy A u) A) (List.toArray [.ref (ad 0), .int a1]) s 0 0 A) (F0 m 55 ls []) := by
            intro n55
            induction n55 with
            | zero => intro v55_2 v55_4 f55_12_1 H locs ls w13 r14 t15 r16 t17 r18 t19 r20 t21 r22 t23 hcr55_0 hm55 hw hT hF c24 hl; omega
            | succ n55 ih55 =>
              intro v55_2 v55_4 f55_12_1 H locs ls w13 r14 t15 r16 t17 r18 t19 r20 t21 r22 t23 hcr55_0 hm55 hw hT hF c24 hl
              have J133 : ∀ (v133_2 : Int32) (v133_5 : Int32) (v133_6 : Int32) (f133_12__10_v42_3_toInt_1_v55_4_toInt_10_toNat : Int32) (f133_12__10_v42_3_toInt_12_toNat : Int32) (H : Heap) (locs : List Loc) (ls : Array Slot) (w25 : va_W), 0 ≤ a1.toInt → a1.toInt ≤ 9 → 0 ≤ v133_2.toInt → v133_2.toInt ≤ 1 → 0 ≤ v42_3.toInt → v42_3.toInt ≤ 11 → 0 ≤ v55_4.toInt → v55_4.toInt ≤ 1 → 0 ≤ v133_5.toInt → v133_5.toInt ≤ 9 → 0 ≤ v133_6.toInt → v133_6.toInt ≤ 100000109 → 0 ≤ f133_12__10_v42_3_toInt_1_v55_4_toInt_10_toNat.toInt → f133_12__10_v42_3_toInt_1_v55_4_toInt_10_toNat.toInt ≤ 9 → 0 ≤ f133_12__10_v42_3_toInt_12_toNat.toInt → f133_12__10_v42_3_toInt_12_toNat.toInt ≤ 9 → 1 ≤ f55_12_1.toInt → f55_12_1.toInt ≤ 12 → ((sumG 14 10 w25) + v133_2.toInt ≤ (sumG 14 10 w1)) → Wd dC dI A s.heap H locs w25 → TW ksM ad cy B qr 12 w25 → FE ksM [(73, 0, 10)] w0 w25 → gi w25 12 (10 * v42_3.toInt + 1 * v55_4.toInt + 10).toNat = f133_12__10_v42_3_toInt_1_v55_4_toInt_10_toNat → gi w25 12 (10 * v42_3.toInt + 12).toNat = f133_12__10_v42_3_toInt_12_toNat → gi w25 12 1 = f55_12_1 → lv_has ls 7 [(0, .ref (ad 0)), (1, .int a1), (2, .int v133_2), (3, .int v42_3), (4, .int v55_4), (5, .int v133_5), (6, .int v133_6)] → W p l e ({ frames := 2, cells := 0, slots := 0, locals := 34 }) s m (List.toArray [.ref (ad 0), .int a1]) below meth c H locs 0 0 (MQ below (va_Qv (P_X12_spreads_1 ad cy B qr s1 a1 w0) (fun u : va_W => wpost dC dI cy A u) A) (List.toArray [.ref (ad 0), .int a1]) s 0 0 A) (F0 m 133 ls []) := by
                intro v133_2 v133_5 v133_6 f133_12__10_v42_3_toInt_1_v55_4_toInt_10_toNat f133_12__10_v42_3_toInt_12_toNat H locs ls w25 r26 t27 r28 t29 r30 t31 r32 t33 r34 t35 r36 t37 r38 t39 r41 t42 r44 t45 hcr133_0 hw hT hF c40 c43 c46 hl
                obtain ⟨x47, ex47⟩ : ∃ y : Int32, y = v55_4 + Int32.ofInt 1 := ⟨_, rfl⟩
                refine lv_iinc (v := x47) (lv' := [(4, .int x47), (0, .ref (ad 0)), (1, .int a1), (2, .int v133_2), (3, .int v42_3), (5, .int v133_5), (6, .int v133_6)]) hx hb dX12_spreads_133 hl (k := 4) rfl ex47.symm (by decide) rfl (fun ls hl => ?_)
                have ex47 : x47.toInt = v55_4.toInt + 1 := by rw [ex47]; exact wk_add (y := 1) (show -2147483648 ≤ v55_4.toInt + 1 by omega) (show v55_4.toInt + 1 ≤ 2147483647 by omega)
                refine lv_goto (tgt := 55) hx hb dX12_spreads_136 (by decide) ?_
                have gb48 : 0 ≤ sumG 14 10 w25 ∧ sumG 14 10 w25 ≤ 1000001000 := hT.sum (lo := 0) (hi := 100000100) kM_at14 rfl (by decide) rfl
                exact ih55 v133_2 x47 f55_12_1 H locs ls w25 (show 0 ≤ a1.toInt by omega) (show a1.toInt ≤ 9 by omega) (show 0 ≤ v133_2.toInt by omega) (show v133_2.toInt ≤ 1 by omega) (show 0 ≤ v42_3.toInt by omega) (show v42_3.toInt ≤ 11 by omega) (show 0 ≤ x47.toInt by omega) (show x47.toInt ≤ 2 by omega) (show 1 ≤ f55_12_1.toInt by omega) (show f55_12_1.toInt ≤ 12 by omega) (show (sumG 14 10 w25) + v133_2.toInt ≤ (sumG 14 10 w1) by omega) (show (2 - x47.toInt).toNat < n55 by omega) hw hT hF c46 (lv_sub hl [1, 2, 3, 4, 0] rfl)
              refine lv_iload hx hb dX12_spreads_55 (lv_at hl 4 rfl) ?_
              refine lv_iconst (v := 2) hx hb dX12_spreads_57 (by decide) ?_
              refine lv_icmp_ge (tgt := 139) hx hb dX12_spreads_58 (by decide) (fun c49 => ?_) (fun c49 => ?_)
              · have c49 : (2 : Int) ≤ v55_4.toInt := wk_le.mp c49
                obtain ⟨x50, ex50⟩ : ∃ y : Int32, y = v42_3 + Int32.ofInt 1 := ⟨_, rfl⟩
                refine lv_iinc (v := x50) (lv' := [(3, .int x50), (0, .ref (ad 0)), (1, .int a1), (2, .int v55_2), (4, .int v55_4)]) hx hb dX12_spreads_139 hl (k := 3) rfl ex50.symm (by decide) rfl (fun ls hl => ?_)
                have ex50 : x50.toInt = v42_3.toInt + 1 := by rw [ex50]; exact wk_add (y := 1) (show -2147483648 ≤ v42_3.toInt + 1 by omega) (show v42_3.toInt + 1 ≤ 2147483647 by omega)
                refine lv_goto (tgt := 42) hx hb dX12_spreads_142 (by decide) ?_
                have gb51 : 0 ≤ sumG 14 10 w13 ∧ sumG 14 10 w13 ≤ 1000001000 := hT.sum (lo := 0) (hi := 100000100) kM_at14 rfl (by decide) rfl
                exact ih42 v55_2 x50 H locs ls w13 (show 0 ≤ a1.toInt by omega) (show a1.toInt ≤ 9 by omega) (show 0 ≤ v55_2.toInt by omega) (show v55_2.toInt ≤ 1 by omega) (show 0 ≤ x50.toInt by omega) (show x50.toInt ≤ 12 by omega) (show (sumG 14 10 w13) + v55_2.toInt ≤ (sumG 14 10 w1) by omega) (show (12 - x50.toInt).toNat < n42 by omega) hw hT hF  (lv_sub hl [1, 2, 3, 0] rfl)
              · have c49 : v55_4.toInt < (2 : Int) := wk_leF c49
                refine lv_aload_n hx hb dX12_spreads_61 rfl (lv_at hl 0 rfl) ?_
                refine lv_iload_n hx hb dX12_spreads_62 rfl (lv_at hl 3 rfl) ?_
                refine lv_iload hx hb dX12_spreads_63 (lv_at hl 4 rfl) ?_
                refine tk_Vi hC hK hw hT hA hE hSR kM_at0 (by decide) rfl (k_X12_streetOf_5 l adK adV dC dI cy ad B (by omega) (by omega) qr s1   v42_3 (show 0 ≤ v42_3.toInt by omega) (show v42_3.toInt ≤ 11 by omega) v55_4 (show 0 ≤ v55_4.toInt by omega) (show v55_4.toInt ≤ 1 by omega) w13 H.size hT ) (cwV 2 hC.2.2.2.2 gX12_spreads_X12_streetOf rfl rfl rfl (by decide +kernel) ⟨Nat.le_of_ble_eq_true rfl, Nat.le_of_ble_eq_true rfl⟩) rfl hl.1 rfl (Nat.le_of_ble_eq_true rfl) dX12_spreads_65 (fun r52 w54 H locs hp53 hw => ?_)
                obtain ⟨rfl, hg59⟩ := hp53
                obtain ⟨g56, g57, c58⟩ := hg59
                refine lv_istore (lv' := [(5, .int r52), (0, .ref (ad 0)), (1, .int a1), (2, .int v55_2), (3, .int v42_3), (4, .int v55_4)]) hx hb dX12_spreads_68 hl (by decide) rfl (fun ls hl => ?_)
                refine lv_aload_n hx hb dX12_spreads_70 rfl (lv_at hl 1 rfl) ?_
                refine tk_getA hC hK hw hT hinX12 kM_at0 (by decide) rfl 29 (by decide) (List.mem_of_getElem? (i := 1) rfl) rfl rfl dX12_spreads_71 ?_
                refine lv_aload_n hx hb dX12_spreads_74 rfl (lv_at hl 1 rfl) ?_
                refine lv_iload_n hx hb dX12_spreads_75 rfl (lv_at hl 4 rfl) ?_
                refine lv_iconst (v := 1) hx hb dX12_spreads_76 (by decide) ?_
                refine lv_iload hx hb dX12_spreads_77 (lv_at hl 5 rfl) ?_
                refine lv_isub hx hb dX12_spreads_79 ?_
                refine lv_topi (fun x60 ex60 => ?_)
                have ex60 : x60.toInt = (1 : Int) - v55_4.toInt := by rw [ex60]; exact wk_sub (show (-2147483648) ≤ (1 : Int) - v55_4.toInt by omega) (show (1 : Int) - v55_4.toInt ≤ 2147483647 by omega)
                refine tk_Vi hC hK hw hT hA hE hSR kM_at0 (by decide) rfl (k_X12_streetOf_5 l adK adV dC dI cy ad B (by omega) (by omega) qr s1   v42_3 (show 0 ≤ v42_3.toInt by omega) (show v42_3.toInt ≤ 11 by omega) x60 (show 0 ≤ x60.toInt by omega) (show x60.toInt ≤ 1 by omega) w13 H.size hT ) (cwV 2 hC.2.2.2.2 gX12_spreads_X12_streetOf rfl rfl rfl (by decide +kernel) ⟨Nat.le_of_ble_eq_true rfl, Nat.le_of_ble_eq_true rfl⟩) rfl hl.1 rfl (Nat.le_of_ble_eq_true rfl) dX12_spreads_80 (fun r61 w63 H locs hp62 hw => ?_)
                obtain ⟨rfl, hg68⟩ := hp62
                obtain ⟨g65, g66, c67⟩ := hg68
                refine tk_iald hC hK hw hT kM_at14 rfl rfl (show 0 ≤ r61.toInt by omega) (show r61.toInt < 10 by omega) dX12_spreads_83 (fun x69 c70 rx69 tx69 => ?_)
                have c70 : gi w13 14 (r61.toInt).toNat = x69 := (congrArg (gi w13 14) (congrArg Int.toNat (show r61.toInt = r61.toInt by omega))).trans c70
                refine lv_aload_n hx hb dX12_spreads_84 rfl (lv_at hl 1 rfl) ?_
                refine lv_iload_n hx hb dX12_spreads_85 rfl (lv_at hl 4 rfl) ?_
                refine lv_iconst (v := 2) hx hb dX12_spreads_86 (by decide) ?_
                refine tk_Vi hC hK hw hT hA hE hSR kM_at0 (by decide) rfl (k_X12_streetOf_6 l adK adV dC dI cy ad B (by omega) (by omega) qr s1   v42_3 (show 0 ≤ v42_3.toInt by omega) (show v42_3.toInt ≤ 11 by omega) w13 H.size hT ) (cwV 2 hC.2.2.2.2 gX12_spreads_X12_streetOf rfl rfl rfl (by decide +kernel) ⟨Nat.le_of_ble_eq_true rfl, Nat.le_of_ble_eq_true rfl⟩) rfl hl.1 rfl (Nat.le_of_ble_eq_true rfl) dX12_spreads_87 (fun r71 w73 H locs hp72 hw => ?_)
                obtain ⟨rfl, hg78⟩ := hp72
                obtain ⟨g75, g76, c77⟩ := hg78
                refine lv_iadd hx hb dX12_spreads_90 ?_
                refine lv_topi (fun x79 ex79 => ?_)
                have ex79 : x79.toInt = x69.toInt + r71.toInt := by rw [ex79]; exact wk_add (show (-2147483648) ≤ x69.toInt + r71.toInt by omega) (show x69.toInt + r71.toInt ≤ 2147483647 by omega)
                refine lv_istore (lv' := [(6, .int x79), (5, .int r52), (0, .ref (ad 0)), (1, .int a1), (2, .int v55_2), (3, .int v42_3), (4, .int v55_4)]) hx hb dX12_spreads_91 hl (by decide) rfl (fun ls hl => ?_)
                refine lv_aload_n hx hb dX12_spreads_93 rfl (lv_at hl 2 rfl) ?_
                refine tk_getA hC hK hw hT hinX12 kM_at0 (by decide) rfl 28 (by decide) (List.mem_of_getElem? (i := 4) rfl) rfl rfl dX12_spreads_94 ?_
                refine lv_iload_n hx hb dX12_spreads_97 rfl (lv_at hl 5 rfl) ?_
                refine tk_iald hC hK hw hT kM_at13 rfl rfl (show 0 ≤ v42_3.toInt by omega) (show v42_3.toInt < 12 by omega) dX12_spreads_98 (fun x80 c81 rx80 tx80 => ?_)
                refine lv_iload hx hb dX12_spreads_99 (lv_at hl 6 rfl) ?_
                refine tk_Si hC hK hw hT hA hE hSR (k_X12_isOf_3 l adK adV dC dI cy ad B (by omega) (by omega) qr s1   x80 v55_4 (show 0 ≤ v55_4.toInt by omega) (show v55_4.toInt ≤ 1 by omega) w13 H.size hT ) (va_cwS 2 hC.2.2.2.2 gX12_spreads_X12_isOf rfl rfl rfl (by decide +kernel) ⟨Nat.le_of_ble_eq_true rfl, Nat.le_of_ble_eq_true rfl⟩) rfl hl.1 rfl (Nat.le_of_ble_eq_true rfl) dX12_spreads_101 (fun r82 w84 H locs hp83 hw => ?_)
                obtain ⟨rfl, hg88⟩ := hp83
                rcases hg88 with ⟨rfl, hq86⟩ | ⟨rfl, hq87⟩
                · refine lv_if_eq (tgt := 133) hx hb dX12_spreads_104 (by decide) (fun _ => ?_) (fun c => absurd (by decide) c)
                  have gb89 : 0 ≤ sumG 14 10 w13 ∧ sumG 14 10 w13 ≤ 1000001000 := hT.sum (lo := 0) (hi := 100000100) kM_at14 rfl (by decide) rfl
                  exact J133 v55_2 r52 x79 r52 r71 H locs ls w13 (show 0 ≤ a1.toInt by omega) (show a1.toInt ≤ 9 by omega) (show 0 ≤ v55_2.toInt by omega) (show v55_2.toInt ≤ 1 by omega) (show 0 ≤ v42_3.toInt by omega) (show v42_3.toInt ≤ 11 by omega) (show 0 ≤ v55_4.toInt by omega) (show v55_4.toInt ≤ 1 by omega) (show 0 ≤ r52.toInt by omega) (show r52.toInt ≤ 9 by omega) (show 0 ≤ x79.toInt by omega) (show x79.toInt ≤ 100000109 by omega) (show 0 ≤ r52.toInt by omega) (show r52.toInt ≤ 9 by omega) (show 0 ≤ r71.toInt by omega) (show r71.toInt ≤ 9 by omega) (show 1 ≤ f55_12_1.toInt by omega) (show f55_12_1.toInt ≤ 12 by omega) (show (sumG 14 10 w13) + v55_2.toInt ≤ (sumG 14 10 w1) by omega)  hw hT hF c58 c77 c24 (lv_sub hl [2, 3, 4, 5, 6, 1, 0] rfl)
                · refine lv_if_eq (tgt := 133) hx hb dX12_spreads_104 (by decide) (fun c => absurd c (by decide)) (fun _ => ?_)
                  refine lv_iload hx hb dX12_spreads_107 (lv_at hl 0 rfl) ?_
                  refine lv_aload_n hx hb dX12_spreads_109 rfl (lv_at hl 2 rfl) ?_
                  refine tk_getA hC hK hw hT hinX12 kM_at0 (by decide) rfl 29 (by decide) (List.mem_of_getElem? (i := 1) rfl) rfl rfl dX12_spreads_110 ?_
                  refine lv_iload hx hb dX12_spreads_113 (lv_at hl 1 rfl) ?_
                  refine tk_iald hC hK hw hT kM_at14 rfl rfl (show 0 ≤ r52.toInt by omega) (show r52.toInt < 10 by omega) dX12_spreads_115 (fun x90 c91 rx90 tx90 => ?_)
                  have c91 : gi w13 14 (r52.toInt).toNat = x90 := (congrArg (gi w13 14) (congrArg Int.toNat (show r52.toInt = r52.toInt by omega))).trans c91
                  refine lv_icmp_lt (tgt := 122) hx hb dX12_spreads_116 (by decide) (fun c92 => ?_) (fun c92 => ?_)
                  · have c92 : x79.toInt < x90.toInt := wk_lt.mp c92
                    refine lv_aload_n hx hb dX12_spreads_122 rfl (lv_at hl 2 rfl) ?_
                    refine tk_getA hC hK hw hT hinX12 kM_at0 (by decide) rfl 29 (by decide) (List.mem_of_getElem? (i := 1) rfl) rfl rfl dX12_spreads_123 ?_
                    refine lv_iload hx hb dX12_spreads_126 (lv_at hl 1 rfl) ?_
                    refine lv_iload hx hb dX12_spreads_128 (lv_at hl 0 rfl) ?_
                    refine tk_iast hC hK hw hT kM_at14 (by decide) rfl rfl (show 0 ≤ r52.toInt by omega) (show r52.toInt < 10 by omega) (show 0 ≤ x79.toInt by omega) (show x79.toInt ≤ 100000100 by omega) dX12_spreads_130 (fun H locs w93 hw hT k95 c94 => ?_)
                    have gs96 : sumG 14 10 w93 = sumG 14 10 w13 - (gi w13 14 (r52.toInt.toNat)).toInt + (gi w93 14 (r52.toInt.toNat)).toInt := sumG_up (i := r52.toInt.toNat) k95 10 (show r52.toInt.toNat < 10 by omega)
                    rw [show gi w93 14 (r52.toInt.toNat) = x79 from c94] at gs96
                    rw [c91] at gs96
                    have hF := hF.put kM_at14 (inE_of (a := 0) (b := 10) (by decide) (show 0 ≤ r52.toInt.toNat by omega) (show r52.toInt.toNat ≤ 10 by omega)) k95
                    have c97 := k95.gi (Or.inl (tk_ne kM_at12 kM_at14 (by decide))) c24
                    have c98 := k95.gi (Or.inl (tk_ne kM_at12 kM_at14 (by decide))) c58
                    have c99 := k95.gi (Or.inl (tk_ne kM_at12 kM_at14 (by decide))) c67
                    have c100 := k95.gi (Or.inl (tk_ne kM_at12 kM_at14 (by decide))) c77
                    refine lv_iconst (v := 1) hx hb dX12_spreads_131 (by decide) ?_
                    refine lv_istore_n (lv' := [(2, .int 1), (6, .int x79), (5, .int r52), (0, .ref (ad 0)), (1, .int a1), (3, .int v42_3), (4, .int v55_4)]) hx hb dX12_spreads_132 rfl hl (by decide) rfl (fun ls hl => ?_)
                    have gb101 : 0 ≤ sumG 14 10 w93 ∧ sumG 14 10 w93 ≤ 1000001000 := hT.sum (lo := 0) (hi := 100000100) kM_at14 rfl (by decide) rfl
                    exact J133 1 r52 x79 r52 r71 H locs ls w93 (show 0 ≤ a1.toInt by omega) (show a1.toInt ≤ 9 by omega) (by decide) (by decide) (show 0 ≤ v42_3.toInt by omega) (show v42_3.toInt ≤ 11 by omega) (show 0 ≤ v55_4.toInt by omega) (show v55_4.toInt ≤ 1 by omega) (show 0 ≤ r52.toInt by omega) (show r52.toInt ≤ 9 by omega) (show 0 ≤ x79.toInt by omega) (show x79.toInt ≤ 100000109 by omega) (show 0 ≤ r52.toInt by omega) (show r52.toInt ≤ 9 by omega) (show 0 ≤ r71.toInt by omega) (show r71.toInt ≤ 9 by omega) (show 1 ≤ f55_12_1.toInt by omega) (show f55_12_1.toInt ≤ 12 by omega) (show (sumG 14 10 w93) + (1 : Int) ≤ (sumG 14 10 w1) by omega)  hw hT hF c98 c100 c97 (lv_sub hl [3, 4, 0, 5, 6, 2, 1] rfl)
                  · have c92 : x90.toInt ≤ x79.toInt := wk_ltF c92
                    refine lv_goto (tgt := 133) hx hb dX12_spreads_119 (by decide) ?_
                    have gb102 : 0 ≤ sumG 14 10 w13 ∧ sumG 14 10 w13 ≤ 1000001000 := hT.sum (lo := 0) (hi := 100000100) kM_at14 rfl (by decide) rfl
                    exact J133 v55_2 r52 x79 r52 r71 H locs ls w13 (show 0 ≤ a1.toInt by omega) (show a1.toInt ≤ 9 by omega) (show 0 ≤ v55_2.toInt by omega) (show v55_2.toInt ≤ 1 by omega) (show 0 ≤ v42_3.toInt by omega) (show v42_3.toInt ≤ 11 by omega) (show 0 ≤ v55_4.toInt by omega) (show v55_4.toInt ≤ 1 by omega) (show 0 ≤ r52.toInt by omega) (show r52.toInt ≤ 9 by omega) (show 0 ≤ x79.toInt by omega) (show x79.toInt ≤ 100000109 by omega) (show 0 ≤ r52.toInt by omega) (show r52.toInt ≤ 9 by omega) (show 0 ≤ r71.toInt by omega) (show r71.toInt ≤ 9 by omega) (show 1 ≤ f55_12_1.toInt by omega) (show f55_12_1.toInt ≤ 12 by omega) (show (sumG 14 10 w13) + v55_2.toInt ≤ (sumG 14 10 w1) by omega)  hw hT hF c58 c77 c24 (lv_sub hl [2, 3, 4, 5, 6, 1, 0] rfl)
          refine lv_iload_n hx hb dX12_spreads_42 rfl (lv_at hl 3 rfl) ?_
          refine lv_aload_n hx hb dX12_spreads_43 rfl (lv_at hl 0 rfl) ?_
          refine tk_getA hC hK hw hT hinX12 kM_at0 (by decide) rfl 26 (by decide) (List.mem_of_getElem? (i := 3) rfl) rfl rfl dX12_spreads_44 ?_
          refine lv_iconst (v := 1) hx hb dX12_spreads_47 (by decide) ?_
          refine tk_ialdR hC hK hw hT kM_at12 rfl (by decide) (by decide) dX12_spreads_48 (fun x103 c104 Ex103 => ?_)
          have bx103 : 0 ≤ x103.toInt ∧ x103.toInt ≤ 12 := (tk_rg1 rfl).mp Ex103
          have c104 : gi w6 12 1 = x103 := c104
          refine lv_icmp_ge (tgt := 145) hx hb dX12_spreads_49 (by decide) (fun c105 => ?_) (fun c105 => ?_)
          · have c105 : x103.toInt ≤ v42_3.toInt := wk_le.mp c105
            refine lv_goto (tgt := 34) hx hb dX12_spreads_145 (by decide) ?_
            have gb106 : 0 ≤ sumG 14 10 w6 ∧ sumG 14 10 w6 ≤ 1000001000 := hT.sum (lo := 0) (hi := 100000100) kM_at14 rfl (by decide) rfl
            exact ih34 v42_2 H locs ls w6 (show 0 ≤ a1.toInt by omega) (show a1.toInt ≤ 9 by omega) (show 0 ≤ v42_2.toInt by omega) (show v42_2.toInt ≤ 1 by omega) (show 0 ≤ (sumG 14 10 w6) by omega) (show (2 * (sumG 14 10 w6) + v42_2.toInt).toNat < n34 by omega) hw hT hF  (lv_sub hl [0, 1, 2] rfl)
          · have c105 : v42_3.toInt < x103.toInt := wk_leF c105
            refine lv_iconst (v := 0) hx hb dX12_spreads_52 (by decide) ?_
            refine lv_istore (lv' := [(4, .int 0), (0, .ref (ad 0)), (1, .int a1), (2, .int v42_2), (3, .int v42_3)]) hx hb dX12_spreads_53 hl (by decide) rfl (fun ls hl => ?_)
            have gb107 : 0 ≤ sumG 14 10 w6 ∧ sumG 14 10 w6 ≤ 1000001000 := hT.sum (lo := 0) (hi := 100000100) kM_at14 rfl (by decide) rfl
            exact L55 ((2 - (0 : Int)).toNat + 1) v42_2 0 x103 H locs ls w6 (show 0 ≤ a1.toInt by omega) (show a1.toInt ≤ 9 by omega) (show 0 ≤ v42_2.toInt by omega) (show v42_2.toInt ≤ 1 by omega) (show 0 ≤ v42_3.toInt by omega) (show v42_3.toInt ≤ 11 by omega) (by decide) (by decide) (show 1 ≤ x103.toInt by omega) (show x103.toInt ≤ 12 by omega) (show (sumG 14 10 w6) + v42_2.toInt ≤ (sumG 14 10 w1) by omega) (Nat.lt_succ_self _) hw hT hF c104 (lv_sub hl [1, 2, 3, 4, 0] rfl)
      refine lv_iload_n hx hb dX12_spreads_34 rfl (lv_at hl 2 rfl) ?_
      refine lv_if_eq (tgt := 148) hx hb dX12_spreads_35 (by decide) (fun c108 => ?_) (fun c108 => ?_)
      · have c108 : v34_2.toInt = (0 : Int) := wk_eq.mp c108
        exact tk_vret hC hr hlocks hK ⟨hT, hF, trivial⟩ hw dX12_spreads_148
      · have c108 : ¬ v34_2.toInt = (0 : Int) := wk_eqF c108
        refine lv_iconst (v := 0) hx hb dX12_spreads_38 (by decide) ?_
        refine lv_istore_n (lv' := [(2, .int 0), (0, .ref (ad 0)), (1, .int a1)]) hx hb dX12_spreads_39 rfl hl (by decide) rfl (fun ls hl => ?_)
        refine lv_iconst (v := 0) hx hb dX12_spreads_40 (by decide) ?_
        refine lv_istore_n (lv' := [(3, .int 0), (2, .int 0), (0, .ref (ad 0)), (1, .int a1)]) hx hb dX12_spreads_41 rfl hl (by decide) rfl (fun ls hl => ?_)
        have gb109 : 0 ≤ sumG 14 10 w1 ∧ sumG 14 10 w1 ≤ 1000001000 := hT.sum (lo := 0) (hi := 100000100) kM_at14 rfl (by decide) rfl
        exact L42 ((12 - (0 : Int)).toNat + 1) 0 0 H locs ls w1 (show 0 ≤ a1.toInt by omega) (show a1.toInt ≤ 9 by omega) (by decide) (by decide) (by decide) (by decide) (show (sumG 14 10 w1) + (0 : Int) ≤ (sumG 14 10 w1) by omega) (Nat.lt_succ_self _) hw hT hF  (lv_sub hl [2, 3, 1, 0] rfl)
  have L2 : ∀ (n2 : Nat) (v2_2 : Int32) (H : Heap) (locs : List Loc) (ls : Array Slot) (w110 : va_W), 0 ≤ a1.toInt → a1.toInt ≤ 9 → 0 ≤ v2_2.toInt → v2_2.toInt ≤ 10 → (10 - v2_2.toInt).toNat < n2 → Wd dC dI A s.heap H locs w110 → TW ksM ad cy B qr 12 w110 → FE ksM [(73, 0, 10)] w0 w110 → lv_has ls 7 [(0, .ref (ad 0)), (1, .int a1), (2, .int v2_2)] → W p l e ({ frames := 2, cells := 0, slots := 0, locals := 34 }) s m (List.toArray [.ref (ad 0), .int a1]) below meth c H locs 0 0 (MQ below (va_Qv (P_X12_spreads_1 ad cy B qr s1 a1 w0) (fun u : va_W => wpost dC dI cy A u) A) (List.toArray [.ref (ad 0), .int a1]) s 0 0 A) (F0 m 2 ls []) := by
    intro n2
    induction n2 with
    | zero => intro v2_2 H locs ls w110 r111 t112 r113 t114 hm2 hw hT hF hl; omega
    | succ n2 ih2 =>
      intro v2_2 H locs ls w110 r111 t112 r113 t114 hm2 hw hT hF hl
      refine lv_iload_n hx hb dX12_spreads_2 rfl (lv_at hl 2 rfl) ?_
      refine lv_bipush (v := 10) hx hb dX12_spreads_3 (by decide) ?_
      refine lv_icmp_ge (tgt := 32) hx hb dX12_spreads_5 (by decide) (fun c115 => ?_) (fun c115 => ?_)
      · have c115 : (10 : Int) ≤ v2_2.toInt := wk_le.mp c115
        refine lv_iconst (v := 1) hx hb dX12_spreads_32 (by decide) ?_
        refine lv_istore_n (lv' := [(2, .int 1), (0, .ref (ad 0)), (1, .int a1)]) hx hb dX12_spreads_33 rfl hl (by decide) rfl (fun ls hl => ?_)
        have gb116 : 0 ≤ sumG 14 10 w110 ∧ sumG 14 10 w110 ≤ 1000001000 := hT.sum (lo := 0) (hi := 100000100) kM_at14 rfl (by decide) rfl
        exact L34 ((2 * (sumG 14 10 w110) + (1 : Int)).toNat + 1) 1 H locs ls w110 (show 0 ≤ a1.toInt by omega) (show a1.toInt ≤ 9 by omega) (by decide) (by decide) (show 0 ≤ (sumG 14 10 w110) by omega) (Nat.lt_succ_self _) hw hT hF  (lv_sub hl [1, 2, 0] rfl)
      · have c115 : v2_2.toInt < (10 : Int) := wk_leF c115
        refine lv_aload_n hx hb dX12_spreads_8 rfl (lv_at hl 0 rfl) ?_
        refine tk_getA hC hK hw hT hinX12 kM_at0 (by decide) rfl 29 (by decide) (List.mem_of_getElem? (i := 1) rfl) rfl rfl dX12_spreads_9 ?_
        refine lv_iload_n hx hb dX12_spreads_12 rfl (lv_at hl 2 rfl) ?_
        refine lv_iload_n hx hb dX12_spreads_13 rfl (lv_at hl 2 rfl) ?_
        refine lv_iload_n hx hb dX12_spreads_14 rfl (lv_at hl 1 rfl) ?_
        refine lv_icmp_ne (tgt := 22) hx hb dX12_spreads_15 (by decide) (fun c117 => ?_) (fun c117 => ?_)
        · have c117 : ¬ v2_2.toInt = a1.toInt := wk_eqF c117
          refine lv_ldcw (v := 100000000) hx hb hC.2.2.2.1 (hC.2.2.2.2 _ (List.mem_of_getElem? (i := 2) rfl)) dX12_spreads_22 ?_
          refine tk_iast hC hK hw hT kM_at14 (by decide) rfl rfl (show 0 ≤ v2_2.toInt by omega) (show v2_2.toInt < 10 by omega) (by decide) (by decide) dX12_spreads_25 (fun H locs w118 hw hT k120 c119 => ?_)
          have gs121 : sumG 14 10 w118 = sumG 14 10 w110 - (gi w110 14 (v2_2.toInt.toNat)).toInt + (gi w118 14 (v2_2.toInt.toNat)).toInt := sumG_up (i := v2_2.toInt.toNat) k120 10 (show v2_2.toInt.toNat < 10 by omega)
          rw [show gi w118 14 (v2_2.toInt.toNat) = 100000000 from c119] at gs121
          rw [show (100000000 : Int32).toInt = 100000000 by decide] at gs121
          have hF := hF.put kM_at14 (inE_of (a := 0) (b := 10) (by decide) (show 0 ≤ v2_2.toInt.toNat by omega) (show v2_2.toInt.toNat ≤ 10 by omega)) k120
          obtain ⟨x122, ex122⟩ : ∃ y : Int32, y = v2_2 + Int32.ofInt 1 := ⟨_, rfl⟩
          refine lv_iinc (v := x122) (lv' := [(2, .int x122), (0, .ref (ad 0)), (1, .int a1)]) hx hb dX12_spreads_26 hl (k := 2) rfl ex122.symm (by decide) rfl (fun ls hl => ?_)
          have ex122 : x122.toInt = v2_2.toInt + 1 := by rw [ex122]; exact wk_add (y := 1) (show -2147483648 ≤ v2_2.toInt + 1 by omega) (show v2_2.toInt + 1 ≤ 2147483647 by omega)
          refine lv_goto (tgt := 2) hx hb dX12_spreads_29 (by decide) ?_
          exact ih2 x122 H locs ls w118 (show 0 ≤ a1.toInt by omega) (show a1.toInt ≤ 9 by omega) (show 0 ≤ x122.toInt by omega) (show x122.toInt ≤ 10 by omega) (show (10 - x122.toInt).toNat < n2 by omega) hw hT hF  (lv_sub hl [1, 2, 0] rfl)
        · have c117 : v2_2.toInt = a1.toInt := wk_eq.mp c117
          refine lv_iconst (v := 0) hx hb dX12_spreads_18 (by decide) ?_
          refine lv_goto (tgt := 25) hx hb dX12_spreads_19 (by decide) ?_
          refine tk_iast hC hK hw hT kM_at14 (by decide) rfl rfl (show 0 ≤ v2_2.toInt by omega) (show v2_2.toInt < 10 by omega) (by decide) (by decide) dX12_spreads_25 (fun H locs w123 hw hT k125 c124 => ?_)
          have gs126 : sumG 14 10 w123 = sumG 14 10 w110 - (gi w110 14 (v2_2.toInt.toNat)).toInt + (gi w123 14 (v2_2.toInt.toNat)).toInt := sumG_up (i := v2_2.toInt.toNat) k125 10 (show v2_2.toInt.toNat < 10 by omega)
          rw [show gi w123 14 (v2_2.toInt.toNat) = 0 from c124] at gs126
          rw [show (0 : Int32).toInt = 0 by decide] at gs126
          have hF := hF.put kM_at14 (inE_of (a := 0) (b := 10) (by decide) (show 0 ≤ v2_2.toInt.toNat by omega) (show v2_2.toInt.toNat ≤ 10 by omega)) k125
          obtain ⟨x127, ex127⟩ : ∃ y : Int32, y = v2_2 + Int32.ofInt 1 := ⟨_, rfl⟩
          refine lv_iinc (v := x127) (lv' := [(2, .int x127), (0, .ref (ad 0)), (1, .int a1)]) hx hb dX12_spreads_26 hl (k := 2) rfl ex127.symm (by decide) rfl (fun ls hl => ?_)
          have ex127 : x127.toInt = v2_2.toInt + 1 := by rw [ex127]; exact wk_add (y := 1) (show -2147483648 ≤ v2_2.toInt + 1 by omega) (show v2_2.toInt + 1 ≤ 2147483647 by omega)
          refine lv_goto (tgt := 2) hx hb dX12_spreads_29 (by decide) ?_
          exact ih2 x127 H locs ls w123 (show 0 ≤ a1.toInt by omega) (show a1.toInt ≤ 9 by omega) (show 0 ≤ x127.toInt by omega) (show x127.toInt ≤ 10 by omega) (show (10 - x127.toInt).toNat < n2 by omega) hw hT hF  (lv_sub hl [1, 2, 0] rfl)
  refine lv_iconst (v := 0) hx hb dX12_spreads_0 (by decide) ?_
  refine lv_istore_n (lv' := [(2, .int 0), (0, .ref (ad 0)), (1, .int a1)]) hx hb dX12_spreads_1 rfl hl (by decide) rfl (fun ls hl => ?_)
  exact L2 ((10 - (0 : Int)).toNat + 1) 0 s.heap locs ls w0 (show 0 ≤ a1.toInt by omega) (show a1.toInt ≤ 9 by omega) (by decide) (by decide) (Nat.lt_succ_self _) hw hT hF  (lv_sub hl [1, 2, 0] rfl)
abbrev P_X12_isOf_4 (ad : Nat → Nat) (cy : Nat → ClassId) (B : Int) (qr : Nat) (s1 : Int) (a0 : Int32) (w0 : va_W) : Int32 → va_W → Prop := fun r u => w0 = u ∧ ((r = 0 ∧ (¬ mOf a0 (0 : Int32))) ∨ (r = 1 ∧ (mOf a0 (0 : Int32))))
set_option maxHeartbeats 4000000 in
set_option maxRecDepth 100000 in
theorem k_X12_isOf_4 (l : Launch) (adK adV : Nat → Nat) (dC : Nat → ClassId) (dI : Nat → Nat → Nat) (cy : Nat → ClassId) (ad : Nat → Nat) (B : Int) (hB0 : 100000 ≤ B) (hB1 : B ≤ 1073741824) (qr : Nat) (s1 : Int)  (a0 : Int32) (w0 : va_W) (sz : Nat) (hT : TW ksM ad cy B qr 12 w0)  : Met l yX12_isOf wsX12_isOf ({ frames := 1, cells := 0, slots := 0, locals := 12 }) (va_Pc [.int a0, .int 0] (wpreS adK adV dC dI cy sz w0)) (va_Qi (P_X12_isOf_4 ad cy B qr s1 a0 w0) (fun u : va_W => wpost dC dI cy (va_A w0 sz) u) (va_A w0 sz)) 0 0 (va_A w0 sz) := by
  refine Met.ofW (cc := cX12_isOf) (maxL := 2) (ret := (some .boolean)) (by decide) rfl ?_
  intro p e s m args below meth c s₁ Bk hml hv
  obtain ⟨rfl, ⟨hsz, hP, hK, hD0⟩, hE, hSR⟩ := hv
  have hx := Bk.exec
  have hb := Bk.bytes
  have hr := Bk.returns
  have hlocks := Bk.notSynchronized
  have hC : CallFix p m c cX12_isOf 2 s _ wsX12_isOf RX12 := ⟨hx, hb, hml, findClass_of_methodNamed Bk.named, atoms_spec (ws := wsX12_isOf) Bk.pre⟩
  subst hsz
  have hD := hD0.self (sz := s.heap.size)
  generalize hAe : va_A w0 s.heap.size = A at hD hE ⊢
  have hA : ∀ q : Nat, s.heap.size ≤ q → A q := fun q h => by rw [← hAe]; exact Or.inr h
  have hw : Wd dC dI A s.heap s.heap [] w0 := ⟨hP, hD, va_S.rf⟩
  have hF : FE ksM ([] : List (Nat × Nat × Nat)) w0 w0 := FE.rf
  have hl := lv_entry ([.int a0, .int 0]) (n := 2) (Nat.le_of_ble_eq_true rfl)
  rw [lg_entry_eq]
  generalize (lg_sl ([.int a0, .int 0]) ++ List.replicate (2 - (lg_sl ([.int a0, .int 0])).length) Slot.unset).toArray = ls at hl ⊢
  have hl : lv_has ls 2 [(0, .int a0), (1, .int 0)] := hl
  generalize hloc : ([] : List Loc) = locs at hw ⊢
  refine lv_iload_n hx hb dX12_isOf_0 rfl (lv_at hl 0 rfl) ?_
  refine lv_iload_n hx hb dX12_isOf_1 rfl (lv_at hl 1 rfl) ?_
  refine lv_ishr hx hb dX12_isOf_2 ?_
  refine lv_topi (fun x1 ex1 => ?_)
  refine lv_iconst (v := 1) hx hb dX12_isOf_3 (by decide) ?_
  refine lv_iand hx hb dX12_isOf_4 ?_
  refine lv_topi (fun x2 ex2 => ?_)
  have bx2 : 0 ≤ x2.toInt ∧ x2.toInt ≤ (1 : Int) := by rw [ex2]; exact wk_and (by decide)
  refine lv_iconst (v := 1) hx hb dX12_isOf_5 (by decide) ?_
  refine lv_icmp_ne (tgt := 13) hx hb dX12_isOf_6 (by decide) (fun c3 => ?_) (fun c3 => ?_)
  · have c3 : ¬ x2.toInt = (1 : Int) := wk_eqF c3
    refine lv_iconst (v := 0) hx hb dX12_isOf_13 (by decide) ?_
    exact tk_zret hC hr rfl hlocks hK ⟨rfl, (Or.inl ⟨rfl, (by unfold mOf; rw [← ex1, ← ex2]; omega)⟩)⟩ hw dX12_isOf_14
  · have c3 : x2.toInt = (1 : Int) := wk_eq.mp c3
    refine lv_iconst (v := 1) hx hb dX12_isOf_9 (by decide) ?_
    refine lv_goto (tgt := 14) hx hb dX12_isOf_10 (by decide) ?_
    exact tk_zret hC hr rfl hlocks hK ⟨rfl, (Or.inr ⟨rfl, (by unfold mOf; rw [← ex1, ← ex2]; omega)⟩)⟩ hw dX12_isOf_14
abbrev P_X12_isOf_5 (ad : Nat → Nat) (cy : Nat → ClassId) (B : Int) (qr : Nat) (s1 : Int) (a0 : Int32) (w0 : va_W) : Int32 → va_W → Prop := fun r u => w0 = u ∧ ((r = 0 ∧ (¬ mOf a0 (1 : Int32))) ∨ (r = 1 ∧ (mOf a0 (1 : Int32))))
set_option maxHeartbeats 4000000 in
set_option maxRecDepth 100000 in
theorem k_X12_isOf_5 (l : Launch) (adK adV : Nat → Nat) (dC : Nat → ClassId) (dI : Nat → Nat → Nat) (cy : Nat → ClassId) (ad : Nat → Nat) (B : Int) (hB0 : 100000 ≤ B) (hB1 : B ≤ 1073741824) (qr : Nat) (s1 : Int)  (a0 : Int32) (w0 : va_W) (sz : Nat) (hT : TW ksM ad cy B qr 12 w0)  : Met l yX12_isOf wsX12_isOf ({ frames := 1, cells := 0, slots := 0, locals := 12 }) (va_Pc [.int a0, .int 1] (wpreS adK adV dC dI cy sz w0)) (va_Qi (P_X12_isOf_5 ad cy B qr s1 a0 w0) (fun u : va_W => wpost dC dI cy (va_A w0 sz) u) (va_A w0 sz)) 0 0 (va_A w0 sz) := by
  refine Met.ofW (cc := cX12_isOf) (maxL := 2) (ret := (some .boolean)) (by decide) rfl ?_
  intro p e s m args below meth c s₁ Bk hml hv
  obtain ⟨rfl, ⟨hsz, hP, hK, hD0⟩, hE, hSR⟩ := hv
  have hx := Bk.exec
  have hb := Bk.bytes
  have hr := Bk.returns
  have hlocks := Bk.notSynchronized
  have hC : CallFix p m c cX12_isOf 2 s _ wsX12_isOf RX12 := ⟨hx, hb, hml, findClass_of_methodNamed Bk.named, atoms_spec (ws := wsX12_isOf) Bk.pre⟩
  subst hsz
  have hD := hD0.self (sz := s.heap.size)
  generalize hAe : va_A w0 s.heap.size = A at hD hE ⊢
  have hA : ∀ q : Nat, s.heap.size ≤ q → A q := fun q h => by rw [← hAe]; exact Or.inr h
  have hw : Wd dC dI A s.heap s.heap [] w0 := ⟨hP, hD, va_S.rf⟩
  have hF : FE ksM ([] : List (Nat × Nat × Nat)) w0 w0 := FE.rf
  have hl := lv_entry ([.int a0, .int 1]) (n := 2) (Nat.le_of_ble_eq_true rfl)
  rw [lg_entry_eq]
  generalize (lg_sl ([.int a0, .int 1]) ++ List.replicate (2 - (lg_sl ([.int a0, .int 1])).length) Slot.unset).toArray = ls at hl ⊢
  have hl : lv_has ls 2 [(0, .int a0), (1, .int 1)] := hl
  generalize hloc : ([] : List Loc) = locs at hw ⊢
  refine lv_iload_n hx hb dX12_isOf_0 rfl (lv_at hl 0 rfl) ?_
  refine lv_iload_n hx hb dX12_isOf_1 rfl (lv_at hl 1 rfl) ?_
  refine lv_ishr hx hb dX12_isOf_2 ?_
  refine lv_topi (fun x1 ex1 => ?_)
  refine lv_iconst (v := 1) hx hb dX12_isOf_3 (by decide) ?_
  refine lv_iand hx hb dX12_isOf_4 ?_
  refine lv_topi (fun x2 ex2 => ?_)
  have bx2 : 0 ≤ x2.toInt ∧ x2.toInt ≤ (1 : Int) := by rw [ex2]; exact wk_and (by decide)
  refine lv_iconst (v := 1) hx hb dX12_isOf_5 (by decide) ?_
  refine lv_icmp_ne (tgt := 13) hx hb dX12_isOf_6 (by decide) (fun c3 => ?_) (fun c3 => ?_)
  · have c3 : ¬ x2.toInt = (1 : Int) := wk_eqF c3
    refine lv_iconst (v := 0) hx hb dX12_isOf_13 (by decide) ?_
    exact tk_zret hC hr rfl hlocks hK ⟨rfl, (Or.inl ⟨rfl, (by unfold mOf; rw [← ex1, ← ex2]; omega)⟩)⟩ hw dX12_isOf_14
  · have c3 : x2.toInt = (1 : Int) := wk_eq.mp c3
    refine lv_iconst (v := 1) hx hb dX12_isOf_9 (by decide) ?_
    refine lv_goto (tgt := 14) hx hb dX12_isOf_10 (by decide) ?_
    exact tk_zret hC hr rfl hlocks hK ⟨rfl, (Or.inr ⟨rfl, (by unfold mOf; rw [← ex1, ← ex2]; omega)⟩)⟩ hw dX12_isOf_14
abbrev P_X12_hasSign_2 (ad : Nat → Nat) (cy : Nat → ClassId) (B : Int) (qr : Nat) (s1 : Int) (a1 : Int32) (a2 : Int32) (a3 : Int32) (w0 : va_W) : Int32 → va_W → Prop := fun r u => w0 = u ∧ ((r = 0 ∧ (¬ mSign w0 a1 a2.toInt a3.toInt)) ∨ (r = 0 ∧ gi u 12 (10 * a2.toInt + 10).toNat = a3 ∧ (¬ mSign w0 a1 a2.toInt a3.toInt)) ∨ (r = 1 ∧ (mSign w0 a1 a2.toInt a3.toInt)) ∨ (r = 1 ∧ gi u 12 (10 * a2.toInt + 10).toNat = a3 ∧ (mSign w0 a1 a2.toInt a3.toInt)))
set_option maxHeartbeats 4000000 in
set_option maxRecDepth 100000 in
theorem k_X12_hasSign_2 (l : Launch) (adK adV : Nat → Nat) (dC : Nat → ClassId) (dI : Nat → Nat → Nat) (cy : Nat → ClassId) (ad : Nat → Nat) (B : Int) (hB0 : 100000 ≤ B) (hB1 : B ≤ 1073741824) (qr : Nat) (s1 : Int)  (a1 : Int32) (a2 : Int32) (ra2 : 0 ≤ a2.toInt) (ta2 : a2.toInt ≤ 11) (a3 : Int32) (ra3 : 0 ≤ a3.toInt) (ta3 : a3.toInt ≤ 9) (w0 : va_W) (sz : Nat) (hT : TW ksM ad cy B qr 12 w0)  : Met l yX12_hasSign wsX12_hasSign ({ frames := 2, cells := 0, slots := 0, locals := 34 }) (va_Pc [.ref (ad 0), .int a1, .int a2, .int a3] (wpreS adK adV dC dI cy sz w0)) (va_Qi (P_X12_hasSign_2 ad cy B qr s1 a1 a2 a3 w0) (fun u : va_W => wpost dC dI cy (va_A w0 sz) u) (va_A w0 sz)) 0 0 (va_A w0 sz) := by
  refine Met.ofW (cc := cX12_hasSign) (maxL := 4) (ret := (some .boolean)) (by decide) rfl ?_
  intro p e s m args below meth c s₁ Bk hml hv
  obtain ⟨rfl, ⟨hsz, hP, hK, hD0⟩, hE, hSR⟩ := hv
  have hx := Bk.exec
  have hb := Bk.bytes
  have hr := Bk.returns
  have hlocks := Bk.notSynchronized
  have hC : CallFix p m c cX12_hasSign 4 s _ wsX12_hasSign RX12 := ⟨hx, hb, hml, findClass_of_methodNamed Bk.named, atoms_spec (ws := wsX12_hasSign) Bk.pre⟩
  subst hsz
  have hD := hD0.self (sz := s.heap.size)
  generalize hAe : va_A w0 s.heap.size = A at hD hE ⊢
  have hA : ∀ q : Nat, s.heap.size ≤ q → A q := fun q h => by rw [← hAe]; exact Or.inr h
  have hw : Wd dC dI A s.heap s.heap [] w0 := ⟨hP, hD, va_S.rf⟩
  have hF : FE ksM ([] : List (Nat × Nat × Nat)) w0 w0 := FE.rf
  have hl := lv_entry ([.ref (ad 0), .int a1, .int a2, .int a3]) (n := 4) (Nat.le_of_ble_eq_true rfl)
  rw [lg_entry_eq]
  generalize (lg_sl ([.ref (ad 0), .int a1, .int a2, .int a3]) ++ List.replicate (4 - (lg_sl ([.ref (ad 0), .int a1, .int a2, .int a3])).length) Slot.unset).toArray = ls at hl ⊢
  have hl : lv_has ls 4 [(0, .ref (ad 0)), (1, .int a1), (2, .int a2), (3, .int a3)] := hl
  generalize hloc : ([] : List Loc) = locs at hw ⊢
  refine lv_iload_n hx hb dX12_hasSign_0 rfl (lv_at hl 1 rfl) ?_
  refine lv_aload_n hx hb dX12_hasSign_1 rfl (lv_at hl 0 rfl) ?_
  refine lv_iload_n hx hb dX12_hasSign_2 rfl (lv_at hl 2 rfl) ?_
  refine lv_iconst (v := 0) hx hb dX12_hasSign_3 (by decide) ?_
  refine tk_Vi hC hK hw hT hA hE hSR kM_at0 (by decide) rfl (k_X12_streetOf_2 l adK adV dC dI cy ad B (by omega) (by omega) qr s1   a2 (show 0 ≤ a2.toInt by omega) (show a2.toInt ≤ 11 by omega) w0 s.heap.size hT ) (cwV 2 hC.2.2.2.2 gX12_hasSign_X12_streetOf rfl rfl rfl (by decide +kernel) ⟨Nat.le_of_ble_eq_true rfl, Nat.le_of_ble_eq_true rfl⟩) rfl hl.1 rfl (Nat.le_of_ble_eq_true rfl) dX12_hasSign_4 (fun r1 w3 H locs hp2 hw => ?_)
  obtain ⟨rfl, hg8⟩ := hp2
  obtain ⟨g5, g6, c7⟩ := hg8
  refine lv_iload_n hx hb dX12_hasSign_7 rfl (lv_at hl 3 rfl) ?_
  refine lv_icmp_ne (tgt := 15) hx hb dX12_hasSign_8 (by decide) (fun c9 => ?_) (fun c9 => ?_)
  · have c9 : ¬ r1.toInt = a3.toInt := wk_eqF c9
    refine lv_iconst (v := 1) hx hb dX12_hasSign_15 (by decide) ?_
    refine tk_Si hC hK hw hT hA hE hSR (k_X12_isOf_5 l adK adV dC dI cy ad B (by omega) (by omega) qr s1   a1 w0 H.size hT ) (va_cwS 2 hC.2.2.2.2 gX12_hasSign_X12_isOf rfl rfl rfl (by decide +kernel) ⟨Nat.le_of_ble_eq_true rfl, Nat.le_of_ble_eq_true rfl⟩) rfl hl.1 rfl (Nat.le_of_ble_eq_true rfl) dX12_hasSign_16 (fun r10 w12 H locs hp11 hw => ?_)
    obtain ⟨rfl, hg16⟩ := hp11
    rcases hg16 with ⟨rfl, hq14⟩ | ⟨rfl, hq15⟩
    · exact tk_zret hC hr rfl hlocks hK ⟨rfl, (Or.inl ⟨rfl, (by unfold mSign; simp only [c7]; first | exact Or.inl ⟨by omega, by assumption⟩ | exact Or.inr ⟨by omega, by assumption⟩ | (rintro (⟨q1, q2⟩ | ⟨q1, q2⟩) <;> first | omega | contradiction))⟩)⟩ hw dX12_hasSign_19
    · exact tk_zret hC hr rfl hlocks hK ⟨rfl, (Or.inr (Or.inr (Or.inl ⟨rfl, (by unfold mSign; simp only [c7]; first | exact Or.inl ⟨by omega, by assumption⟩ | exact Or.inr ⟨by omega, by assumption⟩ | (rintro (⟨q1, q2⟩ | ⟨q1, q2⟩) <;> first | omega | contradiction))⟩)))⟩ hw dX12_hasSign_19
  · have c9 : r1.toInt = a3.toInt := wk_eq.mp c9
    refine lv_iconst (v := 0) hx hb dX12_hasSign_11 (by decide) ?_
    refine lv_goto (tgt := 16) hx hb dX12_hasSign_12 (by decide) ?_
    refine tk_Si hC hK hw hT hA hE hSR (k_X12_isOf_4 l adK adV dC dI cy ad B (by omega) (by omega) qr s1   a1 w0 H.size hT ) (va_cwS 2 hC.2.2.2.2 gX12_hasSign_X12_isOf rfl rfl rfl (by decide +kernel) ⟨Nat.le_of_ble_eq_true rfl, Nat.le_of_ble_eq_true rfl⟩) rfl hl.1 rfl (Nat.le_of_ble_eq_true rfl) dX12_hasSign_16 (fun r17 w19 H locs hp18 hw => ?_)
    obtain ⟨rfl, hg23⟩ := hp18
    rcases hg23 with ⟨rfl, hq21⟩ | ⟨rfl, hq22⟩
    · exact tk_zret hC hr rfl hlocks hK ⟨rfl, (Or.inr (Or.inl ⟨rfl, (c7.trans (wk_eq.mpr (show r1.toInt = a3.toInt by omega))), (by unfold mSign; simp only [c7]; first | exact Or.inl ⟨by omega, by assumption⟩ | exact Or.inr ⟨by omega, by assumption⟩ | (rintro (⟨q1, q2⟩ | ⟨q1, q2⟩) <;> first | omega | contradiction))⟩))⟩ hw dX12_hasSign_19
    · exact tk_zret hC hr rfl hlocks hK ⟨rfl, (Or.inr (Or.inr (Or.inr ⟨rfl, (c7.trans (wk_eq.mpr (show r1.toInt = a3.toInt by omega))), (by unfold mSign; simp only [c7]; first | exact Or.inl ⟨by omega, by assumption⟩ | exact Or.inr ⟨by omega, by assumption⟩ | (rintro (⟨q1, q2⟩ | ⟨q1, q2⟩) <;> first | omega | contradiction))⟩)))⟩ hw dX12_hasSign_19
abbrev P_X12_otherOf_1 (ad : Nat → Nat) (cy : Nat → ClassId) (B : Int) (qr : Nat) (s1 : Int) (a1 : Int32) (a2 : Int32) (w0 : va_W) : Int32 → va_W → Prop := fun r u => w0 = u ∧ ((0 ≤ r.toInt ∧ r.toInt ≤ 9) ∨ (0 ≤ r.toInt ∧ r.toInt ≤ 9 ∧ gi u 12 (10 * a1.toInt + 10).toNat = a2))
set_option maxHeartbeats 4000000 in
set_option maxRecDepth 100000 in
theorem k_X12_otherOf_1 (l : Launch) (adK adV : Nat → Nat) (dC : Nat → ClassId) (dI : Nat → Nat → Nat) (cy : Nat → ClassId) (ad : Nat → Nat) (B : Int) (hB0 : 100000 ≤ B) (hB1 : B ≤ 1073741824) (qr : Nat) (s1 : Int)  (a1 : Int32) (ra1 : 0 ≤ a1.toInt) (ta1 : a1.toInt ≤ 11) (a2 : Int32) (ra2 : 0 ≤ a2.toInt) (ta2 : a2.toInt ≤ 9) (w0 : va_W) (sz : Nat) (hT : TW ksM ad cy B qr 12 w0)  : Met l yX12_otherOf wsX12_otherOf ({ frames := 2, cells := 0, slots := 0, locals := 34 }) (va_Pc [.ref (ad 0), .int a1, .int a2] (wpreS adK adV dC dI cy sz w0)) (va_Qi (P_X12_otherOf_1 ad cy B qr s1 a1 a2 w0) (fun u : va_W => wpost dC dI cy (va_A w0 sz) u) (va_A w0 sz)) 0 0 (va_A w0 sz) := by
  refine Met.ofW (cc := cX12_otherOf) (maxL := 3) (ret := (some .int)) (by decide) rfl ?_
  intro p e s m args below meth c s₁ Bk hml hv
  obtain ⟨rfl, ⟨hsz, hP, hK, hD0⟩, hE, hSR⟩ := hv
  have hx := Bk.exec
  have hb := Bk.bytes
  have hr := Bk.returns
  have hlocks := Bk.notSynchronized
  have hC : CallFix p m c cX12_otherOf 3 s _ wsX12_otherOf RX12 := ⟨hx, hb, hml, findClass_of_methodNamed Bk.named, atoms_spec (ws := wsX12_otherOf) Bk.pre⟩
  subst hsz
  have hD := hD0.self (sz := s.heap.size)
  generalize hAe : va_A w0 s.heap.size = A at hD hE ⊢
  have hA : ∀ q : Nat, s.heap.size ≤ q → A q := fun q h => by rw [← hAe]; exact Or.inr h
  have hw : Wd dC dI A s.heap s.heap [] w0 := ⟨hP, hD, va_S.rf⟩
  have hF : FE ksM ([] : List (Nat × Nat × Nat)) w0 w0 := FE.rf
  have hl := lv_entry ([.ref (ad 0), .int a1, .int a2]) (n := 3) (Nat.le_of_ble_eq_true rfl)
  rw [lg_entry_eq]
  generalize (lg_sl ([.ref (ad 0), .int a1, .int a2]) ++ List.replicate (3 - (lg_sl ([.ref (ad 0), .int a1, .int a2])).length) Slot.unset).toArray = ls at hl ⊢
  have hl : lv_has ls 3 [(0, .ref (ad 0)), (1, .int a1), (2, .int a2)] := hl
  generalize hloc : ([] : List Loc) = locs at hw ⊢
  refine lv_aload_n hx hb dX12_otherOf_0 rfl (lv_at hl 0 rfl) ?_
  refine lv_iload_n hx hb dX12_otherOf_1 rfl (lv_at hl 1 rfl) ?_
  refine lv_iconst (v := 0) hx hb dX12_otherOf_2 (by decide) ?_
  refine tk_Vi hC hK hw hT hA hE hSR kM_at0 (by decide) rfl (k_X12_streetOf_2 l adK adV dC dI cy ad B (by omega) (by omega) qr s1   a1 (show 0 ≤ a1.toInt by omega) (show a1.toInt ≤ 11 by omega) w0 s.heap.size hT ) (cwV 2 hC.2.2.2.2 gX12_otherOf_X12_streetOf rfl rfl rfl (by decide +kernel) ⟨Nat.le_of_ble_eq_true rfl, Nat.le_of_ble_eq_true rfl⟩) rfl hl.1 rfl (Nat.le_of_ble_eq_true rfl) dX12_otherOf_3 (fun r1 w3 H locs hp2 hw => ?_)
  obtain ⟨rfl, hg8⟩ := hp2
  obtain ⟨g5, g6, c7⟩ := hg8
  refine lv_iload_n hx hb dX12_otherOf_6 rfl (lv_at hl 2 rfl) ?_
  refine lv_icmp_ne (tgt := 19) hx hb dX12_otherOf_7 (by decide) (fun c9 => ?_) (fun c9 => ?_)
  · have c9 : ¬ r1.toInt = a2.toInt := wk_eqF c9
    refine lv_aload_n hx hb dX12_otherOf_19 rfl (lv_at hl 0 rfl) ?_
    refine lv_iload_n hx hb dX12_otherOf_20 rfl (lv_at hl 1 rfl) ?_
    refine lv_iconst (v := 0) hx hb dX12_otherOf_21 (by decide) ?_
    refine tk_Vi hC hK hw hT hA hE hSR kM_at0 (by decide) rfl (k_X12_streetOf_2 l adK adV dC dI cy ad B (by omega) (by omega) qr s1   a1 (show 0 ≤ a1.toInt by omega) (show a1.toInt ≤ 11 by omega) w0 H.size hT ) (cwV 2 hC.2.2.2.2 gX12_otherOf_X12_streetOf rfl rfl rfl (by decide +kernel) ⟨Nat.le_of_ble_eq_true rfl, Nat.le_of_ble_eq_true rfl⟩) rfl hl.1 rfl (Nat.le_of_ble_eq_true rfl) dX12_otherOf_22 (fun r10 w12 H locs hp11 hw => ?_)
    obtain ⟨rfl, hg17⟩ := hp11
    obtain ⟨g14, g15, c16⟩ := hg17
    obtain rfl : r1 = r10 := c7.symm.trans c16
    exact tk_iret hC hr hlocks hK ⟨rfl, (Or.inl ⟨(show 0 ≤ r1.toInt by omega), (show r1.toInt ≤ 9 by omega)⟩)⟩ hw dX12_otherOf_25
  · have c9 : r1.toInt = a2.toInt := wk_eq.mp c9
    refine lv_aload_n hx hb dX12_otherOf_10 rfl (lv_at hl 0 rfl) ?_
    refine lv_iload_n hx hb dX12_otherOf_11 rfl (lv_at hl 1 rfl) ?_
    refine lv_iconst (v := 1) hx hb dX12_otherOf_12 (by decide) ?_
    refine tk_Vi hC hK hw hT hA hE hSR kM_at0 (by decide) rfl (k_X12_streetOf_3 l adK adV dC dI cy ad B (by omega) (by omega) qr s1   a1 (show 0 ≤ a1.toInt by omega) (show a1.toInt ≤ 11 by omega) w0 H.size hT ) (cwV 2 hC.2.2.2.2 gX12_otherOf_X12_streetOf rfl rfl rfl (by decide +kernel) ⟨Nat.le_of_ble_eq_true rfl, Nat.le_of_ble_eq_true rfl⟩) rfl hl.1 rfl (Nat.le_of_ble_eq_true rfl) dX12_otherOf_13 (fun r18 w20 H locs hp19 hw => ?_)
    obtain ⟨rfl, hg25⟩ := hp19
    obtain ⟨g22, g23, c24⟩ := hg25
    refine lv_goto (tgt := 25) hx hb dX12_otherOf_16 (by decide) ?_
    exact tk_iret hC hr hlocks hK ⟨rfl, (Or.inr ⟨(show 0 ≤ r18.toInt by omega), (show r18.toInt ≤ 9 by omega), (c7.trans (wk_eq.mpr (show r1.toInt = a2.toInt by omega)))⟩)⟩ hw dX12_otherOf_25
abbrev P_X12_streetFrom_1 (ad : Nat → Nat) (cy : Nat → ClassId) (B : Int) (qr : Nat) (s1 : Int) (a1 : Int32) (w0 : va_W) : Int32 → va_W → Prop := fun r u => w0 = u ∧ ((0 ≤ r.toInt ∧ r.toInt ≤ 11 ∧ (∃ y : Int32, gi u 12 1 = y ∧ 1 ≤ y.toInt ∧ y.toInt ≤ 12) ∧ gi u 12 (10 * r.toInt + 10).toNat = a1 ∧ gi u 12 (10 * r.toInt + 11).toNat = a1) ∨ (0 ≤ r.toInt ∧ r.toInt ≤ 11 ∧ (∃ y : Int32, gi u 12 1 = y ∧ 1 ≤ y.toInt ∧ y.toInt ≤ 12) ∧ gi u 12 (10 * r.toInt + 10).toNat = a1) ∨ (0 ≤ r.toInt ∧ r.toInt ≤ 11 ∧ (∃ y : Int32, gi u 12 1 = y ∧ 1 ≤ y.toInt ∧ y.toInt ≤ 12) ∧ gi u 12 (10 * r.toInt + 11).toNat = a1) ∨ (r = (-1)))
set_option maxHeartbeats 4000000 in
set_option maxRecDepth 100000 in
theorem k_X12_streetFrom_1 (l : Launch) (adK adV : Nat → Nat) (dC : Nat → ClassId) (dI : Nat → Nat → Nat) (cy : Nat → ClassId) (ad : Nat → Nat) (B : Int) (hB0 : 100000 ≤ B) (hB1 : B ≤ 1073741824) (qr : Nat) (s1 : Int)  (a1 : Int32) (ra1 : 0 ≤ a1.toInt) (ta1 : a1.toInt ≤ 9) (w0 : va_W) (sz : Nat) (hT : TW ksM ad cy B qr 12 w0)  : Met l yX12_streetFrom wsX12_streetFrom ({ frames := 3, cells := 0, slots := 0, locals := 57 }) (va_Pc [.ref (ad 0), .int a1] (wpreS adK adV dC dI cy sz w0)) (va_Qi (P_X12_streetFrom_1 ad cy B qr s1 a1 w0) (fun u : va_W => wpost dC dI cy (va_A w0 sz) u) (va_A w0 sz)) 0 0 (va_A w0 sz) := by
  refine Met.ofW (cc := cX12_streetFrom) (maxL := 3) (ret := (some .int)) (by decide) rfl ?_
  intro p e s m args below meth c s₁ Bk hml hv
  obtain ⟨rfl, ⟨hsz, hP, hK, hD0⟩, hE, hSR⟩ := hv
  have hx := Bk.exec
  have hb := Bk.bytes
  have hr := Bk.returns
  have hlocks := Bk.notSynchronized
  have hC : CallFix p m c cX12_streetFrom 3 s _ wsX12_streetFrom RX12 := ⟨hx, hb, hml, findClass_of_methodNamed Bk.named, atoms_spec (ws := wsX12_streetFrom) Bk.pre⟩
  subst hsz
  have hD := hD0.self (sz := s.heap.size)
  generalize hAe : va_A w0 s.heap.size = A at hD hE ⊢
  have hA : ∀ q : Nat, s.heap.size ≤ q → A q := fun q h => by rw [← hAe]; exact Or.inr h
  have hw : Wd dC dI A s.heap s.heap [] w0 := ⟨hP, hD, va_S.rf⟩
  have hF : FE ksM ([] : List (Nat × Nat × Nat)) w0 w0 := FE.rf
  have hl := lv_entry ([.ref (ad 0), .int a1]) (n := 3) (Nat.le_of_ble_eq_true rfl)
  rw [lg_entry_eq]
  generalize (lg_sl ([.ref (ad 0), .int a1]) ++ List.replicate (3 - (lg_sl ([.ref (ad 0), .int a1])).length) Slot.unset).toArray = ls at hl ⊢
  have hl : lv_has ls 3 [(0, .ref (ad 0)), (1, .int a1)] := hl
  generalize hloc : ([] : List Loc) = locs at hw ⊢
  have hinX12 : ∀ w ∈ u_ws RX12 TX12 42, w ∈ wsX12_streetFrom := fun _ h => List.mem_cons_of_mem _ (List.mem_append_right _ (h))
  have J21 : ∀ (f21_14__a1_toInt_toNat : Int32) (H : Heap) (locs : List Loc) (ls : Array Slot), 0 ≤ a1.toInt → a1.toInt ≤ 9 → 0 ≤ f21_14__a1_toInt_toNat.toInt → f21_14__a1_toInt_toNat.toInt ≤ 100000000 → Wd dC dI A s.heap H locs w0 → gi w0 14 (a1.toInt).toNat = f21_14__a1_toInt_toNat → lv_has ls 3 [(0, .ref (ad 0)), (1, .int a1)] → W p l e ({ frames := 3, cells := 0, slots := 0, locals := 57 }) s m (List.toArray [.ref (ad 0), .int a1]) below meth c H locs 0 0 (MQ below (va_Qi (P_X12_streetFrom_1 ad cy B qr s1 a1 w0) (fun u : va_W => wpost dC dI cy A u) A) (List.toArray [.ref (ad 0), .int a1]) s 0 0 A) (F0 m 21 ls []) := by
    intro f21_14__a1_toInt_toNat H locs ls r1 t2 r3 t4 hw c5 hl
    refine lv_iconst (v := (-1)) hx hb dX12_streetFrom_21 (by decide) ?_
    exact tk_iret hC hr hlocks hK ⟨rfl, (Or.inr (Or.inr (Or.inr rfl)))⟩ hw dX12_streetFrom_22
  have L25 : ∀ (n25 : Nat) (v25_2 : Int32) (f25_14__a1_toInt_toNat : Int32) (H : Heap) (locs : List Loc) (ls : Array Slot), 0 ≤ a1.toInt → a1.toInt ≤ 9 → 0 ≤ v25_2.toInt → v25_2.toInt ≤ 12 → 1 ≤ f25_14__a1_toInt_toNat.toInt → f25_14__a1_toInt_toNat.toInt ≤ 100000100 → (12 - v25_2.toInt).toNat < n25 → Wd dC dI A s.heap H locs w0 → gi w0 14 (a1.toInt).toNat = f25_14__a1_toInt_toNat → lv_has ls 3 [(0, .ref (ad 0)), (1, .int a1), (2, .int v25_2)] → W p l e ({ frames := 3, cells := 0, slots := 0, locals := 57 }) s m (List.toArray [.ref (ad 0), .int a1]) below meth c H locs 0 0 (MQ below (va_Qi (P_X12_streetFrom_1 ad cy B qr s1 a1 w0) (fun u : va_W => wpost dC dI cy A u) A) (List.toArray [.ref (ad 0), .int a1]) s 0 0 A) (F0 m 25 ls []) := by
    intro n25
    induction n25 with
    | zero => intro v25_2 f25_14__a1_toInt_toNat H locs ls r6 t7 r8 t9 r10 t11 hm25 hw c12 hl; omega
    | succ n25 ih25 =>
      intro v25_2 f25_14__a1_toInt_toNat H locs ls r6 t7 r8 t9 r10 t11 hm25 hw c12 hl
      have J88 : ∀ (f88_12_1 : Int32) (H : Heap) (locs : List Loc) (ls : Array Slot), 0 ≤ a1.toInt → a1.toInt ≤ 9 → 0 ≤ v25_2.toInt → v25_2.toInt ≤ 11 → 1 ≤ f88_12_1.toInt → f88_12_1.toInt ≤ 12 → 1 ≤ f25_14__a1_toInt_toNat.toInt → f25_14__a1_toInt_toNat.toInt ≤ 100000100 → Wd dC dI A s.heap H locs w0 → gi w0 12 1 = f88_12_1 → gi w0 14 (a1.toInt).toNat = f25_14__a1_toInt_toNat → lv_has ls 3 [(0, .ref (ad 0)), (1, .int a1), (2, .int v25_2)] → W p l e ({ frames := 3, cells := 0, slots := 0, locals := 57 }) s m (List.toArray [.ref (ad 0), .int a1]) below meth c H locs 0 0 (MQ below (va_Qi (P_X12_streetFrom_1 ad cy B qr s1 a1 w0) (fun u : va_W => wpost dC dI cy A u) A) (List.toArray [.ref (ad 0), .int a1]) s 0 0 A) (F0 m 88 ls []) := by
        intro f88_12_1 H locs ls r13 t14 r15 t16 r17 t18 r20 t21 hw c19 c22 hl
        obtain ⟨x23, ex23⟩ : ∃ y : Int32, y = v25_2 + Int32.ofInt 1 := ⟨_, rfl⟩
        refine lv_iinc (v := x23) (lv' := [(2, .int x23), (0, .ref (ad 0)), (1, .int a1)]) hx hb dX12_streetFrom_88 hl (k := 2) rfl ex23.symm (by decide) rfl (fun ls hl => ?_)
        have ex23 : x23.toInt = v25_2.toInt + 1 := by rw [ex23]; exact wk_add (y := 1) (show -2147483648 ≤ v25_2.toInt + 1 by omega) (show v25_2.toInt + 1 ≤ 2147483647 by omega)
        refine lv_goto (tgt := 25) hx hb dX12_streetFrom_91 (by decide) ?_
        exact ih25 x23 f25_14__a1_toInt_toNat H locs ls  (show 0 ≤ a1.toInt by omega) (show a1.toInt ≤ 9 by omega) (show 0 ≤ x23.toInt by omega) (show x23.toInt ≤ 12 by omega) (show 1 ≤ f25_14__a1_toInt_toNat.toInt by omega) (show f25_14__a1_toInt_toNat.toInt ≤ 100000100 by omega) (show (12 - x23.toInt).toNat < n25 by omega) hw  c22 (lv_sub hl [1, 2, 0] rfl)
      refine lv_iload_n hx hb dX12_streetFrom_25 rfl (lv_at hl 2 rfl) ?_
      refine lv_aload_n hx hb dX12_streetFrom_26 rfl (lv_at hl 0 rfl) ?_
      refine tk_getA hC hK hw hT hinX12 kM_at0 (by decide) rfl 26 (by decide) (List.mem_of_getElem? (i := 3) rfl) rfl rfl dX12_streetFrom_27 ?_
      refine lv_iconst (v := 1) hx hb dX12_streetFrom_30 (by decide) ?_
      refine tk_ialdR hC hK hw hT kM_at12 rfl (by decide) (by decide) dX12_streetFrom_31 (fun x24 c25 Ex24 => ?_)
      have bx24 : 0 ≤ x24.toInt ∧ x24.toInt ≤ 12 := (tk_rg1 rfl).mp Ex24
      have c25 : gi w0 12 1 = x24 := c25
      refine lv_icmp_ge (tgt := 94) hx hb dX12_streetFrom_32 (by decide) (fun c26 => ?_) (fun c26 => ?_)
      · have c26 : x24.toInt ≤ v25_2.toInt := wk_le.mp c26
        refine lv_iconst (v := (-1)) hx hb dX12_streetFrom_94 (by decide) ?_
        exact tk_iret hC hr hlocks hK ⟨rfl, (Or.inr (Or.inr (Or.inr rfl)))⟩ hw dX12_streetFrom_95
      · have c26 : v25_2.toInt < x24.toInt := wk_leF c26
        refine lv_aload_n hx hb dX12_streetFrom_35 rfl (lv_at hl 0 rfl) ?_
        refine lv_iload_n hx hb dX12_streetFrom_36 rfl (lv_at hl 2 rfl) ?_
        refine lv_iload_n hx hb dX12_streetFrom_37 rfl (lv_at hl 1 rfl) ?_
        refine tk_Vi hC hK hw hT hA hE hSR kM_at0 (by decide) rfl (k_X12_isAt_1 l adK adV dC dI cy ad B (by omega) (by omega) qr s1   v25_2 (show 0 ≤ v25_2.toInt by omega) (show v25_2.toInt ≤ 11 by omega) a1 (show 0 ≤ a1.toInt by omega) (show a1.toInt ≤ 9 by omega) w0 H.size hT ) (cwV 2 hC.2.2.2.2 gX12_streetFrom_X12_isAt rfl rfl rfl (by decide +kernel) ⟨Nat.le_of_ble_eq_true rfl, Nat.le_of_ble_eq_true rfl⟩) rfl hl.1 rfl (Nat.le_of_ble_eq_true rfl) dX12_streetFrom_38 (fun r27 w29 H locs hp28 hw => ?_)
        obtain ⟨rfl, hg36⟩ := hp28
        rcases hg36 with ⟨rfl, hq31⟩ | ⟨rfl, c32, hq33⟩ | ⟨rfl, c34, hq35⟩
        · refine lv_if_eq (tgt := 88) hx hb dX12_streetFrom_41 (by decide) (fun _ => ?_) (fun c => absurd (by decide) c)
          exact J88 x24 H locs ls  (show 0 ≤ a1.toInt by omega) (show a1.toInt ≤ 9 by omega) (show 0 ≤ v25_2.toInt by omega) (show v25_2.toInt ≤ 11 by omega) (show 1 ≤ x24.toInt by omega) (show x24.toInt ≤ 12 by omega) (show 1 ≤ f25_14__a1_toInt_toNat.toInt by omega) (show f25_14__a1_toInt_toNat.toInt ≤ 100000100 by omega)  hw  c25 c12 (lv_sub hl [0, 1, 2] rfl)
        · refine lv_if_eq (tgt := 88) hx hb dX12_streetFrom_41 (by decide) (fun c => absurd c (by decide)) (fun _ => ?_)
          refine lv_aload_n hx hb dX12_streetFrom_44 rfl (lv_at hl 0 rfl) ?_
          refine lv_aload_n hx hb dX12_streetFrom_45 rfl (lv_at hl 0 rfl) ?_
          refine tk_getA hC hK hw hT hinX12 kM_at0 (by decide) rfl 28 (by decide) (List.mem_of_getElem? (i := 4) rfl) rfl rfl dX12_streetFrom_46 ?_
          refine lv_iload_n hx hb dX12_streetFrom_49 rfl (lv_at hl 2 rfl) ?_
          refine tk_iald hC hK hw hT kM_at13 rfl rfl (show 0 ≤ v25_2.toInt by omega) (show v25_2.toInt < 12 by omega) dX12_streetFrom_50 (fun x37 c38 rx37 tx37 => ?_)
          refine lv_iload_n hx hb dX12_streetFrom_51 rfl (lv_at hl 2 rfl) ?_
          refine lv_iload_n hx hb dX12_streetFrom_52 rfl (lv_at hl 1 rfl) ?_
          refine tk_Vi hC hK hw hT hA hE hSR kM_at0 (by decide) rfl (k_X12_hasSign_2 l adK adV dC dI cy ad B (by omega) (by omega) qr s1   x37 v25_2 (show 0 ≤ v25_2.toInt by omega) (show v25_2.toInt ≤ 11 by omega) a1 (show 0 ≤ a1.toInt by omega) (show a1.toInt ≤ 9 by omega) w0 H.size hT ) (cwV 3 hC.2.2.2.2 gX12_streetFrom_X12_hasSign rfl rfl rfl (by decide +kernel) ⟨Nat.le_of_ble_eq_true rfl, Nat.le_of_ble_eq_true rfl⟩) rfl hl.1 rfl (Nat.le_of_ble_eq_true rfl) dX12_streetFrom_53 (fun r39 w41 H locs hp40 hw => ?_)
          obtain ⟨rfl, hg49⟩ := hp40
          rcases hg49 with ⟨rfl, hq43⟩ | ⟨rfl, c44, hq45⟩ | ⟨rfl, hq46⟩ | ⟨rfl, c47, hq48⟩
          · refine lv_if_eq (tgt := 88) hx hb dX12_streetFrom_56 (by decide) (fun _ => ?_) (fun c => absurd (by decide) c)
            exact J88 x24 H locs ls  (show 0 ≤ a1.toInt by omega) (show a1.toInt ≤ 9 by omega) (show 0 ≤ v25_2.toInt by omega) (show v25_2.toInt ≤ 11 by omega) (show 1 ≤ x24.toInt by omega) (show x24.toInt ≤ 12 by omega) (show 1 ≤ f25_14__a1_toInt_toNat.toInt by omega) (show f25_14__a1_toInt_toNat.toInt ≤ 100000100 by omega)  hw  c25 c12 (lv_sub hl [0, 1, 2] rfl)
          · refine lv_if_eq (tgt := 88) hx hb dX12_streetFrom_56 (by decide) (fun _ => ?_) (fun c => absurd (by decide) c)
            exact J88 x24 H locs ls  (show 0 ≤ a1.toInt by omega) (show a1.toInt ≤ 9 by omega) (show 0 ≤ v25_2.toInt by omega) (show v25_2.toInt ≤ 11 by omega) (show 1 ≤ x24.toInt by omega) (show x24.toInt ≤ 12 by omega) (show 1 ≤ f25_14__a1_toInt_toNat.toInt by omega) (show f25_14__a1_toInt_toNat.toInt ≤ 100000100 by omega)  hw  c25 c12 (lv_sub hl [0, 1, 2] rfl)
          · refine lv_if_eq (tgt := 88) hx hb dX12_streetFrom_56 (by decide) (fun c => absurd c (by decide)) (fun _ => ?_)
            refine lv_aload_n hx hb dX12_streetFrom_59 rfl (lv_at hl 0 rfl) ?_
            refine lv_iload_n hx hb dX12_streetFrom_60 rfl (lv_at hl 2 rfl) ?_
            refine lv_iconst (v := 2) hx hb dX12_streetFrom_61 (by decide) ?_
            refine tk_Vi hC hK hw hT hA hE hSR kM_at0 (by decide) rfl (k_X12_streetOf_6 l adK adV dC dI cy ad B (by omega) (by omega) qr s1   v25_2 (show 0 ≤ v25_2.toInt by omega) (show v25_2.toInt ≤ 11 by omega) w0 H.size hT ) (cwV 2 hC.2.2.2.2 gX12_streetFrom_X12_streetOf rfl rfl rfl (by decide +kernel) ⟨Nat.le_of_ble_eq_true rfl, Nat.le_of_ble_eq_true rfl⟩) rfl hl.1 rfl (Nat.le_of_ble_eq_true rfl) dX12_streetFrom_62 (fun r50 w52 H locs hp51 hw => ?_)
            obtain ⟨rfl, hg57⟩ := hp51
            obtain ⟨g54, g55, c56⟩ := hg57
            refine lv_aload_n hx hb dX12_streetFrom_65 rfl (lv_at hl 0 rfl) ?_
            refine tk_getA hC hK hw hT hinX12 kM_at0 (by decide) rfl 29 (by decide) (List.mem_of_getElem? (i := 1) rfl) rfl rfl dX12_streetFrom_66 ?_
            refine lv_aload_n hx hb dX12_streetFrom_69 rfl (lv_at hl 0 rfl) ?_
            refine lv_iload_n hx hb dX12_streetFrom_70 rfl (lv_at hl 2 rfl) ?_
            refine lv_iload_n hx hb dX12_streetFrom_71 rfl (lv_at hl 1 rfl) ?_
            refine tk_Vi hC hK hw hT hA hE hSR kM_at0 (by decide) rfl (k_X12_otherOf_1 l adK adV dC dI cy ad B (by omega) (by omega) qr s1   v25_2 (show 0 ≤ v25_2.toInt by omega) (show v25_2.toInt ≤ 11 by omega) a1 (show 0 ≤ a1.toInt by omega) (show a1.toInt ≤ 9 by omega) w0 H.size hT ) (cwV 2 hC.2.2.2.2 gX12_streetFrom_X12_otherOf rfl rfl rfl (by decide +kernel) ⟨Nat.le_of_ble_eq_true rfl, Nat.le_of_ble_eq_true rfl⟩) rfl hl.1 rfl (Nat.le_of_ble_eq_true rfl) dX12_streetFrom_72 (fun r58 w60 H locs hp59 hw => ?_)
            obtain ⟨rfl, hg67⟩ := hp59
            rcases hg67 with ⟨g62, g63⟩ | ⟨g64, g65, c66⟩
            · refine tk_iald hC hK hw hT kM_at14 rfl rfl (show 0 ≤ r58.toInt by omega) (show r58.toInt < 10 by omega) dX12_streetFrom_75 (fun x68 c69 rx68 tx68 => ?_)
              have c69 : gi w0 14 (r58.toInt).toNat = x68 := (congrArg (gi w0 14) (congrArg Int.toNat (show r58.toInt = r58.toInt by omega))).trans c69
              refine lv_iadd hx hb dX12_streetFrom_76 ?_
              refine lv_topi (fun x70 ex70 => ?_)
              have ex70 : x70.toInt = r50.toInt + x68.toInt := by rw [ex70]; exact wk_add (show (-2147483648) ≤ r50.toInt + x68.toInt by omega) (show r50.toInt + x68.toInt ≤ 2147483647 by omega)
              refine lv_aload_n hx hb dX12_streetFrom_77 rfl (lv_at hl 0 rfl) ?_
              refine tk_getA hC hK hw hT hinX12 kM_at0 (by decide) rfl 29 (by decide) (List.mem_of_getElem? (i := 1) rfl) rfl rfl dX12_streetFrom_78 ?_
              refine lv_iload_n hx hb dX12_streetFrom_81 rfl (lv_at hl 1 rfl) ?_
              refine tk_iald hC hK hw hT kM_at14 rfl rfl (show 0 ≤ a1.toInt by omega) (show a1.toInt < 10 by omega) dX12_streetFrom_82 (fun x71 c72 rx71 tx71 => ?_)
              have c72 : gi w0 14 (a1.toInt).toNat = x71 := (congrArg (gi w0 14) (congrArg Int.toNat (show a1.toInt = a1.toInt by omega))).trans c72
              refine wk_top f25_14__a1_toInt_toNat (c72.symm.trans c12) ?_
              refine lv_icmp_ne (tgt := 88) hx hb dX12_streetFrom_83 (by decide) (fun c73 => ?_) (fun c73 => ?_)
              · have c73 : ¬ x70.toInt = f25_14__a1_toInt_toNat.toInt := wk_eqF c73
                exact J88 x24 H locs ls  (show 0 ≤ a1.toInt by omega) (show a1.toInt ≤ 9 by omega) (show 0 ≤ v25_2.toInt by omega) (show v25_2.toInt ≤ 11 by omega) (show 1 ≤ x24.toInt by omega) (show x24.toInt ≤ 12 by omega) (show 1 ≤ f25_14__a1_toInt_toNat.toInt by omega) (show f25_14__a1_toInt_toNat.toInt ≤ 100000100 by omega)  hw  c25 c12 (lv_sub hl [0, 1, 2] rfl)
              · have c73 : x70.toInt = f25_14__a1_toInt_toNat.toInt := wk_eq.mp c73
                refine lv_iload_n hx hb dX12_streetFrom_86 rfl (lv_at hl 2 rfl) ?_
                exact tk_iret hC hr hlocks hK ⟨rfl, (Or.inr (Or.inl ⟨(show 0 ≤ v25_2.toInt by omega), (show v25_2.toInt ≤ 11 by omega), ⟨x24, c25, (show 1 ≤ x24.toInt by omega), (show x24.toInt ≤ 12 by omega)⟩, c32⟩))⟩ hw dX12_streetFrom_87
            · refine tk_iald hC hK hw hT kM_at14 rfl rfl (show 0 ≤ r58.toInt by omega) (show r58.toInt < 10 by omega) dX12_streetFrom_75 (fun x74 c75 rx74 tx74 => ?_)
              have c75 : gi w0 14 (r58.toInt).toNat = x74 := (congrArg (gi w0 14) (congrArg Int.toNat (show r58.toInt = r58.toInt by omega))).trans c75
              refine lv_iadd hx hb dX12_streetFrom_76 ?_
              refine lv_topi (fun x76 ex76 => ?_)
              have ex76 : x76.toInt = r50.toInt + x74.toInt := by rw [ex76]; exact wk_add (show (-2147483648) ≤ r50.toInt + x74.toInt by omega) (show r50.toInt + x74.toInt ≤ 2147483647 by omega)
              refine lv_aload_n hx hb dX12_streetFrom_77 rfl (lv_at hl 0 rfl) ?_
              refine tk_getA hC hK hw hT hinX12 kM_at0 (by decide) rfl 29 (by decide) (List.mem_of_getElem? (i := 1) rfl) rfl rfl dX12_streetFrom_78 ?_
              refine lv_iload_n hx hb dX12_streetFrom_81 rfl (lv_at hl 1 rfl) ?_
              refine tk_iald hC hK hw hT kM_at14 rfl rfl (show 0 ≤ a1.toInt by omega) (show a1.toInt < 10 by omega) dX12_streetFrom_82 (fun x77 c78 rx77 tx77 => ?_)
              have c78 : gi w0 14 (a1.toInt).toNat = x77 := (congrArg (gi w0 14) (congrArg Int.toNat (show a1.toInt = a1.toInt by omega))).trans c78
              refine wk_top f25_14__a1_toInt_toNat (c78.symm.trans c12) ?_
              refine lv_icmp_ne (tgt := 88) hx hb dX12_streetFrom_83 (by decide) (fun c79 => ?_) (fun c79 => ?_)
              · have c79 : ¬ x76.toInt = f25_14__a1_toInt_toNat.toInt := wk_eqF c79
                exact J88 x24 H locs ls  (show 0 ≤ a1.toInt by omega) (show a1.toInt ≤ 9 by omega) (show 0 ≤ v25_2.toInt by omega) (show v25_2.toInt ≤ 11 by omega) (show 1 ≤ x24.toInt by omega) (show x24.toInt ≤ 12 by omega) (show 1 ≤ f25_14__a1_toInt_toNat.toInt by omega) (show f25_14__a1_toInt_toNat.toInt ≤ 100000100 by omega)  hw  c25 c12 (lv_sub hl [0, 1, 2] rfl)
              · have c79 : x76.toInt = f25_14__a1_toInt_toNat.toInt := wk_eq.mp c79
                refine lv_iload_n hx hb dX12_streetFrom_86 rfl (lv_at hl 2 rfl) ?_
                exact tk_iret hC hr hlocks hK ⟨rfl, (Or.inr (Or.inl ⟨(show 0 ≤ v25_2.toInt by omega), (show v25_2.toInt ≤ 11 by omega), ⟨x24, c25, (show 1 ≤ x24.toInt by omega), (show x24.toInt ≤ 12 by omega)⟩, c32⟩))⟩ hw dX12_streetFrom_87
          · refine lv_if_eq (tgt := 88) hx hb dX12_streetFrom_56 (by decide) (fun c => absurd c (by decide)) (fun _ => ?_)
            refine lv_aload_n hx hb dX12_streetFrom_59 rfl (lv_at hl 0 rfl) ?_
            refine lv_iload_n hx hb dX12_streetFrom_60 rfl (lv_at hl 2 rfl) ?_
            refine lv_iconst (v := 2) hx hb dX12_streetFrom_61 (by decide) ?_
            refine tk_Vi hC hK hw hT hA hE hSR kM_at0 (by decide) rfl (k_X12_streetOf_6 l adK adV dC dI cy ad B (by omega) (by omega) qr s1   v25_2 (show 0 ≤ v25_2.toInt by omega) (show v25_2.toInt ≤ 11 by omega) w0 H.size hT ) (cwV 2 hC.2.2.2.2 gX12_streetFrom_X12_streetOf rfl rfl rfl (by decide +kernel) ⟨Nat.le_of_ble_eq_true rfl, Nat.le_of_ble_eq_true rfl⟩) rfl hl.1 rfl (Nat.le_of_ble_eq_true rfl) dX12_streetFrom_62 (fun r80 w82 H locs hp81 hw => ?_)
            obtain ⟨rfl, hg87⟩ := hp81
            obtain ⟨g84, g85, c86⟩ := hg87
            refine lv_aload_n hx hb dX12_streetFrom_65 rfl (lv_at hl 0 rfl) ?_
            refine tk_getA hC hK hw hT hinX12 kM_at0 (by decide) rfl 29 (by decide) (List.mem_of_getElem? (i := 1) rfl) rfl rfl dX12_streetFrom_66 ?_
            refine lv_aload_n hx hb dX12_streetFrom_69 rfl (lv_at hl 0 rfl) ?_
            refine lv_iload_n hx hb dX12_streetFrom_70 rfl (lv_at hl 2 rfl) ?_
            refine lv_iload_n hx hb dX12_streetFrom_71 rfl (lv_at hl 1 rfl) ?_
            refine tk_Vi hC hK hw hT hA hE hSR kM_at0 (by decide) rfl (k_X12_otherOf_1 l adK adV dC dI cy ad B (by omega) (by omega) qr s1   v25_2 (show 0 ≤ v25_2.toInt by omega) (show v25_2.toInt ≤ 11 by omega) a1 (show 0 ≤ a1.toInt by omega) (show a1.toInt ≤ 9 by omega) w0 H.size hT ) (cwV 2 hC.2.2.2.2 gX12_streetFrom_X12_otherOf rfl rfl rfl (by decide +kernel) ⟨Nat.le_of_ble_eq_true rfl, Nat.le_of_ble_eq_true rfl⟩) rfl hl.1 rfl (Nat.le_of_ble_eq_true rfl) dX12_streetFrom_72 (fun r88 w90 H locs hp89 hw => ?_)
            obtain ⟨rfl, hg97⟩ := hp89
            rcases hg97 with ⟨g92, g93⟩ | ⟨g94, g95, c96⟩
            · refine tk_iald hC hK hw hT kM_at14 rfl rfl (show 0 ≤ r88.toInt by omega) (show r88.toInt < 10 by omega) dX12_streetFrom_75 (fun x98 c99 rx98 tx98 => ?_)
              have c99 : gi w0 14 (r88.toInt).toNat = x98 := (congrArg (gi w0 14) (congrArg Int.toNat (show r88.toInt = r88.toInt by omega))).trans c99
              refine lv_iadd hx hb dX12_streetFrom_76 ?_
              refine lv_topi (fun x100 ex100 => ?_)
              have ex100 : x100.toInt = r80.toInt + x98.toInt := by rw [ex100]; exact wk_add (show (-2147483648) ≤ r80.toInt + x98.toInt by omega) (show r80.toInt + x98.toInt ≤ 2147483647 by omega)
              refine lv_aload_n hx hb dX12_streetFrom_77 rfl (lv_at hl 0 rfl) ?_
              refine tk_getA hC hK hw hT hinX12 kM_at0 (by decide) rfl 29 (by decide) (List.mem_of_getElem? (i := 1) rfl) rfl rfl dX12_streetFrom_78 ?_
              refine lv_iload_n hx hb dX12_streetFrom_81 rfl (lv_at hl 1 rfl) ?_
              refine tk_iald hC hK hw hT kM_at14 rfl rfl (show 0 ≤ a1.toInt by omega) (show a1.toInt < 10 by omega) dX12_streetFrom_82 (fun x101 c102 rx101 tx101 => ?_)
              have c102 : gi w0 14 (a1.toInt).toNat = x101 := (congrArg (gi w0 14) (congrArg Int.toNat (show a1.toInt = a1.toInt by omega))).trans c102
              refine wk_top f25_14__a1_toInt_toNat (c102.symm.trans c12) ?_
              refine lv_icmp_ne (tgt := 88) hx hb dX12_streetFrom_83 (by decide) (fun c103 => ?_) (fun c103 => ?_)
              · have c103 : ¬ x100.toInt = f25_14__a1_toInt_toNat.toInt := wk_eqF c103
                exact J88 x24 H locs ls  (show 0 ≤ a1.toInt by omega) (show a1.toInt ≤ 9 by omega) (show 0 ≤ v25_2.toInt by omega) (show v25_2.toInt ≤ 11 by omega) (show 1 ≤ x24.toInt by omega) (show x24.toInt ≤ 12 by omega) (show 1 ≤ f25_14__a1_toInt_toNat.toInt by omega) (show f25_14__a1_toInt_toNat.toInt ≤ 100000100 by omega)  hw  c25 c12 (lv_sub hl [0, 1, 2] rfl)
              · have c103 : x100.toInt = f25_14__a1_toInt_toNat.toInt := wk_eq.mp c103
                refine lv_iload_n hx hb dX12_streetFrom_86 rfl (lv_at hl 2 rfl) ?_
                exact tk_iret hC hr hlocks hK ⟨rfl, (Or.inr (Or.inl ⟨(show 0 ≤ v25_2.toInt by omega), (show v25_2.toInt ≤ 11 by omega), ⟨x24, c25, (show 1 ≤ x24.toInt by omega), (show x24.toInt ≤ 12 by omega)⟩, c32⟩))⟩ hw dX12_streetFrom_87
            · refine tk_iald hC hK hw hT kM_at14 rfl rfl (show 0 ≤ r88.toInt by omega) (show r88.toInt < 10 by omega) dX12_streetFrom_75 (fun x104 c105 rx104 tx104 => ?_)
              have c105 : gi w0 14 (r88.toInt).toNat = x104 := (congrArg (gi w0 14) (congrArg Int.toNat (show r88.toInt = r88.toInt by omega))).trans c105
              refine lv_iadd hx hb dX12_streetFrom_76 ?_
              refine lv_topi (fun x106 ex106 => ?_)
              have ex106 : x106.toInt = r80.toInt + x104.toInt := by rw [ex106]; exact wk_add (show (-2147483648) ≤ r80.toInt + x104.toInt by omega) (show r80.toInt + x104.toInt ≤ 2147483647 by omega)
              refine lv_aload_n hx hb dX12_streetFrom_77 rfl (lv_at hl 0 rfl) ?_
              refine tk_getA hC hK hw hT hinX12 kM_at0 (by decide) rfl 29 (by decide) (List.mem_of_getElem? (i := 1) rfl) rfl rfl dX12_streetFrom_78 ?_
              refine lv_iload_n hx hb dX12_streetFrom_81 rfl (lv_at hl 1 rfl) ?_
              refine tk_iald hC hK hw hT kM_at14 rfl rfl (show 0 ≤ a1.toInt by omega) (show a1.toInt < 10 by omega) dX12_streetFrom_82 (fun x107 c108 rx107 tx107 => ?_)
              have c108 : gi w0 14 (a1.toInt).toNat = x107 := (congrArg (gi w0 14) (congrArg Int.toNat (show a1.toInt = a1.toInt by omega))).trans c108
              refine wk_top f25_14__a1_toInt_toNat (c108.symm.trans c12) ?_
              refine lv_icmp_ne (tgt := 88) hx hb dX12_streetFrom_83 (by decide) (fun c109 => ?_) (fun c109 => ?_)
              · have c109 : ¬ x106.toInt = f25_14__a1_toInt_toNat.toInt := wk_eqF c109
                exact J88 x24 H locs ls  (show 0 ≤ a1.toInt by omega) (show a1.toInt ≤ 9 by omega) (show 0 ≤ v25_2.toInt by omega) (show v25_2.toInt ≤ 11 by omega) (show 1 ≤ x24.toInt by omega) (show x24.toInt ≤ 12 by omega) (show 1 ≤ f25_14__a1_toInt_toNat.toInt by omega) (show f25_14__a1_toInt_toNat.toInt ≤ 100000100 by omega)  hw  c25 c12 (lv_sub hl [0, 1, 2] rfl)
              · have c109 : x106.toInt = f25_14__a1_toInt_toNat.toInt := wk_eq.mp c109
                refine lv_iload_n hx hb dX12_streetFrom_86 rfl (lv_at hl 2 rfl) ?_
                exact tk_iret hC hr hlocks hK ⟨rfl, (Or.inr (Or.inl ⟨(show 0 ≤ v25_2.toInt by omega), (show v25_2.toInt ≤ 11 by omega), ⟨x24, c25, (show 1 ≤ x24.toInt by omega), (show x24.toInt ≤ 12 by omega)⟩, c32⟩))⟩ hw dX12_streetFrom_87
        · refine lv_if_eq (tgt := 88) hx hb dX12_streetFrom_41 (by decide) (fun c => absurd c (by decide)) (fun _ => ?_)
          refine lv_aload_n hx hb dX12_streetFrom_44 rfl (lv_at hl 0 rfl) ?_
          refine lv_aload_n hx hb dX12_streetFrom_45 rfl (lv_at hl 0 rfl) ?_
          refine tk_getA hC hK hw hT hinX12 kM_at0 (by decide) rfl 28 (by decide) (List.mem_of_getElem? (i := 4) rfl) rfl rfl dX12_streetFrom_46 ?_
          refine lv_iload_n hx hb dX12_streetFrom_49 rfl (lv_at hl 2 rfl) ?_
          refine tk_iald hC hK hw hT kM_at13 rfl rfl (show 0 ≤ v25_2.toInt by omega) (show v25_2.toInt < 12 by omega) dX12_streetFrom_50 (fun x110 c111 rx110 tx110 => ?_)
          refine lv_iload_n hx hb dX12_streetFrom_51 rfl (lv_at hl 2 rfl) ?_
          refine lv_iload_n hx hb dX12_streetFrom_52 rfl (lv_at hl 1 rfl) ?_
          refine tk_Vi hC hK hw hT hA hE hSR kM_at0 (by decide) rfl (k_X12_hasSign_2 l adK adV dC dI cy ad B (by omega) (by omega) qr s1   x110 v25_2 (show 0 ≤ v25_2.toInt by omega) (show v25_2.toInt ≤ 11 by omega) a1 (show 0 ≤ a1.toInt by omega) (show a1.toInt ≤ 9 by omega) w0 H.size hT ) (cwV 3 hC.2.2.2.2 gX12_streetFrom_X12_hasSign rfl rfl rfl (by decide +kernel) ⟨Nat.le_of_ble_eq_true rfl, Nat.le_of_ble_eq_true rfl⟩) rfl hl.1 rfl (Nat.le_of_ble_eq_true rfl) dX12_streetFrom_53 (fun r112 w114 H locs hp113 hw => ?_)
          obtain ⟨rfl, hg122⟩ := hp113
          rcases hg122 with ⟨rfl, hq116⟩ | ⟨rfl, c117, hq118⟩ | ⟨rfl, hq119⟩ | ⟨rfl, c120, hq121⟩
          · refine lv_if_eq (tgt := 88) hx hb dX12_streetFrom_56 (by decide) (fun _ => ?_) (fun c => absurd (by decide) c)
            exact J88 x24 H locs ls  (show 0 ≤ a1.toInt by omega) (show a1.toInt ≤ 9 by omega) (show 0 ≤ v25_2.toInt by omega) (show v25_2.toInt ≤ 11 by omega) (show 1 ≤ x24.toInt by omega) (show x24.toInt ≤ 12 by omega) (show 1 ≤ f25_14__a1_toInt_toNat.toInt by omega) (show f25_14__a1_toInt_toNat.toInt ≤ 100000100 by omega)  hw  c25 c12 (lv_sub hl [0, 1, 2] rfl)
          · refine lv_if_eq (tgt := 88) hx hb dX12_streetFrom_56 (by decide) (fun _ => ?_) (fun c => absurd (by decide) c)
            exact J88 x24 H locs ls  (show 0 ≤ a1.toInt by omega) (show a1.toInt ≤ 9 by omega) (show 0 ≤ v25_2.toInt by omega) (show v25_2.toInt ≤ 11 by omega) (show 1 ≤ x24.toInt by omega) (show x24.toInt ≤ 12 by omega) (show 1 ≤ f25_14__a1_toInt_toNat.toInt by omega) (show f25_14__a1_toInt_toNat.toInt ≤ 100000100 by omega)  hw  c25 c12 (lv_sub hl [0, 1, 2] rfl)
          · refine lv_if_eq (tgt := 88) hx hb dX12_streetFrom_56 (by decide) (fun c => absurd c (by decide)) (fun _ => ?_)
            refine lv_aload_n hx hb dX12_streetFrom_59 rfl (lv_at hl 0 rfl) ?_
            refine lv_iload_n hx hb dX12_streetFrom_60 rfl (lv_at hl 2 rfl) ?_
            refine lv_iconst (v := 2) hx hb dX12_streetFrom_61 (by decide) ?_
            refine tk_Vi hC hK hw hT hA hE hSR kM_at0 (by decide) rfl (k_X12_streetOf_6 l adK adV dC dI cy ad B (by omega) (by omega) qr s1   v25_2 (show 0 ≤ v25_2.toInt by omega) (show v25_2.toInt ≤ 11 by omega) w0 H.size hT ) (cwV 2 hC.2.2.2.2 gX12_streetFrom_X12_streetOf rfl rfl rfl (by decide +kernel) ⟨Nat.le_of_ble_eq_true rfl, Nat.le_of_ble_eq_true rfl⟩) rfl hl.1 rfl (Nat.le_of_ble_eq_true rfl) dX12_streetFrom_62 (fun r123 w125 H locs hp124 hw => ?_)
            obtain ⟨rfl, hg130⟩ := hp124
            obtain ⟨g127, g128, c129⟩ := hg130
            refine lv_aload_n hx hb dX12_streetFrom_65 rfl (lv_at hl 0 rfl) ?_
            refine tk_getA hC hK hw hT hinX12 kM_at0 (by decide) rfl 29 (by decide) (List.mem_of_getElem? (i := 1) rfl) rfl rfl dX12_streetFrom_66 ?_
            refine lv_aload_n hx hb dX12_streetFrom_69 rfl (lv_at hl 0 rfl) ?_
            refine lv_iload_n hx hb dX12_streetFrom_70 rfl (lv_at hl 2 rfl) ?_
            refine lv_iload_n hx hb dX12_streetFrom_71 rfl (lv_at hl 1 rfl) ?_
            refine tk_Vi hC hK hw hT hA hE hSR kM_at0 (by decide) rfl (k_X12_otherOf_1 l adK adV dC dI cy ad B (by omega) (by omega) qr s1   v25_2 (show 0 ≤ v25_2.toInt by omega) (show v25_2.toInt ≤ 11 by omega) a1 (show 0 ≤ a1.toInt by omega) (show a1.toInt ≤ 9 by omega) w0 H.size hT ) (cwV 2 hC.2.2.2.2 gX12_streetFrom_X12_otherOf rfl rfl rfl (by decide +kernel) ⟨Nat.le_of_ble_eq_true rfl, Nat.le_of_ble_eq_true rfl⟩) rfl hl.1 rfl (Nat.le_of_ble_eq_true rfl) dX12_streetFrom_72 (fun r131 w133 H locs hp132 hw => ?_)
            obtain ⟨rfl, hg140⟩ := hp132
            rcases hg140 with ⟨g135, g136⟩ | ⟨g137, g138, c139⟩
            · refine tk_iald hC hK hw hT kM_at14 rfl rfl (show 0 ≤ r131.toInt by omega) (show r131.toInt < 10 by omega) dX12_streetFrom_75 (fun x141 c142 rx141 tx141 => ?_)
              have c142 : gi w0 14 (r131.toInt).toNat = x141 := (congrArg (gi w0 14) (congrArg Int.toNat (show r131.toInt = r131.toInt by omega))).trans c142
              refine lv_iadd hx hb dX12_streetFrom_76 ?_
              refine lv_topi (fun x143 ex143 => ?_)
              have ex143 : x143.toInt = r123.toInt + x141.toInt := by rw [ex143]; exact wk_add (show (-2147483648) ≤ r123.toInt + x141.toInt by omega) (show r123.toInt + x141.toInt ≤ 2147483647 by omega)
              refine lv_aload_n hx hb dX12_streetFrom_77 rfl (lv_at hl 0 rfl) ?_
              refine tk_getA hC hK hw hT hinX12 kM_at0 (by decide) rfl 29 (by decide) (List.mem_of_getElem? (i := 1) rfl) rfl rfl dX12_streetFrom_78 ?_
              refine lv_iload_n hx hb dX12_streetFrom_81 rfl (lv_at hl 1 rfl) ?_
              refine tk_iald hC hK hw hT kM_at14 rfl rfl (show 0 ≤ a1.toInt by omega) (show a1.toInt < 10 by omega) dX12_streetFrom_82 (fun x144 c145 rx144 tx144 => ?_)
              have c145 : gi w0 14 (a1.toInt).toNat = x144 := (congrArg (gi w0 14) (congrArg Int.toNat (show a1.toInt = a1.toInt by omega))).trans c145
              refine wk_top f25_14__a1_toInt_toNat (c145.symm.trans c12) ?_
              refine lv_icmp_ne (tgt := 88) hx hb dX12_streetFrom_83 (by decide) (fun c146 => ?_) (fun c146 => ?_)
              · have c146 : ¬ x143.toInt = f25_14__a1_toInt_toNat.toInt := wk_eqF c146
                exact J88 x24 H locs ls  (show 0 ≤ a1.toInt by omega) (show a1.toInt ≤ 9 by omega) (show 0 ≤ v25_2.toInt by omega) (show v25_2.toInt ≤ 11 by omega) (show 1 ≤ x24.toInt by omega) (show x24.toInt ≤ 12 by omega) (show 1 ≤ f25_14__a1_toInt_toNat.toInt by omega) (show f25_14__a1_toInt_toNat.toInt ≤ 100000100 by omega)  hw  c25 c12 (lv_sub hl [0, 1, 2] rfl)
              · have c146 : x143.toInt = f25_14__a1_toInt_toNat.toInt := wk_eq.mp c146
                refine lv_iload_n hx hb dX12_streetFrom_86 rfl (lv_at hl 2 rfl) ?_
                exact tk_iret hC hr hlocks hK ⟨rfl, (Or.inr (Or.inr (Or.inl ⟨(show 0 ≤ v25_2.toInt by omega), (show v25_2.toInt ≤ 11 by omega), ⟨x24, c25, (show 1 ≤ x24.toInt by omega), (show x24.toInt ≤ 12 by omega)⟩, c34⟩)))⟩ hw dX12_streetFrom_87
            · refine tk_iald hC hK hw hT kM_at14 rfl rfl (show 0 ≤ r131.toInt by omega) (show r131.toInt < 10 by omega) dX12_streetFrom_75 (fun x147 c148 rx147 tx147 => ?_)
              have c148 : gi w0 14 (r131.toInt).toNat = x147 := (congrArg (gi w0 14) (congrArg Int.toNat (show r131.toInt = r131.toInt by omega))).trans c148
              refine lv_iadd hx hb dX12_streetFrom_76 ?_
              refine lv_topi (fun x149 ex149 => ?_)
              have ex149 : x149.toInt = r123.toInt + x147.toInt := by rw [ex149]; exact wk_add (show (-2147483648) ≤ r123.toInt + x147.toInt by omega) (show r123.toInt + x147.toInt ≤ 2147483647 by omega)
              refine lv_aload_n hx hb dX12_streetFrom_77 rfl (lv_at hl 0 rfl) ?_
              refine tk_getA hC hK hw hT hinX12 kM_at0 (by decide) rfl 29 (by decide) (List.mem_of_getElem? (i := 1) rfl) rfl rfl dX12_streetFrom_78 ?_
              refine lv_iload_n hx hb dX12_streetFrom_81 rfl (lv_at hl 1 rfl) ?_
              refine tk_iald hC hK hw hT kM_at14 rfl rfl (show 0 ≤ a1.toInt by omega) (show a1.toInt < 10 by omega) dX12_streetFrom_82 (fun x150 c151 rx150 tx150 => ?_)
              have c151 : gi w0 14 (a1.toInt).toNat = x150 := (congrArg (gi w0 14) (congrArg Int.toNat (show a1.toInt = a1.toInt by omega))).trans c151
              refine wk_top f25_14__a1_toInt_toNat (c151.symm.trans c12) ?_
              refine lv_icmp_ne (tgt := 88) hx hb dX12_streetFrom_83 (by decide) (fun c152 => ?_) (fun c152 => ?_)
              · have c152 : ¬ x149.toInt = f25_14__a1_toInt_toNat.toInt := wk_eqF c152
                exact J88 x24 H locs ls  (show 0 ≤ a1.toInt by omega) (show a1.toInt ≤ 9 by omega) (show 0 ≤ v25_2.toInt by omega) (show v25_2.toInt ≤ 11 by omega) (show 1 ≤ x24.toInt by omega) (show x24.toInt ≤ 12 by omega) (show 1 ≤ f25_14__a1_toInt_toNat.toInt by omega) (show f25_14__a1_toInt_toNat.toInt ≤ 100000100 by omega)  hw  c25 c12 (lv_sub hl [0, 1, 2] rfl)
              · have c152 : x149.toInt = f25_14__a1_toInt_toNat.toInt := wk_eq.mp c152
                refine lv_iload_n hx hb dX12_streetFrom_86 rfl (lv_at hl 2 rfl) ?_
                exact tk_iret hC hr hlocks hK ⟨rfl, (Or.inl ⟨(show 0 ≤ v25_2.toInt by omega), (show v25_2.toInt ≤ 11 by omega), ⟨x24, c25, (show 1 ≤ x24.toInt by omega), (show x24.toInt ≤ 12 by omega)⟩, c139, c34⟩)⟩ hw dX12_streetFrom_87
          · refine lv_if_eq (tgt := 88) hx hb dX12_streetFrom_56 (by decide) (fun c => absurd c (by decide)) (fun _ => ?_)
            refine lv_aload_n hx hb dX12_streetFrom_59 rfl (lv_at hl 0 rfl) ?_
            refine lv_iload_n hx hb dX12_streetFrom_60 rfl (lv_at hl 2 rfl) ?_
            refine lv_iconst (v := 2) hx hb dX12_streetFrom_61 (by decide) ?_
            refine tk_Vi hC hK hw hT hA hE hSR kM_at0 (by decide) rfl (k_X12_streetOf_6 l adK adV dC dI cy ad B (by omega) (by omega) qr s1   v25_2 (show 0 ≤ v25_2.toInt by omega) (show v25_2.toInt ≤ 11 by omega) w0 H.size hT ) (cwV 2 hC.2.2.2.2 gX12_streetFrom_X12_streetOf rfl rfl rfl (by decide +kernel) ⟨Nat.le_of_ble_eq_true rfl, Nat.le_of_ble_eq_true rfl⟩) rfl hl.1 rfl (Nat.le_of_ble_eq_true rfl) dX12_streetFrom_62 (fun r153 w155 H locs hp154 hw => ?_)
            obtain ⟨rfl, hg160⟩ := hp154
            obtain ⟨g157, g158, c159⟩ := hg160
            refine lv_aload_n hx hb dX12_streetFrom_65 rfl (lv_at hl 0 rfl) ?_
            refine tk_getA hC hK hw hT hinX12 kM_at0 (by decide) rfl 29 (by decide) (List.mem_of_getElem? (i := 1) rfl) rfl rfl dX12_streetFrom_66 ?_
            refine lv_aload_n hx hb dX12_streetFrom_69 rfl (lv_at hl 0 rfl) ?_
            refine lv_iload_n hx hb dX12_streetFrom_70 rfl (lv_at hl 2 rfl) ?_
            refine lv_iload_n hx hb dX12_streetFrom_71 rfl (lv_at hl 1 rfl) ?_
            refine tk_Vi hC hK hw hT hA hE hSR kM_at0 (by decide) rfl (k_X12_otherOf_1 l adK adV dC dI cy ad B (by omega) (by omega) qr s1   v25_2 (show 0 ≤ v25_2.toInt by omega) (show v25_2.toInt ≤ 11 by omega) a1 (show 0 ≤ a1.toInt by omega) (show a1.toInt ≤ 9 by omega) w0 H.size hT ) (cwV 2 hC.2.2.2.2 gX12_streetFrom_X12_otherOf rfl rfl rfl (by decide +kernel) ⟨Nat.le_of_ble_eq_true rfl, Nat.le_of_ble_eq_true rfl⟩) rfl hl.1 rfl (Nat.le_of_ble_eq_true rfl) dX12_streetFrom_72 (fun r161 w163 H locs hp162 hw => ?_)
            obtain ⟨rfl, hg170⟩ := hp162
            rcases hg170 with ⟨g165, g166⟩ | ⟨g167, g168, c169⟩
            · refine tk_iald hC hK hw hT kM_at14 rfl rfl (show 0 ≤ r161.toInt by omega) (show r161.toInt < 10 by omega) dX12_streetFrom_75 (fun x171 c172 rx171 tx171 => ?_)
              have c172 : gi w0 14 (r161.toInt).toNat = x171 := (congrArg (gi w0 14) (congrArg Int.toNat (show r161.toInt = r161.toInt by omega))).trans c172
              refine lv_iadd hx hb dX12_streetFrom_76 ?_
              refine lv_topi (fun x173 ex173 => ?_)
              have ex173 : x173.toInt = r153.toInt + x171.toInt := by rw [ex173]; exact wk_add (show (-2147483648) ≤ r153.toInt + x171.toInt by omega) (show r153.toInt + x171.toInt ≤ 2147483647 by omega)
              refine lv_aload_n hx hb dX12_streetFrom_77 rfl (lv_at hl 0 rfl) ?_
              refine tk_getA hC hK hw hT hinX12 kM_at0 (by decide) rfl 29 (by decide) (List.mem_of_getElem? (i := 1) rfl) rfl rfl dX12_streetFrom_78 ?_
              refine lv_iload_n hx hb dX12_streetFrom_81 rfl (lv_at hl 1 rfl) ?_
              refine tk_iald hC hK hw hT kM_at14 rfl rfl (show 0 ≤ a1.toInt by omega) (show a1.toInt < 10 by omega) dX12_streetFrom_82 (fun x174 c175 rx174 tx174 => ?_)
              have c175 : gi w0 14 (a1.toInt).toNat = x174 := (congrArg (gi w0 14) (congrArg Int.toNat (show a1.toInt = a1.toInt by omega))).trans c175
              refine wk_top f25_14__a1_toInt_toNat (c175.symm.trans c12) ?_
              refine lv_icmp_ne (tgt := 88) hx hb dX12_streetFrom_83 (by decide) (fun c176 => ?_) (fun c176 => ?_)
              · have c176 : ¬ x173.toInt = f25_14__a1_toInt_toNat.toInt := wk_eqF c176
                exact J88 x24 H locs ls  (show 0 ≤ a1.toInt by omega) (show a1.toInt ≤ 9 by omega) (show 0 ≤ v25_2.toInt by omega) (show v25_2.toInt ≤ 11 by omega) (show 1 ≤ x24.toInt by omega) (show x24.toInt ≤ 12 by omega) (show 1 ≤ f25_14__a1_toInt_toNat.toInt by omega) (show f25_14__a1_toInt_toNat.toInt ≤ 100000100 by omega)  hw  c25 c12 (lv_sub hl [0, 1, 2] rfl)
              · have c176 : x173.toInt = f25_14__a1_toInt_toNat.toInt := wk_eq.mp c176
                refine lv_iload_n hx hb dX12_streetFrom_86 rfl (lv_at hl 2 rfl) ?_
                exact tk_iret hC hr hlocks hK ⟨rfl, (Or.inl ⟨(show 0 ≤ v25_2.toInt by omega), (show v25_2.toInt ≤ 11 by omega), ⟨x24, c25, (show 1 ≤ x24.toInt by omega), (show x24.toInt ≤ 12 by omega)⟩, c120, c34⟩)⟩ hw dX12_streetFrom_87
            · refine tk_iald hC hK hw hT kM_at14 rfl rfl (show 0 ≤ r161.toInt by omega) (show r161.toInt < 10 by omega) dX12_streetFrom_75 (fun x177 c178 rx177 tx177 => ?_)
              have c178 : gi w0 14 (r161.toInt).toNat = x177 := (congrArg (gi w0 14) (congrArg Int.toNat (show r161.toInt = r161.toInt by omega))).trans c178
              refine lv_iadd hx hb dX12_streetFrom_76 ?_
              refine lv_topi (fun x179 ex179 => ?_)
              have ex179 : x179.toInt = r153.toInt + x177.toInt := by rw [ex179]; exact wk_add (show (-2147483648) ≤ r153.toInt + x177.toInt by omega) (show r153.toInt + x177.toInt ≤ 2147483647 by omega)
              refine lv_aload_n hx hb dX12_streetFrom_77 rfl (lv_at hl 0 rfl) ?_
              refine tk_getA hC hK hw hT hinX12 kM_at0 (by decide) rfl 29 (by decide) (List.mem_of_getElem? (i := 1) rfl) rfl rfl dX12_streetFrom_78 ?_
              refine lv_iload_n hx hb dX12_streetFrom_81 rfl (lv_at hl 1 rfl) ?_
              refine tk_iald hC hK hw hT kM_at14 rfl rfl (show 0 ≤ a1.toInt by omega) (show a1.toInt < 10 by omega) dX12_streetFrom_82 (fun x180 c181 rx180 tx180 => ?_)
              have c181 : gi w0 14 (a1.toInt).toNat = x180 := (congrArg (gi w0 14) (congrArg Int.toNat (show a1.toInt = a1.toInt by omega))).trans c181
              refine wk_top f25_14__a1_toInt_toNat (c181.symm.trans c12) ?_
              refine lv_icmp_ne (tgt := 88) hx hb dX12_streetFrom_83 (by decide) (fun c182 => ?_) (fun c182 => ?_)
              · have c182 : ¬ x179.toInt = f25_14__a1_toInt_toNat.toInt := wk_eqF c182
                exact J88 x24 H locs ls  (show 0 ≤ a1.toInt by omega) (show a1.toInt ≤ 9 by omega) (show 0 ≤ v25_2.toInt by omega) (show v25_2.toInt ≤ 11 by omega) (show 1 ≤ x24.toInt by omega) (show x24.toInt ≤ 12 by omega) (show 1 ≤ f25_14__a1_toInt_toNat.toInt by omega) (show f25_14__a1_toInt_toNat.toInt ≤ 100000100 by omega)  hw  c25 c12 (lv_sub hl [0, 1, 2] rfl)
              · have c182 : x179.toInt = f25_14__a1_toInt_toNat.toInt := wk_eq.mp c182
                refine lv_iload_n hx hb dX12_streetFrom_86 rfl (lv_at hl 2 rfl) ?_
                exact tk_iret hC hr hlocks hK ⟨rfl, (Or.inl ⟨(show 0 ≤ v25_2.toInt by omega), (show v25_2.toInt ≤ 11 by omega), ⟨x24, c25, (show 1 ≤ x24.toInt by omega), (show x24.toInt ≤ 12 by omega)⟩, c120, c34⟩)⟩ hw dX12_streetFrom_87
  refine lv_aload_n hx hb dX12_streetFrom_0 rfl (lv_at hl 0 rfl) ?_
  refine tk_getA hC hK hw hT hinX12 kM_at0 (by decide) rfl 29 (by decide) (List.mem_of_getElem? (i := 1) rfl) rfl rfl dX12_streetFrom_1 ?_
  refine lv_iload_n hx hb dX12_streetFrom_4 rfl (lv_at hl 1 rfl) ?_
  refine tk_iald hC hK hw hT kM_at14 rfl rfl (show 0 ≤ a1.toInt by omega) (show a1.toInt < 10 by omega) dX12_streetFrom_5 (fun x183 c184 rx183 tx183 => ?_)
  have c184 : gi w0 14 (a1.toInt).toNat = x183 := (congrArg (gi w0 14) (congrArg Int.toNat (show a1.toInt = a1.toInt by omega))).trans c184
  refine lv_if_eq (tgt := 21) hx hb dX12_streetFrom_6 (by decide) (fun c185 => ?_) (fun c185 => ?_)
  · have c185 : x183.toInt = (0 : Int) := wk_eq.mp c185
    exact J21 x183 s.heap locs ls  (show 0 ≤ a1.toInt by omega) (show a1.toInt ≤ 9 by omega) (show 0 ≤ x183.toInt by omega) (show x183.toInt ≤ 100000000 by omega)  hw  c184 (lv_sub hl [0, 1] rfl)
  · have c185 : ¬ x183.toInt = (0 : Int) := wk_eqF c185
    refine lv_aload_n hx hb dX12_streetFrom_9 rfl (lv_at hl 0 rfl) ?_
    refine tk_getA hC hK hw hT hinX12 kM_at0 (by decide) rfl 29 (by decide) (List.mem_of_getElem? (i := 1) rfl) rfl rfl dX12_streetFrom_10 ?_
    refine lv_iload_n hx hb dX12_streetFrom_13 rfl (lv_at hl 1 rfl) ?_
    refine tk_iald hC hK hw hT kM_at14 rfl rfl (show 0 ≤ a1.toInt by omega) (show a1.toInt < 10 by omega) dX12_streetFrom_14 (fun x186 c187 rx186 tx186 => ?_)
    have c187 : gi w0 14 (a1.toInt).toNat = x186 := (congrArg (gi w0 14) (congrArg Int.toNat (show a1.toInt = a1.toInt by omega))).trans c187
    refine wk_top x183 (c187.symm.trans c184) ?_
    refine lv_ldcw (v := 100000000) hx hb hC.2.2.2.1 (hC.2.2.2.2 _ (List.mem_of_getElem? (i := 2) rfl)) dX12_streetFrom_15 ?_
    refine lv_icmp_ne (tgt := 23) hx hb dX12_streetFrom_18 (by decide) (fun c188 => ?_) (fun c188 => ?_)
    · have c188 : ¬ x183.toInt = (100000000 : Int) := wk_eqF c188
      refine lv_iconst (v := 0) hx hb dX12_streetFrom_23 (by decide) ?_
      refine lv_istore_n (lv' := [(2, .int 0), (0, .ref (ad 0)), (1, .int a1)]) hx hb dX12_streetFrom_24 rfl hl (by decide) rfl (fun ls hl => ?_)
      exact L25 ((12 - (0 : Int)).toNat + 1) 0 x183 s.heap locs ls  (show 0 ≤ a1.toInt by omega) (show a1.toInt ≤ 9 by omega) (by decide) (by decide) (show 1 ≤ x183.toInt by omega) (show x183.toInt ≤ 100000100 by omega) (Nat.lt_succ_self _) hw  c184 (lv_sub hl [1, 2, 0] rfl)
    · have c188 : x183.toInt = (100000000 : Int) := wk_eq.mp c188
      exact J21 x183 s.heap locs ls  (show 0 ≤ a1.toInt by omega) (show a1.toInt ≤ 9 by omega) (show 0 ≤ x183.toInt by omega) (show x183.toInt ≤ 100000000 by omega)  hw  c184 (lv_sub hl [0, 1] rfl)
abbrev P_X12_takesMap_1 (ad : Nat → Nat) (cy : Nat → ClassId) (B : Int) (qr : Nat) (s1 : Int) (a1 : Int32) (w0 : va_W) : va_W → Prop := fun u => TW ksM ad cy B qr 12 u ∧ FE ksM [(72, 0, 12)] w0 u ∧ ((True))
set_option maxHeartbeats 4000000 in
set_option maxRecDepth 100000 in
theorem k_X12_takesMap_1 (l : Launch) (adK adV : Nat → Nat) (dC : Nat → ClassId) (dI : Nat → Nat → Nat) (cy : Nat → ClassId) (ad : Nat → Nat) (B : Int) (hB0 : 100000 ≤ B) (hB1 : B ≤ 1073741824) (qr : Nat) (s1 : Int)  (a1 : Int32) (ra1 : 0 ≤ a1.toInt) (ta1 : a1.toInt ≤ 3) (w0 : va_W) (sz : Nat) (hT : TW ksM ad cy B qr 12 w0)  : Met l yX12_takesMap wsX12_takesMap ({ frames := 1, cells := 0, slots := 0, locals := 12 }) (va_Pc [.ref (ad 0), .int a1] (wpreS adK adV dC dI cy sz w0)) (va_Qv (P_X12_takesMap_1 ad cy B qr s1 a1 w0) (fun u : va_W => wpost dC dI cy (va_A w0 sz) u) (va_A w0 sz)) 0 0 (va_A w0 sz) := by
  refine Met.ofW (cc := cX12_takesMap) (maxL := 3) (ret := none) (by decide) rfl ?_
  intro p e s m args below meth c s₁ Bk hml hv
  obtain ⟨rfl, ⟨hsz, hP, hK, hD0⟩, hE, hSR⟩ := hv
  have hx := Bk.exec
  have hb := Bk.bytes
  have hr := Bk.returns
  have hlocks := Bk.notSynchronized
  have hC : CallFix p m c cX12_takesMap 3 s _ wsX12_takesMap RX12 := ⟨hx, hb, hml, findClass_of_methodNamed Bk.named, atoms_spec (ws := wsX12_takesMap) Bk.pre⟩
  subst hsz
  have hD := hD0.self (sz := s.heap.size)
  generalize hAe : va_A w0 s.heap.size = A at hD hE ⊢
  have hA : ∀ q : Nat, s.heap.size ≤ q → A q := fun q h => by rw [← hAe]; exact Or.inr h
  have hw : Wd dC dI A s.heap s.heap [] w0 := ⟨hP, hD, va_S.rf⟩
  have hF : FE ksM [(72, 0, 12)] w0 w0 := FE.rf
  have hl := lv_entry ([.ref (ad 0), .int a1]) (n := 3) (Nat.le_of_ble_eq_true rfl)
  rw [lg_entry_eq]
  generalize (lg_sl ([.ref (ad 0), .int a1]) ++ List.replicate (3 - (lg_sl ([.ref (ad 0), .int a1])).length) Slot.unset).toArray = ls at hl ⊢
  have hl : lv_has ls 3 [(0, .ref (ad 0)), (1, .int a1)] := hl
  generalize hloc : ([] : List Loc) = locs at hw ⊢
  have hinX12 : ∀ w ∈ u_ws RX12 TX12 42, w ∈ wsX12_takesMap := fun _ h => List.mem_cons_of_mem _ (List.mem_append_right _ (h))
  have L2 : ∀ (n2 : Nat) (v2_2 : Int32) (H : Heap) (locs : List Loc) (ls : Array Slot) (w1 : va_W), 0 ≤ a1.toInt → a1.toInt ≤ 3 → 0 ≤ v2_2.toInt → v2_2.toInt ≤ 12 → (12 - v2_2.toInt).toNat < n2 → Wd dC dI A s.heap H locs w1 → TW ksM ad cy B qr 12 w1 → FE ksM [(72, 0, 12)] w0 w1 → lv_has ls 3 [(0, .ref (ad 0)), (1, .int a1), (2, .int v2_2)] → W p l e ({ frames := 1, cells := 0, slots := 0, locals := 12 }) s m (List.toArray [.ref (ad 0), .int a1]) below meth c H locs 0 0 (MQ below (va_Qv (P_X12_takesMap_1 ad cy B qr s1 a1 w0) (fun u : va_W => wpost dC dI cy A u) A) (List.toArray [.ref (ad 0), .int a1]) s 0 0 A) (F0 m 2 ls []) := by
    intro n2
    induction n2 with
    | zero => intro v2_2 H locs ls w1 r2 t3 r4 t5 hm2 hw hT hF hl; omega
    | succ n2 ih2 =>
      intro v2_2 H locs ls w1 r2 t3 r4 t5 hm2 hw hT hF hl
      refine lv_iload_n hx hb dX12_takesMap_2 rfl (lv_at hl 2 rfl) ?_
      refine lv_aload_n hx hb dX12_takesMap_3 rfl (lv_at hl 0 rfl) ?_
      refine tk_getA hC hK hw hT hinX12 kM_at0 (by decide) rfl 26 (by decide) (List.mem_of_getElem? (i := 1) rfl) rfl rfl dX12_takesMap_4 ?_
      refine lv_iconst (v := 1) hx hb dX12_takesMap_7 (by decide) ?_
      refine tk_ialdR hC hK hw hT kM_at12 rfl (by decide) (by decide) dX12_takesMap_8 (fun x6 c7 Ex6 => ?_)
      have bx6 : 0 ≤ x6.toInt ∧ x6.toInt ≤ 12 := (tk_rg1 rfl).mp Ex6
      have c7 : gi w1 12 1 = x6 := c7
      refine lv_icmp_ge (tgt := 39) hx hb dX12_takesMap_9 (by decide) (fun c8 => ?_) (fun c8 => ?_)
      · have c8 : x6.toInt ≤ v2_2.toInt := wk_le.mp c8
        exact tk_vret hC hr hlocks hK ⟨hT, hF, trivial⟩ hw dX12_takesMap_39
      · have c8 : v2_2.toInt < x6.toInt := wk_leF c8
        refine lv_aload_n hx hb dX12_takesMap_12 rfl (lv_at hl 0 rfl) ?_
        refine tk_getA hC hK hw hT hinX12 kM_at0 (by decide) rfl 28 (by decide) (List.mem_of_getElem? (i := 2) rfl) rfl rfl dX12_takesMap_13 ?_
        refine lv_iload_n hx hb dX12_takesMap_16 rfl (lv_at hl 2 rfl) ?_
        refine lv_aload_n hx hb dX12_takesMap_17 rfl (lv_at hl 0 rfl) ?_
        refine tk_getA hC hK hw hT hinX12 kM_at0 (by decide) rfl 26 (by decide) (List.mem_of_getElem? (i := 1) rfl) rfl rfl dX12_takesMap_18 ?_
        refine lv_sipush (v := 168) hx hb dX12_takesMap_21 (by decide) ?_
        refine lv_bipush (v := 12) hx hb dX12_takesMap_24 (by decide) ?_
        refine lv_iload_n hx hb dX12_takesMap_26 rfl (lv_at hl 1 rfl) ?_
        refine lv_imul hx hb dX12_takesMap_27 ?_
        refine lv_topi (fun x9 ex9 => ?_)
        have ex9 : x9.toInt = (12 : Int) * a1.toInt := by rw [ex9]; exact wk_mul (show (-2147483648) ≤ (12 : Int) * a1.toInt by omega) (show (12 : Int) * a1.toInt ≤ 2147483647 by omega)
        refine lv_iadd hx hb dX12_takesMap_28 ?_
        refine lv_topi (fun x10 ex10 => ?_)
        have ex10 : x10.toInt = (168 : Int) + x9.toInt := by rw [ex10]; exact wk_add (show (-2147483648) ≤ (168 : Int) + x9.toInt by omega) (show (168 : Int) + x9.toInt ≤ 2147483647 by omega)
        refine lv_iload_n hx hb dX12_takesMap_29 rfl (lv_at hl 2 rfl) ?_
        refine lv_iadd hx hb dX12_takesMap_30 ?_
        refine lv_topi (fun x11 ex11 => ?_)
        have ex11 : x11.toInt = x10.toInt + v2_2.toInt := by rw [ex11]; exact wk_add (show (-2147483648) ≤ x10.toInt + v2_2.toInt by omega) (show x10.toInt + v2_2.toInt ≤ 2147483647 by omega)
        refine tk_ialdR hC hK hw hT kM_at12 rfl (show 0 ≤ x11.toInt by omega) (show x11.toInt < 296 by omega) dX12_takesMap_31 (fun x12 c13 Ex12 => ?_)
        have c13 : gi w1 12 (12 * a1.toInt + 1 * v2_2.toInt + 168).toNat = x12 := (congrArg (gi w1 12) (congrArg Int.toNat (show 12 * a1.toInt + 1 * v2_2.toInt + 168 = x11.toInt by omega))).trans c13
        refine tk_iast hC hK hw hT kM_at13 (by decide) rfl rfl (show 0 ≤ v2_2.toInt by omega) (show v2_2.toInt < 12 by omega) (wk_i32 x12).1 (wk_i32 x12).2 dX12_takesMap_32 (fun H locs w14 hw hT k16 c15 => ?_)
        have hF := hF.put kM_at13 (inE_of (a := 0) (b := 12) (by decide) (show 0 ≤ v2_2.toInt.toNat by omega) (show v2_2.toInt.toNat ≤ 12 by omega)) k16
        have c17 := k16.gi (Or.inl (tk_ne kM_at12 kM_at13 (by decide))) c7
        have c18 := k16.gi (Or.inl (tk_ne kM_at12 kM_at13 (by decide))) c13
        obtain ⟨x19, ex19⟩ : ∃ y : Int32, y = v2_2 + Int32.ofInt 1 := ⟨_, rfl⟩
        refine lv_iinc (v := x19) (lv' := [(2, .int x19), (0, .ref (ad 0)), (1, .int a1)]) hx hb dX12_takesMap_33 hl (k := 2) rfl ex19.symm (by decide) rfl (fun ls hl => ?_)
        have ex19 : x19.toInt = v2_2.toInt + 1 := by rw [ex19]; exact wk_add (y := 1) (show -2147483648 ≤ v2_2.toInt + 1 by omega) (show v2_2.toInt + 1 ≤ 2147483647 by omega)
        refine lv_goto (tgt := 2) hx hb dX12_takesMap_36 (by decide) ?_
        exact ih2 x19 H locs ls w14 (show 0 ≤ a1.toInt by omega) (show a1.toInt ≤ 3 by omega) (show 0 ≤ x19.toInt by omega) (show x19.toInt ≤ 12 by omega) (show (12 - x19.toInt).toNat < n2 by omega) hw hT hF  (lv_sub hl [1, 2, 0] rfl)
  refine lv_iconst (v := 0) hx hb dX12_takesMap_0 (by decide) ?_
  refine lv_istore_n (lv' := [(2, .int 0), (0, .ref (ad 0)), (1, .int a1)]) hx hb dX12_takesMap_1 rfl hl (by decide) rfl (fun ls hl => ?_)
  exact L2 ((12 - (0 : Int)).toNat + 1) 0 s.heap locs ls w0 (show 0 ≤ a1.toInt by omega) (show a1.toInt ≤ 3 by omega) (by decide) (by decide) (Nat.lt_succ_self _) hw hT hF  (lv_sub hl [1, 2, 0] rfl)
abbrev P_X12_by_1 (ad : Nat → Nat) (cy : Nat → ClassId) (B : Int) (qr : Nat) (s1 : Int) (a1 : Int32) (a2 : Int32) (a3 : Int32) (a4 : Int32) (w0 : va_W) : Int32 → va_W → Prop := fun r u => TW ksM ad cy B qr 12 u ∧ FE ksM [(72, 0, 12), (73, 0, 10)] w0 u ∧ ((r = (-2) ∧ 0 ≤ a1.toInt ∧ a1.toInt ≤ 3 ∧ 0 ≤ a2.toInt ∧ a2.toInt ≤ 9 ∧ 0 ≤ a3.toInt ∧ a3.toInt ≤ 9 ∧ 0 ≤ a4.toInt ∧ a4.toInt ≤ 1 ∧ (∃ y : Int32, gi u 12 0 = y ∧ 1 ≤ y.toInt ∧ y.toInt ≤ 10) ∧ (∃ y : Int32, gi u 12 4 = y ∧ 1 ≤ y.toInt ∧ y.toInt ≤ 4)) ∨ (0 ≤ r.toInt ∧ r.toInt ≤ 100000100 ∧ 0 ≤ a1.toInt ∧ a1.toInt ≤ 3 ∧ 0 ≤ a2.toInt ∧ a2.toInt ≤ 9 ∧ 0 ≤ a3.toInt ∧ a3.toInt ≤ 9 ∧ 0 ≤ a4.toInt ∧ a4.toInt ≤ 0 ∧ (∃ y : Int32, gi u 12 0 = y ∧ 1 ≤ y.toInt ∧ y.toInt ≤ 10) ∧ (∃ y : Int32, gi u 12 4 = y ∧ 1 ≤ y.toInt ∧ y.toInt ≤ 4)) ∨ (0 ≤ r.toInt ∧ r.toInt ≤ 11 ∧ 0 ≤ a1.toInt ∧ a1.toInt ≤ 3 ∧ 0 ≤ a2.toInt ∧ a2.toInt ≤ 9 ∧ 0 ≤ a3.toInt ∧ a3.toInt ≤ 9 ∧ 1 ≤ a4.toInt ∧ a4.toInt ≤ 1 ∧ (∃ y : Int32, gi u 12 0 = y ∧ 1 ≤ y.toInt ∧ y.toInt ≤ 10) ∧ (∃ y : Int32, gi u 12 1 = y ∧ 1 ≤ y.toInt ∧ y.toInt ≤ 12) ∧ (∃ y : Int32, gi u 12 4 = y ∧ 1 ≤ y.toInt ∧ y.toInt ≤ 4) ∧ gi u 12 (10 * r.toInt + 10).toNat = a2 ∧ gi u 12 (10 * r.toInt + 11).toNat = a2) ∨ (0 ≤ r.toInt ∧ r.toInt ≤ 11 ∧ 0 ≤ a1.toInt ∧ a1.toInt ≤ 3 ∧ 0 ≤ a2.toInt ∧ a2.toInt ≤ 9 ∧ 0 ≤ a3.toInt ∧ a3.toInt ≤ 9 ∧ 1 ≤ a4.toInt ∧ a4.toInt ≤ 1 ∧ (∃ y : Int32, gi u 12 0 = y ∧ 1 ≤ y.toInt ∧ y.toInt ≤ 10) ∧ (∃ y : Int32, gi u 12 1 = y ∧ 1 ≤ y.toInt ∧ y.toInt ≤ 12) ∧ (∃ y : Int32, gi u 12 4 = y ∧ 1 ≤ y.toInt ∧ y.toInt ≤ 4) ∧ gi u 12 (10 * r.toInt + 10).toNat = a2) ∨ (0 ≤ r.toInt ∧ r.toInt ≤ 11 ∧ 0 ≤ a1.toInt ∧ a1.toInt ≤ 3 ∧ 0 ≤ a2.toInt ∧ a2.toInt ≤ 9 ∧ 0 ≤ a3.toInt ∧ a3.toInt ≤ 9 ∧ 1 ≤ a4.toInt ∧ a4.toInt ≤ 1 ∧ (∃ y : Int32, gi u 12 0 = y ∧ 1 ≤ y.toInt ∧ y.toInt ≤ 10) ∧ (∃ y : Int32, gi u 12 1 = y ∧ 1 ≤ y.toInt ∧ y.toInt ≤ 12) ∧ (∃ y : Int32, gi u 12 4 = y ∧ 1 ≤ y.toInt ∧ y.toInt ≤ 4) ∧ gi u 12 (10 * r.toInt + 11).toNat = a2) ∨ (r = (-1)))
set_option maxHeartbeats 4000000 in
set_option maxRecDepth 100000 in
theorem k_X12_by_1 (l : Launch) (adK adV : Nat → Nat) (dC : Nat → ClassId) (dI : Nat → Nat → Nat) (cy : Nat → ClassId) (ad : Nat → Nat) (B : Int) (hB0 : 100000 ≤ B) (hB1 : B ≤ 1073741824) (qr : Nat) (s1 : Int)  (a1 : Int32) (a2 : Int32) (a3 : Int32) (a4 : Int32) (w0 : va_W) (sz : Nat) (hT : TW ksM ad cy B qr 12 w0)  : Met l yX12_by wsX12_by ({ frames := 4, cells := 0, slots := 0, locals := 79 }) (va_Pc [.ref (ad 0), .int a1, .int a2, .int a3, .int a4] (wpreS adK adV dC dI cy sz w0)) (va_Qi (P_X12_by_1 ad cy B qr s1 a1 a2 a3 a4 w0) (fun u : va_W => wpost dC dI cy (va_A w0 sz) u) (va_A w0 sz)) 0 0 (va_A w0 sz) := by
  refine Met.ofW (cc := cX12_by) (maxL := 6) (ret := (some .int)) (by decide) rfl ?_
  intro p e s m args below meth c s₁ Bk hml hv
  obtain ⟨rfl, ⟨hsz, hP, hK, hD0⟩, hE, hSR⟩ := hv
  have hx := Bk.exec
  have hb := Bk.bytes
  have hr := Bk.returns
  have hlocks := Bk.notSynchronized
  have hC : CallFix p m c cX12_by 6 s _ wsX12_by RX12 := ⟨hx, hb, hml, findClass_of_methodNamed Bk.named, atoms_spec (ws := wsX12_by) Bk.pre⟩
  subst hsz
  have hD := hD0.self (sz := s.heap.size)
  generalize hAe : va_A w0 s.heap.size = A at hD hE ⊢
  have hA : ∀ q : Nat, s.heap.size ≤ q → A q := fun q h => by rw [← hAe]; exact Or.inr h
  have hw : Wd dC dI A s.heap s.heap [] w0 := ⟨hP, hD, va_S.rf⟩
  have hF : FE ksM [(72, 0, 12), (73, 0, 10)] w0 w0 := FE.rf
  have hl := lv_entry ([.ref (ad 0), .int a1, .int a2, .int a3, .int a4]) (n := 6) (Nat.le_of_ble_eq_true rfl)
  rw [lg_entry_eq]
  generalize (lg_sl ([.ref (ad 0), .int a1, .int a2, .int a3, .int a4]) ++ List.replicate (6 - (lg_sl ([.ref (ad 0), .int a1, .int a2, .int a3, .int a4])).length) Slot.unset).toArray = ls at hl ⊢
  have hl : lv_has ls 6 [(0, .ref (ad 0)), (1, .int a1), (2, .int a2), (3, .int a3), (4, .int a4)] := hl
  generalize hloc : ([] : List Loc) = locs at hw ⊢
  have hinX12 : ∀ w ∈ u_ws RX12 TX12 42, w ∈ wsX12_by := fun _ h => List.mem_cons_of_mem _ (List.mem_append_right _ (h))
  have J35 : ∀ (H : Heap) (locs : List Loc) (ls : Array Slot) (w1 : va_W), Wd dC dI A s.heap H locs w1 → TW ksM ad cy B qr 12 w1 → FE ksM [(72, 0, 12), (73, 0, 10)] w0 w1 → lv_has ls 6 [(0, .ref (ad 0)), (1, .int a1), (2, .int a2), (3, .int a3), (4, .int a4)] → W p l e ({ frames := 4, cells := 0, slots := 0, locals := 79 }) s m (List.toArray [.ref (ad 0), .int a1, .int a2, .int a3, .int a4]) below meth c H locs 0 0 (MQ below (va_Qi (P_X12_by_1 ad cy B qr s1 a1 a2 a3 a4 w0) (fun u : va_W => wpost dC dI cy A u) A) (List.toArray [.ref (ad 0), .int a1, .int a2, .int a3, .int a4]) s 0 0 A) (F0 m 35 ls []) := by
    intro H locs ls w1 hw hT hF hl
    refine lv_iconst (v := (-1)) hx hb dX12_by_35 (by decide) ?_
    exact tk_iret hC hr hlocks hK ⟨hT, hF, (Or.inr (Or.inr (Or.inr (Or.inr (Or.inr rfl)))))⟩ hw dX12_by_36
  refine lv_aload_n hx hb dX12_by_0 rfl (lv_at hl 0 rfl) ?_
  refine lv_iload_n hx hb dX12_by_1 rfl (lv_at hl 1 rfl) ?_
  refine tk_Vi hC hK hw hT hA hE hSR kM_at0 (by decide) rfl (k_X12_isMap_1 l adK adV dC dI cy ad B (by omega) (by omega) qr s1   a1 w0 s.heap.size hT ) (cwV 1 hC.2.2.2.2 gX12_by_X12_isMap rfl rfl rfl (by decide +kernel) ⟨Nat.le_of_ble_eq_true rfl, Nat.le_of_ble_eq_true rfl⟩) rfl hl.1 rfl (Nat.le_of_ble_eq_true rfl) dX12_by_2 (fun r2 w4 H locs hp3 hw => ?_)
  obtain ⟨rfl, hg10⟩ := hp3
  rcases hg10 with rfl | ⟨rfl, g6, g7, ⟨x8, c9, rx8, tx8⟩⟩
  · refine lv_if_eq (tgt := 35) hx hb dX12_by_5 (by decide) (fun _ => ?_) (fun c => absurd (by decide) c)
    exact J35  H locs ls w0   hw hT hF  (lv_sub hl [0, 1, 2, 3, 4] rfl)
  · refine lv_if_eq (tgt := 35) hx hb dX12_by_5 (by decide) (fun c => absurd c (by decide)) (fun _ => ?_)
    refine lv_aload_n hx hb dX12_by_8 rfl (lv_at hl 0 rfl) ?_
    refine lv_iload_n hx hb dX12_by_9 rfl (lv_at hl 2 rfl) ?_
    refine tk_Vi hC hK hw hT hA hE hSR kM_at0 (by decide) rfl (k_X12_isCorner_1 l adK adV dC dI cy ad B (by omega) (by omega) qr s1   a2 w0 H.size hT ) (cwV 1 hC.2.2.2.2 gX12_by_X12_isCorner rfl rfl rfl (by decide +kernel) ⟨Nat.le_of_ble_eq_true rfl, Nat.le_of_ble_eq_true rfl⟩) rfl hl.1 rfl (Nat.le_of_ble_eq_true rfl) dX12_by_10 (fun r11 w13 H locs hp12 hw => ?_)
    obtain ⟨rfl, hg19⟩ := hp12
    rcases hg19 with rfl | ⟨rfl, g15, g16, ⟨x17, c18, rx17, tx17⟩⟩
    · refine lv_if_eq (tgt := 35) hx hb dX12_by_13 (by decide) (fun _ => ?_) (fun c => absurd (by decide) c)
      exact J35  H locs ls w0   hw hT hF  (lv_sub hl [0, 1, 2, 3, 4] rfl)
    · refine lv_if_eq (tgt := 35) hx hb dX12_by_13 (by decide) (fun c => absurd c (by decide)) (fun _ => ?_)
      refine lv_aload_n hx hb dX12_by_16 rfl (lv_at hl 0 rfl) ?_
      refine lv_iload_n hx hb dX12_by_17 rfl (lv_at hl 3 rfl) ?_
      refine tk_Vi hC hK hw hT hA hE hSR kM_at0 (by decide) rfl (k_X12_isCorner_1 l adK adV dC dI cy ad B (by omega) (by omega) qr s1   a3 w0 H.size hT ) (cwV 1 hC.2.2.2.2 gX12_by_X12_isCorner rfl rfl rfl (by decide +kernel) ⟨Nat.le_of_ble_eq_true rfl, Nat.le_of_ble_eq_true rfl⟩) rfl hl.1 rfl (Nat.le_of_ble_eq_true rfl) dX12_by_18 (fun r20 w22 H locs hp21 hw => ?_)
      obtain ⟨rfl, hg28⟩ := hp21
      rcases hg28 with rfl | ⟨rfl, g24, g25, ⟨x26, c27, rx26, tx26⟩⟩
      · refine lv_if_eq (tgt := 35) hx hb dX12_by_21 (by decide) (fun _ => ?_) (fun c => absurd (by decide) c)
        exact J35  H locs ls w0   hw hT hF  (lv_sub hl [0, 1, 2, 3, 4] rfl)
      · have ex26 : x26.toInt = x17.toInt := by rw [← c18.symm.trans c27]
        refine lv_if_eq (tgt := 35) hx hb dX12_by_21 (by decide) (fun c => absurd c (by decide)) (fun _ => ?_)
        refine lv_iload hx hb dX12_by_24 (lv_at hl 4 rfl) ?_
        refine lv_i2l hx hb dX12_by_26 rfl ?_
        refine lv_topl (fun x29 ex29 => ?_)
        have ex29 : x29.toInt = a4.toInt := by rw [ex29]; exact wk_i2l _
        have bx29 := wk_i32 a4
        refine lv_lconst (v := 0) hx hb dX12_by_27 (by decide) ?_
        refine lv_lconst (v := 1) hx hb dX12_by_28 (by decide) ?_
        refine tk_Si hC hK hw hT hA hE hSR (k_X12_in_13 l adK adV dC dI cy ad B (by omega) (by omega) qr s1   x29 (show (-2147483648) ≤ x29.toInt by omega) (show x29.toInt ≤ 2147483647 by omega) w0 H.size hT ) (va_cwS 3 hC.2.2.2.2 gX12_by_X12_in rfl rfl rfl (by decide +kernel) ⟨Nat.le_of_ble_eq_true rfl, Nat.le_of_ble_eq_true rfl⟩) rfl hl.1 rfl (Nat.le_of_ble_eq_true rfl) dX12_by_29 (fun r30 w32 H locs hp31 hw => ?_)
        obtain ⟨rfl, hg36⟩ := hp31
        rcases hg36 with rfl | ⟨rfl, g34, g35⟩
        · refine lv_if_ne (tgt := 37) hx hb dX12_by_32 (by decide) (fun c => absurd (by decide) c) (fun _ => ?_)
          exact J35  H locs ls w0   hw hT hF  (lv_sub hl [0, 1, 2, 3, 4] rfl)
        · refine lv_if_ne (tgt := 37) hx hb dX12_by_32 (by decide) (fun _ => ?_) (fun c => absurd c (by decide))
          refine lv_aload_n hx hb dX12_by_37 rfl (lv_at hl 0 rfl) ?_
          refine lv_iload_n hx hb dX12_by_38 rfl (lv_at hl 1 rfl) ?_
          refine tk_Vv hC hK hw hT hA hE hSR kM_at0 (by decide) rfl (k_X12_takesMap_1 l adK adV dC dI cy ad B (by omega) (by omega) qr s1   a1 (show 0 ≤ a1.toInt by omega) (show a1.toInt ≤ 3 by omega) w0 H.size hT ) (cwV 1 hC.2.2.2.2 gX12_by_X12_takesMap rfl rfl rfl (by decide +kernel) ⟨Nat.le_of_ble_eq_true rfl, Nat.le_of_ble_eq_true rfl⟩) rfl hl.1 rfl (Nat.le_of_ble_eq_true rfl) dX12_by_39 (fun w39 H locs hp38 hw => ?_)
          obtain ⟨hT, k40, hg41⟩ := hp38
          have hF := hF.tr k40 (by decide)
          have c42 := k40.gi kM_at12 (by decide) c9
          have c43 := k40.gi kM_at12 (by decide) c18
          clear hg41
          refine lv_aload_n hx hb dX12_by_42 rfl (lv_at hl 0 rfl) ?_
          refine lv_iload_n hx hb dX12_by_43 rfl (lv_at hl 3 rfl) ?_
          refine tk_Vv hC hK hw hT hA hE hSR kM_at0 (by decide) rfl (k_X12_spreads_1 l adK adV dC dI cy ad B (by omega) (by omega) qr s1   a3 (show 0 ≤ a3.toInt by omega) (show a3.toInt ≤ 9 by omega) w39 H.size hT ) (cwV 1 hC.2.2.2.2 gX12_by_X12_spreads rfl rfl rfl (by decide +kernel) ⟨Nat.le_of_ble_eq_true rfl, Nat.le_of_ble_eq_true rfl⟩) rfl hl.1 rfl (Nat.le_of_ble_eq_true rfl) dX12_by_44 (fun w46 H locs hp45 hw => ?_)
          obtain ⟨hT, k47, hg48⟩ := hp45
          have hF := hF.tr k47 (by decide)
          have c49 := k47.gi kM_at12 (by decide) c42
          have c50 := k47.gi kM_at12 (by decide) c43
          clear hg48
          refine lv_aload_n hx hb dX12_by_47 rfl (lv_at hl 0 rfl) ?_
          refine tk_getA hC hK hw hT hinX12 kM_at0 (by decide) rfl 29 (by decide) (List.mem_of_getElem? (i := 1) rfl) rfl rfl dX12_by_48 ?_
          refine lv_iload_n hx hb dX12_by_51 rfl (lv_at hl 2 rfl) ?_
          refine tk_iald hC hK hw hT kM_at14 rfl rfl (show 0 ≤ a2.toInt by omega) (show a2.toInt < 10 by omega) dX12_by_52 (fun x51 c52 rx51 tx51 => ?_)
          have c52 : gi w46 14 (a2.toInt).toNat = x51 := (congrArg (gi w46 14) (congrArg Int.toNat (show a2.toInt = a2.toInt by omega))).trans c52
          refine lv_ldcw (v := 100000000) hx hb hC.2.2.2.1 (hC.2.2.2.2 _ (List.mem_of_getElem? (i := 2) rfl)) dX12_by_53 ?_
          refine lv_icmp_ne (tgt := 62) hx hb dX12_by_56 (by decide) (fun c53 => ?_) (fun c53 => ?_)
          · have c53 : ¬ x51.toInt = (100000000 : Int) := wk_eqF c53
            refine lv_aload_n hx hb dX12_by_62 rfl (lv_at hl 0 rfl) ?_
            refine lv_iload_n hx hb dX12_by_63 rfl (lv_at hl 2 rfl) ?_
            refine tk_Vi hC hK hw hT hA hE hSR kM_at0 (by decide) rfl (k_X12_streetFrom_1 l adK adV dC dI cy ad B (by omega) (by omega) qr s1   a2 (show 0 ≤ a2.toInt by omega) (show a2.toInt ≤ 9 by omega) w46 H.size hT ) (cwV 1 hC.2.2.2.2 gX12_by_X12_streetFrom rfl rfl rfl (by decide +kernel) ⟨Nat.le_of_ble_eq_true rfl, Nat.le_of_ble_eq_true rfl⟩) rfl hl.1 rfl (Nat.le_of_ble_eq_true rfl) dX12_by_64 (fun r54 w56 H locs hp55 hw => ?_)
            obtain ⟨rfl, hg74⟩ := hp55
            rcases hg74 with ⟨g58, g59, ⟨x60, c61, rx60, tx60⟩, c62, c63⟩ | ⟨g64, g65, ⟨x66, c67, rx66, tx66⟩, c68⟩ | ⟨g69, g70, ⟨x71, c72, rx71, tx71⟩, c73⟩ | rfl
            · refine lv_istore (lv' := [(5, .int r54), (0, .ref (ad 0)), (1, .int a1), (2, .int a2), (3, .int a3), (4, .int a4)]) hx hb dX12_by_67 hl (by decide) rfl (fun ls hl => ?_)
              refine lv_iload hx hb dX12_by_69 (lv_at hl 5 rfl) ?_
              refine lv_if_ne (tgt := 83) hx hb dX12_by_71 (by decide) (fun c75 => ?_) (fun c75 => ?_)
              · have c75 : ¬ a4.toInt = (0 : Int) := wk_eqF c75
                refine lv_iload hx hb dX12_by_83 (lv_at hl 0 rfl) ?_
                refine lv_if_ge (tgt := 93) hx hb dX12_by_85 (by decide) (fun _ => ?_) (fun c => (c (wk_le.mpr (show (0 : Int) ≤ r54.toInt by omega))).elim)
                refine lv_iload hx hb dX12_by_93 (lv_at hl 0 rfl) ?_
                exact tk_iret hC hr hlocks hK ⟨hT, hF, (Or.inr (Or.inr (Or.inl ⟨(show 0 ≤ r54.toInt by omega), (show r54.toInt ≤ 11 by omega), (show 0 ≤ a1.toInt by omega), (show a1.toInt ≤ 3 by omega), (show 0 ≤ a2.toInt by omega), (show a2.toInt ≤ 9 by omega), (show 0 ≤ a3.toInt by omega), (show a3.toInt ≤ 9 by omega), (show 1 ≤ a4.toInt by omega), (show a4.toInt ≤ 1 by omega), ⟨x17, c50, (show 1 ≤ x17.toInt by omega), (show x17.toInt ≤ 10 by omega)⟩, ⟨x60, c61, (show 1 ≤ x60.toInt by omega), (show x60.toInt ≤ 12 by omega)⟩, ⟨x8, c49, (show 1 ≤ x8.toInt by omega), (show x8.toInt ≤ 4 by omega)⟩, c62, c63⟩)))⟩ hw dX12_by_95
              · have c75 : a4.toInt = (0 : Int) := wk_eq.mp c75
                refine lv_aload_n hx hb dX12_by_74 rfl (lv_at hl 1 rfl) ?_
                refine tk_getA hC hK hw hT hinX12 kM_at0 (by decide) rfl 29 (by decide) (List.mem_of_getElem? (i := 1) rfl) rfl rfl dX12_by_75 ?_
                refine lv_iload_n hx hb dX12_by_78 rfl (lv_at hl 3 rfl) ?_
                refine tk_iald hC hK hw hT kM_at14 rfl rfl (show 0 ≤ a2.toInt by omega) (show a2.toInt < 10 by omega) dX12_by_79 (fun x76 c77 rx76 tx76 => ?_)
                have c77 : gi w46 14 (a2.toInt).toNat = x76 := (congrArg (gi w46 14) (congrArg Int.toNat (show a2.toInt = a2.toInt by omega))).trans c77
                refine wk_top x51 (c77.symm.trans c52) ?_
                refine lv_goto (tgt := 95) hx hb dX12_by_80 (by decide) ?_
                exact tk_iret hC hr hlocks hK ⟨hT, hF, (Or.inr (Or.inl ⟨(show 0 ≤ x51.toInt by omega), (show x51.toInt ≤ 100000100 by omega), (show 0 ≤ a1.toInt by omega), (show a1.toInt ≤ 3 by omega), (show 0 ≤ a2.toInt by omega), (show a2.toInt ≤ 9 by omega), (show 0 ≤ a3.toInt by omega), (show a3.toInt ≤ 9 by omega), (show 0 ≤ a4.toInt by omega), (show a4.toInt ≤ 0 by omega), ⟨x17, c50, (show 1 ≤ x17.toInt by omega), (show x17.toInt ≤ 10 by omega)⟩, ⟨x8, c49, (show 1 ≤ x8.toInt by omega), (show x8.toInt ≤ 4 by omega)⟩⟩))⟩ hw dX12_by_95
            · refine lv_istore (lv' := [(5, .int r54), (0, .ref (ad 0)), (1, .int a1), (2, .int a2), (3, .int a3), (4, .int a4)]) hx hb dX12_by_67 hl (by decide) rfl (fun ls hl => ?_)
              refine lv_iload hx hb dX12_by_69 (lv_at hl 5 rfl) ?_
              refine lv_if_ne (tgt := 83) hx hb dX12_by_71 (by decide) (fun c78 => ?_) (fun c78 => ?_)
              · have c78 : ¬ a4.toInt = (0 : Int) := wk_eqF c78
                refine lv_iload hx hb dX12_by_83 (lv_at hl 0 rfl) ?_
                refine lv_if_ge (tgt := 93) hx hb dX12_by_85 (by decide) (fun _ => ?_) (fun c => (c (wk_le.mpr (show (0 : Int) ≤ r54.toInt by omega))).elim)
                refine lv_iload hx hb dX12_by_93 (lv_at hl 0 rfl) ?_
                exact tk_iret hC hr hlocks hK ⟨hT, hF, (Or.inr (Or.inr (Or.inr (Or.inl ⟨(show 0 ≤ r54.toInt by omega), (show r54.toInt ≤ 11 by omega), (show 0 ≤ a1.toInt by omega), (show a1.toInt ≤ 3 by omega), (show 0 ≤ a2.toInt by omega), (show a2.toInt ≤ 9 by omega), (show 0 ≤ a3.toInt by omega), (show a3.toInt ≤ 9 by omega), (show 1 ≤ a4.toInt by omega), (show a4.toInt ≤ 1 by omega), ⟨x17, c50, (show 1 ≤ x17.toInt by omega), (show x17.toInt ≤ 10 by omega)⟩, ⟨x66, c67, (show 1 ≤ x66.toInt by omega), (show x66.toInt ≤ 12 by omega)⟩, ⟨x8, c49, (show 1 ≤ x8.toInt by omega), (show x8.toInt ≤ 4 by omega)⟩, c68⟩))))⟩ hw dX12_by_95
              · have c78 : a4.toInt = (0 : Int) := wk_eq.mp c78
                refine lv_aload_n hx hb dX12_by_74 rfl (lv_at hl 1 rfl) ?_
                refine tk_getA hC hK hw hT hinX12 kM_at0 (by decide) rfl 29 (by decide) (List.mem_of_getElem? (i := 1) rfl) rfl rfl dX12_by_75 ?_
                refine lv_iload_n hx hb dX12_by_78 rfl (lv_at hl 3 rfl) ?_
                refine tk_iald hC hK hw hT kM_at14 rfl rfl (show 0 ≤ a2.toInt by omega) (show a2.toInt < 10 by omega) dX12_by_79 (fun x79 c80 rx79 tx79 => ?_)
                have c80 : gi w46 14 (a2.toInt).toNat = x79 := (congrArg (gi w46 14) (congrArg Int.toNat (show a2.toInt = a2.toInt by omega))).trans c80
                refine wk_top x51 (c80.symm.trans c52) ?_
                refine lv_goto (tgt := 95) hx hb dX12_by_80 (by decide) ?_
                exact tk_iret hC hr hlocks hK ⟨hT, hF, (Or.inr (Or.inl ⟨(show 0 ≤ x51.toInt by omega), (show x51.toInt ≤ 100000100 by omega), (show 0 ≤ a1.toInt by omega), (show a1.toInt ≤ 3 by omega), (show 0 ≤ a2.toInt by omega), (show a2.toInt ≤ 9 by omega), (show 0 ≤ a3.toInt by omega), (show a3.toInt ≤ 9 by omega), (show 0 ≤ a4.toInt by omega), (show a4.toInt ≤ 0 by omega), ⟨x17, c50, (show 1 ≤ x17.toInt by omega), (show x17.toInt ≤ 10 by omega)⟩, ⟨x8, c49, (show 1 ≤ x8.toInt by omega), (show x8.toInt ≤ 4 by omega)⟩⟩))⟩ hw dX12_by_95
            · refine lv_istore (lv' := [(5, .int r54), (0, .ref (ad 0)), (1, .int a1), (2, .int a2), (3, .int a3), (4, .int a4)]) hx hb dX12_by_67 hl (by decide) rfl (fun ls hl => ?_)
              refine lv_iload hx hb dX12_by_69 (lv_at hl 5 rfl) ?_
              refine lv_if_ne (tgt := 83) hx hb dX12_by_71 (by decide) (fun c81 => ?_) (fun c81 => ?_)
              · have c81 : ¬ a4.toInt = (0 : Int) := wk_eqF c81
                refine lv_iload hx hb dX12_by_83 (lv_at hl 0 rfl) ?_
                refine lv_if_ge (tgt := 93) hx hb dX12_by_85 (by decide) (fun _ => ?_) (fun c => (c (wk_le.mpr (show (0 : Int) ≤ r54.toInt by omega))).elim)
                refine lv_iload hx hb dX12_by_93 (lv_at hl 0 rfl) ?_
                exact tk_iret hC hr hlocks hK ⟨hT, hF, (Or.inr (Or.inr (Or.inr (Or.inr (Or.inl ⟨(show 0 ≤ r54.toInt by omega), (show r54.toInt ≤ 11 by omega), (show 0 ≤ a1.toInt by omega), (show a1.toInt ≤ 3 by omega), (show 0 ≤ a2.toInt by omega), (show a2.toInt ≤ 9 by omega), (show 0 ≤ a3.toInt by omega), (show a3.toInt ≤ 9 by omega), (show 1 ≤ a4.toInt by omega), (show a4.toInt ≤ 1 by omega), ⟨x17, c50, (show 1 ≤ x17.toInt by omega), (show x17.toInt ≤ 10 by omega)⟩, ⟨x71, c72, (show 1 ≤ x71.toInt by omega), (show x71.toInt ≤ 12 by omega)⟩, ⟨x8, c49, (show 1 ≤ x8.toInt by omega), (show x8.toInt ≤ 4 by omega)⟩, c73⟩)))))⟩ hw dX12_by_95
              · have c81 : a4.toInt = (0 : Int) := wk_eq.mp c81
                refine lv_aload_n hx hb dX12_by_74 rfl (lv_at hl 1 rfl) ?_
                refine tk_getA hC hK hw hT hinX12 kM_at0 (by decide) rfl 29 (by decide) (List.mem_of_getElem? (i := 1) rfl) rfl rfl dX12_by_75 ?_
                refine lv_iload_n hx hb dX12_by_78 rfl (lv_at hl 3 rfl) ?_
                refine tk_iald hC hK hw hT kM_at14 rfl rfl (show 0 ≤ a2.toInt by omega) (show a2.toInt < 10 by omega) dX12_by_79 (fun x82 c83 rx82 tx82 => ?_)
                have c83 : gi w46 14 (a2.toInt).toNat = x82 := (congrArg (gi w46 14) (congrArg Int.toNat (show a2.toInt = a2.toInt by omega))).trans c83
                refine wk_top x51 (c83.symm.trans c52) ?_
                refine lv_goto (tgt := 95) hx hb dX12_by_80 (by decide) ?_
                exact tk_iret hC hr hlocks hK ⟨hT, hF, (Or.inr (Or.inl ⟨(show 0 ≤ x51.toInt by omega), (show x51.toInt ≤ 100000100 by omega), (show 0 ≤ a1.toInt by omega), (show a1.toInt ≤ 3 by omega), (show 0 ≤ a2.toInt by omega), (show a2.toInt ≤ 9 by omega), (show 0 ≤ a3.toInt by omega), (show a3.toInt ≤ 9 by omega), (show 0 ≤ a4.toInt by omega), (show a4.toInt ≤ 0 by omega), ⟨x17, c50, (show 1 ≤ x17.toInt by omega), (show x17.toInt ≤ 10 by omega)⟩, ⟨x8, c49, (show 1 ≤ x8.toInt by omega), (show x8.toInt ≤ 4 by omega)⟩⟩))⟩ hw dX12_by_95
            · refine lv_istore (lv' := [(5, .int (-1)), (0, .ref (ad 0)), (1, .int a1), (2, .int a2), (3, .int a3), (4, .int a4)]) hx hb dX12_by_67 hl (by decide) rfl (fun ls hl => ?_)
              refine lv_iload hx hb dX12_by_69 (lv_at hl 5 rfl) ?_
              refine lv_if_ne (tgt := 83) hx hb dX12_by_71 (by decide) (fun c84 => ?_) (fun c84 => ?_)
              · have c84 : ¬ a4.toInt = (0 : Int) := wk_eqF c84
                refine lv_iload hx hb dX12_by_83 (lv_at hl 0 rfl) ?_
                refine lv_if_ge (tgt := 93) hx hb dX12_by_85 (by decide) (fun c => absurd c (by decide)) (fun _ => ?_)
                refine lv_bipush (v := (-2)) hx hb dX12_by_88 (by decide) ?_
                refine lv_goto (tgt := 95) hx hb dX12_by_90 (by decide) ?_
                exact tk_iret hC hr hlocks hK ⟨hT, hF, (Or.inl ⟨rfl, (show 0 ≤ a1.toInt by omega), (show a1.toInt ≤ 3 by omega), (show 0 ≤ a2.toInt by omega), (show a2.toInt ≤ 9 by omega), (show 0 ≤ a3.toInt by omega), (show a3.toInt ≤ 9 by omega), (show 0 ≤ a4.toInt by omega), (show a4.toInt ≤ 1 by omega), ⟨x17, c50, (show 1 ≤ x17.toInt by omega), (show x17.toInt ≤ 10 by omega)⟩, ⟨x8, c49, (show 1 ≤ x8.toInt by omega), (show x8.toInt ≤ 4 by omega)⟩⟩)⟩ hw dX12_by_95
              · have c84 : a4.toInt = (0 : Int) := wk_eq.mp c84
                refine lv_aload_n hx hb dX12_by_74 rfl (lv_at hl 1 rfl) ?_
                refine tk_getA hC hK hw hT hinX12 kM_at0 (by decide) rfl 29 (by decide) (List.mem_of_getElem? (i := 1) rfl) rfl rfl dX12_by_75 ?_
                refine lv_iload_n hx hb dX12_by_78 rfl (lv_at hl 3 rfl) ?_
                refine tk_iald hC hK hw hT kM_at14 rfl rfl (show 0 ≤ a2.toInt by omega) (show a2.toInt < 10 by omega) dX12_by_79 (fun x85 c86 rx85 tx85 => ?_)
                have c86 : gi w46 14 (a2.toInt).toNat = x85 := (congrArg (gi w46 14) (congrArg Int.toNat (show a2.toInt = a2.toInt by omega))).trans c86
                refine wk_top x51 (c86.symm.trans c52) ?_
                refine lv_goto (tgt := 95) hx hb dX12_by_80 (by decide) ?_
                exact tk_iret hC hr hlocks hK ⟨hT, hF, (Or.inr (Or.inl ⟨(show 0 ≤ x51.toInt by omega), (show x51.toInt ≤ 100000100 by omega), (show 0 ≤ a1.toInt by omega), (show a1.toInt ≤ 3 by omega), (show 0 ≤ a2.toInt by omega), (show a2.toInt ≤ 9 by omega), (show 0 ≤ a3.toInt by omega), (show a3.toInt ≤ 9 by omega), (show 0 ≤ a4.toInt by omega), (show a4.toInt ≤ 0 by omega), ⟨x17, c50, (show 1 ≤ x17.toInt by omega), (show x17.toInt ≤ 10 by omega)⟩, ⟨x8, c49, (show 1 ≤ x8.toInt by omega), (show x8.toInt ≤ 4 by omega)⟩⟩))⟩ hw dX12_by_95
          · have c53 : x51.toInt = (100000000 : Int) := wk_eq.mp c53
            refine lv_bipush (v := (-2)) hx hb dX12_by_59 (by decide) ?_
            exact tk_iret hC hr hlocks hK ⟨hT, hF, (Or.inl ⟨rfl, (show 0 ≤ a1.toInt by omega), (show a1.toInt ≤ 3 by omega), (show 0 ≤ a2.toInt by omega), (show a2.toInt ≤ 9 by omega), (show 0 ≤ a3.toInt by omega), (show a3.toInt ≤ 9 by omega), (show 0 ≤ a4.toInt by omega), (show a4.toInt ≤ 1 by omega), ⟨x17, c50, (show 1 ≤ x17.toInt by omega), (show x17.toInt ≤ 10 by omega)⟩, ⟨x8, c49, (show 1 ≤ x8.toInt by omega), (show x8.toInt ≤ 4 by omega)⟩⟩)⟩ hw dX12_by_61
abbrev P_X12_isRule_1 (ad : Nat → Nat) (cy : Nat → ClassId) (B : Int) (qr : Nat) (s1 : Int) (a1 : Int32) (w0 : va_W) : Int32 → va_W → Prop := fun r u => w0 = u ∧ ((r = 0) ∨ (r = 1 ∧ 0 ≤ a1.toInt ∧ a1.toInt ≤ 5 ∧ (∃ y : Int32, gi u 0 2 = y ∧ 1 ≤ y.toInt ∧ y.toInt ≤ 6)))
set_option maxHeartbeats 4000000 in
set_option maxRecDepth 100000 in
theorem k_X12_isRule_1 (l : Launch) (adK adV : Nat → Nat) (dC : Nat → ClassId) (dI : Nat → Nat → Nat) (cy : Nat → ClassId) (ad : Nat → Nat) (B : Int) (hB0 : 100000 ≤ B) (hB1 : B ≤ 1073741824) (qr : Nat) (s1 : Int)  (a1 : Int32) (w0 : va_W) (sz : Nat) (hT : TW ksM ad cy B qr 12 w0)  : Met l yX12_isRule wsX12_isRule ({ frames := 1, cells := 0, slots := 0, locals := 12 }) (va_Pc [.ref (ad 0), .int a1] (wpreS adK adV dC dI cy sz w0)) (va_Qi (P_X12_isRule_1 ad cy B qr s1 a1 w0) (fun u : va_W => wpost dC dI cy (va_A w0 sz) u) (va_A w0 sz)) 0 0 (va_A w0 sz) := by
  refine Met.ofW (cc := cX12_isRule) (maxL := 2) (ret := (some .boolean)) (by decide) rfl ?_
  intro p e s m args below meth c s₁ Bk hml hv
  obtain ⟨rfl, ⟨hsz, hP, hK, hD0⟩, hE, hSR⟩ := hv
  have hx := Bk.exec
  have hb := Bk.bytes
  have hr := Bk.returns
  have hlocks := Bk.notSynchronized
  have hC : CallFix p m c cX12_isRule 2 s _ wsX12_isRule RX12 := ⟨hx, hb, hml, findClass_of_methodNamed Bk.named, atoms_spec (ws := wsX12_isRule) Bk.pre⟩
  subst hsz
  have hD := hD0.self (sz := s.heap.size)
  generalize hAe : va_A w0 s.heap.size = A at hD hE ⊢
  have hA : ∀ q : Nat, s.heap.size ≤ q → A q := fun q h => by rw [← hAe]; exact Or.inr h
  have hw : Wd dC dI A s.heap s.heap [] w0 := ⟨hP, hD, va_S.rf⟩
  have hF : FE ksM ([] : List (Nat × Nat × Nat)) w0 w0 := FE.rf
  have hl := lv_entry ([.ref (ad 0), .int a1]) (n := 2) (Nat.le_of_ble_eq_true rfl)
  rw [lg_entry_eq]
  generalize (lg_sl ([.ref (ad 0), .int a1]) ++ List.replicate (2 - (lg_sl ([.ref (ad 0), .int a1])).length) Slot.unset).toArray = ls at hl ⊢
  have hl : lv_has ls 2 [(0, .ref (ad 0)), (1, .int a1)] := hl
  generalize hloc : ([] : List Loc) = locs at hw ⊢
  have hinX12 : ∀ w ∈ u_ws RX12 TX12 42, w ∈ wsX12_isRule := fun _ h => List.mem_cons_of_mem _ (List.mem_append_right _ (h))
  have J16 : ∀ (H : Heap) (locs : List Loc) (ls : Array Slot), Wd dC dI A s.heap H locs w0 → lv_has ls 2 [(0, .ref (ad 0)), (1, .int a1)] → W p l e ({ frames := 1, cells := 0, slots := 0, locals := 12 }) s m (List.toArray [.ref (ad 0), .int a1]) below meth c H locs 0 0 (MQ below (va_Qi (P_X12_isRule_1 ad cy B qr s1 a1 w0) (fun u : va_W => wpost dC dI cy A u) A) (List.toArray [.ref (ad 0), .int a1]) s 0 0 A) (F0 m 16 ls []) := by
    intro H locs ls hw hl
    refine lv_iconst (v := 0) hx hb dX12_isRule_16 (by decide) ?_
    exact tk_zret hC hr rfl hlocks hK ⟨rfl, (Or.inl rfl)⟩ hw dX12_isRule_17
  refine lv_iload_n hx hb dX12_isRule_0 rfl (lv_at hl 1 rfl) ?_
  refine lv_if_lt (tgt := 16) hx hb dX12_isRule_1 (by decide) (fun c1 => ?_) (fun c1 => ?_)
  · have c1 : a1.toInt < (0 : Int) := wk_lt.mp c1
    exact J16  s.heap locs ls    hw   (lv_sub hl [0, 1] rfl)
  · have c1 : (0 : Int) ≤ a1.toInt := wk_ltF c1
    refine lv_iload_n hx hb dX12_isRule_4 rfl (lv_at hl 1 rfl) ?_
    refine lv_aload_n hx hb dX12_isRule_5 rfl (lv_at hl 0 rfl) ?_
    refine tk_geti hC hK hw hT hinX12 kM_at0 (by decide) rfl 2 (by decide) (List.mem_of_getElem? (i := 1) rfl) rfl rfl dX12_isRule_6 (fun x2 c3 rx2 tx2 => ?_)
    refine lv_icmp_ge (tgt := 16) hx hb dX12_isRule_9 (by decide) (fun c4 => ?_) (fun c4 => ?_)
    · have c4 : x2.toInt ≤ a1.toInt := wk_le.mp c4
      exact J16  s.heap locs ls    hw   (lv_sub hl [0, 1] rfl)
    · have c4 : a1.toInt < x2.toInt := wk_leF c4
      refine lv_iconst (v := 1) hx hb dX12_isRule_12 (by decide) ?_
      refine lv_goto (tgt := 17) hx hb dX12_isRule_13 (by decide) ?_
      exact tk_zret hC hr rfl hlocks hK ⟨rfl, (Or.inr ⟨rfl, (show 0 ≤ a1.toInt by omega), (show a1.toInt ≤ 5 by omega), ⟨x2, c3, (show 1 ≤ x2.toInt by omega), (show x2.toInt ≤ 6 by omega)⟩⟩)⟩ hw dX12_isRule_17
abbrev P_X12_setsOut_1 (ad : Nat → Nat) (cy : Nat → ClassId) (B : Int) (qr : Nat) (s1 : Int) (a1 : Int32) (a2 : Int32) (a3 : Int32) (a4 : Int32) (a5 : Int32) (a6 : Int32) (w0 : va_W) : va_W → Prop := fun u => TW ksM ad cy B qr 12 u ∧ FE ksM [(71, 216, 243), (71, 217, 244), (71, 218, 245), (71, 219, 246), (71, 220, 247), (71, 221, 248), (71, 222, 249), (71, 223, 250), (71, 224, 251)] w0 u ∧ ((True))
set_option maxHeartbeats 4000000 in
set_option maxRecDepth 100000 in
theorem k_X12_setsOut_1 (l : Launch) (adK adV : Nat → Nat) (dC : Nat → ClassId) (dI : Nat → Nat → Nat) (cy : Nat → ClassId) (ad : Nat → Nat) (B : Int) (hB0 : 100000 ≤ B) (hB1 : B ≤ 1073741824) (qr : Nat) (s1 : Int)  (a1 : Int32) (ra1 : 0 ≤ a1.toInt) (ta1 : a1.toInt ≤ 3) (a2 : Int32) (ra2 : 0 ≤ a2.toInt) (ta2 : a2.toInt ≤ 9) (a3 : Int32) (ra3 : 0 ≤ a3.toInt) (ta3 : a3.toInt ≤ 9) (a4 : Int32) (ra4 : 0 ≤ a4.toInt) (ta4 : a4.toInt ≤ 3) (a5 : Int32) (ra5 : (-1) ≤ a5.toInt) (ta5 : a5.toInt ≤ 5) (a6 : Int32) (ra6 : 0 ≤ a6.toInt) (ta6 : a6.toInt ≤ 99999) (w0 : va_W) (sz : Nat) (hT : TW ksM ad cy B qr 12 w0)  : Met l yX12_setsOut wsX12_setsOut ({ frames := 1, cells := 0, slots := 0, locals := 12 }) (va_Pc [.ref (ad 0), .int a1, .int a2, .int a3, .int a4, .int a5, .int a6] (wpreS adK adV dC dI cy sz w0)) (va_Qv (P_X12_setsOut_1 ad cy B qr s1 a1 a2 a3 a4 a5 a6 w0) (fun u : va_W => wpost dC dI cy (va_A w0 sz) u) (va_A w0 sz)) 0 0 (va_A w0 sz) := by
  refine Met.ofW (cc := cX12_setsOut) (maxL := 8) (ret := none) (by decide) rfl ?_
  intro p e s m args below meth c s₁ Bk hml hv
  obtain ⟨rfl, ⟨hsz, hP, hK, hD0⟩, hE, hSR⟩ := hv
  have hx := Bk.exec
  have hb := Bk.bytes
  have hr := Bk.returns
  have hlocks := Bk.notSynchronized
  have hC : CallFix p m c cX12_setsOut 8 s _ wsX12_setsOut RX12 := ⟨hx, hb, hml, findClass_of_methodNamed Bk.named, atoms_spec (ws := wsX12_setsOut) Bk.pre⟩
  subst hsz
  have hD := hD0.self (sz := s.heap.size)
  generalize hAe : va_A w0 s.heap.size = A at hD hE ⊢
  have hA : ∀ q : Nat, s.heap.size ≤ q → A q := fun q h => by rw [← hAe]; exact Or.inr h
  have hw : Wd dC dI A s.heap s.heap [] w0 := ⟨hP, hD, va_S.rf⟩
  have hF : FE ksM [(71, 216, 243), (71, 217, 244), (71, 218, 245), (71, 219, 246), (71, 220, 247), (71, 221, 248), (71, 222, 249), (71, 223, 250), (71, 224, 251)] w0 w0 := FE.rf
  have hl := lv_entry ([.ref (ad 0), .int a1, .int a2, .int a3, .int a4, .int a5, .int a6]) (n := 8) (Nat.le_of_ble_eq_true rfl)
  rw [lg_entry_eq]
  generalize (lg_sl ([.ref (ad 0), .int a1, .int a2, .int a3, .int a4, .int a5, .int a6]) ++ List.replicate (8 - (lg_sl ([.ref (ad 0), .int a1, .int a2, .int a3, .int a4, .int a5, .int a6])).length) Slot.unset).toArray = ls at hl ⊢
  have hl : lv_has ls 8 [(0, .ref (ad 0)), (1, .int a1), (2, .int a2), (3, .int a3), (4, .int a4), (5, .int a5), (6, .int a6)] := hl
  generalize hloc : ([] : List Loc) = locs at hw ⊢
  have hinX12 : ∀ w ∈ u_ws RX12 TX12 42, w ∈ wsX12_setsOut := fun _ h => List.mem_cons_of_mem _ (List.mem_append_right _ (h))
  refine lv_sipush (v := 216) hx hb dX12_setsOut_0 (by decide) ?_
  refine lv_bipush (v := 9) hx hb dX12_setsOut_3 (by decide) ?_
  refine lv_iload_n hx hb dX12_setsOut_5 rfl (lv_at hl 1 rfl) ?_
  refine lv_imul hx hb dX12_setsOut_6 ?_
  refine lv_topi (fun x1 ex1 => ?_)
  have ex1 : x1.toInt = (9 : Int) * a1.toInt := by rw [ex1]; exact wk_mul (show (-2147483648) ≤ (9 : Int) * a1.toInt by omega) (show (9 : Int) * a1.toInt ≤ 2147483647 by omega)
  refine lv_iadd hx hb dX12_setsOut_7 ?_
  refine lv_topi (fun x2 ex2 => ?_)
  have ex2 : x2.toInt = (216 : Int) + x1.toInt := by rw [ex2]; exact wk_add (show (-2147483648) ≤ (216 : Int) + x1.toInt by omega) (show (216 : Int) + x1.toInt ≤ 2147483647 by omega)
  refine lv_istore (lv' := [(7, .int x2), (0, .ref (ad 0)), (1, .int a1), (2, .int a2), (3, .int a3), (4, .int a4), (5, .int a5), (6, .int a6)]) hx hb dX12_setsOut_8 hl (by decide) rfl (fun ls hl => ?_)
  refine lv_aload_n hx hb dX12_setsOut_10 rfl (lv_at hl 1 rfl) ?_
  refine tk_getA hC hK hw hT hinX12 kM_at0 (by decide) rfl 26 (by decide) (List.mem_of_getElem? (i := 1) rfl) rfl rfl dX12_setsOut_11 ?_
  refine lv_iload hx hb dX12_setsOut_14 (lv_at hl 0 rfl) ?_
  refine lv_iload_n hx hb dX12_setsOut_16 rfl (lv_at hl 3 rfl) ?_
  refine tk_iastR hC hK hw hT kM_at12 (by decide) rfl (show 0 ≤ x2.toInt by omega) (show x2.toInt < 296 by omega) (tk_rgS rfl 216 9 4 0 9 (by decide +kernel) ⟨(a1.toInt - 0).toNat, by omega, show x2.toInt.toNat = 216 + 9 * (a1.toInt - 0).toNat by omega⟩ (show 0 ≤ a2.toInt by omega) (show a2.toInt ≤ 9 by omega)) dX12_setsOut_17 (fun H locs w3 hw hT k5 c4 => ?_)
  have hF := hF.put kM_at12 (inE_of (a := 216) (b := 243) (by decide) (show 216 ≤ x2.toInt.toNat by omega) (show x2.toInt.toNat ≤ 243 by omega)) k5
  refine lv_aload_n hx hb dX12_setsOut_18 rfl (lv_at hl 1 rfl) ?_
  refine tk_getA hC hK hw hT hinX12 kM_at0 (by decide) rfl 26 (by decide) (List.mem_of_getElem? (i := 1) rfl) rfl rfl dX12_setsOut_19 ?_
  refine lv_iload hx hb dX12_setsOut_22 (lv_at hl 0 rfl) ?_
  refine lv_iconst (v := 1) hx hb dX12_setsOut_24 (by decide) ?_
  refine lv_iadd hx hb dX12_setsOut_25 ?_
  refine lv_topi (fun x6 ex6 => ?_)
  have ex6 : x6.toInt = x2.toInt + (1 : Int) := by rw [ex6]; exact wk_add (show (-2147483648) ≤ x2.toInt + (1 : Int) by omega) (show x2.toInt + (1 : Int) ≤ 2147483647 by omega)
  refine lv_iload_n hx hb dX12_setsOut_26 rfl (lv_at hl 4 rfl) ?_
  refine tk_iastR hC hK hw hT kM_at12 (by decide) rfl (show 0 ≤ x6.toInt by omega) (show x6.toInt < 296 by omega) (tk_rgS rfl 217 9 4 0 9 (by decide +kernel) ⟨(a1.toInt - 0).toNat, by omega, show x6.toInt.toNat = 217 + 9 * (a1.toInt - 0).toNat by omega⟩ (show 0 ≤ a3.toInt by omega) (show a3.toInt ≤ 9 by omega)) dX12_setsOut_27 (fun H locs w7 hw hT k9 c8 => ?_)
  have hF := hF.put kM_at12 (inE_of (a := 217) (b := 244) (by decide) (show 217 ≤ x6.toInt.toNat by omega) (show x6.toInt.toNat ≤ 244 by omega)) k9
  refine lv_aload_n hx hb dX12_setsOut_28 rfl (lv_at hl 1 rfl) ?_
  refine tk_getA hC hK hw hT hinX12 kM_at0 (by decide) rfl 26 (by decide) (List.mem_of_getElem? (i := 1) rfl) rfl rfl dX12_setsOut_29 ?_
  refine lv_iload hx hb dX12_setsOut_32 (lv_at hl 0 rfl) ?_
  refine lv_iconst (v := 2) hx hb dX12_setsOut_34 (by decide) ?_
  refine lv_iadd hx hb dX12_setsOut_35 ?_
  refine lv_topi (fun x10 ex10 => ?_)
  have ex10 : x10.toInt = x2.toInt + (2 : Int) := by rw [ex10]; exact wk_add (show (-2147483648) ≤ x2.toInt + (2 : Int) by omega) (show x2.toInt + (2 : Int) ≤ 2147483647 by omega)
  refine lv_iload hx hb dX12_setsOut_36 (lv_at hl 5 rfl) ?_
  refine tk_iastR hC hK hw hT kM_at12 (by decide) rfl (show 0 ≤ x10.toInt by omega) (show x10.toInt < 296 by omega) (tk_rgS rfl 218 9 4 0 3 (by decide +kernel) ⟨(a1.toInt - 0).toNat, by omega, show x10.toInt.toNat = 218 + 9 * (a1.toInt - 0).toNat by omega⟩ (show 0 ≤ a4.toInt by omega) (show a4.toInt ≤ 3 by omega)) dX12_setsOut_38 (fun H locs w11 hw hT k13 c12 => ?_)
  have hF := hF.put kM_at12 (inE_of (a := 218) (b := 245) (by decide) (show 218 ≤ x10.toInt.toNat by omega) (show x10.toInt.toNat ≤ 245 by omega)) k13
  refine lv_aload_n hx hb dX12_setsOut_39 rfl (lv_at hl 1 rfl) ?_
  refine tk_getA hC hK hw hT hinX12 kM_at0 (by decide) rfl 26 (by decide) (List.mem_of_getElem? (i := 1) rfl) rfl rfl dX12_setsOut_40 ?_
  refine lv_iload hx hb dX12_setsOut_43 (lv_at hl 0 rfl) ?_
  refine lv_iconst (v := 3) hx hb dX12_setsOut_45 (by decide) ?_
  refine lv_iadd hx hb dX12_setsOut_46 ?_
  refine lv_topi (fun x14 ex14 => ?_)
  have ex14 : x14.toInt = x2.toInt + (3 : Int) := by rw [ex14]; exact wk_add (show (-2147483648) ≤ x2.toInt + (3 : Int) by omega) (show x2.toInt + (3 : Int) ≤ 2147483647 by omega)
  refine lv_iload hx hb dX12_setsOut_47 (lv_at hl 6 rfl) ?_
  refine tk_iastR hC hK hw hT kM_at12 (by decide) rfl (show 0 ≤ x14.toInt by omega) (show x14.toInt < 296 by omega) (tk_rgS rfl 219 9 4 (-1) 5 (by decide +kernel) ⟨(a1.toInt - 0).toNat, by omega, show x14.toInt.toNat = 219 + 9 * (a1.toInt - 0).toNat by omega⟩ (show (-1) ≤ a5.toInt by omega) (show a5.toInt ≤ 5 by omega)) dX12_setsOut_49 (fun H locs w15 hw hT k17 c16 => ?_)
  have hF := hF.put kM_at12 (inE_of (a := 219) (b := 246) (by decide) (show 219 ≤ x14.toInt.toNat by omega) (show x14.toInt.toNat ≤ 246 by omega)) k17
  refine lv_aload_n hx hb dX12_setsOut_50 rfl (lv_at hl 1 rfl) ?_
  refine tk_getA hC hK hw hT hinX12 kM_at0 (by decide) rfl 26 (by decide) (List.mem_of_getElem? (i := 1) rfl) rfl rfl dX12_setsOut_51 ?_
  refine lv_iload hx hb dX12_setsOut_54 (lv_at hl 0 rfl) ?_
  refine lv_iconst (v := 4) hx hb dX12_setsOut_56 (by decide) ?_
  refine lv_iadd hx hb dX12_setsOut_57 ?_
  refine lv_topi (fun x18 ex18 => ?_)
  have ex18 : x18.toInt = x2.toInt + (4 : Int) := by rw [ex18]; exact wk_add (show (-2147483648) ≤ x2.toInt + (4 : Int) by omega) (show x2.toInt + (4 : Int) ≤ 2147483647 by omega)
  refine lv_iload hx hb dX12_setsOut_58 (lv_at hl 7 rfl) ?_
  refine tk_iastR hC hK hw hT kM_at12 (by decide) rfl (show 0 ≤ x18.toInt by omega) (show x18.toInt < 296 by omega) ((tk_rgB rfl 220 9 4 (by decide +kernel) ⟨(a1.toInt - 0).toNat, by omega, show x18.toInt.toNat = 220 + 9 * (a1.toInt - 0).toNat by omega⟩).mpr ⟨(show 0 ≤ a6.toInt by omega), (show a6.toInt ≤ B by omega)⟩) dX12_setsOut_60 (fun H locs w19 hw hT k21 c20 => ?_)
  have hF := hF.put kM_at12 (inE_of (a := 220) (b := 247) (by decide) (show 220 ≤ x18.toInt.toNat by omega) (show x18.toInt.toNat ≤ 247 by omega)) k21
  refine lv_aload_n hx hb dX12_setsOut_61 rfl (lv_at hl 1 rfl) ?_
  refine tk_getA hC hK hw hT hinX12 kM_at0 (by decide) rfl 26 (by decide) (List.mem_of_getElem? (i := 1) rfl) rfl rfl dX12_setsOut_62 ?_
  refine lv_iload hx hb dX12_setsOut_65 (lv_at hl 0 rfl) ?_
  refine lv_iconst (v := 5) hx hb dX12_setsOut_67 (by decide) ?_
  refine lv_iadd hx hb dX12_setsOut_68 ?_
  refine lv_topi (fun x22 ex22 => ?_)
  have ex22 : x22.toInt = x2.toInt + (5 : Int) := by rw [ex22]; exact wk_add (show (-2147483648) ≤ x2.toInt + (5 : Int) by omega) (show x2.toInt + (5 : Int) ≤ 2147483647 by omega)
  refine lv_iconst (v := 0) hx hb dX12_setsOut_69 (by decide) ?_
  refine tk_iastR hC hK hw hT kM_at12 (by decide) rfl (show 0 ≤ x22.toInt by omega) (show x22.toInt < 296 by omega) (tk_rg0 rfl (show 0 ≤ B by omega) (by decide)) dX12_setsOut_70 (fun H locs w23 hw hT k25 c24 => ?_)
  have hF := hF.put kM_at12 (inE_of (a := 221) (b := 248) (by decide) (show 221 ≤ x22.toInt.toNat by omega) (show x22.toInt.toNat ≤ 248 by omega)) k25
  refine lv_aload_n hx hb dX12_setsOut_71 rfl (lv_at hl 1 rfl) ?_
  refine tk_getA hC hK hw hT hinX12 kM_at0 (by decide) rfl 26 (by decide) (List.mem_of_getElem? (i := 1) rfl) rfl rfl dX12_setsOut_72 ?_
  refine lv_iload hx hb dX12_setsOut_75 (lv_at hl 0 rfl) ?_
  refine lv_bipush (v := 6) hx hb dX12_setsOut_77 (by decide) ?_
  refine lv_iadd hx hb dX12_setsOut_79 ?_
  refine lv_topi (fun x26 ex26 => ?_)
  have ex26 : x26.toInt = x2.toInt + (6 : Int) := by rw [ex26]; exact wk_add (show (-2147483648) ≤ x2.toInt + (6 : Int) by omega) (show x2.toInt + (6 : Int) ≤ 2147483647 by omega)
  refine lv_iconst (v := 0) hx hb dX12_setsOut_80 (by decide) ?_
  refine tk_iastR hC hK hw hT kM_at12 (by decide) rfl (show 0 ≤ x26.toInt by omega) (show x26.toInt < 296 by omega) (tk_rg0 rfl (show 0 ≤ B by omega) (by decide)) dX12_setsOut_81 (fun H locs w27 hw hT k29 c28 => ?_)
  have hF := hF.put kM_at12 (inE_of (a := 222) (b := 249) (by decide) (show 222 ≤ x26.toInt.toNat by omega) (show x26.toInt.toNat ≤ 249 by omega)) k29
  refine lv_aload_n hx hb dX12_setsOut_82 rfl (lv_at hl 1 rfl) ?_
  refine tk_getA hC hK hw hT hinX12 kM_at0 (by decide) rfl 26 (by decide) (List.mem_of_getElem? (i := 1) rfl) rfl rfl dX12_setsOut_83 ?_
  refine lv_iload hx hb dX12_setsOut_86 (lv_at hl 0 rfl) ?_
  refine lv_bipush (v := 7) hx hb dX12_setsOut_88 (by decide) ?_
  refine lv_iadd hx hb dX12_setsOut_90 ?_
  refine lv_topi (fun x30 ex30 => ?_)
  have ex30 : x30.toInt = x2.toInt + (7 : Int) := by rw [ex30]; exact wk_add (show (-2147483648) ≤ x2.toInt + (7 : Int) by omega) (show x2.toInt + (7 : Int) ≤ 2147483647 by omega)
  refine lv_iconst (v := (-1)) hx hb dX12_setsOut_91 (by decide) ?_
  refine tk_iastR hC hK hw hT kM_at12 (by decide) rfl (show 0 ≤ x30.toInt by omega) (show x30.toInt < 296 by omega) (tk_rgS rfl 223 9 4 (-1) (-1) (by decide +kernel) ⟨(a1.toInt - 0).toNat, by omega, show x30.toInt.toNat = 223 + 9 * (a1.toInt - 0).toNat by omega⟩ (by decide) (by decide)) dX12_setsOut_92 (fun H locs w31 hw hT k33 c32 => ?_)
  have hF := hF.put kM_at12 (inE_of (a := 223) (b := 250) (by decide) (show 223 ≤ x30.toInt.toNat by omega) (show x30.toInt.toNat ≤ 250 by omega)) k33
  refine lv_aload_n hx hb dX12_setsOut_93 rfl (lv_at hl 1 rfl) ?_
  refine tk_getA hC hK hw hT hinX12 kM_at0 (by decide) rfl 26 (by decide) (List.mem_of_getElem? (i := 1) rfl) rfl rfl dX12_setsOut_94 ?_
  refine lv_iload hx hb dX12_setsOut_97 (lv_at hl 0 rfl) ?_
  refine lv_bipush (v := 8) hx hb dX12_setsOut_99 (by decide) ?_
  refine lv_iadd hx hb dX12_setsOut_101 ?_
  refine lv_topi (fun x34 ex34 => ?_)
  have ex34 : x34.toInt = x2.toInt + (8 : Int) := by rw [ex34]; exact wk_add (show (-2147483648) ≤ x2.toInt + (8 : Int) by omega) (show x2.toInt + (8 : Int) ≤ 2147483647 by omega)
  refine lv_iconst (v := (-1)) hx hb dX12_setsOut_102 (by decide) ?_
  refine tk_iastR hC hK hw hT kM_at12 (by decide) rfl (show 0 ≤ x34.toInt by omega) (show x34.toInt < 296 by omega) (tk_rgS rfl 224 9 4 (-1) (-1) (by decide +kernel) ⟨(a1.toInt - 0).toNat, by omega, show x34.toInt.toNat = 224 + 9 * (a1.toInt - 0).toNat by omega⟩ (by decide) (by decide)) dX12_setsOut_103 (fun H locs w35 hw hT k37 c36 => ?_)
  have hF := hF.put kM_at12 (inE_of (a := 224) (b := 251) (by decide) (show 224 ≤ x34.toInt.toNat by omega) (show x34.toInt.toNat ≤ 251 by omega)) k37
  exact tk_vret hC hr hlocks hK ⟨hT, hF, trivial⟩ hw dX12_setsOut_104
