abbrev Pz_X12_isDoingHere_2 (ad : Nat → Nat) (cy : Nat → ClassId) (B : Int) (qr : Nat) (s1 : Int)  (gT : Int) (w0 : va_W) : Int32 → va_W → Prop := fun r u => TW ksM ad cy B qr 12 u ∧ FE ksM [(12, 14, 14), (12, 15, 15), (12, 16, 16), (12, 18, 18), (12, 19, 19), (12, 22, 22), (61, 0, 2400), (62, 0, 7), (63, 0, 216), (64, 0, 6), (68, 0, 400)] w0 u ∧ Ev (fun n => m_X12_isDoingHere n 0 (-1) (sI w0)) (r.toInt, sI u) ∧ ((r = 0 ∧ (∃ y : Int32, gi u 0 1 = y ∧ 1 ≤ y.toInt ∧ y.toInt ≤ 400) ∧ (∃ y : Int32, gi u 0 15 = y ∧ 1 ≤ y.toInt ∧ y.toInt ≤ 3205) ∧ (∃ y : Int32, gi u 0 17 = y ∧ 0 ≤ y.toInt ∧ y.toInt ≤ 5) ∧ (∃ y : Int32, gi u 0 22 = y ∧ 0 ≤ y.toInt ∧ y.toInt ≤ 399) ∧ RLc u gT) ∨ (r = 0 ∧ (∃ y : Int32, gi u 0 1 = y ∧ 0 ≤ y.toInt ∧ y.toInt ≤ 400) ∧ (∃ y : Int32, gi u 0 15 = y ∧ 1 ≤ y.toInt ∧ y.toInt ≤ 3205) ∧ (∃ y : Int32, gi u 0 17 = y ∧ 0 ≤ y.toInt ∧ y.toInt ≤ 5) ∧ (∃ y : Int32, gi u 0 22 = y ∧ 0 ≤ y.toInt ∧ y.toInt ≤ 399) ∧ RLc u gT) ∨ (r = 1 ∧ (∃ y : Int32, gi u 0 1 = y ∧ 1 ≤ y.toInt ∧ y.toInt ≤ 400) ∧ (∃ y : Int32, gi u 0 17 = y ∧ 0 ≤ y.toInt ∧ y.toInt ≤ 5) ∧ RLc u gT ∧ (3 * (gi u 3 ((gi u 0 17).toInt).toNat).toInt ≤ 14 * (gi u 0 18).toInt) ∧ ((gi u 5 ((gi u 0 17).toInt).toNat).toInt = (gi w0 5 ((gi w0 0 17).toInt).toNat).toInt + 1)) ∨ (r = 1 ∧ (∃ y : Int32, gi u 0 1 = y ∧ 0 ≤ y.toInt ∧ y.toInt ≤ 400) ∧ (∃ y : Int32, gi u 0 17 = y ∧ 0 ≤ y.toInt ∧ y.toInt ≤ 5) ∧ RLc u gT ∧ (3 * (gi u 3 ((gi u 0 17).toInt).toNat).toInt ≤ 14 * (gi u 0 18).toInt) ∧ ((gi u 5 ((gi u 0 17).toInt).toNat).toInt = (gi w0 5 ((gi w0 0 17).toInt).toNat).toInt + 1)))
set_option maxHeartbeats 4000000 in
set_option maxRecDepth 100000 in
theorem kz_X12_isDoingHere_2 (l : Launch) (adK adV : Nat → Nat) (dC : Nat → ClassId) (dI : Nat → Nat → Nat) (cy : Nat → ClassId) (ad : Nat → Nat) (B : Int) (hB0 : 100000 ≤ B) (hB1 : B ≤ 1073741824) (qr : Nat) (s1 : Int)   (w0 : va_W) (sz : Nat) (hT : TW ksM ad cy B qr 12 w0) (f0_ : Int32) (cf0_ : gi w0 0 17 = f0_) (rf0_ : 0 ≤ f0_.toInt) (tf0_ : f0_.toInt ≤ 5) (f1_ : Int32) (cf1_ : gi w0 0 18 = f1_) (rf1_ : 0 ≤ f1_.toInt) (tf1_ : f1_.toInt ≤ 60) (f2_ : Int32) (cf2_ : gi w0 3 (f0_.toInt).toNat = f2_) (rf2_ : 0 ≤ f2_.toInt) (tf2_ : f2_.toInt ≤ 400) (f3_ : Int32) (cf3_ : gi w0 5 (f0_.toInt).toNat = f3_) (rf3_ : 0 ≤ f3_.toInt) (tf3_ : f3_.toInt ≤ 12) (pr0_ : 3 * f2_.toInt ≤ 14 * f1_.toInt) (pr1_ : f2_.toInt ≤ 280) (pr2_ : f3_.toInt ≤ 11) (hR : RLc w0 f0_.toInt) : Met l yX12_isDoingHere (wu yX12_isDoingHere cX12_isDoingHere 3 (some .boolean)) ({ frames := 10, cells := 0, slots := 0, locals := 210 }) (va_Pc [.ref (ad 0), .int (-1)] (wpreS adK adV dC dI cy sz w0)) (va_Qi (Pz_X12_isDoingHere_2 ad cy B qr s1  f0_.toInt w0) (fun u : va_W => wpost dC dI cy (va_A w0 sz) u) (va_A w0 sz)) 0 0 (va_A w0 sz) := by
  refine Met.ofW (cc := cX12_isDoingHere) (maxL := 3) (ret := (some .boolean)) (by decide) rfl ?_
  intro p e s m args below meth c s₁ Bk hml hv
  obtain ⟨rfl, ⟨hsz, hP, hK, hD0⟩, hE, hSR⟩ := hv
  have hx := Bk.exec
  have hb := Bk.bytes
  have hr := Bk.returns
  have hlocks := Bk.notSynchronized
  have hC : CallFix p m c cX12_isDoingHere 3 s _ (wu yX12_isDoingHere cX12_isDoingHere 3 (some .boolean)) RX12 := ⟨hx, hb, hml, findClass_of_methodNamed Bk.named, atoms_spec (ws := (wu yX12_isDoingHere cX12_isDoingHere 3 (some .boolean))) Bk.pre⟩
  subst hsz
  have hD := hD0.self (sz := s.heap.size)
  generalize hAe : va_A w0 s.heap.size = A at hD hE ⊢
  have hA : ∀ q : Nat, s.heap.size ≤ q → A q := fun q h => by rw [← hAe]; exact Or.inr h
  have hw : Wd dC dI A s.heap s.heap [] w0 := ⟨hP, hD, va_S.rf⟩
  have hF : FE ksM [(12, 14, 14), (12, 15, 15), (12, 16, 16), (12, 18, 18), (12, 19, 19), (12, 22, 22), (61, 0, 2400), (62, 0, 7), (63, 0, 216), (64, 0, 6), (68, 0, 400)] w0 w0 := FE.rf
  have hl := lv_entry ([.ref (ad 0), .int (-1)]) (n := 3) (Nat.le_of_ble_eq_true rfl)
  rw [lg_entry_eq]
  generalize (lg_sl ([.ref (ad 0), .int (-1)]) ++ List.replicate (3 - (lg_sl ([.ref (ad 0), .int (-1)])).length) Slot.unset).toArray = ls at hl ⊢
  have hl : lv_has ls 3 [(0, .ref (ad 0)), (1, .int (-1))] := hl
  generalize hloc : ([] : List Loc) = locs at hw ⊢
  have hinX12 : ∀ w ∈ u_ws RX12 TX12 42, w ∈ (wu yX12_isDoingHere cX12_isDoingHere 3 (some .boolean)) := fun _ h => List.mem_cons_of_mem _ (up_71 h)
  have hM : TT (fun n => m_X12_isDoingHere n 0 (-1) (sI w0)) (fun n => m_X12_isDoingHere n 0 (-1) (sI w0)) := TT.rf
  refine lv_aload_n hx hb dX12_isDoingHere_0 rfl (lv_at hl 0 rfl) ?_
  refine tk_Vv hC hK hw hT hA hE hSR kM_at0 (by decide) rfl (kz_X12_passWord_1 l adK adV dC dI cy ad B hB0 (Int.le_trans hB1 (by decide)) qr s1    w0 s.heap.size hT ) (cwV 0 hC.2.2.2.2 uV_RX12_109 rfl rfl rfl (by decide +kernel) ⟨Nat.le_of_ble_eq_true rfl, Nat.le_of_ble_eq_true rfl⟩) rfl hl.1 rfl (Nat.le_of_ble_eq_true rfl) dX12_isDoingHere_1 (fun w3 H locs hp2 hw => ?_)
  obtain ⟨hT, k4, hv12, hg11⟩ := hp2
  have hR := RL_FE k4 (fun _ => rfl) (fun _ => rfl) (fun _ => rfl) (fun _ => rfl) hR
  have hF := hF.tr k4 (by decide)
  have c13 := k4.gi kM_at0 (by decide) cf0_
  have c14 := k4.gi kM_at0 (by decide) cf1_
  have c15 := k4.gi kM_at3 rfl cf2_
  have c16 := k4.gi kM_at5 rfl cf3_
  rcases hg11 with ⟨⟨x5, c6, rx5, tx5⟩, ⟨x7, c8, rx7, tx7⟩⟩ | ⟨x9, c10, rx9, tx9⟩
  · replace hM := hM.call hv12 rfl
    refine lv_bipush (v := 36) hx hb dX12_isDoingHere_4 (by decide) ?_
    refine lv_aload_n hx hb dX12_isDoingHere_6 rfl (lv_at hl 0 rfl) ?_
    refine tk_geti hC hK hw hT hinX12 kM_at0 (by decide) rfl 17 (by decide) (List.mem_cons_of_mem _ uw_19_7) rfl rfl dX12_isDoingHere_7 (fun x17 c18 rx17 tx17 => ?_)
    refine wk_top f0_ (c18.symm.trans c13) ?_
    replace hM := hM.rd (sI_at c13)
    refine lv_imul hx hb dX12_isDoingHere_10 ?_
    refine lv_topi (fun x19 ex19 => ?_)
    have ezx19 := ex19
    have ex19 : x19.toInt = (36 : Int) * f0_.toInt := by rw [ex19]; exact wk_mul (show (-2147483648) ≤ (36 : Int) * f0_.toInt by omega) (show (36 : Int) * f0_.toInt ≤ 2147483647 by omega)
    replace hM := hM.lt ex19.symm
    refine lv_iconst (v := 3) hx hb dX12_isDoingHere_11 (by decide) ?_
    refine lv_aload_n hx hb dX12_isDoingHere_12 rfl (lv_at hl 0 rfl) ?_
    refine tk_getA hC hK hw hT hinX12 kM_at0 (by decide) rfl 6 (by decide) (List.mem_cons_of_mem _ uw_6_18) rfl rfl dX12_isDoingHere_13 ?_
    refine lv_aload_n hx hb dX12_isDoingHere_16 rfl (lv_at hl 0 rfl) ?_
    refine tk_geti hC hK hw hT hinX12 kM_at0 (by decide) rfl 17 (by decide) (List.mem_cons_of_mem _ uw_19_7) rfl rfl dX12_isDoingHere_17 (fun x20 c21 rx20 tx20 => ?_)
    refine wk_top f0_ (c21.symm.trans c13) ?_
    replace hM := hM.rd (sI_at c13)
    refine tk_iald hC hK hw hT kM_at5 rfl rfl (show 0 ≤ f0_.toInt from rf0_) (show f0_.toInt < 6 from Int.lt_of_le_of_lt tf0_ (by decide)) dX12_isDoingHere_20 (fun x22 c23 rx22 tx22 => ?_)
    have hox22 := c23
    have c23 : gi w3 5 (f0_.toInt).toNat = x22 := (congrArg (gi w3 5) (congrArg Int.toNat (show f0_.toInt = f0_.toInt from rfl))).trans c23
    refine wk_top f3_ (c23.symm.trans c16) ?_
    replace hM := hM.rd ((sI_at hox22).trans (congrArg Int32.toInt (c23.symm.trans c16)))
    refine lv_imul hx hb dX12_isDoingHere_21 ?_
    refine lv_topi (fun x24 ex24 => ?_)
    have ezx24 := ex24
    have ex24 : x24.toInt = (3 : Int) * f3_.toInt := by rw [ex24]; exact wk_mul (show (-2147483648) ≤ (3 : Int) * f3_.toInt by omega) (show (3 : Int) * f3_.toInt ≤ 2147483647 by omega)
    replace hM := hM.lt ex24.symm
    refine lv_iadd hx hb dX12_isDoingHere_22 ?_
    refine lv_topi (fun x25 ex25 => ?_)
    have ezx25 := ex25
    have ex25 : x25.toInt = x19.toInt + x24.toInt := by rw [ex25]; exact wk_add (show (-2147483648) ≤ x19.toInt + x24.toInt by omega) (show x19.toInt + x24.toInt ≤ 2147483647 by omega)
    replace hM := hM.lt ex25.symm
    refine lv_istore_n (lv' := [(2, .int x25), (0, .ref (ad 0)), (1, .int (-1))]) hx hb dX12_isDoingHere_23 rfl hl (by decide) rfl (fun ls hl => ?_)
    refine lv_aload_n hx hb dX12_isDoingHere_24 rfl (lv_at hl 1 rfl) ?_
    refine tk_getA hC hK hw hT hinX12 kM_at0 (by decide) rfl 5 (by decide) (List.mem_cons_of_mem _ uw_6_17) rfl rfl dX12_isDoingHere_25 ?_
    refine lv_iload_n hx hb dX12_isDoingHere_28 rfl (lv_at hl 0 rfl) ?_
    refine lv_iload_n hx hb dX12_isDoingHere_29 rfl (lv_at hl 2 rfl) ?_
    refine tk_iast hC hK hw hT kM_at4 (by decide) rfl rfl (show 0 ≤ x25.toInt by first | with_reducible assumption | omega) (show x25.toInt < 216 by first | with_reducible assumption | omega) (by decide) (by decide) dX12_isDoingHere_30 (fun H locs w26 hw hT k28 c27 => ?_)
    replace hM := hM.wr (sI_upc k28 c27 (by decide))
    have hR := RL_clause hR k28 (show 36 * f0_.toInt + 3 * (gi w3 5 (f0_.toInt).toNat).toInt ≤ ((x25.toInt.toNat : Nat) : Int) by rw [c16]; omega) (show ((x25.toInt.toNat : Nat) : Int) < 36 * f0_.toInt + 36 by omega) (fun r hr => by obtain ⟨x, e, t⟩ := hT.rda (lo := 0) (hi := 12) (i := r) kM_at5 rfl rfl hr; rw [e]; exact t)
    have hF := hF.put kM_at4 (inE_of (a := 0) (b := 216) (by decide) (show 0 ≤ x25.toInt.toNat by omega) (show x25.toInt.toNat ≤ 216 by omega)) k28
    have c29 := k28.gi (Or.inl (tk_ne kM_at0 kM_at4 (by decide))) c13
    have c30 := k28.gi (Or.inl (tk_ne kM_at0 kM_at4 (by decide))) c14
    have c31 := k28.gi (Or.inl (tk_ne kM_at3 kM_at4 (by decide))) c15
    have c32 := k28.gi (Or.inl (tk_ne kM_at5 kM_at4 (by decide))) c16
    have c33 := k28.gi (Or.inl (tk_ne kM_at0 kM_at4 (by decide))) c6
    have c34 := k28.gi (Or.inl (tk_ne kM_at0 kM_at4 (by decide))) c8
    have c27 : gi w26 4 (36 * f0_.toInt + 3 * f3_.toInt + 0).toNat = (-1) := (congrArg (gi w26 4) (congrArg Int.toNat (show 36 * f0_.toInt + 3 * f3_.toInt + 0 = x25.toInt by first | exact Int.le_antisymm (by omega) (by omega) | omega))).trans c27
    refine lv_aload_n hx hb dX12_isDoingHere_31 rfl (lv_at hl 1 rfl) ?_
    refine tk_getA hC hK hw hT hinX12 kM_at0 (by decide) rfl 5 (by decide) (List.mem_cons_of_mem _ uw_6_17) rfl rfl dX12_isDoingHere_32 ?_
    refine lv_iload_n hx hb dX12_isDoingHere_35 rfl (lv_at hl 0 rfl) ?_
    refine lv_iconst (v := 1) hx hb dX12_isDoingHere_36 (by decide) ?_
    refine lv_iadd hx hb dX12_isDoingHere_37 ?_
    refine lv_topi (fun x35 ex35 => ?_)
    have ezx35 := ex35
    have ex35 : x35.toInt = x25.toInt + (1 : Int) := by rw [ex35]; exact wk_add (show (-2147483648) ≤ x25.toInt + (1 : Int) by omega) (show x25.toInt + (1 : Int) ≤ 2147483647 by omega)
    replace hM := hM.lt ex35.symm
    refine lv_iconst (v := (-1)) hx hb dX12_isDoingHere_38 (by decide) ?_
    refine tk_iast hC hK hw hT kM_at4 (by decide) rfl rfl (show 0 ≤ x35.toInt by first | with_reducible assumption | omega) (show x35.toInt < 216 by first | with_reducible assumption | omega) (by decide) (by decide) dX12_isDoingHere_39 (fun H locs w36 hw hT k38 c37 => ?_)
    replace hM := hM.wr (sI_upc k38 c37 (by decide))
    have hR := RL_clause hR k38 (show 36 * f0_.toInt + 3 * (gi w26 5 (f0_.toInt).toNat).toInt ≤ ((x35.toInt.toNat : Nat) : Int) by rw [c32]; omega) (show ((x35.toInt.toNat : Nat) : Int) < 36 * f0_.toInt + 36 by omega) (fun r hr => by obtain ⟨x, e, t⟩ := hT.rda (lo := 0) (hi := 12) (i := r) kM_at5 rfl rfl hr; rw [e]; exact t)
    have hF := hF.put kM_at4 (inE_of (a := 0) (b := 216) (by decide) (show 0 ≤ x35.toInt.toNat by omega) (show x35.toInt.toNat ≤ 216 by omega)) k38
    have c39 := k38.gi (Or.inl (tk_ne kM_at0 kM_at4 (by decide))) c29
    have c40 := k38.gi (Or.inl (tk_ne kM_at0 kM_at4 (by decide))) c30
    have c41 := k38.gi (Or.inl (tk_ne kM_at3 kM_at4 (by decide))) c31
    have c42 := k38.gi (Or.inl (tk_ne kM_at5 kM_at4 (by decide))) c32
    have c43 := k38.gi (Or.inl (tk_ne kM_at0 kM_at4 (by decide))) c33
    have c44 := k38.gi (Or.inl (tk_ne kM_at0 kM_at4 (by decide))) c34
    have c45 := k38.gi (Or.inr (show (36 * f0_.toInt + 3 * f3_.toInt + 0).toNat ≠ x35.toInt.toNat by omega)) c27
    have c37 : gi w36 4 (36 * f0_.toInt + 3 * f3_.toInt + 1).toNat = (-1) := (congrArg (gi w36 4) (congrArg Int.toNat (show 36 * f0_.toInt + 3 * f3_.toInt + 1 = x35.toInt by first | exact Int.le_antisymm (by omega) (by omega) | omega))).trans c37
    refine lv_aload_n hx hb dX12_isDoingHere_40 rfl (lv_at hl 1 rfl) ?_
    refine lv_ldc2 (v := 26982) hx hb hC.2.2.2.1 (hC.2.2.2.2 _ (List.mem_cons_of_mem _ uw_23_4)) dX12_isDoingHere_41 ?_
    refine tk_Vi hC hK hw hT hA hE hSR kM_at0 (by decide) rfl (kz_X12_takesWord_1 l adK adV dC dI cy ad B hB0 (Int.le_trans hB1 (by decide)) qr s1    w36 H.size hT ) (cwV 1 hC.2.2.2.2 uV_RX12_212 rfl rfl rfl (by decide +kernel) ⟨Nat.le_of_ble_eq_true rfl, Nat.le_of_ble_eq_true rfl⟩) rfl hl.1 rfl (Nat.le_of_ble_eq_true rfl) dX12_isDoingHere_44 (fun r46 w48 H locs hp47 hw => ?_)
    obtain ⟨hT, k49, hv59, hg58⟩ := hp47
    have hR := RL_FE k49 (fun _ => rfl) (fun _ => rfl) (fun _ => rfl) (fun _ => rfl) hR
    have hF := hF.tr k49 (by decide)
    have c60 := k49.gi kM_at0 (by decide) c39
    have c61 := k49.gi kM_at0 (by decide) c40
    have c62 := k49.gi kM_at3 rfl c41
    have c63 := k49.gi kM_at5 rfl c42
    have c64 := k49.gi kM_at0 (by decide) c43
    have c65 := k49.gi kM_at4 rfl c45
    have c66 := k49.gi kM_at4 rfl c37
    rcases hg58 with ⟨rfl, ⟨x50, c51, rx50, tx50⟩⟩ | ⟨rfl, ⟨x52, c53, rx52, tx52⟩, ⟨x54, c55, rx54, tx54⟩⟩ | ⟨rfl, ⟨x56, c57, rx56, tx56⟩⟩
    · replace hM := hM.call (r' := 0) hv59 (by decide)
      have ex50 : x50.toInt = x5.toInt := by rw [← c64.symm.trans c51]
      refine lv_if_eq (tgt := 76) hx hb dX12_isDoingHere_47 (by decide) (fun _ => ?_) (fun c => absurd (by decide) c)
      replace hM := hM.pos (by decide)
      refine lv_aload_n hx hb dX12_isDoingHere_76 rfl (lv_at hl 1 rfl) ?_
      refine tk_getA hC hK hw hT hinX12 kM_at0 (by decide) rfl 5 (by decide) (List.mem_cons_of_mem _ uw_6_17) rfl rfl dX12_isDoingHere_77 ?_
      refine lv_iload_n hx hb dX12_isDoingHere_80 rfl (lv_at hl 0 rfl) ?_
      refine lv_iconst (v := 2) hx hb dX12_isDoingHere_81 (by decide) ?_
      refine lv_iadd hx hb dX12_isDoingHere_82 ?_
      refine lv_topi (fun x67 ex67 => ?_)
      have ezx67 := ex67
      have ex67 : x67.toInt = x25.toInt + (2 : Int) := by rw [ex67]; exact wk_add (show (-2147483648) ≤ x25.toInt + (2 : Int) by omega) (show x25.toInt + (2 : Int) ≤ 2147483647 by omega)
      replace hM := hM.lt ex67.symm
      refine lv_aload_n hx hb dX12_isDoingHere_83 rfl (lv_at hl 1 rfl) ?_
      refine tk_getA hC hK hw hT hinX12 kM_at0 (by decide) rfl 4 (by decide) (List.mem_cons_of_mem _ uw_6_16) rfl rfl dX12_isDoingHere_84 ?_
      refine lv_aload_n hx hb dX12_isDoingHere_87 rfl (lv_at hl 1 rfl) ?_
      refine tk_geti hC hK hw hT hinX12 kM_at0 (by decide) rfl 17 (by decide) (List.mem_cons_of_mem _ uw_19_7) rfl rfl dX12_isDoingHere_88 (fun x68 c69 rx68 tx68 => ?_)
      refine wk_top f0_ (c69.symm.trans c60) ?_
      replace hM := hM.rd (sI_at c60)
      refine tk_iald hC hK hw hT kM_at3 rfl rfl (show 0 ≤ f0_.toInt from rf0_) (show f0_.toInt < 7 from Int.lt_of_le_of_lt tf0_ (by decide)) dX12_isDoingHere_91 (fun x70 c71 rx70 tx70 => ?_)
      have hox70 := c71
      have c71 : gi w48 3 (f0_.toInt).toNat = x70 := (congrArg (gi w48 3) (congrArg Int.toNat (show f0_.toInt = f0_.toInt from rfl))).trans c71
      refine wk_top f2_ (c71.symm.trans c62) ?_
      replace hM := hM.rd ((sI_at hox70).trans (congrArg Int32.toInt (c71.symm.trans c62)))
      refine tk_iast hC hK hw hT kM_at4 (by decide) rfl rfl (show 0 ≤ x67.toInt by first | with_reducible assumption | omega) (show x67.toInt < 216 by first | with_reducible assumption | omega) (wk_i32 f2_).1 (wk_i32 f2_).2 dX12_isDoingHere_92 (fun H locs w72 hw hT k74 c73 => ?_)
      replace hM := hM.wr (sI_up k74 c73)
      have hR := RL_clause hR k74 (show 36 * f0_.toInt + 3 * (gi w48 5 (f0_.toInt).toNat).toInt ≤ ((x67.toInt.toNat : Nat) : Int) by rw [c63]; omega) (show ((x67.toInt.toNat : Nat) : Int) < 36 * f0_.toInt + 36 by omega) (fun r hr => by obtain ⟨x, e, t⟩ := hT.rda (lo := 0) (hi := 12) (i := r) kM_at5 rfl rfl hr; rw [e]; exact t)
      have hF := hF.put kM_at4 (inE_of (a := 0) (b := 216) (by decide) (show 0 ≤ x67.toInt.toNat by omega) (show x67.toInt.toNat ≤ 216 by omega)) k74
      have c75 := k74.gi (Or.inl (tk_ne kM_at0 kM_at4 (by decide))) c60
      have c76 := k74.gi (Or.inl (tk_ne kM_at0 kM_at4 (by decide))) c61
      have c77 := k74.gi (Or.inl (tk_ne kM_at3 kM_at4 (by decide))) c62
      have c78 := k74.gi (Or.inl (tk_ne kM_at5 kM_at4 (by decide))) c63
      have c79 := k74.gi (Or.inl (tk_ne kM_at0 kM_at4 (by decide))) c64
      have c80 := k74.gi (Or.inr (show (36 * f0_.toInt + 3 * f3_.toInt + 0).toNat ≠ x67.toInt.toNat by omega)) c65
      have c81 := k74.gi (Or.inr (show (36 * f0_.toInt + 3 * f3_.toInt + 1).toNat ≠ x67.toInt.toNat by omega)) c66
      have c73 : gi w72 4 (36 * f0_.toInt + 3 * f3_.toInt + 2).toNat = f2_ := (congrArg (gi w72 4) (congrArg Int.toNat (show 36 * f0_.toInt + 3 * f3_.toInt + 2 = x67.toInt by first | exact Int.le_antisymm (by omega) (by omega) | omega))).trans c73
      refine lv_aload_n hx hb dX12_isDoingHere_93 rfl (lv_at hl 1 rfl) ?_
      refine tk_getA hC hK hw hT hinX12 kM_at0 (by decide) rfl 6 (by decide) (List.mem_cons_of_mem _ uw_6_18) rfl rfl dX12_isDoingHere_94 ?_
      refine lv_aload_n hx hb dX12_isDoingHere_97 rfl (lv_at hl 1 rfl) ?_
      refine tk_geti hC hK hw hT hinX12 kM_at0 (by decide) rfl 17 (by decide) (List.mem_cons_of_mem _ uw_19_7) rfl rfl dX12_isDoingHere_98 (fun x82 c83 rx82 tx82 => ?_)
      refine wk_top f0_ (c83.symm.trans c75) ?_
      replace hM := hM.rd (sI_at c75)
      refine lv_dup2_11 hx hb dX12_isDoingHere_101 rfl rfl ?_
      refine tk_iald hC hK hw hT kM_at5 rfl rfl (show 0 ≤ f0_.toInt from rf0_) (show f0_.toInt < 6 from Int.lt_of_le_of_lt tf0_ (by decide)) dX12_isDoingHere_102 (fun x84 c85 rx84 tx84 => ?_)
      have hox84 := c85
      have c85 : gi w72 5 (f0_.toInt).toNat = x84 := (congrArg (gi w72 5) (congrArg Int.toNat (show f0_.toInt = f0_.toInt from rfl))).trans c85
      refine wk_top f3_ (c85.symm.trans c78) ?_
      replace hM := hM.rd ((sI_at hox84).trans (congrArg Int32.toInt (c85.symm.trans c78)))
      refine lv_iconst (v := 1) hx hb dX12_isDoingHere_103 (by decide) ?_
      refine lv_iadd hx hb dX12_isDoingHere_104 ?_
      refine lv_topi (fun x86 ex86 => ?_)
      have ezx86 := ex86
      have ex86 : x86.toInt = f3_.toInt + (1 : Int) := by rw [ex86]; exact wk_add (show (-2147483648) ≤ f3_.toInt + (1 : Int) by omega) (show f3_.toInt + (1 : Int) ≤ 2147483647 by omega)
      replace hM := hM.lt ex86.symm
      refine tk_iast hC hK hw hT kM_at5 (by decide) rfl rfl (show 0 ≤ f0_.toInt from rf0_) (show f0_.toInt < 6 from Int.lt_of_le_of_lt tf0_ (by decide)) (show 0 ≤ x86.toInt by first | with_reducible assumption | omega) (show x86.toInt ≤ 12 by first | with_reducible assumption | omega) dX12_isDoingHere_105 (fun H locs w87 hw hT k89 c88 => ?_)
      replace hM := hM.wr (sI_up k89 c88)
      have hR := RL_add (t := f0_.toInt) (K := f3_) (b := (-1)) hR k89 c78 (by rw [show gi w87 5 (f0_.toInt).toNat = x86 from c88]; omega) (by omega) c81 (c73.trans c77.symm) (by rw [c77]; omega) (Or.inl (by decide))
      have hF := hF.put kM_at5 (inE_of (a := 0) (b := 6) (by decide) (show 0 ≤ f0_.toInt.toNat by omega) (show f0_.toInt.toNat ≤ 6 by omega)) k89
      have c90 := k89.gi (Or.inl (tk_ne kM_at0 kM_at5 (by decide))) c75
      have c91 := k89.gi (Or.inl (tk_ne kM_at0 kM_at5 (by decide))) c76
      have c92 := k89.gi (Or.inl (tk_ne kM_at3 kM_at5 (by decide))) c77
      have c93 := k89.gi (Or.inl (tk_ne kM_at0 kM_at5 (by decide))) c79
      have c94 := k89.gi (Or.inl (tk_ne kM_at4 kM_at5 (by decide))) c80
      have c95 := k89.gi (Or.inl (tk_ne kM_at4 kM_at5 (by decide))) c81
      have c96 := k89.gi (Or.inl (tk_ne kM_at4 kM_at5 (by decide))) c73
      have c88 : gi w87 5 (f0_.toInt).toNat = x86 := (congrArg (gi w87 5) (congrArg Int.toNat (show f0_.toInt = f0_.toInt from rfl))).trans c88
      refine lv_iconst (v := 1) hx hb dX12_isDoingHere_106 (by decide) ?_
      exact tk_zret hC hr rfl hlocks hK ⟨hT, hF, hM.ret (by decide), (Or.inr (Or.inr (Or.inl ⟨rfl, ⟨x5, c93, (show 1 ≤ x5.toInt by first | with_reducible assumption | omega), (show x5.toInt ≤ 400 by first | with_reducible assumption | omega)⟩, ⟨f0_, c90, (show 0 ≤ f0_.toInt from rf0_), (show f0_.toInt ≤ 5 from tf0_)⟩, hR, (by simp only [c90, cf0_, c92, c91]; omega), (by simp only [c90, cf0_, cf3_, c88]; omega)⟩)))⟩ hw dX12_isDoingHere_107
    · replace hM := hM.call (r' := 1) hv59 (by decide)
      have ex52 : x52.toInt = x5.toInt := by rw [← c64.symm.trans c53]
      refine lv_if_eq (tgt := 76) hx hb dX12_isDoingHere_47 (by decide) (fun c => absurd c (by decide)) (fun _ => ?_)
      replace hM := hM.neg (by decide)
      refine lv_aload_n hx hb dX12_isDoingHere_50 rfl (lv_at hl 1 rfl) ?_
      refine tk_getA hC hK hw hT hinX12 kM_at0 (by decide) rfl 5 (by decide) (List.mem_cons_of_mem _ uw_6_17) rfl rfl dX12_isDoingHere_51 ?_
      refine lv_iload_n hx hb dX12_isDoingHere_54 rfl (lv_at hl 0 rfl) ?_
      refine lv_iconst (v := 1) hx hb dX12_isDoingHere_55 (by decide) ?_
      refine lv_iadd hx hb dX12_isDoingHere_56 ?_
      refine lv_topi (fun x97 ex97 => ?_)
      have ezx97 := ex97
      have ex97 : x97.toInt = x25.toInt + (1 : Int) := by rw [ex97]; exact wk_add (show (-2147483648) ≤ x25.toInt + (1 : Int) by omega) (show x25.toInt + (1 : Int) ≤ 2147483647 by omega)
      replace hM := hM.lt ex97.symm
      refine lv_aload_n hx hb dX12_isDoingHere_57 rfl (lv_at hl 1 rfl) ?_
      refine tk_getA hC hK hw hT hinX12 kM_at0 (by decide) rfl 4 (by decide) (List.mem_cons_of_mem _ uw_6_16) rfl rfl dX12_isDoingHere_58 ?_
      refine lv_aload_n hx hb dX12_isDoingHere_61 rfl (lv_at hl 1 rfl) ?_
      refine tk_geti hC hK hw hT hinX12 kM_at0 (by decide) rfl 17 (by decide) (List.mem_cons_of_mem _ uw_19_7) rfl rfl dX12_isDoingHere_62 (fun x98 c99 rx98 tx98 => ?_)
      refine wk_top f0_ (c99.symm.trans c60) ?_
      replace hM := hM.rd (sI_at c60)
      refine tk_iald hC hK hw hT kM_at3 rfl rfl (show 0 ≤ f0_.toInt from rf0_) (show f0_.toInt < 7 from Int.lt_of_le_of_lt tf0_ (by decide)) dX12_isDoingHere_65 (fun x100 c101 rx100 tx100 => ?_)
      have hox100 := c101
      have c101 : gi w48 3 (f0_.toInt).toNat = x100 := (congrArg (gi w48 3) (congrArg Int.toNat (show f0_.toInt = f0_.toInt from rfl))).trans c101
      refine wk_top f2_ (c101.symm.trans c62) ?_
      replace hM := hM.rd ((sI_at hox100).trans (congrArg Int32.toInt (c101.symm.trans c62)))
      refine tk_iast hC hK hw hT kM_at4 (by decide) rfl rfl (show 0 ≤ x97.toInt by first | with_reducible assumption | omega) (show x97.toInt < 216 by first | with_reducible assumption | omega) (wk_i32 f2_).1 (wk_i32 f2_).2 dX12_isDoingHere_66 (fun H locs w102 hw hT k104 c103 => ?_)
      replace hM := hM.wr (sI_up k104 c103)
      have hR := RL_clause hR k104 (show 36 * f0_.toInt + 3 * (gi w48 5 (f0_.toInt).toNat).toInt ≤ ((x97.toInt.toNat : Nat) : Int) by rw [c63]; omega) (show ((x97.toInt.toNat : Nat) : Int) < 36 * f0_.toInt + 36 by omega) (fun r hr => by obtain ⟨x, e, t⟩ := hT.rda (lo := 0) (hi := 12) (i := r) kM_at5 rfl rfl hr; rw [e]; exact t)
      have hF := hF.put kM_at4 (inE_of (a := 0) (b := 216) (by decide) (show 0 ≤ x97.toInt.toNat by omega) (show x97.toInt.toNat ≤ 216 by omega)) k104
      have c105 := k104.gi (Or.inl (tk_ne kM_at0 kM_at4 (by decide))) c60
      have c106 := k104.gi (Or.inl (tk_ne kM_at0 kM_at4 (by decide))) c61
      have c107 := k104.gi (Or.inl (tk_ne kM_at3 kM_at4 (by decide))) c62
      have c108 := k104.gi (Or.inl (tk_ne kM_at5 kM_at4 (by decide))) c63
      have c109 := k104.gi (Or.inl (tk_ne kM_at0 kM_at4 (by decide))) c64
      have c110 := k104.gi (Or.inr (show (36 * f0_.toInt + 3 * f3_.toInt + 0).toNat ≠ x97.toInt.toNat by omega)) c65
      have c111 := k104.gi (Or.inl (tk_ne kM_at0 kM_at4 (by decide))) c55
      have c103 : gi w102 4 (36 * f0_.toInt + 3 * f3_.toInt + 1).toNat = f2_ := (congrArg (gi w102 4) (congrArg Int.toNat (show 36 * f0_.toInt + 3 * f3_.toInt + 1 = x97.toInt by first | exact Int.le_antisymm (by omega) (by omega) | omega))).trans c103
      refine lv_aload_n hx hb dX12_isDoingHere_67 rfl (lv_at hl 1 rfl) ?_
      obtain ⟨x112, c113, rx112, tx112⟩ := hT.rdi (lo := 0) (hi := 400) (k := 22) kM_at0 (by decide) rfl
      obtain ⟨x114, c115, rx114, tx114⟩ := hT.rdi (lo := (-100)) (hi := 10) (k := 19) kM_at0 (by decide) rfl
      refine tk_Vi hC hK hw hT hA hE hSR kM_at0 (by decide) rfl (kz_X12_tested_1 l adK adV dC dI cy ad B hB0 (Int.le_trans hB1 (by decide)) qr s1    w102 H.size hT f0_ c105 (show 0 ≤ f0_.toInt from rf0_) (show f0_.toInt ≤ 5 from tf0_) f1_ c106 (show 0 ≤ f1_.toInt from rf1_) (show f1_.toInt ≤ 60 from tf1_) x114 c115 (show (-100) ≤ x114.toInt by first | with_reducible assumption | omega) (show x114.toInt ≤ 10 by first | with_reducible assumption | omega) x112 c113 (show 0 ≤ x112.toInt by first | with_reducible assumption | omega) (show x112.toInt ≤ 400 by first | with_reducible assumption | omega) f2_ c107 (show 0 ≤ f2_.toInt from rf2_) (show f2_.toInt ≤ 400 from tf2_) (show 3 * f2_.toInt ≤ 14 * f1_.toInt from pr0_) (show f2_.toInt ≤ 280 from pr1_) f2_.toInt 0 (OKW_nil hR (by rw [c107]) (by omega))) (cwV 0 hC.2.2.2.2 uV_RX12_215 rfl rfl rfl (by decide +kernel) ⟨Nat.le_of_ble_eq_true rfl, Nat.le_of_ble_eq_true rfl⟩) rfl hl.1 rfl (Nat.le_of_ble_eq_true rfl) dX12_isDoingHere_68 (fun r116 w118 H locs hp117 hw => ?_)
      obtain ⟨hT, k119, hv147, hg146⟩ := hp117
      have hF := hF.tr k119 (by decide)
      have c148 := k119.gi kM_at0 (by decide) c105
      have c149 := k119.gi kM_at5 rfl c108
      have c150 := k119.gi kM_at0 (by decide) c109
      have c151 := k119.gi kM_at4 rfl c110
      have c152 := k119.gi kM_at4 rfl c103
      rcases hg146 with ⟨rfl, ⟨x120, c121, rx120, tx120⟩, ⟨x122, c123, rx122, tx122⟩, ⟨x124, c125, rx124, tx124⟩, ⟨x126, c127, rx126, tx126⟩, hq128⟩ | ⟨rfl, ⟨x129, c130, rx129, tx129⟩, ⟨x131, c132, rx131, tx131⟩, ⟨x133, c134, rx133, tx133⟩, ⟨x135, c136, rx135, tx135⟩, hq137⟩ | ⟨rfl, ⟨x138, c139, rx138, tx138⟩, ⟨x140, c141, rx140, tx140⟩, ⟨x142, c143, rx142, tx142⟩, hq144, g145⟩
      · replace hM := hM.call (r' := 0) hv147 (by decide)
        have ex120 : x120.toInt = x5.toInt := by rw [← c150.symm.trans c121]
        have ex124 : x124.toInt = f0_.toInt := by rw [← c148.symm.trans c125]
        obtain ⟨x153, c154, rx153, tx153⟩ := hT.rda (lo := 0) (hi := 400) (i := (f0_.toInt).toNat) kM_at3 rfl rfl (by omega)
        obtain ⟨x155, c156, rx155, tx155⟩ := hT.rdi (lo := 0) (hi := 60) (k := 18) kM_at0 (by decide) rfl
        obtain ⟨x157, c158, rx157, tx157⟩ := hT.rdi (lo := (-100)) (hi := 10) (k := 19) kM_at0 (by decide) rfl
        have hR := hq128
        refine lv_if_ne (tgt := 76) hx hb dX12_isDoingHere_71 (by decide) (fun c => absurd (by decide) c) (fun _ => ?_)
        replace hM := hM.neg (by decide)
        refine lv_iconst (v := 0) hx hb dX12_isDoingHere_74 (by decide) ?_
        exact tk_zret hC hr rfl hlocks hK ⟨hT, hF, hM.ret (by decide), (Or.inl ⟨rfl, ⟨x5, c150, (show 1 ≤ x5.toInt by first | with_reducible assumption | omega), (show x5.toInt ≤ 400 by first | with_reducible assumption | omega)⟩, ⟨x122, c123, (show 1 ≤ x122.toInt by first | with_reducible assumption | omega), (show x122.toInt ≤ 3205 by first | with_reducible assumption | omega)⟩, ⟨f0_, c148, (show 0 ≤ f0_.toInt from rf0_), (show f0_.toInt ≤ 5 from tf0_)⟩, ⟨x126, c127, (show 0 ≤ x126.toInt by first | with_reducible assumption | omega), (show x126.toInt ≤ 399 by first | with_reducible assumption | omega)⟩, hR⟩)⟩ hw dX12_isDoingHere_75
      · replace hM := hM.call (r' := 0) hv147 (by decide)
        have ex129 : x129.toInt = x5.toInt := by rw [← c150.symm.trans c130]
        have ex133 : x133.toInt = f0_.toInt := by rw [← c148.symm.trans c134]
        obtain ⟨x159, c160, rx159, tx159⟩ := hT.rda (lo := 0) (hi := 400) (i := (f0_.toInt).toNat) kM_at3 rfl rfl (by omega)
        obtain ⟨x161, c162, rx161, tx161⟩ := hT.rdi (lo := 0) (hi := 60) (k := 18) kM_at0 (by decide) rfl
        obtain ⟨x163, c164, rx163, tx163⟩ := hT.rdi (lo := (-100)) (hi := 10) (k := 19) kM_at0 (by decide) rfl
        have hR := hq137
        refine lv_if_ne (tgt := 76) hx hb dX12_isDoingHere_71 (by decide) (fun c => absurd (by decide) c) (fun _ => ?_)
        replace hM := hM.neg (by decide)
        refine lv_iconst (v := 0) hx hb dX12_isDoingHere_74 (by decide) ?_
        exact tk_zret hC hr rfl hlocks hK ⟨hT, hF, hM.ret (by decide), (Or.inl ⟨rfl, ⟨x5, c150, (show 1 ≤ x5.toInt by first | with_reducible assumption | omega), (show x5.toInt ≤ 400 by first | with_reducible assumption | omega)⟩, ⟨x131, c132, (show 1 ≤ x131.toInt by first | with_reducible assumption | omega), (show x131.toInt ≤ 3205 by first | with_reducible assumption | omega)⟩, ⟨f0_, c148, (show 0 ≤ f0_.toInt from rf0_), (show f0_.toInt ≤ 5 from tf0_)⟩, ⟨x135, c136, (show 0 ≤ x135.toInt by first | with_reducible assumption | omega), (show x135.toInt ≤ 399 by first | with_reducible assumption | omega)⟩, hR⟩)⟩ hw dX12_isDoingHere_75
      · replace hM := hM.call (r' := 1) hv147 (by decide)
        have ex138 : x138.toInt = f0_.toInt := by rw [← c148.symm.trans c139]
        obtain ⟨x165, c166, rx165, tx165⟩ := hT.rda (lo := 0) (hi := 400) (i := (f0_.toInt).toNat) kM_at3 rfl rfl (by omega)
        obtain ⟨x167, c168, rx167, tx167⟩ := hT.rdi (lo := 0) (hi := 60) (k := 18) kM_at0 (by decide) rfl
        have g145 : 3 * x165.toInt ≤ 14 * x167.toInt := by have q := g145; simp only [c105, c148, c166, c168] at q; first | with_reducible exact q | omega
        have hO : OKW w118 f0_.toInt f2_.toInt (1) := by have q := hq144; exact OKW_cast q (by omega)
        refine lv_if_ne (tgt := 76) hx hb dX12_isDoingHere_71 (by decide) (fun _ => ?_) (fun c => absurd c (by decide))
        replace hM := hM.pos (by decide)
        refine lv_aload_n hx hb dX12_isDoingHere_76 rfl (lv_at hl 1 rfl) ?_
        refine tk_getA hC hK hw hT hinX12 kM_at0 (by decide) rfl 5 (by decide) (List.mem_cons_of_mem _ uw_6_17) rfl rfl dX12_isDoingHere_77 ?_
        refine lv_iload_n hx hb dX12_isDoingHere_80 rfl (lv_at hl 0 rfl) ?_
        refine lv_iconst (v := 2) hx hb dX12_isDoingHere_81 (by decide) ?_
        refine lv_iadd hx hb dX12_isDoingHere_82 ?_
        refine lv_topi (fun x169 ex169 => ?_)
        have ezx169 := ex169
        have ex169 : x169.toInt = x25.toInt + (2 : Int) := by rw [ex169]; exact wk_add (show (-2147483648) ≤ x25.toInt + (2 : Int) by omega) (show x25.toInt + (2 : Int) ≤ 2147483647 by omega)
        replace hM := hM.lt ex169.symm
        refine lv_aload_n hx hb dX12_isDoingHere_83 rfl (lv_at hl 1 rfl) ?_
        refine tk_getA hC hK hw hT hinX12 kM_at0 (by decide) rfl 4 (by decide) (List.mem_cons_of_mem _ uw_6_16) rfl rfl dX12_isDoingHere_84 ?_
        refine lv_aload_n hx hb dX12_isDoingHere_87 rfl (lv_at hl 1 rfl) ?_
        refine tk_geti hC hK hw hT hinX12 kM_at0 (by decide) rfl 17 (by decide) (List.mem_cons_of_mem _ uw_19_7) rfl rfl dX12_isDoingHere_88 (fun x170 c171 rx170 tx170 => ?_)
        refine wk_top f0_ (c171.symm.trans c148) ?_
        replace hM := hM.rd (sI_at c148)
        refine tk_iald hC hK hw hT kM_at3 rfl rfl (show 0 ≤ f0_.toInt from rf0_) (show f0_.toInt < 7 from Int.lt_of_le_of_lt tf0_ (by decide)) dX12_isDoingHere_91 (fun x172 c173 rx172 tx172 => ?_)
        have hox172 := c173
        have c173 : gi w118 3 (f0_.toInt).toNat = x172 := (congrArg (gi w118 3) (congrArg Int.toNat (show f0_.toInt = f0_.toInt from rfl))).trans c173
        refine wk_top x165 (c173.symm.trans c166) ?_
        replace hM := hM.rd ((sI_at hox172).trans (congrArg Int32.toInt (c173.symm.trans c166)))
        refine tk_iast hC hK hw hT kM_at4 (by decide) rfl rfl (show 0 ≤ x169.toInt by first | with_reducible assumption | omega) (show x169.toInt < 216 by first | with_reducible assumption | omega) (wk_i32 x165).1 (wk_i32 x165).2 dX12_isDoingHere_92 (fun H locs w174 hw hT k176 c175 => ?_)
        replace hM := hM.wr (sI_up k176 c175)
        have hO := OKW_clause hO k176 (show 36 * f0_.toInt + 3 * (gi w118 5 (f0_.toInt).toNat).toInt ≤ ((x169.toInt.toNat : Nat) : Int) by rw [c149]; omega) (show ((x169.toInt.toNat : Nat) : Int) < 36 * f0_.toInt + 36 by omega) (fun r hr => by obtain ⟨x, e, t⟩ := hT.rda (lo := 0) (hi := 12) (i := r) kM_at5 rfl rfl hr; rw [e]; exact t)
        have hF := hF.put kM_at4 (inE_of (a := 0) (b := 216) (by decide) (show 0 ≤ x169.toInt.toNat by omega) (show x169.toInt.toNat ≤ 216 by omega)) k176
        have c177 := k176.gi (Or.inl (tk_ne kM_at0 kM_at4 (by decide))) c148
        have c178 := k176.gi (Or.inl (tk_ne kM_at5 kM_at4 (by decide))) c149
        have c179 := k176.gi (Or.inl (tk_ne kM_at0 kM_at4 (by decide))) c150
        have c180 := k176.gi (Or.inr (show (36 * f0_.toInt + 3 * f3_.toInt + 0).toNat ≠ x169.toInt.toNat by omega)) c151
        have c181 := k176.gi (Or.inr (show (36 * f0_.toInt + 3 * f3_.toInt + 1).toNat ≠ x169.toInt.toNat by omega)) c152
        have c182 := k176.gi (Or.inl (tk_ne kM_at0 kM_at4 (by decide))) c141
        have c183 := k176.gi (Or.inl (tk_ne kM_at0 kM_at4 (by decide))) c143
        have c184 := k176.gi (Or.inl (tk_ne kM_at3 kM_at4 (by decide))) c166
        have c185 := k176.gi (Or.inl (tk_ne kM_at0 kM_at4 (by decide))) c168
        have c175 : gi w174 4 (36 * f0_.toInt + 3 * f3_.toInt + 2).toNat = x165 := (congrArg (gi w174 4) (congrArg Int.toNat (show 36 * f0_.toInt + 3 * f3_.toInt + 2 = x169.toInt by first | exact Int.le_antisymm (by omega) (by omega) | omega))).trans c175
        refine lv_aload_n hx hb dX12_isDoingHere_93 rfl (lv_at hl 1 rfl) ?_
        refine tk_getA hC hK hw hT hinX12 kM_at0 (by decide) rfl 6 (by decide) (List.mem_cons_of_mem _ uw_6_18) rfl rfl dX12_isDoingHere_94 ?_
        refine lv_aload_n hx hb dX12_isDoingHere_97 rfl (lv_at hl 1 rfl) ?_
        refine tk_geti hC hK hw hT hinX12 kM_at0 (by decide) rfl 17 (by decide) (List.mem_cons_of_mem _ uw_19_7) rfl rfl dX12_isDoingHere_98 (fun x186 c187 rx186 tx186 => ?_)
        refine wk_top f0_ (c187.symm.trans c177) ?_
        replace hM := hM.rd (sI_at c177)
        refine lv_dup2_11 hx hb dX12_isDoingHere_101 rfl rfl ?_
        refine tk_iald hC hK hw hT kM_at5 rfl rfl (show 0 ≤ f0_.toInt from rf0_) (show f0_.toInt < 6 from Int.lt_of_le_of_lt tf0_ (by decide)) dX12_isDoingHere_102 (fun x188 c189 rx188 tx188 => ?_)
        have hox188 := c189
        have c189 : gi w174 5 (f0_.toInt).toNat = x188 := (congrArg (gi w174 5) (congrArg Int.toNat (show f0_.toInt = f0_.toInt from rfl))).trans c189
        refine wk_top f3_ (c189.symm.trans c178) ?_
        replace hM := hM.rd ((sI_at hox188).trans (congrArg Int32.toInt (c189.symm.trans c178)))
        refine lv_iconst (v := 1) hx hb dX12_isDoingHere_103 (by decide) ?_
        refine lv_iadd hx hb dX12_isDoingHere_104 ?_
        refine lv_topi (fun x190 ex190 => ?_)
        have ezx190 := ex190
        have ex190 : x190.toInt = f3_.toInt + (1 : Int) := by rw [ex190]; exact wk_add (show (-2147483648) ≤ f3_.toInt + (1 : Int) by omega) (show f3_.toInt + (1 : Int) ≤ 2147483647 by omega)
        replace hM := hM.lt ex190.symm
        refine tk_iast hC hK hw hT kM_at5 (by decide) rfl rfl (show 0 ≤ f0_.toInt from rf0_) (show f0_.toInt < 6 from Int.lt_of_le_of_lt tf0_ (by decide)) (show 0 ≤ x190.toInt by first | with_reducible assumption | omega) (show x190.toInt ≤ 12 by first | with_reducible assumption | omega) dX12_isDoingHere_105 (fun H locs w191 hw hT k193 c192 => ?_)
        replace hM := hM.wr (sI_up k193 c192)
        have hR := RL_add (t := f0_.toInt) (K := f3_) (b := f2_) hO.1 k193 c178 (by rw [show gi w191 5 (f0_.toInt).toNat = x190 from c192]; omega) (by omega) c181 (c175.trans c184.symm) (by rw [c184]; omega) (Or.inr (OKW_cast hO (by omega)))
        have hF := hF.put kM_at5 (inE_of (a := 0) (b := 6) (by decide) (show 0 ≤ f0_.toInt.toNat by omega) (show f0_.toInt.toNat ≤ 6 by omega)) k193
        have c194 := k193.gi (Or.inl (tk_ne kM_at0 kM_at5 (by decide))) c177
        have c195 := k193.gi (Or.inl (tk_ne kM_at0 kM_at5 (by decide))) c179
        have c196 := k193.gi (Or.inl (tk_ne kM_at4 kM_at5 (by decide))) c180
        have c197 := k193.gi (Or.inl (tk_ne kM_at4 kM_at5 (by decide))) c181
        have c198 := k193.gi (Or.inl (tk_ne kM_at0 kM_at5 (by decide))) c182
        have c199 := k193.gi (Or.inl (tk_ne kM_at0 kM_at5 (by decide))) c183
        have c200 := k193.gi (Or.inl (tk_ne kM_at3 kM_at5 (by decide))) c184
        have c201 := k193.gi (Or.inl (tk_ne kM_at0 kM_at5 (by decide))) c185
        have c202 := k193.gi (Or.inl (tk_ne kM_at4 kM_at5 (by decide))) c175
        have c192 : gi w191 5 (f0_.toInt).toNat = x190 := (congrArg (gi w191 5) (congrArg Int.toNat (show f0_.toInt = f0_.toInt from rfl))).trans c192
        refine lv_iconst (v := 1) hx hb dX12_isDoingHere_106 (by decide) ?_
        exact tk_zret hC hr rfl hlocks hK ⟨hT, hF, hM.ret (by decide), (Or.inr (Or.inr (Or.inl ⟨rfl, ⟨x5, c195, (show 1 ≤ x5.toInt by first | with_reducible assumption | omega), (show x5.toInt ≤ 400 by first | with_reducible assumption | omega)⟩, ⟨f0_, c194, (show 0 ≤ f0_.toInt from rf0_), (show f0_.toInt ≤ 5 from tf0_)⟩, hR, (by simp only [c194, cf0_, c200, c201]; omega), (by simp only [c194, cf0_, cf3_, c192]; omega)⟩)))⟩ hw dX12_isDoingHere_107
    · replace hM := hM.call (r' := 1) hv59 (by decide)
      have ex56 : x56.toInt = x5.toInt := by rw [← c64.symm.trans c57]
      refine lv_if_eq (tgt := 76) hx hb dX12_isDoingHere_47 (by decide) (fun c => absurd c (by decide)) (fun _ => ?_)
      replace hM := hM.neg (by decide)
      refine lv_aload_n hx hb dX12_isDoingHere_50 rfl (lv_at hl 1 rfl) ?_
      refine tk_getA hC hK hw hT hinX12 kM_at0 (by decide) rfl 5 (by decide) (List.mem_cons_of_mem _ uw_6_17) rfl rfl dX12_isDoingHere_51 ?_
      refine lv_iload_n hx hb dX12_isDoingHere_54 rfl (lv_at hl 0 rfl) ?_
      refine lv_iconst (v := 1) hx hb dX12_isDoingHere_55 (by decide) ?_
      refine lv_iadd hx hb dX12_isDoingHere_56 ?_
      refine lv_topi (fun x203 ex203 => ?_)
      have ezx203 := ex203
      have ex203 : x203.toInt = x25.toInt + (1 : Int) := by rw [ex203]; exact wk_add (show (-2147483648) ≤ x25.toInt + (1 : Int) by omega) (show x25.toInt + (1 : Int) ≤ 2147483647 by omega)
      replace hM := hM.lt ex203.symm
      refine lv_aload_n hx hb dX12_isDoingHere_57 rfl (lv_at hl 1 rfl) ?_
      refine tk_getA hC hK hw hT hinX12 kM_at0 (by decide) rfl 4 (by decide) (List.mem_cons_of_mem _ uw_6_16) rfl rfl dX12_isDoingHere_58 ?_
      refine lv_aload_n hx hb dX12_isDoingHere_61 rfl (lv_at hl 1 rfl) ?_
      refine tk_geti hC hK hw hT hinX12 kM_at0 (by decide) rfl 17 (by decide) (List.mem_cons_of_mem _ uw_19_7) rfl rfl dX12_isDoingHere_62 (fun x204 c205 rx204 tx204 => ?_)
      refine wk_top f0_ (c205.symm.trans c60) ?_
      replace hM := hM.rd (sI_at c60)
      refine tk_iald hC hK hw hT kM_at3 rfl rfl (show 0 ≤ f0_.toInt from rf0_) (show f0_.toInt < 7 from Int.lt_of_le_of_lt tf0_ (by decide)) dX12_isDoingHere_65 (fun x206 c207 rx206 tx206 => ?_)
      have hox206 := c207
      have c207 : gi w48 3 (f0_.toInt).toNat = x206 := (congrArg (gi w48 3) (congrArg Int.toNat (show f0_.toInt = f0_.toInt from rfl))).trans c207
      refine wk_top f2_ (c207.symm.trans c62) ?_
      replace hM := hM.rd ((sI_at hox206).trans (congrArg Int32.toInt (c207.symm.trans c62)))
      refine tk_iast hC hK hw hT kM_at4 (by decide) rfl rfl (show 0 ≤ x203.toInt by first | with_reducible assumption | omega) (show x203.toInt < 216 by first | with_reducible assumption | omega) (wk_i32 f2_).1 (wk_i32 f2_).2 dX12_isDoingHere_66 (fun H locs w208 hw hT k210 c209 => ?_)
      replace hM := hM.wr (sI_up k210 c209)
      have hR := RL_clause hR k210 (show 36 * f0_.toInt + 3 * (gi w48 5 (f0_.toInt).toNat).toInt ≤ ((x203.toInt.toNat : Nat) : Int) by rw [c63]; omega) (show ((x203.toInt.toNat : Nat) : Int) < 36 * f0_.toInt + 36 by omega) (fun r hr => by obtain ⟨x, e, t⟩ := hT.rda (lo := 0) (hi := 12) (i := r) kM_at5 rfl rfl hr; rw [e]; exact t)
      have hF := hF.put kM_at4 (inE_of (a := 0) (b := 216) (by decide) (show 0 ≤ x203.toInt.toNat by omega) (show x203.toInt.toNat ≤ 216 by omega)) k210
      have c211 := k210.gi (Or.inl (tk_ne kM_at0 kM_at4 (by decide))) c60
      have c212 := k210.gi (Or.inl (tk_ne kM_at0 kM_at4 (by decide))) c61
      have c213 := k210.gi (Or.inl (tk_ne kM_at3 kM_at4 (by decide))) c62
      have c214 := k210.gi (Or.inl (tk_ne kM_at5 kM_at4 (by decide))) c63
      have c215 := k210.gi (Or.inl (tk_ne kM_at0 kM_at4 (by decide))) c64
      have c216 := k210.gi (Or.inr (show (36 * f0_.toInt + 3 * f3_.toInt + 0).toNat ≠ x203.toInt.toNat by omega)) c65
      have c209 : gi w208 4 (36 * f0_.toInt + 3 * f3_.toInt + 1).toNat = f2_ := (congrArg (gi w208 4) (congrArg Int.toNat (show 36 * f0_.toInt + 3 * f3_.toInt + 1 = x203.toInt by first | exact Int.le_antisymm (by omega) (by omega) | omega))).trans c209
      refine lv_aload_n hx hb dX12_isDoingHere_67 rfl (lv_at hl 1 rfl) ?_
      obtain ⟨x217, c218, rx217, tx217⟩ := hT.rdi (lo := 0) (hi := 400) (k := 22) kM_at0 (by decide) rfl
      obtain ⟨x219, c220, rx219, tx219⟩ := hT.rdi (lo := (-100)) (hi := 10) (k := 19) kM_at0 (by decide) rfl
      refine tk_Vi hC hK hw hT hA hE hSR kM_at0 (by decide) rfl (kz_X12_tested_1 l adK adV dC dI cy ad B hB0 (Int.le_trans hB1 (by decide)) qr s1    w208 H.size hT f0_ c211 (show 0 ≤ f0_.toInt from rf0_) (show f0_.toInt ≤ 5 from tf0_) f1_ c212 (show 0 ≤ f1_.toInt from rf1_) (show f1_.toInt ≤ 60 from tf1_) x219 c220 (show (-100) ≤ x219.toInt by first | with_reducible assumption | omega) (show x219.toInt ≤ 10 by first | with_reducible assumption | omega) x217 c218 (show 0 ≤ x217.toInt by first | with_reducible assumption | omega) (show x217.toInt ≤ 400 by first | with_reducible assumption | omega) f2_ c213 (show 0 ≤ f2_.toInt from rf2_) (show f2_.toInt ≤ 400 from tf2_) (show 3 * f2_.toInt ≤ 14 * f1_.toInt from pr0_) (show f2_.toInt ≤ 280 from pr1_) f2_.toInt 0 (OKW_nil hR (by rw [c213]) (by omega))) (cwV 0 hC.2.2.2.2 uV_RX12_215 rfl rfl rfl (by decide +kernel) ⟨Nat.le_of_ble_eq_true rfl, Nat.le_of_ble_eq_true rfl⟩) rfl hl.1 rfl (Nat.le_of_ble_eq_true rfl) dX12_isDoingHere_68 (fun r221 w223 H locs hp222 hw => ?_)
      obtain ⟨hT, k224, hv252, hg251⟩ := hp222
      have hF := hF.tr k224 (by decide)
      have c253 := k224.gi kM_at0 (by decide) c211
      have c254 := k224.gi kM_at5 rfl c214
      have c255 := k224.gi kM_at0 (by decide) c215
      have c256 := k224.gi kM_at4 rfl c216
      have c257 := k224.gi kM_at4 rfl c209
      rcases hg251 with ⟨rfl, ⟨x225, c226, rx225, tx225⟩, ⟨x227, c228, rx227, tx227⟩, ⟨x229, c230, rx229, tx229⟩, ⟨x231, c232, rx231, tx231⟩, hq233⟩ | ⟨rfl, ⟨x234, c235, rx234, tx234⟩, ⟨x236, c237, rx236, tx236⟩, ⟨x238, c239, rx238, tx238⟩, ⟨x240, c241, rx240, tx240⟩, hq242⟩ | ⟨rfl, ⟨x243, c244, rx243, tx243⟩, ⟨x245, c246, rx245, tx245⟩, ⟨x247, c248, rx247, tx247⟩, hq249, g250⟩
      · replace hM := hM.call (r' := 0) hv252 (by decide)
        have ex225 : x225.toInt = x5.toInt := by rw [← c255.symm.trans c226]
        have ex229 : x229.toInt = f0_.toInt := by rw [← c253.symm.trans c230]
        obtain ⟨x258, c259, rx258, tx258⟩ := hT.rda (lo := 0) (hi := 400) (i := (f0_.toInt).toNat) kM_at3 rfl rfl (by omega)
        obtain ⟨x260, c261, rx260, tx260⟩ := hT.rdi (lo := 0) (hi := 60) (k := 18) kM_at0 (by decide) rfl
        obtain ⟨x262, c263, rx262, tx262⟩ := hT.rdi (lo := (-100)) (hi := 10) (k := 19) kM_at0 (by decide) rfl
        have hR := hq233
        refine lv_if_ne (tgt := 76) hx hb dX12_isDoingHere_71 (by decide) (fun c => absurd (by decide) c) (fun _ => ?_)
        replace hM := hM.neg (by decide)
        refine lv_iconst (v := 0) hx hb dX12_isDoingHere_74 (by decide) ?_
        exact tk_zret hC hr rfl hlocks hK ⟨hT, hF, hM.ret (by decide), (Or.inl ⟨rfl, ⟨x5, c255, (show 1 ≤ x5.toInt by first | with_reducible assumption | omega), (show x5.toInt ≤ 400 by first | with_reducible assumption | omega)⟩, ⟨x227, c228, (show 1 ≤ x227.toInt by first | with_reducible assumption | omega), (show x227.toInt ≤ 3205 by first | with_reducible assumption | omega)⟩, ⟨f0_, c253, (show 0 ≤ f0_.toInt from rf0_), (show f0_.toInt ≤ 5 from tf0_)⟩, ⟨x231, c232, (show 0 ≤ x231.toInt by first | with_reducible assumption | omega), (show x231.toInt ≤ 399 by first | with_reducible assumption | omega)⟩, hR⟩)⟩ hw dX12_isDoingHere_75
      · replace hM := hM.call (r' := 0) hv252 (by decide)
        have ex234 : x234.toInt = x5.toInt := by rw [← c255.symm.trans c235]
        have ex238 : x238.toInt = f0_.toInt := by rw [← c253.symm.trans c239]
        obtain ⟨x264, c265, rx264, tx264⟩ := hT.rda (lo := 0) (hi := 400) (i := (f0_.toInt).toNat) kM_at3 rfl rfl (by omega)
        obtain ⟨x266, c267, rx266, tx266⟩ := hT.rdi (lo := 0) (hi := 60) (k := 18) kM_at0 (by decide) rfl
        obtain ⟨x268, c269, rx268, tx268⟩ := hT.rdi (lo := (-100)) (hi := 10) (k := 19) kM_at0 (by decide) rfl
        have hR := hq242
        refine lv_if_ne (tgt := 76) hx hb dX12_isDoingHere_71 (by decide) (fun c => absurd (by decide) c) (fun _ => ?_)
        replace hM := hM.neg (by decide)
        refine lv_iconst (v := 0) hx hb dX12_isDoingHere_74 (by decide) ?_
        exact tk_zret hC hr rfl hlocks hK ⟨hT, hF, hM.ret (by decide), (Or.inl ⟨rfl, ⟨x5, c255, (show 1 ≤ x5.toInt by first | with_reducible assumption | omega), (show x5.toInt ≤ 400 by first | with_reducible assumption | omega)⟩, ⟨x236, c237, (show 1 ≤ x236.toInt by first | with_reducible assumption | omega), (show x236.toInt ≤ 3205 by first | with_reducible assumption | omega)⟩, ⟨f0_, c253, (show 0 ≤ f0_.toInt from rf0_), (show f0_.toInt ≤ 5 from tf0_)⟩, ⟨x240, c241, (show 0 ≤ x240.toInt by first | with_reducible assumption | omega), (show x240.toInt ≤ 399 by first | with_reducible assumption | omega)⟩, hR⟩)⟩ hw dX12_isDoingHere_75
      · replace hM := hM.call (r' := 1) hv252 (by decide)
        have ex243 : x243.toInt = f0_.toInt := by rw [← c253.symm.trans c244]
        obtain ⟨x270, c271, rx270, tx270⟩ := hT.rda (lo := 0) (hi := 400) (i := (f0_.toInt).toNat) kM_at3 rfl rfl (by omega)
        obtain ⟨x272, c273, rx272, tx272⟩ := hT.rdi (lo := 0) (hi := 60) (k := 18) kM_at0 (by decide) rfl
        have g250 : 3 * x270.toInt ≤ 14 * x272.toInt := by have q := g250; simp only [c211, c253, c271, c273] at q; first | with_reducible exact q | omega
        have hO : OKW w223 f0_.toInt f2_.toInt (1) := by have q := hq249; exact OKW_cast q (by omega)
        refine lv_if_ne (tgt := 76) hx hb dX12_isDoingHere_71 (by decide) (fun _ => ?_) (fun c => absurd c (by decide))
        replace hM := hM.pos (by decide)
        refine lv_aload_n hx hb dX12_isDoingHere_76 rfl (lv_at hl 1 rfl) ?_
        refine tk_getA hC hK hw hT hinX12 kM_at0 (by decide) rfl 5 (by decide) (List.mem_cons_of_mem _ uw_6_17) rfl rfl dX12_isDoingHere_77 ?_
        refine lv_iload_n hx hb dX12_isDoingHere_80 rfl (lv_at hl 0 rfl) ?_
        refine lv_iconst (v := 2) hx hb dX12_isDoingHere_81 (by decide) ?_
        refine lv_iadd hx hb dX12_isDoingHere_82 ?_
        refine lv_topi (fun x274 ex274 => ?_)
        have ezx274 := ex274
        have ex274 : x274.toInt = x25.toInt + (2 : Int) := by rw [ex274]; exact wk_add (show (-2147483648) ≤ x25.toInt + (2 : Int) by omega) (show x25.toInt + (2 : Int) ≤ 2147483647 by omega)
        replace hM := hM.lt ex274.symm
        refine lv_aload_n hx hb dX12_isDoingHere_83 rfl (lv_at hl 1 rfl) ?_
        refine tk_getA hC hK hw hT hinX12 kM_at0 (by decide) rfl 4 (by decide) (List.mem_cons_of_mem _ uw_6_16) rfl rfl dX12_isDoingHere_84 ?_
        refine lv_aload_n hx hb dX12_isDoingHere_87 rfl (lv_at hl 1 rfl) ?_
        refine tk_geti hC hK hw hT hinX12 kM_at0 (by decide) rfl 17 (by decide) (List.mem_cons_of_mem _ uw_19_7) rfl rfl dX12_isDoingHere_88 (fun x275 c276 rx275 tx275 => ?_)
        refine wk_top f0_ (c276.symm.trans c253) ?_
        replace hM := hM.rd (sI_at c253)
        refine tk_iald hC hK hw hT kM_at3 rfl rfl (show 0 ≤ f0_.toInt from rf0_) (show f0_.toInt < 7 from Int.lt_of_le_of_lt tf0_ (by decide)) dX12_isDoingHere_91 (fun x277 c278 rx277 tx277 => ?_)
        have hox277 := c278
        have c278 : gi w223 3 (f0_.toInt).toNat = x277 := (congrArg (gi w223 3) (congrArg Int.toNat (show f0_.toInt = f0_.toInt from rfl))).trans c278
        refine wk_top x270 (c278.symm.trans c271) ?_
        replace hM := hM.rd ((sI_at hox277).trans (congrArg Int32.toInt (c278.symm.trans c271)))
        refine tk_iast hC hK hw hT kM_at4 (by decide) rfl rfl (show 0 ≤ x274.toInt by first | with_reducible assumption | omega) (show x274.toInt < 216 by first | with_reducible assumption | omega) (wk_i32 x270).1 (wk_i32 x270).2 dX12_isDoingHere_92 (fun H locs w279 hw hT k281 c280 => ?_)
        replace hM := hM.wr (sI_up k281 c280)
        have hO := OKW_clause hO k281 (show 36 * f0_.toInt + 3 * (gi w223 5 (f0_.toInt).toNat).toInt ≤ ((x274.toInt.toNat : Nat) : Int) by rw [c254]; omega) (show ((x274.toInt.toNat : Nat) : Int) < 36 * f0_.toInt + 36 by omega) (fun r hr => by obtain ⟨x, e, t⟩ := hT.rda (lo := 0) (hi := 12) (i := r) kM_at5 rfl rfl hr; rw [e]; exact t)
        have hF := hF.put kM_at4 (inE_of (a := 0) (b := 216) (by decide) (show 0 ≤ x274.toInt.toNat by omega) (show x274.toInt.toNat ≤ 216 by omega)) k281
        have c282 := k281.gi (Or.inl (tk_ne kM_at0 kM_at4 (by decide))) c253
        have c283 := k281.gi (Or.inl (tk_ne kM_at5 kM_at4 (by decide))) c254
        have c284 := k281.gi (Or.inl (tk_ne kM_at0 kM_at4 (by decide))) c255
        have c285 := k281.gi (Or.inr (show (36 * f0_.toInt + 3 * f3_.toInt + 0).toNat ≠ x274.toInt.toNat by omega)) c256
        have c286 := k281.gi (Or.inr (show (36 * f0_.toInt + 3 * f3_.toInt + 1).toNat ≠ x274.toInt.toNat by omega)) c257
        have c287 := k281.gi (Or.inl (tk_ne kM_at0 kM_at4 (by decide))) c246
        have c288 := k281.gi (Or.inl (tk_ne kM_at0 kM_at4 (by decide))) c248
        have c289 := k281.gi (Or.inl (tk_ne kM_at3 kM_at4 (by decide))) c271
        have c290 := k281.gi (Or.inl (tk_ne kM_at0 kM_at4 (by decide))) c273
        have c280 : gi w279 4 (36 * f0_.toInt + 3 * f3_.toInt + 2).toNat = x270 := (congrArg (gi w279 4) (congrArg Int.toNat (show 36 * f0_.toInt + 3 * f3_.toInt + 2 = x274.toInt by first | exact Int.le_antisymm (by omega) (by omega) | omega))).trans c280
        refine lv_aload_n hx hb dX12_isDoingHere_93 rfl (lv_at hl 1 rfl) ?_
        refine tk_getA hC hK hw hT hinX12 kM_at0 (by decide) rfl 6 (by decide) (List.mem_cons_of_mem _ uw_6_18) rfl rfl dX12_isDoingHere_94 ?_
        refine lv_aload_n hx hb dX12_isDoingHere_97 rfl (lv_at hl 1 rfl) ?_
        refine tk_geti hC hK hw hT hinX12 kM_at0 (by decide) rfl 17 (by decide) (List.mem_cons_of_mem _ uw_19_7) rfl rfl dX12_isDoingHere_98 (fun x291 c292 rx291 tx291 => ?_)
        refine wk_top f0_ (c292.symm.trans c282) ?_
        replace hM := hM.rd (sI_at c282)
        refine lv_dup2_11 hx hb dX12_isDoingHere_101 rfl rfl ?_
        refine tk_iald hC hK hw hT kM_at5 rfl rfl (show 0 ≤ f0_.toInt from rf0_) (show f0_.toInt < 6 from Int.lt_of_le_of_lt tf0_ (by decide)) dX12_isDoingHere_102 (fun x293 c294 rx293 tx293 => ?_)
        have hox293 := c294
        have c294 : gi w279 5 (f0_.toInt).toNat = x293 := (congrArg (gi w279 5) (congrArg Int.toNat (show f0_.toInt = f0_.toInt from rfl))).trans c294
        refine wk_top f3_ (c294.symm.trans c283) ?_
        replace hM := hM.rd ((sI_at hox293).trans (congrArg Int32.toInt (c294.symm.trans c283)))
        refine lv_iconst (v := 1) hx hb dX12_isDoingHere_103 (by decide) ?_
        refine lv_iadd hx hb dX12_isDoingHere_104 ?_
        refine lv_topi (fun x295 ex295 => ?_)
        have ezx295 := ex295
        have ex295 : x295.toInt = f3_.toInt + (1 : Int) := by rw [ex295]; exact wk_add (show (-2147483648) ≤ f3_.toInt + (1 : Int) by omega) (show f3_.toInt + (1 : Int) ≤ 2147483647 by omega)
        replace hM := hM.lt ex295.symm
        refine tk_iast hC hK hw hT kM_at5 (by decide) rfl rfl (show 0 ≤ f0_.toInt from rf0_) (show f0_.toInt < 6 from Int.lt_of_le_of_lt tf0_ (by decide)) (show 0 ≤ x295.toInt by first | with_reducible assumption | omega) (show x295.toInt ≤ 12 by first | with_reducible assumption | omega) dX12_isDoingHere_105 (fun H locs w296 hw hT k298 c297 => ?_)
        replace hM := hM.wr (sI_up k298 c297)
        have hR := RL_add (t := f0_.toInt) (K := f3_) (b := f2_) hO.1 k298 c283 (by rw [show gi w296 5 (f0_.toInt).toNat = x295 from c297]; omega) (by omega) c286 (c280.trans c289.symm) (by rw [c289]; omega) (Or.inr (OKW_cast hO (by omega)))
        have hF := hF.put kM_at5 (inE_of (a := 0) (b := 6) (by decide) (show 0 ≤ f0_.toInt.toNat by omega) (show f0_.toInt.toNat ≤ 6 by omega)) k298
        have c299 := k298.gi (Or.inl (tk_ne kM_at0 kM_at5 (by decide))) c282
        have c300 := k298.gi (Or.inl (tk_ne kM_at0 kM_at5 (by decide))) c284
        have c301 := k298.gi (Or.inl (tk_ne kM_at4 kM_at5 (by decide))) c285
        have c302 := k298.gi (Or.inl (tk_ne kM_at4 kM_at5 (by decide))) c286
        have c303 := k298.gi (Or.inl (tk_ne kM_at0 kM_at5 (by decide))) c287
        have c304 := k298.gi (Or.inl (tk_ne kM_at0 kM_at5 (by decide))) c288
        have c305 := k298.gi (Or.inl (tk_ne kM_at3 kM_at5 (by decide))) c289
        have c306 := k298.gi (Or.inl (tk_ne kM_at0 kM_at5 (by decide))) c290
        have c307 := k298.gi (Or.inl (tk_ne kM_at4 kM_at5 (by decide))) c280
        have c297 : gi w296 5 (f0_.toInt).toNat = x295 := (congrArg (gi w296 5) (congrArg Int.toNat (show f0_.toInt = f0_.toInt from rfl))).trans c297
        refine lv_iconst (v := 1) hx hb dX12_isDoingHere_106 (by decide) ?_
        exact tk_zret hC hr rfl hlocks hK ⟨hT, hF, hM.ret (by decide), (Or.inr (Or.inr (Or.inl ⟨rfl, ⟨x5, c300, (show 1 ≤ x5.toInt by first | with_reducible assumption | omega), (show x5.toInt ≤ 400 by first | with_reducible assumption | omega)⟩, ⟨f0_, c299, (show 0 ≤ f0_.toInt from rf0_), (show f0_.toInt ≤ 5 from tf0_)⟩, hR, (by simp only [c299, cf0_, c305, c306]; omega), (by simp only [c299, cf0_, cf3_, c297]; omega)⟩)))⟩ hw dX12_isDoingHere_107
  · replace hM := hM.call hv12 rfl
    refine lv_bipush (v := 36) hx hb dX12_isDoingHere_4 (by decide) ?_
    refine lv_aload_n hx hb dX12_isDoingHere_6 rfl (lv_at hl 0 rfl) ?_
    refine tk_geti hC hK hw hT hinX12 kM_at0 (by decide) rfl 17 (by decide) (List.mem_cons_of_mem _ uw_19_7) rfl rfl dX12_isDoingHere_7 (fun x308 c309 rx308 tx308 => ?_)
    refine wk_top f0_ (c309.symm.trans c13) ?_
    replace hM := hM.rd (sI_at c13)
    refine lv_imul hx hb dX12_isDoingHere_10 ?_
    refine lv_topi (fun x310 ex310 => ?_)
    have ezx310 := ex310
    have ex310 : x310.toInt = (36 : Int) * f0_.toInt := by rw [ex310]; exact wk_mul (show (-2147483648) ≤ (36 : Int) * f0_.toInt by omega) (show (36 : Int) * f0_.toInt ≤ 2147483647 by omega)
    replace hM := hM.lt ex310.symm
    refine lv_iconst (v := 3) hx hb dX12_isDoingHere_11 (by decide) ?_
    refine lv_aload_n hx hb dX12_isDoingHere_12 rfl (lv_at hl 0 rfl) ?_
    refine tk_getA hC hK hw hT hinX12 kM_at0 (by decide) rfl 6 (by decide) (List.mem_cons_of_mem _ uw_6_18) rfl rfl dX12_isDoingHere_13 ?_
    refine lv_aload_n hx hb dX12_isDoingHere_16 rfl (lv_at hl 0 rfl) ?_
    refine tk_geti hC hK hw hT hinX12 kM_at0 (by decide) rfl 17 (by decide) (List.mem_cons_of_mem _ uw_19_7) rfl rfl dX12_isDoingHere_17 (fun x311 c312 rx311 tx311 => ?_)
    refine wk_top f0_ (c312.symm.trans c13) ?_
    replace hM := hM.rd (sI_at c13)
    refine tk_iald hC hK hw hT kM_at5 rfl rfl (show 0 ≤ f0_.toInt from rf0_) (show f0_.toInt < 6 from Int.lt_of_le_of_lt tf0_ (by decide)) dX12_isDoingHere_20 (fun x313 c314 rx313 tx313 => ?_)
    have hox313 := c314
    have c314 : gi w3 5 (f0_.toInt).toNat = x313 := (congrArg (gi w3 5) (congrArg Int.toNat (show f0_.toInt = f0_.toInt from rfl))).trans c314
    refine wk_top f3_ (c314.symm.trans c16) ?_
    replace hM := hM.rd ((sI_at hox313).trans (congrArg Int32.toInt (c314.symm.trans c16)))
    refine lv_imul hx hb dX12_isDoingHere_21 ?_
    refine lv_topi (fun x315 ex315 => ?_)
    have ezx315 := ex315
    have ex315 : x315.toInt = (3 : Int) * f3_.toInt := by rw [ex315]; exact wk_mul (show (-2147483648) ≤ (3 : Int) * f3_.toInt by omega) (show (3 : Int) * f3_.toInt ≤ 2147483647 by omega)
    replace hM := hM.lt ex315.symm
    refine lv_iadd hx hb dX12_isDoingHere_22 ?_
    refine lv_topi (fun x316 ex316 => ?_)
    have ezx316 := ex316
    have ex316 : x316.toInt = x310.toInt + x315.toInt := by rw [ex316]; exact wk_add (show (-2147483648) ≤ x310.toInt + x315.toInt by omega) (show x310.toInt + x315.toInt ≤ 2147483647 by omega)
    replace hM := hM.lt ex316.symm
    refine lv_istore_n (lv' := [(2, .int x316), (0, .ref (ad 0)), (1, .int (-1))]) hx hb dX12_isDoingHere_23 rfl hl (by decide) rfl (fun ls hl => ?_)
    refine lv_aload_n hx hb dX12_isDoingHere_24 rfl (lv_at hl 1 rfl) ?_
    refine tk_getA hC hK hw hT hinX12 kM_at0 (by decide) rfl 5 (by decide) (List.mem_cons_of_mem _ uw_6_17) rfl rfl dX12_isDoingHere_25 ?_
    refine lv_iload_n hx hb dX12_isDoingHere_28 rfl (lv_at hl 0 rfl) ?_
    refine lv_iload_n hx hb dX12_isDoingHere_29 rfl (lv_at hl 2 rfl) ?_
    refine tk_iast hC hK hw hT kM_at4 (by decide) rfl rfl (show 0 ≤ x316.toInt by first | with_reducible assumption | omega) (show x316.toInt < 216 by first | with_reducible assumption | omega) (by decide) (by decide) dX12_isDoingHere_30 (fun H locs w317 hw hT k319 c318 => ?_)
    replace hM := hM.wr (sI_upc k319 c318 (by decide))
    have hR := RL_clause hR k319 (show 36 * f0_.toInt + 3 * (gi w3 5 (f0_.toInt).toNat).toInt ≤ ((x316.toInt.toNat : Nat) : Int) by rw [c16]; omega) (show ((x316.toInt.toNat : Nat) : Int) < 36 * f0_.toInt + 36 by omega) (fun r hr => by obtain ⟨x, e, t⟩ := hT.rda (lo := 0) (hi := 12) (i := r) kM_at5 rfl rfl hr; rw [e]; exact t)
    have hF := hF.put kM_at4 (inE_of (a := 0) (b := 216) (by decide) (show 0 ≤ x316.toInt.toNat by omega) (show x316.toInt.toNat ≤ 216 by omega)) k319
    have c320 := k319.gi (Or.inl (tk_ne kM_at0 kM_at4 (by decide))) c13
    have c321 := k319.gi (Or.inl (tk_ne kM_at0 kM_at4 (by decide))) c14
    have c322 := k319.gi (Or.inl (tk_ne kM_at3 kM_at4 (by decide))) c15
    have c323 := k319.gi (Or.inl (tk_ne kM_at5 kM_at4 (by decide))) c16
    have c324 := k319.gi (Or.inl (tk_ne kM_at0 kM_at4 (by decide))) c10
    have c318 : gi w317 4 (36 * f0_.toInt + 3 * f3_.toInt + 0).toNat = (-1) := (congrArg (gi w317 4) (congrArg Int.toNat (show 36 * f0_.toInt + 3 * f3_.toInt + 0 = x316.toInt by first | exact Int.le_antisymm (by omega) (by omega) | omega))).trans c318
    refine lv_aload_n hx hb dX12_isDoingHere_31 rfl (lv_at hl 1 rfl) ?_
    refine tk_getA hC hK hw hT hinX12 kM_at0 (by decide) rfl 5 (by decide) (List.mem_cons_of_mem _ uw_6_17) rfl rfl dX12_isDoingHere_32 ?_
    refine lv_iload_n hx hb dX12_isDoingHere_35 rfl (lv_at hl 0 rfl) ?_
    refine lv_iconst (v := 1) hx hb dX12_isDoingHere_36 (by decide) ?_
    refine lv_iadd hx hb dX12_isDoingHere_37 ?_
    refine lv_topi (fun x325 ex325 => ?_)
    have ezx325 := ex325
    have ex325 : x325.toInt = x316.toInt + (1 : Int) := by rw [ex325]; exact wk_add (show (-2147483648) ≤ x316.toInt + (1 : Int) by omega) (show x316.toInt + (1 : Int) ≤ 2147483647 by omega)
    replace hM := hM.lt ex325.symm
    refine lv_iconst (v := (-1)) hx hb dX12_isDoingHere_38 (by decide) ?_
    refine tk_iast hC hK hw hT kM_at4 (by decide) rfl rfl (show 0 ≤ x325.toInt by first | with_reducible assumption | omega) (show x325.toInt < 216 by first | with_reducible assumption | omega) (by decide) (by decide) dX12_isDoingHere_39 (fun H locs w326 hw hT k328 c327 => ?_)
    replace hM := hM.wr (sI_upc k328 c327 (by decide))
    have hR := RL_clause hR k328 (show 36 * f0_.toInt + 3 * (gi w317 5 (f0_.toInt).toNat).toInt ≤ ((x325.toInt.toNat : Nat) : Int) by rw [c323]; omega) (show ((x325.toInt.toNat : Nat) : Int) < 36 * f0_.toInt + 36 by omega) (fun r hr => by obtain ⟨x, e, t⟩ := hT.rda (lo := 0) (hi := 12) (i := r) kM_at5 rfl rfl hr; rw [e]; exact t)
    have hF := hF.put kM_at4 (inE_of (a := 0) (b := 216) (by decide) (show 0 ≤ x325.toInt.toNat by omega) (show x325.toInt.toNat ≤ 216 by omega)) k328
    have c329 := k328.gi (Or.inl (tk_ne kM_at0 kM_at4 (by decide))) c320
    have c330 := k328.gi (Or.inl (tk_ne kM_at0 kM_at4 (by decide))) c321
    have c331 := k328.gi (Or.inl (tk_ne kM_at3 kM_at4 (by decide))) c322
    have c332 := k328.gi (Or.inl (tk_ne kM_at5 kM_at4 (by decide))) c323
    have c333 := k328.gi (Or.inl (tk_ne kM_at0 kM_at4 (by decide))) c324
    have c334 := k328.gi (Or.inr (show (36 * f0_.toInt + 3 * f3_.toInt + 0).toNat ≠ x325.toInt.toNat by omega)) c318
    have c327 : gi w326 4 (36 * f0_.toInt + 3 * f3_.toInt + 1).toNat = (-1) := (congrArg (gi w326 4) (congrArg Int.toNat (show 36 * f0_.toInt + 3 * f3_.toInt + 1 = x325.toInt by first | exact Int.le_antisymm (by omega) (by omega) | omega))).trans c327
    refine lv_aload_n hx hb dX12_isDoingHere_40 rfl (lv_at hl 1 rfl) ?_
    refine lv_ldc2 (v := 26982) hx hb hC.2.2.2.1 (hC.2.2.2.2 _ (List.mem_cons_of_mem _ uw_23_4)) dX12_isDoingHere_41 ?_
    refine tk_Vi hC hK hw hT hA hE hSR kM_at0 (by decide) rfl (kz_X12_takesWord_1 l adK adV dC dI cy ad B hB0 (Int.le_trans hB1 (by decide)) qr s1    w326 H.size hT ) (cwV 1 hC.2.2.2.2 uV_RX12_212 rfl rfl rfl (by decide +kernel) ⟨Nat.le_of_ble_eq_true rfl, Nat.le_of_ble_eq_true rfl⟩) rfl hl.1 rfl (Nat.le_of_ble_eq_true rfl) dX12_isDoingHere_44 (fun r335 w337 H locs hp336 hw => ?_)
    obtain ⟨hT, k338, hv348, hg347⟩ := hp336
    have hR := RL_FE k338 (fun _ => rfl) (fun _ => rfl) (fun _ => rfl) (fun _ => rfl) hR
    have hF := hF.tr k338 (by decide)
    have c349 := k338.gi kM_at0 (by decide) c329
    have c350 := k338.gi kM_at0 (by decide) c330
    have c351 := k338.gi kM_at3 rfl c331
    have c352 := k338.gi kM_at5 rfl c332
    have c353 := k338.gi kM_at0 (by decide) c333
    have c354 := k338.gi kM_at4 rfl c334
    have c355 := k338.gi kM_at4 rfl c327
    rcases hg347 with ⟨rfl, ⟨x339, c340, rx339, tx339⟩⟩ | ⟨rfl, ⟨x341, c342, rx341, tx341⟩, ⟨x343, c344, rx343, tx343⟩⟩ | ⟨rfl, ⟨x345, c346, rx345, tx345⟩⟩
    · replace hM := hM.call (r' := 0) hv348 (by decide)
      have ex339 : x339.toInt = x9.toInt := by rw [← c353.symm.trans c340]
      refine lv_if_eq (tgt := 76) hx hb dX12_isDoingHere_47 (by decide) (fun _ => ?_) (fun c => absurd (by decide) c)
      replace hM := hM.pos (by decide)
      refine lv_aload_n hx hb dX12_isDoingHere_76 rfl (lv_at hl 1 rfl) ?_
      refine tk_getA hC hK hw hT hinX12 kM_at0 (by decide) rfl 5 (by decide) (List.mem_cons_of_mem _ uw_6_17) rfl rfl dX12_isDoingHere_77 ?_
      refine lv_iload_n hx hb dX12_isDoingHere_80 rfl (lv_at hl 0 rfl) ?_
      refine lv_iconst (v := 2) hx hb dX12_isDoingHere_81 (by decide) ?_
      refine lv_iadd hx hb dX12_isDoingHere_82 ?_
      refine lv_topi (fun x356 ex356 => ?_)
      have ezx356 := ex356
      have ex356 : x356.toInt = x316.toInt + (2 : Int) := by rw [ex356]; exact wk_add (show (-2147483648) ≤ x316.toInt + (2 : Int) by omega) (show x316.toInt + (2 : Int) ≤ 2147483647 by omega)
      replace hM := hM.lt ex356.symm
      refine lv_aload_n hx hb dX12_isDoingHere_83 rfl (lv_at hl 1 rfl) ?_
      refine tk_getA hC hK hw hT hinX12 kM_at0 (by decide) rfl 4 (by decide) (List.mem_cons_of_mem _ uw_6_16) rfl rfl dX12_isDoingHere_84 ?_
      refine lv_aload_n hx hb dX12_isDoingHere_87 rfl (lv_at hl 1 rfl) ?_
      refine tk_geti hC hK hw hT hinX12 kM_at0 (by decide) rfl 17 (by decide) (List.mem_cons_of_mem _ uw_19_7) rfl rfl dX12_isDoingHere_88 (fun x357 c358 rx357 tx357 => ?_)
      refine wk_top f0_ (c358.symm.trans c349) ?_
      replace hM := hM.rd (sI_at c349)
      refine tk_iald hC hK hw hT kM_at3 rfl rfl (show 0 ≤ f0_.toInt from rf0_) (show f0_.toInt < 7 from Int.lt_of_le_of_lt tf0_ (by decide)) dX12_isDoingHere_91 (fun x359 c360 rx359 tx359 => ?_)
      have hox359 := c360
      have c360 : gi w337 3 (f0_.toInt).toNat = x359 := (congrArg (gi w337 3) (congrArg Int.toNat (show f0_.toInt = f0_.toInt from rfl))).trans c360
      refine wk_top f2_ (c360.symm.trans c351) ?_
      replace hM := hM.rd ((sI_at hox359).trans (congrArg Int32.toInt (c360.symm.trans c351)))
      refine tk_iast hC hK hw hT kM_at4 (by decide) rfl rfl (show 0 ≤ x356.toInt by first | with_reducible assumption | omega) (show x356.toInt < 216 by first | with_reducible assumption | omega) (wk_i32 f2_).1 (wk_i32 f2_).2 dX12_isDoingHere_92 (fun H locs w361 hw hT k363 c362 => ?_)
      replace hM := hM.wr (sI_up k363 c362)
      have hR := RL_clause hR k363 (show 36 * f0_.toInt + 3 * (gi w337 5 (f0_.toInt).toNat).toInt ≤ ((x356.toInt.toNat : Nat) : Int) by rw [c352]; omega) (show ((x356.toInt.toNat : Nat) : Int) < 36 * f0_.toInt + 36 by omega) (fun r hr => by obtain ⟨x, e, t⟩ := hT.rda (lo := 0) (hi := 12) (i := r) kM_at5 rfl rfl hr; rw [e]; exact t)
      have hF := hF.put kM_at4 (inE_of (a := 0) (b := 216) (by decide) (show 0 ≤ x356.toInt.toNat by omega) (show x356.toInt.toNat ≤ 216 by omega)) k363
      have c364 := k363.gi (Or.inl (tk_ne kM_at0 kM_at4 (by decide))) c349
      have c365 := k363.gi (Or.inl (tk_ne kM_at0 kM_at4 (by decide))) c350
      have c366 := k363.gi (Or.inl (tk_ne kM_at3 kM_at4 (by decide))) c351
      have c367 := k363.gi (Or.inl (tk_ne kM_at5 kM_at4 (by decide))) c352
      have c368 := k363.gi (Or.inl (tk_ne kM_at0 kM_at4 (by decide))) c353
      have c369 := k363.gi (Or.inr (show (36 * f0_.toInt + 3 * f3_.toInt + 0).toNat ≠ x356.toInt.toNat by omega)) c354
      have c370 := k363.gi (Or.inr (show (36 * f0_.toInt + 3 * f3_.toInt + 1).toNat ≠ x356.toInt.toNat by omega)) c355
      have c362 : gi w361 4 (36 * f0_.toInt + 3 * f3_.toInt + 2).toNat = f2_ := (congrArg (gi w361 4) (congrArg Int.toNat (show 36 * f0_.toInt + 3 * f3_.toInt + 2 = x356.toInt by first | exact Int.le_antisymm (by omega) (by omega) | omega))).trans c362
      refine lv_aload_n hx hb dX12_isDoingHere_93 rfl (lv_at hl 1 rfl) ?_
      refine tk_getA hC hK hw hT hinX12 kM_at0 (by decide) rfl 6 (by decide) (List.mem_cons_of_mem _ uw_6_18) rfl rfl dX12_isDoingHere_94 ?_
      refine lv_aload_n hx hb dX12_isDoingHere_97 rfl (lv_at hl 1 rfl) ?_
      refine tk_geti hC hK hw hT hinX12 kM_at0 (by decide) rfl 17 (by decide) (List.mem_cons_of_mem _ uw_19_7) rfl rfl dX12_isDoingHere_98 (fun x371 c372 rx371 tx371 => ?_)
      refine wk_top f0_ (c372.symm.trans c364) ?_
      replace hM := hM.rd (sI_at c364)
      refine lv_dup2_11 hx hb dX12_isDoingHere_101 rfl rfl ?_
      refine tk_iald hC hK hw hT kM_at5 rfl rfl (show 0 ≤ f0_.toInt from rf0_) (show f0_.toInt < 6 from Int.lt_of_le_of_lt tf0_ (by decide)) dX12_isDoingHere_102 (fun x373 c374 rx373 tx373 => ?_)
      have hox373 := c374
      have c374 : gi w361 5 (f0_.toInt).toNat = x373 := (congrArg (gi w361 5) (congrArg Int.toNat (show f0_.toInt = f0_.toInt from rfl))).trans c374
      refine wk_top f3_ (c374.symm.trans c367) ?_
      replace hM := hM.rd ((sI_at hox373).trans (congrArg Int32.toInt (c374.symm.trans c367)))
      refine lv_iconst (v := 1) hx hb dX12_isDoingHere_103 (by decide) ?_
      refine lv_iadd hx hb dX12_isDoingHere_104 ?_
      refine lv_topi (fun x375 ex375 => ?_)
      have ezx375 := ex375
      have ex375 : x375.toInt = f3_.toInt + (1 : Int) := by rw [ex375]; exact wk_add (show (-2147483648) ≤ f3_.toInt + (1 : Int) by omega) (show f3_.toInt + (1 : Int) ≤ 2147483647 by omega)
      replace hM := hM.lt ex375.symm
      refine tk_iast hC hK hw hT kM_at5 (by decide) rfl rfl (show 0 ≤ f0_.toInt from rf0_) (show f0_.toInt < 6 from Int.lt_of_le_of_lt tf0_ (by decide)) (show 0 ≤ x375.toInt by first | with_reducible assumption | omega) (show x375.toInt ≤ 12 by first | with_reducible assumption | omega) dX12_isDoingHere_105 (fun H locs w376 hw hT k378 c377 => ?_)
      replace hM := hM.wr (sI_up k378 c377)
      have hR := RL_add (t := f0_.toInt) (K := f3_) (b := (-1)) hR k378 c367 (by rw [show gi w376 5 (f0_.toInt).toNat = x375 from c377]; omega) (by omega) c370 (c362.trans c366.symm) (by rw [c366]; omega) (Or.inl (by decide))
      have hF := hF.put kM_at5 (inE_of (a := 0) (b := 6) (by decide) (show 0 ≤ f0_.toInt.toNat by omega) (show f0_.toInt.toNat ≤ 6 by omega)) k378
      have c379 := k378.gi (Or.inl (tk_ne kM_at0 kM_at5 (by decide))) c364
      have c380 := k378.gi (Or.inl (tk_ne kM_at0 kM_at5 (by decide))) c365
      have c381 := k378.gi (Or.inl (tk_ne kM_at3 kM_at5 (by decide))) c366
      have c382 := k378.gi (Or.inl (tk_ne kM_at0 kM_at5 (by decide))) c368
      have c383 := k378.gi (Or.inl (tk_ne kM_at4 kM_at5 (by decide))) c369
      have c384 := k378.gi (Or.inl (tk_ne kM_at4 kM_at5 (by decide))) c370
      have c385 := k378.gi (Or.inl (tk_ne kM_at4 kM_at5 (by decide))) c362
      have c377 : gi w376 5 (f0_.toInt).toNat = x375 := (congrArg (gi w376 5) (congrArg Int.toNat (show f0_.toInt = f0_.toInt from rfl))).trans c377
      refine lv_iconst (v := 1) hx hb dX12_isDoingHere_106 (by decide) ?_
      exact tk_zret hC hr rfl hlocks hK ⟨hT, hF, hM.ret (by decide), (Or.inr (Or.inr (Or.inr ⟨rfl, ⟨x9, c382, (show 0 ≤ x9.toInt by first | with_reducible assumption | omega), (show x9.toInt ≤ 400 by first | with_reducible assumption | omega)⟩, ⟨f0_, c379, (show 0 ≤ f0_.toInt from rf0_), (show f0_.toInt ≤ 5 from tf0_)⟩, hR, (by simp only [c379, cf0_, c381, c380]; omega), (by simp only [c379, cf0_, cf3_, c377]; omega)⟩)))⟩ hw dX12_isDoingHere_107
    · replace hM := hM.call (r' := 1) hv348 (by decide)
      have ex341 : x341.toInt = x9.toInt := by rw [← c353.symm.trans c342]
      refine lv_if_eq (tgt := 76) hx hb dX12_isDoingHere_47 (by decide) (fun c => absurd c (by decide)) (fun _ => ?_)
      replace hM := hM.neg (by decide)
      refine lv_aload_n hx hb dX12_isDoingHere_50 rfl (lv_at hl 1 rfl) ?_
      refine tk_getA hC hK hw hT hinX12 kM_at0 (by decide) rfl 5 (by decide) (List.mem_cons_of_mem _ uw_6_17) rfl rfl dX12_isDoingHere_51 ?_
      refine lv_iload_n hx hb dX12_isDoingHere_54 rfl (lv_at hl 0 rfl) ?_
      refine lv_iconst (v := 1) hx hb dX12_isDoingHere_55 (by decide) ?_
      refine lv_iadd hx hb dX12_isDoingHere_56 ?_
      refine lv_topi (fun x386 ex386 => ?_)
      have ezx386 := ex386
      have ex386 : x386.toInt = x316.toInt + (1 : Int) := by rw [ex386]; exact wk_add (show (-2147483648) ≤ x316.toInt + (1 : Int) by omega) (show x316.toInt + (1 : Int) ≤ 2147483647 by omega)
      replace hM := hM.lt ex386.symm
      refine lv_aload_n hx hb dX12_isDoingHere_57 rfl (lv_at hl 1 rfl) ?_
      refine tk_getA hC hK hw hT hinX12 kM_at0 (by decide) rfl 4 (by decide) (List.mem_cons_of_mem _ uw_6_16) rfl rfl dX12_isDoingHere_58 ?_
      refine lv_aload_n hx hb dX12_isDoingHere_61 rfl (lv_at hl 1 rfl) ?_
      refine tk_geti hC hK hw hT hinX12 kM_at0 (by decide) rfl 17 (by decide) (List.mem_cons_of_mem _ uw_19_7) rfl rfl dX12_isDoingHere_62 (fun x387 c388 rx387 tx387 => ?_)
      refine wk_top f0_ (c388.symm.trans c349) ?_
      replace hM := hM.rd (sI_at c349)
      refine tk_iald hC hK hw hT kM_at3 rfl rfl (show 0 ≤ f0_.toInt from rf0_) (show f0_.toInt < 7 from Int.lt_of_le_of_lt tf0_ (by decide)) dX12_isDoingHere_65 (fun x389 c390 rx389 tx389 => ?_)
      have hox389 := c390
      have c390 : gi w337 3 (f0_.toInt).toNat = x389 := (congrArg (gi w337 3) (congrArg Int.toNat (show f0_.toInt = f0_.toInt from rfl))).trans c390
      refine wk_top f2_ (c390.symm.trans c351) ?_
      replace hM := hM.rd ((sI_at hox389).trans (congrArg Int32.toInt (c390.symm.trans c351)))
      refine tk_iast hC hK hw hT kM_at4 (by decide) rfl rfl (show 0 ≤ x386.toInt by first | with_reducible assumption | omega) (show x386.toInt < 216 by first | with_reducible assumption | omega) (wk_i32 f2_).1 (wk_i32 f2_).2 dX12_isDoingHere_66 (fun H locs w391 hw hT k393 c392 => ?_)
      replace hM := hM.wr (sI_up k393 c392)
      have hR := RL_clause hR k393 (show 36 * f0_.toInt + 3 * (gi w337 5 (f0_.toInt).toNat).toInt ≤ ((x386.toInt.toNat : Nat) : Int) by rw [c352]; omega) (show ((x386.toInt.toNat : Nat) : Int) < 36 * f0_.toInt + 36 by omega) (fun r hr => by obtain ⟨x, e, t⟩ := hT.rda (lo := 0) (hi := 12) (i := r) kM_at5 rfl rfl hr; rw [e]; exact t)
      have hF := hF.put kM_at4 (inE_of (a := 0) (b := 216) (by decide) (show 0 ≤ x386.toInt.toNat by omega) (show x386.toInt.toNat ≤ 216 by omega)) k393
      have c394 := k393.gi (Or.inl (tk_ne kM_at0 kM_at4 (by decide))) c349
      have c395 := k393.gi (Or.inl (tk_ne kM_at0 kM_at4 (by decide))) c350
      have c396 := k393.gi (Or.inl (tk_ne kM_at3 kM_at4 (by decide))) c351
      have c397 := k393.gi (Or.inl (tk_ne kM_at5 kM_at4 (by decide))) c352
      have c398 := k393.gi (Or.inl (tk_ne kM_at0 kM_at4 (by decide))) c353
      have c399 := k393.gi (Or.inr (show (36 * f0_.toInt + 3 * f3_.toInt + 0).toNat ≠ x386.toInt.toNat by omega)) c354
      have c400 := k393.gi (Or.inl (tk_ne kM_at0 kM_at4 (by decide))) c344
      have c392 : gi w391 4 (36 * f0_.toInt + 3 * f3_.toInt + 1).toNat = f2_ := (congrArg (gi w391 4) (congrArg Int.toNat (show 36 * f0_.toInt + 3 * f3_.toInt + 1 = x386.toInt by first | exact Int.le_antisymm (by omega) (by omega) | omega))).trans c392
      refine lv_aload_n hx hb dX12_isDoingHere_67 rfl (lv_at hl 1 rfl) ?_
      obtain ⟨x401, c402, rx401, tx401⟩ := hT.rdi (lo := 0) (hi := 400) (k := 22) kM_at0 (by decide) rfl
      obtain ⟨x403, c404, rx403, tx403⟩ := hT.rdi (lo := (-100)) (hi := 10) (k := 19) kM_at0 (by decide) rfl
      refine tk_Vi hC hK hw hT hA hE hSR kM_at0 (by decide) rfl (kz_X12_tested_1 l adK adV dC dI cy ad B hB0 (Int.le_trans hB1 (by decide)) qr s1    w391 H.size hT f0_ c394 (show 0 ≤ f0_.toInt from rf0_) (show f0_.toInt ≤ 5 from tf0_) f1_ c395 (show 0 ≤ f1_.toInt from rf1_) (show f1_.toInt ≤ 60 from tf1_) x403 c404 (show (-100) ≤ x403.toInt by first | with_reducible assumption | omega) (show x403.toInt ≤ 10 by first | with_reducible assumption | omega) x401 c402 (show 0 ≤ x401.toInt by first | with_reducible assumption | omega) (show x401.toInt ≤ 400 by first | with_reducible assumption | omega) f2_ c396 (show 0 ≤ f2_.toInt from rf2_) (show f2_.toInt ≤ 400 from tf2_) (show 3 * f2_.toInt ≤ 14 * f1_.toInt from pr0_) (show f2_.toInt ≤ 280 from pr1_) f2_.toInt 0 (OKW_nil hR (by rw [c396]) (by omega))) (cwV 0 hC.2.2.2.2 uV_RX12_215 rfl rfl rfl (by decide +kernel) ⟨Nat.le_of_ble_eq_true rfl, Nat.le_of_ble_eq_true rfl⟩) rfl hl.1 rfl (Nat.le_of_ble_eq_true rfl) dX12_isDoingHere_68 (fun r405 w407 H locs hp406 hw => ?_)
      obtain ⟨hT, k408, hv436, hg435⟩ := hp406
      have hF := hF.tr k408 (by decide)
      have c437 := k408.gi kM_at0 (by decide) c394
      have c438 := k408.gi kM_at5 rfl c397
      have c439 := k408.gi kM_at0 (by decide) c398
      have c440 := k408.gi kM_at4 rfl c399
      have c441 := k408.gi kM_at4 rfl c392
      rcases hg435 with ⟨rfl, ⟨x409, c410, rx409, tx409⟩, ⟨x411, c412, rx411, tx411⟩, ⟨x413, c414, rx413, tx413⟩, ⟨x415, c416, rx415, tx415⟩, hq417⟩ | ⟨rfl, ⟨x418, c419, rx418, tx418⟩, ⟨x420, c421, rx420, tx420⟩, ⟨x422, c423, rx422, tx422⟩, ⟨x424, c425, rx424, tx424⟩, hq426⟩ | ⟨rfl, ⟨x427, c428, rx427, tx427⟩, ⟨x429, c430, rx429, tx429⟩, ⟨x431, c432, rx431, tx431⟩, hq433, g434⟩
      · replace hM := hM.call (r' := 0) hv436 (by decide)
        have ex409 : x409.toInt = x9.toInt := by rw [← c439.symm.trans c410]
        have ex413 : x413.toInt = f0_.toInt := by rw [← c437.symm.trans c414]
        obtain ⟨x442, c443, rx442, tx442⟩ := hT.rda (lo := 0) (hi := 400) (i := (f0_.toInt).toNat) kM_at3 rfl rfl (by omega)
        obtain ⟨x444, c445, rx444, tx444⟩ := hT.rdi (lo := 0) (hi := 60) (k := 18) kM_at0 (by decide) rfl
        obtain ⟨x446, c447, rx446, tx446⟩ := hT.rdi (lo := (-100)) (hi := 10) (k := 19) kM_at0 (by decide) rfl
        have hR := hq417
        refine lv_if_ne (tgt := 76) hx hb dX12_isDoingHere_71 (by decide) (fun c => absurd (by decide) c) (fun _ => ?_)
        replace hM := hM.neg (by decide)
        refine lv_iconst (v := 0) hx hb dX12_isDoingHere_74 (by decide) ?_
        exact tk_zret hC hr rfl hlocks hK ⟨hT, hF, hM.ret (by decide), (Or.inl ⟨rfl, ⟨x9, c439, (show 1 ≤ x9.toInt by first | with_reducible assumption | omega), (show x9.toInt ≤ 400 by first | with_reducible assumption | omega)⟩, ⟨x411, c412, (show 1 ≤ x411.toInt by first | with_reducible assumption | omega), (show x411.toInt ≤ 3205 by first | with_reducible assumption | omega)⟩, ⟨f0_, c437, (show 0 ≤ f0_.toInt from rf0_), (show f0_.toInt ≤ 5 from tf0_)⟩, ⟨x415, c416, (show 0 ≤ x415.toInt by first | with_reducible assumption | omega), (show x415.toInt ≤ 399 by first | with_reducible assumption | omega)⟩, hR⟩)⟩ hw dX12_isDoingHere_75
      · replace hM := hM.call (r' := 0) hv436 (by decide)
        have ex418 : x418.toInt = x9.toInt := by rw [← c439.symm.trans c419]
        have ex422 : x422.toInt = f0_.toInt := by rw [← c437.symm.trans c423]
        obtain ⟨x448, c449, rx448, tx448⟩ := hT.rda (lo := 0) (hi := 400) (i := (f0_.toInt).toNat) kM_at3 rfl rfl (by omega)
        obtain ⟨x450, c451, rx450, tx450⟩ := hT.rdi (lo := 0) (hi := 60) (k := 18) kM_at0 (by decide) rfl
        obtain ⟨x452, c453, rx452, tx452⟩ := hT.rdi (lo := (-100)) (hi := 10) (k := 19) kM_at0 (by decide) rfl
        have hR := hq426
        refine lv_if_ne (tgt := 76) hx hb dX12_isDoingHere_71 (by decide) (fun c => absurd (by decide) c) (fun _ => ?_)
        replace hM := hM.neg (by decide)
        refine lv_iconst (v := 0) hx hb dX12_isDoingHere_74 (by decide) ?_
        exact tk_zret hC hr rfl hlocks hK ⟨hT, hF, hM.ret (by decide), (Or.inl ⟨rfl, ⟨x9, c439, (show 1 ≤ x9.toInt by first | with_reducible assumption | omega), (show x9.toInt ≤ 400 by first | with_reducible assumption | omega)⟩, ⟨x420, c421, (show 1 ≤ x420.toInt by first | with_reducible assumption | omega), (show x420.toInt ≤ 3205 by first | with_reducible assumption | omega)⟩, ⟨f0_, c437, (show 0 ≤ f0_.toInt from rf0_), (show f0_.toInt ≤ 5 from tf0_)⟩, ⟨x424, c425, (show 0 ≤ x424.toInt by first | with_reducible assumption | omega), (show x424.toInt ≤ 399 by first | with_reducible assumption | omega)⟩, hR⟩)⟩ hw dX12_isDoingHere_75
      · replace hM := hM.call (r' := 1) hv436 (by decide)
        have ex427 : x427.toInt = f0_.toInt := by rw [← c437.symm.trans c428]
        obtain ⟨x454, c455, rx454, tx454⟩ := hT.rda (lo := 0) (hi := 400) (i := (f0_.toInt).toNat) kM_at3 rfl rfl (by omega)
        obtain ⟨x456, c457, rx456, tx456⟩ := hT.rdi (lo := 0) (hi := 60) (k := 18) kM_at0 (by decide) rfl
        have g434 : 3 * x454.toInt ≤ 14 * x456.toInt := by have q := g434; simp only [c394, c437, c455, c457] at q; first | with_reducible exact q | omega
        have hO : OKW w407 f0_.toInt f2_.toInt (1) := by have q := hq433; exact OKW_cast q (by omega)
        refine lv_if_ne (tgt := 76) hx hb dX12_isDoingHere_71 (by decide) (fun _ => ?_) (fun c => absurd c (by decide))
        replace hM := hM.pos (by decide)
        refine lv_aload_n hx hb dX12_isDoingHere_76 rfl (lv_at hl 1 rfl) ?_
        refine tk_getA hC hK hw hT hinX12 kM_at0 (by decide) rfl 5 (by decide) (List.mem_cons_of_mem _ uw_6_17) rfl rfl dX12_isDoingHere_77 ?_
        refine lv_iload_n hx hb dX12_isDoingHere_80 rfl (lv_at hl 0 rfl) ?_
        refine lv_iconst (v := 2) hx hb dX12_isDoingHere_81 (by decide) ?_
        refine lv_iadd hx hb dX12_isDoingHere_82 ?_
        refine lv_topi (fun x458 ex458 => ?_)
        have ezx458 := ex458
        have ex458 : x458.toInt = x316.toInt + (2 : Int) := by rw [ex458]; exact wk_add (show (-2147483648) ≤ x316.toInt + (2 : Int) by omega) (show x316.toInt + (2 : Int) ≤ 2147483647 by omega)
        replace hM := hM.lt ex458.symm
        refine lv_aload_n hx hb dX12_isDoingHere_83 rfl (lv_at hl 1 rfl) ?_
        refine tk_getA hC hK hw hT hinX12 kM_at0 (by decide) rfl 4 (by decide) (List.mem_cons_of_mem _ uw_6_16) rfl rfl dX12_isDoingHere_84 ?_
        refine lv_aload_n hx hb dX12_isDoingHere_87 rfl (lv_at hl 1 rfl) ?_
        refine tk_geti hC hK hw hT hinX12 kM_at0 (by decide) rfl 17 (by decide) (List.mem_cons_of_mem _ uw_19_7) rfl rfl dX12_isDoingHere_88 (fun x459 c460 rx459 tx459 => ?_)
        refine wk_top f0_ (c460.symm.trans c437) ?_
        replace hM := hM.rd (sI_at c437)
        refine tk_iald hC hK hw hT kM_at3 rfl rfl (show 0 ≤ f0_.toInt from rf0_) (show f0_.toInt < 7 from Int.lt_of_le_of_lt tf0_ (by decide)) dX12_isDoingHere_91 (fun x461 c462 rx461 tx461 => ?_)
        have hox461 := c462
        have c462 : gi w407 3 (f0_.toInt).toNat = x461 := (congrArg (gi w407 3) (congrArg Int.toNat (show f0_.toInt = f0_.toInt from rfl))).trans c462
        refine wk_top x454 (c462.symm.trans c455) ?_
        replace hM := hM.rd ((sI_at hox461).trans (congrArg Int32.toInt (c462.symm.trans c455)))
        refine tk_iast hC hK hw hT kM_at4 (by decide) rfl rfl (show 0 ≤ x458.toInt by first | with_reducible assumption | omega) (show x458.toInt < 216 by first | with_reducible assumption | omega) (wk_i32 x454).1 (wk_i32 x454).2 dX12_isDoingHere_92 (fun H locs w463 hw hT k465 c464 => ?_)
        replace hM := hM.wr (sI_up k465 c464)
        have hO := OKW_clause hO k465 (show 36 * f0_.toInt + 3 * (gi w407 5 (f0_.toInt).toNat).toInt ≤ ((x458.toInt.toNat : Nat) : Int) by rw [c438]; omega) (show ((x458.toInt.toNat : Nat) : Int) < 36 * f0_.toInt + 36 by omega) (fun r hr => by obtain ⟨x, e, t⟩ := hT.rda (lo := 0) (hi := 12) (i := r) kM_at5 rfl rfl hr; rw [e]; exact t)
        have hF := hF.put kM_at4 (inE_of (a := 0) (b := 216) (by decide) (show 0 ≤ x458.toInt.toNat by omega) (show x458.toInt.toNat ≤ 216 by omega)) k465
        have c466 := k465.gi (Or.inl (tk_ne kM_at0 kM_at4 (by decide))) c437
        have c467 := k465.gi (Or.inl (tk_ne kM_at5 kM_at4 (by decide))) c438
        have c468 := k465.gi (Or.inl (tk_ne kM_at0 kM_at4 (by decide))) c439
        have c469 := k465.gi (Or.inr (show (36 * f0_.toInt + 3 * f3_.toInt + 0).toNat ≠ x458.toInt.toNat by omega)) c440
        have c470 := k465.gi (Or.inr (show (36 * f0_.toInt + 3 * f3_.toInt + 1).toNat ≠ x458.toInt.toNat by omega)) c441
        have c471 := k465.gi (Or.inl (tk_ne kM_at0 kM_at4 (by decide))) c430
        have c472 := k465.gi (Or.inl (tk_ne kM_at0 kM_at4 (by decide))) c432
        have c473 := k465.gi (Or.inl (tk_ne kM_at3 kM_at4 (by decide))) c455
        have c474 := k465.gi (Or.inl (tk_ne kM_at0 kM_at4 (by decide))) c457
        have c464 : gi w463 4 (36 * f0_.toInt + 3 * f3_.toInt + 2).toNat = x454 := (congrArg (gi w463 4) (congrArg Int.toNat (show 36 * f0_.toInt + 3 * f3_.toInt + 2 = x458.toInt by first | exact Int.le_antisymm (by omega) (by omega) | omega))).trans c464
        refine lv_aload_n hx hb dX12_isDoingHere_93 rfl (lv_at hl 1 rfl) ?_
        refine tk_getA hC hK hw hT hinX12 kM_at0 (by decide) rfl 6 (by decide) (List.mem_cons_of_mem _ uw_6_18) rfl rfl dX12_isDoingHere_94 ?_
        refine lv_aload_n hx hb dX12_isDoingHere_97 rfl (lv_at hl 1 rfl) ?_
        refine tk_geti hC hK hw hT hinX12 kM_at0 (by decide) rfl 17 (by decide) (List.mem_cons_of_mem _ uw_19_7) rfl rfl dX12_isDoingHere_98 (fun x475 c476 rx475 tx475 => ?_)
        refine wk_top f0_ (c476.symm.trans c466) ?_
        replace hM := hM.rd (sI_at c466)
        refine lv_dup2_11 hx hb dX12_isDoingHere_101 rfl rfl ?_
        refine tk_iald hC hK hw hT kM_at5 rfl rfl (show 0 ≤ f0_.toInt from rf0_) (show f0_.toInt < 6 from Int.lt_of_le_of_lt tf0_ (by decide)) dX12_isDoingHere_102 (fun x477 c478 rx477 tx477 => ?_)
        have hox477 := c478
        have c478 : gi w463 5 (f0_.toInt).toNat = x477 := (congrArg (gi w463 5) (congrArg Int.toNat (show f0_.toInt = f0_.toInt from rfl))).trans c478
        refine wk_top f3_ (c478.symm.trans c467) ?_
        replace hM := hM.rd ((sI_at hox477).trans (congrArg Int32.toInt (c478.symm.trans c467)))
        refine lv_iconst (v := 1) hx hb dX12_isDoingHere_103 (by decide) ?_
        refine lv_iadd hx hb dX12_isDoingHere_104 ?_
        refine lv_topi (fun x479 ex479 => ?_)
        have ezx479 := ex479
        have ex479 : x479.toInt = f3_.toInt + (1 : Int) := by rw [ex479]; exact wk_add (show (-2147483648) ≤ f3_.toInt + (1 : Int) by omega) (show f3_.toInt + (1 : Int) ≤ 2147483647 by omega)
        replace hM := hM.lt ex479.symm
        refine tk_iast hC hK hw hT kM_at5 (by decide) rfl rfl (show 0 ≤ f0_.toInt from rf0_) (show f0_.toInt < 6 from Int.lt_of_le_of_lt tf0_ (by decide)) (show 0 ≤ x479.toInt by first | with_reducible assumption | omega) (show x479.toInt ≤ 12 by first | with_reducible assumption | omega) dX12_isDoingHere_105 (fun H locs w480 hw hT k482 c481 => ?_)
        replace hM := hM.wr (sI_up k482 c481)
        have hR := RL_add (t := f0_.toInt) (K := f3_) (b := f2_) hO.1 k482 c467 (by rw [show gi w480 5 (f0_.toInt).toNat = x479 from c481]; omega) (by omega) c470 (c464.trans c473.symm) (by rw [c473]; omega) (Or.inr (OKW_cast hO (by omega)))
        have hF := hF.put kM_at5 (inE_of (a := 0) (b := 6) (by decide) (show 0 ≤ f0_.toInt.toNat by omega) (show f0_.toInt.toNat ≤ 6 by omega)) k482
        have c483 := k482.gi (Or.inl (tk_ne kM_at0 kM_at5 (by decide))) c466
        have c484 := k482.gi (Or.inl (tk_ne kM_at0 kM_at5 (by decide))) c468
        have c485 := k482.gi (Or.inl (tk_ne kM_at4 kM_at5 (by decide))) c469
        have c486 := k482.gi (Or.inl (tk_ne kM_at4 kM_at5 (by decide))) c470
        have c487 := k482.gi (Or.inl (tk_ne kM_at0 kM_at5 (by decide))) c471
        have c488 := k482.gi (Or.inl (tk_ne kM_at0 kM_at5 (by decide))) c472
        have c489 := k482.gi (Or.inl (tk_ne kM_at3 kM_at5 (by decide))) c473
        have c490 := k482.gi (Or.inl (tk_ne kM_at0 kM_at5 (by decide))) c474
        have c491 := k482.gi (Or.inl (tk_ne kM_at4 kM_at5 (by decide))) c464
        have c481 : gi w480 5 (f0_.toInt).toNat = x479 := (congrArg (gi w480 5) (congrArg Int.toNat (show f0_.toInt = f0_.toInt from rfl))).trans c481
        refine lv_iconst (v := 1) hx hb dX12_isDoingHere_106 (by decide) ?_
        exact tk_zret hC hr rfl hlocks hK ⟨hT, hF, hM.ret (by decide), (Or.inr (Or.inr (Or.inl ⟨rfl, ⟨x9, c484, (show 1 ≤ x9.toInt by first | with_reducible assumption | omega), (show x9.toInt ≤ 400 by first | with_reducible assumption | omega)⟩, ⟨f0_, c483, (show 0 ≤ f0_.toInt from rf0_), (show f0_.toInt ≤ 5 from tf0_)⟩, hR, (by simp only [c483, cf0_, c489, c490]; omega), (by simp only [c483, cf0_, cf3_, c481]; omega)⟩)))⟩ hw dX12_isDoingHere_107
    · replace hM := hM.call (r' := 1) hv348 (by decide)
      have ex345 : x345.toInt = x9.toInt := by rw [← c353.symm.trans c346]
      refine lv_if_eq (tgt := 76) hx hb dX12_isDoingHere_47 (by decide) (fun c => absurd c (by decide)) (fun _ => ?_)
      replace hM := hM.neg (by decide)
      refine lv_aload_n hx hb dX12_isDoingHere_50 rfl (lv_at hl 1 rfl) ?_
      refine tk_getA hC hK hw hT hinX12 kM_at0 (by decide) rfl 5 (by decide) (List.mem_cons_of_mem _ uw_6_17) rfl rfl dX12_isDoingHere_51 ?_
      refine lv_iload_n hx hb dX12_isDoingHere_54 rfl (lv_at hl 0 rfl) ?_
      refine lv_iconst (v := 1) hx hb dX12_isDoingHere_55 (by decide) ?_
      refine lv_iadd hx hb dX12_isDoingHere_56 ?_
      refine lv_topi (fun x492 ex492 => ?_)
      have ezx492 := ex492
      have ex492 : x492.toInt = x316.toInt + (1 : Int) := by rw [ex492]; exact wk_add (show (-2147483648) ≤ x316.toInt + (1 : Int) by omega) (show x316.toInt + (1 : Int) ≤ 2147483647 by omega)
      replace hM := hM.lt ex492.symm
      refine lv_aload_n hx hb dX12_isDoingHere_57 rfl (lv_at hl 1 rfl) ?_
      refine tk_getA hC hK hw hT hinX12 kM_at0 (by decide) rfl 4 (by decide) (List.mem_cons_of_mem _ uw_6_16) rfl rfl dX12_isDoingHere_58 ?_
      refine lv_aload_n hx hb dX12_isDoingHere_61 rfl (lv_at hl 1 rfl) ?_
      refine tk_geti hC hK hw hT hinX12 kM_at0 (by decide) rfl 17 (by decide) (List.mem_cons_of_mem _ uw_19_7) rfl rfl dX12_isDoingHere_62 (fun x493 c494 rx493 tx493 => ?_)
      refine wk_top f0_ (c494.symm.trans c349) ?_
      replace hM := hM.rd (sI_at c349)
      refine tk_iald hC hK hw hT kM_at3 rfl rfl (show 0 ≤ f0_.toInt from rf0_) (show f0_.toInt < 7 from Int.lt_of_le_of_lt tf0_ (by decide)) dX12_isDoingHere_65 (fun x495 c496 rx495 tx495 => ?_)
      have hox495 := c496
      have c496 : gi w337 3 (f0_.toInt).toNat = x495 := (congrArg (gi w337 3) (congrArg Int.toNat (show f0_.toInt = f0_.toInt from rfl))).trans c496
      refine wk_top f2_ (c496.symm.trans c351) ?_
      replace hM := hM.rd ((sI_at hox495).trans (congrArg Int32.toInt (c496.symm.trans c351)))
      refine tk_iast hC hK hw hT kM_at4 (by decide) rfl rfl (show 0 ≤ x492.toInt by first | with_reducible assumption | omega) (show x492.toInt < 216 by first | with_reducible assumption | omega) (wk_i32 f2_).1 (wk_i32 f2_).2 dX12_isDoingHere_66 (fun H locs w497 hw hT k499 c498 => ?_)
      replace hM := hM.wr (sI_up k499 c498)
      have hR := RL_clause hR k499 (show 36 * f0_.toInt + 3 * (gi w337 5 (f0_.toInt).toNat).toInt ≤ ((x492.toInt.toNat : Nat) : Int) by rw [c352]; omega) (show ((x492.toInt.toNat : Nat) : Int) < 36 * f0_.toInt + 36 by omega) (fun r hr => by obtain ⟨x, e, t⟩ := hT.rda (lo := 0) (hi := 12) (i := r) kM_at5 rfl rfl hr; rw [e]; exact t)
      have hF := hF.put kM_at4 (inE_of (a := 0) (b := 216) (by decide) (show 0 ≤ x492.toInt.toNat by omega) (show x492.toInt.toNat ≤ 216 by omega)) k499
      have c500 := k499.gi (Or.inl (tk_ne kM_at0 kM_at4 (by decide))) c349
      have c501 := k499.gi (Or.inl (tk_ne kM_at0 kM_at4 (by decide))) c350
      have c502 := k499.gi (Or.inl (tk_ne kM_at3 kM_at4 (by decide))) c351
      have c503 := k499.gi (Or.inl (tk_ne kM_at5 kM_at4 (by decide))) c352
      have c504 := k499.gi (Or.inl (tk_ne kM_at0 kM_at4 (by decide))) c353
      have c505 := k499.gi (Or.inr (show (36 * f0_.toInt + 3 * f3_.toInt + 0).toNat ≠ x492.toInt.toNat by omega)) c354
      have c498 : gi w497 4 (36 * f0_.toInt + 3 * f3_.toInt + 1).toNat = f2_ := (congrArg (gi w497 4) (congrArg Int.toNat (show 36 * f0_.toInt + 3 * f3_.toInt + 1 = x492.toInt by first | exact Int.le_antisymm (by omega) (by omega) | omega))).trans c498
      refine lv_aload_n hx hb dX12_isDoingHere_67 rfl (lv_at hl 1 rfl) ?_
      obtain ⟨x506, c507, rx506, tx506⟩ := hT.rdi (lo := 0) (hi := 400) (k := 22) kM_at0 (by decide) rfl
      obtain ⟨x508, c509, rx508, tx508⟩ := hT.rdi (lo := (-100)) (hi := 10) (k := 19) kM_at0 (by decide) rfl
      refine tk_Vi hC hK hw hT hA hE hSR kM_at0 (by decide) rfl (kz_X12_tested_1 l adK adV dC dI cy ad B hB0 (Int.le_trans hB1 (by decide)) qr s1    w497 H.size hT f0_ c500 (show 0 ≤ f0_.toInt from rf0_) (show f0_.toInt ≤ 5 from tf0_) f1_ c501 (show 0 ≤ f1_.toInt from rf1_) (show f1_.toInt ≤ 60 from tf1_) x508 c509 (show (-100) ≤ x508.toInt by first | with_reducible assumption | omega) (show x508.toInt ≤ 10 by first | with_reducible assumption | omega) x506 c507 (show 0 ≤ x506.toInt by first | with_reducible assumption | omega) (show x506.toInt ≤ 400 by first | with_reducible assumption | omega) f2_ c502 (show 0 ≤ f2_.toInt from rf2_) (show f2_.toInt ≤ 400 from tf2_) (show 3 * f2_.toInt ≤ 14 * f1_.toInt from pr0_) (show f2_.toInt ≤ 280 from pr1_) f2_.toInt 0 (OKW_nil hR (by rw [c502]) (by omega))) (cwV 0 hC.2.2.2.2 uV_RX12_215 rfl rfl rfl (by decide +kernel) ⟨Nat.le_of_ble_eq_true rfl, Nat.le_of_ble_eq_true rfl⟩) rfl hl.1 rfl (Nat.le_of_ble_eq_true rfl) dX12_isDoingHere_68 (fun r510 w512 H locs hp511 hw => ?_)
      obtain ⟨hT, k513, hv541, hg540⟩ := hp511
      have hF := hF.tr k513 (by decide)
      have c542 := k513.gi kM_at0 (by decide) c500
      have c543 := k513.gi kM_at5 rfl c503
      have c544 := k513.gi kM_at0 (by decide) c504
      have c545 := k513.gi kM_at4 rfl c505
      have c546 := k513.gi kM_at4 rfl c498
      rcases hg540 with ⟨rfl, ⟨x514, c515, rx514, tx514⟩, ⟨x516, c517, rx516, tx516⟩, ⟨x518, c519, rx518, tx518⟩, ⟨x520, c521, rx520, tx520⟩, hq522⟩ | ⟨rfl, ⟨x523, c524, rx523, tx523⟩, ⟨x525, c526, rx525, tx525⟩, ⟨x527, c528, rx527, tx527⟩, ⟨x529, c530, rx529, tx529⟩, hq531⟩ | ⟨rfl, ⟨x532, c533, rx532, tx532⟩, ⟨x534, c535, rx534, tx534⟩, ⟨x536, c537, rx536, tx536⟩, hq538, g539⟩
      · replace hM := hM.call (r' := 0) hv541 (by decide)
        have ex514 : x514.toInt = x9.toInt := by rw [← c544.symm.trans c515]
        have ex518 : x518.toInt = f0_.toInt := by rw [← c542.symm.trans c519]
        obtain ⟨x547, c548, rx547, tx547⟩ := hT.rda (lo := 0) (hi := 400) (i := (f0_.toInt).toNat) kM_at3 rfl rfl (by omega)
        obtain ⟨x549, c550, rx549, tx549⟩ := hT.rdi (lo := 0) (hi := 60) (k := 18) kM_at0 (by decide) rfl
        obtain ⟨x551, c552, rx551, tx551⟩ := hT.rdi (lo := (-100)) (hi := 10) (k := 19) kM_at0 (by decide) rfl
        have hR := hq522
        refine lv_if_ne (tgt := 76) hx hb dX12_isDoingHere_71 (by decide) (fun c => absurd (by decide) c) (fun _ => ?_)
        replace hM := hM.neg (by decide)
        refine lv_iconst (v := 0) hx hb dX12_isDoingHere_74 (by decide) ?_
        exact tk_zret hC hr rfl hlocks hK ⟨hT, hF, hM.ret (by decide), (Or.inl ⟨rfl, ⟨x9, c544, (show 1 ≤ x9.toInt by first | with_reducible assumption | omega), (show x9.toInt ≤ 400 by first | with_reducible assumption | omega)⟩, ⟨x516, c517, (show 1 ≤ x516.toInt by first | with_reducible assumption | omega), (show x516.toInt ≤ 3205 by first | with_reducible assumption | omega)⟩, ⟨f0_, c542, (show 0 ≤ f0_.toInt from rf0_), (show f0_.toInt ≤ 5 from tf0_)⟩, ⟨x520, c521, (show 0 ≤ x520.toInt by first | with_reducible assumption | omega), (show x520.toInt ≤ 399 by first | with_reducible assumption | omega)⟩, hR⟩)⟩ hw dX12_isDoingHere_75
      · replace hM := hM.call (r' := 0) hv541 (by decide)
        have ex523 : x523.toInt = x9.toInt := by rw [← c544.symm.trans c524]
        have ex527 : x527.toInt = f0_.toInt := by rw [← c542.symm.trans c528]
        obtain ⟨x553, c554, rx553, tx553⟩ := hT.rda (lo := 0) (hi := 400) (i := (f0_.toInt).toNat) kM_at3 rfl rfl (by omega)
        obtain ⟨x555, c556, rx555, tx555⟩ := hT.rdi (lo := 0) (hi := 60) (k := 18) kM_at0 (by decide) rfl
        obtain ⟨x557, c558, rx557, tx557⟩ := hT.rdi (lo := (-100)) (hi := 10) (k := 19) kM_at0 (by decide) rfl
        have hR := hq531
        refine lv_if_ne (tgt := 76) hx hb dX12_isDoingHere_71 (by decide) (fun c => absurd (by decide) c) (fun _ => ?_)
        replace hM := hM.neg (by decide)
        refine lv_iconst (v := 0) hx hb dX12_isDoingHere_74 (by decide) ?_
        exact tk_zret hC hr rfl hlocks hK ⟨hT, hF, hM.ret (by decide), (Or.inr (Or.inl ⟨rfl, ⟨x9, c544, (show 0 ≤ x9.toInt by first | with_reducible assumption | omega), (show x9.toInt ≤ 400 by first | with_reducible assumption | omega)⟩, ⟨x525, c526, (show 1 ≤ x525.toInt by first | with_reducible assumption | omega), (show x525.toInt ≤ 3205 by first | with_reducible assumption | omega)⟩, ⟨f0_, c542, (show 0 ≤ f0_.toInt from rf0_), (show f0_.toInt ≤ 5 from tf0_)⟩, ⟨x529, c530, (show 0 ≤ x529.toInt by first | with_reducible assumption | omega), (show x529.toInt ≤ 399 by first | with_reducible assumption | omega)⟩, hR⟩))⟩ hw dX12_isDoingHere_75
      · replace hM := hM.call (r' := 1) hv541 (by decide)
        have ex532 : x532.toInt = f0_.toInt := by rw [← c542.symm.trans c533]
        obtain ⟨x559, c560, rx559, tx559⟩ := hT.rda (lo := 0) (hi := 400) (i := (f0_.toInt).toNat) kM_at3 rfl rfl (by omega)
        obtain ⟨x561, c562, rx561, tx561⟩ := hT.rdi (lo := 0) (hi := 60) (k := 18) kM_at0 (by decide) rfl
        have g539 : 3 * x559.toInt ≤ 14 * x561.toInt := by have q := g539; simp only [c500, c542, c560, c562] at q; first | with_reducible exact q | omega
        have hO : OKW w512 f0_.toInt f2_.toInt (1) := by have q := hq538; exact OKW_cast q (by omega)
        refine lv_if_ne (tgt := 76) hx hb dX12_isDoingHere_71 (by decide) (fun _ => ?_) (fun c => absurd c (by decide))
        replace hM := hM.pos (by decide)
        refine lv_aload_n hx hb dX12_isDoingHere_76 rfl (lv_at hl 1 rfl) ?_
        refine tk_getA hC hK hw hT hinX12 kM_at0 (by decide) rfl 5 (by decide) (List.mem_cons_of_mem _ uw_6_17) rfl rfl dX12_isDoingHere_77 ?_
        refine lv_iload_n hx hb dX12_isDoingHere_80 rfl (lv_at hl 0 rfl) ?_
        refine lv_iconst (v := 2) hx hb dX12_isDoingHere_81 (by decide) ?_
        refine lv_iadd hx hb dX12_isDoingHere_82 ?_
        refine lv_topi (fun x563 ex563 => ?_)
        have ezx563 := ex563
        have ex563 : x563.toInt = x316.toInt + (2 : Int) := by rw [ex563]; exact wk_add (show (-2147483648) ≤ x316.toInt + (2 : Int) by omega) (show x316.toInt + (2 : Int) ≤ 2147483647 by omega)
        replace hM := hM.lt ex563.symm
        refine lv_aload_n hx hb dX12_isDoingHere_83 rfl (lv_at hl 1 rfl) ?_
        refine tk_getA hC hK hw hT hinX12 kM_at0 (by decide) rfl 4 (by decide) (List.mem_cons_of_mem _ uw_6_16) rfl rfl dX12_isDoingHere_84 ?_
        refine lv_aload_n hx hb dX12_isDoingHere_87 rfl (lv_at hl 1 rfl) ?_
        refine tk_geti hC hK hw hT hinX12 kM_at0 (by decide) rfl 17 (by decide) (List.mem_cons_of_mem _ uw_19_7) rfl rfl dX12_isDoingHere_88 (fun x564 c565 rx564 tx564 => ?_)
        refine wk_top f0_ (c565.symm.trans c542) ?_
        replace hM := hM.rd (sI_at c542)
        refine tk_iald hC hK hw hT kM_at3 rfl rfl (show 0 ≤ f0_.toInt from rf0_) (show f0_.toInt < 7 from Int.lt_of_le_of_lt tf0_ (by decide)) dX12_isDoingHere_91 (fun x566 c567 rx566 tx566 => ?_)
        have hox566 := c567
        have c567 : gi w512 3 (f0_.toInt).toNat = x566 := (congrArg (gi w512 3) (congrArg Int.toNat (show f0_.toInt = f0_.toInt from rfl))).trans c567
        refine wk_top x559 (c567.symm.trans c560) ?_
        replace hM := hM.rd ((sI_at hox566).trans (congrArg Int32.toInt (c567.symm.trans c560)))
        refine tk_iast hC hK hw hT kM_at4 (by decide) rfl rfl (show 0 ≤ x563.toInt by first | with_reducible assumption | omega) (show x563.toInt < 216 by first | with_reducible assumption | omega) (wk_i32 x559).1 (wk_i32 x559).2 dX12_isDoingHere_92 (fun H locs w568 hw hT k570 c569 => ?_)
        replace hM := hM.wr (sI_up k570 c569)
        have hO := OKW_clause hO k570 (show 36 * f0_.toInt + 3 * (gi w512 5 (f0_.toInt).toNat).toInt ≤ ((x563.toInt.toNat : Nat) : Int) by rw [c543]; omega) (show ((x563.toInt.toNat : Nat) : Int) < 36 * f0_.toInt + 36 by omega) (fun r hr => by obtain ⟨x, e, t⟩ := hT.rda (lo := 0) (hi := 12) (i := r) kM_at5 rfl rfl hr; rw [e]; exact t)
        have hF := hF.put kM_at4 (inE_of (a := 0) (b := 216) (by decide) (show 0 ≤ x563.toInt.toNat by omega) (show x563.toInt.toNat ≤ 216 by omega)) k570
        have c571 := k570.gi (Or.inl (tk_ne kM_at0 kM_at4 (by decide))) c542
        have c572 := k570.gi (Or.inl (tk_ne kM_at5 kM_at4 (by decide))) c543
        have c573 := k570.gi (Or.inl (tk_ne kM_at0 kM_at4 (by decide))) c544
        have c574 := k570.gi (Or.inr (show (36 * f0_.toInt + 3 * f3_.toInt + 0).toNat ≠ x563.toInt.toNat by omega)) c545
        have c575 := k570.gi (Or.inr (show (36 * f0_.toInt + 3 * f3_.toInt + 1).toNat ≠ x563.toInt.toNat by omega)) c546
        have c576 := k570.gi (Or.inl (tk_ne kM_at0 kM_at4 (by decide))) c535
        have c577 := k570.gi (Or.inl (tk_ne kM_at0 kM_at4 (by decide))) c537
        have c578 := k570.gi (Or.inl (tk_ne kM_at3 kM_at4 (by decide))) c560
        have c579 := k570.gi (Or.inl (tk_ne kM_at0 kM_at4 (by decide))) c562
        have c569 : gi w568 4 (36 * f0_.toInt + 3 * f3_.toInt + 2).toNat = x559 := (congrArg (gi w568 4) (congrArg Int.toNat (show 36 * f0_.toInt + 3 * f3_.toInt + 2 = x563.toInt by first | exact Int.le_antisymm (by omega) (by omega) | omega))).trans c569
        refine lv_aload_n hx hb dX12_isDoingHere_93 rfl (lv_at hl 1 rfl) ?_
        refine tk_getA hC hK hw hT hinX12 kM_at0 (by decide) rfl 6 (by decide) (List.mem_cons_of_mem _ uw_6_18) rfl rfl dX12_isDoingHere_94 ?_
        refine lv_aload_n hx hb dX12_isDoingHere_97 rfl (lv_at hl 1 rfl) ?_
        refine tk_geti hC hK hw hT hinX12 kM_at0 (by decide) rfl 17 (by decide) (List.mem_cons_of_mem _ uw_19_7) rfl rfl dX12_isDoingHere_98 (fun x580 c581 rx580 tx580 => ?_)
        refine wk_top f0_ (c581.symm.trans c571) ?_
        replace hM := hM.rd (sI_at c571)
        refine lv_dup2_11 hx hb dX12_isDoingHere_101 rfl rfl ?_
        refine tk_iald hC hK hw hT kM_at5 rfl rfl (show 0 ≤ f0_.toInt from rf0_) (show f0_.toInt < 6 from Int.lt_of_le_of_lt tf0_ (by decide)) dX12_isDoingHere_102 (fun x582 c583 rx582 tx582 => ?_)
        have hox582 := c583
        have c583 : gi w568 5 (f0_.toInt).toNat = x582 := (congrArg (gi w568 5) (congrArg Int.toNat (show f0_.toInt = f0_.toInt from rfl))).trans c583
        refine wk_top f3_ (c583.symm.trans c572) ?_
        replace hM := hM.rd ((sI_at hox582).trans (congrArg Int32.toInt (c583.symm.trans c572)))
        refine lv_iconst (v := 1) hx hb dX12_isDoingHere_103 (by decide) ?_
        refine lv_iadd hx hb dX12_isDoingHere_104 ?_
        refine lv_topi (fun x584 ex584 => ?_)
        have ezx584 := ex584
        have ex584 : x584.toInt = f3_.toInt + (1 : Int) := by rw [ex584]; exact wk_add (show (-2147483648) ≤ f3_.toInt + (1 : Int) by omega) (show f3_.toInt + (1 : Int) ≤ 2147483647 by omega)
        replace hM := hM.lt ex584.symm
        refine tk_iast hC hK hw hT kM_at5 (by decide) rfl rfl (show 0 ≤ f0_.toInt from rf0_) (show f0_.toInt < 6 from Int.lt_of_le_of_lt tf0_ (by decide)) (show 0 ≤ x584.toInt by first | with_reducible assumption | omega) (show x584.toInt ≤ 12 by first | with_reducible assumption | omega) dX12_isDoingHere_105 (fun H locs w585 hw hT k587 c586 => ?_)
        replace hM := hM.wr (sI_up k587 c586)
        have hR := RL_add (t := f0_.toInt) (K := f3_) (b := f2_) hO.1 k587 c572 (by rw [show gi w585 5 (f0_.toInt).toNat = x584 from c586]; omega) (by omega) c575 (c569.trans c578.symm) (by rw [c578]; omega) (Or.inr (OKW_cast hO (by omega)))
        have hF := hF.put kM_at5 (inE_of (a := 0) (b := 6) (by decide) (show 0 ≤ f0_.toInt.toNat by omega) (show f0_.toInt.toNat ≤ 6 by omega)) k587
        have c588 := k587.gi (Or.inl (tk_ne kM_at0 kM_at5 (by decide))) c571
        have c589 := k587.gi (Or.inl (tk_ne kM_at0 kM_at5 (by decide))) c573
        have c590 := k587.gi (Or.inl (tk_ne kM_at4 kM_at5 (by decide))) c574
        have c591 := k587.gi (Or.inl (tk_ne kM_at4 kM_at5 (by decide))) c575
        have c592 := k587.gi (Or.inl (tk_ne kM_at0 kM_at5 (by decide))) c576
        have c593 := k587.gi (Or.inl (tk_ne kM_at0 kM_at5 (by decide))) c577
        have c594 := k587.gi (Or.inl (tk_ne kM_at3 kM_at5 (by decide))) c578
        have c595 := k587.gi (Or.inl (tk_ne kM_at0 kM_at5 (by decide))) c579
        have c596 := k587.gi (Or.inl (tk_ne kM_at4 kM_at5 (by decide))) c569
        have c586 : gi w585 5 (f0_.toInt).toNat = x584 := (congrArg (gi w585 5) (congrArg Int.toNat (show f0_.toInt = f0_.toInt from rfl))).trans c586
        refine lv_iconst (v := 1) hx hb dX12_isDoingHere_106 (by decide) ?_
        exact tk_zret hC hr rfl hlocks hK ⟨hT, hF, hM.ret (by decide), (Or.inr (Or.inr (Or.inr ⟨rfl, ⟨x9, c589, (show 0 ≤ x9.toInt by first | with_reducible assumption | omega), (show x9.toInt ≤ 400 by first | with_reducible assumption | omega)⟩, ⟨f0_, c588, (show 0 ≤ f0_.toInt from rf0_), (show f0_.toInt ≤ 5 from tf0_)⟩, hR, (by simp only [c588, cf0_, c594, c595]; omega), (by simp only [c588, cf0_, cf3_, c586]; omega)⟩)))⟩ hw dX12_isDoingHere_107
abbrev Pz_X12_clauseHere_2 (ad : Nat → Nat) (cy : Nat → ClassId) (B : Int) (qr : Nat) (s1 : Int)  (gT : Int) (w0 : va_W) : Int32 → va_W → Prop := fun r u => TW ksM ad cy B qr 12 u ∧ FE ksM [(12, 14, 14), (12, 15, 15), (12, 16, 16), (12, 18, 18), (12, 19, 19), (12, 20, 20), (12, 22, 22), (61, 0, 2400), (62, 0, 7), (63, 0, 216), (64, 0, 6), (68, 0, 400)] w0 u ∧ Ev (fun n => m_X12_clauseHere n 0 (sI w0)) (r.toInt, sI u) ∧ ((r = 0 ∧ (∃ y : Int32, gi u 0 1 = y ∧ 1 ≤ y.toInt ∧ y.toInt ≤ 400) ∧ (∃ y : Int32, gi u 0 15 = y ∧ 1 ≤ y.toInt ∧ y.toInt ≤ 3205) ∧ (∃ y : Int32, gi u 0 17 = y ∧ 0 ≤ y.toInt ∧ y.toInt ≤ 5) ∧ (∃ y : Int32, gi u 0 20 = y ∧ 0 ≤ y.toInt ∧ y.toInt ≤ 12) ∧ RLc u gT ∧ ((gi w0 0 20).toInt ≤ (gi u 0 20).toInt) ∧ ((gi u 0 20).toInt ≤ 12)) ∨ (r = 0 ∧ (∃ y : Int32, gi u 0 1 = y ∧ 0 ≤ y.toInt ∧ y.toInt ≤ 400) ∧ (∃ y : Int32, gi u 0 15 = y ∧ 1 ≤ y.toInt ∧ y.toInt ≤ 3205) ∧ (∃ y : Int32, gi u 0 17 = y ∧ 0 ≤ y.toInt ∧ y.toInt ≤ 5) ∧ (∃ y : Int32, gi u 0 20 = y ∧ 0 ≤ y.toInt ∧ y.toInt ≤ 12) ∧ RLc u gT ∧ ((gi w0 0 20).toInt ≤ (gi u 0 20).toInt) ∧ ((gi u 0 20).toInt ≤ 12)) ∨ (r = 1 ∧ (∃ y : Int32, gi u 0 1 = y ∧ 1 ≤ y.toInt ∧ y.toInt ≤ 400) ∧ (∃ y : Int32, gi u 0 17 = y ∧ 0 ≤ y.toInt ∧ y.toInt ≤ 5) ∧ (∃ y : Int32, gi u 0 20 = y ∧ 1 ≤ y.toInt ∧ y.toInt ≤ 12) ∧ RLc u gT ∧ (3 * (gi u 3 ((gi u 0 17).toInt).toNat).toInt ≤ 14 * (gi u 0 18).toInt) ∧ ((gi u 5 ((gi u 0 17).toInt).toNat).toInt ≤ (gi u 0 20).toInt) ∧ ((gi u 0 20).toInt = (gi w0 0 20).toInt + 1) ∧ ((gi u 0 20).toInt ≤ 12)) ∨ (r = 1 ∧ (∃ y : Int32, gi u 0 1 = y ∧ 0 ≤ y.toInt ∧ y.toInt ≤ 400) ∧ (∃ y : Int32, gi u 0 17 = y ∧ 0 ≤ y.toInt ∧ y.toInt ≤ 5) ∧ (∃ y : Int32, gi u 0 20 = y ∧ 1 ≤ y.toInt ∧ y.toInt ≤ 12) ∧ RLc u gT ∧ (3 * (gi u 3 ((gi u 0 17).toInt).toNat).toInt ≤ 14 * (gi u 0 18).toInt) ∧ ((gi u 5 ((gi u 0 17).toInt).toNat).toInt ≤ (gi u 0 20).toInt) ∧ ((gi u 0 20).toInt = (gi w0 0 20).toInt + 1) ∧ ((gi u 0 20).toInt ≤ 12)))
set_option maxHeartbeats 4000000 in
set_option maxRecDepth 100000 in
theorem kz_X12_clauseHere_2 (l : Launch) (adK adV : Nat → Nat) (dC : Nat → ClassId) (dI : Nat → Nat → Nat) (cy : Nat → ClassId) (ad : Nat → Nat) (B : Int) (hB0 : 100000 ≤ B) (hB1 : B ≤ 1073741824) (qr : Nat) (s1 : Int)   (w0 : va_W) (sz : Nat) (hT : TW ksM ad cy B qr 12 w0) (f0_ : Int32) (cf0_ : gi w0 0 17 = f0_) (rf0_ : 0 ≤ f0_.toInt) (tf0_ : f0_.toInt ≤ 5) (f1_ : Int32) (cf1_ : gi w0 0 18 = f1_) (rf1_ : 0 ≤ f1_.toInt) (tf1_ : f1_.toInt ≤ 60) (f2_ : Int32) (cf2_ : gi w0 0 20 = f2_) (rf2_ : 0 ≤ f2_.toInt) (tf2_ : f2_.toInt ≤ 32) (f3_ : Int32) (cf3_ : gi w0 3 (f0_.toInt).toNat = f3_) (rf3_ : 0 ≤ f3_.toInt) (tf3_ : f3_.toInt ≤ 400) (f4_ : Int32) (cf4_ : gi w0 5 (f0_.toInt).toNat = f4_) (rf4_ : 0 ≤ f4_.toInt) (tf4_ : f4_.toInt ≤ 12) (pr0_ : 3 * f3_.toInt ≤ 14 * f1_.toInt) (pr1_ : f4_.toInt ≤ f2_.toInt) (pr2_ : f2_.toInt ≤ 12) (pr3_ : f3_.toInt ≤ 280) (hR : RLc w0 f0_.toInt) : Met l yX12_clauseHere (wu yX12_clauseHere cX12_clauseHere 4 (some .boolean)) ({ frames := 11, cells := 0, slots := 0, locals := 232 }) (va_Pc [.ref (ad 0)] (wpreS adK adV dC dI cy sz w0)) (va_Qi (Pz_X12_clauseHere_2 ad cy B qr s1  f0_.toInt w0) (fun u : va_W => wpost dC dI cy (va_A w0 sz) u) (va_A w0 sz)) 0 0 (va_A w0 sz) := by
  refine Met.ofW (cc := cX12_clauseHere) (maxL := 4) (ret := (some .boolean)) (by decide) rfl ?_
  intro p e s m args below meth c s₁ Bk hml hv
  obtain ⟨rfl, ⟨hsz, hP, hK, hD0⟩, hE, hSR⟩ := hv
  have hx := Bk.exec
  have hb := Bk.bytes
  have hr := Bk.returns
  have hlocks := Bk.notSynchronized
  have hC : CallFix p m c cX12_clauseHere 4 s _ (wu yX12_clauseHere cX12_clauseHere 4 (some .boolean)) RX12 := ⟨hx, hb, hml, findClass_of_methodNamed Bk.named, atoms_spec (ws := (wu yX12_clauseHere cX12_clauseHere 4 (some .boolean))) Bk.pre⟩
  subst hsz
  have hD := hD0.self (sz := s.heap.size)
  generalize hAe : va_A w0 s.heap.size = A at hD hE ⊢
  have hA : ∀ q : Nat, s.heap.size ≤ q → A q := fun q h => by rw [← hAe]; exact Or.inr h
  have hw : Wd dC dI A s.heap s.heap [] w0 := ⟨hP, hD, va_S.rf⟩
  have hF : FE ksM [(12, 14, 14), (12, 15, 15), (12, 16, 16), (12, 18, 18), (12, 19, 19), (12, 20, 20), (12, 22, 22), (61, 0, 2400), (62, 0, 7), (63, 0, 216), (64, 0, 6), (68, 0, 400)] w0 w0 := FE.rf
  have hl := lv_entry ([.ref (ad 0)]) (n := 4) (Nat.le_of_ble_eq_true rfl)
  rw [lg_entry_eq]
  generalize (lg_sl ([.ref (ad 0)]) ++ List.replicate (4 - (lg_sl ([.ref (ad 0)])).length) Slot.unset).toArray = ls at hl ⊢
  have hl : lv_has ls 4 [(0, .ref (ad 0))] := hl
  generalize hloc : ([] : List Loc) = locs at hw ⊢
  have hinX12 : ∀ w ∈ u_ws RX12 TX12 42, w ∈ (wu yX12_clauseHere cX12_clauseHere 4 (some .boolean)) := fun _ h => List.mem_cons_of_mem _ (up_71 h)
  have hM : TT (fun n => m_X12_clauseHere n 0 (sI w0)) (fun n => m_X12_clauseHere n 0 (sI w0)) := TT.rf
  refine lv_aload_n hx hb dX12_clauseHere_0 rfl (lv_at hl 0 rfl) ?_
  obtain ⟨x1, c2, rx1, tx1⟩ := hT.rdi (lo := 0) (hi := 400) (k := 14) kM_at0 (by decide) rfl
  refine tk_Vi hC hK hw hT hA hE hSR kM_at0 (by decide) rfl (kz_X12_see_1 l adK adV dC dI cy ad B hB0 (Int.le_trans hB1 (by decide)) qr s1    w0 s.heap.size hT x1 c2 (show 0 ≤ x1.toInt by first | with_reducible assumption | omega) (show x1.toInt ≤ 400 by first | with_reducible assumption | omega)) (cwV 0 hC.2.2.2.2 uV_RX12_97 rfl rfl rfl (by decide +kernel) ⟨Nat.le_of_ble_eq_true rfl, Nat.le_of_ble_eq_true rfl⟩) rfl hl.1 rfl (Nat.le_of_ble_eq_true rfl) dX12_clauseHere_1 (fun r3 w5 H locs hp4 hw => ?_)
  obtain ⟨hT, k6, hv24, hg23⟩ := hp4
  have hR := RL_FE k6 (fun _ => rfl) (fun _ => rfl) (fun _ => rfl) (fun _ => rfl) hR
  have hF := hF.tr k6 (by decide)
  have c25 := k6.gi kM_at0 (by decide) cf0_
  have c26 := k6.gi kM_at0 (by decide) cf1_
  have c27 := k6.gi kM_at0 (by decide) cf2_
  have c28 := k6.gi kM_at3 rfl cf3_
  have c29 := k6.gi kM_at5 rfl cf4_
  rcases hg23 with ⟨g7, g8, ⟨x9, c10, rx9, tx9⟩, ⟨x11, c12, rx11, tx11⟩, g13, g14⟩ | ⟨rfl, ⟨x15, c16, rx15, tx15⟩, ⟨x17, c18, rx17, tx17⟩, g19⟩ | ⟨rfl, ⟨x20, c21, rx20, tx20⟩, g22⟩
  · replace hM := hM.call hv24 rfl
    have g13 : (gi w5 1 (x11.toInt).toNat).toInt ≠ 32 := by have q := g13; simp only [cf0_, c25, c12] at q; first | with_reducible exact q | omega
    have g14 : (x11.toInt = x1.toInt ∨ (gi w0 1 (x1.toInt).toNat).toInt = 32) := by have q := g14; simp only [cf0_, c25, c2, c12] at q; first | with_reducible exact q | omega
    refine lv_pop hx hb dX12_clauseHere_4 rfl ?_
    refine lv_aload_n hx hb dX12_clauseHere_5 rfl (lv_at hl 0 rfl) ?_
    refine tk_geti hC hK hw hT hinX12 kM_at0 (by decide) rfl 14 (by decide) (List.mem_cons_of_mem _ uw_19_18) rfl rfl dX12_clauseHere_6 (fun x32 c33 rx32 tx32 => ?_)
    refine wk_top x11 (c33.symm.trans c12) ?_
    replace hM := hM.rd (sI_at c12)
    refine lv_istore_n (lv' := [(1, .int x11), (0, .ref (ad 0))]) hx hb dX12_clauseHere_9 rfl hl (by decide) rfl (fun ls hl => ?_)
    refine lv_aload_n hx hb dX12_clauseHere_10 rfl (lv_at hl 1 rfl) ?_
    refine tk_geti hC hK hw hT hinX12 kM_at0 (by decide) rfl 17 (by decide) (List.mem_cons_of_mem _ uw_19_7) rfl rfl dX12_clauseHere_11 (fun x34 c35 rx34 tx34 => ?_)
    refine wk_top f0_ (c35.symm.trans c25) ?_
    replace hM := hM.rd (sI_at c25)
    refine lv_bipush (v := 6) hx hb dX12_clauseHere_14 (by decide) ?_
    refine lv_icmp_ne (tgt := 23) hx hb dX12_clauseHere_16 (by decide) (fun _ => ?_) (fun c => absurd (show f0_.toInt = (6 : Int) from wk_eq.mp c) (by omega))
    replace hM := hM.pos (by omega)
    refine lv_iconst (v := 0) hx hb dX12_clauseHere_23 (by decide) ?_
    refine lv_istore_n (lv' := [(2, .int 0), (1, .int x11), (0, .ref (ad 0))]) hx hb dX12_clauseHere_24 rfl hl (by decide) rfl (fun ls hl => ?_)
    refine lv_iload_n hx hb dX12_clauseHere_25 rfl (lv_at hl 0 rfl) ?_
    refine lv_if_eq (tgt := 77) hx hb dX12_clauseHere_26 (by decide) (fun _ => ?_) (fun c => absurd (by decide) c)
    replace hM := hM.pos (by decide)
    refine lv_aload_n hx hb dX12_clauseHere_77 rfl (lv_at hl 2 rfl) ?_
    refine tk_Vi hC hK hw hT hA hE hSR kM_at0 (by decide) rfl (kz_X12_doingSort_1 l adK adV dC dI cy ad B hB0 (Int.le_trans hB1 (by decide)) qr s1    w5 H.size hT ) (cwV 0 hC.2.2.2.2 uV_RX12_264 rfl rfl rfl (by decide +kernel) ⟨Nat.le_of_ble_eq_true rfl, Nat.le_of_ble_eq_true rfl⟩) rfl hl.1 rfl (Nat.le_of_ble_eq_true rfl) dX12_clauseHere_78 (fun r36 w38 H locs hp37 hw => ?_)
    obtain ⟨hT, k39, hv47, hg46⟩ := hp37
    have hR := RL_FE k39 (fun _ => rfl) (fun _ => rfl) (fun _ => rfl) (fun _ => rfl) hR
    have hF := hF.tr k39 (by decide)
    have c48 := k39.gi kM_at0 (by decide) c25
    have c49 := k39.gi kM_at0 (by decide) c26
    have c50 := k39.gi kM_at0 (by decide) c27
    have c51 := k39.gi kM_at3 rfl c28
    have c52 := k39.gi kM_at5 rfl c29
    have c53 := k39.gi kM_at0 (by decide) c10
    rcases hg46 with ⟨g40, g41, ⟨x42, c43, rx42, tx42⟩⟩ | ⟨rfl, ⟨x44, c45, rx44, tx44⟩⟩
    · replace hM := hM.call hv47 rfl
      have ex42 : x42.toInt = x9.toInt := by rw [← c53.symm.trans c43]
      refine lv_if_lt (tgt := 88) hx hb dX12_clauseHere_81 (by decide) (fun c => absurd c (fun h => absurd (show r36.toInt < (0 : Int) from wk_lt.mp h) (by omega))) (fun _ => ?_)
      replace hM := hM.neg (by omega)
      refine lv_iconst (v := 1) hx hb dX12_clauseHere_84 (by decide) ?_
      refine lv_goto (tgt := 89) hx hb dX12_clauseHere_85 (by decide) ?_
      refine lv_istore_n (lv' := [(3, .int 1), (2, .int 0), (1, .int x11), (0, .ref (ad 0))]) hx hb dX12_clauseHere_89 rfl hl (by decide) rfl (fun ls hl => ?_)
      refine lv_iload_n hx hb dX12_clauseHere_90 rfl (lv_at hl 0 rfl) ?_
      refine lv_if_ne (tgt := 101) hx hb dX12_clauseHere_91 (by decide) (fun _ => ?_) (fun c => absurd c (by decide))
      replace hM := hM.pos (by decide)
      refine lv_aload_n hx hb dX12_clauseHere_101 rfl (lv_at hl 3 rfl) ?_
      refine tk_geti hC hK hw hT hinX12 kM_at0 (by decide) rfl 20 (by decide) (List.mem_cons_of_mem _ uw_19_17) rfl rfl dX12_clauseHere_102 (fun x54 c55 rx54 tx54 => ?_)
      refine wk_top f2_ (c55.symm.trans c50) ?_
      replace hM := hM.rd (sI_at c50)
      refine lv_iload_n hx hb dX12_clauseHere_105 rfl (lv_at hl 1 rfl) ?_
      refine lv_if_eq (tgt := 114) hx hb dX12_clauseHere_106 (by decide) (fun _ => ?_) (fun c => absurd (by decide) c)
      replace hM := hM.pos (by decide)
      refine lv_bipush (v := 12) hx hb dX12_clauseHere_114 (by decide) ?_
      refine lv_icmp_ne (tgt := 126) hx hb dX12_clauseHere_116 (by decide) (fun c56 => ?_) (fun c56 => ?_)
      · have c56 : ¬ f2_.toInt = (12 : Int) := wk_eqF c56
        replace hM := hM.pos c56
        refine lv_aload_n hx hb dX12_clauseHere_126 rfl (lv_at hl 3 rfl) ?_
        refine lv_dup hx hb dX12_clauseHere_127 rfl ?_
        refine tk_geti hC hK hw hT hinX12 kM_at0 (by decide) rfl 20 (by decide) (List.mem_cons_of_mem _ uw_19_17) rfl rfl dX12_clauseHere_128 (fun x57 c58 rx57 tx57 => ?_)
        refine wk_top f2_ (c58.symm.trans c50) ?_
        replace hM := hM.rd (sI_at c50)
        refine lv_iconst (v := 1) hx hb dX12_clauseHere_131 (by decide) ?_
        refine lv_iadd hx hb dX12_clauseHere_132 ?_
        refine lv_topi (fun x59 ex59 => ?_)
        have ezx59 := ex59
        have ex59 : x59.toInt = f2_.toInt + (1 : Int) := by rw [ex59]; exact wk_add (show (-2147483648) ≤ f2_.toInt + (1 : Int) by omega) (show f2_.toInt + (1 : Int) ≤ 2147483647 by omega)
        replace hM := hM.lt ex59.symm
        refine tk_puti hC hK hw hT hinX12 tyX12_ok nmX12 kM_at0 (by decide) rfl rfl 20 (by decide) (List.mem_cons_of_mem _ uw_19_17) rfl rfl rfl rfl (show 0 ≤ x59.toInt by first | with_reducible assumption | omega) (show x59.toInt ≤ 32 by first | with_reducible assumption | omega) dX12_clauseHere_133 (fun H locs w60 hw hT k62 c61 => ?_)
        replace hM := hM.wr (sI_up k62 c61)
        have hR := RL_F1 k62 (by decide) (by decide) (by decide) (by decide) hR
        have hF := hF.put kM_at0 (k := 20) (by decide) k62
        have c63 := k62.gi (Or.inr (by decide)) c48
        have c64 := k62.gi (Or.inr (by decide)) c49
        have c65 := k62.gi (Or.inl (tk_ne kM_at3 kM_at0 (by decide))) c51
        have c66 := k62.gi (Or.inl (tk_ne kM_at5 kM_at0 (by decide))) c52
        have c67 := k62.gi (Or.inr (by decide)) c53
        refine lv_iload_n hx hb dX12_clauseHere_136 rfl (lv_at hl 1 rfl) ?_
        refine lv_if_eq (tgt := 148) hx hb dX12_clauseHere_137 (by decide) (fun _ => ?_) (fun c => absurd (by decide) c)
        replace hM := hM.pos (by decide)
        refine lv_aload_n hx hb dX12_clauseHere_148 rfl (lv_at hl 3 rfl) ?_
        refine lv_aload_n hx hb dX12_clauseHere_149 rfl (lv_at hl 3 rfl) ?_
        refine tk_Vi hC hK hw hT hA hE hSR kM_at0 (by decide) rfl (kz_X12_doingSort_1 l adK adV dC dI cy ad B hB0 (Int.le_trans hB1 (by decide)) qr s1    w60 H.size hT ) (cwV 0 hC.2.2.2.2 uV_RX12_264 rfl rfl rfl (by decide +kernel) ⟨Nat.le_of_ble_eq_true rfl, Nat.le_of_ble_eq_true rfl⟩) rfl hl.1 rfl (Nat.le_of_ble_eq_true rfl) dX12_clauseHere_150 (fun r68 w70 H locs hp69 hw => ?_)
        obtain ⟨hT, k71, hv79, hg78⟩ := hp69
        have hR := RL_FE k71 (fun _ => rfl) (fun _ => rfl) (fun _ => rfl) (fun _ => rfl) hR
        have hF := hF.tr k71 (by decide)
        have c80 := k71.gi kM_at0 (by decide) c63
        have c81 := k71.gi kM_at0 (by decide) c64
        have c82 := k71.gi kM_at3 rfl c65
        have c83 := k71.gi kM_at5 rfl c66
        have c84 := k71.gi kM_at0 (by decide) c67
        have c85 := k71.gi kM_at0 (by decide) c61
        rcases hg78 with ⟨g72, g73, ⟨x74, c75, rx74, tx74⟩⟩ | ⟨rfl, ⟨x76, c77, rx76, tx76⟩⟩
        · replace hM := hM.call hv79 rfl
          have ex74 : x74.toInt = x9.toInt := by rw [← c84.symm.trans c75]
          refine tk_Vi hC hK hw hT hA hE hSR kM_at0 (by decide) rfl (kz_X12_isDoingHere_1 l adK adV dC dI cy ad B hB0 (Int.le_trans hB1 (by decide)) qr s1   r68 (show 0 ≤ r68.toInt by first | with_reducible assumption | omega) (show r68.toInt ≤ 3 by first | with_reducible assumption | omega) w70 H.size hT f0_ c80 (show 0 ≤ f0_.toInt from rf0_) (show f0_.toInt ≤ 5 from tf0_) f1_ c81 (show 0 ≤ f1_.toInt from rf1_) (show f1_.toInt ≤ 60 from tf1_) f3_ c82 (show 0 ≤ f3_.toInt from rf3_) (show f3_.toInt ≤ 400 from tf3_) f4_ c83 (show 0 ≤ f4_.toInt from rf4_) (show f4_.toInt ≤ 12 from tf4_) (show 3 * f3_.toInt ≤ 14 * f1_.toInt from pr0_) (show f3_.toInt ≤ 280 from pr3_) (show f4_.toInt ≤ 11 by first | with_reducible assumption | omega) hR) (cwV 1 hC.2.2.2.2 uV_RX12_273 rfl rfl rfl (by decide +kernel) ⟨Nat.le_of_ble_eq_true rfl, Nat.le_of_ble_eq_true rfl⟩) rfl hl.1 rfl (Nat.le_of_ble_eq_true rfl) dX12_clauseHere_153 (fun r86 w88 H locs hp87 hw => ?_)
          obtain ⟨hT, k89, hv123, hg122⟩ := hp87
          have hF := hF.tr k89 (by decide)
          have c124 := k89.gi kM_at0 (by decide) c80
          have c125 := k89.gi kM_at0 (by decide) c84
          have c126 := k89.gi kM_at0 (by decide) c85
          rcases hg122 with ⟨rfl, ⟨x90, c91, rx90, tx90⟩, ⟨x92, c93, rx92, tx92⟩, ⟨x94, c95, rx94, tx94⟩, ⟨x96, c97, rx96, tx96⟩, hq98⟩ | ⟨rfl, ⟨x99, c100, rx99, tx99⟩, ⟨x101, c102, rx101, tx101⟩, ⟨x103, c104, rx103, tx103⟩, ⟨x105, c106, rx105, tx105⟩, hq107⟩ | ⟨rfl, ⟨x108, c109, rx108, tx108⟩, ⟨x110, c111, rx110, tx110⟩, hq112, g113, g114⟩ | ⟨rfl, ⟨x115, c116, rx115, tx115⟩, ⟨x117, c118, rx117, tx117⟩, hq119, g120, g121⟩
          · replace hM := hM.call (r' := 0) hv123 (by decide)
            have ex90 : x90.toInt = x9.toInt := by rw [← c125.symm.trans c91]
            have ex94 : x94.toInt = f0_.toInt := by rw [← c124.symm.trans c95]
            obtain ⟨x127, c128, rx127, tx127⟩ := hT.rda (lo := 0) (hi := 400) (i := (f0_.toInt).toNat) kM_at3 rfl rfl (by omega)
            obtain ⟨x129, c130, rx129, tx129⟩ := hT.rdi (lo := 0) (hi := 60) (k := 18) kM_at0 (by decide) rfl
            obtain ⟨x131, c132, rx131, tx131⟩ := hT.rda (lo := 0) (hi := 12) (i := (f0_.toInt).toNat) kM_at5 rfl rfl (by omega)
            have hR := hq98
            exact tk_zret hC hr rfl hlocks hK ⟨hT, hF, hM.ret (by decide), (Or.inl ⟨rfl, ⟨x9, c125, (show 1 ≤ x9.toInt by first | with_reducible assumption | omega), (show x9.toInt ≤ 400 by first | with_reducible assumption | omega)⟩, ⟨x92, c93, (show 1 ≤ x92.toInt by first | with_reducible assumption | omega), (show x92.toInt ≤ 3205 by first | with_reducible assumption | omega)⟩, ⟨f0_, c124, (show 0 ≤ f0_.toInt from rf0_), (show f0_.toInt ≤ 5 from tf0_)⟩, ⟨x59, c126, (show 0 ≤ x59.toInt by first | with_reducible assumption | omega), (show x59.toInt ≤ 12 by first | with_reducible assumption | omega)⟩, hR, (by simp only [c124, cf0_, cf2_, c126]; omega), (by simp only [c124, cf0_, c126]; omega)⟩)⟩ hw dX12_clauseHere_156
          · replace hM := hM.call (r' := 0) hv123 (by decide)
            have ex99 : x99.toInt = x9.toInt := by rw [← c125.symm.trans c100]
            have ex103 : x103.toInt = f0_.toInt := by rw [← c124.symm.trans c104]
            obtain ⟨x133, c134, rx133, tx133⟩ := hT.rda (lo := 0) (hi := 400) (i := (f0_.toInt).toNat) kM_at3 rfl rfl (by omega)
            obtain ⟨x135, c136, rx135, tx135⟩ := hT.rdi (lo := 0) (hi := 60) (k := 18) kM_at0 (by decide) rfl
            obtain ⟨x137, c138, rx137, tx137⟩ := hT.rda (lo := 0) (hi := 12) (i := (f0_.toInt).toNat) kM_at5 rfl rfl (by omega)
            have hR := hq107
            exact tk_zret hC hr rfl hlocks hK ⟨hT, hF, hM.ret (by decide), (Or.inl ⟨rfl, ⟨x9, c125, (show 1 ≤ x9.toInt by first | with_reducible assumption | omega), (show x9.toInt ≤ 400 by first | with_reducible assumption | omega)⟩, ⟨x101, c102, (show 1 ≤ x101.toInt by first | with_reducible assumption | omega), (show x101.toInt ≤ 3205 by first | with_reducible assumption | omega)⟩, ⟨f0_, c124, (show 0 ≤ f0_.toInt from rf0_), (show f0_.toInt ≤ 5 from tf0_)⟩, ⟨x59, c126, (show 0 ≤ x59.toInt by first | with_reducible assumption | omega), (show x59.toInt ≤ 12 by first | with_reducible assumption | omega)⟩, hR, (by simp only [c124, cf0_, cf2_, c126]; omega), (by simp only [c124, cf0_, c126]; omega)⟩)⟩ hw dX12_clauseHere_156
          · replace hM := hM.call (r' := 1) hv123 (by decide)
            have ex108 : x108.toInt = x9.toInt := by rw [← c125.symm.trans c109]
            have ex110 : x110.toInt = f0_.toInt := by rw [← c124.symm.trans c111]
            obtain ⟨x139, c140, rx139, tx139⟩ := hT.rda (lo := 0) (hi := 400) (i := (f0_.toInt).toNat) kM_at3 rfl rfl (by omega)
            obtain ⟨x141, c142, rx141, tx141⟩ := hT.rdi (lo := 0) (hi := 60) (k := 18) kM_at0 (by decide) rfl
            obtain ⟨x143, c144, rx143, tx143⟩ := hT.rda (lo := 0) (hi := 12) (i := (f0_.toInt).toNat) kM_at5 rfl rfl (by omega)
            have g113 : 3 * x139.toInt ≤ 14 * x141.toInt := by have q := g113; simp only [c80, c124, c140, c142] at q; first | with_reducible exact q | omega
            have g114 : x143.toInt = f4_.toInt + 1 := by have q := g114; simp only [c80, c124, c83, c144] at q; first | with_reducible exact q | omega
            have hR := hq112
            exact tk_zret hC hr rfl hlocks hK ⟨hT, hF, hM.ret (by decide), (Or.inr (Or.inr (Or.inl ⟨rfl, ⟨x9, c125, (show 1 ≤ x9.toInt by first | with_reducible assumption | omega), (show x9.toInt ≤ 400 by first | with_reducible assumption | omega)⟩, ⟨f0_, c124, (show 0 ≤ f0_.toInt from rf0_), (show f0_.toInt ≤ 5 from tf0_)⟩, ⟨x59, c126, (show 1 ≤ x59.toInt by first | with_reducible assumption | omega), (show x59.toInt ≤ 12 by first | with_reducible assumption | omega)⟩, hR, (by simp only [c124, cf0_, c140, c142]; omega), (by simp only [c124, cf0_, c144, c126]; omega), (by simp only [c124, cf0_, cf2_, c126]; omega), (by simp only [c124, cf0_, c126]; omega)⟩)))⟩ hw dX12_clauseHere_156
          · replace hM := hM.call (r' := 1) hv123 (by decide)
            have ex115 : x115.toInt = x9.toInt := by rw [← c125.symm.trans c116]
            have ex117 : x117.toInt = f0_.toInt := by rw [← c124.symm.trans c118]
            obtain ⟨x145, c146, rx145, tx145⟩ := hT.rda (lo := 0) (hi := 400) (i := (f0_.toInt).toNat) kM_at3 rfl rfl (by omega)
            obtain ⟨x147, c148, rx147, tx147⟩ := hT.rdi (lo := 0) (hi := 60) (k := 18) kM_at0 (by decide) rfl
            obtain ⟨x149, c150, rx149, tx149⟩ := hT.rda (lo := 0) (hi := 12) (i := (f0_.toInt).toNat) kM_at5 rfl rfl (by omega)
            have g120 : 3 * x145.toInt ≤ 14 * x147.toInt := by have q := g120; simp only [c80, c124, c146, c148] at q; first | with_reducible exact q | omega
            have g121 : x149.toInt = f4_.toInt + 1 := by have q := g121; simp only [c80, c124, c83, c150] at q; first | with_reducible exact q | omega
            have hR := hq119
            exact tk_zret hC hr rfl hlocks hK ⟨hT, hF, hM.ret (by decide), (Or.inr (Or.inr (Or.inl ⟨rfl, ⟨x9, c125, (show 1 ≤ x9.toInt by first | with_reducible assumption | omega), (show x9.toInt ≤ 400 by first | with_reducible assumption | omega)⟩, ⟨f0_, c124, (show 0 ≤ f0_.toInt from rf0_), (show f0_.toInt ≤ 5 from tf0_)⟩, ⟨x59, c126, (show 1 ≤ x59.toInt by first | with_reducible assumption | omega), (show x59.toInt ≤ 12 by first | with_reducible assumption | omega)⟩, hR, (by simp only [c124, cf0_, c146, c148]; omega), (by simp only [c124, cf0_, c150, c126]; omega), (by simp only [c124, cf0_, cf2_, c126]; omega), (by simp only [c124, cf0_, c126]; omega)⟩)))⟩ hw dX12_clauseHere_156
        · replace hM := hM.call (r' := (-1)) hv79 (by decide)
          have ex76 : x76.toInt = x9.toInt := by rw [← c84.symm.trans c77]
          refine tk_Vi hC hK hw hT hA hE hSR kM_at0 (by decide) rfl (kz_X12_isDoingHere_2 l adK adV dC dI cy ad B hB0 (Int.le_trans hB1 (by decide)) qr s1    w70 H.size hT f0_ c80 (show 0 ≤ f0_.toInt from rf0_) (show f0_.toInt ≤ 5 from tf0_) f1_ c81 (show 0 ≤ f1_.toInt from rf1_) (show f1_.toInt ≤ 60 from tf1_) f3_ c82 (show 0 ≤ f3_.toInt from rf3_) (show f3_.toInt ≤ 400 from tf3_) f4_ c83 (show 0 ≤ f4_.toInt from rf4_) (show f4_.toInt ≤ 12 from tf4_) (show 3 * f3_.toInt ≤ 14 * f1_.toInt from pr0_) (show f3_.toInt ≤ 280 from pr3_) (show f4_.toInt ≤ 11 by first | with_reducible assumption | omega) hR) (cwV 1 hC.2.2.2.2 uV_RX12_273 rfl rfl rfl (by decide +kernel) ⟨Nat.le_of_ble_eq_true rfl, Nat.le_of_ble_eq_true rfl⟩) rfl hl.1 rfl (Nat.le_of_ble_eq_true rfl) dX12_clauseHere_153 (fun r151 w153 H locs hp152 hw => ?_)
          obtain ⟨hT, k154, hv188, hg187⟩ := hp152
          have hF := hF.tr k154 (by decide)
          have c189 := k154.gi kM_at0 (by decide) c80
          have c190 := k154.gi kM_at0 (by decide) c84
          have c191 := k154.gi kM_at0 (by decide) c85
          rcases hg187 with ⟨rfl, ⟨x155, c156, rx155, tx155⟩, ⟨x157, c158, rx157, tx157⟩, ⟨x159, c160, rx159, tx159⟩, ⟨x161, c162, rx161, tx161⟩, hq163⟩ | ⟨rfl, ⟨x164, c165, rx164, tx164⟩, ⟨x166, c167, rx166, tx166⟩, ⟨x168, c169, rx168, tx168⟩, ⟨x170, c171, rx170, tx170⟩, hq172⟩ | ⟨rfl, ⟨x173, c174, rx173, tx173⟩, ⟨x175, c176, rx175, tx175⟩, hq177, g178, g179⟩ | ⟨rfl, ⟨x180, c181, rx180, tx180⟩, ⟨x182, c183, rx182, tx182⟩, hq184, g185, g186⟩
          · replace hM := hM.call (r' := 0) hv188 (by decide)
            have ex155 : x155.toInt = x9.toInt := by rw [← c190.symm.trans c156]
            have ex159 : x159.toInt = f0_.toInt := by rw [← c189.symm.trans c160]
            obtain ⟨x192, c193, rx192, tx192⟩ := hT.rda (lo := 0) (hi := 400) (i := (f0_.toInt).toNat) kM_at3 rfl rfl (by omega)
            obtain ⟨x194, c195, rx194, tx194⟩ := hT.rdi (lo := 0) (hi := 60) (k := 18) kM_at0 (by decide) rfl
            obtain ⟨x196, c197, rx196, tx196⟩ := hT.rda (lo := 0) (hi := 12) (i := (f0_.toInt).toNat) kM_at5 rfl rfl (by omega)
            have hR := hq163
            exact tk_zret hC hr rfl hlocks hK ⟨hT, hF, hM.ret (by decide), (Or.inl ⟨rfl, ⟨x9, c190, (show 1 ≤ x9.toInt by first | with_reducible assumption | omega), (show x9.toInt ≤ 400 by first | with_reducible assumption | omega)⟩, ⟨x157, c158, (show 1 ≤ x157.toInt by first | with_reducible assumption | omega), (show x157.toInt ≤ 3205 by first | with_reducible assumption | omega)⟩, ⟨f0_, c189, (show 0 ≤ f0_.toInt from rf0_), (show f0_.toInt ≤ 5 from tf0_)⟩, ⟨x59, c191, (show 0 ≤ x59.toInt by first | with_reducible assumption | omega), (show x59.toInt ≤ 12 by first | with_reducible assumption | omega)⟩, hR, (by simp only [c189, cf0_, cf2_, c191]; omega), (by simp only [c189, cf0_, c191]; omega)⟩)⟩ hw dX12_clauseHere_156
          · replace hM := hM.call (r' := 0) hv188 (by decide)
            have ex164 : x164.toInt = x9.toInt := by rw [← c190.symm.trans c165]
            have ex168 : x168.toInt = f0_.toInt := by rw [← c189.symm.trans c169]
            obtain ⟨x198, c199, rx198, tx198⟩ := hT.rda (lo := 0) (hi := 400) (i := (f0_.toInt).toNat) kM_at3 rfl rfl (by omega)
            obtain ⟨x200, c201, rx200, tx200⟩ := hT.rdi (lo := 0) (hi := 60) (k := 18) kM_at0 (by decide) rfl
            obtain ⟨x202, c203, rx202, tx202⟩ := hT.rda (lo := 0) (hi := 12) (i := (f0_.toInt).toNat) kM_at5 rfl rfl (by omega)
            have hR := hq172
            exact tk_zret hC hr rfl hlocks hK ⟨hT, hF, hM.ret (by decide), (Or.inl ⟨rfl, ⟨x9, c190, (show 1 ≤ x9.toInt by first | with_reducible assumption | omega), (show x9.toInt ≤ 400 by first | with_reducible assumption | omega)⟩, ⟨x166, c167, (show 1 ≤ x166.toInt by first | with_reducible assumption | omega), (show x166.toInt ≤ 3205 by first | with_reducible assumption | omega)⟩, ⟨f0_, c189, (show 0 ≤ f0_.toInt from rf0_), (show f0_.toInt ≤ 5 from tf0_)⟩, ⟨x59, c191, (show 0 ≤ x59.toInt by first | with_reducible assumption | omega), (show x59.toInt ≤ 12 by first | with_reducible assumption | omega)⟩, hR, (by simp only [c189, cf0_, cf2_, c191]; omega), (by simp only [c189, cf0_, c191]; omega)⟩)⟩ hw dX12_clauseHere_156
          · replace hM := hM.call (r' := 1) hv188 (by decide)
            have ex173 : x173.toInt = x9.toInt := by rw [← c190.symm.trans c174]
            have ex175 : x175.toInt = f0_.toInt := by rw [← c189.symm.trans c176]
            obtain ⟨x204, c205, rx204, tx204⟩ := hT.rda (lo := 0) (hi := 400) (i := (f0_.toInt).toNat) kM_at3 rfl rfl (by omega)
            obtain ⟨x206, c207, rx206, tx206⟩ := hT.rdi (lo := 0) (hi := 60) (k := 18) kM_at0 (by decide) rfl
            obtain ⟨x208, c209, rx208, tx208⟩ := hT.rda (lo := 0) (hi := 12) (i := (f0_.toInt).toNat) kM_at5 rfl rfl (by omega)
            have g178 : 3 * x204.toInt ≤ 14 * x206.toInt := by have q := g178; simp only [c80, c189, c205, c207] at q; first | with_reducible exact q | omega
            have g179 : x208.toInt = f4_.toInt + 1 := by have q := g179; simp only [c80, c189, c83, c209] at q; first | with_reducible exact q | omega
            have hR := hq177
            exact tk_zret hC hr rfl hlocks hK ⟨hT, hF, hM.ret (by decide), (Or.inr (Or.inr (Or.inl ⟨rfl, ⟨x9, c190, (show 1 ≤ x9.toInt by first | with_reducible assumption | omega), (show x9.toInt ≤ 400 by first | with_reducible assumption | omega)⟩, ⟨f0_, c189, (show 0 ≤ f0_.toInt from rf0_), (show f0_.toInt ≤ 5 from tf0_)⟩, ⟨x59, c191, (show 1 ≤ x59.toInt by first | with_reducible assumption | omega), (show x59.toInt ≤ 12 by first | with_reducible assumption | omega)⟩, hR, (by simp only [c189, cf0_, c205, c207]; omega), (by simp only [c189, cf0_, c209, c191]; omega), (by simp only [c189, cf0_, cf2_, c191]; omega), (by simp only [c189, cf0_, c191]; omega)⟩)))⟩ hw dX12_clauseHere_156
          · replace hM := hM.call (r' := 1) hv188 (by decide)
            have ex180 : x180.toInt = x9.toInt := by rw [← c190.symm.trans c181]
            have ex182 : x182.toInt = f0_.toInt := by rw [← c189.symm.trans c183]
            obtain ⟨x210, c211, rx210, tx210⟩ := hT.rda (lo := 0) (hi := 400) (i := (f0_.toInt).toNat) kM_at3 rfl rfl (by omega)
            obtain ⟨x212, c213, rx212, tx212⟩ := hT.rdi (lo := 0) (hi := 60) (k := 18) kM_at0 (by decide) rfl
            obtain ⟨x214, c215, rx214, tx214⟩ := hT.rda (lo := 0) (hi := 12) (i := (f0_.toInt).toNat) kM_at5 rfl rfl (by omega)
            have g185 : 3 * x210.toInt ≤ 14 * x212.toInt := by have q := g185; simp only [c80, c189, c211, c213] at q; first | with_reducible exact q | omega
            have g186 : x214.toInt = f4_.toInt + 1 := by have q := g186; simp only [c80, c189, c83, c215] at q; first | with_reducible exact q | omega
            have hR := hq184
            exact tk_zret hC hr rfl hlocks hK ⟨hT, hF, hM.ret (by decide), (Or.inr (Or.inr (Or.inl ⟨rfl, ⟨x9, c190, (show 1 ≤ x9.toInt by first | with_reducible assumption | omega), (show x9.toInt ≤ 400 by first | with_reducible assumption | omega)⟩, ⟨f0_, c189, (show 0 ≤ f0_.toInt from rf0_), (show f0_.toInt ≤ 5 from tf0_)⟩, ⟨x59, c191, (show 1 ≤ x59.toInt by first | with_reducible assumption | omega), (show x59.toInt ≤ 12 by first | with_reducible assumption | omega)⟩, hR, (by simp only [c189, cf0_, c211, c213]; omega), (by simp only [c189, cf0_, c215, c191]; omega), (by simp only [c189, cf0_, cf2_, c191]; omega), (by simp only [c189, cf0_, c191]; omega)⟩)))⟩ hw dX12_clauseHere_156
      · have c56 : f2_.toInt = (12 : Int) := wk_eq.mp c56
        replace hM := hM.neg (fun q => q c56)
        refine lv_aload_n hx hb dX12_clauseHere_119 rfl (lv_at hl 3 rfl) ?_
        refine lv_iconst (v := 4) hx hb dX12_clauseHere_120 (by decide) ?_
        refine lv_iload_n hx hb dX12_clauseHere_121 rfl (lv_at hl 2 rfl) ?_
        refine tk_Vi hC hK hw hT hA hE hSR kM_at0 (by decide) rfl (kz_X12_fails_1 l adK adV dC dI cy ad B hB0 (Int.le_trans hB1 (by decide)) qr s1   4 (by decide) (by decide) x11 (show 0 ≤ x11.toInt by first | with_reducible assumption | omega) (show x11.toInt ≤ 400 by first | with_reducible assumption | omega) w38 H.size hT ) (cwV 2 hC.2.2.2.2 uV_RX12_115 rfl rfl rfl (by decide +kernel) ⟨Nat.le_of_ble_eq_true rfl, Nat.le_of_ble_eq_true rfl⟩) rfl hl.1 rfl (Nat.le_of_ble_eq_true rfl) dX12_clauseHere_122 (fun r216 w218 H locs hp217 hw => ?_)
        obtain ⟨hT, k219, hv223, hg222⟩ := hp217
        try simp only [show (4 : Int32).toInt = 4 by decide] at hv223
        have hR := RL_FE k219 (fun _ => rfl) (fun _ => rfl) (fun _ => rfl) (fun _ => rfl) hR
        have hF := hF.tr k219 (by decide)
        have c224 := k219.gi kM_at0 (by decide) c48
        have c225 := k219.gi kM_at0 (by decide) c49
        have c226 := k219.gi kM_at0 (by decide) c50
        have c227 := k219.gi kM_at3 rfl c51
        have c228 := k219.gi kM_at5 rfl c52
        have c229 := k219.gi kM_at0 (by decide) c53
        obtain ⟨rfl, ⟨x220, c221, rx220, tx220⟩⟩ := hg222
        replace hM := hM.call (r' := 0) hv223 (by decide)
        exact tk_zret hC hr rfl hlocks hK ⟨hT, hF, hM.ret (by decide), (Or.inl ⟨rfl, ⟨x9, c229, (show 1 ≤ x9.toInt by first | with_reducible assumption | omega), (show x9.toInt ≤ 400 by first | with_reducible assumption | omega)⟩, ⟨x220, c221, (show 1 ≤ x220.toInt by first | with_reducible assumption | omega), (show x220.toInt ≤ 3205 by first | with_reducible assumption | omega)⟩, ⟨f0_, c224, (show 0 ≤ f0_.toInt from rf0_), (show f0_.toInt ≤ 5 from tf0_)⟩, ⟨f2_, c226, (show 0 ≤ f2_.toInt from rf2_), (show f2_.toInt ≤ 12 from pr2_)⟩, hR, (by simp only [c224, cf0_, cf2_, c226]; omega), (by simp only [c224, cf0_, c226]; omega)⟩)⟩ hw dX12_clauseHere_125
    · replace hM := hM.call (r' := (-1)) hv47 (by decide)
      have ex44 : x44.toInt = x9.toInt := by rw [← c53.symm.trans c45]
      refine lv_if_lt (tgt := 88) hx hb dX12_clauseHere_81 (by decide) (fun _ => ?_) (fun c => absurd (by decide) c)
      replace hM := hM.pos (by decide)
      refine lv_iconst (v := 0) hx hb dX12_clauseHere_88 (by decide) ?_
      refine lv_istore_n (lv' := [(3, .int 0), (2, .int 0), (1, .int x11), (0, .ref (ad 0))]) hx hb dX12_clauseHere_89 rfl hl (by decide) rfl (fun ls hl => ?_)
      refine lv_iload_n hx hb dX12_clauseHere_90 rfl (lv_at hl 0 rfl) ?_
      refine lv_if_ne (tgt := 101) hx hb dX12_clauseHere_91 (by decide) (fun c => absurd (by decide) c) (fun _ => ?_)
      replace hM := hM.neg (by decide)
      refine lv_aload_n hx hb dX12_clauseHere_94 rfl (lv_at hl 3 rfl) ?_
      refine lv_iconst (v := 0) hx hb dX12_clauseHere_95 (by decide) ?_
      refine lv_iload_n hx hb dX12_clauseHere_96 rfl (lv_at hl 2 rfl) ?_
      refine tk_Vi hC hK hw hT hA hE hSR kM_at0 (by decide) rfl (kz_X12_fails_1 l adK adV dC dI cy ad B hB0 (Int.le_trans hB1 (by decide)) qr s1   0 (by decide) (by decide) x11 (show 0 ≤ x11.toInt by first | with_reducible assumption | omega) (show x11.toInt ≤ 400 by first | with_reducible assumption | omega) w38 H.size hT ) (cwV 2 hC.2.2.2.2 uV_RX12_115 rfl rfl rfl (by decide +kernel) ⟨Nat.le_of_ble_eq_true rfl, Nat.le_of_ble_eq_true rfl⟩) rfl hl.1 rfl (Nat.le_of_ble_eq_true rfl) dX12_clauseHere_97 (fun r230 w232 H locs hp231 hw => ?_)
      obtain ⟨hT, k233, hv237, hg236⟩ := hp231
      try simp only [show (0 : Int32).toInt = 0 by decide] at hv237
      have hR := RL_FE k233 (fun _ => rfl) (fun _ => rfl) (fun _ => rfl) (fun _ => rfl) hR
      have hF := hF.tr k233 (by decide)
      have c238 := k233.gi kM_at0 (by decide) c48
      have c239 := k233.gi kM_at0 (by decide) c49
      have c240 := k233.gi kM_at0 (by decide) c50
      have c241 := k233.gi kM_at3 rfl c51
      have c242 := k233.gi kM_at5 rfl c52
      have c243 := k233.gi kM_at0 (by decide) c53
      obtain ⟨rfl, ⟨x234, c235, rx234, tx234⟩⟩ := hg236
      replace hM := hM.call (r' := 0) hv237 (by decide)
      exact tk_zret hC hr rfl hlocks hK ⟨hT, hF, hM.ret (by decide), (Or.inl ⟨rfl, ⟨x9, c243, (show 1 ≤ x9.toInt by first | with_reducible assumption | omega), (show x9.toInt ≤ 400 by first | with_reducible assumption | omega)⟩, ⟨x234, c235, (show 1 ≤ x234.toInt by first | with_reducible assumption | omega), (show x234.toInt ≤ 3205 by first | with_reducible assumption | omega)⟩, ⟨f0_, c238, (show 0 ≤ f0_.toInt from rf0_), (show f0_.toInt ≤ 5 from tf0_)⟩, ⟨f2_, c240, (show 0 ≤ f2_.toInt from rf2_), (show f2_.toInt ≤ 12 from pr2_)⟩, hR, (by simp only [c238, cf0_, cf2_, c240]; omega), (by simp only [c238, cf0_, c240]; omega)⟩)⟩ hw dX12_clauseHere_100
  · replace hM := hM.call (r' := (-1)) hv24 (by decide)
    have g19 : (x17.toInt = x1.toInt ∨ (gi w0 1 (x1.toInt).toNat).toInt = 32) := by have q := g19; simp only [cf0_, c25, c2, c18] at q; first | with_reducible exact q | omega
    refine lv_pop hx hb dX12_clauseHere_4 rfl ?_
    refine lv_aload_n hx hb dX12_clauseHere_5 rfl (lv_at hl 0 rfl) ?_
    refine tk_geti hC hK hw hT hinX12 kM_at0 (by decide) rfl 14 (by decide) (List.mem_cons_of_mem _ uw_19_18) rfl rfl dX12_clauseHere_6 (fun x244 c245 rx244 tx244 => ?_)
    refine wk_top x17 (c245.symm.trans c18) ?_
    replace hM := hM.rd (sI_at c18)
    refine lv_istore_n (lv' := [(1, .int x17), (0, .ref (ad 0))]) hx hb dX12_clauseHere_9 rfl hl (by decide) rfl (fun ls hl => ?_)
    refine lv_aload_n hx hb dX12_clauseHere_10 rfl (lv_at hl 1 rfl) ?_
    refine tk_geti hC hK hw hT hinX12 kM_at0 (by decide) rfl 17 (by decide) (List.mem_cons_of_mem _ uw_19_7) rfl rfl dX12_clauseHere_11 (fun x246 c247 rx246 tx246 => ?_)
    refine wk_top f0_ (c247.symm.trans c25) ?_
    replace hM := hM.rd (sI_at c25)
    refine lv_bipush (v := 6) hx hb dX12_clauseHere_14 (by decide) ?_
    refine lv_icmp_ne (tgt := 23) hx hb dX12_clauseHere_16 (by decide) (fun _ => ?_) (fun c => absurd (show f0_.toInt = (6 : Int) from wk_eq.mp c) (by omega))
    replace hM := hM.pos (by omega)
    refine lv_iconst (v := 0) hx hb dX12_clauseHere_23 (by decide) ?_
    refine lv_istore_n (lv' := [(2, .int 0), (1, .int x17), (0, .ref (ad 0))]) hx hb dX12_clauseHere_24 rfl hl (by decide) rfl (fun ls hl => ?_)
    refine lv_iload_n hx hb dX12_clauseHere_25 rfl (lv_at hl 0 rfl) ?_
    refine lv_if_eq (tgt := 77) hx hb dX12_clauseHere_26 (by decide) (fun _ => ?_) (fun c => absurd (by decide) c)
    replace hM := hM.pos (by decide)
    refine lv_aload_n hx hb dX12_clauseHere_77 rfl (lv_at hl 2 rfl) ?_
    refine tk_Vi hC hK hw hT hA hE hSR kM_at0 (by decide) rfl (kz_X12_doingSort_1 l adK adV dC dI cy ad B hB0 (Int.le_trans hB1 (by decide)) qr s1    w5 H.size hT ) (cwV 0 hC.2.2.2.2 uV_RX12_264 rfl rfl rfl (by decide +kernel) ⟨Nat.le_of_ble_eq_true rfl, Nat.le_of_ble_eq_true rfl⟩) rfl hl.1 rfl (Nat.le_of_ble_eq_true rfl) dX12_clauseHere_78 (fun r248 w250 H locs hp249 hw => ?_)
    obtain ⟨hT, k251, hv259, hg258⟩ := hp249
    have hR := RL_FE k251 (fun _ => rfl) (fun _ => rfl) (fun _ => rfl) (fun _ => rfl) hR
    have hF := hF.tr k251 (by decide)
    have c260 := k251.gi kM_at0 (by decide) c25
    have c261 := k251.gi kM_at0 (by decide) c26
    have c262 := k251.gi kM_at0 (by decide) c27
    have c263 := k251.gi kM_at3 rfl c28
    have c264 := k251.gi kM_at5 rfl c29
    have c265 := k251.gi kM_at0 (by decide) c16
    rcases hg258 with ⟨g252, g253, ⟨x254, c255, rx254, tx254⟩⟩ | ⟨rfl, ⟨x256, c257, rx256, tx256⟩⟩
    · replace hM := hM.call hv259 rfl
      have ex254 : x254.toInt = x15.toInt := by rw [← c265.symm.trans c255]
      refine lv_if_lt (tgt := 88) hx hb dX12_clauseHere_81 (by decide) (fun c => absurd c (fun h => absurd (show r248.toInt < (0 : Int) from wk_lt.mp h) (by omega))) (fun _ => ?_)
      replace hM := hM.neg (by omega)
      refine lv_iconst (v := 1) hx hb dX12_clauseHere_84 (by decide) ?_
      refine lv_goto (tgt := 89) hx hb dX12_clauseHere_85 (by decide) ?_
      refine lv_istore_n (lv' := [(3, .int 1), (2, .int 0), (1, .int x17), (0, .ref (ad 0))]) hx hb dX12_clauseHere_89 rfl hl (by decide) rfl (fun ls hl => ?_)
      refine lv_iload_n hx hb dX12_clauseHere_90 rfl (lv_at hl 0 rfl) ?_
      refine lv_if_ne (tgt := 101) hx hb dX12_clauseHere_91 (by decide) (fun _ => ?_) (fun c => absurd c (by decide))
      replace hM := hM.pos (by decide)
      refine lv_aload_n hx hb dX12_clauseHere_101 rfl (lv_at hl 3 rfl) ?_
      refine tk_geti hC hK hw hT hinX12 kM_at0 (by decide) rfl 20 (by decide) (List.mem_cons_of_mem _ uw_19_17) rfl rfl dX12_clauseHere_102 (fun x266 c267 rx266 tx266 => ?_)
      refine wk_top f2_ (c267.symm.trans c262) ?_
      replace hM := hM.rd (sI_at c262)
      refine lv_iload_n hx hb dX12_clauseHere_105 rfl (lv_at hl 1 rfl) ?_
      refine lv_if_eq (tgt := 114) hx hb dX12_clauseHere_106 (by decide) (fun _ => ?_) (fun c => absurd (by decide) c)
      replace hM := hM.pos (by decide)
      refine lv_bipush (v := 12) hx hb dX12_clauseHere_114 (by decide) ?_
      refine lv_icmp_ne (tgt := 126) hx hb dX12_clauseHere_116 (by decide) (fun c268 => ?_) (fun c268 => ?_)
      · have c268 : ¬ f2_.toInt = (12 : Int) := wk_eqF c268
        replace hM := hM.pos c268
        refine lv_aload_n hx hb dX12_clauseHere_126 rfl (lv_at hl 3 rfl) ?_
        refine lv_dup hx hb dX12_clauseHere_127 rfl ?_
        refine tk_geti hC hK hw hT hinX12 kM_at0 (by decide) rfl 20 (by decide) (List.mem_cons_of_mem _ uw_19_17) rfl rfl dX12_clauseHere_128 (fun x269 c270 rx269 tx269 => ?_)
        refine wk_top f2_ (c270.symm.trans c262) ?_
        replace hM := hM.rd (sI_at c262)
        refine lv_iconst (v := 1) hx hb dX12_clauseHere_131 (by decide) ?_
        refine lv_iadd hx hb dX12_clauseHere_132 ?_
        refine lv_topi (fun x271 ex271 => ?_)
        have ezx271 := ex271
        have ex271 : x271.toInt = f2_.toInt + (1 : Int) := by rw [ex271]; exact wk_add (show (-2147483648) ≤ f2_.toInt + (1 : Int) by omega) (show f2_.toInt + (1 : Int) ≤ 2147483647 by omega)
        replace hM := hM.lt ex271.symm
        refine tk_puti hC hK hw hT hinX12 tyX12_ok nmX12 kM_at0 (by decide) rfl rfl 20 (by decide) (List.mem_cons_of_mem _ uw_19_17) rfl rfl rfl rfl (show 0 ≤ x271.toInt by first | with_reducible assumption | omega) (show x271.toInt ≤ 32 by first | with_reducible assumption | omega) dX12_clauseHere_133 (fun H locs w272 hw hT k274 c273 => ?_)
        replace hM := hM.wr (sI_up k274 c273)
        have hR := RL_F1 k274 (by decide) (by decide) (by decide) (by decide) hR
        have hF := hF.put kM_at0 (k := 20) (by decide) k274
        have c275 := k274.gi (Or.inr (by decide)) c260
        have c276 := k274.gi (Or.inr (by decide)) c261
        have c277 := k274.gi (Or.inl (tk_ne kM_at3 kM_at0 (by decide))) c263
        have c278 := k274.gi (Or.inl (tk_ne kM_at5 kM_at0 (by decide))) c264
        have c279 := k274.gi (Or.inr (by decide)) c265
        refine lv_iload_n hx hb dX12_clauseHere_136 rfl (lv_at hl 1 rfl) ?_
        refine lv_if_eq (tgt := 148) hx hb dX12_clauseHere_137 (by decide) (fun _ => ?_) (fun c => absurd (by decide) c)
        replace hM := hM.pos (by decide)
        refine lv_aload_n hx hb dX12_clauseHere_148 rfl (lv_at hl 3 rfl) ?_
        refine lv_aload_n hx hb dX12_clauseHere_149 rfl (lv_at hl 3 rfl) ?_
        refine tk_Vi hC hK hw hT hA hE hSR kM_at0 (by decide) rfl (kz_X12_doingSort_1 l adK adV dC dI cy ad B hB0 (Int.le_trans hB1 (by decide)) qr s1    w272 H.size hT ) (cwV 0 hC.2.2.2.2 uV_RX12_264 rfl rfl rfl (by decide +kernel) ⟨Nat.le_of_ble_eq_true rfl, Nat.le_of_ble_eq_true rfl⟩) rfl hl.1 rfl (Nat.le_of_ble_eq_true rfl) dX12_clauseHere_150 (fun r280 w282 H locs hp281 hw => ?_)
        obtain ⟨hT, k283, hv291, hg290⟩ := hp281
        have hR := RL_FE k283 (fun _ => rfl) (fun _ => rfl) (fun _ => rfl) (fun _ => rfl) hR
        have hF := hF.tr k283 (by decide)
        have c292 := k283.gi kM_at0 (by decide) c275
        have c293 := k283.gi kM_at0 (by decide) c276
        have c294 := k283.gi kM_at3 rfl c277
        have c295 := k283.gi kM_at5 rfl c278
        have c296 := k283.gi kM_at0 (by decide) c279
        have c297 := k283.gi kM_at0 (by decide) c273
        rcases hg290 with ⟨g284, g285, ⟨x286, c287, rx286, tx286⟩⟩ | ⟨rfl, ⟨x288, c289, rx288, tx288⟩⟩
        · replace hM := hM.call hv291 rfl
          have ex286 : x286.toInt = x15.toInt := by rw [← c296.symm.trans c287]
          refine tk_Vi hC hK hw hT hA hE hSR kM_at0 (by decide) rfl (kz_X12_isDoingHere_1 l adK adV dC dI cy ad B hB0 (Int.le_trans hB1 (by decide)) qr s1   r280 (show 0 ≤ r280.toInt by first | with_reducible assumption | omega) (show r280.toInt ≤ 3 by first | with_reducible assumption | omega) w282 H.size hT f0_ c292 (show 0 ≤ f0_.toInt from rf0_) (show f0_.toInt ≤ 5 from tf0_) f1_ c293 (show 0 ≤ f1_.toInt from rf1_) (show f1_.toInt ≤ 60 from tf1_) f3_ c294 (show 0 ≤ f3_.toInt from rf3_) (show f3_.toInt ≤ 400 from tf3_) f4_ c295 (show 0 ≤ f4_.toInt from rf4_) (show f4_.toInt ≤ 12 from tf4_) (show 3 * f3_.toInt ≤ 14 * f1_.toInt from pr0_) (show f3_.toInt ≤ 280 from pr3_) (show f4_.toInt ≤ 11 by first | with_reducible assumption | omega) hR) (cwV 1 hC.2.2.2.2 uV_RX12_273 rfl rfl rfl (by decide +kernel) ⟨Nat.le_of_ble_eq_true rfl, Nat.le_of_ble_eq_true rfl⟩) rfl hl.1 rfl (Nat.le_of_ble_eq_true rfl) dX12_clauseHere_153 (fun r298 w300 H locs hp299 hw => ?_)
          obtain ⟨hT, k301, hv335, hg334⟩ := hp299
          have hF := hF.tr k301 (by decide)
          have c336 := k301.gi kM_at0 (by decide) c292
          have c337 := k301.gi kM_at0 (by decide) c296
          have c338 := k301.gi kM_at0 (by decide) c297
          rcases hg334 with ⟨rfl, ⟨x302, c303, rx302, tx302⟩, ⟨x304, c305, rx304, tx304⟩, ⟨x306, c307, rx306, tx306⟩, ⟨x308, c309, rx308, tx308⟩, hq310⟩ | ⟨rfl, ⟨x311, c312, rx311, tx311⟩, ⟨x313, c314, rx313, tx313⟩, ⟨x315, c316, rx315, tx315⟩, ⟨x317, c318, rx317, tx317⟩, hq319⟩ | ⟨rfl, ⟨x320, c321, rx320, tx320⟩, ⟨x322, c323, rx322, tx322⟩, hq324, g325, g326⟩ | ⟨rfl, ⟨x327, c328, rx327, tx327⟩, ⟨x329, c330, rx329, tx329⟩, hq331, g332, g333⟩
          · replace hM := hM.call (r' := 0) hv335 (by decide)
            have ex302 : x302.toInt = x15.toInt := by rw [← c337.symm.trans c303]
            have ex306 : x306.toInt = f0_.toInt := by rw [← c336.symm.trans c307]
            obtain ⟨x339, c340, rx339, tx339⟩ := hT.rda (lo := 0) (hi := 400) (i := (f0_.toInt).toNat) kM_at3 rfl rfl (by omega)
            obtain ⟨x341, c342, rx341, tx341⟩ := hT.rdi (lo := 0) (hi := 60) (k := 18) kM_at0 (by decide) rfl
            obtain ⟨x343, c344, rx343, tx343⟩ := hT.rda (lo := 0) (hi := 12) (i := (f0_.toInt).toNat) kM_at5 rfl rfl (by omega)
            have hR := hq310
            exact tk_zret hC hr rfl hlocks hK ⟨hT, hF, hM.ret (by decide), (Or.inl ⟨rfl, ⟨x15, c337, (show 1 ≤ x15.toInt by first | with_reducible assumption | omega), (show x15.toInt ≤ 400 by first | with_reducible assumption | omega)⟩, ⟨x304, c305, (show 1 ≤ x304.toInt by first | with_reducible assumption | omega), (show x304.toInt ≤ 3205 by first | with_reducible assumption | omega)⟩, ⟨f0_, c336, (show 0 ≤ f0_.toInt from rf0_), (show f0_.toInt ≤ 5 from tf0_)⟩, ⟨x271, c338, (show 0 ≤ x271.toInt by first | with_reducible assumption | omega), (show x271.toInt ≤ 12 by first | with_reducible assumption | omega)⟩, hR, (by simp only [c336, cf0_, cf2_, c338]; omega), (by simp only [c336, cf0_, c338]; omega)⟩)⟩ hw dX12_clauseHere_156
          · replace hM := hM.call (r' := 0) hv335 (by decide)
            have ex311 : x311.toInt = x15.toInt := by rw [← c337.symm.trans c312]
            have ex315 : x315.toInt = f0_.toInt := by rw [← c336.symm.trans c316]
            obtain ⟨x345, c346, rx345, tx345⟩ := hT.rda (lo := 0) (hi := 400) (i := (f0_.toInt).toNat) kM_at3 rfl rfl (by omega)
            obtain ⟨x347, c348, rx347, tx347⟩ := hT.rdi (lo := 0) (hi := 60) (k := 18) kM_at0 (by decide) rfl
            obtain ⟨x349, c350, rx349, tx349⟩ := hT.rda (lo := 0) (hi := 12) (i := (f0_.toInt).toNat) kM_at5 rfl rfl (by omega)
            have hR := hq319
            exact tk_zret hC hr rfl hlocks hK ⟨hT, hF, hM.ret (by decide), (Or.inl ⟨rfl, ⟨x15, c337, (show 1 ≤ x15.toInt by first | with_reducible assumption | omega), (show x15.toInt ≤ 400 by first | with_reducible assumption | omega)⟩, ⟨x313, c314, (show 1 ≤ x313.toInt by first | with_reducible assumption | omega), (show x313.toInt ≤ 3205 by first | with_reducible assumption | omega)⟩, ⟨f0_, c336, (show 0 ≤ f0_.toInt from rf0_), (show f0_.toInt ≤ 5 from tf0_)⟩, ⟨x271, c338, (show 0 ≤ x271.toInt by first | with_reducible assumption | omega), (show x271.toInt ≤ 12 by first | with_reducible assumption | omega)⟩, hR, (by simp only [c336, cf0_, cf2_, c338]; omega), (by simp only [c336, cf0_, c338]; omega)⟩)⟩ hw dX12_clauseHere_156
          · replace hM := hM.call (r' := 1) hv335 (by decide)
            have ex320 : x320.toInt = x15.toInt := by rw [← c337.symm.trans c321]
            have ex322 : x322.toInt = f0_.toInt := by rw [← c336.symm.trans c323]
            obtain ⟨x351, c352, rx351, tx351⟩ := hT.rda (lo := 0) (hi := 400) (i := (f0_.toInt).toNat) kM_at3 rfl rfl (by omega)
            obtain ⟨x353, c354, rx353, tx353⟩ := hT.rdi (lo := 0) (hi := 60) (k := 18) kM_at0 (by decide) rfl
            obtain ⟨x355, c356, rx355, tx355⟩ := hT.rda (lo := 0) (hi := 12) (i := (f0_.toInt).toNat) kM_at5 rfl rfl (by omega)
            have g325 : 3 * x351.toInt ≤ 14 * x353.toInt := by have q := g325; simp only [c292, c336, c352, c354] at q; first | with_reducible exact q | omega
            have g326 : x355.toInt = f4_.toInt + 1 := by have q := g326; simp only [c292, c336, c295, c356] at q; first | with_reducible exact q | omega
            have hR := hq324
            exact tk_zret hC hr rfl hlocks hK ⟨hT, hF, hM.ret (by decide), (Or.inr (Or.inr (Or.inl ⟨rfl, ⟨x15, c337, (show 1 ≤ x15.toInt by first | with_reducible assumption | omega), (show x15.toInt ≤ 400 by first | with_reducible assumption | omega)⟩, ⟨f0_, c336, (show 0 ≤ f0_.toInt from rf0_), (show f0_.toInt ≤ 5 from tf0_)⟩, ⟨x271, c338, (show 1 ≤ x271.toInt by first | with_reducible assumption | omega), (show x271.toInt ≤ 12 by first | with_reducible assumption | omega)⟩, hR, (by simp only [c336, cf0_, c352, c354]; omega), (by simp only [c336, cf0_, c356, c338]; omega), (by simp only [c336, cf0_, cf2_, c338]; omega), (by simp only [c336, cf0_, c338]; omega)⟩)))⟩ hw dX12_clauseHere_156
          · replace hM := hM.call (r' := 1) hv335 (by decide)
            have ex327 : x327.toInt = x15.toInt := by rw [← c337.symm.trans c328]
            have ex329 : x329.toInt = f0_.toInt := by rw [← c336.symm.trans c330]
            obtain ⟨x357, c358, rx357, tx357⟩ := hT.rda (lo := 0) (hi := 400) (i := (f0_.toInt).toNat) kM_at3 rfl rfl (by omega)
            obtain ⟨x359, c360, rx359, tx359⟩ := hT.rdi (lo := 0) (hi := 60) (k := 18) kM_at0 (by decide) rfl
            obtain ⟨x361, c362, rx361, tx361⟩ := hT.rda (lo := 0) (hi := 12) (i := (f0_.toInt).toNat) kM_at5 rfl rfl (by omega)
            have g332 : 3 * x357.toInt ≤ 14 * x359.toInt := by have q := g332; simp only [c292, c336, c358, c360] at q; first | with_reducible exact q | omega
            have g333 : x361.toInt = f4_.toInt + 1 := by have q := g333; simp only [c292, c336, c295, c362] at q; first | with_reducible exact q | omega
            have hR := hq331
            exact tk_zret hC hr rfl hlocks hK ⟨hT, hF, hM.ret (by decide), (Or.inr (Or.inr (Or.inl ⟨rfl, ⟨x15, c337, (show 1 ≤ x15.toInt by first | with_reducible assumption | omega), (show x15.toInt ≤ 400 by first | with_reducible assumption | omega)⟩, ⟨f0_, c336, (show 0 ≤ f0_.toInt from rf0_), (show f0_.toInt ≤ 5 from tf0_)⟩, ⟨x271, c338, (show 1 ≤ x271.toInt by first | with_reducible assumption | omega), (show x271.toInt ≤ 12 by first | with_reducible assumption | omega)⟩, hR, (by simp only [c336, cf0_, c358, c360]; omega), (by simp only [c336, cf0_, c362, c338]; omega), (by simp only [c336, cf0_, cf2_, c338]; omega), (by simp only [c336, cf0_, c338]; omega)⟩)))⟩ hw dX12_clauseHere_156
        · replace hM := hM.call (r' := (-1)) hv291 (by decide)
          have ex288 : x288.toInt = x15.toInt := by rw [← c296.symm.trans c289]
          refine tk_Vi hC hK hw hT hA hE hSR kM_at0 (by decide) rfl (kz_X12_isDoingHere_2 l adK adV dC dI cy ad B hB0 (Int.le_trans hB1 (by decide)) qr s1    w282 H.size hT f0_ c292 (show 0 ≤ f0_.toInt from rf0_) (show f0_.toInt ≤ 5 from tf0_) f1_ c293 (show 0 ≤ f1_.toInt from rf1_) (show f1_.toInt ≤ 60 from tf1_) f3_ c294 (show 0 ≤ f3_.toInt from rf3_) (show f3_.toInt ≤ 400 from tf3_) f4_ c295 (show 0 ≤ f4_.toInt from rf4_) (show f4_.toInt ≤ 12 from tf4_) (show 3 * f3_.toInt ≤ 14 * f1_.toInt from pr0_) (show f3_.toInt ≤ 280 from pr3_) (show f4_.toInt ≤ 11 by first | with_reducible assumption | omega) hR) (cwV 1 hC.2.2.2.2 uV_RX12_273 rfl rfl rfl (by decide +kernel) ⟨Nat.le_of_ble_eq_true rfl, Nat.le_of_ble_eq_true rfl⟩) rfl hl.1 rfl (Nat.le_of_ble_eq_true rfl) dX12_clauseHere_153 (fun r363 w365 H locs hp364 hw => ?_)
          obtain ⟨hT, k366, hv400, hg399⟩ := hp364
          have hF := hF.tr k366 (by decide)
          have c401 := k366.gi kM_at0 (by decide) c292
          have c402 := k366.gi kM_at0 (by decide) c296
          have c403 := k366.gi kM_at0 (by decide) c297
          rcases hg399 with ⟨rfl, ⟨x367, c368, rx367, tx367⟩, ⟨x369, c370, rx369, tx369⟩, ⟨x371, c372, rx371, tx371⟩, ⟨x373, c374, rx373, tx373⟩, hq375⟩ | ⟨rfl, ⟨x376, c377, rx376, tx376⟩, ⟨x378, c379, rx378, tx378⟩, ⟨x380, c381, rx380, tx380⟩, ⟨x382, c383, rx382, tx382⟩, hq384⟩ | ⟨rfl, ⟨x385, c386, rx385, tx385⟩, ⟨x387, c388, rx387, tx387⟩, hq389, g390, g391⟩ | ⟨rfl, ⟨x392, c393, rx392, tx392⟩, ⟨x394, c395, rx394, tx394⟩, hq396, g397, g398⟩
          · replace hM := hM.call (r' := 0) hv400 (by decide)
            have ex367 : x367.toInt = x15.toInt := by rw [← c402.symm.trans c368]
            have ex371 : x371.toInt = f0_.toInt := by rw [← c401.symm.trans c372]
            obtain ⟨x404, c405, rx404, tx404⟩ := hT.rda (lo := 0) (hi := 400) (i := (f0_.toInt).toNat) kM_at3 rfl rfl (by omega)
            obtain ⟨x406, c407, rx406, tx406⟩ := hT.rdi (lo := 0) (hi := 60) (k := 18) kM_at0 (by decide) rfl
            obtain ⟨x408, c409, rx408, tx408⟩ := hT.rda (lo := 0) (hi := 12) (i := (f0_.toInt).toNat) kM_at5 rfl rfl (by omega)
            have hR := hq375
            exact tk_zret hC hr rfl hlocks hK ⟨hT, hF, hM.ret (by decide), (Or.inl ⟨rfl, ⟨x15, c402, (show 1 ≤ x15.toInt by first | with_reducible assumption | omega), (show x15.toInt ≤ 400 by first | with_reducible assumption | omega)⟩, ⟨x369, c370, (show 1 ≤ x369.toInt by first | with_reducible assumption | omega), (show x369.toInt ≤ 3205 by first | with_reducible assumption | omega)⟩, ⟨f0_, c401, (show 0 ≤ f0_.toInt from rf0_), (show f0_.toInt ≤ 5 from tf0_)⟩, ⟨x271, c403, (show 0 ≤ x271.toInt by first | with_reducible assumption | omega), (show x271.toInt ≤ 12 by first | with_reducible assumption | omega)⟩, hR, (by simp only [c401, cf0_, cf2_, c403]; omega), (by simp only [c401, cf0_, c403]; omega)⟩)⟩ hw dX12_clauseHere_156
          · replace hM := hM.call (r' := 0) hv400 (by decide)
            have ex376 : x376.toInt = x15.toInt := by rw [← c402.symm.trans c377]
            have ex380 : x380.toInt = f0_.toInt := by rw [← c401.symm.trans c381]
            obtain ⟨x410, c411, rx410, tx410⟩ := hT.rda (lo := 0) (hi := 400) (i := (f0_.toInt).toNat) kM_at3 rfl rfl (by omega)
            obtain ⟨x412, c413, rx412, tx412⟩ := hT.rdi (lo := 0) (hi := 60) (k := 18) kM_at0 (by decide) rfl
            obtain ⟨x414, c415, rx414, tx414⟩ := hT.rda (lo := 0) (hi := 12) (i := (f0_.toInt).toNat) kM_at5 rfl rfl (by omega)
            have hR := hq384
            exact tk_zret hC hr rfl hlocks hK ⟨hT, hF, hM.ret (by decide), (Or.inl ⟨rfl, ⟨x15, c402, (show 1 ≤ x15.toInt by first | with_reducible assumption | omega), (show x15.toInt ≤ 400 by first | with_reducible assumption | omega)⟩, ⟨x378, c379, (show 1 ≤ x378.toInt by first | with_reducible assumption | omega), (show x378.toInt ≤ 3205 by first | with_reducible assumption | omega)⟩, ⟨f0_, c401, (show 0 ≤ f0_.toInt from rf0_), (show f0_.toInt ≤ 5 from tf0_)⟩, ⟨x271, c403, (show 0 ≤ x271.toInt by first | with_reducible assumption | omega), (show x271.toInt ≤ 12 by first | with_reducible assumption | omega)⟩, hR, (by simp only [c401, cf0_, cf2_, c403]; omega), (by simp only [c401, cf0_, c403]; omega)⟩)⟩ hw dX12_clauseHere_156
          · replace hM := hM.call (r' := 1) hv400 (by decide)
            have ex385 : x385.toInt = x15.toInt := by rw [← c402.symm.trans c386]
            have ex387 : x387.toInt = f0_.toInt := by rw [← c401.symm.trans c388]
            obtain ⟨x416, c417, rx416, tx416⟩ := hT.rda (lo := 0) (hi := 400) (i := (f0_.toInt).toNat) kM_at3 rfl rfl (by omega)
            obtain ⟨x418, c419, rx418, tx418⟩ := hT.rdi (lo := 0) (hi := 60) (k := 18) kM_at0 (by decide) rfl
            obtain ⟨x420, c421, rx420, tx420⟩ := hT.rda (lo := 0) (hi := 12) (i := (f0_.toInt).toNat) kM_at5 rfl rfl (by omega)
            have g390 : 3 * x416.toInt ≤ 14 * x418.toInt := by have q := g390; simp only [c292, c401, c417, c419] at q; first | with_reducible exact q | omega
            have g391 : x420.toInt = f4_.toInt + 1 := by have q := g391; simp only [c292, c401, c295, c421] at q; first | with_reducible exact q | omega
            have hR := hq389
            exact tk_zret hC hr rfl hlocks hK ⟨hT, hF, hM.ret (by decide), (Or.inr (Or.inr (Or.inl ⟨rfl, ⟨x15, c402, (show 1 ≤ x15.toInt by first | with_reducible assumption | omega), (show x15.toInt ≤ 400 by first | with_reducible assumption | omega)⟩, ⟨f0_, c401, (show 0 ≤ f0_.toInt from rf0_), (show f0_.toInt ≤ 5 from tf0_)⟩, ⟨x271, c403, (show 1 ≤ x271.toInt by first | with_reducible assumption | omega), (show x271.toInt ≤ 12 by first | with_reducible assumption | omega)⟩, hR, (by simp only [c401, cf0_, c417, c419]; omega), (by simp only [c401, cf0_, c421, c403]; omega), (by simp only [c401, cf0_, cf2_, c403]; omega), (by simp only [c401, cf0_, c403]; omega)⟩)))⟩ hw dX12_clauseHere_156
          · replace hM := hM.call (r' := 1) hv400 (by decide)
            have ex392 : x392.toInt = x15.toInt := by rw [← c402.symm.trans c393]
            have ex394 : x394.toInt = f0_.toInt := by rw [← c401.symm.trans c395]
            obtain ⟨x422, c423, rx422, tx422⟩ := hT.rda (lo := 0) (hi := 400) (i := (f0_.toInt).toNat) kM_at3 rfl rfl (by omega)
            obtain ⟨x424, c425, rx424, tx424⟩ := hT.rdi (lo := 0) (hi := 60) (k := 18) kM_at0 (by decide) rfl
            obtain ⟨x426, c427, rx426, tx426⟩ := hT.rda (lo := 0) (hi := 12) (i := (f0_.toInt).toNat) kM_at5 rfl rfl (by omega)
            have g397 : 3 * x422.toInt ≤ 14 * x424.toInt := by have q := g397; simp only [c292, c401, c423, c425] at q; first | with_reducible exact q | omega
            have g398 : x426.toInt = f4_.toInt + 1 := by have q := g398; simp only [c292, c401, c295, c427] at q; first | with_reducible exact q | omega
            have hR := hq396
            exact tk_zret hC hr rfl hlocks hK ⟨hT, hF, hM.ret (by decide), (Or.inr (Or.inr (Or.inl ⟨rfl, ⟨x15, c402, (show 1 ≤ x15.toInt by first | with_reducible assumption | omega), (show x15.toInt ≤ 400 by first | with_reducible assumption | omega)⟩, ⟨f0_, c401, (show 0 ≤ f0_.toInt from rf0_), (show f0_.toInt ≤ 5 from tf0_)⟩, ⟨x271, c403, (show 1 ≤ x271.toInt by first | with_reducible assumption | omega), (show x271.toInt ≤ 12 by first | with_reducible assumption | omega)⟩, hR, (by simp only [c401, cf0_, c423, c425]; omega), (by simp only [c401, cf0_, c427, c403]; omega), (by simp only [c401, cf0_, cf2_, c403]; omega), (by simp only [c401, cf0_, c403]; omega)⟩)))⟩ hw dX12_clauseHere_156
      · have c268 : f2_.toInt = (12 : Int) := wk_eq.mp c268
        replace hM := hM.neg (fun q => q c268)
        refine lv_aload_n hx hb dX12_clauseHere_119 rfl (lv_at hl 3 rfl) ?_
        refine lv_iconst (v := 4) hx hb dX12_clauseHere_120 (by decide) ?_
        refine lv_iload_n hx hb dX12_clauseHere_121 rfl (lv_at hl 2 rfl) ?_
        refine tk_Vi hC hK hw hT hA hE hSR kM_at0 (by decide) rfl (kz_X12_fails_1 l adK adV dC dI cy ad B hB0 (Int.le_trans hB1 (by decide)) qr s1   4 (by decide) (by decide) x17 (show 0 ≤ x17.toInt by first | with_reducible assumption | omega) (show x17.toInt ≤ 400 by first | with_reducible assumption | omega) w250 H.size hT ) (cwV 2 hC.2.2.2.2 uV_RX12_115 rfl rfl rfl (by decide +kernel) ⟨Nat.le_of_ble_eq_true rfl, Nat.le_of_ble_eq_true rfl⟩) rfl hl.1 rfl (Nat.le_of_ble_eq_true rfl) dX12_clauseHere_122 (fun r428 w430 H locs hp429 hw => ?_)
        obtain ⟨hT, k431, hv435, hg434⟩ := hp429
        try simp only [show (4 : Int32).toInt = 4 by decide] at hv435
        have hR := RL_FE k431 (fun _ => rfl) (fun _ => rfl) (fun _ => rfl) (fun _ => rfl) hR
        have hF := hF.tr k431 (by decide)
        have c436 := k431.gi kM_at0 (by decide) c260
        have c437 := k431.gi kM_at0 (by decide) c261
        have c438 := k431.gi kM_at0 (by decide) c262
        have c439 := k431.gi kM_at3 rfl c263
        have c440 := k431.gi kM_at5 rfl c264
        have c441 := k431.gi kM_at0 (by decide) c265
        obtain ⟨rfl, ⟨x432, c433, rx432, tx432⟩⟩ := hg434
        replace hM := hM.call (r' := 0) hv435 (by decide)
        exact tk_zret hC hr rfl hlocks hK ⟨hT, hF, hM.ret (by decide), (Or.inl ⟨rfl, ⟨x15, c441, (show 1 ≤ x15.toInt by first | with_reducible assumption | omega), (show x15.toInt ≤ 400 by first | with_reducible assumption | omega)⟩, ⟨x432, c433, (show 1 ≤ x432.toInt by first | with_reducible assumption | omega), (show x432.toInt ≤ 3205 by first | with_reducible assumption | omega)⟩, ⟨f0_, c436, (show 0 ≤ f0_.toInt from rf0_), (show f0_.toInt ≤ 5 from tf0_)⟩, ⟨f2_, c438, (show 0 ≤ f2_.toInt from rf2_), (show f2_.toInt ≤ 12 from pr2_)⟩, hR, (by simp only [c436, cf0_, cf2_, c438]; omega), (by simp only [c436, cf0_, c438]; omega)⟩)⟩ hw dX12_clauseHere_125
    · replace hM := hM.call (r' := (-1)) hv259 (by decide)
      have ex256 : x256.toInt = x15.toInt := by rw [← c265.symm.trans c257]
      refine lv_if_lt (tgt := 88) hx hb dX12_clauseHere_81 (by decide) (fun _ => ?_) (fun c => absurd (by decide) c)
      replace hM := hM.pos (by decide)
      refine lv_iconst (v := 0) hx hb dX12_clauseHere_88 (by decide) ?_
      refine lv_istore_n (lv' := [(3, .int 0), (2, .int 0), (1, .int x17), (0, .ref (ad 0))]) hx hb dX12_clauseHere_89 rfl hl (by decide) rfl (fun ls hl => ?_)
      refine lv_iload_n hx hb dX12_clauseHere_90 rfl (lv_at hl 0 rfl) ?_
      refine lv_if_ne (tgt := 101) hx hb dX12_clauseHere_91 (by decide) (fun c => absurd (by decide) c) (fun _ => ?_)
      replace hM := hM.neg (by decide)
      refine lv_aload_n hx hb dX12_clauseHere_94 rfl (lv_at hl 3 rfl) ?_
      refine lv_iconst (v := 0) hx hb dX12_clauseHere_95 (by decide) ?_
      refine lv_iload_n hx hb dX12_clauseHere_96 rfl (lv_at hl 2 rfl) ?_
      refine tk_Vi hC hK hw hT hA hE hSR kM_at0 (by decide) rfl (kz_X12_fails_1 l adK adV dC dI cy ad B hB0 (Int.le_trans hB1 (by decide)) qr s1   0 (by decide) (by decide) x17 (show 0 ≤ x17.toInt by first | with_reducible assumption | omega) (show x17.toInt ≤ 400 by first | with_reducible assumption | omega) w250 H.size hT ) (cwV 2 hC.2.2.2.2 uV_RX12_115 rfl rfl rfl (by decide +kernel) ⟨Nat.le_of_ble_eq_true rfl, Nat.le_of_ble_eq_true rfl⟩) rfl hl.1 rfl (Nat.le_of_ble_eq_true rfl) dX12_clauseHere_97 (fun r442 w444 H locs hp443 hw => ?_)
      obtain ⟨hT, k445, hv449, hg448⟩ := hp443
      try simp only [show (0 : Int32).toInt = 0 by decide] at hv449
      have hR := RL_FE k445 (fun _ => rfl) (fun _ => rfl) (fun _ => rfl) (fun _ => rfl) hR
      have hF := hF.tr k445 (by decide)
      have c450 := k445.gi kM_at0 (by decide) c260
      have c451 := k445.gi kM_at0 (by decide) c261
      have c452 := k445.gi kM_at0 (by decide) c262
      have c453 := k445.gi kM_at3 rfl c263
      have c454 := k445.gi kM_at5 rfl c264
      have c455 := k445.gi kM_at0 (by decide) c265
      obtain ⟨rfl, ⟨x446, c447, rx446, tx446⟩⟩ := hg448
      replace hM := hM.call (r' := 0) hv449 (by decide)
      exact tk_zret hC hr rfl hlocks hK ⟨hT, hF, hM.ret (by decide), (Or.inl ⟨rfl, ⟨x15, c455, (show 1 ≤ x15.toInt by first | with_reducible assumption | omega), (show x15.toInt ≤ 400 by first | with_reducible assumption | omega)⟩, ⟨x446, c447, (show 1 ≤ x446.toInt by first | with_reducible assumption | omega), (show x446.toInt ≤ 3205 by first | with_reducible assumption | omega)⟩, ⟨f0_, c450, (show 0 ≤ f0_.toInt from rf0_), (show f0_.toInt ≤ 5 from tf0_)⟩, ⟨f2_, c452, (show 0 ≤ f2_.toInt from rf2_), (show f2_.toInt ≤ 12 from pr2_)⟩, hR, (by simp only [c450, cf0_, cf2_, c452]; omega), (by simp only [c450, cf0_, c452]; omega)⟩)⟩ hw dX12_clauseHere_100
  · replace hM := hM.call (r' := (-1)) hv24 (by decide)
    obtain ⟨x30, c31, rx30, tx30⟩ := hT.rdi (lo := 0) (hi := 400) (k := 14) kM_at0 (by decide) rfl
    have g22 : (x30.toInt = x1.toInt ∨ (gi w0 1 (x1.toInt).toNat).toInt = 32) := by have q := g22; simp only [cf0_, c25, c2, c31] at q; first | with_reducible exact q | omega
    refine lv_pop hx hb dX12_clauseHere_4 rfl ?_
    refine lv_aload_n hx hb dX12_clauseHere_5 rfl (lv_at hl 0 rfl) ?_
    refine tk_geti hC hK hw hT hinX12 kM_at0 (by decide) rfl 14 (by decide) (List.mem_cons_of_mem _ uw_19_18) rfl rfl dX12_clauseHere_6 (fun x456 c457 rx456 tx456 => ?_)
    refine wk_top x30 (c457.symm.trans c31) ?_
    replace hM := hM.rd (sI_at c31)
    refine lv_istore_n (lv' := [(1, .int x30), (0, .ref (ad 0))]) hx hb dX12_clauseHere_9 rfl hl (by decide) rfl (fun ls hl => ?_)
    refine lv_aload_n hx hb dX12_clauseHere_10 rfl (lv_at hl 1 rfl) ?_
    refine tk_geti hC hK hw hT hinX12 kM_at0 (by decide) rfl 17 (by decide) (List.mem_cons_of_mem _ uw_19_7) rfl rfl dX12_clauseHere_11 (fun x458 c459 rx458 tx458 => ?_)
    refine wk_top f0_ (c459.symm.trans c25) ?_
    replace hM := hM.rd (sI_at c25)
    refine lv_bipush (v := 6) hx hb dX12_clauseHere_14 (by decide) ?_
    refine lv_icmp_ne (tgt := 23) hx hb dX12_clauseHere_16 (by decide) (fun _ => ?_) (fun c => absurd (show f0_.toInt = (6 : Int) from wk_eq.mp c) (by omega))
    replace hM := hM.pos (by omega)
    refine lv_iconst (v := 0) hx hb dX12_clauseHere_23 (by decide) ?_
    refine lv_istore_n (lv' := [(2, .int 0), (1, .int x30), (0, .ref (ad 0))]) hx hb dX12_clauseHere_24 rfl hl (by decide) rfl (fun ls hl => ?_)
    refine lv_iload_n hx hb dX12_clauseHere_25 rfl (lv_at hl 0 rfl) ?_
    refine lv_if_eq (tgt := 77) hx hb dX12_clauseHere_26 (by decide) (fun _ => ?_) (fun c => absurd (by decide) c)
    replace hM := hM.pos (by decide)
    refine lv_aload_n hx hb dX12_clauseHere_77 rfl (lv_at hl 2 rfl) ?_
    refine tk_Vi hC hK hw hT hA hE hSR kM_at0 (by decide) rfl (kz_X12_doingSort_1 l adK adV dC dI cy ad B hB0 (Int.le_trans hB1 (by decide)) qr s1    w5 H.size hT ) (cwV 0 hC.2.2.2.2 uV_RX12_264 rfl rfl rfl (by decide +kernel) ⟨Nat.le_of_ble_eq_true rfl, Nat.le_of_ble_eq_true rfl⟩) rfl hl.1 rfl (Nat.le_of_ble_eq_true rfl) dX12_clauseHere_78 (fun r460 w462 H locs hp461 hw => ?_)
    obtain ⟨hT, k463, hv471, hg470⟩ := hp461
    have hR := RL_FE k463 (fun _ => rfl) (fun _ => rfl) (fun _ => rfl) (fun _ => rfl) hR
    have hF := hF.tr k463 (by decide)
    have c472 := k463.gi kM_at0 (by decide) c25
    have c473 := k463.gi kM_at0 (by decide) c26
    have c474 := k463.gi kM_at0 (by decide) c27
    have c475 := k463.gi kM_at3 rfl c28
    have c476 := k463.gi kM_at5 rfl c29
    have c477 := k463.gi kM_at0 (by decide) c21
    rcases hg470 with ⟨g464, g465, ⟨x466, c467, rx466, tx466⟩⟩ | ⟨rfl, ⟨x468, c469, rx468, tx468⟩⟩
    · replace hM := hM.call hv471 rfl
      have ex466 : x466.toInt = x20.toInt := by rw [← c477.symm.trans c467]
      refine lv_if_lt (tgt := 88) hx hb dX12_clauseHere_81 (by decide) (fun c => absurd c (fun h => absurd (show r460.toInt < (0 : Int) from wk_lt.mp h) (by omega))) (fun _ => ?_)
      replace hM := hM.neg (by omega)
      refine lv_iconst (v := 1) hx hb dX12_clauseHere_84 (by decide) ?_
      refine lv_goto (tgt := 89) hx hb dX12_clauseHere_85 (by decide) ?_
      refine lv_istore_n (lv' := [(3, .int 1), (2, .int 0), (1, .int x30), (0, .ref (ad 0))]) hx hb dX12_clauseHere_89 rfl hl (by decide) rfl (fun ls hl => ?_)
      refine lv_iload_n hx hb dX12_clauseHere_90 rfl (lv_at hl 0 rfl) ?_
      refine lv_if_ne (tgt := 101) hx hb dX12_clauseHere_91 (by decide) (fun _ => ?_) (fun c => absurd c (by decide))
      replace hM := hM.pos (by decide)
      refine lv_aload_n hx hb dX12_clauseHere_101 rfl (lv_at hl 3 rfl) ?_
      refine tk_geti hC hK hw hT hinX12 kM_at0 (by decide) rfl 20 (by decide) (List.mem_cons_of_mem _ uw_19_17) rfl rfl dX12_clauseHere_102 (fun x478 c479 rx478 tx478 => ?_)
      refine wk_top f2_ (c479.symm.trans c474) ?_
      replace hM := hM.rd (sI_at c474)
      refine lv_iload_n hx hb dX12_clauseHere_105 rfl (lv_at hl 1 rfl) ?_
      refine lv_if_eq (tgt := 114) hx hb dX12_clauseHere_106 (by decide) (fun _ => ?_) (fun c => absurd (by decide) c)
      replace hM := hM.pos (by decide)
      refine lv_bipush (v := 12) hx hb dX12_clauseHere_114 (by decide) ?_
      refine lv_icmp_ne (tgt := 126) hx hb dX12_clauseHere_116 (by decide) (fun c480 => ?_) (fun c480 => ?_)
      · have c480 : ¬ f2_.toInt = (12 : Int) := wk_eqF c480
        replace hM := hM.pos c480
        refine lv_aload_n hx hb dX12_clauseHere_126 rfl (lv_at hl 3 rfl) ?_
        refine lv_dup hx hb dX12_clauseHere_127 rfl ?_
        refine tk_geti hC hK hw hT hinX12 kM_at0 (by decide) rfl 20 (by decide) (List.mem_cons_of_mem _ uw_19_17) rfl rfl dX12_clauseHere_128 (fun x481 c482 rx481 tx481 => ?_)
        refine wk_top f2_ (c482.symm.trans c474) ?_
        replace hM := hM.rd (sI_at c474)
        refine lv_iconst (v := 1) hx hb dX12_clauseHere_131 (by decide) ?_
        refine lv_iadd hx hb dX12_clauseHere_132 ?_
        refine lv_topi (fun x483 ex483 => ?_)
        have ezx483 := ex483
        have ex483 : x483.toInt = f2_.toInt + (1 : Int) := by rw [ex483]; exact wk_add (show (-2147483648) ≤ f2_.toInt + (1 : Int) by omega) (show f2_.toInt + (1 : Int) ≤ 2147483647 by omega)
        replace hM := hM.lt ex483.symm
        refine tk_puti hC hK hw hT hinX12 tyX12_ok nmX12 kM_at0 (by decide) rfl rfl 20 (by decide) (List.mem_cons_of_mem _ uw_19_17) rfl rfl rfl rfl (show 0 ≤ x483.toInt by first | with_reducible assumption | omega) (show x483.toInt ≤ 32 by first | with_reducible assumption | omega) dX12_clauseHere_133 (fun H locs w484 hw hT k486 c485 => ?_)
        replace hM := hM.wr (sI_up k486 c485)
        have hR := RL_F1 k486 (by decide) (by decide) (by decide) (by decide) hR
        have hF := hF.put kM_at0 (k := 20) (by decide) k486
        have c487 := k486.gi (Or.inr (by decide)) c472
        have c488 := k486.gi (Or.inr (by decide)) c473
        have c489 := k486.gi (Or.inl (tk_ne kM_at3 kM_at0 (by decide))) c475
        have c490 := k486.gi (Or.inl (tk_ne kM_at5 kM_at0 (by decide))) c476
        have c491 := k486.gi (Or.inr (by decide)) c477
        refine lv_iload_n hx hb dX12_clauseHere_136 rfl (lv_at hl 1 rfl) ?_
        refine lv_if_eq (tgt := 148) hx hb dX12_clauseHere_137 (by decide) (fun _ => ?_) (fun c => absurd (by decide) c)
        replace hM := hM.pos (by decide)
        refine lv_aload_n hx hb dX12_clauseHere_148 rfl (lv_at hl 3 rfl) ?_
        refine lv_aload_n hx hb dX12_clauseHere_149 rfl (lv_at hl 3 rfl) ?_
        refine tk_Vi hC hK hw hT hA hE hSR kM_at0 (by decide) rfl (kz_X12_doingSort_1 l adK adV dC dI cy ad B hB0 (Int.le_trans hB1 (by decide)) qr s1    w484 H.size hT ) (cwV 0 hC.2.2.2.2 uV_RX12_264 rfl rfl rfl (by decide +kernel) ⟨Nat.le_of_ble_eq_true rfl, Nat.le_of_ble_eq_true rfl⟩) rfl hl.1 rfl (Nat.le_of_ble_eq_true rfl) dX12_clauseHere_150 (fun r492 w494 H locs hp493 hw => ?_)
        obtain ⟨hT, k495, hv503, hg502⟩ := hp493
        have hR := RL_FE k495 (fun _ => rfl) (fun _ => rfl) (fun _ => rfl) (fun _ => rfl) hR
        have hF := hF.tr k495 (by decide)
        have c504 := k495.gi kM_at0 (by decide) c487
        have c505 := k495.gi kM_at0 (by decide) c488
        have c506 := k495.gi kM_at3 rfl c489
        have c507 := k495.gi kM_at5 rfl c490
        have c508 := k495.gi kM_at0 (by decide) c491
        have c509 := k495.gi kM_at0 (by decide) c485
        rcases hg502 with ⟨g496, g497, ⟨x498, c499, rx498, tx498⟩⟩ | ⟨rfl, ⟨x500, c501, rx500, tx500⟩⟩
        · replace hM := hM.call hv503 rfl
          have ex498 : x498.toInt = x20.toInt := by rw [← c508.symm.trans c499]
          refine tk_Vi hC hK hw hT hA hE hSR kM_at0 (by decide) rfl (kz_X12_isDoingHere_1 l adK adV dC dI cy ad B hB0 (Int.le_trans hB1 (by decide)) qr s1   r492 (show 0 ≤ r492.toInt by first | with_reducible assumption | omega) (show r492.toInt ≤ 3 by first | with_reducible assumption | omega) w494 H.size hT f0_ c504 (show 0 ≤ f0_.toInt from rf0_) (show f0_.toInt ≤ 5 from tf0_) f1_ c505 (show 0 ≤ f1_.toInt from rf1_) (show f1_.toInt ≤ 60 from tf1_) f3_ c506 (show 0 ≤ f3_.toInt from rf3_) (show f3_.toInt ≤ 400 from tf3_) f4_ c507 (show 0 ≤ f4_.toInt from rf4_) (show f4_.toInt ≤ 12 from tf4_) (show 3 * f3_.toInt ≤ 14 * f1_.toInt from pr0_) (show f3_.toInt ≤ 280 from pr3_) (show f4_.toInt ≤ 11 by first | with_reducible assumption | omega) hR) (cwV 1 hC.2.2.2.2 uV_RX12_273 rfl rfl rfl (by decide +kernel) ⟨Nat.le_of_ble_eq_true rfl, Nat.le_of_ble_eq_true rfl⟩) rfl hl.1 rfl (Nat.le_of_ble_eq_true rfl) dX12_clauseHere_153 (fun r510 w512 H locs hp511 hw => ?_)
          obtain ⟨hT, k513, hv547, hg546⟩ := hp511
          have hF := hF.tr k513 (by decide)
          have c548 := k513.gi kM_at0 (by decide) c504
          have c549 := k513.gi kM_at0 (by decide) c508
          have c550 := k513.gi kM_at0 (by decide) c509
          rcases hg546 with ⟨rfl, ⟨x514, c515, rx514, tx514⟩, ⟨x516, c517, rx516, tx516⟩, ⟨x518, c519, rx518, tx518⟩, ⟨x520, c521, rx520, tx520⟩, hq522⟩ | ⟨rfl, ⟨x523, c524, rx523, tx523⟩, ⟨x525, c526, rx525, tx525⟩, ⟨x527, c528, rx527, tx527⟩, ⟨x529, c530, rx529, tx529⟩, hq531⟩ | ⟨rfl, ⟨x532, c533, rx532, tx532⟩, ⟨x534, c535, rx534, tx534⟩, hq536, g537, g538⟩ | ⟨rfl, ⟨x539, c540, rx539, tx539⟩, ⟨x541, c542, rx541, tx541⟩, hq543, g544, g545⟩
          · replace hM := hM.call (r' := 0) hv547 (by decide)
            have ex514 : x514.toInt = x20.toInt := by rw [← c549.symm.trans c515]
            have ex518 : x518.toInt = f0_.toInt := by rw [← c548.symm.trans c519]
            obtain ⟨x551, c552, rx551, tx551⟩ := hT.rda (lo := 0) (hi := 400) (i := (f0_.toInt).toNat) kM_at3 rfl rfl (by omega)
            obtain ⟨x553, c554, rx553, tx553⟩ := hT.rdi (lo := 0) (hi := 60) (k := 18) kM_at0 (by decide) rfl
            obtain ⟨x555, c556, rx555, tx555⟩ := hT.rda (lo := 0) (hi := 12) (i := (f0_.toInt).toNat) kM_at5 rfl rfl (by omega)
            have hR := hq522
            exact tk_zret hC hr rfl hlocks hK ⟨hT, hF, hM.ret (by decide), (Or.inl ⟨rfl, ⟨x20, c549, (show 1 ≤ x20.toInt by first | with_reducible assumption | omega), (show x20.toInt ≤ 400 by first | with_reducible assumption | omega)⟩, ⟨x516, c517, (show 1 ≤ x516.toInt by first | with_reducible assumption | omega), (show x516.toInt ≤ 3205 by first | with_reducible assumption | omega)⟩, ⟨f0_, c548, (show 0 ≤ f0_.toInt from rf0_), (show f0_.toInt ≤ 5 from tf0_)⟩, ⟨x483, c550, (show 0 ≤ x483.toInt by first | with_reducible assumption | omega), (show x483.toInt ≤ 12 by first | with_reducible assumption | omega)⟩, hR, (by simp only [c548, cf0_, cf2_, c550]; omega), (by simp only [c548, cf0_, c550]; omega)⟩)⟩ hw dX12_clauseHere_156
          · replace hM := hM.call (r' := 0) hv547 (by decide)
            have ex523 : x523.toInt = x20.toInt := by rw [← c549.symm.trans c524]
            have ex527 : x527.toInt = f0_.toInt := by rw [← c548.symm.trans c528]
            obtain ⟨x557, c558, rx557, tx557⟩ := hT.rda (lo := 0) (hi := 400) (i := (f0_.toInt).toNat) kM_at3 rfl rfl (by omega)
            obtain ⟨x559, c560, rx559, tx559⟩ := hT.rdi (lo := 0) (hi := 60) (k := 18) kM_at0 (by decide) rfl
            obtain ⟨x561, c562, rx561, tx561⟩ := hT.rda (lo := 0) (hi := 12) (i := (f0_.toInt).toNat) kM_at5 rfl rfl (by omega)
            have hR := hq531
            exact tk_zret hC hr rfl hlocks hK ⟨hT, hF, hM.ret (by decide), (Or.inr (Or.inl ⟨rfl, ⟨x20, c549, (show 0 ≤ x20.toInt by first | with_reducible assumption | omega), (show x20.toInt ≤ 400 by first | with_reducible assumption | omega)⟩, ⟨x525, c526, (show 1 ≤ x525.toInt by first | with_reducible assumption | omega), (show x525.toInt ≤ 3205 by first | with_reducible assumption | omega)⟩, ⟨f0_, c548, (show 0 ≤ f0_.toInt from rf0_), (show f0_.toInt ≤ 5 from tf0_)⟩, ⟨x483, c550, (show 0 ≤ x483.toInt by first | with_reducible assumption | omega), (show x483.toInt ≤ 12 by first | with_reducible assumption | omega)⟩, hR, (by simp only [c548, cf0_, cf2_, c550]; omega), (by simp only [c548, cf0_, c550]; omega)⟩))⟩ hw dX12_clauseHere_156
          · replace hM := hM.call (r' := 1) hv547 (by decide)
            have ex532 : x532.toInt = x20.toInt := by rw [← c549.symm.trans c533]
            have ex534 : x534.toInt = f0_.toInt := by rw [← c548.symm.trans c535]
            obtain ⟨x563, c564, rx563, tx563⟩ := hT.rda (lo := 0) (hi := 400) (i := (f0_.toInt).toNat) kM_at3 rfl rfl (by omega)
            obtain ⟨x565, c566, rx565, tx565⟩ := hT.rdi (lo := 0) (hi := 60) (k := 18) kM_at0 (by decide) rfl
            obtain ⟨x567, c568, rx567, tx567⟩ := hT.rda (lo := 0) (hi := 12) (i := (f0_.toInt).toNat) kM_at5 rfl rfl (by omega)
            have g537 : 3 * x563.toInt ≤ 14 * x565.toInt := by have q := g537; simp only [c504, c548, c564, c566] at q; first | with_reducible exact q | omega
            have g538 : x567.toInt = f4_.toInt + 1 := by have q := g538; simp only [c504, c548, c507, c568] at q; first | with_reducible exact q | omega
            have hR := hq536
            exact tk_zret hC hr rfl hlocks hK ⟨hT, hF, hM.ret (by decide), (Or.inr (Or.inr (Or.inl ⟨rfl, ⟨x20, c549, (show 1 ≤ x20.toInt by first | with_reducible assumption | omega), (show x20.toInt ≤ 400 by first | with_reducible assumption | omega)⟩, ⟨f0_, c548, (show 0 ≤ f0_.toInt from rf0_), (show f0_.toInt ≤ 5 from tf0_)⟩, ⟨x483, c550, (show 1 ≤ x483.toInt by first | with_reducible assumption | omega), (show x483.toInt ≤ 12 by first | with_reducible assumption | omega)⟩, hR, (by simp only [c548, cf0_, c564, c566]; omega), (by simp only [c548, cf0_, c568, c550]; omega), (by simp only [c548, cf0_, cf2_, c550]; omega), (by simp only [c548, cf0_, c550]; omega)⟩)))⟩ hw dX12_clauseHere_156
          · replace hM := hM.call (r' := 1) hv547 (by decide)
            have ex539 : x539.toInt = x20.toInt := by rw [← c549.symm.trans c540]
            have ex541 : x541.toInt = f0_.toInt := by rw [← c548.symm.trans c542]
            obtain ⟨x569, c570, rx569, tx569⟩ := hT.rda (lo := 0) (hi := 400) (i := (f0_.toInt).toNat) kM_at3 rfl rfl (by omega)
            obtain ⟨x571, c572, rx571, tx571⟩ := hT.rdi (lo := 0) (hi := 60) (k := 18) kM_at0 (by decide) rfl
            obtain ⟨x573, c574, rx573, tx573⟩ := hT.rda (lo := 0) (hi := 12) (i := (f0_.toInt).toNat) kM_at5 rfl rfl (by omega)
            have g544 : 3 * x569.toInt ≤ 14 * x571.toInt := by have q := g544; simp only [c504, c548, c570, c572] at q; first | with_reducible exact q | omega
            have g545 : x573.toInt = f4_.toInt + 1 := by have q := g545; simp only [c504, c548, c507, c574] at q; first | with_reducible exact q | omega
            have hR := hq543
            exact tk_zret hC hr rfl hlocks hK ⟨hT, hF, hM.ret (by decide), (Or.inr (Or.inr (Or.inr ⟨rfl, ⟨x20, c549, (show 0 ≤ x20.toInt by first | with_reducible assumption | omega), (show x20.toInt ≤ 400 by first | with_reducible assumption | omega)⟩, ⟨f0_, c548, (show 0 ≤ f0_.toInt from rf0_), (show f0_.toInt ≤ 5 from tf0_)⟩, ⟨x483, c550, (show 1 ≤ x483.toInt by first | with_reducible assumption | omega), (show x483.toInt ≤ 12 by first | with_reducible assumption | omega)⟩, hR, (by simp only [c548, cf0_, c570, c572]; omega), (by simp only [c548, cf0_, c574, c550]; omega), (by simp only [c548, cf0_, cf2_, c550]; omega), (by simp only [c548, cf0_, c550]; omega)⟩)))⟩ hw dX12_clauseHere_156
        · replace hM := hM.call (r' := (-1)) hv503 (by decide)
          have ex500 : x500.toInt = x20.toInt := by rw [← c508.symm.trans c501]
          refine tk_Vi hC hK hw hT hA hE hSR kM_at0 (by decide) rfl (kz_X12_isDoingHere_2 l adK adV dC dI cy ad B hB0 (Int.le_trans hB1 (by decide)) qr s1    w494 H.size hT f0_ c504 (show 0 ≤ f0_.toInt from rf0_) (show f0_.toInt ≤ 5 from tf0_) f1_ c505 (show 0 ≤ f1_.toInt from rf1_) (show f1_.toInt ≤ 60 from tf1_) f3_ c506 (show 0 ≤ f3_.toInt from rf3_) (show f3_.toInt ≤ 400 from tf3_) f4_ c507 (show 0 ≤ f4_.toInt from rf4_) (show f4_.toInt ≤ 12 from tf4_) (show 3 * f3_.toInt ≤ 14 * f1_.toInt from pr0_) (show f3_.toInt ≤ 280 from pr3_) (show f4_.toInt ≤ 11 by first | with_reducible assumption | omega) hR) (cwV 1 hC.2.2.2.2 uV_RX12_273 rfl rfl rfl (by decide +kernel) ⟨Nat.le_of_ble_eq_true rfl, Nat.le_of_ble_eq_true rfl⟩) rfl hl.1 rfl (Nat.le_of_ble_eq_true rfl) dX12_clauseHere_153 (fun r575 w577 H locs hp576 hw => ?_)
          obtain ⟨hT, k578, hv612, hg611⟩ := hp576
          have hF := hF.tr k578 (by decide)
          have c613 := k578.gi kM_at0 (by decide) c504
          have c614 := k578.gi kM_at0 (by decide) c508
          have c615 := k578.gi kM_at0 (by decide) c509
          rcases hg611 with ⟨rfl, ⟨x579, c580, rx579, tx579⟩, ⟨x581, c582, rx581, tx581⟩, ⟨x583, c584, rx583, tx583⟩, ⟨x585, c586, rx585, tx585⟩, hq587⟩ | ⟨rfl, ⟨x588, c589, rx588, tx588⟩, ⟨x590, c591, rx590, tx590⟩, ⟨x592, c593, rx592, tx592⟩, ⟨x594, c595, rx594, tx594⟩, hq596⟩ | ⟨rfl, ⟨x597, c598, rx597, tx597⟩, ⟨x599, c600, rx599, tx599⟩, hq601, g602, g603⟩ | ⟨rfl, ⟨x604, c605, rx604, tx604⟩, ⟨x606, c607, rx606, tx606⟩, hq608, g609, g610⟩
          · replace hM := hM.call (r' := 0) hv612 (by decide)
            have ex579 : x579.toInt = x20.toInt := by rw [← c614.symm.trans c580]
            have ex583 : x583.toInt = f0_.toInt := by rw [← c613.symm.trans c584]
            obtain ⟨x616, c617, rx616, tx616⟩ := hT.rda (lo := 0) (hi := 400) (i := (f0_.toInt).toNat) kM_at3 rfl rfl (by omega)
            obtain ⟨x618, c619, rx618, tx618⟩ := hT.rdi (lo := 0) (hi := 60) (k := 18) kM_at0 (by decide) rfl
            obtain ⟨x620, c621, rx620, tx620⟩ := hT.rda (lo := 0) (hi := 12) (i := (f0_.toInt).toNat) kM_at5 rfl rfl (by omega)
            have hR := hq587
            exact tk_zret hC hr rfl hlocks hK ⟨hT, hF, hM.ret (by decide), (Or.inl ⟨rfl, ⟨x20, c614, (show 1 ≤ x20.toInt by first | with_reducible assumption | omega), (show x20.toInt ≤ 400 by first | with_reducible assumption | omega)⟩, ⟨x581, c582, (show 1 ≤ x581.toInt by first | with_reducible assumption | omega), (show x581.toInt ≤ 3205 by first | with_reducible assumption | omega)⟩, ⟨f0_, c613, (show 0 ≤ f0_.toInt from rf0_), (show f0_.toInt ≤ 5 from tf0_)⟩, ⟨x483, c615, (show 0 ≤ x483.toInt by first | with_reducible assumption | omega), (show x483.toInt ≤ 12 by first | with_reducible assumption | omega)⟩, hR, (by simp only [c613, cf0_, cf2_, c615]; omega), (by simp only [c613, cf0_, c615]; omega)⟩)⟩ hw dX12_clauseHere_156
          · replace hM := hM.call (r' := 0) hv612 (by decide)
            have ex588 : x588.toInt = x20.toInt := by rw [← c614.symm.trans c589]
            have ex592 : x592.toInt = f0_.toInt := by rw [← c613.symm.trans c593]
            obtain ⟨x622, c623, rx622, tx622⟩ := hT.rda (lo := 0) (hi := 400) (i := (f0_.toInt).toNat) kM_at3 rfl rfl (by omega)
            obtain ⟨x624, c625, rx624, tx624⟩ := hT.rdi (lo := 0) (hi := 60) (k := 18) kM_at0 (by decide) rfl
            obtain ⟨x626, c627, rx626, tx626⟩ := hT.rda (lo := 0) (hi := 12) (i := (f0_.toInt).toNat) kM_at5 rfl rfl (by omega)
            have hR := hq596
            exact tk_zret hC hr rfl hlocks hK ⟨hT, hF, hM.ret (by decide), (Or.inr (Or.inl ⟨rfl, ⟨x20, c614, (show 0 ≤ x20.toInt by first | with_reducible assumption | omega), (show x20.toInt ≤ 400 by first | with_reducible assumption | omega)⟩, ⟨x590, c591, (show 1 ≤ x590.toInt by first | with_reducible assumption | omega), (show x590.toInt ≤ 3205 by first | with_reducible assumption | omega)⟩, ⟨f0_, c613, (show 0 ≤ f0_.toInt from rf0_), (show f0_.toInt ≤ 5 from tf0_)⟩, ⟨x483, c615, (show 0 ≤ x483.toInt by first | with_reducible assumption | omega), (show x483.toInt ≤ 12 by first | with_reducible assumption | omega)⟩, hR, (by simp only [c613, cf0_, cf2_, c615]; omega), (by simp only [c613, cf0_, c615]; omega)⟩))⟩ hw dX12_clauseHere_156
          · replace hM := hM.call (r' := 1) hv612 (by decide)
            have ex597 : x597.toInt = x20.toInt := by rw [← c614.symm.trans c598]
            have ex599 : x599.toInt = f0_.toInt := by rw [← c613.symm.trans c600]
            obtain ⟨x628, c629, rx628, tx628⟩ := hT.rda (lo := 0) (hi := 400) (i := (f0_.toInt).toNat) kM_at3 rfl rfl (by omega)
            obtain ⟨x630, c631, rx630, tx630⟩ := hT.rdi (lo := 0) (hi := 60) (k := 18) kM_at0 (by decide) rfl
            obtain ⟨x632, c633, rx632, tx632⟩ := hT.rda (lo := 0) (hi := 12) (i := (f0_.toInt).toNat) kM_at5 rfl rfl (by omega)
            have g602 : 3 * x628.toInt ≤ 14 * x630.toInt := by have q := g602; simp only [c504, c613, c629, c631] at q; first | with_reducible exact q | omega
            have g603 : x632.toInt = f4_.toInt + 1 := by have q := g603; simp only [c504, c613, c507, c633] at q; first | with_reducible exact q | omega
            have hR := hq601
            exact tk_zret hC hr rfl hlocks hK ⟨hT, hF, hM.ret (by decide), (Or.inr (Or.inr (Or.inl ⟨rfl, ⟨x20, c614, (show 1 ≤ x20.toInt by first | with_reducible assumption | omega), (show x20.toInt ≤ 400 by first | with_reducible assumption | omega)⟩, ⟨f0_, c613, (show 0 ≤ f0_.toInt from rf0_), (show f0_.toInt ≤ 5 from tf0_)⟩, ⟨x483, c615, (show 1 ≤ x483.toInt by first | with_reducible assumption | omega), (show x483.toInt ≤ 12 by first | with_reducible assumption | omega)⟩, hR, (by simp only [c613, cf0_, c629, c631]; omega), (by simp only [c613, cf0_, c633, c615]; omega), (by simp only [c613, cf0_, cf2_, c615]; omega), (by simp only [c613, cf0_, c615]; omega)⟩)))⟩ hw dX12_clauseHere_156
          · replace hM := hM.call (r' := 1) hv612 (by decide)
            have ex604 : x604.toInt = x20.toInt := by rw [← c614.symm.trans c605]
            have ex606 : x606.toInt = f0_.toInt := by rw [← c613.symm.trans c607]
            obtain ⟨x634, c635, rx634, tx634⟩ := hT.rda (lo := 0) (hi := 400) (i := (f0_.toInt).toNat) kM_at3 rfl rfl (by omega)
            obtain ⟨x636, c637, rx636, tx636⟩ := hT.rdi (lo := 0) (hi := 60) (k := 18) kM_at0 (by decide) rfl
            obtain ⟨x638, c639, rx638, tx638⟩ := hT.rda (lo := 0) (hi := 12) (i := (f0_.toInt).toNat) kM_at5 rfl rfl (by omega)
            have g609 : 3 * x634.toInt ≤ 14 * x636.toInt := by have q := g609; simp only [c504, c613, c635, c637] at q; first | with_reducible exact q | omega
            have g610 : x638.toInt = f4_.toInt + 1 := by have q := g610; simp only [c504, c613, c507, c639] at q; first | with_reducible exact q | omega
            have hR := hq608
            exact tk_zret hC hr rfl hlocks hK ⟨hT, hF, hM.ret (by decide), (Or.inr (Or.inr (Or.inr ⟨rfl, ⟨x20, c614, (show 0 ≤ x20.toInt by first | with_reducible assumption | omega), (show x20.toInt ≤ 400 by first | with_reducible assumption | omega)⟩, ⟨f0_, c613, (show 0 ≤ f0_.toInt from rf0_), (show f0_.toInt ≤ 5 from tf0_)⟩, ⟨x483, c615, (show 1 ≤ x483.toInt by first | with_reducible assumption | omega), (show x483.toInt ≤ 12 by first | with_reducible assumption | omega)⟩, hR, (by simp only [c613, cf0_, c635, c637]; omega), (by simp only [c613, cf0_, c639, c615]; omega), (by simp only [c613, cf0_, cf2_, c615]; omega), (by simp only [c613, cf0_, c615]; omega)⟩)))⟩ hw dX12_clauseHere_156
      · have c480 : f2_.toInt = (12 : Int) := wk_eq.mp c480
        replace hM := hM.neg (fun q => q c480)
        refine lv_aload_n hx hb dX12_clauseHere_119 rfl (lv_at hl 3 rfl) ?_
        refine lv_iconst (v := 4) hx hb dX12_clauseHere_120 (by decide) ?_
        refine lv_iload_n hx hb dX12_clauseHere_121 rfl (lv_at hl 2 rfl) ?_
        refine tk_Vi hC hK hw hT hA hE hSR kM_at0 (by decide) rfl (kz_X12_fails_1 l adK adV dC dI cy ad B hB0 (Int.le_trans hB1 (by decide)) qr s1   4 (by decide) (by decide) x30 (show 0 ≤ x30.toInt by first | with_reducible assumption | omega) (show x30.toInt ≤ 400 by first | with_reducible assumption | omega) w462 H.size hT ) (cwV 2 hC.2.2.2.2 uV_RX12_115 rfl rfl rfl (by decide +kernel) ⟨Nat.le_of_ble_eq_true rfl, Nat.le_of_ble_eq_true rfl⟩) rfl hl.1 rfl (Nat.le_of_ble_eq_true rfl) dX12_clauseHere_122 (fun r640 w642 H locs hp641 hw => ?_)
        obtain ⟨hT, k643, hv647, hg646⟩ := hp641
        try simp only [show (4 : Int32).toInt = 4 by decide] at hv647
        have hR := RL_FE k643 (fun _ => rfl) (fun _ => rfl) (fun _ => rfl) (fun _ => rfl) hR
        have hF := hF.tr k643 (by decide)
        have c648 := k643.gi kM_at0 (by decide) c472
        have c649 := k643.gi kM_at0 (by decide) c473
        have c650 := k643.gi kM_at0 (by decide) c474
        have c651 := k643.gi kM_at3 rfl c475
        have c652 := k643.gi kM_at5 rfl c476
        have c653 := k643.gi kM_at0 (by decide) c477
        obtain ⟨rfl, ⟨x644, c645, rx644, tx644⟩⟩ := hg646
        replace hM := hM.call (r' := 0) hv647 (by decide)
        exact tk_zret hC hr rfl hlocks hK ⟨hT, hF, hM.ret (by decide), (Or.inr (Or.inl ⟨rfl, ⟨x20, c653, (show 0 ≤ x20.toInt by first | with_reducible assumption | omega), (show x20.toInt ≤ 400 by first | with_reducible assumption | omega)⟩, ⟨x644, c645, (show 1 ≤ x644.toInt by first | with_reducible assumption | omega), (show x644.toInt ≤ 3205 by first | with_reducible assumption | omega)⟩, ⟨f0_, c648, (show 0 ≤ f0_.toInt from rf0_), (show f0_.toInt ≤ 5 from tf0_)⟩, ⟨f2_, c650, (show 0 ≤ f2_.toInt from rf2_), (show f2_.toInt ≤ 12 from pr2_)⟩, hR, (by simp only [c648, cf0_, cf2_, c650]; omega), (by simp only [c648, cf0_, c650]; omega)⟩))⟩ hw dX12_clauseHere_125
    · replace hM := hM.call (r' := (-1)) hv471 (by decide)
      have ex468 : x468.toInt = x20.toInt := by rw [← c477.symm.trans c469]
      refine lv_if_lt (tgt := 88) hx hb dX12_clauseHere_81 (by decide) (fun _ => ?_) (fun c => absurd (by decide) c)
      replace hM := hM.pos (by decide)
      refine lv_iconst (v := 0) hx hb dX12_clauseHere_88 (by decide) ?_
      refine lv_istore_n (lv' := [(3, .int 0), (2, .int 0), (1, .int x30), (0, .ref (ad 0))]) hx hb dX12_clauseHere_89 rfl hl (by decide) rfl (fun ls hl => ?_)
      refine lv_iload_n hx hb dX12_clauseHere_90 rfl (lv_at hl 0 rfl) ?_
      refine lv_if_ne (tgt := 101) hx hb dX12_clauseHere_91 (by decide) (fun c => absurd (by decide) c) (fun _ => ?_)
      replace hM := hM.neg (by decide)
      refine lv_aload_n hx hb dX12_clauseHere_94 rfl (lv_at hl 3 rfl) ?_
      refine lv_iconst (v := 0) hx hb dX12_clauseHere_95 (by decide) ?_
      refine lv_iload_n hx hb dX12_clauseHere_96 rfl (lv_at hl 2 rfl) ?_
      refine tk_Vi hC hK hw hT hA hE hSR kM_at0 (by decide) rfl (kz_X12_fails_1 l adK adV dC dI cy ad B hB0 (Int.le_trans hB1 (by decide)) qr s1   0 (by decide) (by decide) x30 (show 0 ≤ x30.toInt by first | with_reducible assumption | omega) (show x30.toInt ≤ 400 by first | with_reducible assumption | omega) w462 H.size hT ) (cwV 2 hC.2.2.2.2 uV_RX12_115 rfl rfl rfl (by decide +kernel) ⟨Nat.le_of_ble_eq_true rfl, Nat.le_of_ble_eq_true rfl⟩) rfl hl.1 rfl (Nat.le_of_ble_eq_true rfl) dX12_clauseHere_97 (fun r654 w656 H locs hp655 hw => ?_)
      obtain ⟨hT, k657, hv661, hg660⟩ := hp655
      try simp only [show (0 : Int32).toInt = 0 by decide] at hv661
      have hR := RL_FE k657 (fun _ => rfl) (fun _ => rfl) (fun _ => rfl) (fun _ => rfl) hR
      have hF := hF.tr k657 (by decide)
      have c662 := k657.gi kM_at0 (by decide) c472
      have c663 := k657.gi kM_at0 (by decide) c473
      have c664 := k657.gi kM_at0 (by decide) c474
      have c665 := k657.gi kM_at3 rfl c475
      have c666 := k657.gi kM_at5 rfl c476
      have c667 := k657.gi kM_at0 (by decide) c477
      obtain ⟨rfl, ⟨x658, c659, rx658, tx658⟩⟩ := hg660
      replace hM := hM.call (r' := 0) hv661 (by decide)
      exact tk_zret hC hr rfl hlocks hK ⟨hT, hF, hM.ret (by decide), (Or.inr (Or.inl ⟨rfl, ⟨x20, c667, (show 0 ≤ x20.toInt by first | with_reducible assumption | omega), (show x20.toInt ≤ 400 by first | with_reducible assumption | omega)⟩, ⟨x658, c659, (show 1 ≤ x658.toInt by first | with_reducible assumption | omega), (show x658.toInt ≤ 3205 by first | with_reducible assumption | omega)⟩, ⟨f0_, c662, (show 0 ≤ f0_.toInt from rf0_), (show f0_.toInt ≤ 5 from tf0_)⟩, ⟨f2_, c664, (show 0 ≤ f2_.toInt from rf2_), (show f2_.toInt ≤ 12 from pr2_)⟩, hR, (by simp only [c662, cf0_, cf2_, c664]; omega), (by simp only [c662, cf0_, c664]; omega)⟩))⟩ hw dX12_clauseHere_100
