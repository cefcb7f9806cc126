abbrev Pz_X6_readNumber_8 (ad : Nat → Nat) (cy : Nat → ClassId) (B : Int) (qr : Nat) (s1 : Int)  (w0 : va_W) : Int32 → va_W → Prop := fun r u => TW ksC ad cy B qr s1 u ∧ FE ksC ([] : List (Nat × Nat × Nat)) w0 u ∧ Ev (fun n => m_X6_readNumber n 1 0 359 (sI w0)) (r.toInt, sI u) ∧ ((r = (-1) ∧ (∃ y : Int32, gi u 1 4 = y ∧ 1 ≤ y.toInt ∧ y.toInt ≤ 3205)))
set_option maxHeartbeats 4000000 in
set_option maxRecDepth 100000 in
theorem kz_X6_readNumber_8 (l : Launch) (adK adV : Nat → Nat) (dC : Nat → ClassId) (dI : Nat → Nat → Nat) (cy : Nat → ClassId) (ad : Nat → Nat) (B : Int) (hB0 : 2147483648 ≤ B) (hB1 : B ≤ 1152921504606846976) (qr : Nat) (s1 : Int)   (w0 : va_W) (sz : Nat) (hT : TW ksC ad cy B qr s1 w0) (f0_ : Int32) (cf0_ : gi w0 1 4 = f0_) (rf0_ : 1 ≤ f0_.toInt) (tf0_ : f0_.toInt ≤ 3205) : Met l yX6_readNumber (wu yX6_readNumber cX6_readNumber 4 (some .int)) ({ frames := 2, cells := 0, slots := 0, locals := 32 }) (va_Pc [.ref (ad 1), .int 0, .int 359] (wpreS adK adV dC dI cy sz w0)) (va_Qi (Pz_X6_readNumber_8 ad cy B qr s1  w0) (fun u : va_W => wpost dC dI cy (va_A w0 sz) u) (va_A w0 sz)) 0 0 (va_A w0 sz) := by
  refine Met.ofW (cc := cX6_readNumber) (maxL := 4) (ret := (some .int)) (by decide) rfl ?_
  intro p e s m args below meth c s₁ Bk hml hv
  obtain ⟨rfl, ⟨hsz, hP, hK, hD0⟩, hE, hSR⟩ := hv
  have hx := Bk.exec
  have hb := Bk.bytes
  have hr := Bk.returns
  have hlocks := Bk.notSynchronized
  have hC : CallFix p m c cX6_readNumber 4 s _ (wu yX6_readNumber cX6_readNumber 4 (some .int)) RX6 := ⟨hx, hb, hml, findClass_of_methodNamed Bk.named, atoms_spec (ws := (wu yX6_readNumber cX6_readNumber 4 (some .int))) Bk.pre⟩
  subst hsz
  have hD := hD0.self (sz := s.heap.size)
  generalize hAe : va_A w0 s.heap.size = A at hD hE ⊢
  have hA : ∀ q : Nat, s.heap.size ≤ q → A q := fun q h => by rw [← hAe]; exact Or.inr h
  have hw : Wd dC dI A s.heap s.heap [] w0 := ⟨hP, hD, va_S.rf⟩
  have hF : FE ksC ([] : List (Nat × Nat × Nat)) w0 w0 := FE.rf
  have hl := lv_entry ([.ref (ad 1), .int 0, .int 359]) (n := 4) (Nat.le_of_ble_eq_true rfl)
  rw [lg_entry_eq]
  generalize (lg_sl ([.ref (ad 1), .int 0, .int 359]) ++ List.replicate (4 - (lg_sl ([.ref (ad 1), .int 0, .int 359])).length) Slot.unset).toArray = ls at hl ⊢
  have hl : lv_has ls 4 [(0, .ref (ad 1)), (1, .int 0), (2, .int 359)] := hl
  generalize hloc : ([] : List Loc) = locs at hw ⊢
  have hM : TT (fun n => m_X6_readNumber n 1 0 359 (sI w0)) (fun n => m_X6_readNumber n 1 0 359 (sI w0)) := TT.rf
  refine lv_aload_n hx hb dX6_readNumber_0 rfl (lv_at hl 0 rfl) ?_
  refine tk_Vi hC hK hw hT hA hE hSR kC_at1 (by decide) rfl (kz_X6_isFaulty_3 l adK adV dC dI cy ad B (by omega) (by omega) qr s1    w0 s.heap.size hT f0_ cf0_ (show 1 ≤ f0_.toInt from rf0_) (show f0_.toInt ≤ 3205 from tf0_)) (cwV 0 hC.2.2.2.2 uV_RX6_39 rfl rfl rfl (by decide +kernel) ⟨Nat.le_of_ble_eq_true rfl, Nat.le_of_ble_eq_true rfl⟩) rfl hl.1 rfl (Nat.le_of_ble_eq_true rfl) dX6_readNumber_1 (fun r1 w3 H locs hp2 hw => ?_)
  obtain ⟨hT, k4, hv8, hg7⟩ := hp2
  have hF := hF.tr k4 (by decide)
  have c9 := k4.gi kC_at1 (by decide) cf0_
  obtain ⟨rfl, ⟨x5, c6, rx5, tx5⟩⟩ := hg7
  replace hM := hM.call (r' := 1) hv8 (by decide)
  have ex5 : x5.toInt = f0_.toInt := by rw [← c9.symm.trans c6]
  refine lv_if_eq (tgt := 9) hx hb dX6_readNumber_4 (by decide) (fun c => absurd c (by decide)) (fun _ => ?_)
  replace hM := hM.neg (by decide)
  refine lv_iconst (v := (-1)) hx hb dX6_readNumber_7 (by decide) ?_
  exact tk_iret hC hr hlocks hK ⟨hT, hF, hM.ret (by decide), ⟨rfl, ⟨f0_, c9, (show 1 ≤ f0_.toInt from rf0_), (show f0_.toInt ≤ 3205 from tf0_)⟩⟩⟩ hw dX6_readNumber_8
abbrev Pz_X7_readSaint_1 (ad : Nat → Nat) (cy : Nat → ClassId) (B : Int) (qr : Nat) (s1 : Int)  (w0 : va_W) : va_W → Prop := fun u => TW ksC ad cy B qr s1 u ∧ FE ksC [(6, 1, 1), (6, 3, 3), (6, 4, 4), (7, 10, 10), (29, 0, 8), (30, 0, 8)] w0 u ∧ Ev (fun n => m_X7_readSaint n 29 1 (sI w0)) (0, sI u) ∧ (((∃ y : Int32, gi u 1 4 = y ∧ 1 ≤ y.toInt ∧ y.toInt ≤ 3205) ∧ (∃ y : Int32, gi u 29 10 = y ∧ 0 ≤ y.toInt ∧ y.toInt ≤ 7)) ∨ ((∃ y : Int32, gi u 1 2 = y ∧ 1 ≤ y.toInt ∧ y.toInt ≤ 400) ∧ (∃ y : Int32, gi u 1 3 = y ∧ 0 ≤ y.toInt ∧ y.toInt ≤ 399) ∧ (∃ y : Int32, gi u 1 4 = y ∧ 0 ≤ y.toInt ∧ y.toInt ≤ 0) ∧ (∃ y : Int32, gi u 29 8 = y ∧ 1 ≤ y.toInt ∧ y.toInt ≤ 10) ∧ (∃ y : Int32, gi u 29 10 = y ∧ 1 ≤ y.toInt ∧ y.toInt ≤ 8)))
set_option maxHeartbeats 4000000 in
set_option maxRecDepth 100000 in
theorem kz_X7_readSaint_1 (l : Launch) (adK adV : Nat → Nat) (dC : Nat → ClassId) (dI : Nat → Nat → Nat) (cy : Nat → ClassId) (ad : Nat → Nat) (B : Int) (hB0 : 2147483648 ≤ B) (hB1 : B ≤ 1152921504606846976) (qr : Nat) (s1 : Int)   (w0 : va_W) (sz : Nat) (hT : TW ksC ad cy B qr s1 w0) (cf0_ : gi w0 1 4 = 0) (f1_ : Int32) (cf1_ : gi w0 29 10 = f1_) (rf1_ : 0 ≤ f1_.toInt) (tf1_ : f1_.toInt ≤ 7) : Met l yX7_readSaint (wu yX7_readSaint cX7_readSaint 4 none) ({ frames := 3, cells := 0, slots := 0, locals := 57 }) (va_Pc [.ref (ad 29), .ref (ad 1)] (wpreS adK adV dC dI cy sz w0)) (va_Qv (Pz_X7_readSaint_1 ad cy B qr s1  w0) (fun u : va_W => wpost dC dI cy (va_A w0 sz) u) (va_A w0 sz)) 0 0 (va_A w0 sz) := by
  refine Met.ofW (cc := cX7_readSaint) (maxL := 4) (ret := none) (by decide) rfl ?_
  intro p e s m args below meth c s₁ Bk hml hv
  obtain ⟨rfl, ⟨hsz, hP, hK, hD0⟩, hE, hSR⟩ := hv
  have hx := Bk.exec
  have hb := Bk.bytes
  have hr := Bk.returns
  have hlocks := Bk.notSynchronized
  have hC : CallFix p m c cX7_readSaint 4 s _ (wu yX7_readSaint cX7_readSaint 4 none) RX7 := ⟨hx, hb, hml, findClass_of_methodNamed Bk.named, atoms_spec (ws := (wu yX7_readSaint cX7_readSaint 4 none)) Bk.pre⟩
  subst hsz
  have hD := hD0.self (sz := s.heap.size)
  generalize hAe : va_A w0 s.heap.size = A at hD hE ⊢
  have hA : ∀ q : Nat, s.heap.size ≤ q → A q := fun q h => by rw [← hAe]; exact Or.inr h
  have hw : Wd dC dI A s.heap s.heap [] w0 := ⟨hP, hD, va_S.rf⟩
  have hF : FE ksC [(6, 1, 1), (6, 3, 3), (6, 4, 4), (7, 10, 10), (29, 0, 8), (30, 0, 8)] w0 w0 := FE.rf
  have hl := lv_entry ([.ref (ad 29), .ref (ad 1)]) (n := 4) (Nat.le_of_ble_eq_true rfl)
  rw [lg_entry_eq]
  generalize (lg_sl ([.ref (ad 29), .ref (ad 1)]) ++ List.replicate (4 - (lg_sl ([.ref (ad 29), .ref (ad 1)])).length) Slot.unset).toArray = ls at hl ⊢
  have hl : lv_has ls 4 [(0, .ref (ad 29)), (1, .ref (ad 1))] := hl
  generalize hloc : ([] : List Loc) = locs at hw ⊢
  have hinX7 : ∀ w ∈ u_ws RX7 TX7 12, w ∈ (wu yX7_readSaint cX7_readSaint 4 none) := fun _ h => List.mem_cons_of_mem _ (up_73 h)
  have hM : TT (fun n => m_X7_readSaint n 29 1 (sI w0)) (fun n => m_X7_readSaint n 29 1 (sI w0)) := TT.rf
  refine lv_aload_n hx hb dX7_readSaint_0 rfl (lv_at hl 1 rfl) ?_
  refine lv_iconst (v := 0) hx hb dX7_readSaint_1 (by decide) ?_
  refine lv_aload_n hx hb dX7_readSaint_2 rfl (lv_at hl 0 rfl) ?_
  refine tk_geti hC hK hw hT hinX7 kC_at29 (by decide) rfl 8 (by decide) (List.mem_cons_of_mem _ uw_9_7) rfl rfl dX7_readSaint_3 (fun x1 c2 rx1 tx1 => ?_)
  replace hM := hM.rd (sI_at c2)
  refine lv_iconst (v := 1) hx hb dX7_readSaint_6 (by decide) ?_
  refine lv_isub hx hb dX7_readSaint_7 ?_
  refine lv_topi (fun x3 ex3 => ?_)
  have ezx3 := ex3
  have ex3 : x3.toInt = x1.toInt - (1 : Int) := by rw [ex3]; exact wk_sub (show (-2147483648) ≤ x1.toInt - (1 : Int) by omega) (show x1.toInt - (1 : Int) ≤ 2147483647 by omega)
  replace hM := hM.lt ex3.symm
  refine tk_Vi hC hK hw hT hA hE hSR kC_at1 (by decide) rfl (kz_X6_readNumber_2 l adK adV dC dI cy ad B (by omega) (by omega) qr s1   x3 (show (-2) ≤ x3.toInt by omega) (show x3.toInt ≤ 9 by omega) w0 s.heap.size hT cf0_) (cwV 2 hC.2.2.2.2 uV_RX7_92 rfl rfl rfl (by decide +kernel) ⟨Nat.le_of_ble_eq_true rfl, Nat.le_of_ble_eq_true rfl⟩) rfl hl.1 rfl (Nat.le_of_ble_eq_true rfl) dX7_readSaint_8 (fun r4 w6 H locs hp5 hw => ?_)
  obtain ⟨hT, k7, hv20, hg19⟩ := hp5
  have hF := hF.tr k7 (by decide)
  have c21 := k7.gi kC_at29 (by decide) cf1_
  have c22 := k7.gi kC_at29 (by decide) c2
  rcases hg19 with ⟨g8, g9, g10, ⟨x11, c12, rx11, tx11⟩, ⟨x13, c14, rx13, tx13⟩, ⟨x15, c16, rx15, tx15⟩⟩ | ⟨rfl, ⟨x17, c18, rx17, tx17⟩⟩
  · replace hM := hM.call hv20 rfl
    refine lv_istore_n (lv' := [(2, .int r4), (0, .ref (ad 29)), (1, .ref (ad 1))]) hx hb dX7_readSaint_11 rfl hl (by decide) rfl (fun ls hl => ?_)
    refine lv_aload_n hx hb dX7_readSaint_12 rfl (lv_at hl 2 rfl) ?_
    refine lv_iconst (v := 0) hx hb dX7_readSaint_13 (by decide) ?_
    refine lv_sipush (v := 359) hx hb dX7_readSaint_14 (by decide) ?_
    refine tk_Vi hC hK hw hT hA hE hSR kC_at1 (by decide) rfl (kz_X6_readNumber_7 l adK adV dC dI cy ad B (by omega) (by omega) qr s1    w6 H.size hT (c16.trans (wk_eq.mpr (show x15.toInt = 0 by omega)))) (cwV 2 hC.2.2.2.2 uV_RX7_92 rfl rfl rfl (by decide +kernel) ⟨Nat.le_of_ble_eq_true rfl, Nat.le_of_ble_eq_true rfl⟩) rfl hl.1 rfl (Nat.le_of_ble_eq_true rfl) dX7_readSaint_17 (fun r23 w25 H locs hp24 hw => ?_)
    obtain ⟨hT, k26, hv38, hg37⟩ := hp24
    have hF := hF.tr k26 (by decide)
    have c39 := k26.gi kC_at29 (by decide) c21
    have c40 := k26.gi kC_at29 (by decide) c22
    have c41 := k26.gi kC_at1 (by decide) c12
    rcases hg37 with ⟨g27, g28, ⟨x29, c30, rx29, tx29⟩, ⟨x31, c32, rx31, tx31⟩, ⟨x33, c34, rx33, tx33⟩⟩ | ⟨rfl, ⟨x35, c36, rx35, tx35⟩⟩
    · replace hM := hM.call hv38 rfl
      have ex29 : x29.toInt = x11.toInt := by rw [← c41.symm.trans c30]
      refine lv_istore_n (lv' := [(3, .int r23), (2, .int r4), (0, .ref (ad 29)), (1, .ref (ad 1))]) hx hb dX7_readSaint_20 rfl hl (by decide) rfl (fun ls hl => ?_)
      refine lv_aload_n hx hb dX7_readSaint_21 rfl (lv_at hl 3 rfl) ?_
      refine tk_Vi hC hK hw hT hA hE hSR kC_at1 (by decide) rfl (kz_X6_isFaulty_2 l adK adV dC dI cy ad B (by omega) (by omega) qr s1    w25 H.size hT (c34.trans (wk_eq.mpr (show x33.toInt = 0 by omega)))) (cwV 0 hC.2.2.2.2 uV_RX7_89 rfl rfl rfl (by decide +kernel) ⟨Nat.le_of_ble_eq_true rfl, Nat.le_of_ble_eq_true rfl⟩) rfl hl.1 rfl (Nat.le_of_ble_eq_true rfl) dX7_readSaint_22 (fun r42 w44 H locs hp43 hw => ?_)
      obtain ⟨hT, k45, hv49, hg48⟩ := hp43
      have hF := hF.tr k45 (by decide)
      have c50 := k45.gi kC_at29 (by decide) c39
      have c51 := k45.gi kC_at29 (by decide) c40
      have c52 := k45.gi kC_at1 (by decide) c41
      have c53 := k45.gi kC_at1 (by decide) c32
      have c54 := k45.gi kC_at1 (by decide) c34
      obtain ⟨rfl, ⟨x46, c47, rx46, tx46⟩⟩ := hg48
      replace hM := hM.call (r' := 0) hv49 (by decide)
      have ex46 : x46.toInt = x33.toInt := by rw [← c54.symm.trans c47]
      refine lv_if_eq (tgt := 29) hx hb dX7_readSaint_25 (by decide) (fun _ => ?_) (fun c => absurd (by decide) c)
      replace hM := hM.pos (by decide)
      refine lv_aload_n hx hb dX7_readSaint_29 rfl (lv_at hl 2 rfl) ?_
      refine tk_getO hC hK hw hT hinX7 kC_at29 (by decide) rfl 5 (by decide) (List.mem_cons_of_mem _ uw_2_22) rfl rfl dX7_readSaint_30 ?_
      refine lv_aload_n hx hb dX7_readSaint_33 rfl (lv_at hl 2 rfl) ?_
      refine tk_geti hC hK hw hT hinX7 kC_at29 (by decide) rfl 10 (by decide) (List.mem_cons_of_mem _ uw_9_9) rfl rfl dX7_readSaint_34 (fun x55 c56 rx55 tx55 => ?_)
      refine wk_top f1_ (c56.symm.trans c50) ?_
      replace hM := hM.rd (sI_at c50)
      refine lv_iload_n hx hb dX7_readSaint_37 rfl (lv_at hl 1 rfl) ?_
      refine tk_iast hC hK hw hT kC_at35 (by decide) rfl rfl (show 0 ≤ f1_.toInt from rf1_) (show f1_.toInt < 8 from Int.lt_of_le_of_lt tf1_ (by decide)) (wk_i32 r4).1 (wk_i32 r4).2 dX7_readSaint_38 (fun H locs w57 hw hT k59 c58 => ?_)
      replace hM := hM.wr (sI_up k59 c58)
      have hF := hF.put kC_at35 (inE_of (a := 0) (b := 8) (by decide) (show 0 ≤ f1_.toInt.toNat by omega) (show f1_.toInt.toNat ≤ 8 by omega)) k59
      have c60 := k59.gi (Or.inl (tk_ne kC_at29 kC_at35 (by decide))) c50
      have c61 := k59.gi (Or.inl (tk_ne kC_at29 kC_at35 (by decide))) c51
      have c62 := k59.gi (Or.inl (tk_ne kC_at1 kC_at35 (by decide))) c52
      have c63 := k59.gi (Or.inl (tk_ne kC_at1 kC_at35 (by decide))) c53
      have c64 := k59.gi (Or.inl (tk_ne kC_at1 kC_at35 (by decide))) c54
      refine lv_aload_n hx hb dX7_readSaint_39 rfl (lv_at hl 2 rfl) ?_
      refine tk_getO hC hK hw hT hinX7 kC_at29 (by decide) rfl 6 (by decide) (List.mem_cons_of_mem _ uw_2_23) rfl rfl dX7_readSaint_40 ?_
      refine lv_aload_n hx hb dX7_readSaint_43 rfl (lv_at hl 2 rfl) ?_
      refine tk_geti hC hK hw hT hinX7 kC_at29 (by decide) rfl 10 (by decide) (List.mem_cons_of_mem _ uw_9_9) rfl rfl dX7_readSaint_44 (fun x65 c66 rx65 tx65 => ?_)
      refine wk_top f1_ (c66.symm.trans c60) ?_
      replace hM := hM.rd (sI_at c60)
      refine lv_iload_n hx hb dX7_readSaint_47 rfl (lv_at hl 0 rfl) ?_
      refine tk_iast hC hK hw hT kC_at36 (by decide) rfl rfl (show 0 ≤ f1_.toInt from rf1_) (show f1_.toInt < 8 from Int.lt_of_le_of_lt tf1_ (by decide)) (wk_i32 r23).1 (wk_i32 r23).2 dX7_readSaint_48 (fun H locs w67 hw hT k69 c68 => ?_)
      replace hM := hM.wr (sI_up k69 c68)
      have hF := hF.put kC_at36 (inE_of (a := 0) (b := 8) (by decide) (show 0 ≤ f1_.toInt.toNat by omega) (show f1_.toInt.toNat ≤ 8 by omega)) k69
      have c70 := k69.gi (Or.inl (tk_ne kC_at29 kC_at36 (by decide))) c60
      have c71 := k69.gi (Or.inl (tk_ne kC_at29 kC_at36 (by decide))) c61
      have c72 := k69.gi (Or.inl (tk_ne kC_at1 kC_at36 (by decide))) c62
      have c73 := k69.gi (Or.inl (tk_ne kC_at1 kC_at36 (by decide))) c63
      have c74 := k69.gi (Or.inl (tk_ne kC_at1 kC_at36 (by decide))) c64
      refine lv_aload_n hx hb dX7_readSaint_49 rfl (lv_at hl 2 rfl) ?_
      refine lv_dup hx hb dX7_readSaint_50 rfl ?_
      refine tk_geti hC hK hw hT hinX7 kC_at29 (by decide) rfl 10 (by decide) (List.mem_cons_of_mem _ uw_9_9) rfl rfl dX7_readSaint_51 (fun x75 c76 rx75 tx75 => ?_)
      refine wk_top f1_ (c76.symm.trans c70) ?_
      replace hM := hM.rd (sI_at c70)
      refine lv_iconst (v := 1) hx hb dX7_readSaint_54 (by decide) ?_
      refine lv_iadd hx hb dX7_readSaint_55 ?_
      refine lv_topi (fun x77 ex77 => ?_)
      have ezx77 := ex77
      have ex77 : x77.toInt = f1_.toInt + (1 : Int) := by rw [ex77]; exact wk_add (show (-2147483648) ≤ f1_.toInt + (1 : Int) by omega) (show f1_.toInt + (1 : Int) ≤ 2147483647 by omega)
      replace hM := hM.lt ex77.symm
      refine tk_puti hC hK hw hT hinX7 tyX7_ok nmX7 kC_at29 (by decide) rfl rfl 10 (by decide) (List.mem_cons_of_mem _ uw_9_9) rfl rfl rfl rfl (show 0 ≤ x77.toInt by omega) (show x77.toInt ≤ 8 by omega) dX7_readSaint_56 (fun H locs w78 hw hT k80 c79 => ?_)
      replace hM := hM.wr (sI_up k80 c79)
      have hF := hF.put kC_at29 (k := 10) (by decide) k80
      have c81 := k80.gi (Or.inr (by decide)) c71
      have c82 := k80.gi (Or.inr (by decide)) c72
      have c83 := k80.gi (Or.inr (by decide)) c73
      have c84 := k80.gi (Or.inr (by decide)) c74
      exact tk_vret hC hr hlocks hK ⟨hT, hF, hM.ret rfl, (Or.inr ⟨⟨x11, c82, (show 1 ≤ x11.toInt by omega), (show x11.toInt ≤ 400 by omega)⟩, ⟨x31, c83, (show 0 ≤ x31.toInt by omega), (show x31.toInt ≤ 399 by omega)⟩, ⟨x33, c84, (show 0 ≤ x33.toInt by omega), (show x33.toInt ≤ 0 by omega)⟩, ⟨x1, c81, (show 1 ≤ x1.toInt by omega), (show x1.toInt ≤ 10 from tx1)⟩, ⟨x77, c79, (show 1 ≤ x77.toInt by omega), (show x77.toInt ≤ 8 by omega)⟩⟩)⟩ hw dX7_readSaint_59
    · replace hM := hM.call (r' := (-1)) hv38 (by decide)
      refine lv_istore_n (lv' := [(3, .int (-1)), (2, .int r4), (0, .ref (ad 29)), (1, .ref (ad 1))]) hx hb dX7_readSaint_20 rfl hl (by decide) rfl (fun ls hl => ?_)
      refine lv_aload_n hx hb dX7_readSaint_21 rfl (lv_at hl 3 rfl) ?_
      refine tk_Vi hC hK hw hT hA hE hSR kC_at1 (by decide) rfl (kz_X6_isFaulty_3 l adK adV dC dI cy ad B (by omega) (by omega) qr s1    w25 H.size hT x35 c36 (show 1 ≤ x35.toInt by omega) (show x35.toInt ≤ 3205 by omega)) (cwV 0 hC.2.2.2.2 uV_RX7_89 rfl rfl rfl (by decide +kernel) ⟨Nat.le_of_ble_eq_true rfl, Nat.le_of_ble_eq_true rfl⟩) rfl hl.1 rfl (Nat.le_of_ble_eq_true rfl) dX7_readSaint_22 (fun r85 w87 H locs hp86 hw => ?_)
      obtain ⟨hT, k88, hv92, hg91⟩ := hp86
      have hF := hF.tr k88 (by decide)
      have c93 := k88.gi kC_at29 (by decide) c39
      have c94 := k88.gi kC_at29 (by decide) c40
      have c95 := k88.gi kC_at1 (by decide) c41
      have c96 := k88.gi kC_at1 (by decide) c36
      obtain ⟨rfl, ⟨x89, c90, rx89, tx89⟩⟩ := hg91
      replace hM := hM.call (r' := 1) hv92 (by decide)
      have ex89 : x89.toInt = x35.toInt := by rw [← c96.symm.trans c90]
      refine lv_if_eq (tgt := 29) hx hb dX7_readSaint_25 (by decide) (fun c => absurd c (by decide)) (fun _ => ?_)
      replace hM := hM.neg (by decide)
      exact tk_vret hC hr hlocks hK ⟨hT, hF, hM.ret rfl, (Or.inl ⟨⟨x35, c96, (show 1 ≤ x35.toInt by omega), (show x35.toInt ≤ 3205 by omega)⟩, ⟨f1_, c93, (show 0 ≤ f1_.toInt from rf1_), (show f1_.toInt ≤ 7 from tf1_)⟩⟩)⟩ hw dX7_readSaint_28
  · replace hM := hM.call (r' := (-1)) hv20 (by decide)
    refine lv_istore_n (lv' := [(2, .int (-1)), (0, .ref (ad 29)), (1, .ref (ad 1))]) hx hb dX7_readSaint_11 rfl hl (by decide) rfl (fun ls hl => ?_)
    refine lv_aload_n hx hb dX7_readSaint_12 rfl (lv_at hl 2 rfl) ?_
    refine lv_iconst (v := 0) hx hb dX7_readSaint_13 (by decide) ?_
    refine lv_sipush (v := 359) hx hb dX7_readSaint_14 (by decide) ?_
    refine tk_Vi hC hK hw hT hA hE hSR kC_at1 (by decide) rfl (kz_X6_readNumber_8 l adK adV dC dI cy ad B (by omega) (by omega) qr s1    w6 H.size hT x17 c18 (show 1 ≤ x17.toInt by omega) (show x17.toInt ≤ 3205 by omega)) (cwV 2 hC.2.2.2.2 uV_RX7_92 rfl rfl rfl (by decide +kernel) ⟨Nat.le_of_ble_eq_true rfl, Nat.le_of_ble_eq_true rfl⟩) rfl hl.1 rfl (Nat.le_of_ble_eq_true rfl) dX7_readSaint_17 (fun r97 w99 H locs hp98 hw => ?_)
    obtain ⟨hT, k100, hv104, hg103⟩ := hp98
    have hF := hF.tr k100 (by decide)
    have c105 := k100.gi kC_at29 (by decide) c21
    have c106 := k100.gi kC_at29 (by decide) c22
    have c107 := k100.gi kC_at1 (by decide) c18
    obtain ⟨rfl, ⟨x101, c102, rx101, tx101⟩⟩ := hg103
    replace hM := hM.call (r' := (-1)) hv104 (by decide)
    have ex101 : x101.toInt = x17.toInt := by rw [← c107.symm.trans c102]
    refine lv_istore_n (lv' := [(3, .int (-1)), (2, .int (-1)), (0, .ref (ad 29)), (1, .ref (ad 1))]) hx hb dX7_readSaint_20 rfl hl (by decide) rfl (fun ls hl => ?_)
    refine lv_aload_n hx hb dX7_readSaint_21 rfl (lv_at hl 3 rfl) ?_
    refine tk_Vi hC hK hw hT hA hE hSR kC_at1 (by decide) rfl (kz_X6_isFaulty_3 l adK adV dC dI cy ad B (by omega) (by omega) qr s1    w99 H.size hT x17 c107 (show 1 ≤ x17.toInt by omega) (show x17.toInt ≤ 3205 by omega)) (cwV 0 hC.2.2.2.2 uV_RX7_89 rfl rfl rfl (by decide +kernel) ⟨Nat.le_of_ble_eq_true rfl, Nat.le_of_ble_eq_true rfl⟩) rfl hl.1 rfl (Nat.le_of_ble_eq_true rfl) dX7_readSaint_22 (fun r108 w110 H locs hp109 hw => ?_)
    obtain ⟨hT, k111, hv115, hg114⟩ := hp109
    have hF := hF.tr k111 (by decide)
    have c116 := k111.gi kC_at29 (by decide) c105
    have c117 := k111.gi kC_at29 (by decide) c106
    have c118 := k111.gi kC_at1 (by decide) c107
    obtain ⟨rfl, ⟨x112, c113, rx112, tx112⟩⟩ := hg114
    replace hM := hM.call (r' := 1) hv115 (by decide)
    have ex112 : x112.toInt = x17.toInt := by rw [← c118.symm.trans c113]
    refine lv_if_eq (tgt := 29) hx hb dX7_readSaint_25 (by decide) (fun c => absurd c (by decide)) (fun _ => ?_)
    replace hM := hM.neg (by decide)
    exact tk_vret hC hr hlocks hK ⟨hT, hF, hM.ret rfl, (Or.inl ⟨⟨x17, c118, (show 1 ≤ x17.toInt by omega), (show x17.toInt ≤ 3205 by omega)⟩, ⟨f1_, c116, (show 0 ≤ f1_.toInt from rf1_), (show f1_.toInt ≤ 7 from tf1_)⟩⟩)⟩ hw dX7_readSaint_28
abbrev Pz_X7_readClause_3 (ad : Nat → Nat) (cy : Nat → ClassId) (B : Int) (qr : Nat) (s1 : Int)  (w0 : va_W) : va_W → Prop := fun u => TW ksC ad cy B qr s1 u ∧ FE ksC [(6, 1, 1), (6, 3, 3), (6, 4, 4), (7, 10, 10), (29, 0, 8), (30, 0, 8)] w0 u ∧ Ev (fun n => m_X7_readClause n 29 1 2 (sI w0)) (0, sI u) ∧ (((∃ y : Int32, gi u 1 4 = y ∧ 1 ≤ y.toInt ∧ y.toInt ≤ 3205) ∧ (∃ y : Int32, gi u 29 10 = y ∧ 0 ≤ y.toInt ∧ y.toInt ≤ 7)) ∨ ((∃ y : Int32, gi u 1 4 = y ∧ 0 ≤ y.toInt ∧ y.toInt ≤ 3205) ∧ (∃ y : Int32, gi u 29 10 = y ∧ 0 ≤ y.toInt ∧ y.toInt ≤ 8)))
set_option maxHeartbeats 4000000 in
set_option maxRecDepth 100000 in
theorem kz_X7_readClause_3 (l : Launch) (adK adV : Nat → Nat) (dC : Nat → ClassId) (dI : Nat → Nat → Nat) (cy : Nat → ClassId) (ad : Nat → Nat) (B : Int) (hB0 : 2147483648 ≤ B) (hB1 : B ≤ 1152921504606846976) (qr : Nat) (s1 : Int)   (w0 : va_W) (sz : Nat) (hT : TW ksC ad cy B qr s1 w0) (f0_ : Int32) (cf0_ : gi w0 29 10 = f0_) (rf0_ : 0 ≤ f0_.toInt) (tf0_ : f0_.toInt ≤ 7) : Met l yX7_readClause (wu yX7_readClause cX7_readClause 3 none) ({ frames := 4, cells := 0, slots := 0, locals := 80 }) (va_Pc [.ref (ad 29), .ref (ad 1), .int 2] (wpreS adK adV dC dI cy sz w0)) (va_Qv (Pz_X7_readClause_3 ad cy B qr s1  w0) (fun u : va_W => wpost dC dI cy (va_A w0 sz) u) (va_A w0 sz)) 0 0 (va_A w0 sz) := by
  refine Met.ofW (cc := cX7_readClause) (maxL := 3) (ret := none) (by decide) rfl ?_
  intro p e s m args below meth c s₁ Bk hml hv
  obtain ⟨rfl, ⟨hsz, hP, hK, hD0⟩, hE, hSR⟩ := hv
  have hx := Bk.exec
  have hb := Bk.bytes
  have hr := Bk.returns
  have hlocks := Bk.notSynchronized
  have hC : CallFix p m c cX7_readClause 3 s _ (wu yX7_readClause cX7_readClause 3 none) RX7 := ⟨hx, hb, hml, findClass_of_methodNamed Bk.named, atoms_spec (ws := (wu yX7_readClause cX7_readClause 3 none)) Bk.pre⟩
  subst hsz
  have hD := hD0.self (sz := s.heap.size)
  generalize hAe : va_A w0 s.heap.size = A at hD hE ⊢
  have hA : ∀ q : Nat, s.heap.size ≤ q → A q := fun q h => by rw [← hAe]; exact Or.inr h
  have hw : Wd dC dI A s.heap s.heap [] w0 := ⟨hP, hD, va_S.rf⟩
  have hF : FE ksC [(6, 1, 1), (6, 3, 3), (6, 4, 4), (7, 10, 10), (29, 0, 8), (30, 0, 8)] w0 w0 := FE.rf
  have hl := lv_entry ([.ref (ad 29), .ref (ad 1), .int 2]) (n := 3) (Nat.le_of_ble_eq_true rfl)
  rw [lg_entry_eq]
  generalize (lg_sl ([.ref (ad 29), .ref (ad 1), .int 2]) ++ List.replicate (3 - (lg_sl ([.ref (ad 29), .ref (ad 1), .int 2])).length) Slot.unset).toArray = ls at hl ⊢
  have hl : lv_has ls 3 [(0, .ref (ad 29)), (1, .ref (ad 1)), (2, .int 2)] := hl
  generalize hloc : ([] : List Loc) = locs at hw ⊢
  have J57 : ∀ (f57_1_4 : Int32) (f57_29_10 : Int32) (H : Heap) (locs : List Loc) (ls : Array Slot) (w1 : va_W), 0 ≤ f57_1_4.toInt → f57_1_4.toInt ≤ 3205 → 0 ≤ f57_29_10.toInt → f57_29_10.toInt ≤ 8 → Wd dC dI A s.heap H locs w1 → TW ksC ad cy B qr s1 w1 → FE ksC [(6, 1, 1), (6, 3, 3), (6, 4, 4), (7, 10, 10), (29, 0, 8), (30, 0, 8)] w0 w1 → gi w1 1 4 = f57_1_4 → gi w1 29 10 = f57_29_10 → TT (fun n => m_X7_readClause n 29 1 2 (sI w0)) (fun n => b_X7_readClause_57 n 29 1 (sI w1)) → lv_has ls 3 [(0, .ref (ad 29)), (1, .ref (ad 1)), (2, .int 2)] → W p l e ({ frames := 4, cells := 0, slots := 0, locals := 80 }) s m (List.toArray [.ref (ad 29), .ref (ad 1), .int 2]) below meth c H locs 0 0 (MQ below (va_Qv (Pz_X7_readClause_3 ad cy B qr s1  w0) (fun u : va_W => wpost dC dI cy A u) A) (List.toArray [.ref (ad 29), .ref (ad 1), .int 2]) s 0 0 A) (F0 m 57 ls []) := by
    intro f57_1_4 f57_29_10 H locs ls w1 r2 t3 r5 t6 hw hT hF c4 c7 hM hl
    exact tk_vret hC hr hlocks hK ⟨hT, hF, hM.ret rfl, (Or.inr ⟨⟨f57_1_4, c4, (show 0 ≤ f57_1_4.toInt from r2), (show f57_1_4.toInt ≤ 3205 from t3)⟩, ⟨f57_29_10, c7, (show 0 ≤ f57_29_10.toInt from r5), (show f57_29_10.toInt ≤ 8 from t6)⟩⟩)⟩ hw dX7_readClause_57
  have hM : TT (fun n => m_X7_readClause n 29 1 2 (sI w0)) (fun n => m_X7_readClause n 29 1 2 (sI w0)) := TT.rf
  refine lv_aload_n hx hb dX7_readClause_0 rfl (lv_at hl 1 rfl) ?_
  refine tk_Vi hC hK hw hT hA hE hSR kC_at1 (by decide) rfl (kz_X6_isFaulty_1 l adK adV dC dI cy ad B (by omega) (by omega) qr s1    w0 s.heap.size hT ) (cwV 0 hC.2.2.2.2 uV_RX7_89 rfl rfl rfl (by decide +kernel) ⟨Nat.le_of_ble_eq_true rfl, Nat.le_of_ble_eq_true rfl⟩) rfl hl.1 rfl (Nat.le_of_ble_eq_true rfl) dX7_readClause_1 (fun r8 w10 H locs hp9 hw => ?_)
  obtain ⟨hT, k11, hv17, hg16⟩ := hp9
  have hF := hF.tr k11 (by decide)
  have c18 := k11.gi kC_at29 (by decide) cf0_
  rcases hg16 with ⟨rfl, ⟨x12, c13, rx12, tx12⟩⟩ | ⟨rfl, ⟨x14, c15, rx14, tx14⟩⟩
  · replace hM := hM.call (r' := 0) hv17 (by decide)
    refine lv_if_eq (tgt := 8) hx hb dX7_readClause_4 (by decide) (fun _ => ?_) (fun c => absurd (by decide) c)
    replace hM := hM.pos (by decide)
    refine lv_iload_n hx hb dX7_readClause_8 rfl (lv_at hl 2 rfl) ?_
    refine lv_if_ne (tgt := 26) hx hb dX7_readClause_9 (by decide) (fun _ => ?_) (fun c => absurd c (by decide))
    replace hM := hM.pos (by decide)
    refine lv_iload_n hx hb dX7_readClause_26 rfl (lv_at hl 2 rfl) ?_
    refine lv_iconst (v := 1) hx hb dX7_readClause_27 (by decide) ?_
    refine lv_icmp_ne (tgt := 39) hx hb dX7_readClause_28 (by decide) (fun _ => ?_) (fun c => absurd c (by decide))
    replace hM := hM.pos (by decide)
    refine lv_iload_n hx hb dX7_readClause_39 rfl (lv_at hl 2 rfl) ?_
    refine lv_iconst (v := 2) hx hb dX7_readClause_40 (by decide) ?_
    refine lv_icmp_ne (tgt := 52) hx hb dX7_readClause_41 (by decide) (fun c => absurd (by decide) c) (fun _ => ?_)
    replace hM := hM.neg (by decide)
    refine lv_aload_n hx hb dX7_readClause_44 rfl (lv_at hl 0 rfl) ?_
    refine lv_aload_n hx hb dX7_readClause_45 rfl (lv_at hl 1 rfl) ?_
    refine tk_Vv hC hK hw hT hA hE hSR kC_at29 (by decide) rfl (kz_X7_readSaint_1 l adK adV dC dI cy ad B (by omega) (by omega) qr s1    w10 H.size hT (c13.trans (wk_eq.mpr (show x12.toInt = 0 by omega))) f0_ c18 (show 0 ≤ f0_.toInt from rf0_) (show f0_.toInt ≤ 7 from tf0_)) (cwV 1 hC.2.2.2.2 uV_RX7_100 rfl rfl rfl (by decide +kernel) ⟨Nat.le_of_ble_eq_true rfl, Nat.le_of_ble_eq_true rfl⟩) rfl hl.1 rfl (Nat.le_of_ble_eq_true rfl) dX7_readClause_46 (fun w21 H locs hp20 hw => ?_)
    obtain ⟨hT, k22, hv38, hg37⟩ := hp20
    have hF := hF.tr k22 (by decide)
    rcases hg37 with ⟨⟨x23, c24, rx23, tx23⟩, ⟨x25, c26, rx25, tx25⟩⟩ | ⟨⟨x27, c28, rx27, tx27⟩, ⟨x29, c30, rx29, tx29⟩, ⟨x31, c32, rx31, tx31⟩, ⟨x33, c34, rx33, tx33⟩, ⟨x35, c36, rx35, tx35⟩⟩
    · replace hM := hM.call hv38 rfl
      refine lv_goto (tgt := 57) hx hb dX7_readClause_49 (by decide) ?_
      exact J57 x23 x25 H locs ls w21 (show 0 ≤ x23.toInt by omega) (show x23.toInt ≤ 3205 by omega) (show 0 ≤ x25.toInt by omega) (show x25.toInt ≤ 8 by omega)  hw hT hF c24 c26 hM (lv_sub hl [0, 1, 2] rfl)
    · replace hM := hM.call hv38 rfl
      refine lv_goto (tgt := 57) hx hb dX7_readClause_49 (by decide) ?_
      exact J57 x31 x35 H locs ls w21 (show 0 ≤ x31.toInt by omega) (show x31.toInt ≤ 3205 by omega) (show 0 ≤ x35.toInt by omega) (show x35.toInt ≤ 8 by omega)  hw hT hF c32 c36 hM (lv_sub hl [0, 1, 2] rfl)
  · replace hM := hM.call (r' := 1) hv17 (by decide)
    refine lv_if_eq (tgt := 8) hx hb dX7_readClause_4 (by decide) (fun c => absurd c (by decide)) (fun _ => ?_)
    replace hM := hM.neg (by decide)
    exact tk_vret hC hr hlocks hK ⟨hT, hF, hM.ret rfl, (Or.inl ⟨⟨x14, c15, (show 1 ≤ x14.toInt by omega), (show x14.toInt ≤ 3205 by omega)⟩, ⟨f0_, c18, (show 0 ≤ f0_.toInt from rf0_), (show f0_.toInt ≤ 7 from tf0_)⟩⟩)⟩ hw dX7_readClause_7
abbrev Pz_X6_readNumber_9 (ad : Nat → Nat) (cy : Nat → ClassId) (B : Int) (qr : Nat) (s1 : Int) (a2 : Int32) (w0 : va_W) : Int32 → va_W → Prop := fun r u => TW ksC ad cy B qr s1 u ∧ FE ksC [(6, 1, 1), (6, 3, 3), (6, 4, 4)] w0 u ∧ Ev (fun n => m_X6_readNumber n 1 0 a2.toInt (sI w0)) (r.toInt, sI u) ∧ ((0 ≤ r.toInt ∧ r.toInt ≤ 11 ∧ 0 ≤ a2.toInt ∧ (∃ y : Int32, gi u 1 2 = y ∧ 1 ≤ y.toInt ∧ y.toInt ≤ 400) ∧ (∃ y : Int32, gi u 1 3 = y ∧ 0 ≤ y.toInt ∧ y.toInt ≤ 399) ∧ (∃ y : Int32, gi u 1 4 = y ∧ 0 ≤ y.toInt ∧ y.toInt ≤ 0)) ∨ (r = (-1) ∧ (∃ y : Int32, gi u 1 4 = y ∧ 1 ≤ y.toInt ∧ y.toInt ≤ 3205)))
set_option maxHeartbeats 4000000 in
set_option maxRecDepth 100000 in
theorem kz_X6_readNumber_9 (l : Launch) (adK adV : Nat → Nat) (dC : Nat → ClassId) (dI : Nat → Nat → Nat) (cy : Nat → ClassId) (ad : Nat → Nat) (B : Int) (hB0 : 2147483648 ≤ B) (hB1 : B ≤ 1152921504606846976) (qr : Nat) (s1 : Int)  (a2 : Int32) (ra2 : (-1) ≤ a2.toInt) (ta2 : a2.toInt ≤ 11) (w0 : va_W) (sz : Nat) (hT : TW ksC ad cy B qr s1 w0) (cf0_ : gi w0 1 4 = 0) : Met l yX6_readNumber (wu yX6_readNumber cX6_readNumber 4 (some .int)) ({ frames := 2, cells := 0, slots := 0, locals := 34 }) (va_Pc [.ref (ad 1), .int 0, .int a2] (wpreS adK adV dC dI cy sz w0)) (va_Qi (Pz_X6_readNumber_9 ad cy B qr s1 a2 w0) (fun u : va_W => wpost dC dI cy (va_A w0 sz) u) (va_A w0 sz)) 0 0 (va_A w0 sz) := by
  refine Met.ofW (cc := cX6_readNumber) (maxL := 4) (ret := (some .int)) (by decide) rfl ?_
  intro p e s m args below meth c s₁ Bk hml hv
  obtain ⟨rfl, ⟨hsz, hP, hK, hD0⟩, hE, hSR⟩ := hv
  have hx := Bk.exec
  have hb := Bk.bytes
  have hr := Bk.returns
  have hlocks := Bk.notSynchronized
  have hC : CallFix p m c cX6_readNumber 4 s _ (wu yX6_readNumber cX6_readNumber 4 (some .int)) RX6 := ⟨hx, hb, hml, findClass_of_methodNamed Bk.named, atoms_spec (ws := (wu yX6_readNumber cX6_readNumber 4 (some .int))) Bk.pre⟩
  subst hsz
  have hD := hD0.self (sz := s.heap.size)
  generalize hAe : va_A w0 s.heap.size = A at hD hE ⊢
  have hA : ∀ q : Nat, s.heap.size ≤ q → A q := fun q h => by rw [← hAe]; exact Or.inr h
  have hw : Wd dC dI A s.heap s.heap [] w0 := ⟨hP, hD, va_S.rf⟩
  have hF : FE ksC [(6, 1, 1), (6, 3, 3), (6, 4, 4)] w0 w0 := FE.rf
  have hl := lv_entry ([.ref (ad 1), .int 0, .int a2]) (n := 4) (Nat.le_of_ble_eq_true rfl)
  rw [lg_entry_eq]
  generalize (lg_sl ([.ref (ad 1), .int 0, .int a2]) ++ List.replicate (4 - (lg_sl ([.ref (ad 1), .int 0, .int a2])).length) Slot.unset).toArray = ls at hl ⊢
  have hl : lv_has ls 4 [(0, .ref (ad 1)), (1, .int 0), (2, .int a2)] := hl
  generalize hloc : ([] : List Loc) = locs at hw ⊢
  have hinX6 : ∀ w ∈ u_ws RX6 TX6 5, w ∈ (wu yX6_readNumber cX6_readNumber 4 (some .int)) := fun _ h => List.mem_cons_of_mem _ (up_72 h)
  have J125 : ∀ (v125_3 : Int32) (f125_1_1 : Int32) (f125_1_2 : Int32) (f125_1_3 : Int32) (H : Heap) (locs : List Loc) (ls : Array Slot) (w1 : va_W), (-1) ≤ a2.toInt → a2.toInt ≤ 11 → 0 ≤ f125_1_1.toInt → f125_1_1.toInt ≤ 400 → 1 ≤ f125_1_2.toInt → f125_1_2.toInt ≤ 400 → 0 ≤ f125_1_3.toInt → f125_1_3.toInt ≤ 399 → Wd dC dI A s.heap H locs w1 → TW ksC ad cy B qr s1 w1 → FE ksC [(6, 1, 1), (6, 3, 3), (6, 4, 4)] w0 w1 → gi w1 1 1 = f125_1_1 → gi w1 1 2 = f125_1_2 → gi w1 1 3 = f125_1_3 → gi w1 1 4 = 0 → TT (fun n => m_X6_readNumber n 1 0 a2.toInt (sI w0)) (fun n => b_X6_readNumber_125 (j_X6_readNumber 1 n) n 1 (sI w1)) → lv_has ls 4 [(0, .ref (ad 1)), (1, .int 0), (2, .int a2), (3, .int v125_3)] → W p l e ({ frames := 2, cells := 0, slots := 0, locals := 34 }) s m (List.toArray [.ref (ad 1), .int 0, .int a2]) below meth c H locs 0 0 (MQ below (va_Qi (Pz_X6_readNumber_9 ad cy B qr s1 a2 w0) (fun u : va_W => wpost dC dI cy A u) A) (List.toArray [.ref (ad 1), .int 0, .int a2]) s 0 0 A) (F0 m 125 ls []) := by
    intro v125_3 f125_1_1 f125_1_2 f125_1_3 H locs ls w1 r2 t3 r4 t5 r7 t8 r10 t11 hw hT hF c6 c9 c12 c13 hM hl
    refine lv_aload_n hx hb dX6_readNumber_125 rfl (lv_at hl 0 rfl) ?_
    refine lv_aload_n hx hb dX6_readNumber_126 rfl (lv_at hl 0 rfl) ?_
    refine tk_geti hC hK hw hT hinX6 kC_at1 (by decide) rfl 3 (by decide) (List.mem_cons_of_mem _ uw_9_17) rfl rfl dX6_readNumber_127 (fun x14 c15 rx14 tx14 => ?_)
    refine wk_top f125_1_3 (c15.symm.trans c12) ?_
    replace hM := hM.rd (sI_at c12)
    refine lv_iconst (v := 1) hx hb dX6_readNumber_130 (by decide) ?_
    refine tk_Vv hC hK hw hT hA hE hSR kC_at1 (by decide) rfl (kz_X6_blame_2 l adK adV dC dI cy ad B (by omega) (by omega) qr s1   f125_1_3 (show 0 ≤ f125_1_3.toInt from r10) (show f125_1_3.toInt ≤ 400 from Int.le_trans t11 (by decide)) 1 (by decide) (by decide) w1 H.size hT c13) (cwV 2 hC.2.2.2.2 uV_RX6_35 rfl rfl rfl (by decide +kernel) ⟨Nat.le_of_ble_eq_true rfl, Nat.le_of_ble_eq_true rfl⟩) rfl hl.1 rfl (Nat.le_of_ble_eq_true rfl) dX6_readNumber_131 (fun w18 H locs hp17 hw => ?_)
    obtain ⟨hT, k19, hv23, hg22⟩ := hp17
    try simp only [show (1 : Int32).toInt = 1 by decide] at hv23
    have hF := hF.tr k19 (by decide)
    have c24 := k19.gi kC_at1 (by decide) c6
    have c25 := k19.gi kC_at1 (by decide) c9
    have c26 := k19.gi kC_at1 (by decide) c12
    obtain ⟨x20, c21, rx20, tx20⟩ := hg22
    replace hM := hM.call hv23 rfl
    refine lv_iconst (v := (-1)) hx hb dX6_readNumber_134 (by decide) ?_
    exact tk_iret hC hr hlocks hK ⟨hT, hF, hM.ret (by decide), (Or.inr ⟨rfl, ⟨x20, c21, (show 1 ≤ x20.toInt by omega), (show x20.toInt ≤ 3205 by omega)⟩⟩)⟩ hw dX6_readNumber_135
  have J102 : ∀ (v102_3 : Int32) (f102_1_1 : Int32) (f102_1_2 : Int32) (f102_1_3 : Int32) (H : Heap) (locs : List Loc) (ls : Array Slot) (w27 : va_W), (-1) ≤ a2.toInt → a2.toInt ≤ 11 → 0 ≤ f102_1_1.toInt → f102_1_1.toInt ≤ 400 → 1 ≤ f102_1_2.toInt → f102_1_2.toInt ≤ 400 → 0 ≤ f102_1_3.toInt → f102_1_3.toInt ≤ 399 → Wd dC dI A s.heap H locs w27 → TW ksC ad cy B qr s1 w27 → FE ksC [(6, 1, 1), (6, 3, 3), (6, 4, 4)] w0 w27 → gi w27 1 1 = f102_1_1 → gi w27 1 2 = f102_1_2 → gi w27 1 3 = f102_1_3 → gi w27 1 4 = 0 → TT (fun n => m_X6_readNumber n 1 0 a2.toInt (sI w0)) (fun n => b_X6_readNumber_102 (j_X6_readNumber 1 n) n 1 (0 : Int) (a2.toInt) (v102_3.toInt) (sI w27)) → lv_has ls 4 [(0, .ref (ad 1)), (1, .int 0), (2, .int a2), (3, .int v102_3)] → W p l e ({ frames := 2, cells := 0, slots := 0, locals := 34 }) s m (List.toArray [.ref (ad 1), .int 0, .int a2]) below meth c H locs 0 0 (MQ below (va_Qi (Pz_X6_readNumber_9 ad cy B qr s1 a2 w0) (fun u : va_W => wpost dC dI cy A u) A) (List.toArray [.ref (ad 1), .int 0, .int a2]) s 0 0 A) (F0 m 102 ls []) := by
    intro v102_3 f102_1_1 f102_1_2 f102_1_3 H locs ls w27 r28 t29 r30 t31 r33 t34 r36 t37 hw hT hF c32 c35 c38 c39 hM hl
    refine lv_aload_n hx hb dX6_readNumber_102 rfl (lv_at hl 0 rfl) ?_
    refine tk_geti hC hK hw hT hinX6 kC_at1 (by decide) rfl 1 (by decide) (List.mem_cons_of_mem _ uw_9_16) rfl rfl dX6_readNumber_103 (fun x40 c41 rx40 tx40 => ?_)
    refine wk_top f102_1_1 (c41.symm.trans c32) ?_
    replace hM := hM.rd (sI_at c32)
    refine lv_aload_n hx hb dX6_readNumber_106 rfl (lv_at hl 0 rfl) ?_
    refine tk_geti hC hK hw hT hinX6 kC_at1 (by decide) rfl 3 (by decide) (List.mem_cons_of_mem _ uw_9_17) rfl rfl dX6_readNumber_107 (fun x42 c43 rx42 tx42 => ?_)
    refine wk_top f102_1_3 (c43.symm.trans c38) ?_
    replace hM := hM.rd (sI_at c38)
    refine lv_isub hx hb dX6_readNumber_110 ?_
    refine lv_topi (fun x44 ex44 => ?_)
    have ezx44 := ex44
    have ex44 : x44.toInt = f102_1_1.toInt - f102_1_3.toInt := by rw [ex44]; exact wk_sub (show (-2147483648) ≤ f102_1_1.toInt - f102_1_3.toInt by omega) (show f102_1_1.toInt - f102_1_3.toInt ≤ 2147483647 by omega)
    replace hM := hM.lt ex44.symm
    refine lv_iconst (v := 5) hx hb dX6_readNumber_111 (by decide) ?_
    refine lv_icmp_gt (tgt := 125) hx hb dX6_readNumber_112 (by decide) (fun c45 => ?_) (fun c45 => ?_)
    · have c45 : (5 : Int) < x44.toInt := wk_lt.mp c45
      replace hM := hM.pos c45
      exact J125 v102_3 f102_1_1 f102_1_2 f102_1_3 H locs ls w27 (show (-1) ≤ a2.toInt from r28) (show a2.toInt ≤ 11 from t29) (show 0 ≤ f102_1_1.toInt from r30) (show f102_1_1.toInt ≤ 400 from t31) (show 1 ≤ f102_1_2.toInt from r33) (show f102_1_2.toInt ≤ 400 from t34) (show 0 ≤ f102_1_3.toInt from r36) (show f102_1_3.toInt ≤ 399 from t37)  hw hT hF c32 c35 c38 c39 hM (lv_sub hl [0, 1, 2, 3] rfl)
    · have c45 : x44.toInt ≤ (5 : Int) := wk_ltF c45
      replace hM := hM.neg (Int.not_lt.mpr c45)
      refine lv_iload_n hx hb dX6_readNumber_115 rfl (lv_at hl 3 rfl) ?_
      refine lv_iload_n hx hb dX6_readNumber_116 rfl (lv_at hl 1 rfl) ?_
      refine lv_icmp_lt (tgt := 125) hx hb dX6_readNumber_117 (by decide) (fun c46 => ?_) (fun c46 => ?_)
      · have c46 : v102_3.toInt < (0 : Int) := wk_lt.mp c46
        replace hM := hM.pos c46
        exact J125 v102_3 f102_1_1 f102_1_2 f102_1_3 H locs ls w27 (show (-1) ≤ a2.toInt from r28) (show a2.toInt ≤ 11 from t29) (show 0 ≤ f102_1_1.toInt from r30) (show f102_1_1.toInt ≤ 400 from t31) (show 1 ≤ f102_1_2.toInt from r33) (show f102_1_2.toInt ≤ 400 from t34) (show 0 ≤ f102_1_3.toInt from r36) (show f102_1_3.toInt ≤ 399 from t37)  hw hT hF c32 c35 c38 c39 hM (lv_sub hl [0, 1, 2, 3] rfl)
      · have c46 : (0 : Int) ≤ v102_3.toInt := wk_ltF c46
        replace hM := hM.neg (Int.not_lt.mpr c46)
        refine lv_iload_n hx hb dX6_readNumber_120 rfl (lv_at hl 3 rfl) ?_
        refine lv_iload_n hx hb dX6_readNumber_121 rfl (lv_at hl 2 rfl) ?_
        refine lv_icmp_le (tgt := 136) hx hb dX6_readNumber_122 (by decide) (fun c47 => ?_) (fun c47 => ?_)
        · have c47 : v102_3.toInt ≤ a2.toInt := wk_le.mp c47
          replace hM := hM.pos c47
          refine lv_iload_n hx hb dX6_readNumber_136 rfl (lv_at hl 3 rfl) ?_
          exact tk_iret hC hr hlocks hK ⟨hT, hF, hM.ret rfl, (Or.inl ⟨(show 0 ≤ v102_3.toInt by omega), (show v102_3.toInt ≤ 11 by omega), (show 0 ≤ a2.toInt by omega), ⟨f102_1_2, c35, (show 1 ≤ f102_1_2.toInt from r33), (show f102_1_2.toInt ≤ 400 from t34)⟩, ⟨f102_1_3, c38, (show 0 ≤ f102_1_3.toInt from r36), (show f102_1_3.toInt ≤ 399 from t37)⟩, ⟨0, c39, (by decide), (by decide)⟩⟩)⟩ hw dX6_readNumber_137
        · have c47 : a2.toInt < v102_3.toInt := wk_leF c47
          replace hM := hM.neg (Int.not_le.mpr c47)
          exact J125 v102_3 f102_1_1 f102_1_2 f102_1_3 H locs ls w27 (show (-1) ≤ a2.toInt from r28) (show a2.toInt ≤ 11 from t29) (show 0 ≤ f102_1_1.toInt from r30) (show f102_1_1.toInt ≤ 400 from t31) (show 1 ≤ f102_1_2.toInt from r33) (show f102_1_2.toInt ≤ 400 from t34) (show 0 ≤ f102_1_3.toInt from r36) (show f102_1_3.toInt ≤ 399 from t37)  hw hT hF c32 c35 c38 c39 hM (lv_sub hl [0, 1, 2, 3] rfl)
  have L32 : ∀ (n32 : Nat) (v32_3 : Int32) (f32_1_1 : Int32) (f32_1_2 : Int32) (f32_1_3 : Int32) (H : Heap) (locs : List Loc) (ls : Array Slot) (w48 : va_W), (-1) ≤ a2.toInt → a2.toInt ≤ 11 → 0 ≤ f32_1_1.toInt → f32_1_1.toInt ≤ 400 → 1 ≤ f32_1_2.toInt → f32_1_2.toInt ≤ 400 → 0 ≤ f32_1_3.toInt → f32_1_3.toInt ≤ 399 → (400 - f32_1_1.toInt).toNat < n32 → Wd dC dI A s.heap H locs w48 → TW ksC ad cy B qr s1 w48 → FE ksC [(6, 1, 1), (6, 3, 3), (6, 4, 4)] w0 w48 → gi w48 1 1 = f32_1_1 → gi w48 1 2 = f32_1_2 → gi w48 1 3 = f32_1_3 → gi w48 1 4 = 0 → TT (fun n => m_X6_readNumber n 1 0 a2.toInt (sI w0)) (fun n => j_X6_readNumber 1 n 32 [(0 : Int), a2.toInt, v32_3.toInt] (sI w48)) → lv_has ls 4 [(0, .ref (ad 1)), (1, .int 0), (2, .int a2), (3, .int v32_3)] → W p l e ({ frames := 2, cells := 0, slots := 0, locals := 34 }) s m (List.toArray [.ref (ad 1), .int 0, .int a2]) below meth c H locs 0 0 (MQ below (va_Qi (Pz_X6_readNumber_9 ad cy B qr s1 a2 w0) (fun u : va_W => wpost dC dI cy A u) A) (List.toArray [.ref (ad 1), .int 0, .int a2]) s 0 0 A) (F0 m 32 ls []) := by
    intro n32
    induction n32 with
    | zero => intro v32_3 f32_1_1 f32_1_2 f32_1_3 H locs ls w48 r49 t50 r51 t52 r54 t55 r57 t58 hm32 hw hT hF c53 c56 c59 c60 hM hl; omega
    | succ n32 ih32 =>
      intro v32_3 f32_1_1 f32_1_2 f32_1_3 H locs ls w48 r49 t50 r51 t52 r54 t55 r57 t58 hm32 hw hT hF c53 c56 c59 c60 hM hl
      have J89 : ∀ (v89_3 : Int32) (H : Heap) (locs : List Loc) (ls : Array Slot) (w61 : va_W), (-1) ≤ a2.toInt → a2.toInt ≤ 11 → 0 ≤ f32_1_1.toInt → f32_1_1.toInt ≤ 399 → 1 ≤ f32_1_2.toInt → f32_1_2.toInt ≤ 400 → 0 ≤ f32_1_3.toInt → f32_1_3.toInt ≤ 399 → Wd dC dI A s.heap H locs w61 → TW ksC ad cy B qr s1 w61 → FE ksC [(6, 1, 1), (6, 3, 3), (6, 4, 4)] w0 w61 → gi w61 1 1 = f32_1_1 → gi w61 1 2 = f32_1_2 → gi w61 1 3 = f32_1_3 → gi w61 1 4 = 0 → TT (fun n => m_X6_readNumber n 1 0 a2.toInt (sI w0)) (fun n => b_X6_readNumber_89 (j_X6_readNumber 1 n) n 1 (0 : Int) (a2.toInt) (v89_3.toInt) (sI w61)) → lv_has ls 4 [(0, .ref (ad 1)), (1, .int 0), (2, .int a2), (3, .int v89_3)] → W p l e ({ frames := 2, cells := 0, slots := 0, locals := 34 }) s m (List.toArray [.ref (ad 1), .int 0, .int a2]) below meth c H locs 0 0 (MQ below (va_Qi (Pz_X6_readNumber_9 ad cy B qr s1 a2 w0) (fun u : va_W => wpost dC dI cy A u) A) (List.toArray [.ref (ad 1), .int 0, .int a2]) s 0 0 A) (F0 m 89 ls []) := by
        intro v89_3 H locs ls w61 r62 t63 r64 t65 r67 t68 r70 t71 hw hT hF c66 c69 c72 c73 hM hl
        refine lv_aload_n hx hb dX6_readNumber_89 rfl (lv_at hl 0 rfl) ?_
        refine lv_dup hx hb dX6_readNumber_90 rfl ?_
        refine tk_geti hC hK hw hT hinX6 kC_at1 (by decide) rfl 1 (by decide) (List.mem_cons_of_mem _ uw_9_16) rfl rfl dX6_readNumber_91 (fun x74 c75 rx74 tx74 => ?_)
        refine wk_top f32_1_1 (c75.symm.trans c66) ?_
        replace hM := hM.rd (sI_at c66)
        refine lv_iconst (v := 1) hx hb dX6_readNumber_94 (by decide) ?_
        refine lv_iadd hx hb dX6_readNumber_95 ?_
        refine lv_topi (fun x76 ex76 => ?_)
        have ezx76 := ex76
        have ex76 : x76.toInt = f32_1_1.toInt + (1 : Int) := by rw [ex76]; exact wk_add (show (-2147483648) ≤ f32_1_1.toInt + (1 : Int) by omega) (show f32_1_1.toInt + (1 : Int) ≤ 2147483647 by omega)
        replace hM := hM.lt ex76.symm
        refine tk_puti hC hK hw hT hinX6 tyX6_ok nmX6 kC_at1 (by decide) rfl rfl 1 (by decide) (List.mem_cons_of_mem _ uw_9_16) rfl rfl rfl rfl (show 0 ≤ x76.toInt by omega) (show x76.toInt ≤ 400 by omega) dX6_readNumber_96 (fun H locs w77 hw hT k79 c78 => ?_)
        replace hM := hM.wr (sI_up k79 c78)
        have hF := hF.put kC_at1 (k := 1) (by decide) k79
        have c80 := k79.gi (Or.inr (by decide)) c69
        have c81 := k79.gi (Or.inr (by decide)) c72
        have c82 := k79.gi (Or.inr (by decide)) c73
        refine lv_goto (tgt := 32) hx hb dX6_readNumber_99 (by decide) ?_
        exact ih32 v89_3 x76 f32_1_2 f32_1_3 H locs ls w77 (show (-1) ≤ a2.toInt from r62) (show a2.toInt ≤ 11 from t63) (show 0 ≤ x76.toInt by omega) (show x76.toInt ≤ 400 by omega) (show 1 ≤ f32_1_2.toInt from r67) (show f32_1_2.toInt ≤ 400 from t68) (show 0 ≤ f32_1_3.toInt from r70) (show f32_1_3.toInt ≤ 399 from t71) (show (400 - x76.toInt).toNat < n32 by omega) hw hT hF c78 c80 c81 c82 hM (lv_sub hl [0, 1, 2, 3] rfl)
      replace hM := hM.suc (fun _ => e_X6_readNumber_32)
      refine lv_aload_n hx hb dX6_readNumber_32 rfl (lv_at hl 0 rfl) ?_
      refine tk_geti hC hK hw hT hinX6 kC_at1 (by decide) rfl 1 (by decide) (List.mem_cons_of_mem _ uw_9_16) rfl rfl dX6_readNumber_33 (fun x83 c84 rx83 tx83 => ?_)
      refine wk_top f32_1_1 (c84.symm.trans c53) ?_
      replace hM := hM.rd (sI_at c53)
      refine lv_aload_n hx hb dX6_readNumber_36 rfl (lv_at hl 0 rfl) ?_
      refine tk_geti hC hK hw hT hinX6 kC_at1 (by decide) rfl 2 (by decide) (List.mem_cons_of_mem _ uw_7_22) rfl rfl dX6_readNumber_37 (fun x85 c86 rx85 tx85 => ?_)
      refine wk_top f32_1_2 (c86.symm.trans c56) ?_
      replace hM := hM.rd (sI_at c56)
      refine lv_icmp_ge (tgt := 102) hx hb dX6_readNumber_40 (by decide) (fun c87 => ?_) (fun c87 => ?_)
      · have c87 : f32_1_2.toInt ≤ f32_1_1.toInt := wk_le.mp c87
        replace hM := hM.pos c87
        exact J102 v32_3 f32_1_1 f32_1_2 f32_1_3 H locs ls w48 (show (-1) ≤ a2.toInt from r49) (show a2.toInt ≤ 11 from t50) (show 0 ≤ f32_1_1.toInt from r51) (show f32_1_1.toInt ≤ 400 from t52) (show 1 ≤ f32_1_2.toInt from r54) (show f32_1_2.toInt ≤ 400 from t55) (show 0 ≤ f32_1_3.toInt from r57) (show f32_1_3.toInt ≤ 399 from t58)  hw hT hF c53 c56 c59 c60 hM (lv_sub hl [0, 1, 2, 3] rfl)
      · have c87 : f32_1_1.toInt < f32_1_2.toInt := wk_leF c87
        replace hM := hM.neg (Int.not_le.mpr c87)
        refine lv_aload_n hx hb dX6_readNumber_43 rfl (lv_at hl 0 rfl) ?_
        refine tk_getA hC hK hw hT hinX6 kC_at1 (by decide) rfl 0 (by decide) (List.mem_cons_of_mem _ uw_2_12) rfl rfl dX6_readNumber_44 ?_
        refine lv_aload_n hx hb dX6_readNumber_47 rfl (lv_at hl 0 rfl) ?_
        refine tk_geti hC hK hw hT hinX6 kC_at1 (by decide) rfl 1 (by decide) (List.mem_cons_of_mem _ uw_9_16) rfl rfl dX6_readNumber_48 (fun x88 c89 rx88 tx88 => ?_)
        refine wk_top f32_1_1 (c89.symm.trans c53) ?_
        replace hM := hM.rd (sI_at c53)
        refine tk_iald hC hK hw hT kC_at2 rfl rfl (show 0 ≤ f32_1_1.toInt from r51) (show f32_1_1.toInt < 400 by omega) dX6_readNumber_51 (fun x90 c91 rx90 tx90 => ?_)
        have hox90 := c91
        replace hM := hM.rd (sI_at hox90)
        refine tk_Si hC hK hw hT hA hE hSR (kz_X6_isDigit_1 l adK adV dC dI cy ad B (by omega) (by omega) qr s1   x90 (show 0 ≤ x90.toInt from rx90) (show x90.toInt ≤ 255 from tx90) w48 H.size hT ) (va_cwS 1 hC.2.2.2.2 uS_RX6_64 rfl rfl rfl (by decide +kernel) ⟨Nat.le_of_ble_eq_true rfl, Nat.le_of_ble_eq_true rfl⟩) rfl hl.1 rfl (Nat.le_of_ble_eq_true rfl) dX6_readNumber_52 (fun r92 w94 H locs hp93 hw => ?_)
        obtain ⟨hT, k95, hv99, hg98⟩ := hp93
        have hF := hF.tr k95 (by decide)
        have c100 := k95.gi kC_at1 (by decide) c53
        have c101 := k95.gi kC_at1 (by decide) c56
        have c102 := k95.gi kC_at1 (by decide) c59
        have c103 := k95.gi kC_at1 (by decide) c60
        rcases hg98 with rfl | ⟨rfl, g96, g97⟩
        · replace hM := hM.call (r' := 0) hv99 (by decide)
          refine lv_if_eq (tgt := 102) hx hb dX6_readNumber_55 (by decide) (fun _ => ?_) (fun c => absurd (by decide) c)
          replace hM := hM.pos (by decide)
          exact J102 v32_3 f32_1_1 f32_1_2 f32_1_3 H locs ls w94 (show (-1) ≤ a2.toInt from r49) (show a2.toInt ≤ 11 from t50) (show 0 ≤ f32_1_1.toInt from r51) (show f32_1_1.toInt ≤ 400 from t52) (show 1 ≤ f32_1_2.toInt from r54) (show f32_1_2.toInt ≤ 400 from t55) (show 0 ≤ f32_1_3.toInt from r57) (show f32_1_3.toInt ≤ 399 from t58)  hw hT hF c100 c101 c102 c103 hM (lv_sub hl [0, 1, 2, 3] rfl)
        · replace hM := hM.call (r' := 1) hv99 (by decide)
          refine lv_if_eq (tgt := 102) hx hb dX6_readNumber_55 (by decide) (fun c => absurd c (by decide)) (fun _ => ?_)
          replace hM := hM.neg (by decide)
          refine lv_aload_n hx hb dX6_readNumber_58 rfl (lv_at hl 0 rfl) ?_
          refine tk_geti hC hK hw hT hinX6 kC_at1 (by decide) rfl 1 (by decide) (List.mem_cons_of_mem _ uw_9_16) rfl rfl dX6_readNumber_59 (fun x104 c105 rx104 tx104 => ?_)
          refine wk_top f32_1_1 (c105.symm.trans c100) ?_
          replace hM := hM.rd (sI_at c100)
          refine lv_aload_n hx hb dX6_readNumber_62 rfl (lv_at hl 0 rfl) ?_
          refine tk_geti hC hK hw hT hinX6 kC_at1 (by decide) rfl 3 (by decide) (List.mem_cons_of_mem _ uw_9_17) rfl rfl dX6_readNumber_63 (fun x106 c107 rx106 tx106 => ?_)
          refine wk_top f32_1_3 (c107.symm.trans c102) ?_
          replace hM := hM.rd (sI_at c102)
          refine lv_isub hx hb dX6_readNumber_66 ?_
          refine lv_topi (fun x108 ex108 => ?_)
          have ezx108 := ex108
          have ex108 : x108.toInt = f32_1_1.toInt - f32_1_3.toInt := by rw [ex108]; exact wk_sub (show (-2147483648) ≤ f32_1_1.toInt - f32_1_3.toInt by omega) (show f32_1_1.toInt - f32_1_3.toInt ≤ 2147483647 by omega)
          replace hM := hM.lt ex108.symm
          refine lv_iconst (v := 5) hx hb dX6_readNumber_67 (by decide) ?_
          refine lv_icmp_ge (tgt := 89) hx hb dX6_readNumber_68 (by decide) (fun c109 => ?_) (fun c109 => ?_)
          · have c109 : (5 : Int) ≤ x108.toInt := wk_le.mp c109
            replace hM := hM.pos c109
            exact J89 v32_3 H locs ls w94 (show (-1) ≤ a2.toInt from r49) (show a2.toInt ≤ 11 from t50) (show 0 ≤ f32_1_1.toInt from r51) (show f32_1_1.toInt ≤ 399 by omega) (show 1 ≤ f32_1_2.toInt from r54) (show f32_1_2.toInt ≤ 400 from t55) (show 0 ≤ f32_1_3.toInt from r57) (show f32_1_3.toInt ≤ 399 from t58)  hw hT hF c100 c101 c102 c103 hM (lv_sub hl [0, 1, 2, 3] rfl)
          · have c109 : x108.toInt < (5 : Int) := wk_leF c109
            replace hM := hM.neg (Int.not_le.mpr c109)
            refine lv_iload_n hx hb dX6_readNumber_71 rfl (lv_at hl 3 rfl) ?_
            refine lv_bipush (v := 10) hx hb dX6_readNumber_72 (by decide) ?_
            refine lv_imul hx hb dX6_readNumber_74 ?_
            have nx110 := wk_i32 v32_3
            refine lv_topi (fun x111 ex111 => ?_)
            have ezx111 := ex111
            replace hM := hM.lt (o32_e (f := fun x y => x * y) ezx111 rfl (by decide))
            refine lv_aload_n hx hb dX6_readNumber_75 rfl (lv_at hl 0 rfl) ?_
            refine tk_getA hC hK hw hT hinX6 kC_at1 (by decide) rfl 0 (by decide) (List.mem_cons_of_mem _ uw_2_12) rfl rfl dX6_readNumber_76 ?_
            refine lv_aload_n hx hb dX6_readNumber_79 rfl (lv_at hl 0 rfl) ?_
            refine tk_geti hC hK hw hT hinX6 kC_at1 (by decide) rfl 1 (by decide) (List.mem_cons_of_mem _ uw_9_16) rfl rfl dX6_readNumber_80 (fun x112 c113 rx112 tx112 => ?_)
            refine wk_top f32_1_1 (c113.symm.trans c100) ?_
            replace hM := hM.rd (sI_at c100)
            refine tk_iald hC hK hw hT kC_at2 rfl rfl (show 0 ≤ f32_1_1.toInt from r51) (show f32_1_1.toInt < 400 by omega) dX6_readNumber_83 (fun x114 c115 rx114 tx114 => ?_)
            have hox114 := c115
            replace hM := hM.rd (sI_at hox114)
            refine lv_iadd hx hb dX6_readNumber_84 ?_
            have nx116 := wk_i32 x111
            refine lv_topi (fun x117 ex117 => ?_)
            have ezx117 := ex117
            replace hM := hM.lt (o32_e (f := fun x y => x + y) ezx117 rfl rfl)
            refine lv_bipush (v := 48) hx hb dX6_readNumber_85 (by decide) ?_
            refine lv_isub hx hb dX6_readNumber_87 ?_
            have nx118 := wk_i32 x117
            refine lv_topi (fun x119 ex119 => ?_)
            have ezx119 := ex119
            replace hM := hM.lt (o32_e (f := fun x y => x - y) ezx119 rfl (by decide))
            refine lv_istore_n (lv' := [(3, .int x119), (0, .ref (ad 1)), (1, .int 0), (2, .int a2)]) hx hb dX6_readNumber_88 rfl hl (by decide) rfl (fun ls hl => ?_)
            exact J89 x119 H locs ls w94 (show (-1) ≤ a2.toInt from r49) (show a2.toInt ≤ 11 from t50) (show 0 ≤ f32_1_1.toInt from r51) (show f32_1_1.toInt ≤ 399 by omega) (show 1 ≤ f32_1_2.toInt from r54) (show f32_1_2.toInt ≤ 400 from t55) (show 0 ≤ f32_1_3.toInt from r57) (show f32_1_3.toInt ≤ 399 from t58)  hw hT hF c100 c101 c102 c103 hM (lv_sub hl [1, 2, 3, 0] rfl)
  have hM : TT (fun n => m_X6_readNumber n 1 0 a2.toInt (sI w0)) (fun n => m_X6_readNumber n 1 0 a2.toInt (sI w0)) := TT.rf
  refine lv_aload_n hx hb dX6_readNumber_0 rfl (lv_at hl 0 rfl) ?_
  refine tk_Vi hC hK hw hT hA hE hSR kC_at1 (by decide) rfl (kz_X6_isFaulty_2 l adK adV dC dI cy ad B (by omega) (by omega) qr s1    w0 s.heap.size hT cf0_) (cwV 0 hC.2.2.2.2 uV_RX6_39 rfl rfl rfl (by decide +kernel) ⟨Nat.le_of_ble_eq_true rfl, Nat.le_of_ble_eq_true rfl⟩) rfl hl.1 rfl (Nat.le_of_ble_eq_true rfl) dX6_readNumber_1 (fun r120 w122 H locs hp121 hw => ?_)
  obtain ⟨hT, k123, hv127, hg126⟩ := hp121
  have hF := hF.tr k123 (by decide)
  have c128 := k123.gi kC_at1 (by decide) cf0_
  obtain ⟨rfl, ⟨x124, c125, rx124, tx124⟩⟩ := hg126
  replace hM := hM.call (r' := 0) hv127 (by decide)
  have ex124 : x124.toInt = (0 : Int) := by rw [show x124 = 0 from c125.symm.trans c128]; decide
  refine lv_if_eq (tgt := 9) hx hb dX6_readNumber_4 (by decide) (fun _ => ?_) (fun c => absurd (by decide) c)
  replace hM := hM.pos (by decide)
  refine lv_aload_n hx hb dX6_readNumber_9 rfl (lv_at hl 0 rfl) ?_
  refine tk_Vi hC hK hw hT hA hE hSR kC_at1 (by decide) rfl (kz_X6_lookBehindBlanks_1 l adK adV dC dI cy ad B (by omega) (by omega) qr s1    w122 H.size hT ) (cwV 0 hC.2.2.2.2 uV_RX6_28 rfl rfl rfl (by decide +kernel) ⟨Nat.le_of_ble_eq_true rfl, Nat.le_of_ble_eq_true rfl⟩) rfl hl.1 rfl (Nat.le_of_ble_eq_true rfl) dX6_readNumber_10 (fun r129 w131 H locs hp130 hw => ?_)
  obtain ⟨hT, k132, hv142, hg141⟩ := hp130
  have hF := hF.tr k132 (by decide)
  have c143 := k132.gi kC_at1 (by decide) c128
  rcases hg141 with ⟨g133, g134, ⟨x135, c136, rx135, tx135⟩, ⟨x137, c138, rx137, tx137⟩, ⟨x139, c140, rx139, tx139⟩⟩ | rfl
  · replace hM := hM.call hv142 rfl
    refine tk_Si hC hK hw hT hA hE hSR (kz_X6_isDigit_1 l adK adV dC dI cy ad B (by omega) (by omega) qr s1   r129 (show 0 ≤ r129.toInt by omega) (show r129.toInt ≤ 255 by omega) w131 H.size hT ) (va_cwS 1 hC.2.2.2.2 uS_RX6_64 rfl rfl rfl (by decide +kernel) ⟨Nat.le_of_ble_eq_true rfl, Nat.le_of_ble_eq_true rfl⟩) rfl hl.1 rfl (Nat.le_of_ble_eq_true rfl) dX6_readNumber_13 (fun r144 w146 H locs hp145 hw => ?_)
    obtain ⟨hT, k147, hv151, hg150⟩ := hp145
    have hF := hF.tr k147 (by decide)
    have c152 := k147.gi kC_at1 (by decide) c143
    have c153 := k147.gi kC_at1 (by decide) c136
    have c154 := k147.gi kC_at1 (by decide) c138
    have c155 := k147.gi kC_at1 (by decide) c140
    rcases hg150 with rfl | ⟨rfl, g148, g149⟩
    · replace hM := hM.call (r' := 0) hv151 (by decide)
      refine lv_if_ne (tgt := 30) hx hb dX6_readNumber_16 (by decide) (fun c => absurd (by decide) c) (fun _ => ?_)
      replace hM := hM.neg (by decide)
      refine lv_aload_n hx hb dX6_readNumber_19 rfl (lv_at hl 0 rfl) ?_
      refine lv_aload_n hx hb dX6_readNumber_20 rfl (lv_at hl 0 rfl) ?_
      refine tk_geti hC hK hw hT hinX6 kC_at1 (by decide) rfl 3 (by decide) (List.mem_cons_of_mem _ uw_9_17) rfl rfl dX6_readNumber_21 (fun x156 c157 rx156 tx156 => ?_)
      refine wk_top x139 (c157.symm.trans c155) ?_
      replace hM := hM.rd (sI_at c155)
      refine lv_iconst (v := 0) hx hb dX6_readNumber_24 (by decide) ?_
      refine tk_Vv hC hK hw hT hA hE hSR kC_at1 (by decide) rfl (kz_X6_blame_2 l adK adV dC dI cy ad B (by omega) (by omega) qr s1   x139 (show 0 ≤ x139.toInt by omega) (show x139.toInt ≤ 400 by omega) 0 (by decide) (by decide) w146 H.size hT c152) (cwV 2 hC.2.2.2.2 uV_RX6_35 rfl rfl rfl (by decide +kernel) ⟨Nat.le_of_ble_eq_true rfl, Nat.le_of_ble_eq_true rfl⟩) rfl hl.1 rfl (Nat.le_of_ble_eq_true rfl) dX6_readNumber_25 (fun w160 H locs hp159 hw => ?_)
      obtain ⟨hT, k161, hv165, hg164⟩ := hp159
      try simp only [show (0 : Int32).toInt = 0 by decide] at hv165
      have hF := hF.tr k161 (by decide)
      have c166 := k161.gi kC_at1 (by decide) c153
      have c167 := k161.gi kC_at1 (by decide) c154
      have c168 := k161.gi kC_at1 (by decide) c155
      obtain ⟨x162, c163, rx162, tx162⟩ := hg164
      replace hM := hM.call hv165 rfl
      refine lv_iconst (v := (-1)) hx hb dX6_readNumber_28 (by decide) ?_
      exact tk_iret hC hr hlocks hK ⟨hT, hF, hM.ret (by decide), (Or.inr ⟨rfl, ⟨x162, c163, (show 1 ≤ x162.toInt by omega), (show x162.toInt ≤ 3205 by omega)⟩⟩)⟩ hw dX6_readNumber_29
    · replace hM := hM.call (r' := 1) hv151 (by decide)
      refine lv_if_ne (tgt := 30) hx hb dX6_readNumber_16 (by decide) (fun _ => ?_) (fun c => absurd c (by decide))
      replace hM := hM.pos (by decide)
      refine lv_iconst (v := 0) hx hb dX6_readNumber_30 (by decide) ?_
      refine lv_istore_n (lv' := [(3, .int 0), (0, .ref (ad 1)), (1, .int 0), (2, .int a2)]) hx hb dX6_readNumber_31 rfl hl (by decide) rfl (fun ls hl => ?_)
      exact L32 ((400 - x135.toInt).toNat + 1) 0 x135 x137 x139 H locs ls w146 (show (-1) ≤ a2.toInt from ra2) (show a2.toInt ≤ 11 from ta2) (show 0 ≤ x135.toInt by omega) (show x135.toInt ≤ 400 by omega) (show 1 ≤ x137.toInt by omega) (show x137.toInt ≤ 400 by omega) (show 0 ≤ x139.toInt by omega) (show x139.toInt ≤ 399 by omega) (Nat.lt_succ_self _) hw hT hF c153 c154 c155 c152 hM (lv_sub hl [1, 2, 3, 0] rfl)
  · replace hM := hM.call (r' := (-1)) hv142 (by decide)
    refine tk_Si hC hK hw hT hA hE hSR (kz_X6_isDigit_2 l adK adV dC dI cy ad B (by omega) (by omega) qr s1    w131 H.size hT ) (va_cwS 1 hC.2.2.2.2 uS_RX6_64 rfl rfl rfl (by decide +kernel) ⟨Nat.le_of_ble_eq_true rfl, Nat.le_of_ble_eq_true rfl⟩) rfl hl.1 rfl (Nat.le_of_ble_eq_true rfl) dX6_readNumber_13 (fun r169 w171 H locs hp170 hw => ?_)
    obtain ⟨hT, k172, hv174, hg173⟩ := hp170
    have hF := hF.tr k172 (by decide)
    have c175 := k172.gi kC_at1 (by decide) c143
    obtain rfl := hg173
    replace hM := hM.call (r' := 0) hv174 (by decide)
    refine lv_if_ne (tgt := 30) hx hb dX6_readNumber_16 (by decide) (fun c => absurd (by decide) c) (fun _ => ?_)
    replace hM := hM.neg (by decide)
    refine lv_aload_n hx hb dX6_readNumber_19 rfl (lv_at hl 0 rfl) ?_
    refine lv_aload_n hx hb dX6_readNumber_20 rfl (lv_at hl 0 rfl) ?_
    refine tk_geti hC hK hw hT hinX6 kC_at1 (by decide) rfl 3 (by decide) (List.mem_cons_of_mem _ uw_9_17) rfl rfl dX6_readNumber_21 (fun x176 c177 rx176 tx176 => ?_)
    replace hM := hM.rd (sI_at c177)
    refine lv_iconst (v := 0) hx hb dX6_readNumber_24 (by decide) ?_
    refine tk_Vv hC hK hw hT hA hE hSR kC_at1 (by decide) rfl (kz_X6_blame_2 l adK adV dC dI cy ad B (by omega) (by omega) qr s1   x176 (show 0 ≤ x176.toInt from rx176) (show x176.toInt ≤ 400 from tx176) 0 (by decide) (by decide) w171 H.size hT c175) (cwV 2 hC.2.2.2.2 uV_RX6_35 rfl rfl rfl (by decide +kernel) ⟨Nat.le_of_ble_eq_true rfl, Nat.le_of_ble_eq_true rfl⟩) rfl hl.1 rfl (Nat.le_of_ble_eq_true rfl) dX6_readNumber_25 (fun w180 H locs hp179 hw => ?_)
    obtain ⟨hT, k181, hv185, hg184⟩ := hp179
    try simp only [show (0 : Int32).toInt = 0 by decide] at hv185
    have hF := hF.tr k181 (by decide)
    have c186 := k181.gi kC_at1 (by decide) c177
    obtain ⟨x182, c183, rx182, tx182⟩ := hg184
    replace hM := hM.call hv185 rfl
    refine lv_iconst (v := (-1)) hx hb dX6_readNumber_28 (by decide) ?_
    exact tk_iret hC hr hlocks hK ⟨hT, hF, hM.ret (by decide), (Or.inr ⟨rfl, ⟨x182, c183, (show 1 ≤ x182.toInt by omega), (show x182.toInt ≤ 3205 by omega)⟩⟩)⟩ hw dX6_readNumber_29
abbrev Pz_X6_readNumber_10 (ad : Nat → Nat) (cy : Nat → ClassId) (B : Int) (qr : Nat) (s1 : Int)  (w0 : va_W) : Int32 → va_W → Prop := fun r u => TW ksC ad cy B qr s1 u ∧ FE ksC [(6, 1, 1), (6, 3, 3), (6, 4, 4)] w0 u ∧ Ev (fun n => m_X6_readNumber n 1 0 23 (sI w0)) (r.toInt, sI u) ∧ ((0 ≤ r.toInt ∧ r.toInt ≤ 23 ∧ (∃ y : Int32, gi u 1 2 = y ∧ 1 ≤ y.toInt ∧ y.toInt ≤ 400) ∧ (∃ y : Int32, gi u 1 3 = y ∧ 0 ≤ y.toInt ∧ y.toInt ≤ 399) ∧ (∃ y : Int32, gi u 1 4 = y ∧ 0 ≤ y.toInt ∧ y.toInt ≤ 0)) ∨ (r = (-1) ∧ (∃ y : Int32, gi u 1 4 = y ∧ 1 ≤ y.toInt ∧ y.toInt ≤ 3205)))
set_option maxHeartbeats 4000000 in
set_option maxRecDepth 100000 in
theorem kz_X6_readNumber_10 (l : Launch) (adK adV : Nat → Nat) (dC : Nat → ClassId) (dI : Nat → Nat → Nat) (cy : Nat → ClassId) (ad : Nat → Nat) (B : Int) (hB0 : 2147483648 ≤ B) (hB1 : B ≤ 1152921504606846976) (qr : Nat) (s1 : Int)   (w0 : va_W) (sz : Nat) (hT : TW ksC ad cy B qr s1 w0) (cf0_ : gi w0 1 4 = 0) : Met l yX6_readNumber (wu yX6_readNumber cX6_readNumber 4 (some .int)) ({ frames := 2, cells := 0, slots := 0, locals := 34 }) (va_Pc [.ref (ad 1), .int 0, .int 23] (wpreS adK adV dC dI cy sz w0)) (va_Qi (Pz_X6_readNumber_10 ad cy B qr s1  w0) (fun u : va_W => wpost dC dI cy (va_A w0 sz) u) (va_A w0 sz)) 0 0 (va_A w0 sz) := by
  refine Met.ofW (cc := cX6_readNumber) (maxL := 4) (ret := (some .int)) (by decide) rfl ?_
  intro p e s m args below meth c s₁ Bk hml hv
  obtain ⟨rfl, ⟨hsz, hP, hK, hD0⟩, hE, hSR⟩ := hv
  have hx := Bk.exec
  have hb := Bk.bytes
  have hr := Bk.returns
  have hlocks := Bk.notSynchronized
  have hC : CallFix p m c cX6_readNumber 4 s _ (wu yX6_readNumber cX6_readNumber 4 (some .int)) RX6 := ⟨hx, hb, hml, findClass_of_methodNamed Bk.named, atoms_spec (ws := (wu yX6_readNumber cX6_readNumber 4 (some .int))) Bk.pre⟩
  subst hsz
  have hD := hD0.self (sz := s.heap.size)
  generalize hAe : va_A w0 s.heap.size = A at hD hE ⊢
  have hA : ∀ q : Nat, s.heap.size ≤ q → A q := fun q h => by rw [← hAe]; exact Or.inr h
  have hw : Wd dC dI A s.heap s.heap [] w0 := ⟨hP, hD, va_S.rf⟩
  have hF : FE ksC [(6, 1, 1), (6, 3, 3), (6, 4, 4)] w0 w0 := FE.rf
  have hl := lv_entry ([.ref (ad 1), .int 0, .int 23]) (n := 4) (Nat.le_of_ble_eq_true rfl)
  rw [lg_entry_eq]
  generalize (lg_sl ([.ref (ad 1), .int 0, .int 23]) ++ List.replicate (4 - (lg_sl ([.ref (ad 1), .int 0, .int 23])).length) Slot.unset).toArray = ls at hl ⊢
  have hl : lv_has ls 4 [(0, .ref (ad 1)), (1, .int 0), (2, .int 23)] := hl
  generalize hloc : ([] : List Loc) = locs at hw ⊢
  have hinX6 : ∀ w ∈ u_ws RX6 TX6 5, w ∈ (wu yX6_readNumber cX6_readNumber 4 (some .int)) := fun _ h => List.mem_cons_of_mem _ (up_72 h)
  have J125 : ∀ (v125_3 : Int32) (f125_1_1 : Int32) (f125_1_2 : Int32) (f125_1_3 : Int32) (H : Heap) (locs : List Loc) (ls : Array Slot) (w1 : va_W), 0 ≤ f125_1_1.toInt → f125_1_1.toInt ≤ 400 → 1 ≤ f125_1_2.toInt → f125_1_2.toInt ≤ 400 → 0 ≤ f125_1_3.toInt → f125_1_3.toInt ≤ 399 → Wd dC dI A s.heap H locs w1 → TW ksC ad cy B qr s1 w1 → FE ksC [(6, 1, 1), (6, 3, 3), (6, 4, 4)] w0 w1 → gi w1 1 1 = f125_1_1 → gi w1 1 2 = f125_1_2 → gi w1 1 3 = f125_1_3 → gi w1 1 4 = 0 → TT (fun n => m_X6_readNumber n 1 0 23 (sI w0)) (fun n => b_X6_readNumber_125 (j_X6_readNumber 1 n) n 1 (sI w1)) → lv_has ls 4 [(0, .ref (ad 1)), (1, .int 0), (2, .int 23), (3, .int v125_3)] → W p l e ({ frames := 2, cells := 0, slots := 0, locals := 34 }) s m (List.toArray [.ref (ad 1), .int 0, .int 23]) below meth c H locs 0 0 (MQ below (va_Qi (Pz_X6_readNumber_10 ad cy B qr s1  w0) (fun u : va_W => wpost dC dI cy A u) A) (List.toArray [.ref (ad 1), .int 0, .int 23]) s 0 0 A) (F0 m 125 ls []) := by
    intro v125_3 f125_1_1 f125_1_2 f125_1_3 H locs ls w1 r2 t3 r5 t6 r8 t9 hw hT hF c4 c7 c10 c11 hM hl
    refine lv_aload_n hx hb dX6_readNumber_125 rfl (lv_at hl 0 rfl) ?_
    refine lv_aload_n hx hb dX6_readNumber_126 rfl (lv_at hl 0 rfl) ?_
    refine tk_geti hC hK hw hT hinX6 kC_at1 (by decide) rfl 3 (by decide) (List.mem_cons_of_mem _ uw_9_17) rfl rfl dX6_readNumber_127 (fun x12 c13 rx12 tx12 => ?_)
    refine wk_top f125_1_3 (c13.symm.trans c10) ?_
    replace hM := hM.rd (sI_at c10)
    refine lv_iconst (v := 1) hx hb dX6_readNumber_130 (by decide) ?_
    refine tk_Vv hC hK hw hT hA hE hSR kC_at1 (by decide) rfl (kz_X6_blame_2 l adK adV dC dI cy ad B (by omega) (by omega) qr s1   f125_1_3 (show 0 ≤ f125_1_3.toInt from r8) (show f125_1_3.toInt ≤ 400 from Int.le_trans t9 (by decide)) 1 (by decide) (by decide) w1 H.size hT c11) (cwV 2 hC.2.2.2.2 uV_RX6_35 rfl rfl rfl (by decide +kernel) ⟨Nat.le_of_ble_eq_true rfl, Nat.le_of_ble_eq_true rfl⟩) rfl hl.1 rfl (Nat.le_of_ble_eq_true rfl) dX6_readNumber_131 (fun w16 H locs hp15 hw => ?_)
    obtain ⟨hT, k17, hv21, hg20⟩ := hp15
    try simp only [show (1 : Int32).toInt = 1 by decide] at hv21
    have hF := hF.tr k17 (by decide)
    have c22 := k17.gi kC_at1 (by decide) c4
    have c23 := k17.gi kC_at1 (by decide) c7
    have c24 := k17.gi kC_at1 (by decide) c10
    obtain ⟨x18, c19, rx18, tx18⟩ := hg20
    replace hM := hM.call hv21 rfl
    refine lv_iconst (v := (-1)) hx hb dX6_readNumber_134 (by decide) ?_
    exact tk_iret hC hr hlocks hK ⟨hT, hF, hM.ret (by decide), (Or.inr ⟨rfl, ⟨x18, c19, (show 1 ≤ x18.toInt by omega), (show x18.toInt ≤ 3205 by omega)⟩⟩)⟩ hw dX6_readNumber_135
  have J102 : ∀ (v102_3 : Int32) (f102_1_1 : Int32) (f102_1_2 : Int32) (f102_1_3 : Int32) (H : Heap) (locs : List Loc) (ls : Array Slot) (w25 : va_W), 0 ≤ f102_1_1.toInt → f102_1_1.toInt ≤ 400 → 1 ≤ f102_1_2.toInt → f102_1_2.toInt ≤ 400 → 0 ≤ f102_1_3.toInt → f102_1_3.toInt ≤ 399 → Wd dC dI A s.heap H locs w25 → TW ksC ad cy B qr s1 w25 → FE ksC [(6, 1, 1), (6, 3, 3), (6, 4, 4)] w0 w25 → gi w25 1 1 = f102_1_1 → gi w25 1 2 = f102_1_2 → gi w25 1 3 = f102_1_3 → gi w25 1 4 = 0 → TT (fun n => m_X6_readNumber n 1 0 23 (sI w0)) (fun n => b_X6_readNumber_102 (j_X6_readNumber 1 n) n 1 (0 : Int) (23 : Int) (v102_3.toInt) (sI w25)) → lv_has ls 4 [(0, .ref (ad 1)), (1, .int 0), (2, .int 23), (3, .int v102_3)] → W p l e ({ frames := 2, cells := 0, slots := 0, locals := 34 }) s m (List.toArray [.ref (ad 1), .int 0, .int 23]) below meth c H locs 0 0 (MQ below (va_Qi (Pz_X6_readNumber_10 ad cy B qr s1  w0) (fun u : va_W => wpost dC dI cy A u) A) (List.toArray [.ref (ad 1), .int 0, .int 23]) s 0 0 A) (F0 m 102 ls []) := by
    intro v102_3 f102_1_1 f102_1_2 f102_1_3 H locs ls w25 r26 t27 r29 t30 r32 t33 hw hT hF c28 c31 c34 c35 hM hl
    refine lv_aload_n hx hb dX6_readNumber_102 rfl (lv_at hl 0 rfl) ?_
    refine tk_geti hC hK hw hT hinX6 kC_at1 (by decide) rfl 1 (by decide) (List.mem_cons_of_mem _ uw_9_16) rfl rfl dX6_readNumber_103 (fun x36 c37 rx36 tx36 => ?_)
    refine wk_top f102_1_1 (c37.symm.trans c28) ?_
    replace hM := hM.rd (sI_at c28)
    refine lv_aload_n hx hb dX6_readNumber_106 rfl (lv_at hl 0 rfl) ?_
    refine tk_geti hC hK hw hT hinX6 kC_at1 (by decide) rfl 3 (by decide) (List.mem_cons_of_mem _ uw_9_17) rfl rfl dX6_readNumber_107 (fun x38 c39 rx38 tx38 => ?_)
    refine wk_top f102_1_3 (c39.symm.trans c34) ?_
    replace hM := hM.rd (sI_at c34)
    refine lv_isub hx hb dX6_readNumber_110 ?_
    refine lv_topi (fun x40 ex40 => ?_)
    have ezx40 := ex40
    have ex40 : x40.toInt = f102_1_1.toInt - f102_1_3.toInt := by rw [ex40]; exact wk_sub (show (-2147483648) ≤ f102_1_1.toInt - f102_1_3.toInt by omega) (show f102_1_1.toInt - f102_1_3.toInt ≤ 2147483647 by omega)
    replace hM := hM.lt ex40.symm
    refine lv_iconst (v := 5) hx hb dX6_readNumber_111 (by decide) ?_
    refine lv_icmp_gt (tgt := 125) hx hb dX6_readNumber_112 (by decide) (fun c41 => ?_) (fun c41 => ?_)
    · have c41 : (5 : Int) < x40.toInt := wk_lt.mp c41
      replace hM := hM.pos c41
      exact J125 v102_3 f102_1_1 f102_1_2 f102_1_3 H locs ls w25 (show 0 ≤ f102_1_1.toInt from r26) (show f102_1_1.toInt ≤ 400 from t27) (show 1 ≤ f102_1_2.toInt from r29) (show f102_1_2.toInt ≤ 400 from t30) (show 0 ≤ f102_1_3.toInt from r32) (show f102_1_3.toInt ≤ 399 from t33)  hw hT hF c28 c31 c34 c35 hM (lv_sub hl [0, 1, 2, 3] rfl)
    · have c41 : x40.toInt ≤ (5 : Int) := wk_ltF c41
      replace hM := hM.neg (Int.not_lt.mpr c41)
      refine lv_iload_n hx hb dX6_readNumber_115 rfl (lv_at hl 3 rfl) ?_
      refine lv_iload_n hx hb dX6_readNumber_116 rfl (lv_at hl 1 rfl) ?_
      refine lv_icmp_lt (tgt := 125) hx hb dX6_readNumber_117 (by decide) (fun c42 => ?_) (fun c42 => ?_)
      · have c42 : v102_3.toInt < (0 : Int) := wk_lt.mp c42
        replace hM := hM.pos c42
        exact J125 v102_3 f102_1_1 f102_1_2 f102_1_3 H locs ls w25 (show 0 ≤ f102_1_1.toInt from r26) (show f102_1_1.toInt ≤ 400 from t27) (show 1 ≤ f102_1_2.toInt from r29) (show f102_1_2.toInt ≤ 400 from t30) (show 0 ≤ f102_1_3.toInt from r32) (show f102_1_3.toInt ≤ 399 from t33)  hw hT hF c28 c31 c34 c35 hM (lv_sub hl [0, 1, 2, 3] rfl)
      · have c42 : (0 : Int) ≤ v102_3.toInt := wk_ltF c42
        replace hM := hM.neg (Int.not_lt.mpr c42)
        refine lv_iload_n hx hb dX6_readNumber_120 rfl (lv_at hl 3 rfl) ?_
        refine lv_iload_n hx hb dX6_readNumber_121 rfl (lv_at hl 2 rfl) ?_
        refine lv_icmp_le (tgt := 136) hx hb dX6_readNumber_122 (by decide) (fun c43 => ?_) (fun c43 => ?_)
        · have c43 : v102_3.toInt ≤ (23 : Int) := wk_le.mp c43
          replace hM := hM.pos c43
          refine lv_iload_n hx hb dX6_readNumber_136 rfl (lv_at hl 3 rfl) ?_
          exact tk_iret hC hr hlocks hK ⟨hT, hF, hM.ret rfl, (Or.inl ⟨(show 0 ≤ v102_3.toInt by omega), (show v102_3.toInt ≤ 23 by omega), ⟨f102_1_2, c31, (show 1 ≤ f102_1_2.toInt from r29), (show f102_1_2.toInt ≤ 400 from t30)⟩, ⟨f102_1_3, c34, (show 0 ≤ f102_1_3.toInt from r32), (show f102_1_3.toInt ≤ 399 from t33)⟩, ⟨0, c35, (by decide), (by decide)⟩⟩)⟩ hw dX6_readNumber_137
        · have c43 : (23 : Int) < v102_3.toInt := wk_leF c43
          replace hM := hM.neg (Int.not_le.mpr c43)
          exact J125 v102_3 f102_1_1 f102_1_2 f102_1_3 H locs ls w25 (show 0 ≤ f102_1_1.toInt from r26) (show f102_1_1.toInt ≤ 400 from t27) (show 1 ≤ f102_1_2.toInt from r29) (show f102_1_2.toInt ≤ 400 from t30) (show 0 ≤ f102_1_3.toInt from r32) (show f102_1_3.toInt ≤ 399 from t33)  hw hT hF c28 c31 c34 c35 hM (lv_sub hl [0, 1, 2, 3] rfl)
  have L32 : ∀ (n32 : Nat) (v32_3 : Int32) (f32_1_1 : Int32) (f32_1_2 : Int32) (f32_1_3 : Int32) (H : Heap) (locs : List Loc) (ls : Array Slot) (w44 : va_W), 0 ≤ f32_1_1.toInt → f32_1_1.toInt ≤ 400 → 1 ≤ f32_1_2.toInt → f32_1_2.toInt ≤ 400 → 0 ≤ f32_1_3.toInt → f32_1_3.toInt ≤ 399 → (400 - f32_1_1.toInt).toNat < n32 → Wd dC dI A s.heap H locs w44 → TW ksC ad cy B qr s1 w44 → FE ksC [(6, 1, 1), (6, 3, 3), (6, 4, 4)] w0 w44 → gi w44 1 1 = f32_1_1 → gi w44 1 2 = f32_1_2 → gi w44 1 3 = f32_1_3 → gi w44 1 4 = 0 → TT (fun n => m_X6_readNumber n 1 0 23 (sI w0)) (fun n => j_X6_readNumber 1 n 32 [(0 : Int), (23 : Int), v32_3.toInt] (sI w44)) → lv_has ls 4 [(0, .ref (ad 1)), (1, .int 0), (2, .int 23), (3, .int v32_3)] → W p l e ({ frames := 2, cells := 0, slots := 0, locals := 34 }) s m (List.toArray [.ref (ad 1), .int 0, .int 23]) below meth c H locs 0 0 (MQ below (va_Qi (Pz_X6_readNumber_10 ad cy B qr s1  w0) (fun u : va_W => wpost dC dI cy A u) A) (List.toArray [.ref (ad 1), .int 0, .int 23]) s 0 0 A) (F0 m 32 ls []) := by
    intro n32
    induction n32 with
    | zero => intro v32_3 f32_1_1 f32_1_2 f32_1_3 H locs ls w44 r45 t46 r48 t49 r51 t52 hm32 hw hT hF c47 c50 c53 c54 hM hl; omega
    | succ n32 ih32 =>
      intro v32_3 f32_1_1 f32_1_2 f32_1_3 H locs ls w44 r45 t46 r48 t49 r51 t52 hm32 hw hT hF c47 c50 c53 c54 hM hl
      have J89 : ∀ (v89_3 : Int32) (H : Heap) (locs : List Loc) (ls : Array Slot) (w55 : va_W), 0 ≤ f32_1_1.toInt → f32_1_1.toInt ≤ 399 → 1 ≤ f32_1_2.toInt → f32_1_2.toInt ≤ 400 → 0 ≤ f32_1_3.toInt → f32_1_3.toInt ≤ 399 → Wd dC dI A s.heap H locs w55 → TW ksC ad cy B qr s1 w55 → FE ksC [(6, 1, 1), (6, 3, 3), (6, 4, 4)] w0 w55 → gi w55 1 1 = f32_1_1 → gi w55 1 2 = f32_1_2 → gi w55 1 3 = f32_1_3 → gi w55 1 4 = 0 → TT (fun n => m_X6_readNumber n 1 0 23 (sI w0)) (fun n => b_X6_readNumber_89 (j_X6_readNumber 1 n) n 1 (0 : Int) (23 : Int) (v89_3.toInt) (sI w55)) → lv_has ls 4 [(0, .ref (ad 1)), (1, .int 0), (2, .int 23), (3, .int v89_3)] → W p l e ({ frames := 2, cells := 0, slots := 0, locals := 34 }) s m (List.toArray [.ref (ad 1), .int 0, .int 23]) below meth c H locs 0 0 (MQ below (va_Qi (Pz_X6_readNumber_10 ad cy B qr s1  w0) (fun u : va_W => wpost dC dI cy A u) A) (List.toArray [.ref (ad 1), .int 0, .int 23]) s 0 0 A) (F0 m 89 ls []) := by
        intro v89_3 H locs ls w55 r56 t57 r59 t60 r62 t63 hw hT hF c58 c61 c64 c65 hM hl
        refine lv_aload_n hx hb dX6_readNumber_89 rfl (lv_at hl 0 rfl) ?_
        refine lv_dup hx hb dX6_readNumber_90 rfl ?_
        refine tk_geti hC hK hw hT hinX6 kC_at1 (by decide) rfl 1 (by decide) (List.mem_cons_of_mem _ uw_9_16) rfl rfl dX6_readNumber_91 (fun x66 c67 rx66 tx66 => ?_)
        refine wk_top f32_1_1 (c67.symm.trans c58) ?_
        replace hM := hM.rd (sI_at c58)
        refine lv_iconst (v := 1) hx hb dX6_readNumber_94 (by decide) ?_
        refine lv_iadd hx hb dX6_readNumber_95 ?_
        refine lv_topi (fun x68 ex68 => ?_)
        have ezx68 := ex68
        have ex68 : x68.toInt = f32_1_1.toInt + (1 : Int) := by rw [ex68]; exact wk_add (show (-2147483648) ≤ f32_1_1.toInt + (1 : Int) by omega) (show f32_1_1.toInt + (1 : Int) ≤ 2147483647 by omega)
        replace hM := hM.lt ex68.symm
        refine tk_puti hC hK hw hT hinX6 tyX6_ok nmX6 kC_at1 (by decide) rfl rfl 1 (by decide) (List.mem_cons_of_mem _ uw_9_16) rfl rfl rfl rfl (show 0 ≤ x68.toInt by omega) (show x68.toInt ≤ 400 by omega) dX6_readNumber_96 (fun H locs w69 hw hT k71 c70 => ?_)
        replace hM := hM.wr (sI_up k71 c70)
        have hF := hF.put kC_at1 (k := 1) (by decide) k71
        have c72 := k71.gi (Or.inr (by decide)) c61
        have c73 := k71.gi (Or.inr (by decide)) c64
        have c74 := k71.gi (Or.inr (by decide)) c65
        refine lv_goto (tgt := 32) hx hb dX6_readNumber_99 (by decide) ?_
        exact ih32 v89_3 x68 f32_1_2 f32_1_3 H locs ls w69 (show 0 ≤ x68.toInt by omega) (show x68.toInt ≤ 400 by omega) (show 1 ≤ f32_1_2.toInt from r59) (show f32_1_2.toInt ≤ 400 from t60) (show 0 ≤ f32_1_3.toInt from r62) (show f32_1_3.toInt ≤ 399 from t63) (show (400 - x68.toInt).toNat < n32 by omega) hw hT hF c70 c72 c73 c74 hM (lv_sub hl [0, 1, 2, 3] rfl)
      replace hM := hM.suc (fun _ => e_X6_readNumber_32)
      refine lv_aload_n hx hb dX6_readNumber_32 rfl (lv_at hl 0 rfl) ?_
      refine tk_geti hC hK hw hT hinX6 kC_at1 (by decide) rfl 1 (by decide) (List.mem_cons_of_mem _ uw_9_16) rfl rfl dX6_readNumber_33 (fun x75 c76 rx75 tx75 => ?_)
      refine wk_top f32_1_1 (c76.symm.trans c47) ?_
      replace hM := hM.rd (sI_at c47)
      refine lv_aload_n hx hb dX6_readNumber_36 rfl (lv_at hl 0 rfl) ?_
      refine tk_geti hC hK hw hT hinX6 kC_at1 (by decide) rfl 2 (by decide) (List.mem_cons_of_mem _ uw_7_22) rfl rfl dX6_readNumber_37 (fun x77 c78 rx77 tx77 => ?_)
      refine wk_top f32_1_2 (c78.symm.trans c50) ?_
      replace hM := hM.rd (sI_at c50)
      refine lv_icmp_ge (tgt := 102) hx hb dX6_readNumber_40 (by decide) (fun c79 => ?_) (fun c79 => ?_)
      · have c79 : f32_1_2.toInt ≤ f32_1_1.toInt := wk_le.mp c79
        replace hM := hM.pos c79
        exact J102 v32_3 f32_1_1 f32_1_2 f32_1_3 H locs ls w44 (show 0 ≤ f32_1_1.toInt from r45) (show f32_1_1.toInt ≤ 400 from t46) (show 1 ≤ f32_1_2.toInt from r48) (show f32_1_2.toInt ≤ 400 from t49) (show 0 ≤ f32_1_3.toInt from r51) (show f32_1_3.toInt ≤ 399 from t52)  hw hT hF c47 c50 c53 c54 hM (lv_sub hl [0, 1, 2, 3] rfl)
      · have c79 : f32_1_1.toInt < f32_1_2.toInt := wk_leF c79
        replace hM := hM.neg (Int.not_le.mpr c79)
        refine lv_aload_n hx hb dX6_readNumber_43 rfl (lv_at hl 0 rfl) ?_
        refine tk_getA hC hK hw hT hinX6 kC_at1 (by decide) rfl 0 (by decide) (List.mem_cons_of_mem _ uw_2_12) rfl rfl dX6_readNumber_44 ?_
        refine lv_aload_n hx hb dX6_readNumber_47 rfl (lv_at hl 0 rfl) ?_
        refine tk_geti hC hK hw hT hinX6 kC_at1 (by decide) rfl 1 (by decide) (List.mem_cons_of_mem _ uw_9_16) rfl rfl dX6_readNumber_48 (fun x80 c81 rx80 tx80 => ?_)
        refine wk_top f32_1_1 (c81.symm.trans c47) ?_
        replace hM := hM.rd (sI_at c47)
        refine tk_iald hC hK hw hT kC_at2 rfl rfl (show 0 ≤ f32_1_1.toInt from r45) (show f32_1_1.toInt < 400 by omega) dX6_readNumber_51 (fun x82 c83 rx82 tx82 => ?_)
        have hox82 := c83
        replace hM := hM.rd (sI_at hox82)
        refine tk_Si hC hK hw hT hA hE hSR (kz_X6_isDigit_1 l adK adV dC dI cy ad B (by omega) (by omega) qr s1   x82 (show 0 ≤ x82.toInt from rx82) (show x82.toInt ≤ 255 from tx82) w44 H.size hT ) (va_cwS 1 hC.2.2.2.2 uS_RX6_64 rfl rfl rfl (by decide +kernel) ⟨Nat.le_of_ble_eq_true rfl, Nat.le_of_ble_eq_true rfl⟩) rfl hl.1 rfl (Nat.le_of_ble_eq_true rfl) dX6_readNumber_52 (fun r84 w86 H locs hp85 hw => ?_)
        obtain ⟨hT, k87, hv91, hg90⟩ := hp85
        have hF := hF.tr k87 (by decide)
        have c92 := k87.gi kC_at1 (by decide) c47
        have c93 := k87.gi kC_at1 (by decide) c50
        have c94 := k87.gi kC_at1 (by decide) c53
        have c95 := k87.gi kC_at1 (by decide) c54
        rcases hg90 with rfl | ⟨rfl, g88, g89⟩
        · replace hM := hM.call (r' := 0) hv91 (by decide)
          refine lv_if_eq (tgt := 102) hx hb dX6_readNumber_55 (by decide) (fun _ => ?_) (fun c => absurd (by decide) c)
          replace hM := hM.pos (by decide)
          exact J102 v32_3 f32_1_1 f32_1_2 f32_1_3 H locs ls w86 (show 0 ≤ f32_1_1.toInt from r45) (show f32_1_1.toInt ≤ 400 from t46) (show 1 ≤ f32_1_2.toInt from r48) (show f32_1_2.toInt ≤ 400 from t49) (show 0 ≤ f32_1_3.toInt from r51) (show f32_1_3.toInt ≤ 399 from t52)  hw hT hF c92 c93 c94 c95 hM (lv_sub hl [0, 1, 2, 3] rfl)
        · replace hM := hM.call (r' := 1) hv91 (by decide)
          refine lv_if_eq (tgt := 102) hx hb dX6_readNumber_55 (by decide) (fun c => absurd c (by decide)) (fun _ => ?_)
          replace hM := hM.neg (by decide)
          refine lv_aload_n hx hb dX6_readNumber_58 rfl (lv_at hl 0 rfl) ?_
          refine tk_geti hC hK hw hT hinX6 kC_at1 (by decide) rfl 1 (by decide) (List.mem_cons_of_mem _ uw_9_16) rfl rfl dX6_readNumber_59 (fun x96 c97 rx96 tx96 => ?_)
          refine wk_top f32_1_1 (c97.symm.trans c92) ?_
          replace hM := hM.rd (sI_at c92)
          refine lv_aload_n hx hb dX6_readNumber_62 rfl (lv_at hl 0 rfl) ?_
          refine tk_geti hC hK hw hT hinX6 kC_at1 (by decide) rfl 3 (by decide) (List.mem_cons_of_mem _ uw_9_17) rfl rfl dX6_readNumber_63 (fun x98 c99 rx98 tx98 => ?_)
          refine wk_top f32_1_3 (c99.symm.trans c94) ?_
          replace hM := hM.rd (sI_at c94)
          refine lv_isub hx hb dX6_readNumber_66 ?_
          refine lv_topi (fun x100 ex100 => ?_)
          have ezx100 := ex100
          have ex100 : x100.toInt = f32_1_1.toInt - f32_1_3.toInt := by rw [ex100]; exact wk_sub (show (-2147483648) ≤ f32_1_1.toInt - f32_1_3.toInt by omega) (show f32_1_1.toInt - f32_1_3.toInt ≤ 2147483647 by omega)
          replace hM := hM.lt ex100.symm
          refine lv_iconst (v := 5) hx hb dX6_readNumber_67 (by decide) ?_
          refine lv_icmp_ge (tgt := 89) hx hb dX6_readNumber_68 (by decide) (fun c101 => ?_) (fun c101 => ?_)
          · have c101 : (5 : Int) ≤ x100.toInt := wk_le.mp c101
            replace hM := hM.pos c101
            exact J89 v32_3 H locs ls w86 (show 0 ≤ f32_1_1.toInt from r45) (show f32_1_1.toInt ≤ 399 by omega) (show 1 ≤ f32_1_2.toInt from r48) (show f32_1_2.toInt ≤ 400 from t49) (show 0 ≤ f32_1_3.toInt from r51) (show f32_1_3.toInt ≤ 399 from t52)  hw hT hF c92 c93 c94 c95 hM (lv_sub hl [0, 1, 2, 3] rfl)
          · have c101 : x100.toInt < (5 : Int) := wk_leF c101
            replace hM := hM.neg (Int.not_le.mpr c101)
            refine lv_iload_n hx hb dX6_readNumber_71 rfl (lv_at hl 3 rfl) ?_
            refine lv_bipush (v := 10) hx hb dX6_readNumber_72 (by decide) ?_
            refine lv_imul hx hb dX6_readNumber_74 ?_
            have nx102 := wk_i32 v32_3
            refine lv_topi (fun x103 ex103 => ?_)
            have ezx103 := ex103
            replace hM := hM.lt (o32_e (f := fun x y => x * y) ezx103 rfl (by decide))
            refine lv_aload_n hx hb dX6_readNumber_75 rfl (lv_at hl 0 rfl) ?_
            refine tk_getA hC hK hw hT hinX6 kC_at1 (by decide) rfl 0 (by decide) (List.mem_cons_of_mem _ uw_2_12) rfl rfl dX6_readNumber_76 ?_
            refine lv_aload_n hx hb dX6_readNumber_79 rfl (lv_at hl 0 rfl) ?_
            refine tk_geti hC hK hw hT hinX6 kC_at1 (by decide) rfl 1 (by decide) (List.mem_cons_of_mem _ uw_9_16) rfl rfl dX6_readNumber_80 (fun x104 c105 rx104 tx104 => ?_)
            refine wk_top f32_1_1 (c105.symm.trans c92) ?_
            replace hM := hM.rd (sI_at c92)
            refine tk_iald hC hK hw hT kC_at2 rfl rfl (show 0 ≤ f32_1_1.toInt from r45) (show f32_1_1.toInt < 400 by omega) dX6_readNumber_83 (fun x106 c107 rx106 tx106 => ?_)
            have hox106 := c107
            replace hM := hM.rd (sI_at hox106)
            refine lv_iadd hx hb dX6_readNumber_84 ?_
            have nx108 := wk_i32 x103
            refine lv_topi (fun x109 ex109 => ?_)
            have ezx109 := ex109
            replace hM := hM.lt (o32_e (f := fun x y => x + y) ezx109 rfl rfl)
            refine lv_bipush (v := 48) hx hb dX6_readNumber_85 (by decide) ?_
            refine lv_isub hx hb dX6_readNumber_87 ?_
            have nx110 := wk_i32 x109
            refine lv_topi (fun x111 ex111 => ?_)
            have ezx111 := ex111
            replace hM := hM.lt (o32_e (f := fun x y => x - y) ezx111 rfl (by decide))
            refine lv_istore_n (lv' := [(3, .int x111), (0, .ref (ad 1)), (1, .int 0), (2, .int 23)]) hx hb dX6_readNumber_88 rfl hl (by decide) rfl (fun ls hl => ?_)
            exact J89 x111 H locs ls w86 (show 0 ≤ f32_1_1.toInt from r45) (show f32_1_1.toInt ≤ 399 by omega) (show 1 ≤ f32_1_2.toInt from r48) (show f32_1_2.toInt ≤ 400 from t49) (show 0 ≤ f32_1_3.toInt from r51) (show f32_1_3.toInt ≤ 399 from t52)  hw hT hF c92 c93 c94 c95 hM (lv_sub hl [1, 2, 3, 0] rfl)
  have hM : TT (fun n => m_X6_readNumber n 1 0 23 (sI w0)) (fun n => m_X6_readNumber n 1 0 23 (sI w0)) := TT.rf
  refine lv_aload_n hx hb dX6_readNumber_0 rfl (lv_at hl 0 rfl) ?_
  refine tk_Vi hC hK hw hT hA hE hSR kC_at1 (by decide) rfl (kz_X6_isFaulty_2 l adK adV dC dI cy ad B (by omega) (by omega) qr s1    w0 s.heap.size hT cf0_) (cwV 0 hC.2.2.2.2 uV_RX6_39 rfl rfl rfl (by decide +kernel) ⟨Nat.le_of_ble_eq_true rfl, Nat.le_of_ble_eq_true rfl⟩) rfl hl.1 rfl (Nat.le_of_ble_eq_true rfl) dX6_readNumber_1 (fun r112 w114 H locs hp113 hw => ?_)
  obtain ⟨hT, k115, hv119, hg118⟩ := hp113
  have hF := hF.tr k115 (by decide)
  have c120 := k115.gi kC_at1 (by decide) cf0_
  obtain ⟨rfl, ⟨x116, c117, rx116, tx116⟩⟩ := hg118
  replace hM := hM.call (r' := 0) hv119 (by decide)
  have ex116 : x116.toInt = (0 : Int) := by rw [show x116 = 0 from c117.symm.trans c120]; decide
  refine lv_if_eq (tgt := 9) hx hb dX6_readNumber_4 (by decide) (fun _ => ?_) (fun c => absurd (by decide) c)
  replace hM := hM.pos (by decide)
  refine lv_aload_n hx hb dX6_readNumber_9 rfl (lv_at hl 0 rfl) ?_
  refine tk_Vi hC hK hw hT hA hE hSR kC_at1 (by decide) rfl (kz_X6_lookBehindBlanks_1 l adK adV dC dI cy ad B (by omega) (by omega) qr s1    w114 H.size hT ) (cwV 0 hC.2.2.2.2 uV_RX6_28 rfl rfl rfl (by decide +kernel) ⟨Nat.le_of_ble_eq_true rfl, Nat.le_of_ble_eq_true rfl⟩) rfl hl.1 rfl (Nat.le_of_ble_eq_true rfl) dX6_readNumber_10 (fun r121 w123 H locs hp122 hw => ?_)
  obtain ⟨hT, k124, hv134, hg133⟩ := hp122
  have hF := hF.tr k124 (by decide)
  have c135 := k124.gi kC_at1 (by decide) c120
  rcases hg133 with ⟨g125, g126, ⟨x127, c128, rx127, tx127⟩, ⟨x129, c130, rx129, tx129⟩, ⟨x131, c132, rx131, tx131⟩⟩ | rfl
  · replace hM := hM.call hv134 rfl
    refine tk_Si hC hK hw hT hA hE hSR (kz_X6_isDigit_1 l adK adV dC dI cy ad B (by omega) (by omega) qr s1   r121 (show 0 ≤ r121.toInt by omega) (show r121.toInt ≤ 255 by omega) w123 H.size hT ) (va_cwS 1 hC.2.2.2.2 uS_RX6_64 rfl rfl rfl (by decide +kernel) ⟨Nat.le_of_ble_eq_true rfl, Nat.le_of_ble_eq_true rfl⟩) rfl hl.1 rfl (Nat.le_of_ble_eq_true rfl) dX6_readNumber_13 (fun r136 w138 H locs hp137 hw => ?_)
    obtain ⟨hT, k139, hv143, hg142⟩ := hp137
    have hF := hF.tr k139 (by decide)
    have c144 := k139.gi kC_at1 (by decide) c135
    have c145 := k139.gi kC_at1 (by decide) c128
    have c146 := k139.gi kC_at1 (by decide) c130
    have c147 := k139.gi kC_at1 (by decide) c132
    rcases hg142 with rfl | ⟨rfl, g140, g141⟩
    · replace hM := hM.call (r' := 0) hv143 (by decide)
      refine lv_if_ne (tgt := 30) hx hb dX6_readNumber_16 (by decide) (fun c => absurd (by decide) c) (fun _ => ?_)
      replace hM := hM.neg (by decide)
      refine lv_aload_n hx hb dX6_readNumber_19 rfl (lv_at hl 0 rfl) ?_
      refine lv_aload_n hx hb dX6_readNumber_20 rfl (lv_at hl 0 rfl) ?_
      refine tk_geti hC hK hw hT hinX6 kC_at1 (by decide) rfl 3 (by decide) (List.mem_cons_of_mem _ uw_9_17) rfl rfl dX6_readNumber_21 (fun x148 c149 rx148 tx148 => ?_)
      refine wk_top x131 (c149.symm.trans c147) ?_
      replace hM := hM.rd (sI_at c147)
      refine lv_iconst (v := 0) hx hb dX6_readNumber_24 (by decide) ?_
      refine tk_Vv hC hK hw hT hA hE hSR kC_at1 (by decide) rfl (kz_X6_blame_2 l adK adV dC dI cy ad B (by omega) (by omega) qr s1   x131 (show 0 ≤ x131.toInt by omega) (show x131.toInt ≤ 400 by omega) 0 (by decide) (by decide) w138 H.size hT c144) (cwV 2 hC.2.2.2.2 uV_RX6_35 rfl rfl rfl (by decide +kernel) ⟨Nat.le_of_ble_eq_true rfl, Nat.le_of_ble_eq_true rfl⟩) rfl hl.1 rfl (Nat.le_of_ble_eq_true rfl) dX6_readNumber_25 (fun w152 H locs hp151 hw => ?_)
      obtain ⟨hT, k153, hv157, hg156⟩ := hp151
      try simp only [show (0 : Int32).toInt = 0 by decide] at hv157
      have hF := hF.tr k153 (by decide)
      have c158 := k153.gi kC_at1 (by decide) c145
      have c159 := k153.gi kC_at1 (by decide) c146
      have c160 := k153.gi kC_at1 (by decide) c147
      obtain ⟨x154, c155, rx154, tx154⟩ := hg156
      replace hM := hM.call hv157 rfl
      refine lv_iconst (v := (-1)) hx hb dX6_readNumber_28 (by decide) ?_
      exact tk_iret hC hr hlocks hK ⟨hT, hF, hM.ret (by decide), (Or.inr ⟨rfl, ⟨x154, c155, (show 1 ≤ x154.toInt by omega), (show x154.toInt ≤ 3205 by omega)⟩⟩)⟩ hw dX6_readNumber_29
    · replace hM := hM.call (r' := 1) hv143 (by decide)
      refine lv_if_ne (tgt := 30) hx hb dX6_readNumber_16 (by decide) (fun _ => ?_) (fun c => absurd c (by decide))
      replace hM := hM.pos (by decide)
      refine lv_iconst (v := 0) hx hb dX6_readNumber_30 (by decide) ?_
      refine lv_istore_n (lv' := [(3, .int 0), (0, .ref (ad 1)), (1, .int 0), (2, .int 23)]) hx hb dX6_readNumber_31 rfl hl (by decide) rfl (fun ls hl => ?_)
      exact L32 ((400 - x127.toInt).toNat + 1) 0 x127 x129 x131 H locs ls w138 (show 0 ≤ x127.toInt by omega) (show x127.toInt ≤ 400 by omega) (show 1 ≤ x129.toInt by omega) (show x129.toInt ≤ 400 by omega) (show 0 ≤ x131.toInt by omega) (show x131.toInt ≤ 399 by omega) (Nat.lt_succ_self _) hw hT hF c145 c146 c147 c144 hM (lv_sub hl [1, 2, 3, 0] rfl)
  · replace hM := hM.call (r' := (-1)) hv134 (by decide)
    refine tk_Si hC hK hw hT hA hE hSR (kz_X6_isDigit_2 l adK adV dC dI cy ad B (by omega) (by omega) qr s1    w123 H.size hT ) (va_cwS 1 hC.2.2.2.2 uS_RX6_64 rfl rfl rfl (by decide +kernel) ⟨Nat.le_of_ble_eq_true rfl, Nat.le_of_ble_eq_true rfl⟩) rfl hl.1 rfl (Nat.le_of_ble_eq_true rfl) dX6_readNumber_13 (fun r161 w163 H locs hp162 hw => ?_)
    obtain ⟨hT, k164, hv166, hg165⟩ := hp162
    have hF := hF.tr k164 (by decide)
    have c167 := k164.gi kC_at1 (by decide) c135
    obtain rfl := hg165
    replace hM := hM.call (r' := 0) hv166 (by decide)
    refine lv_if_ne (tgt := 30) hx hb dX6_readNumber_16 (by decide) (fun c => absurd (by decide) c) (fun _ => ?_)
    replace hM := hM.neg (by decide)
    refine lv_aload_n hx hb dX6_readNumber_19 rfl (lv_at hl 0 rfl) ?_
    refine lv_aload_n hx hb dX6_readNumber_20 rfl (lv_at hl 0 rfl) ?_
    refine tk_geti hC hK hw hT hinX6 kC_at1 (by decide) rfl 3 (by decide) (List.mem_cons_of_mem _ uw_9_17) rfl rfl dX6_readNumber_21 (fun x168 c169 rx168 tx168 => ?_)
    replace hM := hM.rd (sI_at c169)
    refine lv_iconst (v := 0) hx hb dX6_readNumber_24 (by decide) ?_
    refine tk_Vv hC hK hw hT hA hE hSR kC_at1 (by decide) rfl (kz_X6_blame_2 l adK adV dC dI cy ad B (by omega) (by omega) qr s1   x168 (show 0 ≤ x168.toInt from rx168) (show x168.toInt ≤ 400 from tx168) 0 (by decide) (by decide) w163 H.size hT c167) (cwV 2 hC.2.2.2.2 uV_RX6_35 rfl rfl rfl (by decide +kernel) ⟨Nat.le_of_ble_eq_true rfl, Nat.le_of_ble_eq_true rfl⟩) rfl hl.1 rfl (Nat.le_of_ble_eq_true rfl) dX6_readNumber_25 (fun w172 H locs hp171 hw => ?_)
    obtain ⟨hT, k173, hv177, hg176⟩ := hp171
    try simp only [show (0 : Int32).toInt = 0 by decide] at hv177
    have hF := hF.tr k173 (by decide)
    have c178 := k173.gi kC_at1 (by decide) c169
    obtain ⟨x174, c175, rx174, tx174⟩ := hg176
    replace hM := hM.call hv177 rfl
    refine lv_iconst (v := (-1)) hx hb dX6_readNumber_28 (by decide) ?_
    exact tk_iret hC hr hlocks hK ⟨hT, hF, hM.ret (by decide), (Or.inr ⟨rfl, ⟨x174, c175, (show 1 ≤ x174.toInt by omega), (show x174.toInt ≤ 3205 by omega)⟩⟩)⟩ hw dX6_readNumber_29
abbrev Pz_X6_readNumber_11 (ad : Nat → Nat) (cy : Nat → ClassId) (B : Int) (qr : Nat) (s1 : Int) (a1 : Int32) (w0 : va_W) : Int32 → va_W → Prop := fun r u => TW ksC ad cy B qr s1 u ∧ FE ksC [(6, 1, 1), (6, 3, 3), (6, 4, 4)] w0 u ∧ Ev (fun n => m_X6_readNumber n 1 a1.toInt 24 (sI w0)) (r.toInt, sI u) ∧ ((1 ≤ r.toInt ∧ r.toInt ≤ 24 ∧ (∃ y : Int32, gi u 1 2 = y ∧ 1 ≤ y.toInt ∧ y.toInt ≤ 400) ∧ (∃ y : Int32, gi u 1 3 = y ∧ 0 ≤ y.toInt ∧ y.toInt ≤ 399) ∧ (∃ y : Int32, gi u 1 4 = y ∧ 0 ≤ y.toInt ∧ y.toInt ≤ 0)) ∨ (r = (-1) ∧ (∃ y : Int32, gi u 1 4 = y ∧ 1 ≤ y.toInt ∧ y.toInt ≤ 3205)))
set_option maxHeartbeats 4000000 in
set_option maxRecDepth 100000 in
theorem kz_X6_readNumber_11 (l : Launch) (adK adV : Nat → Nat) (dC : Nat → ClassId) (dI : Nat → Nat → Nat) (cy : Nat → ClassId) (ad : Nat → Nat) (B : Int) (hB0 : 2147483648 ≤ B) (hB1 : B ≤ 1152921504606846976) (qr : Nat) (s1 : Int)  (a1 : Int32) (ra1 : 1 ≤ a1.toInt) (ta1 : a1.toInt ≤ 24) (w0 : va_W) (sz : Nat) (hT : TW ksC ad cy B qr s1 w0) (cf0_ : gi w0 1 4 = 0) : Met l yX6_readNumber (wu yX6_readNumber cX6_readNumber 4 (some .int)) ({ frames := 2, cells := 0, slots := 0, locals := 34 }) (va_Pc [.ref (ad 1), .int a1, .int 24] (wpreS adK adV dC dI cy sz w0)) (va_Qi (Pz_X6_readNumber_11 ad cy B qr s1 a1 w0) (fun u : va_W => wpost dC dI cy (va_A w0 sz) u) (va_A w0 sz)) 0 0 (va_A w0 sz) := by
  refine Met.ofW (cc := cX6_readNumber) (maxL := 4) (ret := (some .int)) (by decide) rfl ?_
  intro p e s m args below meth c s₁ Bk hml hv
  obtain ⟨rfl, ⟨hsz, hP, hK, hD0⟩, hE, hSR⟩ := hv
  have hx := Bk.exec
  have hb := Bk.bytes
  have hr := Bk.returns
  have hlocks := Bk.notSynchronized
  have hC : CallFix p m c cX6_readNumber 4 s _ (wu yX6_readNumber cX6_readNumber 4 (some .int)) RX6 := ⟨hx, hb, hml, findClass_of_methodNamed Bk.named, atoms_spec (ws := (wu yX6_readNumber cX6_readNumber 4 (some .int))) Bk.pre⟩
  subst hsz
  have hD := hD0.self (sz := s.heap.size)
  generalize hAe : va_A w0 s.heap.size = A at hD hE ⊢
  have hA : ∀ q : Nat, s.heap.size ≤ q → A q := fun q h => by rw [← hAe]; exact Or.inr h
  have hw : Wd dC dI A s.heap s.heap [] w0 := ⟨hP, hD, va_S.rf⟩
  have hF : FE ksC [(6, 1, 1), (6, 3, 3), (6, 4, 4)] w0 w0 := FE.rf
  have hl := lv_entry ([.ref (ad 1), .int a1, .int 24]) (n := 4) (Nat.le_of_ble_eq_true rfl)
  rw [lg_entry_eq]
  generalize (lg_sl ([.ref (ad 1), .int a1, .int 24]) ++ List.replicate (4 - (lg_sl ([.ref (ad 1), .int a1, .int 24])).length) Slot.unset).toArray = ls at hl ⊢
  have hl : lv_has ls 4 [(0, .ref (ad 1)), (1, .int a1), (2, .int 24)] := hl
  generalize hloc : ([] : List Loc) = locs at hw ⊢
  have hinX6 : ∀ w ∈ u_ws RX6 TX6 5, w ∈ (wu yX6_readNumber cX6_readNumber 4 (some .int)) := fun _ h => List.mem_cons_of_mem _ (up_72 h)
  have J125 : ∀ (v125_3 : Int32) (f125_1_1 : Int32) (f125_1_2 : Int32) (f125_1_3 : Int32) (H : Heap) (locs : List Loc) (ls : Array Slot) (w1 : va_W), 1 ≤ a1.toInt → a1.toInt ≤ 24 → 0 ≤ f125_1_1.toInt → f125_1_1.toInt ≤ 400 → 1 ≤ f125_1_2.toInt → f125_1_2.toInt ≤ 400 → 0 ≤ f125_1_3.toInt → f125_1_3.toInt ≤ 399 → Wd dC dI A s.heap H locs w1 → TW ksC ad cy B qr s1 w1 → FE ksC [(6, 1, 1), (6, 3, 3), (6, 4, 4)] w0 w1 → gi w1 1 1 = f125_1_1 → gi w1 1 2 = f125_1_2 → gi w1 1 3 = f125_1_3 → gi w1 1 4 = 0 → TT (fun n => m_X6_readNumber n 1 a1.toInt 24 (sI w0)) (fun n => b_X6_readNumber_125 (j_X6_readNumber 1 n) n 1 (sI w1)) → lv_has ls 4 [(0, .ref (ad 1)), (1, .int a1), (2, .int 24), (3, .int v125_3)] → W p l e ({ frames := 2, cells := 0, slots := 0, locals := 34 }) s m (List.toArray [.ref (ad 1), .int a1, .int 24]) below meth c H locs 0 0 (MQ below (va_Qi (Pz_X6_readNumber_11 ad cy B qr s1 a1 w0) (fun u : va_W => wpost dC dI cy A u) A) (List.toArray [.ref (ad 1), .int a1, .int 24]) s 0 0 A) (F0 m 125 ls []) := by
    intro v125_3 f125_1_1 f125_1_2 f125_1_3 H locs ls w1 r2 t3 r4 t5 r7 t8 r10 t11 hw hT hF c6 c9 c12 c13 hM hl
    refine lv_aload_n hx hb dX6_readNumber_125 rfl (lv_at hl 0 rfl) ?_
    refine lv_aload_n hx hb dX6_readNumber_126 rfl (lv_at hl 0 rfl) ?_
    refine tk_geti hC hK hw hT hinX6 kC_at1 (by decide) rfl 3 (by decide) (List.mem_cons_of_mem _ uw_9_17) rfl rfl dX6_readNumber_127 (fun x14 c15 rx14 tx14 => ?_)
    refine wk_top f125_1_3 (c15.symm.trans c12) ?_
    replace hM := hM.rd (sI_at c12)
    refine lv_iconst (v := 1) hx hb dX6_readNumber_130 (by decide) ?_
    refine tk_Vv hC hK hw hT hA hE hSR kC_at1 (by decide) rfl (kz_X6_blame_2 l adK adV dC dI cy ad B (by omega) (by omega) qr s1   f125_1_3 (show 0 ≤ f125_1_3.toInt from r10) (show f125_1_3.toInt ≤ 400 from Int.le_trans t11 (by decide)) 1 (by decide) (by decide) w1 H.size hT c13) (cwV 2 hC.2.2.2.2 uV_RX6_35 rfl rfl rfl (by decide +kernel) ⟨Nat.le_of_ble_eq_true rfl, Nat.le_of_ble_eq_true rfl⟩) rfl hl.1 rfl (Nat.le_of_ble_eq_true rfl) dX6_readNumber_131 (fun w18 H locs hp17 hw => ?_)
    obtain ⟨hT, k19, hv23, hg22⟩ := hp17
    try simp only [show (1 : Int32).toInt = 1 by decide] at hv23
    have hF := hF.tr k19 (by decide)
    have c24 := k19.gi kC_at1 (by decide) c6
    have c25 := k19.gi kC_at1 (by decide) c9
    have c26 := k19.gi kC_at1 (by decide) c12
    obtain ⟨x20, c21, rx20, tx20⟩ := hg22
    replace hM := hM.call hv23 rfl
    refine lv_iconst (v := (-1)) hx hb dX6_readNumber_134 (by decide) ?_
    exact tk_iret hC hr hlocks hK ⟨hT, hF, hM.ret (by decide), (Or.inr ⟨rfl, ⟨x20, c21, (show 1 ≤ x20.toInt by omega), (show x20.toInt ≤ 3205 by omega)⟩⟩)⟩ hw dX6_readNumber_135
  have J102 : ∀ (v102_3 : Int32) (f102_1_1 : Int32) (f102_1_2 : Int32) (f102_1_3 : Int32) (H : Heap) (locs : List Loc) (ls : Array Slot) (w27 : va_W), 1 ≤ a1.toInt → a1.toInt ≤ 24 → 0 ≤ f102_1_1.toInt → f102_1_1.toInt ≤ 400 → 1 ≤ f102_1_2.toInt → f102_1_2.toInt ≤ 400 → 0 ≤ f102_1_3.toInt → f102_1_3.toInt ≤ 399 → Wd dC dI A s.heap H locs w27 → TW ksC ad cy B qr s1 w27 → FE ksC [(6, 1, 1), (6, 3, 3), (6, 4, 4)] w0 w27 → gi w27 1 1 = f102_1_1 → gi w27 1 2 = f102_1_2 → gi w27 1 3 = f102_1_3 → gi w27 1 4 = 0 → TT (fun n => m_X6_readNumber n 1 a1.toInt 24 (sI w0)) (fun n => b_X6_readNumber_102 (j_X6_readNumber 1 n) n 1 (a1.toInt) (24 : Int) (v102_3.toInt) (sI w27)) → lv_has ls 4 [(0, .ref (ad 1)), (1, .int a1), (2, .int 24), (3, .int v102_3)] → W p l e ({ frames := 2, cells := 0, slots := 0, locals := 34 }) s m (List.toArray [.ref (ad 1), .int a1, .int 24]) below meth c H locs 0 0 (MQ below (va_Qi (Pz_X6_readNumber_11 ad cy B qr s1 a1 w0) (fun u : va_W => wpost dC dI cy A u) A) (List.toArray [.ref (ad 1), .int a1, .int 24]) s 0 0 A) (F0 m 102 ls []) := by
    intro v102_3 f102_1_1 f102_1_2 f102_1_3 H locs ls w27 r28 t29 r30 t31 r33 t34 r36 t37 hw hT hF c32 c35 c38 c39 hM hl
    refine lv_aload_n hx hb dX6_readNumber_102 rfl (lv_at hl 0 rfl) ?_
    refine tk_geti hC hK hw hT hinX6 kC_at1 (by decide) rfl 1 (by decide) (List.mem_cons_of_mem _ uw_9_16) rfl rfl dX6_readNumber_103 (fun x40 c41 rx40 tx40 => ?_)
    refine wk_top f102_1_1 (c41.symm.trans c32) ?_
    replace hM := hM.rd (sI_at c32)
    refine lv_aload_n hx hb dX6_readNumber_106 rfl (lv_at hl 0 rfl) ?_
    refine tk_geti hC hK hw hT hinX6 kC_at1 (by decide) rfl 3 (by decide) (List.mem_cons_of_mem _ uw_9_17) rfl rfl dX6_readNumber_107 (fun x42 c43 rx42 tx42 => ?_)
    refine wk_top f102_1_3 (c43.symm.trans c38) ?_
    replace hM := hM.rd (sI_at c38)
    refine lv_isub hx hb dX6_readNumber_110 ?_
    refine lv_topi (fun x44 ex44 => ?_)
    have ezx44 := ex44
    have ex44 : x44.toInt = f102_1_1.toInt - f102_1_3.toInt := by rw [ex44]; exact wk_sub (show (-2147483648) ≤ f102_1_1.toInt - f102_1_3.toInt by omega) (show f102_1_1.toInt - f102_1_3.toInt ≤ 2147483647 by omega)
    replace hM := hM.lt ex44.symm
    refine lv_iconst (v := 5) hx hb dX6_readNumber_111 (by decide) ?_
    refine lv_icmp_gt (tgt := 125) hx hb dX6_readNumber_112 (by decide) (fun c45 => ?_) (fun c45 => ?_)
    · have c45 : (5 : Int) < x44.toInt := wk_lt.mp c45
      replace hM := hM.pos c45
      exact J125 v102_3 f102_1_1 f102_1_2 f102_1_3 H locs ls w27 (show 1 ≤ a1.toInt from r28) (show a1.toInt ≤ 24 from t29) (show 0 ≤ f102_1_1.toInt from r30) (show f102_1_1.toInt ≤ 400 from t31) (show 1 ≤ f102_1_2.toInt from r33) (show f102_1_2.toInt ≤ 400 from t34) (show 0 ≤ f102_1_3.toInt from r36) (show f102_1_3.toInt ≤ 399 from t37)  hw hT hF c32 c35 c38 c39 hM (lv_sub hl [0, 1, 2, 3] rfl)
    · have c45 : x44.toInt ≤ (5 : Int) := wk_ltF c45
      replace hM := hM.neg (Int.not_lt.mpr c45)
      refine lv_iload_n hx hb dX6_readNumber_115 rfl (lv_at hl 3 rfl) ?_
      refine lv_iload_n hx hb dX6_readNumber_116 rfl (lv_at hl 1 rfl) ?_
      refine lv_icmp_lt (tgt := 125) hx hb dX6_readNumber_117 (by decide) (fun c46 => ?_) (fun c46 => ?_)
      · have c46 : v102_3.toInt < a1.toInt := wk_lt.mp c46
        replace hM := hM.pos c46
        exact J125 v102_3 f102_1_1 f102_1_2 f102_1_3 H locs ls w27 (show 1 ≤ a1.toInt from r28) (show a1.toInt ≤ 24 from t29) (show 0 ≤ f102_1_1.toInt from r30) (show f102_1_1.toInt ≤ 400 from t31) (show 1 ≤ f102_1_2.toInt from r33) (show f102_1_2.toInt ≤ 400 from t34) (show 0 ≤ f102_1_3.toInt from r36) (show f102_1_3.toInt ≤ 399 from t37)  hw hT hF c32 c35 c38 c39 hM (lv_sub hl [0, 1, 2, 3] rfl)
      · have c46 : a1.toInt ≤ v102_3.toInt := wk_ltF c46
        replace hM := hM.neg (Int.not_lt.mpr c46)
        refine lv_iload_n hx hb dX6_readNumber_120 rfl (lv_at hl 3 rfl) ?_
        refine lv_iload_n hx hb dX6_readNumber_121 rfl (lv_at hl 2 rfl) ?_
        refine lv_icmp_le (tgt := 136) hx hb dX6_readNumber_122 (by decide) (fun c47 => ?_) (fun c47 => ?_)
        · have c47 : v102_3.toInt ≤ (24 : Int) := wk_le.mp c47
          replace hM := hM.pos c47
          refine lv_iload_n hx hb dX6_readNumber_136 rfl (lv_at hl 3 rfl) ?_
          exact tk_iret hC hr hlocks hK ⟨hT, hF, hM.ret rfl, (Or.inl ⟨(show 1 ≤ v102_3.toInt by omega), (show v102_3.toInt ≤ 24 by omega), ⟨f102_1_2, c35, (show 1 ≤ f102_1_2.toInt from r33), (show f102_1_2.toInt ≤ 400 from t34)⟩, ⟨f102_1_3, c38, (show 0 ≤ f102_1_3.toInt from r36), (show f102_1_3.toInt ≤ 399 from t37)⟩, ⟨0, c39, (by decide), (by decide)⟩⟩)⟩ hw dX6_readNumber_137
        · have c47 : (24 : Int) < v102_3.toInt := wk_leF c47
          replace hM := hM.neg (Int.not_le.mpr c47)
          exact J125 v102_3 f102_1_1 f102_1_2 f102_1_3 H locs ls w27 (show 1 ≤ a1.toInt from r28) (show a1.toInt ≤ 24 from t29) (show 0 ≤ f102_1_1.toInt from r30) (show f102_1_1.toInt ≤ 400 from t31) (show 1 ≤ f102_1_2.toInt from r33) (show f102_1_2.toInt ≤ 400 from t34) (show 0 ≤ f102_1_3.toInt from r36) (show f102_1_3.toInt ≤ 399 from t37)  hw hT hF c32 c35 c38 c39 hM (lv_sub hl [0, 1, 2, 3] rfl)
  have L32 : ∀ (n32 : Nat) (v32_3 : Int32) (f32_1_1 : Int32) (f32_1_2 : Int32) (f32_1_3 : Int32) (H : Heap) (locs : List Loc) (ls : Array Slot) (w48 : va_W), 1 ≤ a1.toInt → a1.toInt ≤ 24 → 0 ≤ f32_1_1.toInt → f32_1_1.toInt ≤ 400 → 1 ≤ f32_1_2.toInt → f32_1_2.toInt ≤ 400 → 0 ≤ f32_1_3.toInt → f32_1_3.toInt ≤ 399 → (400 - f32_1_1.toInt).toNat < n32 → Wd dC dI A s.heap H locs w48 → TW ksC ad cy B qr s1 w48 → FE ksC [(6, 1, 1), (6, 3, 3), (6, 4, 4)] w0 w48 → gi w48 1 1 = f32_1_1 → gi w48 1 2 = f32_1_2 → gi w48 1 3 = f32_1_3 → gi w48 1 4 = 0 → TT (fun n => m_X6_readNumber n 1 a1.toInt 24 (sI w0)) (fun n => j_X6_readNumber 1 n 32 [a1.toInt, (24 : Int), v32_3.toInt] (sI w48)) → lv_has ls 4 [(0, .ref (ad 1)), (1, .int a1), (2, .int 24), (3, .int v32_3)] → W p l e ({ frames := 2, cells := 0, slots := 0, locals := 34 }) s m (List.toArray [.ref (ad 1), .int a1, .int 24]) below meth c H locs 0 0 (MQ below (va_Qi (Pz_X6_readNumber_11 ad cy B qr s1 a1 w0) (fun u : va_W => wpost dC dI cy A u) A) (List.toArray [.ref (ad 1), .int a1, .int 24]) s 0 0 A) (F0 m 32 ls []) := by
    intro n32
    induction n32 with
    | zero => intro v32_3 f32_1_1 f32_1_2 f32_1_3 H locs ls w48 r49 t50 r51 t52 r54 t55 r57 t58 hm32 hw hT hF c53 c56 c59 c60 hM hl; omega
    | succ n32 ih32 =>
      intro v32_3 f32_1_1 f32_1_2 f32_1_3 H locs ls w48 r49 t50 r51 t52 r54 t55 r57 t58 hm32 hw hT hF c53 c56 c59 c60 hM hl
      have J89 : ∀ (v89_3 : Int32) (H : Heap) (locs : List Loc) (ls : Array Slot) (w61 : va_W), 1 ≤ a1.toInt → a1.toInt ≤ 24 → 0 ≤ f32_1_1.toInt → f32_1_1.toInt ≤ 399 → 1 ≤ f32_1_2.toInt → f32_1_2.toInt ≤ 400 → 0 ≤ f32_1_3.toInt → f32_1_3.toInt ≤ 399 → Wd dC dI A s.heap H locs w61 → TW ksC ad cy B qr s1 w61 → FE ksC [(6, 1, 1), (6, 3, 3), (6, 4, 4)] w0 w61 → gi w61 1 1 = f32_1_1 → gi w61 1 2 = f32_1_2 → gi w61 1 3 = f32_1_3 → gi w61 1 4 = 0 → TT (fun n => m_X6_readNumber n 1 a1.toInt 24 (sI w0)) (fun n => b_X6_readNumber_89 (j_X6_readNumber 1 n) n 1 (a1.toInt) (24 : Int) (v89_3.toInt) (sI w61)) → lv_has ls 4 [(0, .ref (ad 1)), (1, .int a1), (2, .int 24), (3, .int v89_3)] → W p l e ({ frames := 2, cells := 0, slots := 0, locals := 34 }) s m (List.toArray [.ref (ad 1), .int a1, .int 24]) below meth c H locs 0 0 (MQ below (va_Qi (Pz_X6_readNumber_11 ad cy B qr s1 a1 w0) (fun u : va_W => wpost dC dI cy A u) A) (List.toArray [.ref (ad 1), .int a1, .int 24]) s 0 0 A) (F0 m 89 ls []) := by
        intro v89_3 H locs ls w61 r62 t63 r64 t65 r67 t68 r70 t71 hw hT hF c66 c69 c72 c73 hM hl
        refine lv_aload_n hx hb dX6_readNumber_89 rfl (lv_at hl 0 rfl) ?_
        refine lv_dup hx hb dX6_readNumber_90 rfl ?_
        refine tk_geti hC hK hw hT hinX6 kC_at1 (by decide) rfl 1 (by decide) (List.mem_cons_of_mem _ uw_9_16) rfl rfl dX6_readNumber_91 (fun x74 c75 rx74 tx74 => ?_)
        refine wk_top f32_1_1 (c75.symm.trans c66) ?_
        replace hM := hM.rd (sI_at c66)
        refine lv_iconst (v := 1) hx hb dX6_readNumber_94 (by decide) ?_
        refine lv_iadd hx hb dX6_readNumber_95 ?_
        refine lv_topi (fun x76 ex76 => ?_)
        have ezx76 := ex76
        have ex76 : x76.toInt = f32_1_1.toInt + (1 : Int) := by rw [ex76]; exact wk_add (show (-2147483648) ≤ f32_1_1.toInt + (1 : Int) by omega) (show f32_1_1.toInt + (1 : Int) ≤ 2147483647 by omega)
        replace hM := hM.lt ex76.symm
        refine tk_puti hC hK hw hT hinX6 tyX6_ok nmX6 kC_at1 (by decide) rfl rfl 1 (by decide) (List.mem_cons_of_mem _ uw_9_16) rfl rfl rfl rfl (show 0 ≤ x76.toInt by omega) (show x76.toInt ≤ 400 by omega) dX6_readNumber_96 (fun H locs w77 hw hT k79 c78 => ?_)
        replace hM := hM.wr (sI_up k79 c78)
        have hF := hF.put kC_at1 (k := 1) (by decide) k79
        have c80 := k79.gi (Or.inr (by decide)) c69
        have c81 := k79.gi (Or.inr (by decide)) c72
        have c82 := k79.gi (Or.inr (by decide)) c73
        refine lv_goto (tgt := 32) hx hb dX6_readNumber_99 (by decide) ?_
        exact ih32 v89_3 x76 f32_1_2 f32_1_3 H locs ls w77 (show 1 ≤ a1.toInt from r62) (show a1.toInt ≤ 24 from t63) (show 0 ≤ x76.toInt by omega) (show x76.toInt ≤ 400 by omega) (show 1 ≤ f32_1_2.toInt from r67) (show f32_1_2.toInt ≤ 400 from t68) (show 0 ≤ f32_1_3.toInt from r70) (show f32_1_3.toInt ≤ 399 from t71) (show (400 - x76.toInt).toNat < n32 by omega) hw hT hF c78 c80 c81 c82 hM (lv_sub hl [0, 1, 2, 3] rfl)
      replace hM := hM.suc (fun _ => e_X6_readNumber_32)
      refine lv_aload_n hx hb dX6_readNumber_32 rfl (lv_at hl 0 rfl) ?_
      refine tk_geti hC hK hw hT hinX6 kC_at1 (by decide) rfl 1 (by decide) (List.mem_cons_of_mem _ uw_9_16) rfl rfl dX6_readNumber_33 (fun x83 c84 rx83 tx83 => ?_)
      refine wk_top f32_1_1 (c84.symm.trans c53) ?_
      replace hM := hM.rd (sI_at c53)
      refine lv_aload_n hx hb dX6_readNumber_36 rfl (lv_at hl 0 rfl) ?_
      refine tk_geti hC hK hw hT hinX6 kC_at1 (by decide) rfl 2 (by decide) (List.mem_cons_of_mem _ uw_7_22) rfl rfl dX6_readNumber_37 (fun x85 c86 rx85 tx85 => ?_)
      refine wk_top f32_1_2 (c86.symm.trans c56) ?_
      replace hM := hM.rd (sI_at c56)
      refine lv_icmp_ge (tgt := 102) hx hb dX6_readNumber_40 (by decide) (fun c87 => ?_) (fun c87 => ?_)
      · have c87 : f32_1_2.toInt ≤ f32_1_1.toInt := wk_le.mp c87
        replace hM := hM.pos c87
        exact J102 v32_3 f32_1_1 f32_1_2 f32_1_3 H locs ls w48 (show 1 ≤ a1.toInt from r49) (show a1.toInt ≤ 24 from t50) (show 0 ≤ f32_1_1.toInt from r51) (show f32_1_1.toInt ≤ 400 from t52) (show 1 ≤ f32_1_2.toInt from r54) (show f32_1_2.toInt ≤ 400 from t55) (show 0 ≤ f32_1_3.toInt from r57) (show f32_1_3.toInt ≤ 399 from t58)  hw hT hF c53 c56 c59 c60 hM (lv_sub hl [0, 1, 2, 3] rfl)
      · have c87 : f32_1_1.toInt < f32_1_2.toInt := wk_leF c87
        replace hM := hM.neg (Int.not_le.mpr c87)
        refine lv_aload_n hx hb dX6_readNumber_43 rfl (lv_at hl 0 rfl) ?_
        refine tk_getA hC hK hw hT hinX6 kC_at1 (by decide) rfl 0 (by decide) (List.mem_cons_of_mem _ uw_2_12) rfl rfl dX6_readNumber_44 ?_
        refine lv_aload_n hx hb dX6_readNumber_47 rfl (lv_at hl 0 rfl) ?_
        refine tk_geti hC hK hw hT hinX6 kC_at1 (by decide) rfl 1 (by decide) (List.mem_cons_of_mem _ uw_9_16) rfl rfl dX6_readNumber_48 (fun x88 c89 rx88 tx88 => ?_)
        refine wk_top f32_1_1 (c89.symm.trans c53) ?_
        replace hM := hM.rd (sI_at c53)
        refine tk_iald hC hK hw hT kC_at2 rfl rfl (show 0 ≤ f32_1_1.toInt from r51) (show f32_1_1.toInt < 400 by omega) dX6_readNumber_51 (fun x90 c91 rx90 tx90 => ?_)
        have hox90 := c91
        replace hM := hM.rd (sI_at hox90)
        refine tk_Si hC hK hw hT hA hE hSR (kz_X6_isDigit_1 l adK adV dC dI cy ad B (by omega) (by omega) qr s1   x90 (show 0 ≤ x90.toInt from rx90) (show x90.toInt ≤ 255 from tx90) w48 H.size hT ) (va_cwS 1 hC.2.2.2.2 uS_RX6_64 rfl rfl rfl (by decide +kernel) ⟨Nat.le_of_ble_eq_true rfl, Nat.le_of_ble_eq_true rfl⟩) rfl hl.1 rfl (Nat.le_of_ble_eq_true rfl) dX6_readNumber_52 (fun r92 w94 H locs hp93 hw => ?_)
        obtain ⟨hT, k95, hv99, hg98⟩ := hp93
        have hF := hF.tr k95 (by decide)
        have c100 := k95.gi kC_at1 (by decide) c53
        have c101 := k95.gi kC_at1 (by decide) c56
        have c102 := k95.gi kC_at1 (by decide) c59
        have c103 := k95.gi kC_at1 (by decide) c60
        rcases hg98 with rfl | ⟨rfl, g96, g97⟩
        · replace hM := hM.call (r' := 0) hv99 (by decide)
          refine lv_if_eq (tgt := 102) hx hb dX6_readNumber_55 (by decide) (fun _ => ?_) (fun c => absurd (by decide) c)
          replace hM := hM.pos (by decide)
          exact J102 v32_3 f32_1_1 f32_1_2 f32_1_3 H locs ls w94 (show 1 ≤ a1.toInt from r49) (show a1.toInt ≤ 24 from t50) (show 0 ≤ f32_1_1.toInt from r51) (show f32_1_1.toInt ≤ 400 from t52) (show 1 ≤ f32_1_2.toInt from r54) (show f32_1_2.toInt ≤ 400 from t55) (show 0 ≤ f32_1_3.toInt from r57) (show f32_1_3.toInt ≤ 399 from t58)  hw hT hF c100 c101 c102 c103 hM (lv_sub hl [0, 1, 2, 3] rfl)
        · replace hM := hM.call (r' := 1) hv99 (by decide)
          refine lv_if_eq (tgt := 102) hx hb dX6_readNumber_55 (by decide) (fun c => absurd c (by decide)) (fun _ => ?_)
          replace hM := hM.neg (by decide)
          refine lv_aload_n hx hb dX6_readNumber_58 rfl (lv_at hl 0 rfl) ?_
          refine tk_geti hC hK hw hT hinX6 kC_at1 (by decide) rfl 1 (by decide) (List.mem_cons_of_mem _ uw_9_16) rfl rfl dX6_readNumber_59 (fun x104 c105 rx104 tx104 => ?_)
          refine wk_top f32_1_1 (c105.symm.trans c100) ?_
          replace hM := hM.rd (sI_at c100)
          refine lv_aload_n hx hb dX6_readNumber_62 rfl (lv_at hl 0 rfl) ?_
          refine tk_geti hC hK hw hT hinX6 kC_at1 (by decide) rfl 3 (by decide) (List.mem_cons_of_mem _ uw_9_17) rfl rfl dX6_readNumber_63 (fun x106 c107 rx106 tx106 => ?_)
          refine wk_top f32_1_3 (c107.symm.trans c102) ?_
          replace hM := hM.rd (sI_at c102)
          refine lv_isub hx hb dX6_readNumber_66 ?_
          refine lv_topi (fun x108 ex108 => ?_)
          have ezx108 := ex108
          have ex108 : x108.toInt = f32_1_1.toInt - f32_1_3.toInt := by rw [ex108]; exact wk_sub (show (-2147483648) ≤ f32_1_1.toInt - f32_1_3.toInt by omega) (show f32_1_1.toInt - f32_1_3.toInt ≤ 2147483647 by omega)
          replace hM := hM.lt ex108.symm
          refine lv_iconst (v := 5) hx hb dX6_readNumber_67 (by decide) ?_
          refine lv_icmp_ge (tgt := 89) hx hb dX6_readNumber_68 (by decide) (fun c109 => ?_) (fun c109 => ?_)
          · have c109 : (5 : Int) ≤ x108.toInt := wk_le.mp c109
            replace hM := hM.pos c109
            exact J89 v32_3 H locs ls w94 (show 1 ≤ a1.toInt from r49) (show a1.toInt ≤ 24 from t50) (show 0 ≤ f32_1_1.toInt from r51) (show f32_1_1.toInt ≤ 399 by omega) (show 1 ≤ f32_1_2.toInt from r54) (show f32_1_2.toInt ≤ 400 from t55) (show 0 ≤ f32_1_3.toInt from r57) (show f32_1_3.toInt ≤ 399 from t58)  hw hT hF c100 c101 c102 c103 hM (lv_sub hl [0, 1, 2, 3] rfl)
          · have c109 : x108.toInt < (5 : Int) := wk_leF c109
            replace hM := hM.neg (Int.not_le.mpr c109)
            refine lv_iload_n hx hb dX6_readNumber_71 rfl (lv_at hl 3 rfl) ?_
            refine lv_bipush (v := 10) hx hb dX6_readNumber_72 (by decide) ?_
            refine lv_imul hx hb dX6_readNumber_74 ?_
            have nx110 := wk_i32 v32_3
            refine lv_topi (fun x111 ex111 => ?_)
            have ezx111 := ex111
            replace hM := hM.lt (o32_e (f := fun x y => x * y) ezx111 rfl (by decide))
            refine lv_aload_n hx hb dX6_readNumber_75 rfl (lv_at hl 0 rfl) ?_
            refine tk_getA hC hK hw hT hinX6 kC_at1 (by decide) rfl 0 (by decide) (List.mem_cons_of_mem _ uw_2_12) rfl rfl dX6_readNumber_76 ?_
            refine lv_aload_n hx hb dX6_readNumber_79 rfl (lv_at hl 0 rfl) ?_
            refine tk_geti hC hK hw hT hinX6 kC_at1 (by decide) rfl 1 (by decide) (List.mem_cons_of_mem _ uw_9_16) rfl rfl dX6_readNumber_80 (fun x112 c113 rx112 tx112 => ?_)
            refine wk_top f32_1_1 (c113.symm.trans c100) ?_
            replace hM := hM.rd (sI_at c100)
            refine tk_iald hC hK hw hT kC_at2 rfl rfl (show 0 ≤ f32_1_1.toInt from r51) (show f32_1_1.toInt < 400 by omega) dX6_readNumber_83 (fun x114 c115 rx114 tx114 => ?_)
            have hox114 := c115
            replace hM := hM.rd (sI_at hox114)
            refine lv_iadd hx hb dX6_readNumber_84 ?_
            have nx116 := wk_i32 x111
            refine lv_topi (fun x117 ex117 => ?_)
            have ezx117 := ex117
            replace hM := hM.lt (o32_e (f := fun x y => x + y) ezx117 rfl rfl)
            refine lv_bipush (v := 48) hx hb dX6_readNumber_85 (by decide) ?_
            refine lv_isub hx hb dX6_readNumber_87 ?_
            have nx118 := wk_i32 x117
            refine lv_topi (fun x119 ex119 => ?_)
            have ezx119 := ex119
            replace hM := hM.lt (o32_e (f := fun x y => x - y) ezx119 rfl (by decide))
            refine lv_istore_n (lv' := [(3, .int x119), (0, .ref (ad 1)), (1, .int a1), (2, .int 24)]) hx hb dX6_readNumber_88 rfl hl (by decide) rfl (fun ls hl => ?_)
            exact J89 x119 H locs ls w94 (show 1 ≤ a1.toInt from r49) (show a1.toInt ≤ 24 from t50) (show 0 ≤ f32_1_1.toInt from r51) (show f32_1_1.toInt ≤ 399 by omega) (show 1 ≤ f32_1_2.toInt from r54) (show f32_1_2.toInt ≤ 400 from t55) (show 0 ≤ f32_1_3.toInt from r57) (show f32_1_3.toInt ≤ 399 from t58)  hw hT hF c100 c101 c102 c103 hM (lv_sub hl [1, 2, 3, 0] rfl)
  have hM : TT (fun n => m_X6_readNumber n 1 a1.toInt 24 (sI w0)) (fun n => m_X6_readNumber n 1 a1.toInt 24 (sI w0)) := TT.rf
  refine lv_aload_n hx hb dX6_readNumber_0 rfl (lv_at hl 0 rfl) ?_
  refine tk_Vi hC hK hw hT hA hE hSR kC_at1 (by decide) rfl (kz_X6_isFaulty_2 l adK adV dC dI cy ad B (by omega) (by omega) qr s1    w0 s.heap.size hT cf0_) (cwV 0 hC.2.2.2.2 uV_RX6_39 rfl rfl rfl (by decide +kernel) ⟨Nat.le_of_ble_eq_true rfl, Nat.le_of_ble_eq_true rfl⟩) rfl hl.1 rfl (Nat.le_of_ble_eq_true rfl) dX6_readNumber_1 (fun r120 w122 H locs hp121 hw => ?_)
  obtain ⟨hT, k123, hv127, hg126⟩ := hp121
  have hF := hF.tr k123 (by decide)
  have c128 := k123.gi kC_at1 (by decide) cf0_
  obtain ⟨rfl, ⟨x124, c125, rx124, tx124⟩⟩ := hg126
  replace hM := hM.call (r' := 0) hv127 (by decide)
  have ex124 : x124.toInt = (0 : Int) := by rw [show x124 = 0 from c125.symm.trans c128]; decide
  refine lv_if_eq (tgt := 9) hx hb dX6_readNumber_4 (by decide) (fun _ => ?_) (fun c => absurd (by decide) c)
  replace hM := hM.pos (by decide)
  refine lv_aload_n hx hb dX6_readNumber_9 rfl (lv_at hl 0 rfl) ?_
  refine tk_Vi hC hK hw hT hA hE hSR kC_at1 (by decide) rfl (kz_X6_lookBehindBlanks_1 l adK adV dC dI cy ad B (by omega) (by omega) qr s1    w122 H.size hT ) (cwV 0 hC.2.2.2.2 uV_RX6_28 rfl rfl rfl (by decide +kernel) ⟨Nat.le_of_ble_eq_true rfl, Nat.le_of_ble_eq_true rfl⟩) rfl hl.1 rfl (Nat.le_of_ble_eq_true rfl) dX6_readNumber_10 (fun r129 w131 H locs hp130 hw => ?_)
  obtain ⟨hT, k132, hv142, hg141⟩ := hp130
  have hF := hF.tr k132 (by decide)
  have c143 := k132.gi kC_at1 (by decide) c128
  rcases hg141 with ⟨g133, g134, ⟨x135, c136, rx135, tx135⟩, ⟨x137, c138, rx137, tx137⟩, ⟨x139, c140, rx139, tx139⟩⟩ | rfl
  · replace hM := hM.call hv142 rfl
    refine tk_Si hC hK hw hT hA hE hSR (kz_X6_isDigit_1 l adK adV dC dI cy ad B (by omega) (by omega) qr s1   r129 (show 0 ≤ r129.toInt by omega) (show r129.toInt ≤ 255 by omega) w131 H.size hT ) (va_cwS 1 hC.2.2.2.2 uS_RX6_64 rfl rfl rfl (by decide +kernel) ⟨Nat.le_of_ble_eq_true rfl, Nat.le_of_ble_eq_true rfl⟩) rfl hl.1 rfl (Nat.le_of_ble_eq_true rfl) dX6_readNumber_13 (fun r144 w146 H locs hp145 hw => ?_)
    obtain ⟨hT, k147, hv151, hg150⟩ := hp145
    have hF := hF.tr k147 (by decide)
    have c152 := k147.gi kC_at1 (by decide) c143
    have c153 := k147.gi kC_at1 (by decide) c136
    have c154 := k147.gi kC_at1 (by decide) c138
    have c155 := k147.gi kC_at1 (by decide) c140
    rcases hg150 with rfl | ⟨rfl, g148, g149⟩
    · replace hM := hM.call (r' := 0) hv151 (by decide)
      refine lv_if_ne (tgt := 30) hx hb dX6_readNumber_16 (by decide) (fun c => absurd (by decide) c) (fun _ => ?_)
      replace hM := hM.neg (by decide)
      refine lv_aload_n hx hb dX6_readNumber_19 rfl (lv_at hl 0 rfl) ?_
      refine lv_aload_n hx hb dX6_readNumber_20 rfl (lv_at hl 0 rfl) ?_
      refine tk_geti hC hK hw hT hinX6 kC_at1 (by decide) rfl 3 (by decide) (List.mem_cons_of_mem _ uw_9_17) rfl rfl dX6_readNumber_21 (fun x156 c157 rx156 tx156 => ?_)
      refine wk_top x139 (c157.symm.trans c155) ?_
      replace hM := hM.rd (sI_at c155)
      refine lv_iconst (v := 0) hx hb dX6_readNumber_24 (by decide) ?_
      refine tk_Vv hC hK hw hT hA hE hSR kC_at1 (by decide) rfl (kz_X6_blame_2 l adK adV dC dI cy ad B (by omega) (by omega) qr s1   x139 (show 0 ≤ x139.toInt by omega) (show x139.toInt ≤ 400 by omega) 0 (by decide) (by decide) w146 H.size hT c152) (cwV 2 hC.2.2.2.2 uV_RX6_35 rfl rfl rfl (by decide +kernel) ⟨Nat.le_of_ble_eq_true rfl, Nat.le_of_ble_eq_true rfl⟩) rfl hl.1 rfl (Nat.le_of_ble_eq_true rfl) dX6_readNumber_25 (fun w160 H locs hp159 hw => ?_)
      obtain ⟨hT, k161, hv165, hg164⟩ := hp159
      try simp only [show (0 : Int32).toInt = 0 by decide] at hv165
      have hF := hF.tr k161 (by decide)
      have c166 := k161.gi kC_at1 (by decide) c153
      have c167 := k161.gi kC_at1 (by decide) c154
      have c168 := k161.gi kC_at1 (by decide) c155
      obtain ⟨x162, c163, rx162, tx162⟩ := hg164
      replace hM := hM.call hv165 rfl
      refine lv_iconst (v := (-1)) hx hb dX6_readNumber_28 (by decide) ?_
      exact tk_iret hC hr hlocks hK ⟨hT, hF, hM.ret (by decide), (Or.inr ⟨rfl, ⟨x162, c163, (show 1 ≤ x162.toInt by omega), (show x162.toInt ≤ 3205 by omega)⟩⟩)⟩ hw dX6_readNumber_29
    · replace hM := hM.call (r' := 1) hv151 (by decide)
      refine lv_if_ne (tgt := 30) hx hb dX6_readNumber_16 (by decide) (fun _ => ?_) (fun c => absurd c (by decide))
      replace hM := hM.pos (by decide)
      refine lv_iconst (v := 0) hx hb dX6_readNumber_30 (by decide) ?_
      refine lv_istore_n (lv' := [(3, .int 0), (0, .ref (ad 1)), (1, .int a1), (2, .int 24)]) hx hb dX6_readNumber_31 rfl hl (by decide) rfl (fun ls hl => ?_)
      exact L32 ((400 - x135.toInt).toNat + 1) 0 x135 x137 x139 H locs ls w146 (show 1 ≤ a1.toInt from ra1) (show a1.toInt ≤ 24 from ta1) (show 0 ≤ x135.toInt by omega) (show x135.toInt ≤ 400 by omega) (show 1 ≤ x137.toInt by omega) (show x137.toInt ≤ 400 by omega) (show 0 ≤ x139.toInt by omega) (show x139.toInt ≤ 399 by omega) (Nat.lt_succ_self _) hw hT hF c153 c154 c155 c152 hM (lv_sub hl [1, 2, 3, 0] rfl)
  · replace hM := hM.call (r' := (-1)) hv142 (by decide)
    refine tk_Si hC hK hw hT hA hE hSR (kz_X6_isDigit_2 l adK adV dC dI cy ad B (by omega) (by omega) qr s1    w131 H.size hT ) (va_cwS 1 hC.2.2.2.2 uS_RX6_64 rfl rfl rfl (by decide +kernel) ⟨Nat.le_of_ble_eq_true rfl, Nat.le_of_ble_eq_true rfl⟩) rfl hl.1 rfl (Nat.le_of_ble_eq_true rfl) dX6_readNumber_13 (fun r169 w171 H locs hp170 hw => ?_)
    obtain ⟨hT, k172, hv174, hg173⟩ := hp170
    have hF := hF.tr k172 (by decide)
    have c175 := k172.gi kC_at1 (by decide) c143
    obtain rfl := hg173
    replace hM := hM.call (r' := 0) hv174 (by decide)
    refine lv_if_ne (tgt := 30) hx hb dX6_readNumber_16 (by decide) (fun c => absurd (by decide) c) (fun _ => ?_)
    replace hM := hM.neg (by decide)
    refine lv_aload_n hx hb dX6_readNumber_19 rfl (lv_at hl 0 rfl) ?_
    refine lv_aload_n hx hb dX6_readNumber_20 rfl (lv_at hl 0 rfl) ?_
    refine tk_geti hC hK hw hT hinX6 kC_at1 (by decide) rfl 3 (by decide) (List.mem_cons_of_mem _ uw_9_17) rfl rfl dX6_readNumber_21 (fun x176 c177 rx176 tx176 => ?_)
    replace hM := hM.rd (sI_at c177)
    refine lv_iconst (v := 0) hx hb dX6_readNumber_24 (by decide) ?_
    refine tk_Vv hC hK hw hT hA hE hSR kC_at1 (by decide) rfl (kz_X6_blame_2 l adK adV dC dI cy ad B (by omega) (by omega) qr s1   x176 (show 0 ≤ x176.toInt from rx176) (show x176.toInt ≤ 400 from tx176) 0 (by decide) (by decide) w171 H.size hT c175) (cwV 2 hC.2.2.2.2 uV_RX6_35 rfl rfl rfl (by decide +kernel) ⟨Nat.le_of_ble_eq_true rfl, Nat.le_of_ble_eq_true rfl⟩) rfl hl.1 rfl (Nat.le_of_ble_eq_true rfl) dX6_readNumber_25 (fun w180 H locs hp179 hw => ?_)
    obtain ⟨hT, k181, hv185, hg184⟩ := hp179
    try simp only [show (0 : Int32).toInt = 0 by decide] at hv185
    have hF := hF.tr k181 (by decide)
    have c186 := k181.gi kC_at1 (by decide) c177
    obtain ⟨x182, c183, rx182, tx182⟩ := hg184
    replace hM := hM.call hv185 rfl
    refine lv_iconst (v := (-1)) hx hb dX6_readNumber_28 (by decide) ?_
    exact tk_iret hC hr hlocks hK ⟨hT, hF, hM.ret (by decide), (Or.inr ⟨rfl, ⟨x182, c183, (show 1 ≤ x182.toInt by omega), (show x182.toInt ≤ 3205 by omega)⟩⟩)⟩ hw dX6_readNumber_29
abbrev Pz_X6_readNumber_12 (ad : Nat → Nat) (cy : Nat → ClassId) (B : Int) (qr : Nat) (s1 : Int)  (w0 : va_W) : Int32 → va_W → Prop := fun r u => TW ksC ad cy B qr s1 u ∧ FE ksC ([] : List (Nat × Nat × Nat)) w0 u ∧ Ev (fun n => m_X6_readNumber n 1 0 24 (sI w0)) (r.toInt, sI u) ∧ ((r = (-1) ∧ (∃ y : Int32, gi u 1 4 = y ∧ 1 ≤ y.toInt ∧ y.toInt ≤ 3205)))
set_option maxHeartbeats 4000000 in
set_option maxRecDepth 100000 in
theorem kz_X6_readNumber_12 (l : Launch) (adK adV : Nat → Nat) (dC : Nat → ClassId) (dI : Nat → Nat → Nat) (cy : Nat → ClassId) (ad : Nat → Nat) (B : Int) (hB0 : 2147483648 ≤ B) (hB1 : B ≤ 1152921504606846976) (qr : Nat) (s1 : Int)   (w0 : va_W) (sz : Nat) (hT : TW ksC ad cy B qr s1 w0) (f0_ : Int32) (cf0_ : gi w0 1 4 = f0_) (rf0_ : 1 ≤ f0_.toInt) (tf0_ : f0_.toInt ≤ 3205) : Met l yX6_readNumber (wu yX6_readNumber cX6_readNumber 4 (some .int)) ({ frames := 2, cells := 0, slots := 0, locals := 32 }) (va_Pc [.ref (ad 1), .int 0, .int 24] (wpreS adK adV dC dI cy sz w0)) (va_Qi (Pz_X6_readNumber_12 ad cy B qr s1  w0) (fun u : va_W => wpost dC dI cy (va_A w0 sz) u) (va_A w0 sz)) 0 0 (va_A w0 sz) := by
  refine Met.ofW (cc := cX6_readNumber) (maxL := 4) (ret := (some .int)) (by decide) rfl ?_
  intro p e s m args below meth c s₁ Bk hml hv
  obtain ⟨rfl, ⟨hsz, hP, hK, hD0⟩, hE, hSR⟩ := hv
  have hx := Bk.exec
  have hb := Bk.bytes
  have hr := Bk.returns
  have hlocks := Bk.notSynchronized
  have hC : CallFix p m c cX6_readNumber 4 s _ (wu yX6_readNumber cX6_readNumber 4 (some .int)) RX6 := ⟨hx, hb, hml, findClass_of_methodNamed Bk.named, atoms_spec (ws := (wu yX6_readNumber cX6_readNumber 4 (some .int))) Bk.pre⟩
  subst hsz
  have hD := hD0.self (sz := s.heap.size)
  generalize hAe : va_A w0 s.heap.size = A at hD hE ⊢
  have hA : ∀ q : Nat, s.heap.size ≤ q → A q := fun q h => by rw [← hAe]; exact Or.inr h
  have hw : Wd dC dI A s.heap s.heap [] w0 := ⟨hP, hD, va_S.rf⟩
  have hF : FE ksC ([] : List (Nat × Nat × Nat)) w0 w0 := FE.rf
  have hl := lv_entry ([.ref (ad 1), .int 0, .int 24]) (n := 4) (Nat.le_of_ble_eq_true rfl)
  rw [lg_entry_eq]
  generalize (lg_sl ([.ref (ad 1), .int 0, .int 24]) ++ List.replicate (4 - (lg_sl ([.ref (ad 1), .int 0, .int 24])).length) Slot.unset).toArray = ls at hl ⊢
  have hl : lv_has ls 4 [(0, .ref (ad 1)), (1, .int 0), (2, .int 24)] := hl
  generalize hloc : ([] : List Loc) = locs at hw ⊢
  have hM : TT (fun n => m_X6_readNumber n 1 0 24 (sI w0)) (fun n => m_X6_readNumber n 1 0 24 (sI w0)) := TT.rf
  refine lv_aload_n hx hb dX6_readNumber_0 rfl (lv_at hl 0 rfl) ?_
  refine tk_Vi hC hK hw hT hA hE hSR kC_at1 (by decide) rfl (kz_X6_isFaulty_3 l adK adV dC dI cy ad B (by omega) (by omega) qr s1    w0 s.heap.size hT f0_ cf0_ (show 1 ≤ f0_.toInt from rf0_) (show f0_.toInt ≤ 3205 from tf0_)) (cwV 0 hC.2.2.2.2 uV_RX6_39 rfl rfl rfl (by decide +kernel) ⟨Nat.le_of_ble_eq_true rfl, Nat.le_of_ble_eq_true rfl⟩) rfl hl.1 rfl (Nat.le_of_ble_eq_true rfl) dX6_readNumber_1 (fun r1 w3 H locs hp2 hw => ?_)
  obtain ⟨hT, k4, hv8, hg7⟩ := hp2
  have hF := hF.tr k4 (by decide)
  have c9 := k4.gi kC_at1 (by decide) cf0_
  obtain ⟨rfl, ⟨x5, c6, rx5, tx5⟩⟩ := hg7
  replace hM := hM.call (r' := 1) hv8 (by decide)
  have ex5 : x5.toInt = f0_.toInt := by rw [← c9.symm.trans c6]
  refine lv_if_eq (tgt := 9) hx hb dX6_readNumber_4 (by decide) (fun c => absurd c (by decide)) (fun _ => ?_)
  replace hM := hM.neg (by decide)
  refine lv_iconst (v := (-1)) hx hb dX6_readNumber_7 (by decide) ?_
  exact tk_iret hC hr hlocks hK ⟨hT, hF, hM.ret (by decide), ⟨rfl, ⟨f0_, c9, (show 1 ≤ f0_.toInt from rf0_), (show f0_.toInt ≤ 3205 from tf0_)⟩⟩⟩ hw dX6_readNumber_8
abbrev Pz_X6_readNumber_13 (ad : Nat → Nat) (cy : Nat → ClassId) (B : Int) (qr : Nat) (s1 : Int)  (w0 : va_W) : Int32 → va_W → Prop := fun r u => TW ksC ad cy B qr s1 u ∧ FE ksC ([] : List (Nat × Nat × Nat)) w0 u ∧ Ev (fun n => m_X6_readNumber n 1 0 23 (sI w0)) (r.toInt, sI u) ∧ ((r = (-1) ∧ (∃ y : Int32, gi u 1 4 = y ∧ 1 ≤ y.toInt ∧ y.toInt ≤ 3205)))
set_option maxHeartbeats 4000000 in
set_option maxRecDepth 100000 in
theorem kz_X6_readNumber_13 (l : Launch) (adK adV : Nat → Nat) (dC : Nat → ClassId) (dI : Nat → Nat → Nat) (cy : Nat → ClassId) (ad : Nat → Nat) (B : Int) (hB0 : 2147483648 ≤ B) (hB1 : B ≤ 1152921504606846976) (qr : Nat) (s1 : Int)   (w0 : va_W) (sz : Nat) (hT : TW ksC ad cy B qr s1 w0) (f0_ : Int32) (cf0_ : gi w0 1 4 = f0_) (rf0_ : 1 ≤ f0_.toInt) (tf0_ : f0_.toInt ≤ 3205) : Met l yX6_readNumber (wu yX6_readNumber cX6_readNumber 4 (some .int)) ({ frames := 2, cells := 0, slots := 0, locals := 32 }) (va_Pc [.ref (ad 1), .int 0, .int 23] (wpreS adK adV dC dI cy sz w0)) (va_Qi (Pz_X6_readNumber_13 ad cy B qr s1  w0) (fun u : va_W => wpost dC dI cy (va_A w0 sz) u) (va_A w0 sz)) 0 0 (va_A w0 sz) := by
  refine Met.ofW (cc := cX6_readNumber) (maxL := 4) (ret := (some .int)) (by decide) rfl ?_
  intro p e s m args below meth c s₁ Bk hml hv
  obtain ⟨rfl, ⟨hsz, hP, hK, hD0⟩, hE, hSR⟩ := hv
  have hx := Bk.exec
  have hb := Bk.bytes
  have hr := Bk.returns
  have hlocks := Bk.notSynchronized
  have hC : CallFix p m c cX6_readNumber 4 s _ (wu yX6_readNumber cX6_readNumber 4 (some .int)) RX6 := ⟨hx, hb, hml, findClass_of_methodNamed Bk.named, atoms_spec (ws := (wu yX6_readNumber cX6_readNumber 4 (some .int))) Bk.pre⟩
  subst hsz
  have hD := hD0.self (sz := s.heap.size)
  generalize hAe : va_A w0 s.heap.size = A at hD hE ⊢
  have hA : ∀ q : Nat, s.heap.size ≤ q → A q := fun q h => by rw [← hAe]; exact Or.inr h
  have hw : Wd dC dI A s.heap s.heap [] w0 := ⟨hP, hD, va_S.rf⟩
  have hF : FE ksC ([] : List (Nat × Nat × Nat)) w0 w0 := FE.rf
  have hl := lv_entry ([.ref (ad 1), .int 0, .int 23]) (n := 4) (Nat.le_of_ble_eq_true rfl)
  rw [lg_entry_eq]
  generalize (lg_sl ([.ref (ad 1), .int 0, .int 23]) ++ List.replicate (4 - (lg_sl ([.ref (ad 1), .int 0, .int 23])).length) Slot.unset).toArray = ls at hl ⊢
  have hl : lv_has ls 4 [(0, .ref (ad 1)), (1, .int 0), (2, .int 23)] := hl
  generalize hloc : ([] : List Loc) = locs at hw ⊢
  have hM : TT (fun n => m_X6_readNumber n 1 0 23 (sI w0)) (fun n => m_X6_readNumber n 1 0 23 (sI w0)) := TT.rf
  refine lv_aload_n hx hb dX6_readNumber_0 rfl (lv_at hl 0 rfl) ?_
  refine tk_Vi hC hK hw hT hA hE hSR kC_at1 (by decide) rfl (kz_X6_isFaulty_3 l adK adV dC dI cy ad B (by omega) (by omega) qr s1    w0 s.heap.size hT f0_ cf0_ (show 1 ≤ f0_.toInt from rf0_) (show f0_.toInt ≤ 3205 from tf0_)) (cwV 0 hC.2.2.2.2 uV_RX6_39 rfl rfl rfl (by decide +kernel) ⟨Nat.le_of_ble_eq_true rfl, Nat.le_of_ble_eq_true rfl⟩) rfl hl.1 rfl (Nat.le_of_ble_eq_true rfl) dX6_readNumber_1 (fun r1 w3 H locs hp2 hw => ?_)
  obtain ⟨hT, k4, hv8, hg7⟩ := hp2
  have hF := hF.tr k4 (by decide)
  have c9 := k4.gi kC_at1 (by decide) cf0_
  obtain ⟨rfl, ⟨x5, c6, rx5, tx5⟩⟩ := hg7
  replace hM := hM.call (r' := 1) hv8 (by decide)
  have ex5 : x5.toInt = f0_.toInt := by rw [← c9.symm.trans c6]
  refine lv_if_eq (tgt := 9) hx hb dX6_readNumber_4 (by decide) (fun c => absurd c (by decide)) (fun _ => ?_)
  replace hM := hM.neg (by decide)
  refine lv_iconst (v := (-1)) hx hb dX6_readNumber_7 (by decide) ?_
  exact tk_iret hC hr hlocks hK ⟨hT, hF, hM.ret (by decide), ⟨rfl, ⟨f0_, c9, (show 1 ≤ f0_.toInt from rf0_), (show f0_.toInt ≤ 3205 from tf0_)⟩⟩⟩ hw dX6_readNumber_8
abbrev Pz_X7_readLift_1 (ad : Nat → Nat) (cy : Nat → ClassId) (B : Int) (qr : Nat) (s1 : Int)  (w0 : va_W) : va_W → Prop := fun u => TW ksC ad cy B qr s1 u ∧ FE ksC [(6, 1, 1), (6, 3, 3), (6, 4, 4), (7, 11, 11), (27, 0, 13)] w0 u ∧ Ev (fun n => m_X7_readLift n 29 1 (sI w0)) (0, sI u) ∧ (((∃ y : Int32, gi u 1 4 = y ∧ 1 ≤ y.toInt ∧ y.toInt ≤ 3205) ∧ (∃ y : Int32, gi u 29 9 = y ∧ 0 ≤ y.toInt ∧ y.toInt ≤ 12) ∧ (∃ y : Int32, gi u 29 11 = y ∧ 0 ≤ y.toInt ∧ y.toInt ≤ 3)) ∨ ((∃ y : Int32, gi u 1 2 = y ∧ 1 ≤ y.toInt ∧ y.toInt ≤ 400) ∧ (∃ y : Int32, gi u 1 3 = y ∧ 0 ≤ y.toInt ∧ y.toInt ≤ 399) ∧ (∃ y : Int32, gi u 1 4 = y ∧ 0 ≤ y.toInt ∧ y.toInt ≤ 0) ∧ (∃ y : Int32, gi u 29 9 = y ∧ 1 ≤ y.toInt ∧ y.toInt ≤ 12) ∧ (∃ y : Int32, gi u 29 11 = y ∧ 1 ≤ y.toInt ∧ y.toInt ≤ 4)))
set_option maxHeartbeats 4000000 in
set_option maxRecDepth 100000 in
theorem kz_X7_readLift_1 (l : Launch) (adK adV : Nat → Nat) (dC : Nat → ClassId) (dI : Nat → Nat → Nat) (cy : Nat → ClassId) (ad : Nat → Nat) (B : Int) (hB0 : 2147483648 ≤ B) (hB1 : B ≤ 1152921504606846976) (qr : Nat) (s1 : Int)   (w0 : va_W) (sz : Nat) (hT : TW ksC ad cy B qr s1 w0) (cf0_ : gi w0 1 4 = 0) (f1_ : Int32) (cf1_ : gi w0 29 11 = f1_) (rf1_ : 0 ≤ f1_.toInt) (tf1_ : f1_.toInt ≤ 3) : Met l yX7_readLift (wu yX7_readLift cX7_readLift 5 none) ({ frames := 3, cells := 0, slots := 0, locals := 57 }) (va_Pc [.ref (ad 29), .ref (ad 1)] (wpreS adK adV dC dI cy sz w0)) (va_Qv (Pz_X7_readLift_1 ad cy B qr s1  w0) (fun u : va_W => wpost dC dI cy (va_A w0 sz) u) (va_A w0 sz)) 0 0 (va_A w0 sz) := by
  refine Met.ofW (cc := cX7_readLift) (maxL := 5) (ret := none) (by decide) rfl ?_
  intro p e s m args below meth c s₁ Bk hml hv
  obtain ⟨rfl, ⟨hsz, hP, hK, hD0⟩, hE, hSR⟩ := hv
  have hx := Bk.exec
  have hb := Bk.bytes
  have hr := Bk.returns
  have hlocks := Bk.notSynchronized
  have hC : CallFix p m c cX7_readLift 5 s _ (wu yX7_readLift cX7_readLift 5 none) RX7 := ⟨hx, hb, hml, findClass_of_methodNamed Bk.named, atoms_spec (ws := (wu yX7_readLift cX7_readLift 5 none)) Bk.pre⟩
  subst hsz
  have hD := hD0.self (sz := s.heap.size)
  generalize hAe : va_A w0 s.heap.size = A at hD hE ⊢
  have hA : ∀ q : Nat, s.heap.size ≤ q → A q := fun q h => by rw [← hAe]; exact Or.inr h
  have hw : Wd dC dI A s.heap s.heap [] w0 := ⟨hP, hD, va_S.rf⟩
  have hF : FE ksC [(6, 1, 1), (6, 3, 3), (6, 4, 4), (7, 11, 11), (27, 0, 13)] w0 w0 := FE.rf
  have hl := lv_entry ([.ref (ad 29), .ref (ad 1)]) (n := 5) (Nat.le_of_ble_eq_true rfl)
  rw [lg_entry_eq]
  generalize (lg_sl ([.ref (ad 29), .ref (ad 1)]) ++ List.replicate (5 - (lg_sl ([.ref (ad 29), .ref (ad 1)])).length) Slot.unset).toArray = ls at hl ⊢
  have hl : lv_has ls 5 [(0, .ref (ad 29)), (1, .ref (ad 1))] := hl
  generalize hloc : ([] : List Loc) = locs at hw ⊢
  have hinX7 : ∀ w ∈ u_ws RX7 TX7 12, w ∈ (wu yX7_readLift cX7_readLift 5 none) := fun _ h => List.mem_cons_of_mem _ (up_73 h)
  have hM : TT (fun n => m_X7_readLift n 29 1 (sI w0)) (fun n => m_X7_readLift n 29 1 (sI w0)) := TT.rf
  refine lv_aload_n hx hb dX7_readLift_0 rfl (lv_at hl 1 rfl) ?_
  refine lv_iconst (v := 0) hx hb dX7_readLift_1 (by decide) ?_
  refine lv_aload_n hx hb dX7_readLift_2 rfl (lv_at hl 0 rfl) ?_
  refine tk_geti hC hK hw hT hinX7 kC_at29 (by decide) rfl 9 (by decide) (List.mem_cons_of_mem _ uw_9_8) rfl rfl dX7_readLift_3 (fun x1 c2 rx1 tx1 => ?_)
  replace hM := hM.rd (sI_at c2)
  refine lv_iconst (v := 1) hx hb dX7_readLift_6 (by decide) ?_
  refine lv_isub hx hb dX7_readLift_7 ?_
  refine lv_topi (fun x3 ex3 => ?_)
  have ezx3 := ex3
  have ex3 : x3.toInt = x1.toInt - (1 : Int) := by rw [ex3]; exact wk_sub (show (-2147483648) ≤ x1.toInt - (1 : Int) by omega) (show x1.toInt - (1 : Int) ≤ 2147483647 by omega)
  replace hM := hM.lt ex3.symm
  refine tk_Vi hC hK hw hT hA hE hSR kC_at1 (by decide) rfl (kz_X6_readNumber_9 l adK adV dC dI cy ad B (by omega) (by omega) qr s1   x3 (show (-1) ≤ x3.toInt by omega) (show x3.toInt ≤ 11 by omega) w0 s.heap.size hT cf0_) (cwV 2 hC.2.2.2.2 uV_RX7_92 rfl rfl rfl (by decide +kernel) ⟨Nat.le_of_ble_eq_true rfl, Nat.le_of_ble_eq_true rfl⟩) rfl hl.1 rfl (Nat.le_of_ble_eq_true rfl) dX7_readLift_8 (fun r4 w6 H locs hp5 hw => ?_)
  obtain ⟨hT, k7, hv20, hg19⟩ := hp5
  have hF := hF.tr k7 (by decide)
  have c21 := k7.gi kC_at29 (by decide) cf1_
  have c22 := k7.gi kC_at29 (by decide) c2
  rcases hg19 with ⟨g8, g9, g10, ⟨x11, c12, rx11, tx11⟩, ⟨x13, c14, rx13, tx13⟩, ⟨x15, c16, rx15, tx15⟩⟩ | ⟨rfl, ⟨x17, c18, rx17, tx17⟩⟩
  · replace hM := hM.call hv20 rfl
    refine lv_istore_n (lv' := [(2, .int r4), (0, .ref (ad 29)), (1, .ref (ad 1))]) hx hb dX7_readLift_11 rfl hl (by decide) rfl (fun ls hl => ?_)
    refine lv_aload_n hx hb dX7_readLift_12 rfl (lv_at hl 2 rfl) ?_
    refine lv_iconst (v := 0) hx hb dX7_readLift_13 (by decide) ?_
    refine lv_bipush (v := 23) hx hb dX7_readLift_14 (by decide) ?_
    refine tk_Vi hC hK hw hT hA hE hSR kC_at1 (by decide) rfl (kz_X6_readNumber_10 l adK adV dC dI cy ad B (by omega) (by omega) qr s1    w6 H.size hT (c16.trans (wk_eq.mpr (show x15.toInt = 0 by omega)))) (cwV 2 hC.2.2.2.2 uV_RX7_92 rfl rfl rfl (by decide +kernel) ⟨Nat.le_of_ble_eq_true rfl, Nat.le_of_ble_eq_true rfl⟩) rfl hl.1 rfl (Nat.le_of_ble_eq_true rfl) dX7_readLift_16 (fun r23 w25 H locs hp24 hw => ?_)
    obtain ⟨hT, k26, hv38, hg37⟩ := hp24
    have hF := hF.tr k26 (by decide)
    have c39 := k26.gi kC_at29 (by decide) c21
    have c40 := k26.gi kC_at29 (by decide) c22
    have c41 := k26.gi kC_at1 (by decide) c12
    rcases hg37 with ⟨g27, g28, ⟨x29, c30, rx29, tx29⟩, ⟨x31, c32, rx31, tx31⟩, ⟨x33, c34, rx33, tx33⟩⟩ | ⟨rfl, ⟨x35, c36, rx35, tx35⟩⟩
    · replace hM := hM.call hv38 rfl
      have ex29 : x29.toInt = x11.toInt := by rw [← c41.symm.trans c30]
      refine lv_istore_n (lv' := [(3, .int r23), (2, .int r4), (0, .ref (ad 29)), (1, .ref (ad 1))]) hx hb dX7_readLift_19 rfl hl (by decide) rfl (fun ls hl => ?_)
      refine lv_aload_n hx hb dX7_readLift_20 rfl (lv_at hl 3 rfl) ?_
      refine lv_iload_n hx hb dX7_readLift_21 rfl (lv_at hl 0 rfl) ?_
      refine lv_iconst (v := 1) hx hb dX7_readLift_22 (by decide) ?_
      refine lv_iadd hx hb dX7_readLift_23 ?_
      refine lv_topi (fun x42 ex42 => ?_)
      have ezx42 := ex42
      have ex42 : x42.toInt = r23.toInt + (1 : Int) := by rw [ex42]; exact wk_add (show (-2147483648) ≤ r23.toInt + (1 : Int) by omega) (show r23.toInt + (1 : Int) ≤ 2147483647 by omega)
      replace hM := hM.lt ex42.symm
      refine lv_bipush (v := 24) hx hb dX7_readLift_24 (by decide) ?_
      refine tk_Vi hC hK hw hT hA hE hSR kC_at1 (by decide) rfl (kz_X6_readNumber_11 l adK adV dC dI cy ad B (by omega) (by omega) qr s1   x42 (show 1 ≤ x42.toInt by omega) (show x42.toInt ≤ 24 by omega) w25 H.size hT (c34.trans (wk_eq.mpr (show x33.toInt = 0 by omega)))) (cwV 2 hC.2.2.2.2 uV_RX7_92 rfl rfl rfl (by decide +kernel) ⟨Nat.le_of_ble_eq_true rfl, Nat.le_of_ble_eq_true rfl⟩) rfl hl.1 rfl (Nat.le_of_ble_eq_true rfl) dX7_readLift_26 (fun r43 w45 H locs hp44 hw => ?_)
      obtain ⟨hT, k46, hv58, hg57⟩ := hp44
      have hF := hF.tr k46 (by decide)
      have c59 := k46.gi kC_at29 (by decide) c39
      have c60 := k46.gi kC_at29 (by decide) c40
      have c61 := k46.gi kC_at1 (by decide) c41
      rcases hg57 with ⟨g47, g48, ⟨x49, c50, rx49, tx49⟩, ⟨x51, c52, rx51, tx51⟩, ⟨x53, c54, rx53, tx53⟩⟩ | ⟨rfl, ⟨x55, c56, rx55, tx55⟩⟩
      · replace hM := hM.call hv58 rfl
        have ex49 : x49.toInt = x11.toInt := by rw [← c61.symm.trans c50]
        refine lv_istore (lv' := [(4, .int r43), (3, .int r23), (2, .int r4), (0, .ref (ad 29)), (1, .ref (ad 1))]) hx hb dX7_readLift_29 hl (by decide) rfl (fun ls hl => ?_)
        refine lv_aload_n hx hb dX7_readLift_31 rfl (lv_at hl 4 rfl) ?_
        refine tk_Vi hC hK hw hT hA hE hSR kC_at1 (by decide) rfl (kz_X6_isFaulty_2 l adK adV dC dI cy ad B (by omega) (by omega) qr s1    w45 H.size hT (c54.trans (wk_eq.mpr (show x53.toInt = 0 by omega)))) (cwV 0 hC.2.2.2.2 uV_RX7_89 rfl rfl rfl (by decide +kernel) ⟨Nat.le_of_ble_eq_true rfl, Nat.le_of_ble_eq_true rfl⟩) rfl hl.1 rfl (Nat.le_of_ble_eq_true rfl) dX7_readLift_32 (fun r62 w64 H locs hp63 hw => ?_)
        obtain ⟨hT, k65, hv69, hg68⟩ := hp63
        have hF := hF.tr k65 (by decide)
        have c70 := k65.gi kC_at29 (by decide) c59
        have c71 := k65.gi kC_at29 (by decide) c60
        have c72 := k65.gi kC_at1 (by decide) c61
        have c73 := k65.gi kC_at1 (by decide) c52
        have c74 := k65.gi kC_at1 (by decide) c54
        obtain ⟨rfl, ⟨x66, c67, rx66, tx66⟩⟩ := hg68
        replace hM := hM.call (r' := 0) hv69 (by decide)
        have ex66 : x66.toInt = x53.toInt := by rw [← c74.symm.trans c67]
        refine lv_if_eq (tgt := 39) hx hb dX7_readLift_35 (by decide) (fun _ => ?_) (fun c => absurd (by decide) c)
        replace hM := hM.pos (by decide)
        refine lv_aload_n hx hb dX7_readLift_39 rfl (lv_at hl 3 rfl) ?_
        refine tk_getO hC hK hw hT hinX7 kC_at29 (by decide) rfl 3 (by decide) (List.mem_cons_of_mem _ uw_2_20) rfl rfl dX7_readLift_40 ?_
        refine lv_iload_n hx hb dX7_readLift_43 rfl (lv_at hl 2 rfl) ?_
        refine lv_dup2_11 hx hb dX7_readLift_44 rfl rfl ?_
        refine tk_iald hC hK hw hT kC_at33 rfl rfl (show 0 ≤ r4.toInt by omega) (show r4.toInt < 13 by omega) dX7_readLift_45 (fun x75 c76 rx75 tx75 => ?_)
        have hox75 := c76
        replace hM := hM.rd (sI_at hox75)
        refine lv_iconst (v := 1) hx hb dX7_readLift_46 (by decide) ?_
        refine lv_iload hx hb dX7_readLift_47 (lv_at hl 0 rfl) ?_
        refine lv_ishl hx hb dX7_readLift_49 ?_
        refine lv_topi (fun x77 ex77 => ?_)
        have ezx77 := ex77
        have bx77 : 1 ≤ x77.toInt ∧ x77.toInt ≤ 16777216 := by rw [ex77]; exact wk_shl1 24 (by decide) (by omega) (by omega)
        replace hM := hM.lt (o32_e (f := fun x y => x <<< (y &&& 31)) ezx77 (by decide) rfl)
        refine lv_iconst (v := 1) hx hb dX7_readLift_50 (by decide) ?_
        refine lv_iload_n hx hb dX7_readLift_51 rfl (lv_at hl 1 rfl) ?_
        refine lv_ishl hx hb dX7_readLift_52 ?_
        refine lv_topi (fun x78 ex78 => ?_)
        have ezx78 := ex78
        have bx78 : 1 ≤ x78.toInt ∧ x78.toInt ≤ 8388608 := by rw [ex78]; exact wk_shl1 23 (by decide) (by omega) (by omega)
        replace hM := hM.lt (o32_e (f := fun x y => x <<< (y &&& 31)) ezx78 (by decide) rfl)
        refine lv_isub hx hb dX7_readLift_53 ?_
        refine lv_topi (fun x79 ex79 => ?_)
        have ezx79 := ex79
        have ex79 : x79.toInt = x77.toInt - x78.toInt := by rw [ex79]; exact wk_sub (show (-2147483648) ≤ x77.toInt - x78.toInt by omega) (show x77.toInt - x78.toInt ≤ 2147483647 by omega)
        replace hM := hM.lt ex79.symm
        refine lv_ior hx hb dX7_readLift_54 ?_
        refine lv_topi (fun x80 ex80 => ?_)
        have ezx80 := ex80
        replace hM := hM.lt (o32_e (f := fun x y => x ||| y) ezx80 rfl rfl)
        refine tk_iast hC hK hw hT kC_at33 (by decide) rfl rfl (show 0 ≤ r4.toInt by omega) (show r4.toInt < 13 by omega) (wk_i32 x80).1 (wk_i32 x80).2 dX7_readLift_55 (fun H locs w81 hw hT k83 c82 => ?_)
        replace hM := hM.wr (sI_up k83 c82)
        have hF := hF.put kC_at33 (inE_of (a := 0) (b := 13) (by decide) (show 0 ≤ r4.toInt.toNat by omega) (show r4.toInt.toNat ≤ 13 by omega)) k83
        have c84 := k83.gi (Or.inl (tk_ne kC_at29 kC_at33 (by decide))) c70
        have c85 := k83.gi (Or.inl (tk_ne kC_at29 kC_at33 (by decide))) c71
        have c86 := k83.gi (Or.inl (tk_ne kC_at1 kC_at33 (by decide))) c72
        have c87 := k83.gi (Or.inl (tk_ne kC_at1 kC_at33 (by decide))) c73
        have c88 := k83.gi (Or.inl (tk_ne kC_at1 kC_at33 (by decide))) c74
        refine lv_aload_n hx hb dX7_readLift_56 rfl (lv_at hl 3 rfl) ?_
        refine lv_dup hx hb dX7_readLift_57 rfl ?_
        refine tk_geti hC hK hw hT hinX7 kC_at29 (by decide) rfl 11 (by decide) (List.mem_cons_of_mem _ uw_9_10) rfl rfl dX7_readLift_58 (fun x89 c90 rx89 tx89 => ?_)
        refine wk_top f1_ (c90.symm.trans c84) ?_
        replace hM := hM.rd (sI_at c84)
        refine lv_iconst (v := 1) hx hb dX7_readLift_61 (by decide) ?_
        refine lv_iadd hx hb dX7_readLift_62 ?_
        refine lv_topi (fun x91 ex91 => ?_)
        have ezx91 := ex91
        have ex91 : x91.toInt = f1_.toInt + (1 : Int) := by rw [ex91]; exact wk_add (show (-2147483648) ≤ f1_.toInt + (1 : Int) by omega) (show f1_.toInt + (1 : Int) ≤ 2147483647 by omega)
        replace hM := hM.lt ex91.symm
        refine tk_puti hC hK hw hT hinX7 tyX7_ok nmX7 kC_at29 (by decide) rfl rfl 11 (by decide) (List.mem_cons_of_mem _ uw_9_10) rfl rfl rfl rfl (show 0 ≤ x91.toInt by omega) (show x91.toInt ≤ 4 by omega) dX7_readLift_63 (fun H locs w92 hw hT k94 c93 => ?_)
        replace hM := hM.wr (sI_up k94 c93)
        have hF := hF.put kC_at29 (k := 11) (by decide) k94
        have c95 := k94.gi (Or.inr (by decide)) c85
        have c96 := k94.gi (Or.inr (by decide)) c86
        have c97 := k94.gi (Or.inr (by decide)) c87
        have c98 := k94.gi (Or.inr (by decide)) c88
        exact tk_vret hC hr hlocks hK ⟨hT, hF, hM.ret rfl, (Or.inr ⟨⟨x11, c96, (show 1 ≤ x11.toInt by omega), (show x11.toInt ≤ 400 by omega)⟩, ⟨x51, c97, (show 0 ≤ x51.toInt by omega), (show x51.toInt ≤ 399 by omega)⟩, ⟨x53, c98, (show 0 ≤ x53.toInt by omega), (show x53.toInt ≤ 0 by omega)⟩, ⟨x1, c95, (show 1 ≤ x1.toInt by omega), (show x1.toInt ≤ 12 from tx1)⟩, ⟨x91, c93, (show 1 ≤ x91.toInt by omega), (show x91.toInt ≤ 4 by omega)⟩⟩)⟩ hw dX7_readLift_66
      · replace hM := hM.call (r' := (-1)) hv58 (by decide)
        refine lv_istore (lv' := [(4, .int (-1)), (3, .int r23), (2, .int r4), (0, .ref (ad 29)), (1, .ref (ad 1))]) hx hb dX7_readLift_29 hl (by decide) rfl (fun ls hl => ?_)
        refine lv_aload_n hx hb dX7_readLift_31 rfl (lv_at hl 4 rfl) ?_
        refine tk_Vi hC hK hw hT hA hE hSR kC_at1 (by decide) rfl (kz_X6_isFaulty_3 l adK adV dC dI cy ad B (by omega) (by omega) qr s1    w45 H.size hT x55 c56 (show 1 ≤ x55.toInt by omega) (show x55.toInt ≤ 3205 by omega)) (cwV 0 hC.2.2.2.2 uV_RX7_89 rfl rfl rfl (by decide +kernel) ⟨Nat.le_of_ble_eq_true rfl, Nat.le_of_ble_eq_true rfl⟩) rfl hl.1 rfl (Nat.le_of_ble_eq_true rfl) dX7_readLift_32 (fun r99 w101 H locs hp100 hw => ?_)
        obtain ⟨hT, k102, hv106, hg105⟩ := hp100
        have hF := hF.tr k102 (by decide)
        have c107 := k102.gi kC_at29 (by decide) c59
        have c108 := k102.gi kC_at29 (by decide) c60
        have c109 := k102.gi kC_at1 (by decide) c61
        have c110 := k102.gi kC_at1 (by decide) c56
        obtain ⟨rfl, ⟨x103, c104, rx103, tx103⟩⟩ := hg105
        replace hM := hM.call (r' := 1) hv106 (by decide)
        have ex103 : x103.toInt = x55.toInt := by rw [← c110.symm.trans c104]
        refine lv_if_eq (tgt := 39) hx hb dX7_readLift_35 (by decide) (fun c => absurd c (by decide)) (fun _ => ?_)
        replace hM := hM.neg (by decide)
        exact tk_vret hC hr hlocks hK ⟨hT, hF, hM.ret rfl, (Or.inl ⟨⟨x55, c110, (show 1 ≤ x55.toInt by omega), (show x55.toInt ≤ 3205 by omega)⟩, ⟨x1, c108, (show 0 ≤ x1.toInt from rx1), (show x1.toInt ≤ 12 from tx1)⟩, ⟨f1_, c107, (show 0 ≤ f1_.toInt from rf1_), (show f1_.toInt ≤ 3 from tf1_)⟩⟩)⟩ hw dX7_readLift_38
    · replace hM := hM.call (r' := (-1)) hv38 (by decide)
      refine lv_istore_n (lv' := [(3, .int (-1)), (2, .int r4), (0, .ref (ad 29)), (1, .ref (ad 1))]) hx hb dX7_readLift_19 rfl hl (by decide) rfl (fun ls hl => ?_)
      refine lv_aload_n hx hb dX7_readLift_20 rfl (lv_at hl 3 rfl) ?_
      refine lv_iload_n hx hb dX7_readLift_21 rfl (lv_at hl 0 rfl) ?_
      refine lv_iconst (v := 1) hx hb dX7_readLift_22 (by decide) ?_
      refine lv_iadd hx hb dX7_readLift_23 ?_
      refine wk_top 0 (by decide) ?_
      replace hM := hM.lt (v := 0) (by decide)
      refine lv_bipush (v := 24) hx hb dX7_readLift_24 (by decide) ?_
      refine tk_Vi hC hK hw hT hA hE hSR kC_at1 (by decide) rfl (kz_X6_readNumber_12 l adK adV dC dI cy ad B (by omega) (by omega) qr s1    w25 H.size hT x35 c36 (show 1 ≤ x35.toInt by omega) (show x35.toInt ≤ 3205 by omega)) (cwV 2 hC.2.2.2.2 uV_RX7_92 rfl rfl rfl (by decide +kernel) ⟨Nat.le_of_ble_eq_true rfl, Nat.le_of_ble_eq_true rfl⟩) rfl hl.1 rfl (Nat.le_of_ble_eq_true rfl) dX7_readLift_26 (fun r111 w113 H locs hp112 hw => ?_)
      obtain ⟨hT, k114, hv118, hg117⟩ := hp112
      have hF := hF.tr k114 (by decide)
      have c119 := k114.gi kC_at29 (by decide) c39
      have c120 := k114.gi kC_at29 (by decide) c40
      have c121 := k114.gi kC_at1 (by decide) c41
      have c122 := k114.gi kC_at1 (by decide) c36
      obtain ⟨rfl, ⟨x115, c116, rx115, tx115⟩⟩ := hg117
      replace hM := hM.call (r' := (-1)) hv118 (by decide)
      have ex115 : x115.toInt = x35.toInt := by rw [← c122.symm.trans c116]
      refine lv_istore (lv' := [(4, .int (-1)), (3, .int (-1)), (2, .int r4), (0, .ref (ad 29)), (1, .ref (ad 1))]) hx hb dX7_readLift_29 hl (by decide) rfl (fun ls hl => ?_)
      refine lv_aload_n hx hb dX7_readLift_31 rfl (lv_at hl 4 rfl) ?_
      refine tk_Vi hC hK hw hT hA hE hSR kC_at1 (by decide) rfl (kz_X6_isFaulty_3 l adK adV dC dI cy ad B (by omega) (by omega) qr s1    w113 H.size hT x35 c122 (show 1 ≤ x35.toInt by omega) (show x35.toInt ≤ 3205 by omega)) (cwV 0 hC.2.2.2.2 uV_RX7_89 rfl rfl rfl (by decide +kernel) ⟨Nat.le_of_ble_eq_true rfl, Nat.le_of_ble_eq_true rfl⟩) rfl hl.1 rfl (Nat.le_of_ble_eq_true rfl) dX7_readLift_32 (fun r123 w125 H locs hp124 hw => ?_)
      obtain ⟨hT, k126, hv130, hg129⟩ := hp124
      have hF := hF.tr k126 (by decide)
      have c131 := k126.gi kC_at29 (by decide) c119
      have c132 := k126.gi kC_at29 (by decide) c120
      have c133 := k126.gi kC_at1 (by decide) c121
      have c134 := k126.gi kC_at1 (by decide) c122
      obtain ⟨rfl, ⟨x127, c128, rx127, tx127⟩⟩ := hg129
      replace hM := hM.call (r' := 1) hv130 (by decide)
      have ex127 : x127.toInt = x35.toInt := by rw [← c134.symm.trans c128]
      refine lv_if_eq (tgt := 39) hx hb dX7_readLift_35 (by decide) (fun c => absurd c (by decide)) (fun _ => ?_)
      replace hM := hM.neg (by decide)
      exact tk_vret hC hr hlocks hK ⟨hT, hF, hM.ret rfl, (Or.inl ⟨⟨x35, c134, (show 1 ≤ x35.toInt by omega), (show x35.toInt ≤ 3205 by omega)⟩, ⟨x1, c132, (show 0 ≤ x1.toInt from rx1), (show x1.toInt ≤ 12 from tx1)⟩, ⟨f1_, c131, (show 0 ≤ f1_.toInt from rf1_), (show f1_.toInt ≤ 3 from tf1_)⟩⟩)⟩ hw dX7_readLift_38
  · replace hM := hM.call (r' := (-1)) hv20 (by decide)
    refine lv_istore_n (lv' := [(2, .int (-1)), (0, .ref (ad 29)), (1, .ref (ad 1))]) hx hb dX7_readLift_11 rfl hl (by decide) rfl (fun ls hl => ?_)
    refine lv_aload_n hx hb dX7_readLift_12 rfl (lv_at hl 2 rfl) ?_
    refine lv_iconst (v := 0) hx hb dX7_readLift_13 (by decide) ?_
    refine lv_bipush (v := 23) hx hb dX7_readLift_14 (by decide) ?_
    refine tk_Vi hC hK hw hT hA hE hSR kC_at1 (by decide) rfl (kz_X6_readNumber_13 l adK adV dC dI cy ad B (by omega) (by omega) qr s1    w6 H.size hT x17 c18 (show 1 ≤ x17.toInt by omega) (show x17.toInt ≤ 3205 by omega)) (cwV 2 hC.2.2.2.2 uV_RX7_92 rfl rfl rfl (by decide +kernel) ⟨Nat.le_of_ble_eq_true rfl, Nat.le_of_ble_eq_true rfl⟩) rfl hl.1 rfl (Nat.le_of_ble_eq_true rfl) dX7_readLift_16 (fun r135 w137 H locs hp136 hw => ?_)
    obtain ⟨hT, k138, hv142, hg141⟩ := hp136
    have hF := hF.tr k138 (by decide)
    have c143 := k138.gi kC_at29 (by decide) c21
    have c144 := k138.gi kC_at29 (by decide) c22
    have c145 := k138.gi kC_at1 (by decide) c18
    obtain ⟨rfl, ⟨x139, c140, rx139, tx139⟩⟩ := hg141
    replace hM := hM.call (r' := (-1)) hv142 (by decide)
    have ex139 : x139.toInt = x17.toInt := by rw [← c145.symm.trans c140]
    refine lv_istore_n (lv' := [(3, .int (-1)), (2, .int (-1)), (0, .ref (ad 29)), (1, .ref (ad 1))]) hx hb dX7_readLift_19 rfl hl (by decide) rfl (fun ls hl => ?_)
    refine lv_aload_n hx hb dX7_readLift_20 rfl (lv_at hl 3 rfl) ?_
    refine lv_iload_n hx hb dX7_readLift_21 rfl (lv_at hl 0 rfl) ?_
    refine lv_iconst (v := 1) hx hb dX7_readLift_22 (by decide) ?_
    refine lv_iadd hx hb dX7_readLift_23 ?_
    refine wk_top 0 (by decide) ?_
    replace hM := hM.lt (v := 0) (by decide)
    refine lv_bipush (v := 24) hx hb dX7_readLift_24 (by decide) ?_
    refine tk_Vi hC hK hw hT hA hE hSR kC_at1 (by decide) rfl (kz_X6_readNumber_12 l adK adV dC dI cy ad B (by omega) (by omega) qr s1    w137 H.size hT x17 c145 (show 1 ≤ x17.toInt by omega) (show x17.toInt ≤ 3205 by omega)) (cwV 2 hC.2.2.2.2 uV_RX7_92 rfl rfl rfl (by decide +kernel) ⟨Nat.le_of_ble_eq_true rfl, Nat.le_of_ble_eq_true rfl⟩) rfl hl.1 rfl (Nat.le_of_ble_eq_true rfl) dX7_readLift_26 (fun r146 w148 H locs hp147 hw => ?_)
    obtain ⟨hT, k149, hv153, hg152⟩ := hp147
    have hF := hF.tr k149 (by decide)
    have c154 := k149.gi kC_at29 (by decide) c143
    have c155 := k149.gi kC_at29 (by decide) c144
    have c156 := k149.gi kC_at1 (by decide) c145
    obtain ⟨rfl, ⟨x150, c151, rx150, tx150⟩⟩ := hg152
    replace hM := hM.call (r' := (-1)) hv153 (by decide)
    have ex150 : x150.toInt = x17.toInt := by rw [← c156.symm.trans c151]
    refine lv_istore (lv' := [(4, .int (-1)), (3, .int (-1)), (2, .int (-1)), (0, .ref (ad 29)), (1, .ref (ad 1))]) hx hb dX7_readLift_29 hl (by decide) rfl (fun ls hl => ?_)
    refine lv_aload_n hx hb dX7_readLift_31 rfl (lv_at hl 4 rfl) ?_
    refine tk_Vi hC hK hw hT hA hE hSR kC_at1 (by decide) rfl (kz_X6_isFaulty_3 l adK adV dC dI cy ad B (by omega) (by omega) qr s1    w148 H.size hT x17 c156 (show 1 ≤ x17.toInt by omega) (show x17.toInt ≤ 3205 by omega)) (cwV 0 hC.2.2.2.2 uV_RX7_89 rfl rfl rfl (by decide +kernel) ⟨Nat.le_of_ble_eq_true rfl, Nat.le_of_ble_eq_true rfl⟩) rfl hl.1 rfl (Nat.le_of_ble_eq_true rfl) dX7_readLift_32 (fun r157 w159 H locs hp158 hw => ?_)
    obtain ⟨hT, k160, hv164, hg163⟩ := hp158
    have hF := hF.tr k160 (by decide)
    have c165 := k160.gi kC_at29 (by decide) c154
    have c166 := k160.gi kC_at29 (by decide) c155
    have c167 := k160.gi kC_at1 (by decide) c156
    obtain ⟨rfl, ⟨x161, c162, rx161, tx161⟩⟩ := hg163
    replace hM := hM.call (r' := 1) hv164 (by decide)
    have ex161 : x161.toInt = x17.toInt := by rw [← c167.symm.trans c162]
    refine lv_if_eq (tgt := 39) hx hb dX7_readLift_35 (by decide) (fun c => absurd c (by decide)) (fun _ => ?_)
    replace hM := hM.neg (by decide)
    exact tk_vret hC hr hlocks hK ⟨hT, hF, hM.ret rfl, (Or.inl ⟨⟨x17, c167, (show 1 ≤ x17.toInt by omega), (show x17.toInt ≤ 3205 by omega)⟩, ⟨x1, c166, (show 0 ≤ x1.toInt from rx1), (show x1.toInt ≤ 12 from tx1)⟩, ⟨f1_, c165, (show 0 ≤ f1_.toInt from rf1_), (show f1_.toInt ≤ 3 from tf1_)⟩⟩)⟩ hw dX7_readLift_38
abbrev Pz_X7_readClause_4 (ad : Nat → Nat) (cy : Nat → ClassId) (B : Int) (qr : Nat) (s1 : Int) (a2 : Int32) (w0 : va_W) : va_W → Prop := fun u => TW ksC ad cy B qr s1 u ∧ FE ksC [(6, 1, 1), (6, 3, 3), (6, 4, 4), (7, 11, 11), (27, 0, 13)] w0 u ∧ Ev (fun n => m_X7_readClause n 29 1 a2.toInt (sI w0)) (0, sI u) ∧ (((∃ y : Int32, gi u 1 4 = y ∧ 1 ≤ y.toInt ∧ y.toInt ≤ 3205) ∧ (∃ y : Int32, gi u 29 11 = y ∧ 0 ≤ y.toInt ∧ y.toInt ≤ 3)) ∨ ((∃ y : Int32, gi u 1 4 = y ∧ 0 ≤ y.toInt ∧ y.toInt ≤ 3205) ∧ (∃ y : Int32, gi u 29 9 = y ∧ 0 ≤ y.toInt ∧ y.toInt ≤ 12) ∧ (∃ y : Int32, gi u 29 11 = y ∧ 0 ≤ y.toInt ∧ y.toInt ≤ 4)))
set_option maxHeartbeats 4000000 in
set_option maxRecDepth 100000 in
theorem kz_X7_readClause_4 (l : Launch) (adK adV : Nat → Nat) (dC : Nat → ClassId) (dI : Nat → Nat → Nat) (cy : Nat → ClassId) (ad : Nat → Nat) (B : Int) (hB0 : 2147483648 ≤ B) (hB1 : B ≤ 1152921504606846976) (qr : Nat) (s1 : Int)  (a2 : Int32) (ra2 : 3 ≤ a2.toInt) (ta2 : a2.toInt ≤ 26) (w0 : va_W) (sz : Nat) (hT : TW ksC ad cy B qr s1 w0) (f0_ : Int32) (cf0_ : gi w0 29 11 = f0_) (rf0_ : 0 ≤ f0_.toInt) (tf0_ : f0_.toInt ≤ 3) : Met l yX7_readClause (wu yX7_readClause cX7_readClause 3 none) ({ frames := 4, cells := 0, slots := 0, locals := 81 }) (va_Pc [.ref (ad 29), .ref (ad 1), .int a2] (wpreS adK adV dC dI cy sz w0)) (va_Qv (Pz_X7_readClause_4 ad cy B qr s1 a2 w0) (fun u : va_W => wpost dC dI cy (va_A w0 sz) u) (va_A w0 sz)) 0 0 (va_A w0 sz) := by
  refine Met.ofW (cc := cX7_readClause) (maxL := 3) (ret := none) (by decide) rfl ?_
  intro p e s m args below meth c s₁ Bk hml hv
  obtain ⟨rfl, ⟨hsz, hP, hK, hD0⟩, hE, hSR⟩ := hv
  have hx := Bk.exec
  have hb := Bk.bytes
  have hr := Bk.returns
  have hlocks := Bk.notSynchronized
  have hC : CallFix p m c cX7_readClause 3 s _ (wu yX7_readClause cX7_readClause 3 none) RX7 := ⟨hx, hb, hml, findClass_of_methodNamed Bk.named, atoms_spec (ws := (wu yX7_readClause cX7_readClause 3 none)) Bk.pre⟩
  subst hsz
  have hD := hD0.self (sz := s.heap.size)
  generalize hAe : va_A w0 s.heap.size = A at hD hE ⊢
  have hA : ∀ q : Nat, s.heap.size ≤ q → A q := fun q h => by rw [← hAe]; exact Or.inr h
  have hw : Wd dC dI A s.heap s.heap [] w0 := ⟨hP, hD, va_S.rf⟩
  have hF : FE ksC [(6, 1, 1), (6, 3, 3), (6, 4, 4), (7, 11, 11), (27, 0, 13)] w0 w0 := FE.rf
  have hl := lv_entry ([.ref (ad 29), .ref (ad 1), .int a2]) (n := 3) (Nat.le_of_ble_eq_true rfl)
  rw [lg_entry_eq]
  generalize (lg_sl ([.ref (ad 29), .ref (ad 1), .int a2]) ++ List.replicate (3 - (lg_sl ([.ref (ad 29), .ref (ad 1), .int a2])).length) Slot.unset).toArray = ls at hl ⊢
  have hl : lv_has ls 3 [(0, .ref (ad 29)), (1, .ref (ad 1)), (2, .int a2)] := hl
  generalize hloc : ([] : List Loc) = locs at hw ⊢
  have J57 : ∀ (f57_1_4 : Int32) (f57_29_11 : Int32) (f57_29_9 : Int32) (H : Heap) (locs : List Loc) (ls : Array Slot) (w1 : va_W), 3 ≤ a2.toInt → a2.toInt ≤ 26 → 0 ≤ f57_1_4.toInt → f57_1_4.toInt ≤ 3205 → 0 ≤ f57_29_11.toInt → f57_29_11.toInt ≤ 4 → 0 ≤ f57_29_9.toInt → f57_29_9.toInt ≤ 12 → Wd dC dI A s.heap H locs w1 → TW ksC ad cy B qr s1 w1 → FE ksC [(6, 1, 1), (6, 3, 3), (6, 4, 4), (7, 11, 11), (27, 0, 13)] w0 w1 → gi w1 1 4 = f57_1_4 → gi w1 29 11 = f57_29_11 → gi w1 29 9 = f57_29_9 → TT (fun n => m_X7_readClause n 29 1 a2.toInt (sI w0)) (fun n => b_X7_readClause_57 n 29 1 (sI w1)) → lv_has ls 3 [(0, .ref (ad 29)), (1, .ref (ad 1)), (2, .int a2)] → W p l e ({ frames := 4, cells := 0, slots := 0, locals := 81 }) s m (List.toArray [.ref (ad 29), .ref (ad 1), .int a2]) below meth c H locs 0 0 (MQ below (va_Qv (Pz_X7_readClause_4 ad cy B qr s1 a2 w0) (fun u : va_W => wpost dC dI cy A u) A) (List.toArray [.ref (ad 29), .ref (ad 1), .int a2]) s 0 0 A) (F0 m 57 ls []) := by
    intro f57_1_4 f57_29_11 f57_29_9 H locs ls w1 r2 t3 r4 t5 r7 t8 r10 t11 hw hT hF c6 c9 c12 hM hl
    exact tk_vret hC hr hlocks hK ⟨hT, hF, hM.ret rfl, (Or.inr ⟨⟨f57_1_4, c6, (show 0 ≤ f57_1_4.toInt from r4), (show f57_1_4.toInt ≤ 3205 from t5)⟩, ⟨f57_29_9, c12, (show 0 ≤ f57_29_9.toInt from r10), (show f57_29_9.toInt ≤ 12 from t11)⟩, ⟨f57_29_11, c9, (show 0 ≤ f57_29_11.toInt from r7), (show f57_29_11.toInt ≤ 4 from t8)⟩⟩)⟩ hw dX7_readClause_57
  have hM : TT (fun n => m_X7_readClause n 29 1 a2.toInt (sI w0)) (fun n => m_X7_readClause n 29 1 a2.toInt (sI w0)) := TT.rf
  refine lv_aload_n hx hb dX7_readClause_0 rfl (lv_at hl 1 rfl) ?_
  refine tk_Vi hC hK hw hT hA hE hSR kC_at1 (by decide) rfl (kz_X6_isFaulty_1 l adK adV dC dI cy ad B (by omega) (by omega) qr s1    w0 s.heap.size hT ) (cwV 0 hC.2.2.2.2 uV_RX7_89 rfl rfl rfl (by decide +kernel) ⟨Nat.le_of_ble_eq_true rfl, Nat.le_of_ble_eq_true rfl⟩) rfl hl.1 rfl (Nat.le_of_ble_eq_true rfl) dX7_readClause_1 (fun r13 w15 H locs hp14 hw => ?_)
  obtain ⟨hT, k16, hv22, hg21⟩ := hp14
  have hF := hF.tr k16 (by decide)
  have c23 := k16.gi kC_at29 (by decide) cf0_
  rcases hg21 with ⟨rfl, ⟨x17, c18, rx17, tx17⟩⟩ | ⟨rfl, ⟨x19, c20, rx19, tx19⟩⟩
  · replace hM := hM.call (r' := 0) hv22 (by decide)
    refine lv_if_eq (tgt := 8) hx hb dX7_readClause_4 (by decide) (fun _ => ?_) (fun c => absurd (by decide) c)
    replace hM := hM.pos (by decide)
    refine lv_iload_n hx hb dX7_readClause_8 rfl (lv_at hl 2 rfl) ?_
    refine lv_if_ne (tgt := 26) hx hb dX7_readClause_9 (by decide) (fun _ => ?_) (fun c => absurd (show a2.toInt = (0 : Int) from wk_eq.mp c) (by omega))
    replace hM := hM.pos (by omega)
    refine lv_iload_n hx hb dX7_readClause_26 rfl (lv_at hl 2 rfl) ?_
    refine lv_iconst (v := 1) hx hb dX7_readClause_27 (by decide) ?_
    refine lv_icmp_ne (tgt := 39) hx hb dX7_readClause_28 (by decide) (fun _ => ?_) (fun c => absurd (show a2.toInt = (1 : Int) from wk_eq.mp c) (by omega))
    replace hM := hM.pos (by omega)
    refine lv_iload_n hx hb dX7_readClause_39 rfl (lv_at hl 2 rfl) ?_
    refine lv_iconst (v := 2) hx hb dX7_readClause_40 (by decide) ?_
    refine lv_icmp_ne (tgt := 52) hx hb dX7_readClause_41 (by decide) (fun _ => ?_) (fun c => absurd (show a2.toInt = (2 : Int) from wk_eq.mp c) (by omega))
    replace hM := hM.pos (by omega)
    refine lv_aload_n hx hb dX7_readClause_52 rfl (lv_at hl 0 rfl) ?_
    refine lv_aload_n hx hb dX7_readClause_53 rfl (lv_at hl 1 rfl) ?_
    refine tk_Vv hC hK hw hT hA hE hSR kC_at29 (by decide) rfl (kz_X7_readLift_1 l adK adV dC dI cy ad B (by omega) (by omega) qr s1    w15 H.size hT (c18.trans (wk_eq.mpr (show x17.toInt = 0 by omega))) f0_ c23 (show 0 ≤ f0_.toInt from rf0_) (show f0_.toInt ≤ 3 from tf0_)) (cwV 1 hC.2.2.2.2 uV_RX7_103 rfl rfl rfl (by decide +kernel) ⟨Nat.le_of_ble_eq_true rfl, Nat.le_of_ble_eq_true rfl⟩) rfl hl.1 rfl (Nat.le_of_ble_eq_true rfl) dX7_readClause_54 (fun w26 H locs hp25 hw => ?_)
    obtain ⟨hT, k27, hv45, hg44⟩ := hp25
    have hF := hF.tr k27 (by decide)
    rcases hg44 with ⟨⟨x28, c29, rx28, tx28⟩, ⟨x30, c31, rx30, tx30⟩, ⟨x32, c33, rx32, tx32⟩⟩ | ⟨⟨x34, c35, rx34, tx34⟩, ⟨x36, c37, rx36, tx36⟩, ⟨x38, c39, rx38, tx38⟩, ⟨x40, c41, rx40, tx40⟩, ⟨x42, c43, rx42, tx42⟩⟩
    · replace hM := hM.call hv45 rfl
      exact J57 x28 x32 x30 H locs ls w26 (show 3 ≤ a2.toInt from ra2) (show a2.toInt ≤ 26 from ta2) (show 0 ≤ x28.toInt by omega) (show x28.toInt ≤ 3205 by omega) (show 0 ≤ x32.toInt by omega) (show x32.toInt ≤ 4 by omega) (show 0 ≤ x30.toInt by omega) (show x30.toInt ≤ 12 by omega)  hw hT hF c29 c33 c31 hM (lv_sub hl [0, 1, 2] rfl)
    · replace hM := hM.call hv45 rfl
      exact J57 x38 x42 x40 H locs ls w26 (show 3 ≤ a2.toInt from ra2) (show a2.toInt ≤ 26 from ta2) (show 0 ≤ x38.toInt by omega) (show x38.toInt ≤ 3205 by omega) (show 0 ≤ x42.toInt by omega) (show x42.toInt ≤ 4 by omega) (show 0 ≤ x40.toInt by omega) (show x40.toInt ≤ 12 by omega)  hw hT hF c39 c43 c41 hM (lv_sub hl [0, 1, 2] rfl)
  · replace hM := hM.call (r' := 1) hv22 (by decide)
    refine lv_if_eq (tgt := 8) hx hb dX7_readClause_4 (by decide) (fun c => absurd c (by decide)) (fun _ => ?_)
    replace hM := hM.neg (by decide)
    exact tk_vret hC hr hlocks hK ⟨hT, hF, hM.ret rfl, (Or.inl ⟨⟨x19, c20, (show 1 ≤ x19.toInt by omega), (show x19.toInt ≤ 3205 by omega)⟩, ⟨f0_, c23, (show 0 ≤ f0_.toInt from rf0_), (show f0_.toInt ≤ 3 from tf0_)⟩⟩)⟩ hw dX7_readClause_7
abbrev Pz_X7_readClause_5 (ad : Nat → Nat) (cy : Nat → ClassId) (B : Int) (qr : Nat) (s1 : Int) (a2 : Int32) (w0 : va_W) : va_W → Prop := fun u => TW ksC ad cy B qr s1 u ∧ FE ksC ([] : List (Nat × Nat × Nat)) w0 u ∧ Ev (fun n => m_X7_readClause n 29 1 a2.toInt (sI w0)) (0, sI u) ∧ (((∃ y : Int32, gi u 1 4 = y ∧ 1 ≤ y.toInt ∧ y.toInt ≤ 3205)))
set_option maxHeartbeats 4000000 in
set_option maxRecDepth 100000 in
theorem kz_X7_readClause_5 (l : Launch) (adK adV : Nat → Nat) (dC : Nat → ClassId) (dI : Nat → Nat → Nat) (cy : Nat → ClassId) (ad : Nat → Nat) (B : Int) (hB0 : 2147483648 ≤ B) (hB1 : B ≤ 1152921504606846976) (qr : Nat) (s1 : Int)  (a2 : Int32) (ra2 : 0 ≤ a2.toInt) (ta2 : a2.toInt ≤ 26) (w0 : va_W) (sz : Nat) (hT : TW ksC ad cy B qr s1 w0) (f0_ : Int32) (cf0_ : gi w0 1 4 = f0_) (rf0_ : 1 ≤ f0_.toInt) (tf0_ : f0_.toInt ≤ 3205) : Met l yX7_readClause (wu yX7_readClause cX7_readClause 3 none) ({ frames := 2, cells := 0, slots := 0, locals := 32 }) (va_Pc [.ref (ad 29), .ref (ad 1), .int a2] (wpreS adK adV dC dI cy sz w0)) (va_Qv (Pz_X7_readClause_5 ad cy B qr s1 a2 w0) (fun u : va_W => wpost dC dI cy (va_A w0 sz) u) (va_A w0 sz)) 0 0 (va_A w0 sz) := by
  refine Met.ofW (cc := cX7_readClause) (maxL := 3) (ret := none) (by decide) rfl ?_
  intro p e s m args below meth c s₁ Bk hml hv
  obtain ⟨rfl, ⟨hsz, hP, hK, hD0⟩, hE, hSR⟩ := hv
  have hx := Bk.exec
  have hb := Bk.bytes
  have hr := Bk.returns
  have hlocks := Bk.notSynchronized
  have hC : CallFix p m c cX7_readClause 3 s _ (wu yX7_readClause cX7_readClause 3 none) RX7 := ⟨hx, hb, hml, findClass_of_methodNamed Bk.named, atoms_spec (ws := (wu yX7_readClause cX7_readClause 3 none)) Bk.pre⟩
  subst hsz
  have hD := hD0.self (sz := s.heap.size)
  generalize hAe : va_A w0 s.heap.size = A at hD hE ⊢
  have hA : ∀ q : Nat, s.heap.size ≤ q → A q := fun q h => by rw [← hAe]; exact Or.inr h
  have hw : Wd dC dI A s.heap s.heap [] w0 := ⟨hP, hD, va_S.rf⟩
  have hF : FE ksC ([] : List (Nat × Nat × Nat)) w0 w0 := FE.rf
  have hl := lv_entry ([.ref (ad 29), .ref (ad 1), .int a2]) (n := 3) (Nat.le_of_ble_eq_true rfl)
  rw [lg_entry_eq]
  generalize (lg_sl ([.ref (ad 29), .ref (ad 1), .int a2]) ++ List.replicate (3 - (lg_sl ([.ref (ad 29), .ref (ad 1), .int a2])).length) Slot.unset).toArray = ls at hl ⊢
  have hl : lv_has ls 3 [(0, .ref (ad 29)), (1, .ref (ad 1)), (2, .int a2)] := hl
  generalize hloc : ([] : List Loc) = locs at hw ⊢
  have hM : TT (fun n => m_X7_readClause n 29 1 a2.toInt (sI w0)) (fun n => m_X7_readClause n 29 1 a2.toInt (sI w0)) := TT.rf
  refine lv_aload_n hx hb dX7_readClause_0 rfl (lv_at hl 1 rfl) ?_
  refine tk_Vi hC hK hw hT hA hE hSR kC_at1 (by decide) rfl (kz_X6_isFaulty_3 l adK adV dC dI cy ad B (by omega) (by omega) qr s1    w0 s.heap.size hT f0_ cf0_ (show 1 ≤ f0_.toInt from rf0_) (show f0_.toInt ≤ 3205 from tf0_)) (cwV 0 hC.2.2.2.2 uV_RX7_89 rfl rfl rfl (by decide +kernel) ⟨Nat.le_of_ble_eq_true rfl, Nat.le_of_ble_eq_true rfl⟩) rfl hl.1 rfl (Nat.le_of_ble_eq_true rfl) dX7_readClause_1 (fun r1 w3 H locs hp2 hw => ?_)
  obtain ⟨hT, k4, hv8, hg7⟩ := hp2
  have hF := hF.tr k4 (by decide)
  have c9 := k4.gi kC_at1 (by decide) cf0_
  obtain ⟨rfl, ⟨x5, c6, rx5, tx5⟩⟩ := hg7
  replace hM := hM.call (r' := 1) hv8 (by decide)
  have ex5 : x5.toInt = f0_.toInt := by rw [← c9.symm.trans c6]
  refine lv_if_eq (tgt := 8) hx hb dX7_readClause_4 (by decide) (fun c => absurd c (by decide)) (fun _ => ?_)
  replace hM := hM.neg (by decide)
  exact tk_vret hC hr hlocks hK ⟨hT, hF, hM.ret rfl, ⟨f0_, c9, (show 1 ≤ f0_.toInt from rf0_), (show f0_.toInt ≤ 3205 from tf0_)⟩⟩ hw dX7_readClause_7
abbrev Pz_X7_readClause_6 (ad : Nat → Nat) (cy : Nat → ClassId) (B : Int) (qr : Nat) (s1 : Int)  (w0 : va_W) : va_W → Prop := fun u => TW ksC ad cy B qr s1 u ∧ FE ksC ([] : List (Nat × Nat × Nat)) w0 u ∧ Ev (fun n => m_X7_readClause n 29 1 1 (sI w0)) (0, sI u) ∧ (((∃ y : Int32, gi u 1 4 = y ∧ 1 ≤ y.toInt ∧ y.toInt ≤ 3205) ∧ (∃ y : Int32, gi u 29 9 = y ∧ 12 ≤ y.toInt ∧ y.toInt ≤ 12)))
set_option maxHeartbeats 4000000 in
set_option maxRecDepth 100000 in
theorem kz_X7_readClause_6 (l : Launch) (adK adV : Nat → Nat) (dC : Nat → ClassId) (dI : Nat → Nat → Nat) (cy : Nat → ClassId) (ad : Nat → Nat) (B : Int) (hB0 : 2147483648 ≤ B) (hB1 : B ≤ 1152921504606846976) (qr : Nat) (s1 : Int)   (w0 : va_W) (sz : Nat) (hT : TW ksC ad cy B qr s1 w0) (f0_ : Int32) (cf0_ : gi w0 1 4 = f0_) (rf0_ : 1 ≤ f0_.toInt) (tf0_ : f0_.toInt ≤ 3205) (cf1_ : gi w0 29 9 = 12) : Met l yX7_readClause (wu yX7_readClause cX7_readClause 3 none) ({ frames := 2, cells := 0, slots := 0, locals := 32 }) (va_Pc [.ref (ad 29), .ref (ad 1), .int 1] (wpreS adK adV dC dI cy sz w0)) (va_Qv (Pz_X7_readClause_6 ad cy B qr s1  w0) (fun u : va_W => wpost dC dI cy (va_A w0 sz) u) (va_A w0 sz)) 0 0 (va_A w0 sz) := by
  refine Met.ofW (cc := cX7_readClause) (maxL := 3) (ret := none) (by decide) rfl ?_
  intro p e s m args below meth c s₁ Bk hml hv
  obtain ⟨rfl, ⟨hsz, hP, hK, hD0⟩, hE, hSR⟩ := hv
  have hx := Bk.exec
  have hb := Bk.bytes
  have hr := Bk.returns
  have hlocks := Bk.notSynchronized
  have hC : CallFix p m c cX7_readClause 3 s _ (wu yX7_readClause cX7_readClause 3 none) RX7 := ⟨hx, hb, hml, findClass_of_methodNamed Bk.named, atoms_spec (ws := (wu yX7_readClause cX7_readClause 3 none)) Bk.pre⟩
  subst hsz
  have hD := hD0.self (sz := s.heap.size)
  generalize hAe : va_A w0 s.heap.size = A at hD hE ⊢
  have hA : ∀ q : Nat, s.heap.size ≤ q → A q := fun q h => by rw [← hAe]; exact Or.inr h
  have hw : Wd dC dI A s.heap s.heap [] w0 := ⟨hP, hD, va_S.rf⟩
  have hF : FE ksC ([] : List (Nat × Nat × Nat)) w0 w0 := FE.rf
  have hl := lv_entry ([.ref (ad 29), .ref (ad 1), .int 1]) (n := 3) (Nat.le_of_ble_eq_true rfl)
  rw [lg_entry_eq]
  generalize (lg_sl ([.ref (ad 29), .ref (ad 1), .int 1]) ++ List.replicate (3 - (lg_sl ([.ref (ad 29), .ref (ad 1), .int 1])).length) Slot.unset).toArray = ls at hl ⊢
  have hl : lv_has ls 3 [(0, .ref (ad 29)), (1, .ref (ad 1)), (2, .int 1)] := hl
  generalize hloc : ([] : List Loc) = locs at hw ⊢
  have hM : TT (fun n => m_X7_readClause n 29 1 1 (sI w0)) (fun n => m_X7_readClause n 29 1 1 (sI w0)) := TT.rf
  refine lv_aload_n hx hb dX7_readClause_0 rfl (lv_at hl 1 rfl) ?_
  refine tk_Vi hC hK hw hT hA hE hSR kC_at1 (by decide) rfl (kz_X6_isFaulty_3 l adK adV dC dI cy ad B (by omega) (by omega) qr s1    w0 s.heap.size hT f0_ cf0_ (show 1 ≤ f0_.toInt from rf0_) (show f0_.toInt ≤ 3205 from tf0_)) (cwV 0 hC.2.2.2.2 uV_RX7_89 rfl rfl rfl (by decide +kernel) ⟨Nat.le_of_ble_eq_true rfl, Nat.le_of_ble_eq_true rfl⟩) rfl hl.1 rfl (Nat.le_of_ble_eq_true rfl) dX7_readClause_1 (fun r1 w3 H locs hp2 hw => ?_)
  obtain ⟨hT, k4, hv8, hg7⟩ := hp2
  have hF := hF.tr k4 (by decide)
  have c9 := k4.gi kC_at1 (by decide) cf0_
  have c10 := k4.gi kC_at29 (by decide) cf1_
  obtain ⟨rfl, ⟨x5, c6, rx5, tx5⟩⟩ := hg7
  replace hM := hM.call (r' := 1) hv8 (by decide)
  have ex5 : x5.toInt = f0_.toInt := by rw [← c9.symm.trans c6]
  refine lv_if_eq (tgt := 8) hx hb dX7_readClause_4 (by decide) (fun c => absurd c (by decide)) (fun _ => ?_)
  replace hM := hM.neg (by decide)
  exact tk_vret hC hr hlocks hK ⟨hT, hF, hM.ret rfl, ⟨⟨f0_, c9, (show 1 ≤ f0_.toInt from rf0_), (show f0_.toInt ≤ 3205 from tf0_)⟩, ⟨12, c10, (by decide), (by decide)⟩⟩⟩ hw dX7_readClause_7
abbrev Pz_X7_readClause_7 (ad : Nat → Nat) (cy : Nat → ClassId) (B : Int) (qr : Nat) (s1 : Int)  (w0 : va_W) : va_W → Prop := fun u => TW ksC ad cy B qr s1 u ∧ FE ksC ([] : List (Nat × Nat × Nat)) w0 u ∧ Ev (fun n => m_X7_readClause n 29 1 2 (sI w0)) (0, sI u) ∧ (((∃ y : Int32, gi u 1 4 = y ∧ 1 ≤ y.toInt ∧ y.toInt ≤ 3205) ∧ (∃ y : Int32, gi u 29 10 = y ∧ 8 ≤ y.toInt ∧ y.toInt ≤ 8)))
set_option maxHeartbeats 4000000 in
set_option maxRecDepth 100000 in
theorem kz_X7_readClause_7 (l : Launch) (adK adV : Nat → Nat) (dC : Nat → ClassId) (dI : Nat → Nat → Nat) (cy : Nat → ClassId) (ad : Nat → Nat) (B : Int) (hB0 : 2147483648 ≤ B) (hB1 : B ≤ 1152921504606846976) (qr : Nat) (s1 : Int)   (w0 : va_W) (sz : Nat) (hT : TW ksC ad cy B qr s1 w0) (f0_ : Int32) (cf0_ : gi w0 1 4 = f0_) (rf0_ : 1 ≤ f0_.toInt) (tf0_ : f0_.toInt ≤ 3205) (cf1_ : gi w0 29 10 = 8) : Met l yX7_readClause (wu yX7_readClause cX7_readClause 3 none) ({ frames := 2, cells := 0, slots := 0, locals := 32 }) (va_Pc [.ref (ad 29), .ref (ad 1), .int 2] (wpreS adK adV dC dI cy sz w0)) (va_Qv (Pz_X7_readClause_7 ad cy B qr s1  w0) (fun u : va_W => wpost dC dI cy (va_A w0 sz) u) (va_A w0 sz)) 0 0 (va_A w0 sz) := by
  refine Met.ofW (cc := cX7_readClause) (maxL := 3) (ret := none) (by decide) rfl ?_
  intro p e s m args below meth c s₁ Bk hml hv
  obtain ⟨rfl, ⟨hsz, hP, hK, hD0⟩, hE, hSR⟩ := hv
  have hx := Bk.exec
  have hb := Bk.bytes
  have hr := Bk.returns
  have hlocks := Bk.notSynchronized
  have hC : CallFix p m c cX7_readClause 3 s _ (wu yX7_readClause cX7_readClause 3 none) RX7 := ⟨hx, hb, hml, findClass_of_methodNamed Bk.named, atoms_spec (ws := (wu yX7_readClause cX7_readClause 3 none)) Bk.pre⟩
  subst hsz
  have hD := hD0.self (sz := s.heap.size)
  generalize hAe : va_A w0 s.heap.size = A at hD hE ⊢
  have hA : ∀ q : Nat, s.heap.size ≤ q → A q := fun q h => by rw [← hAe]; exact Or.inr h
  have hw : Wd dC dI A s.heap s.heap [] w0 := ⟨hP, hD, va_S.rf⟩
  have hF : FE ksC ([] : List (Nat × Nat × Nat)) w0 w0 := FE.rf
  have hl := lv_entry ([.ref (ad 29), .ref (ad 1), .int 2]) (n := 3) (Nat.le_of_ble_eq_true rfl)
  rw [lg_entry_eq]
  generalize (lg_sl ([.ref (ad 29), .ref (ad 1), .int 2]) ++ List.replicate (3 - (lg_sl ([.ref (ad 29), .ref (ad 1), .int 2])).length) Slot.unset).toArray = ls at hl ⊢
  have hl : lv_has ls 3 [(0, .ref (ad 29)), (1, .ref (ad 1)), (2, .int 2)] := hl
  generalize hloc : ([] : List Loc) = locs at hw ⊢
  have hM : TT (fun n => m_X7_readClause n 29 1 2 (sI w0)) (fun n => m_X7_readClause n 29 1 2 (sI w0)) := TT.rf
  refine lv_aload_n hx hb dX7_readClause_0 rfl (lv_at hl 1 rfl) ?_
  refine tk_Vi hC hK hw hT hA hE hSR kC_at1 (by decide) rfl (kz_X6_isFaulty_3 l adK adV dC dI cy ad B (by omega) (by omega) qr s1    w0 s.heap.size hT f0_ cf0_ (show 1 ≤ f0_.toInt from rf0_) (show f0_.toInt ≤ 3205 from tf0_)) (cwV 0 hC.2.2.2.2 uV_RX7_89 rfl rfl rfl (by decide +kernel) ⟨Nat.le_of_ble_eq_true rfl, Nat.le_of_ble_eq_true rfl⟩) rfl hl.1 rfl (Nat.le_of_ble_eq_true rfl) dX7_readClause_1 (fun r1 w3 H locs hp2 hw => ?_)
  obtain ⟨hT, k4, hv8, hg7⟩ := hp2
  have hF := hF.tr k4 (by decide)
  have c9 := k4.gi kC_at1 (by decide) cf0_
  have c10 := k4.gi kC_at29 (by decide) cf1_
  obtain ⟨rfl, ⟨x5, c6, rx5, tx5⟩⟩ := hg7
  replace hM := hM.call (r' := 1) hv8 (by decide)
  have ex5 : x5.toInt = f0_.toInt := by rw [← c9.symm.trans c6]
  refine lv_if_eq (tgt := 8) hx hb dX7_readClause_4 (by decide) (fun c => absurd c (by decide)) (fun _ => ?_)
  replace hM := hM.neg (by decide)
  exact tk_vret hC hr hlocks hK ⟨hT, hF, hM.ret rfl, ⟨⟨f0_, c9, (show 1 ≤ f0_.toInt from rf0_), (show f0_.toInt ≤ 3205 from tf0_)⟩, ⟨8, c10, (by decide), (by decide)⟩⟩⟩ hw dX7_readClause_7
abbrev Pz_X7_readClause_8 (ad : Nat → Nat) (cy : Nat → ClassId) (B : Int) (qr : Nat) (s1 : Int) (a2 : Int32) (w0 : va_W) : va_W → Prop := fun u => TW ksC ad cy B qr s1 u ∧ FE ksC ([] : List (Nat × Nat × Nat)) w0 u ∧ Ev (fun n => m_X7_readClause n 29 1 a2.toInt (sI w0)) (0, sI u) ∧ (((∃ y : Int32, gi u 1 4 = y ∧ 1 ≤ y.toInt ∧ y.toInt ≤ 3205) ∧ (∃ y : Int32, gi u 29 11 = y ∧ 4 ≤ y.toInt ∧ y.toInt ≤ 4)))
set_option maxHeartbeats 4000000 in
set_option maxRecDepth 100000 in
theorem kz_X7_readClause_8 (l : Launch) (adK adV : Nat → Nat) (dC : Nat → ClassId) (dI : Nat → Nat → Nat) (cy : Nat → ClassId) (ad : Nat → Nat) (B : Int) (hB0 : 2147483648 ≤ B) (hB1 : B ≤ 1152921504606846976) (qr : Nat) (s1 : Int)  (a2 : Int32) (ra2 : 3 ≤ a2.toInt) (ta2 : a2.toInt ≤ 26) (w0 : va_W) (sz : Nat) (hT : TW ksC ad cy B qr s1 w0) (f0_ : Int32) (cf0_ : gi w0 1 4 = f0_) (rf0_ : 1 ≤ f0_.toInt) (tf0_ : f0_.toInt ≤ 3205) (cf1_ : gi w0 29 11 = 4) : Met l yX7_readClause (wu yX7_readClause cX7_readClause 3 none) ({ frames := 2, cells := 0, slots := 0, locals := 32 }) (va_Pc [.ref (ad 29), .ref (ad 1), .int a2] (wpreS adK adV dC dI cy sz w0)) (va_Qv (Pz_X7_readClause_8 ad cy B qr s1 a2 w0) (fun u : va_W => wpost dC dI cy (va_A w0 sz) u) (va_A w0 sz)) 0 0 (va_A w0 sz) := by
  refine Met.ofW (cc := cX7_readClause) (maxL := 3) (ret := none) (by decide) rfl ?_
  intro p e s m args below meth c s₁ Bk hml hv
  obtain ⟨rfl, ⟨hsz, hP, hK, hD0⟩, hE, hSR⟩ := hv
  have hx := Bk.exec
  have hb := Bk.bytes
  have hr := Bk.returns
  have hlocks := Bk.notSynchronized
  have hC : CallFix p m c cX7_readClause 3 s _ (wu yX7_readClause cX7_readClause 3 none) RX7 := ⟨hx, hb, hml, findClass_of_methodNamed Bk.named, atoms_spec (ws := (wu yX7_readClause cX7_readClause 3 none)) Bk.pre⟩
  subst hsz
  have hD := hD0.self (sz := s.heap.size)
  generalize hAe : va_A w0 s.heap.size = A at hD hE ⊢
  have hA : ∀ q : Nat, s.heap.size ≤ q → A q := fun q h => by rw [← hAe]; exact Or.inr h
  have hw : Wd dC dI A s.heap s.heap [] w0 := ⟨hP, hD, va_S.rf⟩
  have hF : FE ksC ([] : List (Nat × Nat × Nat)) w0 w0 := FE.rf
  have hl := lv_entry ([.ref (ad 29), .ref (ad 1), .int a2]) (n := 3) (Nat.le_of_ble_eq_true rfl)
  rw [lg_entry_eq]
  generalize (lg_sl ([.ref (ad 29), .ref (ad 1), .int a2]) ++ List.replicate (3 - (lg_sl ([.ref (ad 29), .ref (ad 1), .int a2])).length) Slot.unset).toArray = ls at hl ⊢
  have hl : lv_has ls 3 [(0, .ref (ad 29)), (1, .ref (ad 1)), (2, .int a2)] := hl
  generalize hloc : ([] : List Loc) = locs at hw ⊢
  have hM : TT (fun n => m_X7_readClause n 29 1 a2.toInt (sI w0)) (fun n => m_X7_readClause n 29 1 a2.toInt (sI w0)) := TT.rf
  refine lv_aload_n hx hb dX7_readClause_0 rfl (lv_at hl 1 rfl) ?_
  refine tk_Vi hC hK hw hT hA hE hSR kC_at1 (by decide) rfl (kz_X6_isFaulty_3 l adK adV dC dI cy ad B (by omega) (by omega) qr s1    w0 s.heap.size hT f0_ cf0_ (show 1 ≤ f0_.toInt from rf0_) (show f0_.toInt ≤ 3205 from tf0_)) (cwV 0 hC.2.2.2.2 uV_RX7_89 rfl rfl rfl (by decide +kernel) ⟨Nat.le_of_ble_eq_true rfl, Nat.le_of_ble_eq_true rfl⟩) rfl hl.1 rfl (Nat.le_of_ble_eq_true rfl) dX7_readClause_1 (fun r1 w3 H locs hp2 hw => ?_)
  obtain ⟨hT, k4, hv8, hg7⟩ := hp2
  have hF := hF.tr k4 (by decide)
  have c9 := k4.gi kC_at1 (by decide) cf0_
  have c10 := k4.gi kC_at29 (by decide) cf1_
  obtain ⟨rfl, ⟨x5, c6, rx5, tx5⟩⟩ := hg7
  replace hM := hM.call (r' := 1) hv8 (by decide)
  have ex5 : x5.toInt = f0_.toInt := by rw [← c9.symm.trans c6]
  refine lv_if_eq (tgt := 8) hx hb dX7_readClause_4 (by decide) (fun c => absurd c (by decide)) (fun _ => ?_)
  replace hM := hM.neg (by decide)
  exact tk_vret hC hr hlocks hK ⟨hT, hF, hM.ret rfl, ⟨⟨f0_, c9, (show 1 ≤ f0_.toInt from rf0_), (show f0_.toInt ≤ 3205 from tf0_)⟩, ⟨4, c10, (by decide), (by decide)⟩⟩⟩ hw dX7_readClause_7
abbrev Pz_X7_readClause_9 (ad : Nat → Nat) (cy : Nat → ClassId) (B : Int) (qr : Nat) (s1 : Int)  (w0 : va_W) : va_W → Prop := fun u => TW ksC ad cy B qr s1 u ∧ FE ksC ([] : List (Nat × Nat × Nat)) w0 u ∧ Ev (fun n => m_X7_readClause n 29 1 (-1) (sI w0)) (0, sI u) ∧ (((∃ y : Int32, gi u 1 4 = y ∧ 1 ≤ y.toInt ∧ y.toInt ≤ 3205)))
set_option maxHeartbeats 4000000 in
set_option maxRecDepth 100000 in
theorem kz_X7_readClause_9 (l : Launch) (adK adV : Nat → Nat) (dC : Nat → ClassId) (dI : Nat → Nat → Nat) (cy : Nat → ClassId) (ad : Nat → Nat) (B : Int) (hB0 : 2147483648 ≤ B) (hB1 : B ≤ 1152921504606846976) (qr : Nat) (s1 : Int)   (w0 : va_W) (sz : Nat) (hT : TW ksC ad cy B qr s1 w0) (f0_ : Int32) (cf0_ : gi w0 1 4 = f0_) (rf0_ : 1 ≤ f0_.toInt) (tf0_ : f0_.toInt ≤ 3205) : Met l yX7_readClause (wu yX7_readClause cX7_readClause 3 none) ({ frames := 2, cells := 0, slots := 0, locals := 32 }) (va_Pc [.ref (ad 29), .ref (ad 1), .int (-1)] (wpreS adK adV dC dI cy sz w0)) (va_Qv (Pz_X7_readClause_9 ad cy B qr s1  w0) (fun u : va_W => wpost dC dI cy (va_A w0 sz) u) (va_A w0 sz)) 0 0 (va_A w0 sz) := by
  refine Met.ofW (cc := cX7_readClause) (maxL := 3) (ret := none) (by decide) rfl ?_
  intro p e s m args below meth c s₁ Bk hml hv
  obtain ⟨rfl, ⟨hsz, hP, hK, hD0⟩, hE, hSR⟩ := hv
  have hx := Bk.exec
  have hb := Bk.bytes
  have hr := Bk.returns
  have hlocks := Bk.notSynchronized
  have hC : CallFix p m c cX7_readClause 3 s _ (wu yX7_readClause cX7_readClause 3 none) RX7 := ⟨hx, hb, hml, findClass_of_methodNamed Bk.named, atoms_spec (ws := (wu yX7_readClause cX7_readClause 3 none)) Bk.pre⟩
  subst hsz
  have hD := hD0.self (sz := s.heap.size)
  generalize hAe : va_A w0 s.heap.size = A at hD hE ⊢
  have hA : ∀ q : Nat, s.heap.size ≤ q → A q := fun q h => by rw [← hAe]; exact Or.inr h
  have hw : Wd dC dI A s.heap s.heap [] w0 := ⟨hP, hD, va_S.rf⟩
  have hF : FE ksC ([] : List (Nat × Nat × Nat)) w0 w0 := FE.rf
  have hl := lv_entry ([.ref (ad 29), .ref (ad 1), .int (-1)]) (n := 3) (Nat.le_of_ble_eq_true rfl)
  rw [lg_entry_eq]
  generalize (lg_sl ([.ref (ad 29), .ref (ad 1), .int (-1)]) ++ List.replicate (3 - (lg_sl ([.ref (ad 29), .ref (ad 1), .int (-1)])).length) Slot.unset).toArray = ls at hl ⊢
  have hl : lv_has ls 3 [(0, .ref (ad 29)), (1, .ref (ad 1)), (2, .int (-1))] := hl
  generalize hloc : ([] : List Loc) = locs at hw ⊢
  have hM : TT (fun n => m_X7_readClause n 29 1 (-1) (sI w0)) (fun n => m_X7_readClause n 29 1 (-1) (sI w0)) := TT.rf
  refine lv_aload_n hx hb dX7_readClause_0 rfl (lv_at hl 1 rfl) ?_
  refine tk_Vi hC hK hw hT hA hE hSR kC_at1 (by decide) rfl (kz_X6_isFaulty_3 l adK adV dC dI cy ad B (by omega) (by omega) qr s1    w0 s.heap.size hT f0_ cf0_ (show 1 ≤ f0_.toInt from rf0_) (show f0_.toInt ≤ 3205 from tf0_)) (cwV 0 hC.2.2.2.2 uV_RX7_89 rfl rfl rfl (by decide +kernel) ⟨Nat.le_of_ble_eq_true rfl, Nat.le_of_ble_eq_true rfl⟩) rfl hl.1 rfl (Nat.le_of_ble_eq_true rfl) dX7_readClause_1 (fun r1 w3 H locs hp2 hw => ?_)
  obtain ⟨hT, k4, hv8, hg7⟩ := hp2
  have hF := hF.tr k4 (by decide)
  have c9 := k4.gi kC_at1 (by decide) cf0_
  obtain ⟨rfl, ⟨x5, c6, rx5, tx5⟩⟩ := hg7
  replace hM := hM.call (r' := 1) hv8 (by decide)
  have ex5 : x5.toInt = f0_.toInt := by rw [← c9.symm.trans c6]
  refine lv_if_eq (tgt := 8) hx hb dX7_readClause_4 (by decide) (fun c => absurd c (by decide)) (fun _ => ?_)
  replace hM := hM.neg (by decide)
  exact tk_vret hC hr hlocks hK ⟨hT, hF, hM.ret rfl, ⟨f0_, c9, (show 1 ≤ f0_.toInt from rf0_), (show f0_.toInt ≤ 3205 from tf0_)⟩⟩ hw dX7_readClause_7
abbrev Pz_X6_startReading_1 (ad : Nat → Nat) (cy : Nat → ClassId) (B : Int) (qr : Nat) (s1 : Int)  (w0 : va_W) : va_W → Prop := fun u => TW ksC ad cy B qr s1 u ∧ FE ksC [(6, 1, 1), (6, 3, 3), (6, 4, 4)] w0 u ∧ Ev (fun n => m_X6_startReading n 1 (sI w0)) (0, sI u) ∧ (((∃ y : Int32, gi u 1 1 = y ∧ 0 ≤ y.toInt ∧ y.toInt ≤ 0) ∧ (∃ y : Int32, gi u 1 3 = y ∧ 0 ≤ y.toInt ∧ y.toInt ≤ 0) ∧ (∃ y : Int32, gi u 1 4 = y ∧ 0 ≤ y.toInt ∧ y.toInt ≤ 0)))
set_option maxHeartbeats 4000000 in
set_option maxRecDepth 100000 in
theorem kz_X6_startReading_1 (l : Launch) (adK adV : Nat → Nat) (dC : Nat → ClassId) (dI : Nat → Nat → Nat) (cy : Nat → ClassId) (ad : Nat → Nat) (B : Int) (hB0 : 2147483648 ≤ B) (hB1 : B ≤ 1152921504606846976) (qr : Nat) (s1 : Int)   (w0 : va_W) (sz : Nat) (hT : TW ksC ad cy B qr s1 w0)  : Met l yX6_startReading (wu yX6_startReading cX6_startReading 1 none) ({ frames := 1, cells := 0, slots := 0, locals := 12 }) (va_Pc [.ref (ad 1)] (wpreS adK adV dC dI cy sz w0)) (va_Qv (Pz_X6_startReading_1 ad cy B qr s1  w0) (fun u : va_W => wpost dC dI cy (va_A w0 sz) u) (va_A w0 sz)) 0 0 (va_A w0 sz) := by
  refine Met.ofW (cc := cX6_startReading) (maxL := 1) (ret := none) (by decide) rfl ?_
  intro p e s m args below meth c s₁ Bk hml hv
  obtain ⟨rfl, ⟨hsz, hP, hK, hD0⟩, hE, hSR⟩ := hv
  have hx := Bk.exec
  have hb := Bk.bytes
  have hr := Bk.returns
  have hlocks := Bk.notSynchronized
  have hC : CallFix p m c cX6_startReading 1 s _ (wu yX6_startReading cX6_startReading 1 none) RX6 := ⟨hx, hb, hml, findClass_of_methodNamed Bk.named, atoms_spec (ws := (wu yX6_startReading cX6_startReading 1 none)) Bk.pre⟩
  subst hsz
  have hD := hD0.self (sz := s.heap.size)
  generalize hAe : va_A w0 s.heap.size = A at hD hE ⊢
  have hA : ∀ q : Nat, s.heap.size ≤ q → A q := fun q h => by rw [← hAe]; exact Or.inr h
  have hw : Wd dC dI A s.heap s.heap [] w0 := ⟨hP, hD, va_S.rf⟩
  have hF : FE ksC [(6, 1, 1), (6, 3, 3), (6, 4, 4)] w0 w0 := FE.rf
  have hl := lv_entry ([.ref (ad 1)]) (n := 1) (Nat.le_of_ble_eq_true rfl)
  rw [lg_entry_eq]
  generalize (lg_sl ([.ref (ad 1)]) ++ List.replicate (1 - (lg_sl ([.ref (ad 1)])).length) Slot.unset).toArray = ls at hl ⊢
  have hl : lv_has ls 1 [(0, .ref (ad 1))] := hl
  generalize hloc : ([] : List Loc) = locs at hw ⊢
  have hinX6 : ∀ w ∈ u_ws RX6 TX6 5, w ∈ (wu yX6_startReading cX6_startReading 1 none) := fun _ h => List.mem_cons_of_mem _ (up_72 h)
  have hM : TT (fun n => m_X6_startReading n 1 (sI w0)) (fun n => m_X6_startReading n 1 (sI w0)) := TT.rf
  refine lv_aload_n hx hb dX6_startReading_0 rfl (lv_at hl 0 rfl) ?_
  refine lv_iconst (v := 0) hx hb dX6_startReading_1 (by decide) ?_
  refine tk_puti hC hK hw hT hinX6 tyX6_ok nmX6 kC_at1 (by decide) rfl rfl 1 (by decide) (List.mem_cons_of_mem _ uw_9_16) rfl rfl rfl rfl (by decide) (by decide) dX6_startReading_2 (fun H locs w1 hw hT k3 c2 => ?_)
  replace hM := hM.wr (sI_upc k3 c2 (by decide))
  have hF := hF.put kC_at1 (k := 1) (by decide) k3
  refine lv_aload_n hx hb dX6_startReading_5 rfl (lv_at hl 0 rfl) ?_
  refine lv_iconst (v := 0) hx hb dX6_startReading_6 (by decide) ?_
  refine tk_puti hC hK hw hT hinX6 tyX6_ok nmX6 kC_at1 (by decide) rfl rfl 3 (by decide) (List.mem_cons_of_mem _ uw_9_17) rfl rfl rfl rfl (by decide) (by decide) dX6_startReading_7 (fun H locs w4 hw hT k6 c5 => ?_)
  replace hM := hM.wr (sI_upc k6 c5 (by decide))
  have hF := hF.put kC_at1 (k := 3) (by decide) k6
  have c7 := k6.gi (Or.inr (by decide)) c2
  refine lv_aload_n hx hb dX6_startReading_10 rfl (lv_at hl 0 rfl) ?_
  refine lv_iconst (v := 0) hx hb dX6_startReading_11 (by decide) ?_
  refine tk_puti hC hK hw hT hinX6 tyX6_ok nmX6 kC_at1 (by decide) rfl rfl 4 (by decide) (List.mem_cons_of_mem _ uw_9_18) rfl rfl rfl rfl (by decide) (by decide) dX6_startReading_12 (fun H locs w8 hw hT k10 c9 => ?_)
  replace hM := hM.wr (sI_upc k10 c9 (by decide))
  have hF := hF.put kC_at1 (k := 4) (by decide) k10
  have c11 := k10.gi (Or.inr (by decide)) c7
  have c12 := k10.gi (Or.inr (by decide)) c5
  exact tk_vret hC hr hlocks hK ⟨hT, hF, hM.ret rfl, ⟨⟨0, c11, (by decide), (by decide)⟩, ⟨0, c12, (by decide), (by decide)⟩, ⟨0, c9, (by decide), (by decide)⟩⟩⟩ hw dX6_startReading_15
abbrev Pz_X7_readFrom_1 (ad : Nat → Nat) (cy : Nat → ClassId) (B : Int) (qr : Nat) (s1 : Int)  (w0 : va_W) : va_W → Prop := fun u => TW ksC ad cy B qr s1 u ∧ FE ksC [(6, 1, 1), (6, 3, 3), (6, 4, 4), (7, 8, 8), (7, 9, 9), (7, 10, 10), (7, 11, 11), (24, 0, 26), (25, 0, 13), (26, 0, 91), (27, 0, 13), (28, 0, 26), (29, 0, 8), (30, 0, 8), (31, 0, 13)] w0 u ∧ Ev (fun n => m_X7_readFrom n 29 1 (sI w0)) (0, sI u) ∧ (((∃ y : Int32, gi u 1 4 = y ∧ 0 ≤ y.toInt ∧ y.toInt ≤ 3205) ∧ (∃ y : Int32, gi u 29 9 = y ∧ 0 ≤ y.toInt ∧ y.toInt ≤ 12) ∧ (∃ y : Int32, gi u 29 10 = y ∧ 0 ≤ y.toInt ∧ y.toInt ≤ 8) ∧ (∃ y : Int32, gi u 29 11 = y ∧ 0 ≤ y.toInt ∧ y.toInt ≤ 4)))
set_option maxHeartbeats 4000000 in
set_option maxRecDepth 100000 in
theorem kz_X7_readFrom_1 (l : Launch) (adK adV : Nat → Nat) (dC : Nat → ClassId) (dI : Nat → Nat → Nat) (cy : Nat → ClassId) (ad : Nat → Nat) (B : Int) (hB0 : 2147483648 ≤ B) (hB1 : B ≤ 1152921504606846976) (qr : Nat) (s1 : Int)   (w0 : va_W) (sz : Nat) (hT : TW ksC ad cy B qr s1 w0)  : Met l yX7_readFrom (wu yX7_readFrom cX7_readFrom 5 none) ({ frames := 8, cells := 0, slots := 0, locals := 231 }) (va_Pc [.ref (ad 29), .ref (ad 1)] (wpreS adK adV dC dI cy sz w0)) (va_Qv (Pz_X7_readFrom_1 ad cy B qr s1  w0) (fun u : va_W => wpost dC dI cy (va_A w0 sz) u) (va_A w0 sz)) 0 0 (va_A w0 sz) := by
  refine Met.ofW (cc := cX7_readFrom) (maxL := 5) (ret := none) (by decide) rfl ?_
  intro p e s m args below meth c s₁ Bk hml hv
  obtain ⟨rfl, ⟨hsz, hP, hK, hD0⟩, hE, hSR⟩ := hv
  have hx := Bk.exec
  have hb := Bk.bytes
  have hr := Bk.returns
  have hlocks := Bk.notSynchronized
  have hC : CallFix p m c cX7_readFrom 5 s _ (wu yX7_readFrom cX7_readFrom 5 none) RX7 := ⟨hx, hb, hml, findClass_of_methodNamed Bk.named, atoms_spec (ws := (wu yX7_readFrom cX7_readFrom 5 none)) Bk.pre⟩
  subst hsz
  have hD := hD0.self (sz := s.heap.size)
  generalize hAe : va_A w0 s.heap.size = A at hD hE ⊢
  have hA : ∀ q : Nat, s.heap.size ≤ q → A q := fun q h => by rw [← hAe]; exact Or.inr h
  have hw : Wd dC dI A s.heap s.heap [] w0 := ⟨hP, hD, va_S.rf⟩
  have hF : FE ksC [(6, 1, 1), (6, 3, 3), (6, 4, 4), (7, 8, 8), (7, 9, 9), (7, 10, 10), (7, 11, 11), (24, 0, 26), (25, 0, 13), (26, 0, 91), (27, 0, 13), (28, 0, 26), (29, 0, 8), (30, 0, 8), (31, 0, 13)] w0 w0 := FE.rf
  have hl := lv_entry ([.ref (ad 29), .ref (ad 1)]) (n := 5) (Nat.le_of_ble_eq_true rfl)
  rw [lg_entry_eq]
  generalize (lg_sl ([.ref (ad 29), .ref (ad 1)]) ++ List.replicate (5 - (lg_sl ([.ref (ad 29), .ref (ad 1)])).length) Slot.unset).toArray = ls at hl ⊢
  have hl : lv_has ls 5 [(0, .ref (ad 29)), (1, .ref (ad 1))] := hl
  generalize hloc : ([] : List Loc) = locs at hw ⊢
  have hinX7 : ∀ w ∈ u_ws RX7 TX7 12, w ∈ (wu yX7_readFrom cX7_readFrom 5 none) := fun _ h => List.mem_cons_of_mem _ (up_73 h)
  have hinX6 : ∀ w ∈ u_ws RX6 TX6 5, w ∈ (wu yX7_readFrom cX7_readFrom 5 none) := fun _ h => List.mem_cons_of_mem _ (up_72 h)
  have L91 : ∀ (n91 : Nat) (v91_2 : Int32) (v91_3 : Int32) (f91_1_4 : Int32) (f91_29_10 : Int32) (f91_29_11 : Int32) (f91_29_9 : Int32) (H : Heap) (locs : List Loc) (ls : Array Slot) (w1 : va_W), 0 ≤ v91_2.toInt → v91_2.toInt ≤ 1 → 0 ≤ v91_3.toInt → v91_3.toInt ≤ 12 → 0 ≤ f91_1_4.toInt → f91_1_4.toInt ≤ 3205 → 0 ≤ f91_29_10.toInt → f91_29_10.toInt ≤ 8 → 0 ≤ f91_29_11.toInt → f91_29_11.toInt ≤ 4 → 0 ≤ f91_29_9.toInt → f91_29_9.toInt ≤ 12 → (12 - v91_3.toInt).toNat < n91 → Wd dC dI A s.heap H locs w1 → TW ksC ad cy B qr s1 w1 → FE ksC [(6, 1, 1), (6, 3, 3), (6, 4, 4), (7, 8, 8), (7, 9, 9), (7, 10, 10), (7, 11, 11), (24, 0, 26), (25, 0, 13), (26, 0, 91), (27, 0, 13), (28, 0, 26), (29, 0, 8), (30, 0, 8), (31, 0, 13)] w0 w1 → gi w1 1 4 = f91_1_4 → gi w1 29 10 = f91_29_10 → gi w1 29 11 = f91_29_11 → gi w1 29 9 = f91_29_9 → TT (fun n => m_X7_readFrom n 29 1 (sI w0)) (fun n => j_X7_readFrom 29 1 n 91 [v91_3.toInt] (sI w1)) → lv_has ls 5 [(0, .ref (ad 29)), (1, .ref (ad 1)), (2, .int v91_2), (3, .int v91_3)] → W p l e ({ frames := 8, cells := 0, slots := 0, locals := 231 }) s m (List.toArray [.ref (ad 29), .ref (ad 1)]) below meth c H locs 0 0 (MQ below (va_Qv (Pz_X7_readFrom_1 ad cy B qr s1  w0) (fun u : va_W => wpost dC dI cy A u) A) (List.toArray [.ref (ad 29), .ref (ad 1)]) s 0 0 A) (F0 m 91 ls []) := by
    intro n91
    induction n91 with
    | zero => intro v91_2 v91_3 f91_1_4 f91_29_10 f91_29_11 f91_29_9 H locs ls w1 r2 t3 r4 t5 r6 t7 r9 t10 r12 t13 r15 t16 hm91 hw hT hF c8 c11 c14 c17 hM hl; omega
    | succ n91 ih91 =>
      intro v91_2 v91_3 f91_1_4 f91_29_10 f91_29_11 f91_29_9 H locs ls w1 r2 t3 r4 t5 r6 t7 r9 t10 r12 t13 r15 t16 hm91 hw hT hF c8 c11 c14 c17 hM hl
      replace hM := hM.suc (fun _ => e_X7_readFrom_91)
      refine lv_iload_n hx hb dX7_readFrom_91 rfl (lv_at hl 3 rfl) ?_
      refine lv_aload_n hx hb dX7_readFrom_92 rfl (lv_at hl 0 rfl) ?_
      refine tk_geti hC hK hw hT hinX7 kC_at29 (by decide) rfl 9 (by decide) (List.mem_cons_of_mem _ uw_9_8) rfl rfl dX7_readFrom_93 (fun x18 c19 rx18 tx18 => ?_)
      refine wk_top f91_29_9 (c19.symm.trans c17) ?_
      replace hM := hM.rd (sI_at c17)
      refine lv_icmp_ge (tgt := 110) hx hb dX7_readFrom_96 (by decide) (fun c20 => ?_) (fun c20 => ?_)
      · have c20 : f91_29_9.toInt ≤ v91_3.toInt := wk_le.mp c20
        replace hM := hM.pos c20
        exact tk_vret hC hr hlocks hK ⟨hT, hF, hM.ret rfl, ⟨⟨f91_1_4, c8, (show 0 ≤ f91_1_4.toInt from r6), (show f91_1_4.toInt ≤ 3205 from t7)⟩, ⟨f91_29_9, c17, (show 0 ≤ f91_29_9.toInt from r15), (show f91_29_9.toInt ≤ 12 from t16)⟩, ⟨f91_29_10, c11, (show 0 ≤ f91_29_10.toInt from r9), (show f91_29_10.toInt ≤ 8 from t10)⟩, ⟨f91_29_11, c14, (show 0 ≤ f91_29_11.toInt from r12), (show f91_29_11.toInt ≤ 4 from t13)⟩⟩⟩ hw dX7_readFrom_110
      · have c20 : v91_3.toInt < f91_29_9.toInt := wk_leF c20
        replace hM := hM.neg (Int.not_le.mpr c20)
        refine lv_aload_n hx hb dX7_readFrom_99 rfl (lv_at hl 0 rfl) ?_
        refine lv_iload_n hx hb dX7_readFrom_100 rfl (lv_at hl 3 rfl) ?_
        refine tk_Vv hC hK hw hT hA hE hSR kC_at29 (by decide) rfl (kz_X7_findSaints_1 l adK adV dC dI cy ad B (by omega) (by omega) qr s1   v91_3 (show 0 ≤ v91_3.toInt from r4) (show v91_3.toInt ≤ 11 by omega) w1 H.size hT ) (cwV 1 hC.2.2.2.2 uV_RX7_85 rfl rfl rfl (by decide +kernel) ⟨Nat.le_of_ble_eq_true rfl, Nat.le_of_ble_eq_true rfl⟩) rfl hl.1 rfl (Nat.le_of_ble_eq_true rfl) dX7_readFrom_101 (fun w23 H locs hp22 hw => ?_)
        obtain ⟨hT, k24, hv28, hg27⟩ := hp22
        have hF := hF.tr k24 (by decide)
        have c29 := k24.gi kC_at1 (by decide) c8
        have c30 := k24.gi kC_at29 (by decide) c11
        have c31 := k24.gi kC_at29 (by decide) c14
        have c32 := k24.gi kC_at29 (by decide) c17
        obtain ⟨x25, c26, rx25, tx25⟩ := hg27
        replace hM := hM.call hv28 rfl
        have ex25 : x25.toInt = f91_29_10.toInt := by rw [← c30.symm.trans c26]
        obtain ⟨x33, ex33⟩ : ∃ y : Int32, y = v91_3 + Int32.ofInt 1 := ⟨_, rfl⟩
        have erx33 := ex33
        refine lv_iinc (v := x33) (lv' := [(3, .int x33), (0, .ref (ad 29)), (1, .ref (ad 1)), (2, .int v91_2)]) hx hb dX7_readFrom_104 hl (k := 3) rfl ex33.symm (by decide) rfl (fun ls hl => ?_)
        have ex33 : x33.toInt = v91_3.toInt + 1 := by rw [ex33]; exact wk_add (y := 1) (show -2147483648 ≤ v91_3.toInt + 1 by omega) (show v91_3.toInt + 1 ≤ 2147483647 by omega)
        replace hM := hM.lt ex33.symm
        refine lv_goto (tgt := 91) hx hb dX7_readFrom_107 (by decide) ?_
        exact ih91 v91_2 x33 f91_1_4 f91_29_10 f91_29_11 f91_29_9 H locs ls w23 (show 0 ≤ v91_2.toInt from r2) (show v91_2.toInt ≤ 1 from t3) (show 0 ≤ x33.toInt by omega) (show x33.toInt ≤ 12 by omega) (show 0 ≤ f91_1_4.toInt from r6) (show f91_1_4.toInt ≤ 3205 from t7) (show 0 ≤ f91_29_10.toInt from r9) (show f91_29_10.toInt ≤ 8 from t10) (show 0 ≤ f91_29_11.toInt from r12) (show f91_29_11.toInt ≤ 4 from t13) (show 0 ≤ f91_29_9.toInt from r15) (show f91_29_9.toInt ≤ 12 from t16) (show (12 - x33.toInt).toNat < n91 by omega) hw hT hF c29 c30 c31 c32 hM (lv_sub hl [1, 2, 3, 0] rfl)
  have L28 : ∀ (n28 : Nat) (v28_2 : Int32) (v28_3 : Int32) (f28_1_4 : Int32) (f28_29_10 : Int32) (f28_29_11 : Int32) (f28_29_9 : Int32) (H : Heap) (locs : List Loc) (ls : Array Slot) (w34 : va_W), 0 ≤ v28_2.toInt → v28_2.toInt ≤ 1 → 0 ≤ v28_3.toInt → v28_3.toInt ≤ 33 → 0 ≤ f28_1_4.toInt → f28_1_4.toInt ≤ 3205 → 0 ≤ f28_29_10.toInt → f28_29_10.toInt ≤ 8 → 0 ≤ f28_29_11.toInt → f28_29_11.toInt ≤ 4 → 0 ≤ f28_29_9.toInt → f28_29_9.toInt ≤ 12 → (33 - v28_3.toInt).toNat < n28 → Wd dC dI A s.heap H locs w34 → TW ksC ad cy B qr s1 w34 → FE ksC [(6, 1, 1), (6, 3, 3), (6, 4, 4), (7, 8, 8), (7, 9, 9), (7, 10, 10), (7, 11, 11), (24, 0, 26), (25, 0, 13), (26, 0, 91), (27, 0, 13), (28, 0, 26), (29, 0, 8), (30, 0, 8), (31, 0, 13)] w0 w34 → gi w34 1 4 = f28_1_4 → gi w34 29 10 = f28_29_10 → gi w34 29 11 = f28_29_11 → gi w34 29 9 = f28_29_9 → TT (fun n => m_X7_readFrom n 29 1 (sI w0)) (fun n => j_X7_readFrom 29 1 n 28 [v28_2.toInt, v28_3.toInt] (sI w34)) → lv_has ls 5 [(0, .ref (ad 29)), (1, .ref (ad 1)), (2, .int v28_2), (3, .int v28_3)] → W p l e ({ frames := 8, cells := 0, slots := 0, locals := 231 }) s m (List.toArray [.ref (ad 29), .ref (ad 1)]) below meth c H locs 0 0 (MQ below (va_Qv (Pz_X7_readFrom_1 ad cy B qr s1  w0) (fun u : va_W => wpost dC dI cy A u) A) (List.toArray [.ref (ad 29), .ref (ad 1)]) s 0 0 A) (F0 m 28 ls []) := by
    intro n28
    induction n28 with
    | zero => intro v28_2 v28_3 f28_1_4 f28_29_10 f28_29_11 f28_29_9 H locs ls w34 r35 t36 r37 t38 r39 t40 r42 t43 r45 t46 r48 t49 hm28 hw hT hF c41 c44 c47 c50 hM hl; omega
    | succ n28 ih28 =>
      intro v28_2 v28_3 f28_1_4 f28_29_10 f28_29_11 f28_29_9 H locs ls w34 r35 t36 r37 t38 r39 t40 r42 t43 r45 t46 r48 t49 hm28 hw hT hF c41 c44 c47 c50 hM hl
      replace hM := hM.suc (fun _ => e_X7_readFrom_28)
      refine lv_iload_n hx hb dX7_readFrom_28 rfl (lv_at hl 2 rfl) ?_
      refine lv_if_eq (tgt := 89) hx hb dX7_readFrom_29 (by decide) (fun c51 => ?_) (fun c51 => ?_)
      · have c51 : v28_2.toInt = (0 : Int) := wk_eq.mp c51
        replace hM := hM.pos c51
        refine lv_iconst (v := 0) hx hb dX7_readFrom_89 (by decide) ?_
        refine lv_istore_n (lv' := [(3, .int 0), (0, .ref (ad 29)), (1, .ref (ad 1)), (2, .int v28_2)]) hx hb dX7_readFrom_90 rfl hl (by decide) rfl (fun ls hl => ?_)
        exact L91 ((12 - (0 : Int)).toNat + 1) v28_2 0 f28_1_4 f28_29_10 f28_29_11 f28_29_9 H locs ls w34 (show 0 ≤ v28_2.toInt from r35) (show v28_2.toInt ≤ 1 from t36) (by decide) (by decide) (show 0 ≤ f28_1_4.toInt from r39) (show f28_1_4.toInt ≤ 3205 from t40) (show 0 ≤ f28_29_10.toInt from r42) (show f28_29_10.toInt ≤ 8 from t43) (show 0 ≤ f28_29_11.toInt from r45) (show f28_29_11.toInt ≤ 4 from t46) (show 0 ≤ f28_29_9.toInt from r48) (show f28_29_9.toInt ≤ 12 from t49) (Nat.lt_succ_self _) hw hT hF c41 c44 c47 c50 hM (lv_sub hl [1, 2, 3, 0] rfl)
      · have c51 : ¬ v28_2.toInt = (0 : Int) := wk_eqF c51
        replace hM := hM.neg c51
        refine lv_iload_n hx hb dX7_readFrom_32 rfl (lv_at hl 3 rfl) ?_
        refine lv_bipush (v := 32) hx hb dX7_readFrom_33 (by decide) ?_
        refine lv_icmp_gt (tgt := 89) hx hb dX7_readFrom_35 (by decide) (fun c52 => ?_) (fun c52 => ?_)
        · have c52 : (32 : Int) < v28_3.toInt := wk_lt.mp c52
          replace hM := hM.pos c52
          refine lv_iconst (v := 0) hx hb dX7_readFrom_89 (by decide) ?_
          refine lv_istore_n (lv' := [(3, .int 0), (0, .ref (ad 29)), (1, .ref (ad 1)), (2, .int v28_2)]) hx hb dX7_readFrom_90 rfl hl (by decide) rfl (fun ls hl => ?_)
          exact L91 ((12 - (0 : Int)).toNat + 1) v28_2 0 f28_1_4 f28_29_10 f28_29_11 f28_29_9 H locs ls w34 (show 0 ≤ v28_2.toInt from r35) (show v28_2.toInt ≤ 1 from t36) (by decide) (by decide) (show 0 ≤ f28_1_4.toInt from r39) (show f28_1_4.toInt ≤ 3205 from t40) (show 0 ≤ f28_29_10.toInt from r42) (show f28_29_10.toInt ≤ 8 from t43) (show 0 ≤ f28_29_11.toInt from r45) (show f28_29_11.toInt ≤ 4 from t46) (show 0 ≤ f28_29_9.toInt from r48) (show f28_29_9.toInt ≤ 12 from t49) (Nat.lt_succ_self _) hw hT hF c41 c44 c47 c50 hM (lv_sub hl [1, 2, 3, 0] rfl)
        · have c52 : v28_3.toInt ≤ (32 : Int) := wk_ltF c52
          replace hM := hM.neg (Int.not_lt.mpr c52)
          refine lv_aload_n hx hb dX7_readFrom_38 rfl (lv_at hl 1 rfl) ?_
          refine va_ldcS hx hb hC.2.2.2.1 hSR.1 dX7_readFrom_39 ?_
          refine tk_Vi hC hK hw hT hA hE hSR kC_at1 (by decide) rfl (kz_X6_readWord_1 l adK adV dC dI cy ad B (by omega) (by omega) qr s1    w34 H.size hT ) (cwV 1 hC.2.2.2.2 uV_RX7_62 rfl rfl rfl (by decide +kernel) ⟨Nat.le_of_ble_eq_true rfl, Nat.le_of_ble_eq_true rfl⟩) rfl hl.1 rfl (Nat.le_of_ble_eq_true rfl) dX7_readFrom_41 (fun r53 w55 H locs hp54 hw => ?_)
          obtain ⟨hT, k56, hv62, hg61⟩ := hp54
          have hF := hF.tr k56 (by decide)
          have c63 := k56.gi kC_at29 (by decide) c44
          have c64 := k56.gi kC_at29 (by decide) c47
          have c65 := k56.gi kC_at29 (by decide) c50
          rcases hg61 with ⟨g57, g58⟩ | ⟨rfl, ⟨x59, c60, rx59, tx59⟩⟩
          · replace hM := hM.call hv62 rfl
            refine lv_istore (lv' := [(4, .int r53), (0, .ref (ad 29)), (1, .ref (ad 1)), (2, .int v28_2), (3, .int v28_3)]) hx hb dX7_readFrom_44 hl (by decide) rfl (fun ls hl => ?_)
            refine lv_iload hx hb dX7_readFrom_46 (lv_at hl 0 rfl) ?_
            refine lv_iconst (v := (-1)) hx hb dX7_readFrom_48 (by decide) ?_
            refine lv_icmp_eq (tgt := 71) hx hb dX7_readFrom_49 (by decide) (fun c => absurd c (fun h => absurd (show r53.toInt = (-1 : Int) from wk_eq.mp h) (by omega))) (fun _ => ?_)
            replace hM := hM.neg (by omega)
            refine lv_aload_n hx hb dX7_readFrom_52 rfl (lv_at hl 1 rfl) ?_
            refine lv_iload hx hb dX7_readFrom_53 (lv_at hl 0 rfl) ?_
            refine lv_iload_n hx hb dX7_readFrom_55 rfl (lv_at hl 4 rfl) ?_
            refine tk_Vi hC hK hw hT hA hE hSR kC_at29 (by decide) rfl (kz_X7_isTooMany_1 l adK adV dC dI cy ad B (by omega) (by omega) qr s1   r53 (show 0 ≤ r53.toInt by omega) (show r53.toInt ≤ 26 by omega) v28_3 (show 0 ≤ v28_3.toInt from r37) (show v28_3.toInt ≤ 32 by omega) w55 H.size hT ) (cwV 2 hC.2.2.2.2 uV_RX7_66 rfl rfl rfl (by decide +kernel) ⟨Nat.le_of_ble_eq_true rfl, Nat.le_of_ble_eq_true rfl⟩) rfl hl.1 rfl (Nat.le_of_ble_eq_true rfl) dX7_readFrom_56 (fun r66 w68 H locs hp67 hw => ?_)
            obtain ⟨hT, k69, hv107, hg106⟩ := hp67
            have hF := hF.tr k69 (by decide)
            have c108 := k69.gi kC_at29 (by decide) c63
            have c109 := k69.gi kC_at29 (by decide) c64
            have c110 := k69.gi kC_at29 (by decide) c65
            rcases hg106 with ⟨rfl, g70, g71⟩ | ⟨rfl, g72, g73, g74, g75, ⟨x76, c77, rx76, tx76⟩⟩ | ⟨rfl, g78, g79, g80, g81, ⟨x82, c83, rx82, tx82⟩⟩ | ⟨rfl, g84, g85, g86, ⟨x87, c88, rx87, tx87⟩⟩ | rfl | ⟨rfl, g89, g90, g91, g92, ⟨x93, c94, rx93, tx93⟩⟩ | ⟨rfl, g95, g96, g97, g98, ⟨x99, c100, rx99, tx99⟩⟩ | ⟨rfl, g101, g102, g103, ⟨x104, c105, rx104, tx104⟩⟩
            · replace hM := hM.call (r' := 0) hv107 (by decide)
              refine lv_if_eq (tgt := 71) hx hb dX7_readFrom_59 (by decide) (fun _ => ?_) (fun c => absurd (by decide) c)
              replace hM := hM.pos (by decide)
              refine lv_aload_n hx hb dX7_readFrom_71 rfl (lv_at hl 1 rfl) ?_
              refine lv_aload_n hx hb dX7_readFrom_72 rfl (lv_at hl 2 rfl) ?_
              refine lv_iload hx hb dX7_readFrom_73 (lv_at hl 0 rfl) ?_
              obtain rfl : r53 = 0 := wk_eq.mpr (show r53.toInt = 0 by omega)
              try simp only [show (0 : Int32).toInt = 0 by decide] at hM
              refine tk_Vv hC hK hw hT hA hE hSR kC_at29 (by decide) rfl (kz_X7_readClause_1 l adK adV dC dI cy ad B (by omega) (by omega) qr s1    w68 H.size hT ) (cwV 2 hC.2.2.2.2 uV_RX7_77 rfl rfl rfl (by decide +kernel) ⟨Nat.le_of_ble_eq_true rfl, Nat.le_of_ble_eq_true rfl⟩) rfl hl.1 rfl (Nat.le_of_ble_eq_true rfl) dX7_readFrom_75 (fun w113 H locs hp112 hw => ?_)
              obtain ⟨hT, k114, hv120, hg119⟩ := hp112
              have hF := hF.tr k114 (by decide)
              have c121 := k114.gi kC_at29 (by decide) c108
              have c122 := k114.gi kC_at29 (by decide) c109
              have c123 := k114.gi kC_at29 (by decide) c110
              rcases hg119 with ⟨x115, c116, rx115, tx115⟩ | ⟨x117, c118, rx117, tx117⟩
              · replace hM := hM.call hv120 rfl
                refine lv_aload_n hx hb dX7_readFrom_78 rfl (lv_at hl 2 rfl) ?_
                refine tk_Vi hC hK hw hT hA hE hSR kC_at1 (by decide) rfl (kz_X6_takeSemicolon_1 l adK adV dC dI cy ad B (by omega) (by omega) qr s1    w113 H.size hT x115 c116 (show 1 ≤ x115.toInt by omega) (show x115.toInt ≤ 3205 by omega)) (cwV 0 hC.2.2.2.2 uV_RX7_81 rfl rfl rfl (by decide +kernel) ⟨Nat.le_of_ble_eq_true rfl, Nat.le_of_ble_eq_true rfl⟩) rfl hl.1 rfl (Nat.le_of_ble_eq_true rfl) dX7_readFrom_79 (fun r124 w126 H locs hp125 hw => ?_)
                obtain ⟨hT, k127, hv131, hg130⟩ := hp125
                have hF := hF.tr k127 (by decide)
                have c132 := k127.gi kC_at29 (by decide) c121
                have c133 := k127.gi kC_at29 (by decide) c122
                have c134 := k127.gi kC_at29 (by decide) c123
                have c135 := k127.gi kC_at1 (by decide) c116
                obtain ⟨rfl, ⟨x128, c129, rx128, tx128⟩⟩ := hg130
                replace hM := hM.call (r' := 0) hv131 (by decide)
                have ex128 : x128.toInt = x115.toInt := by rw [← c135.symm.trans c129]
                refine lv_istore_n (lv' := [(2, .int 0), (4, .int 0), (0, .ref (ad 29)), (1, .ref (ad 1)), (3, .int v28_3)]) hx hb dX7_readFrom_82 rfl hl (by decide) rfl (fun ls hl => ?_)
                obtain ⟨x136, ex136⟩ : ∃ y : Int32, y = v28_3 + Int32.ofInt 1 := ⟨_, rfl⟩
                have erx136 := ex136
                refine lv_iinc (v := x136) (lv' := [(3, .int x136), (2, .int 0), (4, .int 0), (0, .ref (ad 29)), (1, .ref (ad 1))]) hx hb dX7_readFrom_83 hl (k := 4) rfl ex136.symm (by decide) rfl (fun ls hl => ?_)
                have ex136 : x136.toInt = v28_3.toInt + 1 := by rw [ex136]; exact wk_add (y := 1) (show -2147483648 ≤ v28_3.toInt + 1 by omega) (show v28_3.toInt + 1 ≤ 2147483647 by omega)
                replace hM := hM.lt ex136.symm
                refine lv_goto (tgt := 28) hx hb dX7_readFrom_86 (by decide) ?_
                exact ih28 0 x136 x115 f28_29_10 f28_29_11 f28_29_9 H locs ls w126 (by decide) (by decide) (show 0 ≤ x136.toInt by omega) (show x136.toInt ≤ 33 by omega) (show 0 ≤ x115.toInt by omega) (show x115.toInt ≤ 3205 by omega) (show 0 ≤ f28_29_10.toInt from r42) (show f28_29_10.toInt ≤ 8 from t43) (show 0 ≤ f28_29_11.toInt from r45) (show f28_29_11.toInt ≤ 4 from t46) (show 0 ≤ f28_29_9.toInt from r48) (show f28_29_9.toInt ≤ 12 from t49) (show (33 - x136.toInt).toNat < n28 by omega) hw hT hF c135 c132 c133 c134 hM (lv_sub hl [3, 4, 1, 0] rfl)
              · replace hM := hM.call hv120 rfl
                refine lv_aload_n hx hb dX7_readFrom_78 rfl (lv_at hl 2 rfl) ?_
                refine tk_Vi hC hK hw hT hA hE hSR kC_at1 (by decide) rfl (kz_X6_takeSemicolon_2 l adK adV dC dI cy ad B (by omega) (by omega) qr s1    w113 H.size hT ) (cwV 0 hC.2.2.2.2 uV_RX7_81 rfl rfl rfl (by decide +kernel) ⟨Nat.le_of_ble_eq_true rfl, Nat.le_of_ble_eq_true rfl⟩) rfl hl.1 rfl (Nat.le_of_ble_eq_true rfl) dX7_readFrom_79 (fun r137 w139 H locs hp138 hw => ?_)
                obtain ⟨hT, k140, hv152, hg151⟩ := hp138
                have hF := hF.tr k140 (by decide)
                have c153 := k140.gi kC_at29 (by decide) c121
                have c154 := k140.gi kC_at29 (by decide) c122
                have c155 := k140.gi kC_at29 (by decide) c123
                rcases hg151 with ⟨rfl, ⟨x141, c142, rx141, tx141⟩⟩ | ⟨rfl, ⟨x143, c144, rx143, tx143⟩⟩ | ⟨rfl, ⟨x145, c146, rx145, tx145⟩, ⟨x147, c148, rx147, tx147⟩, ⟨x149, c150, rx149, tx149⟩⟩
                · replace hM := hM.call (r' := 0) hv152 (by decide)
                  refine lv_istore_n (lv' := [(2, .int 0), (4, .int 0), (0, .ref (ad 29)), (1, .ref (ad 1)), (3, .int v28_3)]) hx hb dX7_readFrom_82 rfl hl (by decide) rfl (fun ls hl => ?_)
                  obtain ⟨x156, ex156⟩ : ∃ y : Int32, y = v28_3 + Int32.ofInt 1 := ⟨_, rfl⟩
                  have erx156 := ex156
                  refine lv_iinc (v := x156) (lv' := [(3, .int x156), (2, .int 0), (4, .int 0), (0, .ref (ad 29)), (1, .ref (ad 1))]) hx hb dX7_readFrom_83 hl (k := 4) rfl ex156.symm (by decide) rfl (fun ls hl => ?_)
                  have ex156 : x156.toInt = v28_3.toInt + 1 := by rw [ex156]; exact wk_add (y := 1) (show -2147483648 ≤ v28_3.toInt + 1 by omega) (show v28_3.toInt + 1 ≤ 2147483647 by omega)
                  replace hM := hM.lt ex156.symm
                  refine lv_goto (tgt := 28) hx hb dX7_readFrom_86 (by decide) ?_
                  exact ih28 0 x156 x141 f28_29_10 f28_29_11 f28_29_9 H locs ls w139 (by decide) (by decide) (show 0 ≤ x156.toInt by omega) (show x156.toInt ≤ 33 by omega) (show 0 ≤ x141.toInt by omega) (show x141.toInt ≤ 3205 by omega) (show 0 ≤ f28_29_10.toInt from r42) (show f28_29_10.toInt ≤ 8 from t43) (show 0 ≤ f28_29_11.toInt from r45) (show f28_29_11.toInt ≤ 4 from t46) (show 0 ≤ f28_29_9.toInt from r48) (show f28_29_9.toInt ≤ 12 from t49) (show (33 - x156.toInt).toNat < n28 by omega) hw hT hF c142 c153 c154 c155 hM (lv_sub hl [3, 4, 1, 0] rfl)
                · replace hM := hM.call (r' := 0) hv152 (by decide)
                  refine lv_istore_n (lv' := [(2, .int 0), (4, .int 0), (0, .ref (ad 29)), (1, .ref (ad 1)), (3, .int v28_3)]) hx hb dX7_readFrom_82 rfl hl (by decide) rfl (fun ls hl => ?_)
                  obtain ⟨x157, ex157⟩ : ∃ y : Int32, y = v28_3 + Int32.ofInt 1 := ⟨_, rfl⟩
                  have erx157 := ex157
                  refine lv_iinc (v := x157) (lv' := [(3, .int x157), (2, .int 0), (4, .int 0), (0, .ref (ad 29)), (1, .ref (ad 1))]) hx hb dX7_readFrom_83 hl (k := 4) rfl ex157.symm (by decide) rfl (fun ls hl => ?_)
                  have ex157 : x157.toInt = v28_3.toInt + 1 := by rw [ex157]; exact wk_add (y := 1) (show -2147483648 ≤ v28_3.toInt + 1 by omega) (show v28_3.toInt + 1 ≤ 2147483647 by omega)
                  replace hM := hM.lt ex157.symm
                  refine lv_goto (tgt := 28) hx hb dX7_readFrom_86 (by decide) ?_
                  exact ih28 0 x157 x143 f28_29_10 f28_29_11 f28_29_9 H locs ls w139 (by decide) (by decide) (show 0 ≤ x157.toInt by omega) (show x157.toInt ≤ 33 by omega) (show 0 ≤ x143.toInt by omega) (show x143.toInt ≤ 3205 by omega) (show 0 ≤ f28_29_10.toInt from r42) (show f28_29_10.toInt ≤ 8 from t43) (show 0 ≤ f28_29_11.toInt from r45) (show f28_29_11.toInt ≤ 4 from t46) (show 0 ≤ f28_29_9.toInt from r48) (show f28_29_9.toInt ≤ 12 from t49) (show (33 - x157.toInt).toNat < n28 by omega) hw hT hF c144 c153 c154 c155 hM (lv_sub hl [3, 4, 1, 0] rfl)
                · replace hM := hM.call (r' := 1) hv152 (by decide)
                  refine lv_istore_n (lv' := [(2, .int 1), (4, .int 0), (0, .ref (ad 29)), (1, .ref (ad 1)), (3, .int v28_3)]) hx hb dX7_readFrom_82 rfl hl (by decide) rfl (fun ls hl => ?_)
                  obtain ⟨x158, ex158⟩ : ∃ y : Int32, y = v28_3 + Int32.ofInt 1 := ⟨_, rfl⟩
                  have erx158 := ex158
                  refine lv_iinc (v := x158) (lv' := [(3, .int x158), (2, .int 1), (4, .int 0), (0, .ref (ad 29)), (1, .ref (ad 1))]) hx hb dX7_readFrom_83 hl (k := 4) rfl ex158.symm (by decide) rfl (fun ls hl => ?_)
                  have ex158 : x158.toInt = v28_3.toInt + 1 := by rw [ex158]; exact wk_add (y := 1) (show -2147483648 ≤ v28_3.toInt + 1 by omega) (show v28_3.toInt + 1 ≤ 2147483647 by omega)
                  replace hM := hM.lt ex158.symm
                  refine lv_goto (tgt := 28) hx hb dX7_readFrom_86 (by decide) ?_
                  exact ih28 1 x158 x149 f28_29_10 f28_29_11 f28_29_9 H locs ls w139 (by decide) (by decide) (show 0 ≤ x158.toInt by omega) (show x158.toInt ≤ 33 by omega) (show 0 ≤ x149.toInt by omega) (show x149.toInt ≤ 3205 by omega) (show 0 ≤ f28_29_10.toInt from r42) (show f28_29_10.toInt ≤ 8 from t43) (show 0 ≤ f28_29_11.toInt from r45) (show f28_29_11.toInt ≤ 4 from t46) (show 0 ≤ f28_29_9.toInt from r48) (show f28_29_9.toInt ≤ 12 from t49) (show (33 - x158.toInt).toNat < n28 by omega) hw hT hF c150 c153 c154 c155 hM (lv_sub hl [3, 4, 1, 0] rfl)
            · replace hM := hM.call (r' := 0) hv107 (by decide)
              have ex76 : x76.toInt = f28_29_9.toInt := by rw [← c110.symm.trans c77]
              refine lv_if_eq (tgt := 71) hx hb dX7_readFrom_59 (by decide) (fun _ => ?_) (fun c => absurd (by decide) c)
              replace hM := hM.pos (by decide)
              refine lv_aload_n hx hb dX7_readFrom_71 rfl (lv_at hl 1 rfl) ?_
              refine lv_aload_n hx hb dX7_readFrom_72 rfl (lv_at hl 2 rfl) ?_
              refine lv_iload hx hb dX7_readFrom_73 (lv_at hl 0 rfl) ?_
              obtain rfl : r53 = 1 := wk_eq.mpr (show r53.toInt = 1 by omega)
              try simp only [show (1 : Int32).toInt = 1 by decide] at hM
              refine tk_Vv hC hK hw hT hA hE hSR kC_at29 (by decide) rfl (kz_X7_readClause_2 l adK adV dC dI cy ad B (by omega) (by omega) qr s1    w68 H.size hT f28_29_9 c110 (show 0 ≤ f28_29_9.toInt from r48) (show f28_29_9.toInt ≤ 11 by omega)) (cwV 2 hC.2.2.2.2 uV_RX7_77 rfl rfl rfl (by decide +kernel) ⟨Nat.le_of_ble_eq_true rfl, Nat.le_of_ble_eq_true rfl⟩) rfl hl.1 rfl (Nat.le_of_ble_eq_true rfl) dX7_readFrom_75 (fun w161 H locs hp160 hw => ?_)
              obtain ⟨hT, k162, hv172, hg171⟩ := hp160
              have hF := hF.tr k162 (by decide)
              have c173 := k162.gi kC_at29 (by decide) c108
              have c174 := k162.gi kC_at29 (by decide) c109
              rcases hg171 with ⟨⟨x163, c164, rx163, tx163⟩, ⟨x165, c166, rx165, tx165⟩⟩ | ⟨⟨x167, c168, rx167, tx167⟩, ⟨x169, c170, rx169, tx169⟩⟩
              · replace hM := hM.call hv172 rfl
                refine lv_aload_n hx hb dX7_readFrom_78 rfl (lv_at hl 2 rfl) ?_
                refine tk_Vi hC hK hw hT hA hE hSR kC_at1 (by decide) rfl (kz_X6_takeSemicolon_1 l adK adV dC dI cy ad B (by omega) (by omega) qr s1    w161 H.size hT x163 c164 (show 1 ≤ x163.toInt by omega) (show x163.toInt ≤ 3205 by omega)) (cwV 0 hC.2.2.2.2 uV_RX7_81 rfl rfl rfl (by decide +kernel) ⟨Nat.le_of_ble_eq_true rfl, Nat.le_of_ble_eq_true rfl⟩) rfl hl.1 rfl (Nat.le_of_ble_eq_true rfl) dX7_readFrom_79 (fun r175 w177 H locs hp176 hw => ?_)
                obtain ⟨hT, k178, hv182, hg181⟩ := hp176
                have hF := hF.tr k178 (by decide)
                have c183 := k178.gi kC_at29 (by decide) c173
                have c184 := k178.gi kC_at29 (by decide) c174
                have c185 := k178.gi kC_at1 (by decide) c164
                have c186 := k178.gi kC_at29 (by decide) c166
                obtain ⟨rfl, ⟨x179, c180, rx179, tx179⟩⟩ := hg181
                replace hM := hM.call (r' := 0) hv182 (by decide)
                have ex179 : x179.toInt = x163.toInt := by rw [← c185.symm.trans c180]
                refine lv_istore_n (lv' := [(2, .int 0), (4, .int 1), (0, .ref (ad 29)), (1, .ref (ad 1)), (3, .int v28_3)]) hx hb dX7_readFrom_82 rfl hl (by decide) rfl (fun ls hl => ?_)
                obtain ⟨x187, ex187⟩ : ∃ y : Int32, y = v28_3 + Int32.ofInt 1 := ⟨_, rfl⟩
                have erx187 := ex187
                refine lv_iinc (v := x187) (lv' := [(3, .int x187), (2, .int 0), (4, .int 1), (0, .ref (ad 29)), (1, .ref (ad 1))]) hx hb dX7_readFrom_83 hl (k := 4) rfl ex187.symm (by decide) rfl (fun ls hl => ?_)
                have ex187 : x187.toInt = v28_3.toInt + 1 := by rw [ex187]; exact wk_add (y := 1) (show -2147483648 ≤ v28_3.toInt + 1 by omega) (show v28_3.toInt + 1 ≤ 2147483647 by omega)
                replace hM := hM.lt ex187.symm
                refine lv_goto (tgt := 28) hx hb dX7_readFrom_86 (by decide) ?_
                exact ih28 0 x187 x163 f28_29_10 f28_29_11 x165 H locs ls w177 (by decide) (by decide) (show 0 ≤ x187.toInt by omega) (show x187.toInt ≤ 33 by omega) (show 0 ≤ x163.toInt by omega) (show x163.toInt ≤ 3205 by omega) (show 0 ≤ f28_29_10.toInt from r42) (show f28_29_10.toInt ≤ 8 from t43) (show 0 ≤ f28_29_11.toInt from r45) (show f28_29_11.toInt ≤ 4 from t46) (show 0 ≤ x165.toInt by omega) (show x165.toInt ≤ 12 by omega) (show (33 - x187.toInt).toNat < n28 by omega) hw hT hF c185 c183 c184 c186 hM (lv_sub hl [3, 4, 1, 0] rfl)
              · replace hM := hM.call hv172 rfl
                refine lv_aload_n hx hb dX7_readFrom_78 rfl (lv_at hl 2 rfl) ?_
                refine tk_Vi hC hK hw hT hA hE hSR kC_at1 (by decide) rfl (kz_X6_takeSemicolon_2 l adK adV dC dI cy ad B (by omega) (by omega) qr s1    w161 H.size hT ) (cwV 0 hC.2.2.2.2 uV_RX7_81 rfl rfl rfl (by decide +kernel) ⟨Nat.le_of_ble_eq_true rfl, Nat.le_of_ble_eq_true rfl⟩) rfl hl.1 rfl (Nat.le_of_ble_eq_true rfl) dX7_readFrom_79 (fun r188 w190 H locs hp189 hw => ?_)
                obtain ⟨hT, k191, hv203, hg202⟩ := hp189
                have hF := hF.tr k191 (by decide)
                have c204 := k191.gi kC_at29 (by decide) c173
                have c205 := k191.gi kC_at29 (by decide) c174
                have c206 := k191.gi kC_at29 (by decide) c170
                rcases hg202 with ⟨rfl, ⟨x192, c193, rx192, tx192⟩⟩ | ⟨rfl, ⟨x194, c195, rx194, tx194⟩⟩ | ⟨rfl, ⟨x196, c197, rx196, tx196⟩, ⟨x198, c199, rx198, tx198⟩, ⟨x200, c201, rx200, tx200⟩⟩
                · replace hM := hM.call (r' := 0) hv203 (by decide)
                  refine lv_istore_n (lv' := [(2, .int 0), (4, .int 1), (0, .ref (ad 29)), (1, .ref (ad 1)), (3, .int v28_3)]) hx hb dX7_readFrom_82 rfl hl (by decide) rfl (fun ls hl => ?_)
                  obtain ⟨x207, ex207⟩ : ∃ y : Int32, y = v28_3 + Int32.ofInt 1 := ⟨_, rfl⟩
                  have erx207 := ex207
                  refine lv_iinc (v := x207) (lv' := [(3, .int x207), (2, .int 0), (4, .int 1), (0, .ref (ad 29)), (1, .ref (ad 1))]) hx hb dX7_readFrom_83 hl (k := 4) rfl ex207.symm (by decide) rfl (fun ls hl => ?_)
                  have ex207 : x207.toInt = v28_3.toInt + 1 := by rw [ex207]; exact wk_add (y := 1) (show -2147483648 ≤ v28_3.toInt + 1 by omega) (show v28_3.toInt + 1 ≤ 2147483647 by omega)
                  replace hM := hM.lt ex207.symm
                  refine lv_goto (tgt := 28) hx hb dX7_readFrom_86 (by decide) ?_
                  exact ih28 0 x207 x192 f28_29_10 f28_29_11 x169 H locs ls w190 (by decide) (by decide) (show 0 ≤ x207.toInt by omega) (show x207.toInt ≤ 33 by omega) (show 0 ≤ x192.toInt by omega) (show x192.toInt ≤ 3205 by omega) (show 0 ≤ f28_29_10.toInt from r42) (show f28_29_10.toInt ≤ 8 from t43) (show 0 ≤ f28_29_11.toInt from r45) (show f28_29_11.toInt ≤ 4 from t46) (show 0 ≤ x169.toInt by omega) (show x169.toInt ≤ 12 by omega) (show (33 - x207.toInt).toNat < n28 by omega) hw hT hF c193 c204 c205 c206 hM (lv_sub hl [3, 4, 1, 0] rfl)
                · replace hM := hM.call (r' := 0) hv203 (by decide)
                  refine lv_istore_n (lv' := [(2, .int 0), (4, .int 1), (0, .ref (ad 29)), (1, .ref (ad 1)), (3, .int v28_3)]) hx hb dX7_readFrom_82 rfl hl (by decide) rfl (fun ls hl => ?_)
                  obtain ⟨x208, ex208⟩ : ∃ y : Int32, y = v28_3 + Int32.ofInt 1 := ⟨_, rfl⟩
                  have erx208 := ex208
                  refine lv_iinc (v := x208) (lv' := [(3, .int x208), (2, .int 0), (4, .int 1), (0, .ref (ad 29)), (1, .ref (ad 1))]) hx hb dX7_readFrom_83 hl (k := 4) rfl ex208.symm (by decide) rfl (fun ls hl => ?_)
                  have ex208 : x208.toInt = v28_3.toInt + 1 := by rw [ex208]; exact wk_add (y := 1) (show -2147483648 ≤ v28_3.toInt + 1 by omega) (show v28_3.toInt + 1 ≤ 2147483647 by omega)
                  replace hM := hM.lt ex208.symm
                  refine lv_goto (tgt := 28) hx hb dX7_readFrom_86 (by decide) ?_
                  exact ih28 0 x208 x194 f28_29_10 f28_29_11 x169 H locs ls w190 (by decide) (by decide) (show 0 ≤ x208.toInt by omega) (show x208.toInt ≤ 33 by omega) (show 0 ≤ x194.toInt by omega) (show x194.toInt ≤ 3205 by omega) (show 0 ≤ f28_29_10.toInt from r42) (show f28_29_10.toInt ≤ 8 from t43) (show 0 ≤ f28_29_11.toInt from r45) (show f28_29_11.toInt ≤ 4 from t46) (show 0 ≤ x169.toInt by omega) (show x169.toInt ≤ 12 by omega) (show (33 - x208.toInt).toNat < n28 by omega) hw hT hF c195 c204 c205 c206 hM (lv_sub hl [3, 4, 1, 0] rfl)
                · replace hM := hM.call (r' := 1) hv203 (by decide)
                  refine lv_istore_n (lv' := [(2, .int 1), (4, .int 1), (0, .ref (ad 29)), (1, .ref (ad 1)), (3, .int v28_3)]) hx hb dX7_readFrom_82 rfl hl (by decide) rfl (fun ls hl => ?_)
                  obtain ⟨x209, ex209⟩ : ∃ y : Int32, y = v28_3 + Int32.ofInt 1 := ⟨_, rfl⟩
                  have erx209 := ex209
                  refine lv_iinc (v := x209) (lv' := [(3, .int x209), (2, .int 1), (4, .int 1), (0, .ref (ad 29)), (1, .ref (ad 1))]) hx hb dX7_readFrom_83 hl (k := 4) rfl ex209.symm (by decide) rfl (fun ls hl => ?_)
                  have ex209 : x209.toInt = v28_3.toInt + 1 := by rw [ex209]; exact wk_add (y := 1) (show -2147483648 ≤ v28_3.toInt + 1 by omega) (show v28_3.toInt + 1 ≤ 2147483647 by omega)
                  replace hM := hM.lt ex209.symm
                  refine lv_goto (tgt := 28) hx hb dX7_readFrom_86 (by decide) ?_
                  exact ih28 1 x209 x200 f28_29_10 f28_29_11 x169 H locs ls w190 (by decide) (by decide) (show 0 ≤ x209.toInt by omega) (show x209.toInt ≤ 33 by omega) (show 0 ≤ x200.toInt by omega) (show x200.toInt ≤ 3205 by omega) (show 0 ≤ f28_29_10.toInt from r42) (show f28_29_10.toInt ≤ 8 from t43) (show 0 ≤ f28_29_11.toInt from r45) (show f28_29_11.toInt ≤ 4 from t46) (show 0 ≤ x169.toInt by omega) (show x169.toInt ≤ 12 by omega) (show (33 - x209.toInt).toNat < n28 by omega) hw hT hF c201 c204 c205 c206 hM (lv_sub hl [3, 4, 1, 0] rfl)
            · replace hM := hM.call (r' := 0) hv107 (by decide)
              have ex82 : x82.toInt = f28_29_10.toInt := by rw [← c108.symm.trans c83]
              refine lv_if_eq (tgt := 71) hx hb dX7_readFrom_59 (by decide) (fun _ => ?_) (fun c => absurd (by decide) c)
              replace hM := hM.pos (by decide)
              refine lv_aload_n hx hb dX7_readFrom_71 rfl (lv_at hl 1 rfl) ?_
              refine lv_aload_n hx hb dX7_readFrom_72 rfl (lv_at hl 2 rfl) ?_
              refine lv_iload hx hb dX7_readFrom_73 (lv_at hl 0 rfl) ?_
              obtain rfl : r53 = 2 := wk_eq.mpr (show r53.toInt = 2 by omega)
              try simp only [show (2 : Int32).toInt = 2 by decide] at hM
              refine tk_Vv hC hK hw hT hA hE hSR kC_at29 (by decide) rfl (kz_X7_readClause_3 l adK adV dC dI cy ad B (by omega) (by omega) qr s1    w68 H.size hT f28_29_10 c108 (show 0 ≤ f28_29_10.toInt from r42) (show f28_29_10.toInt ≤ 7 by omega)) (cwV 2 hC.2.2.2.2 uV_RX7_77 rfl rfl rfl (by decide +kernel) ⟨Nat.le_of_ble_eq_true rfl, Nat.le_of_ble_eq_true rfl⟩) rfl hl.1 rfl (Nat.le_of_ble_eq_true rfl) dX7_readFrom_75 (fun w212 H locs hp211 hw => ?_)
              obtain ⟨hT, k213, hv223, hg222⟩ := hp211
              have hF := hF.tr k213 (by decide)
              have c224 := k213.gi kC_at29 (by decide) c109
              have c225 := k213.gi kC_at29 (by decide) c110
              rcases hg222 with ⟨⟨x214, c215, rx214, tx214⟩, ⟨x216, c217, rx216, tx216⟩⟩ | ⟨⟨x218, c219, rx218, tx218⟩, ⟨x220, c221, rx220, tx220⟩⟩
              · replace hM := hM.call hv223 rfl
                refine lv_aload_n hx hb dX7_readFrom_78 rfl (lv_at hl 2 rfl) ?_
                refine tk_Vi hC hK hw hT hA hE hSR kC_at1 (by decide) rfl (kz_X6_takeSemicolon_1 l adK adV dC dI cy ad B (by omega) (by omega) qr s1    w212 H.size hT x214 c215 (show 1 ≤ x214.toInt by omega) (show x214.toInt ≤ 3205 by omega)) (cwV 0 hC.2.2.2.2 uV_RX7_81 rfl rfl rfl (by decide +kernel) ⟨Nat.le_of_ble_eq_true rfl, Nat.le_of_ble_eq_true rfl⟩) rfl hl.1 rfl (Nat.le_of_ble_eq_true rfl) dX7_readFrom_79 (fun r226 w228 H locs hp227 hw => ?_)
                obtain ⟨hT, k229, hv233, hg232⟩ := hp227
                have hF := hF.tr k229 (by decide)
                have c234 := k229.gi kC_at29 (by decide) c224
                have c235 := k229.gi kC_at29 (by decide) c225
                have c236 := k229.gi kC_at1 (by decide) c215
                have c237 := k229.gi kC_at29 (by decide) c217
                obtain ⟨rfl, ⟨x230, c231, rx230, tx230⟩⟩ := hg232
                replace hM := hM.call (r' := 0) hv233 (by decide)
                have ex230 : x230.toInt = x214.toInt := by rw [← c236.symm.trans c231]
                refine lv_istore_n (lv' := [(2, .int 0), (4, .int 2), (0, .ref (ad 29)), (1, .ref (ad 1)), (3, .int v28_3)]) hx hb dX7_readFrom_82 rfl hl (by decide) rfl (fun ls hl => ?_)
                obtain ⟨x238, ex238⟩ : ∃ y : Int32, y = v28_3 + Int32.ofInt 1 := ⟨_, rfl⟩
                have erx238 := ex238
                refine lv_iinc (v := x238) (lv' := [(3, .int x238), (2, .int 0), (4, .int 2), (0, .ref (ad 29)), (1, .ref (ad 1))]) hx hb dX7_readFrom_83 hl (k := 4) rfl ex238.symm (by decide) rfl (fun ls hl => ?_)
                have ex238 : x238.toInt = v28_3.toInt + 1 := by rw [ex238]; exact wk_add (y := 1) (show -2147483648 ≤ v28_3.toInt + 1 by omega) (show v28_3.toInt + 1 ≤ 2147483647 by omega)
                replace hM := hM.lt ex238.symm
                refine lv_goto (tgt := 28) hx hb dX7_readFrom_86 (by decide) ?_
                exact ih28 0 x238 x214 x216 f28_29_11 f28_29_9 H locs ls w228 (by decide) (by decide) (show 0 ≤ x238.toInt by omega) (show x238.toInt ≤ 33 by omega) (show 0 ≤ x214.toInt by omega) (show x214.toInt ≤ 3205 by omega) (show 0 ≤ x216.toInt by omega) (show x216.toInt ≤ 8 by omega) (show 0 ≤ f28_29_11.toInt from r45) (show f28_29_11.toInt ≤ 4 from t46) (show 0 ≤ f28_29_9.toInt from r48) (show f28_29_9.toInt ≤ 12 from t49) (show (33 - x238.toInt).toNat < n28 by omega) hw hT hF c236 c237 c234 c235 hM (lv_sub hl [3, 4, 1, 0] rfl)
              · replace hM := hM.call hv223 rfl
                refine lv_aload_n hx hb dX7_readFrom_78 rfl (lv_at hl 2 rfl) ?_
                refine tk_Vi hC hK hw hT hA hE hSR kC_at1 (by decide) rfl (kz_X6_takeSemicolon_2 l adK adV dC dI cy ad B (by omega) (by omega) qr s1    w212 H.size hT ) (cwV 0 hC.2.2.2.2 uV_RX7_81 rfl rfl rfl (by decide +kernel) ⟨Nat.le_of_ble_eq_true rfl, Nat.le_of_ble_eq_true rfl⟩) rfl hl.1 rfl (Nat.le_of_ble_eq_true rfl) dX7_readFrom_79 (fun r239 w241 H locs hp240 hw => ?_)
                obtain ⟨hT, k242, hv254, hg253⟩ := hp240
                have hF := hF.tr k242 (by decide)
                have c255 := k242.gi kC_at29 (by decide) c224
                have c256 := k242.gi kC_at29 (by decide) c225
                have c257 := k242.gi kC_at29 (by decide) c221
                rcases hg253 with ⟨rfl, ⟨x243, c244, rx243, tx243⟩⟩ | ⟨rfl, ⟨x245, c246, rx245, tx245⟩⟩ | ⟨rfl, ⟨x247, c248, rx247, tx247⟩, ⟨x249, c250, rx249, tx249⟩, ⟨x251, c252, rx251, tx251⟩⟩
                · replace hM := hM.call (r' := 0) hv254 (by decide)
                  refine lv_istore_n (lv' := [(2, .int 0), (4, .int 2), (0, .ref (ad 29)), (1, .ref (ad 1)), (3, .int v28_3)]) hx hb dX7_readFrom_82 rfl hl (by decide) rfl (fun ls hl => ?_)
                  obtain ⟨x258, ex258⟩ : ∃ y : Int32, y = v28_3 + Int32.ofInt 1 := ⟨_, rfl⟩
                  have erx258 := ex258
                  refine lv_iinc (v := x258) (lv' := [(3, .int x258), (2, .int 0), (4, .int 2), (0, .ref (ad 29)), (1, .ref (ad 1))]) hx hb dX7_readFrom_83 hl (k := 4) rfl ex258.symm (by decide) rfl (fun ls hl => ?_)
                  have ex258 : x258.toInt = v28_3.toInt + 1 := by rw [ex258]; exact wk_add (y := 1) (show -2147483648 ≤ v28_3.toInt + 1 by omega) (show v28_3.toInt + 1 ≤ 2147483647 by omega)
                  replace hM := hM.lt ex258.symm
                  refine lv_goto (tgt := 28) hx hb dX7_readFrom_86 (by decide) ?_
                  exact ih28 0 x258 x243 x220 f28_29_11 f28_29_9 H locs ls w241 (by decide) (by decide) (show 0 ≤ x258.toInt by omega) (show x258.toInt ≤ 33 by omega) (show 0 ≤ x243.toInt by omega) (show x243.toInt ≤ 3205 by omega) (show 0 ≤ x220.toInt by omega) (show x220.toInt ≤ 8 by omega) (show 0 ≤ f28_29_11.toInt from r45) (show f28_29_11.toInt ≤ 4 from t46) (show 0 ≤ f28_29_9.toInt from r48) (show f28_29_9.toInt ≤ 12 from t49) (show (33 - x258.toInt).toNat < n28 by omega) hw hT hF c244 c257 c255 c256 hM (lv_sub hl [3, 4, 1, 0] rfl)
                · replace hM := hM.call (r' := 0) hv254 (by decide)
                  refine lv_istore_n (lv' := [(2, .int 0), (4, .int 2), (0, .ref (ad 29)), (1, .ref (ad 1)), (3, .int v28_3)]) hx hb dX7_readFrom_82 rfl hl (by decide) rfl (fun ls hl => ?_)
                  obtain ⟨x259, ex259⟩ : ∃ y : Int32, y = v28_3 + Int32.ofInt 1 := ⟨_, rfl⟩
                  have erx259 := ex259
                  refine lv_iinc (v := x259) (lv' := [(3, .int x259), (2, .int 0), (4, .int 2), (0, .ref (ad 29)), (1, .ref (ad 1))]) hx hb dX7_readFrom_83 hl (k := 4) rfl ex259.symm (by decide) rfl (fun ls hl => ?_)
                  have ex259 : x259.toInt = v28_3.toInt + 1 := by rw [ex259]; exact wk_add (y := 1) (show -2147483648 ≤ v28_3.toInt + 1 by omega) (show v28_3.toInt + 1 ≤ 2147483647 by omega)
                  replace hM := hM.lt ex259.symm
                  refine lv_goto (tgt := 28) hx hb dX7_readFrom_86 (by decide) ?_
                  exact ih28 0 x259 x245 x220 f28_29_11 f28_29_9 H locs ls w241 (by decide) (by decide) (show 0 ≤ x259.toInt by omega) (show x259.toInt ≤ 33 by omega) (show 0 ≤ x245.toInt by omega) (show x245.toInt ≤ 3205 by omega) (show 0 ≤ x220.toInt by omega) (show x220.toInt ≤ 8 by omega) (show 0 ≤ f28_29_11.toInt from r45) (show f28_29_11.toInt ≤ 4 from t46) (show 0 ≤ f28_29_9.toInt from r48) (show f28_29_9.toInt ≤ 12 from t49) (show (33 - x259.toInt).toNat < n28 by omega) hw hT hF c246 c257 c255 c256 hM (lv_sub hl [3, 4, 1, 0] rfl)
                · replace hM := hM.call (r' := 1) hv254 (by decide)
                  refine lv_istore_n (lv' := [(2, .int 1), (4, .int 2), (0, .ref (ad 29)), (1, .ref (ad 1)), (3, .int v28_3)]) hx hb dX7_readFrom_82 rfl hl (by decide) rfl (fun ls hl => ?_)
                  obtain ⟨x260, ex260⟩ : ∃ y : Int32, y = v28_3 + Int32.ofInt 1 := ⟨_, rfl⟩
                  have erx260 := ex260
                  refine lv_iinc (v := x260) (lv' := [(3, .int x260), (2, .int 1), (4, .int 2), (0, .ref (ad 29)), (1, .ref (ad 1))]) hx hb dX7_readFrom_83 hl (k := 4) rfl ex260.symm (by decide) rfl (fun ls hl => ?_)
                  have ex260 : x260.toInt = v28_3.toInt + 1 := by rw [ex260]; exact wk_add (y := 1) (show -2147483648 ≤ v28_3.toInt + 1 by omega) (show v28_3.toInt + 1 ≤ 2147483647 by omega)
                  replace hM := hM.lt ex260.symm
                  refine lv_goto (tgt := 28) hx hb dX7_readFrom_86 (by decide) ?_
                  exact ih28 1 x260 x251 x220 f28_29_11 f28_29_9 H locs ls w241 (by decide) (by decide) (show 0 ≤ x260.toInt by omega) (show x260.toInt ≤ 33 by omega) (show 0 ≤ x251.toInt by omega) (show x251.toInt ≤ 3205 by omega) (show 0 ≤ x220.toInt by omega) (show x220.toInt ≤ 8 by omega) (show 0 ≤ f28_29_11.toInt from r45) (show f28_29_11.toInt ≤ 4 from t46) (show 0 ≤ f28_29_9.toInt from r48) (show f28_29_9.toInt ≤ 12 from t49) (show (33 - x260.toInt).toNat < n28 by omega) hw hT hF c252 c257 c255 c256 hM (lv_sub hl [3, 4, 1, 0] rfl)
            · replace hM := hM.call (r' := 0) hv107 (by decide)
              have ex87 : x87.toInt = f28_29_11.toInt := by rw [← c109.symm.trans c88]
              refine lv_if_eq (tgt := 71) hx hb dX7_readFrom_59 (by decide) (fun _ => ?_) (fun c => absurd (by decide) c)
              replace hM := hM.pos (by decide)
              refine lv_aload_n hx hb dX7_readFrom_71 rfl (lv_at hl 1 rfl) ?_
              refine lv_aload_n hx hb dX7_readFrom_72 rfl (lv_at hl 2 rfl) ?_
              refine lv_iload hx hb dX7_readFrom_73 (lv_at hl 0 rfl) ?_
              refine tk_Vv hC hK hw hT hA hE hSR kC_at29 (by decide) rfl (kz_X7_readClause_4 l adK adV dC dI cy ad B (by omega) (by omega) qr s1   r53 (show 3 ≤ r53.toInt by omega) (show r53.toInt ≤ 26 by omega) w68 H.size hT f28_29_11 c109 (show 0 ≤ f28_29_11.toInt from r45) (show f28_29_11.toInt ≤ 3 by omega)) (cwV 2 hC.2.2.2.2 uV_RX7_77 rfl rfl rfl (by decide +kernel) ⟨Nat.le_of_ble_eq_true rfl, Nat.le_of_ble_eq_true rfl⟩) rfl hl.1 rfl (Nat.le_of_ble_eq_true rfl) dX7_readFrom_75 (fun w263 H locs hp262 hw => ?_)
              obtain ⟨hT, k264, hv276, hg275⟩ := hp262
              have hF := hF.tr k264 (by decide)
              have c277 := k264.gi kC_at29 (by decide) c108
              have c278 := k264.gi kC_at29 (by decide) c110
              rcases hg275 with ⟨⟨x265, c266, rx265, tx265⟩, ⟨x267, c268, rx267, tx267⟩⟩ | ⟨⟨x269, c270, rx269, tx269⟩, ⟨x271, c272, rx271, tx271⟩, ⟨x273, c274, rx273, tx273⟩⟩
              · replace hM := hM.call hv276 rfl
                refine lv_aload_n hx hb dX7_readFrom_78 rfl (lv_at hl 2 rfl) ?_
                refine tk_Vi hC hK hw hT hA hE hSR kC_at1 (by decide) rfl (kz_X6_takeSemicolon_1 l adK adV dC dI cy ad B (by omega) (by omega) qr s1    w263 H.size hT x265 c266 (show 1 ≤ x265.toInt by omega) (show x265.toInt ≤ 3205 by omega)) (cwV 0 hC.2.2.2.2 uV_RX7_81 rfl rfl rfl (by decide +kernel) ⟨Nat.le_of_ble_eq_true rfl, Nat.le_of_ble_eq_true rfl⟩) rfl hl.1 rfl (Nat.le_of_ble_eq_true rfl) dX7_readFrom_79 (fun r279 w281 H locs hp280 hw => ?_)
                obtain ⟨hT, k282, hv286, hg285⟩ := hp280
                have hF := hF.tr k282 (by decide)
                have c287 := k282.gi kC_at29 (by decide) c277
                have c288 := k282.gi kC_at29 (by decide) c278
                have c289 := k282.gi kC_at1 (by decide) c266
                have c290 := k282.gi kC_at29 (by decide) c268
                obtain ⟨rfl, ⟨x283, c284, rx283, tx283⟩⟩ := hg285
                replace hM := hM.call (r' := 0) hv286 (by decide)
                have ex283 : x283.toInt = x265.toInt := by rw [← c289.symm.trans c284]
                refine lv_istore_n (lv' := [(2, .int 0), (4, .int r53), (0, .ref (ad 29)), (1, .ref (ad 1)), (3, .int v28_3)]) hx hb dX7_readFrom_82 rfl hl (by decide) rfl (fun ls hl => ?_)
                obtain ⟨x291, ex291⟩ : ∃ y : Int32, y = v28_3 + Int32.ofInt 1 := ⟨_, rfl⟩
                have erx291 := ex291
                refine lv_iinc (v := x291) (lv' := [(3, .int x291), (2, .int 0), (4, .int r53), (0, .ref (ad 29)), (1, .ref (ad 1))]) hx hb dX7_readFrom_83 hl (k := 4) rfl ex291.symm (by decide) rfl (fun ls hl => ?_)
                have ex291 : x291.toInt = v28_3.toInt + 1 := by rw [ex291]; exact wk_add (y := 1) (show -2147483648 ≤ v28_3.toInt + 1 by omega) (show v28_3.toInt + 1 ≤ 2147483647 by omega)
                replace hM := hM.lt ex291.symm
                refine lv_goto (tgt := 28) hx hb dX7_readFrom_86 (by decide) ?_
                exact ih28 0 x291 x265 f28_29_10 x267 f28_29_9 H locs ls w281 (by decide) (by decide) (show 0 ≤ x291.toInt by omega) (show x291.toInt ≤ 33 by omega) (show 0 ≤ x265.toInt by omega) (show x265.toInt ≤ 3205 by omega) (show 0 ≤ f28_29_10.toInt from r42) (show f28_29_10.toInt ≤ 8 from t43) (show 0 ≤ x267.toInt by omega) (show x267.toInt ≤ 4 by omega) (show 0 ≤ f28_29_9.toInt from r48) (show f28_29_9.toInt ≤ 12 from t49) (show (33 - x291.toInt).toNat < n28 by omega) hw hT hF c289 c287 c290 c288 hM (lv_sub hl [3, 4, 1, 0] rfl)
              · replace hM := hM.call hv276 rfl
                have ex271 : x271.toInt = f28_29_9.toInt := by rw [← c278.symm.trans c272]
                refine lv_aload_n hx hb dX7_readFrom_78 rfl (lv_at hl 2 rfl) ?_
                refine tk_Vi hC hK hw hT hA hE hSR kC_at1 (by decide) rfl (kz_X6_takeSemicolon_2 l adK adV dC dI cy ad B (by omega) (by omega) qr s1    w263 H.size hT ) (cwV 0 hC.2.2.2.2 uV_RX7_81 rfl rfl rfl (by decide +kernel) ⟨Nat.le_of_ble_eq_true rfl, Nat.le_of_ble_eq_true rfl⟩) rfl hl.1 rfl (Nat.le_of_ble_eq_true rfl) dX7_readFrom_79 (fun r292 w294 H locs hp293 hw => ?_)
                obtain ⟨hT, k295, hv307, hg306⟩ := hp293
                have hF := hF.tr k295 (by decide)
                have c308 := k295.gi kC_at29 (by decide) c277
                have c309 := k295.gi kC_at29 (by decide) c278
                have c310 := k295.gi kC_at29 (by decide) c274
                rcases hg306 with ⟨rfl, ⟨x296, c297, rx296, tx296⟩⟩ | ⟨rfl, ⟨x298, c299, rx298, tx298⟩⟩ | ⟨rfl, ⟨x300, c301, rx300, tx300⟩, ⟨x302, c303, rx302, tx302⟩, ⟨x304, c305, rx304, tx304⟩⟩
                · replace hM := hM.call (r' := 0) hv307 (by decide)
                  refine lv_istore_n (lv' := [(2, .int 0), (4, .int r53), (0, .ref (ad 29)), (1, .ref (ad 1)), (3, .int v28_3)]) hx hb dX7_readFrom_82 rfl hl (by decide) rfl (fun ls hl => ?_)
                  obtain ⟨x311, ex311⟩ : ∃ y : Int32, y = v28_3 + Int32.ofInt 1 := ⟨_, rfl⟩
                  have erx311 := ex311
                  refine lv_iinc (v := x311) (lv' := [(3, .int x311), (2, .int 0), (4, .int r53), (0, .ref (ad 29)), (1, .ref (ad 1))]) hx hb dX7_readFrom_83 hl (k := 4) rfl ex311.symm (by decide) rfl (fun ls hl => ?_)
                  have ex311 : x311.toInt = v28_3.toInt + 1 := by rw [ex311]; exact wk_add (y := 1) (show -2147483648 ≤ v28_3.toInt + 1 by omega) (show v28_3.toInt + 1 ≤ 2147483647 by omega)
                  replace hM := hM.lt ex311.symm
                  refine lv_goto (tgt := 28) hx hb dX7_readFrom_86 (by decide) ?_
                  exact ih28 0 x311 x296 f28_29_10 x273 f28_29_9 H locs ls w294 (by decide) (by decide) (show 0 ≤ x311.toInt by omega) (show x311.toInt ≤ 33 by omega) (show 0 ≤ x296.toInt by omega) (show x296.toInt ≤ 3205 by omega) (show 0 ≤ f28_29_10.toInt from r42) (show f28_29_10.toInt ≤ 8 from t43) (show 0 ≤ x273.toInt by omega) (show x273.toInt ≤ 4 by omega) (show 0 ≤ f28_29_9.toInt from r48) (show f28_29_9.toInt ≤ 12 from t49) (show (33 - x311.toInt).toNat < n28 by omega) hw hT hF c297 c308 c310 c309 hM (lv_sub hl [3, 4, 1, 0] rfl)
                · replace hM := hM.call (r' := 0) hv307 (by decide)
                  refine lv_istore_n (lv' := [(2, .int 0), (4, .int r53), (0, .ref (ad 29)), (1, .ref (ad 1)), (3, .int v28_3)]) hx hb dX7_readFrom_82 rfl hl (by decide) rfl (fun ls hl => ?_)
                  obtain ⟨x312, ex312⟩ : ∃ y : Int32, y = v28_3 + Int32.ofInt 1 := ⟨_, rfl⟩
                  have erx312 := ex312
                  refine lv_iinc (v := x312) (lv' := [(3, .int x312), (2, .int 0), (4, .int r53), (0, .ref (ad 29)), (1, .ref (ad 1))]) hx hb dX7_readFrom_83 hl (k := 4) rfl ex312.symm (by decide) rfl (fun ls hl => ?_)
                  have ex312 : x312.toInt = v28_3.toInt + 1 := by rw [ex312]; exact wk_add (y := 1) (show -2147483648 ≤ v28_3.toInt + 1 by omega) (show v28_3.toInt + 1 ≤ 2147483647 by omega)
                  replace hM := hM.lt ex312.symm
                  refine lv_goto (tgt := 28) hx hb dX7_readFrom_86 (by decide) ?_
                  exact ih28 0 x312 x298 f28_29_10 x273 f28_29_9 H locs ls w294 (by decide) (by decide) (show 0 ≤ x312.toInt by omega) (show x312.toInt ≤ 33 by omega) (show 0 ≤ x298.toInt by omega) (show x298.toInt ≤ 3205 by omega) (show 0 ≤ f28_29_10.toInt from r42) (show f28_29_10.toInt ≤ 8 from t43) (show 0 ≤ x273.toInt by omega) (show x273.toInt ≤ 4 by omega) (show 0 ≤ f28_29_9.toInt from r48) (show f28_29_9.toInt ≤ 12 from t49) (show (33 - x312.toInt).toNat < n28 by omega) hw hT hF c299 c308 c310 c309 hM (lv_sub hl [3, 4, 1, 0] rfl)
                · replace hM := hM.call (r' := 1) hv307 (by decide)
                  refine lv_istore_n (lv' := [(2, .int 1), (4, .int r53), (0, .ref (ad 29)), (1, .ref (ad 1)), (3, .int v28_3)]) hx hb dX7_readFrom_82 rfl hl (by decide) rfl (fun ls hl => ?_)
                  obtain ⟨x313, ex313⟩ : ∃ y : Int32, y = v28_3 + Int32.ofInt 1 := ⟨_, rfl⟩
                  have erx313 := ex313
                  refine lv_iinc (v := x313) (lv' := [(3, .int x313), (2, .int 1), (4, .int r53), (0, .ref (ad 29)), (1, .ref (ad 1))]) hx hb dX7_readFrom_83 hl (k := 4) rfl ex313.symm (by decide) rfl (fun ls hl => ?_)
                  have ex313 : x313.toInt = v28_3.toInt + 1 := by rw [ex313]; exact wk_add (y := 1) (show -2147483648 ≤ v28_3.toInt + 1 by omega) (show v28_3.toInt + 1 ≤ 2147483647 by omega)
                  replace hM := hM.lt ex313.symm
                  refine lv_goto (tgt := 28) hx hb dX7_readFrom_86 (by decide) ?_
                  exact ih28 1 x313 x304 f28_29_10 x273 f28_29_9 H locs ls w294 (by decide) (by decide) (show 0 ≤ x313.toInt by omega) (show x313.toInt ≤ 33 by omega) (show 0 ≤ x304.toInt by omega) (show x304.toInt ≤ 3205 by omega) (show 0 ≤ f28_29_10.toInt from r42) (show f28_29_10.toInt ≤ 8 from t43) (show 0 ≤ x273.toInt by omega) (show x273.toInt ≤ 4 by omega) (show 0 ≤ f28_29_9.toInt from r48) (show f28_29_9.toInt ≤ 12 from t49) (show (33 - x313.toInt).toNat < n28 by omega) hw hT hF c305 c308 c310 c309 hM (lv_sub hl [3, 4, 1, 0] rfl)
            · replace hM := hM.call (r' := 1) hv107 (by decide)
              refine lv_if_eq (tgt := 71) hx hb dX7_readFrom_59 (by decide) (fun c => absurd c (by decide)) (fun _ => ?_)
              replace hM := hM.neg (by decide)
              refine lv_aload_n hx hb dX7_readFrom_62 rfl (lv_at hl 2 rfl) ?_
              refine lv_aload_n hx hb dX7_readFrom_63 rfl (lv_at hl 2 rfl) ?_
              refine tk_geti hC hK hw hT hinX6 kC_at1 (by decide) rfl 3 (by decide) (List.mem_cons_of_mem _ uw_9_11) rfl rfl dX7_readFrom_64 (fun x314 c315 rx314 tx314 => ?_)
              replace hM := hM.rd (sI_at c315)
              refine lv_iconst (v := 4) hx hb dX7_readFrom_67 (by decide) ?_
              refine tk_Vv hC hK hw hT hA hE hSR kC_at1 (by decide) rfl (kz_X6_blame_1 l adK adV dC dI cy ad B (by omega) (by omega) qr s1   x314 (show 0 ≤ x314.toInt from rx314) (show x314.toInt ≤ 400 from tx314) 4 (by decide) (by decide) w68 H.size hT ) (cwV 2 hC.2.2.2.2 uV_RX7_73 rfl rfl rfl (by decide +kernel) ⟨Nat.le_of_ble_eq_true rfl, Nat.le_of_ble_eq_true rfl⟩) rfl hl.1 rfl (Nat.le_of_ble_eq_true rfl) dX7_readFrom_68 (fun w318 H locs hp317 hw => ?_)
              obtain ⟨hT, k319, hv323, hg322⟩ := hp317
              try simp only [show (4 : Int32).toInt = 4 by decide] at hv323
              have hF := hF.tr k319 (by decide)
              have c324 := k319.gi kC_at29 (by decide) c108
              have c325 := k319.gi kC_at29 (by decide) c109
              have c326 := k319.gi kC_at29 (by decide) c110
              have c327 := k319.gi kC_at1 (by decide) c315
              obtain ⟨x320, c321, rx320, tx320⟩ := hg322
              replace hM := hM.call hv323 rfl
              refine lv_aload_n hx hb dX7_readFrom_71 rfl (lv_at hl 1 rfl) ?_
              refine lv_aload_n hx hb dX7_readFrom_72 rfl (lv_at hl 2 rfl) ?_
              refine lv_iload hx hb dX7_readFrom_73 (lv_at hl 0 rfl) ?_
              refine tk_Vv hC hK hw hT hA hE hSR kC_at29 (by decide) rfl (kz_X7_readClause_5 l adK adV dC dI cy ad B (by omega) (by omega) qr s1   r53 (show 0 ≤ r53.toInt by omega) (show r53.toInt ≤ 26 by omega) w318 H.size hT x320 c321 (show 1 ≤ x320.toInt by omega) (show x320.toInt ≤ 3205 by omega)) (cwV 2 hC.2.2.2.2 uV_RX7_77 rfl rfl rfl (by decide +kernel) ⟨Nat.le_of_ble_eq_true rfl, Nat.le_of_ble_eq_true rfl⟩) rfl hl.1 rfl (Nat.le_of_ble_eq_true rfl) dX7_readFrom_75 (fun w330 H locs hp329 hw => ?_)
              obtain ⟨hT, k331, hv335, hg334⟩ := hp329
              have hF := hF.tr k331 (by decide)
              have c336 := k331.gi kC_at29 (by decide) c324
              have c337 := k331.gi kC_at29 (by decide) c325
              have c338 := k331.gi kC_at29 (by decide) c326
              have c339 := k331.gi kC_at1 (by decide) c327
              have c340 := k331.gi kC_at1 (by decide) c321
              obtain ⟨x332, c333, rx332, tx332⟩ := hg334
              replace hM := hM.call hv335 rfl
              have ex332 : x332.toInt = x320.toInt := by rw [← c340.symm.trans c333]
              refine lv_aload_n hx hb dX7_readFrom_78 rfl (lv_at hl 2 rfl) ?_
              refine tk_Vi hC hK hw hT hA hE hSR kC_at1 (by decide) rfl (kz_X6_takeSemicolon_1 l adK adV dC dI cy ad B (by omega) (by omega) qr s1    w330 H.size hT x320 c340 (show 1 ≤ x320.toInt by omega) (show x320.toInt ≤ 3205 by omega)) (cwV 0 hC.2.2.2.2 uV_RX7_81 rfl rfl rfl (by decide +kernel) ⟨Nat.le_of_ble_eq_true rfl, Nat.le_of_ble_eq_true rfl⟩) rfl hl.1 rfl (Nat.le_of_ble_eq_true rfl) dX7_readFrom_79 (fun r341 w343 H locs hp342 hw => ?_)
              obtain ⟨hT, k344, hv348, hg347⟩ := hp342
              have hF := hF.tr k344 (by decide)
              have c349 := k344.gi kC_at29 (by decide) c336
              have c350 := k344.gi kC_at29 (by decide) c337
              have c351 := k344.gi kC_at29 (by decide) c338
              have c352 := k344.gi kC_at1 (by decide) c339
              have c353 := k344.gi kC_at1 (by decide) c340
              obtain ⟨rfl, ⟨x345, c346, rx345, tx345⟩⟩ := hg347
              replace hM := hM.call (r' := 0) hv348 (by decide)
              have ex345 : x345.toInt = x320.toInt := by rw [← c353.symm.trans c346]
              refine lv_istore_n (lv' := [(2, .int 0), (4, .int r53), (0, .ref (ad 29)), (1, .ref (ad 1)), (3, .int v28_3)]) hx hb dX7_readFrom_82 rfl hl (by decide) rfl (fun ls hl => ?_)
              obtain ⟨x354, ex354⟩ : ∃ y : Int32, y = v28_3 + Int32.ofInt 1 := ⟨_, rfl⟩
              have erx354 := ex354
              refine lv_iinc (v := x354) (lv' := [(3, .int x354), (2, .int 0), (4, .int r53), (0, .ref (ad 29)), (1, .ref (ad 1))]) hx hb dX7_readFrom_83 hl (k := 4) rfl ex354.symm (by decide) rfl (fun ls hl => ?_)
              have ex354 : x354.toInt = v28_3.toInt + 1 := by rw [ex354]; exact wk_add (y := 1) (show -2147483648 ≤ v28_3.toInt + 1 by omega) (show v28_3.toInt + 1 ≤ 2147483647 by omega)
              replace hM := hM.lt ex354.symm
              refine lv_goto (tgt := 28) hx hb dX7_readFrom_86 (by decide) ?_
              exact ih28 0 x354 x320 f28_29_10 f28_29_11 f28_29_9 H locs ls w343 (by decide) (by decide) (show 0 ≤ x354.toInt by omega) (show x354.toInt ≤ 33 by omega) (show 0 ≤ x320.toInt by omega) (show x320.toInt ≤ 3205 by omega) (show 0 ≤ f28_29_10.toInt from r42) (show f28_29_10.toInt ≤ 8 from t43) (show 0 ≤ f28_29_11.toInt from r45) (show f28_29_11.toInt ≤ 4 from t46) (show 0 ≤ f28_29_9.toInt from r48) (show f28_29_9.toInt ≤ 12 from t49) (show (33 - x354.toInt).toNat < n28 by omega) hw hT hF c353 c349 c350 c351 hM (lv_sub hl [3, 4, 1, 0] rfl)
            · replace hM := hM.call (r' := 1) hv107 (by decide)
              have ex93 : x93.toInt = f28_29_9.toInt := by rw [← c110.symm.trans c94]
              refine lv_if_eq (tgt := 71) hx hb dX7_readFrom_59 (by decide) (fun c => absurd c (by decide)) (fun _ => ?_)
              replace hM := hM.neg (by decide)
              refine lv_aload_n hx hb dX7_readFrom_62 rfl (lv_at hl 2 rfl) ?_
              refine lv_aload_n hx hb dX7_readFrom_63 rfl (lv_at hl 2 rfl) ?_
              refine tk_geti hC hK hw hT hinX6 kC_at1 (by decide) rfl 3 (by decide) (List.mem_cons_of_mem _ uw_9_11) rfl rfl dX7_readFrom_64 (fun x355 c356 rx355 tx355 => ?_)
              replace hM := hM.rd (sI_at c356)
              refine lv_iconst (v := 4) hx hb dX7_readFrom_67 (by decide) ?_
              refine tk_Vv hC hK hw hT hA hE hSR kC_at1 (by decide) rfl (kz_X6_blame_1 l adK adV dC dI cy ad B (by omega) (by omega) qr s1   x355 (show 0 ≤ x355.toInt from rx355) (show x355.toInt ≤ 400 from tx355) 4 (by decide) (by decide) w68 H.size hT ) (cwV 2 hC.2.2.2.2 uV_RX7_73 rfl rfl rfl (by decide +kernel) ⟨Nat.le_of_ble_eq_true rfl, Nat.le_of_ble_eq_true rfl⟩) rfl hl.1 rfl (Nat.le_of_ble_eq_true rfl) dX7_readFrom_68 (fun w359 H locs hp358 hw => ?_)
              obtain ⟨hT, k360, hv364, hg363⟩ := hp358
              try simp only [show (4 : Int32).toInt = 4 by decide] at hv364
              have hF := hF.tr k360 (by decide)
              have c365 := k360.gi kC_at29 (by decide) c108
              have c366 := k360.gi kC_at29 (by decide) c109
              have c367 := k360.gi kC_at29 (by decide) c110
              have c368 := k360.gi kC_at1 (by decide) c356
              obtain ⟨x361, c362, rx361, tx361⟩ := hg363
              replace hM := hM.call hv364 rfl
              refine lv_aload_n hx hb dX7_readFrom_71 rfl (lv_at hl 1 rfl) ?_
              refine lv_aload_n hx hb dX7_readFrom_72 rfl (lv_at hl 2 rfl) ?_
              refine lv_iload hx hb dX7_readFrom_73 (lv_at hl 0 rfl) ?_
              obtain rfl : r53 = 1 := wk_eq.mpr (show r53.toInt = 1 by omega)
              try simp only [show (1 : Int32).toInt = 1 by decide] at hM
              refine tk_Vv hC hK hw hT hA hE hSR kC_at29 (by decide) rfl (kz_X7_readClause_6 l adK adV dC dI cy ad B (by omega) (by omega) qr s1    w359 H.size hT x361 c362 (show 1 ≤ x361.toInt by omega) (show x361.toInt ≤ 3205 by omega) (c367.trans (wk_eq.mpr (show f28_29_9.toInt = 12 by omega)))) (cwV 2 hC.2.2.2.2 uV_RX7_77 rfl rfl rfl (by decide +kernel) ⟨Nat.le_of_ble_eq_true rfl, Nat.le_of_ble_eq_true rfl⟩) rfl hl.1 rfl (Nat.le_of_ble_eq_true rfl) dX7_readFrom_75 (fun w371 H locs hp370 hw => ?_)
              obtain ⟨hT, k372, hv378, hg377⟩ := hp370
              have hF := hF.tr k372 (by decide)
              have c379 := k372.gi kC_at29 (by decide) c365
              have c380 := k372.gi kC_at29 (by decide) c366
              have c381 := k372.gi kC_at29 (by decide) c367
              have c382 := k372.gi kC_at1 (by decide) c368
              have c383 := k372.gi kC_at1 (by decide) c362
              obtain ⟨⟨x373, c374, rx373, tx373⟩, ⟨x375, c376, rx375, tx375⟩⟩ := hg377
              replace hM := hM.call hv378 rfl
              have ex373 : x373.toInt = x361.toInt := by rw [← c383.symm.trans c374]
              have ex375 : x375.toInt = f28_29_9.toInt := by rw [← c381.symm.trans c376]
              refine lv_aload_n hx hb dX7_readFrom_78 rfl (lv_at hl 2 rfl) ?_
              refine tk_Vi hC hK hw hT hA hE hSR kC_at1 (by decide) rfl (kz_X6_takeSemicolon_1 l adK adV dC dI cy ad B (by omega) (by omega) qr s1    w371 H.size hT x361 c383 (show 1 ≤ x361.toInt by omega) (show x361.toInt ≤ 3205 by omega)) (cwV 0 hC.2.2.2.2 uV_RX7_81 rfl rfl rfl (by decide +kernel) ⟨Nat.le_of_ble_eq_true rfl, Nat.le_of_ble_eq_true rfl⟩) rfl hl.1 rfl (Nat.le_of_ble_eq_true rfl) dX7_readFrom_79 (fun r384 w386 H locs hp385 hw => ?_)
              obtain ⟨hT, k387, hv391, hg390⟩ := hp385
              have hF := hF.tr k387 (by decide)
              have c392 := k387.gi kC_at29 (by decide) c379
              have c393 := k387.gi kC_at29 (by decide) c380
              have c394 := k387.gi kC_at29 (by decide) c381
              have c395 := k387.gi kC_at1 (by decide) c382
              have c396 := k387.gi kC_at1 (by decide) c383
              obtain ⟨rfl, ⟨x388, c389, rx388, tx388⟩⟩ := hg390
              replace hM := hM.call (r' := 0) hv391 (by decide)
              have ex388 : x388.toInt = x361.toInt := by rw [← c396.symm.trans c389]
              refine lv_istore_n (lv' := [(2, .int 0), (4, .int 1), (0, .ref (ad 29)), (1, .ref (ad 1)), (3, .int v28_3)]) hx hb dX7_readFrom_82 rfl hl (by decide) rfl (fun ls hl => ?_)
              obtain ⟨x397, ex397⟩ : ∃ y : Int32, y = v28_3 + Int32.ofInt 1 := ⟨_, rfl⟩
              have erx397 := ex397
              refine lv_iinc (v := x397) (lv' := [(3, .int x397), (2, .int 0), (4, .int 1), (0, .ref (ad 29)), (1, .ref (ad 1))]) hx hb dX7_readFrom_83 hl (k := 4) rfl ex397.symm (by decide) rfl (fun ls hl => ?_)
              have ex397 : x397.toInt = v28_3.toInt + 1 := by rw [ex397]; exact wk_add (y := 1) (show -2147483648 ≤ v28_3.toInt + 1 by omega) (show v28_3.toInt + 1 ≤ 2147483647 by omega)
              replace hM := hM.lt ex397.symm
              refine lv_goto (tgt := 28) hx hb dX7_readFrom_86 (by decide) ?_
              exact ih28 0 x397 x361 f28_29_10 f28_29_11 f28_29_9 H locs ls w386 (by decide) (by decide) (show 0 ≤ x397.toInt by omega) (show x397.toInt ≤ 33 by omega) (show 0 ≤ x361.toInt by omega) (show x361.toInt ≤ 3205 by omega) (show 0 ≤ f28_29_10.toInt from r42) (show f28_29_10.toInt ≤ 8 from t43) (show 0 ≤ f28_29_11.toInt from r45) (show f28_29_11.toInt ≤ 4 from t46) (show 0 ≤ f28_29_9.toInt from r48) (show f28_29_9.toInt ≤ 12 from t49) (show (33 - x397.toInt).toNat < n28 by omega) hw hT hF c396 c392 c393 c394 hM (lv_sub hl [3, 4, 1, 0] rfl)
            · replace hM := hM.call (r' := 1) hv107 (by decide)
              have ex99 : x99.toInt = f28_29_10.toInt := by rw [← c108.symm.trans c100]
              refine lv_if_eq (tgt := 71) hx hb dX7_readFrom_59 (by decide) (fun c => absurd c (by decide)) (fun _ => ?_)
              replace hM := hM.neg (by decide)
              refine lv_aload_n hx hb dX7_readFrom_62 rfl (lv_at hl 2 rfl) ?_
              refine lv_aload_n hx hb dX7_readFrom_63 rfl (lv_at hl 2 rfl) ?_
              refine tk_geti hC hK hw hT hinX6 kC_at1 (by decide) rfl 3 (by decide) (List.mem_cons_of_mem _ uw_9_11) rfl rfl dX7_readFrom_64 (fun x398 c399 rx398 tx398 => ?_)
              replace hM := hM.rd (sI_at c399)
              refine lv_iconst (v := 4) hx hb dX7_readFrom_67 (by decide) ?_
              refine tk_Vv hC hK hw hT hA hE hSR kC_at1 (by decide) rfl (kz_X6_blame_1 l adK adV dC dI cy ad B (by omega) (by omega) qr s1   x398 (show 0 ≤ x398.toInt from rx398) (show x398.toInt ≤ 400 from tx398) 4 (by decide) (by decide) w68 H.size hT ) (cwV 2 hC.2.2.2.2 uV_RX7_73 rfl rfl rfl (by decide +kernel) ⟨Nat.le_of_ble_eq_true rfl, Nat.le_of_ble_eq_true rfl⟩) rfl hl.1 rfl (Nat.le_of_ble_eq_true rfl) dX7_readFrom_68 (fun w402 H locs hp401 hw => ?_)
              obtain ⟨hT, k403, hv407, hg406⟩ := hp401
              try simp only [show (4 : Int32).toInt = 4 by decide] at hv407
              have hF := hF.tr k403 (by decide)
              have c408 := k403.gi kC_at29 (by decide) c108
              have c409 := k403.gi kC_at29 (by decide) c109
              have c410 := k403.gi kC_at29 (by decide) c110
              have c411 := k403.gi kC_at1 (by decide) c399
              obtain ⟨x404, c405, rx404, tx404⟩ := hg406
              replace hM := hM.call hv407 rfl
              refine lv_aload_n hx hb dX7_readFrom_71 rfl (lv_at hl 1 rfl) ?_
              refine lv_aload_n hx hb dX7_readFrom_72 rfl (lv_at hl 2 rfl) ?_
              refine lv_iload hx hb dX7_readFrom_73 (lv_at hl 0 rfl) ?_
              obtain rfl : r53 = 2 := wk_eq.mpr (show r53.toInt = 2 by omega)
              try simp only [show (2 : Int32).toInt = 2 by decide] at hM
              refine tk_Vv hC hK hw hT hA hE hSR kC_at29 (by decide) rfl (kz_X7_readClause_7 l adK adV dC dI cy ad B (by omega) (by omega) qr s1    w402 H.size hT x404 c405 (show 1 ≤ x404.toInt by omega) (show x404.toInt ≤ 3205 by omega) (c408.trans (wk_eq.mpr (show f28_29_10.toInt = 8 by omega)))) (cwV 2 hC.2.2.2.2 uV_RX7_77 rfl rfl rfl (by decide +kernel) ⟨Nat.le_of_ble_eq_true rfl, Nat.le_of_ble_eq_true rfl⟩) rfl hl.1 rfl (Nat.le_of_ble_eq_true rfl) dX7_readFrom_75 (fun w414 H locs hp413 hw => ?_)
              obtain ⟨hT, k415, hv421, hg420⟩ := hp413
              have hF := hF.tr k415 (by decide)
              have c422 := k415.gi kC_at29 (by decide) c408
              have c423 := k415.gi kC_at29 (by decide) c409
              have c424 := k415.gi kC_at29 (by decide) c410
              have c425 := k415.gi kC_at1 (by decide) c411
              have c426 := k415.gi kC_at1 (by decide) c405
              obtain ⟨⟨x416, c417, rx416, tx416⟩, ⟨x418, c419, rx418, tx418⟩⟩ := hg420
              replace hM := hM.call hv421 rfl
              have ex416 : x416.toInt = x404.toInt := by rw [← c426.symm.trans c417]
              have ex418 : x418.toInt = f28_29_10.toInt := by rw [← c422.symm.trans c419]
              refine lv_aload_n hx hb dX7_readFrom_78 rfl (lv_at hl 2 rfl) ?_
              refine tk_Vi hC hK hw hT hA hE hSR kC_at1 (by decide) rfl (kz_X6_takeSemicolon_1 l adK adV dC dI cy ad B (by omega) (by omega) qr s1    w414 H.size hT x404 c426 (show 1 ≤ x404.toInt by omega) (show x404.toInt ≤ 3205 by omega)) (cwV 0 hC.2.2.2.2 uV_RX7_81 rfl rfl rfl (by decide +kernel) ⟨Nat.le_of_ble_eq_true rfl, Nat.le_of_ble_eq_true rfl⟩) rfl hl.1 rfl (Nat.le_of_ble_eq_true rfl) dX7_readFrom_79 (fun r427 w429 H locs hp428 hw => ?_)
              obtain ⟨hT, k430, hv434, hg433⟩ := hp428
              have hF := hF.tr k430 (by decide)
              have c435 := k430.gi kC_at29 (by decide) c422
              have c436 := k430.gi kC_at29 (by decide) c423
              have c437 := k430.gi kC_at29 (by decide) c424
              have c438 := k430.gi kC_at1 (by decide) c425
              have c439 := k430.gi kC_at1 (by decide) c426
              obtain ⟨rfl, ⟨x431, c432, rx431, tx431⟩⟩ := hg433
              replace hM := hM.call (r' := 0) hv434 (by decide)
              have ex431 : x431.toInt = x404.toInt := by rw [← c439.symm.trans c432]
              refine lv_istore_n (lv' := [(2, .int 0), (4, .int 2), (0, .ref (ad 29)), (1, .ref (ad 1)), (3, .int v28_3)]) hx hb dX7_readFrom_82 rfl hl (by decide) rfl (fun ls hl => ?_)
              obtain ⟨x440, ex440⟩ : ∃ y : Int32, y = v28_3 + Int32.ofInt 1 := ⟨_, rfl⟩
              have erx440 := ex440
              refine lv_iinc (v := x440) (lv' := [(3, .int x440), (2, .int 0), (4, .int 2), (0, .ref (ad 29)), (1, .ref (ad 1))]) hx hb dX7_readFrom_83 hl (k := 4) rfl ex440.symm (by decide) rfl (fun ls hl => ?_)
              have ex440 : x440.toInt = v28_3.toInt + 1 := by rw [ex440]; exact wk_add (y := 1) (show -2147483648 ≤ v28_3.toInt + 1 by omega) (show v28_3.toInt + 1 ≤ 2147483647 by omega)
              replace hM := hM.lt ex440.symm
              refine lv_goto (tgt := 28) hx hb dX7_readFrom_86 (by decide) ?_
              exact ih28 0 x440 x404 f28_29_10 f28_29_11 f28_29_9 H locs ls w429 (by decide) (by decide) (show 0 ≤ x440.toInt by omega) (show x440.toInt ≤ 33 by omega) (show 0 ≤ x404.toInt by omega) (show x404.toInt ≤ 3205 by omega) (show 0 ≤ f28_29_10.toInt from r42) (show f28_29_10.toInt ≤ 8 from t43) (show 0 ≤ f28_29_11.toInt from r45) (show f28_29_11.toInt ≤ 4 from t46) (show 0 ≤ f28_29_9.toInt from r48) (show f28_29_9.toInt ≤ 12 from t49) (show (33 - x440.toInt).toNat < n28 by omega) hw hT hF c439 c435 c436 c437 hM (lv_sub hl [3, 4, 1, 0] rfl)
            · replace hM := hM.call (r' := 1) hv107 (by decide)
              have ex104 : x104.toInt = f28_29_11.toInt := by rw [← c109.symm.trans c105]
              refine lv_if_eq (tgt := 71) hx hb dX7_readFrom_59 (by decide) (fun c => absurd c (by decide)) (fun _ => ?_)
              replace hM := hM.neg (by decide)
              refine lv_aload_n hx hb dX7_readFrom_62 rfl (lv_at hl 2 rfl) ?_
              refine lv_aload_n hx hb dX7_readFrom_63 rfl (lv_at hl 2 rfl) ?_
              refine tk_geti hC hK hw hT hinX6 kC_at1 (by decide) rfl 3 (by decide) (List.mem_cons_of_mem _ uw_9_11) rfl rfl dX7_readFrom_64 (fun x441 c442 rx441 tx441 => ?_)
              replace hM := hM.rd (sI_at c442)
              refine lv_iconst (v := 4) hx hb dX7_readFrom_67 (by decide) ?_
              refine tk_Vv hC hK hw hT hA hE hSR kC_at1 (by decide) rfl (kz_X6_blame_1 l adK adV dC dI cy ad B (by omega) (by omega) qr s1   x441 (show 0 ≤ x441.toInt from rx441) (show x441.toInt ≤ 400 from tx441) 4 (by decide) (by decide) w68 H.size hT ) (cwV 2 hC.2.2.2.2 uV_RX7_73 rfl rfl rfl (by decide +kernel) ⟨Nat.le_of_ble_eq_true rfl, Nat.le_of_ble_eq_true rfl⟩) rfl hl.1 rfl (Nat.le_of_ble_eq_true rfl) dX7_readFrom_68 (fun w445 H locs hp444 hw => ?_)
              obtain ⟨hT, k446, hv450, hg449⟩ := hp444
              try simp only [show (4 : Int32).toInt = 4 by decide] at hv450
              have hF := hF.tr k446 (by decide)
              have c451 := k446.gi kC_at29 (by decide) c108
              have c452 := k446.gi kC_at29 (by decide) c109
              have c453 := k446.gi kC_at29 (by decide) c110
              have c454 := k446.gi kC_at1 (by decide) c442
              obtain ⟨x447, c448, rx447, tx447⟩ := hg449
              replace hM := hM.call hv450 rfl
              refine lv_aload_n hx hb dX7_readFrom_71 rfl (lv_at hl 1 rfl) ?_
              refine lv_aload_n hx hb dX7_readFrom_72 rfl (lv_at hl 2 rfl) ?_
              refine lv_iload hx hb dX7_readFrom_73 (lv_at hl 0 rfl) ?_
              refine tk_Vv hC hK hw hT hA hE hSR kC_at29 (by decide) rfl (kz_X7_readClause_8 l adK adV dC dI cy ad B (by omega) (by omega) qr s1   r53 (show 3 ≤ r53.toInt by omega) (show r53.toInt ≤ 26 by omega) w445 H.size hT x447 c448 (show 1 ≤ x447.toInt by omega) (show x447.toInt ≤ 3205 by omega) (c452.trans (wk_eq.mpr (show f28_29_11.toInt = 4 by omega)))) (cwV 2 hC.2.2.2.2 uV_RX7_77 rfl rfl rfl (by decide +kernel) ⟨Nat.le_of_ble_eq_true rfl, Nat.le_of_ble_eq_true rfl⟩) rfl hl.1 rfl (Nat.le_of_ble_eq_true rfl) dX7_readFrom_75 (fun w457 H locs hp456 hw => ?_)
              obtain ⟨hT, k458, hv464, hg463⟩ := hp456
              have hF := hF.tr k458 (by decide)
              have c465 := k458.gi kC_at29 (by decide) c451
              have c466 := k458.gi kC_at29 (by decide) c452
              have c467 := k458.gi kC_at29 (by decide) c453
              have c468 := k458.gi kC_at1 (by decide) c454
              have c469 := k458.gi kC_at1 (by decide) c448
              obtain ⟨⟨x459, c460, rx459, tx459⟩, ⟨x461, c462, rx461, tx461⟩⟩ := hg463
              replace hM := hM.call hv464 rfl
              have ex459 : x459.toInt = x447.toInt := by rw [← c469.symm.trans c460]
              have ex461 : x461.toInt = f28_29_11.toInt := by rw [← c466.symm.trans c462]
              refine lv_aload_n hx hb dX7_readFrom_78 rfl (lv_at hl 2 rfl) ?_
              refine tk_Vi hC hK hw hT hA hE hSR kC_at1 (by decide) rfl (kz_X6_takeSemicolon_1 l adK adV dC dI cy ad B (by omega) (by omega) qr s1    w457 H.size hT x447 c469 (show 1 ≤ x447.toInt by omega) (show x447.toInt ≤ 3205 by omega)) (cwV 0 hC.2.2.2.2 uV_RX7_81 rfl rfl rfl (by decide +kernel) ⟨Nat.le_of_ble_eq_true rfl, Nat.le_of_ble_eq_true rfl⟩) rfl hl.1 rfl (Nat.le_of_ble_eq_true rfl) dX7_readFrom_79 (fun r470 w472 H locs hp471 hw => ?_)
              obtain ⟨hT, k473, hv477, hg476⟩ := hp471
              have hF := hF.tr k473 (by decide)
              have c478 := k473.gi kC_at29 (by decide) c465
              have c479 := k473.gi kC_at29 (by decide) c466
              have c480 := k473.gi kC_at29 (by decide) c467
              have c481 := k473.gi kC_at1 (by decide) c468
              have c482 := k473.gi kC_at1 (by decide) c469
              obtain ⟨rfl, ⟨x474, c475, rx474, tx474⟩⟩ := hg476
              replace hM := hM.call (r' := 0) hv477 (by decide)
              have ex474 : x474.toInt = x447.toInt := by rw [← c482.symm.trans c475]
              refine lv_istore_n (lv' := [(2, .int 0), (4, .int r53), (0, .ref (ad 29)), (1, .ref (ad 1)), (3, .int v28_3)]) hx hb dX7_readFrom_82 rfl hl (by decide) rfl (fun ls hl => ?_)
              obtain ⟨x483, ex483⟩ : ∃ y : Int32, y = v28_3 + Int32.ofInt 1 := ⟨_, rfl⟩
              have erx483 := ex483
              refine lv_iinc (v := x483) (lv' := [(3, .int x483), (2, .int 0), (4, .int r53), (0, .ref (ad 29)), (1, .ref (ad 1))]) hx hb dX7_readFrom_83 hl (k := 4) rfl ex483.symm (by decide) rfl (fun ls hl => ?_)
              have ex483 : x483.toInt = v28_3.toInt + 1 := by rw [ex483]; exact wk_add (y := 1) (show -2147483648 ≤ v28_3.toInt + 1 by omega) (show v28_3.toInt + 1 ≤ 2147483647 by omega)
              replace hM := hM.lt ex483.symm
              refine lv_goto (tgt := 28) hx hb dX7_readFrom_86 (by decide) ?_
              exact ih28 0 x483 x447 f28_29_10 f28_29_11 f28_29_9 H locs ls w472 (by decide) (by decide) (show 0 ≤ x483.toInt by omega) (show x483.toInt ≤ 33 by omega) (show 0 ≤ x447.toInt by omega) (show x447.toInt ≤ 3205 by omega) (show 0 ≤ f28_29_10.toInt from r42) (show f28_29_10.toInt ≤ 8 from t43) (show 0 ≤ f28_29_11.toInt from r45) (show f28_29_11.toInt ≤ 4 from t46) (show 0 ≤ f28_29_9.toInt from r48) (show f28_29_9.toInt ≤ 12 from t49) (show (33 - x483.toInt).toNat < n28 by omega) hw hT hF c482 c478 c479 c480 hM (lv_sub hl [3, 4, 1, 0] rfl)
          · replace hM := hM.call (r' := (-1)) hv62 (by decide)
            refine lv_istore (lv' := [(4, .int (-1)), (0, .ref (ad 29)), (1, .ref (ad 1)), (2, .int v28_2), (3, .int v28_3)]) hx hb dX7_readFrom_44 hl (by decide) rfl (fun ls hl => ?_)
            refine lv_iload hx hb dX7_readFrom_46 (lv_at hl 0 rfl) ?_
            refine lv_iconst (v := (-1)) hx hb dX7_readFrom_48 (by decide) ?_
            refine lv_icmp_eq (tgt := 71) hx hb dX7_readFrom_49 (by decide) (fun _ => ?_) (fun c => absurd (by decide) c)
            replace hM := hM.pos (by decide)
            refine lv_aload_n hx hb dX7_readFrom_71 rfl (lv_at hl 1 rfl) ?_
            refine lv_aload_n hx hb dX7_readFrom_72 rfl (lv_at hl 2 rfl) ?_
            refine lv_iload hx hb dX7_readFrom_73 (lv_at hl 0 rfl) ?_
            refine tk_Vv hC hK hw hT hA hE hSR kC_at29 (by decide) rfl (kz_X7_readClause_9 l adK adV dC dI cy ad B (by omega) (by omega) qr s1    w55 H.size hT x59 c60 (show 1 ≤ x59.toInt by omega) (show x59.toInt ≤ 3205 by omega)) (cwV 2 hC.2.2.2.2 uV_RX7_77 rfl rfl rfl (by decide +kernel) ⟨Nat.le_of_ble_eq_true rfl, Nat.le_of_ble_eq_true rfl⟩) rfl hl.1 rfl (Nat.le_of_ble_eq_true rfl) dX7_readFrom_75 (fun w486 H locs hp485 hw => ?_)
            obtain ⟨hT, k487, hv491, hg490⟩ := hp485
            have hF := hF.tr k487 (by decide)
            have c492 := k487.gi kC_at29 (by decide) c63
            have c493 := k487.gi kC_at29 (by decide) c64
            have c494 := k487.gi kC_at29 (by decide) c65
            have c495 := k487.gi kC_at1 (by decide) c60
            obtain ⟨x488, c489, rx488, tx488⟩ := hg490
            replace hM := hM.call hv491 rfl
            have ex488 : x488.toInt = x59.toInt := by rw [← c495.symm.trans c489]
            refine lv_aload_n hx hb dX7_readFrom_78 rfl (lv_at hl 2 rfl) ?_
            refine tk_Vi hC hK hw hT hA hE hSR kC_at1 (by decide) rfl (kz_X6_takeSemicolon_1 l adK adV dC dI cy ad B (by omega) (by omega) qr s1    w486 H.size hT x59 c495 (show 1 ≤ x59.toInt by omega) (show x59.toInt ≤ 3205 by omega)) (cwV 0 hC.2.2.2.2 uV_RX7_81 rfl rfl rfl (by decide +kernel) ⟨Nat.le_of_ble_eq_true rfl, Nat.le_of_ble_eq_true rfl⟩) rfl hl.1 rfl (Nat.le_of_ble_eq_true rfl) dX7_readFrom_79 (fun r496 w498 H locs hp497 hw => ?_)
            obtain ⟨hT, k499, hv503, hg502⟩ := hp497
            have hF := hF.tr k499 (by decide)
            have c504 := k499.gi kC_at29 (by decide) c492
            have c505 := k499.gi kC_at29 (by decide) c493
            have c506 := k499.gi kC_at29 (by decide) c494
            have c507 := k499.gi kC_at1 (by decide) c495
            obtain ⟨rfl, ⟨x500, c501, rx500, tx500⟩⟩ := hg502
            replace hM := hM.call (r' := 0) hv503 (by decide)
            have ex500 : x500.toInt = x59.toInt := by rw [← c507.symm.trans c501]
            refine lv_istore_n (lv' := [(2, .int 0), (4, .int (-1)), (0, .ref (ad 29)), (1, .ref (ad 1)), (3, .int v28_3)]) hx hb dX7_readFrom_82 rfl hl (by decide) rfl (fun ls hl => ?_)
            obtain ⟨x508, ex508⟩ : ∃ y : Int32, y = v28_3 + Int32.ofInt 1 := ⟨_, rfl⟩
            have erx508 := ex508
            refine lv_iinc (v := x508) (lv' := [(3, .int x508), (2, .int 0), (4, .int (-1)), (0, .ref (ad 29)), (1, .ref (ad 1))]) hx hb dX7_readFrom_83 hl (k := 4) rfl ex508.symm (by decide) rfl (fun ls hl => ?_)
            have ex508 : x508.toInt = v28_3.toInt + 1 := by rw [ex508]; exact wk_add (y := 1) (show -2147483648 ≤ v28_3.toInt + 1 by omega) (show v28_3.toInt + 1 ≤ 2147483647 by omega)
            replace hM := hM.lt ex508.symm
            refine lv_goto (tgt := 28) hx hb dX7_readFrom_86 (by decide) ?_
            exact ih28 0 x508 x59 f28_29_10 f28_29_11 f28_29_9 H locs ls w498 (by decide) (by decide) (show 0 ≤ x508.toInt by omega) (show x508.toInt ≤ 33 by omega) (show 0 ≤ x59.toInt by omega) (show x59.toInt ≤ 3205 by omega) (show 0 ≤ f28_29_10.toInt from r42) (show f28_29_10.toInt ≤ 8 from t43) (show 0 ≤ f28_29_11.toInt from r45) (show f28_29_11.toInt ≤ 4 from t46) (show 0 ≤ f28_29_9.toInt from r48) (show f28_29_9.toInt ≤ 12 from t49) (show (33 - x508.toInt).toNat < n28 by omega) hw hT hF c507 c504 c505 c506 hM (lv_sub hl [3, 4, 1, 0] rfl)
  have hM : TT (fun n => m_X7_readFrom n 29 1 (sI w0)) (fun n => m_X7_readFrom n 29 1 (sI w0)) := TT.rf
  refine lv_aload_n hx hb dX7_readFrom_0 rfl (lv_at hl 0 rfl) ?_
  refine lv_iconst (v := 0) hx hb dX7_readFrom_1 (by decide) ?_
  refine tk_puti hC hK hw hT hinX7 tyX7_ok nmX7 kC_at29 (by decide) rfl rfl 8 (by decide) (List.mem_cons_of_mem _ uw_9_7) rfl rfl rfl rfl (by decide) (by decide) dX7_readFrom_2 (fun H locs w509 hw hT k511 c510 => ?_)
  replace hM := hM.wr (sI_upc k511 c510 (by decide))
  have hF := hF.put kC_at29 (k := 8) (by decide) k511
  refine lv_aload_n hx hb dX7_readFrom_5 rfl (lv_at hl 0 rfl) ?_
  refine lv_iconst (v := 0) hx hb dX7_readFrom_6 (by decide) ?_
  refine tk_puti hC hK hw hT hinX7 tyX7_ok nmX7 kC_at29 (by decide) rfl rfl 9 (by decide) (List.mem_cons_of_mem _ uw_9_8) rfl rfl rfl rfl (by decide) (by decide) dX7_readFrom_7 (fun H locs w512 hw hT k514 c513 => ?_)
  replace hM := hM.wr (sI_upc k514 c513 (by decide))
  have hF := hF.put kC_at29 (k := 9) (by decide) k514
  have c515 := k514.gi (Or.inr (by decide)) c510
  refine lv_aload_n hx hb dX7_readFrom_10 rfl (lv_at hl 0 rfl) ?_
  refine lv_iconst (v := 0) hx hb dX7_readFrom_11 (by decide) ?_
  refine tk_puti hC hK hw hT hinX7 tyX7_ok nmX7 kC_at29 (by decide) rfl rfl 10 (by decide) (List.mem_cons_of_mem _ uw_9_9) rfl rfl rfl rfl (by decide) (by decide) dX7_readFrom_12 (fun H locs w516 hw hT k518 c517 => ?_)
  replace hM := hM.wr (sI_upc k518 c517 (by decide))
  have hF := hF.put kC_at29 (k := 10) (by decide) k518
  have c519 := k518.gi (Or.inr (by decide)) c515
  have c520 := k518.gi (Or.inr (by decide)) c513
  refine lv_aload_n hx hb dX7_readFrom_15 rfl (lv_at hl 0 rfl) ?_
  refine lv_iconst (v := 0) hx hb dX7_readFrom_16 (by decide) ?_
  refine tk_puti hC hK hw hT hinX7 tyX7_ok nmX7 kC_at29 (by decide) rfl rfl 11 (by decide) (List.mem_cons_of_mem _ uw_9_10) rfl rfl rfl rfl (by decide) (by decide) dX7_readFrom_17 (fun H locs w521 hw hT k523 c522 => ?_)
  replace hM := hM.wr (sI_upc k523 c522 (by decide))
  have hF := hF.put kC_at29 (k := 11) (by decide) k523
  have c524 := k523.gi (Or.inr (by decide)) c519
  have c525 := k523.gi (Or.inr (by decide)) c520
  have c526 := k523.gi (Or.inr (by decide)) c517
  refine lv_aload_n hx hb dX7_readFrom_20 rfl (lv_at hl 1 rfl) ?_
  refine tk_Vv hC hK hw hT hA hE hSR kC_at1 (by decide) rfl (kz_X6_startReading_1 l adK adV dC dI cy ad B (by omega) (by omega) qr s1    w521 H.size hT ) (cwV 0 hC.2.2.2.2 uV_RX7_55 rfl rfl rfl (by decide +kernel) ⟨Nat.le_of_ble_eq_true rfl, Nat.le_of_ble_eq_true rfl⟩) rfl hl.1 rfl (Nat.le_of_ble_eq_true rfl) dX7_readFrom_21 (fun w529 H locs hp528 hw => ?_)
  obtain ⟨hT, k530, hv538, hg537⟩ := hp528
  have hF := hF.tr k530 (by decide)
  have c539 := k530.gi kC_at29 (by decide) c524
  have c540 := k530.gi kC_at29 (by decide) c525
  have c541 := k530.gi kC_at29 (by decide) c526
  have c542 := k530.gi kC_at29 (by decide) c522
  obtain ⟨⟨x531, c532, rx531, tx531⟩, ⟨x533, c534, rx533, tx533⟩, ⟨x535, c536, rx535, tx535⟩⟩ := hg537
  replace hM := hM.call hv538 rfl
  refine lv_iconst (v := 1) hx hb dX7_readFrom_24 (by decide) ?_
  refine lv_istore_n (lv' := [(2, .int 1), (0, .ref (ad 29)), (1, .ref (ad 1))]) hx hb dX7_readFrom_25 rfl hl (by decide) rfl (fun ls hl => ?_)
  refine lv_iconst (v := 0) hx hb dX7_readFrom_26 (by decide) ?_
  refine lv_istore_n (lv' := [(3, .int 0), (2, .int 1), (0, .ref (ad 29)), (1, .ref (ad 1))]) hx hb dX7_readFrom_27 rfl hl (by decide) rfl (fun ls hl => ?_)
  exact L28 ((33 - (0 : Int)).toNat + 1) 1 0 x535 0 0 0 H locs ls w529 (by decide) (by decide) (by decide) (by decide) (show 0 ≤ x535.toInt by omega) (show x535.toInt ≤ 3205 by omega) (by decide) (by decide) (by decide) (by decide) (by decide) (by decide) (Nat.lt_succ_self _) hw hT hF c536 c541 c542 c540 hM (lv_sub hl [2, 3, 1, 0] rfl)
abbrev Pz_X7_copyFrom_1 (ad : Nat → Nat) (cy : Nat → ClassId) (B : Int) (qr : Nat) (s1 : Int)  (w0 : va_W) : va_W → Prop := fun u => TW ksC ad cy B qr s1 u ∧ FE ksC [(7, 8, 8), (7, 9, 9), (7, 10, 10), (7, 11, 11), (24, 0, 100000), (25, 0, 100000), (26, 0, 100000), (27, 0, 100000), (28, 0, 100000), (29, 0, 100000), (30, 0, 100000), (31, 0, 100000)] w0 u ∧ Ev (fun n => m_X7_copyFrom n 39 29 (sI w0)) (0, sI u) ∧ (((∃ y : Int32, gi u 29 9 = y ∧ 0 ≤ y.toInt ∧ y.toInt ≤ 12) ∧ (∃ y : Int32, gi u 29 10 = y ∧ 0 ≤ y.toInt ∧ y.toInt ≤ 8) ∧ (∃ y : Int32, gi u 29 11 = y ∧ 0 ≤ y.toInt ∧ y.toInt ≤ 4)))
set_option maxHeartbeats 4000000 in
set_option maxRecDepth 100000 in
theorem kz_X7_copyFrom_1 (l : Launch) (adK adV : Nat → Nat) (dC : Nat → ClassId) (dI : Nat → Nat → Nat) (cy : Nat → ClassId) (ad : Nat → Nat) (B : Int) (hB0 : 2147483648 ≤ B) (hB1 : B ≤ 1152921504606846976) (qr : Nat) (s1 : Int)   (w0 : va_W) (sz : Nat) (hT : TW ksC ad cy B qr s1 w0)  : Met l yX7_copyFrom (wu yX7_copyFrom cX7_copyFrom 2 none) ({ frames := 1, cells := 0, slots := 0, locals := 60 }) (va_Pc [.ref (ad 39), .ref (ad 29)] (wpreS adK adV dC dI cy sz w0)) (va_Qv (Pz_X7_copyFrom_1 ad cy B qr s1  w0) (fun u : va_W => wpost dC dI cy (va_A w0 sz) u) (va_A w0 sz)) 0 0 (va_A w0 sz) := by
  refine Met.ofW (cc := cX7_copyFrom) (maxL := 2) (ret := none) (by decide) rfl ?_
  intro p e s m args below meth c s₁ Bk hml hv
  obtain ⟨rfl, ⟨hsz, hP, hK, hD0⟩, hE, hSR⟩ := hv
  have hx := Bk.exec
  have hb := Bk.bytes
  have hr := Bk.returns
  have hlocks := Bk.notSynchronized
  have hC : CallFix p m c cX7_copyFrom 2 s _ (wu yX7_copyFrom cX7_copyFrom 2 none) RX7 := ⟨hx, hb, hml, findClass_of_methodNamed Bk.named, atoms_spec (ws := (wu yX7_copyFrom cX7_copyFrom 2 none)) Bk.pre⟩
  subst hsz
  have hD := hD0.self (sz := s.heap.size)
  generalize hAe : va_A w0 s.heap.size = A at hD hE ⊢
  have hA : ∀ q : Nat, s.heap.size ≤ q → A q := fun q h => by rw [← hAe]; exact Or.inr h
  have hw : Wd dC dI A s.heap s.heap [] w0 := ⟨hP, hD, va_S.rf⟩
  have hF : FE ksC [(7, 8, 8), (7, 9, 9), (7, 10, 10), (7, 11, 11), (24, 0, 100000), (25, 0, 100000), (26, 0, 100000), (27, 0, 100000), (28, 0, 100000), (29, 0, 100000), (30, 0, 100000), (31, 0, 100000)] w0 w0 := FE.rf
  have hl := lv_entry ([.ref (ad 39), .ref (ad 29)]) (n := 2) (Nat.le_of_ble_eq_true rfl)
  rw [lg_entry_eq]
  generalize (lg_sl ([.ref (ad 39), .ref (ad 29)]) ++ List.replicate (2 - (lg_sl ([.ref (ad 39), .ref (ad 29)])).length) Slot.unset).toArray = ls at hl ⊢
  have hl : lv_has ls 2 [(0, .ref (ad 39)), (1, .ref (ad 29))] := hl
  generalize hloc : ([] : List Loc) = locs at hw ⊢
  have hinX7 : ∀ w ∈ u_ws RX7 TX7 12, w ∈ (wu yX7_copyFrom cX7_copyFrom 2 none) := fun _ h => List.mem_cons_of_mem _ (up_73 h)
  have hM : TT (fun n => m_X7_copyFrom n 39 29 (sI w0)) (fun n => m_X7_copyFrom n 39 29 (sI w0)) := TT.rf
  refine lv_aload_n hx hb dX7_copyFrom_0 rfl (lv_at hl 1 rfl) ?_
  refine tk_getO hC hK hw hT hinX7 kC_at29 (by decide) rfl 0 (by decide) (List.mem_cons_of_mem _ uw_2_17) rfl rfl dX7_copyFrom_1 ?_
  refine lv_iconst (v := 0) hx hb dX7_copyFrom_4 (by decide) ?_
  refine lv_aload_n hx hb dX7_copyFrom_5 rfl (lv_at hl 0 rfl) ?_
  refine tk_getO hC hK hw hT hinX7 kC_at39 (by decide) rfl 0 (by decide) (List.mem_cons_of_mem _ uw_2_17) rfl rfl dX7_copyFrom_6 ?_
  refine lv_iconst (v := 0) hx hb dX7_copyFrom_9 (by decide) ?_
  refine lv_aload_n hx hb dX7_copyFrom_10 rfl (lv_at hl 0 rfl) ?_
  refine tk_getO hC hK hw hT hinX7 kC_at39 (by decide) rfl 0 (by decide) (List.mem_cons_of_mem _ uw_2_17) rfl rfl dX7_copyFrom_11 ?_
  refine tk_alen (v := 26) hC hK hw hT kC_at40 rfl (by decide) rfl (by decide) dX7_copyFrom_14 ?_
  refine tk_copyx hC hK hw hT hl.1 (List.mem_cons_of_mem _ uw_18_19) (List.mem_cons_of_mem _ uw_18_20) (List.mem_cons_of_mem _ uw_18_21) (List.mem_cons_of_mem _ uw_18_22) kC_at30 kC_at40 (by decide) rfl rfl rfl rfl (by decide) (by decide) rfl rfl (by decide) (by decide) (by decide) (by decide) (by decide) (by decide) (Nat.le_of_ble_eq_true rfl) (by decide +kernel) dX7_copyFrom_15 (fun H locs w1 hw hT k2 hcp => ?_)
  replace hM := hM.cp hcp
  have hF := hF.tr k2 (by decide)
  refine lv_aload_n hx hb dX7_copyFrom_18 rfl (lv_at hl 1 rfl) ?_
  refine tk_getO hC hK hw hT hinX7 kC_at29 (by decide) rfl 1 (by decide) (List.mem_cons_of_mem _ uw_2_18) rfl rfl dX7_copyFrom_19 ?_
  refine lv_iconst (v := 0) hx hb dX7_copyFrom_22 (by decide) ?_
  refine lv_aload_n hx hb dX7_copyFrom_23 rfl (lv_at hl 0 rfl) ?_
  refine tk_getO hC hK hw hT hinX7 kC_at39 (by decide) rfl 1 (by decide) (List.mem_cons_of_mem _ uw_2_18) rfl rfl dX7_copyFrom_24 ?_
  refine lv_iconst (v := 0) hx hb dX7_copyFrom_27 (by decide) ?_
  refine lv_aload_n hx hb dX7_copyFrom_28 rfl (lv_at hl 0 rfl) ?_
  refine tk_getO hC hK hw hT hinX7 kC_at39 (by decide) rfl 1 (by decide) (List.mem_cons_of_mem _ uw_2_18) rfl rfl dX7_copyFrom_29 ?_
  refine tk_alen (v := 13) hC hK hw hT kC_at41 rfl (by decide) rfl (by decide) dX7_copyFrom_32 ?_
  refine tk_copyx hC hK hw hT hl.1 (List.mem_cons_of_mem _ uw_18_19) (List.mem_cons_of_mem _ uw_18_20) (List.mem_cons_of_mem _ uw_18_21) (List.mem_cons_of_mem _ uw_18_22) kC_at31 kC_at41 (by decide) rfl rfl rfl rfl (by decide) (by decide) rfl rfl (by decide) (by decide) (by decide) (by decide) (by decide) (by decide) (Nat.le_of_ble_eq_true rfl) (by decide +kernel) dX7_copyFrom_33 (fun H locs w3 hw hT k4 hcp => ?_)
  replace hM := hM.cp hcp
  have hF := hF.tr k4 (by decide)
  refine lv_aload_n hx hb dX7_copyFrom_36 rfl (lv_at hl 1 rfl) ?_
  refine tk_getO hC hK hw hT hinX7 kC_at29 (by decide) rfl 2 (by decide) (List.mem_cons_of_mem _ uw_2_19) rfl rfl dX7_copyFrom_37 ?_
  refine lv_iconst (v := 0) hx hb dX7_copyFrom_40 (by decide) ?_
  refine lv_aload_n hx hb dX7_copyFrom_41 rfl (lv_at hl 0 rfl) ?_
  refine tk_getO hC hK hw hT hinX7 kC_at39 (by decide) rfl 2 (by decide) (List.mem_cons_of_mem _ uw_2_19) rfl rfl dX7_copyFrom_42 ?_
  refine lv_iconst (v := 0) hx hb dX7_copyFrom_45 (by decide) ?_
  refine lv_aload_n hx hb dX7_copyFrom_46 rfl (lv_at hl 0 rfl) ?_
  refine tk_getO hC hK hw hT hinX7 kC_at39 (by decide) rfl 2 (by decide) (List.mem_cons_of_mem _ uw_2_19) rfl rfl dX7_copyFrom_47 ?_
  refine tk_alen (v := 91) hC hK hw hT kC_at42 rfl (by decide) rfl (by decide) dX7_copyFrom_50 ?_
  refine tk_copyx hC hK hw hT hl.1 (List.mem_cons_of_mem _ uw_18_19) (List.mem_cons_of_mem _ uw_18_20) (List.mem_cons_of_mem _ uw_18_21) (List.mem_cons_of_mem _ uw_18_22) kC_at32 kC_at42 (by decide) rfl rfl rfl rfl (by decide) (by decide) rfl rfl (by decide) (by decide) (by decide) (by decide) (by decide) (by decide) (Nat.le_of_ble_eq_true rfl) (by decide +kernel) dX7_copyFrom_51 (fun H locs w5 hw hT k6 hcp => ?_)
  replace hM := hM.cp hcp
  have hF := hF.tr k6 (by decide)
  refine lv_aload_n hx hb dX7_copyFrom_54 rfl (lv_at hl 1 rfl) ?_
  refine tk_getO hC hK hw hT hinX7 kC_at29 (by decide) rfl 3 (by decide) (List.mem_cons_of_mem _ uw_2_20) rfl rfl dX7_copyFrom_55 ?_
  refine lv_iconst (v := 0) hx hb dX7_copyFrom_58 (by decide) ?_
  refine lv_aload_n hx hb dX7_copyFrom_59 rfl (lv_at hl 0 rfl) ?_
  refine tk_getO hC hK hw hT hinX7 kC_at39 (by decide) rfl 3 (by decide) (List.mem_cons_of_mem _ uw_2_20) rfl rfl dX7_copyFrom_60 ?_
  refine lv_iconst (v := 0) hx hb dX7_copyFrom_63 (by decide) ?_
  refine lv_aload_n hx hb dX7_copyFrom_64 rfl (lv_at hl 0 rfl) ?_
  refine tk_getO hC hK hw hT hinX7 kC_at39 (by decide) rfl 3 (by decide) (List.mem_cons_of_mem _ uw_2_20) rfl rfl dX7_copyFrom_65 ?_
  refine tk_alen (v := 13) hC hK hw hT kC_at43 rfl (by decide) rfl (by decide) dX7_copyFrom_68 ?_
  refine tk_copyx hC hK hw hT hl.1 (List.mem_cons_of_mem _ uw_18_19) (List.mem_cons_of_mem _ uw_18_20) (List.mem_cons_of_mem _ uw_18_21) (List.mem_cons_of_mem _ uw_18_22) kC_at33 kC_at43 (by decide) rfl rfl rfl rfl (by decide) (by decide) rfl rfl (by decide) (by decide) (by decide) (by decide) (by decide) (by decide) (Nat.le_of_ble_eq_true rfl) (by decide +kernel) dX7_copyFrom_69 (fun H locs w7 hw hT k8 hcp => ?_)
  replace hM := hM.cp hcp
  have hF := hF.tr k8 (by decide)
  refine lv_aload_n hx hb dX7_copyFrom_72 rfl (lv_at hl 1 rfl) ?_
  refine tk_getO hC hK hw hT hinX7 kC_at29 (by decide) rfl 4 (by decide) (List.mem_cons_of_mem _ uw_2_21) rfl rfl dX7_copyFrom_73 ?_
  refine lv_iconst (v := 0) hx hb dX7_copyFrom_76 (by decide) ?_
  refine lv_aload_n hx hb dX7_copyFrom_77 rfl (lv_at hl 0 rfl) ?_
  refine tk_getO hC hK hw hT hinX7 kC_at39 (by decide) rfl 4 (by decide) (List.mem_cons_of_mem _ uw_2_21) rfl rfl dX7_copyFrom_78 ?_
  refine lv_iconst (v := 0) hx hb dX7_copyFrom_81 (by decide) ?_
  refine lv_aload_n hx hb dX7_copyFrom_82 rfl (lv_at hl 0 rfl) ?_
  refine tk_getO hC hK hw hT hinX7 kC_at39 (by decide) rfl 4 (by decide) (List.mem_cons_of_mem _ uw_2_21) rfl rfl dX7_copyFrom_83 ?_
  refine tk_alen (v := 26) hC hK hw hT kC_at44 rfl (by decide) rfl (by decide) dX7_copyFrom_86 ?_
  refine tk_copyx hC hK hw hT hl.1 (List.mem_cons_of_mem _ uw_18_19) (List.mem_cons_of_mem _ uw_18_20) (List.mem_cons_of_mem _ uw_18_21) (List.mem_cons_of_mem _ uw_18_22) kC_at34 kC_at44 (by decide) rfl rfl rfl rfl (by decide) (by decide) rfl rfl (by decide) (by decide) (by decide) (by decide) (by decide) (by decide) (Nat.le_of_ble_eq_true rfl) (by decide +kernel) dX7_copyFrom_87 (fun H locs w9 hw hT k10 hcp => ?_)
  replace hM := hM.cp hcp
  have hF := hF.tr k10 (by decide)
  refine lv_aload_n hx hb dX7_copyFrom_90 rfl (lv_at hl 1 rfl) ?_
  refine tk_getO hC hK hw hT hinX7 kC_at29 (by decide) rfl 5 (by decide) (List.mem_cons_of_mem _ uw_2_22) rfl rfl dX7_copyFrom_91 ?_
  refine lv_iconst (v := 0) hx hb dX7_copyFrom_94 (by decide) ?_
  refine lv_aload_n hx hb dX7_copyFrom_95 rfl (lv_at hl 0 rfl) ?_
  refine tk_getO hC hK hw hT hinX7 kC_at39 (by decide) rfl 5 (by decide) (List.mem_cons_of_mem _ uw_2_22) rfl rfl dX7_copyFrom_96 ?_
  refine lv_iconst (v := 0) hx hb dX7_copyFrom_99 (by decide) ?_
  refine lv_aload_n hx hb dX7_copyFrom_100 rfl (lv_at hl 0 rfl) ?_
  refine tk_getO hC hK hw hT hinX7 kC_at39 (by decide) rfl 5 (by decide) (List.mem_cons_of_mem _ uw_2_22) rfl rfl dX7_copyFrom_101 ?_
  refine tk_alen (v := 8) hC hK hw hT kC_at45 rfl (by decide) rfl (by decide) dX7_copyFrom_104 ?_
  refine tk_copyx hC hK hw hT hl.1 (List.mem_cons_of_mem _ uw_18_19) (List.mem_cons_of_mem _ uw_18_20) (List.mem_cons_of_mem _ uw_18_21) (List.mem_cons_of_mem _ uw_18_22) kC_at35 kC_at45 (by decide) rfl rfl rfl rfl (by decide) (by decide) rfl rfl (by decide) (by decide) (by decide) (by decide) (by decide) (by decide) (Nat.le_of_ble_eq_true rfl) (by decide +kernel) dX7_copyFrom_105 (fun H locs w11 hw hT k12 hcp => ?_)
  replace hM := hM.cp hcp
  have hF := hF.tr k12 (by decide)
  refine lv_aload_n hx hb dX7_copyFrom_108 rfl (lv_at hl 1 rfl) ?_
  refine tk_getO hC hK hw hT hinX7 kC_at29 (by decide) rfl 6 (by decide) (List.mem_cons_of_mem _ uw_2_23) rfl rfl dX7_copyFrom_109 ?_
  refine lv_iconst (v := 0) hx hb dX7_copyFrom_112 (by decide) ?_
  refine lv_aload_n hx hb dX7_copyFrom_113 rfl (lv_at hl 0 rfl) ?_
  refine tk_getO hC hK hw hT hinX7 kC_at39 (by decide) rfl 6 (by decide) (List.mem_cons_of_mem _ uw_2_23) rfl rfl dX7_copyFrom_114 ?_
  refine lv_iconst (v := 0) hx hb dX7_copyFrom_117 (by decide) ?_
  refine lv_aload_n hx hb dX7_copyFrom_118 rfl (lv_at hl 0 rfl) ?_
  refine tk_getO hC hK hw hT hinX7 kC_at39 (by decide) rfl 6 (by decide) (List.mem_cons_of_mem _ uw_2_23) rfl rfl dX7_copyFrom_119 ?_
  refine tk_alen (v := 8) hC hK hw hT kC_at46 rfl (by decide) rfl (by decide) dX7_copyFrom_122 ?_
  refine tk_copyx hC hK hw hT hl.1 (List.mem_cons_of_mem _ uw_18_19) (List.mem_cons_of_mem _ uw_18_20) (List.mem_cons_of_mem _ uw_18_21) (List.mem_cons_of_mem _ uw_18_22) kC_at36 kC_at46 (by decide) rfl rfl rfl rfl (by decide) (by decide) rfl rfl (by decide) (by decide) (by decide) (by decide) (by decide) (by decide) (Nat.le_of_ble_eq_true rfl) (by decide +kernel) dX7_copyFrom_123 (fun H locs w13 hw hT k14 hcp => ?_)
  replace hM := hM.cp hcp
  have hF := hF.tr k14 (by decide)
  refine lv_aload_n hx hb dX7_copyFrom_126 rfl (lv_at hl 1 rfl) ?_
  refine tk_getO hC hK hw hT hinX7 kC_at29 (by decide) rfl 7 (by decide) (List.mem_cons_of_mem _ uw_3_0) rfl rfl dX7_copyFrom_127 ?_
  refine lv_iconst (v := 0) hx hb dX7_copyFrom_130 (by decide) ?_
  refine lv_aload_n hx hb dX7_copyFrom_131 rfl (lv_at hl 0 rfl) ?_
  refine tk_getO hC hK hw hT hinX7 kC_at39 (by decide) rfl 7 (by decide) (List.mem_cons_of_mem _ uw_3_0) rfl rfl dX7_copyFrom_132 ?_
  refine lv_iconst (v := 0) hx hb dX7_copyFrom_135 (by decide) ?_
  refine lv_aload_n hx hb dX7_copyFrom_136 rfl (lv_at hl 0 rfl) ?_
  refine tk_getO hC hK hw hT hinX7 kC_at39 (by decide) rfl 7 (by decide) (List.mem_cons_of_mem _ uw_3_0) rfl rfl dX7_copyFrom_137 ?_
  refine tk_alen (v := 13) hC hK hw hT kC_at47 rfl (by decide) rfl (by decide) dX7_copyFrom_140 ?_
  refine tk_copyx hC hK hw hT hl.1 (List.mem_cons_of_mem _ uw_18_19) (List.mem_cons_of_mem _ uw_18_20) (List.mem_cons_of_mem _ uw_18_21) (List.mem_cons_of_mem _ uw_18_22) kC_at37 kC_at47 (by decide) rfl rfl rfl rfl (by decide) (by decide) rfl rfl (by decide) (by decide) (by decide) (by decide) (by decide) (by decide) (Nat.le_of_ble_eq_true rfl) (by decide +kernel) dX7_copyFrom_141 (fun H locs w15 hw hT k16 hcp => ?_)
  replace hM := hM.cp hcp
  have hF := hF.tr k16 (by decide)
  refine lv_aload_n hx hb dX7_copyFrom_144 rfl (lv_at hl 0 rfl) ?_
  refine lv_aload_n hx hb dX7_copyFrom_145 rfl (lv_at hl 1 rfl) ?_
  refine tk_geti hC hK hw hT hinX7 kC_at29 (by decide) rfl 8 (by decide) (List.mem_cons_of_mem _ uw_9_7) rfl rfl dX7_copyFrom_146 (fun x17 c18 rx17 tx17 => ?_)
  replace hM := hM.rd (sI_at c18)
  refine tk_puti hC hK hw hT hinX7 tyX7_ok nmX7 kC_at39 (by decide) rfl rfl 8 (by decide) (List.mem_cons_of_mem _ uw_9_7) rfl rfl rfl rfl (show (-1) ≤ x17.toInt from rx17) (show x17.toInt ≤ 10 from tx17) dX7_copyFrom_149 (fun H locs w19 hw hT k21 c20 => ?_)
  replace hM := hM.wr (sI_up k21 c20)
  have hF := hF.put kC_at39 (k := 8) (by decide) k21
  have c22 := k21.gi (Or.inl (by decide)) c18
  refine lv_aload_n hx hb dX7_copyFrom_152 rfl (lv_at hl 0 rfl) ?_
  refine lv_aload_n hx hb dX7_copyFrom_153 rfl (lv_at hl 1 rfl) ?_
  refine tk_geti hC hK hw hT hinX7 kC_at29 (by decide) rfl 9 (by decide) (List.mem_cons_of_mem _ uw_9_8) rfl rfl dX7_copyFrom_154 (fun x23 c24 rx23 tx23 => ?_)
  replace hM := hM.rd (sI_at c24)
  refine tk_puti hC hK hw hT hinX7 tyX7_ok nmX7 kC_at39 (by decide) rfl rfl 9 (by decide) (List.mem_cons_of_mem _ uw_9_8) rfl rfl rfl rfl (show 0 ≤ x23.toInt from rx23) (show x23.toInt ≤ 12 from tx23) dX7_copyFrom_157 (fun H locs w25 hw hT k27 c26 => ?_)
  replace hM := hM.wr (sI_up k27 c26)
  have hF := hF.put kC_at39 (k := 9) (by decide) k27
  have c28 := k27.gi (Or.inr (by decide)) c22
  have c29 := k27.gi (Or.inr (by decide)) c20
  have c30 := k27.gi (Or.inl (by decide)) c24
  refine lv_aload_n hx hb dX7_copyFrom_160 rfl (lv_at hl 0 rfl) ?_
  refine lv_aload_n hx hb dX7_copyFrom_161 rfl (lv_at hl 1 rfl) ?_
  refine tk_geti hC hK hw hT hinX7 kC_at29 (by decide) rfl 10 (by decide) (List.mem_cons_of_mem _ uw_9_9) rfl rfl dX7_copyFrom_162 (fun x31 c32 rx31 tx31 => ?_)
  replace hM := hM.rd (sI_at c32)
  refine tk_puti hC hK hw hT hinX7 tyX7_ok nmX7 kC_at39 (by decide) rfl rfl 10 (by decide) (List.mem_cons_of_mem _ uw_9_9) rfl rfl rfl rfl (show 0 ≤ x31.toInt from rx31) (show x31.toInt ≤ 8 from tx31) dX7_copyFrom_165 (fun H locs w33 hw hT k35 c34 => ?_)
  replace hM := hM.wr (sI_up k35 c34)
  have hF := hF.put kC_at39 (k := 10) (by decide) k35
  have c36 := k35.gi (Or.inr (by decide)) c28
  have c37 := k35.gi (Or.inr (by decide)) c29
  have c38 := k35.gi (Or.inr (by decide)) c30
  have c39 := k35.gi (Or.inr (by decide)) c26
  have c40 := k35.gi (Or.inl (by decide)) c32
  refine lv_aload_n hx hb dX7_copyFrom_168 rfl (lv_at hl 0 rfl) ?_
  refine lv_aload_n hx hb dX7_copyFrom_169 rfl (lv_at hl 1 rfl) ?_
  refine tk_geti hC hK hw hT hinX7 kC_at29 (by decide) rfl 11 (by decide) (List.mem_cons_of_mem _ uw_9_10) rfl rfl dX7_copyFrom_170 (fun x41 c42 rx41 tx41 => ?_)
  replace hM := hM.rd (sI_at c42)
  refine tk_puti hC hK hw hT hinX7 tyX7_ok nmX7 kC_at39 (by decide) rfl rfl 11 (by decide) (List.mem_cons_of_mem _ uw_9_10) rfl rfl rfl rfl (show 0 ≤ x41.toInt from rx41) (show x41.toInt ≤ 4 from tx41) dX7_copyFrom_173 (fun H locs w43 hw hT k45 c44 => ?_)
  replace hM := hM.wr (sI_up k45 c44)
  have hF := hF.put kC_at39 (k := 11) (by decide) k45
  have c46 := k45.gi (Or.inr (by decide)) c36
  have c47 := k45.gi (Or.inr (by decide)) c37
  have c48 := k45.gi (Or.inr (by decide)) c38
  have c49 := k45.gi (Or.inr (by decide)) c39
  have c50 := k45.gi (Or.inr (by decide)) c40
  have c51 := k45.gi (Or.inr (by decide)) c34
  have c52 := k45.gi (Or.inl (by decide)) c42
  exact tk_vret hC hr hlocks hK ⟨hT, hF, hM.ret rfl, ⟨⟨x23, c48, (show 0 ≤ x23.toInt from rx23), (show x23.toInt ≤ 12 from tx23)⟩, ⟨x31, c50, (show 0 ≤ x31.toInt from rx31), (show x31.toInt ≤ 8 from tx31)⟩, ⟨x41, c52, (show 0 ≤ x41.toInt from rx41), (show x41.toInt ≤ 4 from tx41)⟩⟩⟩ hw dX7_copyFrom_176
abbrev Pz_X5_moveTo_1 (ad : Nat → Nat) (cy : Nat → ClassId) (B : Int) (qr : Nat) (s1 : Int)  (w0 : va_W) : va_W → Prop := fun u => TW ksC ad cy B qr s1 u ∧ FE ksC [(5, 8, 8), (5, 9, 9), (5, 10, 10), (5, 11, 11), (5, 12, 12), (7, 8, 8), (7, 9, 9), (7, 10, 10), (7, 11, 11), (24, 0, 100000), (25, 0, 100000), (26, 0, 100000), (27, 0, 100000), (28, 0, 100000), (29, 0, 100000), (30, 0, 100000), (31, 0, 100000)] w0 u ∧ Ev (fun n => m_X5_moveTo n 38 29 (sI w0)) (0, sI u) ∧ (((∃ y : Int32, gi u 29 9 = y ∧ 0 ≤ y.toInt ∧ y.toInt ≤ 12) ∧ (∃ y : Int32, gi u 29 10 = y ∧ 0 ≤ y.toInt ∧ y.toInt ≤ 8) ∧ (∃ y : Int32, gi u 29 11 = y ∧ 0 ≤ y.toInt ∧ y.toInt ≤ 4) ∧ (∃ y : Int32, gi u 38 8 = y ∧ 0 ≤ y.toInt ∧ y.toInt ≤ 0) ∧ (∃ y : Int32, gi u 38 9 = y ∧ 0 ≤ y.toInt ∧ y.toInt ≤ 0) ∧ (∃ y : Int32, gi u 38 10 = y ∧ 0 ≤ y.toInt ∧ y.toInt ≤ 0) ∧ (∃ y : Int32, gi u 38 11 = y ∧ 0 ≤ y.toInt ∧ y.toInt ≤ 0) ∧ (∃ y : Int32, gi u 38 12 = y ∧ 0 ≤ y.toInt ∧ y.toInt ≤ 0)))
set_option maxHeartbeats 4000000 in
set_option maxRecDepth 100000 in
theorem kz_X5_moveTo_1 (l : Launch) (adK adV : Nat → Nat) (dC : Nat → ClassId) (dI : Nat → Nat → Nat) (cy : Nat → ClassId) (ad : Nat → Nat) (B : Int) (hB0 : 2147483648 ≤ B) (hB1 : B ≤ 1152921504606846976) (qr : Nat) (s1 : Int)   (w0 : va_W) (sz : Nat) (hT : TW ksC ad cy B qr s1 w0)  : Met l yX5_moveTo (wu yX5_moveTo cX5_moveTo 2 none) ({ frames := 2, cells := 0, slots := 0, locals := 81 }) (va_Pc [.ref (ad 38), .ref (ad 29)] (wpreS adK adV dC dI cy sz w0)) (va_Qv (Pz_X5_moveTo_1 ad cy B qr s1  w0) (fun u : va_W => wpost dC dI cy (va_A w0 sz) u) (va_A w0 sz)) 0 0 (va_A w0 sz) := by
  refine Met.ofW (cc := cX5_moveTo) (maxL := 2) (ret := none) (by decide) rfl ?_
  intro p e s m args below meth c s₁ Bk hml hv
  obtain ⟨rfl, ⟨hsz, hP, hK, hD0⟩, hE, hSR⟩ := hv
  have hx := Bk.exec
  have hb := Bk.bytes
  have hr := Bk.returns
  have hlocks := Bk.notSynchronized
  have hC : CallFix p m c cX5_moveTo 2 s _ (wu yX5_moveTo cX5_moveTo 2 none) RX5 := ⟨hx, hb, hml, findClass_of_methodNamed Bk.named, atoms_spec (ws := (wu yX5_moveTo cX5_moveTo 2 none)) Bk.pre⟩
  subst hsz
  have hD := hD0.self (sz := s.heap.size)
  generalize hAe : va_A w0 s.heap.size = A at hD hE ⊢
  have hA : ∀ q : Nat, s.heap.size ≤ q → A q := fun q h => by rw [← hAe]; exact Or.inr h
  have hw : Wd dC dI A s.heap s.heap [] w0 := ⟨hP, hD, va_S.rf⟩
  have hF : FE ksC [(5, 8, 8), (5, 9, 9), (5, 10, 10), (5, 11, 11), (5, 12, 12), (7, 8, 8), (7, 9, 9), (7, 10, 10), (7, 11, 11), (24, 0, 100000), (25, 0, 100000), (26, 0, 100000), (27, 0, 100000), (28, 0, 100000), (29, 0, 100000), (30, 0, 100000), (31, 0, 100000)] w0 w0 := FE.rf
  have hl := lv_entry ([.ref (ad 38), .ref (ad 29)]) (n := 2) (Nat.le_of_ble_eq_true rfl)
  rw [lg_entry_eq]
  generalize (lg_sl ([.ref (ad 38), .ref (ad 29)]) ++ List.replicate (2 - (lg_sl ([.ref (ad 38), .ref (ad 29)])).length) Slot.unset).toArray = ls at hl ⊢
  have hl : lv_has ls 2 [(0, .ref (ad 38)), (1, .ref (ad 29))] := hl
  generalize hloc : ([] : List Loc) = locs at hw ⊢
  have hinX5 : ∀ w ∈ u_ws RX5 TX5 14, w ∈ (wu yX5_moveTo cX5_moveTo 2 none) := fun _ h => List.mem_cons_of_mem _ (up_76 h)
  have hM : TT (fun n => m_X5_moveTo n 38 29 (sI w0)) (fun n => m_X5_moveTo n 38 29 (sI w0)) := TT.rf
  refine lv_aload_n hx hb dX5_moveTo_0 rfl (lv_at hl 0 rfl) ?_
  refine tk_getO hC hK hw hT hinX5 kC_at38 (by decide) rfl 0 (by decide) (List.mem_cons_of_mem _ uw_3_18) rfl rfl dX5_moveTo_1 ?_
  refine lv_aload_n hx hb dX5_moveTo_4 rfl (lv_at hl 1 rfl) ?_
  refine tk_Vv hC hK hw hT hA hE hSR kC_at39 (by decide) rfl (kz_X7_copyFrom_1 l adK adV dC dI cy ad B (by omega) (by omega) qr s1    w0 s.heap.size hT ) (cwV 1 hC.2.2.2.2 uV_RX5_48 rfl rfl rfl (by decide +kernel) ⟨Nat.le_of_ble_eq_true rfl, Nat.le_of_ble_eq_true rfl⟩) rfl hl.1 rfl (Nat.le_of_ble_eq_true rfl) dX5_moveTo_5 (fun w3 H locs hp2 hw => ?_)
  obtain ⟨hT, k4, hv12, hg11⟩ := hp2
  have hF := hF.tr k4 (by decide)
  obtain ⟨⟨x5, c6, rx5, tx5⟩, ⟨x7, c8, rx7, tx7⟩, ⟨x9, c10, rx9, tx9⟩⟩ := hg11
  replace hM := hM.call hv12 rfl
  refine lv_aload_n hx hb dX5_moveTo_8 rfl (lv_at hl 0 rfl) ?_
  refine lv_iconst (v := 0) hx hb dX5_moveTo_9 (by decide) ?_
  refine tk_puti hC hK hw hT hinX5 tyX5_ok nmX5 kC_at38 (by decide) rfl rfl 8 (by decide) (List.mem_cons_of_mem _ uw_18_10) rfl rfl rfl rfl (by decide) (by decide) dX5_moveTo_10 (fun H locs w13 hw hT k15 c14 => ?_)
  replace hM := hM.wr (sI_upc k15 c14 (by decide))
  have hF := hF.put kC_at38 (k := 8) (by decide) k15
  have c16 := k15.gi (Or.inr (by decide)) c6
  have c17 := k15.gi (Or.inr (by decide)) c8
  have c18 := k15.gi (Or.inr (by decide)) c10
  refine lv_aload_n hx hb dX5_moveTo_13 rfl (lv_at hl 0 rfl) ?_
  refine lv_iconst (v := 0) hx hb dX5_moveTo_14 (by decide) ?_
  refine tk_puti hC hK hw hT hinX5 tyX5_ok nmX5 kC_at38 (by decide) rfl rfl 9 (by decide) (List.mem_cons_of_mem _ uw_18_11) rfl rfl rfl rfl (by decide) (by decide) dX5_moveTo_15 (fun H locs w19 hw hT k21 c20 => ?_)
  replace hM := hM.wr (sI_upc k21 c20 (by decide))
  have hF := hF.put kC_at38 (k := 9) (by decide) k21
  have c22 := k21.gi (Or.inl (tk_ne kC_at29 kC_at38 (by decide))) c16
  have c23 := k21.gi (Or.inr (by decide)) c17
  have c24 := k21.gi (Or.inr (by decide)) c18
  have c25 := k21.gi (Or.inr (by decide)) c14
  refine lv_aload_n hx hb dX5_moveTo_18 rfl (lv_at hl 0 rfl) ?_
  refine lv_iconst (v := 0) hx hb dX5_moveTo_19 (by decide) ?_
  refine tk_puti hC hK hw hT hinX5 tyX5_ok nmX5 kC_at38 (by decide) rfl rfl 10 (by decide) (List.mem_cons_of_mem _ uw_18_12) rfl rfl rfl rfl (by decide) (by decide) dX5_moveTo_20 (fun H locs w26 hw hT k28 c27 => ?_)
  replace hM := hM.wr (sI_upc k28 c27 (by decide))
  have hF := hF.put kC_at38 (k := 10) (by decide) k28
  have c29 := k28.gi (Or.inr (by decide)) c22
  have c30 := k28.gi (Or.inl (tk_ne kC_at29 kC_at38 (by decide))) c23
  have c31 := k28.gi (Or.inr (by decide)) c24
  have c32 := k28.gi (Or.inr (by decide)) c25
  have c33 := k28.gi (Or.inr (by decide)) c20
  refine lv_aload_n hx hb dX5_moveTo_23 rfl (lv_at hl 0 rfl) ?_
  refine lv_iconst (v := 0) hx hb dX5_moveTo_24 (by decide) ?_
  refine tk_puti hC hK hw hT hinX5 tyX5_ok nmX5 kC_at38 (by decide) rfl rfl 11 (by decide) (List.mem_cons_of_mem _ uw_18_13) rfl rfl rfl rfl (by decide) (by decide) dX5_moveTo_25 (fun H locs w34 hw hT k36 c35 => ?_)
  replace hM := hM.wr (sI_upc k36 c35 (by decide))
  have hF := hF.put kC_at38 (k := 11) (by decide) k36
  have c37 := k36.gi (Or.inr (by decide)) c29
  have c38 := k36.gi (Or.inr (by decide)) c30
  have c39 := k36.gi (Or.inl (tk_ne kC_at29 kC_at38 (by decide))) c31
  have c40 := k36.gi (Or.inr (by decide)) c32
  have c41 := k36.gi (Or.inr (by decide)) c33
  have c42 := k36.gi (Or.inr (by decide)) c27
  refine lv_aload_n hx hb dX5_moveTo_28 rfl (lv_at hl 0 rfl) ?_
  refine lv_iconst (v := 0) hx hb dX5_moveTo_29 (by decide) ?_
  refine tk_puti hC hK hw hT hinX5 tyX5_ok nmX5 kC_at38 (by decide) rfl rfl 12 (by decide) (List.mem_cons_of_mem _ uw_18_14) rfl rfl rfl rfl (by decide) (by decide) dX5_moveTo_30 (fun H locs w43 hw hT k45 c44 => ?_)
  replace hM := hM.wr (sI_upc k45 c44 (by decide))
  have hF := hF.put kC_at38 (k := 12) (by decide) k45
  have c46 := k45.gi (Or.inr (by decide)) c37
  have c47 := k45.gi (Or.inr (by decide)) c38
  have c48 := k45.gi (Or.inr (by decide)) c39
  have c49 := k45.gi (Or.inr (by decide)) c40
  have c50 := k45.gi (Or.inr (by decide)) c41
  have c51 := k45.gi (Or.inr (by decide)) c42
  have c52 := k45.gi (Or.inr (by decide)) c35
  exact tk_vret hC hr hlocks hK ⟨hT, hF, hM.ret rfl, ⟨⟨x5, c46, (show 0 ≤ x5.toInt by omega), (show x5.toInt ≤ 12 by omega)⟩, ⟨x7, c47, (show 0 ≤ x7.toInt by omega), (show x7.toInt ≤ 8 by omega)⟩, ⟨x9, c48, (show 0 ≤ x9.toInt by omega), (show x9.toInt ≤ 4 by omega)⟩, ⟨0, c49, (by decide), (by decide)⟩, ⟨0, c50, (by decide), (by decide)⟩, ⟨0, c51, (by decide), (by decide)⟩, ⟨0, c52, (by decide), (by decide)⟩, ⟨0, c44, (by decide), (by decide)⟩⟩⟩ hw dX5_moveTo_33
abbrev Pz_X0_forgetAll_1 (ad : Nat → Nat) (cy : Nat → ClassId) (B : Int) (qr : Nat) (s1 : Int)  (w0 : va_W) : va_W → Prop := fun u => TW ksC ad cy B qr s1 u ∧ FE ksC [(44, 0, 11)] w0 u ∧ Ev (fun n => m_X0_forgetAll n 145 (sI w0)) (0, sI u) ∧ ((True))
set_option maxHeartbeats 4000000 in
set_option maxRecDepth 100000 in
theorem kz_X0_forgetAll_1 (l : Launch) (adK adV : Nat → Nat) (dC : Nat → ClassId) (dI : Nat → Nat → Nat) (cy : Nat → ClassId) (ad : Nat → Nat) (B : Int) (hB0 : 2147483648 ≤ B) (hB1 : B ≤ 1152921504606846976) (qr : Nat) (s1 : Int)   (w0 : va_W) (sz : Nat) (hT : TW ksC ad cy B qr s1 w0)  : Met l yX0_forgetAll (wu yX0_forgetAll cX0_forgetAll 2 none) ({ frames := 1, cells := 0, slots := 0, locals := 12 }) (va_Pc [.ref (ad 145)] (wpreS adK adV dC dI cy sz w0)) (va_Qv (Pz_X0_forgetAll_1 ad cy B qr s1  w0) (fun u : va_W => wpost dC dI cy (va_A w0 sz) u) (va_A w0 sz)) 0 0 (va_A w0 sz) := by
  refine Met.ofW (cc := cX0_forgetAll) (maxL := 2) (ret := none) (by decide) rfl ?_
  intro p e s m args below meth c s₁ Bk hml hv
  obtain ⟨rfl, ⟨hsz, hP, hK, hD0⟩, hE, hSR⟩ := hv
  have hx := Bk.exec
  have hb := Bk.bytes
  have hr := Bk.returns
  have hlocks := Bk.notSynchronized
  have hC : CallFix p m c cX0_forgetAll 2 s _ (wu yX0_forgetAll cX0_forgetAll 2 none) RX0 := ⟨hx, hb, hml, findClass_of_methodNamed Bk.named, atoms_spec (ws := (wu yX0_forgetAll cX0_forgetAll 2 none)) Bk.pre⟩
  subst hsz
  have hD := hD0.self (sz := s.heap.size)
  generalize hAe : va_A w0 s.heap.size = A at hD hE ⊢
  have hA : ∀ q : Nat, s.heap.size ≤ q → A q := fun q h => by rw [← hAe]; exact Or.inr h
  have hw : Wd dC dI A s.heap s.heap [] w0 := ⟨hP, hD, va_S.rf⟩
  have hF : FE ksC [(44, 0, 11)] w0 w0 := FE.rf
  have hl := lv_entry ([.ref (ad 145)]) (n := 2) (Nat.le_of_ble_eq_true rfl)
  rw [lg_entry_eq]
  generalize (lg_sl ([.ref (ad 145)]) ++ List.replicate (2 - (lg_sl ([.ref (ad 145)])).length) Slot.unset).toArray = ls at hl ⊢
  have hl : lv_has ls 2 [(0, .ref (ad 145))] := hl
  generalize hloc : ([] : List Loc) = locs at hw ⊢
  have hinX0 : ∀ w ∈ u_ws RX0 TX0 4, w ∈ (wu yX0_forgetAll cX0_forgetAll 2 none) := fun _ h => List.mem_cons_of_mem _ (up_77 h)
  have L2 : ∀ (n2 : Nat) (v2_1 : Int32) (H : Heap) (locs : List Loc) (ls : Array Slot) (w1 : va_W), 0 ≤ v2_1.toInt → v2_1.toInt ≤ 11 → (11 - v2_1.toInt).toNat < n2 → Wd dC dI A s.heap H locs w1 → TW ksC ad cy B qr s1 w1 → FE ksC [(44, 0, 11)] w0 w1 → TT (fun n => m_X0_forgetAll n 145 (sI w0)) (fun n => j_X0_forgetAll 145 n 2 [v2_1.toInt] (sI w1)) → lv_has ls 2 [(0, .ref (ad 145)), (1, .int v2_1)] → W p l e ({ frames := 1, cells := 0, slots := 0, locals := 12 }) s m (List.toArray [.ref (ad 145)]) below meth c H locs 0 0 (MQ below (va_Qv (Pz_X0_forgetAll_1 ad cy B qr s1  w0) (fun u : va_W => wpost dC dI cy A u) A) (List.toArray [.ref (ad 145)]) s 0 0 A) (F0 m 2 ls []) := by
    intro n2
    induction n2 with
    | zero => intro v2_1 H locs ls w1 r2 t3 hm2 hw hT hF hM hl; omega
    | succ n2 ih2 =>
      intro v2_1 H locs ls w1 r2 t3 hm2 hw hT hF hM hl
      replace hM := hM.suc (fun _ => e_X0_forgetAll_2)
      refine lv_iload_n hx hb dX0_forgetAll_2 rfl (lv_at hl 1 rfl) ?_
      refine lv_bipush (v := 11) hx hb dX0_forgetAll_3 (by decide) ?_
      refine lv_icmp_ge (tgt := 21) hx hb dX0_forgetAll_5 (by decide) (fun c4 => ?_) (fun c4 => ?_)
      · have c4 : (11 : Int) ≤ v2_1.toInt := wk_le.mp c4
        replace hM := hM.pos c4
        exact tk_vret hC hr hlocks hK ⟨hT, hF, hM.ret rfl, trivial⟩ hw dX0_forgetAll_21
      · have c4 : v2_1.toInt < (11 : Int) := wk_leF c4
        replace hM := hM.neg (Int.not_le.mpr c4)
        refine lv_aload_n hx hb dX0_forgetAll_8 rfl (lv_at hl 0 rfl) ?_
        refine tk_getA hC hK hw hT hinX0 kC_at145 (by decide) rfl 3 (by decide) (List.mem_cons_of_mem _ uw_4_16) rfl rfl dX0_forgetAll_9 ?_
        refine lv_iload_n hx hb dX0_forgetAll_12 rfl (lv_at hl 1 rfl) ?_
        refine lv_iconst (v := 0) hx hb dX0_forgetAll_13 (by decide) ?_
        refine tk_zast hC hK hw hT kC_at148 (by decide) rfl rfl (show 0 ≤ v2_1.toInt from r2) (show v2_1.toInt < 11 by omega) (by decide) (by decide) dX0_forgetAll_14 (fun H locs w5 hw hT k7 c6 => ?_)
        replace hM := hM.wr (sI_upc k7 c6 (by decide))
        have hF := hF.put kC_at148 (inE_of (a := 0) (b := 11) (by decide) (show 0 ≤ v2_1.toInt.toNat by omega) (show v2_1.toInt.toNat ≤ 11 by omega)) k7
        obtain ⟨x8, ex8⟩ : ∃ y : Int32, y = v2_1 + Int32.ofInt 1 := ⟨_, rfl⟩
        have erx8 := ex8
        refine lv_iinc (v := x8) (lv' := [(1, .int x8), (0, .ref (ad 145))]) hx hb dX0_forgetAll_15 hl (k := 1) rfl ex8.symm (by decide) rfl (fun ls hl => ?_)
        have ex8 : x8.toInt = v2_1.toInt + 1 := by rw [ex8]; exact wk_add (y := 1) (show -2147483648 ≤ v2_1.toInt + 1 by omega) (show v2_1.toInt + 1 ≤ 2147483647 by omega)
        replace hM := hM.lt ex8.symm
        refine lv_goto (tgt := 2) hx hb dX0_forgetAll_18 (by decide) ?_
        exact ih2 x8 H locs ls w5 (show 0 ≤ x8.toInt by omega) (show x8.toInt ≤ 11 by omega) (show (11 - x8.toInt).toNat < n2 by omega) hw hT hF hM (lv_sub hl [1, 0] rfl)
  have hM : TT (fun n => m_X0_forgetAll n 145 (sI w0)) (fun n => m_X0_forgetAll n 145 (sI w0)) := TT.rf
  refine lv_iconst (v := 0) hx hb dX0_forgetAll_0 (by decide) ?_
  refine lv_istore_n (lv' := [(1, .int 0), (0, .ref (ad 145))]) hx hb dX0_forgetAll_1 rfl hl (by decide) rfl (fun ls hl => ?_)
  exact L2 ((11 - (0 : Int)).toNat + 1) 0 s.heap locs ls w0 (by decide) (by decide) (Nat.lt_succ_self _) hw hT hF hM (lv_sub hl [1, 0] rfl)
abbrev Pz_X11_town_1 (ad : Nat → Nat) (cy : Nat → ClassId) (B : Int) (qr : Nat) (s1 : Int)  (w0 : va_W) : Int32 → va_W → Prop := fun r u => TW ksC ad cy B qr s1 u ∧ FE ksC [(5, 8, 8), (5, 9, 9), (5, 10, 10), (5, 11, 11), (5, 12, 12), (6, 1, 1), (6, 2, 2), (6, 3, 3), (6, 4, 4), (7, 8, 8), (7, 9, 9), (7, 10, 10), (7, 11, 11), (24, 0, 26), (24, 0, 100000), (25, 0, 13), (25, 0, 100000), (26, 0, 91), (26, 0, 100000), (27, 0, 13), (27, 0, 100000), (28, 0, 26), (28, 0, 100000), (29, 0, 8), (29, 0, 100000), (30, 0, 8), (30, 0, 100000), (31, 0, 13), (31, 0, 100000), (44, 0, 11)] w0 u ∧ Ev (fun n => m_X11_town n 0 (sI w0)) (r.toInt, sI u) ∧ (((-3207) ≤ r.toInt ∧ r.toInt ≤ (-3) ∧ (∃ y : Int32, gi u 1 2 = y ∧ 0 ≤ y.toInt ∧ y.toInt ≤ 0) ∧ (∃ y : Int32, gi u 1 4 = y ∧ 1 ≤ y.toInt ∧ y.toInt ≤ 3205) ∧ (∃ y : Int32, gi u 29 9 = y ∧ 0 ≤ y.toInt ∧ y.toInt ≤ 12) ∧ (∃ y : Int32, gi u 29 10 = y ∧ 0 ≤ y.toInt ∧ y.toInt ≤ 8) ∧ (∃ y : Int32, gi u 29 11 = y ∧ 0 ≤ y.toInt ∧ y.toInt ≤ 4)) ∨ (0 ≤ r.toInt ∧ r.toInt ≤ 12 ∧ (∃ y : Int32, gi u 1 2 = y ∧ 0 ≤ y.toInt ∧ y.toInt ≤ 0) ∧ (∃ y : Int32, gi u 1 4 = y ∧ 0 ≤ y.toInt ∧ y.toInt ≤ 0) ∧ (∃ y : Int32, gi u 29 9 = y ∧ 0 ≤ y.toInt ∧ y.toInt ≤ 12) ∧ (∃ y : Int32, gi u 29 10 = y ∧ 0 ≤ y.toInt ∧ y.toInt ≤ 8) ∧ (∃ y : Int32, gi u 29 11 = y ∧ 0 ≤ y.toInt ∧ y.toInt ≤ 4) ∧ (∃ y : Int32, gi u 38 8 = y ∧ 0 ≤ y.toInt ∧ y.toInt ≤ 0) ∧ (∃ y : Int32, gi u 38 9 = y ∧ 0 ≤ y.toInt ∧ y.toInt ≤ 0) ∧ (∃ y : Int32, gi u 38 10 = y ∧ 0 ≤ y.toInt ∧ y.toInt ≤ 0) ∧ (∃ y : Int32, gi u 38 11 = y ∧ 0 ≤ y.toInt ∧ y.toInt ≤ 0) ∧ (∃ y : Int32, gi u 38 12 = y ∧ 0 ≤ y.toInt ∧ y.toInt ≤ 0)))
set_option maxHeartbeats 4000000 in
set_option maxRecDepth 100000 in
theorem kz_X11_town_1 (l : Launch) (adK adV : Nat → Nat) (dC : Nat → ClassId) (dI : Nat → Nat → Nat) (cy : Nat → ClassId) (ad : Nat → Nat) (B : Int) (hB0 : 2147483648 ≤ B) (hB1 : B ≤ 1152921504606846976) (qr : Nat) (s1 : Int)   (w0 : va_W) (sz : Nat) (hT : TW ksC ad cy B qr s1 w0)  : Met l yX11_town (wu yX11_town cX11_town 2 (some .int)) ({ frames := 9, cells := 0, slots := 0, locals := 255 }) (va_Pc [.ref (ad 0)] (wpreS adK adV dC dI cy sz w0)) (va_Qi (Pz_X11_town_1 ad cy B qr s1  w0) (fun u : va_W => wpost dC dI cy (va_A w0 sz) u) (va_A w0 sz)) 0 0 (va_A w0 sz) := by
  refine Met.ofW (cc := cX11_town) (maxL := 2) (ret := (some .int)) (by decide) rfl ?_
  intro p e s m args below meth c s₁ Bk hml hv
  obtain ⟨rfl, ⟨hsz, hP, hK, hD0⟩, hE, hSR⟩ := hv
  have hx := Bk.exec
  have hb := Bk.bytes
  have hr := Bk.returns
  have hlocks := Bk.notSynchronized
  have hC : CallFix p m c cX11_town 2 s _ (wu yX11_town cX11_town 2 (some .int)) RX11 := ⟨hx, hb, hml, findClass_of_methodNamed Bk.named, atoms_spec (ws := (wu yX11_town cX11_town 2 (some .int))) Bk.pre⟩
  subst hsz
  have hD := hD0.self (sz := s.heap.size)
  generalize hAe : va_A w0 s.heap.size = A at hD hE ⊢
  have hA : ∀ q : Nat, s.heap.size ≤ q → A q := fun q h => by rw [← hAe]; exact Or.inr h
  have hw : Wd dC dI A s.heap s.heap [] w0 := ⟨hP, hD, va_S.rf⟩
  have hF : FE ksC [(5, 8, 8), (5, 9, 9), (5, 10, 10), (5, 11, 11), (5, 12, 12), (6, 1, 1), (6, 2, 2), (6, 3, 3), (6, 4, 4), (7, 8, 8), (7, 9, 9), (7, 10, 10), (7, 11, 11), (24, 0, 26), (24, 0, 100000), (25, 0, 13), (25, 0, 100000), (26, 0, 91), (26, 0, 100000), (27, 0, 13), (27, 0, 100000), (28, 0, 26), (28, 0, 100000), (29, 0, 8), (29, 0, 100000), (30, 0, 8), (30, 0, 100000), (31, 0, 13), (31, 0, 100000), (44, 0, 11)] w0 w0 := FE.rf
  have hl := lv_entry ([.ref (ad 0)]) (n := 2) (Nat.le_of_ble_eq_true rfl)
  rw [lg_entry_eq]
  generalize (lg_sl ([.ref (ad 0)]) ++ List.replicate (2 - (lg_sl ([.ref (ad 0)])).length) Slot.unset).toArray = ls at hl ⊢
  have hl : lv_has ls 2 [(0, .ref (ad 0))] := hl
  generalize hloc : ([] : List Loc) = locs at hw ⊢
  have hinX11 : ∀ w ∈ u_ws RX11 TX11 13, w ∈ (wu yX11_town cX11_town 2 (some .int)) := fun _ h => List.mem_cons_of_mem _ (up_70 h)
  have hinX6 : ∀ w ∈ u_ws RX6 TX6 5, w ∈ (wu yX11_town cX11_town 2 (some .int)) := fun _ h => List.mem_cons_of_mem _ (up_72 h)
  have hinX5 : ∀ w ∈ u_ws RX5 TX5 14, w ∈ (wu yX11_town cX11_town 2 (some .int)) := fun _ h => List.mem_cons_of_mem _ (up_76 h)
  have hinX7 : ∀ w ∈ u_ws RX7 TX7 12, w ∈ (wu yX11_town cX11_town 2 (some .int)) := fun _ h => List.mem_cons_of_mem _ (up_73 h)
  have hM : TT (fun n => m_X11_town n 0 (sI w0)) (fun n => m_X11_town n 0 (sI w0)) := TT.rf
  refine lv_aload_n hx hb dX11_town_0 rfl (lv_at hl 0 rfl) ?_
  refine tk_getA hC hK hw hT hinX11 kC_at0 (by decide) rfl 1 (by decide) (List.mem_cons_of_mem _ uw_0_19) rfl rfl dX11_town_1 ?_
  refine lv_aload_n hx hb dX11_town_4 rfl (lv_at hl 0 rfl) ?_
  refine tk_getA hC hK hw hT hinX11 kC_at0 (by decide) rfl 0 (by decide) (List.mem_cons_of_mem _ uw_0_15) rfl rfl dX11_town_5 ?_
  refine tk_Vv hC hK hw hT hA hE hSR kC_at29 (by decide) rfl (kz_X7_readFrom_1 l adK adV dC dI cy ad B (by omega) (by omega) qr s1    w0 s.heap.size hT ) (cwV 1 hC.2.2.2.2 uV_RX11_107 rfl rfl rfl (by decide +kernel) ⟨Nat.le_of_ble_eq_true rfl, Nat.le_of_ble_eq_true rfl⟩) rfl hl.1 rfl (Nat.le_of_ble_eq_true rfl) dX11_town_8 (fun w3 H locs hp2 hw => ?_)
  obtain ⟨hT, k4, hv14, hg13⟩ := hp2
  have hF := hF.tr k4 (by decide)
  obtain ⟨⟨x5, c6, rx5, tx5⟩, ⟨x7, c8, rx7, tx7⟩, ⟨x9, c10, rx9, tx9⟩, ⟨x11, c12, rx11, tx11⟩⟩ := hg13
  replace hM := hM.call hv14 rfl
  refine lv_aload_n hx hb dX11_town_11 rfl (lv_at hl 0 rfl) ?_
  refine tk_getA hC hK hw hT hinX11 kC_at0 (by decide) rfl 0 (by decide) (List.mem_cons_of_mem _ uw_0_15) rfl rfl dX11_town_12 ?_
  refine tk_geti hC hK hw hT hinX6 kC_at1 (by decide) rfl 4 (by decide) (List.mem_cons_of_mem _ uw_9_0) rfl rfl dX11_town_15 (fun x15 c16 rx15 tx15 => ?_)
  refine wk_top x5 (c16.symm.trans c6) ?_
  replace hM := hM.rd (sI_at c6)
  refine lv_istore_n (lv' := [(1, .int x5), (0, .ref (ad 0))]) hx hb dX11_town_18 rfl hl (by decide) rfl (fun ls hl => ?_)
  refine lv_aload_n hx hb dX11_town_19 rfl (lv_at hl 1 rfl) ?_
  refine tk_getA hC hK hw hT hinX11 kC_at0 (by decide) rfl 0 (by decide) (List.mem_cons_of_mem _ uw_0_15) rfl rfl dX11_town_20 ?_
  refine lv_iconst (v := 0) hx hb dX11_town_23 (by decide) ?_
  refine tk_puti hC hK hw hT hinX6 tyX6_ok nmX6 kC_at1 (by decide) rfl rfl 2 (by decide) (List.mem_cons_of_mem _ uw_7_17) rfl rfl rfl rfl (by decide) (by decide) dX11_town_24 (fun H locs w17 hw hT k19 c18 => ?_)
  replace hM := hM.wr (sI_upc k19 c18 (by decide))
  have hF := hF.put kC_at1 (k := 2) (by decide) k19
  have c20 := k19.gi (Or.inr (by decide)) c6
  have c21 := k19.gi (Or.inr (by decide)) c8
  have c22 := k19.gi (Or.inr (by decide)) c10
  have c23 := k19.gi (Or.inr (by decide)) c12
  refine lv_iload_n hx hb dX11_town_27 rfl (lv_at hl 0 rfl) ?_
  refine lv_if_eq (tgt := 36) hx hb dX11_town_28 (by decide) (fun c24 => ?_) (fun c24 => ?_)
  · have c24 : x5.toInt = (0 : Int) := wk_eq.mp c24
    replace hM := hM.pos c24
    refine lv_aload_n hx hb dX11_town_36 rfl (lv_at hl 1 rfl) ?_
    refine tk_getA hC hK hw hT hinX11 kC_at0 (by decide) rfl 4 (by decide) (List.mem_cons_of_mem _ uw_1_7) rfl rfl dX11_town_37 ?_
    refine lv_aload_n hx hb dX11_town_40 rfl (lv_at hl 1 rfl) ?_
    refine tk_getA hC hK hw hT hinX11 kC_at0 (by decide) rfl 1 (by decide) (List.mem_cons_of_mem _ uw_0_19) rfl rfl dX11_town_41 ?_
    refine tk_Vv hC hK hw hT hA hE hSR kC_at38 (by decide) rfl (kz_X5_moveTo_1 l adK adV dC dI cy ad B (by omega) (by omega) qr s1    w17 H.size hT ) (cwV 1 hC.2.2.2.2 uV_RX11_113 rfl rfl rfl (by decide +kernel) ⟨Nat.le_of_ble_eq_true rfl, Nat.le_of_ble_eq_true rfl⟩) rfl hl.1 rfl (Nat.le_of_ble_eq_true rfl) dX11_town_44 (fun w27 H locs hp26 hw => ?_)
    obtain ⟨hT, k28, hv46, hg45⟩ := hp26
    have hF := hF.tr k28 (by decide)
    have c47 := k28.gi kC_at1 (by decide) c20
    have c48 := k28.gi kC_at1 (by decide) c18
    obtain ⟨⟨x29, c30, rx29, tx29⟩, ⟨x31, c32, rx31, tx31⟩, ⟨x33, c34, rx33, tx33⟩, ⟨x35, c36, rx35, tx35⟩, ⟨x37, c38, rx37, tx37⟩, ⟨x39, c40, rx39, tx39⟩, ⟨x41, c42, rx41, tx41⟩, ⟨x43, c44, rx43, tx43⟩⟩ := hg45
    replace hM := hM.call hv46 rfl
    refine lv_aload_n hx hb dX11_town_47 rfl (lv_at hl 1 rfl) ?_
    refine tk_getA hC hK hw hT hinX11 kC_at0 (by decide) rfl 7 (by decide) (List.mem_cons_of_mem _ uw_1_14) rfl rfl dX11_town_48 ?_
    refine tk_Vv hC hK hw hT hA hE hSR kC_at145 (by decide) rfl (kz_X0_forgetAll_1 l adK adV dC dI cy ad B (by omega) (by omega) qr s1    w27 H.size hT ) (cwV 0 hC.2.2.2.2 uV_RX11_117 rfl rfl rfl (by decide +kernel) ⟨Nat.le_of_ble_eq_true rfl, Nat.le_of_ble_eq_true rfl⟩) rfl hl.1 rfl (Nat.le_of_ble_eq_true rfl) dX11_town_51 (fun w51 H locs hp50 hw => ?_)
    obtain ⟨hT, k52, hv54, hg53⟩ := hp50
    have hF := hF.tr k52 (by decide)
    have c55 := k52.gi kC_at1 (by decide) c47
    have c56 := k52.gi kC_at1 (by decide) c48
    have c57 := k52.gi kC_at29 (by decide) c30
    have c58 := k52.gi kC_at29 (by decide) c32
    have c59 := k52.gi kC_at29 (by decide) c34
    have c60 := k52.gi kC_at38 (by decide) c36
    have c61 := k52.gi kC_at38 (by decide) c38
    have c62 := k52.gi kC_at38 (by decide) c40
    have c63 := k52.gi kC_at38 (by decide) c42
    have c64 := k52.gi kC_at38 (by decide) c44
    clear hg53
    replace hM := hM.call hv54 rfl
    refine lv_aload_n hx hb dX11_town_54 rfl (lv_at hl 1 rfl) ?_
    refine tk_getA hC hK hw hT hinX11 kC_at0 (by decide) rfl 4 (by decide) (List.mem_cons_of_mem _ uw_1_7) rfl rfl dX11_town_55 ?_
    refine tk_getO hC hK hw hT hinX5 kC_at38 (by decide) rfl 0 (by decide) (List.mem_cons_of_mem _ uw_9_1) rfl rfl dX11_town_58 ?_
    refine tk_geti hC hK hw hT hinX7 kC_at39 (by decide) rfl 9 (by decide) (List.mem_cons_of_mem _ uw_9_2) rfl rfl dX11_town_61 (fun x65 c66 rx65 tx65 => ?_)
    replace hM := hM.rd (sI_at c66)
    exact tk_iret hC hr hlocks hK ⟨hT, hF, hM.ret rfl, (Or.inr ⟨(show 0 ≤ x65.toInt from rx65), (show x65.toInt ≤ 12 from tx65), ⟨0, c56, (by decide), (by decide)⟩, ⟨x5, c55, (show 0 ≤ x5.toInt by omega), (show x5.toInt ≤ 0 by omega)⟩, ⟨x29, c57, (show 0 ≤ x29.toInt by omega), (show x29.toInt ≤ 12 by omega)⟩, ⟨x31, c58, (show 0 ≤ x31.toInt by omega), (show x31.toInt ≤ 8 by omega)⟩, ⟨x33, c59, (show 0 ≤ x33.toInt by omega), (show x33.toInt ≤ 4 by omega)⟩, ⟨x35, c60, (show 0 ≤ x35.toInt by omega), (show x35.toInt ≤ 0 by omega)⟩, ⟨x37, c61, (show 0 ≤ x37.toInt by omega), (show x37.toInt ≤ 0 by omega)⟩, ⟨x39, c62, (show 0 ≤ x39.toInt by omega), (show x39.toInt ≤ 0 by omega)⟩, ⟨x41, c63, (show 0 ≤ x41.toInt by omega), (show x41.toInt ≤ 0 by omega)⟩, ⟨x43, c64, (show 0 ≤ x43.toInt by omega), (show x43.toInt ≤ 0 by omega)⟩⟩)⟩ hw dX11_town_64
  · have c24 : ¬ x5.toInt = (0 : Int) := wk_eqF c24
    replace hM := hM.neg c24
    refine lv_bipush (v := (-2)) hx hb dX11_town_31 (by decide) ?_
    refine lv_iload_n hx hb dX11_town_33 rfl (lv_at hl 0 rfl) ?_
    refine lv_isub hx hb dX11_town_34 ?_
    refine lv_topi (fun x67 ex67 => ?_)
    have ezx67 := ex67
    have ex67 : x67.toInt = (-2 : Int) - x5.toInt := by rw [ex67]; exact wk_sub (show (-2147483648) ≤ (-2 : Int) - x5.toInt by omega) (show (-2 : Int) - x5.toInt ≤ 2147483647 by omega)
    replace hM := hM.lt ex67.symm
    exact tk_iret hC hr hlocks hK ⟨hT, hF, hM.ret rfl, (Or.inl ⟨(show (-3207) ≤ x67.toInt by omega), (show x67.toInt ≤ (-3) by omega), ⟨0, c18, (by decide), (by decide)⟩, ⟨x5, c20, (show 1 ≤ x5.toInt by omega), (show x5.toInt ≤ 3205 by omega)⟩, ⟨x7, c21, (show 0 ≤ x7.toInt by omega), (show x7.toInt ≤ 12 by omega)⟩, ⟨x9, c22, (show 0 ≤ x9.toInt by omega), (show x9.toInt ≤ 8 by omega)⟩, ⟨x11, c23, (show 0 ≤ x11.toInt by omega), (show x11.toInt ≤ 4 by omega)⟩⟩)⟩ hw dX11_town_35
abbrev Pz_X2_isFull_1 (ad : Nat → Nat) (cy : Nat → ClassId) (B : Int) (qr : Nat) (s1 : Int) (q0_ : Nat) (w0 : va_W) : Int32 → va_W → Prop := fun r u => TW ksC ad cy B qr s1 u ∧ FE ksC ([] : List (Nat × Nat × Nat)) w0 u ∧ Ev (fun n => m_X2_isFull n q0_ (sI w0)) (r.toInt, sI u) ∧ ((r = 0 ∧ (∃ y : Int32, gi u q0_ 4 = y ∧ 0 ≤ y.toInt ∧ y.toInt ≤ 11)) ∨ (r = 1 ∧ (∃ y : Int32, gi u q0_ 4 = y ∧ 12 ≤ y.toInt ∧ y.toInt ≤ 12)))
set_option maxHeartbeats 4000000 in
set_option maxRecDepth 100000 in
theorem kz_X2_isFull_1 (l : Launch) (adK adV : Nat → Nat) (dC : Nat → ClassId) (dI : Nat → Nat → Nat) (cy : Nat → ClassId) (ad : Nat → Nat) (B : Int) (hB0 : 2147483648 ≤ B) (hB1 : B ≤ 1152921504606846976) (qr : Nat) (s1 : Int)  (q0_ : Nat) (hkq0_ : ksC[q0_]? = some 2) (w0 : va_W) (sz : Nat) (hT : TW ksC ad cy B qr s1 w0)  : Met l yX2_isFull (wu yX2_isFull cX2_isFull 1 (some .boolean)) ({ frames := 1, cells := 0, slots := 0, locals := 12 }) (va_Pc [.ref (ad q0_)] (wpreS adK adV dC dI cy sz w0)) (va_Qi (Pz_X2_isFull_1 ad cy B qr s1 q0_ w0) (fun u : va_W => wpost dC dI cy (va_A w0 sz) u) (va_A w0 sz)) 0 0 (va_A w0 sz) := by
  refine Met.ofW (cc := cX2_isFull) (maxL := 1) (ret := (some .boolean)) (by decide) rfl ?_
  intro p e s m args below meth c s₁ Bk hml hv
  obtain ⟨rfl, ⟨hsz, hP, hK, hD0⟩, hE, hSR⟩ := hv
  have hx := Bk.exec
  have hb := Bk.bytes
  have hr := Bk.returns
  have hlocks := Bk.notSynchronized
  have hC : CallFix p m c cX2_isFull 1 s _ (wu yX2_isFull cX2_isFull 1 (some .boolean)) RX2 := ⟨hx, hb, hml, findClass_of_methodNamed Bk.named, atoms_spec (ws := (wu yX2_isFull cX2_isFull 1 (some .boolean))) Bk.pre⟩
  subst hsz
  have hD := hD0.self (sz := s.heap.size)
  generalize hAe : va_A w0 s.heap.size = A at hD hE ⊢
  have hA : ∀ q : Nat, s.heap.size ≤ q → A q := fun q h => by rw [← hAe]; exact Or.inr h
  have hw : Wd dC dI A s.heap s.heap [] w0 := ⟨hP, hD, va_S.rf⟩
  have hF : FE ksC ([] : List (Nat × Nat × Nat)) w0 w0 := FE.rf
  have hl := lv_entry ([.ref (ad q0_)]) (n := 1) (Nat.le_of_ble_eq_true rfl)
  rw [lg_entry_eq]
  generalize (lg_sl ([.ref (ad q0_)]) ++ List.replicate (1 - (lg_sl ([.ref (ad q0_)])).length) Slot.unset).toArray = ls at hl ⊢
  have hl : lv_has ls 1 [(0, .ref (ad q0_))] := hl
  generalize hloc : ([] : List Loc) = locs at hw ⊢
  have hinX2 : ∀ w ∈ u_ws RX2 TX2 6, w ∈ (wu yX2_isFull cX2_isFull 1 (some .boolean)) := fun _ h => List.mem_cons_of_mem _ (up_74 h)
  have hM : TT (fun n => m_X2_isFull n q0_ (sI w0)) (fun n => m_X2_isFull n q0_ (sI w0)) := TT.rf
  refine lv_aload_n hx hb dX2_isFull_0 rfl (lv_at hl 0 rfl) ?_
  refine tk_geti hC hK hw hT hinX2 hkq0_ (by decide) rfl 4 (by decide) (List.mem_cons_of_mem _ uw_27_0) rfl rfl dX2_isFull_1 (fun x1 c2 rx1 tx1 => ?_)
  replace hM := hM.rd (sI_at c2)
  refine lv_bipush (v := 12) hx hb dX2_isFull_4 (by decide) ?_
  refine lv_icmp_lt (tgt := 13) hx hb dX2_isFull_6 (by decide) (fun c3 => ?_) (fun c3 => ?_)
  · have c3 : x1.toInt < (12 : Int) := wk_lt.mp c3
    replace hM := hM.pos c3
    refine lv_iconst (v := 0) hx hb dX2_isFull_13 (by decide) ?_
    exact tk_zret hC hr rfl hlocks hK ⟨hT, hF, hM.ret (by decide), (Or.inl ⟨rfl, ⟨x1, c2, (show 0 ≤ x1.toInt by omega), (show x1.toInt ≤ 11 by omega)⟩⟩)⟩ hw dX2_isFull_14
  · have c3 : (12 : Int) ≤ x1.toInt := wk_ltF c3
    replace hM := hM.neg (Int.not_lt.mpr c3)
    refine lv_iconst (v := 1) hx hb dX2_isFull_9 (by decide) ?_
    refine lv_goto (tgt := 14) hx hb dX2_isFull_10 (by decide) ?_
    exact tk_zret hC hr rfl hlocks hK ⟨hT, hF, hM.ret (by decide), (Or.inr ⟨rfl, ⟨x1, c2, (show 12 ≤ x1.toInt by omega), (show x1.toInt ≤ 12 by omega)⟩⟩)⟩ hw dX2_isFull_14
abbrev Pz_X2_addClause_1 (ad : Nat → Nat) (cy : Nat → ClassId) (B : Int) (qr : Nat) (s1 : Int) (q0_ : Nat) (a1 : Int32) (w0 : va_W) : va_W → Prop := fun u => TW ksC ad cy B qr s1 u ∧ FE ksC [(2, 4, 4), (2, 5, 5), (21, 0, 12), (22, 0, 13)] w0 u ∧ Ev (fun n => m_X2_addClause n q0_ a1.toInt (sI w0)) (0, sI u) ∧ (((∃ y : Int32, gi u q0_ 4 = y ∧ 1 ≤ y.toInt ∧ y.toInt ≤ 12)))
set_option maxHeartbeats 4000000 in
set_option maxRecDepth 100000 in
theorem kz_X2_addClause_1 (l : Launch) (adK adV : Nat → Nat) (dC : Nat → ClassId) (dI : Nat → Nat → Nat) (cy : Nat → ClassId) (ad : Nat → Nat) (B : Int) (hB0 : 2147483648 ≤ B) (hB1 : B ≤ 1152921504606846976) (qr : Nat) (s1 : Int)  (q0_ : Nat) (hkq0_ : ksC[q0_]? = some 2) (a1 : Int32) (ra1 : (-1) ≤ a1.toInt) (ta1 : a1.toInt ≤ 18) (w0 : va_W) (sz : Nat) (hT : TW ksC ad cy B qr s1 w0)  : Met l yX2_addClause (wu yX2_addClause cX2_addClause 2 none) ({ frames := 2, cells := 0, slots := 0, locals := 32 }) (va_Pc [.ref (ad q0_), .int a1] (wpreS adK adV dC dI cy sz w0)) (va_Qv (Pz_X2_addClause_1 ad cy B qr s1 q0_ a1 w0) (fun u : va_W => wpost dC dI cy (va_A w0 sz) u) (va_A w0 sz)) 0 0 (va_A w0 sz) := by
  refine Met.ofW (cc := cX2_addClause) (maxL := 2) (ret := none) (by decide) rfl ?_
  intro p e s m args below meth c s₁ Bk hml hv
  obtain ⟨rfl, ⟨hsz, hP, hK, hD0⟩, hE, hSR⟩ := hv
  have hx := Bk.exec
  have hb := Bk.bytes
  have hr := Bk.returns
  have hlocks := Bk.notSynchronized
  have hC : CallFix p m c cX2_addClause 2 s _ (wu yX2_addClause cX2_addClause 2 none) RX2 := ⟨hx, hb, hml, findClass_of_methodNamed Bk.named, atoms_spec (ws := (wu yX2_addClause cX2_addClause 2 none)) Bk.pre⟩
  subst hsz
  have hD := hD0.self (sz := s.heap.size)
  generalize hAe : va_A w0 s.heap.size = A at hD hE ⊢
  have hA : ∀ q : Nat, s.heap.size ≤ q → A q := fun q h => by rw [← hAe]; exact Or.inr h
  have hw : Wd dC dI A s.heap s.heap [] w0 := ⟨hP, hD, va_S.rf⟩
  have hF : FE ksC [(2, 4, 4), (2, 5, 5), (21, 0, 12), (22, 0, 13)] w0 w0 := FE.rf
  have hl := lv_entry ([.ref (ad q0_), .int a1]) (n := 2) (Nat.le_of_ble_eq_true rfl)
  rw [lg_entry_eq]
  generalize (lg_sl ([.ref (ad q0_), .int a1]) ++ List.replicate (2 - (lg_sl ([.ref (ad q0_), .int a1])).length) Slot.unset).toArray = ls at hl ⊢
  have hl : lv_has ls 2 [(0, .ref (ad q0_)), (1, .int a1)] := hl
  generalize hloc : ([] : List Loc) = locs at hw ⊢
  have hinX2 : ∀ w ∈ u_ws RX2 TX2 6, w ∈ (wu yX2_addClause cX2_addClause 2 none) := fun _ h => List.mem_cons_of_mem _ (up_74 h)
  have J61 : ∀ (f61_q0__4 : Int32) (H : Heap) (locs : List Loc) (ls : Array Slot) (w1 : va_W), (-1) ≤ a1.toInt → a1.toInt ≤ 18 → 1 ≤ f61_q0__4.toInt → f61_q0__4.toInt ≤ 12 → Wd dC dI A s.heap H locs w1 → TW ksC ad cy B qr s1 w1 → FE ksC [(2, 4, 4), (2, 5, 5), (21, 0, 12), (22, 0, 13)] w0 w1 → gi w1 q0_ 4 = f61_q0__4 → TT (fun n => m_X2_addClause n q0_ a1.toInt (sI w0)) (fun n => b_X2_addClause_61 n q0_ (sI w1)) → lv_has ls 2 [(0, .ref (ad q0_)), (1, .int a1)] → W p l e ({ frames := 2, cells := 0, slots := 0, locals := 32 }) s m (List.toArray [.ref (ad q0_), .int a1]) below meth c H locs 0 0 (MQ below (va_Qv (Pz_X2_addClause_1 ad cy B qr s1 q0_ a1 w0) (fun u : va_W => wpost dC dI cy A u) A) (List.toArray [.ref (ad q0_), .int a1]) s 0 0 A) (F0 m 61 ls []) := by
    intro f61_q0__4 H locs ls w1 r2 t3 r4 t5 hw hT hF c6 hM hl
    exact tk_vret hC hr hlocks hK ⟨hT, hF, hM.ret rfl, ⟨f61_q0__4, c6, (show 1 ≤ f61_q0__4.toInt from r4), (show f61_q0__4.toInt ≤ 12 from t5)⟩⟩ hw dX2_addClause_61
  have hM : TT (fun n => m_X2_addClause n q0_ a1.toInt (sI w0)) (fun n => m_X2_addClause n q0_ a1.toInt (sI w0)) := TT.rf
  refine lv_aload_n hx hb dX2_addClause_0 rfl (lv_at hl 0 rfl) ?_
  refine tk_Vi hC hK hw hT hA hE hSR hkq0_ (by decide) rfl (kz_X2_isFull_1 l adK adV dC dI cy ad B (by omega) (by omega) qr s1   q0_ hkq0_ w0 s.heap.size hT ) (cwV 0 hC.2.2.2.2 uV_RX2_32 rfl rfl rfl (by decide +kernel) ⟨Nat.le_of_ble_eq_true rfl, Nat.le_of_ble_eq_true rfl⟩) rfl hl.1 rfl (Nat.le_of_ble_eq_true rfl) dX2_addClause_1 (fun r7 w9 H locs hp8 hw => ?_)
  obtain ⟨hT, k10, hv16, hg15⟩ := hp8
  have hF := hF.tr k10 (by decide)
  rcases hg15 with ⟨rfl, ⟨x11, c12, rx11, tx11⟩⟩ | ⟨rfl, ⟨x13, c14, rx13, tx13⟩⟩
  · replace hM := hM.call (r' := 0) hv16 (by decide)
    refine lv_if_ne (tgt := 61) hx hb dX2_addClause_4 (by decide) (fun c => absurd (by decide) c) (fun _ => ?_)
    replace hM := hM.neg (by decide)
    refine lv_aload_n hx hb dX2_addClause_7 rfl (lv_at hl 0 rfl) ?_
    refine tk_getO hC hK hw hT hinX2 hkq0_ (by decide) rfl 0 (by decide) (List.mem_cons_of_mem _ uw_3_5) rfl rfl dX2_addClause_8 ?_
    refine lv_aload_n hx hb dX2_addClause_11 rfl (lv_at hl 0 rfl) ?_
    refine tk_geti hC hK hw hT hinX2 hkq0_ (by decide) rfl 4 (by decide) (List.mem_cons_of_mem _ uw_27_0) rfl rfl dX2_addClause_12 (fun x17 c18 rx17 tx17 => ?_)
    refine wk_top x11 (c18.symm.trans c12) ?_
    replace hM := hM.rd (sI_at c12)
    refine lv_iload_n hx hb dX2_addClause_15 rfl (lv_at hl 1 rfl) ?_
    refine tk_iast hC hK hw hT (kC_2_1 hkq0_) (by decide) rfl rfl (show 0 ≤ x11.toInt by omega) (show x11.toInt < 12 by omega) (wk_i32 a1).1 (wk_i32 a1).2 dX2_addClause_16 (fun H locs w19 hw hT k21 c20 => ?_)
    replace hM := hM.wr (sI_up k21 c20)
    have hF := hF.put (kC_2_1 hkq0_) (inE_of (a := 0) (b := 12) (by decide) (show 0 ≤ x11.toInt.toNat by omega) (show x11.toInt.toNat ≤ 12 by omega)) k21
    have c22 := k21.gi (Or.inl (tk_ne hkq0_ (kC_2_1 hkq0_) (by decide))) c12
    refine lv_aload_n hx hb dX2_addClause_17 rfl (lv_at hl 0 rfl) ?_
    refine lv_aload_n hx hb dX2_addClause_18 rfl (lv_at hl 0 rfl) ?_
    refine tk_geti hC hK hw hT hinX2 hkq0_ (by decide) rfl 5 (by decide) (List.mem_cons_of_mem _ uw_27_2) rfl rfl dX2_addClause_19 (fun x23 c24 rx23 tx23 => ?_)
    replace hM := hM.rd (sI_at c24)
    refine lv_if_ne (tgt := 30) hx hb dX2_addClause_22 (by decide) (fun c25 => ?_) (fun c25 => ?_)
    · have c25 : ¬ x23.toInt = (0 : Int) := wk_eqF c25
      replace hM := hM.pos c25
      refine lv_iconst (v := 1) hx hb dX2_addClause_30 (by decide) ?_
      refine lv_goto (tgt := 35) hx hb dX2_addClause_31 (by decide) ?_
      refine tk_putz hC hK hw hT hinX2 tyX2_ok nmX2 hkq0_ (by decide) rfl rfl 5 (by decide) (List.mem_cons_of_mem _ uw_27_2) rfl rfl rfl rfl (by decide) (by decide) dX2_addClause_35 (fun H locs w26 hw hT k28 c27 => ?_)
      replace hM := hM.wr (sI_upc k28 c27 (by decide))
      have hF := hF.put hkq0_ (k := 5) (by decide) k28
      have c29 := k28.gi (Or.inr (by decide)) c22
      refine lv_aload_n hx hb dX2_addClause_38 rfl (lv_at hl 0 rfl) ?_
      refine lv_dup hx hb dX2_addClause_39 rfl ?_
      refine tk_geti hC hK hw hT hinX2 hkq0_ (by decide) rfl 4 (by decide) (List.mem_cons_of_mem _ uw_27_0) rfl rfl dX2_addClause_40 (fun x30 c31 rx30 tx30 => ?_)
      refine wk_top x11 (c31.symm.trans c29) ?_
      replace hM := hM.rd (sI_at c29)
      refine lv_iconst (v := 1) hx hb dX2_addClause_43 (by decide) ?_
      refine lv_iadd hx hb dX2_addClause_44 ?_
      refine lv_topi (fun x32 ex32 => ?_)
      have ezx32 := ex32
      have ex32 : x32.toInt = x11.toInt + (1 : Int) := by rw [ex32]; exact wk_add (show (-2147483648) ≤ x11.toInt + (1 : Int) by omega) (show x11.toInt + (1 : Int) ≤ 2147483647 by omega)
      replace hM := hM.lt ex32.symm
      refine tk_puti hC hK hw hT hinX2 tyX2_ok nmX2 hkq0_ (by decide) rfl rfl 4 (by decide) (List.mem_cons_of_mem _ uw_27_0) rfl rfl rfl rfl (show 0 ≤ x32.toInt by omega) (show x32.toInt ≤ 12 by omega) dX2_addClause_45 (fun H locs w33 hw hT k35 c34 => ?_)
      replace hM := hM.wr (sI_up k35 c34)
      have hF := hF.put hkq0_ (k := 4) (by decide) k35
      have c36 := k35.gi (Or.inr (by decide)) c27
      refine lv_aload_n hx hb dX2_addClause_48 rfl (lv_at hl 0 rfl) ?_
      refine tk_getO hC hK hw hT hinX2 hkq0_ (by decide) rfl 1 (by decide) (List.mem_cons_of_mem _ uw_3_6) rfl rfl dX2_addClause_49 ?_
      refine lv_aload_n hx hb dX2_addClause_52 rfl (lv_at hl 0 rfl) ?_
      refine tk_geti hC hK hw hT hinX2 hkq0_ (by decide) rfl 4 (by decide) (List.mem_cons_of_mem _ uw_27_0) rfl rfl dX2_addClause_53 (fun x37 c38 rx37 tx37 => ?_)
      refine wk_top x32 (c38.symm.trans c34) ?_
      replace hM := hM.rd (sI_at c34)
      refine lv_aload_n hx hb dX2_addClause_56 rfl (lv_at hl 0 rfl) ?_
      refine tk_geti hC hK hw hT hinX2 hkq0_ (by decide) rfl 3 (by decide) (List.mem_cons_of_mem _ uw_27_1) rfl rfl dX2_addClause_57 (fun x39 c40 rx39 tx39 => ?_)
      replace hM := hM.rd (sI_at c40)
      refine tk_iast hC hK hw hT (kC_2_2 hkq0_) (by decide) rfl rfl (show 0 ≤ x32.toInt by omega) (show x32.toInt < 13 by omega) (show 0 ≤ x39.toInt by omega) (show x39.toInt ≤ 400 by omega) dX2_addClause_60 (fun H locs w41 hw hT k43 c42 => ?_)
      replace hM := hM.wr (sI_up k43 c42)
      have hF := hF.put (kC_2_2 hkq0_) (inE_of (a := 0) (b := 13) (by decide) (show 0 ≤ x32.toInt.toNat by omega) (show x32.toInt.toNat ≤ 13 by omega)) k43
      have c44 := k43.gi (Or.inl (tk_ne hkq0_ (kC_2_2 hkq0_) (by decide))) c36
      have c45 := k43.gi (Or.inl (tk_ne hkq0_ (kC_2_2 hkq0_) (by decide))) c34
      have c46 := k43.gi (Or.inl (tk_ne hkq0_ (kC_2_2 hkq0_) (by decide))) c40
      exact J61 x32 H locs ls w41 (show (-1) ≤ a1.toInt from ra1) (show a1.toInt ≤ 18 from ta1) (show 1 ≤ x32.toInt by omega) (show x32.toInt ≤ 12 by omega)  hw hT hF c45 hM (lv_sub hl [0, 1] rfl)
    · have c25 : x23.toInt = (0 : Int) := wk_eq.mp c25
      replace hM := hM.neg (fun q => q c25)
      refine lv_iload_n hx hb dX2_addClause_25 rfl (lv_at hl 1 rfl) ?_
      refine lv_iconst (v := 1) hx hb dX2_addClause_26 (by decide) ?_
      refine lv_icmp_ne (tgt := 34) hx hb dX2_addClause_27 (by decide) (fun c47 => ?_) (fun c47 => ?_)
      · have c47 : ¬ a1.toInt = (1 : Int) := wk_eqF c47
        replace hM := hM.pos c47
        refine lv_iconst (v := 0) hx hb dX2_addClause_34 (by decide) ?_
        refine tk_putz hC hK hw hT hinX2 tyX2_ok nmX2 hkq0_ (by decide) rfl rfl 5 (by decide) (List.mem_cons_of_mem _ uw_27_2) rfl rfl rfl rfl (by decide) (by decide) dX2_addClause_35 (fun H locs w48 hw hT k50 c49 => ?_)
        replace hM := hM.wr (sI_upc k50 c49 (by decide))
        have hF := hF.put hkq0_ (k := 5) (by decide) k50
        have c51 := k50.gi (Or.inr (by decide)) c22
        refine lv_aload_n hx hb dX2_addClause_38 rfl (lv_at hl 0 rfl) ?_
        refine lv_dup hx hb dX2_addClause_39 rfl ?_
        refine tk_geti hC hK hw hT hinX2 hkq0_ (by decide) rfl 4 (by decide) (List.mem_cons_of_mem _ uw_27_0) rfl rfl dX2_addClause_40 (fun x52 c53 rx52 tx52 => ?_)
        refine wk_top x11 (c53.symm.trans c51) ?_
        replace hM := hM.rd (sI_at c51)
        refine lv_iconst (v := 1) hx hb dX2_addClause_43 (by decide) ?_
        refine lv_iadd hx hb dX2_addClause_44 ?_
        refine lv_topi (fun x54 ex54 => ?_)
        have ezx54 := ex54
        have ex54 : x54.toInt = x11.toInt + (1 : Int) := by rw [ex54]; exact wk_add (show (-2147483648) ≤ x11.toInt + (1 : Int) by omega) (show x11.toInt + (1 : Int) ≤ 2147483647 by omega)
        replace hM := hM.lt ex54.symm
        refine tk_puti hC hK hw hT hinX2 tyX2_ok nmX2 hkq0_ (by decide) rfl rfl 4 (by decide) (List.mem_cons_of_mem _ uw_27_0) rfl rfl rfl rfl (show 0 ≤ x54.toInt by omega) (show x54.toInt ≤ 12 by omega) dX2_addClause_45 (fun H locs w55 hw hT k57 c56 => ?_)
        replace hM := hM.wr (sI_up k57 c56)
        have hF := hF.put hkq0_ (k := 4) (by decide) k57
        have c58 := k57.gi (Or.inr (by decide)) c49
        refine lv_aload_n hx hb dX2_addClause_48 rfl (lv_at hl 0 rfl) ?_
        refine tk_getO hC hK hw hT hinX2 hkq0_ (by decide) rfl 1 (by decide) (List.mem_cons_of_mem _ uw_3_6) rfl rfl dX2_addClause_49 ?_
        refine lv_aload_n hx hb dX2_addClause_52 rfl (lv_at hl 0 rfl) ?_
        refine tk_geti hC hK hw hT hinX2 hkq0_ (by decide) rfl 4 (by decide) (List.mem_cons_of_mem _ uw_27_0) rfl rfl dX2_addClause_53 (fun x59 c60 rx59 tx59 => ?_)
        refine wk_top x54 (c60.symm.trans c56) ?_
        replace hM := hM.rd (sI_at c56)
        refine lv_aload_n hx hb dX2_addClause_56 rfl (lv_at hl 0 rfl) ?_
        refine tk_geti hC hK hw hT hinX2 hkq0_ (by decide) rfl 3 (by decide) (List.mem_cons_of_mem _ uw_27_1) rfl rfl dX2_addClause_57 (fun x61 c62 rx61 tx61 => ?_)
        replace hM := hM.rd (sI_at c62)
        refine tk_iast hC hK hw hT (kC_2_2 hkq0_) (by decide) rfl rfl (show 0 ≤ x54.toInt by omega) (show x54.toInt < 13 by omega) (show 0 ≤ x61.toInt by omega) (show x61.toInt ≤ 400 by omega) dX2_addClause_60 (fun H locs w63 hw hT k65 c64 => ?_)
        replace hM := hM.wr (sI_up k65 c64)
        have hF := hF.put (kC_2_2 hkq0_) (inE_of (a := 0) (b := 13) (by decide) (show 0 ≤ x54.toInt.toNat by omega) (show x54.toInt.toNat ≤ 13 by omega)) k65
        have c66 := k65.gi (Or.inl (tk_ne hkq0_ (kC_2_2 hkq0_) (by decide))) c58
        have c67 := k65.gi (Or.inl (tk_ne hkq0_ (kC_2_2 hkq0_) (by decide))) c56
        have c68 := k65.gi (Or.inl (tk_ne hkq0_ (kC_2_2 hkq0_) (by decide))) c62
        exact J61 x54 H locs ls w63 (show (-1) ≤ a1.toInt from ra1) (show a1.toInt ≤ 18 from ta1) (show 1 ≤ x54.toInt by omega) (show x54.toInt ≤ 12 by omega)  hw hT hF c67 hM (lv_sub hl [0, 1] rfl)
      · have c47 : a1.toInt = (1 : Int) := wk_eq.mp c47
        replace hM := hM.neg (fun q => q c47)
        refine lv_iconst (v := 1) hx hb dX2_addClause_30 (by decide) ?_
        refine lv_goto (tgt := 35) hx hb dX2_addClause_31 (by decide) ?_
        refine tk_putz hC hK hw hT hinX2 tyX2_ok nmX2 hkq0_ (by decide) rfl rfl 5 (by decide) (List.mem_cons_of_mem _ uw_27_2) rfl rfl rfl rfl (by decide) (by decide) dX2_addClause_35 (fun H locs w69 hw hT k71 c70 => ?_)
        replace hM := hM.wr (sI_upc k71 c70 (by decide))
        have hF := hF.put hkq0_ (k := 5) (by decide) k71
        have c72 := k71.gi (Or.inr (by decide)) c22
        refine lv_aload_n hx hb dX2_addClause_38 rfl (lv_at hl 0 rfl) ?_
        refine lv_dup hx hb dX2_addClause_39 rfl ?_
        refine tk_geti hC hK hw hT hinX2 hkq0_ (by decide) rfl 4 (by decide) (List.mem_cons_of_mem _ uw_27_0) rfl rfl dX2_addClause_40 (fun x73 c74 rx73 tx73 => ?_)
        refine wk_top x11 (c74.symm.trans c72) ?_
        replace hM := hM.rd (sI_at c72)
        refine lv_iconst (v := 1) hx hb dX2_addClause_43 (by decide) ?_
        refine lv_iadd hx hb dX2_addClause_44 ?_
        refine lv_topi (fun x75 ex75 => ?_)
        have ezx75 := ex75
        have ex75 : x75.toInt = x11.toInt + (1 : Int) := by rw [ex75]; exact wk_add (show (-2147483648) ≤ x11.toInt + (1 : Int) by omega) (show x11.toInt + (1 : Int) ≤ 2147483647 by omega)
        replace hM := hM.lt ex75.symm
        refine tk_puti hC hK hw hT hinX2 tyX2_ok nmX2 hkq0_ (by decide) rfl rfl 4 (by decide) (List.mem_cons_of_mem _ uw_27_0) rfl rfl rfl rfl (show 0 ≤ x75.toInt by omega) (show x75.toInt ≤ 12 by omega) dX2_addClause_45 (fun H locs w76 hw hT k78 c77 => ?_)
        replace hM := hM.wr (sI_up k78 c77)
        have hF := hF.put hkq0_ (k := 4) (by decide) k78
        have c79 := k78.gi (Or.inr (by decide)) c70
        refine lv_aload_n hx hb dX2_addClause_48 rfl (lv_at hl 0 rfl) ?_
        refine tk_getO hC hK hw hT hinX2 hkq0_ (by decide) rfl 1 (by decide) (List.mem_cons_of_mem _ uw_3_6) rfl rfl dX2_addClause_49 ?_
        refine lv_aload_n hx hb dX2_addClause_52 rfl (lv_at hl 0 rfl) ?_
        refine tk_geti hC hK hw hT hinX2 hkq0_ (by decide) rfl 4 (by decide) (List.mem_cons_of_mem _ uw_27_0) rfl rfl dX2_addClause_53 (fun x80 c81 rx80 tx80 => ?_)
        refine wk_top x75 (c81.symm.trans c77) ?_
        replace hM := hM.rd (sI_at c77)
        refine lv_aload_n hx hb dX2_addClause_56 rfl (lv_at hl 0 rfl) ?_
        refine tk_geti hC hK hw hT hinX2 hkq0_ (by decide) rfl 3 (by decide) (List.mem_cons_of_mem _ uw_27_1) rfl rfl dX2_addClause_57 (fun x82 c83 rx82 tx82 => ?_)
        replace hM := hM.rd (sI_at c83)
        refine tk_iast hC hK hw hT (kC_2_2 hkq0_) (by decide) rfl rfl (show 0 ≤ x75.toInt by omega) (show x75.toInt < 13 by omega) (show 0 ≤ x82.toInt by omega) (show x82.toInt ≤ 400 by omega) dX2_addClause_60 (fun H locs w84 hw hT k86 c85 => ?_)
        replace hM := hM.wr (sI_up k86 c85)
        have hF := hF.put (kC_2_2 hkq0_) (inE_of (a := 0) (b := 13) (by decide) (show 0 ≤ x75.toInt.toNat by omega) (show x75.toInt.toNat ≤ 13 by omega)) k86
        have c87 := k86.gi (Or.inl (tk_ne hkq0_ (kC_2_2 hkq0_) (by decide))) c79
        have c88 := k86.gi (Or.inl (tk_ne hkq0_ (kC_2_2 hkq0_) (by decide))) c77
        have c89 := k86.gi (Or.inl (tk_ne hkq0_ (kC_2_2 hkq0_) (by decide))) c83
        exact J61 x75 H locs ls w84 (show (-1) ≤ a1.toInt from ra1) (show a1.toInt ≤ 18 from ta1) (show 1 ≤ x75.toInt by omega) (show x75.toInt ≤ 12 by omega)  hw hT hF c88 hM (lv_sub hl [0, 1] rfl)
  · replace hM := hM.call (r' := 1) hv16 (by decide)
    refine lv_if_ne (tgt := 61) hx hb dX2_addClause_4 (by decide) (fun _ => ?_) (fun c => absurd c (by decide))
    replace hM := hM.pos (by decide)
    exact J61 x13 H locs ls w9 (show (-1) ≤ a1.toInt from ra1) (show a1.toInt ≤ 18 from ta1) (show 1 ≤ x13.toInt by omega) (show x13.toInt ≤ 12 by omega)  hw hT hF c14 hM (lv_sub hl [0, 1] rfl)
abbrev Pz_X6_takeWord_1 (ad : Nat → Nat) (cy : Nat → ClassId) (B : Int) (qr : Nat) (s1 : Int)  (w0 : va_W) : Int32 → va_W → Prop := fun r u => TW ksC ad cy B qr s1 u ∧ FE ksC [(6, 1, 1), (6, 3, 3)] w0 u ∧ Ev (fun n => m_X6_takeWord n 1 3 (sI w0)) (r.toInt, sI u) ∧ ((r = 0) ∨ (r = 1 ∧ (∃ y : Int32, gi u 1 1 = y ∧ 2 ≤ y.toInt ∧ y.toInt ≤ 400)))
set_option maxHeartbeats 4000000 in
set_option maxRecDepth 100000 in
theorem kz_X6_takeWord_1 (l : Launch) (adK adV : Nat → Nat) (dC : Nat → ClassId) (dI : Nat → Nat → Nat) (cy : Nat → ClassId) (ad : Nat → Nat) (B : Int) (hB0 : 2147483648 ≤ B) (hB1 : B ≤ 1152921504606846976) (qr : Nat) (s1 : Int)   (w0 : va_W) (sz : Nat) (hT : TW ksC ad cy B qr s1 w0)  : Met l yX6_takeWord (wu yX6_takeWord cX6_takeWord 4 (some .boolean)) ({ frames := 5, cells := 0, slots := 0, locals := 141 }) (va_Pc [.ref (ad 1), .ref (adK 3)] (wpreS adK adV dC dI cy sz w0)) (va_Qi (Pz_X6_takeWord_1 ad cy B qr s1  w0) (fun u : va_W => wpost dC dI cy (va_A w0 sz) u) (va_A w0 sz)) 0 0 (va_A w0 sz) := by
  refine Met.ofW (cc := cX6_takeWord) (maxL := 4) (ret := (some .boolean)) (by decide) rfl ?_
  intro p e s m args below meth c s₁ Bk hml hv
  obtain ⟨rfl, ⟨hsz, hP, hK, hD0⟩, hE, hSR⟩ := hv
  have hx := Bk.exec
  have hb := Bk.bytes
  have hr := Bk.returns
  have hlocks := Bk.notSynchronized
  have hC : CallFix p m c cX6_takeWord 4 s _ (wu yX6_takeWord cX6_takeWord 4 (some .boolean)) RX6 := ⟨hx, hb, hml, findClass_of_methodNamed Bk.named, atoms_spec (ws := (wu yX6_takeWord cX6_takeWord 4 (some .boolean))) Bk.pre⟩
  subst hsz
  have hD := hD0.self (sz := s.heap.size)
  generalize hAe : va_A w0 s.heap.size = A at hD hE ⊢
  have hA : ∀ q : Nat, s.heap.size ≤ q → A q := fun q h => by rw [← hAe]; exact Or.inr h
  have hw : Wd dC dI A s.heap s.heap [] w0 := ⟨hP, hD, va_S.rf⟩
  have hF : FE ksC [(6, 1, 1), (6, 3, 3)] w0 w0 := FE.rf
  have hl := lv_entry ([.ref (ad 1), .ref (adK 3)]) (n := 4) (Nat.le_of_ble_eq_true rfl)
  rw [lg_entry_eq]
  generalize (lg_sl ([.ref (ad 1), .ref (adK 3)]) ++ List.replicate (4 - (lg_sl ([.ref (ad 1), .ref (adK 3)])).length) Slot.unset).toArray = ls at hl ⊢
  have hl : lv_has ls 4 [(0, .ref (ad 1)), (1, .ref (adK 3))] := hl
  generalize hloc : ([] : List Loc) = locs at hw ⊢
  have hinX6 : ∀ w ∈ u_ws RX6 TX6 5, w ∈ (wu yX6_takeWord cX6_takeWord 4 (some .boolean)) := fun _ h => List.mem_cons_of_mem _ (up_72 h)
  have L27 : ∀ (n27 : Nat) (v27_2 : Int32) (v27_3 : Int32) (f27_1_1 : Int32) (H : Heap) (locs : List Loc) (ls : Array Slot) (w1 : va_W), 2 ≤ v27_2.toInt → v27_2.toInt ≤ 400 → 0 ≤ v27_3.toInt → v27_3.toInt ≤ 2 → 0 ≤ f27_1_1.toInt → f27_1_1.toInt ≤ 398 → (2 - v27_3.toInt).toNat < n27 → Wd dC dI A s.heap H locs w1 → TW ksC ad cy B qr s1 w1 → FE ksC [(6, 1, 1), (6, 3, 3)] w0 w1 → gi w1 1 1 = f27_1_1 → TT (fun n => m_X6_takeWord n 1 3 (sI w0)) (fun n => j_X6_takeWord 1 3 n 27 [v27_2.toInt, v27_3.toInt] (sI w1)) → lv_has ls 4 [(0, .ref (ad 1)), (1, .ref (adK 3)), (2, .int v27_2), (3, .int v27_3)] → W p l e ({ frames := 5, cells := 0, slots := 0, locals := 141 }) s m (List.toArray [.ref (ad 1), .ref (adK 3)]) below meth c H locs 0 0 (MQ below (va_Qi (Pz_X6_takeWord_1 ad cy B qr s1  w0) (fun u : va_W => wpost dC dI cy A u) A) (List.toArray [.ref (ad 1), .ref (adK 3)]) s 0 0 A) (F0 m 27 ls []) := by
    intro n27
    induction n27 with
    | zero => intro v27_2 v27_3 f27_1_1 H locs ls w1 r2 t3 r4 t5 r6 t7 hm27 hw hT hF c8 hM hl; omega
    | succ n27 ih27 =>
      intro v27_2 v27_3 f27_1_1 H locs ls w1 r2 t3 r4 t5 r6 t7 hm27 hw hT hF c8 hM hl
      replace hM := hM.suc (fun _ => e_X6_takeWord_27)
      refine lv_iload_n hx hb dX6_takeWord_27 rfl (lv_at hl 3 rfl) ?_
      refine lv_aload_n hx hb dX6_takeWord_28 rfl (lv_at hl 1 rfl) ?_
      refine tk_ViT hC hK hw hA hE hSR (s_length l adK adV dC dI cy 3 (by decide) H.size) (cwV 0 hC.2.2.2.2 uV_RX6_56 rfl rfl rfl (by decide +kernel) ⟨Nat.le_of_ble_eq_true rfl, Nat.le_of_ble_eq_true rfl⟩) 3 (by decide) rfl rfl rfl hl.1 rfl (Nat.le_of_ble_eq_true rfl) dX6_takeWord_29 (fun r9 H locs hp10 hw => ?_)
      obtain ⟨-, hp10⟩ := hp10
      obtain rfl : r9 = 2 := hp10
      replace hM := hM.lt (v := 2) (by decide)
      refine lv_icmp_ge (tgt := 62) hx hb dX6_takeWord_32 (by decide) (fun c11 => ?_) (fun c11 => ?_)
      · have c11 : (2 : Int) ≤ v27_3.toInt := wk_le.mp c11
        replace hM := hM.pos c11
        refine lv_aload_n hx hb dX6_takeWord_62 rfl (lv_at hl 0 rfl) ?_
        refine lv_iload_n hx hb dX6_takeWord_63 rfl (lv_at hl 2 rfl) ?_
        refine tk_puti hC hK hw hT hinX6 tyX6_ok nmX6 kC_at1 (by decide) rfl rfl 1 (by decide) (List.mem_cons_of_mem _ uw_9_16) rfl rfl rfl rfl (show 0 ≤ v27_2.toInt from Int.le_trans (by decide) r2) (show v27_2.toInt ≤ 400 from t3) dX6_takeWord_64 (fun H locs w12 hw hT k14 c13 => ?_)
        replace hM := hM.wr (sI_up k14 c13)
        have hF := hF.put kC_at1 (k := 1) (by decide) k14
        refine lv_iconst (v := 1) hx hb dX6_takeWord_67 (by decide) ?_
        exact tk_zret hC hr rfl hlocks hK ⟨hT, hF, hM.ret (by decide), (Or.inr ⟨rfl, ⟨v27_2, c13, (show 2 ≤ v27_2.toInt from r2), (show v27_2.toInt ≤ 400 from t3)⟩⟩)⟩ hw dX6_takeWord_68
      · have c11 : v27_3.toInt < (2 : Int) := wk_leF c11
        replace hM := hM.neg (Int.not_le.mpr c11)
        refine lv_aload_n hx hb dX6_takeWord_35 rfl (lv_at hl 0 rfl) ?_
        refine tk_getA hC hK hw hT hinX6 kC_at1 (by decide) rfl 0 (by decide) (List.mem_cons_of_mem _ uw_2_12) rfl rfl dX6_takeWord_36 ?_
        refine lv_aload_n hx hb dX6_takeWord_39 rfl (lv_at hl 0 rfl) ?_
        refine tk_geti hC hK hw hT hinX6 kC_at1 (by decide) rfl 1 (by decide) (List.mem_cons_of_mem _ uw_9_16) rfl rfl dX6_takeWord_40 (fun x15 c16 rx15 tx15 => ?_)
        refine wk_top f27_1_1 (c16.symm.trans c8) ?_
        replace hM := hM.rd (sI_at c8)
        refine lv_iload_n hx hb dX6_takeWord_43 rfl (lv_at hl 3 rfl) ?_
        refine lv_iadd hx hb dX6_takeWord_44 ?_
        refine lv_topi (fun x17 ex17 => ?_)
        have ezx17 := ex17
        have ex17 : x17.toInt = f27_1_1.toInt + v27_3.toInt := by rw [ex17]; exact wk_add (show (-2147483648) ≤ f27_1_1.toInt + v27_3.toInt by omega) (show f27_1_1.toInt + v27_3.toInt ≤ 2147483647 by omega)
        replace hM := hM.lt ex17.symm
        refine tk_iald hC hK hw hT kC_at2 rfl rfl (show 0 ≤ x17.toInt by omega) (show x17.toInt < 400 by omega) dX6_takeWord_45 (fun x18 c19 rx18 tx18 => ?_)
        have hox18 := c19
        replace hM := hM.rd (sI_at hox18)
        refine lv_aload_n hx hb dX6_takeWord_46 rfl (lv_at hl 1 rfl) ?_
        refine lv_iload_n hx hb dX6_takeWord_47 rfl (lv_at hl 3 rfl) ?_
        refine tk_ViT hC hK hw hA hE hSR (s_charAt l adK adV dC dI cy 3 (by decide) v27_3 (show 0 ≤ v27_3.toInt from r4) (show v27_3.toInt < 2 by omega) H.size) (cwV 1 hC.2.2.2.2 uV_RX6_60 rfl rfl rfl (by decide +kernel) ⟨Nat.le_of_ble_eq_true rfl, Nat.le_of_ble_eq_true rfl⟩) 3 (by decide) rfl rfl rfl hl.1 rfl (Nat.le_of_ble_eq_true rfl) dX6_takeWord_48 (fun r20 H locs hp21 hw => ?_)
        obtain ⟨-, hp21⟩ := hp21
        replace hM := hM.lt (chS_e hp21 rfl)
        refine lv_icmp_eq (tgt := 56) hx hb dX6_takeWord_51 (by decide) (fun c22 => ?_) (fun c22 => ?_)
        · have c22 : x18.toInt = r20.toInt := wk_eq.mp c22
          replace hM := hM.pos c22
          obtain ⟨x23, ex23⟩ : ∃ y : Int32, y = v27_3 + Int32.ofInt 1 := ⟨_, rfl⟩
          have erx23 := ex23
          refine lv_iinc (v := x23) (lv' := [(3, .int x23), (0, .ref (ad 1)), (1, .ref (adK 3)), (2, .int v27_2)]) hx hb dX6_takeWord_56 hl (k := 3) rfl ex23.symm (by decide) rfl (fun ls hl => ?_)
          have ex23 : x23.toInt = v27_3.toInt + 1 := by rw [ex23]; exact wk_add (y := 1) (show -2147483648 ≤ v27_3.toInt + 1 by omega) (show v27_3.toInt + 1 ≤ 2147483647 by omega)
          replace hM := hM.lt ex23.symm
          refine lv_goto (tgt := 27) hx hb dX6_takeWord_59 (by decide) ?_
          exact ih27 v27_2 x23 f27_1_1 H locs ls w1 (show 2 ≤ v27_2.toInt from r2) (show v27_2.toInt ≤ 400 from t3) (show 0 ≤ x23.toInt by omega) (show x23.toInt ≤ 2 by omega) (show 0 ≤ f27_1_1.toInt from r6) (show f27_1_1.toInt ≤ 398 from t7) (show (2 - x23.toInt).toNat < n27 by omega) hw hT hF c8 hM (lv_sub hl [1, 2, 3, 0] rfl)
        · have c22 : ¬ x18.toInt = r20.toInt := wk_eqF c22
          replace hM := hM.neg c22
          refine lv_iconst (v := 0) hx hb dX6_takeWord_54 (by decide) ?_
          exact tk_zret hC hr rfl hlocks hK ⟨hT, hF, hM.ret (by decide), (Or.inl rfl)⟩ hw dX6_takeWord_55
  have hM : TT (fun n => m_X6_takeWord n 1 3 (sI w0)) (fun n => m_X6_takeWord n 1 3 (sI w0)) := TT.rf
  refine lv_aload_n hx hb dX6_takeWord_0 rfl (lv_at hl 0 rfl) ?_
  refine tk_Vi hC hK hw hT hA hE hSR kC_at1 (by decide) rfl (kz_X6_lookBehindBlanks_1 l adK adV dC dI cy ad B (by omega) (by omega) qr s1    w0 s.heap.size hT ) (cwV 0 hC.2.2.2.2 uV_RX6_28 rfl rfl rfl (by decide +kernel) ⟨Nat.le_of_ble_eq_true rfl, Nat.le_of_ble_eq_true rfl⟩) rfl hl.1 rfl (Nat.le_of_ble_eq_true rfl) dX6_takeWord_1 (fun r24 w26 H locs hp25 hw => ?_)
  obtain ⟨hT, k27, hv37, hg36⟩ := hp25
  have hF := hF.tr k27 (by decide)
  rcases hg36 with ⟨g28, g29, ⟨x30, c31, rx30, tx30⟩, ⟨x32, c33, rx32, tx32⟩, ⟨x34, c35, rx34, tx34⟩⟩ | rfl
  · replace hM := hM.call hv37 rfl
    refine lv_pop hx hb dX6_takeWord_4 rfl ?_
    refine lv_aload_n hx hb dX6_takeWord_5 rfl (lv_at hl 0 rfl) ?_
    refine tk_Vi hC hK hw hT hA hE hSR kC_at1 (by decide) rfl (kz_X6_endOfWord_1 l adK adV dC dI cy ad B (by omega) (by omega) qr s1    w26 H.size hT ) (cwV 0 hC.2.2.2.2 uV_RX6_53 rfl rfl rfl (by decide +kernel) ⟨Nat.le_of_ble_eq_true rfl, Nat.le_of_ble_eq_true rfl⟩) rfl hl.1 rfl (Nat.le_of_ble_eq_true rfl) dX6_takeWord_6 (fun r38 w40 H locs hp39 hw => ?_)
    obtain ⟨hT, k41, hv45, hg44⟩ := hp39
    have hF := hF.tr k41 (by decide)
    have c46 := k41.gi kC_at1 (by decide) c31
    have c47 := k41.gi kC_at1 (by decide) c33
    have c48 := k41.gi kC_at1 (by decide) c35
    obtain ⟨g42, g43⟩ := hg44
    replace hM := hM.call hv45 rfl
    refine lv_istore_n (lv' := [(2, .int r38), (0, .ref (ad 1)), (1, .ref (adK 3))]) hx hb dX6_takeWord_9 rfl hl (by decide) rfl (fun ls hl => ?_)
    refine lv_iload_n hx hb dX6_takeWord_10 rfl (lv_at hl 0 rfl) ?_
    refine lv_aload_n hx hb dX6_takeWord_11 rfl (lv_at hl 1 rfl) ?_
    refine tk_geti hC hK hw hT hinX6 kC_at1 (by decide) rfl 1 (by decide) (List.mem_cons_of_mem _ uw_9_16) rfl rfl dX6_takeWord_12 (fun x49 c50 rx49 tx49 => ?_)
    refine wk_top x30 (c50.symm.trans c46) ?_
    replace hM := hM.rd (sI_at c46)
    refine lv_isub hx hb dX6_takeWord_15 ?_
    refine lv_topi (fun x51 ex51 => ?_)
    have ezx51 := ex51
    have ex51 : x51.toInt = r38.toInt - x30.toInt := by rw [ex51]; exact wk_sub (show (-2147483648) ≤ r38.toInt - x30.toInt by omega) (show r38.toInt - x30.toInt ≤ 2147483647 by omega)
    replace hM := hM.lt ex51.symm
    refine lv_aload_n hx hb dX6_takeWord_16 rfl (lv_at hl 2 rfl) ?_
    refine tk_ViT hC hK hw hA hE hSR (s_length l adK adV dC dI cy 3 (by decide) H.size) (cwV 0 hC.2.2.2.2 uV_RX6_56 rfl rfl rfl (by decide +kernel) ⟨Nat.le_of_ble_eq_true rfl, Nat.le_of_ble_eq_true rfl⟩) 3 (by decide) rfl rfl rfl hl.1 rfl (Nat.le_of_ble_eq_true rfl) dX6_takeWord_17 (fun r52 H locs hp53 hw => ?_)
    obtain ⟨-, hp53⟩ := hp53
    obtain rfl : r52 = 2 := hp53
    replace hM := hM.lt (v := 2) (by decide)
    refine lv_icmp_eq (tgt := 25) hx hb dX6_takeWord_20 (by decide) (fun c54 => ?_) (fun c54 => ?_)
    · have c54 : x51.toInt = (2 : Int) := wk_eq.mp c54
      replace hM := hM.pos c54
      refine lv_iconst (v := 0) hx hb dX6_takeWord_25 (by decide) ?_
      refine lv_istore_n (lv' := [(3, .int 0), (2, .int r38), (0, .ref (ad 1)), (1, .ref (adK 3))]) hx hb dX6_takeWord_26 rfl hl (by decide) rfl (fun ls hl => ?_)
      exact L27 ((2 - (0 : Int)).toNat + 1) r38 0 x30 H locs ls w40 (show 2 ≤ r38.toInt by omega) (show r38.toInt ≤ 400 by omega) (by decide) (by decide) (show 0 ≤ x30.toInt by omega) (show x30.toInt ≤ 398 by omega) (Nat.lt_succ_self _) hw hT hF c46 hM (lv_sub hl [2, 3, 1, 0] rfl)
    · have c54 : ¬ x51.toInt = (2 : Int) := wk_eqF c54
      replace hM := hM.neg c54
      refine lv_iconst (v := 0) hx hb dX6_takeWord_23 (by decide) ?_
      exact tk_zret hC hr rfl hlocks hK ⟨hT, hF, hM.ret (by decide), (Or.inl rfl)⟩ hw dX6_takeWord_24
  · replace hM := hM.call (r' := (-1)) hv37 (by decide)
    refine lv_pop hx hb dX6_takeWord_4 rfl ?_
    refine lv_aload_n hx hb dX6_takeWord_5 rfl (lv_at hl 0 rfl) ?_
    refine tk_Vi hC hK hw hT hA hE hSR kC_at1 (by decide) rfl (kz_X6_endOfWord_1 l adK adV dC dI cy ad B (by omega) (by omega) qr s1    w26 H.size hT ) (cwV 0 hC.2.2.2.2 uV_RX6_53 rfl rfl rfl (by decide +kernel) ⟨Nat.le_of_ble_eq_true rfl, Nat.le_of_ble_eq_true rfl⟩) rfl hl.1 rfl (Nat.le_of_ble_eq_true rfl) dX6_takeWord_6 (fun r55 w57 H locs hp56 hw => ?_)
    obtain ⟨hT, k58, hv62, hg61⟩ := hp56
    have hF := hF.tr k58 (by decide)
    obtain ⟨g59, g60⟩ := hg61
    replace hM := hM.call hv62 rfl
    refine lv_istore_n (lv' := [(2, .int r55), (0, .ref (ad 1)), (1, .ref (adK 3))]) hx hb dX6_takeWord_9 rfl hl (by decide) rfl (fun ls hl => ?_)
    refine lv_iload_n hx hb dX6_takeWord_10 rfl (lv_at hl 0 rfl) ?_
    refine lv_aload_n hx hb dX6_takeWord_11 rfl (lv_at hl 1 rfl) ?_
    refine tk_geti hC hK hw hT hinX6 kC_at1 (by decide) rfl 1 (by decide) (List.mem_cons_of_mem _ uw_9_16) rfl rfl dX6_takeWord_12 (fun x63 c64 rx63 tx63 => ?_)
    replace hM := hM.rd (sI_at c64)
    refine lv_isub hx hb dX6_takeWord_15 ?_
    refine lv_topi (fun x65 ex65 => ?_)
    have ezx65 := ex65
    have ex65 : x65.toInt = r55.toInt - x63.toInt := by rw [ex65]; exact wk_sub (show (-2147483648) ≤ r55.toInt - x63.toInt by omega) (show r55.toInt - x63.toInt ≤ 2147483647 by omega)
    replace hM := hM.lt ex65.symm
    refine lv_aload_n hx hb dX6_takeWord_16 rfl (lv_at hl 2 rfl) ?_
    refine tk_ViT hC hK hw hA hE hSR (s_length l adK adV dC dI cy 3 (by decide) H.size) (cwV 0 hC.2.2.2.2 uV_RX6_56 rfl rfl rfl (by decide +kernel) ⟨Nat.le_of_ble_eq_true rfl, Nat.le_of_ble_eq_true rfl⟩) 3 (by decide) rfl rfl rfl hl.1 rfl (Nat.le_of_ble_eq_true rfl) dX6_takeWord_17 (fun r66 H locs hp67 hw => ?_)
    obtain ⟨-, hp67⟩ := hp67
    obtain rfl : r66 = 2 := hp67
    replace hM := hM.lt (v := 2) (by decide)
    refine lv_icmp_eq (tgt := 25) hx hb dX6_takeWord_20 (by decide) (fun c68 => ?_) (fun c68 => ?_)
    · have c68 : x65.toInt = (2 : Int) := wk_eq.mp c68
      replace hM := hM.pos c68
      refine lv_iconst (v := 0) hx hb dX6_takeWord_25 (by decide) ?_
      refine lv_istore_n (lv' := [(3, .int 0), (2, .int r55), (0, .ref (ad 1)), (1, .ref (adK 3))]) hx hb dX6_takeWord_26 rfl hl (by decide) rfl (fun ls hl => ?_)
      exact L27 ((2 - (0 : Int)).toNat + 1) r55 0 x63 H locs ls w57 (show 2 ≤ r55.toInt by omega) (show r55.toInt ≤ 400 by omega) (by decide) (by decide) (show 0 ≤ x63.toInt from rx63) (show x63.toInt ≤ 398 by omega) (Nat.lt_succ_self _) hw hT hF c64 hM (lv_sub hl [2, 3, 1, 0] rfl)
    · have c68 : ¬ x65.toInt = (2 : Int) := wk_eqF c68
      replace hM := hM.neg c68
      refine lv_iconst (v := 0) hx hb dX6_takeWord_23 (by decide) ?_
      exact tk_zret hC hr rfl hlocks hK ⟨hT, hF, hM.ret (by decide), (Or.inl rfl)⟩ hw dX6_takeWord_24
abbrev Pz_X2_addToken_1 (ad : Nat → Nat) (cy : Nat → ClassId) (B : Int) (qr : Nat) (s1 : Int) (q0_ : Nat) (a1 : Int32) (w0 : va_W) : va_W → Prop := fun u => TW ksC ad cy B qr s1 u ∧ FE ksC [(2, 3, 3), (22, 0, 13), (23, 0, 400)] w0 u ∧ Ev (fun n => m_X2_addToken n q0_ a1.toInt (sI w0)) (0, sI u) ∧ (((∃ y : Int32, gi u q0_ 3 = y ∧ 1 ≤ y.toInt ∧ y.toInt ≤ 400)))
set_option maxHeartbeats 4000000 in
set_option maxRecDepth 100000 in
theorem kz_X2_addToken_1 (l : Launch) (adK adV : Nat → Nat) (dC : Nat → ClassId) (dI : Nat → Nat → Nat) (cy : Nat → ClassId) (ad : Nat → Nat) (B : Int) (hB0 : 2147483648 ≤ B) (hB1 : B ≤ 1152921504606846976) (qr : Nat) (s1 : Int)  (q0_ : Nat) (hkq0_ : ksC[q0_]? = some 2) (a1 : Int32) (w0 : va_W) (sz : Nat) (hT : TW ksC ad cy B qr s1 w0)  : Met l yX2_addToken (wu yX2_addToken cX2_addToken 2 none) ({ frames := 1, cells := 0, slots := 0, locals := 12 }) (va_Pc [.ref (ad q0_), .int a1] (wpreS adK adV dC dI cy sz w0)) (va_Qv (Pz_X2_addToken_1 ad cy B qr s1 q0_ a1 w0) (fun u : va_W => wpost dC dI cy (va_A w0 sz) u) (va_A w0 sz)) 0 0 (va_A w0 sz) := by
  refine Met.ofW (cc := cX2_addToken) (maxL := 2) (ret := none) (by decide) rfl ?_
  intro p e s m args below meth c s₁ Bk hml hv
  obtain ⟨rfl, ⟨hsz, hP, hK, hD0⟩, hE, hSR⟩ := hv
  have hx := Bk.exec
  have hb := Bk.bytes
  have hr := Bk.returns
  have hlocks := Bk.notSynchronized
  have hC : CallFix p m c cX2_addToken 2 s _ (wu yX2_addToken cX2_addToken 2 none) RX2 := ⟨hx, hb, hml, findClass_of_methodNamed Bk.named, atoms_spec (ws := (wu yX2_addToken cX2_addToken 2 none)) Bk.pre⟩
  subst hsz
  have hD := hD0.self (sz := s.heap.size)
  generalize hAe : va_A w0 s.heap.size = A at hD hE ⊢
  have hA : ∀ q : Nat, s.heap.size ≤ q → A q := fun q h => by rw [← hAe]; exact Or.inr h
  have hw : Wd dC dI A s.heap s.heap [] w0 := ⟨hP, hD, va_S.rf⟩
  have hF : FE ksC [(2, 3, 3), (22, 0, 13), (23, 0, 400)] w0 w0 := FE.rf
  have hl := lv_entry ([.ref (ad q0_), .int a1]) (n := 2) (Nat.le_of_ble_eq_true rfl)
  rw [lg_entry_eq]
  generalize (lg_sl ([.ref (ad q0_), .int a1]) ++ List.replicate (2 - (lg_sl ([.ref (ad q0_), .int a1])).length) Slot.unset).toArray = ls at hl ⊢
  have hl : lv_has ls 2 [(0, .ref (ad q0_)), (1, .int a1)] := hl
  generalize hloc : ([] : List Loc) = locs at hw ⊢
  have hinX2 : ∀ w ∈ u_ws RX2 TX2 6, w ∈ (wu yX2_addToken cX2_addToken 2 none) := fun _ h => List.mem_cons_of_mem _ (up_74 h)
  have J43 : ∀ (f43_q0__3 : Int32) (H : Heap) (locs : List Loc) (ls : Array Slot) (w1 : va_W), 1 ≤ f43_q0__3.toInt → f43_q0__3.toInt ≤ 400 → Wd dC dI A s.heap H locs w1 → TW ksC ad cy B qr s1 w1 → FE ksC [(2, 3, 3), (22, 0, 13), (23, 0, 400)] w0 w1 → gi w1 q0_ 3 = f43_q0__3 → TT (fun n => m_X2_addToken n q0_ a1.toInt (sI w0)) (fun n => b_X2_addToken_43 n q0_ (sI w1)) → lv_has ls 2 [(0, .ref (ad q0_)), (1, .int a1)] → W p l e ({ frames := 1, cells := 0, slots := 0, locals := 12 }) s m (List.toArray [.ref (ad q0_), .int a1]) below meth c H locs 0 0 (MQ below (va_Qv (Pz_X2_addToken_1 ad cy B qr s1 q0_ a1 w0) (fun u : va_W => wpost dC dI cy A u) A) (List.toArray [.ref (ad q0_), .int a1]) s 0 0 A) (F0 m 43 ls []) := by
    intro f43_q0__3 H locs ls w1 r2 t3 hw hT hF c4 hM hl
    exact tk_vret hC hr hlocks hK ⟨hT, hF, hM.ret rfl, ⟨f43_q0__3, c4, (show 1 ≤ f43_q0__3.toInt from r2), (show f43_q0__3.toInt ≤ 400 from t3)⟩⟩ hw dX2_addToken_43
  have hM : TT (fun n => m_X2_addToken n q0_ a1.toInt (sI w0)) (fun n => m_X2_addToken n q0_ a1.toInt (sI w0)) := TT.rf
  refine lv_aload_n hx hb dX2_addToken_0 rfl (lv_at hl 0 rfl) ?_
  refine tk_geti hC hK hw hT hinX2 hkq0_ (by decide) rfl 3 (by decide) (List.mem_cons_of_mem _ uw_27_1) rfl rfl dX2_addToken_1 (fun x5 c6 rx5 tx5 => ?_)
  replace hM := hM.rd (sI_at c6)
  refine lv_sipush (v := 400) hx hb dX2_addToken_4 (by decide) ?_
  refine lv_icmp_ge (tgt := 43) hx hb dX2_addToken_7 (by decide) (fun c7 => ?_) (fun c7 => ?_)
  · have c7 : (400 : Int) ≤ x5.toInt := wk_le.mp c7
    replace hM := hM.pos c7
    exact J43 x5 s.heap locs ls w0 (show 1 ≤ x5.toInt by omega) (show x5.toInt ≤ 400 by omega)  hw hT hF c6 hM (lv_sub hl [0, 1] rfl)
  · have c7 : x5.toInt < (400 : Int) := wk_leF c7
    replace hM := hM.neg (Int.not_le.mpr c7)
    refine lv_aload_n hx hb dX2_addToken_10 rfl (lv_at hl 0 rfl) ?_
    refine tk_getO hC hK hw hT hinX2 hkq0_ (by decide) rfl 2 (by decide) (List.mem_cons_of_mem _ uw_3_7) rfl rfl dX2_addToken_11 ?_
    refine lv_aload_n hx hb dX2_addToken_14 rfl (lv_at hl 0 rfl) ?_
    refine tk_geti hC hK hw hT hinX2 hkq0_ (by decide) rfl 3 (by decide) (List.mem_cons_of_mem _ uw_27_1) rfl rfl dX2_addToken_15 (fun x8 c9 rx8 tx8 => ?_)
    refine wk_top x5 (c9.symm.trans c6) ?_
    replace hM := hM.rd (sI_at c6)
    refine lv_iload_n hx hb dX2_addToken_18 rfl (lv_at hl 1 rfl) ?_
    refine tk_iast hC hK hw hT (kC_2_3 hkq0_) (by decide) rfl rfl (show 0 ≤ x5.toInt by omega) (show x5.toInt < 400 by omega) (wk_i32 a1).1 (wk_i32 a1).2 dX2_addToken_19 (fun H locs w10 hw hT k12 c11 => ?_)
    replace hM := hM.wr (sI_up k12 c11)
    have hF := hF.put (kC_2_3 hkq0_) (inE_of (a := 0) (b := 400) (by decide) (show 0 ≤ x5.toInt.toNat by omega) (show x5.toInt.toNat ≤ 400 by omega)) k12
    have c13 := k12.gi (Or.inl (tk_ne hkq0_ (kC_2_3 hkq0_) (by decide))) c6
    refine lv_aload_n hx hb dX2_addToken_20 rfl (lv_at hl 0 rfl) ?_
    refine lv_dup hx hb dX2_addToken_21 rfl ?_
    refine tk_geti hC hK hw hT hinX2 hkq0_ (by decide) rfl 3 (by decide) (List.mem_cons_of_mem _ uw_27_1) rfl rfl dX2_addToken_22 (fun x14 c15 rx14 tx14 => ?_)
    refine wk_top x5 (c15.symm.trans c13) ?_
    replace hM := hM.rd (sI_at c13)
    refine lv_iconst (v := 1) hx hb dX2_addToken_25 (by decide) ?_
    refine lv_iadd hx hb dX2_addToken_26 ?_
    refine lv_topi (fun x16 ex16 => ?_)
    have ezx16 := ex16
    have ex16 : x16.toInt = x5.toInt + (1 : Int) := by rw [ex16]; exact wk_add (show (-2147483648) ≤ x5.toInt + (1 : Int) by omega) (show x5.toInt + (1 : Int) ≤ 2147483647 by omega)
    replace hM := hM.lt ex16.symm
    refine tk_puti hC hK hw hT hinX2 tyX2_ok nmX2 hkq0_ (by decide) rfl rfl 3 (by decide) (List.mem_cons_of_mem _ uw_27_1) rfl rfl rfl rfl (show 0 ≤ x16.toInt by omega) (show x16.toInt ≤ 400 by omega) dX2_addToken_27 (fun H locs w17 hw hT k19 c18 => ?_)
    replace hM := hM.wr (sI_up k19 c18)
    have hF := hF.put hkq0_ (k := 3) (by decide) k19
    refine lv_aload_n hx hb dX2_addToken_30 rfl (lv_at hl 0 rfl) ?_
    refine tk_getO hC hK hw hT hinX2 hkq0_ (by decide) rfl 1 (by decide) (List.mem_cons_of_mem _ uw_3_6) rfl rfl dX2_addToken_31 ?_
    refine lv_aload_n hx hb dX2_addToken_34 rfl (lv_at hl 0 rfl) ?_
    refine tk_geti hC hK hw hT hinX2 hkq0_ (by decide) rfl 4 (by decide) (List.mem_cons_of_mem _ uw_27_0) rfl rfl dX2_addToken_35 (fun x20 c21 rx20 tx20 => ?_)
    replace hM := hM.rd (sI_at c21)
    refine lv_aload_n hx hb dX2_addToken_38 rfl (lv_at hl 0 rfl) ?_
    refine tk_geti hC hK hw hT hinX2 hkq0_ (by decide) rfl 3 (by decide) (List.mem_cons_of_mem _ uw_27_1) rfl rfl dX2_addToken_39 (fun x22 c23 rx22 tx22 => ?_)
    refine wk_top x16 (c23.symm.trans c18) ?_
    replace hM := hM.rd (sI_at c18)
    refine tk_iast hC hK hw hT (kC_2_2 hkq0_) (by decide) rfl rfl (show 0 ≤ x20.toInt by omega) (show x20.toInt < 13 by omega) (show 0 ≤ x16.toInt by omega) (show x16.toInt ≤ 400 by omega) dX2_addToken_42 (fun H locs w24 hw hT k26 c25 => ?_)
    replace hM := hM.wr (sI_up k26 c25)
    have hF := hF.put (kC_2_2 hkq0_) (inE_of (a := 0) (b := 13) (by decide) (show 0 ≤ x20.toInt.toNat by omega) (show x20.toInt.toNat ≤ 13 by omega)) k26
    have c27 := k26.gi (Or.inl (tk_ne hkq0_ (kC_2_2 hkq0_) (by decide))) c18
    have c28 := k26.gi (Or.inl (tk_ne hkq0_ (kC_2_2 hkq0_) (by decide))) c21
    exact J43 x16 H locs ls w24 (show 1 ≤ x16.toInt by omega) (show x16.toInt ≤ 400 by omega)  hw hT hF c27 hM (lv_sub hl [0, 1] rfl)
abbrev Pz_X3_addWaiting_1 (ad : Nat → Nat) (cy : Nat → ClassId) (B : Int) (qr : Nat) (s1 : Int) (a1 : Int32) (w0 : va_W) : va_W → Prop := fun u => TW ksC ad cy B qr s1 u ∧ FE ksC [(2, 3, 3), (22, 0, 13), (23, 0, 400)] w0 u ∧ Ev (fun n => m_X3_addWaiting n qr 3 a1.toInt (sI w0)) (0, sI u) ∧ ((True))
set_option maxHeartbeats 4000000 in
set_option maxRecDepth 100000 in
theorem kz_X3_addWaiting_1 (l : Launch) (adK adV : Nat → Nat) (dC : Nat → ClassId) (dI : Nat → Nat → Nat) (cy : Nat → ClassId) (ad : Nat → Nat) (B : Int) (hB0 : 2147483648 ≤ B) (hB1 : B ≤ 1152921504606846976) (qr : Nat) (s1 : Int) (hqr : ksC[qr]? = some 2) (a1 : Int32) (w0 : va_W) (sz : Nat) (hT : TW ksC ad cy B qr s1 w0)  : Met l yX3_addWaiting (wu yX3_addWaiting cX3_addWaiting 2 none) ({ frames := 2, cells := 0, slots := 0, locals := 33 }) (va_Pc [.ref (ad 3), .int a1] (wpreS adK adV dC dI cy sz w0)) (va_Qv (Pz_X3_addWaiting_1 ad cy B qr s1 a1 w0) (fun u : va_W => wpost dC dI cy (va_A w0 sz) u) (va_A w0 sz)) 0 0 (va_A w0 sz) := by
  refine Met.ofW (cc := cX3_addWaiting) (maxL := 2) (ret := none) (by decide) rfl ?_
  intro p e s m args below meth c s₁ Bk hml hv
  obtain ⟨rfl, ⟨hsz, hP, hK, hD0⟩, hE, hSR⟩ := hv
  have hx := Bk.exec
  have hb := Bk.bytes
  have hr := Bk.returns
  have hlocks := Bk.notSynchronized
  have hC : CallFix p m c cX3_addWaiting 2 s _ (wu yX3_addWaiting cX3_addWaiting 2 none) RX3 := ⟨hx, hb, hml, findClass_of_methodNamed Bk.named, atoms_spec (ws := (wu yX3_addWaiting cX3_addWaiting 2 none)) Bk.pre⟩
  subst hsz
  have hD := hD0.self (sz := s.heap.size)
  generalize hAe : va_A w0 s.heap.size = A at hD hE ⊢
  have hA : ∀ q : Nat, s.heap.size ≤ q → A q := fun q h => by rw [← hAe]; exact Or.inr h
  have hw : Wd dC dI A s.heap s.heap [] w0 := ⟨hP, hD, va_S.rf⟩
  have hF : FE ksC [(2, 3, 3), (22, 0, 13), (23, 0, 400)] w0 w0 := FE.rf
  have hl := lv_entry ([.ref (ad 3), .int a1]) (n := 2) (Nat.le_of_ble_eq_true rfl)
  rw [lg_entry_eq]
  generalize (lg_sl ([.ref (ad 3), .int a1]) ++ List.replicate (2 - (lg_sl ([.ref (ad 3), .int a1])).length) Slot.unset).toArray = ls at hl ⊢
  have hl : lv_has ls 2 [(0, .ref (ad 3)), (1, .int a1)] := hl
  generalize hloc : ([] : List Loc) = locs at hw ⊢
  have hinX3 : ∀ w ∈ u_ws RX3 TX3 3, w ∈ (wu yX3_addWaiting cX3_addWaiting 2 none) := fun _ h => List.mem_cons_of_mem _ (up_75 h)
  have J13 : ∀ (H : Heap) (locs : List Loc) (ls : Array Slot) (w1 : va_W), Wd dC dI A s.heap H locs w1 → TW ksC ad cy B qr s1 w1 → FE ksC [(2, 3, 3), (22, 0, 13), (23, 0, 400)] w0 w1 → TT (fun n => m_X3_addWaiting n qr 3 a1.toInt (sI w0)) (fun n => b_X3_addWaiting_13 n qr 3 (sI w1)) → lv_has ls 2 [(0, .ref (ad 3)), (1, .int a1)] → W p l e ({ frames := 2, cells := 0, slots := 0, locals := 33 }) s m (List.toArray [.ref (ad 3), .int a1]) below meth c H locs 0 0 (MQ below (va_Qv (Pz_X3_addWaiting_1 ad cy B qr s1 a1 w0) (fun u : va_W => wpost dC dI cy A u) A) (List.toArray [.ref (ad 3), .int a1]) s 0 0 A) (F0 m 13 ls []) := by
    intro H locs ls w1 hw hT hF hM hl
    exact tk_vret hC hr hlocks hK ⟨hT, hF, hM.ret rfl, trivial⟩ hw dX3_addWaiting_13
  have hM : TT (fun n => m_X3_addWaiting n qr 3 a1.toInt (sI w0)) (fun n => m_X3_addWaiting n qr 3 a1.toInt (sI w0)) := TT.rf
  refine lv_iload_n hx hb dX3_addWaiting_0 rfl (lv_at hl 1 rfl) ?_
  refine lv_iconst (v := (-1)) hx hb dX3_addWaiting_1 (by decide) ?_
  refine lv_icmp_eq (tgt := 13) hx hb dX3_addWaiting_2 (by decide) (fun c2 => ?_) (fun c2 => ?_)
  · have c2 : a1.toInt = (-1 : Int) := wk_eq.mp c2
    replace hM := hM.pos c2
    exact J13  s.heap locs ls w0   hw hT hF hM (lv_sub hl [0, 1] rfl)
  · have c2 : ¬ a1.toInt = (-1 : Int) := wk_eqF c2
    replace hM := hM.neg c2
    refine lv_aload_n hx hb dX3_addWaiting_5 rfl (lv_at hl 0 rfl) ?_
    refine tk_getQ hC hK hw hT hqr (by decide) hinX3 kC_at3 (by decide) rfl 1 (by decide) (List.mem_cons_of_mem _ uw_26_17) rfl rfl dX3_addWaiting_6 ?_
    refine lv_iload_n hx hb dX3_addWaiting_9 rfl (lv_at hl 1 rfl) ?_
    refine tk_Vv hC hK hw hT hA hE hSR hqr (by decide) rfl (kz_X2_addToken_1 l adK adV dC dI cy ad B (by omega) (by omega) qr s1   qr hqr a1 w0 s.heap.size hT ) (cwV 1 hC.2.2.2.2 uV_RX3_74 rfl rfl rfl (by decide +kernel) ⟨Nat.le_of_ble_eq_true rfl, Nat.le_of_ble_eq_true rfl⟩) rfl hl.1 rfl (Nat.le_of_ble_eq_true rfl) dX3_addWaiting_10 (fun w5 H locs hp4 hw => ?_)
    obtain ⟨hT, k6, hv10, hg9⟩ := hp4
    have hF := hF.tr k6 (by decide)
    obtain ⟨x7, c8, rx7, tx7⟩ := hg9
    replace hM := hM.call hv10 rfl
    exact J13  H locs ls w5   hw hT hF hM (lv_sub hl [0, 1] rfl)
abbrev Pz_X6_takeWord_2 (ad : Nat → Nat) (cy : Nat → ClassId) (B : Int) (qr : Nat) (s1 : Int)  (w0 : va_W) : Int32 → va_W → Prop := fun r u => TW ksC ad cy B qr s1 u ∧ FE ksC [(6, 1, 1), (6, 3, 3)] w0 u ∧ Ev (fun n => m_X6_takeWord n 1 6 (sI w0)) (r.toInt, sI u) ∧ ((r = 0) ∨ (r = 1 ∧ (∃ y : Int32, gi u 1 1 = y ∧ 3 ≤ y.toInt ∧ y.toInt ≤ 400)))
set_option maxHeartbeats 4000000 in
set_option maxRecDepth 100000 in
theorem kz_X6_takeWord_2 (l : Launch) (adK adV : Nat → Nat) (dC : Nat → ClassId) (dI : Nat → Nat → Nat) (cy : Nat → ClassId) (ad : Nat → Nat) (B : Int) (hB0 : 2147483648 ≤ B) (hB1 : B ≤ 1152921504606846976) (qr : Nat) (s1 : Int)   (w0 : va_W) (sz : Nat) (hT : TW ksC ad cy B qr s1 w0)  : Met l yX6_takeWord (wu yX6_takeWord cX6_takeWord 4 (some .boolean)) ({ frames := 5, cells := 0, slots := 0, locals := 141 }) (va_Pc [.ref (ad 1), .ref (adK 6)] (wpreS adK adV dC dI cy sz w0)) (va_Qi (Pz_X6_takeWord_2 ad cy B qr s1  w0) (fun u : va_W => wpost dC dI cy (va_A w0 sz) u) (va_A w0 sz)) 0 0 (va_A w0 sz) := by
  refine Met.ofW (cc := cX6_takeWord) (maxL := 4) (ret := (some .boolean)) (by decide) rfl ?_
  intro p e s m args below meth c s₁ Bk hml hv
  obtain ⟨rfl, ⟨hsz, hP, hK, hD0⟩, hE, hSR⟩ := hv
  have hx := Bk.exec
  have hb := Bk.bytes
  have hr := Bk.returns
  have hlocks := Bk.notSynchronized
  have hC : CallFix p m c cX6_takeWord 4 s _ (wu yX6_takeWord cX6_takeWord 4 (some .boolean)) RX6 := ⟨hx, hb, hml, findClass_of_methodNamed Bk.named, atoms_spec (ws := (wu yX6_takeWord cX6_takeWord 4 (some .boolean))) Bk.pre⟩
  subst hsz
  have hD := hD0.self (sz := s.heap.size)
  generalize hAe : va_A w0 s.heap.size = A at hD hE ⊢
  have hA : ∀ q : Nat, s.heap.size ≤ q → A q := fun q h => by rw [← hAe]; exact Or.inr h
  have hw : Wd dC dI A s.heap s.heap [] w0 := ⟨hP, hD, va_S.rf⟩
  have hF : FE ksC [(6, 1, 1), (6, 3, 3)] w0 w0 := FE.rf
  have hl := lv_entry ([.ref (ad 1), .ref (adK 6)]) (n := 4) (Nat.le_of_ble_eq_true rfl)
  rw [lg_entry_eq]
  generalize (lg_sl ([.ref (ad 1), .ref (adK 6)]) ++ List.replicate (4 - (lg_sl ([.ref (ad 1), .ref (adK 6)])).length) Slot.unset).toArray = ls at hl ⊢
  have hl : lv_has ls 4 [(0, .ref (ad 1)), (1, .ref (adK 6))] := hl
  generalize hloc : ([] : List Loc) = locs at hw ⊢
  have hinX6 : ∀ w ∈ u_ws RX6 TX6 5, w ∈ (wu yX6_takeWord cX6_takeWord 4 (some .boolean)) := fun _ h => List.mem_cons_of_mem _ (up_72 h)
  have L27 : ∀ (n27 : Nat) (v27_2 : Int32) (v27_3 : Int32) (f27_1_1 : Int32) (H : Heap) (locs : List Loc) (ls : Array Slot) (w1 : va_W), 3 ≤ v27_2.toInt → v27_2.toInt ≤ 400 → 0 ≤ v27_3.toInt → v27_3.toInt ≤ 3 → 0 ≤ f27_1_1.toInt → f27_1_1.toInt ≤ 397 → (3 - v27_3.toInt).toNat < n27 → Wd dC dI A s.heap H locs w1 → TW ksC ad cy B qr s1 w1 → FE ksC [(6, 1, 1), (6, 3, 3)] w0 w1 → gi w1 1 1 = f27_1_1 → TT (fun n => m_X6_takeWord n 1 6 (sI w0)) (fun n => j_X6_takeWord 1 6 n 27 [v27_2.toInt, v27_3.toInt] (sI w1)) → lv_has ls 4 [(0, .ref (ad 1)), (1, .ref (adK 6)), (2, .int v27_2), (3, .int v27_3)] → W p l e ({ frames := 5, cells := 0, slots := 0, locals := 141 }) s m (List.toArray [.ref (ad 1), .ref (adK 6)]) below meth c H locs 0 0 (MQ below (va_Qi (Pz_X6_takeWord_2 ad cy B qr s1  w0) (fun u : va_W => wpost dC dI cy A u) A) (List.toArray [.ref (ad 1), .ref (adK 6)]) s 0 0 A) (F0 m 27 ls []) := by
    intro n27
    induction n27 with
    | zero => intro v27_2 v27_3 f27_1_1 H locs ls w1 r2 t3 r4 t5 r6 t7 hm27 hw hT hF c8 hM hl; omega
    | succ n27 ih27 =>
      intro v27_2 v27_3 f27_1_1 H locs ls w1 r2 t3 r4 t5 r6 t7 hm27 hw hT hF c8 hM hl
      replace hM := hM.suc (fun _ => e_X6_takeWord_27)
      refine lv_iload_n hx hb dX6_takeWord_27 rfl (lv_at hl 3 rfl) ?_
      refine lv_aload_n hx hb dX6_takeWord_28 rfl (lv_at hl 1 rfl) ?_
      refine tk_ViT hC hK hw hA hE hSR (s_length l adK adV dC dI cy 6 (by decide) H.size) (cwV 0 hC.2.2.2.2 uV_RX6_56 rfl rfl rfl (by decide +kernel) ⟨Nat.le_of_ble_eq_true rfl, Nat.le_of_ble_eq_true rfl⟩) 6 (by decide) rfl rfl rfl hl.1 rfl (Nat.le_of_ble_eq_true rfl) dX6_takeWord_29 (fun r9 H locs hp10 hw => ?_)
      obtain ⟨-, hp10⟩ := hp10
      obtain rfl : r9 = 3 := hp10
      replace hM := hM.lt (v := 3) (by decide)
      refine lv_icmp_ge (tgt := 62) hx hb dX6_takeWord_32 (by decide) (fun c11 => ?_) (fun c11 => ?_)
      · have c11 : (3 : Int) ≤ v27_3.toInt := wk_le.mp c11
        replace hM := hM.pos c11
        refine lv_aload_n hx hb dX6_takeWord_62 rfl (lv_at hl 0 rfl) ?_
        refine lv_iload_n hx hb dX6_takeWord_63 rfl (lv_at hl 2 rfl) ?_
        refine tk_puti hC hK hw hT hinX6 tyX6_ok nmX6 kC_at1 (by decide) rfl rfl 1 (by decide) (List.mem_cons_of_mem _ uw_9_16) rfl rfl rfl rfl (show 0 ≤ v27_2.toInt from Int.le_trans (by decide) r2) (show v27_2.toInt ≤ 400 from t3) dX6_takeWord_64 (fun H locs w12 hw hT k14 c13 => ?_)
        replace hM := hM.wr (sI_up k14 c13)
        have hF := hF.put kC_at1 (k := 1) (by decide) k14
        refine lv_iconst (v := 1) hx hb dX6_takeWord_67 (by decide) ?_
        exact tk_zret hC hr rfl hlocks hK ⟨hT, hF, hM.ret (by decide), (Or.inr ⟨rfl, ⟨v27_2, c13, (show 3 ≤ v27_2.toInt from r2), (show v27_2.toInt ≤ 400 from t3)⟩⟩)⟩ hw dX6_takeWord_68
      · have c11 : v27_3.toInt < (3 : Int) := wk_leF c11
        replace hM := hM.neg (Int.not_le.mpr c11)
        refine lv_aload_n hx hb dX6_takeWord_35 rfl (lv_at hl 0 rfl) ?_
        refine tk_getA hC hK hw hT hinX6 kC_at1 (by decide) rfl 0 (by decide) (List.mem_cons_of_mem _ uw_2_12) rfl rfl dX6_takeWord_36 ?_
        refine lv_aload_n hx hb dX6_takeWord_39 rfl (lv_at hl 0 rfl) ?_
        refine tk_geti hC hK hw hT hinX6 kC_at1 (by decide) rfl 1 (by decide) (List.mem_cons_of_mem _ uw_9_16) rfl rfl dX6_takeWord_40 (fun x15 c16 rx15 tx15 => ?_)
        refine wk_top f27_1_1 (c16.symm.trans c8) ?_
        replace hM := hM.rd (sI_at c8)
        refine lv_iload_n hx hb dX6_takeWord_43 rfl (lv_at hl 3 rfl) ?_
        refine lv_iadd hx hb dX6_takeWord_44 ?_
        refine lv_topi (fun x17 ex17 => ?_)
        have ezx17 := ex17
        have ex17 : x17.toInt = f27_1_1.toInt + v27_3.toInt := by rw [ex17]; exact wk_add (show (-2147483648) ≤ f27_1_1.toInt + v27_3.toInt by omega) (show f27_1_1.toInt + v27_3.toInt ≤ 2147483647 by omega)
        replace hM := hM.lt ex17.symm
        refine tk_iald hC hK hw hT kC_at2 rfl rfl (show 0 ≤ x17.toInt by omega) (show x17.toInt < 400 by omega) dX6_takeWord_45 (fun x18 c19 rx18 tx18 => ?_)
        have hox18 := c19
        replace hM := hM.rd (sI_at hox18)
        refine lv_aload_n hx hb dX6_takeWord_46 rfl (lv_at hl 1 rfl) ?_
        refine lv_iload_n hx hb dX6_takeWord_47 rfl (lv_at hl 3 rfl) ?_
        refine tk_ViT hC hK hw hA hE hSR (s_charAt l adK adV dC dI cy 6 (by decide) v27_3 (show 0 ≤ v27_3.toInt from r4) (show v27_3.toInt < 3 by omega) H.size) (cwV 1 hC.2.2.2.2 uV_RX6_60 rfl rfl rfl (by decide +kernel) ⟨Nat.le_of_ble_eq_true rfl, Nat.le_of_ble_eq_true rfl⟩) 6 (by decide) rfl rfl rfl hl.1 rfl (Nat.le_of_ble_eq_true rfl) dX6_takeWord_48 (fun r20 H locs hp21 hw => ?_)
        obtain ⟨-, hp21⟩ := hp21
        replace hM := hM.lt (chS_e hp21 rfl)
        refine lv_icmp_eq (tgt := 56) hx hb dX6_takeWord_51 (by decide) (fun c22 => ?_) (fun c22 => ?_)
        · have c22 : x18.toInt = r20.toInt := wk_eq.mp c22
          replace hM := hM.pos c22
          obtain ⟨x23, ex23⟩ : ∃ y : Int32, y = v27_3 + Int32.ofInt 1 := ⟨_, rfl⟩
          have erx23 := ex23
          refine lv_iinc (v := x23) (lv' := [(3, .int x23), (0, .ref (ad 1)), (1, .ref (adK 6)), (2, .int v27_2)]) hx hb dX6_takeWord_56 hl (k := 3) rfl ex23.symm (by decide) rfl (fun ls hl => ?_)
          have ex23 : x23.toInt = v27_3.toInt + 1 := by rw [ex23]; exact wk_add (y := 1) (show -2147483648 ≤ v27_3.toInt + 1 by omega) (show v27_3.toInt + 1 ≤ 2147483647 by omega)
          replace hM := hM.lt ex23.symm
          refine lv_goto (tgt := 27) hx hb dX6_takeWord_59 (by decide) ?_
          exact ih27 v27_2 x23 f27_1_1 H locs ls w1 (show 3 ≤ v27_2.toInt from r2) (show v27_2.toInt ≤ 400 from t3) (show 0 ≤ x23.toInt by omega) (show x23.toInt ≤ 3 by omega) (show 0 ≤ f27_1_1.toInt from r6) (show f27_1_1.toInt ≤ 397 from t7) (show (3 - x23.toInt).toNat < n27 by omega) hw hT hF c8 hM (lv_sub hl [1, 2, 3, 0] rfl)
        · have c22 : ¬ x18.toInt = r20.toInt := wk_eqF c22
          replace hM := hM.neg c22
          refine lv_iconst (v := 0) hx hb dX6_takeWord_54 (by decide) ?_
          exact tk_zret hC hr rfl hlocks hK ⟨hT, hF, hM.ret (by decide), (Or.inl rfl)⟩ hw dX6_takeWord_55
  have hM : TT (fun n => m_X6_takeWord n 1 6 (sI w0)) (fun n => m_X6_takeWord n 1 6 (sI w0)) := TT.rf
  refine lv_aload_n hx hb dX6_takeWord_0 rfl (lv_at hl 0 rfl) ?_
  refine tk_Vi hC hK hw hT hA hE hSR kC_at1 (by decide) rfl (kz_X6_lookBehindBlanks_1 l adK adV dC dI cy ad B (by omega) (by omega) qr s1    w0 s.heap.size hT ) (cwV 0 hC.2.2.2.2 uV_RX6_28 rfl rfl rfl (by decide +kernel) ⟨Nat.le_of_ble_eq_true rfl, Nat.le_of_ble_eq_true rfl⟩) rfl hl.1 rfl (Nat.le_of_ble_eq_true rfl) dX6_takeWord_1 (fun r24 w26 H locs hp25 hw => ?_)
  obtain ⟨hT, k27, hv37, hg36⟩ := hp25
  have hF := hF.tr k27 (by decide)
  rcases hg36 with ⟨g28, g29, ⟨x30, c31, rx30, tx30⟩, ⟨x32, c33, rx32, tx32⟩, ⟨x34, c35, rx34, tx34⟩⟩ | rfl
  · replace hM := hM.call hv37 rfl
    refine lv_pop hx hb dX6_takeWord_4 rfl ?_
    refine lv_aload_n hx hb dX6_takeWord_5 rfl (lv_at hl 0 rfl) ?_
    refine tk_Vi hC hK hw hT hA hE hSR kC_at1 (by decide) rfl (kz_X6_endOfWord_1 l adK adV dC dI cy ad B (by omega) (by omega) qr s1    w26 H.size hT ) (cwV 0 hC.2.2.2.2 uV_RX6_53 rfl rfl rfl (by decide +kernel) ⟨Nat.le_of_ble_eq_true rfl, Nat.le_of_ble_eq_true rfl⟩) rfl hl.1 rfl (Nat.le_of_ble_eq_true rfl) dX6_takeWord_6 (fun r38 w40 H locs hp39 hw => ?_)
    obtain ⟨hT, k41, hv45, hg44⟩ := hp39
    have hF := hF.tr k41 (by decide)
    have c46 := k41.gi kC_at1 (by decide) c31
    have c47 := k41.gi kC_at1 (by decide) c33
    have c48 := k41.gi kC_at1 (by decide) c35
    obtain ⟨g42, g43⟩ := hg44
    replace hM := hM.call hv45 rfl
    refine lv_istore_n (lv' := [(2, .int r38), (0, .ref (ad 1)), (1, .ref (adK 6))]) hx hb dX6_takeWord_9 rfl hl (by decide) rfl (fun ls hl => ?_)
    refine lv_iload_n hx hb dX6_takeWord_10 rfl (lv_at hl 0 rfl) ?_
    refine lv_aload_n hx hb dX6_takeWord_11 rfl (lv_at hl 1 rfl) ?_
    refine tk_geti hC hK hw hT hinX6 kC_at1 (by decide) rfl 1 (by decide) (List.mem_cons_of_mem _ uw_9_16) rfl rfl dX6_takeWord_12 (fun x49 c50 rx49 tx49 => ?_)
    refine wk_top x30 (c50.symm.trans c46) ?_
    replace hM := hM.rd (sI_at c46)
    refine lv_isub hx hb dX6_takeWord_15 ?_
    refine lv_topi (fun x51 ex51 => ?_)
    have ezx51 := ex51
    have ex51 : x51.toInt = r38.toInt - x30.toInt := by rw [ex51]; exact wk_sub (show (-2147483648) ≤ r38.toInt - x30.toInt by omega) (show r38.toInt - x30.toInt ≤ 2147483647 by omega)
    replace hM := hM.lt ex51.symm
    refine lv_aload_n hx hb dX6_takeWord_16 rfl (lv_at hl 2 rfl) ?_
    refine tk_ViT hC hK hw hA hE hSR (s_length l adK adV dC dI cy 6 (by decide) H.size) (cwV 0 hC.2.2.2.2 uV_RX6_56 rfl rfl rfl (by decide +kernel) ⟨Nat.le_of_ble_eq_true rfl, Nat.le_of_ble_eq_true rfl⟩) 6 (by decide) rfl rfl rfl hl.1 rfl (Nat.le_of_ble_eq_true rfl) dX6_takeWord_17 (fun r52 H locs hp53 hw => ?_)
    obtain ⟨-, hp53⟩ := hp53
    obtain rfl : r52 = 3 := hp53
    replace hM := hM.lt (v := 3) (by decide)
    refine lv_icmp_eq (tgt := 25) hx hb dX6_takeWord_20 (by decide) (fun c54 => ?_) (fun c54 => ?_)
    · have c54 : x51.toInt = (3 : Int) := wk_eq.mp c54
      replace hM := hM.pos c54
      refine lv_iconst (v := 0) hx hb dX6_takeWord_25 (by decide) ?_
      refine lv_istore_n (lv' := [(3, .int 0), (2, .int r38), (0, .ref (ad 1)), (1, .ref (adK 6))]) hx hb dX6_takeWord_26 rfl hl (by decide) rfl (fun ls hl => ?_)
      exact L27 ((3 - (0 : Int)).toNat + 1) r38 0 x30 H locs ls w40 (show 3 ≤ r38.toInt by omega) (show r38.toInt ≤ 400 by omega) (by decide) (by decide) (show 0 ≤ x30.toInt by omega) (show x30.toInt ≤ 397 by omega) (Nat.lt_succ_self _) hw hT hF c46 hM (lv_sub hl [2, 3, 1, 0] rfl)
    · have c54 : ¬ x51.toInt = (3 : Int) := wk_eqF c54
      replace hM := hM.neg c54
      refine lv_iconst (v := 0) hx hb dX6_takeWord_23 (by decide) ?_
      exact tk_zret hC hr rfl hlocks hK ⟨hT, hF, hM.ret (by decide), (Or.inl rfl)⟩ hw dX6_takeWord_24
  · replace hM := hM.call (r' := (-1)) hv37 (by decide)
    refine lv_pop hx hb dX6_takeWord_4 rfl ?_
    refine lv_aload_n hx hb dX6_takeWord_5 rfl (lv_at hl 0 rfl) ?_
    refine tk_Vi hC hK hw hT hA hE hSR kC_at1 (by decide) rfl (kz_X6_endOfWord_1 l adK adV dC dI cy ad B (by omega) (by omega) qr s1    w26 H.size hT ) (cwV 0 hC.2.2.2.2 uV_RX6_53 rfl rfl rfl (by decide +kernel) ⟨Nat.le_of_ble_eq_true rfl, Nat.le_of_ble_eq_true rfl⟩) rfl hl.1 rfl (Nat.le_of_ble_eq_true rfl) dX6_takeWord_6 (fun r55 w57 H locs hp56 hw => ?_)
    obtain ⟨hT, k58, hv62, hg61⟩ := hp56
    have hF := hF.tr k58 (by decide)
    obtain ⟨g59, g60⟩ := hg61
    replace hM := hM.call hv62 rfl
    refine lv_istore_n (lv' := [(2, .int r55), (0, .ref (ad 1)), (1, .ref (adK 6))]) hx hb dX6_takeWord_9 rfl hl (by decide) rfl (fun ls hl => ?_)
    refine lv_iload_n hx hb dX6_takeWord_10 rfl (lv_at hl 0 rfl) ?_
    refine lv_aload_n hx hb dX6_takeWord_11 rfl (lv_at hl 1 rfl) ?_
    refine tk_geti hC hK hw hT hinX6 kC_at1 (by decide) rfl 1 (by decide) (List.mem_cons_of_mem _ uw_9_16) rfl rfl dX6_takeWord_12 (fun x63 c64 rx63 tx63 => ?_)
    replace hM := hM.rd (sI_at c64)
    refine lv_isub hx hb dX6_takeWord_15 ?_
    refine lv_topi (fun x65 ex65 => ?_)
    have ezx65 := ex65
    have ex65 : x65.toInt = r55.toInt - x63.toInt := by rw [ex65]; exact wk_sub (show (-2147483648) ≤ r55.toInt - x63.toInt by omega) (show r55.toInt - x63.toInt ≤ 2147483647 by omega)
    replace hM := hM.lt ex65.symm
    refine lv_aload_n hx hb dX6_takeWord_16 rfl (lv_at hl 2 rfl) ?_
    refine tk_ViT hC hK hw hA hE hSR (s_length l adK adV dC dI cy 6 (by decide) H.size) (cwV 0 hC.2.2.2.2 uV_RX6_56 rfl rfl rfl (by decide +kernel) ⟨Nat.le_of_ble_eq_true rfl, Nat.le_of_ble_eq_true rfl⟩) 6 (by decide) rfl rfl rfl hl.1 rfl (Nat.le_of_ble_eq_true rfl) dX6_takeWord_17 (fun r66 H locs hp67 hw => ?_)
    obtain ⟨-, hp67⟩ := hp67
    obtain rfl : r66 = 3 := hp67
    replace hM := hM.lt (v := 3) (by decide)
    refine lv_icmp_eq (tgt := 25) hx hb dX6_takeWord_20 (by decide) (fun c68 => ?_) (fun c68 => ?_)
    · have c68 : x65.toInt = (3 : Int) := wk_eq.mp c68
      replace hM := hM.pos c68
      refine lv_iconst (v := 0) hx hb dX6_takeWord_25 (by decide) ?_
      refine lv_istore_n (lv' := [(3, .int 0), (2, .int r55), (0, .ref (ad 1)), (1, .ref (adK 6))]) hx hb dX6_takeWord_26 rfl hl (by decide) rfl (fun ls hl => ?_)
      exact L27 ((3 - (0 : Int)).toNat + 1) r55 0 x63 H locs ls w57 (show 3 ≤ r55.toInt by omega) (show r55.toInt ≤ 400 by omega) (by decide) (by decide) (show 0 ≤ x63.toInt from rx63) (show x63.toInt ≤ 397 by omega) (Nat.lt_succ_self _) hw hT hF c64 hM (lv_sub hl [2, 3, 1, 0] rfl)
    · have c68 : ¬ x65.toInt = (3 : Int) := wk_eqF c68
      replace hM := hM.neg c68
      refine lv_iconst (v := 0) hx hb dX6_takeWord_23 (by decide) ?_
      exact tk_zret hC hr rfl hlocks hK ⟨hT, hF, hM.ret (by decide), (Or.inl rfl)⟩ hw dX6_takeWord_24
abbrev Pz_X6_takeWord_3 (ad : Nat → Nat) (cy : Nat → ClassId) (B : Int) (qr : Nat) (s1 : Int)  (w0 : va_W) : Int32 → va_W → Prop := fun r u => TW ksC ad cy B qr s1 u ∧ FE ksC [(6, 1, 1), (6, 3, 3)] w0 u ∧ Ev (fun n => m_X6_takeWord n 1 7 (sI w0)) (r.toInt, sI u) ∧ ((r = 0) ∨ (r = 1 ∧ (∃ y : Int32, gi u 1 1 = y ∧ 2 ≤ y.toInt ∧ y.toInt ≤ 400)))
set_option maxHeartbeats 4000000 in
set_option maxRecDepth 100000 in
theorem kz_X6_takeWord_3 (l : Launch) (adK adV : Nat → Nat) (dC : Nat → ClassId) (dI : Nat → Nat → Nat) (cy : Nat → ClassId) (ad : Nat → Nat) (B : Int) (hB0 : 2147483648 ≤ B) (hB1 : B ≤ 1152921504606846976) (qr : Nat) (s1 : Int)   (w0 : va_W) (sz : Nat) (hT : TW ksC ad cy B qr s1 w0)  : Met l yX6_takeWord (wu yX6_takeWord cX6_takeWord 4 (some .boolean)) ({ frames := 5, cells := 0, slots := 0, locals := 141 }) (va_Pc [.ref (ad 1), .ref (adK 7)] (wpreS adK adV dC dI cy sz w0)) (va_Qi (Pz_X6_takeWord_3 ad cy B qr s1  w0) (fun u : va_W => wpost dC dI cy (va_A w0 sz) u) (va_A w0 sz)) 0 0 (va_A w0 sz) := by
  refine Met.ofW (cc := cX6_takeWord) (maxL := 4) (ret := (some .boolean)) (by decide) rfl ?_
  intro p e s m args below meth c s₁ Bk hml hv
  obtain ⟨rfl, ⟨hsz, hP, hK, hD0⟩, hE, hSR⟩ := hv
  have hx := Bk.exec
  have hb := Bk.bytes
  have hr := Bk.returns
  have hlocks := Bk.notSynchronized
  have hC : CallFix p m c cX6_takeWord 4 s _ (wu yX6_takeWord cX6_takeWord 4 (some .boolean)) RX6 := ⟨hx, hb, hml, findClass_of_methodNamed Bk.named, atoms_spec (ws := (wu yX6_takeWord cX6_takeWord 4 (some .boolean))) Bk.pre⟩
  subst hsz
  have hD := hD0.self (sz := s.heap.size)
  generalize hAe : va_A w0 s.heap.size = A at hD hE ⊢
  have hA : ∀ q : Nat, s.heap.size ≤ q → A q := fun q h => by rw [← hAe]; exact Or.inr h
  have hw : Wd dC dI A s.heap s.heap [] w0 := ⟨hP, hD, va_S.rf⟩
  have hF : FE ksC [(6, 1, 1), (6, 3, 3)] w0 w0 := FE.rf
  have hl := lv_entry ([.ref (ad 1), .ref (adK 7)]) (n := 4) (Nat.le_of_ble_eq_true rfl)
  rw [lg_entry_eq]
  generalize (lg_sl ([.ref (ad 1), .ref (adK 7)]) ++ List.replicate (4 - (lg_sl ([.ref (ad 1), .ref (adK 7)])).length) Slot.unset).toArray = ls at hl ⊢
  have hl : lv_has ls 4 [(0, .ref (ad 1)), (1, .ref (adK 7))] := hl
  generalize hloc : ([] : List Loc) = locs at hw ⊢
  have hinX6 : ∀ w ∈ u_ws RX6 TX6 5, w ∈ (wu yX6_takeWord cX6_takeWord 4 (some .boolean)) := fun _ h => List.mem_cons_of_mem _ (up_72 h)
  have L27 : ∀ (n27 : Nat) (v27_2 : Int32) (v27_3 : Int32) (f27_1_1 : Int32) (H : Heap) (locs : List Loc) (ls : Array Slot) (w1 : va_W), 2 ≤ v27_2.toInt → v27_2.toInt ≤ 400 → 0 ≤ v27_3.toInt → v27_3.toInt ≤ 2 → 0 ≤ f27_1_1.toInt → f27_1_1.toInt ≤ 398 → (2 - v27_3.toInt).toNat < n27 → Wd dC dI A s.heap H locs w1 → TW ksC ad cy B qr s1 w1 → FE ksC [(6, 1, 1), (6, 3, 3)] w0 w1 → gi w1 1 1 = f27_1_1 → TT (fun n => m_X6_takeWord n 1 7 (sI w0)) (fun n => j_X6_takeWord 1 7 n 27 [v27_2.toInt, v27_3.toInt] (sI w1)) → lv_has ls 4 [(0, .ref (ad 1)), (1, .ref (adK 7)), (2, .int v27_2), (3, .int v27_3)] → W p l e ({ frames := 5, cells := 0, slots := 0, locals := 141 }) s m (List.toArray [.ref (ad 1), .ref (adK 7)]) below meth c H locs 0 0 (MQ below (va_Qi (Pz_X6_takeWord_3 ad cy B qr s1  w0) (fun u : va_W => wpost dC dI cy A u) A) (List.toArray [.ref (ad 1), .ref (adK 7)]) s 0 0 A) (F0 m 27 ls []) := by
    intro n27
    induction n27 with
    | zero => intro v27_2 v27_3 f27_1_1 H locs ls w1 r2 t3 r4 t5 r6 t7 hm27 hw hT hF c8 hM hl; omega
    | succ n27 ih27 =>
      intro v27_2 v27_3 f27_1_1 H locs ls w1 r2 t3 r4 t5 r6 t7 hm27 hw hT hF c8 hM hl
      replace hM := hM.suc (fun _ => e_X6_takeWord_27)
      refine lv_iload_n hx hb dX6_takeWord_27 rfl (lv_at hl 3 rfl) ?_
      refine lv_aload_n hx hb dX6_takeWord_28 rfl (lv_at hl 1 rfl) ?_
      refine tk_ViT hC hK hw hA hE hSR (s_length l adK adV dC dI cy 7 (by decide) H.size) (cwV 0 hC.2.2.2.2 uV_RX6_56 rfl rfl rfl (by decide +kernel) ⟨Nat.le_of_ble_eq_true rfl, Nat.le_of_ble_eq_true rfl⟩) 7 (by decide) rfl rfl rfl hl.1 rfl (Nat.le_of_ble_eq_true rfl) dX6_takeWord_29 (fun r9 H locs hp10 hw => ?_)
      obtain ⟨-, hp10⟩ := hp10
      obtain rfl : r9 = 2 := hp10
      replace hM := hM.lt (v := 2) (by decide)
      refine lv_icmp_ge (tgt := 62) hx hb dX6_takeWord_32 (by decide) (fun c11 => ?_) (fun c11 => ?_)
      · have c11 : (2 : Int) ≤ v27_3.toInt := wk_le.mp c11
        replace hM := hM.pos c11
        refine lv_aload_n hx hb dX6_takeWord_62 rfl (lv_at hl 0 rfl) ?_
        refine lv_iload_n hx hb dX6_takeWord_63 rfl (lv_at hl 2 rfl) ?_
        refine tk_puti hC hK hw hT hinX6 tyX6_ok nmX6 kC_at1 (by decide) rfl rfl 1 (by decide) (List.mem_cons_of_mem _ uw_9_16) rfl rfl rfl rfl (show 0 ≤ v27_2.toInt from Int.le_trans (by decide) r2) (show v27_2.toInt ≤ 400 from t3) dX6_takeWord_64 (fun H locs w12 hw hT k14 c13 => ?_)
        replace hM := hM.wr (sI_up k14 c13)
        have hF := hF.put kC_at1 (k := 1) (by decide) k14
        refine lv_iconst (v := 1) hx hb dX6_takeWord_67 (by decide) ?_
        exact tk_zret hC hr rfl hlocks hK ⟨hT, hF, hM.ret (by decide), (Or.inr ⟨rfl, ⟨v27_2, c13, (show 2 ≤ v27_2.toInt from r2), (show v27_2.toInt ≤ 400 from t3)⟩⟩)⟩ hw dX6_takeWord_68
      · have c11 : v27_3.toInt < (2 : Int) := wk_leF c11
        replace hM := hM.neg (Int.not_le.mpr c11)
        refine lv_aload_n hx hb dX6_takeWord_35 rfl (lv_at hl 0 rfl) ?_
        refine tk_getA hC hK hw hT hinX6 kC_at1 (by decide) rfl 0 (by decide) (List.mem_cons_of_mem _ uw_2_12) rfl rfl dX6_takeWord_36 ?_
        refine lv_aload_n hx hb dX6_takeWord_39 rfl (lv_at hl 0 rfl) ?_
        refine tk_geti hC hK hw hT hinX6 kC_at1 (by decide) rfl 1 (by decide) (List.mem_cons_of_mem _ uw_9_16) rfl rfl dX6_takeWord_40 (fun x15 c16 rx15 tx15 => ?_)
        refine wk_top f27_1_1 (c16.symm.trans c8) ?_
        replace hM := hM.rd (sI_at c8)
        refine lv_iload_n hx hb dX6_takeWord_43 rfl (lv_at hl 3 rfl) ?_
        refine lv_iadd hx hb dX6_takeWord_44 ?_
        refine lv_topi (fun x17 ex17 => ?_)
        have ezx17 := ex17
        have ex17 : x17.toInt = f27_1_1.toInt + v27_3.toInt := by rw [ex17]; exact wk_add (show (-2147483648) ≤ f27_1_1.toInt + v27_3.toInt by omega) (show f27_1_1.toInt + v27_3.toInt ≤ 2147483647 by omega)
        replace hM := hM.lt ex17.symm
        refine tk_iald hC hK hw hT kC_at2 rfl rfl (show 0 ≤ x17.toInt by omega) (show x17.toInt < 400 by omega) dX6_takeWord_45 (fun x18 c19 rx18 tx18 => ?_)
        have hox18 := c19
        replace hM := hM.rd (sI_at hox18)
        refine lv_aload_n hx hb dX6_takeWord_46 rfl (lv_at hl 1 rfl) ?_
        refine lv_iload_n hx hb dX6_takeWord_47 rfl (lv_at hl 3 rfl) ?_
        refine tk_ViT hC hK hw hA hE hSR (s_charAt l adK adV dC dI cy 7 (by decide) v27_3 (show 0 ≤ v27_3.toInt from r4) (show v27_3.toInt < 2 by omega) H.size) (cwV 1 hC.2.2.2.2 uV_RX6_60 rfl rfl rfl (by decide +kernel) ⟨Nat.le_of_ble_eq_true rfl, Nat.le_of_ble_eq_true rfl⟩) 7 (by decide) rfl rfl rfl hl.1 rfl (Nat.le_of_ble_eq_true rfl) dX6_takeWord_48 (fun r20 H locs hp21 hw => ?_)
        obtain ⟨-, hp21⟩ := hp21
        replace hM := hM.lt (chS_e hp21 rfl)
        refine lv_icmp_eq (tgt := 56) hx hb dX6_takeWord_51 (by decide) (fun c22 => ?_) (fun c22 => ?_)
        · have c22 : x18.toInt = r20.toInt := wk_eq.mp c22
          replace hM := hM.pos c22
          obtain ⟨x23, ex23⟩ : ∃ y : Int32, y = v27_3 + Int32.ofInt 1 := ⟨_, rfl⟩
          have erx23 := ex23
          refine lv_iinc (v := x23) (lv' := [(3, .int x23), (0, .ref (ad 1)), (1, .ref (adK 7)), (2, .int v27_2)]) hx hb dX6_takeWord_56 hl (k := 3) rfl ex23.symm (by decide) rfl (fun ls hl => ?_)
          have ex23 : x23.toInt = v27_3.toInt + 1 := by rw [ex23]; exact wk_add (y := 1) (show -2147483648 ≤ v27_3.toInt + 1 by omega) (show v27_3.toInt + 1 ≤ 2147483647 by omega)
          replace hM := hM.lt ex23.symm
          refine lv_goto (tgt := 27) hx hb dX6_takeWord_59 (by decide) ?_
          exact ih27 v27_2 x23 f27_1_1 H locs ls w1 (show 2 ≤ v27_2.toInt from r2) (show v27_2.toInt ≤ 400 from t3) (show 0 ≤ x23.toInt by omega) (show x23.toInt ≤ 2 by omega) (show 0 ≤ f27_1_1.toInt from r6) (show f27_1_1.toInt ≤ 398 from t7) (show (2 - x23.toInt).toNat < n27 by omega) hw hT hF c8 hM (lv_sub hl [1, 2, 3, 0] rfl)
        · have c22 : ¬ x18.toInt = r20.toInt := wk_eqF c22
          replace hM := hM.neg c22
          refine lv_iconst (v := 0) hx hb dX6_takeWord_54 (by decide) ?_
          exact tk_zret hC hr rfl hlocks hK ⟨hT, hF, hM.ret (by decide), (Or.inl rfl)⟩ hw dX6_takeWord_55
  have hM : TT (fun n => m_X6_takeWord n 1 7 (sI w0)) (fun n => m_X6_takeWord n 1 7 (sI w0)) := TT.rf
  refine lv_aload_n hx hb dX6_takeWord_0 rfl (lv_at hl 0 rfl) ?_
  refine tk_Vi hC hK hw hT hA hE hSR kC_at1 (by decide) rfl (kz_X6_lookBehindBlanks_1 l adK adV dC dI cy ad B (by omega) (by omega) qr s1    w0 s.heap.size hT ) (cwV 0 hC.2.2.2.2 uV_RX6_28 rfl rfl rfl (by decide +kernel) ⟨Nat.le_of_ble_eq_true rfl, Nat.le_of_ble_eq_true rfl⟩) rfl hl.1 rfl (Nat.le_of_ble_eq_true rfl) dX6_takeWord_1 (fun r24 w26 H locs hp25 hw => ?_)
  obtain ⟨hT, k27, hv37, hg36⟩ := hp25
  have hF := hF.tr k27 (by decide)
  rcases hg36 with ⟨g28, g29, ⟨x30, c31, rx30, tx30⟩, ⟨x32, c33, rx32, tx32⟩, ⟨x34, c35, rx34, tx34⟩⟩ | rfl
  · replace hM := hM.call hv37 rfl
    refine lv_pop hx hb dX6_takeWord_4 rfl ?_
    refine lv_aload_n hx hb dX6_takeWord_5 rfl (lv_at hl 0 rfl) ?_
    refine tk_Vi hC hK hw hT hA hE hSR kC_at1 (by decide) rfl (kz_X6_endOfWord_1 l adK adV dC dI cy ad B (by omega) (by omega) qr s1    w26 H.size hT ) (cwV 0 hC.2.2.2.2 uV_RX6_53 rfl rfl rfl (by decide +kernel) ⟨Nat.le_of_ble_eq_true rfl, Nat.le_of_ble_eq_true rfl⟩) rfl hl.1 rfl (Nat.le_of_ble_eq_true rfl) dX6_takeWord_6 (fun r38 w40 H locs hp39 hw => ?_)
    obtain ⟨hT, k41, hv45, hg44⟩ := hp39
    have hF := hF.tr k41 (by decide)
    have c46 := k41.gi kC_at1 (by decide) c31
    have c47 := k41.gi kC_at1 (by decide) c33
    have c48 := k41.gi kC_at1 (by decide) c35
    obtain ⟨g42, g43⟩ := hg44
    replace hM := hM.call hv45 rfl
    refine lv_istore_n (lv' := [(2, .int r38), (0, .ref (ad 1)), (1, .ref (adK 7))]) hx hb dX6_takeWord_9 rfl hl (by decide) rfl (fun ls hl => ?_)
    refine lv_iload_n hx hb dX6_takeWord_10 rfl (lv_at hl 0 rfl) ?_
    refine lv_aload_n hx hb dX6_takeWord_11 rfl (lv_at hl 1 rfl) ?_
    refine tk_geti hC hK hw hT hinX6 kC_at1 (by decide) rfl 1 (by decide) (List.mem_cons_of_mem _ uw_9_16) rfl rfl dX6_takeWord_12 (fun x49 c50 rx49 tx49 => ?_)
    refine wk_top x30 (c50.symm.trans c46) ?_
    replace hM := hM.rd (sI_at c46)
    refine lv_isub hx hb dX6_takeWord_15 ?_
    refine lv_topi (fun x51 ex51 => ?_)
    have ezx51 := ex51
    have ex51 : x51.toInt = r38.toInt - x30.toInt := by rw [ex51]; exact wk_sub (show (-2147483648) ≤ r38.toInt - x30.toInt by omega) (show r38.toInt - x30.toInt ≤ 2147483647 by omega)
    replace hM := hM.lt ex51.symm
    refine lv_aload_n hx hb dX6_takeWord_16 rfl (lv_at hl 2 rfl) ?_
    refine tk_ViT hC hK hw hA hE hSR (s_length l adK adV dC dI cy 7 (by decide) H.size) (cwV 0 hC.2.2.2.2 uV_RX6_56 rfl rfl rfl (by decide +kernel) ⟨Nat.le_of_ble_eq_true rfl, Nat.le_of_ble_eq_true rfl⟩) 7 (by decide) rfl rfl rfl hl.1 rfl (Nat.le_of_ble_eq_true rfl) dX6_takeWord_17 (fun r52 H locs hp53 hw => ?_)
    obtain ⟨-, hp53⟩ := hp53
    obtain rfl : r52 = 2 := hp53
    replace hM := hM.lt (v := 2) (by decide)
    refine lv_icmp_eq (tgt := 25) hx hb dX6_takeWord_20 (by decide) (fun c54 => ?_) (fun c54 => ?_)
    · have c54 : x51.toInt = (2 : Int) := wk_eq.mp c54
      replace hM := hM.pos c54
      refine lv_iconst (v := 0) hx hb dX6_takeWord_25 (by decide) ?_
      refine lv_istore_n (lv' := [(3, .int 0), (2, .int r38), (0, .ref (ad 1)), (1, .ref (adK 7))]) hx hb dX6_takeWord_26 rfl hl (by decide) rfl (fun ls hl => ?_)
      exact L27 ((2 - (0 : Int)).toNat + 1) r38 0 x30 H locs ls w40 (show 2 ≤ r38.toInt by omega) (show r38.toInt ≤ 400 by omega) (by decide) (by decide) (show 0 ≤ x30.toInt by omega) (show x30.toInt ≤ 398 by omega) (Nat.lt_succ_self _) hw hT hF c46 hM (lv_sub hl [2, 3, 1, 0] rfl)
    · have c54 : ¬ x51.toInt = (2 : Int) := wk_eqF c54
      replace hM := hM.neg c54
      refine lv_iconst (v := 0) hx hb dX6_takeWord_23 (by decide) ?_
      exact tk_zret hC hr rfl hlocks hK ⟨hT, hF, hM.ret (by decide), (Or.inl rfl)⟩ hw dX6_takeWord_24
  · replace hM := hM.call (r' := (-1)) hv37 (by decide)
    refine lv_pop hx hb dX6_takeWord_4 rfl ?_
    refine lv_aload_n hx hb dX6_takeWord_5 rfl (lv_at hl 0 rfl) ?_
    refine tk_Vi hC hK hw hT hA hE hSR kC_at1 (by decide) rfl (kz_X6_endOfWord_1 l adK adV dC dI cy ad B (by omega) (by omega) qr s1    w26 H.size hT ) (cwV 0 hC.2.2.2.2 uV_RX6_53 rfl rfl rfl (by decide +kernel) ⟨Nat.le_of_ble_eq_true rfl, Nat.le_of_ble_eq_true rfl⟩) rfl hl.1 rfl (Nat.le_of_ble_eq_true rfl) dX6_takeWord_6 (fun r55 w57 H locs hp56 hw => ?_)
    obtain ⟨hT, k58, hv62, hg61⟩ := hp56
    have hF := hF.tr k58 (by decide)
    obtain ⟨g59, g60⟩ := hg61
    replace hM := hM.call hv62 rfl
    refine lv_istore_n (lv' := [(2, .int r55), (0, .ref (ad 1)), (1, .ref (adK 7))]) hx hb dX6_takeWord_9 rfl hl (by decide) rfl (fun ls hl => ?_)
    refine lv_iload_n hx hb dX6_takeWord_10 rfl (lv_at hl 0 rfl) ?_
    refine lv_aload_n hx hb dX6_takeWord_11 rfl (lv_at hl 1 rfl) ?_
    refine tk_geti hC hK hw hT hinX6 kC_at1 (by decide) rfl 1 (by decide) (List.mem_cons_of_mem _ uw_9_16) rfl rfl dX6_takeWord_12 (fun x63 c64 rx63 tx63 => ?_)
    replace hM := hM.rd (sI_at c64)
    refine lv_isub hx hb dX6_takeWord_15 ?_
    refine lv_topi (fun x65 ex65 => ?_)
    have ezx65 := ex65
    have ex65 : x65.toInt = r55.toInt - x63.toInt := by rw [ex65]; exact wk_sub (show (-2147483648) ≤ r55.toInt - x63.toInt by omega) (show r55.toInt - x63.toInt ≤ 2147483647 by omega)
    replace hM := hM.lt ex65.symm
    refine lv_aload_n hx hb dX6_takeWord_16 rfl (lv_at hl 2 rfl) ?_
    refine tk_ViT hC hK hw hA hE hSR (s_length l adK adV dC dI cy 7 (by decide) H.size) (cwV 0 hC.2.2.2.2 uV_RX6_56 rfl rfl rfl (by decide +kernel) ⟨Nat.le_of_ble_eq_true rfl, Nat.le_of_ble_eq_true rfl⟩) 7 (by decide) rfl rfl rfl hl.1 rfl (Nat.le_of_ble_eq_true rfl) dX6_takeWord_17 (fun r66 H locs hp67 hw => ?_)
    obtain ⟨-, hp67⟩ := hp67
    obtain rfl : r66 = 2 := hp67
    replace hM := hM.lt (v := 2) (by decide)
    refine lv_icmp_eq (tgt := 25) hx hb dX6_takeWord_20 (by decide) (fun c68 => ?_) (fun c68 => ?_)
    · have c68 : x65.toInt = (2 : Int) := wk_eq.mp c68
      replace hM := hM.pos c68
      refine lv_iconst (v := 0) hx hb dX6_takeWord_25 (by decide) ?_
      refine lv_istore_n (lv' := [(3, .int 0), (2, .int r55), (0, .ref (ad 1)), (1, .ref (adK 7))]) hx hb dX6_takeWord_26 rfl hl (by decide) rfl (fun ls hl => ?_)
      exact L27 ((2 - (0 : Int)).toNat + 1) r55 0 x63 H locs ls w57 (show 2 ≤ r55.toInt by omega) (show r55.toInt ≤ 400 by omega) (by decide) (by decide) (show 0 ≤ x63.toInt from rx63) (show x63.toInt ≤ 398 by omega) (Nat.lt_succ_self _) hw hT hF c64 hM (lv_sub hl [2, 3, 1, 0] rfl)
    · have c68 : ¬ x65.toInt = (2 : Int) := wk_eqF c68
      replace hM := hM.neg c68
      refine lv_iconst (v := 0) hx hb dX6_takeWord_23 (by decide) ?_
      exact tk_zret hC hr rfl hlocks hK ⟨hT, hF, hM.ret (by decide), (Or.inl rfl)⟩ hw dX6_takeWord_24
abbrev Pz_X3_countItem_1 (ad : Nat → Nat) (cy : Nat → ClassId) (B : Int) (qr : Nat) (s1 : Int)  (w0 : va_W) : va_W → Prop := fun u => TW ksC ad cy B qr s1 u ∧ FE ksC [(3, 2, 2), (6, 4, 4)] w0 u ∧ Ev (fun n => m_X3_countItem n 3 (sI w0)) (0, sI u) ∧ ((True))
set_option maxHeartbeats 4000000 in
set_option maxRecDepth 100000 in
theorem kz_X3_countItem_1 (l : Launch) (adK adV : Nat → Nat) (dC : Nat → ClassId) (dI : Nat → Nat → Nat) (cy : Nat → ClassId) (ad : Nat → Nat) (B : Int) (hB0 : 2147483648 ≤ B) (hB1 : B ≤ 1152921504606846976) (qr : Nat) (s1 : Int)   (w0 : va_W) (sz : Nat) (hT : TW ksC ad cy B qr s1 w0)  : Met l yX3_countItem (wu yX3_countItem cX3_countItem 1 none) ({ frames := 2, cells := 0, slots := 0, locals := 34 }) (va_Pc [.ref (ad 3)] (wpreS adK adV dC dI cy sz w0)) (va_Qv (Pz_X3_countItem_1 ad cy B qr s1  w0) (fun u : va_W => wpost dC dI cy (va_A w0 sz) u) (va_A w0 sz)) 0 0 (va_A w0 sz) := by
  refine Met.ofW (cc := cX3_countItem) (maxL := 1) (ret := none) (by decide) rfl ?_
  intro p e s m args below meth c s₁ Bk hml hv
  obtain ⟨rfl, ⟨hsz, hP, hK, hD0⟩, hE, hSR⟩ := hv
  have hx := Bk.exec
  have hb := Bk.bytes
  have hr := Bk.returns
  have hlocks := Bk.notSynchronized
  have hC : CallFix p m c cX3_countItem 1 s _ (wu yX3_countItem cX3_countItem 1 none) RX3 := ⟨hx, hb, hml, findClass_of_methodNamed Bk.named, atoms_spec (ws := (wu yX3_countItem cX3_countItem 1 none)) Bk.pre⟩
  subst hsz
  have hD := hD0.self (sz := s.heap.size)
  generalize hAe : va_A w0 s.heap.size = A at hD hE ⊢
  have hA : ∀ q : Nat, s.heap.size ≤ q → A q := fun q h => by rw [← hAe]; exact Or.inr h
  have hw : Wd dC dI A s.heap s.heap [] w0 := ⟨hP, hD, va_S.rf⟩
  have hF : FE ksC [(3, 2, 2), (6, 4, 4)] w0 w0 := FE.rf
  have hl := lv_entry ([.ref (ad 3)]) (n := 1) (Nat.le_of_ble_eq_true rfl)
  rw [lg_entry_eq]
  generalize (lg_sl ([.ref (ad 3)]) ++ List.replicate (1 - (lg_sl ([.ref (ad 3)])).length) Slot.unset).toArray = ls at hl ⊢
  have hl : lv_has ls 1 [(0, .ref (ad 3))] := hl
  generalize hloc : ([] : List Loc) = locs at hw ⊢
  have hinX3 : ∀ w ∈ u_ws RX3 TX3 3, w ∈ (wu yX3_countItem cX3_countItem 1 none) := fun _ h => List.mem_cons_of_mem _ (up_75 h)
  have hinX6 : ∀ w ∈ u_ws RX6 TX6 5, w ∈ (wu yX3_countItem cX3_countItem 1 none) := fun _ h => List.mem_cons_of_mem _ (up_72 h)
  have J34 : ∀ (f34_3_2 : Int32) (H : Heap) (locs : List Loc) (ls : Array Slot) (w1 : va_W), Wd dC dI A s.heap H locs w1 → TW ksC ad cy B qr s1 w1 → FE ksC [(3, 2, 2), (6, 4, 4)] w0 w1 → gi w1 3 2 = f34_3_2 → TT (fun n => m_X3_countItem n 3 (sI w0)) (fun n => b_X3_countItem_34 n 3 (sI w1)) → lv_has ls 1 [(0, .ref (ad 3))] → W p l e ({ frames := 2, cells := 0, slots := 0, locals := 34 }) s m (List.toArray [.ref (ad 3)]) below meth c H locs 0 0 (MQ below (va_Qv (Pz_X3_countItem_1 ad cy B qr s1  w0) (fun u : va_W => wpost dC dI cy A u) A) (List.toArray [.ref (ad 3)]) s 0 0 A) (F0 m 34 ls []) := by
    intro f34_3_2 H locs ls w1 hw hT hF c2 hM hl
    exact tk_vret hC hr hlocks hK ⟨hT, hF, hM.ret rfl, trivial⟩ hw dX3_countItem_34
  have hM : TT (fun n => m_X3_countItem n 3 (sI w0)) (fun n => m_X3_countItem n 3 (sI w0)) := TT.rf
  refine lv_aload_n hx hb dX3_countItem_0 rfl (lv_at hl 0 rfl) ?_
  refine lv_dup hx hb dX3_countItem_1 rfl ?_
  refine tk_geti hC hK hw hT hinX3 kC_at3 (by decide) rfl 2 (by decide) (List.mem_cons_of_mem _ uw_26_18) rfl rfl dX3_countItem_2 (fun x3 c4 rx3 tx3 => ?_)
  replace hM := hM.rd (sI_at c4)
  refine lv_iconst (v := 1) hx hb dX3_countItem_5 (by decide) ?_
  refine lv_iadd hx hb dX3_countItem_6 ?_
  have nx5 := wk_i32 x3
  refine lv_topi (fun x6 ex6 => ?_)
  have ezx6 := ex6
  replace hM := hM.lt (o32_e (f := fun x y => x + y) ezx6 rfl (by decide))
  refine tk_puti hC hK hw hT hinX3 tyX3_ok nmX3 kC_at3 (by decide) rfl rfl 2 (by decide) (List.mem_cons_of_mem _ uw_26_18) rfl rfl rfl rfl (wk_i32 x6).1 (wk_i32 x6).2 dX3_countItem_7 (fun H locs w7 hw hT k9 c8 => ?_)
  replace hM := hM.wr (sI_up k9 c8)
  have hF := hF.put kC_at3 (k := 2) (by decide) k9
  refine lv_aload_n hx hb dX3_countItem_10 rfl (lv_at hl 0 rfl) ?_
  refine tk_geti hC hK hw hT hinX3 kC_at3 (by decide) rfl 2 (by decide) (List.mem_cons_of_mem _ uw_26_18) rfl rfl dX3_countItem_11 (fun x10 c11 rx10 tx10 => ?_)
  refine wk_top x6 (c11.symm.trans c8) ?_
  replace hM := hM.rd (sI_at c8)
  refine lv_bipush (v := 60) hx hb dX3_countItem_14 (by decide) ?_
  refine lv_icmp_le (tgt := 34) hx hb dX3_countItem_16 (by decide) (fun c12 => ?_) (fun c12 => ?_)
  · have c12 : x6.toInt ≤ (60 : Int) := wk_le.mp c12
    replace hM := hM.pos c12
    exact J34 x6 H locs ls w7   hw hT hF c8 hM (lv_sub hl [0] rfl)
  · have c12 : (60 : Int) < x6.toInt := wk_leF c12
    replace hM := hM.neg (Int.not_le.mpr c12)
    refine lv_aload_n hx hb dX3_countItem_19 rfl (lv_at hl 0 rfl) ?_
    refine tk_getA hC hK hw hT hinX3 kC_at3 (by decide) rfl 0 (by decide) (List.mem_cons_of_mem _ uw_3_12) rfl rfl dX3_countItem_20 ?_
    refine lv_aload_n hx hb dX3_countItem_23 rfl (lv_at hl 0 rfl) ?_
    refine tk_getA hC hK hw hT hinX3 kC_at3 (by decide) rfl 0 (by decide) (List.mem_cons_of_mem _ uw_3_12) rfl rfl dX3_countItem_24 ?_
    refine tk_geti hC hK hw hT hinX6 kC_at1 (by decide) rfl 3 (by decide) (List.mem_cons_of_mem _ uw_26_19) rfl rfl dX3_countItem_27 (fun x13 c14 rx13 tx13 => ?_)
    replace hM := hM.rd (sI_at c14)
    refine lv_iconst (v := 3) hx hb dX3_countItem_30 (by decide) ?_
    refine tk_Vv hC hK hw hT hA hE hSR kC_at1 (by decide) rfl (kz_X6_blame_1 l adK adV dC dI cy ad B (by omega) (by omega) qr s1   x13 (show 0 ≤ x13.toInt from rx13) (show x13.toInt ≤ 400 from tx13) 3 (by decide) (by decide) w7 H.size hT ) (cwV 2 hC.2.2.2.2 uV_RX3_46 rfl rfl rfl (by decide +kernel) ⟨Nat.le_of_ble_eq_true rfl, Nat.le_of_ble_eq_true rfl⟩) rfl hl.1 rfl (Nat.le_of_ble_eq_true rfl) dX3_countItem_31 (fun w17 H locs hp16 hw => ?_)
    obtain ⟨hT, k18, hv22, hg21⟩ := hp16
    try simp only [show (3 : Int32).toInt = 3 by decide] at hv22
    have hF := hF.tr k18 (by decide)
    have c23 := k18.gi kC_at3 (by decide) c8
    have c24 := k18.gi kC_at1 (by decide) c14
    obtain ⟨x19, c20, rx19, tx19⟩ := hg21
    replace hM := hM.call hv22 rfl
    exact J34 x6 H locs ls w17   hw hT hF c23 hM (lv_sub hl [0] rfl)
abbrev Pz_X6_readWord_2 (ad : Nat → Nat) (cy : Nat → ClassId) (B : Int) (qr : Nat) (s1 : Int)  (w0 : va_W) : Int32 → va_W → Prop := fun r u => TW ksC ad cy B qr s1 u ∧ FE ksC [(6, 1, 1), (6, 3, 3), (6, 4, 4)] w0 u ∧ Ev (fun n => m_X6_readWord n 1 5 (sI w0)) (r.toInt, sI u) ∧ ((0 ≤ r.toInt ∧ r.toInt ≤ 53 ∧ (∃ y : Int32, gi u 1 4 = y ∧ 0 ≤ y.toInt ∧ y.toInt ≤ 0)) ∨ (r = (-1) ∧ (∃ y : Int32, gi u 1 4 = y ∧ 1 ≤ y.toInt ∧ y.toInt ≤ 3205)))
set_option maxHeartbeats 4000000 in
set_option maxRecDepth 100000 in
theorem kz_X6_readWord_2 (l : Launch) (adK adV : Nat → Nat) (dC : Nat → ClassId) (dI : Nat → Nat → Nat) (cy : Nat → ClassId) (ad : Nat → Nat) (B : Int) (hB0 : 2147483648 ≤ B) (hB1 : B ≤ 1152921504606846976) (qr : Nat) (s1 : Int)   (w0 : va_W) (sz : Nat) (hT : TW ksC ad cy B qr s1 w0) (cf0_ : gi w0 1 4 = 0) : Met l yX6_readWord (wu yX6_readWord cX6_readWord 8 (some .int)) ({ frames := 5, cells := 0, slots := 0, locals := 141 }) (va_Pc [.ref (ad 1), .ref (adK 5)] (wpreS adK adV dC dI cy sz w0)) (va_Qi (Pz_X6_readWord_2 ad cy B qr s1  w0) (fun u : va_W => wpost dC dI cy (va_A w0 sz) u) (va_A w0 sz)) 0 0 (va_A w0 sz) := by
  refine Met.ofW (cc := cX6_readWord) (maxL := 8) (ret := (some .int)) (by decide) rfl ?_
  intro p e s m args below meth c s₁ Bk hml hv
  obtain ⟨rfl, ⟨hsz, hP, hK, hD0⟩, hE, hSR⟩ := hv
  have hx := Bk.exec
  have hb := Bk.bytes
  have hr := Bk.returns
  have hlocks := Bk.notSynchronized
  have hC : CallFix p m c cX6_readWord 8 s _ (wu yX6_readWord cX6_readWord 8 (some .int)) RX6 := ⟨hx, hb, hml, findClass_of_methodNamed Bk.named, atoms_spec (ws := (wu yX6_readWord cX6_readWord 8 (some .int))) Bk.pre⟩
  subst hsz
  have hD := hD0.self (sz := s.heap.size)
  generalize hAe : va_A w0 s.heap.size = A at hD hE ⊢
  have hA : ∀ q : Nat, s.heap.size ≤ q → A q := fun q h => by rw [← hAe]; exact Or.inr h
  have hw : Wd dC dI A s.heap s.heap [] w0 := ⟨hP, hD, va_S.rf⟩
  have hF : FE ksC [(6, 1, 1), (6, 3, 3), (6, 4, 4)] w0 w0 := FE.rf
  have hl := lv_entry ([.ref (ad 1), .ref (adK 5)]) (n := 8) (Nat.le_of_ble_eq_true rfl)
  rw [lg_entry_eq]
  generalize (lg_sl ([.ref (ad 1), .ref (adK 5)]) ++ List.replicate (8 - (lg_sl ([.ref (ad 1), .ref (adK 5)])).length) Slot.unset).toArray = ls at hl ⊢
  have hl : lv_has ls 8 [(0, .ref (ad 1)), (1, .ref (adK 5))] := hl
  generalize hloc : ([] : List Loc) = locs at hw ⊢
  have hinX6 : ∀ w ∈ u_ws RX6 TX6 5, w ∈ (wu yX6_readWord cX6_readWord 8 (some .int)) := fun _ h => List.mem_cons_of_mem _ (up_72 h)
  have L24 : ∀ (n24 : Nat) (v24_2 : Int32) (v24_3 : Int32) (v24_4 : Int32) (v24_5 : Int32) (v24_6 : Int32) (f24_1_1 : Int32) (H : Heap) (locs : List Loc) (ls : Array Slot) (w1 : va_W), 0 ≤ v24_2.toInt → v24_2.toInt ≤ 400 → 0 ≤ v24_3.toInt → v24_3.toInt ≤ 53 → 0 ≤ v24_4.toInt → v24_4.toInt ≤ 453 → 0 ≤ v24_5.toInt → v24_5.toInt ≤ 1 → 0 ≤ v24_6.toInt → v24_6.toInt ≤ 53 → 0 ≤ f24_1_1.toInt → f24_1_1.toInt ≤ 400 → v24_4.toInt ≤ v24_6.toInt + 400 → v24_3.toInt ≤ v24_6.toInt + 0 → (53 - v24_6.toInt).toNat < n24 → Wd dC dI A s.heap H locs w1 → TW ksC ad cy B qr s1 w1 → FE ksC [(6, 1, 1), (6, 3, 3), (6, 4, 4)] w0 w1 → gi w1 1 1 = f24_1_1 → gi w1 1 4 = 0 → TT (fun n => m_X6_readWord n 1 5 (sI w0)) (fun n => j_X6_readWord 1 5 n 24 [v24_2.toInt, v24_3.toInt, v24_4.toInt, v24_5.toInt, v24_6.toInt] (sI w1)) → lv_has ls 8 [(0, .ref (ad 1)), (1, .ref (adK 5)), (2, .int v24_2), (3, .int v24_3), (4, .int v24_4), (5, .int v24_5), (6, .int v24_6)] → W p l e ({ frames := 5, cells := 0, slots := 0, locals := 141 }) s m (List.toArray [.ref (ad 1), .ref (adK 5)]) below meth c H locs 0 0 (MQ below (va_Qi (Pz_X6_readWord_2 ad cy B qr s1  w0) (fun u : va_W => wpost dC dI cy A u) A) (List.toArray [.ref (ad 1), .ref (adK 5)]) s 0 0 A) (F0 m 24 ls []) := by
    intro n24
    induction n24 with
    | zero => intro v24_2 v24_3 v24_4 v24_5 v24_6 f24_1_1 H locs ls w1 r2 t3 r4 t5 r6 t7 r8 t9 r10 t11 r12 t13 i16 i17 hm24 hw hT hF c14 c15 hM hl; omega
    | succ n24 ih24 =>
      intro v24_2 v24_3 v24_4 v24_5 v24_6 f24_1_1 H locs ls w1 r2 t3 r4 t5 r6 t7 r8 t9 r10 t11 r12 t13 i16 i17 hm24 hw hT hF c14 c15 hM hl
      have J114 : ∀ (v114_3 : Int32) (v114_4 : Int32) (v114_5 : Int32) (v114_7 : Int32) (H : Heap) (locs : List Loc) (ls : Array Slot) (w18 : va_W), 0 ≤ v24_2.toInt → v24_2.toInt ≤ 400 → 0 ≤ v114_3.toInt → v114_3.toInt ≤ 53 → 0 ≤ v114_4.toInt → v114_4.toInt ≤ 453 → 0 ≤ v114_5.toInt → v114_5.toInt ≤ 1 → 0 ≤ v24_6.toInt → v24_6.toInt ≤ 52 → 0 ≤ f24_1_1.toInt → f24_1_1.toInt ≤ 400 → v114_4.toInt ≤ v24_6.toInt + 401 → v114_3.toInt ≤ v24_6.toInt + 1 → Wd dC dI A s.heap H locs w18 → TW ksC ad cy B qr s1 w18 → FE ksC [(6, 1, 1), (6, 3, 3), (6, 4, 4)] w0 w18 → gi w18 1 1 = f24_1_1 → gi w18 1 4 = 0 → TT (fun n => m_X6_readWord n 1 5 (sI w0)) (fun n => b_X6_readWord_114 (j_X6_readWord 1 5 n) n 1 5 (v24_2.toInt) (v114_3.toInt) (v114_4.toInt) (v114_5.toInt) (v24_6.toInt) (sI w18)) → lv_has ls 8 [(0, .ref (ad 1)), (1, .ref (adK 5)), (2, .int v24_2), (3, .int v114_3), (4, .int v114_4), (5, .int v114_5), (6, .int v24_6), (7, .int v114_7)] → W p l e ({ frames := 5, cells := 0, slots := 0, locals := 141 }) s m (List.toArray [.ref (ad 1), .ref (adK 5)]) below meth c H locs 0 0 (MQ below (va_Qi (Pz_X6_readWord_2 ad cy B qr s1  w0) (fun u : va_W => wpost dC dI cy A u) A) (List.toArray [.ref (ad 1), .ref (adK 5)]) s 0 0 A) (F0 m 114 ls []) := by
        intro v114_3 v114_4 v114_5 v114_7 H locs ls w18 r19 t20 r21 t22 r23 t24 r25 t26 r27 t28 r29 t30 i33 i34 hw hT hF c31 c32 hM hl
        obtain ⟨x35, ex35⟩ : ∃ y : Int32, y = v24_6 + Int32.ofInt 1 := ⟨_, rfl⟩
        have erx35 := ex35
        refine lv_iinc (v := x35) (lv' := [(6, .int x35), (0, .ref (ad 1)), (1, .ref (adK 5)), (2, .int v24_2), (3, .int v114_3), (4, .int v114_4), (5, .int v114_5), (7, .int v114_7)]) hx hb dX6_readWord_114 hl (k := 6) rfl ex35.symm (by decide) rfl (fun ls hl => ?_)
        have ex35 : x35.toInt = v24_6.toInt + 1 := by rw [ex35]; exact wk_add (y := 1) (show -2147483648 ≤ v24_6.toInt + 1 by omega) (show v24_6.toInt + 1 ≤ 2147483647 by omega)
        replace hM := hM.lt ex35.symm
        refine lv_goto (tgt := 24) hx hb dX6_readWord_117 (by decide) ?_
        exact ih24 v24_2 v114_3 v114_4 v114_5 x35 f24_1_1 H locs ls w18 (show 0 ≤ v24_2.toInt from r19) (show v24_2.toInt ≤ 400 from t20) (show 0 ≤ v114_3.toInt from r21) (show v114_3.toInt ≤ 53 from t22) (show 0 ≤ v114_4.toInt from r23) (show v114_4.toInt ≤ 453 from t24) (show 0 ≤ v114_5.toInt from r25) (show v114_5.toInt ≤ 1 from t26) (show 0 ≤ x35.toInt by omega) (show x35.toInt ≤ 53 by omega) (show 0 ≤ f24_1_1.toInt from r29) (show f24_1_1.toInt ≤ 400 from t30) (show v114_4.toInt ≤ x35.toInt + 400 by omega) (show v114_3.toInt ≤ x35.toInt + 0 by omega) (show (53 - x35.toInt).toNat < n24 by omega) hw hT hF c31 c32 hM (lv_sub hl [1, 2, 3, 4, 5, 6, 0] rfl)
      have J75 : ∀ (v75_7 : Int32) (H : Heap) (locs : List Loc) (ls : Array Slot) (w36 : va_W), 0 ≤ v24_2.toInt → v24_2.toInt ≤ 400 → 0 ≤ v24_3.toInt → v24_3.toInt ≤ 53 → 0 ≤ v24_4.toInt → v24_4.toInt ≤ 453 → 0 ≤ v24_5.toInt → v24_5.toInt ≤ 1 → 0 ≤ v24_6.toInt → v24_6.toInt ≤ 52 → 0 ≤ f24_1_1.toInt → f24_1_1.toInt ≤ 400 → v24_4.toInt ≤ v24_6.toInt + 401 → v24_3.toInt ≤ v24_6.toInt + 1 → Wd dC dI A s.heap H locs w36 → TW ksC ad cy B qr s1 w36 → FE ksC [(6, 1, 1), (6, 3, 3), (6, 4, 4)] w0 w36 → gi w36 1 1 = f24_1_1 → gi w36 1 4 = 0 → TT (fun n => m_X6_readWord n 1 5 (sI w0)) (fun n => b_X6_readWord_75 (j_X6_readWord 1 5 n) n 1 5 (v24_2.toInt) (v24_3.toInt) (v24_4.toInt) (v24_6.toInt) (sI w36)) → lv_has ls 8 [(0, .ref (ad 1)), (1, .ref (adK 5)), (2, .int v24_2), (3, .int v24_3), (4, .int v24_4), (5, .int v24_5), (6, .int v24_6), (7, .int v75_7)] → W p l e ({ frames := 5, cells := 0, slots := 0, locals := 141 }) s m (List.toArray [.ref (ad 1), .ref (adK 5)]) below meth c H locs 0 0 (MQ below (va_Qi (Pz_X6_readWord_2 ad cy B qr s1  w0) (fun u : va_W => wpost dC dI cy A u) A) (List.toArray [.ref (ad 1), .ref (adK 5)]) s 0 0 A) (F0 m 75 ls []) := by
        intro v75_7 H locs ls w36 r37 t38 r39 t40 r41 t42 r43 t44 r45 t46 r47 t48 i51 i52 hw hT hF c49 c50 hM hl
        refine lv_iconst (v := 0) hx hb dX6_readWord_75 (by decide) ?_
        refine lv_istore (lv' := [(5, .int 0), (0, .ref (ad 1)), (1, .ref (adK 5)), (2, .int v24_2), (3, .int v24_3), (4, .int v24_4), (6, .int v24_6), (7, .int v75_7)]) hx hb dX6_readWord_76 hl (by decide) rfl (fun ls hl => ?_)
        obtain ⟨x53, ex53⟩ : ∃ y : Int32, y = v24_4 + Int32.ofInt 1 := ⟨_, rfl⟩
        have erx53 := ex53
        refine lv_iinc (v := x53) (lv' := [(4, .int x53), (5, .int 0), (0, .ref (ad 1)), (1, .ref (adK 5)), (2, .int v24_2), (3, .int v24_3), (6, .int v24_6), (7, .int v75_7)]) hx hb dX6_readWord_78 hl (k := 5) rfl ex53.symm (by decide) rfl (fun ls hl => ?_)
        have ex53 : x53.toInt = v24_4.toInt + 1 := by rw [ex53]; exact wk_add (y := 1) (show -2147483648 ≤ v24_4.toInt + 1 by omega) (show v24_4.toInt + 1 ≤ 2147483647 by omega)
        replace hM := hM.lt ex53.symm
        refine lv_goto (tgt := 114) hx hb dX6_readWord_81 (by decide) ?_
        exact J114 v24_3 x53 0 v75_7 H locs ls w36 (show 0 ≤ v24_2.toInt from r37) (show v24_2.toInt ≤ 400 from t38) (show 0 ≤ v24_3.toInt from r39) (show v24_3.toInt ≤ 53 from t40) (show 0 ≤ x53.toInt by omega) (show x53.toInt ≤ 453 by omega) (by decide) (by decide) (show 0 ≤ v24_6.toInt from r45) (show v24_6.toInt ≤ 52 from t46) (show 0 ≤ f24_1_1.toInt from r47) (show f24_1_1.toInt ≤ 400 from t48) (show x53.toInt ≤ v24_6.toInt + 401 by omega) (show v24_3.toInt ≤ v24_6.toInt + 1 from i52)  hw hT hF c49 c50 hM (lv_sub hl [2, 3, 4, 5, 0, 1, 6, 7] rfl)
      have J102 : ∀ (H : Heap) (locs : List Loc) (ls : Array Slot) (w54 : va_W), 0 ≤ v24_2.toInt → v24_2.toInt ≤ 400 → 0 ≤ v24_3.toInt → v24_3.toInt ≤ 53 → 0 ≤ v24_4.toInt → v24_4.toInt ≤ 453 → 0 ≤ v24_5.toInt → v24_5.toInt ≤ 1 → 0 ≤ v24_6.toInt → v24_6.toInt ≤ 52 → 0 ≤ f24_1_1.toInt → f24_1_1.toInt ≤ 400 → v24_4.toInt ≤ v24_6.toInt + 401 → v24_3.toInt ≤ v24_6.toInt + 1 → Wd dC dI A s.heap H locs w54 → TW ksC ad cy B qr s1 w54 → FE ksC [(6, 1, 1), (6, 3, 3), (6, 4, 4)] w0 w54 → gi w54 1 1 = f24_1_1 → gi w54 1 4 = 0 → TT (fun n => m_X6_readWord n 1 5 (sI w0)) (fun n => b_X6_readWord_102 (j_X6_readWord 1 5 n) n 1 5 (v24_2.toInt) (v24_3.toInt) (v24_6.toInt) (sI w54)) → lv_has ls 8 [(0, .ref (ad 1)), (1, .ref (adK 5)), (2, .int v24_2), (3, .int v24_3), (4, .int v24_4), (5, .int v24_5), (6, .int v24_6), (7, .int 32)] → W p l e ({ frames := 5, cells := 0, slots := 0, locals := 141 }) s m (List.toArray [.ref (ad 1), .ref (adK 5)]) below meth c H locs 0 0 (MQ below (va_Qi (Pz_X6_readWord_2 ad cy B qr s1  w0) (fun u : va_W => wpost dC dI cy A u) A) (List.toArray [.ref (ad 1), .ref (adK 5)]) s 0 0 A) (F0 m 102 ls []) := by
        intro H locs ls w54 r55 t56 r57 t58 r59 t60 r61 t62 r63 t64 r65 t66 i69 i70 hw hT hF c67 c68 hM hl
        obtain ⟨x71, ex71⟩ : ∃ y : Int32, y = v24_3 + Int32.ofInt 1 := ⟨_, rfl⟩
        have erx71 := ex71
        refine lv_iinc (v := x71) (lv' := [(3, .int x71), (0, .ref (ad 1)), (1, .ref (adK 5)), (2, .int v24_2), (4, .int v24_4), (5, .int v24_5), (6, .int v24_6), (7, .int 32)]) hx hb dX6_readWord_102 hl (k := 3) rfl ex71.symm (by decide) rfl (fun ls hl => ?_)
        have ex71 : x71.toInt = v24_3.toInt + 1 := by rw [ex71]; exact wk_add (y := 1) (show -2147483648 ≤ v24_3.toInt + 1 by omega) (show v24_3.toInt + 1 ≤ 2147483647 by omega)
        replace hM := hM.lt ex71.symm
        refine lv_aload_n hx hb dX6_readWord_105 rfl (lv_at hl 1 rfl) ?_
        refine tk_geti hC hK hw hT hinX6 kC_at1 (by decide) rfl 1 (by decide) (List.mem_cons_of_mem _ uw_9_16) rfl rfl dX6_readWord_106 (fun x72 c73 rx72 tx72 => ?_)
        refine wk_top f24_1_1 (c73.symm.trans c67) ?_
        replace hM := hM.rd (sI_at c67)
        refine lv_istore (lv' := [(4, .int f24_1_1), (3, .int x71), (0, .ref (ad 1)), (1, .ref (adK 5)), (2, .int v24_2), (5, .int v24_5), (6, .int v24_6), (7, .int 32)]) hx hb dX6_readWord_109 hl (by decide) rfl (fun ls hl => ?_)
        refine lv_iconst (v := 1) hx hb dX6_readWord_111 (by decide) ?_
        refine lv_istore (lv' := [(5, .int 1), (4, .int f24_1_1), (3, .int x71), (0, .ref (ad 1)), (1, .ref (adK 5)), (2, .int v24_2), (6, .int v24_6), (7, .int 32)]) hx hb dX6_readWord_112 hl (by decide) rfl (fun ls hl => ?_)
        exact J114 x71 f24_1_1 1 32 H locs ls w54 (show 0 ≤ v24_2.toInt from r55) (show v24_2.toInt ≤ 400 from t56) (show 0 ≤ x71.toInt by omega) (show x71.toInt ≤ 53 by omega) (show 0 ≤ f24_1_1.toInt from r65) (show f24_1_1.toInt ≤ 453 from Int.le_trans t66 (by decide)) (by decide) (by decide) (show 0 ≤ v24_6.toInt from r63) (show v24_6.toInt ≤ 52 from t64) (show 0 ≤ f24_1_1.toInt from r65) (show f24_1_1.toInt ≤ 400 from t66) (show f24_1_1.toInt ≤ v24_6.toInt + 401 by omega) (show x71.toInt ≤ v24_6.toInt + 1 by omega)  hw hT hF c67 c68 hM (lv_sub hl [3, 4, 5, 2, 1, 0, 6, 7] rfl)
      replace hM := hM.suc (fun _ => e_X6_readWord_24)
      refine lv_iload hx hb dX6_readWord_24 (lv_at hl 6 rfl) ?_
      refine lv_aload_n hx hb dX6_readWord_26 rfl (lv_at hl 1 rfl) ?_
      refine tk_ViT hC hK hw hA hE hSR (s_length l adK adV dC dI cy 5 (by decide) H.size) (cwV 0 hC.2.2.2.2 uV_RX6_56 rfl rfl rfl (by decide +kernel) ⟨Nat.le_of_ble_eq_true rfl, Nat.le_of_ble_eq_true rfl⟩) 5 (by decide) rfl rfl rfl hl.1 rfl (Nat.le_of_ble_eq_true rfl) dX6_readWord_27 (fun r74 H locs hp75 hw => ?_)
      obtain ⟨-, hp75⟩ := hp75
      obtain rfl : r74 = 53 := hp75
      replace hM := hM.lt (v := 53) (by decide)
      refine lv_icmp_ge (tgt := 120) hx hb dX6_readWord_30 (by decide) (fun c76 => ?_) (fun c76 => ?_)
      · have c76 : (53 : Int) ≤ v24_6.toInt := wk_le.mp c76
        replace hM := hM.pos c76
        refine lv_aload_n hx hb dX6_readWord_120 rfl (lv_at hl 0 rfl) ?_
        refine lv_aload_n hx hb dX6_readWord_121 rfl (lv_at hl 0 rfl) ?_
        refine tk_geti hC hK hw hT hinX6 kC_at1 (by decide) rfl 3 (by decide) (List.mem_cons_of_mem _ uw_9_17) rfl rfl dX6_readWord_122 (fun x77 c78 rx77 tx77 => ?_)
        replace hM := hM.rd (sI_at c78)
        refine lv_iconst (v := 0) hx hb dX6_readWord_125 (by decide) ?_
        refine tk_Vv hC hK hw hT hA hE hSR kC_at1 (by decide) rfl (kz_X6_blame_2 l adK adV dC dI cy ad B (by omega) (by omega) qr s1   x77 (show 0 ≤ x77.toInt from rx77) (show x77.toInt ≤ 400 from tx77) 0 (by decide) (by decide) w1 H.size hT c15) (cwV 2 hC.2.2.2.2 uV_RX6_35 rfl rfl rfl (by decide +kernel) ⟨Nat.le_of_ble_eq_true rfl, Nat.le_of_ble_eq_true rfl⟩) rfl hl.1 rfl (Nat.le_of_ble_eq_true rfl) dX6_readWord_126 (fun w81 H locs hp80 hw => ?_)
        obtain ⟨hT, k82, hv86, hg85⟩ := hp80
        try simp only [show (0 : Int32).toInt = 0 by decide] at hv86
        have hF := hF.tr k82 (by decide)
        have c87 := k82.gi kC_at1 (by decide) c14
        have c88 := k82.gi kC_at1 (by decide) c78
        obtain ⟨x83, c84, rx83, tx83⟩ := hg85
        replace hM := hM.call hv86 rfl
        refine lv_iconst (v := (-1)) hx hb dX6_readWord_129 (by decide) ?_
        exact tk_iret hC hr hlocks hK ⟨hT, hF, hM.ret (by decide), (Or.inr ⟨rfl, ⟨x83, c84, (show 1 ≤ x83.toInt by omega), (show x83.toInt ≤ 3205 by omega)⟩⟩)⟩ hw dX6_readWord_130
      · have c76 : v24_6.toInt < (53 : Int) := wk_leF c76
        replace hM := hM.neg (Int.not_le.mpr c76)
        refine lv_aload_n hx hb dX6_readWord_33 rfl (lv_at hl 1 rfl) ?_
        refine lv_iload hx hb dX6_readWord_34 (lv_at hl 6 rfl) ?_
        refine tk_ViT hC hK hw hA hE hSR (s_charAt l adK adV dC dI cy 5 (by decide) v24_6 (show 0 ≤ v24_6.toInt from r10) (show v24_6.toInt < 53 by omega) H.size) (cwV 1 hC.2.2.2.2 uV_RX6_60 rfl rfl rfl (by decide +kernel) ⟨Nat.le_of_ble_eq_true rfl, Nat.le_of_ble_eq_true rfl⟩) 5 (by decide) rfl rfl rfl hl.1 rfl (Nat.le_of_ble_eq_true rfl) dX6_readWord_36 (fun r89 H locs hp90 hw => ?_)
        obtain ⟨-, hp90⟩ := hp90
        replace hM := hM.lt (chS_e hp90 rfl)
        refine lv_istore (lv' := [(7, .int r89), (0, .ref (ad 1)), (1, .ref (adK 5)), (2, .int v24_2), (3, .int v24_3), (4, .int v24_4), (5, .int v24_5), (6, .int v24_6)]) hx hb dX6_readWord_39 hl (by decide) rfl (fun ls hl => ?_)
        refine lv_iload hx hb dX6_readWord_41 (lv_at hl 0 rfl) ?_
        refine lv_bipush (v := 32) hx hb dX6_readWord_43 (by decide) ?_
        refine lv_icmp_eq (tgt := 84) hx hb dX6_readWord_45 (by decide) (fun c91 => ?_) (fun c91 => ?_)
        · have c91 : r89.toInt = (32 : Int) := wk_eq.mp c91
          replace hM := hM.pos c91
          refine lv_iload hx hb dX6_readWord_84 (lv_at hl 6 rfl) ?_
          refine lv_if_eq (tgt := 102) hx hb dX6_readWord_86 (by decide) (fun c92 => ?_) (fun c92 => ?_)
          · have c92 : v24_5.toInt = (0 : Int) := wk_eq.mp c92
            replace hM := hM.pos c92
            obtain rfl : r89 = 32 := wk_eq.mpr (show r89.toInt = 32 by omega)
            try simp only [show (32 : Int32).toInt = 32 by decide] at hM
            exact J102  H locs ls w1 (show 0 ≤ v24_2.toInt from r2) (show v24_2.toInt ≤ 400 from t3) (show 0 ≤ v24_3.toInt from r4) (show v24_3.toInt ≤ 53 from t5) (show 0 ≤ v24_4.toInt from r6) (show v24_4.toInt ≤ 453 from t7) (show 0 ≤ v24_5.toInt from r8) (show v24_5.toInt ≤ 1 from t9) (show 0 ≤ v24_6.toInt from r10) (show v24_6.toInt ≤ 52 by omega) (show 0 ≤ f24_1_1.toInt from r12) (show f24_1_1.toInt ≤ 400 from t13) (show v24_4.toInt ≤ v24_6.toInt + 401 by omega) (show v24_3.toInt ≤ v24_6.toInt + 1 by omega)  hw hT hF c14 c15 hM (lv_sub hl [1, 2, 3, 4, 5, 6, 7, 0] rfl)
          · have c92 : ¬ v24_5.toInt = (0 : Int) := wk_eqF c92
            replace hM := hM.neg c92
            refine lv_iload hx hb dX6_readWord_89 (lv_at hl 5 rfl) ?_
            refine lv_iload_n hx hb dX6_readWord_91 rfl (lv_at hl 3 rfl) ?_
            refine lv_icmp_ne (tgt := 102) hx hb dX6_readWord_92 (by decide) (fun c93 => ?_) (fun c93 => ?_)
            · have c93 : ¬ v24_4.toInt = v24_2.toInt := wk_eqF c93
              replace hM := hM.pos c93
              obtain rfl : r89 = 32 := wk_eq.mpr (show r89.toInt = 32 by omega)
              try simp only [show (32 : Int32).toInt = 32 by decide] at hM
              exact J102  H locs ls w1 (show 0 ≤ v24_2.toInt from r2) (show v24_2.toInt ≤ 400 from t3) (show 0 ≤ v24_3.toInt from r4) (show v24_3.toInt ≤ 53 from t5) (show 0 ≤ v24_4.toInt from r6) (show v24_4.toInt ≤ 453 from t7) (show 0 ≤ v24_5.toInt from r8) (show v24_5.toInt ≤ 1 from t9) (show 0 ≤ v24_6.toInt from r10) (show v24_6.toInt ≤ 52 by omega) (show 0 ≤ f24_1_1.toInt from r12) (show f24_1_1.toInt ≤ 400 from t13) (show v24_4.toInt ≤ v24_6.toInt + 401 by omega) (show v24_3.toInt ≤ v24_6.toInt + 1 by omega)  hw hT hF c14 c15 hM (lv_sub hl [1, 2, 3, 4, 5, 6, 7, 0] rfl)
            · have c93 : v24_4.toInt = v24_2.toInt := wk_eq.mp c93
              replace hM := hM.neg (fun q => q c93)
              refine lv_aload_n hx hb dX6_readWord_95 rfl (lv_at hl 1 rfl) ?_
              refine lv_iload_n hx hb dX6_readWord_96 rfl (lv_at hl 3 rfl) ?_
              refine tk_puti hC hK hw hT hinX6 tyX6_ok nmX6 kC_at1 (by decide) rfl rfl 1 (by decide) (List.mem_cons_of_mem _ uw_9_16) rfl rfl rfl rfl (show 0 ≤ v24_2.toInt from r2) (show v24_2.toInt ≤ 400 from t3) dX6_readWord_97 (fun H locs w94 hw hT k96 c95 => ?_)
              replace hM := hM.wr (sI_up k96 c95)
              have hF := hF.put kC_at1 (k := 1) (by decide) k96
              have c97 := k96.gi (Or.inr (by decide)) c15
              refine lv_iload_n hx hb dX6_readWord_100 rfl (lv_at hl 4 rfl) ?_
              exact tk_iret hC hr hlocks hK ⟨hT, hF, hM.ret rfl, (Or.inl ⟨(show 0 ≤ v24_3.toInt from r4), (show v24_3.toInt ≤ 53 from t5), ⟨0, c97, (by decide), (by decide)⟩⟩)⟩ hw dX6_readWord_101
        · have c91 : ¬ r89.toInt = (32 : Int) := wk_eqF c91
          replace hM := hM.neg c91
          refine lv_iload hx hb dX6_readWord_48 (lv_at hl 6 rfl) ?_
          refine lv_if_eq (tgt := 75) hx hb dX6_readWord_50 (by decide) (fun c98 => ?_) (fun c98 => ?_)
          · have c98 : v24_5.toInt = (0 : Int) := wk_eq.mp c98
            replace hM := hM.pos c98
            exact J75 r89 H locs ls w1 (show 0 ≤ v24_2.toInt from r2) (show v24_2.toInt ≤ 400 from t3) (show 0 ≤ v24_3.toInt from r4) (show v24_3.toInt ≤ 53 from t5) (show 0 ≤ v24_4.toInt from r6) (show v24_4.toInt ≤ 453 from t7) (show 0 ≤ v24_5.toInt from r8) (show v24_5.toInt ≤ 1 from t9) (show 0 ≤ v24_6.toInt from r10) (show v24_6.toInt ≤ 52 by omega) (show 0 ≤ f24_1_1.toInt from r12) (show f24_1_1.toInt ≤ 400 from t13) (show v24_4.toInt ≤ v24_6.toInt + 401 by omega) (show v24_3.toInt ≤ v24_6.toInt + 1 by omega)  hw hT hF c14 c15 hM (lv_sub hl [1, 2, 3, 4, 5, 6, 7, 0] rfl)
          · have c98 : ¬ v24_5.toInt = (0 : Int) := wk_eqF c98
            replace hM := hM.neg c98
            refine lv_iload hx hb dX6_readWord_53 (lv_at hl 5 rfl) ?_
            refine lv_iload_n hx hb dX6_readWord_55 rfl (lv_at hl 3 rfl) ?_
            refine lv_icmp_ge (tgt := 75) hx hb dX6_readWord_56 (by decide) (fun c99 => ?_) (fun c99 => ?_)
            · have c99 : v24_2.toInt ≤ v24_4.toInt := wk_le.mp c99
              replace hM := hM.pos c99
              exact J75 r89 H locs ls w1 (show 0 ≤ v24_2.toInt from r2) (show v24_2.toInt ≤ 400 from t3) (show 0 ≤ v24_3.toInt from r4) (show v24_3.toInt ≤ 53 from t5) (show 0 ≤ v24_4.toInt from r6) (show v24_4.toInt ≤ 453 from t7) (show 0 ≤ v24_5.toInt from r8) (show v24_5.toInt ≤ 1 from t9) (show 0 ≤ v24_6.toInt from r10) (show v24_6.toInt ≤ 52 by omega) (show 0 ≤ f24_1_1.toInt from r12) (show f24_1_1.toInt ≤ 400 from t13) (show v24_4.toInt ≤ v24_6.toInt + 401 by omega) (show v24_3.toInt ≤ v24_6.toInt + 1 by omega)  hw hT hF c14 c15 hM (lv_sub hl [1, 2, 3, 4, 5, 6, 7, 0] rfl)
            · have c99 : v24_4.toInt < v24_2.toInt := wk_leF c99
              replace hM := hM.neg (Int.not_le.mpr c99)
              refine lv_aload_n hx hb dX6_readWord_59 rfl (lv_at hl 1 rfl) ?_
              refine tk_getA hC hK hw hT hinX6 kC_at1 (by decide) rfl 0 (by decide) (List.mem_cons_of_mem _ uw_2_12) rfl rfl dX6_readWord_60 ?_
              refine lv_iload hx hb dX6_readWord_63 (lv_at hl 5 rfl) ?_
              refine tk_iald hC hK hw hT kC_at2 rfl rfl (show 0 ≤ v24_4.toInt from r6) (show v24_4.toInt < 400 by omega) dX6_readWord_65 (fun x100 c101 rx100 tx100 => ?_)
              have hox100 := c101
              replace hM := hM.rd (sI_at hox100)
              refine lv_iload hx hb dX6_readWord_66 (lv_at hl 0 rfl) ?_
              refine lv_icmp_ne (tgt := 75) hx hb dX6_readWord_68 (by decide) (fun c102 => ?_) (fun c102 => ?_)
              · have c102 : ¬ x100.toInt = r89.toInt := wk_eqF c102
                replace hM := hM.pos c102
                exact J75 r89 H locs ls w1 (show 0 ≤ v24_2.toInt from r2) (show v24_2.toInt ≤ 400 from t3) (show 0 ≤ v24_3.toInt from r4) (show v24_3.toInt ≤ 53 from t5) (show 0 ≤ v24_4.toInt from r6) (show v24_4.toInt ≤ 453 from t7) (show 0 ≤ v24_5.toInt from r8) (show v24_5.toInt ≤ 1 from t9) (show 0 ≤ v24_6.toInt from r10) (show v24_6.toInt ≤ 52 by omega) (show 0 ≤ f24_1_1.toInt from r12) (show f24_1_1.toInt ≤ 400 from t13) (show v24_4.toInt ≤ v24_6.toInt + 401 by omega) (show v24_3.toInt ≤ v24_6.toInt + 1 by omega)  hw hT hF c14 c15 hM (lv_sub hl [1, 2, 3, 4, 5, 6, 7, 0] rfl)
              · have c102 : x100.toInt = r89.toInt := wk_eq.mp c102
                replace hM := hM.neg (fun q => q c102)
                refine lv_iconst (v := 1) hx hb dX6_readWord_71 (by decide) ?_
                refine lv_goto (tgt := 76) hx hb dX6_readWord_72 (by decide) ?_
                refine lv_istore (lv' := [(5, .int 1), (7, .int r89), (0, .ref (ad 1)), (1, .ref (adK 5)), (2, .int v24_2), (3, .int v24_3), (4, .int v24_4), (6, .int v24_6)]) hx hb dX6_readWord_76 hl (by decide) rfl (fun ls hl => ?_)
                obtain ⟨x103, ex103⟩ : ∃ y : Int32, y = v24_4 + Int32.ofInt 1 := ⟨_, rfl⟩
                have erx103 := ex103
                refine lv_iinc (v := x103) (lv' := [(4, .int x103), (5, .int 1), (7, .int r89), (0, .ref (ad 1)), (1, .ref (adK 5)), (2, .int v24_2), (3, .int v24_3), (6, .int v24_6)]) hx hb dX6_readWord_78 hl (k := 6) rfl ex103.symm (by decide) rfl (fun ls hl => ?_)
                have ex103 : x103.toInt = v24_4.toInt + 1 := by rw [ex103]; exact wk_add (y := 1) (show -2147483648 ≤ v24_4.toInt + 1 by omega) (show v24_4.toInt + 1 ≤ 2147483647 by omega)
                replace hM := hM.lt ex103.symm
                refine lv_goto (tgt := 114) hx hb dX6_readWord_81 (by decide) ?_
                exact J114 v24_3 x103 1 r89 H locs ls w1 (show 0 ≤ v24_2.toInt from r2) (show v24_2.toInt ≤ 400 from t3) (show 0 ≤ v24_3.toInt from r4) (show v24_3.toInt ≤ 53 from t5) (show 0 ≤ x103.toInt by omega) (show x103.toInt ≤ 453 by omega) (by decide) (by decide) (show 0 ≤ v24_6.toInt from r10) (show v24_6.toInt ≤ 52 by omega) (show 0 ≤ f24_1_1.toInt from r12) (show f24_1_1.toInt ≤ 400 from t13) (show x103.toInt ≤ v24_6.toInt + 401 by omega) (show v24_3.toInt ≤ v24_6.toInt + 1 by omega)  hw hT hF c14 c15 hM (lv_sub hl [3, 4, 5, 6, 0, 1, 7, 2] rfl)
  have hM : TT (fun n => m_X6_readWord n 1 5 (sI w0)) (fun n => m_X6_readWord n 1 5 (sI w0)) := TT.rf
  refine lv_aload_n hx hb dX6_readWord_0 rfl (lv_at hl 0 rfl) ?_
  refine tk_Vi hC hK hw hT hA hE hSR kC_at1 (by decide) rfl (kz_X6_lookBehindBlanks_1 l adK adV dC dI cy ad B (by omega) (by omega) qr s1    w0 s.heap.size hT ) (cwV 0 hC.2.2.2.2 uV_RX6_28 rfl rfl rfl (by decide +kernel) ⟨Nat.le_of_ble_eq_true rfl, Nat.le_of_ble_eq_true rfl⟩) rfl hl.1 rfl (Nat.le_of_ble_eq_true rfl) dX6_readWord_1 (fun r104 w106 H locs hp105 hw => ?_)
  obtain ⟨hT, k107, hv117, hg116⟩ := hp105
  have hF := hF.tr k107 (by decide)
  have c118 := k107.gi kC_at1 (by decide) cf0_
  rcases hg116 with ⟨g108, g109, ⟨x110, c111, rx110, tx110⟩, ⟨x112, c113, rx112, tx112⟩, ⟨x114, c115, rx114, tx114⟩⟩ | rfl
  · replace hM := hM.call hv117 rfl
    refine lv_pop hx hb dX6_readWord_4 rfl ?_
    refine lv_aload_n hx hb dX6_readWord_5 rfl (lv_at hl 0 rfl) ?_
    refine tk_Vi hC hK hw hT hA hE hSR kC_at1 (by decide) rfl (kz_X6_endOfWord_1 l adK adV dC dI cy ad B (by omega) (by omega) qr s1    w106 H.size hT ) (cwV 0 hC.2.2.2.2 uV_RX6_53 rfl rfl rfl (by decide +kernel) ⟨Nat.le_of_ble_eq_true rfl, Nat.le_of_ble_eq_true rfl⟩) rfl hl.1 rfl (Nat.le_of_ble_eq_true rfl) dX6_readWord_6 (fun r119 w121 H locs hp120 hw => ?_)
    obtain ⟨hT, k122, hv126, hg125⟩ := hp120
    have hF := hF.tr k122 (by decide)
    have c127 := k122.gi kC_at1 (by decide) c118
    have c128 := k122.gi kC_at1 (by decide) c111
    have c129 := k122.gi kC_at1 (by decide) c113
    have c130 := k122.gi kC_at1 (by decide) c115
    obtain ⟨g123, g124⟩ := hg125
    replace hM := hM.call hv126 rfl
    refine lv_istore_n (lv' := [(2, .int r119), (0, .ref (ad 1)), (1, .ref (adK 5))]) hx hb dX6_readWord_9 rfl hl (by decide) rfl (fun ls hl => ?_)
    refine lv_iconst (v := 0) hx hb dX6_readWord_10 (by decide) ?_
    refine lv_istore_n (lv' := [(3, .int 0), (2, .int r119), (0, .ref (ad 1)), (1, .ref (adK 5))]) hx hb dX6_readWord_11 rfl hl (by decide) rfl (fun ls hl => ?_)
    refine lv_aload_n hx hb dX6_readWord_12 rfl (lv_at hl 2 rfl) ?_
    refine tk_geti hC hK hw hT hinX6 kC_at1 (by decide) rfl 1 (by decide) (List.mem_cons_of_mem _ uw_9_16) rfl rfl dX6_readWord_13 (fun x131 c132 rx131 tx131 => ?_)
    refine wk_top x110 (c132.symm.trans c128) ?_
    replace hM := hM.rd (sI_at c128)
    refine lv_istore (lv' := [(4, .int x110), (3, .int 0), (2, .int r119), (0, .ref (ad 1)), (1, .ref (adK 5))]) hx hb dX6_readWord_16 hl (by decide) rfl (fun ls hl => ?_)
    refine lv_iconst (v := 1) hx hb dX6_readWord_18 (by decide) ?_
    refine lv_istore (lv' := [(5, .int 1), (4, .int x110), (3, .int 0), (2, .int r119), (0, .ref (ad 1)), (1, .ref (adK 5))]) hx hb dX6_readWord_19 hl (by decide) rfl (fun ls hl => ?_)
    refine lv_iconst (v := 0) hx hb dX6_readWord_21 (by decide) ?_
    refine lv_istore (lv' := [(6, .int 0), (5, .int 1), (4, .int x110), (3, .int 0), (2, .int r119), (0, .ref (ad 1)), (1, .ref (adK 5))]) hx hb dX6_readWord_22 hl (by decide) rfl (fun ls hl => ?_)
    exact L24 ((53 - (0 : Int)).toNat + 1) r119 0 x110 1 0 x110 H locs ls w121 (show 0 ≤ r119.toInt by omega) (show r119.toInt ≤ 400 by omega) (by decide) (by decide) (show 0 ≤ x110.toInt by omega) (show x110.toInt ≤ 453 by omega) (by decide) (by decide) (by decide) (by decide) (show 0 ≤ x110.toInt by omega) (show x110.toInt ≤ 400 by omega) (show x110.toInt ≤ (0 : Int) + 400 by omega) (show (0 : Int) ≤ (0 : Int) + 0 by omega) (Nat.lt_succ_self _) hw hT hF c128 c127 hM (lv_sub hl [5, 6, 4, 3, 2, 1, 0] rfl)
  · replace hM := hM.call (r' := (-1)) hv117 (by decide)
    refine lv_pop hx hb dX6_readWord_4 rfl ?_
    refine lv_aload_n hx hb dX6_readWord_5 rfl (lv_at hl 0 rfl) ?_
    refine tk_Vi hC hK hw hT hA hE hSR kC_at1 (by decide) rfl (kz_X6_endOfWord_1 l adK adV dC dI cy ad B (by omega) (by omega) qr s1    w106 H.size hT ) (cwV 0 hC.2.2.2.2 uV_RX6_53 rfl rfl rfl (by decide +kernel) ⟨Nat.le_of_ble_eq_true rfl, Nat.le_of_ble_eq_true rfl⟩) rfl hl.1 rfl (Nat.le_of_ble_eq_true rfl) dX6_readWord_6 (fun r133 w135 H locs hp134 hw => ?_)
    obtain ⟨hT, k136, hv140, hg139⟩ := hp134
    have hF := hF.tr k136 (by decide)
    have c141 := k136.gi kC_at1 (by decide) c118
    obtain ⟨g137, g138⟩ := hg139
    replace hM := hM.call hv140 rfl
    refine lv_istore_n (lv' := [(2, .int r133), (0, .ref (ad 1)), (1, .ref (adK 5))]) hx hb dX6_readWord_9 rfl hl (by decide) rfl (fun ls hl => ?_)
    refine lv_iconst (v := 0) hx hb dX6_readWord_10 (by decide) ?_
    refine lv_istore_n (lv' := [(3, .int 0), (2, .int r133), (0, .ref (ad 1)), (1, .ref (adK 5))]) hx hb dX6_readWord_11 rfl hl (by decide) rfl (fun ls hl => ?_)
    refine lv_aload_n hx hb dX6_readWord_12 rfl (lv_at hl 2 rfl) ?_
    refine tk_geti hC hK hw hT hinX6 kC_at1 (by decide) rfl 1 (by decide) (List.mem_cons_of_mem _ uw_9_16) rfl rfl dX6_readWord_13 (fun x142 c143 rx142 tx142 => ?_)
    replace hM := hM.rd (sI_at c143)
    refine lv_istore (lv' := [(4, .int x142), (3, .int 0), (2, .int r133), (0, .ref (ad 1)), (1, .ref (adK 5))]) hx hb dX6_readWord_16 hl (by decide) rfl (fun ls hl => ?_)
    refine lv_iconst (v := 1) hx hb dX6_readWord_18 (by decide) ?_
    refine lv_istore (lv' := [(5, .int 1), (4, .int x142), (3, .int 0), (2, .int r133), (0, .ref (ad 1)), (1, .ref (adK 5))]) hx hb dX6_readWord_19 hl (by decide) rfl (fun ls hl => ?_)
    refine lv_iconst (v := 0) hx hb dX6_readWord_21 (by decide) ?_
    refine lv_istore (lv' := [(6, .int 0), (5, .int 1), (4, .int x142), (3, .int 0), (2, .int r133), (0, .ref (ad 1)), (1, .ref (adK 5))]) hx hb dX6_readWord_22 hl (by decide) rfl (fun ls hl => ?_)
    exact L24 ((53 - (0 : Int)).toNat + 1) r133 0 x142 1 0 x142 H locs ls w135 (show 0 ≤ r133.toInt by omega) (show r133.toInt ≤ 400 by omega) (by decide) (by decide) (show 0 ≤ x142.toInt from rx142) (show x142.toInt ≤ 453 from Int.le_trans tx142 (by decide)) (by decide) (by decide) (by decide) (by decide) (show 0 ≤ x142.toInt from rx142) (show x142.toInt ≤ 400 from tx142) (show x142.toInt ≤ (0 : Int) + 400 by omega) (show (0 : Int) ≤ (0 : Int) + 0 by omega) (Nat.lt_succ_self _) hw hT hF c143 c141 hM (lv_sub hl [5, 6, 4, 3, 2, 1, 0] rfl)
