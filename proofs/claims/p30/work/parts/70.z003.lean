abbrev Pz_X6_readNumber_8 (ad : Nat → Nat) (cy : Nat → ClassId) (B : Int) (qr : Nat) (s1 : Int)  (w0 : va_W) : Int32 → va_W → Prop := fun r u => TW ksC ad cy B qr s1 u ∧ FE ksC ([] : List (Nat × Nat × Nat)) w0 u ∧ Ev (fun n => m_X6_readNumber n 1 0 359 (sI w0)) (r.toInt, sI u) ∧ ((r = (-1) ∧ (∃ y : Int32, gi u 1 4 = y ∧ 1 ≤ y.toInt ∧ y.toInt ≤ 3205)))
set_option maxHeartbeats 4000000 in
set_option maxRecDepth 100000 in
theorem kz_X6_readNumber_8 (l : Launch) (adK adV : Nat → Nat) (dC : Nat → ClassId) (dI : Nat → Nat → Nat) (cy : Nat → ClassId) (ad : Nat → Nat) (B : Int) (hB0 : 2147483648 ≤ B) (hB1 : B ≤ 1152921504606846976) (qr : Nat) (s1 : Int)   (w0 : va_W) (sz : Nat) (hT : TW ksC ad cy B qr s1 w0) (f0_ : Int32) (cf0_ : gi w0 1 4 = f0_) (rf0_ : 1 ≤ f0_.toInt) (tf0_ : f0_.toInt ≤ 3205) : Met l yX6_readNumber (wu yX6_readNumber cX6_readNumber 4 (some .int)) ({ frames := 2, cells := 0, slots := 0, locals := 32 }) (va_Pc [.ref (ad 1), .int 0, .int 359] (wpreS adK adV dC dI cy sz w0)) (va_Qi (Pz_X6_readNumber_8 ad cy B qr s1  w0) (fun u : va_W => wpost dC dI cy (va_A w0 sz) u) (va_A w0 sz)) 0 0 (va_A w0 sz) := by
  refine Met.ofW (cc := cX6_readNumber) (maxL := 4) (ret := (some .int)) (by decide) rfl ?_
  intro p e s m args below meth c s₁ Bk hml hv
  obtain ⟨rfl, ⟨hsz, hP, hK, hD0⟩, hE, hSR⟩ := hv
  have hx := Bk.exec
  have hb := Bk.bytes
  have hr := Bk.returns
  have hlocks := Bk.notSynchronized
  have hC : CallFix p m c cX6_readNumber 4 s _ (wu yX6_readNumber cX6_readNumber 4 (some .int)) RX6 := ⟨hx, hb, hml, findClass_of_methodNamed Bk.named, atoms_spec (ws := (wu yX6_readNumber cX6_readNumber 4 (some .int))) Bk.pre⟩
  subst hsz
  have hD := hD0.self (sz := s.heap.size)
  generalize hAe : va_A w0 s.heap.size = A at hD hE ⊢
  have hA : ∀ q : Nat, s.heap.size ≤ q → A q := fun q h => by rw [← hAe]; exact Or.inr h
  have hw : Wd dC dI A s.heap s.heap [] w0 := ⟨hP, hD, va_S.rf⟩
  have hF : FE ksC ([] : List (Nat × Nat × Nat)) w0 w0 := FE.rf
  have hl := lv_entry ([.ref (ad 1), .int 0, .int 359]) (n := 4) (Nat.le_of_ble_eq_true rfl)
  rw [lg_entry_eq]
  generalize (lg_sl ([.ref (ad 1), .int 0, .int 359]) ++ List.replicate (4 - (lg_sl ([.ref (ad 1), .int 0, .int 359])).length) Slot.unset).toArray = ls at hl ⊢
  have hl : lv_has ls 4 [(0, .ref (ad 1)), (1, .int 0), (2, .int 359)] := hl
  generalize hloc : ([] : List Loc) = locs at hw ⊢
  have hM : TT (fun n => m_X6_readNumber n 1 0 359 (sI w0)) (fun n => m_X6_readNumber n 1 0 359 (sI w0)) := TT.rf
  refine lv_aload_n hx hb dX6_readNumber_0 rfl (lv_at hl 0 rfl) ?_
  refine tk_Vi hC hK hw hT hA hE hSR kC_at1 (by decide) rfl (kz_X6_isFaulty_3 l adK adV dC dI cy ad B hB0 (Int.le_trans hB1 (by decide)) qr s1    w0 s.heap.size hT f0_ cf0_ (show 1 ≤ f0_.toInt from rf0_) (show f0_.toInt ≤ 3205 from tf0_)) (cwV 0 hC.2.2.2.2 uV_RX6_39 rfl rfl rfl (by decide +kernel) ⟨Nat.le_of_ble_eq_true rfl, Nat.le_of_ble_eq_true rfl⟩) rfl hl.1 rfl (Nat.le_of_ble_eq_true rfl) dX6_readNumber_1 (fun r1 w3 H locs hp2 hw => ?_)
  obtain ⟨hT, k4, hv8, hg7⟩ := hp2
  have hF := hF.tr k4 (by decide)
  have c9 := k4.gi kC_at1 (by decide) cf0_
  obtain ⟨rfl, ⟨x5, c6, rx5, tx5⟩⟩ := hg7
  replace hM := hM.call (r' := 1) hv8 (by decide)
  have ex5 : x5.toInt = f0_.toInt := by rw [← c9.symm.trans c6]
  refine lv_if_eq (tgt := 9) hx hb dX6_readNumber_4 (by decide) (fun c => absurd c (by decide)) (fun _ => ?_)
  replace hM := hM.neg (by decide)
  refine lv_iconst (v := (-1)) hx hb dX6_readNumber_7 (by decide) ?_
  exact tk_iret hC hr hlocks hK ⟨hT, hF, hM.ret (by decide), ⟨rfl, ⟨f0_, c9, (show 1 ≤ f0_.toInt from rf0_), (show f0_.toInt ≤ 3205 from tf0_)⟩⟩⟩ hw dX6_readNumber_8
abbrev Pz_X7_readSaint_1 (ad : Nat → Nat) (cy : Nat → ClassId) (B : Int) (qr : Nat) (s1 : Int)  (w0 : va_W) : va_W → Prop := fun u => TW ksC ad cy B qr s1 u ∧ FE ksC [(6, 1, 1), (6, 3, 3), (6, 4, 4), (7, 10, 10), (29, 0, 8), (30, 0, 8)] w0 u ∧ Ev (fun n => m_X7_readSaint n 29 1 (sI w0)) (0, sI u) ∧ (((∃ y : Int32, gi u 1 4 = y ∧ 1 ≤ y.toInt ∧ y.toInt ≤ 3205) ∧ (∃ y : Int32, gi u 29 10 = y ∧ 0 ≤ y.toInt ∧ y.toInt ≤ 7)) ∨ ((∃ y : Int32, gi u 1 2 = y ∧ 1 ≤ y.toInt ∧ y.toInt ≤ 400) ∧ (∃ y : Int32, gi u 1 3 = y ∧ 0 ≤ y.toInt ∧ y.toInt ≤ 399) ∧ (∃ y : Int32, gi u 1 4 = y ∧ 0 ≤ y.toInt ∧ y.toInt ≤ 0) ∧ (∃ y : Int32, gi u 29 8 = y ∧ 1 ≤ y.toInt ∧ y.toInt ≤ 10) ∧ (∃ y : Int32, gi u 29 10 = y ∧ 1 ≤ y.toInt ∧ y.toInt ≤ 8)))
set_option maxHeartbeats 4000000 in
set_option maxRecDepth 100000 in
theorem kz_X7_readSaint_1 (l : Launch) (adK adV : Nat → Nat) (dC : Nat → ClassId) (dI : Nat → Nat → Nat) (cy : Nat → ClassId) (ad : Nat → Nat) (B : Int) (hB0 : 2147483648 ≤ B) (hB1 : B ≤ 1152921504606846976) (qr : Nat) (s1 : Int)   (w0 : va_W) (sz : Nat) (hT : TW ksC ad cy B qr s1 w0) (cf0_ : gi w0 1 4 = 0) (f1_ : Int32) (cf1_ : gi w0 29 10 = f1_) (rf1_ : 0 ≤ f1_.toInt) (tf1_ : f1_.toInt ≤ 7) : Met l yX7_readSaint (wu yX7_readSaint cX7_readSaint 4 none) ({ frames := 3, cells := 0, slots := 0, locals := 57 }) (va_Pc [.ref (ad 29), .ref (ad 1)] (wpreS adK adV dC dI cy sz w0)) (va_Qv (Pz_X7_readSaint_1 ad cy B qr s1  w0) (fun u : va_W => wpost dC dI cy (va_A w0 sz) u) (va_A w0 sz)) 0 0 (va_A w0 sz) := by
  refine Met.ofW (cc := cX7_readSaint) (maxL := 4) (ret := none) (by decide) rfl ?_
  intro p e s m args below meth c s₁ Bk hml hv
  obtain ⟨rfl, ⟨hsz, hP, hK, hD0⟩, hE, hSR⟩ := hv
  have hx := Bk.exec
  have hb := Bk.bytes
  have hr := Bk.returns
  have hlocks := Bk.notSynchronized
  have hC : CallFix p m c cX7_readSaint 4 s _ (wu yX7_readSaint cX7_readSaint 4 none) RX7 := ⟨hx, hb, hml, findClass_of_methodNamed Bk.named, atoms_spec (ws := (wu yX7_readSaint cX7_readSaint 4 none)) Bk.pre⟩
  subst hsz
  have hD := hD0.self (sz := s.heap.size)
  generalize hAe : va_A w0 s.heap.size = A at hD hE ⊢
  have hA : ∀ q : Nat, s.heap.size ≤ q → A q := fun q h => by rw [← hAe]; exact Or.inr h
  have hw : Wd dC dI A s.heap s.heap [] w0 := ⟨hP, hD, va_S.rf⟩
  have hF : FE ksC [(6, 1, 1), (6, 3, 3), (6, 4, 4), (7, 10, 10), (29, 0, 8), (30, 0, 8)] w0 w0 := FE.rf
  have hl := lv_entry ([.ref (ad 29), .ref (ad 1)]) (n := 4) (Nat.le_of_ble_eq_true rfl)
  rw [lg_entry_eq]
  generalize (lg_sl ([.ref (ad 29), .ref (ad 1)]) ++ List.replicate (4 - (lg_sl ([.ref (ad 29), .ref (ad 1)])).length) Slot.unset).toArray = ls at hl ⊢
  have hl : lv_has ls 4 [(0, .ref (ad 29)), (1, .ref (ad 1))] := hl
  generalize hloc : ([] : List Loc) = locs at hw ⊢
  have hinX7 : ∀ w ∈ u_ws RX7 TX7 12, w ∈ (wu yX7_readSaint cX7_readSaint 4 none) := fun _ h => List.mem_cons_of_mem _ (up_73 h)
  have hM : TT (fun n => m_X7_readSaint n 29 1 (sI w0)) (fun n => m_X7_readSaint n 29 1 (sI w0)) := TT.rf
  refine lv_aload_n hx hb dX7_readSaint_0 rfl (lv_at hl 1 rfl) ?_
  refine lv_iconst (v := 0) hx hb dX7_readSaint_1 (by decide) ?_
  refine lv_aload_n hx hb dX7_readSaint_2 rfl (lv_at hl 0 rfl) ?_
  refine tk_geti hC hK hw hT hinX7 kC_at29 (by decide) rfl 8 (by decide) (List.mem_cons_of_mem _ uw_9_7) rfl rfl dX7_readSaint_3 (fun x1 c2 rx1 tx1 => ?_)
  replace hM := hM.rd (sI_at c2)
  refine lv_iconst (v := 1) hx hb dX7_readSaint_6 (by decide) ?_
  refine lv_isub hx hb dX7_readSaint_7 ?_
  refine lv_topi (fun x3 ex3 => ?_)
  have ezx3 := ex3
  have ex3 : x3.toInt = x1.toInt - (1 : Int) := by rw [ex3]; exact wk_sub (show (-2147483648) ≤ x1.toInt - (1 : Int) by omega) (show x1.toInt - (1 : Int) ≤ 2147483647 by omega)
  replace hM := hM.lt ex3.symm
  refine tk_Vi hC hK hw hT hA hE hSR kC_at1 (by decide) rfl (kz_X6_readNumber_2 l adK adV dC dI cy ad B hB0 (Int.le_trans hB1 (by decide)) qr s1   x3 (show (-2) ≤ x3.toInt by first | with_reducible assumption | omega) (show x3.toInt ≤ 9 by first | with_reducible assumption | omega) w0 s.heap.size hT cf0_) (cwV 2 hC.2.2.2.2 uV_RX7_92 rfl rfl rfl (by decide +kernel) ⟨Nat.le_of_ble_eq_true rfl, Nat.le_of_ble_eq_true rfl⟩) rfl hl.1 rfl (Nat.le_of_ble_eq_true rfl) dX7_readSaint_8 (fun r4 w6 H locs hp5 hw => ?_)
  obtain ⟨hT, k7, hv20, hg19⟩ := hp5
  have hF := hF.tr k7 (by decide)
  have c21 := k7.gi kC_at29 (by decide) cf1_
  have c22 := k7.gi kC_at29 (by decide) c2
  rcases hg19 with ⟨g8, g9, g10, ⟨x11, c12, rx11, tx11⟩, ⟨x13, c14, rx13, tx13⟩, ⟨x15, c16, rx15, tx15⟩⟩ | ⟨rfl, ⟨x17, c18, rx17, tx17⟩⟩
  · replace hM := hM.call hv20 rfl
    refine lv_istore_n (lv' := [(2, .int r4), (0, .ref (ad 29)), (1, .ref (ad 1))]) hx hb dX7_readSaint_11 rfl hl (by decide) rfl (fun ls hl => ?_)
    refine lv_aload_n hx hb dX7_readSaint_12 rfl (lv_at hl 2 rfl) ?_
    refine lv_iconst (v := 0) hx hb dX7_readSaint_13 (by decide) ?_
    refine lv_sipush (v := 359) hx hb dX7_readSaint_14 (by decide) ?_
    refine tk_Vi hC hK hw hT hA hE hSR kC_at1 (by decide) rfl (kz_X6_readNumber_7 l adK adV dC dI cy ad B hB0 (Int.le_trans hB1 (by decide)) qr s1    w6 H.size hT (c16.trans (wk_eq.mpr (show x15.toInt = 0 by first | exact Int.le_antisymm (by omega) (by omega) | omega)))) (cwV 2 hC.2.2.2.2 uV_RX7_92 rfl rfl rfl (by decide +kernel) ⟨Nat.le_of_ble_eq_true rfl, Nat.le_of_ble_eq_true rfl⟩) rfl hl.1 rfl (Nat.le_of_ble_eq_true rfl) dX7_readSaint_17 (fun r23 w25 H locs hp24 hw => ?_)
    obtain ⟨hT, k26, hv38, hg37⟩ := hp24
    have hF := hF.tr k26 (by decide)
    have c39 := k26.gi kC_at29 (by decide) c21
    have c40 := k26.gi kC_at29 (by decide) c22
    have c41 := k26.gi kC_at1 (by decide) c12
    rcases hg37 with ⟨g27, g28, ⟨x29, c30, rx29, tx29⟩, ⟨x31, c32, rx31, tx31⟩, ⟨x33, c34, rx33, tx33⟩⟩ | ⟨rfl, ⟨x35, c36, rx35, tx35⟩⟩
    · replace hM := hM.call hv38 rfl
      have ex29 : x29.toInt = x11.toInt := by rw [← c41.symm.trans c30]
      refine lv_istore_n (lv' := [(3, .int r23), (2, .int r4), (0, .ref (ad 29)), (1, .ref (ad 1))]) hx hb dX7_readSaint_20 rfl hl (by decide) rfl (fun ls hl => ?_)
      refine lv_aload_n hx hb dX7_readSaint_21 rfl (lv_at hl 3 rfl) ?_
      refine tk_Vi hC hK hw hT hA hE hSR kC_at1 (by decide) rfl (kz_X6_isFaulty_2 l adK adV dC dI cy ad B hB0 (Int.le_trans hB1 (by decide)) qr s1    w25 H.size hT (c34.trans (wk_eq.mpr (show x33.toInt = 0 by first | exact Int.le_antisymm (by omega) (by omega) | omega)))) (cwV 0 hC.2.2.2.2 uV_RX7_89 rfl rfl rfl (by decide +kernel) ⟨Nat.le_of_ble_eq_true rfl, Nat.le_of_ble_eq_true rfl⟩) rfl hl.1 rfl (Nat.le_of_ble_eq_true rfl) dX7_readSaint_22 (fun r42 w44 H locs hp43 hw => ?_)
      obtain ⟨hT, k45, hv49, hg48⟩ := hp43
      have hF := hF.tr k45 (by decide)
      have c50 := k45.gi kC_at29 (by decide) c39
      have c51 := k45.gi kC_at29 (by decide) c40
      have c52 := k45.gi kC_at1 (by decide) c41
      have c53 := k45.gi kC_at1 (by decide) c32
      have c54 := k45.gi kC_at1 (by decide) c34
      obtain ⟨rfl, ⟨x46, c47, rx46, tx46⟩⟩ := hg48
      replace hM := hM.call (r' := 0) hv49 (by decide)
      have ex46 : x46.toInt = x33.toInt := by rw [← c54.symm.trans c47]
      refine lv_if_eq (tgt := 29) hx hb dX7_readSaint_25 (by decide) (fun _ => ?_) (fun c => absurd (by decide) c)
      replace hM := hM.pos (by decide)
      refine lv_aload_n hx hb dX7_readSaint_29 rfl (lv_at hl 2 rfl) ?_
      refine tk_getO hC hK hw hT hinX7 kC_at29 (by decide) rfl 5 (by decide) (List.mem_cons_of_mem _ uw_2_22) rfl rfl dX7_readSaint_30 ?_
      refine lv_aload_n hx hb dX7_readSaint_33 rfl (lv_at hl 2 rfl) ?_
      refine tk_geti hC hK hw hT hinX7 kC_at29 (by decide) rfl 10 (by decide) (List.mem_cons_of_mem _ uw_9_9) rfl rfl dX7_readSaint_34 (fun x55 c56 rx55 tx55 => ?_)
      refine wk_top f1_ (c56.symm.trans c50) ?_
      replace hM := hM.rd (sI_at c50)
      refine lv_iload_n hx hb dX7_readSaint_37 rfl (lv_at hl 1 rfl) ?_
      refine tk_iast hC hK hw hT kC_at35 (by decide) rfl rfl (show 0 ≤ f1_.toInt from rf1_) (show f1_.toInt < 8 from Int.lt_of_le_of_lt tf1_ (by decide)) (wk_i32 r4).1 (wk_i32 r4).2 dX7_readSaint_38 (fun H locs w57 hw hT k59 c58 => ?_)
      replace hM := hM.wr (sI_up k59 c58)
      have hF := hF.put kC_at35 (inE_of (a := 0) (b := 8) (by decide) (show 0 ≤ f1_.toInt.toNat by omega) (show f1_.toInt.toNat ≤ 8 by omega)) k59
      have c60 := k59.gi (Or.inl (tk_ne kC_at29 kC_at35 (by decide))) c50
      have c61 := k59.gi (Or.inl (tk_ne kC_at29 kC_at35 (by decide))) c51
      have c62 := k59.gi (Or.inl (tk_ne kC_at1 kC_at35 (by decide))) c52
      have c63 := k59.gi (Or.inl (tk_ne kC_at1 kC_at35 (by decide))) c53
      have c64 := k59.gi (Or.inl (tk_ne kC_at1 kC_at35 (by decide))) c54
      refine lv_aload_n hx hb dX7_readSaint_39 rfl (lv_at hl 2 rfl) ?_
      refine tk_getO hC hK hw hT hinX7 kC_at29 (by decide) rfl 6 (by decide) (List.mem_cons_of_mem _ uw_2_23) rfl rfl dX7_readSaint_40 ?_
      refine lv_aload_n hx hb dX7_readSaint_43 rfl (lv_at hl 2 rfl) ?_
      refine tk_geti hC hK hw hT hinX7 kC_at29 (by decide) rfl 10 (by decide) (List.mem_cons_of_mem _ uw_9_9) rfl rfl dX7_readSaint_44 (fun x65 c66 rx65 tx65 => ?_)
      refine wk_top f1_ (c66.symm.trans c60) ?_
      replace hM := hM.rd (sI_at c60)
      refine lv_iload_n hx hb dX7_readSaint_47 rfl (lv_at hl 0 rfl) ?_
      refine tk_iast hC hK hw hT kC_at36 (by decide) rfl rfl (show 0 ≤ f1_.toInt from rf1_) (show f1_.toInt < 8 from Int.lt_of_le_of_lt tf1_ (by decide)) (wk_i32 r23).1 (wk_i32 r23).2 dX7_readSaint_48 (fun H locs w67 hw hT k69 c68 => ?_)
      replace hM := hM.wr (sI_up k69 c68)
      have hF := hF.put kC_at36 (inE_of (a := 0) (b := 8) (by decide) (show 0 ≤ f1_.toInt.toNat by omega) (show f1_.toInt.toNat ≤ 8 by omega)) k69
      have c70 := k69.gi (Or.inl (tk_ne kC_at29 kC_at36 (by decide))) c60
      have c71 := k69.gi (Or.inl (tk_ne kC_at29 kC_at36 (by decide))) c61
      have c72 := k69.gi (Or.inl (tk_ne kC_at1 kC_at36 (by decide))) c62
      have c73 := k69.gi (Or.inl (tk_ne kC_at1 kC_at36 (by decide))) c63
      have c74 := k69.gi (Or.inl (tk_ne kC_at1 kC_at36 (by decide))) c64
      refine lv_aload_n hx hb dX7_readSaint_49 rfl (lv_at hl 2 rfl) ?_
      refine lv_dup hx hb dX7_readSaint_50 rfl ?_
      refine tk_geti hC hK hw hT hinX7 kC_at29 (by decide) rfl 10 (by decide) (List.mem_cons_of_mem _ uw_9_9) rfl rfl dX7_readSaint_51 (fun x75 c76 rx75 tx75 => ?_)
      refine wk_top f1_ (c76.symm.trans c70) ?_
      replace hM := hM.rd (sI_at c70)
      refine lv_iconst (v := 1) hx hb dX7_readSaint_54 (by decide) ?_
      refine lv_iadd hx hb dX7_readSaint_55 ?_
      refine lv_topi (fun x77 ex77 => ?_)
      have ezx77 := ex77
      have ex77 : x77.toInt = f1_.toInt + (1 : Int) := by rw [ex77]; exact wk_add (show (-2147483648) ≤ f1_.toInt + (1 : Int) by omega) (show f1_.toInt + (1 : Int) ≤ 2147483647 by omega)
      replace hM := hM.lt ex77.symm
      refine tk_puti hC hK hw hT hinX7 tyX7_ok nmX7 kC_at29 (by decide) rfl rfl 10 (by decide) (List.mem_cons_of_mem _ uw_9_9) rfl rfl rfl rfl (show 0 ≤ x77.toInt by first | with_reducible assumption | omega) (show x77.toInt ≤ 8 by first | with_reducible assumption | omega) dX7_readSaint_56 (fun H locs w78 hw hT k80 c79 => ?_)
      replace hM := hM.wr (sI_up k80 c79)
      have hF := hF.put kC_at29 (k := 10) (by decide) k80
      have c81 := k80.gi (Or.inr (by decide)) c71
      have c82 := k80.gi (Or.inr (by decide)) c72
      have c83 := k80.gi (Or.inr (by decide)) c73
      have c84 := k80.gi (Or.inr (by decide)) c74
      exact tk_vret hC hr hlocks hK ⟨hT, hF, hM.ret rfl, (Or.inr ⟨⟨x11, c82, (show 1 ≤ x11.toInt by first | with_reducible assumption | omega), (show x11.toInt ≤ 400 by first | with_reducible assumption | omega)⟩, ⟨x31, c83, (show 0 ≤ x31.toInt by first | with_reducible assumption | omega), (show x31.toInt ≤ 399 by first | with_reducible assumption | omega)⟩, ⟨x33, c84, (show 0 ≤ x33.toInt by first | with_reducible assumption | omega), (show x33.toInt ≤ 0 by first | with_reducible assumption | omega)⟩, ⟨x1, c81, (show 1 ≤ x1.toInt by first | with_reducible assumption | omega), (show x1.toInt ≤ 10 from tx1)⟩, ⟨x77, c79, (show 1 ≤ x77.toInt by first | with_reducible assumption | omega), (show x77.toInt ≤ 8 by first | with_reducible assumption | omega)⟩⟩)⟩ hw dX7_readSaint_59
    · replace hM := hM.call (r' := (-1)) hv38 (by decide)
      refine lv_istore_n (lv' := [(3, .int (-1)), (2, .int r4), (0, .ref (ad 29)), (1, .ref (ad 1))]) hx hb dX7_readSaint_20 rfl hl (by decide) rfl (fun ls hl => ?_)
      refine lv_aload_n hx hb dX7_readSaint_21 rfl (lv_at hl 3 rfl) ?_
      refine tk_Vi hC hK hw hT hA hE hSR kC_at1 (by decide) rfl (kz_X6_isFaulty_3 l adK adV dC dI cy ad B hB0 (Int.le_trans hB1 (by decide)) qr s1    w25 H.size hT x35 c36 (show 1 ≤ x35.toInt by first | with_reducible assumption | omega) (show x35.toInt ≤ 3205 by first | with_reducible assumption | omega)) (cwV 0 hC.2.2.2.2 uV_RX7_89 rfl rfl rfl (by decide +kernel) ⟨Nat.le_of_ble_eq_true rfl, Nat.le_of_ble_eq_true rfl⟩) rfl hl.1 rfl (Nat.le_of_ble_eq_true rfl) dX7_readSaint_22 (fun r85 w87 H locs hp86 hw => ?_)
      obtain ⟨hT, k88, hv92, hg91⟩ := hp86
      have hF := hF.tr k88 (by decide)
      have c93 := k88.gi kC_at29 (by decide) c39
      have c94 := k88.gi kC_at29 (by decide) c40
      have c95 := k88.gi kC_at1 (by decide) c41
      have c96 := k88.gi kC_at1 (by decide) c36
      obtain ⟨rfl, ⟨x89, c90, rx89, tx89⟩⟩ := hg91
      replace hM := hM.call (r' := 1) hv92 (by decide)
      have ex89 : x89.toInt = x35.toInt := by rw [← c96.symm.trans c90]
      refine lv_if_eq (tgt := 29) hx hb dX7_readSaint_25 (by decide) (fun c => absurd c (by decide)) (fun _ => ?_)
      replace hM := hM.neg (by decide)
      exact tk_vret hC hr hlocks hK ⟨hT, hF, hM.ret rfl, (Or.inl ⟨⟨x35, c96, (show 1 ≤ x35.toInt by first | with_reducible assumption | omega), (show x35.toInt ≤ 3205 by first | with_reducible assumption | omega)⟩, ⟨f1_, c93, (show 0 ≤ f1_.toInt from rf1_), (show f1_.toInt ≤ 7 from tf1_)⟩⟩)⟩ hw dX7_readSaint_28
  · replace hM := hM.call (r' := (-1)) hv20 (by decide)
    refine lv_istore_n (lv' := [(2, .int (-1)), (0, .ref (ad 29)), (1, .ref (ad 1))]) hx hb dX7_readSaint_11 rfl hl (by decide) rfl (fun ls hl => ?_)
    refine lv_aload_n hx hb dX7_readSaint_12 rfl (lv_at hl 2 rfl) ?_
    refine lv_iconst (v := 0) hx hb dX7_readSaint_13 (by decide) ?_
    refine lv_sipush (v := 359) hx hb dX7_readSaint_14 (by decide) ?_
    refine tk_Vi hC hK hw hT hA hE hSR kC_at1 (by decide) rfl (kz_X6_readNumber_8 l adK adV dC dI cy ad B hB0 (Int.le_trans hB1 (by decide)) qr s1    w6 H.size hT x17 c18 (show 1 ≤ x17.toInt by first | with_reducible assumption | omega) (show x17.toInt ≤ 3205 by first | with_reducible assumption | omega)) (cwV 2 hC.2.2.2.2 uV_RX7_92 rfl rfl rfl (by decide +kernel) ⟨Nat.le_of_ble_eq_true rfl, Nat.le_of_ble_eq_true rfl⟩) rfl hl.1 rfl (Nat.le_of_ble_eq_true rfl) dX7_readSaint_17 (fun r97 w99 H locs hp98 hw => ?_)
    obtain ⟨hT, k100, hv104, hg103⟩ := hp98
    have hF := hF.tr k100 (by decide)
    have c105 := k100.gi kC_at29 (by decide) c21
    have c106 := k100.gi kC_at29 (by decide) c22
    have c107 := k100.gi kC_at1 (by decide) c18
    obtain ⟨rfl, ⟨x101, c102, rx101, tx101⟩⟩ := hg103
    replace hM := hM.call (r' := (-1)) hv104 (by decide)
    have ex101 : x101.toInt = x17.toInt := by rw [← c107.symm.trans c102]
    refine lv_istore_n (lv' := [(3, .int (-1)), (2, .int (-1)), (0, .ref (ad 29)), (1, .ref (ad 1))]) hx hb dX7_readSaint_20 rfl hl (by decide) rfl (fun ls hl => ?_)
    refine lv_aload_n hx hb dX7_readSaint_21 rfl (lv_at hl 3 rfl) ?_
    refine tk_Vi hC hK hw hT hA hE hSR kC_at1 (by decide) rfl (kz_X6_isFaulty_3 l adK adV dC dI cy ad B hB0 (Int.le_trans hB1 (by decide)) qr s1    w99 H.size hT x17 c107 (show 1 ≤ x17.toInt by first | with_reducible assumption | omega) (show x17.toInt ≤ 3205 by first | with_reducible assumption | omega)) (cwV 0 hC.2.2.2.2 uV_RX7_89 rfl rfl rfl (by decide +kernel) ⟨Nat.le_of_ble_eq_true rfl, Nat.le_of_ble_eq_true rfl⟩) rfl hl.1 rfl (Nat.le_of_ble_eq_true rfl) dX7_readSaint_22 (fun r108 w110 H locs hp109 hw => ?_)
    obtain ⟨hT, k111, hv115, hg114⟩ := hp109
    have hF := hF.tr k111 (by decide)
    have c116 := k111.gi kC_at29 (by decide) c105
    have c117 := k111.gi kC_at29 (by decide) c106
    have c118 := k111.gi kC_at1 (by decide) c107
    obtain ⟨rfl, ⟨x112, c113, rx112, tx112⟩⟩ := hg114
    replace hM := hM.call (r' := 1) hv115 (by decide)
    have ex112 : x112.toInt = x17.toInt := by rw [← c118.symm.trans c113]
    refine lv_if_eq (tgt := 29) hx hb dX7_readSaint_25 (by decide) (fun c => absurd c (by decide)) (fun _ => ?_)
    replace hM := hM.neg (by decide)
    exact tk_vret hC hr hlocks hK ⟨hT, hF, hM.ret rfl, (Or.inl ⟨⟨x17, c118, (show 1 ≤ x17.toInt by first | with_reducible assumption | omega), (show x17.toInt ≤ 3205 by first | with_reducible assumption | omega)⟩, ⟨f1_, c116, (show 0 ≤ f1_.toInt from rf1_), (show f1_.toInt ≤ 7 from tf1_)⟩⟩)⟩ hw dX7_readSaint_28
abbrev Pz_X7_readClause_3 (ad : Nat → Nat) (cy : Nat → ClassId) (B : Int) (qr : Nat) (s1 : Int)  (w0 : va_W) : va_W → Prop := fun u => TW ksC ad cy B qr s1 u ∧ FE ksC [(6, 1, 1), (6, 3, 3), (6, 4, 4), (7, 10, 10), (29, 0, 8), (30, 0, 8)] w0 u ∧ Ev (fun n => m_X7_readClause n 29 1 2 (sI w0)) (0, sI u) ∧ (((∃ y : Int32, gi u 1 4 = y ∧ 1 ≤ y.toInt ∧ y.toInt ≤ 3205) ∧ (∃ y : Int32, gi u 29 10 = y ∧ 0 ≤ y.toInt ∧ y.toInt ≤ 7)) ∨ ((∃ y : Int32, gi u 1 4 = y ∧ 0 ≤ y.toInt ∧ y.toInt ≤ 3205) ∧ (∃ y : Int32, gi u 29 10 = y ∧ 0 ≤ y.toInt ∧ y.toInt ≤ 8)))
set_option maxHeartbeats 4000000 in
set_option maxRecDepth 100000 in
theorem kz_X7_readClause_3 (l : Launch) (adK adV : Nat → Nat) (dC : Nat → ClassId) (dI : Nat → Nat → Nat) (cy : Nat → ClassId) (ad : Nat → Nat) (B : Int) (hB0 : 2147483648 ≤ B) (hB1 : B ≤ 1152921504606846976) (qr : Nat) (s1 : Int)   (w0 : va_W) (sz : Nat) (hT : TW ksC ad cy B qr s1 w0) (f0_ : Int32) (cf0_ : gi w0 29 10 = f0_) (rf0_ : 0 ≤ f0_.toInt) (tf0_ : f0_.toInt ≤ 7) : Met l yX7_readClause (wu yX7_readClause cX7_readClause 3 none) ({ frames := 4, cells := 0, slots := 0, locals := 80 }) (va_Pc [.ref (ad 29), .ref (ad 1), .int 2] (wpreS adK adV dC dI cy sz w0)) (va_Qv (Pz_X7_readClause_3 ad cy B qr s1  w0) (fun u : va_W => wpost dC dI cy (va_A w0 sz) u) (va_A w0 sz)) 0 0 (va_A w0 sz) := by
  refine Met.ofW (cc := cX7_readClause) (maxL := 3) (ret := none) (by decide) rfl ?_
  intro p e s m args below meth c s₁ Bk hml hv
  obtain ⟨rfl, ⟨hsz, hP, hK, hD0⟩, hE, hSR⟩ := hv
  have hx := Bk.exec
  have hb := Bk.bytes
  have hr := Bk.returns
  have hlocks := Bk.notSynchronized
  have hC : CallFix p m c cX7_readClause 3 s _ (wu yX7_readClause cX7_readClause 3 none) RX7 := ⟨hx, hb, hml, findClass_of_methodNamed Bk.named, atoms_spec (ws := (wu yX7_readClause cX7_readClause 3 none)) Bk.pre⟩
  subst hsz
  have hD := hD0.self (sz := s.heap.size)
  generalize hAe : va_A w0 s.heap.size = A at hD hE ⊢
  have hA : ∀ q : Nat, s.heap.size ≤ q → A q := fun q h => by rw [← hAe]; exact Or.inr h
  have hw : Wd dC dI A s.heap s.heap [] w0 := ⟨hP, hD, va_S.rf⟩
  have hF : FE ksC [(6, 1, 1), (6, 3, 3), (6, 4, 4), (7, 10, 10), (29, 0, 8), (30, 0, 8)] w0 w0 := FE.rf
  have hl := lv_entry ([.ref (ad 29), .ref (ad 1), .int 2]) (n := 3) (Nat.le_of_ble_eq_true rfl)
  rw [lg_entry_eq]
  generalize (lg_sl ([.ref (ad 29), .ref (ad 1), .int 2]) ++ List.replicate (3 - (lg_sl ([.ref (ad 29), .ref (ad 1), .int 2])).length) Slot.unset).toArray = ls at hl ⊢
  have hl : lv_has ls 3 [(0, .ref (ad 29)), (1, .ref (ad 1)), (2, .int 2)] := hl
  generalize hloc : ([] : List Loc) = locs at hw ⊢
  have J57 : ∀ (f57_1_4 : Int32) (f57_29_10 : Int32) (H : Heap) (locs : List Loc) (ls : Array Slot) (w1 : va_W), 0 ≤ f57_1_4.toInt → f57_1_4.toInt ≤ 3205 → 0 ≤ f57_29_10.toInt → f57_29_10.toInt ≤ 8 → Wd dC dI A s.heap H locs w1 → TW ksC ad cy B qr s1 w1 → FE ksC [(6, 1, 1), (6, 3, 3), (6, 4, 4), (7, 10, 10), (29, 0, 8), (30, 0, 8)] w0 w1 → gi w1 1 4 = f57_1_4 → gi w1 29 10 = f57_29_10 → TT (fun n => m_X7_readClause n 29 1 2 (sI w0)) (fun n => b_X7_readClause_57 n 29 1 (sI w1)) → lv_has ls 3 [(0, .ref (ad 29)), (1, .ref (ad 1)), (2, .int 2)] → W p l e ({ frames := 4, cells := 0, slots := 0, locals := 80 }) s m (List.toArray [.ref (ad 29), .ref (ad 1), .int 2]) below meth c H locs 0 0 (MQ below (va_Qv (Pz_X7_readClause_3 ad cy B qr s1  w0) (fun u : va_W => wpost dC dI cy A u) A) (List.toArray [.ref (ad 29), .ref (ad 1), .int 2]) s 0 0 A) (F0 m 57 ls []) := by
    intro f57_1_4 f57_29_10 H locs ls w1 r2 t3 r5 t6 hw hT hF c4 c7 hM hl
    exact tk_vret hC hr hlocks hK ⟨hT, hF, hM.ret rfl, (Or.inr ⟨⟨f57_1_4, c4, (show 0 ≤ f57_1_4.toInt from r2), (show f57_1_4.toInt ≤ 3205 from t3)⟩, ⟨f57_29_10, c7, (show 0 ≤ f57_29_10.toInt from r5), (show f57_29_10.toInt ≤ 8 from t6)⟩⟩)⟩ hw dX7_readClause_57
  have hM : TT (fun n => m_X7_readClause n 29 1 2 (sI w0)) (fun n => m_X7_readClause n 29 1 2 (sI w0)) := TT.rf
  refine lv_aload_n hx hb dX7_readClause_0 rfl (lv_at hl 1 rfl) ?_
  refine tk_Vi hC hK hw hT hA hE hSR kC_at1 (by decide) rfl (kz_X6_isFaulty_1 l adK adV dC dI cy ad B hB0 (Int.le_trans hB1 (by decide)) qr s1    w0 s.heap.size hT ) (cwV 0 hC.2.2.2.2 uV_RX7_89 rfl rfl rfl (by decide +kernel) ⟨Nat.le_of_ble_eq_true rfl, Nat.le_of_ble_eq_true rfl⟩) rfl hl.1 rfl (Nat.le_of_ble_eq_true rfl) dX7_readClause_1 (fun r8 w10 H locs hp9 hw => ?_)
  obtain ⟨hT, k11, hv17, hg16⟩ := hp9
  have hF := hF.tr k11 (by decide)
  have c18 := k11.gi kC_at29 (by decide) cf0_
  rcases hg16 with ⟨rfl, ⟨x12, c13, rx12, tx12⟩⟩ | ⟨rfl, ⟨x14, c15, rx14, tx14⟩⟩
  · replace hM := hM.call (r' := 0) hv17 (by decide)
    refine lv_if_eq (tgt := 8) hx hb dX7_readClause_4 (by decide) (fun _ => ?_) (fun c => absurd (by decide) c)
    replace hM := hM.pos (by decide)
    refine lv_iload_n hx hb dX7_readClause_8 rfl (lv_at hl 2 rfl) ?_
    refine lv_if_ne (tgt := 26) hx hb dX7_readClause_9 (by decide) (fun _ => ?_) (fun c => absurd c (by decide))
    replace hM := hM.pos (by decide)
    refine lv_iload_n hx hb dX7_readClause_26 rfl (lv_at hl 2 rfl) ?_
    refine lv_iconst (v := 1) hx hb dX7_readClause_27 (by decide) ?_
    refine lv_icmp_ne (tgt := 39) hx hb dX7_readClause_28 (by decide) (fun _ => ?_) (fun c => absurd c (by decide))
    replace hM := hM.pos (by decide)
    refine lv_iload_n hx hb dX7_readClause_39 rfl (lv_at hl 2 rfl) ?_
    refine lv_iconst (v := 2) hx hb dX7_readClause_40 (by decide) ?_
    refine lv_icmp_ne (tgt := 52) hx hb dX7_readClause_41 (by decide) (fun c => absurd (by decide) c) (fun _ => ?_)
    replace hM := hM.neg (by decide)
    refine lv_aload_n hx hb dX7_readClause_44 rfl (lv_at hl 0 rfl) ?_
    refine lv_aload_n hx hb dX7_readClause_45 rfl (lv_at hl 1 rfl) ?_
    refine tk_Vv hC hK hw hT hA hE hSR kC_at29 (by decide) rfl (kz_X7_readSaint_1 l adK adV dC dI cy ad B hB0 (Int.le_trans hB1 (by decide)) qr s1    w10 H.size hT (c13.trans (wk_eq.mpr (show x12.toInt = 0 by first | exact Int.le_antisymm (by omega) (by omega) | omega))) f0_ c18 (show 0 ≤ f0_.toInt from rf0_) (show f0_.toInt ≤ 7 from tf0_)) (cwV 1 hC.2.2.2.2 uV_RX7_100 rfl rfl rfl (by decide +kernel) ⟨Nat.le_of_ble_eq_true rfl, Nat.le_of_ble_eq_true rfl⟩) rfl hl.1 rfl (Nat.le_of_ble_eq_true rfl) dX7_readClause_46 (fun w21 H locs hp20 hw => ?_)
    obtain ⟨hT, k22, hv38, hg37⟩ := hp20
    have hF := hF.tr k22 (by decide)
    rcases hg37 with ⟨⟨x23, c24, rx23, tx23⟩, ⟨x25, c26, rx25, tx25⟩⟩ | ⟨⟨x27, c28, rx27, tx27⟩, ⟨x29, c30, rx29, tx29⟩, ⟨x31, c32, rx31, tx31⟩, ⟨x33, c34, rx33, tx33⟩, ⟨x35, c36, rx35, tx35⟩⟩
    · replace hM := hM.call hv38 rfl
      refine lv_goto (tgt := 57) hx hb dX7_readClause_49 (by decide) ?_
      exact J57 x23 x25 H locs ls w21 (show 0 ≤ x23.toInt by first | with_reducible assumption | omega) (show x23.toInt ≤ 3205 by first | with_reducible assumption | omega) (show 0 ≤ x25.toInt by first | with_reducible assumption | omega) (show x25.toInt ≤ 8 by first | with_reducible assumption | omega)  hw hT hF c24 c26 hM (lv_sub hl [0, 1, 2] rfl)
    · replace hM := hM.call hv38 rfl
      refine lv_goto (tgt := 57) hx hb dX7_readClause_49 (by decide) ?_
      exact J57 x31 x35 H locs ls w21 (show 0 ≤ x31.toInt by first | with_reducible assumption | omega) (show x31.toInt ≤ 3205 by first | with_reducible assumption | omega) (show 0 ≤ x35.toInt by first | with_reducible assumption | omega) (show x35.toInt ≤ 8 by first | with_reducible assumption | omega)  hw hT hF c32 c36 hM (lv_sub hl [0, 1, 2] rfl)
  · replace hM := hM.call (r' := 1) hv17 (by decide)
    refine lv_if_eq (tgt := 8) hx hb dX7_readClause_4 (by decide) (fun c => absurd c (by decide)) (fun _ => ?_)
    replace hM := hM.neg (by decide)
    exact tk_vret hC hr hlocks hK ⟨hT, hF, hM.ret rfl, (Or.inl ⟨⟨x14, c15, (show 1 ≤ x14.toInt by first | with_reducible assumption | omega), (show x14.toInt ≤ 3205 by first | with_reducible assumption | omega)⟩, ⟨f0_, c18, (show 0 ≤ f0_.toInt from rf0_), (show f0_.toInt ≤ 7 from tf0_)⟩⟩)⟩ hw dX7_readClause_7
abbrev Pz_X6_readNumber_9 (ad : Nat → Nat) (cy : Nat → ClassId) (B : Int) (qr : Nat) (s1 : Int) (a2 : Int32) (w0 : va_W) : Int32 → va_W → Prop := fun r u => TW ksC ad cy B qr s1 u ∧ FE ksC [(6, 1, 1), (6, 3, 3), (6, 4, 4)] w0 u ∧ Ev (fun n => m_X6_readNumber n 1 0 a2.toInt (sI w0)) (r.toInt, sI u) ∧ ((0 ≤ r.toInt ∧ r.toInt ≤ 11 ∧ 0 ≤ a2.toInt ∧ (∃ y : Int32, gi u 1 2 = y ∧ 1 ≤ y.toInt ∧ y.toInt ≤ 400) ∧ (∃ y : Int32, gi u 1 3 = y ∧ 0 ≤ y.toInt ∧ y.toInt ≤ 399) ∧ (∃ y : Int32, gi u 1 4 = y ∧ 0 ≤ y.toInt ∧ y.toInt ≤ 0)) ∨ (r = (-1) ∧ (∃ y : Int32, gi u 1 4 = y ∧ 1 ≤ y.toInt ∧ y.toInt ≤ 3205)))
set_option maxHeartbeats 4000000 in
set_option maxRecDepth 100000 in
theorem kz_X6_readNumber_9 (l : Launch) (adK adV : Nat → Nat) (dC : Nat → ClassId) (dI : Nat → Nat → Nat) (cy : Nat → ClassId) (ad : Nat → Nat) (B : Int) (hB0 : 2147483648 ≤ B) (hB1 : B ≤ 1152921504606846976) (qr : Nat) (s1 : Int)  (a2 : Int32) (ra2 : (-1) ≤ a2.toInt) (ta2 : a2.toInt ≤ 11) (w0 : va_W) (sz : Nat) (hT : TW ksC ad cy B qr s1 w0) (cf0_ : gi w0 1 4 = 0) : Met l yX6_readNumber (wu yX6_readNumber cX6_readNumber 4 (some .int)) ({ frames := 2, cells := 0, slots := 0, locals := 34 }) (va_Pc [.ref (ad 1), .int 0, .int a2] (wpreS adK adV dC dI cy sz w0)) (va_Qi (Pz_X6_readNumber_9 ad cy B qr s1 a2 w0) (fun u : va_W => wpost dC dI cy (va_A w0 sz) u) (va_A w0 sz)) 0 0 (va_A w0 sz) := by
  refine Met.ofW (cc := cX6_readNumber) (maxL := 4) (ret := (some .int)) (by decide) rfl ?_
  intro p e s m args below meth c s₁ Bk hml hv
  obtain ⟨rfl, ⟨hsz, hP, hK, hD0⟩, hE, hSR⟩ := hv
  have hx := Bk.exec
  have hb := Bk.bytes
  have hr := Bk.returns
  have hlocks := Bk.notSynchronized
  have hC : CallFix p m c cX6_readNumber 4 s _ (wu yX6_readNumber cX6_readNumber 4 (some .int)) RX6 := ⟨hx, hb, hml, findClass_of_methodNamed Bk.named, atoms_spec (ws := (wu yX6_readNumber cX6_readNumber 4 (some .int))) Bk.pre⟩
  subst hsz
  have hD := hD0.self (sz := s.heap.size)
  generalize hAe : va_A w0 s.heap.size = A at hD hE ⊢
  have hA : ∀ q : Nat, s.heap.size ≤ q → A q := fun q h => by rw [← hAe]; exact Or.inr h
  have hw : Wd dC dI A s.heap s.heap [] w0 := ⟨hP, hD, va_S.rf⟩
  have hF : FE ksC [(6, 1, 1), (6, 3, 3), (6, 4, 4)] w0 w0 := FE.rf
  have hl := lv_entry ([.ref (ad 1), .int 0, .int a2]) (n := 4) (Nat.le_of_ble_eq_true rfl)
  rw [lg_entry_eq]
  generalize (lg_sl ([.ref (ad 1), .int 0, .int a2]) ++ List.replicate (4 - (lg_sl ([.ref (ad 1), .int 0, .int a2])).length) Slot.unset).toArray = ls at hl ⊢
  have hl : lv_has ls 4 [(0, .ref (ad 1)), (1, .int 0), (2, .int a2)] := hl
  generalize hloc : ([] : List Loc) = locs at hw ⊢
  have hinX6 : ∀ w ∈ u_ws RX6 TX6 5, w ∈ (wu yX6_readNumber cX6_readNumber 4 (some .int)) := fun _ h => List.mem_cons_of_mem _ (up_72 h)
  have J125 : ∀ (v125_3 : Int32) (f125_1_1 : Int32) (f125_1_2 : Int32) (f125_1_3 : Int32) (H : Heap) (locs : List Loc) (ls : Array Slot) (w1 : va_W), (-1) ≤ a2.toInt → a2.toInt ≤ 11 → 0 ≤ f125_1_1.toInt → f125_1_1.toInt ≤ 400 → 1 ≤ f125_1_2.toInt → f125_1_2.toInt ≤ 400 → 0 ≤ f125_1_3.toInt → f125_1_3.toInt ≤ 399 → Wd dC dI A s.heap H locs w1 → TW ksC ad cy B qr s1 w1 → FE ksC [(6, 1, 1), (6, 3, 3), (6, 4, 4)] w0 w1 → gi w1 1 1 = f125_1_1 → gi w1 1 2 = f125_1_2 → gi w1 1 3 = f125_1_3 → gi w1 1 4 = 0 → TT (fun n => m_X6_readNumber n 1 0 a2.toInt (sI w0)) (fun n => b_X6_readNumber_125 (j_X6_readNumber 1 n) n 1 (sI w1)) → lv_has ls 4 [(0, .ref (ad 1)), (1, .int 0), (2, .int a2), (3, .int v125_3)] → W p l e ({ frames := 2, cells := 0, slots := 0, locals := 34 }) s m (List.toArray [.ref (ad 1), .int 0, .int a2]) below meth c H locs 0 0 (MQ below (va_Qi (Pz_X6_readNumber_9 ad cy B qr s1 a2 w0) (fun u : va_W => wpost dC dI cy A u) A) (List.toArray [.ref (ad 1), .int 0, .int a2]) s 0 0 A) (F0 m 125 ls []) := by
    intro v125_3 f125_1_1 f125_1_2 f125_1_3 H locs ls w1 r2 t3 r4 t5 r7 t8 r10 t11 hw hT hF c6 c9 c12 c13 hM hl
    refine lv_aload_n hx hb dX6_readNumber_125 rfl (lv_at hl 0 rfl) ?_
    refine lv_aload_n hx hb dX6_readNumber_126 rfl (lv_at hl 0 rfl) ?_
    refine tk_geti hC hK hw hT hinX6 kC_at1 (by decide) rfl 3 (by decide) (List.mem_cons_of_mem _ uw_9_17) rfl rfl dX6_readNumber_127 (fun x14 c15 rx14 tx14 => ?_)
    refine wk_top f125_1_3 (c15.symm.trans c12) ?_
    replace hM := hM.rd (sI_at c12)
    refine lv_iconst (v := 1) hx hb dX6_readNumber_130 (by decide) ?_
    refine tk_Vv hC hK hw hT hA hE hSR kC_at1 (by decide) rfl (kz_X6_blame_2 l adK adV dC dI cy ad B hB0 (Int.le_trans hB1 (by decide)) qr s1   f125_1_3 (show 0 ≤ f125_1_3.toInt from r10) (show f125_1_3.toInt ≤ 400 from Int.le_trans t11 (by decide)) 1 (by decide) (by decide) w1 H.size hT c13) (cwV 2 hC.2.2.2.2 uV_RX6_35 rfl rfl rfl (by decide +kernel) ⟨Nat.le_of_ble_eq_true rfl, Nat.le_of_ble_eq_true rfl⟩) rfl hl.1 rfl (Nat.le_of_ble_eq_true rfl) dX6_readNumber_131 (fun w18 H locs hp17 hw => ?_)
    obtain ⟨hT, k19, hv23, hg22⟩ := hp17
    try simp only [show (1 : Int32).toInt = 1 by decide] at hv23
    have hF := hF.tr k19 (by decide)
    have c24 := k19.gi kC_at1 (by decide) c6
    have c25 := k19.gi kC_at1 (by decide) c9
    have c26 := k19.gi kC_at1 (by decide) c12
    obtain ⟨x20, c21, rx20, tx20⟩ := hg22
    replace hM := hM.call hv23 rfl
    refine lv_iconst (v := (-1)) hx hb dX6_readNumber_134 (by decide) ?_
    exact tk_iret hC hr hlocks hK ⟨hT, hF, hM.ret (by decide), (Or.inr ⟨rfl, ⟨x20, c21, (show 1 ≤ x20.toInt by first | with_reducible assumption | omega), (show x20.toInt ≤ 3205 by first | with_reducible assumption | omega)⟩⟩)⟩ hw dX6_readNumber_135
  have J102 : ∀ (v102_3 : Int32) (f102_1_1 : Int32) (f102_1_2 : Int32) (f102_1_3 : Int32) (H : Heap) (locs : List Loc) (ls : Array Slot) (w27 : va_W), (-1) ≤ a2.toInt → a2.toInt ≤ 11 → 0 ≤ f102_1_1.toInt → f102_1_1.toInt ≤ 400 → 1 ≤ f102_1_2.toInt → f102_1_2.toInt ≤ 400 → 0 ≤ f102_1_3.toInt → f102_1_3.toInt ≤ 399 → Wd dC dI A s.heap H locs w27 → TW ksC ad cy B qr s1 w27 → FE ksC [(6, 1, 1), (6, 3, 3), (6, 4, 4)] w0 w27 → gi w27 1 1 = f102_1_1 → gi w27 1 2 = f102_1_2 → gi w27 1 3 = f102_1_3 → gi w27 1 4 = 0 → TT (fun n => m_X6_readNumber n 1 0 a2.toInt (sI w0)) (fun n => b_X6_readNumber_102 (j_X6_readNumber 1 n) n 1 (0 : Int) (a2.toInt) (v102_3.toInt) (sI w27)) → lv_has ls 4 [(0, .ref (ad 1)), (1, .int 0), (2, .int a2), (3, .int v102_3)] → W p l e ({ frames := 2, cells := 0, slots := 0, locals := 34 }) s m (List.toArray [.ref (ad 1), .int 0, .int a2]) below meth c H locs 0 0 (MQ below (va_Qi (Pz_X6_readNumber_9 ad cy B qr s1 a2 w0) (fun u : va_W => wpost dC dI cy A u) A) (List.toArray [.ref (ad 1), .int 0, .int a2]) s 0 0 A) (F0 m 102 ls []) := by
    intro v102_3 f102_1_1 f102_1_2 f102_1_3 H locs ls w27 r28 t29 r30 t31 r33 t34 r36 t37 hw hT hF c32 c35 c38 c39 hM hl
    refine lv_aload_n hx hb dX6_readNumber_102 rfl (lv_at hl 0 rfl) ?_
    refine tk_geti hC hK hw hT hinX6 kC_at1 (by decide) rfl 1 (by decide) (List.mem_cons_of_mem _ uw_9_16) rfl rfl dX6_readNumber_103 (fun x40 c41 rx40 tx40 => ?_)
    refine wk_top f102_1_1 (c41.symm.trans c32) ?_
    replace hM := hM.rd (sI_at c32)
    refine lv_aload_n hx hb dX6_readNumber_106 rfl (lv_at hl 0 rfl) ?_
    refine tk_geti hC hK hw hT hinX6 kC_at1 (by decide) rfl 3 (by decide) (List.mem_cons_of_mem _ uw_9_17) rfl rfl dX6_readNumber_107 (fun x42 c43 rx42 tx42 => ?_)
    refine wk_top f102_1_3 (c43.symm.trans c38) ?_
    replace hM := hM.rd (sI_at c38)
    refine lv_isub hx hb dX6_readNumber_110 ?_
    refine lv_topi (fun x44 ex44 => ?_)
    have ezx44 := ex44
    have ex44 : x44.toInt = f102_1_1.toInt - f102_1_3.toInt := by rw [ex44]; exact wk_sub (show (-2147483648) ≤ f102_1_1.toInt - f102_1_3.toInt by omega) (show f102_1_1.toInt - f102_1_3.toInt ≤ 2147483647 by omega)
    replace hM := hM.lt ex44.symm
    refine lv_iconst (v := 5) hx hb dX6_readNumber_111 (by decide) ?_
    refine lv_icmp_gt (tgt := 125) hx hb dX6_readNumber_112 (by decide) (fun c45 => ?_) (fun c45 => ?_)
    · have c45 : (5 : Int) < x44.toInt := wk_lt.mp c45
      replace hM := hM.pos c45
      exact J125 v102_3 f102_1_1 f102_1_2 f102_1_3 H locs ls w27 (show (-1) ≤ a2.toInt from r28) (show a2.toInt ≤ 11 from t29) (show 0 ≤ f102_1_1.toInt from r30) (show f102_1_1.toInt ≤ 400 from t31) (show 1 ≤ f102_1_2.toInt from r33) (show f102_1_2.toInt ≤ 400 from t34) (show 0 ≤ f102_1_3.toInt from r36) (show f102_1_3.toInt ≤ 399 from t37)  hw hT hF c32 c35 c38 c39 hM (lv_sub hl [0, 1, 2, 3] rfl)
    · have c45 : x44.toInt ≤ (5 : Int) := wk_ltF c45
      replace hM := hM.neg (Int.not_lt.mpr c45)
      refine lv_iload_n hx hb dX6_readNumber_115 rfl (lv_at hl 3 rfl) ?_
      refine lv_iload_n hx hb dX6_readNumber_116 rfl (lv_at hl 1 rfl) ?_
      refine lv_icmp_lt (tgt := 125) hx hb dX6_readNumber_117 (by decide) (fun c46 => ?_) (fun c46 => ?_)
      · have c46 : v102_3.toInt < (0 : Int) := wk_lt.mp c46
        replace hM := hM.pos c46
        exact J125 v102_3 f102_1_1 f102_1_2 f102_1_3 H locs ls w27 (show (-1) ≤ a2.toInt from r28) (show a2.toInt ≤ 11 from t29) (show 0 ≤ f102_1_1.toInt from r30) (show f102_1_1.toInt ≤ 400 from t31) (show 1 ≤ f102_1_2.toInt from r33) (show f102_1_2.toInt ≤ 400 from t34) (show 0 ≤ f102_1_3.toInt from r36) (show f102_1_3.toInt ≤ 399 from t37)  hw hT hF c32 c35 c38 c39 hM (lv_sub hl [0, 1, 2, 3] rfl)
      · have c46 : (0 : Int) ≤ v102_3.toInt := wk_ltF c46
        replace hM := hM.neg (Int.not_lt.mpr c46)
        refine lv_iload_n hx hb dX6_readNumber_120 rfl (lv_at hl 3 rfl) ?_
        refine lv_iload_n hx hb dX6_readNumber_121 rfl (lv_at hl 2 rfl) ?_
        refine lv_icmp_le (tgt := 136) hx hb dX6_readNumber_122 (by decide) (fun c47 => ?_) (fun c47 => ?_)
        · have c47 : v102_3.toInt ≤ a2.toInt := wk_le.mp c47
          replace hM := hM.pos c47
          refine lv_iload_n hx hb dX6_readNumber_136 rfl (lv_at hl 3 rfl) ?_
          exact tk_iret hC hr hlocks hK ⟨hT, hF, hM.ret rfl, (Or.inl ⟨(show 0 ≤ v102_3.toInt by first | with_reducible assumption | omega), (show v102_3.toInt ≤ 11 by first | with_reducible assumption | omega), (show 0 ≤ a2.toInt by first | with_reducible assumption | omega), ⟨f102_1_2, c35, (show 1 ≤ f102_1_2.toInt from r33), (show f102_1_2.toInt ≤ 400 from t34)⟩, ⟨f102_1_3, c38, (show 0 ≤ f102_1_3.toInt from r36), (show f102_1_3.toInt ≤ 399 from t37)⟩, ⟨0, c39, (by decide), (by decide)⟩⟩)⟩ hw dX6_readNumber_137
        · have c47 : a2.toInt < v102_3.toInt := wk_leF c47
          replace hM := hM.neg (Int.not_le.mpr c47)
          exact J125 v102_3 f102_1_1 f102_1_2 f102_1_3 H locs ls w27 (show (-1) ≤ a2.toInt from r28) (show a2.toInt ≤ 11 from t29) (show 0 ≤ f102_1_1.toInt from r30) (show f102_1_1.toInt ≤ 400 from t31) (show 1 ≤ f102_1_2.toInt from r33) (show f102_1_2.toInt ≤ 400 from t34) (show 0 ≤ f102_1_3.toInt from r36) (show f102_1_3.toInt ≤ 399 from t37)  hw hT hF c32 c35 c38 c39 hM (lv_sub hl [0, 1, 2, 3] rfl)
  have L32 : ∀ (n32 : Nat) (v32_3 : Int32) (f32_1_1 : Int32) (f32_1_2 : Int32) (f32_1_3 : Int32) (H : Heap) (locs : List Loc) (ls : Array Slot) (w48 : va_W), (-1) ≤ a2.toInt → a2.toInt ≤ 11 → 0 ≤ f32_1_1.toInt → f32_1_1.toInt ≤ 400 → 1 ≤ f32_1_2.toInt → f32_1_2.toInt ≤ 400 → 0 ≤ f32_1_3.toInt → f32_1_3.toInt ≤ 399 → (400 - f32_1_1.toInt).toNat < n32 → Wd dC dI A s.heap H locs w48 → TW ksC ad cy B qr s1 w48 → FE ksC [(6, 1, 1), (6, 3, 3), (6, 4, 4)] w0 w48 → gi w48 1 1 = f32_1_1 → gi w48 1 2 = f32_1_2 → gi w48 1 3 = f32_1_3 → gi w48 1 4 = 0 → TT (fun n => m_X6_readNumber n 1 0 a2.toInt (sI w0)) (fun n => j_X6_readNumber 1 n 32 [(0 : Int), a2.toInt, v32_3.toInt] (sI w48)) → lv_has ls 4 [(0, .ref (ad 1)), (1, .int 0), (2, .int a2), (3, .int v32_3)] → W p l e ({ frames := 2, cells := 0, slots := 0, locals := 34 }) s m (List.toArray [.ref (ad 1), .int 0, .int a2]) below meth c H locs 0 0 (MQ below (va_Qi (Pz_X6_readNumber_9 ad cy B qr s1 a2 w0) (fun u : va_W => wpost dC dI cy A u) A) (List.toArray [.ref (ad 1), .int 0, .int a2]) s 0 0 A) (F0 m 32 ls []) := by
    intro n32
    induction n32 with
    | zero => intro v32_3 f32_1_1 f32_1_2 f32_1_3 H locs ls w48 r49 t50 r51 t52 r54 t55 r57 t58 hm32 hw hT hF c53 c56 c59 c60 hM hl; omega
    | succ n32 ih32 =>
      intro v32_3 f32_1_1 f32_1_2 f32_1_3 H locs ls w48 r49 t50 r51 t52 r54 t55 r57 t58 hm32 hw hT hF c53 c56 c59 c60 hM hl
      have J89 : ∀ (v89_3 : Int32) (H : Heap) (locs : List Loc) (ls : Array Slot) (w61 : va_W), (-1) ≤ a2.toInt → a2.toInt ≤ 11 → 0 ≤ f32_1_1.toInt → f32_1_1.toInt ≤ 399 → 1 ≤ f32_1_2.toInt → f32_1_2.toInt ≤ 400 → 0 ≤ f32_1_3.toInt → f32_1_3.toInt ≤ 399 → Wd dC dI A s.heap H locs w61 → TW ksC ad cy B qr s1 w61 → FE ksC [(6, 1, 1), (6, 3, 3), (6, 4, 4)] w0 w61 → gi w61 1 1 = f32_1_1 → gi w61 1 2 = f32_1_2 → gi w61 1 3 = f32_1_3 → gi w61 1 4 = 0 → TT (fun n => m_X6_readNumber n 1 0 a2.toInt (sI w0)) (fun n => b_X6_readNumber_89 (j_X6_readNumber 1 n) n 1 (0 : Int) (a2.toInt) (v89_3.toInt) (sI w61)) → lv_has ls 4 [(0, .ref (ad 1)), (1, .int 0), (2, .int a2), (3, .int v89_3)] → W p l e ({ frames := 2, cells := 0, slots := 0, locals := 34 }) s m (List.toArray [.ref (ad 1), .int 0, .int a2]) below meth c H locs 0 0 (MQ below (va_Qi (Pz_X6_readNumber_9 ad cy B qr s1 a2 w0) (fun u : va_W => wpost dC dI cy A u) A) (List.toArray [.ref (ad 1), .int 0, .int a2]) s 0 0 A) (F0 m 89 ls []) := by
        intro v89_3 H locs ls w61 r62 t63 r64 t65 r67 t68 r70 t71 hw hT hF c66 c69 c72 c73 hM hl
        refine lv_aload_n hx hb dX6_readNumber_89 rfl (lv_at hl 0 rfl) ?_
        refine lv_dup hx hb dX6_readNumber_90 rfl ?_
        refine tk_geti hC hK hw hT hinX6 kC_at1 (by decide) rfl 1 (by decide) (List.mem_cons_of_mem _ uw_9_16) rfl rfl dX6_readNumber_91 (fun x74 c75 rx74 tx74 => ?_)
        refine wk_top f32_1_1 (c75.symm.trans c66) ?_
        replace hM := hM.rd (sI_at c66)
        refine lv_iconst (v := 1) hx hb dX6_readNumber_94 (by decide) ?_
        refine lv_iadd hx hb dX6_readNumber_95 ?_
        refine lv_topi (fun x76 ex76 => ?_)
        have ezx76 := ex76
        have ex76 : x76.toInt = f32_1_1.toInt + (1 : Int) := by rw [ex76]; exact wk_add (show (-2147483648) ≤ f32_1_1.toInt + (1 : Int) by omega) (show f32_1_1.toInt + (1 : Int) ≤ 2147483647 by omega)
        replace hM := hM.lt ex76.symm
        refine tk_puti hC hK hw hT hinX6 tyX6_ok nmX6 kC_at1 (by decide) rfl rfl 1 (by decide) (List.mem_cons_of_mem _ uw_9_16) rfl rfl rfl rfl (show 0 ≤ x76.toInt by first | with_reducible assumption | omega) (show x76.toInt ≤ 400 by first | with_reducible assumption | omega) dX6_readNumber_96 (fun H locs w77 hw hT k79 c78 => ?_)
        replace hM := hM.wr (sI_up k79 c78)
        have hF := hF.put kC_at1 (k := 1) (by decide) k79
        have c80 := k79.gi (Or.inr (by decide)) c69
        have c81 := k79.gi (Or.inr (by decide)) c72
        have c82 := k79.gi (Or.inr (by decide)) c73
        refine lv_goto (tgt := 32) hx hb dX6_readNumber_99 (by decide) ?_
        exact ih32 v89_3 x76 f32_1_2 f32_1_3 H locs ls w77 (show (-1) ≤ a2.toInt from r62) (show a2.toInt ≤ 11 from t63) (show 0 ≤ x76.toInt by first | with_reducible assumption | omega) (show x76.toInt ≤ 400 by first | with_reducible assumption | omega) (show 1 ≤ f32_1_2.toInt from r67) (show f32_1_2.toInt ≤ 400 from t68) (show 0 ≤ f32_1_3.toInt from r70) (show f32_1_3.toInt ≤ 399 from t71) (show (400 - x76.toInt).toNat < n32 by first | exact tn_lt hm32 (by omega) (by omega) | omega) hw hT hF c78 c80 c81 c82 hM (lv_sub hl [0, 1, 2, 3] rfl)
      replace hM := hM.suc (fun _ => e_X6_readNumber_32)
      refine lv_aload_n hx hb dX6_readNumber_32 rfl (lv_at hl 0 rfl) ?_
      refine tk_geti hC hK hw hT hinX6 kC_at1 (by decide) rfl 1 (by decide) (List.mem_cons_of_mem _ uw_9_16) rfl rfl dX6_readNumber_33 (fun x83 c84 rx83 tx83 => ?_)
      refine wk_top f32_1_1 (c84.symm.trans c53) ?_
      replace hM := hM.rd (sI_at c53)
      refine lv_aload_n hx hb dX6_readNumber_36 rfl (lv_at hl 0 rfl) ?_
      refine tk_geti hC hK hw hT hinX6 kC_at1 (by decide) rfl 2 (by decide) (List.mem_cons_of_mem _ uw_7_22) rfl rfl dX6_readNumber_37 (fun x85 c86 rx85 tx85 => ?_)
      refine wk_top f32_1_2 (c86.symm.trans c56) ?_
      replace hM := hM.rd (sI_at c56)
      refine lv_icmp_ge (tgt := 102) hx hb dX6_readNumber_40 (by decide) (fun c87 => ?_) (fun c87 => ?_)
      · have c87 : f32_1_2.toInt ≤ f32_1_1.toInt := wk_le.mp c87
        replace hM := hM.pos c87
        exact J102 v32_3 f32_1_1 f32_1_2 f32_1_3 H locs ls w48 (show (-1) ≤ a2.toInt from r49) (show a2.toInt ≤ 11 from t50) (show 0 ≤ f32_1_1.toInt from r51) (show f32_1_1.toInt ≤ 400 from t52) (show 1 ≤ f32_1_2.toInt from r54) (show f32_1_2.toInt ≤ 400 from t55) (show 0 ≤ f32_1_3.toInt from r57) (show f32_1_3.toInt ≤ 399 from t58)  hw hT hF c53 c56 c59 c60 hM (lv_sub hl [0, 1, 2, 3] rfl)
      · have c87 : f32_1_1.toInt < f32_1_2.toInt := wk_leF c87
        replace hM := hM.neg (Int.not_le.mpr c87)
        refine lv_aload_n hx hb dX6_readNumber_43 rfl (lv_at hl 0 rfl) ?_
        refine tk_getA hC hK hw hT hinX6 kC_at1 (by decide) rfl 0 (by decide) (List.mem_cons_of_mem _ uw_2_12) rfl rfl dX6_readNumber_44 ?_
        refine lv_aload_n hx hb dX6_readNumber_47 rfl (lv_at hl 0 rfl) ?_
        refine tk_geti hC hK hw hT hinX6 kC_at1 (by decide) rfl 1 (by decide) (List.mem_cons_of_mem _ uw_9_16) rfl rfl dX6_readNumber_48 (fun x88 c89 rx88 tx88 => ?_)
        refine wk_top f32_1_1 (c89.symm.trans c53) ?_
        replace hM := hM.rd (sI_at c53)
        refine tk_iald hC hK hw hT kC_at2 rfl rfl (show 0 ≤ f32_1_1.toInt from r51) (show f32_1_1.toInt < 400 by first | with_reducible assumption | omega) dX6_readNumber_51 (fun x90 c91 rx90 tx90 => ?_)
        have hox90 := c91
        replace hM := hM.rd (sI_at hox90)
        refine tk_Si hC hK hw hT hA hE hSR (kz_X6_isDigit_1 l adK adV dC dI cy ad B hB0 (Int.le_trans hB1 (by decide)) qr s1   x90 (show 0 ≤ x90.toInt from rx90) (show x90.toInt ≤ 255 from tx90) w48 H.size hT ) (va_cwS 1 hC.2.2.2.2 uS_RX6_64 rfl rfl rfl (by decide +kernel) ⟨Nat.le_of_ble_eq_true rfl, Nat.le_of_ble_eq_true rfl⟩) rfl hl.1 rfl (Nat.le_of_ble_eq_true rfl) dX6_readNumber_52 (fun r92 w94 H locs hp93 hw => ?_)
        obtain ⟨hT, k95, hv99, hg98⟩ := hp93
        have hF := hF.tr k95 (by decide)
        have c100 := k95.gi kC_at1 (by decide) c53
        have c101 := k95.gi kC_at1 (by decide) c56
        have c102 := k95.gi kC_at1 (by decide) c59
        have c103 := k95.gi kC_at1 (by decide) c60
        rcases hg98 with rfl | ⟨rfl, g96, g97⟩
        · replace hM := hM.call (r' := 0) hv99 (by decide)
          refine lv_if_eq (tgt := 102) hx hb dX6_readNumber_55 (by decide) (fun _ => ?_) (fun c => absurd (by decide) c)
          replace hM := hM.pos (by decide)
          exact J102 v32_3 f32_1_1 f32_1_2 f32_1_3 H locs ls w94 (show (-1) ≤ a2.toInt from r49) (show a2.toInt ≤ 11 from t50) (show 0 ≤ f32_1_1.toInt from r51) (show f32_1_1.toInt ≤ 400 from t52) (show 1 ≤ f32_1_2.toInt from r54) (show f32_1_2.toInt ≤ 400 from t55) (show 0 ≤ f32_1_3.toInt from r57) (show f32_1_3.toInt ≤ 399 from t58)  hw hT hF c100 c101 c102 c103 hM (lv_sub hl [0, 1, 2, 3] rfl)
        · replace hM := hM.call (r' := 1) hv99 (by decide)
          refine lv_if_eq (tgt := 102) hx hb dX6_readNumber_55 (by decide) (fun c => absurd c (by decide)) (fun _ => ?_)
          replace hM := hM.neg (by decide)
          refine lv_aload_n hx hb dX6_readNumber_58 rfl (lv_at hl 0 rfl) ?_
          refine tk_geti hC hK hw hT hinX6 kC_at1 (by decide) rfl 1 (by decide) (List.mem_cons_of_mem _ uw_9_16) rfl rfl dX6_readNumber_59 (fun x104 c105 rx104 tx104 => ?_)
          refine wk_top f32_1_1 (c105.symm.trans c100) ?_
          replace hM := hM.rd (sI_at c100)
          refine lv_aload_n hx hb dX6_readNumber_62 rfl (lv_at hl 0 rfl) ?_
          refine tk_geti hC hK hw hT hinX6 kC_at1 (by decide) rfl 3 (by decide) (List.mem_cons_of_mem _ uw_9_17) rfl rfl dX6_readNumber_63 (fun x106 c107 rx106 tx106 => ?_)
          refine wk_top f32_1_3 (c107.symm.trans c102) ?_
          replace hM := hM.rd (sI_at c102)
          refine lv_isub hx hb dX6_readNumber_66 ?_
          refine lv_topi (fun x108 ex108 => ?_)
          have ezx108 := ex108
          have ex108 : x108.toInt = f32_1_1.toInt - f32_1_3.toInt := by rw [ex108]; exact wk_sub (show (-2147483648) ≤ f32_1_1.toInt - f32_1_3.toInt by omega) (show f32_1_1.toInt - f32_1_3.toInt ≤ 2147483647 by omega)
          replace hM := hM.lt ex108.symm
          refine lv_iconst (v := 5) hx hb dX6_readNumber_67 (by decide) ?_
          refine lv_icmp_ge (tgt := 89) hx hb dX6_readNumber_68 (by decide) (fun c109 => ?_) (fun c109 => ?_)
          · have c109 : (5 : Int) ≤ x108.toInt := wk_le.mp c109
            replace hM := hM.pos c109
            exact J89 v32_3 H locs ls w94 (show (-1) ≤ a2.toInt from r49) (show a2.toInt ≤ 11 from t50) (show 0 ≤ f32_1_1.toInt from r51) (show f32_1_1.toInt ≤ 399 by first | with_reducible assumption | omega) (show 1 ≤ f32_1_2.toInt from r54) (show f32_1_2.toInt ≤ 400 from t55) (show 0 ≤ f32_1_3.toInt from r57) (show f32_1_3.toInt ≤ 399 from t58)  hw hT hF c100 c101 c102 c103 hM (lv_sub hl [0, 1, 2, 3] rfl)
          · have c109 : x108.toInt < (5 : Int) := wk_leF c109
            replace hM := hM.neg (Int.not_le.mpr c109)
            refine lv_iload_n hx hb dX6_readNumber_71 rfl (lv_at hl 3 rfl) ?_
            refine lv_bipush (v := 10) hx hb dX6_readNumber_72 (by decide) ?_
            refine lv_imul hx hb dX6_readNumber_74 ?_
            have nx110 := wk_i32 v32_3
            refine lv_topi (fun x111 ex111 => ?_)
            have ezx111 := ex111
            replace hM := hM.lt (o32_e (f := fun x y => x * y) ezx111 rfl (by decide))
            refine lv_aload_n hx hb dX6_readNumber_75 rfl (lv_at hl 0 rfl) ?_
            refine tk_getA hC hK hw hT hinX6 kC_at1 (by decide) rfl 0 (by decide) (List.mem_cons_of_mem _ uw_2_12) rfl rfl dX6_readNumber_76 ?_
            refine lv_aload_n hx hb dX6_readNumber_79 rfl (lv_at hl 0 rfl) ?_
            refine tk_geti hC hK hw hT hinX6 kC_at1 (by decide) rfl 1 (by decide) (List.mem_cons_of_mem _ uw_9_16) rfl rfl dX6_readNumber_80 (fun x112 c113 rx112 tx112 => ?_)
            refine wk_top f32_1_1 (c113.symm.trans c100) ?_
            replace hM := hM.rd (sI_at c100)
            refine tk_iald hC hK hw hT kC_at2 rfl rfl (show 0 ≤ f32_1_1.toInt from r51) (show f32_1_1.toInt < 400 by first | with_reducible assumption | omega) dX6_readNumber_83 (fun x114 c115 rx114 tx114 => ?_)
            have hox114 := c115
            replace hM := hM.rd (sI_at hox114)
            refine lv_iadd hx hb dX6_readNumber_84 ?_
            have nx116 := wk_i32 x111
            refine lv_topi (fun x117 ex117 => ?_)
            have ezx117 := ex117
            replace hM := hM.lt (o32_e (f := fun x y => x + y) ezx117 rfl rfl)
            refine lv_bipush (v := 48) hx hb dX6_readNumber_85 (by decide) ?_
            refine lv_isub hx hb dX6_readNumber_87 ?_
            have nx118 := wk_i32 x117
            refine lv_topi (fun x119 ex119 => ?_)
            have ezx119 := ex119
            replace hM := hM.lt (o32_e (f := fun x y => x - y) ezx119 rfl (by decide))
            refine lv_istore_n (lv' := [(3, .int x119), (0, .ref (ad 1)), (1, .int 0), (2, .int a2)]) hx hb dX6_readNumber_88 rfl hl (by decide) rfl (fun ls hl => ?_)
            exact J89 x119 H locs ls w94 (show (-1) ≤ a2.toInt from r49) (show a2.toInt ≤ 11 from t50) (show 0 ≤ f32_1_1.toInt from r51) (show f32_1_1.toInt ≤ 399 by first | with_reducible assumption | omega) (show 1 ≤ f32_1_2.toInt from r54) (show f32_1_2.toInt ≤ 400 from t55) (show 0 ≤ f32_1_3.toInt from r57) (show f32_1_3.toInt ≤ 399 from t58)  hw hT hF c100 c101 c102 c103 hM (lv_sub hl [1, 2, 3, 0] rfl)
  have hM : TT (fun n => m_X6_readNumber n 1 0 a2.toInt (sI w0)) (fun n => m_X6_readNumber n 1 0 a2.toInt (sI w0)) := TT.rf
  refine lv_aload_n hx hb dX6_readNumber_0 rfl (lv_at hl 0 rfl) ?_
  refine tk_Vi hC hK hw hT hA hE hSR kC_at1 (by decide) rfl (kz_X6_isFaulty_2 l adK adV dC dI cy ad B hB0 (Int.le_trans hB1 (by decide)) qr s1    w0 s.heap.size hT cf0_) (cwV 0 hC.2.2.2.2 uV_RX6_39 rfl rfl rfl (by decide +kernel) ⟨Nat.le_of_ble_eq_true rfl, Nat.le_of_ble_eq_true rfl⟩) rfl hl.1 rfl (Nat.le_of_ble_eq_true rfl) dX6_readNumber_1 (fun r120 w122 H locs hp121 hw => ?_)
  obtain ⟨hT, k123, hv127, hg126⟩ := hp121
  have hF := hF.tr k123 (by decide)
  have c128 := k123.gi kC_at1 (by decide) cf0_
  obtain ⟨rfl, ⟨x124, c125, rx124, tx124⟩⟩ := hg126
  replace hM := hM.call (r' := 0) hv127 (by decide)
  have ex124 : x124.toInt = (0 : Int) := by rw [show x124 = 0 from c125.symm.trans c128]; decide
  refine lv_if_eq (tgt := 9) hx hb dX6_readNumber_4 (by decide) (fun _ => ?_) (fun c => absurd (by decide) c)
  replace hM := hM.pos (by decide)
  refine lv_aload_n hx hb dX6_readNumber_9 rfl (lv_at hl 0 rfl) ?_
  refine tk_Vi hC hK hw hT hA hE hSR kC_at1 (by decide) rfl (kz_X6_lookBehindBlanks_1 l adK adV dC dI cy ad B hB0 (Int.le_trans hB1 (by decide)) qr s1    w122 H.size hT ) (cwV 0 hC.2.2.2.2 uV_RX6_28 rfl rfl rfl (by decide +kernel) ⟨Nat.le_of_ble_eq_true rfl, Nat.le_of_ble_eq_true rfl⟩) rfl hl.1 rfl (Nat.le_of_ble_eq_true rfl) dX6_readNumber_10 (fun r129 w131 H locs hp130 hw => ?_)
  obtain ⟨hT, k132, hv142, hg141⟩ := hp130
  have hF := hF.tr k132 (by decide)
  have c143 := k132.gi kC_at1 (by decide) c128
  rcases hg141 with ⟨g133, g134, ⟨x135, c136, rx135, tx135⟩, ⟨x137, c138, rx137, tx137⟩, ⟨x139, c140, rx139, tx139⟩⟩ | rfl
  · replace hM := hM.call hv142 rfl
    refine tk_Si hC hK hw hT hA hE hSR (kz_X6_isDigit_1 l adK adV dC dI cy ad B hB0 (Int.le_trans hB1 (by decide)) qr s1   r129 (show 0 ≤ r129.toInt by first | with_reducible assumption | omega) (show r129.toInt ≤ 255 by first | with_reducible assumption | omega) w131 H.size hT ) (va_cwS 1 hC.2.2.2.2 uS_RX6_64 rfl rfl rfl (by decide +kernel) ⟨Nat.le_of_ble_eq_true rfl, Nat.le_of_ble_eq_true rfl⟩) rfl hl.1 rfl (Nat.le_of_ble_eq_true rfl) dX6_readNumber_13 (fun r144 w146 H locs hp145 hw => ?_)
    obtain ⟨hT, k147, hv151, hg150⟩ := hp145
    have hF := hF.tr k147 (by decide)
    have c152 := k147.gi kC_at1 (by decide) c143
    have c153 := k147.gi kC_at1 (by decide) c136
    have c154 := k147.gi kC_at1 (by decide) c138
    have c155 := k147.gi kC_at1 (by decide) c140
    rcases hg150 with rfl | ⟨rfl, g148, g149⟩
    · replace hM := hM.call (r' := 0) hv151 (by decide)
      refine lv_if_ne (tgt := 30) hx hb dX6_readNumber_16 (by decide) (fun c => absurd (by decide) c) (fun _ => ?_)
      replace hM := hM.neg (by decide)
      refine lv_aload_n hx hb dX6_readNumber_19 rfl (lv_at hl 0 rfl) ?_
      refine lv_aload_n hx hb dX6_readNumber_20 rfl (lv_at hl 0 rfl) ?_
      refine tk_geti hC hK hw hT hinX6 kC_at1 (by decide) rfl 3 (by decide) (List.mem_cons_of_mem _ uw_9_17) rfl rfl dX6_readNumber_21 (fun x156 c157 rx156 tx156 => ?_)
      refine wk_top x139 (c157.symm.trans c155) ?_
      replace hM := hM.rd (sI_at c155)
      refine lv_iconst (v := 0) hx hb dX6_readNumber_24 (by decide) ?_
      refine tk_Vv hC hK hw hT hA hE hSR kC_at1 (by decide) rfl (kz_X6_blame_2 l adK adV dC dI cy ad B hB0 (Int.le_trans hB1 (by decide)) qr s1   x139 (show 0 ≤ x139.toInt by first | with_reducible assumption | omega) (show x139.toInt ≤ 400 by first | with_reducible assumption | omega) 0 (by decide) (by decide) w146 H.size hT c152) (cwV 2 hC.2.2.2.2 uV_RX6_35 rfl rfl rfl (by decide +kernel) ⟨Nat.le_of_ble_eq_true rfl, Nat.le_of_ble_eq_true rfl⟩) rfl hl.1 rfl (Nat.le_of_ble_eq_true rfl) dX6_readNumber_25 (fun w160 H locs hp159 hw => ?_)
      obtain ⟨hT, k161, hv165, hg164⟩ := hp159
      try simp only [show (0 : Int32).toInt = 0 by decide] at hv165
      have hF := hF.tr k161 (by decide)
      have c166 := k161.gi kC_at1 (by decide) c153
      have c167 := k161.gi kC_at1 (by decide) c154
      have c168 := k161.gi kC_at1 (by decide) c155
      obtain ⟨x162, c163, rx162, tx162⟩ := hg164
      replace hM := hM.call hv165 rfl
      refine lv_iconst (v := (-1)) hx hb dX6_readNumber_28 (by decide) ?_
      exact tk_iret hC hr hlocks hK ⟨hT, hF, hM.ret (by decide), (Or.inr ⟨rfl, ⟨x162, c163, (show 1 ≤ x162.toInt by first | with_reducible assumption | omega), (show x162.toInt ≤ 3205 by first | with_reducible assumption | omega)⟩⟩)⟩ hw dX6_readNumber_29
    · replace hM := hM.call (r' := 1) hv151 (by decide)
      refine lv_if_ne (tgt := 30) hx hb dX6_readNumber_16 (by decide) (fun _ => ?_) (fun c => absurd c (by decide))
      replace hM := hM.pos (by decide)
      refine lv_iconst (v := 0) hx hb dX6_readNumber_30 (by decide) ?_
      refine lv_istore_n (lv' := [(3, .int 0), (0, .ref (ad 1)), (1, .int 0), (2, .int a2)]) hx hb dX6_readNumber_31 rfl hl (by decide) rfl (fun ls hl => ?_)
      exact L32 ((400 - x135.toInt).toNat + 1) 0 x135 x137 x139 H locs ls w146 (show (-1) ≤ a2.toInt from ra2) (show a2.toInt ≤ 11 from ta2) (show 0 ≤ x135.toInt by first | with_reducible assumption | omega) (show x135.toInt ≤ 400 by first | with_reducible assumption | omega) (show 1 ≤ x137.toInt by first | with_reducible assumption | omega) (show x137.toInt ≤ 400 by first | with_reducible assumption | omega) (show 0 ≤ x139.toInt by first | with_reducible assumption | omega) (show x139.toInt ≤ 399 by first | with_reducible assumption | omega) (Nat.lt_succ_self _) hw hT hF c153 c154 c155 c152 hM (lv_sub hl [1, 2, 3, 0] rfl)
  · replace hM := hM.call (r' := (-1)) hv142 (by decide)
    refine tk_Si hC hK hw hT hA hE hSR (kz_X6_isDigit_2 l adK adV dC dI cy ad B hB0 (Int.le_trans hB1 (by decide)) qr s1    w131 H.size hT ) (va_cwS 1 hC.2.2.2.2 uS_RX6_64 rfl rfl rfl (by decide +kernel) ⟨Nat.le_of_ble_eq_true rfl, Nat.le_of_ble_eq_true rfl⟩) rfl hl.1 rfl (Nat.le_of_ble_eq_true rfl) dX6_readNumber_13 (fun r169 w171 H locs hp170 hw => ?_)
    obtain ⟨hT, k172, hv174, hg173⟩ := hp170
    have hF := hF.tr k172 (by decide)
    have c175 := k172.gi kC_at1 (by decide) c143
    obtain rfl := hg173
    replace hM := hM.call (r' := 0) hv174 (by decide)
    refine lv_if_ne (tgt := 30) hx hb dX6_readNumber_16 (by decide) (fun c => absurd (by decide) c) (fun _ => ?_)
    replace hM := hM.neg (by decide)
    refine lv_aload_n hx hb dX6_readNumber_19 rfl (lv_at hl 0 rfl) ?_
    refine lv_aload_n hx hb dX6_readNumber_20 rfl (lv_at hl 0 rfl) ?_
    refine tk_geti hC hK hw hT hinX6 kC_at1 (by decide) rfl 3 (by decide) (List.mem_cons_of_mem _ uw_9_17) rfl rfl dX6_readNumber_21 (fun x176 c177 rx176 tx176 => ?_)
    replace hM := hM.rd (sI_at c177)
    refine lv_iconst (v := 0) hx hb dX6_readNumber_24 (by decide) ?_
    refine tk_Vv hC hK hw hT hA hE hSR kC_at1 (by decide) rfl (kz_X6_blame_2 l adK adV dC dI cy ad B hB0 (Int.le_trans hB1 (by decide)) qr s1   x176 (show 0 ≤ x176.toInt from rx176) (show x176.toInt ≤ 400 from tx176) 0 (by decide) (by decide) w171 H.size hT c175) (cwV 2 hC.2.2.2.2 uV_RX6_35 rfl rfl rfl (by decide +kernel) ⟨Nat.le_of_ble_eq_true rfl, Nat.le_of_ble_eq_true rfl⟩) rfl hl.1 rfl (Nat.le_of_ble_eq_true rfl) dX6_readNumber_25 (fun w180 H locs hp179 hw => ?_)
    obtain ⟨hT, k181, hv185, hg184⟩ := hp179
    try simp only [show (0 : Int32).toInt = 0 by decide] at hv185
    have hF := hF.tr k181 (by decide)
    have c186 := k181.gi kC_at1 (by decide) c177
    obtain ⟨x182, c183, rx182, tx182⟩ := hg184
    replace hM := hM.call hv185 rfl
    refine lv_iconst (v := (-1)) hx hb dX6_readNumber_28 (by decide) ?_
    exact tk_iret hC hr hlocks hK ⟨hT, hF, hM.ret (by decide), (Or.inr ⟨rfl, ⟨x182, c183, (show 1 ≤ x182.toInt by first | with_reducible assumption | omega), (show x182.toInt ≤ 3205 by first | with_reducible assumption | omega)⟩⟩)⟩ hw dX6_readNumber_29
abbrev Pz_X6_readNumber_10 (ad : Nat → Nat) (cy : Nat → ClassId) (B : Int) (qr : Nat) (s1 : Int)  (w0 : va_W) : Int32 → va_W → Prop := fun r u => TW ksC ad cy B qr s1 u ∧ FE ksC [(6, 1, 1), (6, 3, 3), (6, 4, 4)] w0 u ∧ Ev (fun n => m_X6_readNumber n 1 0 23 (sI w0)) (r.toInt, sI u) ∧ ((0 ≤ r.toInt ∧ r.toInt ≤ 23 ∧ (∃ y : Int32, gi u 1 2 = y ∧ 1 ≤ y.toInt ∧ y.toInt ≤ 400) ∧ (∃ y : Int32, gi u 1 3 = y ∧ 0 ≤ y.toInt ∧ y.toInt ≤ 399) ∧ (∃ y : Int32, gi u 1 4 = y ∧ 0 ≤ y.toInt ∧ y.toInt ≤ 0)) ∨ (r = (-1) ∧ (∃ y : Int32, gi u 1 4 = y ∧ 1 ≤ y.toInt ∧ y.toInt ≤ 3205)))
set_option maxHeartbeats 4000000 in
set_option maxRecDepth 100000 in
theorem kz_X6_readNumber_10 (l : Launch) (adK adV : Nat → Nat) (dC : Nat → ClassId) (dI : Nat → Nat → Nat) (cy : Nat → ClassId) (ad : Nat → Nat) (B : Int) (hB0 : 2147483648 ≤ B) (hB1 : B ≤ 1152921504606846976) (qr : Nat) (s1 : Int)   (w0 : va_W) (sz : Nat) (hT : TW ksC ad cy B qr s1 w0) (cf0_ : gi w0 1 4 = 0) : Met l yX6_readNumber (wu yX6_readNumber cX6_readNumber 4 (some .int)) ({ frames := 2, cells := 0, slots := 0, locals := 34 }) (va_Pc [.ref (ad 1), .int 0, .int 23] (wpreS adK adV dC dI cy sz w0)) (va_Qi (Pz_X6_readNumber_10 ad cy B qr s1  w0) (fun u : va_W => wpost dC dI cy (va_A w0 sz) u) (va_A w0 sz)) 0 0 (va_A w0 sz) := by
  refine Met.ofW (cc := cX6_readNumber) (maxL := 4) (ret := (some .int)) (by decide) rfl ?_
  intro p e s m args below meth c s₁ Bk hml hv
  obtain ⟨rfl, ⟨hsz, hP, hK, hD0⟩, hE, hSR⟩ := hv
  have hx := Bk.exec
  have hb := Bk.bytes
  have hr := Bk.returns
  have hlocks := Bk.notSynchronized
  have hC : CallFix p m c cX6_readNumber 4 s _ (wu yX6_readNumber cX6_readNumber 4 (some .int)) RX6 := ⟨hx, hb, hml, findClass_of_methodNamed Bk.named, atoms_spec (ws := (wu yX6_readNumber cX6_readNumber 4 (some .int))) Bk.pre⟩
  subst hsz
  have hD := hD0.self (sz := s.heap.size)
  generalize hAe : va_A w0 s.heap.size = A at hD hE ⊢
  have hA : ∀ q : Nat, s.heap.size ≤ q → A q := fun q h => by rw [← hAe]; exact Or.inr h
  have hw : Wd dC dI A s.heap s.heap [] w0 := ⟨hP, hD, va_S.rf⟩
  have hF : FE ksC [(6, 1, 1), (6, 3, 3), (6, 4, 4)] w0 w0 := FE.rf
  have hl := lv_entry ([.ref (ad 1), .int 0, .int 23]) (n := 4) (Nat.le_of_ble_eq_true rfl)
  rw [lg_entry_eq]
  generalize (lg_sl ([.ref (ad 1), .int 0, .int 23]) ++ List.replicate (4 - (lg_sl ([.ref (ad 1), .int 0, .int 23])).length) Slot.unset).toArray = ls at hl ⊢
  have hl : lv_has ls 4 [(0, .ref (ad 1)), (1, .int 0), (2, .int 23)] := hl
  generalize hloc : ([] : List Loc) = locs at hw ⊢
  have hinX6 : ∀ w ∈ u_ws RX6 TX6 5, w ∈ (wu yX6_readNumber cX6_readNumber 4 (some .int)) := fun _ h => List.mem_cons_of_mem _ (up_72 h)
  have J125 : ∀ (v125_3 : Int32) (f125_1_1 : Int32) (f125_1_2 : Int32) (f125_1_3 : Int32) (H : Heap) (locs : List Loc) (ls : Array Slot) (w1 : va_W), 0 ≤ f125_1_1.toInt → f125_1_1.toInt ≤ 400 → 1 ≤ f125_1_2.toInt → f125_1_2.toInt ≤ 400 → 0 ≤ f125_1_3.toInt → f125_1_3.toInt ≤ 399 → Wd dC dI A s.heap H locs w1 → TW ksC ad cy B qr s1 w1 → FE ksC [(6, 1, 1), (6, 3, 3), (6, 4, 4)] w0 w1 → gi w1 1 1 = f125_1_1 → gi w1 1 2 = f125_1_2 → gi w1 1 3 = f125_1_3 → gi w1 1 4 = 0 → TT (fun n => m_X6_readNumber n 1 0 23 (sI w0)) (fun n => b_X6_readNumber_125 (j_X6_readNumber 1 n) n 1 (sI w1)) → lv_has ls 4 [(0, .ref (ad 1)), (1, .int 0), (2, .int 23), (3, .int v125_3)] → W p l e ({ frames := 2, cells := 0, slots := 0, locals := 34 }) s m (List.toArray [.ref (ad 1), .int 0, .int 23]) below meth c H locs 0 0 (MQ below (va_Qi (Pz_X6_readNumber_10 ad cy B qr s1  w0) (fun u : va_W => wpost dC dI cy A u) A) (List.toArray [.ref (ad 1), .int 0, .int 23]) s 0 0 A) (F0 m 125 ls []) := by
    intro v125_3 f125_1_1 f125_1_2 f125_1_3 H locs ls w1 r2 t3 r5 t6 r8 t9 hw hT hF c4 c7 c10 c11 hM hl
    refine lv_aload_n hx hb dX6_readNumber_125 rfl (lv_at hl 0 rfl) ?_
    refine lv_aload_n hx hb dX6_readNumber_126 rfl (lv_at hl 0 rfl) ?_
    refine tk_geti hC hK hw hT hinX6 kC_at1 (by decide) rfl 3 (by decide) (List.mem_cons_of_mem _ uw_9_17) rfl rfl dX6_readNumber_127 (fun x12 c13 rx12 tx12 => ?_)
    refine wk_top f125_1_3 (c13.symm.trans c10) ?_
    replace hM := hM.rd (sI_at c10)
    refine lv_iconst (v := 1) hx hb dX6_readNumber_130 (by decide) ?_
    refine tk_Vv hC hK hw hT hA hE hSR kC_at1 (by decide) rfl (kz_X6_blame_2 l adK adV dC dI cy ad B hB0 (Int.le_trans hB1 (by decide)) qr s1   f125_1_3 (show 0 ≤ f125_1_3.toInt from r8) (show f125_1_3.toInt ≤ 400 from Int.le_trans t9 (by decide)) 1 (by decide) (by decide) w1 H.size hT c11) (cwV 2 hC.2.2.2.2 uV_RX6_35 rfl rfl rfl (by decide +kernel) ⟨Nat.le_of_ble_eq_true rfl, Nat.le_of_ble_eq_true rfl⟩) rfl hl.1 rfl (Nat.le_of_ble_eq_true rfl) dX6_readNumber_131 (fun w16 H locs hp15 hw => ?_)
    obtain ⟨hT, k17, hv21, hg20⟩ := hp15
    try simp only [show (1 : Int32).toInt = 1 by decide] at hv21
    have hF := hF.tr k17 (by decide)
    have c22 := k17.gi kC_at1 (by decide) c4
    have c23 := k17.gi kC_at1 (by decide) c7
    have c24 := k17.gi kC_at1 (by decide) c10
    obtain ⟨x18, c19, rx18, tx18⟩ := hg20
    replace hM := hM.call hv21 rfl
    refine lv_iconst (v := (-1)) hx hb dX6_readNumber_134 (by decide) ?_
    exact tk_iret hC hr hlocks hK ⟨hT, hF, hM.ret (by decide), (Or.inr ⟨rfl, ⟨x18, c19, (show 1 ≤ x18.toInt by first | with_reducible assumption | omega), (show x18.toInt ≤ 3205 by first | with_reducible assumption | omega)⟩⟩)⟩ hw dX6_readNumber_135
  have J102 : ∀ (v102_3 : Int32) (f102_1_1 : Int32) (f102_1_2 : Int32) (f102_1_3 : Int32) (H : Heap) (locs : List Loc) (ls : Array Slot) (w25 : va_W), 0 ≤ f102_1_1.toInt → f102_1_1.toInt ≤ 400 → 1 ≤ f102_1_2.toInt → f102_1_2.toInt ≤ 400 → 0 ≤ f102_1_3.toInt → f102_1_3.toInt ≤ 399 → Wd dC dI A s.heap H locs w25 → TW ksC ad cy B qr s1 w25 → FE ksC [(6, 1, 1), (6, 3, 3), (6, 4, 4)] w0 w25 → gi w25 1 1 = f102_1_1 → gi w25 1 2 = f102_1_2 → gi w25 1 3 = f102_1_3 → gi w25 1 4 = 0 → TT (fun n => m_X6_readNumber n 1 0 23 (sI w0)) (fun n => b_X6_readNumber_102 (j_X6_readNumber 1 n) n 1 (0 : Int) (23 : Int) (v102_3.toInt) (sI w25)) → lv_has ls 4 [(0, .ref (ad 1)), (1, .int 0), (2, .int 23), (3, .int v102_3)] → W p l e ({ frames := 2, cells := 0, slots := 0, locals := 34 }) s m (List.toArray [.ref (ad 1), .int 0, .int 23]) below meth c H locs 0 0 (MQ below (va_Qi (Pz_X6_readNumber_10 ad cy B qr s1  w0) (fun u : va_W => wpost dC dI cy A u) A) (List.toArray [.ref (ad 1), .int 0, .int 23]) s 0 0 A) (F0 m 102 ls []) := by
    intro v102_3 f102_1_1 f102_1_2 f102_1_3 H locs ls w25 r26 t27 r29 t30 r32 t33 hw hT hF c28 c31 c34 c35 hM hl
    refine lv_aload_n hx hb dX6_readNumber_102 rfl (lv_at hl 0 rfl) ?_
    refine tk_geti hC hK hw hT hinX6 kC_at1 (by decide) rfl 1 (by decide) (List.mem_cons_of_mem _ uw_9_16) rfl rfl dX6_readNumber_103 (fun x36 c37 rx36 tx36 => ?_)
    refine wk_top f102_1_1 (c37.symm.trans c28) ?_
    replace hM := hM.rd (sI_at c28)
    refine lv_aload_n hx hb dX6_readNumber_106 rfl (lv_at hl 0 rfl) ?_
    refine tk_geti hC hK hw hT hinX6 kC_at1 (by decide) rfl 3 (by decide) (List.mem_cons_of_mem _ uw_9_17) rfl rfl dX6_readNumber_107 (fun x38 c39 rx38 tx38 => ?_)
    refine wk_top f102_1_3 (c39.symm.trans c34) ?_
    replace hM := hM.rd (sI_at c34)
    refine lv_isub hx hb dX6_readNumber_110 ?_
    refine lv_topi (fun x40 ex40 => ?_)
    have ezx40 := ex40
    have ex40 : x40.toInt = f102_1_1.toInt - f102_1_3.toInt := by rw [ex40]; exact wk_sub (show (-2147483648) ≤ f102_1_1.toInt - f102_1_3.toInt by omega) (show f102_1_1.toInt - f102_1_3.toInt ≤ 2147483647 by omega)
    replace hM := hM.lt ex40.symm
    refine lv_iconst (v := 5) hx hb dX6_readNumber_111 (by decide) ?_
    refine lv_icmp_gt (tgt := 125) hx hb dX6_readNumber_112 (by decide) (fun c41 => ?_) (fun c41 => ?_)
    · have c41 : (5 : Int) < x40.toInt := wk_lt.mp c41
      replace hM := hM.pos c41
      exact J125 v102_3 f102_1_1 f102_1_2 f102_1_3 H locs ls w25 (show 0 ≤ f102_1_1.toInt from r26) (show f102_1_1.toInt ≤ 400 from t27) (show 1 ≤ f102_1_2.toInt from r29) (show f102_1_2.toInt ≤ 400 from t30) (show 0 ≤ f102_1_3.toInt from r32) (show f102_1_3.toInt ≤ 399 from t33)  hw hT hF c28 c31 c34 c35 hM (lv_sub hl [0, 1, 2, 3] rfl)
    · have c41 : x40.toInt ≤ (5 : Int) := wk_ltF c41
      replace hM := hM.neg (Int.not_lt.mpr c41)
      refine lv_iload_n hx hb dX6_readNumber_115 rfl (lv_at hl 3 rfl) ?_
      refine lv_iload_n hx hb dX6_readNumber_116 rfl (lv_at hl 1 rfl) ?_
      refine lv_icmp_lt (tgt := 125) hx hb dX6_readNumber_117 (by decide) (fun c42 => ?_) (fun c42 => ?_)
      · have c42 : v102_3.toInt < (0 : Int) := wk_lt.mp c42
        replace hM := hM.pos c42
        exact J125 v102_3 f102_1_1 f102_1_2 f102_1_3 H locs ls w25 (show 0 ≤ f102_1_1.toInt from r26) (show f102_1_1.toInt ≤ 400 from t27) (show 1 ≤ f102_1_2.toInt from r29) (show f102_1_2.toInt ≤ 400 from t30) (show 0 ≤ f102_1_3.toInt from r32) (show f102_1_3.toInt ≤ 399 from t33)  hw hT hF c28 c31 c34 c35 hM (lv_sub hl [0, 1, 2, 3] rfl)
      · have c42 : (0 : Int) ≤ v102_3.toInt := wk_ltF c42
        replace hM := hM.neg (Int.not_lt.mpr c42)
        refine lv_iload_n hx hb dX6_readNumber_120 rfl (lv_at hl 3 rfl) ?_
        refine lv_iload_n hx hb dX6_readNumber_121 rfl (lv_at hl 2 rfl) ?_
        refine lv_icmp_le (tgt := 136) hx hb dX6_readNumber_122 (by decide) (fun c43 => ?_) (fun c43 => ?_)
        · have c43 : v102_3.toInt ≤ (23 : Int) := wk_le.mp c43
          replace hM := hM.pos c43
          refine lv_iload_n hx hb dX6_readNumber_136 rfl (lv_at hl 3 rfl) ?_
          exact tk_iret hC hr hlocks hK ⟨hT, hF, hM.ret rfl, (Or.inl ⟨(show 0 ≤ v102_3.toInt by first | with_reducible assumption | omega), (show v102_3.toInt ≤ 23 by first | with_reducible assumption | omega), ⟨f102_1_2, c31, (show 1 ≤ f102_1_2.toInt from r29), (show f102_1_2.toInt ≤ 400 from t30)⟩, ⟨f102_1_3, c34, (show 0 ≤ f102_1_3.toInt from r32), (show f102_1_3.toInt ≤ 399 from t33)⟩, ⟨0, c35, (by decide), (by decide)⟩⟩)⟩ hw dX6_readNumber_137
        · have c43 : (23 : Int) < v102_3.toInt := wk_leF c43
          replace hM := hM.neg (Int.not_le.mpr c43)
          exact J125 v102_3 f102_1_1 f102_1_2 f102_1_3 H locs ls w25 (show 0 ≤ f102_1_1.toInt from r26) (show f102_1_1.toInt ≤ 400 from t27) (show 1 ≤ f102_1_2.toInt from r29) (show f102_1_2.toInt ≤ 400 from t30) (show 0 ≤ f102_1_3.toInt from r32) (show f102_1_3.toInt ≤ 399 from t33)  hw hT hF c28 c31 c34 c35 hM (lv_sub hl [0, 1, 2, 3] rfl)
  have L32 : ∀ (n32 : Nat) (v32_3 : Int32) (f32_1_1 : Int32) (f32_1_2 : Int32) (f32_1_3 : Int32) (H : Heap) (locs : List Loc) (ls : Array Slot) (w44 : va_W), 0 ≤ f32_1_1.toInt → f32_1_1.toInt ≤ 400 → 1 ≤ f32_1_2.toInt → f32_1_2.toInt ≤ 400 → 0 ≤ f32_1_3.toInt → f32_1_3.toInt ≤ 399 → (400 - f32_1_1.toInt).toNat < n32 → Wd dC dI A s.heap H locs w44 → TW ksC ad cy B qr s1 w44 → FE ksC [(6, 1, 1), (6, 3, 3), (6, 4, 4)] w0 w44 → gi w44 1 1 = f32_1_1 → gi w44 1 2 = f32_1_2 → gi w44 1 3 = f32_1_3 → gi w44 1 4 = 0 → TT (fun n => m_X6_readNumber n 1 0 23 (sI w0)) (fun n => j_X6_readNumber 1 n 32 [(0 : Int), (23 : Int), v32_3.toInt] (sI w44)) → lv_has ls 4 [(0, .ref (ad 1)), (1, .int 0), (2, .int 23), (3, .int v32_3)] → W p l e ({ frames := 2, cells := 0, slots := 0, locals := 34 }) s m (List.toArray [.ref (ad 1), .int 0, .int 23]) below meth c H locs 0 0 (MQ below (va_Qi (Pz_X6_readNumber_10 ad cy B qr s1  w0) (fun u : va_W => wpost dC dI cy A u) A) (List.toArray [.ref (ad 1), .int 0, .int 23]) s 0 0 A) (F0 m 32 ls []) := by
    intro n32
    induction n32 with
    | zero => intro v32_3 f32_1_1 f32_1_2 f32_1_3 H locs ls w44 r45 t46 r48 t49 r51 t52 hm32 hw hT hF c47 c50 c53 c54 hM hl; omega
    | succ n32 ih32 =>
      intro v32_3 f32_1_1 f32_1_2 f32_1_3 H locs ls w44 r45 t46 r48 t49 r51 t52 hm32 hw hT hF c47 c50 c53 c54 hM hl
      have J89 : ∀ (v89_3 : Int32) (H : Heap) (locs : List Loc) (ls : Array Slot) (w55 : va_W), 0 ≤ f32_1_1.toInt → f32_1_1.toInt ≤ 399 → 1 ≤ f32_1_2.toInt → f32_1_2.toInt ≤ 400 → 0 ≤ f32_1_3.toInt → f32_1_3.toInt ≤ 399 → Wd dC dI A s.heap H locs w55 → TW ksC ad cy B qr s1 w55 → FE ksC [(6, 1, 1), (6, 3, 3), (6, 4, 4)] w0 w55 → gi w55 1 1 = f32_1_1 → gi w55 1 2 = f32_1_2 → gi w55 1 3 = f32_1_3 → gi w55 1 4 = 0 → TT (fun n => m_X6_readNumber n 1 0 23 (sI w0)) (fun n => b_X6_readNumber_89 (j_X6_readNumber 1 n) n 1 (0 : Int) (23 : Int) (v89_3.toInt) (sI w55)) → lv_has ls 4 [(0, .ref (ad 1)), (1, .int 0), (2, .int 23), (3, .int v89_3)] → W p l e ({ frames := 2, cells := 0, slots := 0, locals := 34 }) s m (List.toArray [.ref (ad 1), .int 0, .int 23]) below meth c H locs 0 0 (MQ below (va_Qi (Pz_X6_readNumber_10 ad cy B qr s1  w0) (fun u : va_W => wpost dC dI cy A u) A) (List.toArray [.ref (ad 1), .int 0, .int 23]) s 0 0 A) (F0 m 89 ls []) := by
        intro v89_3 H locs ls w55 r56 t57 r59 t60 r62 t63 hw hT hF c58 c61 c64 c65 hM hl
        refine lv_aload_n hx hb dX6_readNumber_89 rfl (lv_at hl 0 rfl) ?_
        refine lv_dup hx hb dX6_readNumber_90 rfl ?_
        refine tk_geti hC hK hw hT hinX6 kC_at1 (by decide) rfl 1 (by decide) (List.mem_cons_of_mem _ uw_9_16) rfl rfl dX6_readNumber_91 (fun x66 c67 rx66 tx66 => ?_)
        refine wk_top f32_1_1 (c67.symm.trans c58) ?_
        replace hM := hM.rd (sI_at c58)
        refine lv_iconst (v := 1) hx hb dX6_readNumber_94 (by decide) ?_
        refine lv_iadd hx hb dX6_readNumber_95 ?_
        refine lv_topi (fun x68 ex68 => ?_)
        have ezx68 := ex68
        have ex68 : x68.toInt = f32_1_1.toInt + (1 : Int) := by rw [ex68]; exact wk_add (show (-2147483648) ≤ f32_1_1.toInt + (1 : Int) by omega) (show f32_1_1.toInt + (1 : Int) ≤ 2147483647 by omega)
        replace hM := hM.lt ex68.symm
        refine tk_puti hC hK hw hT hinX6 tyX6_ok nmX6 kC_at1 (by decide) rfl rfl 1 (by decide) (List.mem_cons_of_mem _ uw_9_16) rfl rfl rfl rfl (show 0 ≤ x68.toInt by first | with_reducible assumption | omega) (show x68.toInt ≤ 400 by first | with_reducible assumption | omega) dX6_readNumber_96 (fun H locs w69 hw hT k71 c70 => ?_)
        replace hM := hM.wr (sI_up k71 c70)
        have hF := hF.put kC_at1 (k := 1) (by decide) k71
        have c72 := k71.gi (Or.inr (by decide)) c61
        have c73 := k71.gi (Or.inr (by decide)) c64
        have c74 := k71.gi (Or.inr (by decide)) c65
        refine lv_goto (tgt := 32) hx hb dX6_readNumber_99 (by decide) ?_
        exact ih32 v89_3 x68 f32_1_2 f32_1_3 H locs ls w69 (show 0 ≤ x68.toInt by first | with_reducible assumption | omega) (show x68.toInt ≤ 400 by first | with_reducible assumption | omega) (show 1 ≤ f32_1_2.toInt from r59) (show f32_1_2.toInt ≤ 400 from t60) (show 0 ≤ f32_1_3.toInt from r62) (show f32_1_3.toInt ≤ 399 from t63) (show (400 - x68.toInt).toNat < n32 by first | exact tn_lt hm32 (by omega) (by omega) | omega) hw hT hF c70 c72 c73 c74 hM (lv_sub hl [0, 1, 2, 3] rfl)
      replace hM := hM.suc (fun _ => e_X6_readNumber_32)
      refine lv_aload_n hx hb dX6_readNumber_32 rfl (lv_at hl 0 rfl) ?_
      refine tk_geti hC hK hw hT hinX6 kC_at1 (by decide) rfl 1 (by decide) (List.mem_cons_of_mem _ uw_9_16) rfl rfl dX6_readNumber_33 (fun x75 c76 rx75 tx75 => ?_)
      refine wk_top f32_1_1 (c76.symm.trans c47) ?_
      replace hM := hM.rd (sI_at c47)
      refine lv_aload_n hx hb dX6_readNumber_36 rfl (lv_at hl 0 rfl) ?_
      refine tk_geti hC hK hw hT hinX6 kC_at1 (by decide) rfl 2 (by decide) (List.mem_cons_of_mem _ uw_7_22) rfl rfl dX6_readNumber_37 (fun x77 c78 rx77 tx77 => ?_)
      refine wk_top f32_1_2 (c78.symm.trans c50) ?_
      replace hM := hM.rd (sI_at c50)
      refine lv_icmp_ge (tgt := 102) hx hb dX6_readNumber_40 (by decide) (fun c79 => ?_) (fun c79 => ?_)
      · have c79 : f32_1_2.toInt ≤ f32_1_1.toInt := wk_le.mp c79
        replace hM := hM.pos c79
        exact J102 v32_3 f32_1_1 f32_1_2 f32_1_3 H locs ls w44 (show 0 ≤ f32_1_1.toInt from r45) (show f32_1_1.toInt ≤ 400 from t46) (show 1 ≤ f32_1_2.toInt from r48) (show f32_1_2.toInt ≤ 400 from t49) (show 0 ≤ f32_1_3.toInt from r51) (show f32_1_3.toInt ≤ 399 from t52)  hw hT hF c47 c50 c53 c54 hM (lv_sub hl [0, 1, 2, 3] rfl)
      · have c79 : f32_1_1.toInt < f32_1_2.toInt := wk_leF c79
        replace hM := hM.neg (Int.not_le.mpr c79)
        refine lv_aload_n hx hb dX6_readNumber_43 rfl (lv_at hl 0 rfl) ?_
        refine tk_getA hC hK hw hT hinX6 kC_at1 (by decide) rfl 0 (by decide) (List.mem_cons_of_mem _ uw_2_12) rfl rfl dX6_readNumber_44 ?_
        refine lv_aload_n hx hb dX6_readNumber_47 rfl (lv_at hl 0 rfl) ?_
        refine tk_geti hC hK hw hT hinX6 kC_at1 (by decide) rfl 1 (by decide) (List.mem_cons_of_mem _ uw_9_16) rfl rfl dX6_readNumber_48 (fun x80 c81 rx80 tx80 => ?_)
        refine wk_top f32_1_1 (c81.symm.trans c47) ?_
        replace hM := hM.rd (sI_at c47)
        refine tk_iald hC hK hw hT kC_at2 rfl rfl (show 0 ≤ f32_1_1.toInt from r45) (show f32_1_1.toInt < 400 by first | with_reducible assumption | omega) dX6_readNumber_51 (fun x82 c83 rx82 tx82 => ?_)
        have hox82 := c83
        replace hM := hM.rd (sI_at hox82)
        refine tk_Si hC hK hw hT hA hE hSR (kz_X6_isDigit_1 l adK adV dC dI cy ad B hB0 (Int.le_trans hB1 (by decide)) qr s1   x82 (show 0 ≤ x82.toInt from rx82) (show x82.toInt ≤ 255 from tx82) w44 H.size hT ) (va_cwS 1 hC.2.2.2.2 uS_RX6_64 rfl rfl rfl (by decide +kernel) ⟨Nat.le_of_ble_eq_true rfl, Nat.le_of_ble_eq_true rfl⟩) rfl hl.1 rfl (Nat.le_of_ble_eq_true rfl) dX6_readNumber_52 (fun r84 w86 H locs hp85 hw => ?_)
        obtain ⟨hT, k87, hv91, hg90⟩ := hp85
        have hF := hF.tr k87 (by decide)
        have c92 := k87.gi kC_at1 (by decide) c47
        have c93 := k87.gi kC_at1 (by decide) c50
        have c94 := k87.gi kC_at1 (by decide) c53
        have c95 := k87.gi kC_at1 (by decide) c54
        rcases hg90 with rfl | ⟨rfl, g88, g89⟩
        · replace hM := hM.call (r' := 0) hv91 (by decide)
          refine lv_if_eq (tgt := 102) hx hb dX6_readNumber_55 (by decide) (fun _ => ?_) (fun c => absurd (by decide) c)
          replace hM := hM.pos (by decide)
          exact J102 v32_3 f32_1_1 f32_1_2 f32_1_3 H locs ls w86 (show 0 ≤ f32_1_1.toInt from r45) (show f32_1_1.toInt ≤ 400 from t46) (show 1 ≤ f32_1_2.toInt from r48) (show f32_1_2.toInt ≤ 400 from t49) (show 0 ≤ f32_1_3.toInt from r51) (show f32_1_3.toInt ≤ 399 from t52)  hw hT hF c92 c93 c94 c95 hM (lv_sub hl [0, 1, 2, 3] rfl)
        · replace hM := hM.call (r' := 1) hv91 (by decide)
          refine lv_if_eq (tgt := 102) hx hb dX6_readNumber_55 (by decide) (fun c => absurd c (by decide)) (fun _ => ?_)
          replace hM := hM.neg (by decide)
          refine lv_aload_n hx hb dX6_readNumber_58 rfl (lv_at hl 0 rfl) ?_
          refine tk_geti hC hK hw hT hinX6 kC_at1 (by decide) rfl 1 (by decide) (List.mem_cons_of_mem _ uw_9_16) rfl rfl dX6_readNumber_59 (fun x96 c97 rx96 tx96 => ?_)
          refine wk_top f32_1_1 (c97.symm.trans c92) ?_
          replace hM := hM.rd (sI_at c92)
          refine lv_aload_n hx hb dX6_readNumber_62 rfl (lv_at hl 0 rfl) ?_
          refine tk_geti hC hK hw hT hinX6 kC_at1 (by decide) rfl 3 (by decide) (List.mem_cons_of_mem _ uw_9_17) rfl rfl dX6_readNumber_63 (fun x98 c99 rx98 tx98 => ?_)
          refine wk_top f32_1_3 (c99.symm.trans c94) ?_
          replace hM := hM.rd (sI_at c94)
          refine lv_isub hx hb dX6_readNumber_66 ?_
          refine lv_topi (fun x100 ex100 => ?_)
          have ezx100 := ex100
          have ex100 : x100.toInt = f32_1_1.toInt - f32_1_3.toInt := by rw [ex100]; exact wk_sub (show (-2147483648) ≤ f32_1_1.toInt - f32_1_3.toInt by omega) (show f32_1_1.toInt - f32_1_3.toInt ≤ 2147483647 by omega)
          replace hM := hM.lt ex100.symm
          refine lv_iconst (v := 5) hx hb dX6_readNumber_67 (by decide) ?_
          refine lv_icmp_ge (tgt := 89) hx hb dX6_readNumber_68 (by decide) (fun c101 => ?_) (fun c101 => ?_)
          · have c101 : (5 : Int) ≤ x100.toInt := wk_le.mp c101
            replace hM := hM.pos c101
            exact J89 v32_3 H locs ls w86 (show 0 ≤ f32_1_1.toInt from r45) (show f32_1_1.toInt ≤ 399 by first | with_reducible assumption | omega) (show 1 ≤ f32_1_2.toInt from r48) (show f32_1_2.toInt ≤ 400 from t49) (show 0 ≤ f32_1_3.toInt from r51) (show f32_1_3.toInt ≤ 399 from t52)  hw hT hF c92 c93 c94 c95 hM (lv_sub hl [0, 1, 2, 3] rfl)
          · have c101 : x100.toInt < (5 : Int) := wk_leF c101
            replace hM := hM.neg (Int.not_le.mpr c101)
            refine lv_iload_n hx hb dX6_readNumber_71 rfl (lv_at hl 3 rfl) ?_
            refine lv_bipush (v := 10) hx hb dX6_readNumber_72 (by decide) ?_
            refine lv_imul hx hb dX6_readNumber_74 ?_
            have nx102 := wk_i32 v32_3
            refine lv_topi (fun x103 ex103 => ?_)
            have ezx103 := ex103
            replace hM := hM.lt (o32_e (f := fun x y => x * y) ezx103 rfl (by decide))
            refine lv_aload_n hx hb dX6_readNumber_75 rfl (lv_at hl 0 rfl) ?_
            refine tk_getA hC hK hw hT hinX6 kC_at1 (by decide) rfl 0 (by decide) (List.mem_cons_of_mem _ uw_2_12) rfl rfl dX6_readNumber_76 ?_
            refine lv_aload_n hx hb dX6_readNumber_79 rfl (lv_at hl 0 rfl) ?_
            refine tk_geti hC hK hw hT hinX6 kC_at1 (by decide) rfl 1 (by decide) (List.mem_cons_of_mem _ uw_9_16) rfl rfl dX6_readNumber_80 (fun x104 c105 rx104 tx104 => ?_)
            refine wk_top f32_1_1 (c105.symm.trans c92) ?_
            replace hM := hM.rd (sI_at c92)
            refine tk_iald hC hK hw hT kC_at2 rfl rfl (show 0 ≤ f32_1_1.toInt from r45) (show f32_1_1.toInt < 400 by first | with_reducible assumption | omega) dX6_readNumber_83 (fun x106 c107 rx106 tx106 => ?_)
            have hox106 := c107
            replace hM := hM.rd (sI_at hox106)
            refine lv_iadd hx hb dX6_readNumber_84 ?_
            have nx108 := wk_i32 x103
            refine lv_topi (fun x109 ex109 => ?_)
            have ezx109 := ex109
            replace hM := hM.lt (o32_e (f := fun x y => x + y) ezx109 rfl rfl)
            refine lv_bipush (v := 48) hx hb dX6_readNumber_85 (by decide) ?_
            refine lv_isub hx hb dX6_readNumber_87 ?_
            have nx110 := wk_i32 x109
            refine lv_topi (fun x111 ex111 => ?_)
            have ezx111 := ex111
            replace hM := hM.lt (o32_e (f := fun x y => x - y) ezx111 rfl (by decide))
            refine lv_istore_n (lv' := [(3, .int x111), (0, .ref (ad 1)), (1, .int 0), (2, .int 23)]) hx hb dX6_readNumber_88 rfl hl (by decide) rfl (fun ls hl => ?_)
            exact J89 x111 H locs ls w86 (show 0 ≤ f32_1_1.toInt from r45) (show f32_1_1.toInt ≤ 399 by first | with_reducible assumption | omega) (show 1 ≤ f32_1_2.toInt from r48) (show f32_1_2.toInt ≤ 400 from t49) (show 0 ≤ f32_1_3.toInt from r51) (show f32_1_3.toInt ≤ 399 from t52)  hw hT hF c92 c93 c94 c95 hM (lv_sub hl [1, 2, 3, 0] rfl)
  have hM : TT (fun n => m_X6_readNumber n 1 0 23 (sI w0)) (fun n => m_X6_readNumber n 1 0 23 (sI w0)) := TT.rf
  refine lv_aload_n hx hb dX6_readNumber_0 rfl (lv_at hl 0 rfl) ?_
  refine tk_Vi hC hK hw hT hA hE hSR kC_at1 (by decide) rfl (kz_X6_isFaulty_2 l adK adV dC dI cy ad B hB0 (Int.le_trans hB1 (by decide)) qr s1    w0 s.heap.size hT cf0_) (cwV 0 hC.2.2.2.2 uV_RX6_39 rfl rfl rfl (by decide +kernel) ⟨Nat.le_of_ble_eq_true rfl, Nat.le_of_ble_eq_true rfl⟩) rfl hl.1 rfl (Nat.le_of_ble_eq_true rfl) dX6_readNumber_1 (fun r112 w114 H locs hp113 hw => ?_)
  obtain ⟨hT, k115, hv119, hg118⟩ := hp113
  have hF := hF.tr k115 (by decide)
  have c120 := k115.gi kC_at1 (by decide) cf0_
  obtain ⟨rfl, ⟨x116, c117, rx116, tx116⟩⟩ := hg118
  replace hM := hM.call (r' := 0) hv119 (by decide)
  have ex116 : x116.toInt = (0 : Int) := by rw [show x116 = 0 from c117.symm.trans c120]; decide
  refine lv_if_eq (tgt := 9) hx hb dX6_readNumber_4 (by decide) (fun _ => ?_) (fun c => absurd (by decide) c)
  replace hM := hM.pos (by decide)
  refine lv_aload_n hx hb dX6_readNumber_9 rfl (lv_at hl 0 rfl) ?_
  refine tk_Vi hC hK hw hT hA hE hSR kC_at1 (by decide) rfl (kz_X6_lookBehindBlanks_1 l adK adV dC dI cy ad B hB0 (Int.le_trans hB1 (by decide)) qr s1    w114 H.size hT ) (cwV 0 hC.2.2.2.2 uV_RX6_28 rfl rfl rfl (by decide +kernel) ⟨Nat.le_of_ble_eq_true rfl, Nat.le_of_ble_eq_true rfl⟩) rfl hl.1 rfl (Nat.le_of_ble_eq_true rfl) dX6_readNumber_10 (fun r121 w123 H locs hp122 hw => ?_)
  obtain ⟨hT, k124, hv134, hg133⟩ := hp122
  have hF := hF.tr k124 (by decide)
  have c135 := k124.gi kC_at1 (by decide) c120
  rcases hg133 with ⟨g125, g126, ⟨x127, c128, rx127, tx127⟩, ⟨x129, c130, rx129, tx129⟩, ⟨x131, c132, rx131, tx131⟩⟩ | rfl
  · replace hM := hM.call hv134 rfl
    refine tk_Si hC hK hw hT hA hE hSR (kz_X6_isDigit_1 l adK adV dC dI cy ad B hB0 (Int.le_trans hB1 (by decide)) qr s1   r121 (show 0 ≤ r121.toInt by first | with_reducible assumption | omega) (show r121.toInt ≤ 255 by first | with_reducible assumption | omega) w123 H.size hT ) (va_cwS 1 hC.2.2.2.2 uS_RX6_64 rfl rfl rfl (by decide +kernel) ⟨Nat.le_of_ble_eq_true rfl, Nat.le_of_ble_eq_true rfl⟩) rfl hl.1 rfl (Nat.le_of_ble_eq_true rfl) dX6_readNumber_13 (fun r136 w138 H locs hp137 hw => ?_)
    obtain ⟨hT, k139, hv143, hg142⟩ := hp137
    have hF := hF.tr k139 (by decide)
    have c144 := k139.gi kC_at1 (by decide) c135
    have c145 := k139.gi kC_at1 (by decide) c128
    have c146 := k139.gi kC_at1 (by decide) c130
    have c147 := k139.gi kC_at1 (by decide) c132
    rcases hg142 with rfl | ⟨rfl, g140, g141⟩
    · replace hM := hM.call (r' := 0) hv143 (by decide)
      refine lv_if_ne (tgt := 30) hx hb dX6_readNumber_16 (by decide) (fun c => absurd (by decide) c) (fun _ => ?_)
      replace hM := hM.neg (by decide)
      refine lv_aload_n hx hb dX6_readNumber_19 rfl (lv_at hl 0 rfl) ?_
      refine lv_aload_n hx hb dX6_readNumber_20 rfl (lv_at hl 0 rfl) ?_
      refine tk_geti hC hK hw hT hinX6 kC_at1 (by decide) rfl 3 (by decide) (List.mem_cons_of_mem _ uw_9_17) rfl rfl dX6_readNumber_21 (fun x148 c149 rx148 tx148 => ?_)
      refine wk_top x131 (c149.symm.trans c147) ?_
      replace hM := hM.rd (sI_at c147)
      refine lv_iconst (v := 0) hx hb dX6_readNumber_24 (by decide) ?_
      refine tk_Vv hC hK hw hT hA hE hSR kC_at1 (by decide) rfl (kz_X6_blame_2 l adK adV dC dI cy ad B hB0 (Int.le_trans hB1 (by decide)) qr s1   x131 (show 0 ≤ x131.toInt by first | with_reducible assumption | omega) (show x131.toInt ≤ 400 by first | with_reducible assumption | omega) 0 (by decide) (by decide) w138 H.size hT c144) (cwV 2 hC.2.2.2.2 uV_RX6_35 rfl rfl rfl (by decide +kernel) ⟨Nat.le_of_ble_eq_true rfl, Nat.le_of_ble_eq_true rfl⟩) rfl hl.1 rfl (Nat.le_of_ble_eq_true rfl) dX6_readNumber_25 (fun w152 H locs hp151 hw => ?_)
      obtain ⟨hT, k153, hv157, hg156⟩ := hp151
      try simp only [show (0 : Int32).toInt = 0 by decide] at hv157
      have hF := hF.tr k153 (by decide)
      have c158 := k153.gi kC_at1 (by decide) c145
      have c159 := k153.gi kC_at1 (by decide) c146
      have c160 := k153.gi kC_at1 (by decide) c147
      obtain ⟨x154, c155, rx154, tx154⟩ := hg156
      replace hM := hM.call hv157 rfl
      refine lv_iconst (v := (-1)) hx hb dX6_readNumber_28 (by decide) ?_
      exact tk_iret hC hr hlocks hK ⟨hT, hF, hM.ret (by decide), (Or.inr ⟨rfl, ⟨x154, c155, (show 1 ≤ x154.toInt by first | with_reducible assumption | omega), (show x154.toInt ≤ 3205 by first | with_reducible assumption | omega)⟩⟩)⟩ hw dX6_readNumber_29
    · replace hM := hM.call (r' := 1) hv143 (by decide)
      refine lv_if_ne (tgt := 30) hx hb dX6_readNumber_16 (by decide) (fun _ => ?_) (fun c => absurd c (by decide))
      replace hM := hM.pos (by decide)
      refine lv_iconst (v := 0) hx hb dX6_readNumber_30 (by decide) ?_
      refine lv_istore_n (lv' := [(3, .int 0), (0, .ref (ad 1)), (1, .int 0), (2, .int 23)]) hx hb dX6_readNumber_31 rfl hl (by decide) rfl (fun ls hl => ?_)
      exact L32 ((400 - x127.toInt).toNat + 1) 0 x127 x129 x131 H locs ls w138 (show 0 ≤ x127.toInt by first | with_reducible assumption | omega) (show x127.toInt ≤ 400 by first | with_reducible assumption | omega) (show 1 ≤ x129.toInt by first | with_reducible assumption | omega) (show x129.toInt ≤ 400 by first | with_reducible assumption | omega) (show 0 ≤ x131.toInt by first | with_reducible assumption | omega) (show x131.toInt ≤ 399 by first | with_reducible assumption | omega) (Nat.lt_succ_self _) hw hT hF c145 c146 c147 c144 hM (lv_sub hl [1, 2, 3, 0] rfl)
  · replace hM := hM.call (r' := (-1)) hv134 (by decide)
    refine tk_Si hC hK hw hT hA hE hSR (kz_X6_isDigit_2 l adK adV dC dI cy ad B hB0 (Int.le_trans hB1 (by decide)) qr s1    w123 H.size hT ) (va_cwS 1 hC.2.2.2.2 uS_RX6_64 rfl rfl rfl (by decide +kernel) ⟨Nat.le_of_ble_eq_true rfl, Nat.le_of_ble_eq_true rfl⟩) rfl hl.1 rfl (Nat.le_of_ble_eq_true rfl) dX6_readNumber_13 (fun r161 w163 H locs hp162 hw => ?_)
    obtain ⟨hT, k164, hv166, hg165⟩ := hp162
    have hF := hF.tr k164 (by decide)
    have c167 := k164.gi kC_at1 (by decide) c135
    obtain rfl := hg165
    replace hM := hM.call (r' := 0) hv166 (by decide)
    refine lv_if_ne (tgt := 30) hx hb dX6_readNumber_16 (by decide) (fun c => absurd (by decide) c) (fun _ => ?_)
    replace hM := hM.neg (by decide)
    refine lv_aload_n hx hb dX6_readNumber_19 rfl (lv_at hl 0 rfl) ?_
    refine lv_aload_n hx hb dX6_readNumber_20 rfl (lv_at hl 0 rfl) ?_
    refine tk_geti hC hK hw hT hinX6 kC_at1 (by decide) rfl 3 (by decide) (List.mem_cons_of_mem _ uw_9_17) rfl rfl dX6_readNumber_21 (fun x168 c169 rx168 tx168 => ?_)
    replace hM := hM.rd (sI_at c169)
    refine lv_iconst (v := 0) hx hb dX6_readNumber_24 (by decide) ?_
    refine tk_Vv hC hK hw hT hA hE hSR kC_at1 (by decide) rfl (kz_X6_blame_2 l adK adV dC dI cy ad B hB0 (Int.le_trans hB1 (by decide)) qr s1   x168 (show 0 ≤ x168.toInt from rx168) (show x168.toInt ≤ 400 from tx168) 0 (by decide) (by decide) w163 H.size hT c167) (cwV 2 hC.2.2.2.2 uV_RX6_35 rfl rfl rfl (by decide +kernel) ⟨Nat.le_of_ble_eq_true rfl, Nat.le_of_ble_eq_true rfl⟩) rfl hl.1 rfl (Nat.le_of_ble_eq_true rfl) dX6_readNumber_25 (fun w172 H locs hp171 hw => ?_)
    obtain ⟨hT, k173, hv177, hg176⟩ := hp171
    try simp only [show (0 : Int32).toInt = 0 by decide] at hv177
    have hF := hF.tr k173 (by decide)
    have c178 := k173.gi kC_at1 (by decide) c169
    obtain ⟨x174, c175, rx174, tx174⟩ := hg176
    replace hM := hM.call hv177 rfl
    refine lv_iconst (v := (-1)) hx hb dX6_readNumber_28 (by decide) ?_
    exact tk_iret hC hr hlocks hK ⟨hT, hF, hM.ret (by decide), (Or.inr ⟨rfl, ⟨x174, c175, (show 1 ≤ x174.toInt by first | with_reducible assumption | omega), (show x174.toInt ≤ 3205 by first | with_reducible assumption | omega)⟩⟩)⟩ hw dX6_readNumber_29
abbrev Pz_X6_readNumber_11 (ad : Nat → Nat) (cy : Nat → ClassId) (B : Int) (qr : Nat) (s1 : Int) (a1 : Int32) (w0 : va_W) : Int32 → va_W → Prop := fun r u => TW ksC ad cy B qr s1 u ∧ FE ksC [(6, 1, 1), (6, 3, 3), (6, 4, 4)] w0 u ∧ Ev (fun n => m_X6_readNumber n 1 a1.toInt 24 (sI w0)) (r.toInt, sI u) ∧ ((1 ≤ r.toInt ∧ r.toInt ≤ 24 ∧ (∃ y : Int32, gi u 1 2 = y ∧ 1 ≤ y.toInt ∧ y.toInt ≤ 400) ∧ (∃ y : Int32, gi u 1 3 = y ∧ 0 ≤ y.toInt ∧ y.toInt ≤ 399) ∧ (∃ y : Int32, gi u 1 4 = y ∧ 0 ≤ y.toInt ∧ y.toInt ≤ 0)) ∨ (r = (-1) ∧ (∃ y : Int32, gi u 1 4 = y ∧ 1 ≤ y.toInt ∧ y.toInt ≤ 3205)))
set_option maxHeartbeats 4000000 in
set_option maxRecDepth 100000 in
theorem kz_X6_readNumber_11 (l : Launch) (adK adV : Nat → Nat) (dC : Nat → ClassId) (dI : Nat → Nat → Nat) (cy : Nat → ClassId) (ad : Nat → Nat) (B : Int) (hB0 : 2147483648 ≤ B) (hB1 : B ≤ 1152921504606846976) (qr : Nat) (s1 : Int)  (a1 : Int32) (ra1 : 1 ≤ a1.toInt) (ta1 : a1.toInt ≤ 24) (w0 : va_W) (sz : Nat) (hT : TW ksC ad cy B qr s1 w0) (cf0_ : gi w0 1 4 = 0) : Met l yX6_readNumber (wu yX6_readNumber cX6_readNumber 4 (some .int)) ({ frames := 2, cells := 0, slots := 0, locals := 34 }) (va_Pc [.ref (ad 1), .int a1, .int 24] (wpreS adK adV dC dI cy sz w0)) (va_Qi (Pz_X6_readNumber_11 ad cy B qr s1 a1 w0) (fun u : va_W => wpost dC dI cy (va_A w0 sz) u) (va_A w0 sz)) 0 0 (va_A w0 sz) := by
  refine Met.ofW (cc := cX6_readNumber) (maxL := 4) (ret := (some .int)) (by decide) rfl ?_
  intro p e s m args below meth c s₁ Bk hml hv
  obtain ⟨rfl, ⟨hsz, hP, hK, hD0⟩, hE, hSR⟩ := hv
  have hx := Bk.exec
  have hb := Bk.bytes
  have hr := Bk.returns
  have hlocks := Bk.notSynchronized
  have hC : CallFix p m c cX6_readNumber 4 s _ (wu yX6_readNumber cX6_readNumber 4 (some .int)) RX6 := ⟨hx, hb, hml, findClass_of_methodNamed Bk.named, atoms_spec (ws := (wu yX6_readNumber cX6_readNumber 4 (some .int))) Bk.pre⟩
  subst hsz
  have hD := hD0.self (sz := s.heap.size)
  generalize hAe : va_A w0 s.heap.size = A at hD hE ⊢
  have hA : ∀ q : Nat, s.heap.size ≤ q → A q := fun q h => by rw [← hAe]; exact Or.inr h
  have hw : Wd dC dI A s.heap s.heap [] w0 := ⟨hP, hD, va_S.rf⟩
  have hF : FE ksC [(6, 1, 1), (6, 3, 3), (6, 4, 4)] w0 w0 := FE.rf
  have hl := lv_entry ([.ref (ad 1), .int a1, .int 24]) (n := 4) (Nat.le_of_ble_eq_true rfl)
  rw [lg_entry_eq]
  generalize (lg_sl ([.ref (ad 1), .int a1, .int 24]) ++ List.replicate (4 - (lg_sl ([.ref (ad 1), .int a1, .int 24])).length) Slot.unset).toArray = ls at hl ⊢
  have hl : lv_has ls 4 [(0, .ref (ad 1)), (1, .int a1), (2, .int 24)] := hl
  generalize hloc : ([] : List Loc) = locs at hw ⊢
  have hinX6 : ∀ w ∈ u_ws RX6 TX6 5, w ∈ (wu yX6_readNumber cX6_readNumber 4 (some .int)) := fun _ h => List.mem_cons_of_mem _ (up_72 h)
  have J125 : ∀ (v125_3 : Int32) (f125_1_1 : Int32) (f125_1_2 : Int32) (f125_1_3 : Int32) (H : Heap) (locs : List Loc) (ls : Array Slot) (w1 : va_W), 1 ≤ a1.toInt → a1.toInt ≤ 24 → 0 ≤ f125_1_1.toInt → f125_1_1.toInt ≤ 400 → 1 ≤ f125_1_2.toInt → f125_1_2.toInt ≤ 400 → 0 ≤ f125_1_3.toInt → f125_1_3.toInt ≤ 399 → Wd dC dI A s.heap H locs w1 → TW ksC ad cy B qr s1 w1 → FE ksC [(6, 1, 1), (6, 3, 3), (6, 4, 4)] w0 w1 → gi w1 1 1 = f125_1_1 → gi w1 1 2 = f125_1_2 → gi w1 1 3 = f125_1_3 → gi w1 1 4 = 0 → TT (fun n => m_X6_readNumber n 1 a1.toInt 24 (sI w0)) (fun n => b_X6_readNumber_125 (j_X6_readNumber 1 n) n 1 (sI w1)) → lv_has ls 4 [(0, .ref (ad 1)), (1, .int a1), (2, .int 24), (3, .int v125_3)] → W p l e ({ frames := 2, cells := 0, slots := 0, locals := 34 }) s m (List.toArray [.ref (ad 1), .int a1, .int 24]) below meth c H locs 0 0 (MQ below (va_Qi (Pz_X6_readNumber_11 ad cy B qr s1 a1 w0) (fun u : va_W => wpost dC dI cy A u) A) (List.toArray [.ref (ad 1), .int a1, .int 24]) s 0 0 A) (F0 m 125 ls []) := by
    intro v125_3 f125_1_1 f125_1_2 f125_1_3 H locs ls w1 r2 t3 r4 t5 r7 t8 r10 t11 hw hT hF c6 c9 c12 c13 hM hl
    refine lv_aload_n hx hb dX6_readNumber_125 rfl (lv_at hl 0 rfl) ?_
    refine lv_aload_n hx hb dX6_readNumber_126 rfl (lv_at hl 0 rfl) ?_
    refine tk_geti hC hK hw hT hinX6 kC_at1 (by decide) rfl 3 (by decide) (List.mem_cons_of_mem _ uw_9_17) rfl rfl dX6_readNumber_127 (fun x14 c15 rx14 tx14 => ?_)
    refine wk_top f125_1_3 (c15.symm.trans c12) ?_
    replace hM := hM.rd (sI_at c12)
    refine lv_iconst (v := 1) hx hb dX6_readNumber_130 (by decide) ?_
    refine tk_Vv hC hK hw hT hA hE hSR kC_at1 (by decide) rfl (kz_X6_blame_2 l adK adV dC dI cy ad B hB0 (Int.le_trans hB1 (by decide)) qr s1   f125_1_3 (show 0 ≤ f125_1_3.toInt from r10) (show f125_1_3.toInt ≤ 400 from Int.le_trans t11 (by decide)) 1 (by decide) (by decide) w1 H.size hT c13) (cwV 2 hC.2.2.2.2 uV_RX6_35 rfl rfl rfl (by decide +kernel) ⟨Nat.le_of_ble_eq_true rfl, Nat.le_of_ble_eq_true rfl⟩) rfl hl.1 rfl (Nat.le_of_ble_eq_true rfl) dX6_readNumber_131 (fun w18 H locs hp17 hw => ?_)
    obtain ⟨hT, k19, hv23, hg22⟩ := hp17
    try simp only [show (1 : Int32).toInt = 1 by decide] at hv23
    have hF := hF.tr k19 (by decide)
    have c24 := k19.gi kC_at1 (by decide) c6
    have c25 := k19.gi kC_at1 (by decide) c9
    have c26 := k19.gi kC_at1 (by decide) c12
    obtain ⟨x20, c21, rx20, tx20⟩ := hg22
    replace hM := hM.call hv23 rfl
    refine lv_iconst (v := (-1)) hx hb dX6_readNumber_134 (by decide) ?_
    exact tk_iret hC hr hlocks hK ⟨hT, hF, hM.ret (by decide), (Or.inr ⟨rfl, ⟨x20, c21, (show 1 ≤ x20.toInt by first | with_reducible assumption | omega), (show x20.toInt ≤ 3205 by first | with_reducible assumption | omega)⟩⟩)⟩ hw dX6_readNumber_135
  have J102 : ∀ (v102_3 : Int32) (f102_1_1 : Int32) (f102_1_2 : Int32) (f102_1_3 : Int32) (H : Heap) (locs : List Loc) (ls : Array Slot) (w27 : va_W), 1 ≤ a1.toInt → a1.toInt ≤ 24 → 0 ≤ f102_1_1.toInt → f102_1_1.toInt ≤ 400 → 1 ≤ f102_1_2.toInt → f102_1_2.toInt ≤ 400 → 0 ≤ f102_1_3.toInt → f102_1_3.toInt ≤ 399 → Wd dC dI A s.heap H locs w27 → TW ksC ad cy B qr s1 w27 → FE ksC [(6, 1, 1), (6, 3, 3), (6, 4, 4)] w0 w27 → gi w27 1 1 = f102_1_1 → gi w27 1 2 = f102_1_2 → gi w27 1 3 = f102_1_3 → gi w27 1 4 = 0 → TT (fun n => m_X6_readNumber n 1 a1.toInt 24 (sI w0)) (fun n => b_X6_readNumber_102 (j_X6_readNumber 1 n) n 1 (a1.toInt) (24 : Int) (v102_3.toInt) (sI w27)) → lv_has ls 4 [(0, .ref (ad 1)), (1, .int a1), (2, .int 24), (3, .int v102_3)] → W p l e ({ frames := 2, cells := 0, slots := 0, locals := 34 }) s m (List.toArray [.ref (ad 1), .int a1, .int 24]) below meth c H locs 0 0 (MQ below (va_Qi (Pz_X6_readNumber_11 ad cy B qr s1 a1 w0) (fun u : va_W => wpost dC dI cy A u) A) (List.toArray [.ref (ad 1), .int a1, .int 24]) s 0 0 A) (F0 m 102 ls []) := by
    intro v102_3 f102_1_1 f102_1_2 f102_1_3 H locs ls w27 r28 t29 r30 t31 r33 t34 r36 t37 hw hT hF c32 c35 c38 c39 hM hl
    refine lv_aload_n hx hb dX6_readNumber_102 rfl (lv_at hl 0 rfl) ?_
    refine tk_geti hC hK hw hT hinX6 kC_at1 (by decide) rfl 1 (by decide) (List.mem_cons_of_mem _ uw_9_16) rfl rfl dX6_readNumber_103 (fun x40 c41 rx40 tx40 => ?_)
    refine wk_top f102_1_1 (c41.symm.trans c32) ?_
    replace hM := hM.rd (sI_at c32)
    refine lv_aload_n hx hb dX6_readNumber_106 rfl (lv_at hl 0 rfl) ?_
    refine tk_geti hC hK hw hT hinX6 kC_at1 (by decide) rfl 3 (by decide) (List.mem_cons_of_mem _ uw_9_17) rfl rfl dX6_readNumber_107 (fun x42 c43 rx42 tx42 => ?_)
    refine wk_top f102_1_3 (c43.symm.trans c38) ?_
    replace hM := hM.rd (sI_at c38)
    refine lv_isub hx hb dX6_readNumber_110 ?_
    refine lv_topi (fun x44 ex44 => ?_)
    have ezx44 := ex44
    have ex44 : x44.toInt = f102_1_1.toInt - f102_1_3.toInt := by rw [ex44]; exact wk_sub (show (-2147483648) ≤ f102_1_1.toInt - f102_1_3.toInt by omega) (show f102_1_1.toInt - f102_1_3.toInt ≤ 2147483647 by omega)
    replace hM := hM.lt ex44.symm
    refine lv_iconst (v := 5) hx hb dX6_readNumber_111 (by decide) ?_
    refine lv_icmp_gt (tgt := 125) hx hb dX6_readNumber_112 (by decide) (fun c45 => ?_) (fun c45 => ?_)
    · have c45 : (5 : Int) < x44.toInt := wk_lt.mp c45
      replace hM := hM.pos c45
      exact J125 v102_3 f102_1_1 f102_1_2 f102_1_3 H locs ls w27 (show 1 ≤ a1.toInt from r28) (show a1.toInt ≤ 24 from t29) (show 0 ≤ f102_1_1.toInt from r30) (show f102_1_1.toInt ≤ 400 from t31) (show 1 ≤ f102_1_2.toInt from r33) (show f102_1_2.toInt ≤ 400 from t34) (show 0 ≤ f102_1_3.toInt from r36) (show f102_1_3.toInt ≤ 399 from t37)  hw hT hF c32 c35 c38 c39 hM (lv_sub hl [0, 1, 2, 3] rfl)
    · have c45 : x44.toInt ≤ (5 : Int) := wk_ltF c45
      replace hM := hM.neg (Int.not_lt.mpr c45)
      refine lv_iload_n hx hb dX6_readNumber_115 rfl (lv_at hl 3 rfl) ?_
      refine lv_iload_n hx hb dX6_readNumber_116 rfl (lv_at hl 1 rfl) ?_
      refine lv_icmp_lt (tgt := 125) hx hb dX6_readNumber_117 (by decide) (fun c46 => ?_) (fun c46 => ?_)
      · have c46 : v102_3.toInt < a1.toInt := wk_lt.mp c46
        replace hM := hM.pos c46
        exact J125 v102_3 f102_1_1 f102_1_2 f102_1_3 H locs ls w27 (show 1 ≤ a1.toInt from r28) (show a1.toInt ≤ 24 from t29) (show 0 ≤ f102_1_1.toInt from r30) (show f102_1_1.toInt ≤ 400 from t31) (show 1 ≤ f102_1_2.toInt from r33) (show f102_1_2.toInt ≤ 400 from t34) (show 0 ≤ f102_1_3.toInt from r36) (show f102_1_3.toInt ≤ 399 from t37)  hw hT hF c32 c35 c38 c39 hM (lv_sub hl [0, 1, 2, 3] rfl)
      · have c46 : a1.toInt ≤ v102_3.toInt := wk_ltF c46
        replace hM := hM.neg (Int.not_lt.mpr c46)
        refine lv_iload_n hx hb dX6_readNumber_120 rfl (lv_at hl 3 rfl) ?_
        refine lv_iload_n hx hb dX6_readNumber_121 rfl (lv_at hl 2 rfl) ?_
        refine lv_icmp_le (tgt := 136) hx hb dX6_readNumber_122 (by decide) (fun c47 => ?_) (fun c47 => ?_)
        · have c47 : v102_3.toInt ≤ (24 : Int) := wk_le.mp c47
          replace hM := hM.pos c47
          refine lv_iload_n hx hb dX6_readNumber_136 rfl (lv_at hl 3 rfl) ?_
          exact tk_iret hC hr hlocks hK ⟨hT, hF, hM.ret rfl, (Or.inl ⟨(show 1 ≤ v102_3.toInt by first | with_reducible assumption | omega), (show v102_3.toInt ≤ 24 by first | with_reducible assumption | omega), ⟨f102_1_2, c35, (show 1 ≤ f102_1_2.toInt from r33), (show f102_1_2.toInt ≤ 400 from t34)⟩, ⟨f102_1_3, c38, (show 0 ≤ f102_1_3.toInt from r36), (show f102_1_3.toInt ≤ 399 from t37)⟩, ⟨0, c39, (by decide), (by decide)⟩⟩)⟩ hw dX6_readNumber_137
        · have c47 : (24 : Int) < v102_3.toInt := wk_leF c47
          replace hM := hM.neg (Int.not_le.mpr c47)
          exact J125 v102_3 f102_1_1 f102_1_2 f102_1_3 H locs ls w27 (show 1 ≤ a1.toInt from r28) (show a1.toInt ≤ 24 from t29) (show 0 ≤ f102_1_1.toInt from r30) (show f102_1_1.toInt ≤ 400 from t31) (show 1 ≤ f102_1_2.toInt from r33) (show f102_1_2.toInt ≤ 400 from t34) (show 0 ≤ f102_1_3.toInt from r36) (show f102_1_3.toInt ≤ 399 from t37)  hw hT hF c32 c35 c38 c39 hM (lv_sub hl [0, 1, 2, 3] rfl)
  have L32 : ∀ (n32 : Nat) (v32_3 : Int32) (f32_1_1 : Int32) (f32_1_2 : Int32) (f32_1_3 : Int32) (H : Heap) (locs : List Loc) (ls : Array Slot) (w48 : va_W), 1 ≤ a1.toInt → a1.toInt ≤ 24 → 0 ≤ f32_1_1.toInt → f32_1_1.toInt ≤ 400 → 1 ≤ f32_1_2.toInt → f32_1_2.toInt ≤ 400 → 0 ≤ f32_1_3.toInt → f32_1_3.toInt ≤ 399 → (400 - f32_1_1.toInt).toNat < n32 → Wd dC dI A s.heap H locs w48 → TW ksC ad cy B qr s1 w48 → FE ksC [(6, 1, 1), (6, 3, 3), (6, 4, 4)] w0 w48 → gi w48 1 1 = f32_1_1 → gi w48 1 2 = f32_1_2 → gi w48 1 3 = f32_1_3 → gi w48 1 4 = 0 → TT (fun n => m_X6_readNumber n 1 a1.toInt 24 (sI w0)) (fun n => j_X6_readNumber 1 n 32 [a1.toInt, (24 : Int), v32_3.toInt] (sI w48)) → lv_has ls 4 [(0, .ref (ad 1)), (1, .int a1), (2, .int 24), (3, .int v32_3)] → W p l e ({ frames := 2, cells := 0, slots := 0, locals := 34 }) s m (List.toArray [.ref (ad 1), .int a1, .int 24]) below meth c H locs 0 0 (MQ below (va_Qi (Pz_X6_readNumber_11 ad cy B qr s1 a1 w0) (fun u : va_W => wpost dC dI cy A u) A) (List.toArray [.ref (ad 1), .int a1, .int 24]) s 0 0 A) (F0 m 32 ls []) := by
    intro n32
    induction n32 with
    | zero => intro v32_3 f32_1_1 f32_1_2 f32_1_3 H locs ls w48 r49 t50 r51 t52 r54 t55 r57 t58 hm32 hw hT hF c53 c56 c59 c60 hM hl; omega
    | succ n32 ih32 =>
      intro v32_3 f32_1_1 f32_1_2 f32_1_3 H locs ls w48 r49 t50 r51 t52 r54 t55 r57 t58 hm32 hw hT hF c53 c56 c59 c60 hM hl
      have J89 : ∀ (v89_3 : Int32) (H : Heap) (locs : List Loc) (ls : Array Slot) (w61 : va_W), 1 ≤ a1.toInt → a1.toInt ≤ 24 → 0 ≤ f32_1_1.toInt → f32_1_1.toInt ≤ 399 → 1 ≤ f32_1_2.toInt → f32_1_2.toInt ≤ 400 → 0 ≤ f32_1_3.toInt → f32_1_3.toInt ≤ 399 → Wd dC dI A s.heap H locs w61 → TW ksC ad cy B qr s1 w61 → FE ksC [(6, 1, 1), (6, 3, 3), (6, 4, 4)] w0 w61 → gi w61 1 1 = f32_1_1 → gi w61 1 2 = f32_1_2 → gi w61 1 3 = f32_1_3 → gi w61 1 4 = 0 → TT (fun n => m_X6_readNumber n 1 a1.toInt 24 (sI w0)) (fun n => b_X6_readNumber_89 (j_X6_readNumber 1 n) n 1 (a1.toInt) (24 : Int) (v89_3.toInt) (sI w61)) → lv_has ls 4 [(0, .ref (ad 1)), (1, .int a1), (2, .int 24), (3, .int v89_3)] → W p l e ({ frames := 2, cells := 0, slots := 0, locals := 34 }) s m (List.toArray [.ref (ad 1), .int a1, .int 24]) below meth c H locs 0 0 (MQ below (va_Qi (Pz_X6_readNumber_11 ad cy B qr s1 a1 w0) (fun u : va_W => wpost dC dI cy A u) A) (List.toArray [.ref (ad 1), .int a1, .int 24]) s 0 0 A) (F0 m 89 ls []) := by
        intro v89_3 H locs ls w61 r62 t63 r64 t65 r67 t68 r70 t71 hw hT hF c66 c69 c72 c73 hM hl
        refine lv_aload_n hx hb dX6_readNumber_89 rfl (lv_at hl 0 rfl) ?_
        refine lv_dup hx hb dX6_readNumber_90 rfl ?_
        refine tk_geti hC hK hw hT hinX6 kC_at1 (by decide) rfl 1 (by decide) (List.mem_cons_of_mem _ uw_9_16) rfl rfl dX6_readNumber_91 (fun x74 c75 rx74 tx74 => ?_)
        refine wk_top f32_1_1 (c75.symm.trans c66) ?_
        replace hM := hM.rd (sI_at c66)
        refine lv_iconst (v := 1) hx hb dX6_readNumber_94 (by decide) ?_
        refine lv_iadd hx hb dX6_readNumber_95 ?_
        refine lv_topi (fun x76 ex76 => ?_)
        have ezx76 := ex76
        have ex76 : x76.toInt = f32_1_1.toInt + (1 : Int) := by rw [ex76]; exact wk_add (show (-2147483648) ≤ f32_1_1.toInt + (1 : Int) by omega) (show f32_1_1.toInt + (1 : Int) ≤ 2147483647 by omega)
        replace hM := hM.lt ex76.symm
        refine tk_puti hC hK hw hT hinX6 tyX6_ok nmX6 kC_at1 (by decide) rfl rfl 1 (by decide) (List.mem_cons_of_mem _ uw_9_16) rfl rfl rfl rfl (show 0 ≤ x76.toInt by first | with_reducible assumption | omega) (show x76.toInt ≤ 400 by first | with_reducible assumption | omega) dX6_readNumber_96 (fun H locs w77 hw hT k79 c78 => ?_)
        replace hM := hM.wr (sI_up k79 c78)
        have hF := hF.put kC_at1 (k := 1) (by decide) k79
        have c80 := k79.gi (Or.inr (by decide)) c69
        have c81 := k79.gi (Or.inr (by decide)) c72
        have c82 := k79.gi (Or.inr (by decide)) c73
        refine lv_goto (tgt := 32) hx hb dX6_readNumber_99 (by decide) ?_
        exact ih32 v89_3 x76 f32_1_2 f32_1_3 H locs ls w77 (show 1 ≤ a1.toInt from r62) (show a1.toInt ≤ 24 from t63) (show 0 ≤ x76.toInt by first | with_reducible assumption | omega) (show x76.toInt ≤ 400 by first | with_reducible assumption | omega) (show 1 ≤ f32_1_2.toInt from r67) (show f32_1_2.toInt ≤ 400 from t68) (show 0 ≤ f32_1_3.toInt from r70) (show f32_1_3.toInt ≤ 399 from t71) (show (400 - x76.toInt).toNat < n32 by first | exact tn_lt hm32 (by omega) (by omega) | omega) hw hT hF c78 c80 c81 c82 hM (lv_sub hl [0, 1, 2, 3] rfl)
      replace hM := hM.suc (fun _ => e_X6_readNumber_32)
      refine lv_aload_n hx hb dX6_readNumber_32 rfl (lv_at hl 0 rfl) ?_
      refine tk_geti hC hK hw hT hinX6 kC_at1 (by decide) rfl 1 (by decide) (List.mem_cons_of_mem _ uw_9_16) rfl rfl dX6_readNumber_33 (fun x83 c84 rx83 tx83 => ?_)
      refine wk_top f32_1_1 (c84.symm.trans c53) ?_
      replace hM := hM.rd (sI_at c53)
      refine lv_aload_n hx hb dX6_readNumber_36 rfl (lv_at hl 0 rfl) ?_
      refine tk_geti hC hK hw hT hinX6 kC_at1 (by decide) rfl 2 (by decide) (List.mem_cons_of_mem _ uw_7_22) rfl rfl dX6_readNumber_37 (fun x85 c86 rx85 tx85 => ?_)
      refine wk_top f32_1_2 (c86.symm.trans c56) ?_
      replace hM := hM.rd (sI_at c56)
      refine lv_icmp_ge (tgt := 102) hx hb dX6_readNumber_40 (by decide) (fun c87 => ?_) (fun c87 => ?_)
      · have c87 : f32_1_2.toInt ≤ f32_1_1.toInt := wk_le.mp c87
        replace hM := hM.pos c87
        exact J102 v32_3 f32_1_1 f32_1_2 f32_1_3 H locs ls w48 (show 1 ≤ a1.toInt from r49) (show a1.toInt ≤ 24 from t50) (show 0 ≤ f32_1_1.toInt from r51) (show f32_1_1.toInt ≤ 400 from t52) (show 1 ≤ f32_1_2.toInt from r54) (show f32_1_2.toInt ≤ 400 from t55) (show 0 ≤ f32_1_3.toInt from r57) (show f32_1_3.toInt ≤ 399 from t58)  hw hT hF c53 c56 c59 c60 hM (lv_sub hl [0, 1, 2, 3] rfl)
      · have c87 : f32_1_1.toInt < f32_1_2.toInt := wk_leF c87
        replace hM := hM.neg (Int.not_le.mpr c87)
        refine lv_aload_n hx hb dX6_readNumber_43 rfl (lv_at hl 0 rfl) ?_
        refine tk_getA hC hK hw hT hinX6 kC_at1 (by decide) rfl 0 (by decide) (List.mem_cons_of_mem _ uw_2_12) rfl rfl dX6_readNumber_44 ?_
        refine lv_aload_n hx hb dX6_readNumber_47 rfl (lv_at hl 0 rfl) ?_
        refine tk_geti hC hK hw hT hinX6 kC_at1 (by decide) rfl 1 (by decide) (List.mem_cons_of_mem _ uw_9_16) rfl rfl dX6_readNumber_48 (fun x88 c89 rx88 tx88 => ?_)
        refine wk_top f32_1_1 (c89.symm.trans c53) ?_
        replace hM := hM.rd (sI_at c53)
        refine tk_iald hC hK hw hT kC_at2 rfl rfl (show 0 ≤ f32_1_1.toInt from r51) (show f32_1_1.toInt < 400 by first | with_reducible assumption | omega) dX6_readNumber_51 (fun x90 c91 rx90 tx90 => ?_)
        have hox90 := c91
        replace hM := hM.rd (sI_at hox90)
        refine tk_Si hC hK hw hT hA hE hSR (kz_X6_isDigit_1 l adK adV dC dI cy ad B hB0 (Int.le_trans hB1 (by decide)) qr s1   x90 (show 0 ≤ x90.toInt from rx90) (show x90.toInt ≤ 255 from tx90) w48 H.size hT ) (va_cwS 1 hC.2.2.2.2 uS_RX6_64 rfl rfl rfl (by decide +kernel) ⟨Nat.le_of_ble_eq_true rfl, Nat.le_of_ble_eq_true rfl⟩) rfl hl.1 rfl (Nat.le_of_ble_eq_true rfl) dX6_readNumber_52 (fun r92 w94 H locs hp93 hw => ?_)
        obtain ⟨hT, k95, hv99, hg98⟩ := hp93
        have hF := hF.tr k95 (by decide)
        have c100 := k95.gi kC_at1 (by decide) c53
        have c101 := k95.gi kC_at1 (by decide) c56
        have c102 := k95.gi kC_at1 (by decide) c59
        have c103 := k95.gi kC_at1 (by decide) c60
        rcases hg98 with rfl | ⟨rfl, g96, g97⟩
        · replace hM := hM.call (r' := 0) hv99 (by decide)
          refine lv_if_eq (tgt := 102) hx hb dX6_readNumber_55 (by decide) (fun _ => ?_) (fun c => absurd (by decide) c)
          replace hM := hM.pos (by decide)
          exact J102 v32_3 f32_1_1 f32_1_2 f32_1_3 H locs ls w94 (show 1 ≤ a1.toInt from r49) (show a1.toInt ≤ 24 from t50) (show 0 ≤ f32_1_1.toInt from r51) (show f32_1_1.toInt ≤ 400 from t52) (show 1 ≤ f32_1_2.toInt from r54) (show f32_1_2.toInt ≤ 400 from t55) (show 0 ≤ f32_1_3.toInt from r57) (show f32_1_3.toInt ≤ 399 from t58)  hw hT hF c100 c101 c102 c103 hM (lv_sub hl [0, 1, 2, 3] rfl)
        · replace hM := hM.call (r' := 1) hv99 (by decide)
          refine lv_if_eq (tgt := 102) hx hb dX6_readNumber_55 (by decide) (fun c => absurd c (by decide)) (fun _ => ?_)
          replace hM := hM.neg (by decide)
          refine lv_aload_n hx hb dX6_readNumber_58 rfl (lv_at hl 0 rfl) ?_
          refine tk_geti hC hK hw hT hinX6 kC_at1 (by decide) rfl 1 (by decide) (List.mem_cons_of_mem _ uw_9_16) rfl rfl dX6_readNumber_59 (fun x104 c105 rx104 tx104 => ?_)
          refine wk_top f32_1_1 (c105.symm.trans c100) ?_
          replace hM := hM.rd (sI_at c100)
          refine lv_aload_n hx hb dX6_readNumber_62 rfl (lv_at hl 0 rfl) ?_
          refine tk_geti hC hK hw hT hinX6 kC_at1 (by decide) rfl 3 (by decide) (List.mem_cons_of_mem _ uw_9_17) rfl rfl dX6_readNumber_63 (fun x106 c107 rx106 tx106 => ?_)
          refine wk_top f32_1_3 (c107.symm.trans c102) ?_
          replace hM := hM.rd (sI_at c102)
          refine lv_isub hx hb dX6_readNumber_66 ?_
          refine lv_topi (fun x108 ex108 => ?_)
          have ezx108 := ex108
          have ex108 : x108.toInt = f32_1_1.toInt - f32_1_3.toInt := by rw [ex108]; exact wk_sub (show (-2147483648) ≤ f32_1_1.toInt - f32_1_3.toInt by omega) (show f32_1_1.toInt - f32_1_3.toInt ≤ 2147483647 by omega)
          replace hM := hM.lt ex108.symm
          refine lv_iconst (v := 5) hx hb dX6_readNumber_67 (by decide) ?_
          refine lv_icmp_ge (tgt := 89) hx hb dX6_readNumber_68 (by decide) (fun c109 => ?_) (fun c109 => ?_)
          · have c109 : (5 : Int) ≤ x108.toInt := wk_le.mp c109
            replace hM := hM.pos c109
            exact J89 v32_3 H locs ls w94 (show 1 ≤ a1.toInt from r49) (show a1.toInt ≤ 24 from t50) (show 0 ≤ f32_1_1.toInt from r51) (show f32_1_1.toInt ≤ 399 by first | with_reducible assumption | omega) (show 1 ≤ f32_1_2.toInt from r54) (show f32_1_2.toInt ≤ 400 from t55) (show 0 ≤ f32_1_3.toInt from r57) (show f32_1_3.toInt ≤ 399 from t58)  hw hT hF c100 c101 c102 c103 hM (lv_sub hl [0, 1, 2, 3] rfl)
          · have c109 : x108.toInt < (5 : Int) := wk_leF c109
            replace hM := hM.neg (Int.not_le.mpr c109)
            refine lv_iload_n hx hb dX6_readNumber_71 rfl (lv_at hl 3 rfl) ?_
            refine lv_bipush (v := 10) hx hb dX6_readNumber_72 (by decide) ?_
            refine lv_imul hx hb dX6_readNumber_74 ?_
            have nx110 := wk_i32 v32_3
            refine lv_topi (fun x111 ex111 => ?_)
            have ezx111 := ex111
            replace hM := hM.lt (o32_e (f := fun x y => x * y) ezx111 rfl (by decide))
            refine lv_aload_n hx hb dX6_readNumber_75 rfl (lv_at hl 0 rfl) ?_
            refine tk_getA hC hK hw hT hinX6 kC_at1 (by decide) rfl 0 (by decide) (List.mem_cons_of_mem _ uw_2_12) rfl rfl dX6_readNumber_76 ?_
            refine lv_aload_n hx hb dX6_readNumber_79 rfl (lv_at hl 0 rfl) ?_
            refine tk_geti hC hK hw hT hinX6 kC_at1 (by decide) rfl 1 (by decide) (List.mem_cons_of_mem _ uw_9_16) rfl rfl dX6_readNumber_80 (fun x112 c113 rx112 tx112 => ?_)
            refine wk_top f32_1_1 (c113.symm.trans c100) ?_
            replace hM := hM.rd (sI_at c100)
            refine tk_iald hC hK hw hT kC_at2 rfl rfl (show 0 ≤ f32_1_1.toInt from r51) (show f32_1_1.toInt < 400 by first | with_reducible assumption | omega) dX6_readNumber_83 (fun x114 c115 rx114 tx114 => ?_)
            have hox114 := c115
            replace hM := hM.rd (sI_at hox114)
            refine lv_iadd hx hb dX6_readNumber_84 ?_
            have nx116 := wk_i32 x111
            refine lv_topi (fun x117 ex117 => ?_)
            have ezx117 := ex117
            replace hM := hM.lt (o32_e (f := fun x y => x + y) ezx117 rfl rfl)
            refine lv_bipush (v := 48) hx hb dX6_readNumber_85 (by decide) ?_
            refine lv_isub hx hb dX6_readNumber_87 ?_
            have nx118 := wk_i32 x117
            refine lv_topi (fun x119 ex119 => ?_)
            have ezx119 := ex119
            replace hM := hM.lt (o32_e (f := fun x y => x - y) ezx119 rfl (by decide))
            refine lv_istore_n (lv' := [(3, .int x119), (0, .ref (ad 1)), (1, .int a1), (2, .int 24)]) hx hb dX6_readNumber_88 rfl hl (by decide) rfl (fun ls hl => ?_)
            exact J89 x119 H locs ls w94 (show 1 ≤ a1.toInt from r49) (show a1.toInt ≤ 24 from t50) (show 0 ≤ f32_1_1.toInt from r51) (show f32_1_1.toInt ≤ 399 by first | with_reducible assumption | omega) (show 1 ≤ f32_1_2.toInt from r54) (show f32_1_2.toInt ≤ 400 from t55) (show 0 ≤ f32_1_3.toInt from r57) (show f32_1_3.toInt ≤ 399 from t58)  hw hT hF c100 c101 c102 c103 hM (lv_sub hl [1, 2, 3, 0] rfl)
  have hM : TT (fun n => m_X6_readNumber n 1 a1.toInt 24 (sI w0)) (fun n => m_X6_readNumber n 1 a1.toInt 24 (sI w0)) := TT.rf
  refine lv_aload_n hx hb dX6_readNumber_0 rfl (lv_at hl 0 rfl) ?_
  refine tk_Vi hC hK hw hT hA hE hSR kC_at1 (by decide) rfl (kz_X6_isFaulty_2 l adK adV dC dI cy ad B hB0 (Int.le_trans hB1 (by decide)) qr s1    w0 s.heap.size hT cf0_) (cwV 0 hC.2.2.2.2 uV_RX6_39 rfl rfl rfl (by decide +kernel) ⟨Nat.le_of_ble_eq_true rfl, Nat.le_of_ble_eq_true rfl⟩) rfl hl.1 rfl (Nat.le_of_ble_eq_true rfl) dX6_readNumber_1 (fun r120 w122 H locs hp121 hw => ?_)
  obtain ⟨hT, k123, hv127, hg126⟩ := hp121
  have hF := hF.tr k123 (by decide)
  have c128 := k123.gi kC_at1 (by decide) cf0_
  obtain ⟨rfl, ⟨x124, c125, rx124, tx124⟩⟩ := hg126
  replace hM := hM.call (r' := 0) hv127 (by decide)
  have ex124 : x124.toInt = (0 : Int) := by rw [show x124 = 0 from c125.symm.trans c128]; decide
  refine lv_if_eq (tgt := 9) hx hb dX6_readNumber_4 (by decide) (fun _ => ?_) (fun c => absurd (by decide) c)
  replace hM := hM.pos (by decide)
  refine lv_aload_n hx hb dX6_readNumber_9 rfl (lv_at hl 0 rfl) ?_
  refine tk_Vi hC hK hw hT hA hE hSR kC_at1 (by decide) rfl (kz_X6_lookBehindBlanks_1 l adK adV dC dI cy ad B hB0 (Int.le_trans hB1 (by decide)) qr s1    w122 H.size hT ) (cwV 0 hC.2.2.2.2 uV_RX6_28 rfl rfl rfl (by decide +kernel) ⟨Nat.le_of_ble_eq_true rfl, Nat.le_of_ble_eq_true rfl⟩) rfl hl.1 rfl (Nat.le_of_ble_eq_true rfl) dX6_readNumber_10 (fun r129 w131 H locs hp130 hw => ?_)
  obtain ⟨hT, k132, hv142, hg141⟩ := hp130
  have hF := hF.tr k132 (by decide)
  have c143 := k132.gi kC_at1 (by decide) c128
  rcases hg141 with ⟨g133, g134, ⟨x135, c136, rx135, tx135⟩, ⟨x137, c138, rx137, tx137⟩, ⟨x139, c140, rx139, tx139⟩⟩ | rfl
  · replace hM := hM.call hv142 rfl
    refine tk_Si hC hK hw hT hA hE hSR (kz_X6_isDigit_1 l adK adV dC dI cy ad B hB0 (Int.le_trans hB1 (by decide)) qr s1   r129 (show 0 ≤ r129.toInt by first | with_reducible assumption | omega) (show r129.toInt ≤ 255 by first | with_reducible assumption | omega) w131 H.size hT ) (va_cwS 1 hC.2.2.2.2 uS_RX6_64 rfl rfl rfl (by decide +kernel) ⟨Nat.le_of_ble_eq_true rfl, Nat.le_of_ble_eq_true rfl⟩) rfl hl.1 rfl (Nat.le_of_ble_eq_true rfl) dX6_readNumber_13 (fun r144 w146 H locs hp145 hw => ?_)
    obtain ⟨hT, k147, hv151, hg150⟩ := hp145
    have hF := hF.tr k147 (by decide)
    have c152 := k147.gi kC_at1 (by decide) c143
    have c153 := k147.gi kC_at1 (by decide) c136
    have c154 := k147.gi kC_at1 (by decide) c138
    have c155 := k147.gi kC_at1 (by decide) c140
    rcases hg150 with rfl | ⟨rfl, g148, g149⟩
    · replace hM := hM.call (r' := 0) hv151 (by decide)
      refine lv_if_ne (tgt := 30) hx hb dX6_readNumber_16 (by decide) (fun c => absurd (by decide) c) (fun _ => ?_)
      replace hM := hM.neg (by decide)
      refine lv_aload_n hx hb dX6_readNumber_19 rfl (lv_at hl 0 rfl) ?_
      refine lv_aload_n hx hb dX6_readNumber_20 rfl (lv_at hl 0 rfl) ?_
      refine tk_geti hC hK hw hT hinX6 kC_at1 (by decide) rfl 3 (by decide) (List.mem_cons_of_mem _ uw_9_17) rfl rfl dX6_readNumber_21 (fun x156 c157 rx156 tx156 => ?_)
      refine wk_top x139 (c157.symm.trans c155) ?_
      replace hM := hM.rd (sI_at c155)
      refine lv_iconst (v := 0) hx hb dX6_readNumber_24 (by decide) ?_
      refine tk_Vv hC hK hw hT hA hE hSR kC_at1 (by decide) rfl (kz_X6_blame_2 l adK adV dC dI cy ad B hB0 (Int.le_trans hB1 (by decide)) qr s1   x139 (show 0 ≤ x139.toInt by first | with_reducible assumption | omega) (show x139.toInt ≤ 400 by first | with_reducible assumption | omega) 0 (by decide) (by decide) w146 H.size hT c152) (cwV 2 hC.2.2.2.2 uV_RX6_35 rfl rfl rfl (by decide +kernel) ⟨Nat.le_of_ble_eq_true rfl, Nat.le_of_ble_eq_true rfl⟩) rfl hl.1 rfl (Nat.le_of_ble_eq_true rfl) dX6_readNumber_25 (fun w160 H locs hp159 hw => ?_)
      obtain ⟨hT, k161, hv165, hg164⟩ := hp159
      try simp only [show (0 : Int32).toInt = 0 by decide] at hv165
      have hF := hF.tr k161 (by decide)
      have c166 := k161.gi kC_at1 (by decide) c153
      have c167 := k161.gi kC_at1 (by decide) c154
      have c168 := k161.gi kC_at1 (by decide) c155
      obtain ⟨x162, c163, rx162, tx162⟩ := hg164
      replace hM := hM.call hv165 rfl
      refine lv_iconst (v := (-1)) hx hb dX6_readNumber_28 (by decide) ?_
      exact tk_iret hC hr hlocks hK ⟨hT, hF, hM.ret (by decide), (Or.inr ⟨rfl, ⟨x162, c163, (show 1 ≤ x162.toInt by first | with_reducible assumption | omega), (show x162.toInt ≤ 3205 by first | with_reducible assumption | omega)⟩⟩)⟩ hw dX6_readNumber_29
    · replace hM := hM.call (r' := 1) hv151 (by decide)
      refine lv_if_ne (tgt := 30) hx hb dX6_readNumber_16 (by decide) (fun _ => ?_) (fun c => absurd c (by decide))
      replace hM := hM.pos (by decide)
      refine lv_iconst (v := 0) hx hb dX6_readNumber_30 (by decide) ?_
      refine lv_istore_n (lv' := [(3, .int 0), (0, .ref (ad 1)), (1, .int a1), (2, .int 24)]) hx hb dX6_readNumber_31 rfl hl (by decide) rfl (fun ls hl => ?_)
      exact L32 ((400 - x135.toInt).toNat + 1) 0 x135 x137 x139 H locs ls w146 (show 1 ≤ a1.toInt from ra1) (show a1.toInt ≤ 24 from ta1) (show 0 ≤ x135.toInt by first | with_reducible assumption | omega) (show x135.toInt ≤ 400 by first | with_reducible assumption | omega) (show 1 ≤ x137.toInt by first | with_reducible assumption | omega) (show x137.toInt ≤ 400 by first | with_reducible assumption | omega) (show 0 ≤ x139.toInt by first | with_reducible assumption | omega) (show x139.toInt ≤ 399 by first | with_reducible assumption | omega) (Nat.lt_succ_self _) hw hT hF c153 c154 c155 c152 hM (lv_sub hl [1, 2, 3, 0] rfl)
  · replace hM := hM.call (r' := (-1)) hv142 (by decide)
    refine tk_Si hC hK hw hT hA hE hSR (kz_X6_isDigit_2 l adK adV dC dI cy ad B hB0 (Int.le_trans hB1 (by decide)) qr s1    w131 H.size hT ) (va_cwS 1 hC.2.2.2.2 uS_RX6_64 rfl rfl rfl (by decide +kernel) ⟨Nat.le_of_ble_eq_true rfl, Nat.le_of_ble_eq_true rfl⟩) rfl hl.1 rfl (Nat.le_of_ble_eq_true rfl) dX6_readNumber_13 (fun r169 w171 H locs hp170 hw => ?_)
    obtain ⟨hT, k172, hv174, hg173⟩ := hp170
    have hF := hF.tr k172 (by decide)
    have c175 := k172.gi kC_at1 (by decide) c143
    obtain rfl := hg173
    replace hM := hM.call (r' := 0) hv174 (by decide)
    refine lv_if_ne (tgt := 30) hx hb dX6_readNumber_16 (by decide) (fun c => absurd (by decide) c) (fun _ => ?_)
    replace hM := hM.neg (by decide)
    refine lv_aload_n hx hb dX6_readNumber_19 rfl (lv_at hl 0 rfl) ?_
    refine lv_aload_n hx hb dX6_readNumber_20 rfl (lv_at hl 0 rfl) ?_
    refine tk_geti hC hK hw hT hinX6 kC_at1 (by decide) rfl 3 (by decide) (List.mem_cons_of_mem _ uw_9_17) rfl rfl dX6_readNumber_21 (fun x176 c177 rx176 tx176 => ?_)
    replace hM := hM.rd (sI_at c177)
    refine lv_iconst (v := 0) hx hb dX6_readNumber_24 (by decide) ?_
    refine tk_Vv hC hK hw hT hA hE hSR kC_at1 (by decide) rfl (kz_X6_blame_2 l adK adV dC dI cy ad B hB0 (Int.le_trans hB1 (by decide)) qr s1   x176 (show 0 ≤ x176.toInt from rx176) (show x176.toInt ≤ 400 from tx176) 0 (by decide) (by decide) w171 H.size hT c175) (cwV 2 hC.2.2.2.2 uV_RX6_35 rfl rfl rfl (by decide +kernel) ⟨Nat.le_of_ble_eq_true rfl, Nat.le_of_ble_eq_true rfl⟩) rfl hl.1 rfl (Nat.le_of_ble_eq_true rfl) dX6_readNumber_25 (fun w180 H locs hp179 hw => ?_)
    obtain ⟨hT, k181, hv185, hg184⟩ := hp179
    try simp only [show (0 : Int32).toInt = 0 by decide] at hv185
    have hF := hF.tr k181 (by decide)
    have c186 := k181.gi kC_at1 (by decide) c177
    obtain ⟨x182, c183, rx182, tx182⟩ := hg184
    replace hM := hM.call hv185 rfl
    refine lv_iconst (v := (-1)) hx hb dX6_readNumber_28 (by decide) ?_
    exact tk_iret hC hr hlocks hK ⟨hT, hF, hM.ret (by decide), (Or.inr ⟨rfl, ⟨x182, c183, (show 1 ≤ x182.toInt by first | with_reducible assumption | omega), (show x182.toInt ≤ 3205 by first | with_reducible assumption | omega)⟩⟩)⟩ hw dX6_readNumber_29
abbrev Pz_X6_readNumber_12 (ad : Nat → Nat) (cy : Nat → ClassId) (B : Int) (qr : Nat) (s1 : Int)  (w0 : va_W) : Int32 → va_W → Prop := fun r u => TW ksC ad cy B qr s1 u ∧ FE ksC ([] : List (Nat × Nat × Nat)) w0 u ∧ Ev (fun n => m_X6_readNumber n 1 0 24 (sI w0)) (r.toInt, sI u) ∧ ((r = (-1) ∧ (∃ y : Int32, gi u 1 4 = y ∧ 1 ≤ y.toInt ∧ y.toInt ≤ 3205)))
set_option maxHeartbeats 4000000 in
set_option maxRecDepth 100000 in
theorem kz_X6_readNumber_12 (l : Launch) (adK adV : Nat → Nat) (dC : Nat → ClassId) (dI : Nat → Nat → Nat) (cy : Nat → ClassId) (ad : Nat → Nat) (B : Int) (hB0 : 2147483648 ≤ B) (hB1 : B ≤ 1152921504606846976) (qr : Nat) (s1 : Int)   (w0 : va_W) (sz : Nat) (hT : TW ksC ad cy B qr s1 w0) (f0_ : Int32) (cf0_ : gi w0 1 4 = f0_) (rf0_ : 1 ≤ f0_.toInt) (tf0_ : f0_.toInt ≤ 3205) : Met l yX6_readNumber (wu yX6_readNumber cX6_readNumber 4 (some .int)) ({ frames := 2, cells := 0, slots := 0, locals := 32 }) (va_Pc [.ref (ad 1), .int 0, .int 24] (wpreS adK adV dC dI cy sz w0)) (va_Qi (Pz_X6_readNumber_12 ad cy B qr s1  w0) (fun u : va_W => wpost dC dI cy (va_A w0 sz) u) (va_A w0 sz)) 0 0 (va_A w0 sz) := by
  refine Met.ofW (cc := cX6_readNumber) (maxL := 4) (ret := (some .int)) (by decide) rfl ?_
  intro p e s m args below meth c s₁ Bk hml hv
  obtain ⟨rfl, ⟨hsz, hP, hK, hD0⟩, hE, hSR⟩ := hv
  have hx := Bk.exec
  have hb := Bk.bytes
  have hr := Bk.returns
  have hlocks := Bk.notSynchronized
  have hC : CallFix p m c cX6_readNumber 4 s _ (wu yX6_readNumber cX6_readNumber 4 (some .int)) RX6 := ⟨hx, hb, hml, findClass_of_methodNamed Bk.named, atoms_spec (ws := (wu yX6_readNumber cX6_readNumber 4 (some .int))) Bk.pre⟩
  subst hsz
  have hD := hD0.self (sz := s.heap.size)
  generalize hAe : va_A w0 s.heap.size = A at hD hE ⊢
  have hA : ∀ q : Nat, s.heap.size ≤ q → A q := fun q h => by rw [← hAe]; exact Or.inr h
  have hw : Wd dC dI A s.heap s.heap [] w0 := ⟨hP, hD, va_S.rf⟩
  have hF : FE ksC ([] : List (Nat × Nat × Nat)) w0 w0 := FE.rf
  have hl := lv_entry ([.ref (ad 1), .int 0, .int 24]) (n := 4) (Nat.le_of_ble_eq_true rfl)
  rw [lg_entry_eq]
  generalize (lg_sl ([.ref (ad 1), .int 0, .int 24]) ++ List.replicate (4 - (lg_sl ([.ref (ad 1), .int 0, .int 24])).length) Slot.unset).toArray = ls at hl ⊢
  have hl : lv_has ls 4 [(0, .ref (ad 1)), (1, .int 0), (2, .int 24)] := hl
  generalize hloc : ([] : List Loc) = locs at hw ⊢
  have hM : TT (fun n => m_X6_readNumber n 1 0 24 (sI w0)) (fun n => m_X6_readNumber n 1 0 24 (sI w0)) := TT.rf
  refine lv_aload_n hx hb dX6_readNumber_0 rfl (lv_at hl 0 rfl) ?_
  refine tk_Vi hC hK hw hT hA hE hSR kC_at1 (by decide) rfl (kz_X6_isFaulty_3 l adK adV dC dI cy ad B hB0 (Int.le_trans hB1 (by decide)) qr s1    w0 s.heap.size hT f0_ cf0_ (show 1 ≤ f0_.toInt from rf0_) (show f0_.toInt ≤ 3205 from tf0_)) (cwV 0 hC.2.2.2.2 uV_RX6_39 rfl rfl rfl (by decide +kernel) ⟨Nat.le_of_ble_eq_true rfl, Nat.le_of_ble_eq_true rfl⟩) rfl hl.1 rfl (Nat.le_of_ble_eq_true rfl) dX6_readNumber_1 (fun r1 w3 H locs hp2 hw => ?_)
  obtain ⟨hT, k4, hv8, hg7⟩ := hp2
  have hF := hF.tr k4 (by decide)
  have c9 := k4.gi kC_at1 (by decide) cf0_
  obtain ⟨rfl, ⟨x5, c6, rx5, tx5⟩⟩ := hg7
  replace hM := hM.call (r' := 1) hv8 (by decide)
  have ex5 : x5.toInt = f0_.toInt := by rw [← c9.symm.trans c6]
  refine lv_if_eq (tgt := 9) hx hb dX6_readNumber_4 (by decide) (fun c => absurd c (by decide)) (fun _ => ?_)
  replace hM := hM.neg (by decide)
  refine lv_iconst (v := (-1)) hx hb dX6_readNumber_7 (by decide) ?_
  exact tk_iret hC hr hlocks hK ⟨hT, hF, hM.ret (by decide), ⟨rfl, ⟨f0_, c9, (show 1 ≤ f0_.toInt from rf0_), (show f0_.toInt ≤ 3205 from tf0_)⟩⟩⟩ hw dX6_readNumber_8
abbrev Pz_X6_readNumber_13 (ad : Nat → Nat) (cy : Nat → ClassId) (B : Int) (qr : Nat) (s1 : Int)  (w0 : va_W) : Int32 → va_W → Prop := fun r u => TW ksC ad cy B qr s1 u ∧ FE ksC ([] : List (Nat × Nat × Nat)) w0 u ∧ Ev (fun n => m_X6_readNumber n 1 0 23 (sI w0)) (r.toInt, sI u) ∧ ((r = (-1) ∧ (∃ y : Int32, gi u 1 4 = y ∧ 1 ≤ y.toInt ∧ y.toInt ≤ 3205)))
set_option maxHeartbeats 4000000 in
set_option maxRecDepth 100000 in
theorem kz_X6_readNumber_13 (l : Launch) (adK adV : Nat → Nat) (dC : Nat → ClassId) (dI : Nat → Nat → Nat) (cy : Nat → ClassId) (ad : Nat → Nat) (B : Int) (hB0 : 2147483648 ≤ B) (hB1 : B ≤ 1152921504606846976) (qr : Nat) (s1 : Int)   (w0 : va_W) (sz : Nat) (hT : TW ksC ad cy B qr s1 w0) (f0_ : Int32) (cf0_ : gi w0 1 4 = f0_) (rf0_ : 1 ≤ f0_.toInt) (tf0_ : f0_.toInt ≤ 3205) : Met l yX6_readNumber (wu yX6_readNumber cX6_readNumber 4 (some .int)) ({ frames := 2, cells := 0, slots := 0, locals := 32 }) (va_Pc [.ref (ad 1), .int 0, .int 23] (wpreS adK adV dC dI cy sz w0)) (va_Qi (Pz_X6_readNumber_13 ad cy B qr s1  w0) (fun u : va_W => wpost dC dI cy (va_A w0 sz) u) (va_A w0 sz)) 0 0 (va_A w0 sz) := by
  refine Met.ofW (cc := cX6_readNumber) (maxL := 4) (ret := (some .int)) (by decide) rfl ?_
  intro p e s m args below meth c s₁ Bk hml hv
  obtain ⟨rfl, ⟨hsz, hP, hK, hD0⟩, hE, hSR⟩ := hv
  have hx := Bk.exec
  have hb := Bk.bytes
  have hr := Bk.returns
  have hlocks := Bk.notSynchronized
  have hC : CallFix p m c cX6_readNumber 4 s _ (wu yX6_readNumber cX6_readNumber 4 (some .int)) RX6 := ⟨hx, hb, hml, findClass_of_methodNamed Bk.named, atoms_spec (ws := (wu yX6_readNumber cX6_readNumber 4 (some .int))) Bk.pre⟩
  subst hsz
  have hD := hD0.self (sz := s.heap.size)
  generalize hAe : va_A w0 s.heap.size = A at hD hE ⊢
  have hA : ∀ q : Nat, s.heap.size ≤ q → A q := fun q h => by rw [← hAe]; exact Or.inr h
  have hw : Wd dC dI A s.heap s.heap [] w0 := ⟨hP, hD, va_S.rf⟩
  have hF : FE ksC ([] : List (Nat × Nat × Nat)) w0 w0 := FE.rf
  have hl := lv_entry ([.ref (ad 1), .int 0, .int 23]) (n := 4) (Nat.le_of_ble_eq_true rfl)
  rw [lg_entry_eq]
  generalize (lg_sl ([.ref (ad 1), .int 0, .int 23]) ++ List.replicate (4 - (lg_sl ([.ref (ad 1), .int 0, .int 23])).length) Slot.unset).toArray = ls at hl ⊢
  have hl : lv_has ls 4 [(0, .ref (ad 1)), (1, .int 0), (2, .int 23)] := hl
  generalize hloc : ([] : List Loc) = locs at hw ⊢
  have hM : TT (fun n => m_X6_readNumber n 1 0 23 (sI w0)) (fun n => m_X6_readNumber n 1 0 23 (sI w0)) := TT.rf
  refine lv_aload_n hx hb dX6_readNumber_0 rfl (lv_at hl 0 rfl) ?_
  refine tk_Vi hC hK hw hT hA hE hSR kC_at1 (by decide) rfl (kz_X6_isFaulty_3 l adK adV dC dI cy ad B hB0 (Int.le_trans hB1 (by decide)) qr s1    w0 s.heap.size hT f0_ cf0_ (show 1 ≤ f0_.toInt from rf0_) (show f0_.toInt ≤ 3205 from tf0_)) (cwV 0 hC.2.2.2.2 uV_RX6_39 rfl rfl rfl (by decide +kernel) ⟨Nat.le_of_ble_eq_true rfl, Nat.le_of_ble_eq_true rfl⟩) rfl hl.1 rfl (Nat.le_of_ble_eq_true rfl) dX6_readNumber_1 (fun r1 w3 H locs hp2 hw => ?_)
  obtain ⟨hT, k4, hv8, hg7⟩ := hp2
  have hF := hF.tr k4 (by decide)
  have c9 := k4.gi kC_at1 (by decide) cf0_
  obtain ⟨rfl, ⟨x5, c6, rx5, tx5⟩⟩ := hg7
  replace hM := hM.call (r' := 1) hv8 (by decide)
  have ex5 : x5.toInt = f0_.toInt := by rw [← c9.symm.trans c6]
  refine lv_if_eq (tgt := 9) hx hb dX6_readNumber_4 (by decide) (fun c => absurd c (by decide)) (fun _ => ?_)
  replace hM := hM.neg (by decide)
  refine lv_iconst (v := (-1)) hx hb dX6_readNumber_7 (by decide) ?_
  exact tk_iret hC hr hlocks hK ⟨hT, hF, hM.ret (by decide), ⟨rfl, ⟨f0_, c9, (show 1 ≤ f0_.toInt from rf0_), (show f0_.toInt ≤ 3205 from tf0_)⟩⟩⟩ hw dX6_readNumber_8
abbrev Pz_X7_readLift_1 (ad : Nat → Nat) (cy : Nat → ClassId) (B : Int) (qr : Nat) (s1 : Int)  (w0 : va_W) : va_W → Prop := fun u => TW ksC ad cy B qr s1 u ∧ FE ksC [(6, 1, 1), (6, 3, 3), (6, 4, 4), (7, 11, 11), (27, 0, 13)] w0 u ∧ Ev (fun n => m_X7_readLift n 29 1 (sI w0)) (0, sI u) ∧ (((∃ y : Int32, gi u 1 4 = y ∧ 1 ≤ y.toInt ∧ y.toInt ≤ 3205) ∧ (∃ y : Int32, gi u 29 9 = y ∧ 0 ≤ y.toInt ∧ y.toInt ≤ 12) ∧ (∃ y : Int32, gi u 29 11 = y ∧ 0 ≤ y.toInt ∧ y.toInt ≤ 3)) ∨ ((∃ y : Int32, gi u 1 2 = y ∧ 1 ≤ y.toInt ∧ y.toInt ≤ 400) ∧ (∃ y : Int32, gi u 1 3 = y ∧ 0 ≤ y.toInt ∧ y.toInt ≤ 399) ∧ (∃ y : Int32, gi u 1 4 = y ∧ 0 ≤ y.toInt ∧ y.toInt ≤ 0) ∧ (∃ y : Int32, gi u 29 9 = y ∧ 1 ≤ y.toInt ∧ y.toInt ≤ 12) ∧ (∃ y : Int32, gi u 29 11 = y ∧ 1 ≤ y.toInt ∧ y.toInt ≤ 4)))
set_option maxHeartbeats 4000000 in
set_option maxRecDepth 100000 in
theorem kz_X7_readLift_1 (l : Launch) (adK adV : Nat → Nat) (dC : Nat → ClassId) (dI : Nat → Nat → Nat) (cy : Nat → ClassId) (ad : Nat → Nat) (B : Int) (hB0 : 2147483648 ≤ B) (hB1 : B ≤ 1152921504606846976) (qr : Nat) (s1 : Int)   (w0 : va_W) (sz : Nat) (hT : TW ksC ad cy B qr s1 w0) (cf0_ : gi w0 1 4 = 0) (f1_ : Int32) (cf1_ : gi w0 29 11 = f1_) (rf1_ : 0 ≤ f1_.toInt) (tf1_ : f1_.toInt ≤ 3) : Met l yX7_readLift (wu yX7_readLift cX7_readLift 5 none) ({ frames := 3, cells := 0, slots := 0, locals := 57 }) (va_Pc [.ref (ad 29), .ref (ad 1)] (wpreS adK adV dC dI cy sz w0)) (va_Qv (Pz_X7_readLift_1 ad cy B qr s1  w0) (fun u : va_W => wpost dC dI cy (va_A w0 sz) u) (va_A w0 sz)) 0 0 (va_A w0 sz) := by
  refine Met.ofW (cc := cX7_readLift) (maxL := 5) (ret := none) (by decide) rfl ?_
  intro p e s m args below meth c s₁ Bk hml hv
  obtain ⟨rfl, ⟨hsz, hP, hK, hD0⟩, hE, hSR⟩ := hv
  have hx := Bk.exec
  have hb := Bk.bytes
  have hr := Bk.returns
  have hlocks := Bk.notSynchronized
  have hC : CallFix p m c cX7_readLift 5 s _ (wu yX7_readLift cX7_readLift 5 none) RX7 := ⟨hx, hb, hml, findClass_of_methodNamed Bk.named, atoms_spec (ws := (wu yX7_readLift cX7_readLift 5 none)) Bk.pre⟩
  subst hsz
  have hD := hD0.self (sz := s.heap.size)
  generalize hAe : va_A w0 s.heap.size = A at hD hE ⊢
  have hA : ∀ q : Nat, s.heap.size ≤ q → A q := fun q h => by rw [← hAe]; exact Or.inr h
  have hw : Wd dC dI A s.heap s.heap [] w0 := ⟨hP, hD, va_S.rf⟩
  have hF : FE ksC [(6, 1, 1), (6, 3, 3), (6, 4, 4), (7, 11, 11), (27, 0, 13)] w0 w0 := FE.rf
  have hl := lv_entry ([.ref (ad 29), .ref (ad 1)]) (n := 5) (Nat.le_of_ble_eq_true rfl)
  rw [lg_entry_eq]
  generalize (lg_sl ([.ref (ad 29), .ref (ad 1)]) ++ List.replicate (5 - (lg_sl ([.ref (ad 29), .ref (ad 1)])).length) Slot.unset).toArray = ls at hl ⊢
  have hl : lv_has ls 5 [(0, .ref (ad 29)), (1, .ref (ad 1))] := hl
  generalize hloc : ([] : List Loc) = locs at hw ⊢
  have hinX7 : ∀ w ∈ u_ws RX7 TX7 12, w ∈ (wu yX7_readLift cX7_readLift 5 none) := fun _ h => List.mem_cons_of_mem _ (up_73 h)
  have hM : TT (fun n => m_X7_readLift n 29 1 (sI w0)) (fun n => m_X7_readLift n 29 1 (sI w0)) := TT.rf
  refine lv_aload_n hx hb dX7_readLift_0 rfl (lv_at hl 1 rfl) ?_
  refine lv_iconst (v := 0) hx hb dX7_readLift_1 (by decide) ?_
  refine lv_aload_n hx hb dX7_readLift_2 rfl (lv_at hl 0 rfl) ?_
  refine tk_geti hC hK hw hT hinX7 kC_at29 (by decide) rfl 9 (by decide) (List.mem_cons_of_mem _ uw_9_8) rfl rfl dX7_readLift_3 (fun x1 c2 rx1 tx1 => ?_)
  replace hM := hM.rd (sI_at c2)
  refine lv_iconst (v := 1) hx hb dX7_readLift_6 (by decide) ?_
  refine lv_isub hx hb dX7_readLift_7 ?_
  refine lv_topi (fun x3 ex3 => ?_)
  have ezx3 := ex3
  have ex3 : x3.toInt = x1.toInt - (1 : Int) := by rw [ex3]; exact wk_sub (show (-2147483648) ≤ x1.toInt - (1 : Int) by omega) (show x1.toInt - (1 : Int) ≤ 2147483647 by omega)
  replace hM := hM.lt ex3.symm
  refine tk_Vi hC hK hw hT hA hE hSR kC_at1 (by decide) rfl (kz_X6_readNumber_9 l adK adV dC dI cy ad B hB0 (Int.le_trans hB1 (by decide)) qr s1   x3 (show (-1) ≤ x3.toInt by first | with_reducible assumption | omega) (show x3.toInt ≤ 11 by first | with_reducible assumption | omega) w0 s.heap.size hT cf0_) (cwV 2 hC.2.2.2.2 uV_RX7_92 rfl rfl rfl (by decide +kernel) ⟨Nat.le_of_ble_eq_true rfl, Nat.le_of_ble_eq_true rfl⟩) rfl hl.1 rfl (Nat.le_of_ble_eq_true rfl) dX7_readLift_8 (fun r4 w6 H locs hp5 hw => ?_)
  obtain ⟨hT, k7, hv20, hg19⟩ := hp5
  have hF := hF.tr k7 (by decide)
  have c21 := k7.gi kC_at29 (by decide) cf1_
  have c22 := k7.gi kC_at29 (by decide) c2
  rcases hg19 with ⟨g8, g9, g10, ⟨x11, c12, rx11, tx11⟩, ⟨x13, c14, rx13, tx13⟩, ⟨x15, c16, rx15, tx15⟩⟩ | ⟨rfl, ⟨x17, c18, rx17, tx17⟩⟩
  · replace hM := hM.call hv20 rfl
    refine lv_istore_n (lv' := [(2, .int r4), (0, .ref (ad 29)), (1, .ref (ad 1))]) hx hb dX7_readLift_11 rfl hl (by decide) rfl (fun ls hl => ?_)
    refine lv_aload_n hx hb dX7_readLift_12 rfl (lv_at hl 2 rfl) ?_
    refine lv_iconst (v := 0) hx hb dX7_readLift_13 (by decide) ?_
    refine lv_bipush (v := 23) hx hb dX7_readLift_14 (by decide) ?_
    refine tk_Vi hC hK hw hT hA hE hSR kC_at1 (by decide) rfl (kz_X6_readNumber_10 l adK adV dC dI cy ad B hB0 (Int.le_trans hB1 (by decide)) qr s1    w6 H.size hT (c16.trans (wk_eq.mpr (show x15.toInt = 0 by first | exact Int.le_antisymm (by omega) (by omega) | omega)))) (cwV 2 hC.2.2.2.2 uV_RX7_92 rfl rfl rfl (by decide +kernel) ⟨Nat.le_of_ble_eq_true rfl, Nat.le_of_ble_eq_true rfl⟩) rfl hl.1 rfl (Nat.le_of_ble_eq_true rfl) dX7_readLift_16 (fun r23 w25 H locs hp24 hw => ?_)
    obtain ⟨hT, k26, hv38, hg37⟩ := hp24
    have hF := hF.tr k26 (by decide)
    have c39 := k26.gi kC_at29 (by decide) c21
    have c40 := k26.gi kC_at29 (by decide) c22
    have c41 := k26.gi kC_at1 (by decide) c12
    rcases hg37 with ⟨g27, g28, ⟨x29, c30, rx29, tx29⟩, ⟨x31, c32, rx31, tx31⟩, ⟨x33, c34, rx33, tx33⟩⟩ | ⟨rfl, ⟨x35, c36, rx35, tx35⟩⟩
    · replace hM := hM.call hv38 rfl
      have ex29 : x29.toInt = x11.toInt := by rw [← c41.symm.trans c30]
      refine lv_istore_n (lv' := [(3, .int r23), (2, .int r4), (0, .ref (ad 29)), (1, .ref (ad 1))]) hx hb dX7_readLift_19 rfl hl (by decide) rfl (fun ls hl => ?_)
      refine lv_aload_n hx hb dX7_readLift_20 rfl (lv_at hl 3 rfl) ?_
      refine lv_iload_n hx hb dX7_readLift_21 rfl (lv_at hl 0 rfl) ?_
      refine lv_iconst (v := 1) hx hb dX7_readLift_22 (by decide) ?_
      refine lv_iadd hx hb dX7_readLift_23 ?_
      refine lv_topi (fun x42 ex42 => ?_)
      have ezx42 := ex42
      have ex42 : x42.toInt = r23.toInt + (1 : Int) := by rw [ex42]; exact wk_add (show (-2147483648) ≤ r23.toInt + (1 : Int) by omega) (show r23.toInt + (1 : Int) ≤ 2147483647 by omega)
      replace hM := hM.lt ex42.symm
      refine lv_bipush (v := 24) hx hb dX7_readLift_24 (by decide) ?_
      refine tk_Vi hC hK hw hT hA hE hSR kC_at1 (by decide) rfl (kz_X6_readNumber_11 l adK adV dC dI cy ad B hB0 (Int.le_trans hB1 (by decide)) qr s1   x42 (show 1 ≤ x42.toInt by first | with_reducible assumption | omega) (show x42.toInt ≤ 24 by first | with_reducible assumption | omega) w25 H.size hT (c34.trans (wk_eq.mpr (show x33.toInt = 0 by first | exact Int.le_antisymm (by omega) (by omega) | omega)))) (cwV 2 hC.2.2.2.2 uV_RX7_92 rfl rfl rfl (by decide +kernel) ⟨Nat.le_of_ble_eq_true rfl, Nat.le_of_ble_eq_true rfl⟩) rfl hl.1 rfl (Nat.le_of_ble_eq_true rfl) dX7_readLift_26 (fun r43 w45 H locs hp44 hw => ?_)
      obtain ⟨hT, k46, hv58, hg57⟩ := hp44
      have hF := hF.tr k46 (by decide)
      have c59 := k46.gi kC_at29 (by decide) c39
      have c60 := k46.gi kC_at29 (by decide) c40
      have c61 := k46.gi kC_at1 (by decide) c41
      rcases hg57 with ⟨g47, g48, ⟨x49, c50, rx49, tx49⟩, ⟨x51, c52, rx51, tx51⟩, ⟨x53, c54, rx53, tx53⟩⟩ | ⟨rfl, ⟨x55, c56, rx55, tx55⟩⟩
      · replace hM := hM.call hv58 rfl
        have ex49 : x49.toInt = x11.toInt := by rw [← c61.symm.trans c50]
        refine lv_istore (lv' := [(4, .int r43), (3, .int r23), (2, .int r4), (0, .ref (ad 29)), (1, .ref (ad 1))]) hx hb dX7_readLift_29 hl (by decide) rfl (fun ls hl => ?_)
        refine lv_aload_n hx hb dX7_readLift_31 rfl (lv_at hl 4 rfl) ?_
        refine tk_Vi hC hK hw hT hA hE hSR kC_at1 (by decide) rfl (kz_X6_isFaulty_2 l adK adV dC dI cy ad B hB0 (Int.le_trans hB1 (by decide)) qr s1    w45 H.size hT (c54.trans (wk_eq.mpr (show x53.toInt = 0 by first | exact Int.le_antisymm (by omega) (by omega) | omega)))) (cwV 0 hC.2.2.2.2 uV_RX7_89 rfl rfl rfl (by decide +kernel) ⟨Nat.le_of_ble_eq_true rfl, Nat.le_of_ble_eq_true rfl⟩) rfl hl.1 rfl (Nat.le_of_ble_eq_true rfl) dX7_readLift_32 (fun r62 w64 H locs hp63 hw => ?_)
        obtain ⟨hT, k65, hv69, hg68⟩ := hp63
        have hF := hF.tr k65 (by decide)
        have c70 := k65.gi kC_at29 (by decide) c59
        have c71 := k65.gi kC_at29 (by decide) c60
        have c72 := k65.gi kC_at1 (by decide) c61
        have c73 := k65.gi kC_at1 (by decide) c52
        have c74 := k65.gi kC_at1 (by decide) c54
        obtain ⟨rfl, ⟨x66, c67, rx66, tx66⟩⟩ := hg68
        replace hM := hM.call (r' := 0) hv69 (by decide)
        have ex66 : x66.toInt = x53.toInt := by rw [← c74.symm.trans c67]
        refine lv_if_eq (tgt := 39) hx hb dX7_readLift_35 (by decide) (fun _ => ?_) (fun c => absurd (by decide) c)
        replace hM := hM.pos (by decide)
        refine lv_aload_n hx hb dX7_readLift_39 rfl (lv_at hl 3 rfl) ?_
        refine tk_getO hC hK hw hT hinX7 kC_at29 (by decide) rfl 3 (by decide) (List.mem_cons_of_mem _ uw_2_20) rfl rfl dX7_readLift_40 ?_
        refine lv_iload_n hx hb dX7_readLift_43 rfl (lv_at hl 2 rfl) ?_
        refine lv_dup2_11 hx hb dX7_readLift_44 rfl rfl ?_
        refine tk_iald hC hK hw hT kC_at33 rfl rfl (show 0 ≤ r4.toInt by first | with_reducible assumption | omega) (show r4.toInt < 13 by first | with_reducible assumption | omega) dX7_readLift_45 (fun x75 c76 rx75 tx75 => ?_)
        have hox75 := c76
        replace hM := hM.rd (sI_at hox75)
        refine lv_iconst (v := 1) hx hb dX7_readLift_46 (by decide) ?_
        refine lv_iload hx hb dX7_readLift_47 (lv_at hl 0 rfl) ?_
        refine lv_ishl hx hb dX7_readLift_49 ?_
        refine lv_topi (fun x77 ex77 => ?_)
        have ezx77 := ex77
        have bx77 : 1 ≤ x77.toInt ∧ x77.toInt ≤ 16777216 := by rw [ex77]; exact wk_shl1 24 (by decide) (by omega) (by omega)
        replace hM := hM.lt (o32_e (f := fun x y => x <<< (y &&& 31)) ezx77 (by decide) rfl)
        refine lv_iconst (v := 1) hx hb dX7_readLift_50 (by decide) ?_
        refine lv_iload_n hx hb dX7_readLift_51 rfl (lv_at hl 1 rfl) ?_
        refine lv_ishl hx hb dX7_readLift_52 ?_
        refine lv_topi (fun x78 ex78 => ?_)
        have ezx78 := ex78
        have bx78 : 1 ≤ x78.toInt ∧ x78.toInt ≤ 8388608 := by rw [ex78]; exact wk_shl1 23 (by decide) (by omega) (by omega)
        replace hM := hM.lt (o32_e (f := fun x y => x <<< (y &&& 31)) ezx78 (by decide) rfl)
        refine lv_isub hx hb dX7_readLift_53 ?_
        refine lv_topi (fun x79 ex79 => ?_)
        have ezx79 := ex79
        have ex79 : x79.toInt = x77.toInt - x78.toInt := by rw [ex79]; exact wk_sub (show (-2147483648) ≤ x77.toInt - x78.toInt by omega) (show x77.toInt - x78.toInt ≤ 2147483647 by omega)
        replace hM := hM.lt ex79.symm
        refine lv_ior hx hb dX7_readLift_54 ?_
        refine lv_topi (fun x80 ex80 => ?_)
        have ezx80 := ex80
        replace hM := hM.lt (o32_e (f := fun x y => x ||| y) ezx80 rfl rfl)
        refine tk_iast hC hK hw hT kC_at33 (by decide) rfl rfl (show 0 ≤ r4.toInt by first | with_reducible assumption | omega) (show r4.toInt < 13 by first | with_reducible assumption | omega) (wk_i32 x80).1 (wk_i32 x80).2 dX7_readLift_55 (fun H locs w81 hw hT k83 c82 => ?_)
        replace hM := hM.wr (sI_up k83 c82)
        have hF := hF.put kC_at33 (inE_of (a := 0) (b := 13) (by decide) (show 0 ≤ r4.toInt.toNat by omega) (show r4.toInt.toNat ≤ 13 by omega)) k83
        have c84 := k83.gi (Or.inl (tk_ne kC_at29 kC_at33 (by decide))) c70
        have c85 := k83.gi (Or.inl (tk_ne kC_at29 kC_at33 (by decide))) c71
        have c86 := k83.gi (Or.inl (tk_ne kC_at1 kC_at33 (by decide))) c72
        have c87 := k83.gi (Or.inl (tk_ne kC_at1 kC_at33 (by decide))) c73
        have c88 := k83.gi (Or.inl (tk_ne kC_at1 kC_at33 (by decide))) c74
        refine lv_aload_n hx hb dX7_readLift_56 rfl (lv_at hl 3 rfl) ?_
        refine lv_dup hx hb dX7_readLift_57 rfl ?_
        refine tk_geti hC hK hw hT hinX7 kC_at29 (by decide) rfl 11 (by decide) (List.mem_cons_of_mem _ uw_9_10) rfl rfl dX7_readLift_58 (fun x89 c90 rx89 tx89 => ?_)
        refine wk_top f1_ (c90.symm.trans c84) ?_
        replace hM := hM.rd (sI_at c84)
        refine lv_iconst (v := 1) hx hb dX7_readLift_61 (by decide) ?_
        refine lv_iadd hx hb dX7_readLift_62 ?_
        refine lv_topi (fun x91 ex91 => ?_)
        have ezx91 := ex91
        have ex91 : x91.toInt = f1_.toInt + (1 : Int) := by rw [ex91]; exact wk_add (show (-2147483648) ≤ f1_.toInt + (1 : Int) by omega) (show f1_.toInt + (1 : Int) ≤ 2147483647 by omega)
        replace hM := hM.lt ex91.symm
        refine tk_puti hC hK hw hT hinX7 tyX7_ok nmX7 kC_at29 (by decide) rfl rfl 11 (by decide) (List.mem_cons_of_mem _ uw_9_10) rfl rfl rfl rfl (show 0 ≤ x91.toInt by first | with_reducible assumption | omega) (show x91.toInt ≤ 4 by first | with_reducible assumption | omega) dX7_readLift_63 (fun H locs w92 hw hT k94 c93 => ?_)
        replace hM := hM.wr (sI_up k94 c93)
        have hF := hF.put kC_at29 (k := 11) (by decide) k94
        have c95 := k94.gi (Or.inr (by decide)) c85
        have c96 := k94.gi (Or.inr (by decide)) c86
        have c97 := k94.gi (Or.inr (by decide)) c87
        have c98 := k94.gi (Or.inr (by decide)) c88
        exact tk_vret hC hr hlocks hK ⟨hT, hF, hM.ret rfl, (Or.inr ⟨⟨x11, c96, (show 1 ≤ x11.toInt by first | with_reducible assumption | omega), (show x11.toInt ≤ 400 by first | with_reducible assumption | omega)⟩, ⟨x51, c97, (show 0 ≤ x51.toInt by first | with_reducible assumption | omega), (show x51.toInt ≤ 399 by first | with_reducible assumption | omega)⟩, ⟨x53, c98, (show 0 ≤ x53.toInt by first | with_reducible assumption | omega), (show x53.toInt ≤ 0 by first | with_reducible assumption | omega)⟩, ⟨x1, c95, (show 1 ≤ x1.toInt by first | with_reducible assumption | omega), (show x1.toInt ≤ 12 from tx1)⟩, ⟨x91, c93, (show 1 ≤ x91.toInt by first | with_reducible assumption | omega), (show x91.toInt ≤ 4 by first | with_reducible assumption | omega)⟩⟩)⟩ hw dX7_readLift_66
      · replace hM := hM.call (r' := (-1)) hv58 (by decide)
        refine lv_istore (lv' := [(4, .int (-1)), (3, .int r23), (2, .int r4), (0, .ref (ad 29)), (1, .ref (ad 1))]) hx hb dX7_readLift_29 hl (by decide) rfl (fun ls hl => ?_)
        refine lv_aload_n hx hb dX7_readLift_31 rfl (lv_at hl 4 rfl) ?_
        refine tk_Vi hC hK hw hT hA hE hSR kC_at1 (by decide) rfl (kz_X6_isFaulty_3 l adK adV dC dI cy ad B hB0 (Int.le_trans hB1 (by decide)) qr s1    w45 H.size hT x55 c56 (show 1 ≤ x55.toInt by first | with_reducible assumption | omega) (show x55.toInt ≤ 3205 by first | with_reducible assumption | omega)) (cwV 0 hC.2.2.2.2 uV_RX7_89 rfl rfl rfl (by decide +kernel) ⟨Nat.le_of_ble_eq_true rfl, Nat.le_of_ble_eq_true rfl⟩) rfl hl.1 rfl (Nat.le_of_ble_eq_true rfl) dX7_readLift_32 (fun r99 w101 H locs hp100 hw => ?_)
        obtain ⟨hT, k102, hv106, hg105⟩ := hp100
        have hF := hF.tr k102 (by decide)
        have c107 := k102.gi kC_at29 (by decide) c59
        have c108 := k102.gi kC_at29 (by decide) c60
        have c109 := k102.gi kC_at1 (by decide) c61
        have c110 := k102.gi kC_at1 (by decide) c56
        obtain ⟨rfl, ⟨x103, c104, rx103, tx103⟩⟩ := hg105
        replace hM := hM.call (r' := 1) hv106 (by decide)
        have ex103 : x103.toInt = x55.toInt := by rw [← c110.symm.trans c104]
        refine lv_if_eq (tgt := 39) hx hb dX7_readLift_35 (by decide) (fun c => absurd c (by decide)) (fun _ => ?_)
        replace hM := hM.neg (by decide)
        exact tk_vret hC hr hlocks hK ⟨hT, hF, hM.ret rfl, (Or.inl ⟨⟨x55, c110, (show 1 ≤ x55.toInt by first | with_reducible assumption | omega), (show x55.toInt ≤ 3205 by first | with_reducible assumption | omega)⟩, ⟨x1, c108, (show 0 ≤ x1.toInt from rx1), (show x1.toInt ≤ 12 from tx1)⟩, ⟨f1_, c107, (show 0 ≤ f1_.toInt from rf1_), (show f1_.toInt ≤ 3 from tf1_)⟩⟩)⟩ hw dX7_readLift_38
    · replace hM := hM.call (r' := (-1)) hv38 (by decide)
      refine lv_istore_n (lv' := [(3, .int (-1)), (2, .int r4), (0, .ref (ad 29)), (1, .ref (ad 1))]) hx hb dX7_readLift_19 rfl hl (by decide) rfl (fun ls hl => ?_)
      refine lv_aload_n hx hb dX7_readLift_20 rfl (lv_at hl 3 rfl) ?_
      refine lv_iload_n hx hb dX7_readLift_21 rfl (lv_at hl 0 rfl) ?_
      refine lv_iconst (v := 1) hx hb dX7_readLift_22 (by decide) ?_
      refine lv_iadd hx hb dX7_readLift_23 ?_
      refine wk_top 0 (by decide) ?_
      replace hM := hM.lt (v := 0) (by decide)
      refine lv_bipush (v := 24) hx hb dX7_readLift_24 (by decide) ?_
      refine tk_Vi hC hK hw hT hA hE hSR kC_at1 (by decide) rfl (kz_X6_readNumber_12 l adK adV dC dI cy ad B hB0 (Int.le_trans hB1 (by decide)) qr s1    w25 H.size hT x35 c36 (show 1 ≤ x35.toInt by first | with_reducible assumption | omega) (show x35.toInt ≤ 3205 by first | with_reducible assumption | omega)) (cwV 2 hC.2.2.2.2 uV_RX7_92 rfl rfl rfl (by decide +kernel) ⟨Nat.le_of_ble_eq_true rfl, Nat.le_of_ble_eq_true rfl⟩) rfl hl.1 rfl (Nat.le_of_ble_eq_true rfl) dX7_readLift_26 (fun r111 w113 H locs hp112 hw => ?_)
      obtain ⟨hT, k114, hv118, hg117⟩ := hp112
      have hF := hF.tr k114 (by decide)
      have c119 := k114.gi kC_at29 (by decide) c39
      have c120 := k114.gi kC_at29 (by decide) c40
      have c121 := k114.gi kC_at1 (by decide) c41
      have c122 := k114.gi kC_at1 (by decide) c36
      obtain ⟨rfl, ⟨x115, c116, rx115, tx115⟩⟩ := hg117
      replace hM := hM.call (r' := (-1)) hv118 (by decide)
      have ex115 : x115.toInt = x35.toInt := by rw [← c122.symm.trans c116]
      refine lv_istore (lv' := [(4, .int (-1)), (3, .int (-1)), (2, .int r4), (0, .ref (ad 29)), (1, .ref (ad 1))]) hx hb dX7_readLift_29 hl (by decide) rfl (fun ls hl => ?_)
      refine lv_aload_n hx hb dX7_readLift_31 rfl (lv_at hl 4 rfl) ?_
      refine tk_Vi hC hK hw hT hA hE hSR kC_at1 (by decide) rfl (kz_X6_isFaulty_3 l adK adV dC dI cy ad B hB0 (Int.le_trans hB1 (by decide)) qr s1    w113 H.size hT x35 c122 (show 1 ≤ x35.toInt by first | with_reducible assumption | omega) (show x35.toInt ≤ 3205 by first | with_reducible assumption | omega)) (cwV 0 hC.2.2.2.2 uV_RX7_89 rfl rfl rfl (by decide +kernel) ⟨Nat.le_of_ble_eq_true rfl, Nat.le_of_ble_eq_true rfl⟩) rfl hl.1 rfl (Nat.le_of_ble_eq_true rfl) dX7_readLift_32 (fun r123 w125 H locs hp124 hw => ?_)
      obtain ⟨hT, k126, hv130, hg129⟩ := hp124
      have hF := hF.tr k126 (by decide)
      have c131 := k126.gi kC_at29 (by decide) c119
      have c132 := k126.gi kC_at29 (by decide) c120
      have c133 := k126.gi kC_at1 (by decide) c121
      have c134 := k126.gi kC_at1 (by decide) c122
      obtain ⟨rfl, ⟨x127, c128, rx127, tx127⟩⟩ := hg129
      replace hM := hM.call (r' := 1) hv130 (by decide)
      have ex127 : x127.toInt = x35.toInt := by rw [← c134.symm.trans c128]
      refine lv_if_eq (tgt := 39) hx hb dX7_readLift_35 (by decide) (fun c => absurd c (by decide)) (fun _ => ?_)
      replace hM := hM.neg (by decide)
      exact tk_vret hC hr hlocks hK ⟨hT, hF, hM.ret rfl, (Or.inl ⟨⟨x35, c134, (show 1 ≤ x35.toInt by first | with_reducible assumption | omega), (show x35.toInt ≤ 3205 by first | with_reducible assumption | omega)⟩, ⟨x1, c132, (show 0 ≤ x1.toInt from rx1), (show x1.toInt ≤ 12 from tx1)⟩, ⟨f1_, c131, (show 0 ≤ f1_.toInt from rf1_), (show f1_.toInt ≤ 3 from tf1_)⟩⟩)⟩ hw dX7_readLift_38
  · replace hM := hM.call (r' := (-1)) hv20 (by decide)
    refine lv_istore_n (lv' := [(2, .int (-1)), (0, .ref (ad 29)), (1, .ref (ad 1))]) hx hb dX7_readLift_11 rfl hl (by decide) rfl (fun ls hl => ?_)
    refine lv_aload_n hx hb dX7_readLift_12 rfl (lv_at hl 2 rfl) ?_
    refine lv_iconst (v := 0) hx hb dX7_readLift_13 (by decide) ?_
    refine lv_bipush (v := 23) hx hb dX7_readLift_14 (by decide) ?_
    refine tk_Vi hC hK hw hT hA hE hSR kC_at1 (by decide) rfl (kz_X6_readNumber_13 l adK adV dC dI cy ad B hB0 (Int.le_trans hB1 (by decide)) qr s1    w6 H.size hT x17 c18 (show 1 ≤ x17.toInt by first | with_reducible assumption | omega) (show x17.toInt ≤ 3205 by first | with_reducible assumption | omega)) (cwV 2 hC.2.2.2.2 uV_RX7_92 rfl rfl rfl (by decide +kernel) ⟨Nat.le_of_ble_eq_true rfl, Nat.le_of_ble_eq_true rfl⟩) rfl hl.1 rfl (Nat.le_of_ble_eq_true rfl) dX7_readLift_16 (fun r135 w137 H locs hp136 hw => ?_)
    obtain ⟨hT, k138, hv142, hg141⟩ := hp136
    have hF := hF.tr k138 (by decide)
    have c143 := k138.gi kC_at29 (by decide) c21
    have c144 := k138.gi kC_at29 (by decide) c22
    have c145 := k138.gi kC_at1 (by decide) c18
    obtain ⟨rfl, ⟨x139, c140, rx139, tx139⟩⟩ := hg141
    replace hM := hM.call (r' := (-1)) hv142 (by decide)
    have ex139 : x139.toInt = x17.toInt := by rw [← c145.symm.trans c140]
    refine lv_istore_n (lv' := [(3, .int (-1)), (2, .int (-1)), (0, .ref (ad 29)), (1, .ref (ad 1))]) hx hb dX7_readLift_19 rfl hl (by decide) rfl (fun ls hl => ?_)
    refine lv_aload_n hx hb dX7_readLift_20 rfl (lv_at hl 3 rfl) ?_
    refine lv_iload_n hx hb dX7_readLift_21 rfl (lv_at hl 0 rfl) ?_
    refine lv_iconst (v := 1) hx hb dX7_readLift_22 (by decide) ?_
    refine lv_iadd hx hb dX7_readLift_23 ?_
    refine wk_top 0 (by decide) ?_
    replace hM := hM.lt (v := 0) (by decide)
    refine lv_bipush (v := 24) hx hb dX7_readLift_24 (by decide) ?_
    refine tk_Vi hC hK hw hT hA hE hSR kC_at1 (by decide) rfl (kz_X6_readNumber_12 l adK adV dC dI cy ad B hB0 (Int.le_trans hB1 (by decide)) qr s1    w137 H.size hT x17 c145 (show 1 ≤ x17.toInt by first | with_reducible assumption | omega) (show x17.toInt ≤ 3205 by first | with_reducible assumption | omega)) (cwV 2 hC.2.2.2.2 uV_RX7_92 rfl rfl rfl (by decide +kernel) ⟨Nat.le_of_ble_eq_true rfl, Nat.le_of_ble_eq_true rfl⟩) rfl hl.1 rfl (Nat.le_of_ble_eq_true rfl) dX7_readLift_26 (fun r146 w148 H locs hp147 hw => ?_)
    obtain ⟨hT, k149, hv153, hg152⟩ := hp147
    have hF := hF.tr k149 (by decide)
    have c154 := k149.gi kC_at29 (by decide) c143
    have c155 := k149.gi kC_at29 (by decide) c144
    have c156 := k149.gi kC_at1 (by decide) c145
    obtain ⟨rfl, ⟨x150, c151, rx150, tx150⟩⟩ := hg152
    replace hM := hM.call (r' := (-1)) hv153 (by decide)
    have ex150 : x150.toInt = x17.toInt := by rw [← c156.symm.trans c151]
    refine lv_istore (lv' := [(4, .int (-1)), (3, .int (-1)), (2, .int (-1)), (0, .ref (ad 29)), (1, .ref (ad 1))]) hx hb dX7_readLift_29 hl (by decide) rfl (fun ls hl => ?_)
    refine lv_aload_n hx hb dX7_readLift_31 rfl (lv_at hl 4 rfl) ?_
    refine tk_Vi hC hK hw hT hA hE hSR kC_at1 (by decide) rfl (kz_X6_isFaulty_3 l adK adV dC dI cy ad B hB0 (Int.le_trans hB1 (by decide)) qr s1    w148 H.size hT x17 c156 (show 1 ≤ x17.toInt by first | with_reducible assumption | omega) (show x17.toInt ≤ 3205 by first | with_reducible assumption | omega)) (cwV 0 hC.2.2.2.2 uV_RX7_89 rfl rfl rfl (by decide +kernel) ⟨Nat.le_of_ble_eq_true rfl, Nat.le_of_ble_eq_true rfl⟩) rfl hl.1 rfl (Nat.le_of_ble_eq_true rfl) dX7_readLift_32 (fun r157 w159 H locs hp158 hw => ?_)
    obtain ⟨hT, k160, hv164, hg163⟩ := hp158
    have hF := hF.tr k160 (by decide)
    have c165 := k160.gi kC_at29 (by decide) c154
    have c166 := k160.gi kC_at29 (by decide) c155
    have c167 := k160.gi kC_at1 (by decide) c156
    obtain ⟨rfl, ⟨x161, c162, rx161, tx161⟩⟩ := hg163
    replace hM := hM.call (r' := 1) hv164 (by decide)
    have ex161 : x161.toInt = x17.toInt := by rw [← c167.symm.trans c162]
    refine lv_if_eq (tgt := 39) hx hb dX7_readLift_35 (by decide) (fun c => absurd c (by decide)) (fun _ => ?_)
    replace hM := hM.neg (by decide)
    exact tk_vret hC hr hlocks hK ⟨hT, hF, hM.ret rfl, (Or.inl ⟨⟨x17, c167, (show 1 ≤ x17.toInt by first | with_reducible assumption | omega), (show x17.toInt ≤ 3205 by first | with_reducible assumption | omega)⟩, ⟨x1, c166, (show 0 ≤ x1.toInt from rx1), (show x1.toInt ≤ 12 from tx1)⟩, ⟨f1_, c165, (show 0 ≤ f1_.toInt from rf1_), (show f1_.toInt ≤ 3 from tf1_)⟩⟩)⟩ hw dX7_readLift_38
