abbrev Pz_X9_setOut_1 (ad : Nat → Nat) (cy : Nat → ClassId) (B : Int) (qr : Nat) (s1 : Int) (q0_ : Nat) (a1 : Int32) (a2 : Int32) (a3 : Int32) (a4 : Int32) (w0 : va_W) : va_W → Prop := fun u => TW ksC ad cy B qr s1 u ∧ FE ksC [(9, 0, 0), (9, 1, 1), (9, 2, 2), (9, 3, 3), (9, 4, 4), (9, 5, 5), (9, 6, 6), (9, 7, 7), (9, 8, 8)] w0 u ∧ Ev (fun n => m_X9_setOut n q0_ a1.toInt a2.toInt a3.toInt a4.toInt 0 (sI w0)) (0, sI u) ∧ (((∃ y : Int32, gi u q0_ 5 = y ∧ 0 ≤ y.toInt ∧ y.toInt ≤ 0) ∧ (∃ y : Int32, gi u q0_ 6 = y ∧ 0 ≤ y.toInt ∧ y.toInt ≤ 0) ∧ (∃ y : Int32, gi u q0_ 7 = y ∧ (-1) ≤ y.toInt ∧ y.toInt ≤ (-1))))
set_option maxHeartbeats 4000000 in
set_option maxRecDepth 100000 in
theorem kz_X9_setOut_1 (l : Launch) (adK adV : Nat → Nat) (dC : Nat → ClassId) (dI : Nat → Nat → Nat) (cy : Nat → ClassId) (ad : Nat → Nat) (B : Int) (hB0 : 2147483648 ≤ B) (hB1 : B ≤ 1152921504606846976) (qr : Nat) (s1 : Int)  (q0_ : Nat) (hkq0_ : ksC[q0_]? = some 9) (a1 : Int32) (ra1 : 0 ≤ a1.toInt) (ta1 : a1.toInt ≤ 9) (a2 : Int32) (ra2 : 0 ≤ a2.toInt) (ta2 : a2.toInt ≤ 9) (a3 : Int32) (ra3 : 0 ≤ a3.toInt) (ta3 : a3.toInt ≤ 3) (a4 : Int32) (a5 : Int64) (ra5 : 0 ≤ a5.toInt) (ta5 : a5.toInt ≤ B) (w0 : va_W) (sz : Nat) (hT : TW ksC ad cy B qr s1 w0)  : Met l yX9_setOut (wu yX9_setOut cX9_setOut 7 none) ({ frames := 1, cells := 0, slots := 0, locals := 12 }) (va_Pc [.ref (ad q0_), .int a1, .int a2, .int a3, .int a4, .long a5] (wpreS adK adV dC dI cy sz w0)) (va_Qv (Pz_X9_setOut_1 ad cy B qr s1 q0_ a1 a2 a3 a4 w0) (fun u : va_W => wpost dC dI cy (va_A w0 sz) u) (va_A w0 sz)) 0 0 (va_A w0 sz) := by
  refine Met.ofW (cc := cX9_setOut) (maxL := 7) (ret := none) (by decide) rfl ?_
  intro p e s m args below meth c s₁ Bk hml hv
  obtain ⟨rfl, ⟨hsz, hP, hK, hD0⟩, hE, hSR⟩ := hv
  have hx := Bk.exec
  have hb := Bk.bytes
  have hr := Bk.returns
  have hlocks := Bk.notSynchronized
  have hC : CallFix p m c cX9_setOut 7 s _ (wu yX9_setOut cX9_setOut 7 none) RX9 := ⟨hx, hb, hml, findClass_of_methodNamed Bk.named, atoms_spec (ws := (wu yX9_setOut cX9_setOut 7 none)) Bk.pre⟩
  subst hsz
  have hD := hD0.self (sz := s.heap.size)
  generalize hAe : va_A w0 s.heap.size = A at hD hE ⊢
  have hA : ∀ q : Nat, s.heap.size ≤ q → A q := fun q h => by rw [← hAe]; exact Or.inr h
  have hw : Wd dC dI A s.heap s.heap [] w0 := ⟨hP, hD, va_S.rf⟩
  have hF : FE ksC [(9, 0, 0), (9, 1, 1), (9, 2, 2), (9, 3, 3), (9, 4, 4), (9, 5, 5), (9, 6, 6), (9, 7, 7), (9, 8, 8)] w0 w0 := FE.rf
  have hl := lv_entry ([.ref (ad q0_), .int a1, .int a2, .int a3, .int a4, .long a5]) (n := 7) (Nat.le_of_ble_eq_true rfl)
  rw [lg_entry_eq]
  generalize (lg_sl ([.ref (ad q0_), .int a1, .int a2, .int a3, .int a4, .long a5]) ++ List.replicate (7 - (lg_sl ([.ref (ad q0_), .int a1, .int a2, .int a3, .int a4, .long a5])).length) Slot.unset).toArray = ls at hl ⊢
  have hl : lv_has ls 7 [(0, .ref (ad q0_)), (1, .int a1), (2, .int a2), (3, .int a3), (4, .int a4), (5, .long a5)] := hl
  generalize hloc : ([] : List Loc) = locs at hw ⊢
  have hinX9 : ∀ w ∈ u_ws RX9 TX9 9, w ∈ (wu yX9_setOut cX9_setOut 7 none) := fun _ h => List.mem_cons_of_mem _ (up_82 h)
  have hM : TT (fun n => m_X9_setOut n q0_ a1.toInt a2.toInt a3.toInt a4.toInt 0 (sI w0)) (fun n => m_X9_setOut n q0_ a1.toInt a2.toInt a3.toInt a4.toInt 0 (sI w0)) := TT.rf
  refine lv_aload_n hx hb dX9_setOut_0 rfl (lv_at hl 0 rfl) ?_
  refine lv_iload_n hx hb dX9_setOut_1 rfl (lv_at hl 1 rfl) ?_
  refine tk_puti hC hK hw hT hinX9 tyX9_ok nmX9 hkq0_ (by decide) rfl rfl 0 (by decide) (List.mem_cons_of_mem _ uw_39_9) rfl rfl rfl rfl (show 0 ≤ a1.toInt from ra1) (show a1.toInt ≤ 9 from ta1) dX9_setOut_2 (fun H locs w1 hw hT k3 c2 => ?_)
  replace hM := hM.wr (sI_up k3 c2)
  have hF := hF.put hkq0_ (k := 0) (by decide) k3
  refine lv_aload_n hx hb dX9_setOut_5 rfl (lv_at hl 0 rfl) ?_
  refine lv_iload_n hx hb dX9_setOut_6 rfl (lv_at hl 2 rfl) ?_
  refine tk_puti hC hK hw hT hinX9 tyX9_ok nmX9 hkq0_ (by decide) rfl rfl 1 (by decide) (List.mem_cons_of_mem _ uw_39_10) rfl rfl rfl rfl (show 0 ≤ a2.toInt from ra2) (show a2.toInt ≤ 9 from ta2) dX9_setOut_7 (fun H locs w4 hw hT k6 c5 => ?_)
  replace hM := hM.wr (sI_up k6 c5)
  have hF := hF.put hkq0_ (k := 1) (by decide) k6
  have c7 := k6.gi (Or.inr (by decide)) c2
  refine lv_aload_n hx hb dX9_setOut_10 rfl (lv_at hl 0 rfl) ?_
  refine lv_iload_n hx hb dX9_setOut_11 rfl (lv_at hl 3 rfl) ?_
  refine tk_puti hC hK hw hT hinX9 tyX9_ok nmX9 hkq0_ (by decide) rfl rfl 2 (by decide) (List.mem_cons_of_mem _ uw_39_11) rfl rfl rfl rfl (show 0 ≤ a3.toInt from ra3) (show a3.toInt ≤ 3 from ta3) dX9_setOut_12 (fun H locs w8 hw hT k10 c9 => ?_)
  replace hM := hM.wr (sI_up k10 c9)
  have hF := hF.put hkq0_ (k := 2) (by decide) k10
  have c11 := k10.gi (Or.inr (by decide)) c7
  have c12 := k10.gi (Or.inr (by decide)) c5
  refine lv_aload_n hx hb dX9_setOut_15 rfl (lv_at hl 0 rfl) ?_
  refine lv_iload hx hb dX9_setOut_16 (lv_at hl 4 rfl) ?_
  refine tk_puti hC hK hw hT hinX9 tyX9_ok nmX9 hkq0_ (by decide) rfl rfl 3 (by decide) (List.mem_cons_of_mem _ uw_39_12) rfl rfl rfl rfl (wk_i32 a4).1 (wk_i32 a4).2 dX9_setOut_18 (fun H locs w13 hw hT k15 c14 => ?_)
  replace hM := hM.wr (sI_up k15 c14)
  have hF := hF.put hkq0_ (k := 3) (by decide) k15
  have c16 := k15.gi (Or.inr (by decide)) c11
  have c17 := k15.gi (Or.inr (by decide)) c12
  have c18 := k15.gi (Or.inr (by decide)) c9
  refine lv_aload_n hx hb dX9_setOut_21 rfl (lv_at hl 0 rfl) ?_
  refine lv_lload hx hb dX9_setOut_22 (lv_at hl 5 rfl) ?_
  have hTq := hT
  refine tk_putB hC hK hw hT hinX9 tyX9_ok nmX9 hkq0_ (by decide) rfl rfl 4 (by decide) (List.mem_cons_of_mem _ uw_39_13) rfl rfl rfl rfl (show 0 ≤ a5.toInt from ra5) (show a5.toInt ≤ B from ta5) dX9_setOut_24 (fun H locs w19 hw hT k21 c20 => ?_)
  replace hM := hM.st (sI_long hTq hT k21 hkq0_ (by decide) rfl (by decide))
  have hF := hF.put hkq0_ (k := 4) (by decide) k21
  have c22 := k21.gi (Or.inr (by decide)) c16
  have c23 := k21.gi (Or.inr (by decide)) c17
  have c24 := k21.gi (Or.inr (by decide)) c18
  have c25 := k21.gi (Or.inr (by decide)) c14
  refine lv_aload_n hx hb dX9_setOut_27 rfl (lv_at hl 0 rfl) ?_
  refine lv_iconst (v := 0) hx hb dX9_setOut_28 (by decide) ?_
  refine tk_puti hC hK hw hT hinX9 tyX9_ok nmX9 hkq0_ (by decide) rfl rfl 5 (by decide) (List.mem_cons_of_mem _ uw_39_14) rfl rfl rfl rfl (by decide) (by decide) dX9_setOut_29 (fun H locs w26 hw hT k28 c27 => ?_)
  replace hM := hM.wr (sI_upc k28 c27 (by decide))
  have hF := hF.put hkq0_ (k := 5) (by decide) k28
  have c29 := k28.gi (Or.inr (by decide)) c22
  have c30 := k28.gi (Or.inr (by decide)) c23
  have c31 := k28.gi (Or.inr (by decide)) c24
  have c32 := k28.gi (Or.inr (by decide)) c25
  have c33 := k28.gl (Or.inr (by decide)) c20
  refine lv_aload_n hx hb dX9_setOut_32 rfl (lv_at hl 0 rfl) ?_
  refine lv_iconst (v := 0) hx hb dX9_setOut_33 (by decide) ?_
  refine tk_puti hC hK hw hT hinX9 tyX9_ok nmX9 hkq0_ (by decide) rfl rfl 6 (by decide) (List.mem_cons_of_mem _ uw_39_15) rfl rfl rfl rfl (by decide) (by decide) dX9_setOut_34 (fun H locs w34 hw hT k36 c35 => ?_)
  replace hM := hM.wr (sI_upc k36 c35 (by decide))
  have hF := hF.put hkq0_ (k := 6) (by decide) k36
  have c37 := k36.gi (Or.inr (by decide)) c29
  have c38 := k36.gi (Or.inr (by decide)) c30
  have c39 := k36.gi (Or.inr (by decide)) c31
  have c40 := k36.gi (Or.inr (by decide)) c32
  have c41 := k36.gl (Or.inr (by decide)) c33
  have c42 := k36.gi (Or.inr (by decide)) c27
  refine lv_aload_n hx hb dX9_setOut_37 rfl (lv_at hl 0 rfl) ?_
  refine lv_iconst (v := (-1)) hx hb dX9_setOut_38 (by decide) ?_
  refine tk_puti hC hK hw hT hinX9 tyX9_ok nmX9 hkq0_ (by decide) rfl rfl 7 (by decide) (List.mem_cons_of_mem _ uw_39_16) rfl rfl rfl rfl (by decide) (by decide) dX9_setOut_39 (fun H locs w43 hw hT k45 c44 => ?_)
  replace hM := hM.wr (sI_upc k45 c44 (by decide))
  have hF := hF.put hkq0_ (k := 7) (by decide) k45
  have c46 := k45.gi (Or.inr (by decide)) c37
  have c47 := k45.gi (Or.inr (by decide)) c38
  have c48 := k45.gi (Or.inr (by decide)) c39
  have c49 := k45.gi (Or.inr (by decide)) c40
  have c50 := k45.gl (Or.inr (by decide)) c41
  have c51 := k45.gi (Or.inr (by decide)) c42
  have c52 := k45.gi (Or.inr (by decide)) c35
  refine lv_aload_n hx hb dX9_setOut_42 rfl (lv_at hl 0 rfl) ?_
  refine lv_ldc2 (v := (-1)) hx hb hC.2.2.2.1 (hC.2.2.2.2 _ (List.mem_cons_of_mem _ uw_39_17)) dX9_setOut_43 ?_
  have hTq := hT
  refine tk_putl hC hK hw hT hinX9 tyX9_ok nmX9 hkq0_ (by decide) rfl rfl 8 (by decide) (List.mem_cons_of_mem _ uw_39_18) rfl rfl rfl rfl (by decide) (by decide) dX9_setOut_46 (fun H locs w53 hw hT k55 c54 => ?_)
  replace hM := hM.st (sI_long hTq hT k55 hkq0_ (by decide) rfl (by decide))
  have hF := hF.put hkq0_ (k := 8) (by decide) k55
  have c56 := k55.gi (Or.inr (by decide)) c46
  have c57 := k55.gi (Or.inr (by decide)) c47
  have c58 := k55.gi (Or.inr (by decide)) c48
  have c59 := k55.gi (Or.inr (by decide)) c49
  have c60 := k55.gl (Or.inr (by decide)) c50
  have c61 := k55.gi (Or.inr (by decide)) c51
  have c62 := k55.gi (Or.inr (by decide)) c52
  have c63 := k55.gi (Or.inr (by decide)) c44
  exact tk_vret hC hr hlocks hK ⟨hT, hF, hM.ret rfl, ⟨⟨0, c61, (by decide), (by decide)⟩, ⟨0, c62, (by decide), (by decide)⟩, ⟨(-1), c63, (by decide), (by decide)⟩⟩⟩ hw dX9_setOut_49
abbrev Pz_X9_copyFrom_1 (ad : Nat → Nat) (cy : Nat → ClassId) (B : Int) (qr : Nat) (s1 : Int) (q0_ : Nat) (q1_ : Nat) (w0 : va_W) : va_W → Prop := fun u => TW ksC ad cy B qr s1 u ∧ FE ksC [(9, 0, 0), (9, 1, 1), (9, 2, 2), (9, 3, 3), (9, 4, 4), (9, 5, 5), (9, 6, 6), (9, 7, 7), (9, 8, 8)] w0 u ∧ Ev (fun n => m_X9_copyFrom n q0_ q1_ (sI w0)) (0, sI u) ∧ ((True))
set_option maxHeartbeats 4000000 in
set_option maxRecDepth 100000 in
theorem kz_X9_copyFrom_1 (l : Launch) (adK adV : Nat → Nat) (dC : Nat → ClassId) (dI : Nat → Nat → Nat) (cy : Nat → ClassId) (ad : Nat → Nat) (B : Int) (hB0 : 2147483648 ≤ B) (hB1 : B ≤ 1152921504606846976) (qr : Nat) (s1 : Int)  (q0_ : Nat) (hkq0_ : ksC[q0_]? = some 9) (q1_ : Nat) (hkq1_ : ksC[q1_]? = some 9) (w0 : va_W) (sz : Nat) (hT : TW ksC ad cy B qr s1 w0)  : Met l yX9_copyFrom (wu yX9_copyFrom cX9_copyFrom 2 none) ({ frames := 2, cells := 0, slots := 0, locals := 38 }) (va_Pc [.ref (ad q0_), .ref (ad q1_)] (wpreS adK adV dC dI cy sz w0)) (va_Qv (Pz_X9_copyFrom_1 ad cy B qr s1 q0_ q1_ w0) (fun u : va_W => wpost dC dI cy (va_A w0 sz) u) (va_A w0 sz)) 0 0 (va_A w0 sz) := by
  refine Met.ofW (cc := cX9_copyFrom) (maxL := 2) (ret := none) (by decide) rfl ?_
  intro p e s m args below meth c s₁ Bk hml hv
  obtain ⟨rfl, ⟨hsz, hP, hK, hD0⟩, hE, hSR⟩ := hv
  have hx := Bk.exec
  have hb := Bk.bytes
  have hr := Bk.returns
  have hlocks := Bk.notSynchronized
  have hC : CallFix p m c cX9_copyFrom 2 s _ (wu yX9_copyFrom cX9_copyFrom 2 none) RX9 := ⟨hx, hb, hml, findClass_of_methodNamed Bk.named, atoms_spec (ws := (wu yX9_copyFrom cX9_copyFrom 2 none)) Bk.pre⟩
  subst hsz
  have hD := hD0.self (sz := s.heap.size)
  generalize hAe : va_A w0 s.heap.size = A at hD hE ⊢
  have hA : ∀ q : Nat, s.heap.size ≤ q → A q := fun q h => by rw [← hAe]; exact Or.inr h
  have hw : Wd dC dI A s.heap s.heap [] w0 := ⟨hP, hD, va_S.rf⟩
  have hF : FE ksC [(9, 0, 0), (9, 1, 1), (9, 2, 2), (9, 3, 3), (9, 4, 4), (9, 5, 5), (9, 6, 6), (9, 7, 7), (9, 8, 8)] w0 w0 := FE.rf
  have hl := lv_entry ([.ref (ad q0_), .ref (ad q1_)]) (n := 2) (Nat.le_of_ble_eq_true rfl)
  rw [lg_entry_eq]
  generalize (lg_sl ([.ref (ad q0_), .ref (ad q1_)]) ++ List.replicate (2 - (lg_sl ([.ref (ad q0_), .ref (ad q1_)])).length) Slot.unset).toArray = ls at hl ⊢
  have hl : lv_has ls 2 [(0, .ref (ad q0_)), (1, .ref (ad q1_))] := hl
  generalize hloc : ([] : List Loc) = locs at hw ⊢
  have hinX9 : ∀ w ∈ u_ws RX9 TX9 9, w ∈ (wu yX9_copyFrom cX9_copyFrom 2 none) := fun _ h => List.mem_cons_of_mem _ (up_82 h)
  have hM : TT (fun n => m_X9_copyFrom n q0_ q1_ (sI w0)) (fun n => m_X9_copyFrom n q0_ q1_ (sI w0)) := TT.rf
  refine lv_aload_n hx hb dX9_copyFrom_0 rfl (lv_at hl 0 rfl) ?_
  refine lv_aload_n hx hb dX9_copyFrom_1 rfl (lv_at hl 1 rfl) ?_
  refine tk_geti hC hK hw hT hinX9 hkq1_ (by decide) rfl 0 (by decide) (List.mem_cons_of_mem _ uw_39_9) rfl rfl dX9_copyFrom_2 (fun x1 c2 rx1 tx1 => ?_)
  replace hM := hM.rd (sI_at c2)
  refine lv_aload_n hx hb dX9_copyFrom_5 rfl (lv_at hl 1 rfl) ?_
  refine tk_geti hC hK hw hT hinX9 hkq1_ (by decide) rfl 1 (by decide) (List.mem_cons_of_mem _ uw_39_10) rfl rfl dX9_copyFrom_6 (fun x3 c4 rx3 tx3 => ?_)
  replace hM := hM.rd (sI_at c4)
  refine lv_aload_n hx hb dX9_copyFrom_9 rfl (lv_at hl 1 rfl) ?_
  refine tk_geti hC hK hw hT hinX9 hkq1_ (by decide) rfl 2 (by decide) (List.mem_cons_of_mem _ uw_39_11) rfl rfl dX9_copyFrom_10 (fun x5 c6 rx5 tx5 => ?_)
  replace hM := hM.rd (sI_at c6)
  refine lv_aload_n hx hb dX9_copyFrom_13 rfl (lv_at hl 1 rfl) ?_
  refine tk_geti hC hK hw hT hinX9 hkq1_ (by decide) rfl 3 (by decide) (List.mem_cons_of_mem _ uw_39_12) rfl rfl dX9_copyFrom_14 (fun x7 c8 rx7 tx7 => ?_)
  replace hM := hM.rd (sI_at c8)
  refine lv_aload_n hx hb dX9_copyFrom_17 rfl (lv_at hl 1 rfl) ?_
  refine tk_getB hC hK hw hT hinX9 hkq1_ (by decide) rfl 4 (by decide) (List.mem_cons_of_mem _ uw_39_13) rfl rfl dX9_copyFrom_18 (fun x9 c10 rx9 tx9 => ?_)
  refine tk_Vv hC hK hw hT hA hE hSR hkq0_ (by decide) rfl (kz_X9_setOut_1 l adK adV dC dI cy ad B hB0 (Int.le_trans hB1 (by decide)) qr s1   q0_ hkq0_ x1 (show 0 ≤ x1.toInt by first | with_reducible assumption | omega) (show x1.toInt ≤ 9 by first | with_reducible assumption | omega) x3 (show 0 ≤ x3.toInt by first | with_reducible assumption | omega) (show x3.toInt ≤ 9 by first | with_reducible assumption | omega) x5 (show 0 ≤ x5.toInt by first | with_reducible assumption | omega) (show x5.toInt ≤ 3 by first | with_reducible assumption | omega) x7 x9 (show 0 ≤ x9.toInt by first | with_reducible assumption | omega) (show x9.toInt ≤ B by omega) w0 s.heap.size hT ) (cwV 5 hC.2.2.2.2 uV_RX9_42 rfl rfl rfl (by decide +kernel) ⟨Nat.le_of_ble_eq_true rfl, Nat.le_of_ble_eq_true rfl⟩) rfl hl.1 rfl (Nat.le_of_ble_eq_true rfl) dX9_copyFrom_21 (fun w13 H locs hp12 hw => ?_)
  obtain ⟨hT, k14, hv22, hg21⟩ := hp12
  have hF := hF.tr k14 (by decide)
  obtain ⟨⟨x15, c16, rx15, tx15⟩, ⟨x17, c18, rx17, tx17⟩, ⟨x19, c20, rx19, tx19⟩⟩ := hg21
  replace hM := hM.call hv22 rfl
  refine lv_aload_n hx hb dX9_copyFrom_24 rfl (lv_at hl 0 rfl) ?_
  refine lv_aload_n hx hb dX9_copyFrom_25 rfl (lv_at hl 1 rfl) ?_
  refine tk_geti hC hK hw hT hinX9 hkq1_ (by decide) rfl 5 (by decide) (List.mem_cons_of_mem _ uw_39_14) rfl rfl dX9_copyFrom_26 (fun x23 c24 rx23 tx23 => ?_)
  replace hM := hM.rd (sI_at c24)
  refine tk_puti hC hK hw hT hinX9 tyX9_ok nmX9 hkq0_ (by decide) rfl rfl 5 (by decide) (List.mem_cons_of_mem _ uw_39_14) rfl rfl rfl rfl (wk_i32 x23).1 (wk_i32 x23).2 dX9_copyFrom_29 (fun H locs w25 hw hT k27 c26 => ?_)
  replace hM := hM.wr (sI_up k27 c26)
  have hF := hF.put hkq0_ (k := 5) (by decide) k27
  have c28 := k27.gi (Or.inr (by decide)) c18
  have c29 := k27.gi (Or.inr (by decide)) c20
  refine lv_aload_n hx hb dX9_copyFrom_32 rfl (lv_at hl 0 rfl) ?_
  refine lv_aload_n hx hb dX9_copyFrom_33 rfl (lv_at hl 1 rfl) ?_
  refine tk_geti hC hK hw hT hinX9 hkq1_ (by decide) rfl 6 (by decide) (List.mem_cons_of_mem _ uw_39_15) rfl rfl dX9_copyFrom_34 (fun x30 c31 rx30 tx30 => ?_)
  replace hM := hM.rd (sI_at c31)
  refine tk_puti hC hK hw hT hinX9 tyX9_ok nmX9 hkq0_ (by decide) rfl rfl 6 (by decide) (List.mem_cons_of_mem _ uw_39_15) rfl rfl rfl rfl (wk_i32 x30).1 (wk_i32 x30).2 dX9_copyFrom_37 (fun H locs w32 hw hT k34 c33 => ?_)
  replace hM := hM.wr (sI_up k34 c33)
  have hF := hF.put hkq0_ (k := 6) (by decide) k34
  have c35 := k34.gi (Or.inr (by decide)) c29
  have c36 := k34.gi (Or.inr (by decide)) c26
  refine lv_aload_n hx hb dX9_copyFrom_40 rfl (lv_at hl 0 rfl) ?_
  refine lv_aload_n hx hb dX9_copyFrom_41 rfl (lv_at hl 1 rfl) ?_
  refine tk_geti hC hK hw hT hinX9 hkq1_ (by decide) rfl 7 (by decide) (List.mem_cons_of_mem _ uw_39_16) rfl rfl dX9_copyFrom_42 (fun x37 c38 rx37 tx37 => ?_)
  replace hM := hM.rd (sI_at c38)
  refine tk_puti hC hK hw hT hinX9 tyX9_ok nmX9 hkq0_ (by decide) rfl rfl 7 (by decide) (List.mem_cons_of_mem _ uw_39_16) rfl rfl rfl rfl (show (-1) ≤ x37.toInt by first | with_reducible assumption | omega) (show x37.toInt ≤ 9 by first | with_reducible assumption | omega) dX9_copyFrom_45 (fun H locs w39 hw hT k41 c40 => ?_)
  replace hM := hM.wr (sI_up k41 c40)
  have hF := hF.put hkq0_ (k := 7) (by decide) k41
  have c42 := k41.gi (Or.inr (by decide)) c36
  have c43 := k41.gi (Or.inr (by decide)) c33
  refine lv_aload_n hx hb dX9_copyFrom_48 rfl (lv_at hl 0 rfl) ?_
  refine lv_aload_n hx hb dX9_copyFrom_49 rfl (lv_at hl 1 rfl) ?_
  refine tk_getl hC hK hw hT hinX9 hkq1_ (by decide) rfl 8 (by decide) (List.mem_cons_of_mem _ uw_39_18) rfl rfl dX9_copyFrom_50 (fun x44 c45 rx44 tx44 => ?_)
  have hTq := hT
  refine tk_putl hC hK hw hT hinX9 tyX9_ok nmX9 hkq0_ (by decide) rfl rfl 8 (by decide) (List.mem_cons_of_mem _ uw_39_18) rfl rfl rfl rfl (wk_i64 x44).1 (wk_i64 x44).2 dX9_copyFrom_53 (fun H locs w46 hw hT k48 c47 => ?_)
  replace hM := hM.st (sI_long hTq hT k48 hkq0_ (by decide) rfl (by decide))
  have hF := hF.put hkq0_ (k := 8) (by decide) k48
  have c49 := k48.gi (Or.inr (by decide)) c42
  have c50 := k48.gi (Or.inr (by decide)) c43
  have c51 := k48.gi (Or.inr (by decide)) c40
  exact tk_vret hC hr hlocks hK ⟨hT, hF, hM.ret rfl, trivial⟩ hw dX9_copyFrom_56
abbrev Pz_X7_copyFrom_2 (ad : Nat → Nat) (cy : Nat → ClassId) (B : Int) (qr : Nat) (s1 : Int) (q0_ : Nat) (w0 : va_W) : va_W → Prop := fun u => TW ksC ad cy B qr s1 u ∧ FE ksC [(7, 8, 8), (7, 9, 9), (7, 10, 10), (7, 11, 11), (24, 0, 100000), (25, 0, 100000), (26, 0, 100000), (27, 0, 100000), (28, 0, 100000), (29, 0, 100000), (30, 0, 100000), (31, 0, 100000)] w0 u ∧ Ev (fun n => m_X7_copyFrom n q0_ 39 (sI w0)) (0, sI u) ∧ ((True))
set_option maxHeartbeats 4000000 in
set_option maxRecDepth 100000 in
theorem kz_X7_copyFrom_2 (l : Launch) (adK adV : Nat → Nat) (dC : Nat → ClassId) (dI : Nat → Nat → Nat) (cy : Nat → ClassId) (ad : Nat → Nat) (B : Int) (hB0 : 2147483648 ≤ B) (hB1 : B ≤ 1152921504606846976) (qr : Nat) (s1 : Int)  (q0_ : Nat) (hkq0_ : ksC[q0_]? = some 7) (w0 : va_W) (sz : Nat) (hT : TW ksC ad cy B qr s1 w0)  : Met l yX7_copyFrom (wu yX7_copyFrom cX7_copyFrom 2 none) ({ frames := 1, cells := 0, slots := 0, locals := 60 }) (va_Pc [.ref (ad q0_), .ref (ad 39)] (wpreS adK adV dC dI cy sz w0)) (va_Qv (Pz_X7_copyFrom_2 ad cy B qr s1 q0_ w0) (fun u : va_W => wpost dC dI cy (va_A w0 sz) u) (va_A w0 sz)) 0 0 (va_A w0 sz) := by
  refine Met.ofW (cc := cX7_copyFrom) (maxL := 2) (ret := none) (by decide) rfl ?_
  intro p e s m args below meth c s₁ Bk hml hv
  obtain ⟨rfl, ⟨hsz, hP, hK, hD0⟩, hE, hSR⟩ := hv
  have hx := Bk.exec
  have hb := Bk.bytes
  have hr := Bk.returns
  have hlocks := Bk.notSynchronized
  have hC : CallFix p m c cX7_copyFrom 2 s _ (wu yX7_copyFrom cX7_copyFrom 2 none) RX7 := ⟨hx, hb, hml, findClass_of_methodNamed Bk.named, atoms_spec (ws := (wu yX7_copyFrom cX7_copyFrom 2 none)) Bk.pre⟩
  subst hsz
  have hD := hD0.self (sz := s.heap.size)
  generalize hAe : va_A w0 s.heap.size = A at hD hE ⊢
  have hA : ∀ q : Nat, s.heap.size ≤ q → A q := fun q h => by rw [← hAe]; exact Or.inr h
  have hw : Wd dC dI A s.heap s.heap [] w0 := ⟨hP, hD, va_S.rf⟩
  have hF : FE ksC [(7, 8, 8), (7, 9, 9), (7, 10, 10), (7, 11, 11), (24, 0, 100000), (25, 0, 100000), (26, 0, 100000), (27, 0, 100000), (28, 0, 100000), (29, 0, 100000), (30, 0, 100000), (31, 0, 100000)] w0 w0 := FE.rf
  have hl := lv_entry ([.ref (ad q0_), .ref (ad 39)]) (n := 2) (Nat.le_of_ble_eq_true rfl)
  rw [lg_entry_eq]
  generalize (lg_sl ([.ref (ad q0_), .ref (ad 39)]) ++ List.replicate (2 - (lg_sl ([.ref (ad q0_), .ref (ad 39)])).length) Slot.unset).toArray = ls at hl ⊢
  have hl : lv_has ls 2 [(0, .ref (ad q0_)), (1, .ref (ad 39))] := hl
  generalize hloc : ([] : List Loc) = locs at hw ⊢
  have hinX7 : ∀ w ∈ u_ws RX7 TX7 12, w ∈ (wu yX7_copyFrom cX7_copyFrom 2 none) := fun _ h => List.mem_cons_of_mem _ (up_73 h)
  have hM : TT (fun n => m_X7_copyFrom n q0_ 39 (sI w0)) (fun n => m_X7_copyFrom n q0_ 39 (sI w0)) := TT.rf
  refine lv_aload_n hx hb dX7_copyFrom_0 rfl (lv_at hl 1 rfl) ?_
  refine tk_getO hC hK hw hT hinX7 kC_at39 (by decide) rfl 0 (by decide) (List.mem_cons_of_mem _ uw_2_17) rfl rfl dX7_copyFrom_1 ?_
  refine lv_iconst (v := 0) hx hb dX7_copyFrom_4 (by decide) ?_
  refine lv_aload_n hx hb dX7_copyFrom_5 rfl (lv_at hl 0 rfl) ?_
  refine tk_getO hC hK hw hT hinX7 hkq0_ (by decide) rfl 0 (by decide) (List.mem_cons_of_mem _ uw_2_17) rfl rfl dX7_copyFrom_6 ?_
  refine lv_iconst (v := 0) hx hb dX7_copyFrom_9 (by decide) ?_
  refine lv_aload_n hx hb dX7_copyFrom_10 rfl (lv_at hl 0 rfl) ?_
  refine tk_getO hC hK hw hT hinX7 hkq0_ (by decide) rfl 0 (by decide) (List.mem_cons_of_mem _ uw_2_17) rfl rfl dX7_copyFrom_11 ?_
  refine tk_alen (v := 26) hC hK hw hT (kC_7_1 hkq0_) rfl (by decide) rfl (by decide) dX7_copyFrom_14 ?_
  refine tk_copyx hC hK hw hT hl.1 (List.mem_cons_of_mem _ uw_18_19) (List.mem_cons_of_mem _ uw_18_20) (List.mem_cons_of_mem _ uw_18_21) (List.mem_cons_of_mem _ uw_18_22) kC_at40 (kC_7_1 hkq0_) (by decide) rfl rfl rfl rfl (by decide) (by decide) rfl rfl (by decide) (by decide) (by decide) (by decide) (by decide) (by decide) (Nat.le_of_ble_eq_true rfl) (by decide +kernel) dX7_copyFrom_15 (fun H locs w1 hw hT k2 hcp => ?_)
  replace hM := hM.cp hcp
  have hF := hF.tr k2 (by decide)
  refine lv_aload_n hx hb dX7_copyFrom_18 rfl (lv_at hl 1 rfl) ?_
  refine tk_getO hC hK hw hT hinX7 kC_at39 (by decide) rfl 1 (by decide) (List.mem_cons_of_mem _ uw_2_18) rfl rfl dX7_copyFrom_19 ?_
  refine lv_iconst (v := 0) hx hb dX7_copyFrom_22 (by decide) ?_
  refine lv_aload_n hx hb dX7_copyFrom_23 rfl (lv_at hl 0 rfl) ?_
  refine tk_getO hC hK hw hT hinX7 hkq0_ (by decide) rfl 1 (by decide) (List.mem_cons_of_mem _ uw_2_18) rfl rfl dX7_copyFrom_24 ?_
  refine lv_iconst (v := 0) hx hb dX7_copyFrom_27 (by decide) ?_
  refine lv_aload_n hx hb dX7_copyFrom_28 rfl (lv_at hl 0 rfl) ?_
  refine tk_getO hC hK hw hT hinX7 hkq0_ (by decide) rfl 1 (by decide) (List.mem_cons_of_mem _ uw_2_18) rfl rfl dX7_copyFrom_29 ?_
  refine tk_alen (v := 13) hC hK hw hT (kC_7_2 hkq0_) rfl (by decide) rfl (by decide) dX7_copyFrom_32 ?_
  refine tk_copyx hC hK hw hT hl.1 (List.mem_cons_of_mem _ uw_18_19) (List.mem_cons_of_mem _ uw_18_20) (List.mem_cons_of_mem _ uw_18_21) (List.mem_cons_of_mem _ uw_18_22) kC_at41 (kC_7_2 hkq0_) (by decide) rfl rfl rfl rfl (by decide) (by decide) rfl rfl (by decide) (by decide) (by decide) (by decide) (by decide) (by decide) (Nat.le_of_ble_eq_true rfl) (by decide +kernel) dX7_copyFrom_33 (fun H locs w3 hw hT k4 hcp => ?_)
  replace hM := hM.cp hcp
  have hF := hF.tr k4 (by decide)
  refine lv_aload_n hx hb dX7_copyFrom_36 rfl (lv_at hl 1 rfl) ?_
  refine tk_getO hC hK hw hT hinX7 kC_at39 (by decide) rfl 2 (by decide) (List.mem_cons_of_mem _ uw_2_19) rfl rfl dX7_copyFrom_37 ?_
  refine lv_iconst (v := 0) hx hb dX7_copyFrom_40 (by decide) ?_
  refine lv_aload_n hx hb dX7_copyFrom_41 rfl (lv_at hl 0 rfl) ?_
  refine tk_getO hC hK hw hT hinX7 hkq0_ (by decide) rfl 2 (by decide) (List.mem_cons_of_mem _ uw_2_19) rfl rfl dX7_copyFrom_42 ?_
  refine lv_iconst (v := 0) hx hb dX7_copyFrom_45 (by decide) ?_
  refine lv_aload_n hx hb dX7_copyFrom_46 rfl (lv_at hl 0 rfl) ?_
  refine tk_getO hC hK hw hT hinX7 hkq0_ (by decide) rfl 2 (by decide) (List.mem_cons_of_mem _ uw_2_19) rfl rfl dX7_copyFrom_47 ?_
  refine tk_alen (v := 91) hC hK hw hT (kC_7_3 hkq0_) rfl (by decide) rfl (by decide) dX7_copyFrom_50 ?_
  refine tk_copyx hC hK hw hT hl.1 (List.mem_cons_of_mem _ uw_18_19) (List.mem_cons_of_mem _ uw_18_20) (List.mem_cons_of_mem _ uw_18_21) (List.mem_cons_of_mem _ uw_18_22) kC_at42 (kC_7_3 hkq0_) (by decide) rfl rfl rfl rfl (by decide) (by decide) rfl rfl (by decide) (by decide) (by decide) (by decide) (by decide) (by decide) (Nat.le_of_ble_eq_true rfl) (by decide +kernel) dX7_copyFrom_51 (fun H locs w5 hw hT k6 hcp => ?_)
  replace hM := hM.cp hcp
  have hF := hF.tr k6 (by decide)
  refine lv_aload_n hx hb dX7_copyFrom_54 rfl (lv_at hl 1 rfl) ?_
  refine tk_getO hC hK hw hT hinX7 kC_at39 (by decide) rfl 3 (by decide) (List.mem_cons_of_mem _ uw_2_20) rfl rfl dX7_copyFrom_55 ?_
  refine lv_iconst (v := 0) hx hb dX7_copyFrom_58 (by decide) ?_
  refine lv_aload_n hx hb dX7_copyFrom_59 rfl (lv_at hl 0 rfl) ?_
  refine tk_getO hC hK hw hT hinX7 hkq0_ (by decide) rfl 3 (by decide) (List.mem_cons_of_mem _ uw_2_20) rfl rfl dX7_copyFrom_60 ?_
  refine lv_iconst (v := 0) hx hb dX7_copyFrom_63 (by decide) ?_
  refine lv_aload_n hx hb dX7_copyFrom_64 rfl (lv_at hl 0 rfl) ?_
  refine tk_getO hC hK hw hT hinX7 hkq0_ (by decide) rfl 3 (by decide) (List.mem_cons_of_mem _ uw_2_20) rfl rfl dX7_copyFrom_65 ?_
  refine tk_alen (v := 13) hC hK hw hT (kC_7_4 hkq0_) rfl (by decide) rfl (by decide) dX7_copyFrom_68 ?_
  refine tk_copyx hC hK hw hT hl.1 (List.mem_cons_of_mem _ uw_18_19) (List.mem_cons_of_mem _ uw_18_20) (List.mem_cons_of_mem _ uw_18_21) (List.mem_cons_of_mem _ uw_18_22) kC_at43 (kC_7_4 hkq0_) (by decide) rfl rfl rfl rfl (by decide) (by decide) rfl rfl (by decide) (by decide) (by decide) (by decide) (by decide) (by decide) (Nat.le_of_ble_eq_true rfl) (by decide +kernel) dX7_copyFrom_69 (fun H locs w7 hw hT k8 hcp => ?_)
  replace hM := hM.cp hcp
  have hF := hF.tr k8 (by decide)
  refine lv_aload_n hx hb dX7_copyFrom_72 rfl (lv_at hl 1 rfl) ?_
  refine tk_getO hC hK hw hT hinX7 kC_at39 (by decide) rfl 4 (by decide) (List.mem_cons_of_mem _ uw_2_21) rfl rfl dX7_copyFrom_73 ?_
  refine lv_iconst (v := 0) hx hb dX7_copyFrom_76 (by decide) ?_
  refine lv_aload_n hx hb dX7_copyFrom_77 rfl (lv_at hl 0 rfl) ?_
  refine tk_getO hC hK hw hT hinX7 hkq0_ (by decide) rfl 4 (by decide) (List.mem_cons_of_mem _ uw_2_21) rfl rfl dX7_copyFrom_78 ?_
  refine lv_iconst (v := 0) hx hb dX7_copyFrom_81 (by decide) ?_
  refine lv_aload_n hx hb dX7_copyFrom_82 rfl (lv_at hl 0 rfl) ?_
  refine tk_getO hC hK hw hT hinX7 hkq0_ (by decide) rfl 4 (by decide) (List.mem_cons_of_mem _ uw_2_21) rfl rfl dX7_copyFrom_83 ?_
  refine tk_alen (v := 26) hC hK hw hT (kC_7_5 hkq0_) rfl (by decide) rfl (by decide) dX7_copyFrom_86 ?_
  refine tk_copyx hC hK hw hT hl.1 (List.mem_cons_of_mem _ uw_18_19) (List.mem_cons_of_mem _ uw_18_20) (List.mem_cons_of_mem _ uw_18_21) (List.mem_cons_of_mem _ uw_18_22) kC_at44 (kC_7_5 hkq0_) (by decide) rfl rfl rfl rfl (by decide) (by decide) rfl rfl (by decide) (by decide) (by decide) (by decide) (by decide) (by decide) (Nat.le_of_ble_eq_true rfl) (by decide +kernel) dX7_copyFrom_87 (fun H locs w9 hw hT k10 hcp => ?_)
  replace hM := hM.cp hcp
  have hF := hF.tr k10 (by decide)
  refine lv_aload_n hx hb dX7_copyFrom_90 rfl (lv_at hl 1 rfl) ?_
  refine tk_getO hC hK hw hT hinX7 kC_at39 (by decide) rfl 5 (by decide) (List.mem_cons_of_mem _ uw_2_22) rfl rfl dX7_copyFrom_91 ?_
  refine lv_iconst (v := 0) hx hb dX7_copyFrom_94 (by decide) ?_
  refine lv_aload_n hx hb dX7_copyFrom_95 rfl (lv_at hl 0 rfl) ?_
  refine tk_getO hC hK hw hT hinX7 hkq0_ (by decide) rfl 5 (by decide) (List.mem_cons_of_mem _ uw_2_22) rfl rfl dX7_copyFrom_96 ?_
  refine lv_iconst (v := 0) hx hb dX7_copyFrom_99 (by decide) ?_
  refine lv_aload_n hx hb dX7_copyFrom_100 rfl (lv_at hl 0 rfl) ?_
  refine tk_getO hC hK hw hT hinX7 hkq0_ (by decide) rfl 5 (by decide) (List.mem_cons_of_mem _ uw_2_22) rfl rfl dX7_copyFrom_101 ?_
  refine tk_alen (v := 8) hC hK hw hT (kC_7_6 hkq0_) rfl (by decide) rfl (by decide) dX7_copyFrom_104 ?_
  refine tk_copyx hC hK hw hT hl.1 (List.mem_cons_of_mem _ uw_18_19) (List.mem_cons_of_mem _ uw_18_20) (List.mem_cons_of_mem _ uw_18_21) (List.mem_cons_of_mem _ uw_18_22) kC_at45 (kC_7_6 hkq0_) (by decide) rfl rfl rfl rfl (by decide) (by decide) rfl rfl (by decide) (by decide) (by decide) (by decide) (by decide) (by decide) (Nat.le_of_ble_eq_true rfl) (by decide +kernel) dX7_copyFrom_105 (fun H locs w11 hw hT k12 hcp => ?_)
  replace hM := hM.cp hcp
  have hF := hF.tr k12 (by decide)
  refine lv_aload_n hx hb dX7_copyFrom_108 rfl (lv_at hl 1 rfl) ?_
  refine tk_getO hC hK hw hT hinX7 kC_at39 (by decide) rfl 6 (by decide) (List.mem_cons_of_mem _ uw_2_23) rfl rfl dX7_copyFrom_109 ?_
  refine lv_iconst (v := 0) hx hb dX7_copyFrom_112 (by decide) ?_
  refine lv_aload_n hx hb dX7_copyFrom_113 rfl (lv_at hl 0 rfl) ?_
  refine tk_getO hC hK hw hT hinX7 hkq0_ (by decide) rfl 6 (by decide) (List.mem_cons_of_mem _ uw_2_23) rfl rfl dX7_copyFrom_114 ?_
  refine lv_iconst (v := 0) hx hb dX7_copyFrom_117 (by decide) ?_
  refine lv_aload_n hx hb dX7_copyFrom_118 rfl (lv_at hl 0 rfl) ?_
  refine tk_getO hC hK hw hT hinX7 hkq0_ (by decide) rfl 6 (by decide) (List.mem_cons_of_mem _ uw_2_23) rfl rfl dX7_copyFrom_119 ?_
  refine tk_alen (v := 8) hC hK hw hT (kC_7_7 hkq0_) rfl (by decide) rfl (by decide) dX7_copyFrom_122 ?_
  refine tk_copyx hC hK hw hT hl.1 (List.mem_cons_of_mem _ uw_18_19) (List.mem_cons_of_mem _ uw_18_20) (List.mem_cons_of_mem _ uw_18_21) (List.mem_cons_of_mem _ uw_18_22) kC_at46 (kC_7_7 hkq0_) (by decide) rfl rfl rfl rfl (by decide) (by decide) rfl rfl (by decide) (by decide) (by decide) (by decide) (by decide) (by decide) (Nat.le_of_ble_eq_true rfl) (by decide +kernel) dX7_copyFrom_123 (fun H locs w13 hw hT k14 hcp => ?_)
  replace hM := hM.cp hcp
  have hF := hF.tr k14 (by decide)
  refine lv_aload_n hx hb dX7_copyFrom_126 rfl (lv_at hl 1 rfl) ?_
  refine tk_getO hC hK hw hT hinX7 kC_at39 (by decide) rfl 7 (by decide) (List.mem_cons_of_mem _ uw_3_0) rfl rfl dX7_copyFrom_127 ?_
  refine lv_iconst (v := 0) hx hb dX7_copyFrom_130 (by decide) ?_
  refine lv_aload_n hx hb dX7_copyFrom_131 rfl (lv_at hl 0 rfl) ?_
  refine tk_getO hC hK hw hT hinX7 hkq0_ (by decide) rfl 7 (by decide) (List.mem_cons_of_mem _ uw_3_0) rfl rfl dX7_copyFrom_132 ?_
  refine lv_iconst (v := 0) hx hb dX7_copyFrom_135 (by decide) ?_
  refine lv_aload_n hx hb dX7_copyFrom_136 rfl (lv_at hl 0 rfl) ?_
  refine tk_getO hC hK hw hT hinX7 hkq0_ (by decide) rfl 7 (by decide) (List.mem_cons_of_mem _ uw_3_0) rfl rfl dX7_copyFrom_137 ?_
  refine tk_alen (v := 13) hC hK hw hT (kC_7_8 hkq0_) rfl (by decide) rfl (by decide) dX7_copyFrom_140 ?_
  refine tk_copyx hC hK hw hT hl.1 (List.mem_cons_of_mem _ uw_18_19) (List.mem_cons_of_mem _ uw_18_20) (List.mem_cons_of_mem _ uw_18_21) (List.mem_cons_of_mem _ uw_18_22) kC_at47 (kC_7_8 hkq0_) (by decide) rfl rfl rfl rfl (by decide) (by decide) rfl rfl (by decide) (by decide) (by decide) (by decide) (by decide) (by decide) (Nat.le_of_ble_eq_true rfl) (by decide +kernel) dX7_copyFrom_141 (fun H locs w15 hw hT k16 hcp => ?_)
  replace hM := hM.cp hcp
  have hF := hF.tr k16 (by decide)
  refine lv_aload_n hx hb dX7_copyFrom_144 rfl (lv_at hl 0 rfl) ?_
  refine lv_aload_n hx hb dX7_copyFrom_145 rfl (lv_at hl 1 rfl) ?_
  refine tk_geti hC hK hw hT hinX7 kC_at39 (by decide) rfl 8 (by decide) (List.mem_cons_of_mem _ uw_9_7) rfl rfl dX7_copyFrom_146 (fun x17 c18 rx17 tx17 => ?_)
  replace hM := hM.rd (sI_at c18)
  refine tk_puti hC hK hw hT hinX7 tyX7_ok nmX7 hkq0_ (by decide) rfl rfl 8 (by decide) (List.mem_cons_of_mem _ uw_9_7) rfl rfl rfl rfl (show (-1) ≤ x17.toInt from rx17) (show x17.toInt ≤ 10 from tx17) dX7_copyFrom_149 (fun H locs w19 hw hT k21 c20 => ?_)
  replace hM := hM.wr (sI_up k21 c20)
  have hF := hF.put hkq0_ (k := 8) (by decide) k21
  refine lv_aload_n hx hb dX7_copyFrom_152 rfl (lv_at hl 0 rfl) ?_
  refine lv_aload_n hx hb dX7_copyFrom_153 rfl (lv_at hl 1 rfl) ?_
  refine tk_geti hC hK hw hT hinX7 kC_at39 (by decide) rfl 9 (by decide) (List.mem_cons_of_mem _ uw_9_8) rfl rfl dX7_copyFrom_154 (fun x22 c23 rx22 tx22 => ?_)
  replace hM := hM.rd (sI_at c23)
  refine tk_puti hC hK hw hT hinX7 tyX7_ok nmX7 hkq0_ (by decide) rfl rfl 9 (by decide) (List.mem_cons_of_mem _ uw_9_8) rfl rfl rfl rfl (show 0 ≤ x22.toInt from rx22) (show x22.toInt ≤ 12 from tx22) dX7_copyFrom_157 (fun H locs w24 hw hT k26 c25 => ?_)
  replace hM := hM.wr (sI_up k26 c25)
  have hF := hF.put hkq0_ (k := 9) (by decide) k26
  have c27 := k26.gi (Or.inr (by decide)) c20
  refine lv_aload_n hx hb dX7_copyFrom_160 rfl (lv_at hl 0 rfl) ?_
  refine lv_aload_n hx hb dX7_copyFrom_161 rfl (lv_at hl 1 rfl) ?_
  refine tk_geti hC hK hw hT hinX7 kC_at39 (by decide) rfl 10 (by decide) (List.mem_cons_of_mem _ uw_9_9) rfl rfl dX7_copyFrom_162 (fun x28 c29 rx28 tx28 => ?_)
  replace hM := hM.rd (sI_at c29)
  refine tk_puti hC hK hw hT hinX7 tyX7_ok nmX7 hkq0_ (by decide) rfl rfl 10 (by decide) (List.mem_cons_of_mem _ uw_9_9) rfl rfl rfl rfl (show 0 ≤ x28.toInt from rx28) (show x28.toInt ≤ 8 from tx28) dX7_copyFrom_165 (fun H locs w30 hw hT k32 c31 => ?_)
  replace hM := hM.wr (sI_up k32 c31)
  have hF := hF.put hkq0_ (k := 10) (by decide) k32
  have c33 := k32.gi (Or.inr (by decide)) c27
  have c34 := k32.gi (Or.inr (by decide)) c25
  refine lv_aload_n hx hb dX7_copyFrom_168 rfl (lv_at hl 0 rfl) ?_
  refine lv_aload_n hx hb dX7_copyFrom_169 rfl (lv_at hl 1 rfl) ?_
  refine tk_geti hC hK hw hT hinX7 kC_at39 (by decide) rfl 11 (by decide) (List.mem_cons_of_mem _ uw_9_10) rfl rfl dX7_copyFrom_170 (fun x35 c36 rx35 tx35 => ?_)
  replace hM := hM.rd (sI_at c36)
  refine tk_puti hC hK hw hT hinX7 tyX7_ok nmX7 hkq0_ (by decide) rfl rfl 11 (by decide) (List.mem_cons_of_mem _ uw_9_10) rfl rfl rfl rfl (show 0 ≤ x35.toInt from rx35) (show x35.toInt ≤ 4 from tx35) dX7_copyFrom_173 (fun H locs w37 hw hT k39 c38 => ?_)
  replace hM := hM.wr (sI_up k39 c38)
  have hF := hF.put hkq0_ (k := 11) (by decide) k39
  have c40 := k39.gi (Or.inr (by decide)) c33
  have c41 := k39.gi (Or.inr (by decide)) c34
  have c42 := k39.gi (Or.inr (by decide)) c31
  exact tk_vret hC hr hlocks hK ⟨hT, hF, hM.ret rfl, trivial⟩ hw dX7_copyFrom_176
abbrev Pz_X5_moveTo_2 (ad : Nat → Nat) (cy : Nat → ClassId) (B : Int) (qr : Nat) (s1 : Int) (q0_ : Nat) (w0 : va_W) : va_W → Prop := fun u => TW ksC ad cy B qr s1 u ∧ FE ksC [(5, 8, 8), (5, 9, 9), (5, 10, 10), (5, 11, 11), (5, 12, 12), (7, 8, 8), (7, 9, 9), (7, 10, 10), (7, 11, 11), (24, 0, 100000), (25, 0, 100000), (26, 0, 100000), (27, 0, 100000), (28, 0, 100000), (29, 0, 100000), (30, 0, 100000), (31, 0, 100000)] w0 u ∧ Ev (fun n => m_X5_moveTo n q0_ 39 (sI w0)) (0, sI u) ∧ (((∃ y : Int32, gi u q0_ 8 = y ∧ 0 ≤ y.toInt ∧ y.toInt ≤ 0) ∧ (∃ y : Int32, gi u q0_ 9 = y ∧ 0 ≤ y.toInt ∧ y.toInt ≤ 0) ∧ (∃ y : Int32, gi u q0_ 10 = y ∧ 0 ≤ y.toInt ∧ y.toInt ≤ 0) ∧ (∃ y : Int32, gi u q0_ 11 = y ∧ 0 ≤ y.toInt ∧ y.toInt ≤ 0) ∧ (∃ y : Int32, gi u q0_ 12 = y ∧ 0 ≤ y.toInt ∧ y.toInt ≤ 0)))
set_option maxHeartbeats 4000000 in
set_option maxRecDepth 100000 in
theorem kz_X5_moveTo_2 (l : Launch) (adK adV : Nat → Nat) (dC : Nat → ClassId) (dI : Nat → Nat → Nat) (cy : Nat → ClassId) (ad : Nat → Nat) (B : Int) (hB0 : 2147483648 ≤ B) (hB1 : B ≤ 1152921504606846976) (qr : Nat) (s1 : Int)  (q0_ : Nat) (hkq0_ : ksC[q0_]? = some 5) (w0 : va_W) (sz : Nat) (hT : TW ksC ad cy B qr s1 w0)  : Met l yX5_moveTo (wu yX5_moveTo cX5_moveTo 2 none) ({ frames := 2, cells := 0, slots := 0, locals := 81 }) (va_Pc [.ref (ad q0_), .ref (ad 39)] (wpreS adK adV dC dI cy sz w0)) (va_Qv (Pz_X5_moveTo_2 ad cy B qr s1 q0_ w0) (fun u : va_W => wpost dC dI cy (va_A w0 sz) u) (va_A w0 sz)) 0 0 (va_A w0 sz) := by
  refine Met.ofW (cc := cX5_moveTo) (maxL := 2) (ret := none) (by decide) rfl ?_
  intro p e s m args below meth c s₁ Bk hml hv
  obtain ⟨rfl, ⟨hsz, hP, hK, hD0⟩, hE, hSR⟩ := hv
  have hx := Bk.exec
  have hb := Bk.bytes
  have hr := Bk.returns
  have hlocks := Bk.notSynchronized
  have hC : CallFix p m c cX5_moveTo 2 s _ (wu yX5_moveTo cX5_moveTo 2 none) RX5 := ⟨hx, hb, hml, findClass_of_methodNamed Bk.named, atoms_spec (ws := (wu yX5_moveTo cX5_moveTo 2 none)) Bk.pre⟩
  subst hsz
  have hD := hD0.self (sz := s.heap.size)
  generalize hAe : va_A w0 s.heap.size = A at hD hE ⊢
  have hA : ∀ q : Nat, s.heap.size ≤ q → A q := fun q h => by rw [← hAe]; exact Or.inr h
  have hw : Wd dC dI A s.heap s.heap [] w0 := ⟨hP, hD, va_S.rf⟩
  have hF : FE ksC [(5, 8, 8), (5, 9, 9), (5, 10, 10), (5, 11, 11), (5, 12, 12), (7, 8, 8), (7, 9, 9), (7, 10, 10), (7, 11, 11), (24, 0, 100000), (25, 0, 100000), (26, 0, 100000), (27, 0, 100000), (28, 0, 100000), (29, 0, 100000), (30, 0, 100000), (31, 0, 100000)] w0 w0 := FE.rf
  have hl := lv_entry ([.ref (ad q0_), .ref (ad 39)]) (n := 2) (Nat.le_of_ble_eq_true rfl)
  rw [lg_entry_eq]
  generalize (lg_sl ([.ref (ad q0_), .ref (ad 39)]) ++ List.replicate (2 - (lg_sl ([.ref (ad q0_), .ref (ad 39)])).length) Slot.unset).toArray = ls at hl ⊢
  have hl : lv_has ls 2 [(0, .ref (ad q0_)), (1, .ref (ad 39))] := hl
  generalize hloc : ([] : List Loc) = locs at hw ⊢
  have hinX5 : ∀ w ∈ u_ws RX5 TX5 14, w ∈ (wu yX5_moveTo cX5_moveTo 2 none) := fun _ h => List.mem_cons_of_mem _ (up_76 h)
  have hM : TT (fun n => m_X5_moveTo n q0_ 39 (sI w0)) (fun n => m_X5_moveTo n q0_ 39 (sI w0)) := TT.rf
  refine lv_aload_n hx hb dX5_moveTo_0 rfl (lv_at hl 0 rfl) ?_
  refine tk_getO hC hK hw hT hinX5 hkq0_ (by decide) rfl 0 (by decide) (List.mem_cons_of_mem _ uw_3_18) rfl rfl dX5_moveTo_1 ?_
  refine lv_aload_n hx hb dX5_moveTo_4 rfl (lv_at hl 1 rfl) ?_
  refine tk_Vv hC hK hw hT hA hE hSR (kC_5_1 hkq0_) (by decide) rfl (kz_X7_copyFrom_2 l adK adV dC dI cy ad B hB0 (Int.le_trans hB1 (by decide)) qr s1   (q0_ + 1) (kC_5_1 hkq0_) w0 s.heap.size hT ) (cwV 1 hC.2.2.2.2 uV_RX5_48 rfl rfl rfl (by decide +kernel) ⟨Nat.le_of_ble_eq_true rfl, Nat.le_of_ble_eq_true rfl⟩) rfl hl.1 rfl (Nat.le_of_ble_eq_true rfl) dX5_moveTo_5 (fun w3 H locs hp2 hw => ?_)
  obtain ⟨hT, k4, hv6, hg5⟩ := hp2
  have hF := hF.tr k4 (by decide)
  clear hg5
  replace hM := hM.call hv6 rfl
  refine lv_aload_n hx hb dX5_moveTo_8 rfl (lv_at hl 0 rfl) ?_
  refine lv_iconst (v := 0) hx hb dX5_moveTo_9 (by decide) ?_
  refine tk_puti hC hK hw hT hinX5 tyX5_ok nmX5 hkq0_ (by decide) rfl rfl 8 (by decide) (List.mem_cons_of_mem _ uw_18_10) rfl rfl rfl rfl (by decide) (by decide) dX5_moveTo_10 (fun H locs w7 hw hT k9 c8 => ?_)
  replace hM := hM.wr (sI_upc k9 c8 (by decide))
  have hF := hF.put hkq0_ (k := 8) (by decide) k9
  refine lv_aload_n hx hb dX5_moveTo_13 rfl (lv_at hl 0 rfl) ?_
  refine lv_iconst (v := 0) hx hb dX5_moveTo_14 (by decide) ?_
  refine tk_puti hC hK hw hT hinX5 tyX5_ok nmX5 hkq0_ (by decide) rfl rfl 9 (by decide) (List.mem_cons_of_mem _ uw_18_11) rfl rfl rfl rfl (by decide) (by decide) dX5_moveTo_15 (fun H locs w10 hw hT k12 c11 => ?_)
  replace hM := hM.wr (sI_upc k12 c11 (by decide))
  have hF := hF.put hkq0_ (k := 9) (by decide) k12
  have c13 := k12.gi (Or.inr (by decide)) c8
  refine lv_aload_n hx hb dX5_moveTo_18 rfl (lv_at hl 0 rfl) ?_
  refine lv_iconst (v := 0) hx hb dX5_moveTo_19 (by decide) ?_
  refine tk_puti hC hK hw hT hinX5 tyX5_ok nmX5 hkq0_ (by decide) rfl rfl 10 (by decide) (List.mem_cons_of_mem _ uw_18_12) rfl rfl rfl rfl (by decide) (by decide) dX5_moveTo_20 (fun H locs w14 hw hT k16 c15 => ?_)
  replace hM := hM.wr (sI_upc k16 c15 (by decide))
  have hF := hF.put hkq0_ (k := 10) (by decide) k16
  have c17 := k16.gi (Or.inr (by decide)) c13
  have c18 := k16.gi (Or.inr (by decide)) c11
  refine lv_aload_n hx hb dX5_moveTo_23 rfl (lv_at hl 0 rfl) ?_
  refine lv_iconst (v := 0) hx hb dX5_moveTo_24 (by decide) ?_
  refine tk_puti hC hK hw hT hinX5 tyX5_ok nmX5 hkq0_ (by decide) rfl rfl 11 (by decide) (List.mem_cons_of_mem _ uw_18_13) rfl rfl rfl rfl (by decide) (by decide) dX5_moveTo_25 (fun H locs w19 hw hT k21 c20 => ?_)
  replace hM := hM.wr (sI_upc k21 c20 (by decide))
  have hF := hF.put hkq0_ (k := 11) (by decide) k21
  have c22 := k21.gi (Or.inr (by decide)) c17
  have c23 := k21.gi (Or.inr (by decide)) c18
  have c24 := k21.gi (Or.inr (by decide)) c15
  refine lv_aload_n hx hb dX5_moveTo_28 rfl (lv_at hl 0 rfl) ?_
  refine lv_iconst (v := 0) hx hb dX5_moveTo_29 (by decide) ?_
  refine tk_puti hC hK hw hT hinX5 tyX5_ok nmX5 hkq0_ (by decide) rfl rfl 12 (by decide) (List.mem_cons_of_mem _ uw_18_14) rfl rfl rfl rfl (by decide) (by decide) dX5_moveTo_30 (fun H locs w25 hw hT k27 c26 => ?_)
  replace hM := hM.wr (sI_upc k27 c26 (by decide))
  have hF := hF.put hkq0_ (k := 12) (by decide) k27
  have c28 := k27.gi (Or.inr (by decide)) c22
  have c29 := k27.gi (Or.inr (by decide)) c23
  have c30 := k27.gi (Or.inr (by decide)) c24
  have c31 := k27.gi (Or.inr (by decide)) c20
  exact tk_vret hC hr hlocks hK ⟨hT, hF, hM.ret rfl, ⟨⟨0, c28, (by decide), (by decide)⟩, ⟨0, c29, (by decide), (by decide)⟩, ⟨0, c30, (by decide), (by decide)⟩, ⟨0, c31, (by decide), (by decide)⟩, ⟨0, c26, (by decide), (by decide)⟩⟩⟩ hw dX5_moveTo_33
abbrev Pz_X5_copyFrom_1 (ad : Nat → Nat) (cy : Nat → ClassId) (B : Int) (qr : Nat) (s1 : Int) (q0_ : Nat) (w0 : va_W) : va_W → Prop := fun u => TW ksC ad cy B qr s1 u ∧ FE ksC [(5, 8, 8), (5, 9, 9), (5, 10, 10), (5, 11, 11), (5, 12, 12), (5, 13, 13), (7, 8, 8), (7, 9, 9), (7, 10, 10), (7, 11, 11), (9, 0, 0), (9, 1, 1), (9, 2, 2), (9, 3, 3), (9, 4, 4), (9, 5, 5), (9, 6, 6), (9, 7, 7), (9, 8, 8), (24, 0, 100000), (25, 0, 100000), (26, 0, 100000), (27, 0, 100000), (28, 0, 100000), (29, 0, 100000), (30, 0, 100000), (31, 0, 100000), (32, 0, 100000), (34, 0, 100000), (35, 0, 100000), (36, 0, 100000), (37, 0, 100000), (38, 0, 100000)] w0 u ∧ Ev (fun n => m_X5_copyFrom n q0_ 38 (sI w0)) (0, sI u) ∧ ((True))
set_option maxHeartbeats 4000000 in
set_option maxRecDepth 100000 in
theorem kz_X5_copyFrom_1 (l : Launch) (adK adV : Nat → Nat) (dC : Nat → ClassId) (dI : Nat → Nat → Nat) (cy : Nat → ClassId) (ad : Nat → Nat) (B : Int) (hB0 : 2147483648 ≤ B) (hB1 : B ≤ 1152921504606846976) (qr : Nat) (s1 : Int)  (q0_ : Nat) (hkq0_ : ksC[q0_]? = some 5) (w0 : va_W) (sz : Nat) (hT : TW ksC ad cy B qr s1 w0)  : Met l yX5_copyFrom (wu yX5_copyFrom cX5_copyFrom 3 none) ({ frames := 3, cells := 0, slots := 0, locals := 102 }) (va_Pc [.ref (ad q0_), .ref (ad 38)] (wpreS adK adV dC dI cy sz w0)) (va_Qv (Pz_X5_copyFrom_1 ad cy B qr s1 q0_ w0) (fun u : va_W => wpost dC dI cy (va_A w0 sz) u) (va_A w0 sz)) 0 0 (va_A w0 sz) := by
  refine Met.ofW (cc := cX5_copyFrom) (maxL := 3) (ret := none) (by decide) rfl ?_
  intro p e s m args below meth c s₁ Bk hml hv
  obtain ⟨rfl, ⟨hsz, hP, hK, hD0⟩, hE, hSR⟩ := hv
  have hx := Bk.exec
  have hb := Bk.bytes
  have hr := Bk.returns
  have hlocks := Bk.notSynchronized
  have hC : CallFix p m c cX5_copyFrom 3 s _ (wu yX5_copyFrom cX5_copyFrom 3 none) RX5 := ⟨hx, hb, hml, findClass_of_methodNamed Bk.named, atoms_spec (ws := (wu yX5_copyFrom cX5_copyFrom 3 none)) Bk.pre⟩
  subst hsz
  have hD := hD0.self (sz := s.heap.size)
  generalize hAe : va_A w0 s.heap.size = A at hD hE ⊢
  have hA : ∀ q : Nat, s.heap.size ≤ q → A q := fun q h => by rw [← hAe]; exact Or.inr h
  have hw : Wd dC dI A s.heap s.heap [] w0 := ⟨hP, hD, va_S.rf⟩
  have hF : FE ksC [(5, 8, 8), (5, 9, 9), (5, 10, 10), (5, 11, 11), (5, 12, 12), (5, 13, 13), (7, 8, 8), (7, 9, 9), (7, 10, 10), (7, 11, 11), (9, 0, 0), (9, 1, 1), (9, 2, 2), (9, 3, 3), (9, 4, 4), (9, 5, 5), (9, 6, 6), (9, 7, 7), (9, 8, 8), (24, 0, 100000), (25, 0, 100000), (26, 0, 100000), (27, 0, 100000), (28, 0, 100000), (29, 0, 100000), (30, 0, 100000), (31, 0, 100000), (32, 0, 100000), (34, 0, 100000), (35, 0, 100000), (36, 0, 100000), (37, 0, 100000), (38, 0, 100000)] w0 w0 := FE.rf
  have hl := lv_entry ([.ref (ad q0_), .ref (ad 38)]) (n := 3) (Nat.le_of_ble_eq_true rfl)
  rw [lg_entry_eq]
  generalize (lg_sl ([.ref (ad q0_), .ref (ad 38)]) ++ List.replicate (3 - (lg_sl ([.ref (ad q0_), .ref (ad 38)])).length) Slot.unset).toArray = ls at hl ⊢
  have hl : lv_has ls 3 [(0, .ref (ad q0_)), (1, .ref (ad 38))] := hl
  generalize hloc : ([] : List Loc) = locs at hw ⊢
  have hinX5 : ∀ w ∈ u_ws RX5 TX5 14, w ∈ (wu yX5_copyFrom cX5_copyFrom 3 none) := fun _ h => List.mem_cons_of_mem _ (up_76 h)
  have L28 : ∀ (n28 : Nat) (v28_2 : Int32) (H : Heap) (locs : List Loc) (ls : Array Slot) (w1 : va_W), 0 ≤ v28_2.toInt → v28_2.toInt ≤ 4 → (4 - v28_2.toInt).toNat < n28 → Wd dC dI A s.heap H locs w1 → TW ksC ad cy B qr s1 w1 → FE ksC [(5, 8, 8), (5, 9, 9), (5, 10, 10), (5, 11, 11), (5, 12, 12), (5, 13, 13), (7, 8, 8), (7, 9, 9), (7, 10, 10), (7, 11, 11), (9, 0, 0), (9, 1, 1), (9, 2, 2), (9, 3, 3), (9, 4, 4), (9, 5, 5), (9, 6, 6), (9, 7, 7), (9, 8, 8), (24, 0, 100000), (25, 0, 100000), (26, 0, 100000), (27, 0, 100000), (28, 0, 100000), (29, 0, 100000), (30, 0, 100000), (31, 0, 100000), (32, 0, 100000), (34, 0, 100000), (35, 0, 100000), (36, 0, 100000), (37, 0, 100000), (38, 0, 100000)] w0 w1 → gi w1 q0_ 10 = 0 → gi w1 q0_ 11 = 0 → gi w1 q0_ 12 = 0 → gi w1 q0_ 8 = 0 → gi w1 q0_ 9 = 0 → TT (fun n => m_X5_copyFrom n q0_ 38 (sI w0)) (fun n => j_X5_copyFrom q0_ 38 n 28 [v28_2.toInt] (sI w1)) → lv_has ls 3 [(0, .ref (ad q0_)), (1, .ref (ad 38)), (2, .int v28_2)] → W p l e ({ frames := 3, cells := 0, slots := 0, locals := 102 }) s m (List.toArray [.ref (ad q0_), .ref (ad 38)]) below meth c H locs 0 0 (MQ below (va_Qv (Pz_X5_copyFrom_1 ad cy B qr s1 q0_ w0) (fun u : va_W => wpost dC dI cy A u) A) (List.toArray [.ref (ad q0_), .ref (ad 38)]) s 0 0 A) (F0 m 28 ls []) := by
    intro n28
    induction n28 with
    | zero => intro v28_2 H locs ls w1 r2 t3 hm28 hw hT hF c4 c5 c6 c7 c8 hM hl; omega
    | succ n28 ih28 =>
      intro v28_2 H locs ls w1 r2 t3 hm28 hw hT hF c4 c5 c6 c7 c8 hM hl
      replace hM := hM.suc (fun _ => e_X5_copyFrom_28)
      refine lv_iload_n hx hb dX5_copyFrom_28 rfl (lv_at hl 2 rfl) ?_
      refine lv_iconst (v := 4) hx hb dX5_copyFrom_29 (by decide) ?_
      refine lv_icmp_ge (tgt := 54) hx hb dX5_copyFrom_30 (by decide) (fun c9 => ?_) (fun c9 => ?_)
      · have c9 : (4 : Int) ≤ v28_2.toInt := wk_le.mp c9
        replace hM := hM.pos c9
        refine lv_aload_n hx hb dX5_copyFrom_54 rfl (lv_at hl 1 rfl) ?_
        refine tk_getO hC hK hw hT hinX5 kC_at38 (by decide) rfl 3 (by decide) (List.mem_cons_of_mem _ uw_3_22) rfl rfl dX5_copyFrom_55 ?_
        refine lv_iconst (v := 0) hx hb dX5_copyFrom_58 (by decide) ?_
        refine lv_aload_n hx hb dX5_copyFrom_59 rfl (lv_at hl 0 rfl) ?_
        refine tk_getO hC hK hw hT hinX5 hkq0_ (by decide) rfl 3 (by decide) (List.mem_cons_of_mem _ uw_3_22) rfl rfl dX5_copyFrom_60 ?_
        refine lv_iconst (v := 0) hx hb dX5_copyFrom_63 (by decide) ?_
        refine lv_bipush (v := 6) hx hb dX5_copyFrom_64 (by decide) ?_
        refine tk_copyx hC hK hw hT hl.1 (List.mem_cons_of_mem _ uw_69_7) (List.mem_cons_of_mem _ uw_18_20) (List.mem_cons_of_mem _ uw_18_21) (List.mem_cons_of_mem _ uw_18_22) kC_at50 (kC_5_12 hkq0_) (by decide) rfl rfl rfl rfl (by decide) (by decide) rfl rfl (by decide) (by decide) (by decide) (by decide) (by decide) (by decide) (Nat.le_of_ble_eq_true rfl) (by decide +kernel) dX5_copyFrom_66 (fun H locs w10 hw hT k11 hcp => ?_)
        replace hM := hM.cp hcp
        have hF := hF.tr k11 (by decide)
        have c12 := k11.gi hkq0_ (by decide) c4
        have c13 := k11.gi hkq0_ (by decide) c5
        have c14 := k11.gi hkq0_ (by decide) c6
        have c15 := k11.gi hkq0_ (by decide) c7
        have c16 := k11.gi hkq0_ (by decide) c8
        refine lv_aload_n hx hb dX5_copyFrom_69 rfl (lv_at hl 1 rfl) ?_
        refine tk_getO hC hK hw hT hinX5 kC_at38 (by decide) rfl 4 (by decide) (List.mem_cons_of_mem _ uw_3_23) rfl rfl dX5_copyFrom_70 ?_
        refine lv_iconst (v := 0) hx hb dX5_copyFrom_73 (by decide) ?_
        refine lv_aload_n hx hb dX5_copyFrom_74 rfl (lv_at hl 0 rfl) ?_
        refine tk_getO hC hK hw hT hinX5 hkq0_ (by decide) rfl 4 (by decide) (List.mem_cons_of_mem _ uw_3_23) rfl rfl dX5_copyFrom_75 ?_
        refine lv_iconst (v := 0) hx hb dX5_copyFrom_78 (by decide) ?_
        refine lv_bipush (v := 6) hx hb dX5_copyFrom_79 (by decide) ?_
        refine tk_copyx hC hK hw hT hl.1 (List.mem_cons_of_mem _ uw_69_7) (List.mem_cons_of_mem _ uw_18_20) (List.mem_cons_of_mem _ uw_18_21) (List.mem_cons_of_mem _ uw_18_22) kC_at51 (kC_5_13 hkq0_) (by decide) rfl rfl rfl rfl (by decide) (by decide) rfl rfl (by decide) (by decide) (by decide) (by decide) (by decide) (by decide) (Nat.le_of_ble_eq_true rfl) (by decide +kernel) dX5_copyFrom_81 (fun H locs w17 hw hT k18 hcp => ?_)
        replace hM := hM.cp hcp
        have hF := hF.tr k18 (by decide)
        have c19 := k18.gi hkq0_ (by decide) c12
        have c20 := k18.gi hkq0_ (by decide) c13
        have c21 := k18.gi hkq0_ (by decide) c14
        have c22 := k18.gi hkq0_ (by decide) c15
        have c23 := k18.gi hkq0_ (by decide) c16
        refine lv_aload_n hx hb dX5_copyFrom_84 rfl (lv_at hl 1 rfl) ?_
        refine tk_getO hC hK hw hT hinX5 kC_at38 (by decide) rfl 5 (by decide) (List.mem_cons_of_mem _ uw_4_0) rfl rfl dX5_copyFrom_85 ?_
        refine lv_iconst (v := 0) hx hb dX5_copyFrom_88 (by decide) ?_
        refine lv_aload_n hx hb dX5_copyFrom_89 rfl (lv_at hl 0 rfl) ?_
        refine tk_getO hC hK hw hT hinX5 hkq0_ (by decide) rfl 5 (by decide) (List.mem_cons_of_mem _ uw_4_0) rfl rfl dX5_copyFrom_90 ?_
        refine lv_iconst (v := 0) hx hb dX5_copyFrom_93 (by decide) ?_
        refine lv_bipush (v := 12) hx hb dX5_copyFrom_94 (by decide) ?_
        refine tk_copyx hC hK hw hT hl.1 (List.mem_cons_of_mem _ uw_69_7) (List.mem_cons_of_mem _ uw_18_20) (List.mem_cons_of_mem _ uw_18_21) (List.mem_cons_of_mem _ uw_18_22) kC_at52 (kC_5_14 hkq0_) (by decide) rfl rfl rfl rfl (by decide) (by decide) rfl rfl (by decide) (by decide) (by decide) (by decide) (by decide) (by decide) (Nat.le_of_ble_eq_true rfl) (by decide +kernel) dX5_copyFrom_96 (fun H locs w24 hw hT k25 hcp => ?_)
        replace hM := hM.cp hcp
        have hF := hF.tr k25 (by decide)
        have c26 := k25.gi hkq0_ (by decide) c19
        have c27 := k25.gi hkq0_ (by decide) c20
        have c28 := k25.gi hkq0_ (by decide) c21
        have c29 := k25.gi hkq0_ (by decide) c22
        have c30 := k25.gi hkq0_ (by decide) c23
        refine lv_aload_n hx hb dX5_copyFrom_99 rfl (lv_at hl 1 rfl) ?_
        refine tk_getO hC hK hw hT hinX5 kC_at38 (by decide) rfl 6 (by decide) (List.mem_cons_of_mem _ uw_4_1) rfl rfl dX5_copyFrom_100 ?_
        refine lv_iconst (v := 0) hx hb dX5_copyFrom_103 (by decide) ?_
        refine lv_aload_n hx hb dX5_copyFrom_104 rfl (lv_at hl 0 rfl) ?_
        refine tk_getO hC hK hw hT hinX5 hkq0_ (by decide) rfl 6 (by decide) (List.mem_cons_of_mem _ uw_4_1) rfl rfl dX5_copyFrom_105 ?_
        refine lv_iconst (v := 0) hx hb dX5_copyFrom_108 (by decide) ?_
        refine lv_bipush (v := 12) hx hb dX5_copyFrom_109 (by decide) ?_
        refine tk_copyx hC hK hw hT hl.1 (List.mem_cons_of_mem _ uw_69_7) (List.mem_cons_of_mem _ uw_18_20) (List.mem_cons_of_mem _ uw_18_21) (List.mem_cons_of_mem _ uw_18_22) kC_at53 (kC_5_15 hkq0_) (by decide) rfl rfl rfl rfl (by decide) (by decide) rfl rfl (by decide) (by decide) (by decide) (by decide) (by decide) (by decide) (Nat.le_of_ble_eq_true rfl) (by decide +kernel) dX5_copyFrom_111 (fun H locs w31 hw hT k32 hcp => ?_)
        replace hM := hM.cp hcp
        have hF := hF.tr k32 (by decide)
        have c33 := k32.gi hkq0_ (by decide) c26
        have c34 := k32.gi hkq0_ (by decide) c27
        have c35 := k32.gi hkq0_ (by decide) c28
        have c36 := k32.gi hkq0_ (by decide) c29
        have c37 := k32.gi hkq0_ (by decide) c30
        refine lv_aload_n hx hb dX5_copyFrom_114 rfl (lv_at hl 1 rfl) ?_
        refine tk_getO hC hK hw hT hinX5 kC_at38 (by decide) rfl 7 (by decide) (List.mem_cons_of_mem _ uw_4_2) rfl rfl dX5_copyFrom_115 ?_
        refine lv_iconst (v := 0) hx hb dX5_copyFrom_118 (by decide) ?_
        refine lv_aload_n hx hb dX5_copyFrom_119 rfl (lv_at hl 0 rfl) ?_
        refine tk_getO hC hK hw hT hinX5 hkq0_ (by decide) rfl 7 (by decide) (List.mem_cons_of_mem _ uw_4_2) rfl rfl dX5_copyFrom_120 ?_
        refine lv_iconst (v := 0) hx hb dX5_copyFrom_123 (by decide) ?_
        refine lv_bipush (v := 8) hx hb dX5_copyFrom_124 (by decide) ?_
        refine tk_copyx hC hK hw hT hl.1 (List.mem_cons_of_mem _ uw_69_7) (List.mem_cons_of_mem _ uw_18_20) (List.mem_cons_of_mem _ uw_18_21) (List.mem_cons_of_mem _ uw_18_22) kC_at54 (kC_5_16 hkq0_) (by decide) rfl rfl rfl rfl (by decide) (by decide) rfl rfl (by decide) (by decide) (by decide) (by decide) (by decide) (by decide) (Nat.le_of_ble_eq_true rfl) (by decide +kernel) dX5_copyFrom_126 (fun H locs w38 hw hT k39 hcp => ?_)
        replace hM := hM.cp hcp
        have hF := hF.tr k39 (by decide)
        have c40 := k39.gi hkq0_ (by decide) c33
        have c41 := k39.gi hkq0_ (by decide) c34
        have c42 := k39.gi hkq0_ (by decide) c35
        have c43 := k39.gi hkq0_ (by decide) c36
        have c44 := k39.gi hkq0_ (by decide) c37
        refine lv_aload_n hx hb dX5_copyFrom_129 rfl (lv_at hl 0 rfl) ?_
        refine lv_aload_n hx hb dX5_copyFrom_130 rfl (lv_at hl 1 rfl) ?_
        refine tk_geti hC hK hw hT hinX5 kC_at38 (by decide) rfl 8 (by decide) (List.mem_cons_of_mem _ uw_18_10) rfl rfl dX5_copyFrom_131 (fun x45 c46 rx45 tx45 => ?_)
        replace hM := hM.rd (sI_at c46)
        refine tk_puti hC hK hw hT hinX5 tyX5_ok nmX5 hkq0_ (by decide) rfl rfl 8 (by decide) (List.mem_cons_of_mem _ uw_18_10) rfl rfl rfl rfl (show 0 ≤ x45.toInt from rx45) (show x45.toInt ≤ 4 from tx45) dX5_copyFrom_134 (fun H locs w47 hw hT k49 c48 => ?_)
        replace hM := hM.wr (sI_up k49 c48)
        have hF := hF.put hkq0_ (k := 8) (by decide) k49
        have c50 := k49.gi (Or.inr (by decide)) c40
        have c51 := k49.gi (Or.inr (by decide)) c41
        have c52 := k49.gi (Or.inr (by decide)) c42
        have c53 := k49.gi (Or.inr (by decide)) c44
        refine lv_aload_n hx hb dX5_copyFrom_137 rfl (lv_at hl 0 rfl) ?_
        refine lv_aload_n hx hb dX5_copyFrom_138 rfl (lv_at hl 1 rfl) ?_
        refine tk_geti hC hK hw hT hinX5 kC_at38 (by decide) rfl 9 (by decide) (List.mem_cons_of_mem _ uw_18_11) rfl rfl dX5_copyFrom_139 (fun x54 c55 rx54 tx54 => ?_)
        replace hM := hM.rd (sI_at c55)
        refine tk_puti hC hK hw hT hinX5 tyX5_ok nmX5 hkq0_ (by decide) rfl rfl 9 (by decide) (List.mem_cons_of_mem _ uw_18_11) rfl rfl rfl rfl (show 0 ≤ x54.toInt from rx54) (show x54.toInt ≤ 4 from tx54) dX5_copyFrom_142 (fun H locs w56 hw hT k58 c57 => ?_)
        replace hM := hM.wr (sI_up k58 c57)
        have hF := hF.put hkq0_ (k := 9) (by decide) k58
        have c59 := k58.gi (Or.inr (by decide)) c50
        have c60 := k58.gi (Or.inr (by decide)) c51
        have c61 := k58.gi (Or.inr (by decide)) c52
        have c62 := k58.gi (Or.inr (by decide)) c48
        refine lv_aload_n hx hb dX5_copyFrom_145 rfl (lv_at hl 0 rfl) ?_
        refine lv_aload_n hx hb dX5_copyFrom_146 rfl (lv_at hl 1 rfl) ?_
        refine tk_geti hC hK hw hT hinX5 kC_at38 (by decide) rfl 10 (by decide) (List.mem_cons_of_mem _ uw_18_12) rfl rfl dX5_copyFrom_147 (fun x63 c64 rx63 tx63 => ?_)
        replace hM := hM.rd (sI_at c64)
        refine tk_puti hC hK hw hT hinX5 tyX5_ok nmX5 hkq0_ (by decide) rfl rfl 10 (by decide) (List.mem_cons_of_mem _ uw_18_12) rfl rfl rfl rfl (show 0 ≤ x63.toInt from rx63) (show x63.toInt ≤ 6 from tx63) dX5_copyFrom_150 (fun H locs w65 hw hT k67 c66 => ?_)
        replace hM := hM.wr (sI_up k67 c66)
        have hF := hF.put hkq0_ (k := 10) (by decide) k67
        have c68 := k67.gi (Or.inr (by decide)) c60
        have c69 := k67.gi (Or.inr (by decide)) c61
        have c70 := k67.gi (Or.inr (by decide)) c62
        have c71 := k67.gi (Or.inr (by decide)) c57
        refine lv_aload_n hx hb dX5_copyFrom_153 rfl (lv_at hl 0 rfl) ?_
        refine lv_aload_n hx hb dX5_copyFrom_154 rfl (lv_at hl 1 rfl) ?_
        refine tk_geti hC hK hw hT hinX5 kC_at38 (by decide) rfl 11 (by decide) (List.mem_cons_of_mem _ uw_18_13) rfl rfl dX5_copyFrom_155 (fun x72 c73 rx72 tx72 => ?_)
        replace hM := hM.rd (sI_at c73)
        refine tk_puti hC hK hw hT hinX5 tyX5_ok nmX5 hkq0_ (by decide) rfl rfl 11 (by decide) (List.mem_cons_of_mem _ uw_18_13) rfl rfl rfl rfl (show 0 ≤ x72.toInt from rx72) (show x72.toInt ≤ 12 from tx72) dX5_copyFrom_158 (fun H locs w74 hw hT k76 c75 => ?_)
        replace hM := hM.wr (sI_up k76 c75)
        have hF := hF.put hkq0_ (k := 11) (by decide) k76
        have c77 := k76.gi (Or.inr (by decide)) c69
        have c78 := k76.gi (Or.inr (by decide)) c70
        have c79 := k76.gi (Or.inr (by decide)) c71
        have c80 := k76.gi (Or.inr (by decide)) c66
        refine lv_aload_n hx hb dX5_copyFrom_161 rfl (lv_at hl 0 rfl) ?_
        refine lv_aload_n hx hb dX5_copyFrom_162 rfl (lv_at hl 1 rfl) ?_
        refine tk_geti hC hK hw hT hinX5 kC_at38 (by decide) rfl 12 (by decide) (List.mem_cons_of_mem _ uw_18_14) rfl rfl dX5_copyFrom_163 (fun x81 c82 rx81 tx81 => ?_)
        replace hM := hM.rd (sI_at c82)
        refine tk_puti hC hK hw hT hinX5 tyX5_ok nmX5 hkq0_ (by decide) rfl rfl 12 (by decide) (List.mem_cons_of_mem _ uw_18_14) rfl rfl rfl rfl (show 0 ≤ x81.toInt from rx81) (show x81.toInt ≤ 8 from tx81) dX5_copyFrom_166 (fun H locs w83 hw hT k85 c84 => ?_)
        replace hM := hM.wr (sI_up k85 c84)
        have hF := hF.put hkq0_ (k := 12) (by decide) k85
        have c86 := k85.gi (Or.inr (by decide)) c78
        have c87 := k85.gi (Or.inr (by decide)) c79
        have c88 := k85.gi (Or.inr (by decide)) c80
        have c89 := k85.gi (Or.inr (by decide)) c75
        refine lv_aload_n hx hb dX5_copyFrom_169 rfl (lv_at hl 0 rfl) ?_
        refine lv_aload_n hx hb dX5_copyFrom_170 rfl (lv_at hl 1 rfl) ?_
        refine tk_geti hC hK hw hT hinX5 kC_at38 (by decide) rfl 13 (by decide) (List.mem_cons_of_mem _ uw_69_8) rfl rfl dX5_copyFrom_171 (fun x90 c91 rx90 tx90 => ?_)
        replace hM := hM.rd (sI_at c91)
        refine tk_puti hC hK hw hT hinX5 tyX5_ok nmX5 hkq0_ (by decide) rfl rfl 13 (by decide) (List.mem_cons_of_mem _ uw_69_8) rfl rfl rfl rfl (show 0 ≤ x90.toInt from rx90) (wk_i32 x90).2 dX5_copyFrom_174 (fun H locs w92 hw hT k94 c93 => ?_)
        replace hM := hM.wr (sI_up k94 c93)
        have hF := hF.put hkq0_ (k := 13) (by decide) k94
        have c95 := k94.gi (Or.inr (by decide)) c86
        have c96 := k94.gi (Or.inr (by decide)) c87
        have c97 := k94.gi (Or.inr (by decide)) c88
        have c98 := k94.gi (Or.inr (by decide)) c89
        have c99 := k94.gi (Or.inr (by decide)) c84
        exact tk_vret hC hr hlocks hK ⟨hT, hF, hM.ret rfl, trivial⟩ hw dX5_copyFrom_177
      · have c9 : v28_2.toInt < (4 : Int) := wk_leF c9
        replace hM := hM.neg (Int.not_le.mpr c9)
        refine lv_aload_n hx hb dX5_copyFrom_33 rfl (lv_at hl 0 rfl) ?_
        refine tk_getO hC hK hw hT hinX5 hkq0_ (by decide) rfl 2 (by decide) (List.mem_cons_of_mem _ uw_3_21) rfl rfl dX5_copyFrom_34 ?_
        refine lv_iload_n hx hb dX5_copyFrom_37 rfl (lv_at hl 2 rfl) ?_
        refine tk_aald hC hK hw hT (kC_5_11 hkq0_) rfl (by decide) rfl (show 0 ≤ v28_2.toInt from r2) (show v28_2.toInt < 4 by first | with_reducible assumption | omega) dX5_copyFrom_38 (fun j100 hj100 gj100 => ?_)
        replace hM := hM.ix gj100
        refine lv_aload_n hx hb dX5_copyFrom_39 rfl (lv_at hl 1 rfl) ?_
        refine tk_getO hC hK hw hT hinX5 kC_at38 (by decide) rfl 2 (by decide) (List.mem_cons_of_mem _ uw_3_21) rfl rfl dX5_copyFrom_40 ?_
        refine lv_iload_n hx hb dX5_copyFrom_43 rfl (lv_at hl 2 rfl) ?_
        refine tk_aald hC hK hw hT kC_at49 rfl (by decide) rfl (show 0 ≤ v28_2.toInt from r2) (show v28_2.toInt < 4 by first | with_reducible assumption | omega) dX5_copyFrom_44 (fun j101 hj101 gj101 => ?_)
        replace hM := hM.ix gj101
        refine tk_Vv hC hK hw hT hA hE hSR (kC_el33 (kC_5_11 hkq0_) hj100) (by decide) rfl (kz_X9_copyFrom_1 l adK adV dC dI cy ad B hB0 (Int.le_trans hB1 (by decide)) qr s1   (el 33 (q0_ + 11) j100) (kC_el33 (kC_5_11 hkq0_) hj100) (el 33 49 j101) (kC_el33 kC_at49 hj101) w1 H.size hT ) (cwV 1 hC.2.2.2.2 uV_RX5_76 rfl rfl rfl (by decide +kernel) ⟨Nat.le_of_ble_eq_true rfl, Nat.le_of_ble_eq_true rfl⟩) rfl hl.1 rfl (Nat.le_of_ble_eq_true rfl) dX5_copyFrom_45 (fun w104 H locs hp103 hw => ?_)
        obtain ⟨hT, k105, hv107, hg106⟩ := hp103
        have hF := hF.tr k105 (by decide)
        have c108 := k105.gi hkq0_ (by decide) c4
        have c109 := k105.gi hkq0_ (by decide) c5
        have c110 := k105.gi hkq0_ (by decide) c6
        have c111 := k105.gi hkq0_ (by decide) c7
        have c112 := k105.gi hkq0_ (by decide) c8
        clear hg106
        replace hM := hM.call hv107 rfl
        obtain ⟨x113, ex113⟩ : ∃ y : Int32, y = v28_2 + Int32.ofInt 1 := ⟨_, rfl⟩
        have erx113 := ex113
        refine lv_iinc (v := x113) (lv' := [(2, .int x113), (0, .ref (ad q0_)), (1, .ref (ad 38))]) hx hb dX5_copyFrom_48 hl (k := 2) rfl ex113.symm (by decide) rfl (fun ls hl => ?_)
        have ex113 : x113.toInt = v28_2.toInt + 1 := by rw [ex113]; exact wk_add (y := 1) (show -2147483648 ≤ v28_2.toInt + 1 by omega) (show v28_2.toInt + 1 ≤ 2147483647 by omega)
        replace hM := hM.lt ex113.symm
        refine lv_goto (tgt := 28) hx hb dX5_copyFrom_51 (by decide) ?_
        exact ih28 x113 H locs ls w104 (show 0 ≤ x113.toInt by first | with_reducible assumption | omega) (show x113.toInt ≤ 4 by first | with_reducible assumption | omega) (show (4 - x113.toInt).toNat < n28 by first | exact tn_lt hm28 (by omega) (by omega) | omega) hw hT hF c108 c109 c110 c111 c112 hM (lv_sub hl [1, 2, 0] rfl)
  have hM : TT (fun n => m_X5_copyFrom n q0_ 38 (sI w0)) (fun n => m_X5_copyFrom n q0_ 38 (sI w0)) := TT.rf
  refine lv_aload_n hx hb dX5_copyFrom_0 rfl (lv_at hl 0 rfl) ?_
  refine lv_aload_n hx hb dX5_copyFrom_1 rfl (lv_at hl 1 rfl) ?_
  refine tk_getO hC hK hw hT hinX5 kC_at38 (by decide) rfl 0 (by decide) (List.mem_cons_of_mem _ uw_3_18) rfl rfl dX5_copyFrom_2 ?_
  refine tk_Vv hC hK hw hT hA hE hSR hkq0_ (by decide) rfl (kz_X5_moveTo_2 l adK adV dC dI cy ad B hB0 (Int.le_trans hB1 (by decide)) qr s1   q0_ hkq0_ w0 s.heap.size hT ) (cwV 1 hC.2.2.2.2 uV_RX5_67 rfl rfl rfl (by decide +kernel) ⟨Nat.le_of_ble_eq_true rfl, Nat.le_of_ble_eq_true rfl⟩) rfl hl.1 rfl (Nat.le_of_ble_eq_true rfl) dX5_copyFrom_5 (fun w116 H locs hp115 hw => ?_)
  obtain ⟨hT, k117, hv129, hg128⟩ := hp115
  have hF := hF.tr k117 (by decide)
  obtain ⟨⟨x118, c119, rx118, tx118⟩, ⟨x120, c121, rx120, tx120⟩, ⟨x122, c123, rx122, tx122⟩, ⟨x124, c125, rx124, tx124⟩, ⟨x126, c127, rx126, tx126⟩⟩ := hg128
  replace hM := hM.call hv129 rfl
  refine lv_aload_n hx hb dX5_copyFrom_8 rfl (lv_at hl 1 rfl) ?_
  refine tk_getO hC hK hw hT hinX5 kC_at38 (by decide) rfl 1 (by decide) (List.mem_cons_of_mem _ uw_3_19) rfl rfl dX5_copyFrom_9 ?_
  refine lv_iconst (v := 0) hx hb dX5_copyFrom_12 (by decide) ?_
  refine lv_aload_n hx hb dX5_copyFrom_13 rfl (lv_at hl 0 rfl) ?_
  refine tk_getO hC hK hw hT hinX5 hkq0_ (by decide) rfl 1 (by decide) (List.mem_cons_of_mem _ uw_3_19) rfl rfl dX5_copyFrom_14 ?_
  refine lv_iconst (v := 0) hx hb dX5_copyFrom_17 (by decide) ?_
  refine lv_aload_n hx hb dX5_copyFrom_18 rfl (lv_at hl 0 rfl) ?_
  refine tk_getO hC hK hw hT hinX5 hkq0_ (by decide) rfl 1 (by decide) (List.mem_cons_of_mem _ uw_3_19) rfl rfl dX5_copyFrom_19 ?_
  refine tk_alen (v := 48) hC hK hw hT (kC_5_10 hkq0_) rfl (by decide) rfl (by decide) dX5_copyFrom_22 ?_
  refine tk_copyx hC hK hw hT hl.1 (List.mem_cons_of_mem _ uw_69_7) (List.mem_cons_of_mem _ uw_18_20) (List.mem_cons_of_mem _ uw_18_21) (List.mem_cons_of_mem _ uw_18_22) kC_at48 (kC_5_10 hkq0_) (by decide) rfl rfl rfl rfl (by decide) (by decide) rfl rfl (by decide) (by decide) (by decide) (by decide) (by decide) (by decide) (Nat.le_of_ble_eq_true rfl) (by decide +kernel) dX5_copyFrom_23 (fun H locs w130 hw hT k131 hcp => ?_)
  replace hM := hM.cp hcp
  have hF := hF.tr k131 (by decide)
  have c132 := k131.gi hkq0_ (by decide) c119
  have c133 := k131.gi hkq0_ (by decide) c121
  have c134 := k131.gi hkq0_ (by decide) c123
  have c135 := k131.gi hkq0_ (by decide) c125
  have c136 := k131.gi hkq0_ (by decide) c127
  refine lv_iconst (v := 0) hx hb dX5_copyFrom_26 (by decide) ?_
  refine lv_istore_n (lv' := [(2, .int 0), (0, .ref (ad q0_)), (1, .ref (ad 38))]) hx hb dX5_copyFrom_27 rfl hl (by decide) rfl (fun ls hl => ?_)
  obtain rfl : x122 = 0 := wk_eq.mpr (show x122.toInt = 0 by first | exact Int.le_antisymm (by omega) (by omega) | omega)
  obtain rfl : x124 = 0 := wk_eq.mpr (show x124.toInt = 0 by first | exact Int.le_antisymm (by omega) (by omega) | omega)
  obtain rfl : x126 = 0 := wk_eq.mpr (show x126.toInt = 0 by first | exact Int.le_antisymm (by omega) (by omega) | omega)
  obtain rfl : x118 = 0 := wk_eq.mpr (show x118.toInt = 0 by first | exact Int.le_antisymm (by omega) (by omega) | omega)
  obtain rfl : x120 = 0 := wk_eq.mpr (show x120.toInt = 0 by first | exact Int.le_antisymm (by omega) (by omega) | omega)
  try simp only [show (0 : Int32).toInt = 0 by decide] at hM
  try simp only [show (0 : Int32).toInt = 0 by decide] at hM
  try simp only [show (0 : Int32).toInt = 0 by decide] at hM
  try simp only [show (0 : Int32).toInt = 0 by decide] at hM
  try simp only [show (0 : Int32).toInt = 0 by decide] at hM
  exact L28 ((4 - (0 : Int)).toNat + 1) 0 H locs ls w130 (by decide) (by decide) (Nat.lt_succ_self _) hw hT hF c134 c135 c136 c132 c133 hM (lv_sub hl [1, 2, 0] rfl)
abbrev Pz_X11_image_1 (ad : Nat → Nat) (cy : Nat → ClassId) (B : Int) (qr : Nat) (s1 : Int) (a1 : Int32) (w0 : va_W) : Int32 → va_W → Prop := fun r u => TW ksC ad cy B qr s1 u ∧ FE ksC [(5, 8, 8), (5, 9, 9), (5, 10, 10), (5, 11, 11), (5, 12, 12), (5, 13, 13), (7, 8, 8), (7, 9, 9), (7, 10, 10), (7, 11, 11), (9, 0, 0), (9, 1, 1), (9, 2, 2), (9, 3, 3), (9, 4, 4), (9, 5, 5), (9, 6, 6), (9, 7, 7), (9, 8, 8), (24, 0, 100000), (25, 0, 100000), (26, 0, 100000), (27, 0, 100000), (28, 0, 100000), (29, 0, 100000), (30, 0, 100000), (31, 0, 100000), (32, 0, 100000), (34, 0, 100000), (35, 0, 100000), (36, 0, 100000), (37, 0, 100000), (38, 0, 100000), (41, 0, 4)] w0 u ∧ Ev (fun n => m_X11_image n 0 a1.toInt (sI w0)) (r.toInt, sI u) ∧ ((0 ≤ r.toInt ∧ r.toInt ≤ 4 ∧ 0 ≤ a1.toInt ∧ a1.toInt ≤ 3) ∨ (r = (-1)))
set_option maxHeartbeats 4000000 in
set_option maxRecDepth 100000 in
theorem kz_X11_image_1 (l : Launch) (adK adV : Nat → Nat) (dC : Nat → ClassId) (dI : Nat → Nat → Nat) (cy : Nat → ClassId) (ad : Nat → Nat) (B : Int) (hB0 : 2147483648 ≤ B) (hB1 : B ≤ 1152921504606846976) (qr : Nat) (s1 : Int)  (a1 : Int32) (w0 : va_W) (sz : Nat) (hT : TW ksC ad cy B qr s1 w0)  : Met l yX11_image (wu yX11_image cX11_image 2 (some .int)) ({ frames := 4, cells := 0, slots := 0, locals := 124 }) (va_Pc [.ref (ad 0), .int a1] (wpreS adK adV dC dI cy sz w0)) (va_Qi (Pz_X11_image_1 ad cy B qr s1 a1 w0) (fun u : va_W => wpost dC dI cy (va_A w0 sz) u) (va_A w0 sz)) 0 0 (va_A w0 sz) := by
  refine Met.ofW (cc := cX11_image) (maxL := 2) (ret := (some .int)) (by decide) rfl ?_
  intro p e s m args below meth c s₁ Bk hml hv
  obtain ⟨rfl, ⟨hsz, hP, hK, hD0⟩, hE, hSR⟩ := hv
  have hx := Bk.exec
  have hb := Bk.bytes
  have hr := Bk.returns
  have hlocks := Bk.notSynchronized
  have hC : CallFix p m c cX11_image 2 s _ (wu yX11_image cX11_image 2 (some .int)) RX11 := ⟨hx, hb, hml, findClass_of_methodNamed Bk.named, atoms_spec (ws := (wu yX11_image cX11_image 2 (some .int))) Bk.pre⟩
  subst hsz
  have hD := hD0.self (sz := s.heap.size)
  generalize hAe : va_A w0 s.heap.size = A at hD hE ⊢
  have hA : ∀ q : Nat, s.heap.size ≤ q → A q := fun q h => by rw [← hAe]; exact Or.inr h
  have hw : Wd dC dI A s.heap s.heap [] w0 := ⟨hP, hD, va_S.rf⟩
  have hF : FE ksC [(5, 8, 8), (5, 9, 9), (5, 10, 10), (5, 11, 11), (5, 12, 12), (5, 13, 13), (7, 8, 8), (7, 9, 9), (7, 10, 10), (7, 11, 11), (9, 0, 0), (9, 1, 1), (9, 2, 2), (9, 3, 3), (9, 4, 4), (9, 5, 5), (9, 6, 6), (9, 7, 7), (9, 8, 8), (24, 0, 100000), (25, 0, 100000), (26, 0, 100000), (27, 0, 100000), (28, 0, 100000), (29, 0, 100000), (30, 0, 100000), (31, 0, 100000), (32, 0, 100000), (34, 0, 100000), (35, 0, 100000), (36, 0, 100000), (37, 0, 100000), (38, 0, 100000), (41, 0, 4)] w0 w0 := FE.rf
  have hl := lv_entry ([.ref (ad 0), .int a1]) (n := 2) (Nat.le_of_ble_eq_true rfl)
  rw [lg_entry_eq]
  generalize (lg_sl ([.ref (ad 0), .int a1]) ++ List.replicate (2 - (lg_sl ([.ref (ad 0), .int a1])).length) Slot.unset).toArray = ls at hl ⊢
  have hl : lv_has ls 2 [(0, .ref (ad 0)), (1, .int a1)] := hl
  generalize hloc : ([] : List Loc) = locs at hw ⊢
  have hinX11 : ∀ w ∈ u_ws RX11 TX11 13, w ∈ (wu yX11_image cX11_image 2 (some .int)) := fun _ h => List.mem_cons_of_mem _ (up_70 h)
  have hinX5 : ∀ w ∈ u_ws RX5 TX5 14, w ∈ (wu yX11_image cX11_image 2 (some .int)) := fun _ h => List.mem_cons_of_mem _ (up_76 h)
  have J9 : ∀ (H : Heap) (locs : List Loc) (ls : Array Slot) (w1 : va_W), Wd dC dI A s.heap H locs w1 → TW ksC ad cy B qr s1 w1 → FE ksC [(5, 8, 8), (5, 9, 9), (5, 10, 10), (5, 11, 11), (5, 12, 12), (5, 13, 13), (7, 8, 8), (7, 9, 9), (7, 10, 10), (7, 11, 11), (9, 0, 0), (9, 1, 1), (9, 2, 2), (9, 3, 3), (9, 4, 4), (9, 5, 5), (9, 6, 6), (9, 7, 7), (9, 8, 8), (24, 0, 100000), (25, 0, 100000), (26, 0, 100000), (27, 0, 100000), (28, 0, 100000), (29, 0, 100000), (30, 0, 100000), (31, 0, 100000), (32, 0, 100000), (34, 0, 100000), (35, 0, 100000), (36, 0, 100000), (37, 0, 100000), (38, 0, 100000), (41, 0, 4)] w0 w1 → TT (fun n => m_X11_image n 0 a1.toInt (sI w0)) (fun n => b_X11_image_9 n 0 (sI w1)) → lv_has ls 2 [(0, .ref (ad 0)), (1, .int a1)] → W p l e ({ frames := 4, cells := 0, slots := 0, locals := 124 }) s m (List.toArray [.ref (ad 0), .int a1]) below meth c H locs 0 0 (MQ below (va_Qi (Pz_X11_image_1 ad cy B qr s1 a1 w0) (fun u : va_W => wpost dC dI cy A u) A) (List.toArray [.ref (ad 0), .int a1]) s 0 0 A) (F0 m 9 ls []) := by
    intro H locs ls w1 hw hT hF hM hl
    refine lv_iconst (v := (-1)) hx hb dX11_image_9 (by decide) ?_
    exact tk_iret hC hr hlocks hK ⟨hT, hF, hM.ret (by decide), (Or.inr rfl)⟩ hw dX11_image_10
  have hM : TT (fun n => m_X11_image n 0 a1.toInt (sI w0)) (fun n => m_X11_image n 0 a1.toInt (sI w0)) := TT.rf
  refine lv_iload_n hx hb dX11_image_0 rfl (lv_at hl 1 rfl) ?_
  refine lv_if_lt (tgt := 9) hx hb dX11_image_1 (by decide) (fun c2 => ?_) (fun c2 => ?_)
  · have c2 : a1.toInt < (0 : Int) := wk_lt.mp c2
    replace hM := hM.pos c2
    exact J9  s.heap locs ls w0   hw hT hF hM (lv_sub hl [0, 1] rfl)
  · have c2 : (0 : Int) ≤ a1.toInt := wk_ltF c2
    replace hM := hM.neg (Int.not_lt.mpr c2)
    refine lv_iload_n hx hb dX11_image_4 rfl (lv_at hl 1 rfl) ?_
    refine lv_iconst (v := 4) hx hb dX11_image_5 (by decide) ?_
    refine lv_icmp_lt (tgt := 11) hx hb dX11_image_6 (by decide) (fun c3 => ?_) (fun c3 => ?_)
    · have c3 : a1.toInt < (4 : Int) := wk_lt.mp c3
      replace hM := hM.pos c3
      refine lv_aload_n hx hb dX11_image_11 rfl (lv_at hl 0 rfl) ?_
      refine tk_getA hC hK hw hT hinX11 kC_at0 (by decide) rfl 5 (by decide) (List.mem_cons_of_mem _ uw_1_8) rfl rfl dX11_image_12 ?_
      refine lv_iload_n hx hb dX11_image_15 rfl (lv_at hl 1 rfl) ?_
      refine tk_aald hC hK hw hT kC_at59 rfl (by decide) rfl (show 0 ≤ a1.toInt by first | with_reducible assumption | omega) (show a1.toInt < 4 by first | with_reducible assumption | omega) dX11_image_16 (fun j4 hj4 gj4 => ?_)
      replace hM := hM.ix gj4
      refine lv_aload_n hx hb dX11_image_17 rfl (lv_at hl 0 rfl) ?_
      refine tk_getA hC hK hw hT hinX11 kC_at0 (by decide) rfl 4 (by decide) (List.mem_cons_of_mem _ uw_1_7) rfl rfl dX11_image_18 ?_
      refine tk_Vv hC hK hw hT hA hE hSR (kC_el40 kC_at59 hj4) (by decide) rfl (kz_X5_copyFrom_1 l adK adV dC dI cy ad B hB0 (Int.le_trans hB1 (by decide)) qr s1   (el 40 59 j4) (kC_el40 kC_at59 hj4) w0 s.heap.size hT ) (cwV 1 hC.2.2.2.2 uV_RX11_310 rfl rfl rfl (by decide +kernel) ⟨Nat.le_of_ble_eq_true rfl, Nat.le_of_ble_eq_true rfl⟩) rfl hl.1 rfl (Nat.le_of_ble_eq_true rfl) dX11_image_21 (fun w7 H locs hp6 hw => ?_)
      obtain ⟨hT, k8, hv10, hg9⟩ := hp6
      have hF := hF.tr k8 (by decide)
      clear hg9
      replace hM := hM.call hv10 rfl
      refine lv_aload_n hx hb dX11_image_24 rfl (lv_at hl 0 rfl) ?_
      refine tk_getA hC hK hw hT hinX11 kC_at0 (by decide) rfl 6 (by decide) (List.mem_cons_of_mem _ uw_1_10) rfl rfl dX11_image_25 ?_
      refine lv_iload_n hx hb dX11_image_28 rfl (lv_at hl 1 rfl) ?_
      refine lv_iconst (v := 1) hx hb dX11_image_29 (by decide) ?_
      refine tk_zast hC hK hw hT kC_at144 (by decide) rfl rfl (show 0 ≤ a1.toInt by first | with_reducible assumption | omega) (show a1.toInt < 4 by first | with_reducible assumption | omega) (by decide) (by decide) dX11_image_30 (fun H locs w11 hw hT k13 c12 => ?_)
      replace hM := hM.wr (sI_upc k13 c12 (by decide))
      have hF := hF.put kC_at144 (inE_of (a := 0) (b := 4) (by decide) (show 0 ≤ a1.toInt.toNat by omega) (show a1.toInt.toNat ≤ 4 by omega)) k13
      refine lv_aload_n hx hb dX11_image_31 rfl (lv_at hl 0 rfl) ?_
      refine tk_getA hC hK hw hT hinX11 kC_at0 (by decide) rfl 4 (by decide) (List.mem_cons_of_mem _ uw_1_7) rfl rfl dX11_image_32 ?_
      refine tk_geti hC hK hw hT hinX5 kC_at38 (by decide) rfl 9 (by decide) (List.mem_cons_of_mem _ uw_38_23) rfl rfl dX11_image_35 (fun x14 c15 rx14 tx14 => ?_)
      replace hM := hM.rd (sI_at c15)
      exact tk_iret hC hr hlocks hK ⟨hT, hF, hM.ret rfl, (Or.inl ⟨(show 0 ≤ x14.toInt from rx14), (show x14.toInt ≤ 4 from tx14), (show 0 ≤ a1.toInt by first | with_reducible assumption | omega), (show a1.toInt ≤ 3 by first | with_reducible assumption | omega)⟩)⟩ hw dX11_image_38
    · have c3 : (4 : Int) ≤ a1.toInt := wk_ltF c3
      replace hM := hM.neg (Int.not_lt.mpr c3)
      exact J9  s.heap locs ls w0   hw hT hF hM (lv_sub hl [0, 1] rfl)
abbrev Pz_X7_copyFrom_3 (ad : Nat → Nat) (cy : Nat → ClassId) (B : Int) (qr : Nat) (s1 : Int) (q1_ : Nat) (w0 : va_W) : va_W → Prop := fun u => TW ksC ad cy B qr s1 u ∧ FE ksC [(7, 8, 8), (7, 9, 9), (7, 10, 10), (7, 11, 11), (24, 0, 100000), (25, 0, 100000), (26, 0, 100000), (27, 0, 100000), (28, 0, 100000), (29, 0, 100000), (30, 0, 100000), (31, 0, 100000)] w0 u ∧ Ev (fun n => m_X7_copyFrom n 39 q1_ (sI w0)) (0, sI u) ∧ ((True))
set_option maxHeartbeats 4000000 in
set_option maxRecDepth 100000 in
theorem kz_X7_copyFrom_3 (l : Launch) (adK adV : Nat → Nat) (dC : Nat → ClassId) (dI : Nat → Nat → Nat) (cy : Nat → ClassId) (ad : Nat → Nat) (B : Int) (hB0 : 2147483648 ≤ B) (hB1 : B ≤ 1152921504606846976) (qr : Nat) (s1 : Int)  (q1_ : Nat) (hkq1_ : ksC[q1_]? = some 7) (w0 : va_W) (sz : Nat) (hT : TW ksC ad cy B qr s1 w0)  : Met l yX7_copyFrom (wu yX7_copyFrom cX7_copyFrom 2 none) ({ frames := 1, cells := 0, slots := 0, locals := 60 }) (va_Pc [.ref (ad 39), .ref (ad q1_)] (wpreS adK adV dC dI cy sz w0)) (va_Qv (Pz_X7_copyFrom_3 ad cy B qr s1 q1_ w0) (fun u : va_W => wpost dC dI cy (va_A w0 sz) u) (va_A w0 sz)) 0 0 (va_A w0 sz) := by
  refine Met.ofW (cc := cX7_copyFrom) (maxL := 2) (ret := none) (by decide) rfl ?_
  intro p e s m args below meth c s₁ Bk hml hv
  obtain ⟨rfl, ⟨hsz, hP, hK, hD0⟩, hE, hSR⟩ := hv
  have hx := Bk.exec
  have hb := Bk.bytes
  have hr := Bk.returns
  have hlocks := Bk.notSynchronized
  have hC : CallFix p m c cX7_copyFrom 2 s _ (wu yX7_copyFrom cX7_copyFrom 2 none) RX7 := ⟨hx, hb, hml, findClass_of_methodNamed Bk.named, atoms_spec (ws := (wu yX7_copyFrom cX7_copyFrom 2 none)) Bk.pre⟩
  subst hsz
  have hD := hD0.self (sz := s.heap.size)
  generalize hAe : va_A w0 s.heap.size = A at hD hE ⊢
  have hA : ∀ q : Nat, s.heap.size ≤ q → A q := fun q h => by rw [← hAe]; exact Or.inr h
  have hw : Wd dC dI A s.heap s.heap [] w0 := ⟨hP, hD, va_S.rf⟩
  have hF : FE ksC [(7, 8, 8), (7, 9, 9), (7, 10, 10), (7, 11, 11), (24, 0, 100000), (25, 0, 100000), (26, 0, 100000), (27, 0, 100000), (28, 0, 100000), (29, 0, 100000), (30, 0, 100000), (31, 0, 100000)] w0 w0 := FE.rf
  have hl := lv_entry ([.ref (ad 39), .ref (ad q1_)]) (n := 2) (Nat.le_of_ble_eq_true rfl)
  rw [lg_entry_eq]
  generalize (lg_sl ([.ref (ad 39), .ref (ad q1_)]) ++ List.replicate (2 - (lg_sl ([.ref (ad 39), .ref (ad q1_)])).length) Slot.unset).toArray = ls at hl ⊢
  have hl : lv_has ls 2 [(0, .ref (ad 39)), (1, .ref (ad q1_))] := hl
  generalize hloc : ([] : List Loc) = locs at hw ⊢
  have hinX7 : ∀ w ∈ u_ws RX7 TX7 12, w ∈ (wu yX7_copyFrom cX7_copyFrom 2 none) := fun _ h => List.mem_cons_of_mem _ (up_73 h)
  have hM : TT (fun n => m_X7_copyFrom n 39 q1_ (sI w0)) (fun n => m_X7_copyFrom n 39 q1_ (sI w0)) := TT.rf
  refine lv_aload_n hx hb dX7_copyFrom_0 rfl (lv_at hl 1 rfl) ?_
  refine tk_getO hC hK hw hT hinX7 hkq1_ (by decide) rfl 0 (by decide) (List.mem_cons_of_mem _ uw_2_17) rfl rfl dX7_copyFrom_1 ?_
  refine lv_iconst (v := 0) hx hb dX7_copyFrom_4 (by decide) ?_
  refine lv_aload_n hx hb dX7_copyFrom_5 rfl (lv_at hl 0 rfl) ?_
  refine tk_getO hC hK hw hT hinX7 kC_at39 (by decide) rfl 0 (by decide) (List.mem_cons_of_mem _ uw_2_17) rfl rfl dX7_copyFrom_6 ?_
  refine lv_iconst (v := 0) hx hb dX7_copyFrom_9 (by decide) ?_
  refine lv_aload_n hx hb dX7_copyFrom_10 rfl (lv_at hl 0 rfl) ?_
  refine tk_getO hC hK hw hT hinX7 kC_at39 (by decide) rfl 0 (by decide) (List.mem_cons_of_mem _ uw_2_17) rfl rfl dX7_copyFrom_11 ?_
  refine tk_alen (v := 26) hC hK hw hT kC_at40 rfl (by decide) rfl (by decide) dX7_copyFrom_14 ?_
  refine tk_copyx hC hK hw hT hl.1 (List.mem_cons_of_mem _ uw_18_19) (List.mem_cons_of_mem _ uw_18_20) (List.mem_cons_of_mem _ uw_18_21) (List.mem_cons_of_mem _ uw_18_22) (kC_7_1 hkq1_) kC_at40 (by decide) rfl rfl rfl rfl (by decide) (by decide) rfl rfl (by decide) (by decide) (by decide) (by decide) (by decide) (by decide) (Nat.le_of_ble_eq_true rfl) (by decide +kernel) dX7_copyFrom_15 (fun H locs w1 hw hT k2 hcp => ?_)
  replace hM := hM.cp hcp
  have hF := hF.tr k2 (by decide)
  refine lv_aload_n hx hb dX7_copyFrom_18 rfl (lv_at hl 1 rfl) ?_
  refine tk_getO hC hK hw hT hinX7 hkq1_ (by decide) rfl 1 (by decide) (List.mem_cons_of_mem _ uw_2_18) rfl rfl dX7_copyFrom_19 ?_
  refine lv_iconst (v := 0) hx hb dX7_copyFrom_22 (by decide) ?_
  refine lv_aload_n hx hb dX7_copyFrom_23 rfl (lv_at hl 0 rfl) ?_
  refine tk_getO hC hK hw hT hinX7 kC_at39 (by decide) rfl 1 (by decide) (List.mem_cons_of_mem _ uw_2_18) rfl rfl dX7_copyFrom_24 ?_
  refine lv_iconst (v := 0) hx hb dX7_copyFrom_27 (by decide) ?_
  refine lv_aload_n hx hb dX7_copyFrom_28 rfl (lv_at hl 0 rfl) ?_
  refine tk_getO hC hK hw hT hinX7 kC_at39 (by decide) rfl 1 (by decide) (List.mem_cons_of_mem _ uw_2_18) rfl rfl dX7_copyFrom_29 ?_
  refine tk_alen (v := 13) hC hK hw hT kC_at41 rfl (by decide) rfl (by decide) dX7_copyFrom_32 ?_
  refine tk_copyx hC hK hw hT hl.1 (List.mem_cons_of_mem _ uw_18_19) (List.mem_cons_of_mem _ uw_18_20) (List.mem_cons_of_mem _ uw_18_21) (List.mem_cons_of_mem _ uw_18_22) (kC_7_2 hkq1_) kC_at41 (by decide) rfl rfl rfl rfl (by decide) (by decide) rfl rfl (by decide) (by decide) (by decide) (by decide) (by decide) (by decide) (Nat.le_of_ble_eq_true rfl) (by decide +kernel) dX7_copyFrom_33 (fun H locs w3 hw hT k4 hcp => ?_)
  replace hM := hM.cp hcp
  have hF := hF.tr k4 (by decide)
  refine lv_aload_n hx hb dX7_copyFrom_36 rfl (lv_at hl 1 rfl) ?_
  refine tk_getO hC hK hw hT hinX7 hkq1_ (by decide) rfl 2 (by decide) (List.mem_cons_of_mem _ uw_2_19) rfl rfl dX7_copyFrom_37 ?_
  refine lv_iconst (v := 0) hx hb dX7_copyFrom_40 (by decide) ?_
  refine lv_aload_n hx hb dX7_copyFrom_41 rfl (lv_at hl 0 rfl) ?_
  refine tk_getO hC hK hw hT hinX7 kC_at39 (by decide) rfl 2 (by decide) (List.mem_cons_of_mem _ uw_2_19) rfl rfl dX7_copyFrom_42 ?_
  refine lv_iconst (v := 0) hx hb dX7_copyFrom_45 (by decide) ?_
  refine lv_aload_n hx hb dX7_copyFrom_46 rfl (lv_at hl 0 rfl) ?_
  refine tk_getO hC hK hw hT hinX7 kC_at39 (by decide) rfl 2 (by decide) (List.mem_cons_of_mem _ uw_2_19) rfl rfl dX7_copyFrom_47 ?_
  refine tk_alen (v := 91) hC hK hw hT kC_at42 rfl (by decide) rfl (by decide) dX7_copyFrom_50 ?_
  refine tk_copyx hC hK hw hT hl.1 (List.mem_cons_of_mem _ uw_18_19) (List.mem_cons_of_mem _ uw_18_20) (List.mem_cons_of_mem _ uw_18_21) (List.mem_cons_of_mem _ uw_18_22) (kC_7_3 hkq1_) kC_at42 (by decide) rfl rfl rfl rfl (by decide) (by decide) rfl rfl (by decide) (by decide) (by decide) (by decide) (by decide) (by decide) (Nat.le_of_ble_eq_true rfl) (by decide +kernel) dX7_copyFrom_51 (fun H locs w5 hw hT k6 hcp => ?_)
  replace hM := hM.cp hcp
  have hF := hF.tr k6 (by decide)
  refine lv_aload_n hx hb dX7_copyFrom_54 rfl (lv_at hl 1 rfl) ?_
  refine tk_getO hC hK hw hT hinX7 hkq1_ (by decide) rfl 3 (by decide) (List.mem_cons_of_mem _ uw_2_20) rfl rfl dX7_copyFrom_55 ?_
  refine lv_iconst (v := 0) hx hb dX7_copyFrom_58 (by decide) ?_
  refine lv_aload_n hx hb dX7_copyFrom_59 rfl (lv_at hl 0 rfl) ?_
  refine tk_getO hC hK hw hT hinX7 kC_at39 (by decide) rfl 3 (by decide) (List.mem_cons_of_mem _ uw_2_20) rfl rfl dX7_copyFrom_60 ?_
  refine lv_iconst (v := 0) hx hb dX7_copyFrom_63 (by decide) ?_
  refine lv_aload_n hx hb dX7_copyFrom_64 rfl (lv_at hl 0 rfl) ?_
  refine tk_getO hC hK hw hT hinX7 kC_at39 (by decide) rfl 3 (by decide) (List.mem_cons_of_mem _ uw_2_20) rfl rfl dX7_copyFrom_65 ?_
  refine tk_alen (v := 13) hC hK hw hT kC_at43 rfl (by decide) rfl (by decide) dX7_copyFrom_68 ?_
  refine tk_copyx hC hK hw hT hl.1 (List.mem_cons_of_mem _ uw_18_19) (List.mem_cons_of_mem _ uw_18_20) (List.mem_cons_of_mem _ uw_18_21) (List.mem_cons_of_mem _ uw_18_22) (kC_7_4 hkq1_) kC_at43 (by decide) rfl rfl rfl rfl (by decide) (by decide) rfl rfl (by decide) (by decide) (by decide) (by decide) (by decide) (by decide) (Nat.le_of_ble_eq_true rfl) (by decide +kernel) dX7_copyFrom_69 (fun H locs w7 hw hT k8 hcp => ?_)
  replace hM := hM.cp hcp
  have hF := hF.tr k8 (by decide)
  refine lv_aload_n hx hb dX7_copyFrom_72 rfl (lv_at hl 1 rfl) ?_
  refine tk_getO hC hK hw hT hinX7 hkq1_ (by decide) rfl 4 (by decide) (List.mem_cons_of_mem _ uw_2_21) rfl rfl dX7_copyFrom_73 ?_
  refine lv_iconst (v := 0) hx hb dX7_copyFrom_76 (by decide) ?_
  refine lv_aload_n hx hb dX7_copyFrom_77 rfl (lv_at hl 0 rfl) ?_
  refine tk_getO hC hK hw hT hinX7 kC_at39 (by decide) rfl 4 (by decide) (List.mem_cons_of_mem _ uw_2_21) rfl rfl dX7_copyFrom_78 ?_
  refine lv_iconst (v := 0) hx hb dX7_copyFrom_81 (by decide) ?_
  refine lv_aload_n hx hb dX7_copyFrom_82 rfl (lv_at hl 0 rfl) ?_
  refine tk_getO hC hK hw hT hinX7 kC_at39 (by decide) rfl 4 (by decide) (List.mem_cons_of_mem _ uw_2_21) rfl rfl dX7_copyFrom_83 ?_
  refine tk_alen (v := 26) hC hK hw hT kC_at44 rfl (by decide) rfl (by decide) dX7_copyFrom_86 ?_
  refine tk_copyx hC hK hw hT hl.1 (List.mem_cons_of_mem _ uw_18_19) (List.mem_cons_of_mem _ uw_18_20) (List.mem_cons_of_mem _ uw_18_21) (List.mem_cons_of_mem _ uw_18_22) (kC_7_5 hkq1_) kC_at44 (by decide) rfl rfl rfl rfl (by decide) (by decide) rfl rfl (by decide) (by decide) (by decide) (by decide) (by decide) (by decide) (Nat.le_of_ble_eq_true rfl) (by decide +kernel) dX7_copyFrom_87 (fun H locs w9 hw hT k10 hcp => ?_)
  replace hM := hM.cp hcp
  have hF := hF.tr k10 (by decide)
  refine lv_aload_n hx hb dX7_copyFrom_90 rfl (lv_at hl 1 rfl) ?_
  refine tk_getO hC hK hw hT hinX7 hkq1_ (by decide) rfl 5 (by decide) (List.mem_cons_of_mem _ uw_2_22) rfl rfl dX7_copyFrom_91 ?_
  refine lv_iconst (v := 0) hx hb dX7_copyFrom_94 (by decide) ?_
  refine lv_aload_n hx hb dX7_copyFrom_95 rfl (lv_at hl 0 rfl) ?_
  refine tk_getO hC hK hw hT hinX7 kC_at39 (by decide) rfl 5 (by decide) (List.mem_cons_of_mem _ uw_2_22) rfl rfl dX7_copyFrom_96 ?_
  refine lv_iconst (v := 0) hx hb dX7_copyFrom_99 (by decide) ?_
  refine lv_aload_n hx hb dX7_copyFrom_100 rfl (lv_at hl 0 rfl) ?_
  refine tk_getO hC hK hw hT hinX7 kC_at39 (by decide) rfl 5 (by decide) (List.mem_cons_of_mem _ uw_2_22) rfl rfl dX7_copyFrom_101 ?_
  refine tk_alen (v := 8) hC hK hw hT kC_at45 rfl (by decide) rfl (by decide) dX7_copyFrom_104 ?_
  refine tk_copyx hC hK hw hT hl.1 (List.mem_cons_of_mem _ uw_18_19) (List.mem_cons_of_mem _ uw_18_20) (List.mem_cons_of_mem _ uw_18_21) (List.mem_cons_of_mem _ uw_18_22) (kC_7_6 hkq1_) kC_at45 (by decide) rfl rfl rfl rfl (by decide) (by decide) rfl rfl (by decide) (by decide) (by decide) (by decide) (by decide) (by decide) (Nat.le_of_ble_eq_true rfl) (by decide +kernel) dX7_copyFrom_105 (fun H locs w11 hw hT k12 hcp => ?_)
  replace hM := hM.cp hcp
  have hF := hF.tr k12 (by decide)
  refine lv_aload_n hx hb dX7_copyFrom_108 rfl (lv_at hl 1 rfl) ?_
  refine tk_getO hC hK hw hT hinX7 hkq1_ (by decide) rfl 6 (by decide) (List.mem_cons_of_mem _ uw_2_23) rfl rfl dX7_copyFrom_109 ?_
  refine lv_iconst (v := 0) hx hb dX7_copyFrom_112 (by decide) ?_
  refine lv_aload_n hx hb dX7_copyFrom_113 rfl (lv_at hl 0 rfl) ?_
  refine tk_getO hC hK hw hT hinX7 kC_at39 (by decide) rfl 6 (by decide) (List.mem_cons_of_mem _ uw_2_23) rfl rfl dX7_copyFrom_114 ?_
  refine lv_iconst (v := 0) hx hb dX7_copyFrom_117 (by decide) ?_
  refine lv_aload_n hx hb dX7_copyFrom_118 rfl (lv_at hl 0 rfl) ?_
  refine tk_getO hC hK hw hT hinX7 kC_at39 (by decide) rfl 6 (by decide) (List.mem_cons_of_mem _ uw_2_23) rfl rfl dX7_copyFrom_119 ?_
  refine tk_alen (v := 8) hC hK hw hT kC_at46 rfl (by decide) rfl (by decide) dX7_copyFrom_122 ?_
  refine tk_copyx hC hK hw hT hl.1 (List.mem_cons_of_mem _ uw_18_19) (List.mem_cons_of_mem _ uw_18_20) (List.mem_cons_of_mem _ uw_18_21) (List.mem_cons_of_mem _ uw_18_22) (kC_7_7 hkq1_) kC_at46 (by decide) rfl rfl rfl rfl (by decide) (by decide) rfl rfl (by decide) (by decide) (by decide) (by decide) (by decide) (by decide) (Nat.le_of_ble_eq_true rfl) (by decide +kernel) dX7_copyFrom_123 (fun H locs w13 hw hT k14 hcp => ?_)
  replace hM := hM.cp hcp
  have hF := hF.tr k14 (by decide)
  refine lv_aload_n hx hb dX7_copyFrom_126 rfl (lv_at hl 1 rfl) ?_
  refine tk_getO hC hK hw hT hinX7 hkq1_ (by decide) rfl 7 (by decide) (List.mem_cons_of_mem _ uw_3_0) rfl rfl dX7_copyFrom_127 ?_
  refine lv_iconst (v := 0) hx hb dX7_copyFrom_130 (by decide) ?_
  refine lv_aload_n hx hb dX7_copyFrom_131 rfl (lv_at hl 0 rfl) ?_
  refine tk_getO hC hK hw hT hinX7 kC_at39 (by decide) rfl 7 (by decide) (List.mem_cons_of_mem _ uw_3_0) rfl rfl dX7_copyFrom_132 ?_
  refine lv_iconst (v := 0) hx hb dX7_copyFrom_135 (by decide) ?_
  refine lv_aload_n hx hb dX7_copyFrom_136 rfl (lv_at hl 0 rfl) ?_
  refine tk_getO hC hK hw hT hinX7 kC_at39 (by decide) rfl 7 (by decide) (List.mem_cons_of_mem _ uw_3_0) rfl rfl dX7_copyFrom_137 ?_
  refine tk_alen (v := 13) hC hK hw hT kC_at47 rfl (by decide) rfl (by decide) dX7_copyFrom_140 ?_
  refine tk_copyx hC hK hw hT hl.1 (List.mem_cons_of_mem _ uw_18_19) (List.mem_cons_of_mem _ uw_18_20) (List.mem_cons_of_mem _ uw_18_21) (List.mem_cons_of_mem _ uw_18_22) (kC_7_8 hkq1_) kC_at47 (by decide) rfl rfl rfl rfl (by decide) (by decide) rfl rfl (by decide) (by decide) (by decide) (by decide) (by decide) (by decide) (Nat.le_of_ble_eq_true rfl) (by decide +kernel) dX7_copyFrom_141 (fun H locs w15 hw hT k16 hcp => ?_)
  replace hM := hM.cp hcp
  have hF := hF.tr k16 (by decide)
  refine lv_aload_n hx hb dX7_copyFrom_144 rfl (lv_at hl 0 rfl) ?_
  refine lv_aload_n hx hb dX7_copyFrom_145 rfl (lv_at hl 1 rfl) ?_
  refine tk_geti hC hK hw hT hinX7 hkq1_ (by decide) rfl 8 (by decide) (List.mem_cons_of_mem _ uw_9_7) rfl rfl dX7_copyFrom_146 (fun x17 c18 rx17 tx17 => ?_)
  replace hM := hM.rd (sI_at c18)
  refine tk_puti hC hK hw hT hinX7 tyX7_ok nmX7 kC_at39 (by decide) rfl rfl 8 (by decide) (List.mem_cons_of_mem _ uw_9_7) rfl rfl rfl rfl (show (-1) ≤ x17.toInt by first | with_reducible assumption | omega) (show x17.toInt ≤ 10 by first | with_reducible assumption | omega) dX7_copyFrom_149 (fun H locs w19 hw hT k21 c20 => ?_)
  replace hM := hM.wr (sI_up k21 c20)
  have hF := hF.put kC_at39 (k := 8) (by decide) k21
  refine lv_aload_n hx hb dX7_copyFrom_152 rfl (lv_at hl 0 rfl) ?_
  refine lv_aload_n hx hb dX7_copyFrom_153 rfl (lv_at hl 1 rfl) ?_
  refine tk_geti hC hK hw hT hinX7 hkq1_ (by decide) rfl 9 (by decide) (List.mem_cons_of_mem _ uw_9_8) rfl rfl dX7_copyFrom_154 (fun x22 c23 rx22 tx22 => ?_)
  replace hM := hM.rd (sI_at c23)
  refine tk_puti hC hK hw hT hinX7 tyX7_ok nmX7 kC_at39 (by decide) rfl rfl 9 (by decide) (List.mem_cons_of_mem _ uw_9_8) rfl rfl rfl rfl (show 0 ≤ x22.toInt by first | with_reducible assumption | omega) (show x22.toInt ≤ 12 by first | with_reducible assumption | omega) dX7_copyFrom_157 (fun H locs w24 hw hT k26 c25 => ?_)
  replace hM := hM.wr (sI_up k26 c25)
  have hF := hF.put kC_at39 (k := 9) (by decide) k26
  have c27 := k26.gi (Or.inr (by decide)) c20
  refine lv_aload_n hx hb dX7_copyFrom_160 rfl (lv_at hl 0 rfl) ?_
  refine lv_aload_n hx hb dX7_copyFrom_161 rfl (lv_at hl 1 rfl) ?_
  refine tk_geti hC hK hw hT hinX7 hkq1_ (by decide) rfl 10 (by decide) (List.mem_cons_of_mem _ uw_9_9) rfl rfl dX7_copyFrom_162 (fun x28 c29 rx28 tx28 => ?_)
  replace hM := hM.rd (sI_at c29)
  refine tk_puti hC hK hw hT hinX7 tyX7_ok nmX7 kC_at39 (by decide) rfl rfl 10 (by decide) (List.mem_cons_of_mem _ uw_9_9) rfl rfl rfl rfl (show 0 ≤ x28.toInt by first | with_reducible assumption | omega) (show x28.toInt ≤ 8 by first | with_reducible assumption | omega) dX7_copyFrom_165 (fun H locs w30 hw hT k32 c31 => ?_)
  replace hM := hM.wr (sI_up k32 c31)
  have hF := hF.put kC_at39 (k := 10) (by decide) k32
  have c33 := k32.gi (Or.inr (by decide)) c27
  have c34 := k32.gi (Or.inr (by decide)) c25
  refine lv_aload_n hx hb dX7_copyFrom_168 rfl (lv_at hl 0 rfl) ?_
  refine lv_aload_n hx hb dX7_copyFrom_169 rfl (lv_at hl 1 rfl) ?_
  refine tk_geti hC hK hw hT hinX7 hkq1_ (by decide) rfl 11 (by decide) (List.mem_cons_of_mem _ uw_9_10) rfl rfl dX7_copyFrom_170 (fun x35 c36 rx35 tx35 => ?_)
  replace hM := hM.rd (sI_at c36)
  refine tk_puti hC hK hw hT hinX7 tyX7_ok nmX7 kC_at39 (by decide) rfl rfl 11 (by decide) (List.mem_cons_of_mem _ uw_9_10) rfl rfl rfl rfl (show 0 ≤ x35.toInt by first | with_reducible assumption | omega) (show x35.toInt ≤ 4 by first | with_reducible assumption | omega) dX7_copyFrom_173 (fun H locs w37 hw hT k39 c38 => ?_)
  replace hM := hM.wr (sI_up k39 c38)
  have hF := hF.put kC_at39 (k := 11) (by decide) k39
  have c40 := k39.gi (Or.inr (by decide)) c33
  have c41 := k39.gi (Or.inr (by decide)) c34
  have c42 := k39.gi (Or.inr (by decide)) c31
  exact tk_vret hC hr hlocks hK ⟨hT, hF, hM.ret rfl, trivial⟩ hw dX7_copyFrom_176
abbrev Pz_X5_moveTo_3 (ad : Nat → Nat) (cy : Nat → ClassId) (B : Int) (qr : Nat) (s1 : Int) (q1_ : Nat) (w0 : va_W) : va_W → Prop := fun u => TW ksC ad cy B qr s1 u ∧ FE ksC [(5, 8, 8), (5, 9, 9), (5, 10, 10), (5, 11, 11), (5, 12, 12), (7, 8, 8), (7, 9, 9), (7, 10, 10), (7, 11, 11), (24, 0, 100000), (25, 0, 100000), (26, 0, 100000), (27, 0, 100000), (28, 0, 100000), (29, 0, 100000), (30, 0, 100000), (31, 0, 100000)] w0 u ∧ Ev (fun n => m_X5_moveTo n 38 q1_ (sI w0)) (0, sI u) ∧ (((∃ y : Int32, gi u 38 8 = y ∧ 0 ≤ y.toInt ∧ y.toInt ≤ 0) ∧ (∃ y : Int32, gi u 38 9 = y ∧ 0 ≤ y.toInt ∧ y.toInt ≤ 0) ∧ (∃ y : Int32, gi u 38 10 = y ∧ 0 ≤ y.toInt ∧ y.toInt ≤ 0) ∧ (∃ y : Int32, gi u 38 11 = y ∧ 0 ≤ y.toInt ∧ y.toInt ≤ 0) ∧ (∃ y : Int32, gi u 38 12 = y ∧ 0 ≤ y.toInt ∧ y.toInt ≤ 0)))
set_option maxHeartbeats 4000000 in
set_option maxRecDepth 100000 in
theorem kz_X5_moveTo_3 (l : Launch) (adK adV : Nat → Nat) (dC : Nat → ClassId) (dI : Nat → Nat → Nat) (cy : Nat → ClassId) (ad : Nat → Nat) (B : Int) (hB0 : 2147483648 ≤ B) (hB1 : B ≤ 1152921504606846976) (qr : Nat) (s1 : Int)  (q1_ : Nat) (hkq1_ : ksC[q1_]? = some 7) (w0 : va_W) (sz : Nat) (hT : TW ksC ad cy B qr s1 w0)  : Met l yX5_moveTo (wu yX5_moveTo cX5_moveTo 2 none) ({ frames := 2, cells := 0, slots := 0, locals := 81 }) (va_Pc [.ref (ad 38), .ref (ad q1_)] (wpreS adK adV dC dI cy sz w0)) (va_Qv (Pz_X5_moveTo_3 ad cy B qr s1 q1_ w0) (fun u : va_W => wpost dC dI cy (va_A w0 sz) u) (va_A w0 sz)) 0 0 (va_A w0 sz) := by
  refine Met.ofW (cc := cX5_moveTo) (maxL := 2) (ret := none) (by decide) rfl ?_
  intro p e s m args below meth c s₁ Bk hml hv
  obtain ⟨rfl, ⟨hsz, hP, hK, hD0⟩, hE, hSR⟩ := hv
  have hx := Bk.exec
  have hb := Bk.bytes
  have hr := Bk.returns
  have hlocks := Bk.notSynchronized
  have hC : CallFix p m c cX5_moveTo 2 s _ (wu yX5_moveTo cX5_moveTo 2 none) RX5 := ⟨hx, hb, hml, findClass_of_methodNamed Bk.named, atoms_spec (ws := (wu yX5_moveTo cX5_moveTo 2 none)) Bk.pre⟩
  subst hsz
  have hD := hD0.self (sz := s.heap.size)
  generalize hAe : va_A w0 s.heap.size = A at hD hE ⊢
  have hA : ∀ q : Nat, s.heap.size ≤ q → A q := fun q h => by rw [← hAe]; exact Or.inr h
  have hw : Wd dC dI A s.heap s.heap [] w0 := ⟨hP, hD, va_S.rf⟩
  have hF : FE ksC [(5, 8, 8), (5, 9, 9), (5, 10, 10), (5, 11, 11), (5, 12, 12), (7, 8, 8), (7, 9, 9), (7, 10, 10), (7, 11, 11), (24, 0, 100000), (25, 0, 100000), (26, 0, 100000), (27, 0, 100000), (28, 0, 100000), (29, 0, 100000), (30, 0, 100000), (31, 0, 100000)] w0 w0 := FE.rf
  have hl := lv_entry ([.ref (ad 38), .ref (ad q1_)]) (n := 2) (Nat.le_of_ble_eq_true rfl)
  rw [lg_entry_eq]
  generalize (lg_sl ([.ref (ad 38), .ref (ad q1_)]) ++ List.replicate (2 - (lg_sl ([.ref (ad 38), .ref (ad q1_)])).length) Slot.unset).toArray = ls at hl ⊢
  have hl : lv_has ls 2 [(0, .ref (ad 38)), (1, .ref (ad q1_))] := hl
  generalize hloc : ([] : List Loc) = locs at hw ⊢
  have hinX5 : ∀ w ∈ u_ws RX5 TX5 14, w ∈ (wu yX5_moveTo cX5_moveTo 2 none) := fun _ h => List.mem_cons_of_mem _ (up_76 h)
  have hM : TT (fun n => m_X5_moveTo n 38 q1_ (sI w0)) (fun n => m_X5_moveTo n 38 q1_ (sI w0)) := TT.rf
  refine lv_aload_n hx hb dX5_moveTo_0 rfl (lv_at hl 0 rfl) ?_
  refine tk_getO hC hK hw hT hinX5 kC_at38 (by decide) rfl 0 (by decide) (List.mem_cons_of_mem _ uw_3_18) rfl rfl dX5_moveTo_1 ?_
  refine lv_aload_n hx hb dX5_moveTo_4 rfl (lv_at hl 1 rfl) ?_
  refine tk_Vv hC hK hw hT hA hE hSR kC_at39 (by decide) rfl (kz_X7_copyFrom_3 l adK adV dC dI cy ad B hB0 (Int.le_trans hB1 (by decide)) qr s1   q1_ hkq1_ w0 s.heap.size hT ) (cwV 1 hC.2.2.2.2 uV_RX5_48 rfl rfl rfl (by decide +kernel) ⟨Nat.le_of_ble_eq_true rfl, Nat.le_of_ble_eq_true rfl⟩) rfl hl.1 rfl (Nat.le_of_ble_eq_true rfl) dX5_moveTo_5 (fun w3 H locs hp2 hw => ?_)
  obtain ⟨hT, k4, hv6, hg5⟩ := hp2
  have hF := hF.tr k4 (by decide)
  clear hg5
  replace hM := hM.call hv6 rfl
  refine lv_aload_n hx hb dX5_moveTo_8 rfl (lv_at hl 0 rfl) ?_
  refine lv_iconst (v := 0) hx hb dX5_moveTo_9 (by decide) ?_
  refine tk_puti hC hK hw hT hinX5 tyX5_ok nmX5 kC_at38 (by decide) rfl rfl 8 (by decide) (List.mem_cons_of_mem _ uw_18_10) rfl rfl rfl rfl (by decide) (by decide) dX5_moveTo_10 (fun H locs w7 hw hT k9 c8 => ?_)
  replace hM := hM.wr (sI_upc k9 c8 (by decide))
  have hF := hF.put kC_at38 (k := 8) (by decide) k9
  refine lv_aload_n hx hb dX5_moveTo_13 rfl (lv_at hl 0 rfl) ?_
  refine lv_iconst (v := 0) hx hb dX5_moveTo_14 (by decide) ?_
  refine tk_puti hC hK hw hT hinX5 tyX5_ok nmX5 kC_at38 (by decide) rfl rfl 9 (by decide) (List.mem_cons_of_mem _ uw_18_11) rfl rfl rfl rfl (by decide) (by decide) dX5_moveTo_15 (fun H locs w10 hw hT k12 c11 => ?_)
  replace hM := hM.wr (sI_upc k12 c11 (by decide))
  have hF := hF.put kC_at38 (k := 9) (by decide) k12
  have c13 := k12.gi (Or.inr (by decide)) c8
  refine lv_aload_n hx hb dX5_moveTo_18 rfl (lv_at hl 0 rfl) ?_
  refine lv_iconst (v := 0) hx hb dX5_moveTo_19 (by decide) ?_
  refine tk_puti hC hK hw hT hinX5 tyX5_ok nmX5 kC_at38 (by decide) rfl rfl 10 (by decide) (List.mem_cons_of_mem _ uw_18_12) rfl rfl rfl rfl (by decide) (by decide) dX5_moveTo_20 (fun H locs w14 hw hT k16 c15 => ?_)
  replace hM := hM.wr (sI_upc k16 c15 (by decide))
  have hF := hF.put kC_at38 (k := 10) (by decide) k16
  have c17 := k16.gi (Or.inr (by decide)) c13
  have c18 := k16.gi (Or.inr (by decide)) c11
  refine lv_aload_n hx hb dX5_moveTo_23 rfl (lv_at hl 0 rfl) ?_
  refine lv_iconst (v := 0) hx hb dX5_moveTo_24 (by decide) ?_
  refine tk_puti hC hK hw hT hinX5 tyX5_ok nmX5 kC_at38 (by decide) rfl rfl 11 (by decide) (List.mem_cons_of_mem _ uw_18_13) rfl rfl rfl rfl (by decide) (by decide) dX5_moveTo_25 (fun H locs w19 hw hT k21 c20 => ?_)
  replace hM := hM.wr (sI_upc k21 c20 (by decide))
  have hF := hF.put kC_at38 (k := 11) (by decide) k21
  have c22 := k21.gi (Or.inr (by decide)) c17
  have c23 := k21.gi (Or.inr (by decide)) c18
  have c24 := k21.gi (Or.inr (by decide)) c15
  refine lv_aload_n hx hb dX5_moveTo_28 rfl (lv_at hl 0 rfl) ?_
  refine lv_iconst (v := 0) hx hb dX5_moveTo_29 (by decide) ?_
  refine tk_puti hC hK hw hT hinX5 tyX5_ok nmX5 kC_at38 (by decide) rfl rfl 12 (by decide) (List.mem_cons_of_mem _ uw_18_14) rfl rfl rfl rfl (by decide) (by decide) dX5_moveTo_30 (fun H locs w25 hw hT k27 c26 => ?_)
  replace hM := hM.wr (sI_upc k27 c26 (by decide))
  have hF := hF.put kC_at38 (k := 12) (by decide) k27
  have c28 := k27.gi (Or.inr (by decide)) c22
  have c29 := k27.gi (Or.inr (by decide)) c23
  have c30 := k27.gi (Or.inr (by decide)) c24
  have c31 := k27.gi (Or.inr (by decide)) c20
  exact tk_vret hC hr hlocks hK ⟨hT, hF, hM.ret rfl, ⟨⟨0, c28, (by decide), (by decide)⟩, ⟨0, c29, (by decide), (by decide)⟩, ⟨0, c30, (by decide), (by decide)⟩, ⟨0, c31, (by decide), (by decide)⟩, ⟨0, c26, (by decide), (by decide)⟩⟩⟩ hw dX5_moveTo_33
abbrev Pz_X5_copyFrom_2 (ad : Nat → Nat) (cy : Nat → ClassId) (B : Int) (qr : Nat) (s1 : Int) (q1_ : Nat) (w0 : va_W) : va_W → Prop := fun u => TW ksC ad cy B qr s1 u ∧ FE ksC [(5, 8, 8), (5, 9, 9), (5, 10, 10), (5, 11, 11), (5, 12, 12), (5, 13, 13), (7, 8, 8), (7, 9, 9), (7, 10, 10), (7, 11, 11), (9, 0, 0), (9, 1, 1), (9, 2, 2), (9, 3, 3), (9, 4, 4), (9, 5, 5), (9, 6, 6), (9, 7, 7), (9, 8, 8), (24, 0, 100000), (25, 0, 100000), (26, 0, 100000), (27, 0, 100000), (28, 0, 100000), (29, 0, 100000), (30, 0, 100000), (31, 0, 100000), (32, 0, 100000), (34, 0, 100000), (35, 0, 100000), (36, 0, 100000), (37, 0, 100000), (38, 0, 100000)] w0 u ∧ Ev (fun n => m_X5_copyFrom n 38 q1_ (sI w0)) (0, sI u) ∧ ((True))
set_option maxHeartbeats 4000000 in
set_option maxRecDepth 100000 in
theorem kz_X5_copyFrom_2 (l : Launch) (adK adV : Nat → Nat) (dC : Nat → ClassId) (dI : Nat → Nat → Nat) (cy : Nat → ClassId) (ad : Nat → Nat) (B : Int) (hB0 : 2147483648 ≤ B) (hB1 : B ≤ 1152921504606846976) (qr : Nat) (s1 : Int)  (q1_ : Nat) (hkq1_ : ksC[q1_]? = some 5) (w0 : va_W) (sz : Nat) (hT : TW ksC ad cy B qr s1 w0)  : Met l yX5_copyFrom (wu yX5_copyFrom cX5_copyFrom 3 none) ({ frames := 3, cells := 0, slots := 0, locals := 102 }) (va_Pc [.ref (ad 38), .ref (ad q1_)] (wpreS adK adV dC dI cy sz w0)) (va_Qv (Pz_X5_copyFrom_2 ad cy B qr s1 q1_ w0) (fun u : va_W => wpost dC dI cy (va_A w0 sz) u) (va_A w0 sz)) 0 0 (va_A w0 sz) := by
  refine Met.ofW (cc := cX5_copyFrom) (maxL := 3) (ret := none) (by decide) rfl ?_
  intro p e s m args below meth c s₁ Bk hml hv
  obtain ⟨rfl, ⟨hsz, hP, hK, hD0⟩, hE, hSR⟩ := hv
  have hx := Bk.exec
  have hb := Bk.bytes
  have hr := Bk.returns
  have hlocks := Bk.notSynchronized
  have hC : CallFix p m c cX5_copyFrom 3 s _ (wu yX5_copyFrom cX5_copyFrom 3 none) RX5 := ⟨hx, hb, hml, findClass_of_methodNamed Bk.named, atoms_spec (ws := (wu yX5_copyFrom cX5_copyFrom 3 none)) Bk.pre⟩
  subst hsz
  have hD := hD0.self (sz := s.heap.size)
  generalize hAe : va_A w0 s.heap.size = A at hD hE ⊢
  have hA : ∀ q : Nat, s.heap.size ≤ q → A q := fun q h => by rw [← hAe]; exact Or.inr h
  have hw : Wd dC dI A s.heap s.heap [] w0 := ⟨hP, hD, va_S.rf⟩
  have hF : FE ksC [(5, 8, 8), (5, 9, 9), (5, 10, 10), (5, 11, 11), (5, 12, 12), (5, 13, 13), (7, 8, 8), (7, 9, 9), (7, 10, 10), (7, 11, 11), (9, 0, 0), (9, 1, 1), (9, 2, 2), (9, 3, 3), (9, 4, 4), (9, 5, 5), (9, 6, 6), (9, 7, 7), (9, 8, 8), (24, 0, 100000), (25, 0, 100000), (26, 0, 100000), (27, 0, 100000), (28, 0, 100000), (29, 0, 100000), (30, 0, 100000), (31, 0, 100000), (32, 0, 100000), (34, 0, 100000), (35, 0, 100000), (36, 0, 100000), (37, 0, 100000), (38, 0, 100000)] w0 w0 := FE.rf
  have hl := lv_entry ([.ref (ad 38), .ref (ad q1_)]) (n := 3) (Nat.le_of_ble_eq_true rfl)
  rw [lg_entry_eq]
  generalize (lg_sl ([.ref (ad 38), .ref (ad q1_)]) ++ List.replicate (3 - (lg_sl ([.ref (ad 38), .ref (ad q1_)])).length) Slot.unset).toArray = ls at hl ⊢
  have hl : lv_has ls 3 [(0, .ref (ad 38)), (1, .ref (ad q1_))] := hl
  generalize hloc : ([] : List Loc) = locs at hw ⊢
  have hinX5 : ∀ w ∈ u_ws RX5 TX5 14, w ∈ (wu yX5_copyFrom cX5_copyFrom 3 none) := fun _ h => List.mem_cons_of_mem _ (up_76 h)
  have L28 : ∀ (n28 : Nat) (v28_2 : Int32) (H : Heap) (locs : List Loc) (ls : Array Slot) (w1 : va_W), 0 ≤ v28_2.toInt → v28_2.toInt ≤ 4 → (4 - v28_2.toInt).toNat < n28 → Wd dC dI A s.heap H locs w1 → TW ksC ad cy B qr s1 w1 → FE ksC [(5, 8, 8), (5, 9, 9), (5, 10, 10), (5, 11, 11), (5, 12, 12), (5, 13, 13), (7, 8, 8), (7, 9, 9), (7, 10, 10), (7, 11, 11), (9, 0, 0), (9, 1, 1), (9, 2, 2), (9, 3, 3), (9, 4, 4), (9, 5, 5), (9, 6, 6), (9, 7, 7), (9, 8, 8), (24, 0, 100000), (25, 0, 100000), (26, 0, 100000), (27, 0, 100000), (28, 0, 100000), (29, 0, 100000), (30, 0, 100000), (31, 0, 100000), (32, 0, 100000), (34, 0, 100000), (35, 0, 100000), (36, 0, 100000), (37, 0, 100000), (38, 0, 100000)] w0 w1 → gi w1 38 10 = 0 → gi w1 38 11 = 0 → gi w1 38 12 = 0 → gi w1 38 8 = 0 → gi w1 38 9 = 0 → TT (fun n => m_X5_copyFrom n 38 q1_ (sI w0)) (fun n => j_X5_copyFrom 38 q1_ n 28 [v28_2.toInt] (sI w1)) → lv_has ls 3 [(0, .ref (ad 38)), (1, .ref (ad q1_)), (2, .int v28_2)] → W p l e ({ frames := 3, cells := 0, slots := 0, locals := 102 }) s m (List.toArray [.ref (ad 38), .ref (ad q1_)]) below meth c H locs 0 0 (MQ below (va_Qv (Pz_X5_copyFrom_2 ad cy B qr s1 q1_ w0) (fun u : va_W => wpost dC dI cy A u) A) (List.toArray [.ref (ad 38), .ref (ad q1_)]) s 0 0 A) (F0 m 28 ls []) := by
    intro n28
    induction n28 with
    | zero => intro v28_2 H locs ls w1 r2 t3 hm28 hw hT hF c4 c5 c6 c7 c8 hM hl; omega
    | succ n28 ih28 =>
      intro v28_2 H locs ls w1 r2 t3 hm28 hw hT hF c4 c5 c6 c7 c8 hM hl
      replace hM := hM.suc (fun _ => e_X5_copyFrom_28)
      refine lv_iload_n hx hb dX5_copyFrom_28 rfl (lv_at hl 2 rfl) ?_
      refine lv_iconst (v := 4) hx hb dX5_copyFrom_29 (by decide) ?_
      refine lv_icmp_ge (tgt := 54) hx hb dX5_copyFrom_30 (by decide) (fun c9 => ?_) (fun c9 => ?_)
      · have c9 : (4 : Int) ≤ v28_2.toInt := wk_le.mp c9
        replace hM := hM.pos c9
        refine lv_aload_n hx hb dX5_copyFrom_54 rfl (lv_at hl 1 rfl) ?_
        refine tk_getO hC hK hw hT hinX5 hkq1_ (by decide) rfl 3 (by decide) (List.mem_cons_of_mem _ uw_3_22) rfl rfl dX5_copyFrom_55 ?_
        refine lv_iconst (v := 0) hx hb dX5_copyFrom_58 (by decide) ?_
        refine lv_aload_n hx hb dX5_copyFrom_59 rfl (lv_at hl 0 rfl) ?_
        refine tk_getO hC hK hw hT hinX5 kC_at38 (by decide) rfl 3 (by decide) (List.mem_cons_of_mem _ uw_3_22) rfl rfl dX5_copyFrom_60 ?_
        refine lv_iconst (v := 0) hx hb dX5_copyFrom_63 (by decide) ?_
        refine lv_bipush (v := 6) hx hb dX5_copyFrom_64 (by decide) ?_
        refine tk_copyx hC hK hw hT hl.1 (List.mem_cons_of_mem _ uw_69_7) (List.mem_cons_of_mem _ uw_18_20) (List.mem_cons_of_mem _ uw_18_21) (List.mem_cons_of_mem _ uw_18_22) (kC_5_12 hkq1_) kC_at50 (by decide) rfl rfl rfl rfl (by decide) (by decide) rfl rfl (by decide) (by decide) (by decide) (by decide) (by decide) (by decide) (Nat.le_of_ble_eq_true rfl) (by decide +kernel) dX5_copyFrom_66 (fun H locs w10 hw hT k11 hcp => ?_)
        replace hM := hM.cp hcp
        have hF := hF.tr k11 (by decide)
        have c12 := k11.gi kC_at38 (by decide) c4
        have c13 := k11.gi kC_at38 (by decide) c5
        have c14 := k11.gi kC_at38 (by decide) c6
        have c15 := k11.gi kC_at38 (by decide) c7
        have c16 := k11.gi kC_at38 (by decide) c8
        refine lv_aload_n hx hb dX5_copyFrom_69 rfl (lv_at hl 1 rfl) ?_
        refine tk_getO hC hK hw hT hinX5 hkq1_ (by decide) rfl 4 (by decide) (List.mem_cons_of_mem _ uw_3_23) rfl rfl dX5_copyFrom_70 ?_
        refine lv_iconst (v := 0) hx hb dX5_copyFrom_73 (by decide) ?_
        refine lv_aload_n hx hb dX5_copyFrom_74 rfl (lv_at hl 0 rfl) ?_
        refine tk_getO hC hK hw hT hinX5 kC_at38 (by decide) rfl 4 (by decide) (List.mem_cons_of_mem _ uw_3_23) rfl rfl dX5_copyFrom_75 ?_
        refine lv_iconst (v := 0) hx hb dX5_copyFrom_78 (by decide) ?_
        refine lv_bipush (v := 6) hx hb dX5_copyFrom_79 (by decide) ?_
        refine tk_copyx hC hK hw hT hl.1 (List.mem_cons_of_mem _ uw_69_7) (List.mem_cons_of_mem _ uw_18_20) (List.mem_cons_of_mem _ uw_18_21) (List.mem_cons_of_mem _ uw_18_22) (kC_5_13 hkq1_) kC_at51 (by decide) rfl rfl rfl rfl (by decide) (by decide) rfl rfl (by decide) (by decide) (by decide) (by decide) (by decide) (by decide) (Nat.le_of_ble_eq_true rfl) (by decide +kernel) dX5_copyFrom_81 (fun H locs w17 hw hT k18 hcp => ?_)
        replace hM := hM.cp hcp
        have hF := hF.tr k18 (by decide)
        have c19 := k18.gi kC_at38 (by decide) c12
        have c20 := k18.gi kC_at38 (by decide) c13
        have c21 := k18.gi kC_at38 (by decide) c14
        have c22 := k18.gi kC_at38 (by decide) c15
        have c23 := k18.gi kC_at38 (by decide) c16
        refine lv_aload_n hx hb dX5_copyFrom_84 rfl (lv_at hl 1 rfl) ?_
        refine tk_getO hC hK hw hT hinX5 hkq1_ (by decide) rfl 5 (by decide) (List.mem_cons_of_mem _ uw_4_0) rfl rfl dX5_copyFrom_85 ?_
        refine lv_iconst (v := 0) hx hb dX5_copyFrom_88 (by decide) ?_
        refine lv_aload_n hx hb dX5_copyFrom_89 rfl (lv_at hl 0 rfl) ?_
        refine tk_getO hC hK hw hT hinX5 kC_at38 (by decide) rfl 5 (by decide) (List.mem_cons_of_mem _ uw_4_0) rfl rfl dX5_copyFrom_90 ?_
        refine lv_iconst (v := 0) hx hb dX5_copyFrom_93 (by decide) ?_
        refine lv_bipush (v := 12) hx hb dX5_copyFrom_94 (by decide) ?_
        refine tk_copyx hC hK hw hT hl.1 (List.mem_cons_of_mem _ uw_69_7) (List.mem_cons_of_mem _ uw_18_20) (List.mem_cons_of_mem _ uw_18_21) (List.mem_cons_of_mem _ uw_18_22) (kC_5_14 hkq1_) kC_at52 (by decide) rfl rfl rfl rfl (by decide) (by decide) rfl rfl (by decide) (by decide) (by decide) (by decide) (by decide) (by decide) (Nat.le_of_ble_eq_true rfl) (by decide +kernel) dX5_copyFrom_96 (fun H locs w24 hw hT k25 hcp => ?_)
        replace hM := hM.cp hcp
        have hF := hF.tr k25 (by decide)
        have c26 := k25.gi kC_at38 (by decide) c19
        have c27 := k25.gi kC_at38 (by decide) c20
        have c28 := k25.gi kC_at38 (by decide) c21
        have c29 := k25.gi kC_at38 (by decide) c22
        have c30 := k25.gi kC_at38 (by decide) c23
        refine lv_aload_n hx hb dX5_copyFrom_99 rfl (lv_at hl 1 rfl) ?_
        refine tk_getO hC hK hw hT hinX5 hkq1_ (by decide) rfl 6 (by decide) (List.mem_cons_of_mem _ uw_4_1) rfl rfl dX5_copyFrom_100 ?_
        refine lv_iconst (v := 0) hx hb dX5_copyFrom_103 (by decide) ?_
        refine lv_aload_n hx hb dX5_copyFrom_104 rfl (lv_at hl 0 rfl) ?_
        refine tk_getO hC hK hw hT hinX5 kC_at38 (by decide) rfl 6 (by decide) (List.mem_cons_of_mem _ uw_4_1) rfl rfl dX5_copyFrom_105 ?_
        refine lv_iconst (v := 0) hx hb dX5_copyFrom_108 (by decide) ?_
        refine lv_bipush (v := 12) hx hb dX5_copyFrom_109 (by decide) ?_
        refine tk_copyx hC hK hw hT hl.1 (List.mem_cons_of_mem _ uw_69_7) (List.mem_cons_of_mem _ uw_18_20) (List.mem_cons_of_mem _ uw_18_21) (List.mem_cons_of_mem _ uw_18_22) (kC_5_15 hkq1_) kC_at53 (by decide) rfl rfl rfl rfl (by decide) (by decide) rfl rfl (by decide) (by decide) (by decide) (by decide) (by decide) (by decide) (Nat.le_of_ble_eq_true rfl) (by decide +kernel) dX5_copyFrom_111 (fun H locs w31 hw hT k32 hcp => ?_)
        replace hM := hM.cp hcp
        have hF := hF.tr k32 (by decide)
        have c33 := k32.gi kC_at38 (by decide) c26
        have c34 := k32.gi kC_at38 (by decide) c27
        have c35 := k32.gi kC_at38 (by decide) c28
        have c36 := k32.gi kC_at38 (by decide) c29
        have c37 := k32.gi kC_at38 (by decide) c30
        refine lv_aload_n hx hb dX5_copyFrom_114 rfl (lv_at hl 1 rfl) ?_
        refine tk_getO hC hK hw hT hinX5 hkq1_ (by decide) rfl 7 (by decide) (List.mem_cons_of_mem _ uw_4_2) rfl rfl dX5_copyFrom_115 ?_
        refine lv_iconst (v := 0) hx hb dX5_copyFrom_118 (by decide) ?_
        refine lv_aload_n hx hb dX5_copyFrom_119 rfl (lv_at hl 0 rfl) ?_
        refine tk_getO hC hK hw hT hinX5 kC_at38 (by decide) rfl 7 (by decide) (List.mem_cons_of_mem _ uw_4_2) rfl rfl dX5_copyFrom_120 ?_
        refine lv_iconst (v := 0) hx hb dX5_copyFrom_123 (by decide) ?_
        refine lv_bipush (v := 8) hx hb dX5_copyFrom_124 (by decide) ?_
        refine tk_copyx hC hK hw hT hl.1 (List.mem_cons_of_mem _ uw_69_7) (List.mem_cons_of_mem _ uw_18_20) (List.mem_cons_of_mem _ uw_18_21) (List.mem_cons_of_mem _ uw_18_22) (kC_5_16 hkq1_) kC_at54 (by decide) rfl rfl rfl rfl (by decide) (by decide) rfl rfl (by decide) (by decide) (by decide) (by decide) (by decide) (by decide) (Nat.le_of_ble_eq_true rfl) (by decide +kernel) dX5_copyFrom_126 (fun H locs w38 hw hT k39 hcp => ?_)
        replace hM := hM.cp hcp
        have hF := hF.tr k39 (by decide)
        have c40 := k39.gi kC_at38 (by decide) c33
        have c41 := k39.gi kC_at38 (by decide) c34
        have c42 := k39.gi kC_at38 (by decide) c35
        have c43 := k39.gi kC_at38 (by decide) c36
        have c44 := k39.gi kC_at38 (by decide) c37
        refine lv_aload_n hx hb dX5_copyFrom_129 rfl (lv_at hl 0 rfl) ?_
        refine lv_aload_n hx hb dX5_copyFrom_130 rfl (lv_at hl 1 rfl) ?_
        refine tk_geti hC hK hw hT hinX5 hkq1_ (by decide) rfl 8 (by decide) (List.mem_cons_of_mem _ uw_18_10) rfl rfl dX5_copyFrom_131 (fun x45 c46 rx45 tx45 => ?_)
        replace hM := hM.rd (sI_at c46)
        refine tk_puti hC hK hw hT hinX5 tyX5_ok nmX5 kC_at38 (by decide) rfl rfl 8 (by decide) (List.mem_cons_of_mem _ uw_18_10) rfl rfl rfl rfl (show 0 ≤ x45.toInt by first | with_reducible assumption | omega) (show x45.toInt ≤ 4 by first | with_reducible assumption | omega) dX5_copyFrom_134 (fun H locs w47 hw hT k49 c48 => ?_)
        replace hM := hM.wr (sI_up k49 c48)
        have hF := hF.put kC_at38 (k := 8) (by decide) k49
        have c50 := k49.gi (Or.inr (by decide)) c40
        have c51 := k49.gi (Or.inr (by decide)) c41
        have c52 := k49.gi (Or.inr (by decide)) c42
        have c53 := k49.gi (Or.inr (by decide)) c44
        refine lv_aload_n hx hb dX5_copyFrom_137 rfl (lv_at hl 0 rfl) ?_
        refine lv_aload_n hx hb dX5_copyFrom_138 rfl (lv_at hl 1 rfl) ?_
        refine tk_geti hC hK hw hT hinX5 hkq1_ (by decide) rfl 9 (by decide) (List.mem_cons_of_mem _ uw_18_11) rfl rfl dX5_copyFrom_139 (fun x54 c55 rx54 tx54 => ?_)
        replace hM := hM.rd (sI_at c55)
        refine tk_puti hC hK hw hT hinX5 tyX5_ok nmX5 kC_at38 (by decide) rfl rfl 9 (by decide) (List.mem_cons_of_mem _ uw_18_11) rfl rfl rfl rfl (show 0 ≤ x54.toInt by first | with_reducible assumption | omega) (show x54.toInt ≤ 4 by first | with_reducible assumption | omega) dX5_copyFrom_142 (fun H locs w56 hw hT k58 c57 => ?_)
        replace hM := hM.wr (sI_up k58 c57)
        have hF := hF.put kC_at38 (k := 9) (by decide) k58
        have c59 := k58.gi (Or.inr (by decide)) c50
        have c60 := k58.gi (Or.inr (by decide)) c51
        have c61 := k58.gi (Or.inr (by decide)) c52
        have c62 := k58.gi (Or.inr (by decide)) c48
        refine lv_aload_n hx hb dX5_copyFrom_145 rfl (lv_at hl 0 rfl) ?_
        refine lv_aload_n hx hb dX5_copyFrom_146 rfl (lv_at hl 1 rfl) ?_
        refine tk_geti hC hK hw hT hinX5 hkq1_ (by decide) rfl 10 (by decide) (List.mem_cons_of_mem _ uw_18_12) rfl rfl dX5_copyFrom_147 (fun x63 c64 rx63 tx63 => ?_)
        replace hM := hM.rd (sI_at c64)
        refine tk_puti hC hK hw hT hinX5 tyX5_ok nmX5 kC_at38 (by decide) rfl rfl 10 (by decide) (List.mem_cons_of_mem _ uw_18_12) rfl rfl rfl rfl (show 0 ≤ x63.toInt by first | with_reducible assumption | omega) (show x63.toInt ≤ 6 by first | with_reducible assumption | omega) dX5_copyFrom_150 (fun H locs w65 hw hT k67 c66 => ?_)
        replace hM := hM.wr (sI_up k67 c66)
        have hF := hF.put kC_at38 (k := 10) (by decide) k67
        have c68 := k67.gi (Or.inr (by decide)) c60
        have c69 := k67.gi (Or.inr (by decide)) c61
        have c70 := k67.gi (Or.inr (by decide)) c62
        have c71 := k67.gi (Or.inr (by decide)) c57
        refine lv_aload_n hx hb dX5_copyFrom_153 rfl (lv_at hl 0 rfl) ?_
        refine lv_aload_n hx hb dX5_copyFrom_154 rfl (lv_at hl 1 rfl) ?_
        refine tk_geti hC hK hw hT hinX5 hkq1_ (by decide) rfl 11 (by decide) (List.mem_cons_of_mem _ uw_18_13) rfl rfl dX5_copyFrom_155 (fun x72 c73 rx72 tx72 => ?_)
        replace hM := hM.rd (sI_at c73)
        refine tk_puti hC hK hw hT hinX5 tyX5_ok nmX5 kC_at38 (by decide) rfl rfl 11 (by decide) (List.mem_cons_of_mem _ uw_18_13) rfl rfl rfl rfl (show 0 ≤ x72.toInt by first | with_reducible assumption | omega) (show x72.toInt ≤ 12 by first | with_reducible assumption | omega) dX5_copyFrom_158 (fun H locs w74 hw hT k76 c75 => ?_)
        replace hM := hM.wr (sI_up k76 c75)
        have hF := hF.put kC_at38 (k := 11) (by decide) k76
        have c77 := k76.gi (Or.inr (by decide)) c69
        have c78 := k76.gi (Or.inr (by decide)) c70
        have c79 := k76.gi (Or.inr (by decide)) c71
        have c80 := k76.gi (Or.inr (by decide)) c66
        refine lv_aload_n hx hb dX5_copyFrom_161 rfl (lv_at hl 0 rfl) ?_
        refine lv_aload_n hx hb dX5_copyFrom_162 rfl (lv_at hl 1 rfl) ?_
        refine tk_geti hC hK hw hT hinX5 hkq1_ (by decide) rfl 12 (by decide) (List.mem_cons_of_mem _ uw_18_14) rfl rfl dX5_copyFrom_163 (fun x81 c82 rx81 tx81 => ?_)
        replace hM := hM.rd (sI_at c82)
        refine tk_puti hC hK hw hT hinX5 tyX5_ok nmX5 kC_at38 (by decide) rfl rfl 12 (by decide) (List.mem_cons_of_mem _ uw_18_14) rfl rfl rfl rfl (show 0 ≤ x81.toInt by first | with_reducible assumption | omega) (show x81.toInt ≤ 8 by first | with_reducible assumption | omega) dX5_copyFrom_166 (fun H locs w83 hw hT k85 c84 => ?_)
        replace hM := hM.wr (sI_up k85 c84)
        have hF := hF.put kC_at38 (k := 12) (by decide) k85
        have c86 := k85.gi (Or.inr (by decide)) c78
        have c87 := k85.gi (Or.inr (by decide)) c79
        have c88 := k85.gi (Or.inr (by decide)) c80
        have c89 := k85.gi (Or.inr (by decide)) c75
        refine lv_aload_n hx hb dX5_copyFrom_169 rfl (lv_at hl 0 rfl) ?_
        refine lv_aload_n hx hb dX5_copyFrom_170 rfl (lv_at hl 1 rfl) ?_
        refine tk_geti hC hK hw hT hinX5 hkq1_ (by decide) rfl 13 (by decide) (List.mem_cons_of_mem _ uw_69_8) rfl rfl dX5_copyFrom_171 (fun x90 c91 rx90 tx90 => ?_)
        replace hM := hM.rd (sI_at c91)
        refine tk_puti hC hK hw hT hinX5 tyX5_ok nmX5 kC_at38 (by decide) rfl rfl 13 (by decide) (List.mem_cons_of_mem _ uw_69_8) rfl rfl rfl rfl (show 0 ≤ x90.toInt by first | with_reducible assumption | omega) (wk_i32 x90).2 dX5_copyFrom_174 (fun H locs w92 hw hT k94 c93 => ?_)
        replace hM := hM.wr (sI_up k94 c93)
        have hF := hF.put kC_at38 (k := 13) (by decide) k94
        have c95 := k94.gi (Or.inr (by decide)) c86
        have c96 := k94.gi (Or.inr (by decide)) c87
        have c97 := k94.gi (Or.inr (by decide)) c88
        have c98 := k94.gi (Or.inr (by decide)) c89
        have c99 := k94.gi (Or.inr (by decide)) c84
        exact tk_vret hC hr hlocks hK ⟨hT, hF, hM.ret rfl, trivial⟩ hw dX5_copyFrom_177
      · have c9 : v28_2.toInt < (4 : Int) := wk_leF c9
        replace hM := hM.neg (Int.not_le.mpr c9)
        refine lv_aload_n hx hb dX5_copyFrom_33 rfl (lv_at hl 0 rfl) ?_
        refine tk_getO hC hK hw hT hinX5 kC_at38 (by decide) rfl 2 (by decide) (List.mem_cons_of_mem _ uw_3_21) rfl rfl dX5_copyFrom_34 ?_
        refine lv_iload_n hx hb dX5_copyFrom_37 rfl (lv_at hl 2 rfl) ?_
        refine tk_aald hC hK hw hT kC_at49 rfl (by decide) rfl (show 0 ≤ v28_2.toInt from r2) (show v28_2.toInt < 4 by first | with_reducible assumption | omega) dX5_copyFrom_38 (fun j100 hj100 gj100 => ?_)
        replace hM := hM.ix gj100
        refine lv_aload_n hx hb dX5_copyFrom_39 rfl (lv_at hl 1 rfl) ?_
        refine tk_getO hC hK hw hT hinX5 hkq1_ (by decide) rfl 2 (by decide) (List.mem_cons_of_mem _ uw_3_21) rfl rfl dX5_copyFrom_40 ?_
        refine lv_iload_n hx hb dX5_copyFrom_43 rfl (lv_at hl 2 rfl) ?_
        refine tk_aald hC hK hw hT (kC_5_11 hkq1_) rfl (by decide) rfl (show 0 ≤ v28_2.toInt from r2) (show v28_2.toInt < 4 by first | with_reducible assumption | omega) dX5_copyFrom_44 (fun j101 hj101 gj101 => ?_)
        replace hM := hM.ix gj101
        refine tk_Vv hC hK hw hT hA hE hSR (kC_el33 kC_at49 hj100) (by decide) rfl (kz_X9_copyFrom_1 l adK adV dC dI cy ad B hB0 (Int.le_trans hB1 (by decide)) qr s1   (el 33 49 j100) (kC_el33 kC_at49 hj100) (el 33 (q1_ + 11) j101) (kC_el33 (kC_5_11 hkq1_) hj101) w1 H.size hT ) (cwV 1 hC.2.2.2.2 uV_RX5_76 rfl rfl rfl (by decide +kernel) ⟨Nat.le_of_ble_eq_true rfl, Nat.le_of_ble_eq_true rfl⟩) rfl hl.1 rfl (Nat.le_of_ble_eq_true rfl) dX5_copyFrom_45 (fun w104 H locs hp103 hw => ?_)
        obtain ⟨hT, k105, hv107, hg106⟩ := hp103
        have hF := hF.tr k105 (by decide)
        have c108 := k105.gi kC_at38 (by decide) c4
        have c109 := k105.gi kC_at38 (by decide) c5
        have c110 := k105.gi kC_at38 (by decide) c6
        have c111 := k105.gi kC_at38 (by decide) c7
        have c112 := k105.gi kC_at38 (by decide) c8
        clear hg106
        replace hM := hM.call hv107 rfl
        obtain ⟨x113, ex113⟩ : ∃ y : Int32, y = v28_2 + Int32.ofInt 1 := ⟨_, rfl⟩
        have erx113 := ex113
        refine lv_iinc (v := x113) (lv' := [(2, .int x113), (0, .ref (ad 38)), (1, .ref (ad q1_))]) hx hb dX5_copyFrom_48 hl (k := 2) rfl ex113.symm (by decide) rfl (fun ls hl => ?_)
        have ex113 : x113.toInt = v28_2.toInt + 1 := by rw [ex113]; exact wk_add (y := 1) (show -2147483648 ≤ v28_2.toInt + 1 by omega) (show v28_2.toInt + 1 ≤ 2147483647 by omega)
        replace hM := hM.lt ex113.symm
        refine lv_goto (tgt := 28) hx hb dX5_copyFrom_51 (by decide) ?_
        exact ih28 x113 H locs ls w104 (show 0 ≤ x113.toInt by first | with_reducible assumption | omega) (show x113.toInt ≤ 4 by first | with_reducible assumption | omega) (show (4 - x113.toInt).toNat < n28 by first | exact tn_lt hm28 (by omega) (by omega) | omega) hw hT hF c108 c109 c110 c111 c112 hM (lv_sub hl [1, 2, 0] rfl)
  have hM : TT (fun n => m_X5_copyFrom n 38 q1_ (sI w0)) (fun n => m_X5_copyFrom n 38 q1_ (sI w0)) := TT.rf
  refine lv_aload_n hx hb dX5_copyFrom_0 rfl (lv_at hl 0 rfl) ?_
  refine lv_aload_n hx hb dX5_copyFrom_1 rfl (lv_at hl 1 rfl) ?_
  refine tk_getO hC hK hw hT hinX5 hkq1_ (by decide) rfl 0 (by decide) (List.mem_cons_of_mem _ uw_3_18) rfl rfl dX5_copyFrom_2 ?_
  refine tk_Vv hC hK hw hT hA hE hSR kC_at38 (by decide) rfl (kz_X5_moveTo_3 l adK adV dC dI cy ad B hB0 (Int.le_trans hB1 (by decide)) qr s1   (q1_ + 1) (kC_5_1 hkq1_) w0 s.heap.size hT ) (cwV 1 hC.2.2.2.2 uV_RX5_67 rfl rfl rfl (by decide +kernel) ⟨Nat.le_of_ble_eq_true rfl, Nat.le_of_ble_eq_true rfl⟩) rfl hl.1 rfl (Nat.le_of_ble_eq_true rfl) dX5_copyFrom_5 (fun w116 H locs hp115 hw => ?_)
  obtain ⟨hT, k117, hv129, hg128⟩ := hp115
  have hF := hF.tr k117 (by decide)
  obtain ⟨⟨x118, c119, rx118, tx118⟩, ⟨x120, c121, rx120, tx120⟩, ⟨x122, c123, rx122, tx122⟩, ⟨x124, c125, rx124, tx124⟩, ⟨x126, c127, rx126, tx126⟩⟩ := hg128
  replace hM := hM.call hv129 rfl
  refine lv_aload_n hx hb dX5_copyFrom_8 rfl (lv_at hl 1 rfl) ?_
  refine tk_getO hC hK hw hT hinX5 hkq1_ (by decide) rfl 1 (by decide) (List.mem_cons_of_mem _ uw_3_19) rfl rfl dX5_copyFrom_9 ?_
  refine lv_iconst (v := 0) hx hb dX5_copyFrom_12 (by decide) ?_
  refine lv_aload_n hx hb dX5_copyFrom_13 rfl (lv_at hl 0 rfl) ?_
  refine tk_getO hC hK hw hT hinX5 kC_at38 (by decide) rfl 1 (by decide) (List.mem_cons_of_mem _ uw_3_19) rfl rfl dX5_copyFrom_14 ?_
  refine lv_iconst (v := 0) hx hb dX5_copyFrom_17 (by decide) ?_
  refine lv_aload_n hx hb dX5_copyFrom_18 rfl (lv_at hl 0 rfl) ?_
  refine tk_getO hC hK hw hT hinX5 kC_at38 (by decide) rfl 1 (by decide) (List.mem_cons_of_mem _ uw_3_19) rfl rfl dX5_copyFrom_19 ?_
  refine tk_alen (v := 48) hC hK hw hT kC_at48 rfl (by decide) rfl (by decide) dX5_copyFrom_22 ?_
  refine tk_copyx hC hK hw hT hl.1 (List.mem_cons_of_mem _ uw_69_7) (List.mem_cons_of_mem _ uw_18_20) (List.mem_cons_of_mem _ uw_18_21) (List.mem_cons_of_mem _ uw_18_22) (kC_5_10 hkq1_) kC_at48 (by decide) rfl rfl rfl rfl (by decide) (by decide) rfl rfl (by decide) (by decide) (by decide) (by decide) (by decide) (by decide) (Nat.le_of_ble_eq_true rfl) (by decide +kernel) dX5_copyFrom_23 (fun H locs w130 hw hT k131 hcp => ?_)
  replace hM := hM.cp hcp
  have hF := hF.tr k131 (by decide)
  have c132 := k131.gi kC_at38 (by decide) c119
  have c133 := k131.gi kC_at38 (by decide) c121
  have c134 := k131.gi kC_at38 (by decide) c123
  have c135 := k131.gi kC_at38 (by decide) c125
  have c136 := k131.gi kC_at38 (by decide) c127
  refine lv_iconst (v := 0) hx hb dX5_copyFrom_26 (by decide) ?_
  refine lv_istore_n (lv' := [(2, .int 0), (0, .ref (ad 38)), (1, .ref (ad q1_))]) hx hb dX5_copyFrom_27 rfl hl (by decide) rfl (fun ls hl => ?_)
  obtain rfl : x122 = 0 := wk_eq.mpr (show x122.toInt = 0 by first | exact Int.le_antisymm (by omega) (by omega) | omega)
  obtain rfl : x124 = 0 := wk_eq.mpr (show x124.toInt = 0 by first | exact Int.le_antisymm (by omega) (by omega) | omega)
  obtain rfl : x126 = 0 := wk_eq.mpr (show x126.toInt = 0 by first | exact Int.le_antisymm (by omega) (by omega) | omega)
  obtain rfl : x118 = 0 := wk_eq.mpr (show x118.toInt = 0 by first | exact Int.le_antisymm (by omega) (by omega) | omega)
  obtain rfl : x120 = 0 := wk_eq.mpr (show x120.toInt = 0 by first | exact Int.le_antisymm (by omega) (by omega) | omega)
  try simp only [show (0 : Int32).toInt = 0 by decide] at hM
  try simp only [show (0 : Int32).toInt = 0 by decide] at hM
  try simp only [show (0 : Int32).toInt = 0 by decide] at hM
  try simp only [show (0 : Int32).toInt = 0 by decide] at hM
  try simp only [show (0 : Int32).toInt = 0 by decide] at hM
  exact L28 ((4 - (0 : Int)).toNat + 1) 0 H locs ls w130 (by decide) (by decide) (Nat.lt_succ_self _) hw hT hF c134 c135 c136 c132 c133 hM (lv_sub hl [1, 2, 0] rfl)
abbrev Pz_X11_back_1 (ad : Nat → Nat) (cy : Nat → ClassId) (B : Int) (qr : Nat) (s1 : Int) (a1 : Int32) (w0 : va_W) : Int32 → va_W → Prop := fun r u => TW ksC ad cy B qr s1 u ∧ FE ksC [(5, 8, 8), (5, 9, 9), (5, 10, 10), (5, 11, 11), (5, 12, 12), (5, 13, 13), (7, 8, 8), (7, 9, 9), (7, 10, 10), (7, 11, 11), (9, 0, 0), (9, 1, 1), (9, 2, 2), (9, 3, 3), (9, 4, 4), (9, 5, 5), (9, 6, 6), (9, 7, 7), (9, 8, 8), (24, 0, 100000), (25, 0, 100000), (26, 0, 100000), (27, 0, 100000), (28, 0, 100000), (29, 0, 100000), (30, 0, 100000), (31, 0, 100000), (32, 0, 100000), (34, 0, 100000), (35, 0, 100000), (36, 0, 100000), (37, 0, 100000), (38, 0, 100000), (44, 0, 11)] w0 u ∧ Ev (fun n => m_X11_back n 0 a1.toInt (sI w0)) (r.toInt, sI u) ∧ ((0 ≤ r.toInt ∧ r.toInt ≤ 4 ∧ 0 ≤ a1.toInt ∧ a1.toInt ≤ 3) ∨ (r = (-1)))
set_option maxHeartbeats 4000000 in
set_option maxRecDepth 100000 in
theorem kz_X11_back_1 (l : Launch) (adK adV : Nat → Nat) (dC : Nat → ClassId) (dI : Nat → Nat → Nat) (cy : Nat → ClassId) (ad : Nat → Nat) (B : Int) (hB0 : 2147483648 ≤ B) (hB1 : B ≤ 1152921504606846976) (qr : Nat) (s1 : Int)  (a1 : Int32) (w0 : va_W) (sz : Nat) (hT : TW ksC ad cy B qr s1 w0)  : Met l yX11_back (wu yX11_back cX11_back 2 (some .int)) ({ frames := 4, cells := 0, slots := 0, locals := 124 }) (va_Pc [.ref (ad 0), .int a1] (wpreS adK adV dC dI cy sz w0)) (va_Qi (Pz_X11_back_1 ad cy B qr s1 a1 w0) (fun u : va_W => wpost dC dI cy (va_A w0 sz) u) (va_A w0 sz)) 0 0 (va_A w0 sz) := by
  refine Met.ofW (cc := cX11_back) (maxL := 2) (ret := (some .int)) (by decide) rfl ?_
  intro p e s m args below meth c s₁ Bk hml hv
  obtain ⟨rfl, ⟨hsz, hP, hK, hD0⟩, hE, hSR⟩ := hv
  have hx := Bk.exec
  have hb := Bk.bytes
  have hr := Bk.returns
  have hlocks := Bk.notSynchronized
  have hC : CallFix p m c cX11_back 2 s _ (wu yX11_back cX11_back 2 (some .int)) RX11 := ⟨hx, hb, hml, findClass_of_methodNamed Bk.named, atoms_spec (ws := (wu yX11_back cX11_back 2 (some .int))) Bk.pre⟩
  subst hsz
  have hD := hD0.self (sz := s.heap.size)
  generalize hAe : va_A w0 s.heap.size = A at hD hE ⊢
  have hA : ∀ q : Nat, s.heap.size ≤ q → A q := fun q h => by rw [← hAe]; exact Or.inr h
  have hw : Wd dC dI A s.heap s.heap [] w0 := ⟨hP, hD, va_S.rf⟩
  have hF : FE ksC [(5, 8, 8), (5, 9, 9), (5, 10, 10), (5, 11, 11), (5, 12, 12), (5, 13, 13), (7, 8, 8), (7, 9, 9), (7, 10, 10), (7, 11, 11), (9, 0, 0), (9, 1, 1), (9, 2, 2), (9, 3, 3), (9, 4, 4), (9, 5, 5), (9, 6, 6), (9, 7, 7), (9, 8, 8), (24, 0, 100000), (25, 0, 100000), (26, 0, 100000), (27, 0, 100000), (28, 0, 100000), (29, 0, 100000), (30, 0, 100000), (31, 0, 100000), (32, 0, 100000), (34, 0, 100000), (35, 0, 100000), (36, 0, 100000), (37, 0, 100000), (38, 0, 100000), (44, 0, 11)] w0 w0 := FE.rf
  have hl := lv_entry ([.ref (ad 0), .int a1]) (n := 2) (Nat.le_of_ble_eq_true rfl)
  rw [lg_entry_eq]
  generalize (lg_sl ([.ref (ad 0), .int a1]) ++ List.replicate (2 - (lg_sl ([.ref (ad 0), .int a1])).length) Slot.unset).toArray = ls at hl ⊢
  have hl : lv_has ls 2 [(0, .ref (ad 0)), (1, .int a1)] := hl
  generalize hloc : ([] : List Loc) = locs at hw ⊢
  have hinX11 : ∀ w ∈ u_ws RX11 TX11 13, w ∈ (wu yX11_back cX11_back 2 (some .int)) := fun _ h => List.mem_cons_of_mem _ (up_70 h)
  have hinX5 : ∀ w ∈ u_ws RX5 TX5 14, w ∈ (wu yX11_back cX11_back 2 (some .int)) := fun _ h => List.mem_cons_of_mem _ (up_76 h)
  have J18 : ∀ (H : Heap) (locs : List Loc) (ls : Array Slot) (w1 : va_W), Wd dC dI A s.heap H locs w1 → TW ksC ad cy B qr s1 w1 → FE ksC [(5, 8, 8), (5, 9, 9), (5, 10, 10), (5, 11, 11), (5, 12, 12), (5, 13, 13), (7, 8, 8), (7, 9, 9), (7, 10, 10), (7, 11, 11), (9, 0, 0), (9, 1, 1), (9, 2, 2), (9, 3, 3), (9, 4, 4), (9, 5, 5), (9, 6, 6), (9, 7, 7), (9, 8, 8), (24, 0, 100000), (25, 0, 100000), (26, 0, 100000), (27, 0, 100000), (28, 0, 100000), (29, 0, 100000), (30, 0, 100000), (31, 0, 100000), (32, 0, 100000), (34, 0, 100000), (35, 0, 100000), (36, 0, 100000), (37, 0, 100000), (38, 0, 100000), (44, 0, 11)] w0 w1 → TT (fun n => m_X11_back n 0 a1.toInt (sI w0)) (fun n => b_X11_back_18 n 0 (sI w1)) → lv_has ls 2 [(0, .ref (ad 0)), (1, .int a1)] → W p l e ({ frames := 4, cells := 0, slots := 0, locals := 124 }) s m (List.toArray [.ref (ad 0), .int a1]) below meth c H locs 0 0 (MQ below (va_Qi (Pz_X11_back_1 ad cy B qr s1 a1 w0) (fun u : va_W => wpost dC dI cy A u) A) (List.toArray [.ref (ad 0), .int a1]) s 0 0 A) (F0 m 18 ls []) := by
    intro H locs ls w1 hw hT hF hM hl
    refine lv_iconst (v := (-1)) hx hb dX11_back_18 (by decide) ?_
    exact tk_iret hC hr hlocks hK ⟨hT, hF, hM.ret (by decide), (Or.inr rfl)⟩ hw dX11_back_19
  have hM : TT (fun n => m_X11_back n 0 a1.toInt (sI w0)) (fun n => m_X11_back n 0 a1.toInt (sI w0)) := TT.rf
  refine lv_iload_n hx hb dX11_back_0 rfl (lv_at hl 1 rfl) ?_
  refine lv_if_lt (tgt := 18) hx hb dX11_back_1 (by decide) (fun c2 => ?_) (fun c2 => ?_)
  · have c2 : a1.toInt < (0 : Int) := wk_lt.mp c2
    replace hM := hM.pos c2
    exact J18  s.heap locs ls w0   hw hT hF hM (lv_sub hl [0, 1] rfl)
  · have c2 : (0 : Int) ≤ a1.toInt := wk_ltF c2
    replace hM := hM.neg (Int.not_lt.mpr c2)
    refine lv_iload_n hx hb dX11_back_4 rfl (lv_at hl 1 rfl) ?_
    refine lv_iconst (v := 4) hx hb dX11_back_5 (by decide) ?_
    refine lv_icmp_ge (tgt := 18) hx hb dX11_back_6 (by decide) (fun c3 => ?_) (fun c3 => ?_)
    · have c3 : (4 : Int) ≤ a1.toInt := wk_le.mp c3
      replace hM := hM.pos c3
      exact J18  s.heap locs ls w0   hw hT hF hM (lv_sub hl [0, 1] rfl)
    · have c3 : a1.toInt < (4 : Int) := wk_leF c3
      replace hM := hM.neg (Int.not_le.mpr c3)
      refine lv_aload_n hx hb dX11_back_9 rfl (lv_at hl 0 rfl) ?_
      refine tk_getA hC hK hw hT hinX11 kC_at0 (by decide) rfl 6 (by decide) (List.mem_cons_of_mem _ uw_1_10) rfl rfl dX11_back_10 ?_
      refine lv_iload_n hx hb dX11_back_13 rfl (lv_at hl 1 rfl) ?_
      refine tk_zald hC hK hw hT kC_at144 rfl rfl (show 0 ≤ a1.toInt by first | with_reducible assumption | omega) (show a1.toInt < 4 by first | with_reducible assumption | omega) dX11_back_14 (fun x4 c5 rx4 tx4 => ?_)
      have hox4 := c5
      replace hM := hM.rd (sI_at hox4)
      refine lv_if_ne (tgt := 20) hx hb dX11_back_15 (by decide) (fun c6 => ?_) (fun c6 => ?_)
      · have c6 : ¬ x4.toInt = (0 : Int) := wk_eqF c6
        replace hM := hM.pos c6
        refine lv_aload_n hx hb dX11_back_20 rfl (lv_at hl 0 rfl) ?_
        refine tk_getA hC hK hw hT hinX11 kC_at0 (by decide) rfl 4 (by decide) (List.mem_cons_of_mem _ uw_1_7) rfl rfl dX11_back_21 ?_
        refine lv_aload_n hx hb dX11_back_24 rfl (lv_at hl 0 rfl) ?_
        refine tk_getA hC hK hw hT hinX11 kC_at0 (by decide) rfl 5 (by decide) (List.mem_cons_of_mem _ uw_1_8) rfl rfl dX11_back_25 ?_
        refine lv_iload_n hx hb dX11_back_28 rfl (lv_at hl 1 rfl) ?_
        refine tk_aald hC hK hw hT kC_at59 rfl (by decide) rfl (show 0 ≤ a1.toInt by first | with_reducible assumption | omega) (show a1.toInt < 4 by first | with_reducible assumption | omega) dX11_back_29 (fun j7 hj7 gj7 => ?_)
        replace hM := hM.ix gj7
        refine tk_Vv hC hK hw hT hA hE hSR kC_at38 (by decide) rfl (kz_X5_copyFrom_2 l adK adV dC dI cy ad B hB0 (Int.le_trans hB1 (by decide)) qr s1   (el 40 59 j7) (kC_el40 kC_at59 hj7) w0 s.heap.size hT ) (cwV 1 hC.2.2.2.2 uV_RX11_310 rfl rfl rfl (by decide +kernel) ⟨Nat.le_of_ble_eq_true rfl, Nat.le_of_ble_eq_true rfl⟩) rfl hl.1 rfl (Nat.le_of_ble_eq_true rfl) dX11_back_30 (fun w10 H locs hp9 hw => ?_)
        obtain ⟨hT, k11, hv13, hg12⟩ := hp9
        have hF := hF.tr k11 (by decide)
        clear hg12
        replace hM := hM.call hv13 rfl
        refine lv_aload_n hx hb dX11_back_33 rfl (lv_at hl 0 rfl) ?_
        refine tk_getA hC hK hw hT hinX11 kC_at0 (by decide) rfl 7 (by decide) (List.mem_cons_of_mem _ uw_1_14) rfl rfl dX11_back_34 ?_
        refine tk_Vv hC hK hw hT hA hE hSR kC_at145 (by decide) rfl (kz_X0_forgetAll_1 l adK adV dC dI cy ad B hB0 (Int.le_trans hB1 (by decide)) qr s1    w10 H.size hT ) (cwV 0 hC.2.2.2.2 uV_RX11_117 rfl rfl rfl (by decide +kernel) ⟨Nat.le_of_ble_eq_true rfl, Nat.le_of_ble_eq_true rfl⟩) rfl hl.1 rfl (Nat.le_of_ble_eq_true rfl) dX11_back_37 (fun w16 H locs hp15 hw => ?_)
        obtain ⟨hT, k17, hv19, hg18⟩ := hp15
        have hF := hF.tr k17 (by decide)
        clear hg18
        replace hM := hM.call hv19 rfl
        refine lv_aload_n hx hb dX11_back_40 rfl (lv_at hl 0 rfl) ?_
        refine tk_getA hC hK hw hT hinX11 kC_at0 (by decide) rfl 4 (by decide) (List.mem_cons_of_mem _ uw_1_7) rfl rfl dX11_back_41 ?_
        refine tk_geti hC hK hw hT hinX5 kC_at38 (by decide) rfl 9 (by decide) (List.mem_cons_of_mem _ uw_38_23) rfl rfl dX11_back_44 (fun x20 c21 rx20 tx20 => ?_)
        replace hM := hM.rd (sI_at c21)
        exact tk_iret hC hr hlocks hK ⟨hT, hF, hM.ret rfl, (Or.inl ⟨(show 0 ≤ x20.toInt from rx20), (show x20.toInt ≤ 4 from tx20), (show 0 ≤ a1.toInt by first | with_reducible assumption | omega), (show a1.toInt ≤ 3 by first | with_reducible assumption | omega)⟩)⟩ hw dX11_back_47
      · have c6 : x4.toInt = (0 : Int) := wk_eq.mp c6
        replace hM := hM.neg (fun q => q c6)
        exact J18  s.heap locs ls w0   hw hT hF hM (lv_sub hl [0, 1] rfl)
abbrev Pz_X7_hasStreet_1 (ad : Nat → Nat) (cy : Nat → ClassId) (B : Int) (qr : Nat) (s1 : Int) (a1 : Int32) (w0 : va_W) : Int32 → va_W → Prop := fun r u => TW ksC ad cy B qr s1 u ∧ FE ksC ([] : List (Nat × Nat × Nat)) w0 u ∧ Ev (fun n => m_X7_hasStreet n 39 a1.toInt (sI w0)) (r.toInt, sI u) ∧ ((r = 0) ∨ (r = 1 ∧ 0 ≤ a1.toInt ∧ a1.toInt ≤ 11 ∧ (∃ y : Int32, gi u 39 9 = y ∧ 1 ≤ y.toInt ∧ y.toInt ≤ 12)))
set_option maxHeartbeats 4000000 in
set_option maxRecDepth 100000 in
theorem kz_X7_hasStreet_1 (l : Launch) (adK adV : Nat → Nat) (dC : Nat → ClassId) (dI : Nat → Nat → Nat) (cy : Nat → ClassId) (ad : Nat → Nat) (B : Int) (hB0 : 2147483648 ≤ B) (hB1 : B ≤ 1152921504606846976) (qr : Nat) (s1 : Int)  (a1 : Int32) (w0 : va_W) (sz : Nat) (hT : TW ksC ad cy B qr s1 w0)  : Met l yX7_hasStreet (wu yX7_hasStreet cX7_hasStreet 2 (some .boolean)) ({ frames := 1, cells := 0, slots := 0, locals := 12 }) (va_Pc [.ref (ad 39), .int a1] (wpreS adK adV dC dI cy sz w0)) (va_Qi (Pz_X7_hasStreet_1 ad cy B qr s1 a1 w0) (fun u : va_W => wpost dC dI cy (va_A w0 sz) u) (va_A w0 sz)) 0 0 (va_A w0 sz) := by
  refine Met.ofW (cc := cX7_hasStreet) (maxL := 2) (ret := (some .boolean)) (by decide) rfl ?_
  intro p e s m args below meth c s₁ Bk hml hv
  obtain ⟨rfl, ⟨hsz, hP, hK, hD0⟩, hE, hSR⟩ := hv
  have hx := Bk.exec
  have hb := Bk.bytes
  have hr := Bk.returns
  have hlocks := Bk.notSynchronized
  have hC : CallFix p m c cX7_hasStreet 2 s _ (wu yX7_hasStreet cX7_hasStreet 2 (some .boolean)) RX7 := ⟨hx, hb, hml, findClass_of_methodNamed Bk.named, atoms_spec (ws := (wu yX7_hasStreet cX7_hasStreet 2 (some .boolean))) Bk.pre⟩
  subst hsz
  have hD := hD0.self (sz := s.heap.size)
  generalize hAe : va_A w0 s.heap.size = A at hD hE ⊢
  have hA : ∀ q : Nat, s.heap.size ≤ q → A q := fun q h => by rw [← hAe]; exact Or.inr h
  have hw : Wd dC dI A s.heap s.heap [] w0 := ⟨hP, hD, va_S.rf⟩
  have hF : FE ksC ([] : List (Nat × Nat × Nat)) w0 w0 := FE.rf
  have hl := lv_entry ([.ref (ad 39), .int a1]) (n := 2) (Nat.le_of_ble_eq_true rfl)
  rw [lg_entry_eq]
  generalize (lg_sl ([.ref (ad 39), .int a1]) ++ List.replicate (2 - (lg_sl ([.ref (ad 39), .int a1])).length) Slot.unset).toArray = ls at hl ⊢
  have hl : lv_has ls 2 [(0, .ref (ad 39)), (1, .int a1)] := hl
  generalize hloc : ([] : List Loc) = locs at hw ⊢
  have hinX7 : ∀ w ∈ u_ws RX7 TX7 12, w ∈ (wu yX7_hasStreet cX7_hasStreet 2 (some .boolean)) := fun _ h => List.mem_cons_of_mem _ (up_73 h)
  have J16 : ∀ (H : Heap) (locs : List Loc) (ls : Array Slot) (w1 : va_W), Wd dC dI A s.heap H locs w1 → TW ksC ad cy B qr s1 w1 → FE ksC ([] : List (Nat × Nat × Nat)) w0 w1 → TT (fun n => m_X7_hasStreet n 39 a1.toInt (sI w0)) (fun n => b_X7_hasStreet_16 n 39 (sI w1)) → lv_has ls 2 [(0, .ref (ad 39)), (1, .int a1)] → W p l e ({ frames := 1, cells := 0, slots := 0, locals := 12 }) s m (List.toArray [.ref (ad 39), .int a1]) below meth c H locs 0 0 (MQ below (va_Qi (Pz_X7_hasStreet_1 ad cy B qr s1 a1 w0) (fun u : va_W => wpost dC dI cy A u) A) (List.toArray [.ref (ad 39), .int a1]) s 0 0 A) (F0 m 16 ls []) := by
    intro H locs ls w1 hw hT hF hM hl
    refine lv_iconst (v := 0) hx hb dX7_hasStreet_16 (by decide) ?_
    exact tk_zret hC hr rfl hlocks hK ⟨hT, hF, hM.ret (by decide), (Or.inl rfl)⟩ hw dX7_hasStreet_17
  have hM : TT (fun n => m_X7_hasStreet n 39 a1.toInt (sI w0)) (fun n => m_X7_hasStreet n 39 a1.toInt (sI w0)) := TT.rf
  refine lv_iload_n hx hb dX7_hasStreet_0 rfl (lv_at hl 1 rfl) ?_
  refine lv_if_lt (tgt := 16) hx hb dX7_hasStreet_1 (by decide) (fun c2 => ?_) (fun c2 => ?_)
  · have c2 : a1.toInt < (0 : Int) := wk_lt.mp c2
    replace hM := hM.pos c2
    exact J16  s.heap locs ls w0   hw hT hF hM (lv_sub hl [0, 1] rfl)
  · have c2 : (0 : Int) ≤ a1.toInt := wk_ltF c2
    replace hM := hM.neg (Int.not_lt.mpr c2)
    refine lv_iload_n hx hb dX7_hasStreet_4 rfl (lv_at hl 1 rfl) ?_
    refine lv_aload_n hx hb dX7_hasStreet_5 rfl (lv_at hl 0 rfl) ?_
    refine tk_geti hC hK hw hT hinX7 kC_at39 (by decide) rfl 9 (by decide) (List.mem_cons_of_mem _ uw_9_8) rfl rfl dX7_hasStreet_6 (fun x3 c4 rx3 tx3 => ?_)
    replace hM := hM.rd (sI_at c4)
    refine lv_icmp_ge (tgt := 16) hx hb dX7_hasStreet_9 (by decide) (fun c5 => ?_) (fun c5 => ?_)
    · have c5 : x3.toInt ≤ a1.toInt := wk_le.mp c5
      replace hM := hM.pos c5
      exact J16  s.heap locs ls w0   hw hT hF hM (lv_sub hl [0, 1] rfl)
    · have c5 : a1.toInt < x3.toInt := wk_leF c5
      replace hM := hM.neg (Int.not_le.mpr c5)
      refine lv_iconst (v := 1) hx hb dX7_hasStreet_12 (by decide) ?_
      refine lv_goto (tgt := 17) hx hb dX7_hasStreet_13 (by decide) ?_
      exact tk_zret hC hr rfl hlocks hK ⟨hT, hF, hM.ret (by decide), (Or.inr ⟨rfl, (show 0 ≤ a1.toInt by first | with_reducible assumption | omega), (show a1.toInt ≤ 11 by first | with_reducible assumption | omega), ⟨x3, c4, (show 1 ≤ x3.toInt by first | with_reducible assumption | omega), (show x3.toInt ≤ 12 from tx3)⟩⟩)⟩ hw dX7_hasStreet_17
