abbrev Pz_X5_moveTo_1 (ad : Nat → Nat) (cy : Nat → ClassId) (B : Int) (qr : Nat) (s1 : Int)  (w0 : va_W) : va_W → Prop := fun u => TW ksC ad cy B qr s1 u ∧ FE ksC [(5, 8, 8), (5, 9, 9), (5, 10, 10), (5, 11, 11), (5, 12, 12), (7, 8, 8), (7, 9, 9), (7, 10, 10), (7, 11, 11), (24, 0, 100000), (25, 0, 100000), (26, 0, 100000), (27, 0, 100000), (28, 0, 100000), (29, 0, 100000), (30, 0, 100000), (31, 0, 100000)] w0 u ∧ Ev (fun n => m_X5_moveTo n 38 29 (sI w0)) (0, sI u) ∧ (((∃ y : Int32, gi u 29 9 = y ∧ 0 ≤ y.toInt ∧ y.toInt ≤ 12) ∧ (∃ y : Int32, gi u 29 10 = y ∧ 0 ≤ y.toInt ∧ y.toInt ≤ 8) ∧ (∃ y : Int32, gi u 29 11 = y ∧ 0 ≤ y.toInt ∧ y.toInt ≤ 4) ∧ (∃ y : Int32, gi u 38 8 = y ∧ 0 ≤ y.toInt ∧ y.toInt ≤ 0) ∧ (∃ y : Int32, gi u 38 9 = y ∧ 0 ≤ y.toInt ∧ y.toInt ≤ 0) ∧ (∃ y : Int32, gi u 38 10 = y ∧ 0 ≤ y.toInt ∧ y.toInt ≤ 0) ∧ (∃ y : Int32, gi u 38 11 = y ∧ 0 ≤ y.toInt ∧ y.toInt ≤ 0) ∧ (∃ y : Int32, gi u 38 12 = y ∧ 0 ≤ y.toInt ∧ y.toInt ≤ 0)))
set_option maxHeartbeats 4000000 in
set_option maxRecDepth 100000 in
theorem kz_X5_moveTo_1 (l : Launch) (adK adV : Nat → Nat) (dC : Nat → ClassId) (dI : Nat → Nat → Nat) (cy : Nat → ClassId) (ad : Nat → Nat) (B : Int) (hB0 : 2147483648 ≤ B) (hB1 : B ≤ 1152921504606846976) (qr : Nat) (s1 : Int)   (w0 : va_W) (sz : Nat) (hT : TW ksC ad cy B qr s1 w0)  : Met l yX5_moveTo (wu yX5_moveTo cX5_moveTo 2 none) ({ frames := 2, cells := 0, slots := 0, locals := 81 }) (va_Pc [.ref (ad 38), .ref (ad 29)] (wpreS adK adV dC dI cy sz w0)) (va_Qv (Pz_X5_moveTo_1 ad cy B qr s1  w0) (fun u : va_W => wpost dC dI cy (va_A w0 sz) u) (va_A w0 sz)) 0 0 (va_A w0 sz) := by
  refine Met.ofW (cc := cX5_moveTo) (maxL := 2) (ret := none) (by decide) rfl ?_
  intro p e s m args below meth c s₁ Bk hml hv
  obtain ⟨rfl, ⟨hsz, hP, hK, hD0⟩, hE, hSR⟩ := hv
  have hx := Bk.exec
  have hb := Bk.bytes
  have hr := Bk.returns
  have hlocks := Bk.notSynchronized
  have hC : CallFix p m c cX5_moveTo 2 s _ (wu yX5_moveTo cX5_moveTo 2 none) RX5 := ⟨hx, hb, hml, findClass_of_methodNamed Bk.named, atoms_spec (ws := (wu yX5_moveTo cX5_moveTo 2 none)) Bk.pre⟩
  subst hsz
  have hD := hD0.self (sz := s.heap.size)
  generalize hAe : va_A w0 s.heap.size = A at hD hE ⊢
  have hA : ∀ q : Nat, s.heap.size ≤ q → A q := fun q h => by rw [← hAe]; exact Or.inr h
  have hw : Wd dC dI A s.heap s.heap [] w0 := ⟨hP, hD, va_S.rf⟩
  have hF : FE ksC [(5, 8, 8), (5, 9, 9), (5, 10, 10), (5, 11, 11), (5, 12, 12), (7, 8, 8), (7, 9, 9), (7, 10, 10), (7, 11, 11), (24, 0, 100000), (25, 0, 100000), (26, 0, 100000), (27, 0, 100000), (28, 0, 100000), (29, 0, 100000), (30, 0, 100000), (31, 0, 100000)] w0 w0 := FE.rf
  have hl := lv_entry ([.ref (ad 38), .ref (ad 29)]) (n := 2) (Nat.le_of_ble_eq_true rfl)
  rw [lg_entry_eq]
  generalize (lg_sl ([.ref (ad 38), .ref (ad 29)]) ++ List.replicate (2 - (lg_sl ([.ref (ad 38), .ref (ad 29)])).length) Slot.unset).toArray = ls at hl ⊢
  have hl : lv_has ls 2 [(0, .ref (ad 38)), (1, .ref (ad 29))] := hl
  generalize hloc : ([] : List Loc) = locs at hw ⊢
  have hinX5 : ∀ w ∈ u_ws RX5 TX5 14, w ∈ (wu yX5_moveTo cX5_moveTo 2 none) := fun _ h => List.mem_cons_of_mem _ (up_76 h)
  have hM : TT (fun n => m_X5_moveTo n 38 29 (sI w0)) (fun n => m_X5_moveTo n 38 29 (sI w0)) := TT.rf
  refine lv_aload_n hx hb dX5_moveTo_0 rfl (lv_at hl 0 rfl) ?_
  refine tk_getO hC hK hw hT hinX5 kC_at38 (by decide) rfl 0 (by decide) (List.mem_cons_of_mem _ uw_3_18) rfl rfl dX5_moveTo_1 ?_
  refine lv_aload_n hx hb dX5_moveTo_4 rfl (lv_at hl 1 rfl) ?_
  refine tk_Vv hC hK hw hT hA hE hSR kC_at39 (by decide) rfl (kz_X7_copyFrom_1 l adK adV dC dI cy ad B hB0 (Int.le_trans hB1 (by decide)) qr s1    w0 s.heap.size hT ) (cwV 1 hC.2.2.2.2 uV_RX5_48 rfl rfl rfl (by decide +kernel) ⟨Nat.le_of_ble_eq_true rfl, Nat.le_of_ble_eq_true rfl⟩) rfl hl.1 rfl (Nat.le_of_ble_eq_true rfl) dX5_moveTo_5 (fun w3 H locs hp2 hw => ?_)
  obtain ⟨hT, k4, hv12, hg11⟩ := hp2
  have hF := hF.tr k4 (by decide)
  obtain ⟨⟨x5, c6, rx5, tx5⟩, ⟨x7, c8, rx7, tx7⟩, ⟨x9, c10, rx9, tx9⟩⟩ := hg11
  replace hM := hM.call hv12 rfl
  refine lv_aload_n hx hb dX5_moveTo_8 rfl (lv_at hl 0 rfl) ?_
  refine lv_iconst (v := 0) hx hb dX5_moveTo_9 (by decide) ?_
  refine tk_puti hC hK hw hT hinX5 tyX5_ok nmX5 kC_at38 (by decide) rfl rfl 8 (by decide) (List.mem_cons_of_mem _ uw_18_10) rfl rfl rfl rfl (by decide) (by decide) dX5_moveTo_10 (fun H locs w13 hw hT k15 c14 => ?_)
  replace hM := hM.wr (sI_upc k15 c14 (by decide))
  have hF := hF.put kC_at38 (k := 8) (by decide) k15
  have c16 := k15.gi (Or.inr (by decide)) c6
  have c17 := k15.gi (Or.inr (by decide)) c8
  have c18 := k15.gi (Or.inr (by decide)) c10
  refine lv_aload_n hx hb dX5_moveTo_13 rfl (lv_at hl 0 rfl) ?_
  refine lv_iconst (v := 0) hx hb dX5_moveTo_14 (by decide) ?_
  refine tk_puti hC hK hw hT hinX5 tyX5_ok nmX5 kC_at38 (by decide) rfl rfl 9 (by decide) (List.mem_cons_of_mem _ uw_18_11) rfl rfl rfl rfl (by decide) (by decide) dX5_moveTo_15 (fun H locs w19 hw hT k21 c20 => ?_)
  replace hM := hM.wr (sI_upc k21 c20 (by decide))
  have hF := hF.put kC_at38 (k := 9) (by decide) k21
  have c22 := k21.gi (Or.inl (tk_ne kC_at29 kC_at38 (by decide))) c16
  have c23 := k21.gi (Or.inr (by decide)) c17
  have c24 := k21.gi (Or.inr (by decide)) c18
  have c25 := k21.gi (Or.inr (by decide)) c14
  refine lv_aload_n hx hb dX5_moveTo_18 rfl (lv_at hl 0 rfl) ?_
  refine lv_iconst (v := 0) hx hb dX5_moveTo_19 (by decide) ?_
  refine tk_puti hC hK hw hT hinX5 tyX5_ok nmX5 kC_at38 (by decide) rfl rfl 10 (by decide) (List.mem_cons_of_mem _ uw_18_12) rfl rfl rfl rfl (by decide) (by decide) dX5_moveTo_20 (fun H locs w26 hw hT k28 c27 => ?_)
  replace hM := hM.wr (sI_upc k28 c27 (by decide))
  have hF := hF.put kC_at38 (k := 10) (by decide) k28
  have c29 := k28.gi (Or.inr (by decide)) c22
  have c30 := k28.gi (Or.inl (tk_ne kC_at29 kC_at38 (by decide))) c23
  have c31 := k28.gi (Or.inr (by decide)) c24
  have c32 := k28.gi (Or.inr (by decide)) c25
  have c33 := k28.gi (Or.inr (by decide)) c20
  refine lv_aload_n hx hb dX5_moveTo_23 rfl (lv_at hl 0 rfl) ?_
  refine lv_iconst (v := 0) hx hb dX5_moveTo_24 (by decide) ?_
  refine tk_puti hC hK hw hT hinX5 tyX5_ok nmX5 kC_at38 (by decide) rfl rfl 11 (by decide) (List.mem_cons_of_mem _ uw_18_13) rfl rfl rfl rfl (by decide) (by decide) dX5_moveTo_25 (fun H locs w34 hw hT k36 c35 => ?_)
  replace hM := hM.wr (sI_upc k36 c35 (by decide))
  have hF := hF.put kC_at38 (k := 11) (by decide) k36
  have c37 := k36.gi (Or.inr (by decide)) c29
  have c38 := k36.gi (Or.inr (by decide)) c30
  have c39 := k36.gi (Or.inl (tk_ne kC_at29 kC_at38 (by decide))) c31
  have c40 := k36.gi (Or.inr (by decide)) c32
  have c41 := k36.gi (Or.inr (by decide)) c33
  have c42 := k36.gi (Or.inr (by decide)) c27
  refine lv_aload_n hx hb dX5_moveTo_28 rfl (lv_at hl 0 rfl) ?_
  refine lv_iconst (v := 0) hx hb dX5_moveTo_29 (by decide) ?_
  refine tk_puti hC hK hw hT hinX5 tyX5_ok nmX5 kC_at38 (by decide) rfl rfl 12 (by decide) (List.mem_cons_of_mem _ uw_18_14) rfl rfl rfl rfl (by decide) (by decide) dX5_moveTo_30 (fun H locs w43 hw hT k45 c44 => ?_)
  replace hM := hM.wr (sI_upc k45 c44 (by decide))
  have hF := hF.put kC_at38 (k := 12) (by decide) k45
  have c46 := k45.gi (Or.inr (by decide)) c37
  have c47 := k45.gi (Or.inr (by decide)) c38
  have c48 := k45.gi (Or.inr (by decide)) c39
  have c49 := k45.gi (Or.inr (by decide)) c40
  have c50 := k45.gi (Or.inr (by decide)) c41
  have c51 := k45.gi (Or.inr (by decide)) c42
  have c52 := k45.gi (Or.inr (by decide)) c35
  exact tk_vret hC hr hlocks hK ⟨hT, hF, hM.ret rfl, ⟨⟨x5, c46, (show 0 ≤ x5.toInt by first | with_reducible assumption | omega), (show x5.toInt ≤ 12 by first | with_reducible assumption | omega)⟩, ⟨x7, c47, (show 0 ≤ x7.toInt by first | with_reducible assumption | omega), (show x7.toInt ≤ 8 by first | with_reducible assumption | omega)⟩, ⟨x9, c48, (show 0 ≤ x9.toInt by first | with_reducible assumption | omega), (show x9.toInt ≤ 4 by first | with_reducible assumption | omega)⟩, ⟨0, c49, (by decide), (by decide)⟩, ⟨0, c50, (by decide), (by decide)⟩, ⟨0, c51, (by decide), (by decide)⟩, ⟨0, c52, (by decide), (by decide)⟩, ⟨0, c44, (by decide), (by decide)⟩⟩⟩ hw dX5_moveTo_33
abbrev Pz_X0_forgetAll_1 (ad : Nat → Nat) (cy : Nat → ClassId) (B : Int) (qr : Nat) (s1 : Int)  (w0 : va_W) : va_W → Prop := fun u => TW ksC ad cy B qr s1 u ∧ FE ksC [(44, 0, 11)] w0 u ∧ Ev (fun n => m_X0_forgetAll n 145 (sI w0)) (0, sI u) ∧ ((True))
set_option maxHeartbeats 4000000 in
set_option maxRecDepth 100000 in
theorem kz_X0_forgetAll_1 (l : Launch) (adK adV : Nat → Nat) (dC : Nat → ClassId) (dI : Nat → Nat → Nat) (cy : Nat → ClassId) (ad : Nat → Nat) (B : Int) (hB0 : 2147483648 ≤ B) (hB1 : B ≤ 1152921504606846976) (qr : Nat) (s1 : Int)   (w0 : va_W) (sz : Nat) (hT : TW ksC ad cy B qr s1 w0)  : Met l yX0_forgetAll (wu yX0_forgetAll cX0_forgetAll 2 none) ({ frames := 1, cells := 0, slots := 0, locals := 12 }) (va_Pc [.ref (ad 145)] (wpreS adK adV dC dI cy sz w0)) (va_Qv (Pz_X0_forgetAll_1 ad cy B qr s1  w0) (fun u : va_W => wpost dC dI cy (va_A w0 sz) u) (va_A w0 sz)) 0 0 (va_A w0 sz) := by
  refine Met.ofW (cc := cX0_forgetAll) (maxL := 2) (ret := none) (by decide) rfl ?_
  intro p e s m args below meth c s₁ Bk hml hv
  obtain ⟨rfl, ⟨hsz, hP, hK, hD0⟩, hE, hSR⟩ := hv
  have hx := Bk.exec
  have hb := Bk.bytes
  have hr := Bk.returns
  have hlocks := Bk.notSynchronized
  have hC : CallFix p m c cX0_forgetAll 2 s _ (wu yX0_forgetAll cX0_forgetAll 2 none) RX0 := ⟨hx, hb, hml, findClass_of_methodNamed Bk.named, atoms_spec (ws := (wu yX0_forgetAll cX0_forgetAll 2 none)) Bk.pre⟩
  subst hsz
  have hD := hD0.self (sz := s.heap.size)
  generalize hAe : va_A w0 s.heap.size = A at hD hE ⊢
  have hA : ∀ q : Nat, s.heap.size ≤ q → A q := fun q h => by rw [← hAe]; exact Or.inr h
  have hw : Wd dC dI A s.heap s.heap [] w0 := ⟨hP, hD, va_S.rf⟩
  have hF : FE ksC [(44, 0, 11)] w0 w0 := FE.rf
  have hl := lv_entry ([.ref (ad 145)]) (n := 2) (Nat.le_of_ble_eq_true rfl)
  rw [lg_entry_eq]
  generalize (lg_sl ([.ref (ad 145)]) ++ List.replicate (2 - (lg_sl ([.ref (ad 145)])).length) Slot.unset).toArray = ls at hl ⊢
  have hl : lv_has ls 2 [(0, .ref (ad 145))] := hl
  generalize hloc : ([] : List Loc) = locs at hw ⊢
  have hinX0 : ∀ w ∈ u_ws RX0 TX0 4, w ∈ (wu yX0_forgetAll cX0_forgetAll 2 none) := fun _ h => List.mem_cons_of_mem _ (up_77 h)
  have L2 : ∀ (n2 : Nat) (v2_1 : Int32) (H : Heap) (locs : List Loc) (ls : Array Slot) (w1 : va_W), 0 ≤ v2_1.toInt → v2_1.toInt ≤ 11 → (11 - v2_1.toInt).toNat < n2 → Wd dC dI A s.heap H locs w1 → TW ksC ad cy B qr s1 w1 → FE ksC [(44, 0, 11)] w0 w1 → TT (fun n => m_X0_forgetAll n 145 (sI w0)) (fun n => j_X0_forgetAll 145 n 2 [v2_1.toInt] (sI w1)) → lv_has ls 2 [(0, .ref (ad 145)), (1, .int v2_1)] → W p l e ({ frames := 1, cells := 0, slots := 0, locals := 12 }) s m (List.toArray [.ref (ad 145)]) below meth c H locs 0 0 (MQ below (va_Qv (Pz_X0_forgetAll_1 ad cy B qr s1  w0) (fun u : va_W => wpost dC dI cy A u) A) (List.toArray [.ref (ad 145)]) s 0 0 A) (F0 m 2 ls []) := by
    intro n2
    induction n2 with
    | zero => intro v2_1 H locs ls w1 r2 t3 hm2 hw hT hF hM hl; omega
    | succ n2 ih2 =>
      intro v2_1 H locs ls w1 r2 t3 hm2 hw hT hF hM hl
      replace hM := hM.suc (fun _ => e_X0_forgetAll_2)
      refine lv_iload_n hx hb dX0_forgetAll_2 rfl (lv_at hl 1 rfl) ?_
      refine lv_bipush (v := 11) hx hb dX0_forgetAll_3 (by decide) ?_
      refine lv_icmp_ge (tgt := 21) hx hb dX0_forgetAll_5 (by decide) (fun c4 => ?_) (fun c4 => ?_)
      · have c4 : (11 : Int) ≤ v2_1.toInt := wk_le.mp c4
        replace hM := hM.pos c4
        exact tk_vret hC hr hlocks hK ⟨hT, hF, hM.ret rfl, trivial⟩ hw dX0_forgetAll_21
      · have c4 : v2_1.toInt < (11 : Int) := wk_leF c4
        replace hM := hM.neg (Int.not_le.mpr c4)
        refine lv_aload_n hx hb dX0_forgetAll_8 rfl (lv_at hl 0 rfl) ?_
        refine tk_getA hC hK hw hT hinX0 kC_at145 (by decide) rfl 3 (by decide) (List.mem_cons_of_mem _ uw_4_16) rfl rfl dX0_forgetAll_9 ?_
        refine lv_iload_n hx hb dX0_forgetAll_12 rfl (lv_at hl 1 rfl) ?_
        refine lv_iconst (v := 0) hx hb dX0_forgetAll_13 (by decide) ?_
        refine tk_zast hC hK hw hT kC_at148 (by decide) rfl rfl (show 0 ≤ v2_1.toInt from r2) (show v2_1.toInt < 11 by first | with_reducible assumption | omega) (by decide) (by decide) dX0_forgetAll_14 (fun H locs w5 hw hT k7 c6 => ?_)
        replace hM := hM.wr (sI_upc k7 c6 (by decide))
        have hF := hF.put kC_at148 (inE_of (a := 0) (b := 11) (by decide) (show 0 ≤ v2_1.toInt.toNat by omega) (show v2_1.toInt.toNat ≤ 11 by omega)) k7
        obtain ⟨x8, ex8⟩ : ∃ y : Int32, y = v2_1 + Int32.ofInt 1 := ⟨_, rfl⟩
        have erx8 := ex8
        refine lv_iinc (v := x8) (lv' := [(1, .int x8), (0, .ref (ad 145))]) hx hb dX0_forgetAll_15 hl (k := 1) rfl ex8.symm (by decide) rfl (fun ls hl => ?_)
        have ex8 : x8.toInt = v2_1.toInt + 1 := by rw [ex8]; exact wk_add (y := 1) (show -2147483648 ≤ v2_1.toInt + 1 by omega) (show v2_1.toInt + 1 ≤ 2147483647 by omega)
        replace hM := hM.lt ex8.symm
        refine lv_goto (tgt := 2) hx hb dX0_forgetAll_18 (by decide) ?_
        exact ih2 x8 H locs ls w5 (show 0 ≤ x8.toInt by first | with_reducible assumption | omega) (show x8.toInt ≤ 11 by first | with_reducible assumption | omega) (show (11 - x8.toInt).toNat < n2 by first | exact tn_lt hm2 (by omega) (by omega) | omega) hw hT hF hM (lv_sub hl [1, 0] rfl)
  have hM : TT (fun n => m_X0_forgetAll n 145 (sI w0)) (fun n => m_X0_forgetAll n 145 (sI w0)) := TT.rf
  refine lv_iconst (v := 0) hx hb dX0_forgetAll_0 (by decide) ?_
  refine lv_istore_n (lv' := [(1, .int 0), (0, .ref (ad 145))]) hx hb dX0_forgetAll_1 rfl hl (by decide) rfl (fun ls hl => ?_)
  exact L2 ((11 - (0 : Int)).toNat + 1) 0 s.heap locs ls w0 (by decide) (by decide) (Nat.lt_succ_self _) hw hT hF hM (lv_sub hl [1, 0] rfl)
abbrev Pz_X11_town_1 (ad : Nat → Nat) (cy : Nat → ClassId) (B : Int) (qr : Nat) (s1 : Int)  (w0 : va_W) : Int32 → va_W → Prop := fun r u => TW ksC ad cy B qr s1 u ∧ FE ksC [(5, 8, 8), (5, 9, 9), (5, 10, 10), (5, 11, 11), (5, 12, 12), (6, 1, 1), (6, 2, 2), (6, 3, 3), (6, 4, 4), (7, 8, 8), (7, 9, 9), (7, 10, 10), (7, 11, 11), (24, 0, 26), (24, 0, 100000), (25, 0, 13), (25, 0, 100000), (26, 0, 91), (26, 0, 100000), (27, 0, 13), (27, 0, 100000), (28, 0, 26), (28, 0, 100000), (29, 0, 8), (29, 0, 100000), (30, 0, 8), (30, 0, 100000), (31, 0, 13), (31, 0, 100000), (44, 0, 11)] w0 u ∧ Ev (fun n => m_X11_town n 0 (sI w0)) (r.toInt, sI u) ∧ (((-3207) ≤ r.toInt ∧ r.toInt ≤ (-3) ∧ (∃ y : Int32, gi u 1 2 = y ∧ 0 ≤ y.toInt ∧ y.toInt ≤ 0) ∧ (∃ y : Int32, gi u 1 4 = y ∧ 1 ≤ y.toInt ∧ y.toInt ≤ 3205) ∧ (∃ y : Int32, gi u 29 9 = y ∧ 0 ≤ y.toInt ∧ y.toInt ≤ 12) ∧ (∃ y : Int32, gi u 29 10 = y ∧ 0 ≤ y.toInt ∧ y.toInt ≤ 8) ∧ (∃ y : Int32, gi u 29 11 = y ∧ 0 ≤ y.toInt ∧ y.toInt ≤ 4)) ∨ (0 ≤ r.toInt ∧ r.toInt ≤ 12 ∧ (∃ y : Int32, gi u 1 2 = y ∧ 0 ≤ y.toInt ∧ y.toInt ≤ 0) ∧ (∃ y : Int32, gi u 1 4 = y ∧ 0 ≤ y.toInt ∧ y.toInt ≤ 0) ∧ (∃ y : Int32, gi u 29 9 = y ∧ 0 ≤ y.toInt ∧ y.toInt ≤ 12) ∧ (∃ y : Int32, gi u 29 10 = y ∧ 0 ≤ y.toInt ∧ y.toInt ≤ 8) ∧ (∃ y : Int32, gi u 29 11 = y ∧ 0 ≤ y.toInt ∧ y.toInt ≤ 4) ∧ (∃ y : Int32, gi u 38 8 = y ∧ 0 ≤ y.toInt ∧ y.toInt ≤ 0) ∧ (∃ y : Int32, gi u 38 9 = y ∧ 0 ≤ y.toInt ∧ y.toInt ≤ 0) ∧ (∃ y : Int32, gi u 38 10 = y ∧ 0 ≤ y.toInt ∧ y.toInt ≤ 0) ∧ (∃ y : Int32, gi u 38 11 = y ∧ 0 ≤ y.toInt ∧ y.toInt ≤ 0) ∧ (∃ y : Int32, gi u 38 12 = y ∧ 0 ≤ y.toInt ∧ y.toInt ≤ 0)))
set_option maxHeartbeats 4000000 in
set_option maxRecDepth 100000 in
theorem kz_X11_town_1 (l : Launch) (adK adV : Nat → Nat) (dC : Nat → ClassId) (dI : Nat → Nat → Nat) (cy : Nat → ClassId) (ad : Nat → Nat) (B : Int) (hB0 : 2147483648 ≤ B) (hB1 : B ≤ 1152921504606846976) (qr : Nat) (s1 : Int)   (w0 : va_W) (sz : Nat) (hT : TW ksC ad cy B qr s1 w0)  : Met l yX11_town (wu yX11_town cX11_town 2 (some .int)) ({ frames := 9, cells := 0, slots := 0, locals := 255 }) (va_Pc [.ref (ad 0)] (wpreS adK adV dC dI cy sz w0)) (va_Qi (Pz_X11_town_1 ad cy B qr s1  w0) (fun u : va_W => wpost dC dI cy (va_A w0 sz) u) (va_A w0 sz)) 0 0 (va_A w0 sz) := by
  refine Met.ofW (cc := cX11_town) (maxL := 2) (ret := (some .int)) (by decide) rfl ?_
  intro p e s m args below meth c s₁ Bk hml hv
  obtain ⟨rfl, ⟨hsz, hP, hK, hD0⟩, hE, hSR⟩ := hv
  have hx := Bk.exec
  have hb := Bk.bytes
  have hr := Bk.returns
  have hlocks := Bk.notSynchronized
  have hC : CallFix p m c cX11_town 2 s _ (wu yX11_town cX11_town 2 (some .int)) RX11 := ⟨hx, hb, hml, findClass_of_methodNamed Bk.named, atoms_spec (ws := (wu yX11_town cX11_town 2 (some .int))) Bk.pre⟩
  subst hsz
  have hD := hD0.self (sz := s.heap.size)
  generalize hAe : va_A w0 s.heap.size = A at hD hE ⊢
  have hA : ∀ q : Nat, s.heap.size ≤ q → A q := fun q h => by rw [← hAe]; exact Or.inr h
  have hw : Wd dC dI A s.heap s.heap [] w0 := ⟨hP, hD, va_S.rf⟩
  have hF : FE ksC [(5, 8, 8), (5, 9, 9), (5, 10, 10), (5, 11, 11), (5, 12, 12), (6, 1, 1), (6, 2, 2), (6, 3, 3), (6, 4, 4), (7, 8, 8), (7, 9, 9), (7, 10, 10), (7, 11, 11), (24, 0, 26), (24, 0, 100000), (25, 0, 13), (25, 0, 100000), (26, 0, 91), (26, 0, 100000), (27, 0, 13), (27, 0, 100000), (28, 0, 26), (28, 0, 100000), (29, 0, 8), (29, 0, 100000), (30, 0, 8), (30, 0, 100000), (31, 0, 13), (31, 0, 100000), (44, 0, 11)] w0 w0 := FE.rf
  have hl := lv_entry ([.ref (ad 0)]) (n := 2) (Nat.le_of_ble_eq_true rfl)
  rw [lg_entry_eq]
  generalize (lg_sl ([.ref (ad 0)]) ++ List.replicate (2 - (lg_sl ([.ref (ad 0)])).length) Slot.unset).toArray = ls at hl ⊢
  have hl : lv_has ls 2 [(0, .ref (ad 0))] := hl
  generalize hloc : ([] : List Loc) = locs at hw ⊢
  have hinX11 : ∀ w ∈ u_ws RX11 TX11 13, w ∈ (wu yX11_town cX11_town 2 (some .int)) := fun _ h => List.mem_cons_of_mem _ (up_70 h)
  have hinX6 : ∀ w ∈ u_ws RX6 TX6 5, w ∈ (wu yX11_town cX11_town 2 (some .int)) := fun _ h => List.mem_cons_of_mem _ (up_72 h)
  have hinX5 : ∀ w ∈ u_ws RX5 TX5 14, w ∈ (wu yX11_town cX11_town 2 (some .int)) := fun _ h => List.mem_cons_of_mem _ (up_76 h)
  have hinX7 : ∀ w ∈ u_ws RX7 TX7 12, w ∈ (wu yX11_town cX11_town 2 (some .int)) := fun _ h => List.mem_cons_of_mem _ (up_73 h)
  have hM : TT (fun n => m_X11_town n 0 (sI w0)) (fun n => m_X11_town n 0 (sI w0)) := TT.rf
  refine lv_aload_n hx hb dX11_town_0 rfl (lv_at hl 0 rfl) ?_
  refine tk_getA hC hK hw hT hinX11 kC_at0 (by decide) rfl 1 (by decide) (List.mem_cons_of_mem _ uw_0_19) rfl rfl dX11_town_1 ?_
  refine lv_aload_n hx hb dX11_town_4 rfl (lv_at hl 0 rfl) ?_
  refine tk_getA hC hK hw hT hinX11 kC_at0 (by decide) rfl 0 (by decide) (List.mem_cons_of_mem _ uw_0_15) rfl rfl dX11_town_5 ?_
  refine tk_Vv hC hK hw hT hA hE hSR kC_at29 (by decide) rfl (kz_X7_readFrom_1 l adK adV dC dI cy ad B hB0 (Int.le_trans hB1 (by decide)) qr s1    w0 s.heap.size hT ) (cwV 1 hC.2.2.2.2 uV_RX11_107 rfl rfl rfl (by decide +kernel) ⟨Nat.le_of_ble_eq_true rfl, Nat.le_of_ble_eq_true rfl⟩) rfl hl.1 rfl (Nat.le_of_ble_eq_true rfl) dX11_town_8 (fun w3 H locs hp2 hw => ?_)
  obtain ⟨hT, k4, hv14, hg13⟩ := hp2
  have hF := hF.tr k4 (by decide)
  obtain ⟨⟨x5, c6, rx5, tx5⟩, ⟨x7, c8, rx7, tx7⟩, ⟨x9, c10, rx9, tx9⟩, ⟨x11, c12, rx11, tx11⟩⟩ := hg13
  replace hM := hM.call hv14 rfl
  refine lv_aload_n hx hb dX11_town_11 rfl (lv_at hl 0 rfl) ?_
  refine tk_getA hC hK hw hT hinX11 kC_at0 (by decide) rfl 0 (by decide) (List.mem_cons_of_mem _ uw_0_15) rfl rfl dX11_town_12 ?_
  refine tk_geti hC hK hw hT hinX6 kC_at1 (by decide) rfl 4 (by decide) (List.mem_cons_of_mem _ uw_9_0) rfl rfl dX11_town_15 (fun x15 c16 rx15 tx15 => ?_)
  refine wk_top x5 (c16.symm.trans c6) ?_
  replace hM := hM.rd (sI_at c6)
  refine lv_istore_n (lv' := [(1, .int x5), (0, .ref (ad 0))]) hx hb dX11_town_18 rfl hl (by decide) rfl (fun ls hl => ?_)
  refine lv_aload_n hx hb dX11_town_19 rfl (lv_at hl 1 rfl) ?_
  refine tk_getA hC hK hw hT hinX11 kC_at0 (by decide) rfl 0 (by decide) (List.mem_cons_of_mem _ uw_0_15) rfl rfl dX11_town_20 ?_
  refine lv_iconst (v := 0) hx hb dX11_town_23 (by decide) ?_
  refine tk_puti hC hK hw hT hinX6 tyX6_ok nmX6 kC_at1 (by decide) rfl rfl 2 (by decide) (List.mem_cons_of_mem _ uw_7_17) rfl rfl rfl rfl (by decide) (by decide) dX11_town_24 (fun H locs w17 hw hT k19 c18 => ?_)
  replace hM := hM.wr (sI_upc k19 c18 (by decide))
  have hF := hF.put kC_at1 (k := 2) (by decide) k19
  have c20 := k19.gi (Or.inr (by decide)) c6
  have c21 := k19.gi (Or.inr (by decide)) c8
  have c22 := k19.gi (Or.inr (by decide)) c10
  have c23 := k19.gi (Or.inr (by decide)) c12
  refine lv_iload_n hx hb dX11_town_27 rfl (lv_at hl 0 rfl) ?_
  refine lv_if_eq (tgt := 36) hx hb dX11_town_28 (by decide) (fun c24 => ?_) (fun c24 => ?_)
  · have c24 : x5.toInt = (0 : Int) := wk_eq.mp c24
    replace hM := hM.pos c24
    refine lv_aload_n hx hb dX11_town_36 rfl (lv_at hl 1 rfl) ?_
    refine tk_getA hC hK hw hT hinX11 kC_at0 (by decide) rfl 4 (by decide) (List.mem_cons_of_mem _ uw_1_7) rfl rfl dX11_town_37 ?_
    refine lv_aload_n hx hb dX11_town_40 rfl (lv_at hl 1 rfl) ?_
    refine tk_getA hC hK hw hT hinX11 kC_at0 (by decide) rfl 1 (by decide) (List.mem_cons_of_mem _ uw_0_19) rfl rfl dX11_town_41 ?_
    refine tk_Vv hC hK hw hT hA hE hSR kC_at38 (by decide) rfl (kz_X5_moveTo_1 l adK adV dC dI cy ad B hB0 (Int.le_trans hB1 (by decide)) qr s1    w17 H.size hT ) (cwV 1 hC.2.2.2.2 uV_RX11_113 rfl rfl rfl (by decide +kernel) ⟨Nat.le_of_ble_eq_true rfl, Nat.le_of_ble_eq_true rfl⟩) rfl hl.1 rfl (Nat.le_of_ble_eq_true rfl) dX11_town_44 (fun w27 H locs hp26 hw => ?_)
    obtain ⟨hT, k28, hv46, hg45⟩ := hp26
    have hF := hF.tr k28 (by decide)
    have c47 := k28.gi kC_at1 (by decide) c20
    have c48 := k28.gi kC_at1 (by decide) c18
    obtain ⟨⟨x29, c30, rx29, tx29⟩, ⟨x31, c32, rx31, tx31⟩, ⟨x33, c34, rx33, tx33⟩, ⟨x35, c36, rx35, tx35⟩, ⟨x37, c38, rx37, tx37⟩, ⟨x39, c40, rx39, tx39⟩, ⟨x41, c42, rx41, tx41⟩, ⟨x43, c44, rx43, tx43⟩⟩ := hg45
    replace hM := hM.call hv46 rfl
    refine lv_aload_n hx hb dX11_town_47 rfl (lv_at hl 1 rfl) ?_
    refine tk_getA hC hK hw hT hinX11 kC_at0 (by decide) rfl 7 (by decide) (List.mem_cons_of_mem _ uw_1_14) rfl rfl dX11_town_48 ?_
    refine tk_Vv hC hK hw hT hA hE hSR kC_at145 (by decide) rfl (kz_X0_forgetAll_1 l adK adV dC dI cy ad B hB0 (Int.le_trans hB1 (by decide)) qr s1    w27 H.size hT ) (cwV 0 hC.2.2.2.2 uV_RX11_117 rfl rfl rfl (by decide +kernel) ⟨Nat.le_of_ble_eq_true rfl, Nat.le_of_ble_eq_true rfl⟩) rfl hl.1 rfl (Nat.le_of_ble_eq_true rfl) dX11_town_51 (fun w51 H locs hp50 hw => ?_)
    obtain ⟨hT, k52, hv54, hg53⟩ := hp50
    have hF := hF.tr k52 (by decide)
    have c55 := k52.gi kC_at1 (by decide) c47
    have c56 := k52.gi kC_at1 (by decide) c48
    have c57 := k52.gi kC_at29 (by decide) c30
    have c58 := k52.gi kC_at29 (by decide) c32
    have c59 := k52.gi kC_at29 (by decide) c34
    have c60 := k52.gi kC_at38 (by decide) c36
    have c61 := k52.gi kC_at38 (by decide) c38
    have c62 := k52.gi kC_at38 (by decide) c40
    have c63 := k52.gi kC_at38 (by decide) c42
    have c64 := k52.gi kC_at38 (by decide) c44
    clear hg53
    replace hM := hM.call hv54 rfl
    refine lv_aload_n hx hb dX11_town_54 rfl (lv_at hl 1 rfl) ?_
    refine tk_getA hC hK hw hT hinX11 kC_at0 (by decide) rfl 4 (by decide) (List.mem_cons_of_mem _ uw_1_7) rfl rfl dX11_town_55 ?_
    refine tk_getO hC hK hw hT hinX5 kC_at38 (by decide) rfl 0 (by decide) (List.mem_cons_of_mem _ uw_9_1) rfl rfl dX11_town_58 ?_
    refine tk_geti hC hK hw hT hinX7 kC_at39 (by decide) rfl 9 (by decide) (List.mem_cons_of_mem _ uw_9_2) rfl rfl dX11_town_61 (fun x65 c66 rx65 tx65 => ?_)
    replace hM := hM.rd (sI_at c66)
    exact tk_iret hC hr hlocks hK ⟨hT, hF, hM.ret rfl, (Or.inr ⟨(show 0 ≤ x65.toInt from rx65), (show x65.toInt ≤ 12 from tx65), ⟨0, c56, (by decide), (by decide)⟩, ⟨x5, c55, (show 0 ≤ x5.toInt by first | with_reducible assumption | omega), (show x5.toInt ≤ 0 by first | with_reducible assumption | omega)⟩, ⟨x29, c57, (show 0 ≤ x29.toInt by first | with_reducible assumption | omega), (show x29.toInt ≤ 12 by first | with_reducible assumption | omega)⟩, ⟨x31, c58, (show 0 ≤ x31.toInt by first | with_reducible assumption | omega), (show x31.toInt ≤ 8 by first | with_reducible assumption | omega)⟩, ⟨x33, c59, (show 0 ≤ x33.toInt by first | with_reducible assumption | omega), (show x33.toInt ≤ 4 by first | with_reducible assumption | omega)⟩, ⟨x35, c60, (show 0 ≤ x35.toInt by first | with_reducible assumption | omega), (show x35.toInt ≤ 0 by first | with_reducible assumption | omega)⟩, ⟨x37, c61, (show 0 ≤ x37.toInt by first | with_reducible assumption | omega), (show x37.toInt ≤ 0 by first | with_reducible assumption | omega)⟩, ⟨x39, c62, (show 0 ≤ x39.toInt by first | with_reducible assumption | omega), (show x39.toInt ≤ 0 by first | with_reducible assumption | omega)⟩, ⟨x41, c63, (show 0 ≤ x41.toInt by first | with_reducible assumption | omega), (show x41.toInt ≤ 0 by first | with_reducible assumption | omega)⟩, ⟨x43, c64, (show 0 ≤ x43.toInt by first | with_reducible assumption | omega), (show x43.toInt ≤ 0 by first | with_reducible assumption | omega)⟩⟩)⟩ hw dX11_town_64
  · have c24 : ¬ x5.toInt = (0 : Int) := wk_eqF c24
    replace hM := hM.neg c24
    refine lv_bipush (v := (-2)) hx hb dX11_town_31 (by decide) ?_
    refine lv_iload_n hx hb dX11_town_33 rfl (lv_at hl 0 rfl) ?_
    refine lv_isub hx hb dX11_town_34 ?_
    refine lv_topi (fun x67 ex67 => ?_)
    have ezx67 := ex67
    have ex67 : x67.toInt = (-2 : Int) - x5.toInt := by rw [ex67]; exact wk_sub (show (-2147483648) ≤ (-2 : Int) - x5.toInt by omega) (show (-2 : Int) - x5.toInt ≤ 2147483647 by omega)
    replace hM := hM.lt ex67.symm
    exact tk_iret hC hr hlocks hK ⟨hT, hF, hM.ret rfl, (Or.inl ⟨(show (-3207) ≤ x67.toInt by first | with_reducible assumption | omega), (show x67.toInt ≤ (-3) by first | with_reducible assumption | omega), ⟨0, c18, (by decide), (by decide)⟩, ⟨x5, c20, (show 1 ≤ x5.toInt by first | with_reducible assumption | omega), (show x5.toInt ≤ 3205 by first | with_reducible assumption | omega)⟩, ⟨x7, c21, (show 0 ≤ x7.toInt by first | with_reducible assumption | omega), (show x7.toInt ≤ 12 by first | with_reducible assumption | omega)⟩, ⟨x9, c22, (show 0 ≤ x9.toInt by first | with_reducible assumption | omega), (show x9.toInt ≤ 8 by first | with_reducible assumption | omega)⟩, ⟨x11, c23, (show 0 ≤ x11.toInt by first | with_reducible assumption | omega), (show x11.toInt ≤ 4 by first | with_reducible assumption | omega)⟩⟩)⟩ hw dX11_town_35
abbrev Pz_X2_isFull_1 (ad : Nat → Nat) (cy : Nat → ClassId) (B : Int) (qr : Nat) (s1 : Int) (q0_ : Nat) (w0 : va_W) : Int32 → va_W → Prop := fun r u => TW ksC ad cy B qr s1 u ∧ FE ksC ([] : List (Nat × Nat × Nat)) w0 u ∧ Ev (fun n => m_X2_isFull n q0_ (sI w0)) (r.toInt, sI u) ∧ ((r = 0 ∧ (∃ y : Int32, gi u q0_ 4 = y ∧ 0 ≤ y.toInt ∧ y.toInt ≤ 11)) ∨ (r = 1 ∧ (∃ y : Int32, gi u q0_ 4 = y ∧ 12 ≤ y.toInt ∧ y.toInt ≤ 12)))
set_option maxHeartbeats 4000000 in
set_option maxRecDepth 100000 in
theorem kz_X2_isFull_1 (l : Launch) (adK adV : Nat → Nat) (dC : Nat → ClassId) (dI : Nat → Nat → Nat) (cy : Nat → ClassId) (ad : Nat → Nat) (B : Int) (hB0 : 2147483648 ≤ B) (hB1 : B ≤ 1152921504606846976) (qr : Nat) (s1 : Int)  (q0_ : Nat) (hkq0_ : ksC[q0_]? = some 2) (w0 : va_W) (sz : Nat) (hT : TW ksC ad cy B qr s1 w0)  : Met l yX2_isFull (wu yX2_isFull cX2_isFull 1 (some .boolean)) ({ frames := 1, cells := 0, slots := 0, locals := 12 }) (va_Pc [.ref (ad q0_)] (wpreS adK adV dC dI cy sz w0)) (va_Qi (Pz_X2_isFull_1 ad cy B qr s1 q0_ w0) (fun u : va_W => wpost dC dI cy (va_A w0 sz) u) (va_A w0 sz)) 0 0 (va_A w0 sz) := by
  refine Met.ofW (cc := cX2_isFull) (maxL := 1) (ret := (some .boolean)) (by decide) rfl ?_
  intro p e s m args below meth c s₁ Bk hml hv
  obtain ⟨rfl, ⟨hsz, hP, hK, hD0⟩, hE, hSR⟩ := hv
  have hx := Bk.exec
  have hb := Bk.bytes
  have hr := Bk.returns
  have hlocks := Bk.notSynchronized
  have hC : CallFix p m c cX2_isFull 1 s _ (wu yX2_isFull cX2_isFull 1 (some .boolean)) RX2 := ⟨hx, hb, hml, findClass_of_methodNamed Bk.named, atoms_spec (ws := (wu yX2_isFull cX2_isFull 1 (some .boolean))) Bk.pre⟩
  subst hsz
  have hD := hD0.self (sz := s.heap.size)
  generalize hAe : va_A w0 s.heap.size = A at hD hE ⊢
  have hA : ∀ q : Nat, s.heap.size ≤ q → A q := fun q h => by rw [← hAe]; exact Or.inr h
  have hw : Wd dC dI A s.heap s.heap [] w0 := ⟨hP, hD, va_S.rf⟩
  have hF : FE ksC ([] : List (Nat × Nat × Nat)) w0 w0 := FE.rf
  have hl := lv_entry ([.ref (ad q0_)]) (n := 1) (Nat.le_of_ble_eq_true rfl)
  rw [lg_entry_eq]
  generalize (lg_sl ([.ref (ad q0_)]) ++ List.replicate (1 - (lg_sl ([.ref (ad q0_)])).length) Slot.unset).toArray = ls at hl ⊢
  have hl : lv_has ls 1 [(0, .ref (ad q0_))] := hl
  generalize hloc : ([] : List Loc) = locs at hw ⊢
  have hinX2 : ∀ w ∈ u_ws RX2 TX2 6, w ∈ (wu yX2_isFull cX2_isFull 1 (some .boolean)) := fun _ h => List.mem_cons_of_mem _ (up_74 h)
  have hM : TT (fun n => m_X2_isFull n q0_ (sI w0)) (fun n => m_X2_isFull n q0_ (sI w0)) := TT.rf
  refine lv_aload_n hx hb dX2_isFull_0 rfl (lv_at hl 0 rfl) ?_
  refine tk_geti hC hK hw hT hinX2 hkq0_ (by decide) rfl 4 (by decide) (List.mem_cons_of_mem _ uw_27_0) rfl rfl dX2_isFull_1 (fun x1 c2 rx1 tx1 => ?_)
  replace hM := hM.rd (sI_at c2)
  refine lv_bipush (v := 12) hx hb dX2_isFull_4 (by decide) ?_
  refine lv_icmp_lt (tgt := 13) hx hb dX2_isFull_6 (by decide) (fun c3 => ?_) (fun c3 => ?_)
  · have c3 : x1.toInt < (12 : Int) := wk_lt.mp c3
    replace hM := hM.pos c3
    refine lv_iconst (v := 0) hx hb dX2_isFull_13 (by decide) ?_
    exact tk_zret hC hr rfl hlocks hK ⟨hT, hF, hM.ret (by decide), (Or.inl ⟨rfl, ⟨x1, c2, (show 0 ≤ x1.toInt by first | with_reducible assumption | omega), (show x1.toInt ≤ 11 by first | with_reducible assumption | omega)⟩⟩)⟩ hw dX2_isFull_14
  · have c3 : (12 : Int) ≤ x1.toInt := wk_ltF c3
    replace hM := hM.neg (Int.not_lt.mpr c3)
    refine lv_iconst (v := 1) hx hb dX2_isFull_9 (by decide) ?_
    refine lv_goto (tgt := 14) hx hb dX2_isFull_10 (by decide) ?_
    exact tk_zret hC hr rfl hlocks hK ⟨hT, hF, hM.ret (by decide), (Or.inr ⟨rfl, ⟨x1, c2, (show 12 ≤ x1.toInt by first | with_reducible assumption | omega), (show x1.toInt ≤ 12 by first | with_reducible assumption | omega)⟩⟩)⟩ hw dX2_isFull_14
abbrev Pz_X2_addClause_1 (ad : Nat → Nat) (cy : Nat → ClassId) (B : Int) (qr : Nat) (s1 : Int) (q0_ : Nat) (a1 : Int32) (w0 : va_W) : va_W → Prop := fun u => TW ksC ad cy B qr s1 u ∧ FE ksC [(2, 4, 4), (2, 5, 5), (21, 0, 12), (22, 0, 13)] w0 u ∧ Ev (fun n => m_X2_addClause n q0_ a1.toInt (sI w0)) (0, sI u) ∧ (((∃ y : Int32, gi u q0_ 4 = y ∧ 1 ≤ y.toInt ∧ y.toInt ≤ 12)))
set_option maxHeartbeats 4000000 in
set_option maxRecDepth 100000 in
theorem kz_X2_addClause_1 (l : Launch) (adK adV : Nat → Nat) (dC : Nat → ClassId) (dI : Nat → Nat → Nat) (cy : Nat → ClassId) (ad : Nat → Nat) (B : Int) (hB0 : 2147483648 ≤ B) (hB1 : B ≤ 1152921504606846976) (qr : Nat) (s1 : Int)  (q0_ : Nat) (hkq0_ : ksC[q0_]? = some 2) (a1 : Int32) (ra1 : (-1) ≤ a1.toInt) (ta1 : a1.toInt ≤ 18) (w0 : va_W) (sz : Nat) (hT : TW ksC ad cy B qr s1 w0)  : Met l yX2_addClause (wu yX2_addClause cX2_addClause 2 none) ({ frames := 2, cells := 0, slots := 0, locals := 32 }) (va_Pc [.ref (ad q0_), .int a1] (wpreS adK adV dC dI cy sz w0)) (va_Qv (Pz_X2_addClause_1 ad cy B qr s1 q0_ a1 w0) (fun u : va_W => wpost dC dI cy (va_A w0 sz) u) (va_A w0 sz)) 0 0 (va_A w0 sz) := by
  refine Met.ofW (cc := cX2_addClause) (maxL := 2) (ret := none) (by decide) rfl ?_
  intro p e s m args below meth c s₁ Bk hml hv
  obtain ⟨rfl, ⟨hsz, hP, hK, hD0⟩, hE, hSR⟩ := hv
  have hx := Bk.exec
  have hb := Bk.bytes
  have hr := Bk.returns
  have hlocks := Bk.notSynchronized
  have hC : CallFix p m c cX2_addClause 2 s _ (wu yX2_addClause cX2_addClause 2 none) RX2 := ⟨hx, hb, hml, findClass_of_methodNamed Bk.named, atoms_spec (ws := (wu yX2_addClause cX2_addClause 2 none)) Bk.pre⟩
  subst hsz
  have hD := hD0.self (sz := s.heap.size)
  generalize hAe : va_A w0 s.heap.size = A at hD hE ⊢
  have hA : ∀ q : Nat, s.heap.size ≤ q → A q := fun q h => by rw [← hAe]; exact Or.inr h
  have hw : Wd dC dI A s.heap s.heap [] w0 := ⟨hP, hD, va_S.rf⟩
  have hF : FE ksC [(2, 4, 4), (2, 5, 5), (21, 0, 12), (22, 0, 13)] w0 w0 := FE.rf
  have hl := lv_entry ([.ref (ad q0_), .int a1]) (n := 2) (Nat.le_of_ble_eq_true rfl)
  rw [lg_entry_eq]
  generalize (lg_sl ([.ref (ad q0_), .int a1]) ++ List.replicate (2 - (lg_sl ([.ref (ad q0_), .int a1])).length) Slot.unset).toArray = ls at hl ⊢
  have hl : lv_has ls 2 [(0, .ref (ad q0_)), (1, .int a1)] := hl
  generalize hloc : ([] : List Loc) = locs at hw ⊢
  have hinX2 : ∀ w ∈ u_ws RX2 TX2 6, w ∈ (wu yX2_addClause cX2_addClause 2 none) := fun _ h => List.mem_cons_of_mem _ (up_74 h)
  have J61 : ∀ (f61_q0__4 : Int32) (H : Heap) (locs : List Loc) (ls : Array Slot) (w1 : va_W), (-1) ≤ a1.toInt → a1.toInt ≤ 18 → 1 ≤ f61_q0__4.toInt → f61_q0__4.toInt ≤ 12 → Wd dC dI A s.heap H locs w1 → TW ksC ad cy B qr s1 w1 → FE ksC [(2, 4, 4), (2, 5, 5), (21, 0, 12), (22, 0, 13)] w0 w1 → gi w1 q0_ 4 = f61_q0__4 → TT (fun n => m_X2_addClause n q0_ a1.toInt (sI w0)) (fun n => b_X2_addClause_61 n q0_ (sI w1)) → lv_has ls 2 [(0, .ref (ad q0_)), (1, .int a1)] → W p l e ({ frames := 2, cells := 0, slots := 0, locals := 32 }) s m (List.toArray [.ref (ad q0_), .int a1]) below meth c H locs 0 0 (MQ below (va_Qv (Pz_X2_addClause_1 ad cy B qr s1 q0_ a1 w0) (fun u : va_W => wpost dC dI cy A u) A) (List.toArray [.ref (ad q0_), .int a1]) s 0 0 A) (F0 m 61 ls []) := by
    intro f61_q0__4 H locs ls w1 r2 t3 r4 t5 hw hT hF c6 hM hl
    exact tk_vret hC hr hlocks hK ⟨hT, hF, hM.ret rfl, ⟨f61_q0__4, c6, (show 1 ≤ f61_q0__4.toInt from r4), (show f61_q0__4.toInt ≤ 12 from t5)⟩⟩ hw dX2_addClause_61
  have hM : TT (fun n => m_X2_addClause n q0_ a1.toInt (sI w0)) (fun n => m_X2_addClause n q0_ a1.toInt (sI w0)) := TT.rf
  refine lv_aload_n hx hb dX2_addClause_0 rfl (lv_at hl 0 rfl) ?_
  refine tk_Vi hC hK hw hT hA hE hSR hkq0_ (by decide) rfl (kz_X2_isFull_1 l adK adV dC dI cy ad B hB0 (Int.le_trans hB1 (by decide)) qr s1   q0_ hkq0_ w0 s.heap.size hT ) (cwV 0 hC.2.2.2.2 uV_RX2_32 rfl rfl rfl (by decide +kernel) ⟨Nat.le_of_ble_eq_true rfl, Nat.le_of_ble_eq_true rfl⟩) rfl hl.1 rfl (Nat.le_of_ble_eq_true rfl) dX2_addClause_1 (fun r7 w9 H locs hp8 hw => ?_)
  obtain ⟨hT, k10, hv16, hg15⟩ := hp8
  have hF := hF.tr k10 (by decide)
  rcases hg15 with ⟨rfl, ⟨x11, c12, rx11, tx11⟩⟩ | ⟨rfl, ⟨x13, c14, rx13, tx13⟩⟩
  · replace hM := hM.call (r' := 0) hv16 (by decide)
    refine lv_if_ne (tgt := 61) hx hb dX2_addClause_4 (by decide) (fun c => absurd (by decide) c) (fun _ => ?_)
    replace hM := hM.neg (by decide)
    refine lv_aload_n hx hb dX2_addClause_7 rfl (lv_at hl 0 rfl) ?_
    refine tk_getO hC hK hw hT hinX2 hkq0_ (by decide) rfl 0 (by decide) (List.mem_cons_of_mem _ uw_3_5) rfl rfl dX2_addClause_8 ?_
    refine lv_aload_n hx hb dX2_addClause_11 rfl (lv_at hl 0 rfl) ?_
    refine tk_geti hC hK hw hT hinX2 hkq0_ (by decide) rfl 4 (by decide) (List.mem_cons_of_mem _ uw_27_0) rfl rfl dX2_addClause_12 (fun x17 c18 rx17 tx17 => ?_)
    refine wk_top x11 (c18.symm.trans c12) ?_
    replace hM := hM.rd (sI_at c12)
    refine lv_iload_n hx hb dX2_addClause_15 rfl (lv_at hl 1 rfl) ?_
    refine tk_iast hC hK hw hT (kC_2_1 hkq0_) (by decide) rfl rfl (show 0 ≤ x11.toInt by first | with_reducible assumption | omega) (show x11.toInt < 12 by first | with_reducible assumption | omega) (wk_i32 a1).1 (wk_i32 a1).2 dX2_addClause_16 (fun H locs w19 hw hT k21 c20 => ?_)
    replace hM := hM.wr (sI_up k21 c20)
    have hF := hF.put (kC_2_1 hkq0_) (inE_of (a := 0) (b := 12) (by decide) (show 0 ≤ x11.toInt.toNat by omega) (show x11.toInt.toNat ≤ 12 by omega)) k21
    have c22 := k21.gi (Or.inl (tk_ne hkq0_ (kC_2_1 hkq0_) (by decide))) c12
    refine lv_aload_n hx hb dX2_addClause_17 rfl (lv_at hl 0 rfl) ?_
    refine lv_aload_n hx hb dX2_addClause_18 rfl (lv_at hl 0 rfl) ?_
    refine tk_geti hC hK hw hT hinX2 hkq0_ (by decide) rfl 5 (by decide) (List.mem_cons_of_mem _ uw_27_2) rfl rfl dX2_addClause_19 (fun x23 c24 rx23 tx23 => ?_)
    replace hM := hM.rd (sI_at c24)
    refine lv_if_ne (tgt := 30) hx hb dX2_addClause_22 (by decide) (fun c25 => ?_) (fun c25 => ?_)
    · have c25 : ¬ x23.toInt = (0 : Int) := wk_eqF c25
      replace hM := hM.pos c25
      refine lv_iconst (v := 1) hx hb dX2_addClause_30 (by decide) ?_
      refine lv_goto (tgt := 35) hx hb dX2_addClause_31 (by decide) ?_
      refine tk_putz hC hK hw hT hinX2 tyX2_ok nmX2 hkq0_ (by decide) rfl rfl 5 (by decide) (List.mem_cons_of_mem _ uw_27_2) rfl rfl rfl rfl (by decide) (by decide) dX2_addClause_35 (fun H locs w26 hw hT k28 c27 => ?_)
      replace hM := hM.wr (sI_upc k28 c27 (by decide))
      have hF := hF.put hkq0_ (k := 5) (by decide) k28
      have c29 := k28.gi (Or.inr (by decide)) c22
      refine lv_aload_n hx hb dX2_addClause_38 rfl (lv_at hl 0 rfl) ?_
      refine lv_dup hx hb dX2_addClause_39 rfl ?_
      refine tk_geti hC hK hw hT hinX2 hkq0_ (by decide) rfl 4 (by decide) (List.mem_cons_of_mem _ uw_27_0) rfl rfl dX2_addClause_40 (fun x30 c31 rx30 tx30 => ?_)
      refine wk_top x11 (c31.symm.trans c29) ?_
      replace hM := hM.rd (sI_at c29)
      refine lv_iconst (v := 1) hx hb dX2_addClause_43 (by decide) ?_
      refine lv_iadd hx hb dX2_addClause_44 ?_
      refine lv_topi (fun x32 ex32 => ?_)
      have ezx32 := ex32
      have ex32 : x32.toInt = x11.toInt + (1 : Int) := by rw [ex32]; exact wk_add (show (-2147483648) ≤ x11.toInt + (1 : Int) by omega) (show x11.toInt + (1 : Int) ≤ 2147483647 by omega)
      replace hM := hM.lt ex32.symm
      refine tk_puti hC hK hw hT hinX2 tyX2_ok nmX2 hkq0_ (by decide) rfl rfl 4 (by decide) (List.mem_cons_of_mem _ uw_27_0) rfl rfl rfl rfl (show 0 ≤ x32.toInt by first | with_reducible assumption | omega) (show x32.toInt ≤ 12 by first | with_reducible assumption | omega) dX2_addClause_45 (fun H locs w33 hw hT k35 c34 => ?_)
      replace hM := hM.wr (sI_up k35 c34)
      have hF := hF.put hkq0_ (k := 4) (by decide) k35
      have c36 := k35.gi (Or.inr (by decide)) c27
      refine lv_aload_n hx hb dX2_addClause_48 rfl (lv_at hl 0 rfl) ?_
      refine tk_getO hC hK hw hT hinX2 hkq0_ (by decide) rfl 1 (by decide) (List.mem_cons_of_mem _ uw_3_6) rfl rfl dX2_addClause_49 ?_
      refine lv_aload_n hx hb dX2_addClause_52 rfl (lv_at hl 0 rfl) ?_
      refine tk_geti hC hK hw hT hinX2 hkq0_ (by decide) rfl 4 (by decide) (List.mem_cons_of_mem _ uw_27_0) rfl rfl dX2_addClause_53 (fun x37 c38 rx37 tx37 => ?_)
      refine wk_top x32 (c38.symm.trans c34) ?_
      replace hM := hM.rd (sI_at c34)
      refine lv_aload_n hx hb dX2_addClause_56 rfl (lv_at hl 0 rfl) ?_
      refine tk_geti hC hK hw hT hinX2 hkq0_ (by decide) rfl 3 (by decide) (List.mem_cons_of_mem _ uw_27_1) rfl rfl dX2_addClause_57 (fun x39 c40 rx39 tx39 => ?_)
      replace hM := hM.rd (sI_at c40)
      refine tk_iast hC hK hw hT (kC_2_2 hkq0_) (by decide) rfl rfl (show 0 ≤ x32.toInt by first | with_reducible assumption | omega) (show x32.toInt < 13 by first | with_reducible assumption | omega) (show 0 ≤ x39.toInt by first | with_reducible assumption | omega) (show x39.toInt ≤ 400 by first | with_reducible assumption | omega) dX2_addClause_60 (fun H locs w41 hw hT k43 c42 => ?_)
      replace hM := hM.wr (sI_up k43 c42)
      have hF := hF.put (kC_2_2 hkq0_) (inE_of (a := 0) (b := 13) (by decide) (show 0 ≤ x32.toInt.toNat by omega) (show x32.toInt.toNat ≤ 13 by omega)) k43
      have c44 := k43.gi (Or.inl (tk_ne hkq0_ (kC_2_2 hkq0_) (by decide))) c36
      have c45 := k43.gi (Or.inl (tk_ne hkq0_ (kC_2_2 hkq0_) (by decide))) c34
      have c46 := k43.gi (Or.inl (tk_ne hkq0_ (kC_2_2 hkq0_) (by decide))) c40
      exact J61 x32 H locs ls w41 (show (-1) ≤ a1.toInt from ra1) (show a1.toInt ≤ 18 from ta1) (show 1 ≤ x32.toInt by first | with_reducible assumption | omega) (show x32.toInt ≤ 12 by first | with_reducible assumption | omega)  hw hT hF c45 hM (lv_sub hl [0, 1] rfl)
    · have c25 : x23.toInt = (0 : Int) := wk_eq.mp c25
      replace hM := hM.neg (fun q => q c25)
      refine lv_iload_n hx hb dX2_addClause_25 rfl (lv_at hl 1 rfl) ?_
      refine lv_iconst (v := 1) hx hb dX2_addClause_26 (by decide) ?_
      refine lv_icmp_ne (tgt := 34) hx hb dX2_addClause_27 (by decide) (fun c47 => ?_) (fun c47 => ?_)
      · have c47 : ¬ a1.toInt = (1 : Int) := wk_eqF c47
        replace hM := hM.pos c47
        refine lv_iconst (v := 0) hx hb dX2_addClause_34 (by decide) ?_
        refine tk_putz hC hK hw hT hinX2 tyX2_ok nmX2 hkq0_ (by decide) rfl rfl 5 (by decide) (List.mem_cons_of_mem _ uw_27_2) rfl rfl rfl rfl (by decide) (by decide) dX2_addClause_35 (fun H locs w48 hw hT k50 c49 => ?_)
        replace hM := hM.wr (sI_upc k50 c49 (by decide))
        have hF := hF.put hkq0_ (k := 5) (by decide) k50
        have c51 := k50.gi (Or.inr (by decide)) c22
        refine lv_aload_n hx hb dX2_addClause_38 rfl (lv_at hl 0 rfl) ?_
        refine lv_dup hx hb dX2_addClause_39 rfl ?_
        refine tk_geti hC hK hw hT hinX2 hkq0_ (by decide) rfl 4 (by decide) (List.mem_cons_of_mem _ uw_27_0) rfl rfl dX2_addClause_40 (fun x52 c53 rx52 tx52 => ?_)
        refine wk_top x11 (c53.symm.trans c51) ?_
        replace hM := hM.rd (sI_at c51)
        refine lv_iconst (v := 1) hx hb dX2_addClause_43 (by decide) ?_
        refine lv_iadd hx hb dX2_addClause_44 ?_
        refine lv_topi (fun x54 ex54 => ?_)
        have ezx54 := ex54
        have ex54 : x54.toInt = x11.toInt + (1 : Int) := by rw [ex54]; exact wk_add (show (-2147483648) ≤ x11.toInt + (1 : Int) by omega) (show x11.toInt + (1 : Int) ≤ 2147483647 by omega)
        replace hM := hM.lt ex54.symm
        refine tk_puti hC hK hw hT hinX2 tyX2_ok nmX2 hkq0_ (by decide) rfl rfl 4 (by decide) (List.mem_cons_of_mem _ uw_27_0) rfl rfl rfl rfl (show 0 ≤ x54.toInt by first | with_reducible assumption | omega) (show x54.toInt ≤ 12 by first | with_reducible assumption | omega) dX2_addClause_45 (fun H locs w55 hw hT k57 c56 => ?_)
        replace hM := hM.wr (sI_up k57 c56)
        have hF := hF.put hkq0_ (k := 4) (by decide) k57
        have c58 := k57.gi (Or.inr (by decide)) c49
        refine lv_aload_n hx hb dX2_addClause_48 rfl (lv_at hl 0 rfl) ?_
        refine tk_getO hC hK hw hT hinX2 hkq0_ (by decide) rfl 1 (by decide) (List.mem_cons_of_mem _ uw_3_6) rfl rfl dX2_addClause_49 ?_
        refine lv_aload_n hx hb dX2_addClause_52 rfl (lv_at hl 0 rfl) ?_
        refine tk_geti hC hK hw hT hinX2 hkq0_ (by decide) rfl 4 (by decide) (List.mem_cons_of_mem _ uw_27_0) rfl rfl dX2_addClause_53 (fun x59 c60 rx59 tx59 => ?_)
        refine wk_top x54 (c60.symm.trans c56) ?_
        replace hM := hM.rd (sI_at c56)
        refine lv_aload_n hx hb dX2_addClause_56 rfl (lv_at hl 0 rfl) ?_
        refine tk_geti hC hK hw hT hinX2 hkq0_ (by decide) rfl 3 (by decide) (List.mem_cons_of_mem _ uw_27_1) rfl rfl dX2_addClause_57 (fun x61 c62 rx61 tx61 => ?_)
        replace hM := hM.rd (sI_at c62)
        refine tk_iast hC hK hw hT (kC_2_2 hkq0_) (by decide) rfl rfl (show 0 ≤ x54.toInt by first | with_reducible assumption | omega) (show x54.toInt < 13 by first | with_reducible assumption | omega) (show 0 ≤ x61.toInt by first | with_reducible assumption | omega) (show x61.toInt ≤ 400 by first | with_reducible assumption | omega) dX2_addClause_60 (fun H locs w63 hw hT k65 c64 => ?_)
        replace hM := hM.wr (sI_up k65 c64)
        have hF := hF.put (kC_2_2 hkq0_) (inE_of (a := 0) (b := 13) (by decide) (show 0 ≤ x54.toInt.toNat by omega) (show x54.toInt.toNat ≤ 13 by omega)) k65
        have c66 := k65.gi (Or.inl (tk_ne hkq0_ (kC_2_2 hkq0_) (by decide))) c58
        have c67 := k65.gi (Or.inl (tk_ne hkq0_ (kC_2_2 hkq0_) (by decide))) c56
        have c68 := k65.gi (Or.inl (tk_ne hkq0_ (kC_2_2 hkq0_) (by decide))) c62
        exact J61 x54 H locs ls w63 (show (-1) ≤ a1.toInt from ra1) (show a1.toInt ≤ 18 from ta1) (show 1 ≤ x54.toInt by first | with_reducible assumption | omega) (show x54.toInt ≤ 12 by first | with_reducible assumption | omega)  hw hT hF c67 hM (lv_sub hl [0, 1] rfl)
      · have c47 : a1.toInt = (1 : Int) := wk_eq.mp c47
        replace hM := hM.neg (fun q => q c47)
        refine lv_iconst (v := 1) hx hb dX2_addClause_30 (by decide) ?_
        refine lv_goto (tgt := 35) hx hb dX2_addClause_31 (by decide) ?_
        refine tk_putz hC hK hw hT hinX2 tyX2_ok nmX2 hkq0_ (by decide) rfl rfl 5 (by decide) (List.mem_cons_of_mem _ uw_27_2) rfl rfl rfl rfl (by decide) (by decide) dX2_addClause_35 (fun H locs w69 hw hT k71 c70 => ?_)
        replace hM := hM.wr (sI_upc k71 c70 (by decide))
        have hF := hF.put hkq0_ (k := 5) (by decide) k71
        have c72 := k71.gi (Or.inr (by decide)) c22
        refine lv_aload_n hx hb dX2_addClause_38 rfl (lv_at hl 0 rfl) ?_
        refine lv_dup hx hb dX2_addClause_39 rfl ?_
        refine tk_geti hC hK hw hT hinX2 hkq0_ (by decide) rfl 4 (by decide) (List.mem_cons_of_mem _ uw_27_0) rfl rfl dX2_addClause_40 (fun x73 c74 rx73 tx73 => ?_)
        refine wk_top x11 (c74.symm.trans c72) ?_
        replace hM := hM.rd (sI_at c72)
        refine lv_iconst (v := 1) hx hb dX2_addClause_43 (by decide) ?_
        refine lv_iadd hx hb dX2_addClause_44 ?_
        refine lv_topi (fun x75 ex75 => ?_)
        have ezx75 := ex75
        have ex75 : x75.toInt = x11.toInt + (1 : Int) := by rw [ex75]; exact wk_add (show (-2147483648) ≤ x11.toInt + (1 : Int) by omega) (show x11.toInt + (1 : Int) ≤ 2147483647 by omega)
        replace hM := hM.lt ex75.symm
        refine tk_puti hC hK hw hT hinX2 tyX2_ok nmX2 hkq0_ (by decide) rfl rfl 4 (by decide) (List.mem_cons_of_mem _ uw_27_0) rfl rfl rfl rfl (show 0 ≤ x75.toInt by first | with_reducible assumption | omega) (show x75.toInt ≤ 12 by first | with_reducible assumption | omega) dX2_addClause_45 (fun H locs w76 hw hT k78 c77 => ?_)
        replace hM := hM.wr (sI_up k78 c77)
        have hF := hF.put hkq0_ (k := 4) (by decide) k78
        have c79 := k78.gi (Or.inr (by decide)) c70
        refine lv_aload_n hx hb dX2_addClause_48 rfl (lv_at hl 0 rfl) ?_
        refine tk_getO hC hK hw hT hinX2 hkq0_ (by decide) rfl 1 (by decide) (List.mem_cons_of_mem _ uw_3_6) rfl rfl dX2_addClause_49 ?_
        refine lv_aload_n hx hb dX2_addClause_52 rfl (lv_at hl 0 rfl) ?_
        refine tk_geti hC hK hw hT hinX2 hkq0_ (by decide) rfl 4 (by decide) (List.mem_cons_of_mem _ uw_27_0) rfl rfl dX2_addClause_53 (fun x80 c81 rx80 tx80 => ?_)
        refine wk_top x75 (c81.symm.trans c77) ?_
        replace hM := hM.rd (sI_at c77)
        refine lv_aload_n hx hb dX2_addClause_56 rfl (lv_at hl 0 rfl) ?_
        refine tk_geti hC hK hw hT hinX2 hkq0_ (by decide) rfl 3 (by decide) (List.mem_cons_of_mem _ uw_27_1) rfl rfl dX2_addClause_57 (fun x82 c83 rx82 tx82 => ?_)
        replace hM := hM.rd (sI_at c83)
        refine tk_iast hC hK hw hT (kC_2_2 hkq0_) (by decide) rfl rfl (show 0 ≤ x75.toInt by first | with_reducible assumption | omega) (show x75.toInt < 13 by first | with_reducible assumption | omega) (show 0 ≤ x82.toInt by first | with_reducible assumption | omega) (show x82.toInt ≤ 400 by first | with_reducible assumption | omega) dX2_addClause_60 (fun H locs w84 hw hT k86 c85 => ?_)
        replace hM := hM.wr (sI_up k86 c85)
        have hF := hF.put (kC_2_2 hkq0_) (inE_of (a := 0) (b := 13) (by decide) (show 0 ≤ x75.toInt.toNat by omega) (show x75.toInt.toNat ≤ 13 by omega)) k86
        have c87 := k86.gi (Or.inl (tk_ne hkq0_ (kC_2_2 hkq0_) (by decide))) c79
        have c88 := k86.gi (Or.inl (tk_ne hkq0_ (kC_2_2 hkq0_) (by decide))) c77
        have c89 := k86.gi (Or.inl (tk_ne hkq0_ (kC_2_2 hkq0_) (by decide))) c83
        exact J61 x75 H locs ls w84 (show (-1) ≤ a1.toInt from ra1) (show a1.toInt ≤ 18 from ta1) (show 1 ≤ x75.toInt by first | with_reducible assumption | omega) (show x75.toInt ≤ 12 by first | with_reducible assumption | omega)  hw hT hF c88 hM (lv_sub hl [0, 1] rfl)
  · replace hM := hM.call (r' := 1) hv16 (by decide)
    refine lv_if_ne (tgt := 61) hx hb dX2_addClause_4 (by decide) (fun _ => ?_) (fun c => absurd c (by decide))
    replace hM := hM.pos (by decide)
    exact J61 x13 H locs ls w9 (show (-1) ≤ a1.toInt from ra1) (show a1.toInt ≤ 18 from ta1) (show 1 ≤ x13.toInt by first | with_reducible assumption | omega) (show x13.toInt ≤ 12 by first | with_reducible assumption | omega)  hw hT hF c14 hM (lv_sub hl [0, 1] rfl)
abbrev Pz_X6_takeWord_1 (ad : Nat → Nat) (cy : Nat → ClassId) (B : Int) (qr : Nat) (s1 : Int)  (w0 : va_W) : Int32 → va_W → Prop := fun r u => TW ksC ad cy B qr s1 u ∧ FE ksC [(6, 1, 1), (6, 3, 3)] w0 u ∧ Ev (fun n => m_X6_takeWord n 1 3 (sI w0)) (r.toInt, sI u) ∧ ((r = 0) ∨ (r = 1 ∧ (∃ y : Int32, gi u 1 1 = y ∧ 2 ≤ y.toInt ∧ y.toInt ≤ 400)))
set_option maxHeartbeats 4000000 in
set_option maxRecDepth 100000 in
theorem kz_X6_takeWord_1 (l : Launch) (adK adV : Nat → Nat) (dC : Nat → ClassId) (dI : Nat → Nat → Nat) (cy : Nat → ClassId) (ad : Nat → Nat) (B : Int) (hB0 : 2147483648 ≤ B) (hB1 : B ≤ 1152921504606846976) (qr : Nat) (s1 : Int)   (w0 : va_W) (sz : Nat) (hT : TW ksC ad cy B qr s1 w0)  : Met l yX6_takeWord (wu yX6_takeWord cX6_takeWord 4 (some .boolean)) ({ frames := 5, cells := 0, slots := 0, locals := 141 }) (va_Pc [.ref (ad 1), .ref (adK 3)] (wpreS adK adV dC dI cy sz w0)) (va_Qi (Pz_X6_takeWord_1 ad cy B qr s1  w0) (fun u : va_W => wpost dC dI cy (va_A w0 sz) u) (va_A w0 sz)) 0 0 (va_A w0 sz) := by
  refine Met.ofW (cc := cX6_takeWord) (maxL := 4) (ret := (some .boolean)) (by decide) rfl ?_
  intro p e s m args below meth c s₁ Bk hml hv
  obtain ⟨rfl, ⟨hsz, hP, hK, hD0⟩, hE, hSR⟩ := hv
  have hx := Bk.exec
  have hb := Bk.bytes
  have hr := Bk.returns
  have hlocks := Bk.notSynchronized
  have hC : CallFix p m c cX6_takeWord 4 s _ (wu yX6_takeWord cX6_takeWord 4 (some .boolean)) RX6 := ⟨hx, hb, hml, findClass_of_methodNamed Bk.named, atoms_spec (ws := (wu yX6_takeWord cX6_takeWord 4 (some .boolean))) Bk.pre⟩
  subst hsz
  have hD := hD0.self (sz := s.heap.size)
  generalize hAe : va_A w0 s.heap.size = A at hD hE ⊢
  have hA : ∀ q : Nat, s.heap.size ≤ q → A q := fun q h => by rw [← hAe]; exact Or.inr h
  have hw : Wd dC dI A s.heap s.heap [] w0 := ⟨hP, hD, va_S.rf⟩
  have hF : FE ksC [(6, 1, 1), (6, 3, 3)] w0 w0 := FE.rf
  have hl := lv_entry ([.ref (ad 1), .ref (adK 3)]) (n := 4) (Nat.le_of_ble_eq_true rfl)
  rw [lg_entry_eq]
  generalize (lg_sl ([.ref (ad 1), .ref (adK 3)]) ++ List.replicate (4 - (lg_sl ([.ref (ad 1), .ref (adK 3)])).length) Slot.unset).toArray = ls at hl ⊢
  have hl : lv_has ls 4 [(0, .ref (ad 1)), (1, .ref (adK 3))] := hl
  generalize hloc : ([] : List Loc) = locs at hw ⊢
  have hinX6 : ∀ w ∈ u_ws RX6 TX6 5, w ∈ (wu yX6_takeWord cX6_takeWord 4 (some .boolean)) := fun _ h => List.mem_cons_of_mem _ (up_72 h)
  have L27 : ∀ (n27 : Nat) (v27_2 : Int32) (v27_3 : Int32) (f27_1_1 : Int32) (H : Heap) (locs : List Loc) (ls : Array Slot) (w1 : va_W), 2 ≤ v27_2.toInt → v27_2.toInt ≤ 400 → 0 ≤ v27_3.toInt → v27_3.toInt ≤ 2 → 0 ≤ f27_1_1.toInt → f27_1_1.toInt ≤ 398 → (2 - v27_3.toInt).toNat < n27 → Wd dC dI A s.heap H locs w1 → TW ksC ad cy B qr s1 w1 → FE ksC [(6, 1, 1), (6, 3, 3)] w0 w1 → gi w1 1 1 = f27_1_1 → TT (fun n => m_X6_takeWord n 1 3 (sI w0)) (fun n => j_X6_takeWord 1 3 n 27 [v27_2.toInt, v27_3.toInt] (sI w1)) → lv_has ls 4 [(0, .ref (ad 1)), (1, .ref (adK 3)), (2, .int v27_2), (3, .int v27_3)] → W p l e ({ frames := 5, cells := 0, slots := 0, locals := 141 }) s m (List.toArray [.ref (ad 1), .ref (adK 3)]) below meth c H locs 0 0 (MQ below (va_Qi (Pz_X6_takeWord_1 ad cy B qr s1  w0) (fun u : va_W => wpost dC dI cy A u) A) (List.toArray [.ref (ad 1), .ref (adK 3)]) s 0 0 A) (F0 m 27 ls []) := by
    intro n27
    induction n27 with
    | zero => intro v27_2 v27_3 f27_1_1 H locs ls w1 r2 t3 r4 t5 r6 t7 hm27 hw hT hF c8 hM hl; omega
    | succ n27 ih27 =>
      intro v27_2 v27_3 f27_1_1 H locs ls w1 r2 t3 r4 t5 r6 t7 hm27 hw hT hF c8 hM hl
      replace hM := hM.suc (fun _ => e_X6_takeWord_27)
      refine lv_iload_n hx hb dX6_takeWord_27 rfl (lv_at hl 3 rfl) ?_
      refine lv_aload_n hx hb dX6_takeWord_28 rfl (lv_at hl 1 rfl) ?_
      refine tk_ViT hC hK hw hA hE hSR (s_length l adK adV dC dI cy 3 (by decide) H.size) (cwV 0 hC.2.2.2.2 uV_RX6_56 rfl rfl rfl (by decide +kernel) ⟨Nat.le_of_ble_eq_true rfl, Nat.le_of_ble_eq_true rfl⟩) 3 (by decide) rfl rfl rfl hl.1 rfl (Nat.le_of_ble_eq_true rfl) dX6_takeWord_29 (fun r9 H locs hp10 hw => ?_)
      obtain ⟨-, hp10⟩ := hp10
      obtain rfl : r9 = 2 := hp10
      replace hM := hM.lt (v := 2) (by decide)
      refine lv_icmp_ge (tgt := 62) hx hb dX6_takeWord_32 (by decide) (fun c11 => ?_) (fun c11 => ?_)
      · have c11 : (2 : Int) ≤ v27_3.toInt := wk_le.mp c11
        replace hM := hM.pos c11
        refine lv_aload_n hx hb dX6_takeWord_62 rfl (lv_at hl 0 rfl) ?_
        refine lv_iload_n hx hb dX6_takeWord_63 rfl (lv_at hl 2 rfl) ?_
        refine tk_puti hC hK hw hT hinX6 tyX6_ok nmX6 kC_at1 (by decide) rfl rfl 1 (by decide) (List.mem_cons_of_mem _ uw_9_16) rfl rfl rfl rfl (show 0 ≤ v27_2.toInt from Int.le_trans (by decide) r2) (show v27_2.toInt ≤ 400 from t3) dX6_takeWord_64 (fun H locs w12 hw hT k14 c13 => ?_)
        replace hM := hM.wr (sI_up k14 c13)
        have hF := hF.put kC_at1 (k := 1) (by decide) k14
        refine lv_iconst (v := 1) hx hb dX6_takeWord_67 (by decide) ?_
        exact tk_zret hC hr rfl hlocks hK ⟨hT, hF, hM.ret (by decide), (Or.inr ⟨rfl, ⟨v27_2, c13, (show 2 ≤ v27_2.toInt from r2), (show v27_2.toInt ≤ 400 from t3)⟩⟩)⟩ hw dX6_takeWord_68
      · have c11 : v27_3.toInt < (2 : Int) := wk_leF c11
        replace hM := hM.neg (Int.not_le.mpr c11)
        refine lv_aload_n hx hb dX6_takeWord_35 rfl (lv_at hl 0 rfl) ?_
        refine tk_getA hC hK hw hT hinX6 kC_at1 (by decide) rfl 0 (by decide) (List.mem_cons_of_mem _ uw_2_12) rfl rfl dX6_takeWord_36 ?_
        refine lv_aload_n hx hb dX6_takeWord_39 rfl (lv_at hl 0 rfl) ?_
        refine tk_geti hC hK hw hT hinX6 kC_at1 (by decide) rfl 1 (by decide) (List.mem_cons_of_mem _ uw_9_16) rfl rfl dX6_takeWord_40 (fun x15 c16 rx15 tx15 => ?_)
        refine wk_top f27_1_1 (c16.symm.trans c8) ?_
        replace hM := hM.rd (sI_at c8)
        refine lv_iload_n hx hb dX6_takeWord_43 rfl (lv_at hl 3 rfl) ?_
        refine lv_iadd hx hb dX6_takeWord_44 ?_
        refine lv_topi (fun x17 ex17 => ?_)
        have ezx17 := ex17
        have ex17 : x17.toInt = f27_1_1.toInt + v27_3.toInt := by rw [ex17]; exact wk_add (show (-2147483648) ≤ f27_1_1.toInt + v27_3.toInt by omega) (show f27_1_1.toInt + v27_3.toInt ≤ 2147483647 by omega)
        replace hM := hM.lt ex17.symm
        refine tk_iald hC hK hw hT kC_at2 rfl rfl (show 0 ≤ x17.toInt by first | with_reducible assumption | omega) (show x17.toInt < 400 by first | with_reducible assumption | omega) dX6_takeWord_45 (fun x18 c19 rx18 tx18 => ?_)
        have hox18 := c19
        replace hM := hM.rd (sI_at hox18)
        refine lv_aload_n hx hb dX6_takeWord_46 rfl (lv_at hl 1 rfl) ?_
        refine lv_iload_n hx hb dX6_takeWord_47 rfl (lv_at hl 3 rfl) ?_
        refine tk_ViT hC hK hw hA hE hSR (s_charAt l adK adV dC dI cy 3 (by decide) v27_3 (show 0 ≤ v27_3.toInt from r4) (show v27_3.toInt < 2 by first | with_reducible assumption | omega) H.size) (cwV 1 hC.2.2.2.2 uV_RX6_60 rfl rfl rfl (by decide +kernel) ⟨Nat.le_of_ble_eq_true rfl, Nat.le_of_ble_eq_true rfl⟩) 3 (by decide) rfl rfl rfl hl.1 rfl (Nat.le_of_ble_eq_true rfl) dX6_takeWord_48 (fun r20 H locs hp21 hw => ?_)
        obtain ⟨-, hp21⟩ := hp21
        replace hM := hM.lt (chS_e hp21 rfl)
        refine lv_icmp_eq (tgt := 56) hx hb dX6_takeWord_51 (by decide) (fun c22 => ?_) (fun c22 => ?_)
        · have c22 : x18.toInt = r20.toInt := wk_eq.mp c22
          replace hM := hM.pos c22
          obtain ⟨x23, ex23⟩ : ∃ y : Int32, y = v27_3 + Int32.ofInt 1 := ⟨_, rfl⟩
          have erx23 := ex23
          refine lv_iinc (v := x23) (lv' := [(3, .int x23), (0, .ref (ad 1)), (1, .ref (adK 3)), (2, .int v27_2)]) hx hb dX6_takeWord_56 hl (k := 3) rfl ex23.symm (by decide) rfl (fun ls hl => ?_)
          have ex23 : x23.toInt = v27_3.toInt + 1 := by rw [ex23]; exact wk_add (y := 1) (show -2147483648 ≤ v27_3.toInt + 1 by omega) (show v27_3.toInt + 1 ≤ 2147483647 by omega)
          replace hM := hM.lt ex23.symm
          refine lv_goto (tgt := 27) hx hb dX6_takeWord_59 (by decide) ?_
          exact ih27 v27_2 x23 f27_1_1 H locs ls w1 (show 2 ≤ v27_2.toInt from r2) (show v27_2.toInt ≤ 400 from t3) (show 0 ≤ x23.toInt by first | with_reducible assumption | omega) (show x23.toInt ≤ 2 by first | with_reducible assumption | omega) (show 0 ≤ f27_1_1.toInt from r6) (show f27_1_1.toInt ≤ 398 from t7) (show (2 - x23.toInt).toNat < n27 by first | exact tn_lt hm27 (by omega) (by omega) | omega) hw hT hF c8 hM (lv_sub hl [1, 2, 3, 0] rfl)
        · have c22 : ¬ x18.toInt = r20.toInt := wk_eqF c22
          replace hM := hM.neg c22
          refine lv_iconst (v := 0) hx hb dX6_takeWord_54 (by decide) ?_
          exact tk_zret hC hr rfl hlocks hK ⟨hT, hF, hM.ret (by decide), (Or.inl rfl)⟩ hw dX6_takeWord_55
  have hM : TT (fun n => m_X6_takeWord n 1 3 (sI w0)) (fun n => m_X6_takeWord n 1 3 (sI w0)) := TT.rf
  refine lv_aload_n hx hb dX6_takeWord_0 rfl (lv_at hl 0 rfl) ?_
  refine tk_Vi hC hK hw hT hA hE hSR kC_at1 (by decide) rfl (kz_X6_lookBehindBlanks_1 l adK adV dC dI cy ad B hB0 (Int.le_trans hB1 (by decide)) qr s1    w0 s.heap.size hT ) (cwV 0 hC.2.2.2.2 uV_RX6_28 rfl rfl rfl (by decide +kernel) ⟨Nat.le_of_ble_eq_true rfl, Nat.le_of_ble_eq_true rfl⟩) rfl hl.1 rfl (Nat.le_of_ble_eq_true rfl) dX6_takeWord_1 (fun r24 w26 H locs hp25 hw => ?_)
  obtain ⟨hT, k27, hv37, hg36⟩ := hp25
  have hF := hF.tr k27 (by decide)
  rcases hg36 with ⟨g28, g29, ⟨x30, c31, rx30, tx30⟩, ⟨x32, c33, rx32, tx32⟩, ⟨x34, c35, rx34, tx34⟩⟩ | rfl
  · replace hM := hM.call hv37 rfl
    refine lv_pop hx hb dX6_takeWord_4 rfl ?_
    refine lv_aload_n hx hb dX6_takeWord_5 rfl (lv_at hl 0 rfl) ?_
    refine tk_Vi hC hK hw hT hA hE hSR kC_at1 (by decide) rfl (kz_X6_endOfWord_1 l adK adV dC dI cy ad B hB0 (Int.le_trans hB1 (by decide)) qr s1    w26 H.size hT ) (cwV 0 hC.2.2.2.2 uV_RX6_53 rfl rfl rfl (by decide +kernel) ⟨Nat.le_of_ble_eq_true rfl, Nat.le_of_ble_eq_true rfl⟩) rfl hl.1 rfl (Nat.le_of_ble_eq_true rfl) dX6_takeWord_6 (fun r38 w40 H locs hp39 hw => ?_)
    obtain ⟨hT, k41, hv45, hg44⟩ := hp39
    have hF := hF.tr k41 (by decide)
    have c46 := k41.gi kC_at1 (by decide) c31
    have c47 := k41.gi kC_at1 (by decide) c33
    have c48 := k41.gi kC_at1 (by decide) c35
    obtain ⟨g42, g43⟩ := hg44
    replace hM := hM.call hv45 rfl
    refine lv_istore_n (lv' := [(2, .int r38), (0, .ref (ad 1)), (1, .ref (adK 3))]) hx hb dX6_takeWord_9 rfl hl (by decide) rfl (fun ls hl => ?_)
    refine lv_iload_n hx hb dX6_takeWord_10 rfl (lv_at hl 0 rfl) ?_
    refine lv_aload_n hx hb dX6_takeWord_11 rfl (lv_at hl 1 rfl) ?_
    refine tk_geti hC hK hw hT hinX6 kC_at1 (by decide) rfl 1 (by decide) (List.mem_cons_of_mem _ uw_9_16) rfl rfl dX6_takeWord_12 (fun x49 c50 rx49 tx49 => ?_)
    refine wk_top x30 (c50.symm.trans c46) ?_
    replace hM := hM.rd (sI_at c46)
    refine lv_isub hx hb dX6_takeWord_15 ?_
    refine lv_topi (fun x51 ex51 => ?_)
    have ezx51 := ex51
    have ex51 : x51.toInt = r38.toInt - x30.toInt := by rw [ex51]; exact wk_sub (show (-2147483648) ≤ r38.toInt - x30.toInt by omega) (show r38.toInt - x30.toInt ≤ 2147483647 by omega)
    replace hM := hM.lt ex51.symm
    refine lv_aload_n hx hb dX6_takeWord_16 rfl (lv_at hl 2 rfl) ?_
    refine tk_ViT hC hK hw hA hE hSR (s_length l adK adV dC dI cy 3 (by decide) H.size) (cwV 0 hC.2.2.2.2 uV_RX6_56 rfl rfl rfl (by decide +kernel) ⟨Nat.le_of_ble_eq_true rfl, Nat.le_of_ble_eq_true rfl⟩) 3 (by decide) rfl rfl rfl hl.1 rfl (Nat.le_of_ble_eq_true rfl) dX6_takeWord_17 (fun r52 H locs hp53 hw => ?_)
    obtain ⟨-, hp53⟩ := hp53
    obtain rfl : r52 = 2 := hp53
    replace hM := hM.lt (v := 2) (by decide)
    refine lv_icmp_eq (tgt := 25) hx hb dX6_takeWord_20 (by decide) (fun c54 => ?_) (fun c54 => ?_)
    · have c54 : x51.toInt = (2 : Int) := wk_eq.mp c54
      replace hM := hM.pos c54
      refine lv_iconst (v := 0) hx hb dX6_takeWord_25 (by decide) ?_
      refine lv_istore_n (lv' := [(3, .int 0), (2, .int r38), (0, .ref (ad 1)), (1, .ref (adK 3))]) hx hb dX6_takeWord_26 rfl hl (by decide) rfl (fun ls hl => ?_)
      exact L27 ((2 - (0 : Int)).toNat + 1) r38 0 x30 H locs ls w40 (show 2 ≤ r38.toInt by first | with_reducible assumption | omega) (show r38.toInt ≤ 400 by first | with_reducible assumption | omega) (by decide) (by decide) (show 0 ≤ x30.toInt by first | with_reducible assumption | omega) (show x30.toInt ≤ 398 by first | with_reducible assumption | omega) (Nat.lt_succ_self _) hw hT hF c46 hM (lv_sub hl [2, 3, 1, 0] rfl)
    · have c54 : ¬ x51.toInt = (2 : Int) := wk_eqF c54
      replace hM := hM.neg c54
      refine lv_iconst (v := 0) hx hb dX6_takeWord_23 (by decide) ?_
      exact tk_zret hC hr rfl hlocks hK ⟨hT, hF, hM.ret (by decide), (Or.inl rfl)⟩ hw dX6_takeWord_24
  · replace hM := hM.call (r' := (-1)) hv37 (by decide)
    refine lv_pop hx hb dX6_takeWord_4 rfl ?_
    refine lv_aload_n hx hb dX6_takeWord_5 rfl (lv_at hl 0 rfl) ?_
    refine tk_Vi hC hK hw hT hA hE hSR kC_at1 (by decide) rfl (kz_X6_endOfWord_1 l adK adV dC dI cy ad B hB0 (Int.le_trans hB1 (by decide)) qr s1    w26 H.size hT ) (cwV 0 hC.2.2.2.2 uV_RX6_53 rfl rfl rfl (by decide +kernel) ⟨Nat.le_of_ble_eq_true rfl, Nat.le_of_ble_eq_true rfl⟩) rfl hl.1 rfl (Nat.le_of_ble_eq_true rfl) dX6_takeWord_6 (fun r55 w57 H locs hp56 hw => ?_)
    obtain ⟨hT, k58, hv62, hg61⟩ := hp56
    have hF := hF.tr k58 (by decide)
    obtain ⟨g59, g60⟩ := hg61
    replace hM := hM.call hv62 rfl
    refine lv_istore_n (lv' := [(2, .int r55), (0, .ref (ad 1)), (1, .ref (adK 3))]) hx hb dX6_takeWord_9 rfl hl (by decide) rfl (fun ls hl => ?_)
    refine lv_iload_n hx hb dX6_takeWord_10 rfl (lv_at hl 0 rfl) ?_
    refine lv_aload_n hx hb dX6_takeWord_11 rfl (lv_at hl 1 rfl) ?_
    refine tk_geti hC hK hw hT hinX6 kC_at1 (by decide) rfl 1 (by decide) (List.mem_cons_of_mem _ uw_9_16) rfl rfl dX6_takeWord_12 (fun x63 c64 rx63 tx63 => ?_)
    replace hM := hM.rd (sI_at c64)
    refine lv_isub hx hb dX6_takeWord_15 ?_
    refine lv_topi (fun x65 ex65 => ?_)
    have ezx65 := ex65
    have ex65 : x65.toInt = r55.toInt - x63.toInt := by rw [ex65]; exact wk_sub (show (-2147483648) ≤ r55.toInt - x63.toInt by omega) (show r55.toInt - x63.toInt ≤ 2147483647 by omega)
    replace hM := hM.lt ex65.symm
    refine lv_aload_n hx hb dX6_takeWord_16 rfl (lv_at hl 2 rfl) ?_
    refine tk_ViT hC hK hw hA hE hSR (s_length l adK adV dC dI cy 3 (by decide) H.size) (cwV 0 hC.2.2.2.2 uV_RX6_56 rfl rfl rfl (by decide +kernel) ⟨Nat.le_of_ble_eq_true rfl, Nat.le_of_ble_eq_true rfl⟩) 3 (by decide) rfl rfl rfl hl.1 rfl (Nat.le_of_ble_eq_true rfl) dX6_takeWord_17 (fun r66 H locs hp67 hw => ?_)
    obtain ⟨-, hp67⟩ := hp67
    obtain rfl : r66 = 2 := hp67
    replace hM := hM.lt (v := 2) (by decide)
    refine lv_icmp_eq (tgt := 25) hx hb dX6_takeWord_20 (by decide) (fun c68 => ?_) (fun c68 => ?_)
    · have c68 : x65.toInt = (2 : Int) := wk_eq.mp c68
      replace hM := hM.pos c68
      refine lv_iconst (v := 0) hx hb dX6_takeWord_25 (by decide) ?_
      refine lv_istore_n (lv' := [(3, .int 0), (2, .int r55), (0, .ref (ad 1)), (1, .ref (adK 3))]) hx hb dX6_takeWord_26 rfl hl (by decide) rfl (fun ls hl => ?_)
      exact L27 ((2 - (0 : Int)).toNat + 1) r55 0 x63 H locs ls w57 (show 2 ≤ r55.toInt by first | with_reducible assumption | omega) (show r55.toInt ≤ 400 by first | with_reducible assumption | omega) (by decide) (by decide) (show 0 ≤ x63.toInt from rx63) (show x63.toInt ≤ 398 by first | with_reducible assumption | omega) (Nat.lt_succ_self _) hw hT hF c64 hM (lv_sub hl [2, 3, 1, 0] rfl)
    · have c68 : ¬ x65.toInt = (2 : Int) := wk_eqF c68
      replace hM := hM.neg c68
      refine lv_iconst (v := 0) hx hb dX6_takeWord_23 (by decide) ?_
      exact tk_zret hC hr rfl hlocks hK ⟨hT, hF, hM.ret (by decide), (Or.inl rfl)⟩ hw dX6_takeWord_24
abbrev Pz_X2_addToken_1 (ad : Nat → Nat) (cy : Nat → ClassId) (B : Int) (qr : Nat) (s1 : Int) (q0_ : Nat) (a1 : Int32) (w0 : va_W) : va_W → Prop := fun u => TW ksC ad cy B qr s1 u ∧ FE ksC [(2, 3, 3), (22, 0, 13), (23, 0, 400)] w0 u ∧ Ev (fun n => m_X2_addToken n q0_ a1.toInt (sI w0)) (0, sI u) ∧ (((∃ y : Int32, gi u q0_ 3 = y ∧ 1 ≤ y.toInt ∧ y.toInt ≤ 400)))
set_option maxHeartbeats 4000000 in
set_option maxRecDepth 100000 in
theorem kz_X2_addToken_1 (l : Launch) (adK adV : Nat → Nat) (dC : Nat → ClassId) (dI : Nat → Nat → Nat) (cy : Nat → ClassId) (ad : Nat → Nat) (B : Int) (hB0 : 2147483648 ≤ B) (hB1 : B ≤ 1152921504606846976) (qr : Nat) (s1 : Int)  (q0_ : Nat) (hkq0_ : ksC[q0_]? = some 2) (a1 : Int32) (w0 : va_W) (sz : Nat) (hT : TW ksC ad cy B qr s1 w0)  : Met l yX2_addToken (wu yX2_addToken cX2_addToken 2 none) ({ frames := 1, cells := 0, slots := 0, locals := 12 }) (va_Pc [.ref (ad q0_), .int a1] (wpreS adK adV dC dI cy sz w0)) (va_Qv (Pz_X2_addToken_1 ad cy B qr s1 q0_ a1 w0) (fun u : va_W => wpost dC dI cy (va_A w0 sz) u) (va_A w0 sz)) 0 0 (va_A w0 sz) := by
  refine Met.ofW (cc := cX2_addToken) (maxL := 2) (ret := none) (by decide) rfl ?_
  intro p e s m args below meth c s₁ Bk hml hv
  obtain ⟨rfl, ⟨hsz, hP, hK, hD0⟩, hE, hSR⟩ := hv
  have hx := Bk.exec
  have hb := Bk.bytes
  have hr := Bk.returns
  have hlocks := Bk.notSynchronized
  have hC : CallFix p m c cX2_addToken 2 s _ (wu yX2_addToken cX2_addToken 2 none) RX2 := ⟨hx, hb, hml, findClass_of_methodNamed Bk.named, atoms_spec (ws := (wu yX2_addToken cX2_addToken 2 none)) Bk.pre⟩
  subst hsz
  have hD := hD0.self (sz := s.heap.size)
  generalize hAe : va_A w0 s.heap.size = A at hD hE ⊢
  have hA : ∀ q : Nat, s.heap.size ≤ q → A q := fun q h => by rw [← hAe]; exact Or.inr h
  have hw : Wd dC dI A s.heap s.heap [] w0 := ⟨hP, hD, va_S.rf⟩
  have hF : FE ksC [(2, 3, 3), (22, 0, 13), (23, 0, 400)] w0 w0 := FE.rf
  have hl := lv_entry ([.ref (ad q0_), .int a1]) (n := 2) (Nat.le_of_ble_eq_true rfl)
  rw [lg_entry_eq]
  generalize (lg_sl ([.ref (ad q0_), .int a1]) ++ List.replicate (2 - (lg_sl ([.ref (ad q0_), .int a1])).length) Slot.unset).toArray = ls at hl ⊢
  have hl : lv_has ls 2 [(0, .ref (ad q0_)), (1, .int a1)] := hl
  generalize hloc : ([] : List Loc) = locs at hw ⊢
  have hinX2 : ∀ w ∈ u_ws RX2 TX2 6, w ∈ (wu yX2_addToken cX2_addToken 2 none) := fun _ h => List.mem_cons_of_mem _ (up_74 h)
  have J43 : ∀ (f43_q0__3 : Int32) (H : Heap) (locs : List Loc) (ls : Array Slot) (w1 : va_W), 1 ≤ f43_q0__3.toInt → f43_q0__3.toInt ≤ 400 → Wd dC dI A s.heap H locs w1 → TW ksC ad cy B qr s1 w1 → FE ksC [(2, 3, 3), (22, 0, 13), (23, 0, 400)] w0 w1 → gi w1 q0_ 3 = f43_q0__3 → TT (fun n => m_X2_addToken n q0_ a1.toInt (sI w0)) (fun n => b_X2_addToken_43 n q0_ (sI w1)) → lv_has ls 2 [(0, .ref (ad q0_)), (1, .int a1)] → W p l e ({ frames := 1, cells := 0, slots := 0, locals := 12 }) s m (List.toArray [.ref (ad q0_), .int a1]) below meth c H locs 0 0 (MQ below (va_Qv (Pz_X2_addToken_1 ad cy B qr s1 q0_ a1 w0) (fun u : va_W => wpost dC dI cy A u) A) (List.toArray [.ref (ad q0_), .int a1]) s 0 0 A) (F0 m 43 ls []) := by
    intro f43_q0__3 H locs ls w1 r2 t3 hw hT hF c4 hM hl
    exact tk_vret hC hr hlocks hK ⟨hT, hF, hM.ret rfl, ⟨f43_q0__3, c4, (show 1 ≤ f43_q0__3.toInt from r2), (show f43_q0__3.toInt ≤ 400 from t3)⟩⟩ hw dX2_addToken_43
  have hM : TT (fun n => m_X2_addToken n q0_ a1.toInt (sI w0)) (fun n => m_X2_addToken n q0_ a1.toInt (sI w0)) := TT.rf
  refine lv_aload_n hx hb dX2_addToken_0 rfl (lv_at hl 0 rfl) ?_
  refine tk_geti hC hK hw hT hinX2 hkq0_ (by decide) rfl 3 (by decide) (List.mem_cons_of_mem _ uw_27_1) rfl rfl dX2_addToken_1 (fun x5 c6 rx5 tx5 => ?_)
  replace hM := hM.rd (sI_at c6)
  refine lv_sipush (v := 400) hx hb dX2_addToken_4 (by decide) ?_
  refine lv_icmp_ge (tgt := 43) hx hb dX2_addToken_7 (by decide) (fun c7 => ?_) (fun c7 => ?_)
  · have c7 : (400 : Int) ≤ x5.toInt := wk_le.mp c7
    replace hM := hM.pos c7
    exact J43 x5 s.heap locs ls w0 (show 1 ≤ x5.toInt by first | with_reducible assumption | omega) (show x5.toInt ≤ 400 by first | with_reducible assumption | omega)  hw hT hF c6 hM (lv_sub hl [0, 1] rfl)
  · have c7 : x5.toInt < (400 : Int) := wk_leF c7
    replace hM := hM.neg (Int.not_le.mpr c7)
    refine lv_aload_n hx hb dX2_addToken_10 rfl (lv_at hl 0 rfl) ?_
    refine tk_getO hC hK hw hT hinX2 hkq0_ (by decide) rfl 2 (by decide) (List.mem_cons_of_mem _ uw_3_7) rfl rfl dX2_addToken_11 ?_
    refine lv_aload_n hx hb dX2_addToken_14 rfl (lv_at hl 0 rfl) ?_
    refine tk_geti hC hK hw hT hinX2 hkq0_ (by decide) rfl 3 (by decide) (List.mem_cons_of_mem _ uw_27_1) rfl rfl dX2_addToken_15 (fun x8 c9 rx8 tx8 => ?_)
    refine wk_top x5 (c9.symm.trans c6) ?_
    replace hM := hM.rd (sI_at c6)
    refine lv_iload_n hx hb dX2_addToken_18 rfl (lv_at hl 1 rfl) ?_
    refine tk_iast hC hK hw hT (kC_2_3 hkq0_) (by decide) rfl rfl (show 0 ≤ x5.toInt by first | with_reducible assumption | omega) (show x5.toInt < 400 by first | with_reducible assumption | omega) (wk_i32 a1).1 (wk_i32 a1).2 dX2_addToken_19 (fun H locs w10 hw hT k12 c11 => ?_)
    replace hM := hM.wr (sI_up k12 c11)
    have hF := hF.put (kC_2_3 hkq0_) (inE_of (a := 0) (b := 400) (by decide) (show 0 ≤ x5.toInt.toNat by omega) (show x5.toInt.toNat ≤ 400 by omega)) k12
    have c13 := k12.gi (Or.inl (tk_ne hkq0_ (kC_2_3 hkq0_) (by decide))) c6
    refine lv_aload_n hx hb dX2_addToken_20 rfl (lv_at hl 0 rfl) ?_
    refine lv_dup hx hb dX2_addToken_21 rfl ?_
    refine tk_geti hC hK hw hT hinX2 hkq0_ (by decide) rfl 3 (by decide) (List.mem_cons_of_mem _ uw_27_1) rfl rfl dX2_addToken_22 (fun x14 c15 rx14 tx14 => ?_)
    refine wk_top x5 (c15.symm.trans c13) ?_
    replace hM := hM.rd (sI_at c13)
    refine lv_iconst (v := 1) hx hb dX2_addToken_25 (by decide) ?_
    refine lv_iadd hx hb dX2_addToken_26 ?_
    refine lv_topi (fun x16 ex16 => ?_)
    have ezx16 := ex16
    have ex16 : x16.toInt = x5.toInt + (1 : Int) := by rw [ex16]; exact wk_add (show (-2147483648) ≤ x5.toInt + (1 : Int) by omega) (show x5.toInt + (1 : Int) ≤ 2147483647 by omega)
    replace hM := hM.lt ex16.symm
    refine tk_puti hC hK hw hT hinX2 tyX2_ok nmX2 hkq0_ (by decide) rfl rfl 3 (by decide) (List.mem_cons_of_mem _ uw_27_1) rfl rfl rfl rfl (show 0 ≤ x16.toInt by first | with_reducible assumption | omega) (show x16.toInt ≤ 400 by first | with_reducible assumption | omega) dX2_addToken_27 (fun H locs w17 hw hT k19 c18 => ?_)
    replace hM := hM.wr (sI_up k19 c18)
    have hF := hF.put hkq0_ (k := 3) (by decide) k19
    refine lv_aload_n hx hb dX2_addToken_30 rfl (lv_at hl 0 rfl) ?_
    refine tk_getO hC hK hw hT hinX2 hkq0_ (by decide) rfl 1 (by decide) (List.mem_cons_of_mem _ uw_3_6) rfl rfl dX2_addToken_31 ?_
    refine lv_aload_n hx hb dX2_addToken_34 rfl (lv_at hl 0 rfl) ?_
    refine tk_geti hC hK hw hT hinX2 hkq0_ (by decide) rfl 4 (by decide) (List.mem_cons_of_mem _ uw_27_0) rfl rfl dX2_addToken_35 (fun x20 c21 rx20 tx20 => ?_)
    replace hM := hM.rd (sI_at c21)
    refine lv_aload_n hx hb dX2_addToken_38 rfl (lv_at hl 0 rfl) ?_
    refine tk_geti hC hK hw hT hinX2 hkq0_ (by decide) rfl 3 (by decide) (List.mem_cons_of_mem _ uw_27_1) rfl rfl dX2_addToken_39 (fun x22 c23 rx22 tx22 => ?_)
    refine wk_top x16 (c23.symm.trans c18) ?_
    replace hM := hM.rd (sI_at c18)
    refine tk_iast hC hK hw hT (kC_2_2 hkq0_) (by decide) rfl rfl (show 0 ≤ x20.toInt by first | with_reducible assumption | omega) (show x20.toInt < 13 by first | with_reducible assumption | omega) (show 0 ≤ x16.toInt by first | with_reducible assumption | omega) (show x16.toInt ≤ 400 by first | with_reducible assumption | omega) dX2_addToken_42 (fun H locs w24 hw hT k26 c25 => ?_)
    replace hM := hM.wr (sI_up k26 c25)
    have hF := hF.put (kC_2_2 hkq0_) (inE_of (a := 0) (b := 13) (by decide) (show 0 ≤ x20.toInt.toNat by omega) (show x20.toInt.toNat ≤ 13 by omega)) k26
    have c27 := k26.gi (Or.inl (tk_ne hkq0_ (kC_2_2 hkq0_) (by decide))) c18
    have c28 := k26.gi (Or.inl (tk_ne hkq0_ (kC_2_2 hkq0_) (by decide))) c21
    exact J43 x16 H locs ls w24 (show 1 ≤ x16.toInt by first | with_reducible assumption | omega) (show x16.toInt ≤ 400 by first | with_reducible assumption | omega)  hw hT hF c27 hM (lv_sub hl [0, 1] rfl)
abbrev Pz_X3_addWaiting_1 (ad : Nat → Nat) (cy : Nat → ClassId) (B : Int) (qr : Nat) (s1 : Int) (a1 : Int32) (w0 : va_W) : va_W → Prop := fun u => TW ksC ad cy B qr s1 u ∧ FE ksC [(2, 3, 3), (22, 0, 13), (23, 0, 400)] w0 u ∧ Ev (fun n => m_X3_addWaiting n qr 3 a1.toInt (sI w0)) (0, sI u) ∧ ((True))
set_option maxHeartbeats 4000000 in
set_option maxRecDepth 100000 in
theorem kz_X3_addWaiting_1 (l : Launch) (adK adV : Nat → Nat) (dC : Nat → ClassId) (dI : Nat → Nat → Nat) (cy : Nat → ClassId) (ad : Nat → Nat) (B : Int) (hB0 : 2147483648 ≤ B) (hB1 : B ≤ 1152921504606846976) (qr : Nat) (s1 : Int) (hqr : ksC[qr]? = some 2) (a1 : Int32) (w0 : va_W) (sz : Nat) (hT : TW ksC ad cy B qr s1 w0)  : Met l yX3_addWaiting (wu yX3_addWaiting cX3_addWaiting 2 none) ({ frames := 2, cells := 0, slots := 0, locals := 33 }) (va_Pc [.ref (ad 3), .int a1] (wpreS adK adV dC dI cy sz w0)) (va_Qv (Pz_X3_addWaiting_1 ad cy B qr s1 a1 w0) (fun u : va_W => wpost dC dI cy (va_A w0 sz) u) (va_A w0 sz)) 0 0 (va_A w0 sz) := by
  refine Met.ofW (cc := cX3_addWaiting) (maxL := 2) (ret := none) (by decide) rfl ?_
  intro p e s m args below meth c s₁ Bk hml hv
  obtain ⟨rfl, ⟨hsz, hP, hK, hD0⟩, hE, hSR⟩ := hv
  have hx := Bk.exec
  have hb := Bk.bytes
  have hr := Bk.returns
  have hlocks := Bk.notSynchronized
  have hC : CallFix p m c cX3_addWaiting 2 s _ (wu yX3_addWaiting cX3_addWaiting 2 none) RX3 := ⟨hx, hb, hml, findClass_of_methodNamed Bk.named, atoms_spec (ws := (wu yX3_addWaiting cX3_addWaiting 2 none)) Bk.pre⟩
  subst hsz
  have hD := hD0.self (sz := s.heap.size)
  generalize hAe : va_A w0 s.heap.size = A at hD hE ⊢
  have hA : ∀ q : Nat, s.heap.size ≤ q → A q := fun q h => by rw [← hAe]; exact Or.inr h
  have hw : Wd dC dI A s.heap s.heap [] w0 := ⟨hP, hD, va_S.rf⟩
  have hF : FE ksC [(2, 3, 3), (22, 0, 13), (23, 0, 400)] w0 w0 := FE.rf
  have hl := lv_entry ([.ref (ad 3), .int a1]) (n := 2) (Nat.le_of_ble_eq_true rfl)
  rw [lg_entry_eq]
  generalize (lg_sl ([.ref (ad 3), .int a1]) ++ List.replicate (2 - (lg_sl ([.ref (ad 3), .int a1])).length) Slot.unset).toArray = ls at hl ⊢
  have hl : lv_has ls 2 [(0, .ref (ad 3)), (1, .int a1)] := hl
  generalize hloc : ([] : List Loc) = locs at hw ⊢
  have hinX3 : ∀ w ∈ u_ws RX3 TX3 3, w ∈ (wu yX3_addWaiting cX3_addWaiting 2 none) := fun _ h => List.mem_cons_of_mem _ (up_75 h)
  have J13 : ∀ (H : Heap) (locs : List Loc) (ls : Array Slot) (w1 : va_W), Wd dC dI A s.heap H locs w1 → TW ksC ad cy B qr s1 w1 → FE ksC [(2, 3, 3), (22, 0, 13), (23, 0, 400)] w0 w1 → TT (fun n => m_X3_addWaiting n qr 3 a1.toInt (sI w0)) (fun n => b_X3_addWaiting_13 n qr 3 (sI w1)) → lv_has ls 2 [(0, .ref (ad 3)), (1, .int a1)] → W p l e ({ frames := 2, cells := 0, slots := 0, locals := 33 }) s m (List.toArray [.ref (ad 3), .int a1]) below meth c H locs 0 0 (MQ below (va_Qv (Pz_X3_addWaiting_1 ad cy B qr s1 a1 w0) (fun u : va_W => wpost dC dI cy A u) A) (List.toArray [.ref (ad 3), .int a1]) s 0 0 A) (F0 m 13 ls []) := by
    intro H locs ls w1 hw hT hF hM hl
    exact tk_vret hC hr hlocks hK ⟨hT, hF, hM.ret rfl, trivial⟩ hw dX3_addWaiting_13
  have hM : TT (fun n => m_X3_addWaiting n qr 3 a1.toInt (sI w0)) (fun n => m_X3_addWaiting n qr 3 a1.toInt (sI w0)) := TT.rf
  refine lv_iload_n hx hb dX3_addWaiting_0 rfl (lv_at hl 1 rfl) ?_
  refine lv_iconst (v := (-1)) hx hb dX3_addWaiting_1 (by decide) ?_
  refine lv_icmp_eq (tgt := 13) hx hb dX3_addWaiting_2 (by decide) (fun c2 => ?_) (fun c2 => ?_)
  · have c2 : a1.toInt = (-1 : Int) := wk_eq.mp c2
    replace hM := hM.pos c2
    exact J13  s.heap locs ls w0   hw hT hF hM (lv_sub hl [0, 1] rfl)
  · have c2 : ¬ a1.toInt = (-1 : Int) := wk_eqF c2
    replace hM := hM.neg c2
    refine lv_aload_n hx hb dX3_addWaiting_5 rfl (lv_at hl 0 rfl) ?_
    refine tk_getQ hC hK hw hT hqr (by decide) hinX3 kC_at3 (by decide) rfl 1 (by decide) (List.mem_cons_of_mem _ uw_26_17) rfl rfl dX3_addWaiting_6 ?_
    refine lv_iload_n hx hb dX3_addWaiting_9 rfl (lv_at hl 1 rfl) ?_
    refine tk_Vv hC hK hw hT hA hE hSR hqr (by decide) rfl (kz_X2_addToken_1 l adK adV dC dI cy ad B hB0 (Int.le_trans hB1 (by decide)) qr s1   qr hqr a1 w0 s.heap.size hT ) (cwV 1 hC.2.2.2.2 uV_RX3_74 rfl rfl rfl (by decide +kernel) ⟨Nat.le_of_ble_eq_true rfl, Nat.le_of_ble_eq_true rfl⟩) rfl hl.1 rfl (Nat.le_of_ble_eq_true rfl) dX3_addWaiting_10 (fun w5 H locs hp4 hw => ?_)
    obtain ⟨hT, k6, hv10, hg9⟩ := hp4
    have hF := hF.tr k6 (by decide)
    obtain ⟨x7, c8, rx7, tx7⟩ := hg9
    replace hM := hM.call hv10 rfl
    exact J13  H locs ls w5   hw hT hF hM (lv_sub hl [0, 1] rfl)
abbrev Pz_X6_takeWord_2 (ad : Nat → Nat) (cy : Nat → ClassId) (B : Int) (qr : Nat) (s1 : Int)  (w0 : va_W) : Int32 → va_W → Prop := fun r u => TW ksC ad cy B qr s1 u ∧ FE ksC [(6, 1, 1), (6, 3, 3)] w0 u ∧ Ev (fun n => m_X6_takeWord n 1 6 (sI w0)) (r.toInt, sI u) ∧ ((r = 0) ∨ (r = 1 ∧ (∃ y : Int32, gi u 1 1 = y ∧ 3 ≤ y.toInt ∧ y.toInt ≤ 400)))
set_option maxHeartbeats 4000000 in
set_option maxRecDepth 100000 in
theorem kz_X6_takeWord_2 (l : Launch) (adK adV : Nat → Nat) (dC : Nat → ClassId) (dI : Nat → Nat → Nat) (cy : Nat → ClassId) (ad : Nat → Nat) (B : Int) (hB0 : 2147483648 ≤ B) (hB1 : B ≤ 1152921504606846976) (qr : Nat) (s1 : Int)   (w0 : va_W) (sz : Nat) (hT : TW ksC ad cy B qr s1 w0)  : Met l yX6_takeWord (wu yX6_takeWord cX6_takeWord 4 (some .boolean)) ({ frames := 5, cells := 0, slots := 0, locals := 141 }) (va_Pc [.ref (ad 1), .ref (adK 6)] (wpreS adK adV dC dI cy sz w0)) (va_Qi (Pz_X6_takeWord_2 ad cy B qr s1  w0) (fun u : va_W => wpost dC dI cy (va_A w0 sz) u) (va_A w0 sz)) 0 0 (va_A w0 sz) := by
  refine Met.ofW (cc := cX6_takeWord) (maxL := 4) (ret := (some .boolean)) (by decide) rfl ?_
  intro p e s m args below meth c s₁ Bk hml hv
  obtain ⟨rfl, ⟨hsz, hP, hK, hD0⟩, hE, hSR⟩ := hv
  have hx := Bk.exec
  have hb := Bk.bytes
  have hr := Bk.returns
  have hlocks := Bk.notSynchronized
  have hC : CallFix p m c cX6_takeWord 4 s _ (wu yX6_takeWord cX6_takeWord 4 (some .boolean)) RX6 := ⟨hx, hb, hml, findClass_of_methodNamed Bk.named, atoms_spec (ws := (wu yX6_takeWord cX6_takeWord 4 (some .boolean))) Bk.pre⟩
  subst hsz
  have hD := hD0.self (sz := s.heap.size)
  generalize hAe : va_A w0 s.heap.size = A at hD hE ⊢
  have hA : ∀ q : Nat, s.heap.size ≤ q → A q := fun q h => by rw [← hAe]; exact Or.inr h
  have hw : Wd dC dI A s.heap s.heap [] w0 := ⟨hP, hD, va_S.rf⟩
  have hF : FE ksC [(6, 1, 1), (6, 3, 3)] w0 w0 := FE.rf
  have hl := lv_entry ([.ref (ad 1), .ref (adK 6)]) (n := 4) (Nat.le_of_ble_eq_true rfl)
  rw [lg_entry_eq]
  generalize (lg_sl ([.ref (ad 1), .ref (adK 6)]) ++ List.replicate (4 - (lg_sl ([.ref (ad 1), .ref (adK 6)])).length) Slot.unset).toArray = ls at hl ⊢
  have hl : lv_has ls 4 [(0, .ref (ad 1)), (1, .ref (adK 6))] := hl
  generalize hloc : ([] : List Loc) = locs at hw ⊢
  have hinX6 : ∀ w ∈ u_ws RX6 TX6 5, w ∈ (wu yX6_takeWord cX6_takeWord 4 (some .boolean)) := fun _ h => List.mem_cons_of_mem _ (up_72 h)
  have L27 : ∀ (n27 : Nat) (v27_2 : Int32) (v27_3 : Int32) (f27_1_1 : Int32) (H : Heap) (locs : List Loc) (ls : Array Slot) (w1 : va_W), 3 ≤ v27_2.toInt → v27_2.toInt ≤ 400 → 0 ≤ v27_3.toInt → v27_3.toInt ≤ 3 → 0 ≤ f27_1_1.toInt → f27_1_1.toInt ≤ 397 → (3 - v27_3.toInt).toNat < n27 → Wd dC dI A s.heap H locs w1 → TW ksC ad cy B qr s1 w1 → FE ksC [(6, 1, 1), (6, 3, 3)] w0 w1 → gi w1 1 1 = f27_1_1 → TT (fun n => m_X6_takeWord n 1 6 (sI w0)) (fun n => j_X6_takeWord 1 6 n 27 [v27_2.toInt, v27_3.toInt] (sI w1)) → lv_has ls 4 [(0, .ref (ad 1)), (1, .ref (adK 6)), (2, .int v27_2), (3, .int v27_3)] → W p l e ({ frames := 5, cells := 0, slots := 0, locals := 141 }) s m (List.toArray [.ref (ad 1), .ref (adK 6)]) below meth c H locs 0 0 (MQ below (va_Qi (Pz_X6_takeWord_2 ad cy B qr s1  w0) (fun u : va_W => wpost dC dI cy A u) A) (List.toArray [.ref (ad 1), .ref (adK 6)]) s 0 0 A) (F0 m 27 ls []) := by
    intro n27
    induction n27 with
    | zero => intro v27_2 v27_3 f27_1_1 H locs ls w1 r2 t3 r4 t5 r6 t7 hm27 hw hT hF c8 hM hl; omega
    | succ n27 ih27 =>
      intro v27_2 v27_3 f27_1_1 H locs ls w1 r2 t3 r4 t5 r6 t7 hm27 hw hT hF c8 hM hl
      replace hM := hM.suc (fun _ => e_X6_takeWord_27)
      refine lv_iload_n hx hb dX6_takeWord_27 rfl (lv_at hl 3 rfl) ?_
      refine lv_aload_n hx hb dX6_takeWord_28 rfl (lv_at hl 1 rfl) ?_
      refine tk_ViT hC hK hw hA hE hSR (s_length l adK adV dC dI cy 6 (by decide) H.size) (cwV 0 hC.2.2.2.2 uV_RX6_56 rfl rfl rfl (by decide +kernel) ⟨Nat.le_of_ble_eq_true rfl, Nat.le_of_ble_eq_true rfl⟩) 6 (by decide) rfl rfl rfl hl.1 rfl (Nat.le_of_ble_eq_true rfl) dX6_takeWord_29 (fun r9 H locs hp10 hw => ?_)
      obtain ⟨-, hp10⟩ := hp10
      obtain rfl : r9 = 3 := hp10
      replace hM := hM.lt (v := 3) (by decide)
      refine lv_icmp_ge (tgt := 62) hx hb dX6_takeWord_32 (by decide) (fun c11 => ?_) (fun c11 => ?_)
      · have c11 : (3 : Int) ≤ v27_3.toInt := wk_le.mp c11
        replace hM := hM.pos c11
        refine lv_aload_n hx hb dX6_takeWord_62 rfl (lv_at hl 0 rfl) ?_
        refine lv_iload_n hx hb dX6_takeWord_63 rfl (lv_at hl 2 rfl) ?_
        refine tk_puti hC hK hw hT hinX6 tyX6_ok nmX6 kC_at1 (by decide) rfl rfl 1 (by decide) (List.mem_cons_of_mem _ uw_9_16) rfl rfl rfl rfl (show 0 ≤ v27_2.toInt from Int.le_trans (by decide) r2) (show v27_2.toInt ≤ 400 from t3) dX6_takeWord_64 (fun H locs w12 hw hT k14 c13 => ?_)
        replace hM := hM.wr (sI_up k14 c13)
        have hF := hF.put kC_at1 (k := 1) (by decide) k14
        refine lv_iconst (v := 1) hx hb dX6_takeWord_67 (by decide) ?_
        exact tk_zret hC hr rfl hlocks hK ⟨hT, hF, hM.ret (by decide), (Or.inr ⟨rfl, ⟨v27_2, c13, (show 3 ≤ v27_2.toInt from r2), (show v27_2.toInt ≤ 400 from t3)⟩⟩)⟩ hw dX6_takeWord_68
      · have c11 : v27_3.toInt < (3 : Int) := wk_leF c11
        replace hM := hM.neg (Int.not_le.mpr c11)
        refine lv_aload_n hx hb dX6_takeWord_35 rfl (lv_at hl 0 rfl) ?_
        refine tk_getA hC hK hw hT hinX6 kC_at1 (by decide) rfl 0 (by decide) (List.mem_cons_of_mem _ uw_2_12) rfl rfl dX6_takeWord_36 ?_
        refine lv_aload_n hx hb dX6_takeWord_39 rfl (lv_at hl 0 rfl) ?_
        refine tk_geti hC hK hw hT hinX6 kC_at1 (by decide) rfl 1 (by decide) (List.mem_cons_of_mem _ uw_9_16) rfl rfl dX6_takeWord_40 (fun x15 c16 rx15 tx15 => ?_)
        refine wk_top f27_1_1 (c16.symm.trans c8) ?_
        replace hM := hM.rd (sI_at c8)
        refine lv_iload_n hx hb dX6_takeWord_43 rfl (lv_at hl 3 rfl) ?_
        refine lv_iadd hx hb dX6_takeWord_44 ?_
        refine lv_topi (fun x17 ex17 => ?_)
        have ezx17 := ex17
        have ex17 : x17.toInt = f27_1_1.toInt + v27_3.toInt := by rw [ex17]; exact wk_add (show (-2147483648) ≤ f27_1_1.toInt + v27_3.toInt by omega) (show f27_1_1.toInt + v27_3.toInt ≤ 2147483647 by omega)
        replace hM := hM.lt ex17.symm
        refine tk_iald hC hK hw hT kC_at2 rfl rfl (show 0 ≤ x17.toInt by first | with_reducible assumption | omega) (show x17.toInt < 400 by first | with_reducible assumption | omega) dX6_takeWord_45 (fun x18 c19 rx18 tx18 => ?_)
        have hox18 := c19
        replace hM := hM.rd (sI_at hox18)
        refine lv_aload_n hx hb dX6_takeWord_46 rfl (lv_at hl 1 rfl) ?_
        refine lv_iload_n hx hb dX6_takeWord_47 rfl (lv_at hl 3 rfl) ?_
        refine tk_ViT hC hK hw hA hE hSR (s_charAt l adK adV dC dI cy 6 (by decide) v27_3 (show 0 ≤ v27_3.toInt from r4) (show v27_3.toInt < 3 by first | with_reducible assumption | omega) H.size) (cwV 1 hC.2.2.2.2 uV_RX6_60 rfl rfl rfl (by decide +kernel) ⟨Nat.le_of_ble_eq_true rfl, Nat.le_of_ble_eq_true rfl⟩) 6 (by decide) rfl rfl rfl hl.1 rfl (Nat.le_of_ble_eq_true rfl) dX6_takeWord_48 (fun r20 H locs hp21 hw => ?_)
        obtain ⟨-, hp21⟩ := hp21
        replace hM := hM.lt (chS_e hp21 rfl)
        refine lv_icmp_eq (tgt := 56) hx hb dX6_takeWord_51 (by decide) (fun c22 => ?_) (fun c22 => ?_)
        · have c22 : x18.toInt = r20.toInt := wk_eq.mp c22
          replace hM := hM.pos c22
          obtain ⟨x23, ex23⟩ : ∃ y : Int32, y = v27_3 + Int32.ofInt 1 := ⟨_, rfl⟩
          have erx23 := ex23
          refine lv_iinc (v := x23) (lv' := [(3, .int x23), (0, .ref (ad 1)), (1, .ref (adK 6)), (2, .int v27_2)]) hx hb dX6_takeWord_56 hl (k := 3) rfl ex23.symm (by decide) rfl (fun ls hl => ?_)
          have ex23 : x23.toInt = v27_3.toInt + 1 := by rw [ex23]; exact wk_add (y := 1) (show -2147483648 ≤ v27_3.toInt + 1 by omega) (show v27_3.toInt + 1 ≤ 2147483647 by omega)
          replace hM := hM.lt ex23.symm
          refine lv_goto (tgt := 27) hx hb dX6_takeWord_59 (by decide) ?_
          exact ih27 v27_2 x23 f27_1_1 H locs ls w1 (show 3 ≤ v27_2.toInt from r2) (show v27_2.toInt ≤ 400 from t3) (show 0 ≤ x23.toInt by first | with_reducible assumption | omega) (show x23.toInt ≤ 3 by first | with_reducible assumption | omega) (show 0 ≤ f27_1_1.toInt from r6) (show f27_1_1.toInt ≤ 397 from t7) (show (3 - x23.toInt).toNat < n27 by first | exact tn_lt hm27 (by omega) (by omega) | omega) hw hT hF c8 hM (lv_sub hl [1, 2, 3, 0] rfl)
        · have c22 : ¬ x18.toInt = r20.toInt := wk_eqF c22
          replace hM := hM.neg c22
          refine lv_iconst (v := 0) hx hb dX6_takeWord_54 (by decide) ?_
          exact tk_zret hC hr rfl hlocks hK ⟨hT, hF, hM.ret (by decide), (Or.inl rfl)⟩ hw dX6_takeWord_55
  have hM : TT (fun n => m_X6_takeWord n 1 6 (sI w0)) (fun n => m_X6_takeWord n 1 6 (sI w0)) := TT.rf
  refine lv_aload_n hx hb dX6_takeWord_0 rfl (lv_at hl 0 rfl) ?_
  refine tk_Vi hC hK hw hT hA hE hSR kC_at1 (by decide) rfl (kz_X6_lookBehindBlanks_1 l adK adV dC dI cy ad B hB0 (Int.le_trans hB1 (by decide)) qr s1    w0 s.heap.size hT ) (cwV 0 hC.2.2.2.2 uV_RX6_28 rfl rfl rfl (by decide +kernel) ⟨Nat.le_of_ble_eq_true rfl, Nat.le_of_ble_eq_true rfl⟩) rfl hl.1 rfl (Nat.le_of_ble_eq_true rfl) dX6_takeWord_1 (fun r24 w26 H locs hp25 hw => ?_)
  obtain ⟨hT, k27, hv37, hg36⟩ := hp25
  have hF := hF.tr k27 (by decide)
  rcases hg36 with ⟨g28, g29, ⟨x30, c31, rx30, tx30⟩, ⟨x32, c33, rx32, tx32⟩, ⟨x34, c35, rx34, tx34⟩⟩ | rfl
  · replace hM := hM.call hv37 rfl
    refine lv_pop hx hb dX6_takeWord_4 rfl ?_
    refine lv_aload_n hx hb dX6_takeWord_5 rfl (lv_at hl 0 rfl) ?_
    refine tk_Vi hC hK hw hT hA hE hSR kC_at1 (by decide) rfl (kz_X6_endOfWord_1 l adK adV dC dI cy ad B hB0 (Int.le_trans hB1 (by decide)) qr s1    w26 H.size hT ) (cwV 0 hC.2.2.2.2 uV_RX6_53 rfl rfl rfl (by decide +kernel) ⟨Nat.le_of_ble_eq_true rfl, Nat.le_of_ble_eq_true rfl⟩) rfl hl.1 rfl (Nat.le_of_ble_eq_true rfl) dX6_takeWord_6 (fun r38 w40 H locs hp39 hw => ?_)
    obtain ⟨hT, k41, hv45, hg44⟩ := hp39
    have hF := hF.tr k41 (by decide)
    have c46 := k41.gi kC_at1 (by decide) c31
    have c47 := k41.gi kC_at1 (by decide) c33
    have c48 := k41.gi kC_at1 (by decide) c35
    obtain ⟨g42, g43⟩ := hg44
    replace hM := hM.call hv45 rfl
    refine lv_istore_n (lv' := [(2, .int r38), (0, .ref (ad 1)), (1, .ref (adK 6))]) hx hb dX6_takeWord_9 rfl hl (by decide) rfl (fun ls hl => ?_)
    refine lv_iload_n hx hb dX6_takeWord_10 rfl (lv_at hl 0 rfl) ?_
    refine lv_aload_n hx hb dX6_takeWord_11 rfl (lv_at hl 1 rfl) ?_
    refine tk_geti hC hK hw hT hinX6 kC_at1 (by decide) rfl 1 (by decide) (List.mem_cons_of_mem _ uw_9_16) rfl rfl dX6_takeWord_12 (fun x49 c50 rx49 tx49 => ?_)
    refine wk_top x30 (c50.symm.trans c46) ?_
    replace hM := hM.rd (sI_at c46)
    refine lv_isub hx hb dX6_takeWord_15 ?_
    refine lv_topi (fun x51 ex51 => ?_)
    have ezx51 := ex51
    have ex51 : x51.toInt = r38.toInt - x30.toInt := by rw [ex51]; exact wk_sub (show (-2147483648) ≤ r38.toInt - x30.toInt by omega) (show r38.toInt - x30.toInt ≤ 2147483647 by omega)
    replace hM := hM.lt ex51.symm
    refine lv_aload_n hx hb dX6_takeWord_16 rfl (lv_at hl 2 rfl) ?_
    refine tk_ViT hC hK hw hA hE hSR (s_length l adK adV dC dI cy 6 (by decide) H.size) (cwV 0 hC.2.2.2.2 uV_RX6_56 rfl rfl rfl (by decide +kernel) ⟨Nat.le_of_ble_eq_true rfl, Nat.le_of_ble_eq_true rfl⟩) 6 (by decide) rfl rfl rfl hl.1 rfl (Nat.le_of_ble_eq_true rfl) dX6_takeWord_17 (fun r52 H locs hp53 hw => ?_)
    obtain ⟨-, hp53⟩ := hp53
    obtain rfl : r52 = 3 := hp53
    replace hM := hM.lt (v := 3) (by decide)
    refine lv_icmp_eq (tgt := 25) hx hb dX6_takeWord_20 (by decide) (fun c54 => ?_) (fun c54 => ?_)
    · have c54 : x51.toInt = (3 : Int) := wk_eq.mp c54
      replace hM := hM.pos c54
      refine lv_iconst (v := 0) hx hb dX6_takeWord_25 (by decide) ?_
      refine lv_istore_n (lv' := [(3, .int 0), (2, .int r38), (0, .ref (ad 1)), (1, .ref (adK 6))]) hx hb dX6_takeWord_26 rfl hl (by decide) rfl (fun ls hl => ?_)
      exact L27 ((3 - (0 : Int)).toNat + 1) r38 0 x30 H locs ls w40 (show 3 ≤ r38.toInt by first | with_reducible assumption | omega) (show r38.toInt ≤ 400 by first | with_reducible assumption | omega) (by decide) (by decide) (show 0 ≤ x30.toInt by first | with_reducible assumption | omega) (show x30.toInt ≤ 397 by first | with_reducible assumption | omega) (Nat.lt_succ_self _) hw hT hF c46 hM (lv_sub hl [2, 3, 1, 0] rfl)
    · have c54 : ¬ x51.toInt = (3 : Int) := wk_eqF c54
      replace hM := hM.neg c54
      refine lv_iconst (v := 0) hx hb dX6_takeWord_23 (by decide) ?_
      exact tk_zret hC hr rfl hlocks hK ⟨hT, hF, hM.ret (by decide), (Or.inl rfl)⟩ hw dX6_takeWord_24
  · replace hM := hM.call (r' := (-1)) hv37 (by decide)
    refine lv_pop hx hb dX6_takeWord_4 rfl ?_
    refine lv_aload_n hx hb dX6_takeWord_5 rfl (lv_at hl 0 rfl) ?_
    refine tk_Vi hC hK hw hT hA hE hSR kC_at1 (by decide) rfl (kz_X6_endOfWord_1 l adK adV dC dI cy ad B hB0 (Int.le_trans hB1 (by decide)) qr s1    w26 H.size hT ) (cwV 0 hC.2.2.2.2 uV_RX6_53 rfl rfl rfl (by decide +kernel) ⟨Nat.le_of_ble_eq_true rfl, Nat.le_of_ble_eq_true rfl⟩) rfl hl.1 rfl (Nat.le_of_ble_eq_true rfl) dX6_takeWord_6 (fun r55 w57 H locs hp56 hw => ?_)
    obtain ⟨hT, k58, hv62, hg61⟩ := hp56
    have hF := hF.tr k58 (by decide)
    obtain ⟨g59, g60⟩ := hg61
    replace hM := hM.call hv62 rfl
    refine lv_istore_n (lv' := [(2, .int r55), (0, .ref (ad 1)), (1, .ref (adK 6))]) hx hb dX6_takeWord_9 rfl hl (by decide) rfl (fun ls hl => ?_)
    refine lv_iload_n hx hb dX6_takeWord_10 rfl (lv_at hl 0 rfl) ?_
    refine lv_aload_n hx hb dX6_takeWord_11 rfl (lv_at hl 1 rfl) ?_
    refine tk_geti hC hK hw hT hinX6 kC_at1 (by decide) rfl 1 (by decide) (List.mem_cons_of_mem _ uw_9_16) rfl rfl dX6_takeWord_12 (fun x63 c64 rx63 tx63 => ?_)
    replace hM := hM.rd (sI_at c64)
    refine lv_isub hx hb dX6_takeWord_15 ?_
    refine lv_topi (fun x65 ex65 => ?_)
    have ezx65 := ex65
    have ex65 : x65.toInt = r55.toInt - x63.toInt := by rw [ex65]; exact wk_sub (show (-2147483648) ≤ r55.toInt - x63.toInt by omega) (show r55.toInt - x63.toInt ≤ 2147483647 by omega)
    replace hM := hM.lt ex65.symm
    refine lv_aload_n hx hb dX6_takeWord_16 rfl (lv_at hl 2 rfl) ?_
    refine tk_ViT hC hK hw hA hE hSR (s_length l adK adV dC dI cy 6 (by decide) H.size) (cwV 0 hC.2.2.2.2 uV_RX6_56 rfl rfl rfl (by decide +kernel) ⟨Nat.le_of_ble_eq_true rfl, Nat.le_of_ble_eq_true rfl⟩) 6 (by decide) rfl rfl rfl hl.1 rfl (Nat.le_of_ble_eq_true rfl) dX6_takeWord_17 (fun r66 H locs hp67 hw => ?_)
    obtain ⟨-, hp67⟩ := hp67
    obtain rfl : r66 = 3 := hp67
    replace hM := hM.lt (v := 3) (by decide)
    refine lv_icmp_eq (tgt := 25) hx hb dX6_takeWord_20 (by decide) (fun c68 => ?_) (fun c68 => ?_)
    · have c68 : x65.toInt = (3 : Int) := wk_eq.mp c68
      replace hM := hM.pos c68
      refine lv_iconst (v := 0) hx hb dX6_takeWord_25 (by decide) ?_
      refine lv_istore_n (lv' := [(3, .int 0), (2, .int r55), (0, .ref (ad 1)), (1, .ref (adK 6))]) hx hb dX6_takeWord_26 rfl hl (by decide) rfl (fun ls hl => ?_)
      exact L27 ((3 - (0 : Int)).toNat + 1) r55 0 x63 H locs ls w57 (show 3 ≤ r55.toInt by first | with_reducible assumption | omega) (show r55.toInt ≤ 400 by first | with_reducible assumption | omega) (by decide) (by decide) (show 0 ≤ x63.toInt from rx63) (show x63.toInt ≤ 397 by first | with_reducible assumption | omega) (Nat.lt_succ_self _) hw hT hF c64 hM (lv_sub hl [2, 3, 1, 0] rfl)
    · have c68 : ¬ x65.toInt = (3 : Int) := wk_eqF c68
      replace hM := hM.neg c68
      refine lv_iconst (v := 0) hx hb dX6_takeWord_23 (by decide) ?_
      exact tk_zret hC hr rfl hlocks hK ⟨hT, hF, hM.ret (by decide), (Or.inl rfl)⟩ hw dX6_takeWord_24
abbrev Pz_X6_takeWord_3 (ad : Nat → Nat) (cy : Nat → ClassId) (B : Int) (qr : Nat) (s1 : Int)  (w0 : va_W) : Int32 → va_W → Prop := fun r u => TW ksC ad cy B qr s1 u ∧ FE ksC [(6, 1, 1), (6, 3, 3)] w0 u ∧ Ev (fun n => m_X6_takeWord n 1 7 (sI w0)) (r.toInt, sI u) ∧ ((r = 0) ∨ (r = 1 ∧ (∃ y : Int32, gi u 1 1 = y ∧ 2 ≤ y.toInt ∧ y.toInt ≤ 400)))
set_option maxHeartbeats 4000000 in
set_option maxRecDepth 100000 in
theorem kz_X6_takeWord_3 (l : Launch) (adK adV : Nat → Nat) (dC : Nat → ClassId) (dI : Nat → Nat → Nat) (cy : Nat → ClassId) (ad : Nat → Nat) (B : Int) (hB0 : 2147483648 ≤ B) (hB1 : B ≤ 1152921504606846976) (qr : Nat) (s1 : Int)   (w0 : va_W) (sz : Nat) (hT : TW ksC ad cy B qr s1 w0)  : Met l yX6_takeWord (wu yX6_takeWord cX6_takeWord 4 (some .boolean)) ({ frames := 5, cells := 0, slots := 0, locals := 141 }) (va_Pc [.ref (ad 1), .ref (adK 7)] (wpreS adK adV dC dI cy sz w0)) (va_Qi (Pz_X6_takeWord_3 ad cy B qr s1  w0) (fun u : va_W => wpost dC dI cy (va_A w0 sz) u) (va_A w0 sz)) 0 0 (va_A w0 sz) := by
  refine Met.ofW (cc := cX6_takeWord) (maxL := 4) (ret := (some .boolean)) (by decide) rfl ?_
  intro p e s m args below meth c s₁ Bk hml hv
  obtain ⟨rfl, ⟨hsz, hP, hK, hD0⟩, hE, hSR⟩ := hv
  have hx := Bk.exec
  have hb := Bk.bytes
  have hr := Bk.returns
  have hlocks := Bk.notSynchronized
  have hC : CallFix p m c cX6_takeWord 4 s _ (wu yX6_takeWord cX6_takeWord 4 (some .boolean)) RX6 := ⟨hx, hb, hml, findClass_of_methodNamed Bk.named, atoms_spec (ws := (wu yX6_takeWord cX6_takeWord 4 (some .boolean))) Bk.pre⟩
  subst hsz
  have hD := hD0.self (sz := s.heap.size)
  generalize hAe : va_A w0 s.heap.size = A at hD hE ⊢
  have hA : ∀ q : Nat, s.heap.size ≤ q → A q := fun q h => by rw [← hAe]; exact Or.inr h
  have hw : Wd dC dI A s.heap s.heap [] w0 := ⟨hP, hD, va_S.rf⟩
  have hF : FE ksC [(6, 1, 1), (6, 3, 3)] w0 w0 := FE.rf
  have hl := lv_entry ([.ref (ad 1), .ref (adK 7)]) (n := 4) (Nat.le_of_ble_eq_true rfl)
  rw [lg_entry_eq]
  generalize (lg_sl ([.ref (ad 1), .ref (adK 7)]) ++ List.replicate (4 - (lg_sl ([.ref (ad 1), .ref (adK 7)])).length) Slot.unset).toArray = ls at hl ⊢
  have hl : lv_has ls 4 [(0, .ref (ad 1)), (1, .ref (adK 7))] := hl
  generalize hloc : ([] : List Loc) = locs at hw ⊢
  have hinX6 : ∀ w ∈ u_ws RX6 TX6 5, w ∈ (wu yX6_takeWord cX6_takeWord 4 (some .boolean)) := fun _ h => List.mem_cons_of_mem _ (up_72 h)
  have L27 : ∀ (n27 : Nat) (v27_2 : Int32) (v27_3 : Int32) (f27_1_1 : Int32) (H : Heap) (locs : List Loc) (ls : Array Slot) (w1 : va_W), 2 ≤ v27_2.toInt → v27_2.toInt ≤ 400 → 0 ≤ v27_3.toInt → v27_3.toInt ≤ 2 → 0 ≤ f27_1_1.toInt → f27_1_1.toInt ≤ 398 → (2 - v27_3.toInt).toNat < n27 → Wd dC dI A s.heap H locs w1 → TW ksC ad cy B qr s1 w1 → FE ksC [(6, 1, 1), (6, 3, 3)] w0 w1 → gi w1 1 1 = f27_1_1 → TT (fun n => m_X6_takeWord n 1 7 (sI w0)) (fun n => j_X6_takeWord 1 7 n 27 [v27_2.toInt, v27_3.toInt] (sI w1)) → lv_has ls 4 [(0, .ref (ad 1)), (1, .ref (adK 7)), (2, .int v27_2), (3, .int v27_3)] → W p l e ({ frames := 5, cells := 0, slots := 0, locals := 141 }) s m (List.toArray [.ref (ad 1), .ref (adK 7)]) below meth c H locs 0 0 (MQ below (va_Qi (Pz_X6_takeWord_3 ad cy B qr s1  w0) (fun u : va_W => wpost dC dI cy A u) A) (List.toArray [.ref (ad 1), .ref (adK 7)]) s 0 0 A) (F0 m 27 ls []) := by
    intro n27
    induction n27 with
    | zero => intro v27_2 v27_3 f27_1_1 H locs ls w1 r2 t3 r4 t5 r6 t7 hm27 hw hT hF c8 hM hl; omega
    | succ n27 ih27 =>
      intro v27_2 v27_3 f27_1_1 H locs ls w1 r2 t3 r4 t5 r6 t7 hm27 hw hT hF c8 hM hl
      replace hM := hM.suc (fun _ => e_X6_takeWord_27)
      refine lv_iload_n hx hb dX6_takeWord_27 rfl (lv_at hl 3 rfl) ?_
      refine lv_aload_n hx hb dX6_takeWord_28 rfl (lv_at hl 1 rfl) ?_
      refine tk_ViT hC hK hw hA hE hSR (s_length l adK adV dC dI cy 7 (by decide) H.size) (cwV 0 hC.2.2.2.2 uV_RX6_56 rfl rfl rfl (by decide +kernel) ⟨Nat.le_of_ble_eq_true rfl, Nat.le_of_ble_eq_true rfl⟩) 7 (by decide) rfl rfl rfl hl.1 rfl (Nat.le_of_ble_eq_true rfl) dX6_takeWord_29 (fun r9 H locs hp10 hw => ?_)
      obtain ⟨-, hp10⟩ := hp10
      obtain rfl : r9 = 2 := hp10
      replace hM := hM.lt (v := 2) (by decide)
      refine lv_icmp_ge (tgt := 62) hx hb dX6_takeWord_32 (by decide) (fun c11 => ?_) (fun c11 => ?_)
      · have c11 : (2 : Int) ≤ v27_3.toInt := wk_le.mp c11
        replace hM := hM.pos c11
        refine lv_aload_n hx hb dX6_takeWord_62 rfl (lv_at hl 0 rfl) ?_
        refine lv_iload_n hx hb dX6_takeWord_63 rfl (lv_at hl 2 rfl) ?_
        refine tk_puti hC hK hw hT hinX6 tyX6_ok nmX6 kC_at1 (by decide) rfl rfl 1 (by decide) (List.mem_cons_of_mem _ uw_9_16) rfl rfl rfl rfl (show 0 ≤ v27_2.toInt from Int.le_trans (by decide) r2) (show v27_2.toInt ≤ 400 from t3) dX6_takeWord_64 (fun H locs w12 hw hT k14 c13 => ?_)
        replace hM := hM.wr (sI_up k14 c13)
        have hF := hF.put kC_at1 (k := 1) (by decide) k14
        refine lv_iconst (v := 1) hx hb dX6_takeWord_67 (by decide) ?_
        exact tk_zret hC hr rfl hlocks hK ⟨hT, hF, hM.ret (by decide), (Or.inr ⟨rfl, ⟨v27_2, c13, (show 2 ≤ v27_2.toInt from r2), (show v27_2.toInt ≤ 400 from t3)⟩⟩)⟩ hw dX6_takeWord_68
      · have c11 : v27_3.toInt < (2 : Int) := wk_leF c11
        replace hM := hM.neg (Int.not_le.mpr c11)
        refine lv_aload_n hx hb dX6_takeWord_35 rfl (lv_at hl 0 rfl) ?_
        refine tk_getA hC hK hw hT hinX6 kC_at1 (by decide) rfl 0 (by decide) (List.mem_cons_of_mem _ uw_2_12) rfl rfl dX6_takeWord_36 ?_
        refine lv_aload_n hx hb dX6_takeWord_39 rfl (lv_at hl 0 rfl) ?_
        refine tk_geti hC hK hw hT hinX6 kC_at1 (by decide) rfl 1 (by decide) (List.mem_cons_of_mem _ uw_9_16) rfl rfl dX6_takeWord_40 (fun x15 c16 rx15 tx15 => ?_)
        refine wk_top f27_1_1 (c16.symm.trans c8) ?_
        replace hM := hM.rd (sI_at c8)
        refine lv_iload_n hx hb dX6_takeWord_43 rfl (lv_at hl 3 rfl) ?_
        refine lv_iadd hx hb dX6_takeWord_44 ?_
        refine lv_topi (fun x17 ex17 => ?_)
        have ezx17 := ex17
        have ex17 : x17.toInt = f27_1_1.toInt + v27_3.toInt := by rw [ex17]; exact wk_add (show (-2147483648) ≤ f27_1_1.toInt + v27_3.toInt by omega) (show f27_1_1.toInt + v27_3.toInt ≤ 2147483647 by omega)
        replace hM := hM.lt ex17.symm
        refine tk_iald hC hK hw hT kC_at2 rfl rfl (show 0 ≤ x17.toInt by first | with_reducible assumption | omega) (show x17.toInt < 400 by first | with_reducible assumption | omega) dX6_takeWord_45 (fun x18 c19 rx18 tx18 => ?_)
        have hox18 := c19
        replace hM := hM.rd (sI_at hox18)
        refine lv_aload_n hx hb dX6_takeWord_46 rfl (lv_at hl 1 rfl) ?_
        refine lv_iload_n hx hb dX6_takeWord_47 rfl (lv_at hl 3 rfl) ?_
        refine tk_ViT hC hK hw hA hE hSR (s_charAt l adK adV dC dI cy 7 (by decide) v27_3 (show 0 ≤ v27_3.toInt from r4) (show v27_3.toInt < 2 by first | with_reducible assumption | omega) H.size) (cwV 1 hC.2.2.2.2 uV_RX6_60 rfl rfl rfl (by decide +kernel) ⟨Nat.le_of_ble_eq_true rfl, Nat.le_of_ble_eq_true rfl⟩) 7 (by decide) rfl rfl rfl hl.1 rfl (Nat.le_of_ble_eq_true rfl) dX6_takeWord_48 (fun r20 H locs hp21 hw => ?_)
        obtain ⟨-, hp21⟩ := hp21
        replace hM := hM.lt (chS_e hp21 rfl)
        refine lv_icmp_eq (tgt := 56) hx hb dX6_takeWord_51 (by decide) (fun c22 => ?_) (fun c22 => ?_)
        · have c22 : x18.toInt = r20.toInt := wk_eq.mp c22
          replace hM := hM.pos c22
          obtain ⟨x23, ex23⟩ : ∃ y : Int32, y = v27_3 + Int32.ofInt 1 := ⟨_, rfl⟩
          have erx23 := ex23
          refine lv_iinc (v := x23) (lv' := [(3, .int x23), (0, .ref (ad 1)), (1, .ref (adK 7)), (2, .int v27_2)]) hx hb dX6_takeWord_56 hl (k := 3) rfl ex23.symm (by decide) rfl (fun ls hl => ?_)
          have ex23 : x23.toInt = v27_3.toInt + 1 := by rw [ex23]; exact wk_add (y := 1) (show -2147483648 ≤ v27_3.toInt + 1 by omega) (show v27_3.toInt + 1 ≤ 2147483647 by omega)
          replace hM := hM.lt ex23.symm
          refine lv_goto (tgt := 27) hx hb dX6_takeWord_59 (by decide) ?_
          exact ih27 v27_2 x23 f27_1_1 H locs ls w1 (show 2 ≤ v27_2.toInt from r2) (show v27_2.toInt ≤ 400 from t3) (show 0 ≤ x23.toInt by first | with_reducible assumption | omega) (show x23.toInt ≤ 2 by first | with_reducible assumption | omega) (show 0 ≤ f27_1_1.toInt from r6) (show f27_1_1.toInt ≤ 398 from t7) (show (2 - x23.toInt).toNat < n27 by first | exact tn_lt hm27 (by omega) (by omega) | omega) hw hT hF c8 hM (lv_sub hl [1, 2, 3, 0] rfl)
        · have c22 : ¬ x18.toInt = r20.toInt := wk_eqF c22
          replace hM := hM.neg c22
          refine lv_iconst (v := 0) hx hb dX6_takeWord_54 (by decide) ?_
          exact tk_zret hC hr rfl hlocks hK ⟨hT, hF, hM.ret (by decide), (Or.inl rfl)⟩ hw dX6_takeWord_55
  have hM : TT (fun n => m_X6_takeWord n 1 7 (sI w0)) (fun n => m_X6_takeWord n 1 7 (sI w0)) := TT.rf
  refine lv_aload_n hx hb dX6_takeWord_0 rfl (lv_at hl 0 rfl) ?_
  refine tk_Vi hC hK hw hT hA hE hSR kC_at1 (by decide) rfl (kz_X6_lookBehindBlanks_1 l adK adV dC dI cy ad B hB0 (Int.le_trans hB1 (by decide)) qr s1    w0 s.heap.size hT ) (cwV 0 hC.2.2.2.2 uV_RX6_28 rfl rfl rfl (by decide +kernel) ⟨Nat.le_of_ble_eq_true rfl, Nat.le_of_ble_eq_true rfl⟩) rfl hl.1 rfl (Nat.le_of_ble_eq_true rfl) dX6_takeWord_1 (fun r24 w26 H locs hp25 hw => ?_)
  obtain ⟨hT, k27, hv37, hg36⟩ := hp25
  have hF := hF.tr k27 (by decide)
  rcases hg36 with ⟨g28, g29, ⟨x30, c31, rx30, tx30⟩, ⟨x32, c33, rx32, tx32⟩, ⟨x34, c35, rx34, tx34⟩⟩ | rfl
  · replace hM := hM.call hv37 rfl
    refine lv_pop hx hb dX6_takeWord_4 rfl ?_
    refine lv_aload_n hx hb dX6_takeWord_5 rfl (lv_at hl 0 rfl) ?_
    refine tk_Vi hC hK hw hT hA hE hSR kC_at1 (by decide) rfl (kz_X6_endOfWord_1 l adK adV dC dI cy ad B hB0 (Int.le_trans hB1 (by decide)) qr s1    w26 H.size hT ) (cwV 0 hC.2.2.2.2 uV_RX6_53 rfl rfl rfl (by decide +kernel) ⟨Nat.le_of_ble_eq_true rfl, Nat.le_of_ble_eq_true rfl⟩) rfl hl.1 rfl (Nat.le_of_ble_eq_true rfl) dX6_takeWord_6 (fun r38 w40 H locs hp39 hw => ?_)
    obtain ⟨hT, k41, hv45, hg44⟩ := hp39
    have hF := hF.tr k41 (by decide)
    have c46 := k41.gi kC_at1 (by decide) c31
    have c47 := k41.gi kC_at1 (by decide) c33
    have c48 := k41.gi kC_at1 (by decide) c35
    obtain ⟨g42, g43⟩ := hg44
    replace hM := hM.call hv45 rfl
    refine lv_istore_n (lv' := [(2, .int r38), (0, .ref (ad 1)), (1, .ref (adK 7))]) hx hb dX6_takeWord_9 rfl hl (by decide) rfl (fun ls hl => ?_)
    refine lv_iload_n hx hb dX6_takeWord_10 rfl (lv_at hl 0 rfl) ?_
    refine lv_aload_n hx hb dX6_takeWord_11 rfl (lv_at hl 1 rfl) ?_
    refine tk_geti hC hK hw hT hinX6 kC_at1 (by decide) rfl 1 (by decide) (List.mem_cons_of_mem _ uw_9_16) rfl rfl dX6_takeWord_12 (fun x49 c50 rx49 tx49 => ?_)
    refine wk_top x30 (c50.symm.trans c46) ?_
    replace hM := hM.rd (sI_at c46)
    refine lv_isub hx hb dX6_takeWord_15 ?_
    refine lv_topi (fun x51 ex51 => ?_)
    have ezx51 := ex51
    have ex51 : x51.toInt = r38.toInt - x30.toInt := by rw [ex51]; exact wk_sub (show (-2147483648) ≤ r38.toInt - x30.toInt by omega) (show r38.toInt - x30.toInt ≤ 2147483647 by omega)
    replace hM := hM.lt ex51.symm
    refine lv_aload_n hx hb dX6_takeWord_16 rfl (lv_at hl 2 rfl) ?_
    refine tk_ViT hC hK hw hA hE hSR (s_length l adK adV dC dI cy 7 (by decide) H.size) (cwV 0 hC.2.2.2.2 uV_RX6_56 rfl rfl rfl (by decide +kernel) ⟨Nat.le_of_ble_eq_true rfl, Nat.le_of_ble_eq_true rfl⟩) 7 (by decide) rfl rfl rfl hl.1 rfl (Nat.le_of_ble_eq_true rfl) dX6_takeWord_17 (fun r52 H locs hp53 hw => ?_)
    obtain ⟨-, hp53⟩ := hp53
    obtain rfl : r52 = 2 := hp53
    replace hM := hM.lt (v := 2) (by decide)
    refine lv_icmp_eq (tgt := 25) hx hb dX6_takeWord_20 (by decide) (fun c54 => ?_) (fun c54 => ?_)
    · have c54 : x51.toInt = (2 : Int) := wk_eq.mp c54
      replace hM := hM.pos c54
      refine lv_iconst (v := 0) hx hb dX6_takeWord_25 (by decide) ?_
      refine lv_istore_n (lv' := [(3, .int 0), (2, .int r38), (0, .ref (ad 1)), (1, .ref (adK 7))]) hx hb dX6_takeWord_26 rfl hl (by decide) rfl (fun ls hl => ?_)
      exact L27 ((2 - (0 : Int)).toNat + 1) r38 0 x30 H locs ls w40 (show 2 ≤ r38.toInt by first | with_reducible assumption | omega) (show r38.toInt ≤ 400 by first | with_reducible assumption | omega) (by decide) (by decide) (show 0 ≤ x30.toInt by first | with_reducible assumption | omega) (show x30.toInt ≤ 398 by first | with_reducible assumption | omega) (Nat.lt_succ_self _) hw hT hF c46 hM (lv_sub hl [2, 3, 1, 0] rfl)
    · have c54 : ¬ x51.toInt = (2 : Int) := wk_eqF c54
      replace hM := hM.neg c54
      refine lv_iconst (v := 0) hx hb dX6_takeWord_23 (by decide) ?_
      exact tk_zret hC hr rfl hlocks hK ⟨hT, hF, hM.ret (by decide), (Or.inl rfl)⟩ hw dX6_takeWord_24
  · replace hM := hM.call (r' := (-1)) hv37 (by decide)
    refine lv_pop hx hb dX6_takeWord_4 rfl ?_
    refine lv_aload_n hx hb dX6_takeWord_5 rfl (lv_at hl 0 rfl) ?_
    refine tk_Vi hC hK hw hT hA hE hSR kC_at1 (by decide) rfl (kz_X6_endOfWord_1 l adK adV dC dI cy ad B hB0 (Int.le_trans hB1 (by decide)) qr s1    w26 H.size hT ) (cwV 0 hC.2.2.2.2 uV_RX6_53 rfl rfl rfl (by decide +kernel) ⟨Nat.le_of_ble_eq_true rfl, Nat.le_of_ble_eq_true rfl⟩) rfl hl.1 rfl (Nat.le_of_ble_eq_true rfl) dX6_takeWord_6 (fun r55 w57 H locs hp56 hw => ?_)
    obtain ⟨hT, k58, hv62, hg61⟩ := hp56
    have hF := hF.tr k58 (by decide)
    obtain ⟨g59, g60⟩ := hg61
    replace hM := hM.call hv62 rfl
    refine lv_istore_n (lv' := [(2, .int r55), (0, .ref (ad 1)), (1, .ref (adK 7))]) hx hb dX6_takeWord_9 rfl hl (by decide) rfl (fun ls hl => ?_)
    refine lv_iload_n hx hb dX6_takeWord_10 rfl (lv_at hl 0 rfl) ?_
    refine lv_aload_n hx hb dX6_takeWord_11 rfl (lv_at hl 1 rfl) ?_
    refine tk_geti hC hK hw hT hinX6 kC_at1 (by decide) rfl 1 (by decide) (List.mem_cons_of_mem _ uw_9_16) rfl rfl dX6_takeWord_12 (fun x63 c64 rx63 tx63 => ?_)
    replace hM := hM.rd (sI_at c64)
    refine lv_isub hx hb dX6_takeWord_15 ?_
    refine lv_topi (fun x65 ex65 => ?_)
    have ezx65 := ex65
    have ex65 : x65.toInt = r55.toInt - x63.toInt := by rw [ex65]; exact wk_sub (show (-2147483648) ≤ r55.toInt - x63.toInt by omega) (show r55.toInt - x63.toInt ≤ 2147483647 by omega)
    replace hM := hM.lt ex65.symm
    refine lv_aload_n hx hb dX6_takeWord_16 rfl (lv_at hl 2 rfl) ?_
    refine tk_ViT hC hK hw hA hE hSR (s_length l adK adV dC dI cy 7 (by decide) H.size) (cwV 0 hC.2.2.2.2 uV_RX6_56 rfl rfl rfl (by decide +kernel) ⟨Nat.le_of_ble_eq_true rfl, Nat.le_of_ble_eq_true rfl⟩) 7 (by decide) rfl rfl rfl hl.1 rfl (Nat.le_of_ble_eq_true rfl) dX6_takeWord_17 (fun r66 H locs hp67 hw => ?_)
    obtain ⟨-, hp67⟩ := hp67
    obtain rfl : r66 = 2 := hp67
    replace hM := hM.lt (v := 2) (by decide)
    refine lv_icmp_eq (tgt := 25) hx hb dX6_takeWord_20 (by decide) (fun c68 => ?_) (fun c68 => ?_)
    · have c68 : x65.toInt = (2 : Int) := wk_eq.mp c68
      replace hM := hM.pos c68
      refine lv_iconst (v := 0) hx hb dX6_takeWord_25 (by decide) ?_
      refine lv_istore_n (lv' := [(3, .int 0), (2, .int r55), (0, .ref (ad 1)), (1, .ref (adK 7))]) hx hb dX6_takeWord_26 rfl hl (by decide) rfl (fun ls hl => ?_)
      exact L27 ((2 - (0 : Int)).toNat + 1) r55 0 x63 H locs ls w57 (show 2 ≤ r55.toInt by first | with_reducible assumption | omega) (show r55.toInt ≤ 400 by first | with_reducible assumption | omega) (by decide) (by decide) (show 0 ≤ x63.toInt from rx63) (show x63.toInt ≤ 398 by first | with_reducible assumption | omega) (Nat.lt_succ_self _) hw hT hF c64 hM (lv_sub hl [2, 3, 1, 0] rfl)
    · have c68 : ¬ x65.toInt = (2 : Int) := wk_eqF c68
      replace hM := hM.neg c68
      refine lv_iconst (v := 0) hx hb dX6_takeWord_23 (by decide) ?_
      exact tk_zret hC hr rfl hlocks hK ⟨hT, hF, hM.ret (by decide), (Or.inl rfl)⟩ hw dX6_takeWord_24
abbrev Pz_X3_countItem_1 (ad : Nat → Nat) (cy : Nat → ClassId) (B : Int) (qr : Nat) (s1 : Int)  (w0 : va_W) : va_W → Prop := fun u => TW ksC ad cy B qr s1 u ∧ FE ksC [(3, 2, 2), (6, 4, 4)] w0 u ∧ Ev (fun n => m_X3_countItem n 3 (sI w0)) (0, sI u) ∧ ((True))
set_option maxHeartbeats 4000000 in
set_option maxRecDepth 100000 in
theorem kz_X3_countItem_1 (l : Launch) (adK adV : Nat → Nat) (dC : Nat → ClassId) (dI : Nat → Nat → Nat) (cy : Nat → ClassId) (ad : Nat → Nat) (B : Int) (hB0 : 2147483648 ≤ B) (hB1 : B ≤ 1152921504606846976) (qr : Nat) (s1 : Int)   (w0 : va_W) (sz : Nat) (hT : TW ksC ad cy B qr s1 w0)  : Met l yX3_countItem (wu yX3_countItem cX3_countItem 1 none) ({ frames := 2, cells := 0, slots := 0, locals := 34 }) (va_Pc [.ref (ad 3)] (wpreS adK adV dC dI cy sz w0)) (va_Qv (Pz_X3_countItem_1 ad cy B qr s1  w0) (fun u : va_W => wpost dC dI cy (va_A w0 sz) u) (va_A w0 sz)) 0 0 (va_A w0 sz) := by
  refine Met.ofW (cc := cX3_countItem) (maxL := 1) (ret := none) (by decide) rfl ?_
  intro p e s m args below meth c s₁ Bk hml hv
  obtain ⟨rfl, ⟨hsz, hP, hK, hD0⟩, hE, hSR⟩ := hv
  have hx := Bk.exec
  have hb := Bk.bytes
  have hr := Bk.returns
  have hlocks := Bk.notSynchronized
  have hC : CallFix p m c cX3_countItem 1 s _ (wu yX3_countItem cX3_countItem 1 none) RX3 := ⟨hx, hb, hml, findClass_of_methodNamed Bk.named, atoms_spec (ws := (wu yX3_countItem cX3_countItem 1 none)) Bk.pre⟩
  subst hsz
  have hD := hD0.self (sz := s.heap.size)
  generalize hAe : va_A w0 s.heap.size = A at hD hE ⊢
  have hA : ∀ q : Nat, s.heap.size ≤ q → A q := fun q h => by rw [← hAe]; exact Or.inr h
  have hw : Wd dC dI A s.heap s.heap [] w0 := ⟨hP, hD, va_S.rf⟩
  have hF : FE ksC [(3, 2, 2), (6, 4, 4)] w0 w0 := FE.rf
  have hl := lv_entry ([.ref (ad 3)]) (n := 1) (Nat.le_of_ble_eq_true rfl)
  rw [lg_entry_eq]
  generalize (lg_sl ([.ref (ad 3)]) ++ List.replicate (1 - (lg_sl ([.ref (ad 3)])).length) Slot.unset).toArray = ls at hl ⊢
  have hl : lv_has ls 1 [(0, .ref (ad 3))] := hl
  generalize hloc : ([] : List Loc) = locs at hw ⊢
  have hinX3 : ∀ w ∈ u_ws RX3 TX3 3, w ∈ (wu yX3_countItem cX3_countItem 1 none) := fun _ h => List.mem_cons_of_mem _ (up_75 h)
  have hinX6 : ∀ w ∈ u_ws RX6 TX6 5, w ∈ (wu yX3_countItem cX3_countItem 1 none) := fun _ h => List.mem_cons_of_mem _ (up_72 h)
  have J34 : ∀ (f34_3_2 : Int32) (H : Heap) (locs : List Loc) (ls : Array Slot) (w1 : va_W), Wd dC dI A s.heap H locs w1 → TW ksC ad cy B qr s1 w1 → FE ksC [(3, 2, 2), (6, 4, 4)] w0 w1 → gi w1 3 2 = f34_3_2 → TT (fun n => m_X3_countItem n 3 (sI w0)) (fun n => b_X3_countItem_34 n 3 (sI w1)) → lv_has ls 1 [(0, .ref (ad 3))] → W p l e ({ frames := 2, cells := 0, slots := 0, locals := 34 }) s m (List.toArray [.ref (ad 3)]) below meth c H locs 0 0 (MQ below (va_Qv (Pz_X3_countItem_1 ad cy B qr s1  w0) (fun u : va_W => wpost dC dI cy A u) A) (List.toArray [.ref (ad 3)]) s 0 0 A) (F0 m 34 ls []) := by
    intro f34_3_2 H locs ls w1 hw hT hF c2 hM hl
    exact tk_vret hC hr hlocks hK ⟨hT, hF, hM.ret rfl, trivial⟩ hw dX3_countItem_34
  have hM : TT (fun n => m_X3_countItem n 3 (sI w0)) (fun n => m_X3_countItem n 3 (sI w0)) := TT.rf
  refine lv_aload_n hx hb dX3_countItem_0 rfl (lv_at hl 0 rfl) ?_
  refine lv_dup hx hb dX3_countItem_1 rfl ?_
  refine tk_geti hC hK hw hT hinX3 kC_at3 (by decide) rfl 2 (by decide) (List.mem_cons_of_mem _ uw_26_18) rfl rfl dX3_countItem_2 (fun x3 c4 rx3 tx3 => ?_)
  replace hM := hM.rd (sI_at c4)
  refine lv_iconst (v := 1) hx hb dX3_countItem_5 (by decide) ?_
  refine lv_iadd hx hb dX3_countItem_6 ?_
  have nx5 := wk_i32 x3
  refine lv_topi (fun x6 ex6 => ?_)
  have ezx6 := ex6
  replace hM := hM.lt (o32_e (f := fun x y => x + y) ezx6 rfl (by decide))
  refine tk_puti hC hK hw hT hinX3 tyX3_ok nmX3 kC_at3 (by decide) rfl rfl 2 (by decide) (List.mem_cons_of_mem _ uw_26_18) rfl rfl rfl rfl (wk_i32 x6).1 (wk_i32 x6).2 dX3_countItem_7 (fun H locs w7 hw hT k9 c8 => ?_)
  replace hM := hM.wr (sI_up k9 c8)
  have hF := hF.put kC_at3 (k := 2) (by decide) k9
  refine lv_aload_n hx hb dX3_countItem_10 rfl (lv_at hl 0 rfl) ?_
  refine tk_geti hC hK hw hT hinX3 kC_at3 (by decide) rfl 2 (by decide) (List.mem_cons_of_mem _ uw_26_18) rfl rfl dX3_countItem_11 (fun x10 c11 rx10 tx10 => ?_)
  refine wk_top x6 (c11.symm.trans c8) ?_
  replace hM := hM.rd (sI_at c8)
  refine lv_bipush (v := 60) hx hb dX3_countItem_14 (by decide) ?_
  refine lv_icmp_le (tgt := 34) hx hb dX3_countItem_16 (by decide) (fun c12 => ?_) (fun c12 => ?_)
  · have c12 : x6.toInt ≤ (60 : Int) := wk_le.mp c12
    replace hM := hM.pos c12
    exact J34 x6 H locs ls w7   hw hT hF c8 hM (lv_sub hl [0] rfl)
  · have c12 : (60 : Int) < x6.toInt := wk_leF c12
    replace hM := hM.neg (Int.not_le.mpr c12)
    refine lv_aload_n hx hb dX3_countItem_19 rfl (lv_at hl 0 rfl) ?_
    refine tk_getA hC hK hw hT hinX3 kC_at3 (by decide) rfl 0 (by decide) (List.mem_cons_of_mem _ uw_3_12) rfl rfl dX3_countItem_20 ?_
    refine lv_aload_n hx hb dX3_countItem_23 rfl (lv_at hl 0 rfl) ?_
    refine tk_getA hC hK hw hT hinX3 kC_at3 (by decide) rfl 0 (by decide) (List.mem_cons_of_mem _ uw_3_12) rfl rfl dX3_countItem_24 ?_
    refine tk_geti hC hK hw hT hinX6 kC_at1 (by decide) rfl 3 (by decide) (List.mem_cons_of_mem _ uw_26_19) rfl rfl dX3_countItem_27 (fun x13 c14 rx13 tx13 => ?_)
    replace hM := hM.rd (sI_at c14)
    refine lv_iconst (v := 3) hx hb dX3_countItem_30 (by decide) ?_
    refine tk_Vv hC hK hw hT hA hE hSR kC_at1 (by decide) rfl (kz_X6_blame_1 l adK adV dC dI cy ad B hB0 (Int.le_trans hB1 (by decide)) qr s1   x13 (show 0 ≤ x13.toInt from rx13) (show x13.toInt ≤ 400 from tx13) 3 (by decide) (by decide) w7 H.size hT ) (cwV 2 hC.2.2.2.2 uV_RX3_46 rfl rfl rfl (by decide +kernel) ⟨Nat.le_of_ble_eq_true rfl, Nat.le_of_ble_eq_true rfl⟩) rfl hl.1 rfl (Nat.le_of_ble_eq_true rfl) dX3_countItem_31 (fun w17 H locs hp16 hw => ?_)
    obtain ⟨hT, k18, hv22, hg21⟩ := hp16
    try simp only [show (3 : Int32).toInt = 3 by decide] at hv22
    have hF := hF.tr k18 (by decide)
    have c23 := k18.gi kC_at3 (by decide) c8
    have c24 := k18.gi kC_at1 (by decide) c14
    obtain ⟨x19, c20, rx19, tx19⟩ := hg21
    replace hM := hM.call hv22 rfl
    exact J34 x6 H locs ls w17   hw hT hF c23 hM (lv_sub hl [0] rfl)
abbrev Pz_X6_readWord_2 (ad : Nat → Nat) (cy : Nat → ClassId) (B : Int) (qr : Nat) (s1 : Int)  (w0 : va_W) : Int32 → va_W → Prop := fun r u => TW ksC ad cy B qr s1 u ∧ FE ksC [(6, 1, 1), (6, 3, 3), (6, 4, 4)] w0 u ∧ Ev (fun n => m_X6_readWord n 1 5 (sI w0)) (r.toInt, sI u) ∧ ((0 ≤ r.toInt ∧ r.toInt ≤ 53 ∧ (∃ y : Int32, gi u 1 4 = y ∧ 0 ≤ y.toInt ∧ y.toInt ≤ 0)) ∨ (r = (-1) ∧ (∃ y : Int32, gi u 1 4 = y ∧ 1 ≤ y.toInt ∧ y.toInt ≤ 3205)))
set_option maxHeartbeats 4000000 in
set_option maxRecDepth 100000 in
theorem kz_X6_readWord_2 (l : Launch) (adK adV : Nat → Nat) (dC : Nat → ClassId) (dI : Nat → Nat → Nat) (cy : Nat → ClassId) (ad : Nat → Nat) (B : Int) (hB0 : 2147483648 ≤ B) (hB1 : B ≤ 1152921504606846976) (qr : Nat) (s1 : Int)   (w0 : va_W) (sz : Nat) (hT : TW ksC ad cy B qr s1 w0) (cf0_ : gi w0 1 4 = 0) : Met l yX6_readWord (wu yX6_readWord cX6_readWord 8 (some .int)) ({ frames := 5, cells := 0, slots := 0, locals := 141 }) (va_Pc [.ref (ad 1), .ref (adK 5)] (wpreS adK adV dC dI cy sz w0)) (va_Qi (Pz_X6_readWord_2 ad cy B qr s1  w0) (fun u : va_W => wpost dC dI cy (va_A w0 sz) u) (va_A w0 sz)) 0 0 (va_A w0 sz) := by
  refine Met.ofW (cc := cX6_readWord) (maxL := 8) (ret := (some .int)) (by decide) rfl ?_
  intro p e s m args below meth c s₁ Bk hml hv
  obtain ⟨rfl, ⟨hsz, hP, hK, hD0⟩, hE, hSR⟩ := hv
  have hx := Bk.exec
  have hb := Bk.bytes
  have hr := Bk.returns
  have hlocks := Bk.notSynchronized
  have hC : CallFix p m c cX6_readWord 8 s _ (wu yX6_readWord cX6_readWord 8 (some .int)) RX6 := ⟨hx, hb, hml, findClass_of_methodNamed Bk.named, atoms_spec (ws := (wu yX6_readWord cX6_readWord 8 (some .int))) Bk.pre⟩
  subst hsz
  have hD := hD0.self (sz := s.heap.size)
  generalize hAe : va_A w0 s.heap.size = A at hD hE ⊢
  have hA : ∀ q : Nat, s.heap.size ≤ q → A q := fun q h => by rw [← hAe]; exact Or.inr h
  have hw : Wd dC dI A s.heap s.heap [] w0 := ⟨hP, hD, va_S.rf⟩
  have hF : FE ksC [(6, 1, 1), (6, 3, 3), (6, 4, 4)] w0 w0 := FE.rf
  have hl := lv_entry ([.ref (ad 1), .ref (adK 5)]) (n := 8) (Nat.le_of_ble_eq_true rfl)
  rw [lg_entry_eq]
  generalize (lg_sl ([.ref (ad 1), .ref (adK 5)]) ++ List.replicate (8 - (lg_sl ([.ref (ad 1), .ref (adK 5)])).length) Slot.unset).toArray = ls at hl ⊢
  have hl : lv_has ls 8 [(0, .ref (ad 1)), (1, .ref (adK 5))] := hl
  generalize hloc : ([] : List Loc) = locs at hw ⊢
  have hinX6 : ∀ w ∈ u_ws RX6 TX6 5, w ∈ (wu yX6_readWord cX6_readWord 8 (some .int)) := fun _ h => List.mem_cons_of_mem _ (up_72 h)
  have L24 : ∀ (n24 : Nat) (v24_2 : Int32) (v24_3 : Int32) (v24_4 : Int32) (v24_5 : Int32) (v24_6 : Int32) (f24_1_1 : Int32) (H : Heap) (locs : List Loc) (ls : Array Slot) (w1 : va_W), 0 ≤ v24_2.toInt → v24_2.toInt ≤ 400 → 0 ≤ v24_3.toInt → v24_3.toInt ≤ 53 → 0 ≤ v24_4.toInt → v24_4.toInt ≤ 453 → 0 ≤ v24_5.toInt → v24_5.toInt ≤ 1 → 0 ≤ v24_6.toInt → v24_6.toInt ≤ 53 → 0 ≤ f24_1_1.toInt → f24_1_1.toInt ≤ 400 → v24_4.toInt ≤ v24_6.toInt + 400 → v24_3.toInt ≤ v24_6.toInt + 0 → (53 - v24_6.toInt).toNat < n24 → Wd dC dI A s.heap H locs w1 → TW ksC ad cy B qr s1 w1 → FE ksC [(6, 1, 1), (6, 3, 3), (6, 4, 4)] w0 w1 → gi w1 1 1 = f24_1_1 → gi w1 1 4 = 0 → TT (fun n => m_X6_readWord n 1 5 (sI w0)) (fun n => j_X6_readWord 1 5 n 24 [v24_2.toInt, v24_3.toInt, v24_4.toInt, v24_5.toInt, v24_6.toInt] (sI w1)) → lv_has ls 8 [(0, .ref (ad 1)), (1, .ref (adK 5)), (2, .int v24_2), (3, .int v24_3), (4, .int v24_4), (5, .int v24_5), (6, .int v24_6)] → W p l e ({ frames := 5, cells := 0, slots := 0, locals := 141 }) s m (List.toArray [.ref (ad 1), .ref (adK 5)]) below meth c H locs 0 0 (MQ below (va_Qi (Pz_X6_readWord_2 ad cy B qr s1  w0) (fun u : va_W => wpost dC dI cy A u) A) (List.toArray [.ref (ad 1), .ref (adK 5)]) s 0 0 A) (F0 m 24 ls []) := by
    intro n24
    induction n24 with
    | zero => intro v24_2 v24_3 v24_4 v24_5 v24_6 f24_1_1 H locs ls w1 r2 t3 r4 t5 r6 t7 r8 t9 r10 t11 r12 t13 i16 i17 hm24 hw hT hF c14 c15 hM hl; omega
    | succ n24 ih24 =>
      intro v24_2 v24_3 v24_4 v24_5 v24_6 f24_1_1 H locs ls w1 r2 t3 r4 t5 r6 t7 r8 t9 r10 t11 r12 t13 i16 i17 hm24 hw hT hF c14 c15 hM hl
      have J114 : ∀ (v114_3 : Int32) (v114_4 : Int32) (v114_5 : Int32) (v114_7 : Int32) (H : Heap) (locs : List Loc) (ls : Array Slot) (w18 : va_W), 0 ≤ v24_2.toInt → v24_2.toInt ≤ 400 → 0 ≤ v114_3.toInt → v114_3.toInt ≤ 53 → 0 ≤ v114_4.toInt → v114_4.toInt ≤ 453 → 0 ≤ v114_5.toInt → v114_5.toInt ≤ 1 → 0 ≤ v24_6.toInt → v24_6.toInt ≤ 52 → 0 ≤ f24_1_1.toInt → f24_1_1.toInt ≤ 400 → v114_4.toInt ≤ v24_6.toInt + 401 → v114_3.toInt ≤ v24_6.toInt + 1 → Wd dC dI A s.heap H locs w18 → TW ksC ad cy B qr s1 w18 → FE ksC [(6, 1, 1), (6, 3, 3), (6, 4, 4)] w0 w18 → gi w18 1 1 = f24_1_1 → gi w18 1 4 = 0 → TT (fun n => m_X6_readWord n 1 5 (sI w0)) (fun n => b_X6_readWord_114 (j_X6_readWord 1 5 n) n 1 5 (v24_2.toInt) (v114_3.toInt) (v114_4.toInt) (v114_5.toInt) (v24_6.toInt) (sI w18)) → lv_has ls 8 [(0, .ref (ad 1)), (1, .ref (adK 5)), (2, .int v24_2), (3, .int v114_3), (4, .int v114_4), (5, .int v114_5), (6, .int v24_6), (7, .int v114_7)] → W p l e ({ frames := 5, cells := 0, slots := 0, locals := 141 }) s m (List.toArray [.ref (ad 1), .ref (adK 5)]) below meth c H locs 0 0 (MQ below (va_Qi (Pz_X6_readWord_2 ad cy B qr s1  w0) (fun u : va_W => wpost dC dI cy A u) A) (List.toArray [.ref (ad 1), .ref (adK 5)]) s 0 0 A) (F0 m 114 ls []) := by
        intro v114_3 v114_4 v114_5 v114_7 H locs ls w18 r19 t20 r21 t22 r23 t24 r25 t26 r27 t28 r29 t30 i33 i34 hw hT hF c31 c32 hM hl
        obtain ⟨x35, ex35⟩ : ∃ y : Int32, y = v24_6 + Int32.ofInt 1 := ⟨_, rfl⟩
        have erx35 := ex35
        refine lv_iinc (v := x35) (lv' := [(6, .int x35), (0, .ref (ad 1)), (1, .ref (adK 5)), (2, .int v24_2), (3, .int v114_3), (4, .int v114_4), (5, .int v114_5), (7, .int v114_7)]) hx hb dX6_readWord_114 hl (k := 6) rfl ex35.symm (by decide) rfl (fun ls hl => ?_)
        have ex35 : x35.toInt = v24_6.toInt + 1 := by rw [ex35]; exact wk_add (y := 1) (show -2147483648 ≤ v24_6.toInt + 1 by omega) (show v24_6.toInt + 1 ≤ 2147483647 by omega)
        replace hM := hM.lt ex35.symm
        refine lv_goto (tgt := 24) hx hb dX6_readWord_117 (by decide) ?_
        exact ih24 v24_2 v114_3 v114_4 v114_5 x35 f24_1_1 H locs ls w18 (show 0 ≤ v24_2.toInt from r19) (show v24_2.toInt ≤ 400 from t20) (show 0 ≤ v114_3.toInt from r21) (show v114_3.toInt ≤ 53 from t22) (show 0 ≤ v114_4.toInt from r23) (show v114_4.toInt ≤ 453 from t24) (show 0 ≤ v114_5.toInt from r25) (show v114_5.toInt ≤ 1 from t26) (show 0 ≤ x35.toInt by first | with_reducible assumption | omega) (show x35.toInt ≤ 53 by first | with_reducible assumption | omega) (show 0 ≤ f24_1_1.toInt from r29) (show f24_1_1.toInt ≤ 400 from t30) (show v114_4.toInt ≤ x35.toInt + 400 by omega) (show v114_3.toInt ≤ x35.toInt + 0 by omega) (show (53 - x35.toInt).toNat < n24 by first | exact tn_lt hm24 (by omega) (by omega) | omega) hw hT hF c31 c32 hM (lv_sub hl [1, 2, 3, 4, 5, 6, 0] rfl)
      have J75 : ∀ (v75_7 : Int32) (H : Heap) (locs : List Loc) (ls : Array Slot) (w36 : va_W), 0 ≤ v24_2.toInt → v24_2.toInt ≤ 400 → 0 ≤ v24_3.toInt → v24_3.toInt ≤ 53 → 0 ≤ v24_4.toInt → v24_4.toInt ≤ 453 → 0 ≤ v24_5.toInt → v24_5.toInt ≤ 1 → 0 ≤ v24_6.toInt → v24_6.toInt ≤ 52 → 0 ≤ f24_1_1.toInt → f24_1_1.toInt ≤ 400 → v24_4.toInt ≤ v24_6.toInt + 401 → v24_3.toInt ≤ v24_6.toInt + 1 → Wd dC dI A s.heap H locs w36 → TW ksC ad cy B qr s1 w36 → FE ksC [(6, 1, 1), (6, 3, 3), (6, 4, 4)] w0 w36 → gi w36 1 1 = f24_1_1 → gi w36 1 4 = 0 → TT (fun n => m_X6_readWord n 1 5 (sI w0)) (fun n => b_X6_readWord_75 (j_X6_readWord 1 5 n) n 1 5 (v24_2.toInt) (v24_3.toInt) (v24_4.toInt) (v24_6.toInt) (sI w36)) → lv_has ls 8 [(0, .ref (ad 1)), (1, .ref (adK 5)), (2, .int v24_2), (3, .int v24_3), (4, .int v24_4), (5, .int v24_5), (6, .int v24_6), (7, .int v75_7)] → W p l e ({ frames := 5, cells := 0, slots := 0, locals := 141 }) s m (List.toArray [.ref (ad 1), .ref (adK 5)]) below meth c H locs 0 0 (MQ below (va_Qi (Pz_X6_readWord_2 ad cy B qr s1  w0) (fun u : va_W => wpost dC dI cy A u) A) (List.toArray [.ref (ad 1), .ref (adK 5)]) s 0 0 A) (F0 m 75 ls []) := by
        intro v75_7 H locs ls w36 r37 t38 r39 t40 r41 t42 r43 t44 r45 t46 r47 t48 i51 i52 hw hT hF c49 c50 hM hl
        refine lv_iconst (v := 0) hx hb dX6_readWord_75 (by decide) ?_
        refine lv_istore (lv' := [(5, .int 0), (0, .ref (ad 1)), (1, .ref (adK 5)), (2, .int v24_2), (3, .int v24_3), (4, .int v24_4), (6, .int v24_6), (7, .int v75_7)]) hx hb dX6_readWord_76 hl (by decide) rfl (fun ls hl => ?_)
        obtain ⟨x53, ex53⟩ : ∃ y : Int32, y = v24_4 + Int32.ofInt 1 := ⟨_, rfl⟩
        have erx53 := ex53
        refine lv_iinc (v := x53) (lv' := [(4, .int x53), (5, .int 0), (0, .ref (ad 1)), (1, .ref (adK 5)), (2, .int v24_2), (3, .int v24_3), (6, .int v24_6), (7, .int v75_7)]) hx hb dX6_readWord_78 hl (k := 5) rfl ex53.symm (by decide) rfl (fun ls hl => ?_)
        have ex53 : x53.toInt = v24_4.toInt + 1 := by rw [ex53]; exact wk_add (y := 1) (show -2147483648 ≤ v24_4.toInt + 1 by omega) (show v24_4.toInt + 1 ≤ 2147483647 by omega)
        replace hM := hM.lt ex53.symm
        refine lv_goto (tgt := 114) hx hb dX6_readWord_81 (by decide) ?_
        exact J114 v24_3 x53 0 v75_7 H locs ls w36 (show 0 ≤ v24_2.toInt from r37) (show v24_2.toInt ≤ 400 from t38) (show 0 ≤ v24_3.toInt from r39) (show v24_3.toInt ≤ 53 from t40) (show 0 ≤ x53.toInt by first | with_reducible assumption | omega) (show x53.toInt ≤ 453 by first | with_reducible assumption | omega) (by decide) (by decide) (show 0 ≤ v24_6.toInt from r45) (show v24_6.toInt ≤ 52 from t46) (show 0 ≤ f24_1_1.toInt from r47) (show f24_1_1.toInt ≤ 400 from t48) (show x53.toInt ≤ v24_6.toInt + 401 by omega) (show v24_3.toInt ≤ v24_6.toInt + 1 from i52)  hw hT hF c49 c50 hM (lv_sub hl [2, 3, 4, 5, 0, 1, 6, 7] rfl)
      have J102 : ∀ (H : Heap) (locs : List Loc) (ls : Array Slot) (w54 : va_W), 0 ≤ v24_2.toInt → v24_2.toInt ≤ 400 → 0 ≤ v24_3.toInt → v24_3.toInt ≤ 53 → 0 ≤ v24_4.toInt → v24_4.toInt ≤ 453 → 0 ≤ v24_5.toInt → v24_5.toInt ≤ 1 → 0 ≤ v24_6.toInt → v24_6.toInt ≤ 52 → 0 ≤ f24_1_1.toInt → f24_1_1.toInt ≤ 400 → v24_4.toInt ≤ v24_6.toInt + 401 → v24_3.toInt ≤ v24_6.toInt + 1 → Wd dC dI A s.heap H locs w54 → TW ksC ad cy B qr s1 w54 → FE ksC [(6, 1, 1), (6, 3, 3), (6, 4, 4)] w0 w54 → gi w54 1 1 = f24_1_1 → gi w54 1 4 = 0 → TT (fun n => m_X6_readWord n 1 5 (sI w0)) (fun n => b_X6_readWord_102 (j_X6_readWord 1 5 n) n 1 5 (v24_2.toInt) (v24_3.toInt) (v24_6.toInt) (sI w54)) → lv_has ls 8 [(0, .ref (ad 1)), (1, .ref (adK 5)), (2, .int v24_2), (3, .int v24_3), (4, .int v24_4), (5, .int v24_5), (6, .int v24_6), (7, .int 32)] → W p l e ({ frames := 5, cells := 0, slots := 0, locals := 141 }) s m (List.toArray [.ref (ad 1), .ref (adK 5)]) below meth c H locs 0 0 (MQ below (va_Qi (Pz_X6_readWord_2 ad cy B qr s1  w0) (fun u : va_W => wpost dC dI cy A u) A) (List.toArray [.ref (ad 1), .ref (adK 5)]) s 0 0 A) (F0 m 102 ls []) := by
        intro H locs ls w54 r55 t56 r57 t58 r59 t60 r61 t62 r63 t64 r65 t66 i69 i70 hw hT hF c67 c68 hM hl
        obtain ⟨x71, ex71⟩ : ∃ y : Int32, y = v24_3 + Int32.ofInt 1 := ⟨_, rfl⟩
        have erx71 := ex71
        refine lv_iinc (v := x71) (lv' := [(3, .int x71), (0, .ref (ad 1)), (1, .ref (adK 5)), (2, .int v24_2), (4, .int v24_4), (5, .int v24_5), (6, .int v24_6), (7, .int 32)]) hx hb dX6_readWord_102 hl (k := 3) rfl ex71.symm (by decide) rfl (fun ls hl => ?_)
        have ex71 : x71.toInt = v24_3.toInt + 1 := by rw [ex71]; exact wk_add (y := 1) (show -2147483648 ≤ v24_3.toInt + 1 by omega) (show v24_3.toInt + 1 ≤ 2147483647 by omega)
        replace hM := hM.lt ex71.symm
        refine lv_aload_n hx hb dX6_readWord_105 rfl (lv_at hl 1 rfl) ?_
        refine tk_geti hC hK hw hT hinX6 kC_at1 (by decide) rfl 1 (by decide) (List.mem_cons_of_mem _ uw_9_16) rfl rfl dX6_readWord_106 (fun x72 c73 rx72 tx72 => ?_)
        refine wk_top f24_1_1 (c73.symm.trans c67) ?_
        replace hM := hM.rd (sI_at c67)
        refine lv_istore (lv' := [(4, .int f24_1_1), (3, .int x71), (0, .ref (ad 1)), (1, .ref (adK 5)), (2, .int v24_2), (5, .int v24_5), (6, .int v24_6), (7, .int 32)]) hx hb dX6_readWord_109 hl (by decide) rfl (fun ls hl => ?_)
        refine lv_iconst (v := 1) hx hb dX6_readWord_111 (by decide) ?_
        refine lv_istore (lv' := [(5, .int 1), (4, .int f24_1_1), (3, .int x71), (0, .ref (ad 1)), (1, .ref (adK 5)), (2, .int v24_2), (6, .int v24_6), (7, .int 32)]) hx hb dX6_readWord_112 hl (by decide) rfl (fun ls hl => ?_)
        exact J114 x71 f24_1_1 1 32 H locs ls w54 (show 0 ≤ v24_2.toInt from r55) (show v24_2.toInt ≤ 400 from t56) (show 0 ≤ x71.toInt by first | with_reducible assumption | omega) (show x71.toInt ≤ 53 by first | with_reducible assumption | omega) (show 0 ≤ f24_1_1.toInt from r65) (show f24_1_1.toInt ≤ 453 from Int.le_trans t66 (by decide)) (by decide) (by decide) (show 0 ≤ v24_6.toInt from r63) (show v24_6.toInt ≤ 52 from t64) (show 0 ≤ f24_1_1.toInt from r65) (show f24_1_1.toInt ≤ 400 from t66) (show f24_1_1.toInt ≤ v24_6.toInt + 401 by omega) (show x71.toInt ≤ v24_6.toInt + 1 by omega)  hw hT hF c67 c68 hM (lv_sub hl [3, 4, 5, 2, 1, 0, 6, 7] rfl)
      replace hM := hM.suc (fun _ => e_X6_readWord_24)
      refine lv_iload hx hb dX6_readWord_24 (lv_at hl 6 rfl) ?_
      refine lv_aload_n hx hb dX6_readWord_26 rfl (lv_at hl 1 rfl) ?_
      refine tk_ViT hC hK hw hA hE hSR (s_length l adK adV dC dI cy 5 (by decide) H.size) (cwV 0 hC.2.2.2.2 uV_RX6_56 rfl rfl rfl (by decide +kernel) ⟨Nat.le_of_ble_eq_true rfl, Nat.le_of_ble_eq_true rfl⟩) 5 (by decide) rfl rfl rfl hl.1 rfl (Nat.le_of_ble_eq_true rfl) dX6_readWord_27 (fun r74 H locs hp75 hw => ?_)
      obtain ⟨-, hp75⟩ := hp75
      obtain rfl : r74 = 53 := hp75
      replace hM := hM.lt (v := 53) (by decide)
      refine lv_icmp_ge (tgt := 120) hx hb dX6_readWord_30 (by decide) (fun c76 => ?_) (fun c76 => ?_)
      · have c76 : (53 : Int) ≤ v24_6.toInt := wk_le.mp c76
        replace hM := hM.pos c76
        refine lv_aload_n hx hb dX6_readWord_120 rfl (lv_at hl 0 rfl) ?_
        refine lv_aload_n hx hb dX6_readWord_121 rfl (lv_at hl 0 rfl) ?_
        refine tk_geti hC hK hw hT hinX6 kC_at1 (by decide) rfl 3 (by decide) (List.mem_cons_of_mem _ uw_9_17) rfl rfl dX6_readWord_122 (fun x77 c78 rx77 tx77 => ?_)
        replace hM := hM.rd (sI_at c78)
        refine lv_iconst (v := 0) hx hb dX6_readWord_125 (by decide) ?_
        refine tk_Vv hC hK hw hT hA hE hSR kC_at1 (by decide) rfl (kz_X6_blame_2 l adK adV dC dI cy ad B hB0 (Int.le_trans hB1 (by decide)) qr s1   x77 (show 0 ≤ x77.toInt from rx77) (show x77.toInt ≤ 400 from tx77) 0 (by decide) (by decide) w1 H.size hT c15) (cwV 2 hC.2.2.2.2 uV_RX6_35 rfl rfl rfl (by decide +kernel) ⟨Nat.le_of_ble_eq_true rfl, Nat.le_of_ble_eq_true rfl⟩) rfl hl.1 rfl (Nat.le_of_ble_eq_true rfl) dX6_readWord_126 (fun w81 H locs hp80 hw => ?_)
        obtain ⟨hT, k82, hv86, hg85⟩ := hp80
        try simp only [show (0 : Int32).toInt = 0 by decide] at hv86
        have hF := hF.tr k82 (by decide)
        have c87 := k82.gi kC_at1 (by decide) c14
        have c88 := k82.gi kC_at1 (by decide) c78
        obtain ⟨x83, c84, rx83, tx83⟩ := hg85
        replace hM := hM.call hv86 rfl
        refine lv_iconst (v := (-1)) hx hb dX6_readWord_129 (by decide) ?_
        exact tk_iret hC hr hlocks hK ⟨hT, hF, hM.ret (by decide), (Or.inr ⟨rfl, ⟨x83, c84, (show 1 ≤ x83.toInt by first | with_reducible assumption | omega), (show x83.toInt ≤ 3205 by first | with_reducible assumption | omega)⟩⟩)⟩ hw dX6_readWord_130
      · have c76 : v24_6.toInt < (53 : Int) := wk_leF c76
        replace hM := hM.neg (Int.not_le.mpr c76)
        refine lv_aload_n hx hb dX6_readWord_33 rfl (lv_at hl 1 rfl) ?_
        refine lv_iload hx hb dX6_readWord_34 (lv_at hl 6 rfl) ?_
        refine tk_ViT hC hK hw hA hE hSR (s_charAt l adK adV dC dI cy 5 (by decide) v24_6 (show 0 ≤ v24_6.toInt from r10) (show v24_6.toInt < 53 by first | with_reducible assumption | omega) H.size) (cwV 1 hC.2.2.2.2 uV_RX6_60 rfl rfl rfl (by decide +kernel) ⟨Nat.le_of_ble_eq_true rfl, Nat.le_of_ble_eq_true rfl⟩) 5 (by decide) rfl rfl rfl hl.1 rfl (Nat.le_of_ble_eq_true rfl) dX6_readWord_36 (fun r89 H locs hp90 hw => ?_)
        obtain ⟨-, hp90⟩ := hp90
        replace hM := hM.lt (chS_e hp90 rfl)
        refine lv_istore (lv' := [(7, .int r89), (0, .ref (ad 1)), (1, .ref (adK 5)), (2, .int v24_2), (3, .int v24_3), (4, .int v24_4), (5, .int v24_5), (6, .int v24_6)]) hx hb dX6_readWord_39 hl (by decide) rfl (fun ls hl => ?_)
        refine lv_iload hx hb dX6_readWord_41 (lv_at hl 0 rfl) ?_
        refine lv_bipush (v := 32) hx hb dX6_readWord_43 (by decide) ?_
        refine lv_icmp_eq (tgt := 84) hx hb dX6_readWord_45 (by decide) (fun c91 => ?_) (fun c91 => ?_)
        · have c91 : r89.toInt = (32 : Int) := wk_eq.mp c91
          replace hM := hM.pos c91
          refine lv_iload hx hb dX6_readWord_84 (lv_at hl 6 rfl) ?_
          refine lv_if_eq (tgt := 102) hx hb dX6_readWord_86 (by decide) (fun c92 => ?_) (fun c92 => ?_)
          · have c92 : v24_5.toInt = (0 : Int) := wk_eq.mp c92
            replace hM := hM.pos c92
            obtain rfl : r89 = 32 := wk_eq.mpr (show r89.toInt = 32 by first | exact Int.le_antisymm (by omega) (by omega) | omega)
            try simp only [show (32 : Int32).toInt = 32 by decide] at hM
            exact J102  H locs ls w1 (show 0 ≤ v24_2.toInt from r2) (show v24_2.toInt ≤ 400 from t3) (show 0 ≤ v24_3.toInt from r4) (show v24_3.toInt ≤ 53 from t5) (show 0 ≤ v24_4.toInt from r6) (show v24_4.toInt ≤ 453 from t7) (show 0 ≤ v24_5.toInt from r8) (show v24_5.toInt ≤ 1 from t9) (show 0 ≤ v24_6.toInt from r10) (show v24_6.toInt ≤ 52 by first | with_reducible assumption | omega) (show 0 ≤ f24_1_1.toInt from r12) (show f24_1_1.toInt ≤ 400 from t13) (show v24_4.toInt ≤ v24_6.toInt + 401 by omega) (show v24_3.toInt ≤ v24_6.toInt + 1 by omega)  hw hT hF c14 c15 hM (lv_sub hl [1, 2, 3, 4, 5, 6, 7, 0] rfl)
          · have c92 : ¬ v24_5.toInt = (0 : Int) := wk_eqF c92
            replace hM := hM.neg c92
            refine lv_iload hx hb dX6_readWord_89 (lv_at hl 5 rfl) ?_
            refine lv_iload_n hx hb dX6_readWord_91 rfl (lv_at hl 3 rfl) ?_
            refine lv_icmp_ne (tgt := 102) hx hb dX6_readWord_92 (by decide) (fun c93 => ?_) (fun c93 => ?_)
            · have c93 : ¬ v24_4.toInt = v24_2.toInt := wk_eqF c93
              replace hM := hM.pos c93
              obtain rfl : r89 = 32 := wk_eq.mpr (show r89.toInt = 32 by first | exact Int.le_antisymm (by omega) (by omega) | omega)
              try simp only [show (32 : Int32).toInt = 32 by decide] at hM
              exact J102  H locs ls w1 (show 0 ≤ v24_2.toInt from r2) (show v24_2.toInt ≤ 400 from t3) (show 0 ≤ v24_3.toInt from r4) (show v24_3.toInt ≤ 53 from t5) (show 0 ≤ v24_4.toInt from r6) (show v24_4.toInt ≤ 453 from t7) (show 0 ≤ v24_5.toInt from r8) (show v24_5.toInt ≤ 1 from t9) (show 0 ≤ v24_6.toInt from r10) (show v24_6.toInt ≤ 52 by first | with_reducible assumption | omega) (show 0 ≤ f24_1_1.toInt from r12) (show f24_1_1.toInt ≤ 400 from t13) (show v24_4.toInt ≤ v24_6.toInt + 401 by omega) (show v24_3.toInt ≤ v24_6.toInt + 1 by omega)  hw hT hF c14 c15 hM (lv_sub hl [1, 2, 3, 4, 5, 6, 7, 0] rfl)
            · have c93 : v24_4.toInt = v24_2.toInt := wk_eq.mp c93
              replace hM := hM.neg (fun q => q c93)
              refine lv_aload_n hx hb dX6_readWord_95 rfl (lv_at hl 1 rfl) ?_
              refine lv_iload_n hx hb dX6_readWord_96 rfl (lv_at hl 3 rfl) ?_
              refine tk_puti hC hK hw hT hinX6 tyX6_ok nmX6 kC_at1 (by decide) rfl rfl 1 (by decide) (List.mem_cons_of_mem _ uw_9_16) rfl rfl rfl rfl (show 0 ≤ v24_2.toInt from r2) (show v24_2.toInt ≤ 400 from t3) dX6_readWord_97 (fun H locs w94 hw hT k96 c95 => ?_)
              replace hM := hM.wr (sI_up k96 c95)
              have hF := hF.put kC_at1 (k := 1) (by decide) k96
              have c97 := k96.gi (Or.inr (by decide)) c15
              refine lv_iload_n hx hb dX6_readWord_100 rfl (lv_at hl 4 rfl) ?_
              exact tk_iret hC hr hlocks hK ⟨hT, hF, hM.ret rfl, (Or.inl ⟨(show 0 ≤ v24_3.toInt from r4), (show v24_3.toInt ≤ 53 from t5), ⟨0, c97, (by decide), (by decide)⟩⟩)⟩ hw dX6_readWord_101
        · have c91 : ¬ r89.toInt = (32 : Int) := wk_eqF c91
          replace hM := hM.neg c91
          refine lv_iload hx hb dX6_readWord_48 (lv_at hl 6 rfl) ?_
          refine lv_if_eq (tgt := 75) hx hb dX6_readWord_50 (by decide) (fun c98 => ?_) (fun c98 => ?_)
          · have c98 : v24_5.toInt = (0 : Int) := wk_eq.mp c98
            replace hM := hM.pos c98
            exact J75 r89 H locs ls w1 (show 0 ≤ v24_2.toInt from r2) (show v24_2.toInt ≤ 400 from t3) (show 0 ≤ v24_3.toInt from r4) (show v24_3.toInt ≤ 53 from t5) (show 0 ≤ v24_4.toInt from r6) (show v24_4.toInt ≤ 453 from t7) (show 0 ≤ v24_5.toInt from r8) (show v24_5.toInt ≤ 1 from t9) (show 0 ≤ v24_6.toInt from r10) (show v24_6.toInt ≤ 52 by first | with_reducible assumption | omega) (show 0 ≤ f24_1_1.toInt from r12) (show f24_1_1.toInt ≤ 400 from t13) (show v24_4.toInt ≤ v24_6.toInt + 401 by omega) (show v24_3.toInt ≤ v24_6.toInt + 1 by omega)  hw hT hF c14 c15 hM (lv_sub hl [1, 2, 3, 4, 5, 6, 7, 0] rfl)
          · have c98 : ¬ v24_5.toInt = (0 : Int) := wk_eqF c98
            replace hM := hM.neg c98
            refine lv_iload hx hb dX6_readWord_53 (lv_at hl 5 rfl) ?_
            refine lv_iload_n hx hb dX6_readWord_55 rfl (lv_at hl 3 rfl) ?_
            refine lv_icmp_ge (tgt := 75) hx hb dX6_readWord_56 (by decide) (fun c99 => ?_) (fun c99 => ?_)
            · have c99 : v24_2.toInt ≤ v24_4.toInt := wk_le.mp c99
              replace hM := hM.pos c99
              exact J75 r89 H locs ls w1 (show 0 ≤ v24_2.toInt from r2) (show v24_2.toInt ≤ 400 from t3) (show 0 ≤ v24_3.toInt from r4) (show v24_3.toInt ≤ 53 from t5) (show 0 ≤ v24_4.toInt from r6) (show v24_4.toInt ≤ 453 from t7) (show 0 ≤ v24_5.toInt from r8) (show v24_5.toInt ≤ 1 from t9) (show 0 ≤ v24_6.toInt from r10) (show v24_6.toInt ≤ 52 by first | with_reducible assumption | omega) (show 0 ≤ f24_1_1.toInt from r12) (show f24_1_1.toInt ≤ 400 from t13) (show v24_4.toInt ≤ v24_6.toInt + 401 by omega) (show v24_3.toInt ≤ v24_6.toInt + 1 by omega)  hw hT hF c14 c15 hM (lv_sub hl [1, 2, 3, 4, 5, 6, 7, 0] rfl)
            · have c99 : v24_4.toInt < v24_2.toInt := wk_leF c99
              replace hM := hM.neg (Int.not_le.mpr c99)
              refine lv_aload_n hx hb dX6_readWord_59 rfl (lv_at hl 1 rfl) ?_
              refine tk_getA hC hK hw hT hinX6 kC_at1 (by decide) rfl 0 (by decide) (List.mem_cons_of_mem _ uw_2_12) rfl rfl dX6_readWord_60 ?_
              refine lv_iload hx hb dX6_readWord_63 (lv_at hl 5 rfl) ?_
              refine tk_iald hC hK hw hT kC_at2 rfl rfl (show 0 ≤ v24_4.toInt from r6) (show v24_4.toInt < 400 by first | with_reducible assumption | omega) dX6_readWord_65 (fun x100 c101 rx100 tx100 => ?_)
              have hox100 := c101
              replace hM := hM.rd (sI_at hox100)
              refine lv_iload hx hb dX6_readWord_66 (lv_at hl 0 rfl) ?_
              refine lv_icmp_ne (tgt := 75) hx hb dX6_readWord_68 (by decide) (fun c102 => ?_) (fun c102 => ?_)
              · have c102 : ¬ x100.toInt = r89.toInt := wk_eqF c102
                replace hM := hM.pos c102
                exact J75 r89 H locs ls w1 (show 0 ≤ v24_2.toInt from r2) (show v24_2.toInt ≤ 400 from t3) (show 0 ≤ v24_3.toInt from r4) (show v24_3.toInt ≤ 53 from t5) (show 0 ≤ v24_4.toInt from r6) (show v24_4.toInt ≤ 453 from t7) (show 0 ≤ v24_5.toInt from r8) (show v24_5.toInt ≤ 1 from t9) (show 0 ≤ v24_6.toInt from r10) (show v24_6.toInt ≤ 52 by first | with_reducible assumption | omega) (show 0 ≤ f24_1_1.toInt from r12) (show f24_1_1.toInt ≤ 400 from t13) (show v24_4.toInt ≤ v24_6.toInt + 401 by omega) (show v24_3.toInt ≤ v24_6.toInt + 1 by omega)  hw hT hF c14 c15 hM (lv_sub hl [1, 2, 3, 4, 5, 6, 7, 0] rfl)
              · have c102 : x100.toInt = r89.toInt := wk_eq.mp c102
                replace hM := hM.neg (fun q => q c102)
                refine lv_iconst (v := 1) hx hb dX6_readWord_71 (by decide) ?_
                refine lv_goto (tgt := 76) hx hb dX6_readWord_72 (by decide) ?_
                refine lv_istore (lv' := [(5, .int 1), (7, .int r89), (0, .ref (ad 1)), (1, .ref (adK 5)), (2, .int v24_2), (3, .int v24_3), (4, .int v24_4), (6, .int v24_6)]) hx hb dX6_readWord_76 hl (by decide) rfl (fun ls hl => ?_)
                obtain ⟨x103, ex103⟩ : ∃ y : Int32, y = v24_4 + Int32.ofInt 1 := ⟨_, rfl⟩
                have erx103 := ex103
                refine lv_iinc (v := x103) (lv' := [(4, .int x103), (5, .int 1), (7, .int r89), (0, .ref (ad 1)), (1, .ref (adK 5)), (2, .int v24_2), (3, .int v24_3), (6, .int v24_6)]) hx hb dX6_readWord_78 hl (k := 6) rfl ex103.symm (by decide) rfl (fun ls hl => ?_)
                have ex103 : x103.toInt = v24_4.toInt + 1 := by rw [ex103]; exact wk_add (y := 1) (show -2147483648 ≤ v24_4.toInt + 1 by omega) (show v24_4.toInt + 1 ≤ 2147483647 by omega)
                replace hM := hM.lt ex103.symm
                refine lv_goto (tgt := 114) hx hb dX6_readWord_81 (by decide) ?_
                exact J114 v24_3 x103 1 r89 H locs ls w1 (show 0 ≤ v24_2.toInt from r2) (show v24_2.toInt ≤ 400 from t3) (show 0 ≤ v24_3.toInt from r4) (show v24_3.toInt ≤ 53 from t5) (show 0 ≤ x103.toInt by first | with_reducible assumption | omega) (show x103.toInt ≤ 453 by first | with_reducible assumption | omega) (by decide) (by decide) (show 0 ≤ v24_6.toInt from r10) (show v24_6.toInt ≤ 52 by first | with_reducible assumption | omega) (show 0 ≤ f24_1_1.toInt from r12) (show f24_1_1.toInt ≤ 400 from t13) (show x103.toInt ≤ v24_6.toInt + 401 by omega) (show v24_3.toInt ≤ v24_6.toInt + 1 by omega)  hw hT hF c14 c15 hM (lv_sub hl [3, 4, 5, 6, 0, 1, 7, 2] rfl)
  have hM : TT (fun n => m_X6_readWord n 1 5 (sI w0)) (fun n => m_X6_readWord n 1 5 (sI w0)) := TT.rf
  refine lv_aload_n hx hb dX6_readWord_0 rfl (lv_at hl 0 rfl) ?_
  refine tk_Vi hC hK hw hT hA hE hSR kC_at1 (by decide) rfl (kz_X6_lookBehindBlanks_1 l adK adV dC dI cy ad B hB0 (Int.le_trans hB1 (by decide)) qr s1    w0 s.heap.size hT ) (cwV 0 hC.2.2.2.2 uV_RX6_28 rfl rfl rfl (by decide +kernel) ⟨Nat.le_of_ble_eq_true rfl, Nat.le_of_ble_eq_true rfl⟩) rfl hl.1 rfl (Nat.le_of_ble_eq_true rfl) dX6_readWord_1 (fun r104 w106 H locs hp105 hw => ?_)
  obtain ⟨hT, k107, hv117, hg116⟩ := hp105
  have hF := hF.tr k107 (by decide)
  have c118 := k107.gi kC_at1 (by decide) cf0_
  rcases hg116 with ⟨g108, g109, ⟨x110, c111, rx110, tx110⟩, ⟨x112, c113, rx112, tx112⟩, ⟨x114, c115, rx114, tx114⟩⟩ | rfl
  · replace hM := hM.call hv117 rfl
    refine lv_pop hx hb dX6_readWord_4 rfl ?_
    refine lv_aload_n hx hb dX6_readWord_5 rfl (lv_at hl 0 rfl) ?_
    refine tk_Vi hC hK hw hT hA hE hSR kC_at1 (by decide) rfl (kz_X6_endOfWord_1 l adK adV dC dI cy ad B hB0 (Int.le_trans hB1 (by decide)) qr s1    w106 H.size hT ) (cwV 0 hC.2.2.2.2 uV_RX6_53 rfl rfl rfl (by decide +kernel) ⟨Nat.le_of_ble_eq_true rfl, Nat.le_of_ble_eq_true rfl⟩) rfl hl.1 rfl (Nat.le_of_ble_eq_true rfl) dX6_readWord_6 (fun r119 w121 H locs hp120 hw => ?_)
    obtain ⟨hT, k122, hv126, hg125⟩ := hp120
    have hF := hF.tr k122 (by decide)
    have c127 := k122.gi kC_at1 (by decide) c118
    have c128 := k122.gi kC_at1 (by decide) c111
    have c129 := k122.gi kC_at1 (by decide) c113
    have c130 := k122.gi kC_at1 (by decide) c115
    obtain ⟨g123, g124⟩ := hg125
    replace hM := hM.call hv126 rfl
    refine lv_istore_n (lv' := [(2, .int r119), (0, .ref (ad 1)), (1, .ref (adK 5))]) hx hb dX6_readWord_9 rfl hl (by decide) rfl (fun ls hl => ?_)
    refine lv_iconst (v := 0) hx hb dX6_readWord_10 (by decide) ?_
    refine lv_istore_n (lv' := [(3, .int 0), (2, .int r119), (0, .ref (ad 1)), (1, .ref (adK 5))]) hx hb dX6_readWord_11 rfl hl (by decide) rfl (fun ls hl => ?_)
    refine lv_aload_n hx hb dX6_readWord_12 rfl (lv_at hl 2 rfl) ?_
    refine tk_geti hC hK hw hT hinX6 kC_at1 (by decide) rfl 1 (by decide) (List.mem_cons_of_mem _ uw_9_16) rfl rfl dX6_readWord_13 (fun x131 c132 rx131 tx131 => ?_)
    refine wk_top x110 (c132.symm.trans c128) ?_
    replace hM := hM.rd (sI_at c128)
    refine lv_istore (lv' := [(4, .int x110), (3, .int 0), (2, .int r119), (0, .ref (ad 1)), (1, .ref (adK 5))]) hx hb dX6_readWord_16 hl (by decide) rfl (fun ls hl => ?_)
    refine lv_iconst (v := 1) hx hb dX6_readWord_18 (by decide) ?_
    refine lv_istore (lv' := [(5, .int 1), (4, .int x110), (3, .int 0), (2, .int r119), (0, .ref (ad 1)), (1, .ref (adK 5))]) hx hb dX6_readWord_19 hl (by decide) rfl (fun ls hl => ?_)
    refine lv_iconst (v := 0) hx hb dX6_readWord_21 (by decide) ?_
    refine lv_istore (lv' := [(6, .int 0), (5, .int 1), (4, .int x110), (3, .int 0), (2, .int r119), (0, .ref (ad 1)), (1, .ref (adK 5))]) hx hb dX6_readWord_22 hl (by decide) rfl (fun ls hl => ?_)
    exact L24 ((53 - (0 : Int)).toNat + 1) r119 0 x110 1 0 x110 H locs ls w121 (show 0 ≤ r119.toInt by first | with_reducible assumption | omega) (show r119.toInt ≤ 400 by first | with_reducible assumption | omega) (by decide) (by decide) (show 0 ≤ x110.toInt by first | with_reducible assumption | omega) (show x110.toInt ≤ 453 by first | with_reducible assumption | omega) (by decide) (by decide) (by decide) (by decide) (show 0 ≤ x110.toInt by first | with_reducible assumption | omega) (show x110.toInt ≤ 400 by first | with_reducible assumption | omega) (show x110.toInt ≤ (0 : Int) + 400 by omega) (show (0 : Int) ≤ (0 : Int) + 0 by omega) (Nat.lt_succ_self _) hw hT hF c128 c127 hM (lv_sub hl [5, 6, 4, 3, 2, 1, 0] rfl)
  · replace hM := hM.call (r' := (-1)) hv117 (by decide)
    refine lv_pop hx hb dX6_readWord_4 rfl ?_
    refine lv_aload_n hx hb dX6_readWord_5 rfl (lv_at hl 0 rfl) ?_
    refine tk_Vi hC hK hw hT hA hE hSR kC_at1 (by decide) rfl (kz_X6_endOfWord_1 l adK adV dC dI cy ad B hB0 (Int.le_trans hB1 (by decide)) qr s1    w106 H.size hT ) (cwV 0 hC.2.2.2.2 uV_RX6_53 rfl rfl rfl (by decide +kernel) ⟨Nat.le_of_ble_eq_true rfl, Nat.le_of_ble_eq_true rfl⟩) rfl hl.1 rfl (Nat.le_of_ble_eq_true rfl) dX6_readWord_6 (fun r133 w135 H locs hp134 hw => ?_)
    obtain ⟨hT, k136, hv140, hg139⟩ := hp134
    have hF := hF.tr k136 (by decide)
    have c141 := k136.gi kC_at1 (by decide) c118
    obtain ⟨g137, g138⟩ := hg139
    replace hM := hM.call hv140 rfl
    refine lv_istore_n (lv' := [(2, .int r133), (0, .ref (ad 1)), (1, .ref (adK 5))]) hx hb dX6_readWord_9 rfl hl (by decide) rfl (fun ls hl => ?_)
    refine lv_iconst (v := 0) hx hb dX6_readWord_10 (by decide) ?_
    refine lv_istore_n (lv' := [(3, .int 0), (2, .int r133), (0, .ref (ad 1)), (1, .ref (adK 5))]) hx hb dX6_readWord_11 rfl hl (by decide) rfl (fun ls hl => ?_)
    refine lv_aload_n hx hb dX6_readWord_12 rfl (lv_at hl 2 rfl) ?_
    refine tk_geti hC hK hw hT hinX6 kC_at1 (by decide) rfl 1 (by decide) (List.mem_cons_of_mem _ uw_9_16) rfl rfl dX6_readWord_13 (fun x142 c143 rx142 tx142 => ?_)
    replace hM := hM.rd (sI_at c143)
    refine lv_istore (lv' := [(4, .int x142), (3, .int 0), (2, .int r133), (0, .ref (ad 1)), (1, .ref (adK 5))]) hx hb dX6_readWord_16 hl (by decide) rfl (fun ls hl => ?_)
    refine lv_iconst (v := 1) hx hb dX6_readWord_18 (by decide) ?_
    refine lv_istore (lv' := [(5, .int 1), (4, .int x142), (3, .int 0), (2, .int r133), (0, .ref (ad 1)), (1, .ref (adK 5))]) hx hb dX6_readWord_19 hl (by decide) rfl (fun ls hl => ?_)
    refine lv_iconst (v := 0) hx hb dX6_readWord_21 (by decide) ?_
    refine lv_istore (lv' := [(6, .int 0), (5, .int 1), (4, .int x142), (3, .int 0), (2, .int r133), (0, .ref (ad 1)), (1, .ref (adK 5))]) hx hb dX6_readWord_22 hl (by decide) rfl (fun ls hl => ?_)
    exact L24 ((53 - (0 : Int)).toNat + 1) r133 0 x142 1 0 x142 H locs ls w135 (show 0 ≤ r133.toInt by first | with_reducible assumption | omega) (show r133.toInt ≤ 400 by first | with_reducible assumption | omega) (by decide) (by decide) (show 0 ≤ x142.toInt from rx142) (show x142.toInt ≤ 453 from Int.le_trans tx142 (by decide)) (by decide) (by decide) (by decide) (by decide) (show 0 ≤ x142.toInt from rx142) (show x142.toInt ≤ 400 from tx142) (show x142.toInt ≤ (0 : Int) + 400 by omega) (show (0 : Int) ≤ (0 : Int) + 0 by omega) (Nat.lt_succ_self _) hw hT hF c143 c141 hM (lv_sub hl [5, 6, 4, 3, 2, 1, 0] rfl)
