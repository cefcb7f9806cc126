abbrev P_X12_four_1 (ad : Nat → Nat) (cy : Nat → ClassId) (B : Int) (qr : Nat) (s1 : Int) (a1 : Int32) (w0 : va_W) : va_W → Prop := fun u => TW ksM ad cy B qr 12 u ∧ FE ksM [(12, 1, 1), (60, 0, 400)] w0 u ∧ (((∃ y : Int32, gi u 0 1 = y ∧ 4 ≤ y.toInt ∧ y.toInt ≤ 384)))
set_option maxHeartbeats 4000000 in
set_option maxRecDepth 100000 in
theorem k_X12_four_1 (l : Launch) (adK adV : Nat → Nat) (dC : Nat → ClassId) (dI : Nat → Nat → Nat) (cy : Nat → ClassId) (ad : Nat → Nat) (B : Int) (hB0 : 100000 ≤ B) (hB1 : B ≤ 1073741824) (qr : Nat) (s1 : Int)  (a1 : Int32) (w0 : va_W) (sz : Nat) (hT : TW ksM ad cy B qr 12 w0) (f0_ : Int32) (cf0_ : gi w0 0 1 = f0_) (rf0_ : 0 ≤ f0_.toInt) (tf0_ : f0_.toInt ≤ 380) : Met l yX12_four wsX12_four ({ frames := 1, cells := 0, slots := 0, locals := 12 }) (va_Pc [.ref (ad 0), .int a1] (wpreS adK adV dC dI cy sz w0)) (va_Qv (P_X12_four_1 ad cy B qr s1 a1 w0) (fun u : va_W => wpost dC dI cy (va_A w0 sz) u) (va_A w0 sz)) 0 0 (va_A w0 sz) := by
  refine Met.ofW (cc := cX12_four) (maxL := 3) (ret := none) (by decide) rfl ?_
  intro p e s m args below meth c s₁ Bk hml hv
  obtain ⟨rfl, ⟨hsz, hP, hK, hD0⟩, hE, hSR⟩ := hv
  have hx := Bk.exec
  have hb := Bk.bytes
  have hr := Bk.returns
  have hlocks := Bk.notSynchronized
  have hC : CallFix p m c cX12_four 3 s _ wsX12_four RX12 := ⟨hx, hb, hml, findClass_of_methodNamed Bk.named, atoms_spec (ws := wsX12_four) Bk.pre⟩
  subst hsz
  have hD := hD0.self (sz := s.heap.size)
  generalize hAe : va_A w0 s.heap.size = A at hD hE ⊢
  have hA : ∀ q : Nat, s.heap.size ≤ q → A q := fun q h => by rw [← hAe]; exact Or.inr h
  have hw : Wd dC dI A s.heap s.heap [] w0 := ⟨hP, hD, va_S.rf⟩
  have hF : FE ksM [(12, 1, 1), (60, 0, 400)] w0 w0 := FE.rf
  have hl := lv_entry ([.ref (ad 0), .int a1]) (n := 3) (Nat.le_of_ble_eq_true rfl)
  rw [lg_entry_eq]
  generalize (lg_sl ([.ref (ad 0), .int a1]) ++ List.replicate (3 - (lg_sl ([.ref (ad 0), .int a1])).length) Slot.unset).toArray = ls at hl ⊢
  have hl : lv_has ls 3 [(0, .ref (ad 0)), (1, .int a1)] := hl
  generalize hloc : ([] : List Loc) = locs at hw ⊢
  have hinX12 : ∀ w ∈ u_ws RX12 TX12 42, w ∈ wsX12_four := fun _ h => List.mem_cons_of_mem _ (List.mem_append_right _ (h))
  refine lv_bipush (v := 24) hx hb dX12_four_0 (by decide) ?_
  refine lv_istore_n (lv' := [(2, .int 24), (0, .ref (ad 0)), (1, .int a1)]) hx hb dX12_four_2 rfl hl (by decide) rfl (fun ls hl => ?_)
  refine lv_iload_n hx hb dX12_four_3 rfl (lv_at hl 0 rfl) ?_
  refine lv_if_lt (tgt := 36) hx hb dX12_four_4 (by decide) (fun c => absurd c (by decide)) (fun _ => ?_)
  refine lv_aload_n hx hb dX12_four_7 rfl (lv_at hl 1 rfl) ?_
  refine tk_getA hC hK hw hT hinX12 kM_at0 (by decide) rfl 0 (by decide) (List.mem_of_getElem? (i := 1) rfl) rfl rfl dX12_four_8 ?_
  refine lv_aload_n hx hb dX12_four_11 rfl (lv_at hl 1 rfl) ?_
  refine tk_geti hC hK hw hT hinX12 kM_at0 (by decide) rfl 1 (by decide) (List.mem_of_getElem? (i := 2) rfl) rfl rfl dX12_four_12 (fun x1 c2 rx1 tx1 => ?_)
  refine wk_top f0_ (c2.symm.trans cf0_) ?_
  refine lv_iload_n hx hb dX12_four_15 rfl (lv_at hl 2 rfl) ?_
  refine lv_iload_n hx hb dX12_four_16 rfl (lv_at hl 0 rfl) ?_
  refine lv_ishr hx hb dX12_four_17 ?_
  refine lv_topi (fun x3 ex3 => ?_)
  refine lv_i2b hx hb dX12_four_18 rfl ?_
  refine lv_topi (fun x4 ex4 => ?_)
  refine tk_bast hC hK hw hT kM_at1 (by decide) rfl rfl (show 0 ≤ f0_.toInt by omega) (show f0_.toInt < 400 by omega) dX12_four_19 (fun H locs w5 hw hT k7 => ?_)
  have hF := hF.put kM_at1 (inE_of (a := 0) (b := 400) (by decide) (show 0 ≤ f0_.toInt.toNat by omega) (show f0_.toInt.toNat ≤ 400 by omega)) k7
  have c8 := k7.gi (Or.inl (tk_ne kM_at0 kM_at1 (by decide))) cf0_
  refine lv_aload_n hx hb dX12_four_20 rfl (lv_at hl 1 rfl) ?_
  refine lv_dup hx hb dX12_four_21 rfl ?_
  refine tk_geti hC hK hw hT hinX12 kM_at0 (by decide) rfl 1 (by decide) (List.mem_of_getElem? (i := 2) rfl) rfl rfl dX12_four_22 (fun x9 c10 rx9 tx9 => ?_)
  refine wk_top f0_ (c10.symm.trans c8) ?_
  refine lv_iconst (v := 1) hx hb dX12_four_25 (by decide) ?_
  refine lv_iadd hx hb dX12_four_26 ?_
  refine lv_topi (fun x11 ex11 => ?_)
  have ex11 : x11.toInt = f0_.toInt + (1 : Int) := by rw [ex11]; exact wk_add (show (-2147483648) ≤ f0_.toInt + (1 : Int) by omega) (show f0_.toInt + (1 : Int) ≤ 2147483647 by omega)
  refine tk_puti hC hK hw hT hinX12 tyX12_ok nmX12 kM_at0 (by decide) rfl rfl 1 (by decide) (List.mem_of_getElem? (i := 2) rfl) rfl rfl rfl rfl (show 0 ≤ x11.toInt by omega) (show x11.toInt ≤ 400 by omega) dX12_four_27 (fun H locs w12 hw hT k14 c13 => ?_)
  have hF := hF.put kM_at0 (k := 1) (by decide) k14
  refine lv_iinc (v := 16) (lv' := [(2, .int 16), (0, .ref (ad 0)), (1, .int a1)]) hx hb dX12_four_30 hl (k := 0) rfl (by decide) (by decide) rfl (fun ls hl => ?_)
  refine lv_goto (tgt := 3) hx hb dX12_four_33 (by decide) ?_
  refine lv_iload_n hx hb dX12_four_3 rfl (lv_at hl 0 rfl) ?_
  refine lv_if_lt (tgt := 36) hx hb dX12_four_4 (by decide) (fun c => absurd c (by decide)) (fun _ => ?_)
  refine lv_aload_n hx hb dX12_four_7 rfl (lv_at hl 1 rfl) ?_
  refine tk_getA hC hK hw hT hinX12 kM_at0 (by decide) rfl 0 (by decide) (List.mem_of_getElem? (i := 1) rfl) rfl rfl dX12_four_8 ?_
  refine lv_aload_n hx hb dX12_four_11 rfl (lv_at hl 1 rfl) ?_
  refine tk_geti hC hK hw hT hinX12 kM_at0 (by decide) rfl 1 (by decide) (List.mem_of_getElem? (i := 2) rfl) rfl rfl dX12_four_12 (fun x15 c16 rx15 tx15 => ?_)
  refine wk_top x11 (c16.symm.trans c13) ?_
  refine lv_iload_n hx hb dX12_four_15 rfl (lv_at hl 2 rfl) ?_
  refine lv_iload_n hx hb dX12_four_16 rfl (lv_at hl 0 rfl) ?_
  refine lv_ishr hx hb dX12_four_17 ?_
  refine lv_topi (fun x17 ex17 => ?_)
  refine lv_i2b hx hb dX12_four_18 rfl ?_
  refine lv_topi (fun x18 ex18 => ?_)
  refine tk_bast hC hK hw hT kM_at1 (by decide) rfl rfl (show 0 ≤ x11.toInt by omega) (show x11.toInt < 400 by omega) dX12_four_19 (fun H locs w19 hw hT k21 => ?_)
  have hF := hF.put kM_at1 (inE_of (a := 0) (b := 400) (by decide) (show 0 ≤ x11.toInt.toNat by omega) (show x11.toInt.toNat ≤ 400 by omega)) k21
  have c22 := k21.gi (Or.inl (tk_ne kM_at0 kM_at1 (by decide))) c13
  refine lv_aload_n hx hb dX12_four_20 rfl (lv_at hl 1 rfl) ?_
  refine lv_dup hx hb dX12_four_21 rfl ?_
  refine tk_geti hC hK hw hT hinX12 kM_at0 (by decide) rfl 1 (by decide) (List.mem_of_getElem? (i := 2) rfl) rfl rfl dX12_four_22 (fun x23 c24 rx23 tx23 => ?_)
  refine wk_top x11 (c24.symm.trans c22) ?_
  refine lv_iconst (v := 1) hx hb dX12_four_25 (by decide) ?_
  refine lv_iadd hx hb dX12_four_26 ?_
  refine lv_topi (fun x25 ex25 => ?_)
  have ex25 : x25.toInt = x11.toInt + (1 : Int) := by rw [ex25]; exact wk_add (show (-2147483648) ≤ x11.toInt + (1 : Int) by omega) (show x11.toInt + (1 : Int) ≤ 2147483647 by omega)
  refine tk_puti hC hK hw hT hinX12 tyX12_ok nmX12 kM_at0 (by decide) rfl rfl 1 (by decide) (List.mem_of_getElem? (i := 2) rfl) rfl rfl rfl rfl (show 0 ≤ x25.toInt by omega) (show x25.toInt ≤ 400 by omega) dX12_four_27 (fun H locs w26 hw hT k28 c27 => ?_)
  have hF := hF.put kM_at0 (k := 1) (by decide) k28
  refine lv_iinc (v := 8) (lv' := [(2, .int 8), (0, .ref (ad 0)), (1, .int a1)]) hx hb dX12_four_30 hl (k := 0) rfl (by decide) (by decide) rfl (fun ls hl => ?_)
  refine lv_goto (tgt := 3) hx hb dX12_four_33 (by decide) ?_
  refine lv_iload_n hx hb dX12_four_3 rfl (lv_at hl 0 rfl) ?_
  refine lv_if_lt (tgt := 36) hx hb dX12_four_4 (by decide) (fun c => absurd c (by decide)) (fun _ => ?_)
  refine lv_aload_n hx hb dX12_four_7 rfl (lv_at hl 1 rfl) ?_
  refine tk_getA hC hK hw hT hinX12 kM_at0 (by decide) rfl 0 (by decide) (List.mem_of_getElem? (i := 1) rfl) rfl rfl dX12_four_8 ?_
  refine lv_aload_n hx hb dX12_four_11 rfl (lv_at hl 1 rfl) ?_
  refine tk_geti hC hK hw hT hinX12 kM_at0 (by decide) rfl 1 (by decide) (List.mem_of_getElem? (i := 2) rfl) rfl rfl dX12_four_12 (fun x29 c30 rx29 tx29 => ?_)
  refine wk_top x25 (c30.symm.trans c27) ?_
  refine lv_iload_n hx hb dX12_four_15 rfl (lv_at hl 2 rfl) ?_
  refine lv_iload_n hx hb dX12_four_16 rfl (lv_at hl 0 rfl) ?_
  refine lv_ishr hx hb dX12_four_17 ?_
  refine lv_topi (fun x31 ex31 => ?_)
  refine lv_i2b hx hb dX12_four_18 rfl ?_
  refine lv_topi (fun x32 ex32 => ?_)
  refine tk_bast hC hK hw hT kM_at1 (by decide) rfl rfl (show 0 ≤ x25.toInt by omega) (show x25.toInt < 400 by omega) dX12_four_19 (fun H locs w33 hw hT k35 => ?_)
  have hF := hF.put kM_at1 (inE_of (a := 0) (b := 400) (by decide) (show 0 ≤ x25.toInt.toNat by omega) (show x25.toInt.toNat ≤ 400 by omega)) k35
  have c36 := k35.gi (Or.inl (tk_ne kM_at0 kM_at1 (by decide))) c27
  refine lv_aload_n hx hb dX12_four_20 rfl (lv_at hl 1 rfl) ?_
  refine lv_dup hx hb dX12_four_21 rfl ?_
  refine tk_geti hC hK hw hT hinX12 kM_at0 (by decide) rfl 1 (by decide) (List.mem_of_getElem? (i := 2) rfl) rfl rfl dX12_four_22 (fun x37 c38 rx37 tx37 => ?_)
  refine wk_top x25 (c38.symm.trans c36) ?_
  refine lv_iconst (v := 1) hx hb dX12_four_25 (by decide) ?_
  refine lv_iadd hx hb dX12_four_26 ?_
  refine lv_topi (fun x39 ex39 => ?_)
  have ex39 : x39.toInt = x25.toInt + (1 : Int) := by rw [ex39]; exact wk_add (show (-2147483648) ≤ x25.toInt + (1 : Int) by omega) (show x25.toInt + (1 : Int) ≤ 2147483647 by omega)
  refine tk_puti hC hK hw hT hinX12 tyX12_ok nmX12 kM_at0 (by decide) rfl rfl 1 (by decide) (List.mem_of_getElem? (i := 2) rfl) rfl rfl rfl rfl (show 0 ≤ x39.toInt by omega) (show x39.toInt ≤ 400 by omega) dX12_four_27 (fun H locs w40 hw hT k42 c41 => ?_)
  have hF := hF.put kM_at0 (k := 1) (by decide) k42
  refine lv_iinc (v := 0) (lv' := [(2, .int 0), (0, .ref (ad 0)), (1, .int a1)]) hx hb dX12_four_30 hl (k := 0) rfl (by decide) (by decide) rfl (fun ls hl => ?_)
  refine lv_goto (tgt := 3) hx hb dX12_four_33 (by decide) ?_
  refine lv_iload_n hx hb dX12_four_3 rfl (lv_at hl 0 rfl) ?_
  refine lv_if_lt (tgt := 36) hx hb dX12_four_4 (by decide) (fun c => absurd c (by decide)) (fun _ => ?_)
  refine lv_aload_n hx hb dX12_four_7 rfl (lv_at hl 1 rfl) ?_
  refine tk_getA hC hK hw hT hinX12 kM_at0 (by decide) rfl 0 (by decide) (List.mem_of_getElem? (i := 1) rfl) rfl rfl dX12_four_8 ?_
  refine lv_aload_n hx hb dX12_four_11 rfl (lv_at hl 1 rfl) ?_
  refine tk_geti hC hK hw hT hinX12 kM_at0 (by decide) rfl 1 (by decide) (List.mem_of_getElem? (i := 2) rfl) rfl rfl dX12_four_12 (fun x43 c44 rx43 tx43 => ?_)
  refine wk_top x39 (c44.symm.trans c41) ?_
  refine lv_iload_n hx hb dX12_four_15 rfl (lv_at hl 2 rfl) ?_
  refine lv_iload_n hx hb dX12_four_16 rfl (lv_at hl 0 rfl) ?_
  refine lv_ishr hx hb dX12_four_17 ?_
  refine lv_topi (fun x45 ex45 => ?_)
  refine lv_i2b hx hb dX12_four_18 rfl ?_
  refine lv_topi (fun x46 ex46 => ?_)
  refine tk_bast hC hK hw hT kM_at1 (by decide) rfl rfl (show 0 ≤ x39.toInt by omega) (show x39.toInt < 400 by omega) dX12_four_19 (fun H locs w47 hw hT k49 => ?_)
  have hF := hF.put kM_at1 (inE_of (a := 0) (b := 400) (by decide) (show 0 ≤ x39.toInt.toNat by omega) (show x39.toInt.toNat ≤ 400 by omega)) k49
  have c50 := k49.gi (Or.inl (tk_ne kM_at0 kM_at1 (by decide))) c41
  refine lv_aload_n hx hb dX12_four_20 rfl (lv_at hl 1 rfl) ?_
  refine lv_dup hx hb dX12_four_21 rfl ?_
  refine tk_geti hC hK hw hT hinX12 kM_at0 (by decide) rfl 1 (by decide) (List.mem_of_getElem? (i := 2) rfl) rfl rfl dX12_four_22 (fun x51 c52 rx51 tx51 => ?_)
  refine wk_top x39 (c52.symm.trans c50) ?_
  refine lv_iconst (v := 1) hx hb dX12_four_25 (by decide) ?_
  refine lv_iadd hx hb dX12_four_26 ?_
  refine lv_topi (fun x53 ex53 => ?_)
  have ex53 : x53.toInt = x39.toInt + (1 : Int) := by rw [ex53]; exact wk_add (show (-2147483648) ≤ x39.toInt + (1 : Int) by omega) (show x39.toInt + (1 : Int) ≤ 2147483647 by omega)
  refine tk_puti hC hK hw hT hinX12 tyX12_ok nmX12 kM_at0 (by decide) rfl rfl 1 (by decide) (List.mem_of_getElem? (i := 2) rfl) rfl rfl rfl rfl (show 0 ≤ x53.toInt by omega) (show x53.toInt ≤ 400 by omega) dX12_four_27 (fun H locs w54 hw hT k56 c55 => ?_)
  have hF := hF.put kM_at0 (k := 1) (by decide) k56
  refine lv_iinc (v := (-8)) (lv' := [(2, .int (-8)), (0, .ref (ad 0)), (1, .int a1)]) hx hb dX12_four_30 hl (k := 0) rfl (by decide) (by decide) rfl (fun ls hl => ?_)
  refine lv_goto (tgt := 3) hx hb dX12_four_33 (by decide) ?_
  refine lv_iload_n hx hb dX12_four_3 rfl (lv_at hl 0 rfl) ?_
  refine lv_if_lt (tgt := 36) hx hb dX12_four_4 (by decide) (fun _ => ?_) (fun c => absurd (by decide) c)
  exact tk_vret hC hr hlocks hK ⟨hT, hF, ⟨x53, c55, (show 4 ≤ x53.toInt by omega), (show x53.toInt ≤ 384 by omega)⟩⟩ hw dX12_four_36
abbrev P_X12_four_2 (ad : Nat → Nat) (cy : Nat → ClassId) (B : Int) (qr : Nat) (s1 : Int) (a1 : Int32) (w0 : va_W) : va_W → Prop := fun u => TW ksM ad cy B qr 12 u ∧ FE ksM [(12, 1, 1), (60, 0, 400)] w0 u ∧ (((∃ y : Int32, gi u 0 1 = y ∧ 16 ≤ y.toInt ∧ y.toInt ≤ 396)))
set_option maxHeartbeats 4000000 in
set_option maxRecDepth 100000 in
theorem k_X12_four_2 (l : Launch) (adK adV : Nat → Nat) (dC : Nat → ClassId) (dI : Nat → Nat → Nat) (cy : Nat → ClassId) (ad : Nat → Nat) (B : Int) (hB0 : 100000 ≤ B) (hB1 : B ≤ 1073741824) (qr : Nat) (s1 : Int)  (a1 : Int32) (w0 : va_W) (sz : Nat) (hT : TW ksM ad cy B qr 12 w0) (f0_ : Int32) (cf0_ : gi w0 0 1 = f0_) (rf0_ : 12 ≤ f0_.toInt) (tf0_ : f0_.toInt ≤ 392) : Met l yX12_four wsX12_four ({ frames := 1, cells := 0, slots := 0, locals := 12 }) (va_Pc [.ref (ad 0), .int a1] (wpreS adK adV dC dI cy sz w0)) (va_Qv (P_X12_four_2 ad cy B qr s1 a1 w0) (fun u : va_W => wpost dC dI cy (va_A w0 sz) u) (va_A w0 sz)) 0 0 (va_A w0 sz) := by
  refine Met.ofW (cc := cX12_four) (maxL := 3) (ret := none) (by decide) rfl ?_
  intro p e s m args below meth c s₁ Bk hml hv
  obtain ⟨rfl, ⟨hsz, hP, hK, hD0⟩, hE, hSR⟩ := hv
  have hx := Bk.exec
  have hb := Bk.bytes
  have hr := Bk.returns
  have hlocks := Bk.notSynchronized
  have hC : CallFix p m c cX12_four 3 s _ wsX12_four RX12 := ⟨hx, hb, hml, findClass_of_methodNamed Bk.named, atoms_spec (ws := wsX12_four) Bk.pre⟩
  subst hsz
  have hD := hD0.self (sz := s.heap.size)
  generalize hAe : va_A w0 s.heap.size = A at hD hE ⊢
  have hA : ∀ q : Nat, s.heap.size ≤ q → A q := fun q h => by rw [← hAe]; exact Or.inr h
  have hw : Wd dC dI A s.heap s.heap [] w0 := ⟨hP, hD, va_S.rf⟩
  have hF : FE ksM [(12, 1, 1), (60, 0, 400)] w0 w0 := FE.rf
  have hl := lv_entry ([.ref (ad 0), .int a1]) (n := 3) (Nat.le_of_ble_eq_true rfl)
  rw [lg_entry_eq]
  generalize (lg_sl ([.ref (ad 0), .int a1]) ++ List.replicate (3 - (lg_sl ([.ref (ad 0), .int a1])).length) Slot.unset).toArray = ls at hl ⊢
  have hl : lv_has ls 3 [(0, .ref (ad 0)), (1, .int a1)] := hl
  generalize hloc : ([] : List Loc) = locs at hw ⊢
  have hinX12 : ∀ w ∈ u_ws RX12 TX12 42, w ∈ wsX12_four := fun _ h => List.mem_cons_of_mem _ (List.mem_append_right _ (h))
  refine lv_bipush (v := 24) hx hb dX12_four_0 (by decide) ?_
  refine lv_istore_n (lv' := [(2, .int 24), (0, .ref (ad 0)), (1, .int a1)]) hx hb dX12_four_2 rfl hl (by decide) rfl (fun ls hl => ?_)
  refine lv_iload_n hx hb dX12_four_3 rfl (lv_at hl 0 rfl) ?_
  refine lv_if_lt (tgt := 36) hx hb dX12_four_4 (by decide) (fun c => absurd c (by decide)) (fun _ => ?_)
  refine lv_aload_n hx hb dX12_four_7 rfl (lv_at hl 1 rfl) ?_
  refine tk_getA hC hK hw hT hinX12 kM_at0 (by decide) rfl 0 (by decide) (List.mem_of_getElem? (i := 1) rfl) rfl rfl dX12_four_8 ?_
  refine lv_aload_n hx hb dX12_four_11 rfl (lv_at hl 1 rfl) ?_
  refine tk_geti hC hK hw hT hinX12 kM_at0 (by decide) rfl 1 (by decide) (List.mem_of_getElem? (i := 2) rfl) rfl rfl dX12_four_12 (fun x1 c2 rx1 tx1 => ?_)
  refine wk_top f0_ (c2.symm.trans cf0_) ?_
  refine lv_iload_n hx hb dX12_four_15 rfl (lv_at hl 2 rfl) ?_
  refine lv_iload_n hx hb dX12_four_16 rfl (lv_at hl 0 rfl) ?_
  refine lv_ishr hx hb dX12_four_17 ?_
  refine lv_topi (fun x3 ex3 => ?_)
  refine lv_i2b hx hb dX12_four_18 rfl ?_
  refine lv_topi (fun x4 ex4 => ?_)
  refine tk_bast hC hK hw hT kM_at1 (by decide) rfl rfl (show 0 ≤ f0_.toInt by omega) (show f0_.toInt < 400 by omega) dX12_four_19 (fun H locs w5 hw hT k7 => ?_)
  have hF := hF.put kM_at1 (inE_of (a := 0) (b := 400) (by decide) (show 0 ≤ f0_.toInt.toNat by omega) (show f0_.toInt.toNat ≤ 400 by omega)) k7
  have c8 := k7.gi (Or.inl (tk_ne kM_at0 kM_at1 (by decide))) cf0_
  refine lv_aload_n hx hb dX12_four_20 rfl (lv_at hl 1 rfl) ?_
  refine lv_dup hx hb dX12_four_21 rfl ?_
  refine tk_geti hC hK hw hT hinX12 kM_at0 (by decide) rfl 1 (by decide) (List.mem_of_getElem? (i := 2) rfl) rfl rfl dX12_four_22 (fun x9 c10 rx9 tx9 => ?_)
  refine wk_top f0_ (c10.symm.trans c8) ?_
  refine lv_iconst (v := 1) hx hb dX12_four_25 (by decide) ?_
  refine lv_iadd hx hb dX12_four_26 ?_
  refine lv_topi (fun x11 ex11 => ?_)
  have ex11 : x11.toInt = f0_.toInt + (1 : Int) := by rw [ex11]; exact wk_add (show (-2147483648) ≤ f0_.toInt + (1 : Int) by omega) (show f0_.toInt + (1 : Int) ≤ 2147483647 by omega)
  refine tk_puti hC hK hw hT hinX12 tyX12_ok nmX12 kM_at0 (by decide) rfl rfl 1 (by decide) (List.mem_of_getElem? (i := 2) rfl) rfl rfl rfl rfl (show 0 ≤ x11.toInt by omega) (show x11.toInt ≤ 400 by omega) dX12_four_27 (fun H locs w12 hw hT k14 c13 => ?_)
  have hF := hF.put kM_at0 (k := 1) (by decide) k14
  refine lv_iinc (v := 16) (lv' := [(2, .int 16), (0, .ref (ad 0)), (1, .int a1)]) hx hb dX12_four_30 hl (k := 0) rfl (by decide) (by decide) rfl (fun ls hl => ?_)
  refine lv_goto (tgt := 3) hx hb dX12_four_33 (by decide) ?_
  refine lv_iload_n hx hb dX12_four_3 rfl (lv_at hl 0 rfl) ?_
  refine lv_if_lt (tgt := 36) hx hb dX12_four_4 (by decide) (fun c => absurd c (by decide)) (fun _ => ?_)
  refine lv_aload_n hx hb dX12_four_7 rfl (lv_at hl 1 rfl) ?_
  refine tk_getA hC hK hw hT hinX12 kM_at0 (by decide) rfl 0 (by decide) (List.mem_of_getElem? (i := 1) rfl) rfl rfl dX12_four_8 ?_
  refine lv_aload_n hx hb dX12_four_11 rfl (lv_at hl 1 rfl) ?_
  refine tk_geti hC hK hw hT hinX12 kM_at0 (by decide) rfl 1 (by decide) (List.mem_of_getElem? (i := 2) rfl) rfl rfl dX12_four_12 (fun x15 c16 rx15 tx15 => ?_)
  refine wk_top x11 (c16.symm.trans c13) ?_
  refine lv_iload_n hx hb dX12_four_15 rfl (lv_at hl 2 rfl) ?_
  refine lv_iload_n hx hb dX12_four_16 rfl (lv_at hl 0 rfl) ?_
  refine lv_ishr hx hb dX12_four_17 ?_
  refine lv_topi (fun x17 ex17 => ?_)
  refine lv_i2b hx hb dX12_four_18 rfl ?_
  refine lv_topi (fun x18 ex18 => ?_)
  refine tk_bast hC hK hw hT kM_at1 (by decide) rfl rfl (show 0 ≤ x11.toInt by omega) (show x11.toInt < 400 by omega) dX12_four_19 (fun H locs w19 hw hT k21 => ?_)
  have hF := hF.put kM_at1 (inE_of (a := 0) (b := 400) (by decide) (show 0 ≤ x11.toInt.toNat by omega) (show x11.toInt.toNat ≤ 400 by omega)) k21
  have c22 := k21.gi (Or.inl (tk_ne kM_at0 kM_at1 (by decide))) c13
  refine lv_aload_n hx hb dX12_four_20 rfl (lv_at hl 1 rfl) ?_
  refine lv_dup hx hb dX12_four_21 rfl ?_
  refine tk_geti hC hK hw hT hinX12 kM_at0 (by decide) rfl 1 (by decide) (List.mem_of_getElem? (i := 2) rfl) rfl rfl dX12_four_22 (fun x23 c24 rx23 tx23 => ?_)
  refine wk_top x11 (c24.symm.trans c22) ?_
  refine lv_iconst (v := 1) hx hb dX12_four_25 (by decide) ?_
  refine lv_iadd hx hb dX12_four_26 ?_
  refine lv_topi (fun x25 ex25 => ?_)
  have ex25 : x25.toInt = x11.toInt + (1 : Int) := by rw [ex25]; exact wk_add (show (-2147483648) ≤ x11.toInt + (1 : Int) by omega) (show x11.toInt + (1 : Int) ≤ 2147483647 by omega)
  refine tk_puti hC hK hw hT hinX12 tyX12_ok nmX12 kM_at0 (by decide) rfl rfl 1 (by decide) (List.mem_of_getElem? (i := 2) rfl) rfl rfl rfl rfl (show 0 ≤ x25.toInt by omega) (show x25.toInt ≤ 400 by omega) dX12_four_27 (fun H locs w26 hw hT k28 c27 => ?_)
  have hF := hF.put kM_at0 (k := 1) (by decide) k28
  refine lv_iinc (v := 8) (lv' := [(2, .int 8), (0, .ref (ad 0)), (1, .int a1)]) hx hb dX12_four_30 hl (k := 0) rfl (by decide) (by decide) rfl (fun ls hl => ?_)
  refine lv_goto (tgt := 3) hx hb dX12_four_33 (by decide) ?_
  refine lv_iload_n hx hb dX12_four_3 rfl (lv_at hl 0 rfl) ?_
  refine lv_if_lt (tgt := 36) hx hb dX12_four_4 (by decide) (fun c => absurd c (by decide)) (fun _ => ?_)
  refine lv_aload_n hx hb dX12_four_7 rfl (lv_at hl 1 rfl) ?_
  refine tk_getA hC hK hw hT hinX12 kM_at0 (by decide) rfl 0 (by decide) (List.mem_of_getElem? (i := 1) rfl) rfl rfl dX12_four_8 ?_
  refine lv_aload_n hx hb dX12_four_11 rfl (lv_at hl 1 rfl) ?_
  refine tk_geti hC hK hw hT hinX12 kM_at0 (by decide) rfl 1 (by decide) (List.mem_of_getElem? (i := 2) rfl) rfl rfl dX12_four_12 (fun x29 c30 rx29 tx29 => ?_)
  refine wk_top x25 (c30.symm.trans c27) ?_
  refine lv_iload_n hx hb dX12_four_15 rfl (lv_at hl 2 rfl) ?_
  refine lv_iload_n hx hb dX12_four_16 rfl (lv_at hl 0 rfl) ?_
  refine lv_ishr hx hb dX12_four_17 ?_
  refine lv_topi (fun x31 ex31 => ?_)
  refine lv_i2b hx hb dX12_four_18 rfl ?_
  refine lv_topi (fun x32 ex32 => ?_)
  refine tk_bast hC hK hw hT kM_at1 (by decide) rfl rfl (show 0 ≤ x25.toInt by omega) (show x25.toInt < 400 by omega) dX12_four_19 (fun H locs w33 hw hT k35 => ?_)
  have hF := hF.put kM_at1 (inE_of (a := 0) (b := 400) (by decide) (show 0 ≤ x25.toInt.toNat by omega) (show x25.toInt.toNat ≤ 400 by omega)) k35
  have c36 := k35.gi (Or.inl (tk_ne kM_at0 kM_at1 (by decide))) c27
  refine lv_aload_n hx hb dX12_four_20 rfl (lv_at hl 1 rfl) ?_
  refine lv_dup hx hb dX12_four_21 rfl ?_
  refine tk_geti hC hK hw hT hinX12 kM_at0 (by decide) rfl 1 (by decide) (List.mem_of_getElem? (i := 2) rfl) rfl rfl dX12_four_22 (fun x37 c38 rx37 tx37 => ?_)
  refine wk_top x25 (c38.symm.trans c36) ?_
  refine lv_iconst (v := 1) hx hb dX12_four_25 (by decide) ?_
  refine lv_iadd hx hb dX12_four_26 ?_
  refine lv_topi (fun x39 ex39 => ?_)
  have ex39 : x39.toInt = x25.toInt + (1 : Int) := by rw [ex39]; exact wk_add (show (-2147483648) ≤ x25.toInt + (1 : Int) by omega) (show x25.toInt + (1 : Int) ≤ 2147483647 by omega)
  refine tk_puti hC hK hw hT hinX12 tyX12_ok nmX12 kM_at0 (by decide) rfl rfl 1 (by decide) (List.mem_of_getElem? (i := 2) rfl) rfl rfl rfl rfl (show 0 ≤ x39.toInt by omega) (show x39.toInt ≤ 400 by omega) dX12_four_27 (fun H locs w40 hw hT k42 c41 => ?_)
  have hF := hF.put kM_at0 (k := 1) (by decide) k42
  refine lv_iinc (v := 0) (lv' := [(2, .int 0), (0, .ref (ad 0)), (1, .int a1)]) hx hb dX12_four_30 hl (k := 0) rfl (by decide) (by decide) rfl (fun ls hl => ?_)
  refine lv_goto (tgt := 3) hx hb dX12_four_33 (by decide) ?_
  refine lv_iload_n hx hb dX12_four_3 rfl (lv_at hl 0 rfl) ?_
  refine lv_if_lt (tgt := 36) hx hb dX12_four_4 (by decide) (fun c => absurd c (by decide)) (fun _ => ?_)
  refine lv_aload_n hx hb dX12_four_7 rfl (lv_at hl 1 rfl) ?_
  refine tk_getA hC hK hw hT hinX12 kM_at0 (by decide) rfl 0 (by decide) (List.mem_of_getElem? (i := 1) rfl) rfl rfl dX12_four_8 ?_
  refine lv_aload_n hx hb dX12_four_11 rfl (lv_at hl 1 rfl) ?_
  refine tk_geti hC hK hw hT hinX12 kM_at0 (by decide) rfl 1 (by decide) (List.mem_of_getElem? (i := 2) rfl) rfl rfl dX12_four_12 (fun x43 c44 rx43 tx43 => ?_)
  refine wk_top x39 (c44.symm.trans c41) ?_
  refine lv_iload_n hx hb dX12_four_15 rfl (lv_at hl 2 rfl) ?_
  refine lv_iload_n hx hb dX12_four_16 rfl (lv_at hl 0 rfl) ?_
  refine lv_ishr hx hb dX12_four_17 ?_
  refine lv_topi (fun x45 ex45 => ?_)
  refine lv_i2b hx hb dX12_four_18 rfl ?_
  refine lv_topi (fun x46 ex46 => ?_)
  refine tk_bast hC hK hw hT kM_at1 (by decide) rfl rfl (show 0 ≤ x39.toInt by omega) (show x39.toInt < 400 by omega) dX12_four_19 (fun H locs w47 hw hT k49 => ?_)
  have hF := hF.put kM_at1 (inE_of (a := 0) (b := 400) (by decide) (show 0 ≤ x39.toInt.toNat by omega) (show x39.toInt.toNat ≤ 400 by omega)) k49
  have c50 := k49.gi (Or.inl (tk_ne kM_at0 kM_at1 (by decide))) c41
  refine lv_aload_n hx hb dX12_four_20 rfl (lv_at hl 1 rfl) ?_
  refine lv_dup hx hb dX12_four_21 rfl ?_
  refine tk_geti hC hK hw hT hinX12 kM_at0 (by decide) rfl 1 (by decide) (List.mem_of_getElem? (i := 2) rfl) rfl rfl dX12_four_22 (fun x51 c52 rx51 tx51 => ?_)
  refine wk_top x39 (c52.symm.trans c50) ?_
  refine lv_iconst (v := 1) hx hb dX12_four_25 (by decide) ?_
  refine lv_iadd hx hb dX12_four_26 ?_
  refine lv_topi (fun x53 ex53 => ?_)
  have ex53 : x53.toInt = x39.toInt + (1 : Int) := by rw [ex53]; exact wk_add (show (-2147483648) ≤ x39.toInt + (1 : Int) by omega) (show x39.toInt + (1 : Int) ≤ 2147483647 by omega)
  refine tk_puti hC hK hw hT hinX12 tyX12_ok nmX12 kM_at0 (by decide) rfl rfl 1 (by decide) (List.mem_of_getElem? (i := 2) rfl) rfl rfl rfl rfl (show 0 ≤ x53.toInt by omega) (show x53.toInt ≤ 400 by omega) dX12_four_27 (fun H locs w54 hw hT k56 c55 => ?_)
  have hF := hF.put kM_at0 (k := 1) (by decide) k56
  refine lv_iinc (v := (-8)) (lv' := [(2, .int (-8)), (0, .ref (ad 0)), (1, .int a1)]) hx hb dX12_four_30 hl (k := 0) rfl (by decide) (by decide) rfl (fun ls hl => ?_)
  refine lv_goto (tgt := 3) hx hb dX12_four_33 (by decide) ?_
  refine lv_iload_n hx hb dX12_four_3 rfl (lv_at hl 0 rfl) ?_
  refine lv_if_lt (tgt := 36) hx hb dX12_four_4 (by decide) (fun _ => ?_) (fun c => absurd (by decide) c)
  exact tk_vret hC hr hlocks hK ⟨hT, hF, ⟨x53, c55, (show 16 ≤ x53.toInt by omega), (show x53.toInt ≤ 396 by omega)⟩⟩ hw dX12_four_36
abbrev P_X12_four_3 (ad : Nat → Nat) (cy : Nat → ClassId) (B : Int) (qr : Nat) (s1 : Int) (a1 : Int32) (w0 : va_W) : va_W → Prop := fun u => TW ksM ad cy B qr 12 u ∧ FE ksM [(12, 1, 1), (60, 0, 400)] w0 u ∧ (((∃ y : Int32, gi u 0 1 = y ∧ 20 ≤ y.toInt ∧ y.toInt ≤ 400)))
set_option maxHeartbeats 4000000 in
set_option maxRecDepth 100000 in
theorem k_X12_four_3 (l : Launch) (adK adV : Nat → Nat) (dC : Nat → ClassId) (dI : Nat → Nat → Nat) (cy : Nat → ClassId) (ad : Nat → Nat) (B : Int) (hB0 : 100000 ≤ B) (hB1 : B ≤ 1073741824) (qr : Nat) (s1 : Int)  (a1 : Int32) (w0 : va_W) (sz : Nat) (hT : TW ksM ad cy B qr 12 w0) (f0_ : Int32) (cf0_ : gi w0 0 1 = f0_) (rf0_ : 16 ≤ f0_.toInt) (tf0_ : f0_.toInt ≤ 396) : Met l yX12_four wsX12_four ({ frames := 1, cells := 0, slots := 0, locals := 12 }) (va_Pc [.ref (ad 0), .int a1] (wpreS adK adV dC dI cy sz w0)) (va_Qv (P_X12_four_3 ad cy B qr s1 a1 w0) (fun u : va_W => wpost dC dI cy (va_A w0 sz) u) (va_A w0 sz)) 0 0 (va_A w0 sz) := by
  refine Met.ofW (cc := cX12_four) (maxL := 3) (ret := none) (by decide) rfl ?_
  intro p e s m args below meth c s₁ Bk hml hv
  obtain ⟨rfl, ⟨hsz, hP, hK, hD0⟩, hE, hSR⟩ := hv
  have hx := Bk.exec
  have hb := Bk.bytes
  have hr := Bk.returns
  have hlocks := Bk.notSynchronized
  have hC : CallFix p m c cX12_four 3 s _ wsX12_four RX12 := ⟨hx, hb, hml, findClass_of_methodNamed Bk.named, atoms_spec (ws := wsX12_four) Bk.pre⟩
  subst hsz
  have hD := hD0.self (sz := s.heap.size)
  generalize hAe : va_A w0 s.heap.size = A at hD hE ⊢
  have hA : ∀ q : Nat, s.heap.size ≤ q → A q := fun q h => by rw [← hAe]; exact Or.inr h
  have hw : Wd dC dI A s.heap s.heap [] w0 := ⟨hP, hD, va_S.rf⟩
  have hF : FE ksM [(12, 1, 1), (60, 0, 400)] w0 w0 := FE.rf
  have hl := lv_entry ([.ref (ad 0), .int a1]) (n := 3) (Nat.le_of_ble_eq_true rfl)
  rw [lg_entry_eq]
  generalize (lg_sl ([.ref (ad 0), .int a1]) ++ List.replicate (3 - (lg_sl ([.ref (ad 0), .int a1])).length) Slot.unset).toArray = ls at hl ⊢
  have hl : lv_has ls 3 [(0, .ref (ad 0)), (1, .int a1)] := hl
  generalize hloc : ([] : List Loc) = locs at hw ⊢
  have hinX12 : ∀ w ∈ u_ws RX12 TX12 42, w ∈ wsX12_four := fun _ h => List.mem_cons_of_mem _ (List.mem_append_right _ (h))
  refine lv_bipush (v := 24) hx hb dX12_four_0 (by decide) ?_
  refine lv_istore_n (lv' := [(2, .int 24), (0, .ref (ad 0)), (1, .int a1)]) hx hb dX12_four_2 rfl hl (by decide) rfl (fun ls hl => ?_)
  refine lv_iload_n hx hb dX12_four_3 rfl (lv_at hl 0 rfl) ?_
  refine lv_if_lt (tgt := 36) hx hb dX12_four_4 (by decide) (fun c => absurd c (by decide)) (fun _ => ?_)
  refine lv_aload_n hx hb dX12_four_7 rfl (lv_at hl 1 rfl) ?_
  refine tk_getA hC hK hw hT hinX12 kM_at0 (by decide) rfl 0 (by decide) (List.mem_of_getElem? (i := 1) rfl) rfl rfl dX12_four_8 ?_
  refine lv_aload_n hx hb dX12_four_11 rfl (lv_at hl 1 rfl) ?_
  refine tk_geti hC hK hw hT hinX12 kM_at0 (by decide) rfl 1 (by decide) (List.mem_of_getElem? (i := 2) rfl) rfl rfl dX12_four_12 (fun x1 c2 rx1 tx1 => ?_)
  refine wk_top f0_ (c2.symm.trans cf0_) ?_
  refine lv_iload_n hx hb dX12_four_15 rfl (lv_at hl 2 rfl) ?_
  refine lv_iload_n hx hb dX12_four_16 rfl (lv_at hl 0 rfl) ?_
  refine lv_ishr hx hb dX12_four_17 ?_
  refine lv_topi (fun x3 ex3 => ?_)
  refine lv_i2b hx hb dX12_four_18 rfl ?_
  refine lv_topi (fun x4 ex4 => ?_)
  refine tk_bast hC hK hw hT kM_at1 (by decide) rfl rfl (show 0 ≤ f0_.toInt by omega) (show f0_.toInt < 400 by omega) dX12_four_19 (fun H locs w5 hw hT k7 => ?_)
  have hF := hF.put kM_at1 (inE_of (a := 0) (b := 400) (by decide) (show 0 ≤ f0_.toInt.toNat by omega) (show f0_.toInt.toNat ≤ 400 by omega)) k7
  have c8 := k7.gi (Or.inl (tk_ne kM_at0 kM_at1 (by decide))) cf0_
  refine lv_aload_n hx hb dX12_four_20 rfl (lv_at hl 1 rfl) ?_
  refine lv_dup hx hb dX12_four_21 rfl ?_
  refine tk_geti hC hK hw hT hinX12 kM_at0 (by decide) rfl 1 (by decide) (List.mem_of_getElem? (i := 2) rfl) rfl rfl dX12_four_22 (fun x9 c10 rx9 tx9 => ?_)
  refine wk_top f0_ (c10.symm.trans c8) ?_
  refine lv_iconst (v := 1) hx hb dX12_four_25 (by decide) ?_
  refine lv_iadd hx hb dX12_four_26 ?_
  refine lv_topi (fun x11 ex11 => ?_)
  have ex11 : x11.toInt = f0_.toInt + (1 : Int) := by rw [ex11]; exact wk_add (show (-2147483648) ≤ f0_.toInt + (1 : Int) by omega) (show f0_.toInt + (1 : Int) ≤ 2147483647 by omega)
  refine tk_puti hC hK hw hT hinX12 tyX12_ok nmX12 kM_at0 (by decide) rfl rfl 1 (by decide) (List.mem_of_getElem? (i := 2) rfl) rfl rfl rfl rfl (show 0 ≤ x11.toInt by omega) (show x11.toInt ≤ 400 by omega) dX12_four_27 (fun H locs w12 hw hT k14 c13 => ?_)
  have hF := hF.put kM_at0 (k := 1) (by decide) k14
  refine lv_iinc (v := 16) (lv' := [(2, .int 16), (0, .ref (ad 0)), (1, .int a1)]) hx hb dX12_four_30 hl (k := 0) rfl (by decide) (by decide) rfl (fun ls hl => ?_)
  refine lv_goto (tgt := 3) hx hb dX12_four_33 (by decide) ?_
  refine lv_iload_n hx hb dX12_four_3 rfl (lv_at hl 0 rfl) ?_
  refine lv_if_lt (tgt := 36) hx hb dX12_four_4 (by decide) (fun c => absurd c (by decide)) (fun _ => ?_)
  refine lv_aload_n hx hb dX12_four_7 rfl (lv_at hl 1 rfl) ?_
  refine tk_getA hC hK hw hT hinX12 kM_at0 (by decide) rfl 0 (by decide) (List.mem_of_getElem? (i := 1) rfl) rfl rfl dX12_four_8 ?_
  refine lv_aload_n hx hb dX12_four_11 rfl (lv_at hl 1 rfl) ?_
  refine tk_geti hC hK hw hT hinX12 kM_at0 (by decide) rfl 1 (by decide) (List.mem_of_getElem? (i := 2) rfl) rfl rfl dX12_four_12 (fun x15 c16 rx15 tx15 => ?_)
  refine wk_top x11 (c16.symm.trans c13) ?_
  refine lv_iload_n hx hb dX12_four_15 rfl (lv_at hl 2 rfl) ?_
  refine lv_iload_n hx hb dX12_four_16 rfl (lv_at hl 0 rfl) ?_
  refine lv_ishr hx hb dX12_four_17 ?_
  refine lv_topi (fun x17 ex17 => ?_)
  refine lv_i2b hx hb dX12_four_18 rfl ?_
  refine lv_topi (fun x18 ex18 => ?_)
  refine tk_bast hC hK hw hT kM_at1 (by decide) rfl rfl (show 0 ≤ x11.toInt by omega) (show x11.toInt < 400 by omega) dX12_four_19 (fun H locs w19 hw hT k21 => ?_)
  have hF := hF.put kM_at1 (inE_of (a := 0) (b := 400) (by decide) (show 0 ≤ x11.toInt.toNat by omega) (show x11.toInt.toNat ≤ 400 by omega)) k21
  have c22 := k21.gi (Or.inl (tk_ne kM_at0 kM_at1 (by decide))) c13
  refine lv_aload_n hx hb dX12_four_20 rfl (lv_at hl 1 rfl) ?_
  refine lv_dup hx hb dX12_four_21 rfl ?_
  refine tk_geti hC hK hw hT hinX12 kM_at0 (by decide) rfl 1 (by decide) (List.mem_of_getElem? (i := 2) rfl) rfl rfl dX12_four_22 (fun x23 c24 rx23 tx23 => ?_)
  refine wk_top x11 (c24.symm.trans c22) ?_
  refine lv_iconst (v := 1) hx hb dX12_four_25 (by decide) ?_
  refine lv_iadd hx hb dX12_four_26 ?_
  refine lv_topi (fun x25 ex25 => ?_)
  have ex25 : x25.toInt = x11.toInt + (1 : Int) := by rw [ex25]; exact wk_add (show (-2147483648) ≤ x11.toInt + (1 : Int) by omega) (show x11.toInt + (1 : Int) ≤ 2147483647 by omega)
  refine tk_puti hC hK hw hT hinX12 tyX12_ok nmX12 kM_at0 (by decide) rfl rfl 1 (by decide) (List.mem_of_getElem? (i := 2) rfl) rfl rfl rfl rfl (show 0 ≤ x25.toInt by omega) (show x25.toInt ≤ 400 by omega) dX12_four_27 (fun H locs w26 hw hT k28 c27 => ?_)
  have hF := hF.put kM_at0 (k := 1) (by decide) k28
  refine lv_iinc (v := 8) (lv' := [(2, .int 8), (0, .ref (ad 0)), (1, .int a1)]) hx hb dX12_four_30 hl (k := 0) rfl (by decide) (by decide) rfl (fun ls hl => ?_)
  refine lv_goto (tgt := 3) hx hb dX12_four_33 (by decide) ?_
  refine lv_iload_n hx hb dX12_four_3 rfl (lv_at hl 0 rfl) ?_
  refine lv_if_lt (tgt := 36) hx hb dX12_four_4 (by decide) (fun c => absurd c (by decide)) (fun _ => ?_)
  refine lv_aload_n hx hb dX12_four_7 rfl (lv_at hl 1 rfl) ?_
  refine tk_getA hC hK hw hT hinX12 kM_at0 (by decide) rfl 0 (by decide) (List.mem_of_getElem? (i := 1) rfl) rfl rfl dX12_four_8 ?_
  refine lv_aload_n hx hb dX12_four_11 rfl (lv_at hl 1 rfl) ?_
  refine tk_geti hC hK hw hT hinX12 kM_at0 (by decide) rfl 1 (by decide) (List.mem_of_getElem? (i := 2) rfl) rfl rfl dX12_four_12 (fun x29 c30 rx29 tx29 => ?_)
  refine wk_top x25 (c30.symm.trans c27) ?_
  refine lv_iload_n hx hb dX12_four_15 rfl (lv_at hl 2 rfl) ?_
  refine lv_iload_n hx hb dX12_four_16 rfl (lv_at hl 0 rfl) ?_
  refine lv_ishr hx hb dX12_four_17 ?_
  refine lv_topi (fun x31 ex31 => ?_)
  refine lv_i2b hx hb dX12_four_18 rfl ?_
  refine lv_topi (fun x32 ex32 => ?_)
  refine tk_bast hC hK hw hT kM_at1 (by decide) rfl rfl (show 0 ≤ x25.toInt by omega) (show x25.toInt < 400 by omega) dX12_four_19 (fun H locs w33 hw hT k35 => ?_)
  have hF := hF.put kM_at1 (inE_of (a := 0) (b := 400) (by decide) (show 0 ≤ x25.toInt.toNat by omega) (show x25.toInt.toNat ≤ 400 by omega)) k35
  have c36 := k35.gi (Or.inl (tk_ne kM_at0 kM_at1 (by decide))) c27
  refine lv_aload_n hx hb dX12_four_20 rfl (lv_at hl 1 rfl) ?_
  refine lv_dup hx hb dX12_four_21 rfl ?_
  refine tk_geti hC hK hw hT hinX12 kM_at0 (by decide) rfl 1 (by decide) (List.mem_of_getElem? (i := 2) rfl) rfl rfl dX12_four_22 (fun x37 c38 rx37 tx37 => ?_)
  refine wk_top x25 (c38.symm.trans c36) ?_
  refine lv_iconst (v := 1) hx hb dX12_four_25 (by decide) ?_
  refine lv_iadd hx hb dX12_four_26 ?_
  refine lv_topi (fun x39 ex39 => ?_)
  have ex39 : x39.toInt = x25.toInt + (1 : Int) := by rw [ex39]; exact wk_add (show (-2147483648) ≤ x25.toInt + (1 : Int) by omega) (show x25.toInt + (1 : Int) ≤ 2147483647 by omega)
  refine tk_puti hC hK hw hT hinX12 tyX12_ok nmX12 kM_at0 (by decide) rfl rfl 1 (by decide) (List.mem_of_getElem? (i := 2) rfl) rfl rfl rfl rfl (show 0 ≤ x39.toInt by omega) (show x39.toInt ≤ 400 by omega) dX12_four_27 (fun H locs w40 hw hT k42 c41 => ?_)
  have hF := hF.put kM_at0 (k := 1) (by decide) k42
  refine lv_iinc (v := 0) (lv' := [(2, .int 0), (0, .ref (ad 0)), (1, .int a1)]) hx hb dX12_four_30 hl (k := 0) rfl (by decide) (by decide) rfl (fun ls hl => ?_)
  refine lv_goto (tgt := 3) hx hb dX12_four_33 (by decide) ?_
  refine lv_iload_n hx hb dX12_four_3 rfl (lv_at hl 0 rfl) ?_
  refine lv_if_lt (tgt := 36) hx hb dX12_four_4 (by decide) (fun c => absurd c (by decide)) (fun _ => ?_)
  refine lv_aload_n hx hb dX12_four_7 rfl (lv_at hl 1 rfl) ?_
  refine tk_getA hC hK hw hT hinX12 kM_at0 (by decide) rfl 0 (by decide) (List.mem_of_getElem? (i := 1) rfl) rfl rfl dX12_four_8 ?_
  refine lv_aload_n hx hb dX12_four_11 rfl (lv_at hl 1 rfl) ?_
  refine tk_geti hC hK hw hT hinX12 kM_at0 (by decide) rfl 1 (by decide) (List.mem_of_getElem? (i := 2) rfl) rfl rfl dX12_four_12 (fun x43 c44 rx43 tx43 => ?_)
  refine wk_top x39 (c44.symm.trans c41) ?_
  refine lv_iload_n hx hb dX12_four_15 rfl (lv_at hl 2 rfl) ?_
  refine lv_iload_n hx hb dX12_four_16 rfl (lv_at hl 0 rfl) ?_
  refine lv_ishr hx hb dX12_four_17 ?_
  refine lv_topi (fun x45 ex45 => ?_)
  refine lv_i2b hx hb dX12_four_18 rfl ?_
  refine lv_topi (fun x46 ex46 => ?_)
  refine tk_bast hC hK hw hT kM_at1 (by decide) rfl rfl (show 0 ≤ x39.toInt by omega) (show x39.toInt < 400 by omega) dX12_four_19 (fun H locs w47 hw hT k49 => ?_)
  have hF := hF.put kM_at1 (inE_of (a := 0) (b := 400) (by decide) (show 0 ≤ x39.toInt.toNat by omega) (show x39.toInt.toNat ≤ 400 by omega)) k49
  have c50 := k49.gi (Or.inl (tk_ne kM_at0 kM_at1 (by decide))) c41
  refine lv_aload_n hx hb dX12_four_20 rfl (lv_at hl 1 rfl) ?_
  refine lv_dup hx hb dX12_four_21 rfl ?_
  refine tk_geti hC hK hw hT hinX12 kM_at0 (by decide) rfl 1 (by decide) (List.mem_of_getElem? (i := 2) rfl) rfl rfl dX12_four_22 (fun x51 c52 rx51 tx51 => ?_)
  refine wk_top x39 (c52.symm.trans c50) ?_
  refine lv_iconst (v := 1) hx hb dX12_four_25 (by decide) ?_
  refine lv_iadd hx hb dX12_four_26 ?_
  refine lv_topi (fun x53 ex53 => ?_)
  have ex53 : x53.toInt = x39.toInt + (1 : Int) := by rw [ex53]; exact wk_add (show (-2147483648) ≤ x39.toInt + (1 : Int) by omega) (show x39.toInt + (1 : Int) ≤ 2147483647 by omega)
  refine tk_puti hC hK hw hT hinX12 tyX12_ok nmX12 kM_at0 (by decide) rfl rfl 1 (by decide) (List.mem_of_getElem? (i := 2) rfl) rfl rfl rfl rfl (show 0 ≤ x53.toInt by omega) (show x53.toInt ≤ 400 by omega) dX12_four_27 (fun H locs w54 hw hT k56 c55 => ?_)
  have hF := hF.put kM_at0 (k := 1) (by decide) k56
  refine lv_iinc (v := (-8)) (lv' := [(2, .int (-8)), (0, .ref (ad 0)), (1, .int a1)]) hx hb dX12_four_30 hl (k := 0) rfl (by decide) (by decide) rfl (fun ls hl => ?_)
  refine lv_goto (tgt := 3) hx hb dX12_four_33 (by decide) ?_
  refine lv_iload_n hx hb dX12_four_3 rfl (lv_at hl 0 rfl) ?_
  refine lv_if_lt (tgt := 36) hx hb dX12_four_4 (by decide) (fun _ => ?_) (fun c => absurd (by decide) c)
  exact tk_vret hC hr hlocks hK ⟨hT, hF, ⟨x53, c55, (show 20 ≤ x53.toInt by omega), (show x53.toInt ≤ 400 by omega)⟩⟩ hw dX12_four_36
abbrev P_X12_four_4 (ad : Nat → Nat) (cy : Nat → ClassId) (B : Int) (qr : Nat) (s1 : Int) (a1 : Int32) (w0 : va_W) : va_W → Prop := fun u => TW ksM ad cy B qr 12 u ∧ FE ksM [(12, 1, 1), (60, 0, 400)] w0 u ∧ (((∃ y : Int32, gi u 0 1 = y ∧ 8 ≤ y.toInt ∧ y.toInt ≤ 388)))
set_option maxHeartbeats 4000000 in
set_option maxRecDepth 100000 in
theorem k_X12_four_4 (l : Launch) (adK adV : Nat → Nat) (dC : Nat → ClassId) (dI : Nat → Nat → Nat) (cy : Nat → ClassId) (ad : Nat → Nat) (B : Int) (hB0 : 100000 ≤ B) (hB1 : B ≤ 1073741824) (qr : Nat) (s1 : Int)  (a1 : Int32) (w0 : va_W) (sz : Nat) (hT : TW ksM ad cy B qr 12 w0) (f0_ : Int32) (cf0_ : gi w0 0 1 = f0_) (rf0_ : 4 ≤ f0_.toInt) (tf0_ : f0_.toInt ≤ 384) : Met l yX12_four wsX12_four ({ frames := 1, cells := 0, slots := 0, locals := 12 }) (va_Pc [.ref (ad 0), .int a1] (wpreS adK adV dC dI cy sz w0)) (va_Qv (P_X12_four_4 ad cy B qr s1 a1 w0) (fun u : va_W => wpost dC dI cy (va_A w0 sz) u) (va_A w0 sz)) 0 0 (va_A w0 sz) := by
  refine Met.ofW (cc := cX12_four) (maxL := 3) (ret := none) (by decide) rfl ?_
  intro p e s m args below meth c s₁ Bk hml hv
  obtain ⟨rfl, ⟨hsz, hP, hK, hD0⟩, hE, hSR⟩ := hv
  have hx := Bk.exec
  have hb := Bk.bytes
  have hr := Bk.returns
  have hlocks := Bk.notSynchronized
  have hC : CallFix p m c cX12_four 3 s _ wsX12_four RX12 := ⟨hx, hb, hml, findClass_of_methodNamed Bk.named, atoms_spec (ws := wsX12_four) Bk.pre⟩
  subst hsz
  have hD := hD0.self (sz := s.heap.size)
  generalize hAe : va_A w0 s.heap.size = A at hD hE ⊢
  have hA : ∀ q : Nat, s.heap.size ≤ q → A q := fun q h => by rw [← hAe]; exact Or.inr h
  have hw : Wd dC dI A s.heap s.heap [] w0 := ⟨hP, hD, va_S.rf⟩
  have hF : FE ksM [(12, 1, 1), (60, 0, 400)] w0 w0 := FE.rf
  have hl := lv_entry ([.ref (ad 0), .int a1]) (n := 3) (Nat.le_of_ble_eq_true rfl)
  rw [lg_entry_eq]
  generalize (lg_sl ([.ref (ad 0), .int a1]) ++ List.replicate (3 - (lg_sl ([.ref (ad 0), .int a1])).length) Slot.unset).toArray = ls at hl ⊢
  have hl : lv_has ls 3 [(0, .ref (ad 0)), (1, .int a1)] := hl
  generalize hloc : ([] : List Loc) = locs at hw ⊢
  have hinX12 : ∀ w ∈ u_ws RX12 TX12 42, w ∈ wsX12_four := fun _ h => List.mem_cons_of_mem _ (List.mem_append_right _ (h))
  refine lv_bipush (v := 24) hx hb dX12_four_0 (by decide) ?_
  refine lv_istore_n (lv' := [(2, .int 24), (0, .ref (ad 0)), (1, .int a1)]) hx hb dX12_four_2 rfl hl (by decide) rfl (fun ls hl => ?_)
  refine lv_iload_n hx hb dX12_four_3 rfl (lv_at hl 0 rfl) ?_
  refine lv_if_lt (tgt := 36) hx hb dX12_four_4 (by decide) (fun c => absurd c (by decide)) (fun _ => ?_)
  refine lv_aload_n hx hb dX12_four_7 rfl (lv_at hl 1 rfl) ?_
  refine tk_getA hC hK hw hT hinX12 kM_at0 (by decide) rfl 0 (by decide) (List.mem_of_getElem? (i := 1) rfl) rfl rfl dX12_four_8 ?_
  refine lv_aload_n hx hb dX12_four_11 rfl (lv_at hl 1 rfl) ?_
  refine tk_geti hC hK hw hT hinX12 kM_at0 (by decide) rfl 1 (by decide) (List.mem_of_getElem? (i := 2) rfl) rfl rfl dX12_four_12 (fun x1 c2 rx1 tx1 => ?_)
  refine wk_top f0_ (c2.symm.trans cf0_) ?_
  refine lv_iload_n hx hb dX12_four_15 rfl (lv_at hl 2 rfl) ?_
  refine lv_iload_n hx hb dX12_four_16 rfl (lv_at hl 0 rfl) ?_
  refine lv_ishr hx hb dX12_four_17 ?_
  refine lv_topi (fun x3 ex3 => ?_)
  refine lv_i2b hx hb dX12_four_18 rfl ?_
  refine lv_topi (fun x4 ex4 => ?_)
  refine tk_bast hC hK hw hT kM_at1 (by decide) rfl rfl (show 0 ≤ f0_.toInt by omega) (show f0_.toInt < 400 by omega) dX12_four_19 (fun H locs w5 hw hT k7 => ?_)
  have hF := hF.put kM_at1 (inE_of (a := 0) (b := 400) (by decide) (show 0 ≤ f0_.toInt.toNat by omega) (show f0_.toInt.toNat ≤ 400 by omega)) k7
  have c8 := k7.gi (Or.inl (tk_ne kM_at0 kM_at1 (by decide))) cf0_
  refine lv_aload_n hx hb dX12_four_20 rfl (lv_at hl 1 rfl) ?_
  refine lv_dup hx hb dX12_four_21 rfl ?_
  refine tk_geti hC hK hw hT hinX12 kM_at0 (by decide) rfl 1 (by decide) (List.mem_of_getElem? (i := 2) rfl) rfl rfl dX12_four_22 (fun x9 c10 rx9 tx9 => ?_)
  refine wk_top f0_ (c10.symm.trans c8) ?_
  refine lv_iconst (v := 1) hx hb dX12_four_25 (by decide) ?_
  refine lv_iadd hx hb dX12_four_26 ?_
  refine lv_topi (fun x11 ex11 => ?_)
  have ex11 : x11.toInt = f0_.toInt + (1 : Int) := by rw [ex11]; exact wk_add (show (-2147483648) ≤ f0_.toInt + (1 : Int) by omega) (show f0_.toInt + (1 : Int) ≤ 2147483647 by omega)
  refine tk_puti hC hK hw hT hinX12 tyX12_ok nmX12 kM_at0 (by decide) rfl rfl 1 (by decide) (List.mem_of_getElem? (i := 2) rfl) rfl rfl rfl rfl (show 0 ≤ x11.toInt by omega) (show x11.toInt ≤ 400 by omega) dX12_four_27 (fun H locs w12 hw hT k14 c13 => ?_)
  have hF := hF.put kM_at0 (k := 1) (by decide) k14
  refine lv_iinc (v := 16) (lv' := [(2, .int 16), (0, .ref (ad 0)), (1, .int a1)]) hx hb dX12_four_30 hl (k := 0) rfl (by decide) (by decide) rfl (fun ls hl => ?_)
  refine lv_goto (tgt := 3) hx hb dX12_four_33 (by decide) ?_
  refine lv_iload_n hx hb dX12_four_3 rfl (lv_at hl 0 rfl) ?_
  refine lv_if_lt (tgt := 36) hx hb dX12_four_4 (by decide) (fun c => absurd c (by decide)) (fun _ => ?_)
  refine lv_aload_n hx hb dX12_four_7 rfl (lv_at hl 1 rfl) ?_
  refine tk_getA hC hK hw hT hinX12 kM_at0 (by decide) rfl 0 (by decide) (List.mem_of_getElem? (i := 1) rfl) rfl rfl dX12_four_8 ?_
  refine lv_aload_n hx hb dX12_four_11 rfl (lv_at hl 1 rfl) ?_
  refine tk_geti hC hK hw hT hinX12 kM_at0 (by decide) rfl 1 (by decide) (List.mem_of_getElem? (i := 2) rfl) rfl rfl dX12_four_12 (fun x15 c16 rx15 tx15 => ?_)
  refine wk_top x11 (c16.symm.trans c13) ?_
  refine lv_iload_n hx hb dX12_four_15 rfl (lv_at hl 2 rfl) ?_
  refine lv_iload_n hx hb dX12_four_16 rfl (lv_at hl 0 rfl) ?_
  refine lv_ishr hx hb dX12_four_17 ?_
  refine lv_topi (fun x17 ex17 => ?_)
  refine lv_i2b hx hb dX12_four_18 rfl ?_
  refine lv_topi (fun x18 ex18 => ?_)
  refine tk_bast hC hK hw hT kM_at1 (by decide) rfl rfl (show 0 ≤ x11.toInt by omega) (show x11.toInt < 400 by omega) dX12_four_19 (fun H locs w19 hw hT k21 => ?_)
  have hF := hF.put kM_at1 (inE_of (a := 0) (b := 400) (by decide) (show 0 ≤ x11.toInt.toNat by omega) (show x11.toInt.toNat ≤ 400 by omega)) k21
  have c22 := k21.gi (Or.inl (tk_ne kM_at0 kM_at1 (by decide))) c13
  refine lv_aload_n hx hb dX12_four_20 rfl (lv_at hl 1 rfl) ?_
  refine lv_dup hx hb dX12_four_21 rfl ?_
  refine tk_geti hC hK hw hT hinX12 kM_at0 (by decide) rfl 1 (by decide) (List.mem_of_getElem? (i := 2) rfl) rfl rfl dX12_four_22 (fun x23 c24 rx23 tx23 => ?_)
  refine wk_top x11 (c24.symm.trans c22) ?_
  refine lv_iconst (v := 1) hx hb dX12_four_25 (by decide) ?_
  refine lv_iadd hx hb dX12_four_26 ?_
  refine lv_topi (fun x25 ex25 => ?_)
  have ex25 : x25.toInt = x11.toInt + (1 : Int) := by rw [ex25]; exact wk_add (show (-2147483648) ≤ x11.toInt + (1 : Int) by omega) (show x11.toInt + (1 : Int) ≤ 2147483647 by omega)
  refine tk_puti hC hK hw hT hinX12 tyX12_ok nmX12 kM_at0 (by decide) rfl rfl 1 (by decide) (List.mem_of_getElem? (i := 2) rfl) rfl rfl rfl rfl (show 0 ≤ x25.toInt by omega) (show x25.toInt ≤ 400 by omega) dX12_four_27 (fun H locs w26 hw hT k28 c27 => ?_)
  have hF := hF.put kM_at0 (k := 1) (by decide) k28
  refine lv_iinc (v := 8) (lv' := [(2, .int 8), (0, .ref (ad 0)), (1, .int a1)]) hx hb dX12_four_30 hl (k := 0) rfl (by decide) (by decide) rfl (fun ls hl => ?_)
  refine lv_goto (tgt := 3) hx hb dX12_four_33 (by decide) ?_
  refine lv_iload_n hx hb dX12_four_3 rfl (lv_at hl 0 rfl) ?_
  refine lv_if_lt (tgt := 36) hx hb dX12_four_4 (by decide) (fun c => absurd c (by decide)) (fun _ => ?_)
  refine lv_aload_n hx hb dX12_four_7 rfl (lv_at hl 1 rfl) ?_
  refine tk_getA hC hK hw hT hinX12 kM_at0 (by decide) rfl 0 (by decide) (List.mem_of_getElem? (i := 1) rfl) rfl rfl dX12_four_8 ?_
  refine lv_aload_n hx hb dX12_four_11 rfl (lv_at hl 1 rfl) ?_
  refine tk_geti hC hK hw hT hinX12 kM_at0 (by decide) rfl 1 (by decide) (List.mem_of_getElem? (i := 2) rfl) rfl rfl dX12_four_12 (fun x29 c30 rx29 tx29 => ?_)
  refine wk_top x25 (c30.symm.trans c27) ?_
  refine lv_iload_n hx hb dX12_four_15 rfl (lv_at hl 2 rfl) ?_
  refine lv_iload_n hx hb dX12_four_16 rfl (lv_at hl 0 rfl) ?_
  refine lv_ishr hx hb dX12_four_17 ?_
  refine lv_topi (fun x31 ex31 => ?_)
  refine lv_i2b hx hb dX12_four_18 rfl ?_
  refine lv_topi (fun x32 ex32 => ?_)
  refine tk_bast hC hK hw hT kM_at1 (by decide) rfl rfl (show 0 ≤ x25.toInt by omega) (show x25.toInt < 400 by omega) dX12_four_19 (fun H locs w33 hw hT k35 => ?_)
  have hF := hF.put kM_at1 (inE_of (a := 0) (b := 400) (by decide) (show 0 ≤ x25.toInt.toNat by omega) (show x25.toInt.toNat ≤ 400 by omega)) k35
  have c36 := k35.gi (Or.inl (tk_ne kM_at0 kM_at1 (by decide))) c27
  refine lv_aload_n hx hb dX12_four_20 rfl (lv_at hl 1 rfl) ?_
  refine lv_dup hx hb dX12_four_21 rfl ?_
  refine tk_geti hC hK hw hT hinX12 kM_at0 (by decide) rfl 1 (by decide) (List.mem_of_getElem? (i := 2) rfl) rfl rfl dX12_four_22 (fun x37 c38 rx37 tx37 => ?_)
  refine wk_top x25 (c38.symm.trans c36) ?_
  refine lv_iconst (v := 1) hx hb dX12_four_25 (by decide) ?_
  refine lv_iadd hx hb dX12_four_26 ?_
  refine lv_topi (fun x39 ex39 => ?_)
  have ex39 : x39.toInt = x25.toInt + (1 : Int) := by rw [ex39]; exact wk_add (show (-2147483648) ≤ x25.toInt + (1 : Int) by omega) (show x25.toInt + (1 : Int) ≤ 2147483647 by omega)
  refine tk_puti hC hK hw hT hinX12 tyX12_ok nmX12 kM_at0 (by decide) rfl rfl 1 (by decide) (List.mem_of_getElem? (i := 2) rfl) rfl rfl rfl rfl (show 0 ≤ x39.toInt by omega) (show x39.toInt ≤ 400 by omega) dX12_four_27 (fun H locs w40 hw hT k42 c41 => ?_)
  have hF := hF.put kM_at0 (k := 1) (by decide) k42
  refine lv_iinc (v := 0) (lv' := [(2, .int 0), (0, .ref (ad 0)), (1, .int a1)]) hx hb dX12_four_30 hl (k := 0) rfl (by decide) (by decide) rfl (fun ls hl => ?_)
  refine lv_goto (tgt := 3) hx hb dX12_four_33 (by decide) ?_
  refine lv_iload_n hx hb dX12_four_3 rfl (lv_at hl 0 rfl) ?_
  refine lv_if_lt (tgt := 36) hx hb dX12_four_4 (by decide) (fun c => absurd c (by decide)) (fun _ => ?_)
  refine lv_aload_n hx hb dX12_four_7 rfl (lv_at hl 1 rfl) ?_
  refine tk_getA hC hK hw hT hinX12 kM_at0 (by decide) rfl 0 (by decide) (List.mem_of_getElem? (i := 1) rfl) rfl rfl dX12_four_8 ?_
  refine lv_aload_n hx hb dX12_four_11 rfl (lv_at hl 1 rfl) ?_
  refine tk_geti hC hK hw hT hinX12 kM_at0 (by decide) rfl 1 (by decide) (List.mem_of_getElem? (i := 2) rfl) rfl rfl dX12_four_12 (fun x43 c44 rx43 tx43 => ?_)
  refine wk_top x39 (c44.symm.trans c41) ?_
  refine lv_iload_n hx hb dX12_four_15 rfl (lv_at hl 2 rfl) ?_
  refine lv_iload_n hx hb dX12_four_16 rfl (lv_at hl 0 rfl) ?_
  refine lv_ishr hx hb dX12_four_17 ?_
  refine lv_topi (fun x45 ex45 => ?_)
  refine lv_i2b hx hb dX12_four_18 rfl ?_
  refine lv_topi (fun x46 ex46 => ?_)
  refine tk_bast hC hK hw hT kM_at1 (by decide) rfl rfl (show 0 ≤ x39.toInt by omega) (show x39.toInt < 400 by omega) dX12_four_19 (fun H locs w47 hw hT k49 => ?_)
  have hF := hF.put kM_at1 (inE_of (a := 0) (b := 400) (by decide) (show 0 ≤ x39.toInt.toNat by omega) (show x39.toInt.toNat ≤ 400 by omega)) k49
  have c50 := k49.gi (Or.inl (tk_ne kM_at0 kM_at1 (by decide))) c41
  refine lv_aload_n hx hb dX12_four_20 rfl (lv_at hl 1 rfl) ?_
  refine lv_dup hx hb dX12_four_21 rfl ?_
  refine tk_geti hC hK hw hT hinX12 kM_at0 (by decide) rfl 1 (by decide) (List.mem_of_getElem? (i := 2) rfl) rfl rfl dX12_four_22 (fun x51 c52 rx51 tx51 => ?_)
  refine wk_top x39 (c52.symm.trans c50) ?_
  refine lv_iconst (v := 1) hx hb dX12_four_25 (by decide) ?_
  refine lv_iadd hx hb dX12_four_26 ?_
  refine lv_topi (fun x53 ex53 => ?_)
  have ex53 : x53.toInt = x39.toInt + (1 : Int) := by rw [ex53]; exact wk_add (show (-2147483648) ≤ x39.toInt + (1 : Int) by omega) (show x39.toInt + (1 : Int) ≤ 2147483647 by omega)
  refine tk_puti hC hK hw hT hinX12 tyX12_ok nmX12 kM_at0 (by decide) rfl rfl 1 (by decide) (List.mem_of_getElem? (i := 2) rfl) rfl rfl rfl rfl (show 0 ≤ x53.toInt by omega) (show x53.toInt ≤ 400 by omega) dX12_four_27 (fun H locs w54 hw hT k56 c55 => ?_)
  have hF := hF.put kM_at0 (k := 1) (by decide) k56
  refine lv_iinc (v := (-8)) (lv' := [(2, .int (-8)), (0, .ref (ad 0)), (1, .int a1)]) hx hb dX12_four_30 hl (k := 0) rfl (by decide) (by decide) rfl (fun ls hl => ?_)
  refine lv_goto (tgt := 3) hx hb dX12_four_33 (by decide) ?_
  refine lv_iload_n hx hb dX12_four_3 rfl (lv_at hl 0 rfl) ?_
  refine lv_if_lt (tgt := 36) hx hb dX12_four_4 (by decide) (fun _ => ?_) (fun c => absurd (by decide) c)
  exact tk_vret hC hr hlocks hK ⟨hT, hF, ⟨x53, c55, (show 8 ≤ x53.toInt by omega), (show x53.toInt ≤ 388 by omega)⟩⟩ hw dX12_four_36
abbrev P_X12_four_5 (ad : Nat → Nat) (cy : Nat → ClassId) (B : Int) (qr : Nat) (s1 : Int) (a1 : Int32) (w0 : va_W) : va_W → Prop := fun u => TW ksM ad cy B qr 12 u ∧ FE ksM [(12, 1, 1), (60, 0, 400)] w0 u ∧ (((∃ y : Int32, gi u 0 1 = y ∧ 12 ≤ y.toInt ∧ y.toInt ≤ 392)))
set_option maxHeartbeats 4000000 in
set_option maxRecDepth 100000 in
theorem k_X12_four_5 (l : Launch) (adK adV : Nat → Nat) (dC : Nat → ClassId) (dI : Nat → Nat → Nat) (cy : Nat → ClassId) (ad : Nat → Nat) (B : Int) (hB0 : 100000 ≤ B) (hB1 : B ≤ 1073741824) (qr : Nat) (s1 : Int)  (a1 : Int32) (w0 : va_W) (sz : Nat) (hT : TW ksM ad cy B qr 12 w0) (f0_ : Int32) (cf0_ : gi w0 0 1 = f0_) (rf0_ : 8 ≤ f0_.toInt) (tf0_ : f0_.toInt ≤ 388) : Met l yX12_four wsX12_four ({ frames := 1, cells := 0, slots := 0, locals := 12 }) (va_Pc [.ref (ad 0), .int a1] (wpreS adK adV dC dI cy sz w0)) (va_Qv (P_X12_four_5 ad cy B qr s1 a1 w0) (fun u : va_W => wpost dC dI cy (va_A w0 sz) u) (va_A w0 sz)) 0 0 (va_A w0 sz) := by
  refine Met.ofW (cc := cX12_four) (maxL := 3) (ret := none) (by decide) rfl ?_
  intro p e s m args below meth c s₁ Bk hml hv
  obtain ⟨rfl, ⟨hsz, hP, hK, hD0⟩, hE, hSR⟩ := hv
  have hx := Bk.exec
  have hb := Bk.bytes
  have hr := Bk.returns
  have hlocks := Bk.notSynchronized
  have hC : CallFix p m c cX12_four 3 s _ wsX12_four RX12 := ⟨hx, hb, hml, findClass_of_methodNamed Bk.named, atoms_spec (ws := wsX12_four) Bk.pre⟩
  subst hsz
  have hD := hD0.self (sz := s.heap.size)
  generalize hAe : va_A w0 s.heap.size = A at hD hE ⊢
  have hA : ∀ q : Nat, s.heap.size ≤ q → A q := fun q h => by rw [← hAe]; exact Or.inr h
  have hw : Wd dC dI A s.heap s.heap [] w0 := ⟨hP, hD, va_S.rf⟩
  have hF : FE ksM [(12, 1, 1), (60, 0, 400)] w0 w0 := FE.rf
  have hl := lv_entry ([.ref (ad 0), .int a1]) (n := 3) (Nat.le_of_ble_eq_true rfl)
  rw [lg_entry_eq]
  generalize (lg_sl ([.ref (ad 0), .int a1]) ++ List.replicate (3 - (lg_sl ([.ref (ad 0), .int a1])).length) Slot.unset).toArray = ls at hl ⊢
  have hl : lv_has ls 3 [(0, .ref (ad 0)), (1, .int a1)] := hl
  generalize hloc : ([] : List Loc) = locs at hw ⊢
  have hinX12 : ∀ w ∈ u_ws RX12 TX12 42, w ∈ wsX12_four := fun _ h => List.mem_cons_of_mem _ (List.mem_append_right _ (h))
  refine lv_bipush (v := 24) hx hb dX12_four_0 (by decide) ?_
  refine lv_istore_n (lv' := [(2, .int 24), (0, .ref (ad 0)), (1, .int a1)]) hx hb dX12_four_2 rfl hl (by decide) rfl (fun ls hl => ?_)
  refine lv_iload_n hx hb dX12_four_3 rfl (lv_at hl 0 rfl) ?_
  refine lv_if_lt (tgt := 36) hx hb dX12_four_4 (by decide) (fun c => absurd c (by decide)) (fun _ => ?_)
  refine lv_aload_n hx hb dX12_four_7 rfl (lv_at hl 1 rfl) ?_
  refine tk_getA hC hK hw hT hinX12 kM_at0 (by decide) rfl 0 (by decide) (List.mem_of_getElem? (i := 1) rfl) rfl rfl dX12_four_8 ?_
  refine lv_aload_n hx hb dX12_four_11 rfl (lv_at hl 1 rfl) ?_
  refine tk_geti hC hK hw hT hinX12 kM_at0 (by decide) rfl 1 (by decide) (List.mem_of_getElem? (i := 2) rfl) rfl rfl dX12_four_12 (fun x1 c2 rx1 tx1 => ?_)
  refine wk_top f0_ (c2.symm.trans cf0_) ?_
  refine lv_iload_n hx hb dX12_four_15 rfl (lv_at hl 2 rfl) ?_
  refine lv_iload_n hx hb dX12_four_16 rfl (lv_at hl 0 rfl) ?_
  refine lv_ishr hx hb dX12_four_17 ?_
  refine lv_topi (fun x3 ex3 => ?_)
  refine lv_i2b hx hb dX12_four_18 rfl ?_
  refine lv_topi (fun x4 ex4 => ?_)
  refine tk_bast hC hK hw hT kM_at1 (by decide) rfl rfl (show 0 ≤ f0_.toInt by omega) (show f0_.toInt < 400 by omega) dX12_four_19 (fun H locs w5 hw hT k7 => ?_)
  have hF := hF.put kM_at1 (inE_of (a := 0) (b := 400) (by decide) (show 0 ≤ f0_.toInt.toNat by omega) (show f0_.toInt.toNat ≤ 400 by omega)) k7
  have c8 := k7.gi (Or.inl (tk_ne kM_at0 kM_at1 (by decide))) cf0_
  refine lv_aload_n hx hb dX12_four_20 rfl (lv_at hl 1 rfl) ?_
  refine lv_dup hx hb dX12_four_21 rfl ?_
  refine tk_geti hC hK hw hT hinX12 kM_at0 (by decide) rfl 1 (by decide) (List.mem_of_getElem? (i := 2) rfl) rfl rfl dX12_four_22 (fun x9 c10 rx9 tx9 => ?_)
  refine wk_top f0_ (c10.symm.trans c8) ?_
  refine lv_iconst (v := 1) hx hb dX12_four_25 (by decide) ?_
  refine lv_iadd hx hb dX12_four_26 ?_
  refine lv_topi (fun x11 ex11 => ?_)
  have ex11 : x11.toInt = f0_.toInt + (1 : Int) := by rw [ex11]; exact wk_add (show (-2147483648) ≤ f0_.toInt + (1 : Int) by omega) (show f0_.toInt + (1 : Int) ≤ 2147483647 by omega)
  refine tk_puti hC hK hw hT hinX12 tyX12_ok nmX12 kM_at0 (by decide) rfl rfl 1 (by decide) (List.mem_of_getElem? (i := 2) rfl) rfl rfl rfl rfl (show 0 ≤ x11.toInt by omega) (show x11.toInt ≤ 400 by omega) dX12_four_27 (fun H locs w12 hw hT k14 c13 => ?_)
  have hF := hF.put kM_at0 (k := 1) (by decide) k14
  refine lv_iinc (v := 16) (lv' := [(2, .int 16), (0, .ref (ad 0)), (1, .int a1)]) hx hb dX12_four_30 hl (k := 0) rfl (by decide) (by decide) rfl (fun ls hl => ?_)
  refine lv_goto (tgt := 3) hx hb dX12_four_33 (by decide) ?_
  refine lv_iload_n hx hb dX12_four_3 rfl (lv_at hl 0 rfl) ?_
  refine lv_if_lt (tgt := 36) hx hb dX12_four_4 (by decide) (fun c => absurd c (by decide)) (fun _ => ?_)
  refine lv_aload_n hx hb dX12_four_7 rfl (lv_at hl 1 rfl) ?_
  refine tk_getA hC hK hw hT hinX12 kM_at0 (by decide) rfl 0 (by decide) (List.mem_of_getElem? (i := 1) rfl) rfl rfl dX12_four_8 ?_
  refine lv_aload_n hx hb dX12_four_11 rfl (lv_at hl 1 rfl) ?_
  refine tk_geti hC hK hw hT hinX12 kM_at0 (by decide) rfl 1 (by decide) (List.mem_of_getElem? (i := 2) rfl) rfl rfl dX12_four_12 (fun x15 c16 rx15 tx15 => ?_)
  refine wk_top x11 (c16.symm.trans c13) ?_
  refine lv_iload_n hx hb dX12_four_15 rfl (lv_at hl 2 rfl) ?_
  refine lv_iload_n hx hb dX12_four_16 rfl (lv_at hl 0 rfl) ?_
  refine lv_ishr hx hb dX12_four_17 ?_
  refine lv_topi (fun x17 ex17 => ?_)
  refine lv_i2b hx hb dX12_four_18 rfl ?_
  refine lv_topi (fun x18 ex18 => ?_)
  refine tk_bast hC hK hw hT kM_at1 (by decide) rfl rfl (show 0 ≤ x11.toInt by omega) (show x11.toInt < 400 by omega) dX12_four_19 (fun H locs w19 hw hT k21 => ?_)
  have hF := hF.put kM_at1 (inE_of (a := 0) (b := 400) (by decide) (show 0 ≤ x11.toInt.toNat by omega) (show x11.toInt.toNat ≤ 400 by omega)) k21
  have c22 := k21.gi (Or.inl (tk_ne kM_at0 kM_at1 (by decide))) c13
  refine lv_aload_n hx hb dX12_four_20 rfl (lv_at hl 1 rfl) ?_
  refine lv_dup hx hb dX12_four_21 rfl ?_
  refine tk_geti hC hK hw hT hinX12 kM_at0 (by decide) rfl 1 (by decide) (List.mem_of_getElem? (i := 2) rfl) rfl rfl dX12_four_22 (fun x23 c24 rx23 tx23 => ?_)
  refine wk_top x11 (c24.symm.trans c22) ?_
  refine lv_iconst (v := 1) hx hb dX12_four_25 (by decide) ?_
  refine lv_iadd hx hb dX12_four_26 ?_
  refine lv_topi (fun x25 ex25 => ?_)
  have ex25 : x25.toInt = x11.toInt + (1 : Int) := by rw [ex25]; exact wk_add (show (-2147483648) ≤ x11.toInt + (1 : Int) by omega) (show x11.toInt + (1 : Int) ≤ 2147483647 by omega)
  refine tk_puti hC hK hw hT hinX12 tyX12_ok nmX12 kM_at0 (by decide) rfl rfl 1 (by decide) (List.mem_of_getElem? (i := 2) rfl) rfl rfl rfl rfl (show 0 ≤ x25.toInt by omega) (show x25.toInt ≤ 400 by omega) dX12_four_27 (fun H locs w26 hw hT k28 c27 => ?_)
  have hF := hF.put kM_at0 (k := 1) (by decide) k28
  refine lv_iinc (v := 8) (lv' := [(2, .int 8), (0, .ref (ad 0)), (1, .int a1)]) hx hb dX12_four_30 hl (k := 0) rfl (by decide) (by decide) rfl (fun ls hl => ?_)
  refine lv_goto (tgt := 3) hx hb dX12_four_33 (by decide) ?_
  refine lv_iload_n hx hb dX12_four_3 rfl (lv_at hl 0 rfl) ?_
  refine lv_if_lt (tgt := 36) hx hb dX12_four_4 (by decide) (fun c => absurd c (by decide)) (fun _ => ?_)
  refine lv_aload_n hx hb dX12_four_7 rfl (lv_at hl 1 rfl) ?_
  refine tk_getA hC hK hw hT hinX12 kM_at0 (by decide) rfl 0 (by decide) (List.mem_of_getElem? (i := 1) rfl) rfl rfl dX12_four_8 ?_
  refine lv_aload_n hx hb dX12_four_11 rfl (lv_at hl 1 rfl) ?_
  refine tk_geti hC hK hw hT hinX12 kM_at0 (by decide) rfl 1 (by decide) (List.mem_of_getElem? (i := 2) rfl) rfl rfl dX12_four_12 (fun x29 c30 rx29 tx29 => ?_)
  refine wk_top x25 (c30.symm.trans c27) ?_
  refine lv_iload_n hx hb dX12_four_15 rfl (lv_at hl 2 rfl) ?_
  refine lv_iload_n hx hb dX12_four_16 rfl (lv_at hl 0 rfl) ?_
  refine lv_ishr hx hb dX12_four_17 ?_
  refine lv_topi (fun x31 ex31 => ?_)
  refine lv_i2b hx hb dX12_four_18 rfl ?_
  refine lv_topi (fun x32 ex32 => ?_)
  refine tk_bast hC hK hw hT kM_at1 (by decide) rfl rfl (show 0 ≤ x25.toInt by omega) (show x25.toInt < 400 by omega) dX12_four_19 (fun H locs w33 hw hT k35 => ?_)
  have hF := hF.put kM_at1 (inE_of (a := 0) (b := 400) (by decide) (show 0 ≤ x25.toInt.toNat by omega) (show x25.toInt.toNat ≤ 400 by omega)) k35
  have c36 := k35.gi (Or.inl (tk_ne kM_at0 kM_at1 (by decide))) c27
  refine lv_aload_n hx hb dX12_four_20 rfl (lv_at hl 1 rfl) ?_
  refine lv_dup hx hb dX12_four_21 rfl ?_
  refine tk_geti hC hK hw hT hinX12 kM_at0 (by decide) rfl 1 (by decide) (List.mem_of_getElem? (i := 2) rfl) rfl rfl dX12_four_22 (fun x37 c38 rx37 tx37 => ?_)
  refine wk_top x25 (c38.symm.trans c36) ?_
  refine lv_iconst (v := 1) hx hb dX12_four_25 (by decide) ?_
  refine lv_iadd hx hb dX12_four_26 ?_
  refine lv_topi (fun x39 ex39 => ?_)
  have ex39 : x39.toInt = x25.toInt + (1 : Int) := by rw [ex39]; exact wk_add (show (-2147483648) ≤ x25.toInt + (1 : Int) by omega) (show x25.toInt + (1 : Int) ≤ 2147483647 by omega)
  refine tk_puti hC hK hw hT hinX12 tyX12_ok nmX12 kM_at0 (by decide) rfl rfl 1 (by decide) (List.mem_of_getElem? (i := 2) rfl) rfl rfl rfl rfl (show 0 ≤ x39.toInt by omega) (show x39.toInt ≤ 400 by omega) dX12_four_27 (fun H locs w40 hw hT k42 c41 => ?_)
  have hF := hF.put kM_at0 (k := 1) (by decide) k42
  refine lv_iinc (v := 0) (lv' := [(2, .int 0), (0, .ref (ad 0)), (1, .int a1)]) hx hb dX12_four_30 hl (k := 0) rfl (by decide) (by decide) rfl (fun ls hl => ?_)
  refine lv_goto (tgt := 3) hx hb dX12_four_33 (by decide) ?_
  refine lv_iload_n hx hb dX12_four_3 rfl (lv_at hl 0 rfl) ?_
  refine lv_if_lt (tgt := 36) hx hb dX12_four_4 (by decide) (fun c => absurd c (by decide)) (fun _ => ?_)
  refine lv_aload_n hx hb dX12_four_7 rfl (lv_at hl 1 rfl) ?_
  refine tk_getA hC hK hw hT hinX12 kM_at0 (by decide) rfl 0 (by decide) (List.mem_of_getElem? (i := 1) rfl) rfl rfl dX12_four_8 ?_
  refine lv_aload_n hx hb dX12_four_11 rfl (lv_at hl 1 rfl) ?_
  refine tk_geti hC hK hw hT hinX12 kM_at0 (by decide) rfl 1 (by decide) (List.mem_of_getElem? (i := 2) rfl) rfl rfl dX12_four_12 (fun x43 c44 rx43 tx43 => ?_)
  refine wk_top x39 (c44.symm.trans c41) ?_
  refine lv_iload_n hx hb dX12_four_15 rfl (lv_at hl 2 rfl) ?_
  refine lv_iload_n hx hb dX12_four_16 rfl (lv_at hl 0 rfl) ?_
  refine lv_ishr hx hb dX12_four_17 ?_
  refine lv_topi (fun x45 ex45 => ?_)
  refine lv_i2b hx hb dX12_four_18 rfl ?_
  refine lv_topi (fun x46 ex46 => ?_)
  refine tk_bast hC hK hw hT kM_at1 (by decide) rfl rfl (show 0 ≤ x39.toInt by omega) (show x39.toInt < 400 by omega) dX12_four_19 (fun H locs w47 hw hT k49 => ?_)
  have hF := hF.put kM_at1 (inE_of (a := 0) (b := 400) (by decide) (show 0 ≤ x39.toInt.toNat by omega) (show x39.toInt.toNat ≤ 400 by omega)) k49
  have c50 := k49.gi (Or.inl (tk_ne kM_at0 kM_at1 (by decide))) c41
  refine lv_aload_n hx hb dX12_four_20 rfl (lv_at hl 1 rfl) ?_
  refine lv_dup hx hb dX12_four_21 rfl ?_
  refine tk_geti hC hK hw hT hinX12 kM_at0 (by decide) rfl 1 (by decide) (List.mem_of_getElem? (i := 2) rfl) rfl rfl dX12_four_22 (fun x51 c52 rx51 tx51 => ?_)
  refine wk_top x39 (c52.symm.trans c50) ?_
  refine lv_iconst (v := 1) hx hb dX12_four_25 (by decide) ?_
  refine lv_iadd hx hb dX12_four_26 ?_
  refine lv_topi (fun x53 ex53 => ?_)
  have ex53 : x53.toInt = x39.toInt + (1 : Int) := by rw [ex53]; exact wk_add (show (-2147483648) ≤ x39.toInt + (1 : Int) by omega) (show x39.toInt + (1 : Int) ≤ 2147483647 by omega)
  refine tk_puti hC hK hw hT hinX12 tyX12_ok nmX12 kM_at0 (by decide) rfl rfl 1 (by decide) (List.mem_of_getElem? (i := 2) rfl) rfl rfl rfl rfl (show 0 ≤ x53.toInt by omega) (show x53.toInt ≤ 400 by omega) dX12_four_27 (fun H locs w54 hw hT k56 c55 => ?_)
  have hF := hF.put kM_at0 (k := 1) (by decide) k56
  refine lv_iinc (v := (-8)) (lv' := [(2, .int (-8)), (0, .ref (ad 0)), (1, .int a1)]) hx hb dX12_four_30 hl (k := 0) rfl (by decide) (by decide) rfl (fun ls hl => ?_)
  refine lv_goto (tgt := 3) hx hb dX12_four_33 (by decide) ?_
  refine lv_iload_n hx hb dX12_four_3 rfl (lv_at hl 0 rfl) ?_
  refine lv_if_lt (tgt := 36) hx hb dX12_four_4 (by decide) (fun _ => ?_) (fun c => absurd (by decide) c)
  exact tk_vret hC hr hlocks hK ⟨hT, hF, ⟨x53, c55, (show 12 ≤ x53.toInt by omega), (show x53.toInt ≤ 392 by omega)⟩⟩ hw dX12_four_36
abbrev P_X12_feed_1 (ad : Nat → Nat) (cy : Nat → ClassId) (B : Int) (qr : Nat) (s1 : Int) (a1 : Int32) (a2 : Int32) (a3 : Int32) (a4 : Int32) (a5 : Int32) (w0 : va_W) : Int32 → va_W → Prop := fun r u => TW ksM ad cy B qr 12 u ∧ FE ksM [(12, 1, 1), (60, 0, 400)] w0 u ∧ ((20 ≤ r.toInt ∧ r.toInt ≤ 400 ∧ (∃ y : Int32, gi u 0 1 = y ∧ 20 ≤ y.toInt ∧ y.toInt ≤ 400)) ∨ (r = (-1) ∧ (∃ y : Int32, gi u 0 1 = y ∧ 381 ≤ y.toInt ∧ y.toInt ≤ 400)))
set_option maxHeartbeats 4000000 in
set_option maxRecDepth 100000 in
theorem k_X12_feed_1 (l : Launch) (adK adV : Nat → Nat) (dC : Nat → ClassId) (dI : Nat → Nat → Nat) (cy : Nat → ClassId) (ad : Nat → Nat) (B : Int) (hB0 : 100000 ≤ B) (hB1 : B ≤ 1073741824) (qr : Nat) (s1 : Int)  (a1 : Int32) (a2 : Int32) (a3 : Int32) (a4 : Int32) (a5 : Int32) (w0 : va_W) (sz : Nat) (hT : TW ksM ad cy B qr 12 w0)  : Met l yX12_feed wsX12_feed ({ frames := 2, cells := 0, slots := 0, locals := 34 }) (va_Pc [.ref (ad 0), .int a1, .int a2, .int a3, .int a4, .int a5] (wpreS adK adV dC dI cy sz w0)) (va_Qi (P_X12_feed_1 ad cy B qr s1 a1 a2 a3 a4 a5 w0) (fun u : va_W => wpost dC dI cy (va_A w0 sz) u) (va_A w0 sz)) 0 0 (va_A w0 sz) := by
  refine Met.ofW (cc := cX12_feed) (maxL := 6) (ret := (some .int)) (by decide) rfl ?_
  intro p e s m args below meth c s₁ Bk hml hv
  obtain ⟨rfl, ⟨hsz, hP, hK, hD0⟩, hE, hSR⟩ := hv
  have hx := Bk.exec
  have hb := Bk.bytes
  have hr := Bk.returns
  have hlocks := Bk.notSynchronized
  have hC : CallFix p m c cX12_feed 6 s _ wsX12_feed RX12 := ⟨hx, hb, hml, findClass_of_methodNamed Bk.named, atoms_spec (ws := wsX12_feed) Bk.pre⟩
  subst hsz
  have hD := hD0.self (sz := s.heap.size)
  generalize hAe : va_A w0 s.heap.size = A at hD hE ⊢
  have hA : ∀ q : Nat, s.heap.size ≤ q → A q := fun q h => by rw [← hAe]; exact Or.inr h
  have hw : Wd dC dI A s.heap s.heap [] w0 := ⟨hP, hD, va_S.rf⟩
  have hF : FE ksM [(12, 1, 1), (60, 0, 400)] w0 w0 := FE.rf
  have hl := lv_entry ([.ref (ad 0), .int a1, .int a2, .int a3, .int a4, .int a5]) (n := 6) (Nat.le_of_ble_eq_true rfl)
  rw [lg_entry_eq]
  generalize (lg_sl ([.ref (ad 0), .int a1, .int a2, .int a3, .int a4, .int a5]) ++ List.replicate (6 - (lg_sl ([.ref (ad 0), .int a1, .int a2, .int a3, .int a4, .int a5])).length) Slot.unset).toArray = ls at hl ⊢
  have hl : lv_has ls 6 [(0, .ref (ad 0)), (1, .int a1), (2, .int a2), (3, .int a3), (4, .int a4), (5, .int a5)] := hl
  generalize hloc : ([] : List Loc) = locs at hw ⊢
  have hinX12 : ∀ w ∈ u_ws RX12 TX12 42, w ∈ wsX12_feed := fun _ h => List.mem_cons_of_mem _ (List.mem_append_right _ (h))
  refine lv_aload_n hx hb dX12_feed_0 rfl (lv_at hl 0 rfl) ?_
  refine tk_geti hC hK hw hT hinX12 kM_at0 (by decide) rfl 1 (by decide) (List.mem_of_getElem? (i := 1) rfl) rfl rfl dX12_feed_1 (fun x1 c2 rx1 tx1 => ?_)
  refine lv_bipush (v := 20) hx hb dX12_feed_4 (by decide) ?_
  refine lv_iadd hx hb dX12_feed_6 ?_
  refine lv_topi (fun x3 ex3 => ?_)
  have ex3 : x3.toInt = x1.toInt + (20 : Int) := by rw [ex3]; exact wk_add (show (-2147483648) ≤ x1.toInt + (20 : Int) by omega) (show x1.toInt + (20 : Int) ≤ 2147483647 by omega)
  refine lv_sipush (v := 400) hx hb dX12_feed_7 (by decide) ?_
  refine lv_icmp_le (tgt := 15) hx hb dX12_feed_10 (by decide) (fun c4 => ?_) (fun c4 => ?_)
  · have c4 : x3.toInt ≤ (400 : Int) := wk_le.mp c4
    refine lv_aload_n hx hb dX12_feed_15 rfl (lv_at hl 0 rfl) ?_
    refine lv_iload_n hx hb dX12_feed_16 rfl (lv_at hl 1 rfl) ?_
    refine tk_Vv hC hK hw hT hA hE hSR kM_at0 (by decide) rfl (k_X12_four_1 l adK adV dC dI cy ad B (by omega) (by omega) qr s1   a1 w0 s.heap.size hT x1 c2 (show 0 ≤ x1.toInt by omega) (show x1.toInt ≤ 380 by omega)) (cwV 1 hC.2.2.2.2 gX12_feed_X12_four rfl rfl rfl (by decide +kernel) ⟨Nat.le_of_ble_eq_true rfl, Nat.le_of_ble_eq_true rfl⟩) rfl hl.1 rfl (Nat.le_of_ble_eq_true rfl) dX12_feed_17 (fun w7 H locs hp6 hw => ?_)
    obtain ⟨hT, k8, hg11⟩ := hp6
    have hF := hF.tr k8 (by decide)
    obtain ⟨x9, c10, rx9, tx9⟩ := hg11
    refine lv_aload_n hx hb dX12_feed_20 rfl (lv_at hl 0 rfl) ?_
    refine lv_iload_n hx hb dX12_feed_21 rfl (lv_at hl 2 rfl) ?_
    refine tk_Vv hC hK hw hT hA hE hSR kM_at0 (by decide) rfl (k_X12_four_4 l adK adV dC dI cy ad B (by omega) (by omega) qr s1   a2 w7 H.size hT x9 c10 (show 4 ≤ x9.toInt by omega) (show x9.toInt ≤ 384 by omega)) (cwV 1 hC.2.2.2.2 gX12_feed_X12_four rfl rfl rfl (by decide +kernel) ⟨Nat.le_of_ble_eq_true rfl, Nat.le_of_ble_eq_true rfl⟩) rfl hl.1 rfl (Nat.le_of_ble_eq_true rfl) dX12_feed_22 (fun w14 H locs hp13 hw => ?_)
    obtain ⟨hT, k15, hg18⟩ := hp13
    have hF := hF.tr k15 (by decide)
    obtain ⟨x16, c17, rx16, tx16⟩ := hg18
    refine lv_aload_n hx hb dX12_feed_25 rfl (lv_at hl 0 rfl) ?_
    refine lv_iload_n hx hb dX12_feed_26 rfl (lv_at hl 3 rfl) ?_
    refine tk_Vv hC hK hw hT hA hE hSR kM_at0 (by decide) rfl (k_X12_four_5 l adK adV dC dI cy ad B (by omega) (by omega) qr s1   a3 w14 H.size hT x16 c17 (show 8 ≤ x16.toInt by omega) (show x16.toInt ≤ 388 by omega)) (cwV 1 hC.2.2.2.2 gX12_feed_X12_four rfl rfl rfl (by decide +kernel) ⟨Nat.le_of_ble_eq_true rfl, Nat.le_of_ble_eq_true rfl⟩) rfl hl.1 rfl (Nat.le_of_ble_eq_true rfl) dX12_feed_27 (fun w21 H locs hp20 hw => ?_)
    obtain ⟨hT, k22, hg25⟩ := hp20
    have hF := hF.tr k22 (by decide)
    obtain ⟨x23, c24, rx23, tx23⟩ := hg25
    refine lv_aload_n hx hb dX12_feed_30 rfl (lv_at hl 0 rfl) ?_
    refine lv_iload hx hb dX12_feed_31 (lv_at hl 4 rfl) ?_
    refine tk_Vv hC hK hw hT hA hE hSR kM_at0 (by decide) rfl (k_X12_four_2 l adK adV dC dI cy ad B (by omega) (by omega) qr s1   a4 w21 H.size hT x23 c24 (show 12 ≤ x23.toInt by omega) (show x23.toInt ≤ 392 by omega)) (cwV 1 hC.2.2.2.2 gX12_feed_X12_four rfl rfl rfl (by decide +kernel) ⟨Nat.le_of_ble_eq_true rfl, Nat.le_of_ble_eq_true rfl⟩) rfl hl.1 rfl (Nat.le_of_ble_eq_true rfl) dX12_feed_33 (fun w28 H locs hp27 hw => ?_)
    obtain ⟨hT, k29, hg32⟩ := hp27
    have hF := hF.tr k29 (by decide)
    obtain ⟨x30, c31, rx30, tx30⟩ := hg32
    refine lv_aload_n hx hb dX12_feed_36 rfl (lv_at hl 0 rfl) ?_
    refine lv_iload hx hb dX12_feed_37 (lv_at hl 5 rfl) ?_
    refine tk_Vv hC hK hw hT hA hE hSR kM_at0 (by decide) rfl (k_X12_four_3 l adK adV dC dI cy ad B (by omega) (by omega) qr s1   a5 w28 H.size hT x30 c31 (show 16 ≤ x30.toInt by omega) (show x30.toInt ≤ 396 by omega)) (cwV 1 hC.2.2.2.2 gX12_feed_X12_four rfl rfl rfl (by decide +kernel) ⟨Nat.le_of_ble_eq_true rfl, Nat.le_of_ble_eq_true rfl⟩) rfl hl.1 rfl (Nat.le_of_ble_eq_true rfl) dX12_feed_39 (fun w35 H locs hp34 hw => ?_)
    obtain ⟨hT, k36, hg39⟩ := hp34
    have hF := hF.tr k36 (by decide)
    obtain ⟨x37, c38, rx37, tx37⟩ := hg39
    refine lv_aload_n hx hb dX12_feed_42 rfl (lv_at hl 0 rfl) ?_
    refine tk_geti hC hK hw hT hinX12 kM_at0 (by decide) rfl 1 (by decide) (List.mem_of_getElem? (i := 1) rfl) rfl rfl dX12_feed_43 (fun x40 c41 rx40 tx40 => ?_)
    refine wk_top x37 (c41.symm.trans c38) ?_
    exact tk_iret hC hr hlocks hK ⟨hT, hF, (Or.inl ⟨(show 20 ≤ x37.toInt by omega), (show x37.toInt ≤ 400 by omega), ⟨x37, c38, (show 20 ≤ x37.toInt by omega), (show x37.toInt ≤ 400 by omega)⟩⟩)⟩ hw dX12_feed_46
  · have c4 : (400 : Int) < x3.toInt := wk_leF c4
    refine lv_iconst (v := (-1)) hx hb dX12_feed_13 (by decide) ?_
    exact tk_iret hC hr hlocks hK ⟨hT, hF, (Or.inr ⟨rfl, ⟨x1, c2, (show 381 ≤ x1.toInt by omega), (show x1.toInt ≤ 400 by omega)⟩⟩)⟩ hw dX12_feed_14
abbrev P_X12_end_1 (ad : Nat → Nat) (cy : Nat → ClassId) (B : Int) (qr : Nat) (s1 : Int) (a1 : Int32) (w0 : va_W) : Int32 → va_W → Prop := fun r u => TW ksM ad cy B qr 12 u ∧ FE ksM [(12, 1, 1)] w0 u ∧ ((0 ≤ r.toInt ∧ r.toInt ≤ 400 ∧ 0 ≤ a1.toInt ∧ a1.toInt ≤ 400 ∧ (∃ y : Int32, gi u 0 1 = y ∧ 0 ≤ y.toInt ∧ y.toInt ≤ 400)) ∨ (r = (-1)))
set_option maxHeartbeats 4000000 in
set_option maxRecDepth 100000 in
theorem k_X12_end_1 (l : Launch) (adK adV : Nat → Nat) (dC : Nat → ClassId) (dI : Nat → Nat → Nat) (cy : Nat → ClassId) (ad : Nat → Nat) (B : Int) (hB0 : 100000 ≤ B) (hB1 : B ≤ 1073741824) (qr : Nat) (s1 : Int)  (a1 : Int32) (w0 : va_W) (sz : Nat) (hT : TW ksM ad cy B qr 12 w0)  : Met l yX12_end wsX12_end ({ frames := 1, cells := 0, slots := 0, locals := 12 }) (va_Pc [.ref (ad 0), .int a1] (wpreS adK adV dC dI cy sz w0)) (va_Qi (P_X12_end_1 ad cy B qr s1 a1 w0) (fun u : va_W => wpost dC dI cy (va_A w0 sz) u) (va_A w0 sz)) 0 0 (va_A w0 sz) := by
  refine Met.ofW (cc := cX12_end) (maxL := 2) (ret := (some .int)) (by decide) rfl ?_
  intro p e s m args below meth c s₁ Bk hml hv
  obtain ⟨rfl, ⟨hsz, hP, hK, hD0⟩, hE, hSR⟩ := hv
  have hx := Bk.exec
  have hb := Bk.bytes
  have hr := Bk.returns
  have hlocks := Bk.notSynchronized
  have hC : CallFix p m c cX12_end 2 s _ wsX12_end RX12 := ⟨hx, hb, hml, findClass_of_methodNamed Bk.named, atoms_spec (ws := wsX12_end) Bk.pre⟩
  subst hsz
  have hD := hD0.self (sz := s.heap.size)
  generalize hAe : va_A w0 s.heap.size = A at hD hE ⊢
  have hA : ∀ q : Nat, s.heap.size ≤ q → A q := fun q h => by rw [← hAe]; exact Or.inr h
  have hw : Wd dC dI A s.heap s.heap [] w0 := ⟨hP, hD, va_S.rf⟩
  have hF : FE ksM [(12, 1, 1)] w0 w0 := FE.rf
  have hl := lv_entry ([.ref (ad 0), .int a1]) (n := 2) (Nat.le_of_ble_eq_true rfl)
  rw [lg_entry_eq]
  generalize (lg_sl ([.ref (ad 0), .int a1]) ++ List.replicate (2 - (lg_sl ([.ref (ad 0), .int a1])).length) Slot.unset).toArray = ls at hl ⊢
  have hl : lv_has ls 2 [(0, .ref (ad 0)), (1, .int a1)] := hl
  generalize hloc : ([] : List Loc) = locs at hw ⊢
  have hinX12 : ∀ w ∈ u_ws RX12 TX12 42, w ∈ wsX12_end := fun _ h => List.mem_cons_of_mem _ (List.mem_append_right _ (h))
  have J12 : ∀ (H : Heap) (locs : List Loc) (ls : Array Slot) (w1 : va_W), Wd dC dI A s.heap H locs w1 → TW ksM ad cy B qr 12 w1 → FE ksM [(12, 1, 1)] w0 w1 → lv_has ls 2 [(0, .ref (ad 0)), (1, .int a1)] → W p l e ({ frames := 1, cells := 0, slots := 0, locals := 12 }) s m (List.toArray [.ref (ad 0), .int a1]) below meth c H locs 0 0 (MQ below (va_Qi (P_X12_end_1 ad cy B qr s1 a1 w0) (fun u : va_W => wpost dC dI cy A u) A) (List.toArray [.ref (ad 0), .int a1]) s 0 0 A) (F0 m 12 ls []) := by
    intro H locs ls w1 hw hT hF hl
    refine lv_iconst (v := (-1)) hx hb dX12_end_12 (by decide) ?_
    exact tk_iret hC hr hlocks hK ⟨hT, hF, (Or.inr rfl)⟩ hw dX12_end_13
  refine lv_iload_n hx hb dX12_end_0 rfl (lv_at hl 1 rfl) ?_
  refine lv_if_lt (tgt := 12) hx hb dX12_end_1 (by decide) (fun c2 => ?_) (fun c2 => ?_)
  · have c2 : a1.toInt < (0 : Int) := wk_lt.mp c2
    exact J12  s.heap locs ls w0   hw hT hF  (lv_sub hl [0, 1] rfl)
  · have c2 : (0 : Int) ≤ a1.toInt := wk_ltF c2
    refine lv_iload_n hx hb dX12_end_4 rfl (lv_at hl 1 rfl) ?_
    refine lv_aload_n hx hb dX12_end_5 rfl (lv_at hl 0 rfl) ?_
    refine tk_geti hC hK hw hT hinX12 kM_at0 (by decide) rfl 1 (by decide) (List.mem_of_getElem? (i := 1) rfl) rfl rfl dX12_end_6 (fun x3 c4 rx3 tx3 => ?_)
    refine lv_icmp_le (tgt := 14) hx hb dX12_end_9 (by decide) (fun c5 => ?_) (fun c5 => ?_)
    · have c5 : a1.toInt ≤ x3.toInt := wk_le.mp c5
      refine lv_aload_n hx hb dX12_end_14 rfl (lv_at hl 0 rfl) ?_
      refine lv_iload_n hx hb dX12_end_15 rfl (lv_at hl 1 rfl) ?_
      refine tk_puti hC hK hw hT hinX12 tyX12_ok nmX12 kM_at0 (by decide) rfl rfl 1 (by decide) (List.mem_of_getElem? (i := 1) rfl) rfl rfl rfl rfl (show 0 ≤ a1.toInt by omega) (show a1.toInt ≤ 400 by omega) dX12_end_16 (fun H locs w6 hw hT k8 c7 => ?_)
      have hF := hF.put kM_at0 (k := 1) (by decide) k8
      refine lv_iload_n hx hb dX12_end_19 rfl (lv_at hl 1 rfl) ?_
      exact tk_iret hC hr hlocks hK ⟨hT, hF, (Or.inl ⟨(show 0 ≤ a1.toInt by omega), (show a1.toInt ≤ 400 by omega), (show 0 ≤ a1.toInt by omega), (show a1.toInt ≤ 400 by omega), ⟨a1, c7, (show 0 ≤ a1.toInt by omega), (show a1.toInt ≤ 400 by omega)⟩⟩)⟩ hw dX12_end_20
    · have c5 : x3.toInt < a1.toInt := wk_leF c5
      exact J12  s.heap locs ls w0   hw hT hF  (lv_sub hl [0, 1] rfl)
abbrev P_X12_fails_1 (ad : Nat → Nat) (cy : Nat → ClassId) (B : Int) (qr : Nat) (s1 : Int) (a1 : Int32) (a2 : Int32) (w0 : va_W) : Int32 → va_W → Prop := fun r u => TW ksM ad cy B qr 12 u ∧ FE ksM [(12, 15, 15)] w0 u ∧ ((r = 0 ∧ (∃ y : Int32, gi u 0 15 = y ∧ 1 ≤ y.toInt ∧ y.toInt ≤ 3205)))
set_option maxHeartbeats 4000000 in
set_option maxRecDepth 100000 in
theorem k_X12_fails_1 (l : Launch) (adK adV : Nat → Nat) (dC : Nat → ClassId) (dI : Nat → Nat → Nat) (cy : Nat → ClassId) (ad : Nat → Nat) (B : Int) (hB0 : 100000 ≤ B) (hB1 : B ≤ 1073741824) (qr : Nat) (s1 : Int)  (a1 : Int32) (ra1 : 0 ≤ a1.toInt) (ta1 : a1.toInt ≤ 4) (a2 : Int32) (ra2 : 0 ≤ a2.toInt) (ta2 : a2.toInt ≤ 400) (w0 : va_W) (sz : Nat) (hT : TW ksM ad cy B qr 12 w0)  : Met l yX12_fails wsX12_fails ({ frames := 1, cells := 0, slots := 0, locals := 12 }) (va_Pc [.ref (ad 0), .int a1, .int a2] (wpreS adK adV dC dI cy sz w0)) (va_Qi (P_X12_fails_1 ad cy B qr s1 a1 a2 w0) (fun u : va_W => wpost dC dI cy (va_A w0 sz) u) (va_A w0 sz)) 0 0 (va_A w0 sz) := by
  refine Met.ofW (cc := cX12_fails) (maxL := 3) (ret := (some .boolean)) (by decide) rfl ?_
  intro p e s m args below meth c s₁ Bk hml hv
  obtain ⟨rfl, ⟨hsz, hP, hK, hD0⟩, hE, hSR⟩ := hv
  have hx := Bk.exec
  have hb := Bk.bytes
  have hr := Bk.returns
  have hlocks := Bk.notSynchronized
  have hC : CallFix p m c cX12_fails 3 s _ wsX12_fails RX12 := ⟨hx, hb, hml, findClass_of_methodNamed Bk.named, atoms_spec (ws := wsX12_fails) Bk.pre⟩
  subst hsz
  have hD := hD0.self (sz := s.heap.size)
  generalize hAe : va_A w0 s.heap.size = A at hD hE ⊢
  have hA : ∀ q : Nat, s.heap.size ≤ q → A q := fun q h => by rw [← hAe]; exact Or.inr h
  have hw : Wd dC dI A s.heap s.heap [] w0 := ⟨hP, hD, va_S.rf⟩
  have hF : FE ksM [(12, 15, 15)] w0 w0 := FE.rf
  have hl := lv_entry ([.ref (ad 0), .int a1, .int a2]) (n := 3) (Nat.le_of_ble_eq_true rfl)
  rw [lg_entry_eq]
  generalize (lg_sl ([.ref (ad 0), .int a1, .int a2]) ++ List.replicate (3 - (lg_sl ([.ref (ad 0), .int a1, .int a2])).length) Slot.unset).toArray = ls at hl ⊢
  have hl : lv_has ls 3 [(0, .ref (ad 0)), (1, .int a1), (2, .int a2)] := hl
  generalize hloc : ([] : List Loc) = locs at hw ⊢
  have hinX12 : ∀ w ∈ u_ws RX12 TX12 42, w ∈ wsX12_fails := fun _ h => List.mem_cons_of_mem _ (List.mem_append_right _ (h))
  have J19 : ∀ (f19_0_15 : Int32) (H : Heap) (locs : List Loc) (ls : Array Slot) (w1 : va_W), 0 ≤ a1.toInt → a1.toInt ≤ 4 → 0 ≤ a2.toInt → a2.toInt ≤ 400 → 1 ≤ f19_0_15.toInt → f19_0_15.toInt ≤ 3205 → Wd dC dI A s.heap H locs w1 → TW ksM ad cy B qr 12 w1 → FE ksM [(12, 15, 15)] w0 w1 → gi w1 0 15 = f19_0_15 → lv_has ls 3 [(0, .ref (ad 0)), (1, .int a1), (2, .int a2)] → W p l e ({ frames := 1, cells := 0, slots := 0, locals := 12 }) s m (List.toArray [.ref (ad 0), .int a1, .int a2]) below meth c H locs 0 0 (MQ below (va_Qi (P_X12_fails_1 ad cy B qr s1 a1 a2 w0) (fun u : va_W => wpost dC dI cy A u) A) (List.toArray [.ref (ad 0), .int a1, .int a2]) s 0 0 A) (F0 m 19 ls []) := by
    intro f19_0_15 H locs ls w1 r2 t3 r4 t5 r6 t7 hw hT hF c8 hl
    refine lv_iconst (v := 0) hx hb dX12_fails_19 (by decide) ?_
    exact tk_zret hC hr rfl hlocks hK ⟨hT, hF, ⟨rfl, ⟨f19_0_15, c8, (show 1 ≤ f19_0_15.toInt by omega), (show f19_0_15.toInt ≤ 3205 by omega)⟩⟩⟩ hw dX12_fails_20
  refine lv_aload_n hx hb dX12_fails_0 rfl (lv_at hl 0 rfl) ?_
  refine tk_geti hC hK hw hT hinX12 kM_at0 (by decide) rfl 15 (by decide) (List.mem_of_getElem? (i := 1) rfl) rfl rfl dX12_fails_1 (fun x9 c10 rx9 tx9 => ?_)
  refine lv_if_ne (tgt := 19) hx hb dX12_fails_4 (by decide) (fun c11 => ?_) (fun c11 => ?_)
  · have c11 : ¬ x9.toInt = (0 : Int) := wk_eqF c11
    exact J19 x9 s.heap locs ls w0 (show 0 ≤ a1.toInt by omega) (show a1.toInt ≤ 4 by omega) (show 0 ≤ a2.toInt by omega) (show a2.toInt ≤ 400 by omega) (show 1 ≤ x9.toInt by omega) (show x9.toInt ≤ 3205 by omega)  hw hT hF c10 (lv_sub hl [0, 1, 2] rfl)
  · have c11 : x9.toInt = (0 : Int) := wk_eq.mp c11
    refine lv_aload_n hx hb dX12_fails_7 rfl (lv_at hl 0 rfl) ?_
    refine lv_iconst (v := 1) hx hb dX12_fails_8 (by decide) ?_
    refine lv_bipush (v := 8) hx hb dX12_fails_9 (by decide) ?_
    refine lv_iload_n hx hb dX12_fails_11 rfl (lv_at hl 2 rfl) ?_
    refine lv_imul hx hb dX12_fails_12 ?_
    refine lv_topi (fun x12 ex12 => ?_)
    have ex12 : x12.toInt = (8 : Int) * a2.toInt := by rw [ex12]; exact wk_mul (show (-2147483648) ≤ (8 : Int) * a2.toInt by omega) (show (8 : Int) * a2.toInt ≤ 2147483647 by omega)
    refine lv_iadd hx hb dX12_fails_13 ?_
    refine lv_topi (fun x13 ex13 => ?_)
    have ex13 : x13.toInt = (1 : Int) + x12.toInt := by rw [ex13]; exact wk_add (show (-2147483648) ≤ (1 : Int) + x12.toInt by omega) (show (1 : Int) + x12.toInt ≤ 2147483647 by omega)
    refine lv_iload_n hx hb dX12_fails_14 rfl (lv_at hl 1 rfl) ?_
    refine lv_iadd hx hb dX12_fails_15 ?_
    refine lv_topi (fun x14 ex14 => ?_)
    have ex14 : x14.toInt = x13.toInt + a1.toInt := by rw [ex14]; exact wk_add (show (-2147483648) ≤ x13.toInt + a1.toInt by omega) (show x13.toInt + a1.toInt ≤ 2147483647 by omega)
    refine tk_puti hC hK hw hT hinX12 tyX12_ok nmX12 kM_at0 (by decide) rfl rfl 15 (by decide) (List.mem_of_getElem? (i := 1) rfl) rfl rfl rfl rfl (show 0 ≤ x14.toInt by omega) (show x14.toInt ≤ 3205 by omega) dX12_fails_16 (fun H locs w15 hw hT k17 c16 => ?_)
    have hF := hF.put kM_at0 (k := 15) (by decide) k17
    exact J19 x14 H locs ls w15 (show 0 ≤ a1.toInt by omega) (show a1.toInt ≤ 4 by omega) (show 0 ≤ a2.toInt by omega) (show a2.toInt ≤ 400 by omega) (show 1 ≤ x14.toInt by omega) (show x14.toInt ≤ 3205 by omega)  hw hT hF c16 (lv_sub hl [0, 1, 2] rfl)
abbrev P_X12_isLetter_1 (ad : Nat → Nat) (cy : Nat → ClassId) (B : Int) (qr : Nat) (s1 : Int) (a1 : Int32) (w0 : va_W) : Int32 → va_W → Prop := fun r u => w0 = u ∧ ((r = 0 ∧ (∃ y : Int32, gi u 0 1 = y ∧ 0 ≤ y.toInt ∧ y.toInt ≤ 400)) ∨ (r = 1 ∧ a1.toInt ≤ 399 ∧ (∃ y : Int32, gi u 0 1 = y ∧ 1 ≤ y.toInt ∧ y.toInt ≤ 400)))
set_option maxHeartbeats 4000000 in
set_option maxRecDepth 100000 in
theorem k_X12_isLetter_1 (l : Launch) (adK adV : Nat → Nat) (dC : Nat → ClassId) (dI : Nat → Nat → Nat) (cy : Nat → ClassId) (ad : Nat → Nat) (B : Int) (hB0 : 100000 ≤ B) (hB1 : B ≤ 1073741824) (qr : Nat) (s1 : Int)  (a1 : Int32) (ra1 : 0 ≤ a1.toInt) (ta1 : a1.toInt ≤ 800) (w0 : va_W) (sz : Nat) (hT : TW ksM ad cy B qr 12 w0)  : Met l yX12_isLetter wsX12_isLetter ({ frames := 1, cells := 0, slots := 0, locals := 12 }) (va_Pc [.ref (ad 0), .int a1] (wpreS adK adV dC dI cy sz w0)) (va_Qi (P_X12_isLetter_1 ad cy B qr s1 a1 w0) (fun u : va_W => wpost dC dI cy (va_A w0 sz) u) (va_A w0 sz)) 0 0 (va_A w0 sz) := by
  refine Met.ofW (cc := cX12_isLetter) (maxL := 2) (ret := (some .boolean)) (by decide) rfl ?_
  intro p e s m args below meth c s₁ Bk hml hv
  obtain ⟨rfl, ⟨hsz, hP, hK, hD0⟩, hE, hSR⟩ := hv
  have hx := Bk.exec
  have hb := Bk.bytes
  have hr := Bk.returns
  have hlocks := Bk.notSynchronized
  have hC : CallFix p m c cX12_isLetter 2 s _ wsX12_isLetter RX12 := ⟨hx, hb, hml, findClass_of_methodNamed Bk.named, atoms_spec (ws := wsX12_isLetter) Bk.pre⟩
  subst hsz
  have hD := hD0.self (sz := s.heap.size)
  generalize hAe : va_A w0 s.heap.size = A at hD hE ⊢
  have hA : ∀ q : Nat, s.heap.size ≤ q → A q := fun q h => by rw [← hAe]; exact Or.inr h
  have hw : Wd dC dI A s.heap s.heap [] w0 := ⟨hP, hD, va_S.rf⟩
  have hF : FE ksM ([] : List (Nat × Nat × Nat)) w0 w0 := FE.rf
  have hl := lv_entry ([.ref (ad 0), .int a1]) (n := 2) (Nat.le_of_ble_eq_true rfl)
  rw [lg_entry_eq]
  generalize (lg_sl ([.ref (ad 0), .int a1]) ++ List.replicate (2 - (lg_sl ([.ref (ad 0), .int a1])).length) Slot.unset).toArray = ls at hl ⊢
  have hl : lv_has ls 2 [(0, .ref (ad 0)), (1, .int a1)] := hl
  generalize hloc : ([] : List Loc) = locs at hw ⊢
  have hinX12 : ∀ w ∈ u_ws RX12 TX12 42, w ∈ wsX12_isLetter := fun _ h => List.mem_cons_of_mem _ (List.mem_append_right _ (h))
  have J34 : ∀ (f34_0_1 : Int32) (H : Heap) (locs : List Loc) (ls : Array Slot), 0 ≤ a1.toInt → a1.toInt ≤ 800 → 0 ≤ f34_0_1.toInt → f34_0_1.toInt ≤ 400 → Wd dC dI A s.heap H locs w0 → gi w0 0 1 = f34_0_1 → lv_has ls 2 [(0, .ref (ad 0)), (1, .int a1)] → W p l e ({ frames := 1, cells := 0, slots := 0, locals := 12 }) s m (List.toArray [.ref (ad 0), .int a1]) below meth c H locs 0 0 (MQ below (va_Qi (P_X12_isLetter_1 ad cy B qr s1 a1 w0) (fun u : va_W => wpost dC dI cy A u) A) (List.toArray [.ref (ad 0), .int a1]) s 0 0 A) (F0 m 34 ls []) := by
    intro f34_0_1 H locs ls r1 t2 r3 t4 hw c5 hl
    refine lv_iconst (v := 0) hx hb dX12_isLetter_34 (by decide) ?_
    exact tk_zret hC hr rfl hlocks hK ⟨rfl, (Or.inl ⟨rfl, ⟨f34_0_1, c5, (show 0 ≤ f34_0_1.toInt by omega), (show f34_0_1.toInt ≤ 400 by omega)⟩⟩)⟩ hw dX12_isLetter_35
  refine lv_iload_n hx hb dX12_isLetter_0 rfl (lv_at hl 1 rfl) ?_
  refine lv_aload_n hx hb dX12_isLetter_1 rfl (lv_at hl 0 rfl) ?_
  refine tk_geti hC hK hw hT hinX12 kM_at0 (by decide) rfl 1 (by decide) (List.mem_of_getElem? (i := 1) rfl) rfl rfl dX12_isLetter_2 (fun x6 c7 rx6 tx6 => ?_)
  refine lv_icmp_ge (tgt := 34) hx hb dX12_isLetter_5 (by decide) (fun c8 => ?_) (fun c8 => ?_)
  · have c8 : x6.toInt ≤ a1.toInt := wk_le.mp c8
    exact J34 x6 s.heap locs ls  (show 0 ≤ a1.toInt by omega) (show a1.toInt ≤ 800 by omega) (show 0 ≤ x6.toInt by omega) (show x6.toInt ≤ 400 by omega)  hw  c7 (lv_sub hl [0, 1] rfl)
  · have c8 : a1.toInt < x6.toInt := wk_leF c8
    refine lv_aload_n hx hb dX12_isLetter_8 rfl (lv_at hl 0 rfl) ?_
    refine tk_getA hC hK hw hT hinX12 kM_at0 (by decide) rfl 0 (by decide) (List.mem_of_getElem? (i := 2) rfl) rfl rfl dX12_isLetter_9 ?_
    refine lv_iload_n hx hb dX12_isLetter_12 rfl (lv_at hl 1 rfl) ?_
    refine tk_bald hC hK hw hT kM_at1 rfl rfl (show 0 ≤ a1.toInt by omega) (show a1.toInt < 400 by omega) dX12_isLetter_13 (fun x9 c10 rx9 tx9 => ?_)
    have c10 : gi w0 1 (a1.toInt).toNat = x9 := (congrArg (gi w0 1) (congrArg Int.toNat (show a1.toInt = a1.toInt by omega))).trans c10
    refine lv_bipush (v := 97) hx hb dX12_isLetter_14 (by decide) ?_
    refine lv_icmp_lt (tgt := 34) hx hb dX12_isLetter_16 (by decide) (fun c11 => ?_) (fun c11 => ?_)
    · have c11 : x9.toInt < (97 : Int) := wk_lt.mp c11
      exact J34 x6 s.heap locs ls  (show 0 ≤ a1.toInt by omega) (show a1.toInt ≤ 800 by omega) (show 0 ≤ x6.toInt by omega) (show x6.toInt ≤ 400 by omega)  hw  c7 (lv_sub hl [0, 1] rfl)
    · have c11 : (97 : Int) ≤ x9.toInt := wk_ltF c11
      refine lv_aload_n hx hb dX12_isLetter_19 rfl (lv_at hl 0 rfl) ?_
      refine tk_getA hC hK hw hT hinX12 kM_at0 (by decide) rfl 0 (by decide) (List.mem_of_getElem? (i := 2) rfl) rfl rfl dX12_isLetter_20 ?_
      refine lv_iload_n hx hb dX12_isLetter_23 rfl (lv_at hl 1 rfl) ?_
      refine tk_bald hC hK hw hT kM_at1 rfl rfl (show 0 ≤ a1.toInt by omega) (show a1.toInt < 400 by omega) dX12_isLetter_24 (fun x12 c13 rx12 tx12 => ?_)
      have c13 : gi w0 1 (a1.toInt).toNat = x12 := (congrArg (gi w0 1) (congrArg Int.toNat (show a1.toInt = a1.toInt by omega))).trans c13
      refine wk_top x9 (c13.symm.trans c10) ?_
      refine lv_bipush (v := 122) hx hb dX12_isLetter_25 (by decide) ?_
      refine lv_icmp_gt (tgt := 34) hx hb dX12_isLetter_27 (by decide) (fun c14 => ?_) (fun c14 => ?_)
      · have c14 : (122 : Int) < x9.toInt := wk_lt.mp c14
        exact J34 x6 s.heap locs ls  (show 0 ≤ a1.toInt by omega) (show a1.toInt ≤ 800 by omega) (show 0 ≤ x6.toInt by omega) (show x6.toInt ≤ 400 by omega)  hw  c7 (lv_sub hl [0, 1] rfl)
      · have c14 : x9.toInt ≤ (122 : Int) := wk_ltF c14
        refine lv_iconst (v := 1) hx hb dX12_isLetter_30 (by decide) ?_
        refine lv_goto (tgt := 35) hx hb dX12_isLetter_31 (by decide) ?_
        exact tk_zret hC hr rfl hlocks hK ⟨rfl, (Or.inr ⟨rfl, (show a1.toInt ≤ 399 by omega), ⟨x6, c7, (show 1 ≤ x6.toInt by omega), (show x6.toInt ≤ 400 by omega)⟩⟩)⟩ hw dX12_isLetter_35
abbrev P_X12_see_1 (ad : Nat → Nat) (cy : Nat → ClassId) (B : Int) (qr : Nat) (s1 : Int)  (w0 : va_W) : Int32 → va_W → Prop := fun r u => TW ksM ad cy B qr 12 u ∧ FE ksM [(12, 14, 14)] w0 u ∧ ((0 ≤ r.toInt ∧ r.toInt ≤ 255 ∧ (∃ y : Int32, gi u 0 1 = y ∧ 1 ≤ y.toInt ∧ y.toInt ≤ 400) ∧ (∃ y : Int32, gi u 0 14 = y ∧ 0 ≤ y.toInt ∧ y.toInt ≤ 399) ∧ ((gi u 1 ((gi u 0 14).toInt).toNat).toInt ≠ 32) ∧ (((gi u 0 14).toInt = (gi w0 0 14).toInt ∨ (gi w0 1 ((gi w0 0 14).toInt).toNat).toInt = 32))) ∨ (r = (-1) ∧ (∃ y : Int32, gi u 0 1 = y ∧ 1 ≤ y.toInt ∧ y.toInt ≤ 399) ∧ (∃ y : Int32, gi u 0 14 = y ∧ 1 ≤ y.toInt ∧ y.toInt ≤ 399) ∧ (((gi u 0 14).toInt = (gi w0 0 14).toInt ∨ (gi w0 1 ((gi w0 0 14).toInt).toNat).toInt = 32))) ∨ (r = (-1) ∧ (∃ y : Int32, gi u 0 1 = y ∧ 0 ≤ y.toInt ∧ y.toInt ≤ 400) ∧ (((gi u 0 14).toInt = (gi w0 0 14).toInt ∨ (gi w0 1 ((gi w0 0 14).toInt).toNat).toInt = 32))))
set_option maxHeartbeats 4000000 in
set_option maxRecDepth 100000 in
theorem k_X12_see_1 (l : Launch) (adK adV : Nat → Nat) (dC : Nat → ClassId) (dI : Nat → Nat → Nat) (cy : Nat → ClassId) (ad : Nat → Nat) (B : Int) (hB0 : 100000 ≤ B) (hB1 : B ≤ 1073741824) (qr : Nat) (s1 : Int)   (w0 : va_W) (sz : Nat) (hT : TW ksM ad cy B qr 12 w0) (f0_ : Int32) (cf0_ : gi w0 0 14 = f0_) (rf0_ : 0 ≤ f0_.toInt) (tf0_ : f0_.toInt ≤ 400) : Met l yX12_see wsX12_see ({ frames := 1, cells := 0, slots := 0, locals := 12 }) (va_Pc [.ref (ad 0)] (wpreS adK adV dC dI cy sz w0)) (va_Qi (P_X12_see_1 ad cy B qr s1  w0) (fun u : va_W => wpost dC dI cy (va_A w0 sz) u) (va_A w0 sz)) 0 0 (va_A w0 sz) := by
  refine Met.ofW (cc := cX12_see) (maxL := 1) (ret := (some .int)) (by decide) rfl ?_
  intro p e s m args below meth c s₁ Bk hml hv
  obtain ⟨rfl, ⟨hsz, hP, hK, hD0⟩, hE, hSR⟩ := hv
  have hx := Bk.exec
  have hb := Bk.bytes
  have hr := Bk.returns
  have hlocks := Bk.notSynchronized
  have hC : CallFix p m c cX12_see 1 s _ wsX12_see RX12 := ⟨hx, hb, hml, findClass_of_methodNamed Bk.named, atoms_spec (ws := wsX12_see) Bk.pre⟩
  subst hsz
  have hD := hD0.self (sz := s.heap.size)
  generalize hAe : va_A w0 s.heap.size = A at hD hE ⊢
  have hA : ∀ q : Nat, s.heap.size ≤ q → A q := fun q h => by rw [← hAe]; exact Or.inr h
  have hw : Wd dC dI A s.heap s.heap [] w0 := ⟨hP, hD, va_S.rf⟩
  have hF : FE ksM [(12, 14, 14)] w0 w0 := FE.rf
  have hl := lv_entry ([.ref (ad 0)]) (n := 1) (Nat.le_of_ble_eq_true rfl)
  rw [lg_entry_eq]
  generalize (lg_sl ([.ref (ad 0)]) ++ List.replicate (1 - (lg_sl ([.ref (ad 0)])).length) Slot.unset).toArray = ls at hl ⊢
  have hl : lv_has ls 1 [(0, .ref (ad 0))] := hl
  generalize hloc : ([] : List Loc) = locs at hw ⊢
  have hinX12 : ∀ w ∈ u_ws RX12 TX12 42, w ∈ wsX12_see := fun _ h => List.mem_cons_of_mem _ (List.mem_append_right _ (h))
  have L0 : ∀ (n0 : Nat) (f0_0_14 : Int32) (H : Heap) (locs : List Loc) (ls : Array Slot) (w1 : va_W), 0 ≤ f0_0_14.toInt → f0_0_14.toInt ≤ 400 → ((f0_0_14.toInt = f0_.toInt ∨ (gi w0 1 (f0_.toInt).toNat).toInt = 32)) → (400 - f0_0_14.toInt).toNat < n0 → Wd dC dI A s.heap H locs w1 → TW ksM ad cy B qr 12 w1 → FE ksM [(12, 14, 14)] w0 w1 → gi w1 0 14 = f0_0_14 → lv_has ls 1 [(0, .ref (ad 0))] → W p l e ({ frames := 1, cells := 0, slots := 0, locals := 12 }) s m (List.toArray [.ref (ad 0)]) below meth c H locs 0 0 (MQ below (va_Qi (P_X12_see_1 ad cy B qr s1  w0) (fun u : va_W => wpost dC dI cy A u) A) (List.toArray [.ref (ad 0)]) s 0 0 A) (F0 m 0 ls []) := by
    intro n0
    induction n0 with
    | zero => intro f0_0_14 H locs ls w1 r2 t3 hcr0_0 hm0 hw hT hF c4 hl; omega
    | succ n0 ih0 =>
      intro f0_0_14 H locs ls w1 r2 t3 hcr0_0 hm0 hw hT hF c4 hl
      refine lv_aload_n hx hb dX12_see_0 rfl (lv_at hl 0 rfl) ?_
      refine tk_geti hC hK hw hT hinX12 kM_at0 (by decide) rfl 14 (by decide) (List.mem_of_getElem? (i := 1) rfl) rfl rfl dX12_see_1 (fun x5 c6 rx5 tx5 => ?_)
      refine wk_top f0_0_14 (c6.symm.trans c4) ?_
      refine lv_aload_n hx hb dX12_see_4 rfl (lv_at hl 0 rfl) ?_
      refine tk_geti hC hK hw hT hinX12 kM_at0 (by decide) rfl 1 (by decide) (List.mem_of_getElem? (i := 2) rfl) rfl rfl dX12_see_5 (fun x7 c8 rx7 tx7 => ?_)
      refine lv_icmp_ge (tgt := 38) hx hb dX12_see_8 (by decide) (fun c9 => ?_) (fun c9 => ?_)
      · have c9 : x7.toInt ≤ f0_0_14.toInt := wk_le.mp c9
        refine lv_aload_n hx hb dX12_see_38 rfl (lv_at hl 0 rfl) ?_
        refine tk_geti hC hK hw hT hinX12 kM_at0 (by decide) rfl 14 (by decide) (List.mem_of_getElem? (i := 1) rfl) rfl rfl dX12_see_39 (fun x10 c11 rx10 tx10 => ?_)
        refine wk_top f0_0_14 (c11.symm.trans c4) ?_
        refine lv_aload_n hx hb dX12_see_42 rfl (lv_at hl 0 rfl) ?_
        refine tk_geti hC hK hw hT hinX12 kM_at0 (by decide) rfl 1 (by decide) (List.mem_of_getElem? (i := 2) rfl) rfl rfl dX12_see_43 (fun x12 c13 rx12 tx12 => ?_)
        refine wk_top x7 (c13.symm.trans c8) ?_
        refine lv_icmp_ge (tgt := 65) hx hb dX12_see_46 (by decide) (fun c14 => ?_) (fun c14 => ?_)
        · have c14 : x7.toInt ≤ f0_0_14.toInt := wk_le.mp c14
          refine lv_iconst (v := (-1)) hx hb dX12_see_65 (by decide) ?_
          exact tk_iret hC hr hlocks hK ⟨hT, hF, (Or.inr (Or.inr ⟨rfl, ⟨x7, c8, (show 0 ≤ x7.toInt by omega), (show x7.toInt ≤ 400 by omega)⟩, (by simp only [cf0_, c4]; omega)⟩))⟩ hw dX12_see_66
        · have c14 : f0_0_14.toInt < x7.toInt := wk_leF c14
          refine lv_aload_n hx hb dX12_see_49 rfl (lv_at hl 0 rfl) ?_
          refine tk_getA hC hK hw hT hinX12 kM_at0 (by decide) rfl 0 (by decide) (List.mem_of_getElem? (i := 3) rfl) rfl rfl dX12_see_50 ?_
          refine lv_aload_n hx hb dX12_see_53 rfl (lv_at hl 0 rfl) ?_
          refine tk_geti hC hK hw hT hinX12 kM_at0 (by decide) rfl 14 (by decide) (List.mem_of_getElem? (i := 1) rfl) rfl rfl dX12_see_54 (fun x15 c16 rx15 tx15 => ?_)
          refine wk_top f0_0_14 (c16.symm.trans c4) ?_
          refine tk_bald hC hK hw hT kM_at1 rfl rfl (show 0 ≤ f0_0_14.toInt by omega) (show f0_0_14.toInt < 400 by omega) dX12_see_57 (fun x17 c18 rx17 tx17 => ?_)
          have c18 : gi w1 1 (f0_0_14.toInt).toNat = x17 := (congrArg (gi w1 1) (congrArg Int.toNat (show f0_0_14.toInt = f0_0_14.toInt by omega))).trans c18
          refine lv_sipush (v := 255) hx hb dX12_see_58 (by decide) ?_
          refine lv_iand hx hb dX12_see_61 ?_
          refine lv_topi (fun x19 ex19 => ?_)
          have bx19 : 0 ≤ x19.toInt ∧ x19.toInt ≤ (255 : Int) := by rw [ex19]; exact wk_and (by decide)
          refine lv_goto (tgt := 66) hx hb dX12_see_62 (by decide) ?_
          exact tk_iret hC hr hlocks hK ⟨hT, hF, (Or.inl ⟨(show 0 ≤ x19.toInt by omega), (show x19.toInt ≤ 255 by omega), ⟨x7, c8, (show 1 ≤ x7.toInt by omega), (show x7.toInt ≤ 400 by omega)⟩, ⟨f0_0_14, c4, (show 0 ≤ f0_0_14.toInt by omega), (show f0_0_14.toInt ≤ 399 by omega)⟩, (by simp only [c4, c18]; omega), (by simp only [cf0_, c4, c18]; omega)⟩)⟩ hw dX12_see_66
      · have c9 : f0_0_14.toInt < x7.toInt := wk_leF c9
        refine lv_aload_n hx hb dX12_see_11 rfl (lv_at hl 0 rfl) ?_
        refine tk_getA hC hK hw hT hinX12 kM_at0 (by decide) rfl 0 (by decide) (List.mem_of_getElem? (i := 3) rfl) rfl rfl dX12_see_12 ?_
        refine lv_aload_n hx hb dX12_see_15 rfl (lv_at hl 0 rfl) ?_
        refine tk_geti hC hK hw hT hinX12 kM_at0 (by decide) rfl 14 (by decide) (List.mem_of_getElem? (i := 1) rfl) rfl rfl dX12_see_16 (fun x20 c21 rx20 tx20 => ?_)
        refine wk_top f0_0_14 (c21.symm.trans c4) ?_
        refine tk_bald hC hK hw hT kM_at1 rfl rfl (show 0 ≤ f0_0_14.toInt by omega) (show f0_0_14.toInt < 400 by omega) dX12_see_19 (fun x22 c23 rx22 tx22 => ?_)
        have c23 : gi w1 1 (f0_0_14.toInt).toNat = x22 := (congrArg (gi w1 1) (congrArg Int.toNat (show f0_0_14.toInt = f0_0_14.toInt by omega))).trans c23
        refine lv_bipush (v := 32) hx hb dX12_see_20 (by decide) ?_
        refine lv_icmp_ne (tgt := 38) hx hb dX12_see_22 (by decide) (fun c24 => ?_) (fun c24 => ?_)
        · have c24 : ¬ x22.toInt = (32 : Int) := wk_eqF c24
          refine lv_aload_n hx hb dX12_see_38 rfl (lv_at hl 0 rfl) ?_
          refine tk_geti hC hK hw hT hinX12 kM_at0 (by decide) rfl 14 (by decide) (List.mem_of_getElem? (i := 1) rfl) rfl rfl dX12_see_39 (fun x25 c26 rx25 tx25 => ?_)
          refine wk_top f0_0_14 (c26.symm.trans c4) ?_
          refine lv_aload_n hx hb dX12_see_42 rfl (lv_at hl 0 rfl) ?_
          refine tk_geti hC hK hw hT hinX12 kM_at0 (by decide) rfl 1 (by decide) (List.mem_of_getElem? (i := 2) rfl) rfl rfl dX12_see_43 (fun x27 c28 rx27 tx27 => ?_)
          refine wk_top x7 (c28.symm.trans c8) ?_
          refine lv_icmp_ge (tgt := 65) hx hb dX12_see_46 (by decide) (fun c29 => ?_) (fun c29 => ?_)
          · have c29 : x7.toInt ≤ f0_0_14.toInt := wk_le.mp c29
            refine lv_iconst (v := (-1)) hx hb dX12_see_65 (by decide) ?_
            exact tk_iret hC hr hlocks hK ⟨hT, hF, (Or.inr (Or.inl ⟨rfl, ⟨x7, c8, (show 1 ≤ x7.toInt by omega), (show x7.toInt ≤ 399 by omega)⟩, ⟨f0_0_14, c4, (show 1 ≤ f0_0_14.toInt by omega), (show f0_0_14.toInt ≤ 399 by omega)⟩, (by simp only [cf0_, c4, c23]; omega)⟩))⟩ hw dX12_see_66
          · have c29 : f0_0_14.toInt < x7.toInt := wk_leF c29
            refine lv_aload_n hx hb dX12_see_49 rfl (lv_at hl 0 rfl) ?_
            refine tk_getA hC hK hw hT hinX12 kM_at0 (by decide) rfl 0 (by decide) (List.mem_of_getElem? (i := 3) rfl) rfl rfl dX12_see_50 ?_
            refine lv_aload_n hx hb dX12_see_53 rfl (lv_at hl 0 rfl) ?_
            refine tk_geti hC hK hw hT hinX12 kM_at0 (by decide) rfl 14 (by decide) (List.mem_of_getElem? (i := 1) rfl) rfl rfl dX12_see_54 (fun x30 c31 rx30 tx30 => ?_)
            refine wk_top f0_0_14 (c31.symm.trans c4) ?_
            refine tk_bald hC hK hw hT kM_at1 rfl rfl (show 0 ≤ f0_0_14.toInt by omega) (show f0_0_14.toInt < 400 by omega) dX12_see_57 (fun x32 c33 rx32 tx32 => ?_)
            have c33 : gi w1 1 (f0_0_14.toInt).toNat = x32 := (congrArg (gi w1 1) (congrArg Int.toNat (show f0_0_14.toInt = f0_0_14.toInt by omega))).trans c33
            refine wk_top x22 (c33.symm.trans c23) ?_
            refine lv_sipush (v := 255) hx hb dX12_see_58 (by decide) ?_
            refine lv_iand hx hb dX12_see_61 ?_
            refine lv_topi (fun x34 ex34 => ?_)
            have bx34 : 0 ≤ x34.toInt ∧ x34.toInt ≤ (255 : Int) := by rw [ex34]; exact wk_and (by decide)
            refine lv_goto (tgt := 66) hx hb dX12_see_62 (by decide) ?_
            exact tk_iret hC hr hlocks hK ⟨hT, hF, (Or.inl ⟨(show 0 ≤ x34.toInt by omega), (show x34.toInt ≤ 255 by omega), ⟨x7, c8, (show 1 ≤ x7.toInt by omega), (show x7.toInt ≤ 400 by omega)⟩, ⟨f0_0_14, c4, (show 0 ≤ f0_0_14.toInt by omega), (show f0_0_14.toInt ≤ 399 by omega)⟩, (by simp only [c4, c23]; omega), (by simp only [cf0_, c4, c23]; omega)⟩)⟩ hw dX12_see_66
        · have c24 : x22.toInt = (32 : Int) := wk_eq.mp c24
          refine lv_aload_n hx hb dX12_see_25 rfl (lv_at hl 0 rfl) ?_
          refine lv_dup hx hb dX12_see_26 rfl ?_
          refine tk_geti hC hK hw hT hinX12 kM_at0 (by decide) rfl 14 (by decide) (List.mem_of_getElem? (i := 1) rfl) rfl rfl dX12_see_27 (fun x35 c36 rx35 tx35 => ?_)
          refine wk_top f0_0_14 (c36.symm.trans c4) ?_
          refine lv_iconst (v := 1) hx hb dX12_see_30 (by decide) ?_
          refine lv_iadd hx hb dX12_see_31 ?_
          refine lv_topi (fun x37 ex37 => ?_)
          have ex37 : x37.toInt = f0_0_14.toInt + (1 : Int) := by rw [ex37]; exact wk_add (show (-2147483648) ≤ f0_0_14.toInt + (1 : Int) by omega) (show f0_0_14.toInt + (1 : Int) ≤ 2147483647 by omega)
          refine tk_puti hC hK hw hT hinX12 tyX12_ok nmX12 kM_at0 (by decide) rfl rfl 14 (by decide) (List.mem_of_getElem? (i := 1) rfl) rfl rfl rfl rfl (show 0 ≤ x37.toInt by omega) (show x37.toInt ≤ 400 by omega) dX12_see_32 (fun H locs w38 hw hT k40 c39 => ?_)
          have hF := hF.put kM_at0 (k := 14) (by decide) k40
          have c41 := k40.gi (Or.inr (by decide)) c8
          have c42 := k40.gi (Or.inl (tk_ne kM_at1 kM_at0 (by decide))) c23
          refine lv_goto (tgt := 0) hx hb dX12_see_35 (by decide) ?_
          exact ih0 x37 H locs ls w38 (show 0 ≤ x37.toInt by omega) (show x37.toInt ≤ 400 by omega) (show (x37.toInt = f0_.toInt ∨ (gi w0 1 (f0_.toInt).toNat).toInt = 32) by first | omega | assumption | (left; omega) | (left; decide) | (right; assumption) | (right; rw [c42]; omega) | (right; rw [c42]; decide) | (right; rcases hcr0_0 with hx1 | hx1 <;> first | exact hx1 | (rw [← hx1]; exact (congrArg Int32.toInt ((hF.gi kM_at1 rfl rfl).symm.trans c42)).trans (by omega)))) (show (400 - x37.toInt).toNat < n0 by omega) hw hT hF c39 (lv_sub hl [0] rfl)
  exact L0 ((400 - f0_.toInt).toNat + 1) f0_ s.heap locs ls w0 (show 0 ≤ f0_.toInt by omega) (show f0_.toInt ≤ 400 by omega) (show (f0_.toInt = f0_.toInt ∨ (gi w0 1 (f0_.toInt).toNat).toInt = 32) by first | omega | assumption | (left; omega) | (left; decide) | (right; assumption)) (Nat.lt_succ_self _) hw hT hF cf0_ (lv_sub hl [0] rfl)
abbrev P_X12_isWord_1 (ad : Nat → Nat) (cy : Nat → ClassId) (B : Int) (qr : Nat) (s1 : Int)  (w0 : va_W) : Int32 → va_W → Prop := fun r u => TW ksM ad cy B qr 12 u ∧ FE ksM [(12, 14, 14)] w0 u ∧ ((r = 0 ∧ (∃ y : Int32, gi u 0 1 = y ∧ 0 ≤ y.toInt ∧ y.toInt ≤ 400) ∧ (((gi u 0 14).toInt = (gi w0 0 14).toInt ∨ (gi w0 1 ((gi w0 0 14).toInt).toNat).toInt = 32))) ∨ (r = 1 ∧ (∃ y : Int32, gi u 0 1 = y ∧ 0 ≤ y.toInt ∧ y.toInt ≤ 400) ∧ (((gi u 0 14).toInt = (gi w0 0 14).toInt ∨ (gi w0 1 ((gi w0 0 14).toInt).toNat).toInt = 32))))
set_option maxHeartbeats 4000000 in
set_option maxRecDepth 100000 in
theorem k_X12_isWord_1 (l : Launch) (adK adV : Nat → Nat) (dC : Nat → ClassId) (dI : Nat → Nat → Nat) (cy : Nat → ClassId) (ad : Nat → Nat) (B : Int) (hB0 : 100000 ≤ B) (hB1 : B ≤ 1073741824) (qr : Nat) (s1 : Int)   (w0 : va_W) (sz : Nat) (hT : TW ksM ad cy B qr 12 w0) (f0_ : Int32) (cf0_ : gi w0 0 14 = f0_) (rf0_ : 0 ≤ f0_.toInt) (tf0_ : f0_.toInt ≤ 400) : Met l yX12_isWord wsX12_isWord ({ frames := 2, cells := 0, slots := 0, locals := 33 }) (va_Pc [.ref (ad 0), .long 126943972648308] (wpreS adK adV dC dI cy sz w0)) (va_Qi (P_X12_isWord_1 ad cy B qr s1  w0) (fun u : va_W => wpost dC dI cy (va_A w0 sz) u) (va_A w0 sz)) 0 0 (va_A w0 sz) := by
  refine Met.ofW (cc := cX12_isWord) (maxL := 6) (ret := (some .boolean)) (by decide) rfl ?_
  intro p e s m args below meth c s₁ Bk hml hv
  obtain ⟨rfl, ⟨hsz, hP, hK, hD0⟩, hE, hSR⟩ := hv
  have hx := Bk.exec
  have hb := Bk.bytes
  have hr := Bk.returns
  have hlocks := Bk.notSynchronized
  have hC : CallFix p m c cX12_isWord 6 s _ wsX12_isWord RX12 := ⟨hx, hb, hml, findClass_of_methodNamed Bk.named, atoms_spec (ws := wsX12_isWord) Bk.pre⟩
  subst hsz
  have hD := hD0.self (sz := s.heap.size)
  generalize hAe : va_A w0 s.heap.size = A at hD hE ⊢
  have hA : ∀ q : Nat, s.heap.size ≤ q → A q := fun q h => by rw [← hAe]; exact Or.inr h
  have hw : Wd dC dI A s.heap s.heap [] w0 := ⟨hP, hD, va_S.rf⟩
  have hF : FE ksM [(12, 14, 14)] w0 w0 := FE.rf
  have hl := lv_entry ([.ref (ad 0), .long 126943972648308]) (n := 6) (Nat.le_of_ble_eq_true rfl)
  rw [lg_entry_eq]
  generalize (lg_sl ([.ref (ad 0), .long 126943972648308]) ++ List.replicate (6 - (lg_sl ([.ref (ad 0), .long 126943972648308])).length) Slot.unset).toArray = ls at hl ⊢
  have hl : lv_has ls 6 [(0, .ref (ad 0)), (1, .long 126943972648308)] := hl
  generalize hloc : ([] : List Loc) = locs at hw ⊢
  have hinX12 : ∀ w ∈ u_ws RX12 TX12 42, w ∈ wsX12_isWord := fun _ h => List.mem_cons_of_mem _ (List.mem_append_right _ (h))
  have J78 : ∀ (v78_3 : Int64) (v78_5 : Int32) (f78_0_1 : Int32) (f78_0_14 : Int32) (H : Heap) (locs : List Loc) (ls : Array Slot) (w1 : va_W), 0 ≤ v78_5.toInt → v78_5.toInt ≤ 400 → 0 ≤ f78_0_1.toInt → f78_0_1.toInt ≤ 400 → 0 ≤ f78_0_14.toInt → f78_0_14.toInt ≤ 400 → ((f78_0_14.toInt = f0_.toInt ∨ (gi w0 1 (f0_.toInt).toNat).toInt = 32)) → Wd dC dI A s.heap H locs w1 → TW ksM ad cy B qr 12 w1 → FE ksM [(12, 14, 14)] w0 w1 → gi w1 0 1 = f78_0_1 → gi w1 0 14 = f78_0_14 → lv_has ls 6 [(0, .ref (ad 0)), (1, .long 126943972648308), (3, .long v78_3), (5, .int v78_5)] → W p l e ({ frames := 2, cells := 0, slots := 0, locals := 33 }) s m (List.toArray [.ref (ad 0), .long 126943972648308]) below meth c H locs 0 0 (MQ below (va_Qi (P_X12_isWord_1 ad cy B qr s1  w0) (fun u : va_W => wpost dC dI cy A u) A) (List.toArray [.ref (ad 0), .long 126943972648308]) s 0 0 A) (F0 m 78 ls []) := by
    intro v78_3 v78_5 f78_0_1 f78_0_14 H locs ls w1 r2 t3 r4 t5 r7 t8 hcr78_0 hw hT hF c6 c9 hl
    refine lv_iconst (v := 0) hx hb dX12_isWord_78 (by decide) ?_
    exact tk_zret hC hr rfl hlocks hK ⟨hT, hF, (Or.inl ⟨rfl, ⟨f78_0_1, c6, (show 0 ≤ f78_0_1.toInt by omega), (show f78_0_1.toInt ≤ 400 by omega)⟩, (by simp only [cf0_, c9]; omega)⟩)⟩ hw dX12_isWord_79
  have L10 : ∀ (n10 : Nat) (v10_3 : Int64) (v10_5 : Int32) (f10_0_1 : Int32) (f10_0_14 : Int32) (H : Heap) (locs : List Loc) (ls : Array Slot) (w10 : va_W), 0 ≤ v10_5.toInt → v10_5.toInt ≤ 400 → 0 ≤ f10_0_1.toInt → f10_0_1.toInt ≤ 400 → 0 ≤ f10_0_14.toInt → f10_0_14.toInt ≤ 400 → ((f10_0_14.toInt = f0_.toInt ∨ (gi w0 1 (f0_.toInt).toNat).toInt = 32)) → (400 - v10_5.toInt).toNat < n10 → Wd dC dI A s.heap H locs w10 → TW ksM ad cy B qr 12 w10 → FE ksM [(12, 14, 14)] w0 w10 → gi w10 0 1 = f10_0_1 → gi w10 0 14 = f10_0_14 → lv_has ls 6 [(0, .ref (ad 0)), (1, .long 126943972648308), (3, .long v10_3), (5, .int v10_5)] → W p l e ({ frames := 2, cells := 0, slots := 0, locals := 33 }) s m (List.toArray [.ref (ad 0), .long 126943972648308]) below meth c H locs 0 0 (MQ below (va_Qi (P_X12_isWord_1 ad cy B qr s1  w0) (fun u : va_W => wpost dC dI cy A u) A) (List.toArray [.ref (ad 0), .long 126943972648308]) s 0 0 A) (F0 m 10 ls []) := by
    intro n10
    induction n10 with
    | zero => intro v10_3 v10_5 f10_0_1 f10_0_14 H locs ls w10 r11 t12 r13 t14 r16 t17 hcr10_0 hm10 hw hT hF c15 c18 hl; omega
    | succ n10 ih10 =>
      intro v10_3 v10_5 f10_0_1 f10_0_14 H locs ls w10 r11 t12 r13 t14 r16 t17 hcr10_0 hm10 hw hT hF c15 c18 hl
      have J50 : ∀ (v50_3 : Int64) (H : Heap) (locs : List Loc) (ls : Array Slot) (w19 : va_W), 0 ≤ v10_5.toInt → v10_5.toInt ≤ 399 → 1 ≤ f10_0_1.toInt → f10_0_1.toInt ≤ 400 → 0 ≤ f10_0_14.toInt → f10_0_14.toInt ≤ 399 → ((f10_0_14.toInt = f0_.toInt ∨ (gi w0 1 (f0_.toInt).toNat).toInt = 32)) → Wd dC dI A s.heap H locs w19 → TW ksM ad cy B qr 12 w19 → FE ksM [(12, 14, 14)] w0 w19 → gi w19 0 1 = f10_0_1 → gi w19 0 14 = f10_0_14 → lv_has ls 6 [(0, .ref (ad 0)), (1, .long 126943972648308), (3, .long v50_3), (5, .int v10_5)] → W p l e ({ frames := 2, cells := 0, slots := 0, locals := 33 }) s m (List.toArray [.ref (ad 0), .long 126943972648308]) below meth c H locs 0 0 (MQ below (va_Qi (P_X12_isWord_1 ad cy B qr s1  w0) (fun u : va_W => wpost dC dI cy A u) A) (List.toArray [.ref (ad 0), .long 126943972648308]) s 0 0 A) (F0 m 50 ls []) := by
        intro v50_3 H locs ls w19 r20 t21 r22 t23 r25 t26 hcr50_0 hw hT hF c24 c27 hl
        obtain ⟨x28, ex28⟩ : ∃ y : Int32, y = v10_5 + Int32.ofInt 1 := ⟨_, rfl⟩
        refine lv_iinc (v := x28) (lv' := [(5, .int x28), (0, .ref (ad 0)), (1, .long 126943972648308), (3, .long v50_3)]) hx hb dX12_isWord_50 hl (k := 3) rfl ex28.symm (by decide) rfl (fun ls hl => ?_)
        have ex28 : x28.toInt = v10_5.toInt + 1 := by rw [ex28]; exact wk_add (y := 1) (show -2147483648 ≤ v10_5.toInt + 1 by omega) (show v10_5.toInt + 1 ≤ 2147483647 by omega)
        refine lv_goto (tgt := 10) hx hb dX12_isWord_53 (by decide) ?_
        exact ih10 v50_3 x28 f10_0_1 f10_0_14 H locs ls w19 (show 0 ≤ x28.toInt by omega) (show x28.toInt ≤ 400 by omega) (show 0 ≤ f10_0_1.toInt by omega) (show f10_0_1.toInt ≤ 400 by omega) (show 0 ≤ f10_0_14.toInt by omega) (show f10_0_14.toInt ≤ 400 by omega) (show (f10_0_14.toInt = f0_.toInt ∨ (gi w0 1 (f0_.toInt).toNat).toInt = 32) by first | omega | assumption | (left; omega) | (left; decide) | (right; assumption)) (show (400 - x28.toInt).toNat < n10 by omega) hw hT hF c24 c27 (lv_sub hl [1, 2, 3, 0] rfl)
      refine lv_aload_n hx hb dX12_isWord_10 rfl (lv_at hl 0 rfl) ?_
      refine lv_aload_n hx hb dX12_isWord_11 rfl (lv_at hl 0 rfl) ?_
      refine tk_geti hC hK hw hT hinX12 kM_at0 (by decide) rfl 14 (by decide) (List.mem_of_getElem? (i := 1) rfl) rfl rfl dX12_isWord_12 (fun x29 c30 rx29 tx29 => ?_)
      refine wk_top f10_0_14 (c30.symm.trans c18) ?_
      refine lv_iload hx hb dX12_isWord_15 (lv_at hl 3 rfl) ?_
      refine lv_iadd hx hb dX12_isWord_17 ?_
      refine lv_topi (fun x31 ex31 => ?_)
      have ex31 : x31.toInt = f10_0_14.toInt + v10_5.toInt := by rw [ex31]; exact wk_add (show (-2147483648) ≤ f10_0_14.toInt + v10_5.toInt by omega) (show f10_0_14.toInt + v10_5.toInt ≤ 2147483647 by omega)
      refine tk_Vi hC hK hw hT hA hE hSR kM_at0 (by decide) rfl (k_X12_isLetter_1 l adK adV dC dI cy ad B (by omega) (by omega) qr s1   x31 (show 0 ≤ x31.toInt by omega) (show x31.toInt ≤ 800 by omega) w10 H.size hT ) (cwV 1 hC.2.2.2.2 gX12_isWord_X12_isLetter rfl rfl rfl (by decide +kernel) ⟨Nat.le_of_ble_eq_true rfl, Nat.le_of_ble_eq_true rfl⟩) rfl hl.1 rfl (Nat.le_of_ble_eq_true rfl) dX12_isWord_18 (fun r32 w34 H locs hp33 hw => ?_)
      obtain ⟨rfl, hg41⟩ := hp33
      rcases hg41 with ⟨rfl, ⟨x36, c37, rx36, tx36⟩⟩ | ⟨rfl, g38, ⟨x39, c40, rx39, tx39⟩⟩
      · have ex36 : x36.toInt = f10_0_1.toInt := by rw [← c15.symm.trans c37]
        refine lv_if_eq (tgt := 56) hx hb dX12_isWord_21 (by decide) (fun _ => ?_) (fun c => absurd (by decide) c)
        refine lv_iload hx hb dX12_isWord_56 (lv_at hl 3 rfl) ?_
        refine lv_if_le (tgt := 78) hx hb dX12_isWord_58 (by decide) (fun c42 => ?_) (fun c42 => ?_)
        · have c42 : v10_5.toInt ≤ (0 : Int) := wk_le.mp c42
          exact J78 v10_3 v10_5 f10_0_1 f10_0_14 H locs ls w10 (show 0 ≤ v10_5.toInt by omega) (show v10_5.toInt ≤ 400 by omega) (show 0 ≤ f10_0_1.toInt by omega) (show f10_0_1.toInt ≤ 400 by omega) (show 0 ≤ f10_0_14.toInt by omega) (show f10_0_14.toInt ≤ 400 by omega) (show (f10_0_14.toInt = f0_.toInt ∨ (gi w0 1 (f0_.toInt).toNat).toInt = 32) by first | omega | assumption | (left; omega) | (left; decide) | (right; assumption))  hw hT hF c15 c18 (lv_sub hl [0, 1, 2, 3] rfl)
        · have c42 : (0 : Int) < v10_5.toInt := wk_leF c42
          refine lv_iload hx hb dX12_isWord_61 (lv_at hl 3 rfl) ?_
          refine lv_bipush (v := 8) hx hb dX12_isWord_63 (by decide) ?_
          refine lv_icmp_ge (tgt := 78) hx hb dX12_isWord_65 (by decide) (fun c43 => ?_) (fun c43 => ?_)
          · have c43 : (8 : Int) ≤ v10_5.toInt := wk_le.mp c43
            exact J78 v10_3 v10_5 f10_0_1 f10_0_14 H locs ls w10 (show 0 ≤ v10_5.toInt by omega) (show v10_5.toInt ≤ 400 by omega) (show 0 ≤ f10_0_1.toInt by omega) (show f10_0_1.toInt ≤ 400 by omega) (show 0 ≤ f10_0_14.toInt by omega) (show f10_0_14.toInt ≤ 400 by omega) (show (f10_0_14.toInt = f0_.toInt ∨ (gi w0 1 (f0_.toInt).toNat).toInt = 32) by first | omega | assumption | (left; omega) | (left; decide) | (right; assumption))  hw hT hF c15 c18 (lv_sub hl [0, 1, 2, 3] rfl)
          · have c43 : v10_5.toInt < (8 : Int) := wk_leF c43
            refine lv_lload_n hx hb dX12_isWord_68 rfl (lv_at hl 2 rfl) ?_
            refine lv_lload_n hx hb dX12_isWord_69 rfl (lv_at hl 1 rfl) ?_
            refine W.lcmp hx hb dX12_isWord_70 ?_
            refine lv_if_ne (tgt := 78) hx hb dX12_isWord_71 (by decide) (fun c44 => ?_) (fun c44 => ?_)
            · have c44 : ¬ v10_3.toInt = (126943972648308 : Int) := wk_ceF c44
              exact J78 v10_3 v10_5 f10_0_1 f10_0_14 H locs ls w10 (show 0 ≤ v10_5.toInt by omega) (show v10_5.toInt ≤ 400 by omega) (show 0 ≤ f10_0_1.toInt by omega) (show f10_0_1.toInt ≤ 400 by omega) (show 0 ≤ f10_0_14.toInt by omega) (show f10_0_14.toInt ≤ 400 by omega) (show (f10_0_14.toInt = f0_.toInt ∨ (gi w0 1 (f0_.toInt).toNat).toInt = 32) by first | omega | assumption | (left; omega) | (left; decide) | (right; assumption))  hw hT hF c15 c18 (lv_sub hl [0, 1, 2, 3] rfl)
            · have c44 : v10_3.toInt = (126943972648308 : Int) := wk_ceT c44
              refine lv_iconst (v := 1) hx hb dX12_isWord_74 (by decide) ?_
              refine lv_goto (tgt := 79) hx hb dX12_isWord_75 (by decide) ?_
              exact tk_zret hC hr rfl hlocks hK ⟨hT, hF, (Or.inr ⟨rfl, ⟨f10_0_1, c15, (show 0 ≤ f10_0_1.toInt by omega), (show f10_0_1.toInt ≤ 400 by omega)⟩, (by simp only [cf0_, c18]; omega)⟩)⟩ hw dX12_isWord_79
      · have ex39 : x39.toInt = f10_0_1.toInt := by rw [← c15.symm.trans c40]
        refine lv_if_eq (tgt := 56) hx hb dX12_isWord_21 (by decide) (fun c => absurd c (by decide)) (fun _ => ?_)
        refine lv_iload hx hb dX12_isWord_24 (lv_at hl 3 rfl) ?_
        refine lv_bipush (v := 8) hx hb dX12_isWord_26 (by decide) ?_
        refine lv_icmp_ge (tgt := 50) hx hb dX12_isWord_28 (by decide) (fun c45 => ?_) (fun c45 => ?_)
        · have c45 : (8 : Int) ≤ v10_5.toInt := wk_le.mp c45
          exact J50 v10_3 H locs ls w10 (show 0 ≤ v10_5.toInt by omega) (show v10_5.toInt ≤ 399 by omega) (show 1 ≤ f10_0_1.toInt by omega) (show f10_0_1.toInt ≤ 400 by omega) (show 0 ≤ f10_0_14.toInt by omega) (show f10_0_14.toInt ≤ 399 by omega) (show (f10_0_14.toInt = f0_.toInt ∨ (gi w0 1 (f0_.toInt).toNat).toInt = 32) by first | omega | assumption | (left; omega) | (left; decide) | (right; assumption))  hw hT hF c15 c18 (lv_sub hl [0, 1, 2, 3] rfl)
        · have c45 : v10_5.toInt < (8 : Int) := wk_leF c45
          refine lv_lload_n hx hb dX12_isWord_31 rfl (lv_at hl 2 rfl) ?_
          refine lv_bipush (v := 8) hx hb dX12_isWord_32 (by decide) ?_
          refine lv_lshl hx hb dX12_isWord_34 rfl ?_
          refine lv_topl (fun x46 ex46 => ?_)
          refine lv_aload_n hx hb dX12_isWord_35 rfl (lv_at hl 0 rfl) ?_
          refine tk_getA hC hK hw hT hinX12 kM_at0 (by decide) rfl 0 (by decide) (List.mem_of_getElem? (i := 2) rfl) rfl rfl dX12_isWord_36 ?_
          refine lv_aload_n hx hb dX12_isWord_39 rfl (lv_at hl 0 rfl) ?_
          refine tk_geti hC hK hw hT hinX12 kM_at0 (by decide) rfl 14 (by decide) (List.mem_of_getElem? (i := 1) rfl) rfl rfl dX12_isWord_40 (fun x47 c48 rx47 tx47 => ?_)
          refine wk_top f10_0_14 (c48.symm.trans c18) ?_
          refine lv_iload hx hb dX12_isWord_43 (lv_at hl 3 rfl) ?_
          refine lv_iadd hx hb dX12_isWord_45 ?_
          refine lv_topi (fun x49 ex49 => ?_)
          have ex49 : x49.toInt = f10_0_14.toInt + v10_5.toInt := by rw [ex49]; exact wk_add (show (-2147483648) ≤ f10_0_14.toInt + v10_5.toInt by omega) (show f10_0_14.toInt + v10_5.toInt ≤ 2147483647 by omega)
          refine tk_bald hC hK hw hT kM_at1 rfl rfl (show 0 ≤ x49.toInt by omega) (show x49.toInt < 400 by omega) dX12_isWord_46 (fun x50 c51 rx50 tx50 => ?_)
          have c51 : gi w10 1 (1 * f10_0_14.toInt + 1 * v10_5.toInt + 0).toNat = x50 := (congrArg (gi w10 1) (congrArg Int.toNat (show 1 * f10_0_14.toInt + 1 * v10_5.toInt + 0 = x49.toInt by omega))).trans c51
          refine lv_i2l hx hb dX12_isWord_47 rfl ?_
          refine lv_topl (fun x52 ex52 => ?_)
          have ex52 : x52.toInt = x50.toInt := by rw [ex52]; exact wk_i2l _
          have bx52 := wk_i32 x50
          refine lv_lor hx hb dX12_isWord_48 ?_
          refine lv_topl (fun x53 ex53 => ?_)
          refine lv_lstore_n (lv' := [(3, .long x53), (0, .ref (ad 0)), (1, .long 126943972648308), (5, .int v10_5)]) hx hb dX12_isWord_49 rfl hl (by decide) rfl (fun ls hl => ?_)
          exact J50 x53 H locs ls w10 (show 0 ≤ v10_5.toInt by omega) (show v10_5.toInt ≤ 399 by omega) (show 1 ≤ f10_0_1.toInt by omega) (show f10_0_1.toInt ≤ 400 by omega) (show 0 ≤ f10_0_14.toInt by omega) (show f10_0_14.toInt ≤ 399 by omega) (show (f10_0_14.toInt = f0_.toInt ∨ (gi w0 1 (f0_.toInt).toNat).toInt = 32) by first | omega | assumption | (left; omega) | (left; decide) | (right; assumption) | (right; rw [c51]; omega) | (right; rw [c51]; decide))  hw hT hF c15 c18 (lv_sub hl [1, 2, 0, 3] rfl)
  refine lv_aload_n hx hb dX12_isWord_0 rfl (lv_at hl 0 rfl) ?_
  refine tk_Vi hC hK hw hT hA hE hSR kM_at0 (by decide) rfl (k_X12_see_1 l adK adV dC dI cy ad B (by omega) (by omega) qr s1    w0 s.heap.size hT f0_ cf0_ (show 0 ≤ f0_.toInt by omega) (show f0_.toInt ≤ 400 by omega)) (cwV 0 hC.2.2.2.2 gX12_isWord_X12_see rfl rfl rfl (by decide +kernel) ⟨Nat.le_of_ble_eq_true rfl, Nat.le_of_ble_eq_true rfl⟩) rfl hl.1 rfl (Nat.le_of_ble_eq_true rfl) dX12_isWord_1 (fun r54 w56 H locs hp55 hw => ?_)
  obtain ⟨hT, k57, hg74⟩ := hp55
  have hF := hF.tr k57 (by decide)
  rcases hg74 with ⟨g58, g59, ⟨x60, c61, rx60, tx60⟩, ⟨x62, c63, rx62, tx62⟩, g64, g65⟩ | ⟨rfl, ⟨x66, c67, rx66, tx66⟩, ⟨x68, c69, rx68, tx68⟩, g70⟩ | ⟨rfl, ⟨x71, c72, rx71, tx71⟩, g73⟩
  · have g64 : (gi w56 1 (x62.toInt).toNat).toInt ≠ 32 := by have q := g64; simp only [c63] at q; omega
    have g65 : (x62.toInt = f0_.toInt ∨ (gi w0 1 (f0_.toInt).toNat).toInt = 32) := by have q := g65; simp only [cf0_, c63] at q; omega
    refine lv_pop hx hb dX12_isWord_4 rfl ?_
    refine lv_lconst (v := 0) hx hb dX12_isWord_5 (by decide) ?_
    refine lv_lstore_n (lv' := [(3, .long 0), (0, .ref (ad 0)), (1, .long 126943972648308)]) hx hb dX12_isWord_6 rfl hl (by decide) rfl (fun ls hl => ?_)
    refine lv_iconst (v := 0) hx hb dX12_isWord_7 (by decide) ?_
    refine lv_istore (lv' := [(5, .int 0), (3, .long 0), (0, .ref (ad 0)), (1, .long 126943972648308)]) hx hb dX12_isWord_8 hl (by decide) rfl (fun ls hl => ?_)
    exact L10 ((400 - (0 : Int)).toNat + 1) 0 0 x60 x62 H locs ls w56 (by decide) (by decide) (show 0 ≤ x60.toInt by omega) (show x60.toInt ≤ 400 by omega) (show 0 ≤ x62.toInt by omega) (show x62.toInt ≤ 400 by omega) (show (x62.toInt = f0_.toInt ∨ (gi w0 1 (f0_.toInt).toNat).toInt = 32) by first | omega | assumption | (left; omega) | (left; decide) | (right; assumption)) (Nat.lt_succ_self _) hw hT hF c61 c63 (lv_sub hl [2, 3, 1, 0] rfl)
  · have g70 : (x68.toInt = f0_.toInt ∨ (gi w0 1 (f0_.toInt).toNat).toInt = 32) := by have q := g70; simp only [cf0_, c69] at q; omega
    refine lv_pop hx hb dX12_isWord_4 rfl ?_
    refine lv_lconst (v := 0) hx hb dX12_isWord_5 (by decide) ?_
    refine lv_lstore_n (lv' := [(3, .long 0), (0, .ref (ad 0)), (1, .long 126943972648308)]) hx hb dX12_isWord_6 rfl hl (by decide) rfl (fun ls hl => ?_)
    refine lv_iconst (v := 0) hx hb dX12_isWord_7 (by decide) ?_
    refine lv_istore (lv' := [(5, .int 0), (3, .long 0), (0, .ref (ad 0)), (1, .long 126943972648308)]) hx hb dX12_isWord_8 hl (by decide) rfl (fun ls hl => ?_)
    exact L10 ((400 - (0 : Int)).toNat + 1) 0 0 x66 x68 H locs ls w56 (by decide) (by decide) (show 0 ≤ x66.toInt by omega) (show x66.toInt ≤ 400 by omega) (show 0 ≤ x68.toInt by omega) (show x68.toInt ≤ 400 by omega) (show (x68.toInt = f0_.toInt ∨ (gi w0 1 (f0_.toInt).toNat).toInt = 32) by first | omega | assumption | (left; omega) | (left; decide) | (right; assumption)) (Nat.lt_succ_self _) hw hT hF c67 c69 (lv_sub hl [2, 3, 1, 0] rfl)
  · obtain ⟨x75, c76, rx75, tx75⟩ := hT.rdi (lo := 0) (hi := 400) (k := 14) kM_at0 (by decide) rfl
    have g73 : (x75.toInt = f0_.toInt ∨ (gi w0 1 (f0_.toInt).toNat).toInt = 32) := by have q := g73; simp only [cf0_, c76] at q; omega
    refine lv_pop hx hb dX12_isWord_4 rfl ?_
    refine lv_lconst (v := 0) hx hb dX12_isWord_5 (by decide) ?_
    refine lv_lstore_n (lv' := [(3, .long 0), (0, .ref (ad 0)), (1, .long 126943972648308)]) hx hb dX12_isWord_6 rfl hl (by decide) rfl (fun ls hl => ?_)
    refine lv_iconst (v := 0) hx hb dX12_isWord_7 (by decide) ?_
    refine lv_istore (lv' := [(5, .int 0), (3, .long 0), (0, .ref (ad 0)), (1, .long 126943972648308)]) hx hb dX12_isWord_8 hl (by decide) rfl (fun ls hl => ?_)
    exact L10 ((400 - (0 : Int)).toNat + 1) 0 0 x71 x75 H locs ls w56 (by decide) (by decide) (show 0 ≤ x71.toInt by omega) (show x71.toInt ≤ 400 by omega) (show 0 ≤ x75.toInt by omega) (show x75.toInt ≤ 400 by omega) (show (x75.toInt = f0_.toInt ∨ (gi w0 1 (f0_.toInt).toNat).toInt = 32) by first | omega | assumption | (left; omega) | (left; decide) | (right; assumption)) (Nat.lt_succ_self _) hw hT hF c72 c76 (lv_sub hl [2, 3, 1, 0] rfl)
abbrev P_X12_isWord_2 (ad : Nat → Nat) (cy : Nat → ClassId) (B : Int) (qr : Nat) (s1 : Int)  (w0 : va_W) : Int32 → va_W → Prop := fun r u => TW ksM ad cy B qr 12 u ∧ FE ksM [(12, 14, 14)] w0 u ∧ ((r = 0 ∧ (∃ y : Int32, gi u 0 1 = y ∧ 0 ≤ y.toInt ∧ y.toInt ≤ 400) ∧ (((gi u 0 14).toInt = (gi w0 0 14).toInt ∨ (gi w0 1 ((gi w0 0 14).toInt).toNat).toInt = 32))) ∨ (r = 1 ∧ (∃ y : Int32, gi u 0 1 = y ∧ 0 ≤ y.toInt ∧ y.toInt ≤ 400) ∧ (((gi u 0 14).toInt = (gi w0 0 14).toInt ∨ (gi w0 1 ((gi w0 0 14).toInt).toNat).toInt = 32))))
set_option maxHeartbeats 4000000 in
set_option maxRecDepth 100000 in
theorem k_X12_isWord_2 (l : Launch) (adK adV : Nat → Nat) (dC : Nat → ClassId) (dI : Nat → Nat → Nat) (cy : Nat → ClassId) (ad : Nat → Nat) (B : Int) (hB0 : 100000 ≤ B) (hB1 : B ≤ 1073741824) (qr : Nat) (s1 : Int)   (w0 : va_W) (sz : Nat) (hT : TW ksM ad cy B qr 12 w0) (f0_ : Int32) (cf0_ : gi w0 0 14 = f0_) (rf0_ : 0 ≤ f0_.toInt) (tf0_ : f0_.toInt ≤ 400) : Met l yX12_isWord wsX12_isWord ({ frames := 2, cells := 0, slots := 0, locals := 33 }) (va_Pc [.ref (ad 0), .long 1818846836] (wpreS adK adV dC dI cy sz w0)) (va_Qi (P_X12_isWord_2 ad cy B qr s1  w0) (fun u : va_W => wpost dC dI cy (va_A w0 sz) u) (va_A w0 sz)) 0 0 (va_A w0 sz) := by
  refine Met.ofW (cc := cX12_isWord) (maxL := 6) (ret := (some .boolean)) (by decide) rfl ?_
  intro p e s m args below meth c s₁ Bk hml hv
  obtain ⟨rfl, ⟨hsz, hP, hK, hD0⟩, hE, hSR⟩ := hv
  have hx := Bk.exec
  have hb := Bk.bytes
  have hr := Bk.returns
  have hlocks := Bk.notSynchronized
  have hC : CallFix p m c cX12_isWord 6 s _ wsX12_isWord RX12 := ⟨hx, hb, hml, findClass_of_methodNamed Bk.named, atoms_spec (ws := wsX12_isWord) Bk.pre⟩
  subst hsz
  have hD := hD0.self (sz := s.heap.size)
  generalize hAe : va_A w0 s.heap.size = A at hD hE ⊢
  have hA : ∀ q : Nat, s.heap.size ≤ q → A q := fun q h => by rw [← hAe]; exact Or.inr h
  have hw : Wd dC dI A s.heap s.heap [] w0 := ⟨hP, hD, va_S.rf⟩
  have hF : FE ksM [(12, 14, 14)] w0 w0 := FE.rf
  have hl := lv_entry ([.ref (ad 0), .long 1818846836]) (n := 6) (Nat.le_of_ble_eq_true rfl)
  rw [lg_entry_eq]
  generalize (lg_sl ([.ref (ad 0), .long 1818846836]) ++ List.replicate (6 - (lg_sl ([.ref (ad 0), .long 1818846836])).length) Slot.unset).toArray = ls at hl ⊢
  have hl : lv_has ls 6 [(0, .ref (ad 0)), (1, .long 1818846836)] := hl
  generalize hloc : ([] : List Loc) = locs at hw ⊢
  have hinX12 : ∀ w ∈ u_ws RX12 TX12 42, w ∈ wsX12_isWord := fun _ h => List.mem_cons_of_mem _ (List.mem_append_right _ (h))
  have J78 : ∀ (v78_3 : Int64) (v78_5 : Int32) (f78_0_1 : Int32) (f78_0_14 : Int32) (H : Heap) (locs : List Loc) (ls : Array Slot) (w1 : va_W), 0 ≤ v78_5.toInt → v78_5.toInt ≤ 400 → 0 ≤ f78_0_1.toInt → f78_0_1.toInt ≤ 400 → 0 ≤ f78_0_14.toInt → f78_0_14.toInt ≤ 400 → ((f78_0_14.toInt = f0_.toInt ∨ (gi w0 1 (f0_.toInt).toNat).toInt = 32)) → Wd dC dI A s.heap H locs w1 → TW ksM ad cy B qr 12 w1 → FE ksM [(12, 14, 14)] w0 w1 → gi w1 0 1 = f78_0_1 → gi w1 0 14 = f78_0_14 → lv_has ls 6 [(0, .ref (ad 0)), (1, .long 1818846836), (3, .long v78_3), (5, .int v78_5)] → W p l e ({ frames := 2, cells := 0, slots := 0, locals := 33 }) s m (List.toArray [.ref (ad 0), .long 1818846836]) below meth c H locs 0 0 (MQ below (va_Qi (P_X12_isWord_2 ad cy B qr s1  w0) (fun u : va_W => wpost dC dI cy A u) A) (List.toArray [.ref (ad 0), .long 1818846836]) s 0 0 A) (F0 m 78 ls []) := by
    intro v78_3 v78_5 f78_0_1 f78_0_14 H locs ls w1 r2 t3 r4 t5 r7 t8 hcr78_0 hw hT hF c6 c9 hl
    refine lv_iconst (v := 0) hx hb dX12_isWord_78 (by decide) ?_
    exact tk_zret hC hr rfl hlocks hK ⟨hT, hF, (Or.inl ⟨rfl, ⟨f78_0_1, c6, (show 0 ≤ f78_0_1.toInt by omega), (show f78_0_1.toInt ≤ 400 by omega)⟩, (by simp only [cf0_, c9]; omega)⟩)⟩ hw dX12_isWord_79
  have L10 : ∀ (n10 : Nat) (v10_3 : Int64) (v10_5 : Int32) (f10_0_1 : Int32) (f10_0_14 : Int32) (H : Heap) (locs : List Loc) (ls : Array Slot) (w10 : va_W), 0 ≤ v10_5.toInt → v10_5.toInt ≤ 400 → 0 ≤ f10_0_1.toInt → f10_0_1.toInt ≤ 400 → 0 ≤ f10_0_14.toInt → f10_0_14.toInt ≤ 400 → ((f10_0_14.toInt = f0_.toInt ∨ (gi w0 1 (f0_.toInt).toNat).toInt = 32)) → (400 - v10_5.toInt).toNat < n10 → Wd dC dI A s.heap H locs w10 → TW ksM ad cy B qr 12 w10 → FE ksM [(12, 14, 14)] w0 w10 → gi w10 0 1 = f10_0_1 → gi w10 0 14 = f10_0_14 → lv_has ls 6 [(0, .ref (ad 0)), (1, .long 1818846836), (3, .long v10_3), (5, .int v10_5)] → W p l e ({ frames := 2, cells := 0, slots := 0, locals := 33 }) s m (List.toArray [.ref (ad 0), .long 1818846836]) below meth c H locs 0 0 (MQ below (va_Qi (P_X12_isWord_2 ad cy B qr s1  w0) (fun u : va_W => wpost dC dI cy A u) A) (List.toArray [.ref (ad 0), .long 1818846836]) s 0 0 A) (F0 m 10 ls []) := by
    intro n10
    induction n10 with
    | zero => intro v10_3 v10_5 f10_0_1 f10_0_14 H locs ls w10 r11 t12 r13 t14 r16 t17 hcr10_0 hm10 hw hT hF c15 c18 hl; omega
    | succ n10 ih10 =>
      intro v10_3 v10_5 f10_0_1 f10_0_14 H locs ls w10 r11 t12 r13 t14 r16 t17 hcr10_0 hm10 hw hT hF c15 c18 hl
      have J50 : ∀ (v50_3 : Int64) (H : Heap) (locs : List Loc) (ls : Array Slot) (w19 : va_W), 0 ≤ v10_5.toInt → v10_5.toInt ≤ 399 → 1 ≤ f10_0_1.toInt → f10_0_1.toInt ≤ 400 → 0 ≤ f10_0_14.toInt → f10_0_14.toInt ≤ 399 → ((f10_0_14.toInt = f0_.toInt ∨ (gi w0 1 (f0_.toInt).toNat).toInt = 32)) → Wd dC dI A s.heap H locs w19 → TW ksM ad cy B qr 12 w19 → FE ksM [(12, 14, 14)] w0 w19 → gi w19 0 1 = f10_0_1 → gi w19 0 14 = f10_0_14 → lv_has ls 6 [(0, .ref (ad 0)), (1, .long 1818846836), (3, .long v50_3), (5, .int v10_5)] → W p l e ({ frames := 2, cells := 0, slots := 0, locals := 33 }) s m (List.toArray [.ref (ad 0), .long 1818846836]) below meth c H locs 0 0 (MQ below (va_Qi (P_X12_isWord_2 ad cy B qr s1  w0) (fun u : va_W => wpost dC dI cy A u) A) (List.toArray [.ref (ad 0), .long 1818846836]) s 0 0 A) (F0 m 50 ls []) := by
        intro v50_3 H locs ls w19 r20 t21 r22 t23 r25 t26 hcr50_0 hw hT hF c24 c27 hl
        obtain ⟨x28, ex28⟩ : ∃ y : Int32, y = v10_5 + Int32.ofInt 1 := ⟨_, rfl⟩
        refine lv_iinc (v := x28) (lv' := [(5, .int x28), (0, .ref (ad 0)), (1, .long 1818846836), (3, .long v50_3)]) hx hb dX12_isWord_50 hl (k := 3) rfl ex28.symm (by decide) rfl (fun ls hl => ?_)
        have ex28 : x28.toInt = v10_5.toInt + 1 := by rw [ex28]; exact wk_add (y := 1) (show -2147483648 ≤ v10_5.toInt + 1 by omega) (show v10_5.toInt + 1 ≤ 2147483647 by omega)
        refine lv_goto (tgt := 10) hx hb dX12_isWord_53 (by decide) ?_
        exact ih10 v50_3 x28 f10_0_1 f10_0_14 H locs ls w19 (show 0 ≤ x28.toInt by omega) (show x28.toInt ≤ 400 by omega) (show 0 ≤ f10_0_1.toInt by omega) (show f10_0_1.toInt ≤ 400 by omega) (show 0 ≤ f10_0_14.toInt by omega) (show f10_0_14.toInt ≤ 400 by omega) (show (f10_0_14.toInt = f0_.toInt ∨ (gi w0 1 (f0_.toInt).toNat).toInt = 32) by first | omega | assumption | (left; omega) | (left; decide) | (right; assumption)) (show (400 - x28.toInt).toNat < n10 by omega) hw hT hF c24 c27 (lv_sub hl [1, 2, 3, 0] rfl)
      refine lv_aload_n hx hb dX12_isWord_10 rfl (lv_at hl 0 rfl) ?_
      refine lv_aload_n hx hb dX12_isWord_11 rfl (lv_at hl 0 rfl) ?_
      refine tk_geti hC hK hw hT hinX12 kM_at0 (by decide) rfl 14 (by decide) (List.mem_of_getElem? (i := 1) rfl) rfl rfl dX12_isWord_12 (fun x29 c30 rx29 tx29 => ?_)
      refine wk_top f10_0_14 (c30.symm.trans c18) ?_
      refine lv_iload hx hb dX12_isWord_15 (lv_at hl 3 rfl) ?_
      refine lv_iadd hx hb dX12_isWord_17 ?_
      refine lv_topi (fun x31 ex31 => ?_)
      have ex31 : x31.toInt = f10_0_14.toInt + v10_5.toInt := by rw [ex31]; exact wk_add (show (-2147483648) ≤ f10_0_14.toInt + v10_5.toInt by omega) (show f10_0_14.toInt + v10_5.toInt ≤ 2147483647 by omega)
      refine tk_Vi hC hK hw hT hA hE hSR kM_at0 (by decide) rfl (k_X12_isLetter_1 l adK adV dC dI cy ad B (by omega) (by omega) qr s1   x31 (show 0 ≤ x31.toInt by omega) (show x31.toInt ≤ 800 by omega) w10 H.size hT ) (cwV 1 hC.2.2.2.2 gX12_isWord_X12_isLetter rfl rfl rfl (by decide +kernel) ⟨Nat.le_of_ble_eq_true rfl, Nat.le_of_ble_eq_true rfl⟩) rfl hl.1 rfl (Nat.le_of_ble_eq_true rfl) dX12_isWord_18 (fun r32 w34 H locs hp33 hw => ?_)
      obtain ⟨rfl, hg41⟩ := hp33
      rcases hg41 with ⟨rfl, ⟨x36, c37, rx36, tx36⟩⟩ | ⟨rfl, g38, ⟨x39, c40, rx39, tx39⟩⟩
      · have ex36 : x36.toInt = f10_0_1.toInt := by rw [← c15.symm.trans c37]
        refine lv_if_eq (tgt := 56) hx hb dX12_isWord_21 (by decide) (fun _ => ?_) (fun c => absurd (by decide) c)
        refine lv_iload hx hb dX12_isWord_56 (lv_at hl 3 rfl) ?_
        refine lv_if_le (tgt := 78) hx hb dX12_isWord_58 (by decide) (fun c42 => ?_) (fun c42 => ?_)
        · have c42 : v10_5.toInt ≤ (0 : Int) := wk_le.mp c42
          exact J78 v10_3 v10_5 f10_0_1 f10_0_14 H locs ls w10 (show 0 ≤ v10_5.toInt by omega) (show v10_5.toInt ≤ 400 by omega) (show 0 ≤ f10_0_1.toInt by omega) (show f10_0_1.toInt ≤ 400 by omega) (show 0 ≤ f10_0_14.toInt by omega) (show f10_0_14.toInt ≤ 400 by omega) (show (f10_0_14.toInt = f0_.toInt ∨ (gi w0 1 (f0_.toInt).toNat).toInt = 32) by first | omega | assumption | (left; omega) | (left; decide) | (right; assumption))  hw hT hF c15 c18 (lv_sub hl [0, 1, 2, 3] rfl)
        · have c42 : (0 : Int) < v10_5.toInt := wk_leF c42
          refine lv_iload hx hb dX12_isWord_61 (lv_at hl 3 rfl) ?_
          refine lv_bipush (v := 8) hx hb dX12_isWord_63 (by decide) ?_
          refine lv_icmp_ge (tgt := 78) hx hb dX12_isWord_65 (by decide) (fun c43 => ?_) (fun c43 => ?_)
          · have c43 : (8 : Int) ≤ v10_5.toInt := wk_le.mp c43
            exact J78 v10_3 v10_5 f10_0_1 f10_0_14 H locs ls w10 (show 0 ≤ v10_5.toInt by omega) (show v10_5.toInt ≤ 400 by omega) (show 0 ≤ f10_0_1.toInt by omega) (show f10_0_1.toInt ≤ 400 by omega) (show 0 ≤ f10_0_14.toInt by omega) (show f10_0_14.toInt ≤ 400 by omega) (show (f10_0_14.toInt = f0_.toInt ∨ (gi w0 1 (f0_.toInt).toNat).toInt = 32) by first | omega | assumption | (left; omega) | (left; decide) | (right; assumption))  hw hT hF c15 c18 (lv_sub hl [0, 1, 2, 3] rfl)
          · have c43 : v10_5.toInt < (8 : Int) := wk_leF c43
            refine lv_lload_n hx hb dX12_isWord_68 rfl (lv_at hl 2 rfl) ?_
            refine lv_lload_n hx hb dX12_isWord_69 rfl (lv_at hl 1 rfl) ?_
            refine W.lcmp hx hb dX12_isWord_70 ?_
            refine lv_if_ne (tgt := 78) hx hb dX12_isWord_71 (by decide) (fun c44 => ?_) (fun c44 => ?_)
            · have c44 : ¬ v10_3.toInt = (1818846836 : Int) := wk_ceF c44
              exact J78 v10_3 v10_5 f10_0_1 f10_0_14 H locs ls w10 (show 0 ≤ v10_5.toInt by omega) (show v10_5.toInt ≤ 400 by omega) (show 0 ≤ f10_0_1.toInt by omega) (show f10_0_1.toInt ≤ 400 by omega) (show 0 ≤ f10_0_14.toInt by omega) (show f10_0_14.toInt ≤ 400 by omega) (show (f10_0_14.toInt = f0_.toInt ∨ (gi w0 1 (f0_.toInt).toNat).toInt = 32) by first | omega | assumption | (left; omega) | (left; decide) | (right; assumption))  hw hT hF c15 c18 (lv_sub hl [0, 1, 2, 3] rfl)
            · have c44 : v10_3.toInt = (1818846836 : Int) := wk_ceT c44
              refine lv_iconst (v := 1) hx hb dX12_isWord_74 (by decide) ?_
              refine lv_goto (tgt := 79) hx hb dX12_isWord_75 (by decide) ?_
              exact tk_zret hC hr rfl hlocks hK ⟨hT, hF, (Or.inr ⟨rfl, ⟨f10_0_1, c15, (show 0 ≤ f10_0_1.toInt by omega), (show f10_0_1.toInt ≤ 400 by omega)⟩, (by simp only [cf0_, c18]; omega)⟩)⟩ hw dX12_isWord_79
      · have ex39 : x39.toInt = f10_0_1.toInt := by rw [← c15.symm.trans c40]
        refine lv_if_eq (tgt := 56) hx hb dX12_isWord_21 (by decide) (fun c => absurd c (by decide)) (fun _ => ?_)
        refine lv_iload hx hb dX12_isWord_24 (lv_at hl 3 rfl) ?_
        refine lv_bipush (v := 8) hx hb dX12_isWord_26 (by decide) ?_
        refine lv_icmp_ge (tgt := 50) hx hb dX12_isWord_28 (by decide) (fun c45 => ?_) (fun c45 => ?_)
        · have c45 : (8 : Int) ≤ v10_5.toInt := wk_le.mp c45
          exact J50 v10_3 H locs ls w10 (show 0 ≤ v10_5.toInt by omega) (show v10_5.toInt ≤ 399 by omega) (show 1 ≤ f10_0_1.toInt by omega) (show f10_0_1.toInt ≤ 400 by omega) (show 0 ≤ f10_0_14.toInt by omega) (show f10_0_14.toInt ≤ 399 by omega) (show (f10_0_14.toInt = f0_.toInt ∨ (gi w0 1 (f0_.toInt).toNat).toInt = 32) by first | omega | assumption | (left; omega) | (left; decide) | (right; assumption))  hw hT hF c15 c18 (lv_sub hl [0, 1, 2, 3] rfl)
        · have c45 : v10_5.toInt < (8 : Int) := wk_leF c45
          refine lv_lload_n hx hb dX12_isWord_31 rfl (lv_at hl 2 rfl) ?_
          refine lv_bipush (v := 8) hx hb dX12_isWord_32 (by decide) ?_
          refine lv_lshl hx hb dX12_isWord_34 rfl ?_
          refine lv_topl (fun x46 ex46 => ?_)
          refine lv_aload_n hx hb dX12_isWord_35 rfl (lv_at hl 0 rfl) ?_
          refine tk_getA hC hK hw hT hinX12 kM_at0 (by decide) rfl 0 (by decide) (List.mem_of_getElem? (i := 2) rfl) rfl rfl dX12_isWord_36 ?_
          refine lv_aload_n hx hb dX12_isWord_39 rfl (lv_at hl 0 rfl) ?_
          refine tk_geti hC hK hw hT hinX12 kM_at0 (by decide) rfl 14 (by decide) (List.mem_of_getElem? (i := 1) rfl) rfl rfl dX12_isWord_40 (fun x47 c48 rx47 tx47 => ?_)
          refine wk_top f10_0_14 (c48.symm.trans c18) ?_
          refine lv_iload hx hb dX12_isWord_43 (lv_at hl 3 rfl) ?_
          refine lv_iadd hx hb dX12_isWord_45 ?_
          refine lv_topi (fun x49 ex49 => ?_)
          have ex49 : x49.toInt = f10_0_14.toInt + v10_5.toInt := by rw [ex49]; exact wk_add (show (-2147483648) ≤ f10_0_14.toInt + v10_5.toInt by omega) (show f10_0_14.toInt + v10_5.toInt ≤ 2147483647 by omega)
          refine tk_bald hC hK hw hT kM_at1 rfl rfl (show 0 ≤ x49.toInt by omega) (show x49.toInt < 400 by omega) dX12_isWord_46 (fun x50 c51 rx50 tx50 => ?_)
          have c51 : gi w10 1 (1 * f10_0_14.toInt + 1 * v10_5.toInt + 0).toNat = x50 := (congrArg (gi w10 1) (congrArg Int.toNat (show 1 * f10_0_14.toInt + 1 * v10_5.toInt + 0 = x49.toInt by omega))).trans c51
          refine lv_i2l hx hb dX12_isWord_47 rfl ?_
          refine lv_topl (fun x52 ex52 => ?_)
          have ex52 : x52.toInt = x50.toInt := by rw [ex52]; exact wk_i2l _
          have bx52 := wk_i32 x50
          refine lv_lor hx hb dX12_isWord_48 ?_
          refine lv_topl (fun x53 ex53 => ?_)
          refine lv_lstore_n (lv' := [(3, .long x53), (0, .ref (ad 0)), (1, .long 1818846836), (5, .int v10_5)]) hx hb dX12_isWord_49 rfl hl (by decide) rfl (fun ls hl => ?_)
          exact J50 x53 H locs ls w10 (show 0 ≤ v10_5.toInt by omega) (show v10_5.toInt ≤ 399 by omega) (show 1 ≤ f10_0_1.toInt by omega) (show f10_0_1.toInt ≤ 400 by omega) (show 0 ≤ f10_0_14.toInt by omega) (show f10_0_14.toInt ≤ 399 by omega) (show (f10_0_14.toInt = f0_.toInt ∨ (gi w0 1 (f0_.toInt).toNat).toInt = 32) by first | omega | assumption | (left; omega) | (left; decide) | (right; assumption) | (right; rw [c51]; omega) | (right; rw [c51]; decide))  hw hT hF c15 c18 (lv_sub hl [1, 2, 0, 3] rfl)
  refine lv_aload_n hx hb dX12_isWord_0 rfl (lv_at hl 0 rfl) ?_
  refine tk_Vi hC hK hw hT hA hE hSR kM_at0 (by decide) rfl (k_X12_see_1 l adK adV dC dI cy ad B (by omega) (by omega) qr s1    w0 s.heap.size hT f0_ cf0_ (show 0 ≤ f0_.toInt by omega) (show f0_.toInt ≤ 400 by omega)) (cwV 0 hC.2.2.2.2 gX12_isWord_X12_see rfl rfl rfl (by decide +kernel) ⟨Nat.le_of_ble_eq_true rfl, Nat.le_of_ble_eq_true rfl⟩) rfl hl.1 rfl (Nat.le_of_ble_eq_true rfl) dX12_isWord_1 (fun r54 w56 H locs hp55 hw => ?_)
  obtain ⟨hT, k57, hg74⟩ := hp55
  have hF := hF.tr k57 (by decide)
  rcases hg74 with ⟨g58, g59, ⟨x60, c61, rx60, tx60⟩, ⟨x62, c63, rx62, tx62⟩, g64, g65⟩ | ⟨rfl, ⟨x66, c67, rx66, tx66⟩, ⟨x68, c69, rx68, tx68⟩, g70⟩ | ⟨rfl, ⟨x71, c72, rx71, tx71⟩, g73⟩
  · have g64 : (gi w56 1 (x62.toInt).toNat).toInt ≠ 32 := by have q := g64; simp only [c63] at q; omega
    have g65 : (x62.toInt = f0_.toInt ∨ (gi w0 1 (f0_.toInt).toNat).toInt = 32) := by have q := g65; simp only [cf0_, c63] at q; omega
    refine lv_pop hx hb dX12_isWord_4 rfl ?_
    refine lv_lconst (v := 0) hx hb dX12_isWord_5 (by decide) ?_
    refine lv_lstore_n (lv' := [(3, .long 0), (0, .ref (ad 0)), (1, .long 1818846836)]) hx hb dX12_isWord_6 rfl hl (by decide) rfl (fun ls hl => ?_)
    refine lv_iconst (v := 0) hx hb dX12_isWord_7 (by decide) ?_
    refine lv_istore (lv' := [(5, .int 0), (3, .long 0), (0, .ref (ad 0)), (1, .long 1818846836)]) hx hb dX12_isWord_8 hl (by decide) rfl (fun ls hl => ?_)
    exact L10 ((400 - (0 : Int)).toNat + 1) 0 0 x60 x62 H locs ls w56 (by decide) (by decide) (show 0 ≤ x60.toInt by omega) (show x60.toInt ≤ 400 by omega) (show 0 ≤ x62.toInt by omega) (show x62.toInt ≤ 400 by omega) (show (x62.toInt = f0_.toInt ∨ (gi w0 1 (f0_.toInt).toNat).toInt = 32) by first | omega | assumption | (left; omega) | (left; decide) | (right; assumption)) (Nat.lt_succ_self _) hw hT hF c61 c63 (lv_sub hl [2, 3, 1, 0] rfl)
  · have g70 : (x68.toInt = f0_.toInt ∨ (gi w0 1 (f0_.toInt).toNat).toInt = 32) := by have q := g70; simp only [cf0_, c69] at q; omega
    refine lv_pop hx hb dX12_isWord_4 rfl ?_
    refine lv_lconst (v := 0) hx hb dX12_isWord_5 (by decide) ?_
    refine lv_lstore_n (lv' := [(3, .long 0), (0, .ref (ad 0)), (1, .long 1818846836)]) hx hb dX12_isWord_6 rfl hl (by decide) rfl (fun ls hl => ?_)
    refine lv_iconst (v := 0) hx hb dX12_isWord_7 (by decide) ?_
    refine lv_istore (lv' := [(5, .int 0), (3, .long 0), (0, .ref (ad 0)), (1, .long 1818846836)]) hx hb dX12_isWord_8 hl (by decide) rfl (fun ls hl => ?_)
    exact L10 ((400 - (0 : Int)).toNat + 1) 0 0 x66 x68 H locs ls w56 (by decide) (by decide) (show 0 ≤ x66.toInt by omega) (show x66.toInt ≤ 400 by omega) (show 0 ≤ x68.toInt by omega) (show x68.toInt ≤ 400 by omega) (show (x68.toInt = f0_.toInt ∨ (gi w0 1 (f0_.toInt).toNat).toInt = 32) by first | omega | assumption | (left; omega) | (left; decide) | (right; assumption)) (Nat.lt_succ_self _) hw hT hF c67 c69 (lv_sub hl [2, 3, 1, 0] rfl)
  · obtain ⟨x75, c76, rx75, tx75⟩ := hT.rdi (lo := 0) (hi := 400) (k := 14) kM_at0 (by decide) rfl
    have g73 : (x75.toInt = f0_.toInt ∨ (gi w0 1 (f0_.toInt).toNat).toInt = 32) := by have q := g73; simp only [cf0_, c76] at q; omega
    refine lv_pop hx hb dX12_isWord_4 rfl ?_
    refine lv_lconst (v := 0) hx hb dX12_isWord_5 (by decide) ?_
    refine lv_lstore_n (lv' := [(3, .long 0), (0, .ref (ad 0)), (1, .long 1818846836)]) hx hb dX12_isWord_6 rfl hl (by decide) rfl (fun ls hl => ?_)
    refine lv_iconst (v := 0) hx hb dX12_isWord_7 (by decide) ?_
    refine lv_istore (lv' := [(5, .int 0), (3, .long 0), (0, .ref (ad 0)), (1, .long 1818846836)]) hx hb dX12_isWord_8 hl (by decide) rfl (fun ls hl => ?_)
    exact L10 ((400 - (0 : Int)).toNat + 1) 0 0 x71 x75 H locs ls w56 (by decide) (by decide) (show 0 ≤ x71.toInt by omega) (show x71.toInt ≤ 400 by omega) (show 0 ≤ x75.toInt by omega) (show x75.toInt ≤ 400 by omega) (show (x75.toInt = f0_.toInt ∨ (gi w0 1 (f0_.toInt).toNat).toInt = 32) by first | omega | assumption | (left; omega) | (left; decide) | (right; assumption)) (Nat.lt_succ_self _) hw hT hF c72 c76 (lv_sub hl [2, 3, 1, 0] rfl)
abbrev P_X12_isWord_3 (ad : Nat → Nat) (cy : Nat → ClassId) (B : Int) (qr : Nat) (s1 : Int)  (w0 : va_W) : Int32 → va_W → Prop := fun r u => TW ksM ad cy B qr 12 u ∧ FE ksM [(12, 14, 14)] w0 u ∧ ((r = 0 ∧ (∃ y : Int32, gi u 0 1 = y ∧ 0 ≤ y.toInt ∧ y.toInt ≤ 400) ∧ (((gi u 0 14).toInt = (gi w0 0 14).toInt ∨ (gi w0 1 ((gi w0 0 14).toInt).toNat).toInt = 32))) ∨ (r = 1 ∧ (∃ y : Int32, gi u 0 1 = y ∧ 0 ≤ y.toInt ∧ y.toInt ≤ 400) ∧ (((gi u 0 14).toInt = (gi w0 0 14).toInt ∨ (gi w0 1 ((gi w0 0 14).toInt).toNat).toInt = 32))))
set_option maxHeartbeats 4000000 in
set_option maxRecDepth 100000 in
theorem k_X12_isWord_3 (l : Launch) (adK adV : Nat → Nat) (dC : Nat → ClassId) (dI : Nat → Nat → Nat) (cy : Nat → ClassId) (ad : Nat → Nat) (B : Int) (hB0 : 100000 ≤ B) (hB1 : B ≤ 1073741824) (qr : Nat) (s1 : Int)   (w0 : va_W) (sz : Nat) (hT : TW ksM ad cy B qr 12 w0) (f0_ : Int32) (cf0_ : gi w0 0 14 = f0_) (rf0_ : 0 ≤ f0_.toInt) (tf0_ : f0_.toInt ≤ 400) : Met l yX12_isWord wsX12_isWord ({ frames := 2, cells := 0, slots := 0, locals := 33 }) (va_Pc [.ref (ad 0), .long 27988559963452019] (wpreS adK adV dC dI cy sz w0)) (va_Qi (P_X12_isWord_3 ad cy B qr s1  w0) (fun u : va_W => wpost dC dI cy (va_A w0 sz) u) (va_A w0 sz)) 0 0 (va_A w0 sz) := by
  refine Met.ofW (cc := cX12_isWord) (maxL := 6) (ret := (some .boolean)) (by decide) rfl ?_
  intro p e s m args below meth c s₁ Bk hml hv
  obtain ⟨rfl, ⟨hsz, hP, hK, hD0⟩, hE, hSR⟩ := hv
  have hx := Bk.exec
  have hb := Bk.bytes
  have hr := Bk.returns
  have hlocks := Bk.notSynchronized
  have hC : CallFix p m c cX12_isWord 6 s _ wsX12_isWord RX12 := ⟨hx, hb, hml, findClass_of_methodNamed Bk.named, atoms_spec (ws := wsX12_isWord) Bk.pre⟩
  subst hsz
  have hD := hD0.self (sz := s.heap.size)
  generalize hAe : va_A w0 s.heap.size = A at hD hE ⊢
  have hA : ∀ q : Nat, s.heap.size ≤ q → A q := fun q h => by rw [← hAe]; exact Or.inr h
  have hw : Wd dC dI A s.heap s.heap [] w0 := ⟨hP, hD, va_S.rf⟩
  have hF : FE ksM [(12, 14, 14)] w0 w0 := FE.rf
  have hl := lv_entry ([.ref (ad 0), .long 27988559963452019]) (n := 6) (Nat.le_of_ble_eq_true rfl)
  rw [lg_entry_eq]
  generalize (lg_sl ([.ref (ad 0), .long 27988559963452019]) ++ List.replicate (6 - (lg_sl ([.ref (ad 0), .long 27988559963452019])).length) Slot.unset).toArray = ls at hl ⊢
  have hl : lv_has ls 6 [(0, .ref (ad 0)), (1, .long 27988559963452019)] := hl
  generalize hloc : ([] : List Loc) = locs at hw ⊢
  have hinX12 : ∀ w ∈ u_ws RX12 TX12 42, w ∈ wsX12_isWord := fun _ h => List.mem_cons_of_mem _ (List.mem_append_right _ (h))
  have J78 : ∀ (v78_3 : Int64) (v78_5 : Int32) (f78_0_1 : Int32) (f78_0_14 : Int32) (H : Heap) (locs : List Loc) (ls : Array Slot) (w1 : va_W), 0 ≤ v78_5.toInt → v78_5.toInt ≤ 400 → 0 ≤ f78_0_1.toInt → f78_0_1.toInt ≤ 400 → 0 ≤ f78_0_14.toInt → f78_0_14.toInt ≤ 400 → ((f78_0_14.toInt = f0_.toInt ∨ (gi w0 1 (f0_.toInt).toNat).toInt = 32)) → Wd dC dI A s.heap H locs w1 → TW ksM ad cy B qr 12 w1 → FE ksM [(12, 14, 14)] w0 w1 → gi w1 0 1 = f78_0_1 → gi w1 0 14 = f78_0_14 → lv_has ls 6 [(0, .ref (ad 0)), (1, .long 27988559963452019), (3, .long v78_3), (5, .int v78_5)] → W p l e ({ frames := 2, cells := 0, slots := 0, locals := 33 }) s m (List.toArray [.ref (ad 0), .long 27988559963452019]) below meth c H locs 0 0 (MQ below (va_Qi (P_X12_isWord_3 ad cy B qr s1  w0) (fun u : va_W => wpost dC dI cy A u) A) (List.toArray [.ref (ad 0), .long 27988559963452019]) s 0 0 A) (F0 m 78 ls []) := by
    intro v78_3 v78_5 f78_0_1 f78_0_14 H locs ls w1 r2 t3 r4 t5 r7 t8 hcr78_0 hw hT hF c6 c9 hl
    refine lv_iconst (v := 0) hx hb dX12_isWord_78 (by decide) ?_
    exact tk_zret hC hr rfl hlocks hK ⟨hT, hF, (Or.inl ⟨rfl, ⟨f78_0_1, c6, (show 0 ≤ f78_0_1.toInt by omega), (show f78_0_1.toInt ≤ 400 by omega)⟩, (by simp only [cf0_, c9]; omega)⟩)⟩ hw dX12_isWord_79
  have L10 : ∀ (n10 : Nat) (v10_3 : Int64) (v10_5 : Int32) (f10_0_1 : Int32) (f10_0_14 : Int32) (H : Heap) (locs : List Loc) (ls : Array Slot) (w10 : va_W), 0 ≤ v10_5.toInt → v10_5.toInt ≤ 400 → 0 ≤ f10_0_1.toInt → f10_0_1.toInt ≤ 400 → 0 ≤ f10_0_14.toInt → f10_0_14.toInt ≤ 400 → ((f10_0_14.toInt = f0_.toInt ∨ (gi w0 1 (f0_.toInt).toNat).toInt = 32)) → (400 - v10_5.toInt).toNat < n10 → Wd dC dI A s.heap H locs w10 → TW ksM ad cy B qr 12 w10 → FE ksM [(12, 14, 14)] w0 w10 → gi w10 0 1 = f10_0_1 → gi w10 0 14 = f10_0_14 → lv_has ls 6 [(0, .ref (ad 0)), (1, .long 27988559963452019), (3, .long v10_3), (5, .int v10_5)] → W p l e ({ frames := 2, cells := 0, slots := 0, locals := 33 }) s m (List.toArray [.ref (ad 0), .long 27988559963452019]) below meth c H locs 0 0 (MQ below (va_Qi (P_X12_isWord_3 ad cy B qr s1  w0) (fun u : va_W => wpost dC dI cy A u) A) (List.toArray [.ref (ad 0), .long 27988559963452019]) s 0 0 A) (F0 m 10 ls []) := by
    intro n10
    induction n10 with
    | zero => intro v10_3 v10_5 f10_0_1 f10_0_14 H locs ls w10 r11 t12 r13 t14 r16 t17 hcr10_0 hm10 hw hT hF c15 c18 hl; omega
    | succ n10 ih10 =>
      intro v10_3 v10_5 f10_0_1 f10_0_14 H locs ls w10 r11 t12 r13 t14 r16 t17 hcr10_0 hm10 hw hT hF c15 c18 hl
      have J50 : ∀ (v50_3 : Int64) (H : Heap) (locs : List Loc) (ls : Array Slot) (w19 : va_W), 0 ≤ v10_5.toInt → v10_5.toInt ≤ 399 → 1 ≤ f10_0_1.toInt → f10_0_1.toInt ≤ 400 → 0 ≤ f10_0_14.toInt → f10_0_14.toInt ≤ 399 → ((f10_0_14.toInt = f0_.toInt ∨ (gi w0 1 (f0_.toInt).toNat).toInt = 32)) → Wd dC dI A s.heap H locs w19 → TW ksM ad cy B qr 12 w19 → FE ksM [(12, 14, 14)] w0 w19 → gi w19 0 1 = f10_0_1 → gi w19 0 14 = f10_0_14 → lv_has ls 6 [(0, .ref (ad 0)), (1, .long 27988559963452019), (3, .long v50_3), (5, .int v10_5)] → W p l e ({ frames := 2, cells := 0, slots := 0, locals := 33 }) s m (List.toArray [.ref (ad 0), .long 27988559963452019]) below meth c H locs 0 0 (MQ below (va_Qi (P_X12_isWord_3 ad cy B qr s1  w0) (fun u : va_W => wpost dC dI cy A u) A) (List.toArray [.ref (ad 0), .long 27988559963452019]) s 0 0 A) (F0 m 50 ls []) := by
        intro v50_3 H locs ls w19 r20 t21 r22 t23 r25 t26 hcr50_0 hw hT hF c24 c27 hl
        obtain ⟨x28, ex28⟩ : ∃ y : Int32, y = v10_5 + Int32.ofInt 1 := ⟨_, rfl⟩
        refine lv_iinc (v := x28) (lv' := [(5, .int x28), (0, .ref (ad 0)), (1, .long 27988559963452019), (3, .long v50_3)]) hx hb dX12_isWord_50 hl (k := 3) rfl ex28.symm (by decide) rfl (fun ls hl => ?_)
        have ex28 : x28.toInt = v10_5.toInt + 1 := by rw [ex28]; exact wk_add (y := 1) (show -2147483648 ≤ v10_5.toInt + 1 by omega) (show v10_5.toInt + 1 ≤ 2147483647 by omega)
        refine lv_goto (tgt := 10) hx hb dX12_isWord_53 (by decide) ?_
        exact ih10 v50_3 x28 f10_0_1 f10_0_14 H locs ls w19 (show 0 ≤ x28.toInt by omega) (show x28.toInt ≤ 400 by omega) (show 0 ≤ f10_0_1.toInt by omega) (show f10_0_1.toInt ≤ 400 by omega) (show 0 ≤ f10_0_14.toInt by omega) (show f10_0_14.toInt ≤ 400 by omega) (show (f10_0_14.toInt = f0_.toInt ∨ (gi w0 1 (f0_.toInt).toNat).toInt = 32) by first | omega | assumption | (left; omega) | (left; decide) | (right; assumption)) (show (400 - x28.toInt).toNat < n10 by omega) hw hT hF c24 c27 (lv_sub hl [1, 2, 3, 0] rfl)
      refine lv_aload_n hx hb dX12_isWord_10 rfl (lv_at hl 0 rfl) ?_
      refine lv_aload_n hx hb dX12_isWord_11 rfl (lv_at hl 0 rfl) ?_
      refine tk_geti hC hK hw hT hinX12 kM_at0 (by decide) rfl 14 (by decide) (List.mem_of_getElem? (i := 1) rfl) rfl rfl dX12_isWord_12 (fun x29 c30 rx29 tx29 => ?_)
      refine wk_top f10_0_14 (c30.symm.trans c18) ?_
      refine lv_iload hx hb dX12_isWord_15 (lv_at hl 3 rfl) ?_
      refine lv_iadd hx hb dX12_isWord_17 ?_
      refine lv_topi (fun x31 ex31 => ?_)
      have ex31 : x31.toInt = f10_0_14.toInt + v10_5.toInt := by rw [ex31]; exact wk_add (show (-2147483648) ≤ f10_0_14.toInt + v10_5.toInt by omega) (show f10_0_14.toInt + v10_5.toInt ≤ 2147483647 by omega)
      refine tk_Vi hC hK hw hT hA hE hSR kM_at0 (by decide) rfl (k_X12_isLetter_1 l adK adV dC dI cy ad B (by omega) (by omega) qr s1   x31 (show 0 ≤ x31.toInt by omega) (show x31.toInt ≤ 800 by omega) w10 H.size hT ) (cwV 1 hC.2.2.2.2 gX12_isWord_X12_isLetter rfl rfl rfl (by decide +kernel) ⟨Nat.le_of_ble_eq_true rfl, Nat.le_of_ble_eq_true rfl⟩) rfl hl.1 rfl (Nat.le_of_ble_eq_true rfl) dX12_isWord_18 (fun r32 w34 H locs hp33 hw => ?_)
      obtain ⟨rfl, hg41⟩ := hp33
      rcases hg41 with ⟨rfl, ⟨x36, c37, rx36, tx36⟩⟩ | ⟨rfl, g38, ⟨x39, c40, rx39, tx39⟩⟩
      · have ex36 : x36.toInt = f10_0_1.toInt := by rw [← c15.symm.trans c37]
        refine lv_if_eq (tgt := 56) hx hb dX12_isWord_21 (by decide) (fun _ => ?_) (fun c => absurd (by decide) c)
        refine lv_iload hx hb dX12_isWord_56 (lv_at hl 3 rfl) ?_
        refine lv_if_le (tgt := 78) hx hb dX12_isWord_58 (by decide) (fun c42 => ?_) (fun c42 => ?_)
        · have c42 : v10_5.toInt ≤ (0 : Int) := wk_le.mp c42
          exact J78 v10_3 v10_5 f10_0_1 f10_0_14 H locs ls w10 (show 0 ≤ v10_5.toInt by omega) (show v10_5.toInt ≤ 400 by omega) (show 0 ≤ f10_0_1.toInt by omega) (show f10_0_1.toInt ≤ 400 by omega) (show 0 ≤ f10_0_14.toInt by omega) (show f10_0_14.toInt ≤ 400 by omega) (show (f10_0_14.toInt = f0_.toInt ∨ (gi w0 1 (f0_.toInt).toNat).toInt = 32) by first | omega | assumption | (left; omega) | (left; decide) | (right; assumption))  hw hT hF c15 c18 (lv_sub hl [0, 1, 2, 3] rfl)
        · have c42 : (0 : Int) < v10_5.toInt := wk_leF c42
          refine lv_iload hx hb dX12_isWord_61 (lv_at hl 3 rfl) ?_
          refine lv_bipush (v := 8) hx hb dX12_isWord_63 (by decide) ?_
          refine lv_icmp_ge (tgt := 78) hx hb dX12_isWord_65 (by decide) (fun c43 => ?_) (fun c43 => ?_)
          · have c43 : (8 : Int) ≤ v10_5.toInt := wk_le.mp c43
            exact J78 v10_3 v10_5 f10_0_1 f10_0_14 H locs ls w10 (show 0 ≤ v10_5.toInt by omega) (show v10_5.toInt ≤ 400 by omega) (show 0 ≤ f10_0_1.toInt by omega) (show f10_0_1.toInt ≤ 400 by omega) (show 0 ≤ f10_0_14.toInt by omega) (show f10_0_14.toInt ≤ 400 by omega) (show (f10_0_14.toInt = f0_.toInt ∨ (gi w0 1 (f0_.toInt).toNat).toInt = 32) by first | omega | assumption | (left; omega) | (left; decide) | (right; assumption))  hw hT hF c15 c18 (lv_sub hl [0, 1, 2, 3] rfl)
          · have c43 : v10_5.toInt < (8 : Int) := wk_leF c43
            refine lv_lload_n hx hb dX12_isWord_68 rfl (lv_at hl 2 rfl) ?_
            refine lv_lload_n hx hb dX12_isWord_69 rfl (lv_at hl 1 rfl) ?_
            refine W.lcmp hx hb dX12_isWord_70 ?_
            refine lv_if_ne (tgt := 78) hx hb dX12_isWord_71 (by decide) (fun c44 => ?_) (fun c44 => ?_)
            · have c44 : ¬ v10_3.toInt = (27988559963452019 : Int) := wk_ceF c44
              exact J78 v10_3 v10_5 f10_0_1 f10_0_14 H locs ls w10 (show 0 ≤ v10_5.toInt by omega) (show v10_5.toInt ≤ 400 by omega) (show 0 ≤ f10_0_1.toInt by omega) (show f10_0_1.toInt ≤ 400 by omega) (show 0 ≤ f10_0_14.toInt by omega) (show f10_0_14.toInt ≤ 400 by omega) (show (f10_0_14.toInt = f0_.toInt ∨ (gi w0 1 (f0_.toInt).toNat).toInt = 32) by first | omega | assumption | (left; omega) | (left; decide) | (right; assumption))  hw hT hF c15 c18 (lv_sub hl [0, 1, 2, 3] rfl)
            · have c44 : v10_3.toInt = (27988559963452019 : Int) := wk_ceT c44
              refine lv_iconst (v := 1) hx hb dX12_isWord_74 (by decide) ?_
              refine lv_goto (tgt := 79) hx hb dX12_isWord_75 (by decide) ?_
              exact tk_zret hC hr rfl hlocks hK ⟨hT, hF, (Or.inr ⟨rfl, ⟨f10_0_1, c15, (show 0 ≤ f10_0_1.toInt by omega), (show f10_0_1.toInt ≤ 400 by omega)⟩, (by simp only [cf0_, c18]; omega)⟩)⟩ hw dX12_isWord_79
      · have ex39 : x39.toInt = f10_0_1.toInt := by rw [← c15.symm.trans c40]
        refine lv_if_eq (tgt := 56) hx hb dX12_isWord_21 (by decide) (fun c => absurd c (by decide)) (fun _ => ?_)
        refine lv_iload hx hb dX12_isWord_24 (lv_at hl 3 rfl) ?_
        refine lv_bipush (v := 8) hx hb dX12_isWord_26 (by decide) ?_
        refine lv_icmp_ge (tgt := 50) hx hb dX12_isWord_28 (by decide) (fun c45 => ?_) (fun c45 => ?_)
        · have c45 : (8 : Int) ≤ v10_5.toInt := wk_le.mp c45
          exact J50 v10_3 H locs ls w10 (show 0 ≤ v10_5.toInt by omega) (show v10_5.toInt ≤ 399 by omega) (show 1 ≤ f10_0_1.toInt by omega) (show f10_0_1.toInt ≤ 400 by omega) (show 0 ≤ f10_0_14.toInt by omega) (show f10_0_14.toInt ≤ 399 by omega) (show (f10_0_14.toInt = f0_.toInt ∨ (gi w0 1 (f0_.toInt).toNat).toInt = 32) by first | omega | assumption | (left; omega) | (left; decide) | (right; assumption))  hw hT hF c15 c18 (lv_sub hl [0, 1, 2, 3] rfl)
        · have c45 : v10_5.toInt < (8 : Int) := wk_leF c45
          refine lv_lload_n hx hb dX12_isWord_31 rfl (lv_at hl 2 rfl) ?_
          refine lv_bipush (v := 8) hx hb dX12_isWord_32 (by decide) ?_
          refine lv_lshl hx hb dX12_isWord_34 rfl ?_
          refine lv_topl (fun x46 ex46 => ?_)
          refine lv_aload_n hx hb dX12_isWord_35 rfl (lv_at hl 0 rfl) ?_
          refine tk_getA hC hK hw hT hinX12 kM_at0 (by decide) rfl 0 (by decide) (List.mem_of_getElem? (i := 2) rfl) rfl rfl dX12_isWord_36 ?_
          refine lv_aload_n hx hb dX12_isWord_39 rfl (lv_at hl 0 rfl) ?_
          refine tk_geti hC hK hw hT hinX12 kM_at0 (by decide) rfl 14 (by decide) (List.mem_of_getElem? (i := 1) rfl) rfl rfl dX12_isWord_40 (fun x47 c48 rx47 tx47 => ?_)
          refine wk_top f10_0_14 (c48.symm.trans c18) ?_
          refine lv_iload hx hb dX12_isWord_43 (lv_at hl 3 rfl) ?_
          refine lv_iadd hx hb dX12_isWord_45 ?_
          refine lv_topi (fun x49 ex49 => ?_)
          have ex49 : x49.toInt = f10_0_14.toInt + v10_5.toInt := by rw [ex49]; exact wk_add (show (-2147483648) ≤ f10_0_14.toInt + v10_5.toInt by omega) (show f10_0_14.toInt + v10_5.toInt ≤ 2147483647 by omega)
          refine tk_bald hC hK hw hT kM_at1 rfl rfl (show 0 ≤ x49.toInt by omega) (show x49.toInt < 400 by omega) dX12_isWord_46 (fun x50 c51 rx50 tx50 => ?_)
          have c51 : gi w10 1 (1 * f10_0_14.toInt + 1 * v10_5.toInt + 0).toNat = x50 := (congrArg (gi w10 1) (congrArg Int.toNat (show 1 * f10_0_14.toInt + 1 * v10_5.toInt + 0 = x49.toInt by omega))).trans c51
          refine lv_i2l hx hb dX12_isWord_47 rfl ?_
          refine lv_topl (fun x52 ex52 => ?_)
          have ex52 : x52.toInt = x50.toInt := by rw [ex52]; exact wk_i2l _
          have bx52 := wk_i32 x50
          refine lv_lor hx hb dX12_isWord_48 ?_
          refine lv_topl (fun x53 ex53 => ?_)
          refine lv_lstore_n (lv' := [(3, .long x53), (0, .ref (ad 0)), (1, .long 27988559963452019), (5, .int v10_5)]) hx hb dX12_isWord_49 rfl hl (by decide) rfl (fun ls hl => ?_)
          exact J50 x53 H locs ls w10 (show 0 ≤ v10_5.toInt by omega) (show v10_5.toInt ≤ 399 by omega) (show 1 ≤ f10_0_1.toInt by omega) (show f10_0_1.toInt ≤ 400 by omega) (show 0 ≤ f10_0_14.toInt by omega) (show f10_0_14.toInt ≤ 399 by omega) (show (f10_0_14.toInt = f0_.toInt ∨ (gi w0 1 (f0_.toInt).toNat).toInt = 32) by first | omega | assumption | (left; omega) | (left; decide) | (right; assumption) | (right; rw [c51]; omega) | (right; rw [c51]; decide))  hw hT hF c15 c18 (lv_sub hl [1, 2, 0, 3] rfl)
  refine lv_aload_n hx hb dX12_isWord_0 rfl (lv_at hl 0 rfl) ?_
  refine tk_Vi hC hK hw hT hA hE hSR kM_at0 (by decide) rfl (k_X12_see_1 l adK adV dC dI cy ad B (by omega) (by omega) qr s1    w0 s.heap.size hT f0_ cf0_ (show 0 ≤ f0_.toInt by omega) (show f0_.toInt ≤ 400 by omega)) (cwV 0 hC.2.2.2.2 gX12_isWord_X12_see rfl rfl rfl (by decide +kernel) ⟨Nat.le_of_ble_eq_true rfl, Nat.le_of_ble_eq_true rfl⟩) rfl hl.1 rfl (Nat.le_of_ble_eq_true rfl) dX12_isWord_1 (fun r54 w56 H locs hp55 hw => ?_)
  obtain ⟨hT, k57, hg74⟩ := hp55
  have hF := hF.tr k57 (by decide)
  rcases hg74 with ⟨g58, g59, ⟨x60, c61, rx60, tx60⟩, ⟨x62, c63, rx62, tx62⟩, g64, g65⟩ | ⟨rfl, ⟨x66, c67, rx66, tx66⟩, ⟨x68, c69, rx68, tx68⟩, g70⟩ | ⟨rfl, ⟨x71, c72, rx71, tx71⟩, g73⟩
  · have g64 : (gi w56 1 (x62.toInt).toNat).toInt ≠ 32 := by have q := g64; simp only [c63] at q; omega
    have g65 : (x62.toInt = f0_.toInt ∨ (gi w0 1 (f0_.toInt).toNat).toInt = 32) := by have q := g65; simp only [cf0_, c63] at q; omega
    refine lv_pop hx hb dX12_isWord_4 rfl ?_
    refine lv_lconst (v := 0) hx hb dX12_isWord_5 (by decide) ?_
    refine lv_lstore_n (lv' := [(3, .long 0), (0, .ref (ad 0)), (1, .long 27988559963452019)]) hx hb dX12_isWord_6 rfl hl (by decide) rfl (fun ls hl => ?_)
    refine lv_iconst (v := 0) hx hb dX12_isWord_7 (by decide) ?_
    refine lv_istore (lv' := [(5, .int 0), (3, .long 0), (0, .ref (ad 0)), (1, .long 27988559963452019)]) hx hb dX12_isWord_8 hl (by decide) rfl (fun ls hl => ?_)
    exact L10 ((400 - (0 : Int)).toNat + 1) 0 0 x60 x62 H locs ls w56 (by decide) (by decide) (show 0 ≤ x60.toInt by omega) (show x60.toInt ≤ 400 by omega) (show 0 ≤ x62.toInt by omega) (show x62.toInt ≤ 400 by omega) (show (x62.toInt = f0_.toInt ∨ (gi w0 1 (f0_.toInt).toNat).toInt = 32) by first | omega | assumption | (left; omega) | (left; decide) | (right; assumption)) (Nat.lt_succ_self _) hw hT hF c61 c63 (lv_sub hl [2, 3, 1, 0] rfl)
  · have g70 : (x68.toInt = f0_.toInt ∨ (gi w0 1 (f0_.toInt).toNat).toInt = 32) := by have q := g70; simp only [cf0_, c69] at q; omega
    refine lv_pop hx hb dX12_isWord_4 rfl ?_
    refine lv_lconst (v := 0) hx hb dX12_isWord_5 (by decide) ?_
    refine lv_lstore_n (lv' := [(3, .long 0), (0, .ref (ad 0)), (1, .long 27988559963452019)]) hx hb dX12_isWord_6 rfl hl (by decide) rfl (fun ls hl => ?_)
    refine lv_iconst (v := 0) hx hb dX12_isWord_7 (by decide) ?_
    refine lv_istore (lv' := [(5, .int 0), (3, .long 0), (0, .ref (ad 0)), (1, .long 27988559963452019)]) hx hb dX12_isWord_8 hl (by decide) rfl (fun ls hl => ?_)
    exact L10 ((400 - (0 : Int)).toNat + 1) 0 0 x66 x68 H locs ls w56 (by decide) (by decide) (show 0 ≤ x66.toInt by omega) (show x66.toInt ≤ 400 by omega) (show 0 ≤ x68.toInt by omega) (show x68.toInt ≤ 400 by omega) (show (x68.toInt = f0_.toInt ∨ (gi w0 1 (f0_.toInt).toNat).toInt = 32) by first | omega | assumption | (left; omega) | (left; decide) | (right; assumption)) (Nat.lt_succ_self _) hw hT hF c67 c69 (lv_sub hl [2, 3, 1, 0] rfl)
  · obtain ⟨x75, c76, rx75, tx75⟩ := hT.rdi (lo := 0) (hi := 400) (k := 14) kM_at0 (by decide) rfl
    have g73 : (x75.toInt = f0_.toInt ∨ (gi w0 1 (f0_.toInt).toNat).toInt = 32) := by have q := g73; simp only [cf0_, c76] at q; omega
    refine lv_pop hx hb dX12_isWord_4 rfl ?_
    refine lv_lconst (v := 0) hx hb dX12_isWord_5 (by decide) ?_
    refine lv_lstore_n (lv' := [(3, .long 0), (0, .ref (ad 0)), (1, .long 27988559963452019)]) hx hb dX12_isWord_6 rfl hl (by decide) rfl (fun ls hl => ?_)
    refine lv_iconst (v := 0) hx hb dX12_isWord_7 (by decide) ?_
    refine lv_istore (lv' := [(5, .int 0), (3, .long 0), (0, .ref (ad 0)), (1, .long 27988559963452019)]) hx hb dX12_isWord_8 hl (by decide) rfl (fun ls hl => ?_)
    exact L10 ((400 - (0 : Int)).toNat + 1) 0 0 x71 x75 H locs ls w56 (by decide) (by decide) (show 0 ≤ x71.toInt by omega) (show x71.toInt ≤ 400 by omega) (show 0 ≤ x75.toInt by omega) (show x75.toInt ≤ 400 by omega) (show (x75.toInt = f0_.toInt ∨ (gi w0 1 (f0_.toInt).toNat).toInt = 32) by first | omega | assumption | (left; omega) | (left; decide) | (right; assumption)) (Nat.lt_succ_self _) hw hT hF c72 c76 (lv_sub hl [2, 3, 1, 0] rfl)
abbrev P_X12_isWord_4 (ad : Nat → Nat) (cy : Nat → ClassId) (B : Int) (qr : Nat) (s1 : Int)  (w0 : va_W) : Int32 → va_W → Prop := fun r u => TW ksM ad cy B qr 12 u ∧ FE ksM [(12, 14, 14)] w0 u ∧ ((r = 0 ∧ (∃ y : Int32, gi u 0 1 = y ∧ 0 ≤ y.toInt ∧ y.toInt ≤ 400) ∧ (((gi u 0 14).toInt = (gi w0 0 14).toInt ∨ (gi w0 1 ((gi w0 0 14).toInt).toNat).toInt = 32))) ∨ (r = 1 ∧ (∃ y : Int32, gi u 0 1 = y ∧ 0 ≤ y.toInt ∧ y.toInt ≤ 400) ∧ (((gi u 0 14).toInt = (gi w0 0 14).toInt ∨ (gi w0 1 ((gi w0 0 14).toInt).toNat).toInt = 32))))
set_option maxHeartbeats 4000000 in
set_option maxRecDepth 100000 in
theorem k_X12_isWord_4 (l : Launch) (adK adV : Nat → Nat) (dC : Nat → ClassId) (dI : Nat → Nat → Nat) (cy : Nat → ClassId) (ad : Nat → Nat) (B : Int) (hB0 : 100000 ≤ B) (hB1 : B ≤ 1073741824) (qr : Nat) (s1 : Int)   (w0 : va_W) (sz : Nat) (hT : TW ksM ad cy B qr 12 w0) (f0_ : Int32) (cf0_ : gi w0 0 14 = f0_) (rf0_ : 0 ≤ f0_.toInt) (tf0_ : f0_.toInt ≤ 400) : Met l yX12_isWord wsX12_isWord ({ frames := 2, cells := 0, slots := 0, locals := 33 }) (va_Pc [.ref (ad 0), .long 495555538548] (wpreS adK adV dC dI cy sz w0)) (va_Qi (P_X12_isWord_4 ad cy B qr s1  w0) (fun u : va_W => wpost dC dI cy (va_A w0 sz) u) (va_A w0 sz)) 0 0 (va_A w0 sz) := by
  refine Met.ofW (cc := cX12_isWord) (maxL := 6) (ret := (some .boolean)) (by decide) rfl ?_
  intro p e s m args below meth c s₁ Bk hml hv
  obtain ⟨rfl, ⟨hsz, hP, hK, hD0⟩, hE, hSR⟩ := hv
  have hx := Bk.exec
  have hb := Bk.bytes
  have hr := Bk.returns
  have hlocks := Bk.notSynchronized
  have hC : CallFix p m c cX12_isWord 6 s _ wsX12_isWord RX12 := ⟨hx, hb, hml, findClass_of_methodNamed Bk.named, atoms_spec (ws := wsX12_isWord) Bk.pre⟩
  subst hsz
  have hD := hD0.self (sz := s.heap.size)
  generalize hAe : va_A w0 s.heap.size = A at hD hE ⊢
  have hA : ∀ q : Nat, s.heap.size ≤ q → A q := fun q h => by rw [← hAe]; exact Or.inr h
  have hw : Wd dC dI A s.heap s.heap [] w0 := ⟨hP, hD, va_S.rf⟩
  have hF : FE ksM [(12, 14, 14)] w0 w0 := FE.rf
  have hl := lv_entry ([.ref (ad 0), .long 495555538548]) (n := 6) (Nat.le_of_ble_eq_true rfl)
  rw [lg_entry_eq]
  generalize (lg_sl ([.ref (ad 0), .long 495555538548]) ++ List.replicate (6 - (lg_sl ([.ref (ad 0), .long 495555538548])).length) Slot.unset).toArray = ls at hl ⊢
  have hl : lv_has ls 6 [(0, .ref (ad 0)), (1, .long 495555538548)] := hl
  generalize hloc : ([] : List Loc) = locs at hw ⊢
  have hinX12 : ∀ w ∈ u_ws RX12 TX12 42, w ∈ wsX12_isWord := fun _ h => List.mem_cons_of_mem _ (List.mem_append_right _ (h))
  have J78 : ∀ (v78_3 : Int64) (v78_5 : Int32) (f78_0_1 : Int32) (f78_0_14 : Int32) (H : Heap) (locs : List Loc) (ls : Array Slot) (w1 : va_W), 0 ≤ v78_5.toInt → v78_5.toInt ≤ 400 → 0 ≤ f78_0_1.toInt → f78_0_1.toInt ≤ 400 → 0 ≤ f78_0_14.toInt → f78_0_14.toInt ≤ 400 → ((f78_0_14.toInt = f0_.toInt ∨ (gi w0 1 (f0_.toInt).toNat).toInt = 32)) → Wd dC dI A s.heap H locs w1 → TW ksM ad cy B qr 12 w1 → FE ksM [(12, 14, 14)] w0 w1 → gi w1 0 1 = f78_0_1 → gi w1 0 14 = f78_0_14 → lv_has ls 6 [(0, .ref (ad 0)), (1, .long 495555538548), (3, .long v78_3), (5, .int v78_5)] → W p l e ({ frames := 2, cells := 0, slots := 0, locals := 33 }) s m (List.toArray [.ref (ad 0), .long 495555538548]) below meth c H locs 0 0 (MQ below (va_Qi (P_X12_isWord_4 ad cy B qr s1  w0) (fun u : va_W => wpost dC dI cy A u) A) (List.toArray [.ref (ad 0), .long 495555538548]) s 0 0 A) (F0 m 78 ls []) := by
    intro v78_3 v78_5 f78_0_1 f78_0_14 H locs ls w1 r2 t3 r4 t5 r7 t8 hcr78_0 hw hT hF c6 c9 hl
    refine lv_iconst (v := 0) hx hb dX12_isWord_78 (by decide) ?_
    exact tk_zret hC hr rfl hlocks hK ⟨hT, hF, (Or.inl ⟨rfl, ⟨f78_0_1, c6, (show 0 ≤ f78_0_1.toInt by omega), (show f78_0_1.toInt ≤ 400 by omega)⟩, (by simp only [cf0_, c9]; omega)⟩)⟩ hw dX12_isWord_79
  have L10 : ∀ (n10 : Nat) (v10_3 : Int64) (v10_5 : Int32) (f10_0_1 : Int32) (f10_0_14 : Int32) (H : Heap) (locs : List Loc) (ls : Array Slot) (w10 : va_W), 0 ≤ v10_5.toInt → v10_5.toInt ≤ 400 → 0 ≤ f10_0_1.toInt → f10_0_1.toInt ≤ 400 → 0 ≤ f10_0_14.toInt → f10_0_14.toInt ≤ 400 → ((f10_0_14.toInt = f0_.toInt ∨ (gi w0 1 (f0_.toInt).toNat).toInt = 32)) → (400 - v10_5.toInt).toNat < n10 → Wd dC dI A s.heap H locs w10 → TW ksM ad cy B qr 12 w10 → FE ksM [(12, 14, 14)] w0 w10 → gi w10 0 1 = f10_0_1 → gi w10 0 14 = f10_0_14 → lv_has ls 6 [(0, .ref (ad 0)), (1, .long 495555538548), (3, .long v10_3), (5, .int v10_5)] → W p l e ({ frames := 2, cells := 0, slots := 0, locals := 33 }) s m (List.toArray [.ref (ad 0), .long 495555538548]) below meth c H locs 0 0 (MQ below (va_Qi (P_X12_isWord_4 ad cy B qr s1  w0) (fun u : va_W => wpost dC dI cy A u) A) (List.toArray [.ref (ad 0), .long 495555538548]) s 0 0 A) (F0 m 10 ls []) := by
    intro n10
    induction n10 with
    | zero => intro v10_3 v10_5 f10_0_1 f10_0_14 H locs ls w10 r11 t12 r13 t14 r16 t17 hcr10_0 hm10 hw hT hF c15 c18 hl; omega
    | succ n10 ih10 =>
      intro v10_3 v10_5 f10_0_1 f10_0_14 H locs ls w10 r11 t12 r13 t14 r16 t17 hcr10_0 hm10 hw hT hF c15 c18 hl
      have J50 : ∀ (v50_3 : Int64) (H : Heap) (locs : List Loc) (ls : Array Slot) (w19 : va_W), 0 ≤ v10_5.toInt → v10_5.toInt ≤ 399 → 1 ≤ f10_0_1.toInt → f10_0_1.toInt ≤ 400 → 0 ≤ f10_0_14.toInt → f10_0_14.toInt ≤ 399 → ((f10_0_14.toInt = f0_.toInt ∨ (gi w0 1 (f0_.toInt).toNat).toInt = 32)) → Wd dC dI A s.heap H locs w19 → TW ksM ad cy B qr 12 w19 → FE ksM [(12, 14, 14)] w0 w19 → gi w19 0 1 = f10_0_1 → gi w19 0 14 = f10_0_14 → lv_has ls 6 [(0, .ref (ad 0)), (1, .long 495555538548), (3, .long v50_3), (5, .int v10_5)] → W p l e ({ frames := 2, cells := 0, slots := 0, locals := 33 }) s m (List.toArray [.ref (ad 0), .long 495555538548]) below meth c H locs 0 0 (MQ below (va_Qi (P_X12_isWord_4 ad cy B qr s1  w0) (fun u : va_W => wpost dC dI cy A u) A) (List.toArray [.ref (ad 0), .long 495555538548]) s 0 0 A) (F0 m 50 ls []) := by
        intro v50_3 H locs ls w19 r20 t21 r22 t23 r25 t26 hcr50_0 hw hT hF c24 c27 hl
        obtain ⟨x28, ex28⟩ : ∃ y : Int32, y = v10_5 + Int32.ofInt 1 := ⟨_, rfl⟩
        refine lv_iinc (v := x28) (lv' := [(5, .int x28), (0, .ref (ad 0)), (1, .long 495555538548), (3, .long v50_3)]) hx hb dX12_isWord_50 hl (k := 3) rfl ex28.symm (by decide) rfl (fun ls hl => ?_)
        have ex28 : x28.toInt = v10_5.toInt + 1 := by rw [ex28]; exact wk_add (y := 1) (show -2147483648 ≤ v10_5.toInt + 1 by omega) (show v10_5.toInt + 1 ≤ 2147483647 by omega)
        refine lv_goto (tgt := 10) hx hb dX12_isWord_53 (by decide) ?_
        exact ih10 v50_3 x28 f10_0_1 f10_0_14 H locs ls w19 (show 0 ≤ x28.toInt by omega) (show x28.toInt ≤ 400 by omega) (show 0 ≤ f10_0_1.toInt by omega) (show f10_0_1.toInt ≤ 400 by omega) (show 0 ≤ f10_0_14.toInt by omega) (show f10_0_14.toInt ≤ 400 by omega) (show (f10_0_14.toInt = f0_.toInt ∨ (gi w0 1 (f0_.toInt).toNat).toInt = 32) by first | omega | assumption | (left; omega) | (left; decide) | (right; assumption)) (show (400 - x28.toInt).toNat < n10 by omega) hw hT hF c24 c27 (lv_sub hl [1, 2, 3, 0] rfl)
      refine lv_aload_n hx hb dX12_isWord_10 rfl (lv_at hl 0 rfl) ?_
      refine lv_aload_n hx hb dX12_isWord_11 rfl (lv_at hl 0 rfl) ?_
      refine tk_geti hC hK hw hT hinX12 kM_at0 (by decide) rfl 14 (by decide) (List.mem_of_getElem? (i := 1) rfl) rfl rfl dX12_isWord_12 (fun x29 c30 rx29 tx29 => ?_)
      refine wk_top f10_0_14 (c30.symm.trans c18) ?_
      refine lv_iload hx hb dX12_isWord_15 (lv_at hl 3 rfl) ?_
      refine lv_iadd hx hb dX12_isWord_17 ?_
      refine lv_topi (fun x31 ex31 => ?_)
      have ex31 : x31.toInt = f10_0_14.toInt + v10_5.toInt := by rw [ex31]; exact wk_add (show (-2147483648) ≤ f10_0_14.toInt + v10_5.toInt by omega) (show f10_0_14.toInt + v10_5.toInt ≤ 2147483647 by omega)
      refine tk_Vi hC hK hw hT hA hE hSR kM_at0 (by decide) rfl (k_X12_isLetter_1 l adK adV dC dI cy ad B (by omega) (by omega) qr s1   x31 (show 0 ≤ x31.toInt by omega) (show x31.toInt ≤ 800 by omega) w10 H.size hT ) (cwV 1 hC.2.2.2.2 gX12_isWord_X12_isLetter rfl rfl rfl (by decide +kernel) ⟨Nat.le_of_ble_eq_true rfl, Nat.le_of_ble_eq_true rfl⟩) rfl hl.1 rfl (Nat.le_of_ble_eq_true rfl) dX12_isWord_18 (fun r32 w34 H locs hp33 hw => ?_)
      obtain ⟨rfl, hg41⟩ := hp33
      rcases hg41 with ⟨rfl, ⟨x36, c37, rx36, tx36⟩⟩ | ⟨rfl, g38, ⟨x39, c40, rx39, tx39⟩⟩
      · have ex36 : x36.toInt = f10_0_1.toInt := by rw [← c15.symm.trans c37]
        refine lv_if_eq (tgt := 56) hx hb dX12_isWord_21 (by decide) (fun _ => ?_) (fun c => absurd (by decide) c)
        refine lv_iload hx hb dX12_isWord_56 (lv_at hl 3 rfl) ?_
        refine lv_if_le (tgt := 78) hx hb dX12_isWord_58 (by decide) (fun c42 => ?_) (fun c42 => ?_)
        · have c42 : v10_5.toInt ≤ (0 : Int) := wk_le.mp c42
          exact J78 v10_3 v10_5 f10_0_1 f10_0_14 H locs ls w10 (show 0 ≤ v10_5.toInt by omega) (show v10_5.toInt ≤ 400 by omega) (show 0 ≤ f10_0_1.toInt by omega) (show f10_0_1.toInt ≤ 400 by omega) (show 0 ≤ f10_0_14.toInt by omega) (show f10_0_14.toInt ≤ 400 by omega) (show (f10_0_14.toInt = f0_.toInt ∨ (gi w0 1 (f0_.toInt).toNat).toInt = 32) by first | omega | assumption | (left; omega) | (left; decide) | (right; assumption))  hw hT hF c15 c18 (lv_sub hl [0, 1, 2, 3] rfl)
        · have c42 : (0 : Int) < v10_5.toInt := wk_leF c42
          refine lv_iload hx hb dX12_isWord_61 (lv_at hl 3 rfl) ?_
          refine lv_bipush (v := 8) hx hb dX12_isWord_63 (by decide) ?_
          refine lv_icmp_ge (tgt := 78) hx hb dX12_isWord_65 (by decide) (fun c43 => ?_) (fun c43 => ?_)
          · have c43 : (8 : Int) ≤ v10_5.toInt := wk_le.mp c43
            exact J78 v10_3 v10_5 f10_0_1 f10_0_14 H locs ls w10 (show 0 ≤ v10_5.toInt by omega) (show v10_5.toInt ≤ 400 by omega) (show 0 ≤ f10_0_1.toInt by omega) (show f10_0_1.toInt ≤ 400 by omega) (show 0 ≤ f10_0_14.toInt by omega) (show f10_0_14.toInt ≤ 400 by omega) (show (f10_0_14.toInt = f0_.toInt ∨ (gi w0 1 (f0_.toInt).toNat).toInt = 32) by first | omega | assumption | (left; omega) | (left; decide) | (right; assumption))  hw hT hF c15 c18 (lv_sub hl [0, 1, 2, 3] rfl)
          · have c43 : v10_5.toInt < (8 : Int) := wk_leF c43
            refine lv_lload_n hx hb dX12_isWord_68 rfl (lv_at hl 2 rfl) ?_
            refine lv_lload_n hx hb dX12_isWord_69 rfl (lv_at hl 1 rfl) ?_
            refine W.lcmp hx hb dX12_isWord_70 ?_
            refine lv_if_ne (tgt := 78) hx hb dX12_isWord_71 (by decide) (fun c44 => ?_) (fun c44 => ?_)
            · have c44 : ¬ v10_3.toInt = (495555538548 : Int) := wk_ceF c44
              exact J78 v10_3 v10_5 f10_0_1 f10_0_14 H locs ls w10 (show 0 ≤ v10_5.toInt by omega) (show v10_5.toInt ≤ 400 by omega) (show 0 ≤ f10_0_1.toInt by omega) (show f10_0_1.toInt ≤ 400 by omega) (show 0 ≤ f10_0_14.toInt by omega) (show f10_0_14.toInt ≤ 400 by omega) (show (f10_0_14.toInt = f0_.toInt ∨ (gi w0 1 (f0_.toInt).toNat).toInt = 32) by first | omega | assumption | (left; omega) | (left; decide) | (right; assumption))  hw hT hF c15 c18 (lv_sub hl [0, 1, 2, 3] rfl)
            · have c44 : v10_3.toInt = (495555538548 : Int) := wk_ceT c44
              refine lv_iconst (v := 1) hx hb dX12_isWord_74 (by decide) ?_
              refine lv_goto (tgt := 79) hx hb dX12_isWord_75 (by decide) ?_
              exact tk_zret hC hr rfl hlocks hK ⟨hT, hF, (Or.inr ⟨rfl, ⟨f10_0_1, c15, (show 0 ≤ f10_0_1.toInt by omega), (show f10_0_1.toInt ≤ 400 by omega)⟩, (by simp only [cf0_, c18]; omega)⟩)⟩ hw dX12_isWord_79
      · have ex39 : x39.toInt = f10_0_1.toInt := by rw [← c15.symm.trans c40]
        refine lv_if_eq (tgt := 56) hx hb dX12_isWord_21 (by decide) (fun c => absurd c (by decide)) (fun _ => ?_)
        refine lv_iload hx hb dX12_isWord_24 (lv_at hl 3 rfl) ?_
        refine lv_bipush (v := 8) hx hb dX12_isWord_26 (by decide) ?_
        refine lv_icmp_ge (tgt := 50) hx hb dX12_isWord_28 (by decide) (fun c45 => ?_) (fun c45 => ?_)
        · have c45 : (8 : Int) ≤ v10_5.toInt := wk_le.mp c45
          exact J50 v10_3 H locs ls w10 (show 0 ≤ v10_5.toInt by omega) (show v10_5.toInt ≤ 399 by omega) (show 1 ≤ f10_0_1.toInt by omega) (show f10_0_1.toInt ≤ 400 by omega) (show 0 ≤ f10_0_14.toInt by omega) (show f10_0_14.toInt ≤ 399 by omega) (show (f10_0_14.toInt = f0_.toInt ∨ (gi w0 1 (f0_.toInt).toNat).toInt = 32) by first | omega | assumption | (left; omega) | (left; decide) | (right; assumption))  hw hT hF c15 c18 (lv_sub hl [0, 1, 2, 3] rfl)
        · have c45 : v10_5.toInt < (8 : Int) := wk_leF c45
          refine lv_lload_n hx hb dX12_isWord_31 rfl (lv_at hl 2 rfl) ?_
          refine lv_bipush (v := 8) hx hb dX12_isWord_32 (by decide) ?_
          refine lv_lshl hx hb dX12_isWord_34 rfl ?_
          refine lv_topl (fun x46 ex46 => ?_)
          refine lv_aload_n hx hb dX12_isWord_35 rfl (lv_at hl 0 rfl) ?_
          refine tk_getA hC hK hw hT hinX12 kM_at0 (by decide) rfl 0 (by decide) (List.mem_of_getElem? (i := 2) rfl) rfl rfl dX12_isWord_36 ?_
          refine lv_aload_n hx hb dX12_isWord_39 rfl (lv_at hl 0 rfl) ?_
          refine tk_geti hC hK hw hT hinX12 kM_at0 (by decide) rfl 14 (by decide) (List.mem_of_getElem? (i := 1) rfl) rfl rfl dX12_isWord_40 (fun x47 c48 rx47 tx47 => ?_)
          refine wk_top f10_0_14 (c48.symm.trans c18) ?_
          refine lv_iload hx hb dX12_isWord_43 (lv_at hl 3 rfl) ?_
          refine lv_iadd hx hb dX12_isWord_45 ?_
          refine lv_topi (fun x49 ex49 => ?_)
          have ex49 : x49.toInt = f10_0_14.toInt + v10_5.toInt := by rw [ex49]; exact wk_add (show (-2147483648) ≤ f10_0_14.toInt + v10_5.toInt by omega) (show f10_0_14.toInt + v10_5.toInt ≤ 2147483647 by omega)
          refine tk_bald hC hK hw hT kM_at1 rfl rfl (show 0 ≤ x49.toInt by omega) (show x49.toInt < 400 by omega) dX12_isWord_46 (fun x50 c51 rx50 tx50 => ?_)
          have c51 : gi w10 1 (1 * f10_0_14.toInt + 1 * v10_5.toInt + 0).toNat = x50 := (congrArg (gi w10 1) (congrArg Int.toNat (show 1 * f10_0_14.toInt + 1 * v10_5.toInt + 0 = x49.toInt by omega))).trans c51
          refine lv_i2l hx hb dX12_isWord_47 rfl ?_
          refine lv_topl (fun x52 ex52 => ?_)
          have ex52 : x52.toInt = x50.toInt := by rw [ex52]; exact wk_i2l _
          have bx52 := wk_i32 x50
          refine lv_lor hx hb dX12_isWord_48 ?_
          refine lv_topl (fun x53 ex53 => ?_)
          refine lv_lstore_n (lv' := [(3, .long x53), (0, .ref (ad 0)), (1, .long 495555538548), (5, .int v10_5)]) hx hb dX12_isWord_49 rfl hl (by decide) rfl (fun ls hl => ?_)
          exact J50 x53 H locs ls w10 (show 0 ≤ v10_5.toInt by omega) (show v10_5.toInt ≤ 399 by omega) (show 1 ≤ f10_0_1.toInt by omega) (show f10_0_1.toInt ≤ 400 by omega) (show 0 ≤ f10_0_14.toInt by omega) (show f10_0_14.toInt ≤ 399 by omega) (show (f10_0_14.toInt = f0_.toInt ∨ (gi w0 1 (f0_.toInt).toNat).toInt = 32) by first | omega | assumption | (left; omega) | (left; decide) | (right; assumption) | (right; rw [c51]; omega) | (right; rw [c51]; decide))  hw hT hF c15 c18 (lv_sub hl [1, 2, 0, 3] rfl)
  refine lv_aload_n hx hb dX12_isWord_0 rfl (lv_at hl 0 rfl) ?_
  refine tk_Vi hC hK hw hT hA hE hSR kM_at0 (by decide) rfl (k_X12_see_1 l adK adV dC dI cy ad B (by omega) (by omega) qr s1    w0 s.heap.size hT f0_ cf0_ (show 0 ≤ f0_.toInt by omega) (show f0_.toInt ≤ 400 by omega)) (cwV 0 hC.2.2.2.2 gX12_isWord_X12_see rfl rfl rfl (by decide +kernel) ⟨Nat.le_of_ble_eq_true rfl, Nat.le_of_ble_eq_true rfl⟩) rfl hl.1 rfl (Nat.le_of_ble_eq_true rfl) dX12_isWord_1 (fun r54 w56 H locs hp55 hw => ?_)
  obtain ⟨hT, k57, hg74⟩ := hp55
  have hF := hF.tr k57 (by decide)
  rcases hg74 with ⟨g58, g59, ⟨x60, c61, rx60, tx60⟩, ⟨x62, c63, rx62, tx62⟩, g64, g65⟩ | ⟨rfl, ⟨x66, c67, rx66, tx66⟩, ⟨x68, c69, rx68, tx68⟩, g70⟩ | ⟨rfl, ⟨x71, c72, rx71, tx71⟩, g73⟩
  · have g64 : (gi w56 1 (x62.toInt).toNat).toInt ≠ 32 := by have q := g64; simp only [c63] at q; omega
    have g65 : (x62.toInt = f0_.toInt ∨ (gi w0 1 (f0_.toInt).toNat).toInt = 32) := by have q := g65; simp only [cf0_, c63] at q; omega
    refine lv_pop hx hb dX12_isWord_4 rfl ?_
    refine lv_lconst (v := 0) hx hb dX12_isWord_5 (by decide) ?_
    refine lv_lstore_n (lv' := [(3, .long 0), (0, .ref (ad 0)), (1, .long 495555538548)]) hx hb dX12_isWord_6 rfl hl (by decide) rfl (fun ls hl => ?_)
    refine lv_iconst (v := 0) hx hb dX12_isWord_7 (by decide) ?_
    refine lv_istore (lv' := [(5, .int 0), (3, .long 0), (0, .ref (ad 0)), (1, .long 495555538548)]) hx hb dX12_isWord_8 hl (by decide) rfl (fun ls hl => ?_)
    exact L10 ((400 - (0 : Int)).toNat + 1) 0 0 x60 x62 H locs ls w56 (by decide) (by decide) (show 0 ≤ x60.toInt by omega) (show x60.toInt ≤ 400 by omega) (show 0 ≤ x62.toInt by omega) (show x62.toInt ≤ 400 by omega) (show (x62.toInt = f0_.toInt ∨ (gi w0 1 (f0_.toInt).toNat).toInt = 32) by first | omega | assumption | (left; omega) | (left; decide) | (right; assumption)) (Nat.lt_succ_self _) hw hT hF c61 c63 (lv_sub hl [2, 3, 1, 0] rfl)
  · have g70 : (x68.toInt = f0_.toInt ∨ (gi w0 1 (f0_.toInt).toNat).toInt = 32) := by have q := g70; simp only [cf0_, c69] at q; omega
    refine lv_pop hx hb dX12_isWord_4 rfl ?_
    refine lv_lconst (v := 0) hx hb dX12_isWord_5 (by decide) ?_
    refine lv_lstore_n (lv' := [(3, .long 0), (0, .ref (ad 0)), (1, .long 495555538548)]) hx hb dX12_isWord_6 rfl hl (by decide) rfl (fun ls hl => ?_)
    refine lv_iconst (v := 0) hx hb dX12_isWord_7 (by decide) ?_
    refine lv_istore (lv' := [(5, .int 0), (3, .long 0), (0, .ref (ad 0)), (1, .long 495555538548)]) hx hb dX12_isWord_8 hl (by decide) rfl (fun ls hl => ?_)
    exact L10 ((400 - (0 : Int)).toNat + 1) 0 0 x66 x68 H locs ls w56 (by decide) (by decide) (show 0 ≤ x66.toInt by omega) (show x66.toInt ≤ 400 by omega) (show 0 ≤ x68.toInt by omega) (show x68.toInt ≤ 400 by omega) (show (x68.toInt = f0_.toInt ∨ (gi w0 1 (f0_.toInt).toNat).toInt = 32) by first | omega | assumption | (left; omega) | (left; decide) | (right; assumption)) (Nat.lt_succ_self _) hw hT hF c67 c69 (lv_sub hl [2, 3, 1, 0] rfl)
  · obtain ⟨x75, c76, rx75, tx75⟩ := hT.rdi (lo := 0) (hi := 400) (k := 14) kM_at0 (by decide) rfl
    have g73 : (x75.toInt = f0_.toInt ∨ (gi w0 1 (f0_.toInt).toNat).toInt = 32) := by have q := g73; simp only [cf0_, c76] at q; omega
    refine lv_pop hx hb dX12_isWord_4 rfl ?_
    refine lv_lconst (v := 0) hx hb dX12_isWord_5 (by decide) ?_
    refine lv_lstore_n (lv' := [(3, .long 0), (0, .ref (ad 0)), (1, .long 495555538548)]) hx hb dX12_isWord_6 rfl hl (by decide) rfl (fun ls hl => ?_)
    refine lv_iconst (v := 0) hx hb dX12_isWord_7 (by decide) ?_
    refine lv_istore (lv' := [(5, .int 0), (3, .long 0), (0, .ref (ad 0)), (1, .long 495555538548)]) hx hb dX12_isWord_8 hl (by decide) rfl (fun ls hl => ?_)
    exact L10 ((400 - (0 : Int)).toNat + 1) 0 0 x71 x75 H locs ls w56 (by decide) (by decide) (show 0 ≤ x71.toInt by omega) (show x71.toInt ≤ 400 by omega) (show 0 ≤ x75.toInt by omega) (show x75.toInt ≤ 400 by omega) (show (x75.toInt = f0_.toInt ∨ (gi w0 1 (f0_.toInt).toNat).toInt = 32) by first | omega | assumption | (left; omega) | (left; decide) | (right; assumption)) (Nat.lt_succ_self _) hw hT hF c72 c76 (lv_sub hl [2, 3, 1, 0] rfl)
abbrev P_X12_in_1 (ad : Nat → Nat) (cy : Nat → ClassId) (B : Int) (qr : Nat) (s1 : Int) (a0 : Int64) (w0 : va_W) : Int32 → va_W → Prop := fun r u => w0 = u ∧ ((r = 0) ∨ (r = 1 ∧ 2 ≤ a0.toInt ∧ a0.toInt ≤ 10))
set_option maxHeartbeats 4000000 in
set_option maxRecDepth 100000 in
theorem k_X12_in_1 (l : Launch) (adK adV : Nat → Nat) (dC : Nat → ClassId) (dI : Nat → Nat → Nat) (cy : Nat → ClassId) (ad : Nat → Nat) (B : Int) (hB0 : 100000 ≤ B) (hB1 : B ≤ 1073741824) (qr : Nat) (s1 : Int)  (a0 : Int64) (ra0 : (-2147483648) ≤ a0.toInt) (ta0 : a0.toInt ≤ 2147483647) (w0 : va_W) (sz : Nat) (hT : TW ksM ad cy B qr 12 w0)  : Met l yX12_in wsX12_in ({ frames := 1, cells := 0, slots := 0, locals := 12 }) (va_Pc [.long a0, .long 2, .long 10] (wpreS adK adV dC dI cy sz w0)) (va_Qi (P_X12_in_1 ad cy B qr s1 a0 w0) (fun u : va_W => wpost dC dI cy (va_A w0 sz) u) (va_A w0 sz)) 0 0 (va_A w0 sz) := by
  refine Met.ofW (cc := cX12_in) (maxL := 6) (ret := (some .boolean)) (by decide) rfl ?_
  intro p e s m args below meth c s₁ Bk hml hv
  obtain ⟨rfl, ⟨hsz, hP, hK, hD0⟩, hE, hSR⟩ := hv
  have hx := Bk.exec
  have hb := Bk.bytes
  have hr := Bk.returns
  have hlocks := Bk.notSynchronized
  have hC : CallFix p m c cX12_in 6 s _ wsX12_in RX12 := ⟨hx, hb, hml, findClass_of_methodNamed Bk.named, atoms_spec (ws := wsX12_in) Bk.pre⟩
  subst hsz
  have hD := hD0.self (sz := s.heap.size)
  generalize hAe : va_A w0 s.heap.size = A at hD hE ⊢
  have hA : ∀ q : Nat, s.heap.size ≤ q → A q := fun q h => by rw [← hAe]; exact Or.inr h
  have hw : Wd dC dI A s.heap s.heap [] w0 := ⟨hP, hD, va_S.rf⟩
  have hF : FE ksM ([] : List (Nat × Nat × Nat)) w0 w0 := FE.rf
  have hl := lv_entry ([.long a0, .long 2, .long 10]) (n := 6) (Nat.le_of_ble_eq_true rfl)
  rw [lg_entry_eq]
  generalize (lg_sl ([.long a0, .long 2, .long 10]) ++ List.replicate (6 - (lg_sl ([.long a0, .long 2, .long 10])).length) Slot.unset).toArray = ls at hl ⊢
  have hl : lv_has ls 6 [(0, .long a0), (2, .long 2), (4, .long 10)] := hl
  generalize hloc : ([] : List Loc) = locs at hw ⊢
  have J17 : ∀ (H : Heap) (locs : List Loc) (ls : Array Slot), (-2147483648) ≤ a0.toInt → a0.toInt ≤ 2147483647 → Wd dC dI A s.heap H locs w0 → lv_has ls 6 [(0, .long a0), (2, .long 2), (4, .long 10)] → W p l e ({ frames := 1, cells := 0, slots := 0, locals := 12 }) s m (List.toArray [.long a0, .long 2, .long 10]) below meth c H locs 0 0 (MQ below (va_Qi (P_X12_in_1 ad cy B qr s1 a0 w0) (fun u : va_W => wpost dC dI cy A u) A) (List.toArray [.long a0, .long 2, .long 10]) s 0 0 A) (F0 m 17 ls []) := by
    intro H locs ls r1 t2 hw hl
    refine lv_iconst (v := 0) hx hb dX12_in_17 (by decide) ?_
    exact tk_zret hC hr rfl hlocks hK ⟨rfl, (Or.inl rfl)⟩ hw dX12_in_18
  refine lv_lload_n hx hb dX12_in_0 rfl (lv_at hl 0 rfl) ?_
  refine lv_lload_n hx hb dX12_in_1 rfl (lv_at hl 1 rfl) ?_
  refine W.lcmp hx hb dX12_in_2 ?_
  refine lv_if_lt (tgt := 17) hx hb dX12_in_3 (by decide) (fun c3 => ?_) (fun c3 => ?_)
  · have c3 : a0.toInt < (2 : Int) := wk_cltT c3
    exact J17  s.heap locs ls  (show (-2147483648) ≤ a0.toInt by omega) (show a0.toInt ≤ 2147483647 by omega)  hw   (lv_sub hl [0, 1, 2] rfl)
  · have c3 : (2 : Int) ≤ a0.toInt := wk_cltF c3
    refine lv_lload_n hx hb dX12_in_6 rfl (lv_at hl 0 rfl) ?_
    refine lv_lload hx hb dX12_in_7 (lv_at hl 2 rfl) ?_
    refine W.lcmp hx hb dX12_in_9 ?_
    refine lv_if_gt (tgt := 17) hx hb dX12_in_10 (by decide) (fun c4 => ?_) (fun c4 => ?_)
    · have c4 : (10 : Int) < a0.toInt := wk_cgtT c4
      exact J17  s.heap locs ls  (show (-2147483648) ≤ a0.toInt by omega) (show a0.toInt ≤ 2147483647 by omega)  hw   (lv_sub hl [0, 1, 2] rfl)
    · have c4 : a0.toInt ≤ (10 : Int) := wk_cgtF c4
      refine lv_iconst (v := 1) hx hb dX12_in_13 (by decide) ?_
      refine lv_goto (tgt := 18) hx hb dX12_in_14 (by decide) ?_
      exact tk_zret hC hr rfl hlocks hK ⟨rfl, (Or.inr ⟨rfl, (show 2 ≤ a0.toInt by omega), (show a0.toInt ≤ 10 by omega)⟩)⟩ hw dX12_in_18
abbrev P_X12_isDigit_1 (ad : Nat → Nat) (cy : Nat → ClassId) (B : Int) (qr : Nat) (s1 : Int) (a1 : Int32) (w0 : va_W) : Int32 → va_W → Prop := fun r u => w0 = u ∧ ((r = 0 ∧ (∃ y : Int32, gi u 0 1 = y ∧ 0 ≤ y.toInt ∧ y.toInt ≤ 400)) ∨ (r = 1 ∧ (∃ y : Int32, gi u 0 1 = y ∧ 1 ≤ y.toInt ∧ y.toInt ≤ 400)))
set_option maxHeartbeats 4000000 in
set_option maxRecDepth 100000 in
theorem k_X12_isDigit_1 (l : Launch) (adK adV : Nat → Nat) (dC : Nat → ClassId) (dI : Nat → Nat → Nat) (cy : Nat → ClassId) (ad : Nat → Nat) (B : Int) (hB0 : 100000 ≤ B) (hB1 : B ≤ 1073741824) (qr : Nat) (s1 : Int)  (a1 : Int32) (ra1 : 0 ≤ a1.toInt) (ta1 : a1.toInt ≤ 399) (w0 : va_W) (sz : Nat) (hT : TW ksM ad cy B qr 12 w0)  : Met l yX12_isDigit wsX12_isDigit ({ frames := 1, cells := 0, slots := 0, locals := 12 }) (va_Pc [.ref (ad 0), .int a1] (wpreS adK adV dC dI cy sz w0)) (va_Qi (P_X12_isDigit_1 ad cy B qr s1 a1 w0) (fun u : va_W => wpost dC dI cy (va_A w0 sz) u) (va_A w0 sz)) 0 0 (va_A w0 sz) := by
  refine Met.ofW (cc := cX12_isDigit) (maxL := 2) (ret := (some .boolean)) (by decide) rfl ?_
  intro p e s m args below meth c s₁ Bk hml hv
  obtain ⟨rfl, ⟨hsz, hP, hK, hD0⟩, hE, hSR⟩ := hv
  have hx := Bk.exec
  have hb := Bk.bytes
  have hr := Bk.returns
  have hlocks := Bk.notSynchronized
  have hC : CallFix p m c cX12_isDigit 2 s _ wsX12_isDigit RX12 := ⟨hx, hb, hml, findClass_of_methodNamed Bk.named, atoms_spec (ws := wsX12_isDigit) Bk.pre⟩
  subst hsz
  have hD := hD0.self (sz := s.heap.size)
  generalize hAe : va_A w0 s.heap.size = A at hD hE ⊢
  have hA : ∀ q : Nat, s.heap.size ≤ q → A q := fun q h => by rw [← hAe]; exact Or.inr h
  have hw : Wd dC dI A s.heap s.heap [] w0 := ⟨hP, hD, va_S.rf⟩
  have hF : FE ksM ([] : List (Nat × Nat × Nat)) w0 w0 := FE.rf
  have hl := lv_entry ([.ref (ad 0), .int a1]) (n := 2) (Nat.le_of_ble_eq_true rfl)
  rw [lg_entry_eq]
  generalize (lg_sl ([.ref (ad 0), .int a1]) ++ List.replicate (2 - (lg_sl ([.ref (ad 0), .int a1])).length) Slot.unset).toArray = ls at hl ⊢
  have hl : lv_has ls 2 [(0, .ref (ad 0)), (1, .int a1)] := hl
  generalize hloc : ([] : List Loc) = locs at hw ⊢
  have hinX12 : ∀ w ∈ u_ws RX12 TX12 42, w ∈ wsX12_isDigit := fun _ h => List.mem_cons_of_mem _ (List.mem_append_right _ (h))
  have J34 : ∀ (f34_0_1 : Int32) (H : Heap) (locs : List Loc) (ls : Array Slot), 0 ≤ a1.toInt → a1.toInt ≤ 399 → 0 ≤ f34_0_1.toInt → f34_0_1.toInt ≤ 400 → Wd dC dI A s.heap H locs w0 → gi w0 0 1 = f34_0_1 → lv_has ls 2 [(0, .ref (ad 0)), (1, .int a1)] → W p l e ({ frames := 1, cells := 0, slots := 0, locals := 12 }) s m (List.toArray [.ref (ad 0), .int a1]) below meth c H locs 0 0 (MQ below (va_Qi (P_X12_isDigit_1 ad cy B qr s1 a1 w0) (fun u : va_W => wpost dC dI cy A u) A) (List.toArray [.ref (ad 0), .int a1]) s 0 0 A) (F0 m 34 ls []) := by
    intro f34_0_1 H locs ls r1 t2 r3 t4 hw c5 hl
    refine lv_iconst (v := 0) hx hb dX12_isDigit_34 (by decide) ?_
    exact tk_zret hC hr rfl hlocks hK ⟨rfl, (Or.inl ⟨rfl, ⟨f34_0_1, c5, (show 0 ≤ f34_0_1.toInt by omega), (show f34_0_1.toInt ≤ 400 by omega)⟩⟩)⟩ hw dX12_isDigit_35
  refine lv_iload_n hx hb dX12_isDigit_0 rfl (lv_at hl 1 rfl) ?_
  refine lv_aload_n hx hb dX12_isDigit_1 rfl (lv_at hl 0 rfl) ?_
  refine tk_geti hC hK hw hT hinX12 kM_at0 (by decide) rfl 1 (by decide) (List.mem_of_getElem? (i := 1) rfl) rfl rfl dX12_isDigit_2 (fun x6 c7 rx6 tx6 => ?_)
  refine lv_icmp_ge (tgt := 34) hx hb dX12_isDigit_5 (by decide) (fun c8 => ?_) (fun c8 => ?_)
  · have c8 : x6.toInt ≤ a1.toInt := wk_le.mp c8
    exact J34 x6 s.heap locs ls  (show 0 ≤ a1.toInt by omega) (show a1.toInt ≤ 399 by omega) (show 0 ≤ x6.toInt by omega) (show x6.toInt ≤ 400 by omega)  hw  c7 (lv_sub hl [0, 1] rfl)
  · have c8 : a1.toInt < x6.toInt := wk_leF c8
    refine lv_aload_n hx hb dX12_isDigit_8 rfl (lv_at hl 0 rfl) ?_
    refine tk_getA hC hK hw hT hinX12 kM_at0 (by decide) rfl 0 (by decide) (List.mem_of_getElem? (i := 2) rfl) rfl rfl dX12_isDigit_9 ?_
    refine lv_iload_n hx hb dX12_isDigit_12 rfl (lv_at hl 1 rfl) ?_
    refine tk_bald hC hK hw hT kM_at1 rfl rfl (show 0 ≤ a1.toInt by omega) (show a1.toInt < 400 by omega) dX12_isDigit_13 (fun x9 c10 rx9 tx9 => ?_)
    have c10 : gi w0 1 (a1.toInt).toNat = x9 := (congrArg (gi w0 1) (congrArg Int.toNat (show a1.toInt = a1.toInt by omega))).trans c10
    refine lv_bipush (v := 48) hx hb dX12_isDigit_14 (by decide) ?_
    refine lv_icmp_lt (tgt := 34) hx hb dX12_isDigit_16 (by decide) (fun c11 => ?_) (fun c11 => ?_)
    · have c11 : x9.toInt < (48 : Int) := wk_lt.mp c11
      exact J34 x6 s.heap locs ls  (show 0 ≤ a1.toInt by omega) (show a1.toInt ≤ 399 by omega) (show 0 ≤ x6.toInt by omega) (show x6.toInt ≤ 400 by omega)  hw  c7 (lv_sub hl [0, 1] rfl)
    · have c11 : (48 : Int) ≤ x9.toInt := wk_ltF c11
      refine lv_aload_n hx hb dX12_isDigit_19 rfl (lv_at hl 0 rfl) ?_
      refine tk_getA hC hK hw hT hinX12 kM_at0 (by decide) rfl 0 (by decide) (List.mem_of_getElem? (i := 2) rfl) rfl rfl dX12_isDigit_20 ?_
      refine lv_iload_n hx hb dX12_isDigit_23 rfl (lv_at hl 1 rfl) ?_
      refine tk_bald hC hK hw hT kM_at1 rfl rfl (show 0 ≤ a1.toInt by omega) (show a1.toInt < 400 by omega) dX12_isDigit_24 (fun x12 c13 rx12 tx12 => ?_)
      have c13 : gi w0 1 (a1.toInt).toNat = x12 := (congrArg (gi w0 1) (congrArg Int.toNat (show a1.toInt = a1.toInt by omega))).trans c13
      refine wk_top x9 (c13.symm.trans c10) ?_
      refine lv_bipush (v := 57) hx hb dX12_isDigit_25 (by decide) ?_
      refine lv_icmp_gt (tgt := 34) hx hb dX12_isDigit_27 (by decide) (fun c14 => ?_) (fun c14 => ?_)
      · have c14 : (57 : Int) < x9.toInt := wk_lt.mp c14
        exact J34 x6 s.heap locs ls  (show 0 ≤ a1.toInt by omega) (show a1.toInt ≤ 399 by omega) (show 0 ≤ x6.toInt by omega) (show x6.toInt ≤ 400 by omega)  hw  c7 (lv_sub hl [0, 1] rfl)
      · have c14 : x9.toInt ≤ (57 : Int) := wk_ltF c14
        refine lv_iconst (v := 1) hx hb dX12_isDigit_30 (by decide) ?_
        refine lv_goto (tgt := 35) hx hb dX12_isDigit_31 (by decide) ?_
        exact tk_zret hC hr rfl hlocks hK ⟨rfl, (Or.inr ⟨rfl, ⟨x6, c7, (show 1 ≤ x6.toInt by omega), (show x6.toInt ≤ 400 by omega)⟩⟩)⟩ hw dX12_isDigit_35
abbrev P_X12_isDigit_2 (ad : Nat → Nat) (cy : Nat → ClassId) (B : Int) (qr : Nat) (s1 : Int) (a1 : Int32) (w0 : va_W) : Int32 → va_W → Prop := fun r u => w0 = u ∧ ((r = 0 ∧ (∃ y : Int32, gi u 0 1 = y ∧ 0 ≤ y.toInt ∧ y.toInt ≤ 400)) ∨ (r = 1 ∧ a1.toInt ≤ 399 ∧ (∃ y : Int32, gi u 0 1 = y ∧ 1 ≤ y.toInt ∧ y.toInt ≤ 400)))
set_option maxHeartbeats 4000000 in
set_option maxRecDepth 100000 in
theorem k_X12_isDigit_2 (l : Launch) (adK adV : Nat → Nat) (dC : Nat → ClassId) (dI : Nat → Nat → Nat) (cy : Nat → ClassId) (ad : Nat → Nat) (B : Int) (hB0 : 100000 ≤ B) (hB1 : B ≤ 1073741824) (qr : Nat) (s1 : Int)  (a1 : Int32) (ra1 : 0 ≤ a1.toInt) (ta1 : a1.toInt ≤ 400) (w0 : va_W) (sz : Nat) (hT : TW ksM ad cy B qr 12 w0)  : Met l yX12_isDigit wsX12_isDigit ({ frames := 1, cells := 0, slots := 0, locals := 12 }) (va_Pc [.ref (ad 0), .int a1] (wpreS adK adV dC dI cy sz w0)) (va_Qi (P_X12_isDigit_2 ad cy B qr s1 a1 w0) (fun u : va_W => wpost dC dI cy (va_A w0 sz) u) (va_A w0 sz)) 0 0 (va_A w0 sz) := by
  refine Met.ofW (cc := cX12_isDigit) (maxL := 2) (ret := (some .boolean)) (by decide) rfl ?_
  intro p e s m args below meth c s₁ Bk hml hv
  obtain ⟨rfl, ⟨hsz, hP, hK, hD0⟩, hE, hSR⟩ := hv
  have hx := Bk.exec
  have hb := Bk.bytes
  have hr := Bk.returns
  have hlocks := Bk.notSynchronized
  have hC : CallFix p m c cX12_isDigit 2 s _ wsX12_isDigit RX12 := ⟨hx, hb, hml, findClass_of_methodNamed Bk.named, atoms_spec (ws := wsX12_isDigit) Bk.pre⟩
  subst hsz
  have hD := hD0.self (sz := s.heap.size)
  generalize hAe : va_A w0 s.heap.size = A at hD hE ⊢
  have hA : ∀ q : Nat, s.heap.size ≤ q → A q := fun q h => by rw [← hAe]; exact Or.inr h
  have hw : Wd dC dI A s.heap s.heap [] w0 := ⟨hP, hD, va_S.rf⟩
  have hF : FE ksM ([] : List (Nat × Nat × Nat)) w0 w0 := FE.rf
  have hl := lv_entry ([.ref (ad 0), .int a1]) (n := 2) (Nat.le_of_ble_eq_true rfl)
  rw [lg_entry_eq]
  generalize (lg_sl ([.ref (ad 0), .int a1]) ++ List.replicate (2 - (lg_sl ([.ref (ad 0), .int a1])).length) Slot.unset).toArray = ls at hl ⊢
  have hl : lv_has ls 2 [(0, .ref (ad 0)), (1, .int a1)] := hl
  generalize hloc : ([] : List Loc) = locs at hw ⊢
  have hinX12 : ∀ w ∈ u_ws RX12 TX12 42, w ∈ wsX12_isDigit := fun _ h => List.mem_cons_of_mem _ (List.mem_append_right _ (h))
  have J34 : ∀ (f34_0_1 : Int32) (H : Heap) (locs : List Loc) (ls : Array Slot), 0 ≤ a1.toInt → a1.toInt ≤ 400 → 0 ≤ f34_0_1.toInt → f34_0_1.toInt ≤ 400 → Wd dC dI A s.heap H locs w0 → gi w0 0 1 = f34_0_1 → lv_has ls 2 [(0, .ref (ad 0)), (1, .int a1)] → W p l e ({ frames := 1, cells := 0, slots := 0, locals := 12 }) s m (List.toArray [.ref (ad 0), .int a1]) below meth c H locs 0 0 (MQ below (va_Qi (P_X12_isDigit_2 ad cy B qr s1 a1 w0) (fun u : va_W => wpost dC dI cy A u) A) (List.toArray [.ref (ad 0), .int a1]) s 0 0 A) (F0 m 34 ls []) := by
    intro f34_0_1 H locs ls r1 t2 r3 t4 hw c5 hl
    refine lv_iconst (v := 0) hx hb dX12_isDigit_34 (by decide) ?_
    exact tk_zret hC hr rfl hlocks hK ⟨rfl, (Or.inl ⟨rfl, ⟨f34_0_1, c5, (show 0 ≤ f34_0_1.toInt by omega), (show f34_0_1.toInt ≤ 400 by omega)⟩⟩)⟩ hw dX12_isDigit_35
  refine lv_iload_n hx hb dX12_isDigit_0 rfl (lv_at hl 1 rfl) ?_
  refine lv_aload_n hx hb dX12_isDigit_1 rfl (lv_at hl 0 rfl) ?_
  refine tk_geti hC hK hw hT hinX12 kM_at0 (by decide) rfl 1 (by decide) (List.mem_of_getElem? (i := 1) rfl) rfl rfl dX12_isDigit_2 (fun x6 c7 rx6 tx6 => ?_)
  refine lv_icmp_ge (tgt := 34) hx hb dX12_isDigit_5 (by decide) (fun c8 => ?_) (fun c8 => ?_)
  · have c8 : x6.toInt ≤ a1.toInt := wk_le.mp c8
    exact J34 x6 s.heap locs ls  (show 0 ≤ a1.toInt by omega) (show a1.toInt ≤ 400 by omega) (show 0 ≤ x6.toInt by omega) (show x6.toInt ≤ 400 by omega)  hw  c7 (lv_sub hl [0, 1] rfl)
  · have c8 : a1.toInt < x6.toInt := wk_leF c8
    refine lv_aload_n hx hb dX12_isDigit_8 rfl (lv_at hl 0 rfl) ?_
    refine tk_getA hC hK hw hT hinX12 kM_at0 (by decide) rfl 0 (by decide) (List.mem_of_getElem? (i := 2) rfl) rfl rfl dX12_isDigit_9 ?_
    refine lv_iload_n hx hb dX12_isDigit_12 rfl (lv_at hl 1 rfl) ?_
    refine tk_bald hC hK hw hT kM_at1 rfl rfl (show 0 ≤ a1.toInt by omega) (show a1.toInt < 400 by omega) dX12_isDigit_13 (fun x9 c10 rx9 tx9 => ?_)
    have c10 : gi w0 1 (a1.toInt).toNat = x9 := (congrArg (gi w0 1) (congrArg Int.toNat (show a1.toInt = a1.toInt by omega))).trans c10
    refine lv_bipush (v := 48) hx hb dX12_isDigit_14 (by decide) ?_
    refine lv_icmp_lt (tgt := 34) hx hb dX12_isDigit_16 (by decide) (fun c11 => ?_) (fun c11 => ?_)
    · have c11 : x9.toInt < (48 : Int) := wk_lt.mp c11
      exact J34 x6 s.heap locs ls  (show 0 ≤ a1.toInt by omega) (show a1.toInt ≤ 400 by omega) (show 0 ≤ x6.toInt by omega) (show x6.toInt ≤ 400 by omega)  hw  c7 (lv_sub hl [0, 1] rfl)
    · have c11 : (48 : Int) ≤ x9.toInt := wk_ltF c11
      refine lv_aload_n hx hb dX12_isDigit_19 rfl (lv_at hl 0 rfl) ?_
      refine tk_getA hC hK hw hT hinX12 kM_at0 (by decide) rfl 0 (by decide) (List.mem_of_getElem? (i := 2) rfl) rfl rfl dX12_isDigit_20 ?_
      refine lv_iload_n hx hb dX12_isDigit_23 rfl (lv_at hl 1 rfl) ?_
      refine tk_bald hC hK hw hT kM_at1 rfl rfl (show 0 ≤ a1.toInt by omega) (show a1.toInt < 400 by omega) dX12_isDigit_24 (fun x12 c13 rx12 tx12 => ?_)
      have c13 : gi w0 1 (a1.toInt).toNat = x12 := (congrArg (gi w0 1) (congrArg Int.toNat (show a1.toInt = a1.toInt by omega))).trans c13
      refine wk_top x9 (c13.symm.trans c10) ?_
      refine lv_bipush (v := 57) hx hb dX12_isDigit_25 (by decide) ?_
      refine lv_icmp_gt (tgt := 34) hx hb dX12_isDigit_27 (by decide) (fun c14 => ?_) (fun c14 => ?_)
      · have c14 : (57 : Int) < x9.toInt := wk_lt.mp c14
        exact J34 x6 s.heap locs ls  (show 0 ≤ a1.toInt by omega) (show a1.toInt ≤ 400 by omega) (show 0 ≤ x6.toInt by omega) (show x6.toInt ≤ 400 by omega)  hw  c7 (lv_sub hl [0, 1] rfl)
      · have c14 : x9.toInt ≤ (57 : Int) := wk_ltF c14
        refine lv_iconst (v := 1) hx hb dX12_isDigit_30 (by decide) ?_
        refine lv_goto (tgt := 35) hx hb dX12_isDigit_31 (by decide) ?_
        exact tk_zret hC hr rfl hlocks hK ⟨rfl, (Or.inr ⟨rfl, (show a1.toInt ≤ 399 by omega), ⟨x6, c7, (show 1 ≤ x6.toInt by omega), (show x6.toInt ≤ 400 by omega)⟩⟩)⟩ hw dX12_isDigit_35
abbrev P_X12_isDigit_3 (ad : Nat → Nat) (cy : Nat → ClassId) (B : Int) (qr : Nat) (s1 : Int) (a1 : Int32) (w0 : va_W) : Int32 → va_W → Prop := fun r u => w0 = u ∧ ((r = 0 ∧ (∃ y : Int32, gi u 0 1 = y ∧ 0 ≤ y.toInt ∧ y.toInt ≤ 400)) ∨ (r = 1 ∧ (∃ y : Int32, gi u 0 1 = y ∧ 2 ≤ y.toInt ∧ y.toInt ≤ 400)))
set_option maxHeartbeats 4000000 in
set_option maxRecDepth 100000 in
theorem k_X12_isDigit_3 (l : Launch) (adK adV : Nat → Nat) (dC : Nat → ClassId) (dI : Nat → Nat → Nat) (cy : Nat → ClassId) (ad : Nat → Nat) (B : Int) (hB0 : 100000 ≤ B) (hB1 : B ≤ 1073741824) (qr : Nat) (s1 : Int)  (a1 : Int32) (ra1 : 1 ≤ a1.toInt) (ta1 : a1.toInt ≤ 399) (w0 : va_W) (sz : Nat) (hT : TW ksM ad cy B qr 12 w0)  : Met l yX12_isDigit wsX12_isDigit ({ frames := 1, cells := 0, slots := 0, locals := 12 }) (va_Pc [.ref (ad 0), .int a1] (wpreS adK adV dC dI cy sz w0)) (va_Qi (P_X12_isDigit_3 ad cy B qr s1 a1 w0) (fun u : va_W => wpost dC dI cy (va_A w0 sz) u) (va_A w0 sz)) 0 0 (va_A w0 sz) := by
  refine Met.ofW (cc := cX12_isDigit) (maxL := 2) (ret := (some .boolean)) (by decide) rfl ?_
  intro p e s m args below meth c s₁ Bk hml hv
  obtain ⟨rfl, ⟨hsz, hP, hK, hD0⟩, hE, hSR⟩ := hv
  have hx := Bk.exec
  have hb := Bk.bytes
  have hr := Bk.returns
  have hlocks := Bk.notSynchronized
  have hC : CallFix p m c cX12_isDigit 2 s _ wsX12_isDigit RX12 := ⟨hx, hb, hml, findClass_of_methodNamed Bk.named, atoms_spec (ws := wsX12_isDigit) Bk.pre⟩
  subst hsz
  have hD := hD0.self (sz := s.heap.size)
  generalize hAe : va_A w0 s.heap.size = A at hD hE ⊢
  have hA : ∀ q : Nat, s.heap.size ≤ q → A q := fun q h => by rw [← hAe]; exact Or.inr h
  have hw : Wd dC dI A s.heap s.heap [] w0 := ⟨hP, hD, va_S.rf⟩
  have hF : FE ksM ([] : List (Nat × Nat × Nat)) w0 w0 := FE.rf
  have hl := lv_entry ([.ref (ad 0), .int a1]) (n := 2) (Nat.le_of_ble_eq_true rfl)
  rw [lg_entry_eq]
  generalize (lg_sl ([.ref (ad 0), .int a1]) ++ List.replicate (2 - (lg_sl ([.ref (ad 0), .int a1])).length) Slot.unset).toArray = ls at hl ⊢
  have hl : lv_has ls 2 [(0, .ref (ad 0)), (1, .int a1)] := hl
  generalize hloc : ([] : List Loc) = locs at hw ⊢
  have hinX12 : ∀ w ∈ u_ws RX12 TX12 42, w ∈ wsX12_isDigit := fun _ h => List.mem_cons_of_mem _ (List.mem_append_right _ (h))
  have J34 : ∀ (f34_0_1 : Int32) (H : Heap) (locs : List Loc) (ls : Array Slot), 1 ≤ a1.toInt → a1.toInt ≤ 399 → 0 ≤ f34_0_1.toInt → f34_0_1.toInt ≤ 400 → Wd dC dI A s.heap H locs w0 → gi w0 0 1 = f34_0_1 → lv_has ls 2 [(0, .ref (ad 0)), (1, .int a1)] → W p l e ({ frames := 1, cells := 0, slots := 0, locals := 12 }) s m (List.toArray [.ref (ad 0), .int a1]) below meth c H locs 0 0 (MQ below (va_Qi (P_X12_isDigit_3 ad cy B qr s1 a1 w0) (fun u : va_W => wpost dC dI cy A u) A) (List.toArray [.ref (ad 0), .int a1]) s 0 0 A) (F0 m 34 ls []) := by
    intro f34_0_1 H locs ls r1 t2 r3 t4 hw c5 hl
    refine lv_iconst (v := 0) hx hb dX12_isDigit_34 (by decide) ?_
    exact tk_zret hC hr rfl hlocks hK ⟨rfl, (Or.inl ⟨rfl, ⟨f34_0_1, c5, (show 0 ≤ f34_0_1.toInt by omega), (show f34_0_1.toInt ≤ 400 by omega)⟩⟩)⟩ hw dX12_isDigit_35
  refine lv_iload_n hx hb dX12_isDigit_0 rfl (lv_at hl 1 rfl) ?_
  refine lv_aload_n hx hb dX12_isDigit_1 rfl (lv_at hl 0 rfl) ?_
  refine tk_geti hC hK hw hT hinX12 kM_at0 (by decide) rfl 1 (by decide) (List.mem_of_getElem? (i := 1) rfl) rfl rfl dX12_isDigit_2 (fun x6 c7 rx6 tx6 => ?_)
  refine lv_icmp_ge (tgt := 34) hx hb dX12_isDigit_5 (by decide) (fun c8 => ?_) (fun c8 => ?_)
  · have c8 : x6.toInt ≤ a1.toInt := wk_le.mp c8
    exact J34 x6 s.heap locs ls  (show 1 ≤ a1.toInt by omega) (show a1.toInt ≤ 399 by omega) (show 0 ≤ x6.toInt by omega) (show x6.toInt ≤ 400 by omega)  hw  c7 (lv_sub hl [0, 1] rfl)
  · have c8 : a1.toInt < x6.toInt := wk_leF c8
    refine lv_aload_n hx hb dX12_isDigit_8 rfl (lv_at hl 0 rfl) ?_
    refine tk_getA hC hK hw hT hinX12 kM_at0 (by decide) rfl 0 (by decide) (List.mem_of_getElem? (i := 2) rfl) rfl rfl dX12_isDigit_9 ?_
    refine lv_iload_n hx hb dX12_isDigit_12 rfl (lv_at hl 1 rfl) ?_
    refine tk_bald hC hK hw hT kM_at1 rfl rfl (show 0 ≤ a1.toInt by omega) (show a1.toInt < 400 by omega) dX12_isDigit_13 (fun x9 c10 rx9 tx9 => ?_)
    have c10 : gi w0 1 (a1.toInt).toNat = x9 := (congrArg (gi w0 1) (congrArg Int.toNat (show a1.toInt = a1.toInt by omega))).trans c10
    refine lv_bipush (v := 48) hx hb dX12_isDigit_14 (by decide) ?_
    refine lv_icmp_lt (tgt := 34) hx hb dX12_isDigit_16 (by decide) (fun c11 => ?_) (fun c11 => ?_)
    · have c11 : x9.toInt < (48 : Int) := wk_lt.mp c11
      exact J34 x6 s.heap locs ls  (show 1 ≤ a1.toInt by omega) (show a1.toInt ≤ 399 by omega) (show 0 ≤ x6.toInt by omega) (show x6.toInt ≤ 400 by omega)  hw  c7 (lv_sub hl [0, 1] rfl)
    · have c11 : (48 : Int) ≤ x9.toInt := wk_ltF c11
      refine lv_aload_n hx hb dX12_isDigit_19 rfl (lv_at hl 0 rfl) ?_
      refine tk_getA hC hK hw hT hinX12 kM_at0 (by decide) rfl 0 (by decide) (List.mem_of_getElem? (i := 2) rfl) rfl rfl dX12_isDigit_20 ?_
      refine lv_iload_n hx hb dX12_isDigit_23 rfl (lv_at hl 1 rfl) ?_
      refine tk_bald hC hK hw hT kM_at1 rfl rfl (show 0 ≤ a1.toInt by omega) (show a1.toInt < 400 by omega) dX12_isDigit_24 (fun x12 c13 rx12 tx12 => ?_)
      have c13 : gi w0 1 (a1.toInt).toNat = x12 := (congrArg (gi w0 1) (congrArg Int.toNat (show a1.toInt = a1.toInt by omega))).trans c13
      refine wk_top x9 (c13.symm.trans c10) ?_
      refine lv_bipush (v := 57) hx hb dX12_isDigit_25 (by decide) ?_
      refine lv_icmp_gt (tgt := 34) hx hb dX12_isDigit_27 (by decide) (fun c14 => ?_) (fun c14 => ?_)
      · have c14 : (57 : Int) < x9.toInt := wk_lt.mp c14
        exact J34 x6 s.heap locs ls  (show 1 ≤ a1.toInt by omega) (show a1.toInt ≤ 399 by omega) (show 0 ≤ x6.toInt by omega) (show x6.toInt ≤ 400 by omega)  hw  c7 (lv_sub hl [0, 1] rfl)
      · have c14 : x9.toInt ≤ (57 : Int) := wk_ltF c14
        refine lv_iconst (v := 1) hx hb dX12_isDigit_30 (by decide) ?_
        refine lv_goto (tgt := 35) hx hb dX12_isDigit_31 (by decide) ?_
        exact tk_zret hC hr rfl hlocks hK ⟨rfl, (Or.inr ⟨rfl, ⟨x6, c7, (show 2 ≤ x6.toInt by omega), (show x6.toInt ≤ 400 by omega)⟩⟩)⟩ hw dX12_isDigit_35
abbrev P_X12_numberHere_1 (ad : Nat → Nat) (cy : Nat → ClassId) (B : Int) (qr : Nat) (s1 : Int)  (w0 : va_W) : Int32 → va_W → Prop := fun r u => TW ksM ad cy B qr 12 u ∧ FE ksM [(12, 14, 14), (12, 15, 15), (12, 16, 16)] w0 u ∧ ((r = 0 ∧ (∃ y : Int32, gi u 0 1 = y ∧ 1 ≤ y.toInt ∧ y.toInt ≤ 400) ∧ (∃ y : Int32, gi u 0 15 = y ∧ 1 ≤ y.toInt ∧ y.toInt ≤ 3205)) ∨ (r = 0 ∧ (∃ y : Int32, gi u 0 1 = y ∧ 0 ≤ y.toInt ∧ y.toInt ≤ 400) ∧ (∃ y : Int32, gi u 0 15 = y ∧ 1 ≤ y.toInt ∧ y.toInt ≤ 3205)) ∨ (r = 1 ∧ (∃ y : Int32, gi u 0 1 = y ∧ 1 ≤ y.toInt ∧ y.toInt ≤ 400) ∧ (∃ y : Int32, gi u 0 16 = y ∧ 2 ≤ y.toInt ∧ y.toInt ≤ 10)))
set_option maxHeartbeats 4000000 in
set_option maxRecDepth 100000 in
theorem k_X12_numberHere_1 (l : Launch) (adK adV : Nat → Nat) (dC : Nat → ClassId) (dI : Nat → Nat → Nat) (cy : Nat → ClassId) (ad : Nat → Nat) (B : Int) (hB0 : 100000 ≤ B) (hB1 : B ≤ 1073741824) (qr : Nat) (s1 : Int)   (w0 : va_W) (sz : Nat) (hT : TW ksM ad cy B qr 12 w0)  : Met l yX12_numberHere wsX12_numberHere ({ frames := 2, cells := 0, slots := 0, locals := 37 }) (va_Pc [.ref (ad 0), .int 2, .int 10] (wpreS adK adV dC dI cy sz w0)) (va_Qi (P_X12_numberHere_1 ad cy B qr s1  w0) (fun u : va_W => wpost dC dI cy (va_A w0 sz) u) (va_A w0 sz)) 0 0 (va_A w0 sz) := by
  refine Met.ofW (cc := cX12_numberHere) (maxL := 5) (ret := (some .boolean)) (by decide) rfl ?_
  intro p e s m args below meth c s₁ Bk hml hv
  obtain ⟨rfl, ⟨hsz, hP, hK, hD0⟩, hE, hSR⟩ := hv
  have hx := Bk.exec
  have hb := Bk.bytes
  have hr := Bk.returns
  have hlocks := Bk.notSynchronized
  have hC : CallFix p m c cX12_numberHere 5 s _ wsX12_numberHere RX12 := ⟨hx, hb, hml, findClass_of_methodNamed Bk.named, atoms_spec (ws := wsX12_numberHere) Bk.pre⟩
  subst hsz
  have hD := hD0.self (sz := s.heap.size)
  generalize hAe : va_A w0 s.heap.size = A at hD hE ⊢
  have hA : ∀ q : Nat, s.heap.size ≤ q → A q := fun q h => by rw [← hAe]; exact Or.inr h
  have hw : Wd dC dI A s.heap s.heap [] w0 := ⟨hP, hD, va_S.rf⟩
  have hF : FE ksM [(12, 14, 14), (12, 15, 15), (12, 16, 16)] w0 w0 := FE.rf
  have hl := lv_entry ([.ref (ad 0), .int 2, .int 10]) (n := 5) (Nat.le_of_ble_eq_true rfl)
  rw [lg_entry_eq]
  generalize (lg_sl ([.ref (ad 0), .int 2, .int 10]) ++ List.replicate (5 - (lg_sl ([.ref (ad 0), .int 2, .int 10])).length) Slot.unset).toArray = ls at hl ⊢
  have hl : lv_has ls 5 [(0, .ref (ad 0)), (1, .int 2), (2, .int 10)] := hl
  generalize hloc : ([] : List Loc) = locs at hw ⊢
  have hinX12 : ∀ w ∈ u_ws RX12 TX12 42, w ∈ wsX12_numberHere := fun _ h => List.mem_cons_of_mem _ (List.mem_append_right _ (h))
  have J126 : ∀ (v126_3 : Int32) (v126_4 : Int32) (f126_0_1 : Int32) (f126_0_14 : Int32) (f126_0_16 : Int32) (H : Heap) (locs : List Loc) (ls : Array Slot) (w1 : va_W), 0 ≤ v126_3.toInt → v126_3.toInt ≤ 399 → 2 ≤ v126_4.toInt → v126_4.toInt ≤ 10 → 1 ≤ f126_0_1.toInt → f126_0_1.toInt ≤ 400 → 0 ≤ f126_0_14.toInt → f126_0_14.toInt ≤ 400 → 2 ≤ f126_0_16.toInt → f126_0_16.toInt ≤ 10 → Wd dC dI A s.heap H locs w1 → TW ksM ad cy B qr 12 w1 → FE ksM [(12, 14, 14), (12, 15, 15), (12, 16, 16)] w0 w1 → gi w1 0 1 = f126_0_1 → gi w1 0 14 = f126_0_14 → gi w1 0 16 = f126_0_16 → lv_has ls 5 [(0, .ref (ad 0)), (1, .int 2), (2, .int 10), (3, .int v126_3), (4, .int v126_4)] → W p l e ({ frames := 2, cells := 0, slots := 0, locals := 37 }) s m (List.toArray [.ref (ad 0), .int 2, .int 10]) below meth c H locs 0 0 (MQ below (va_Qi (P_X12_numberHere_1 ad cy B qr s1  w0) (fun u : va_W => wpost dC dI cy A u) A) (List.toArray [.ref (ad 0), .int 2, .int 10]) s 0 0 A) (F0 m 126 ls []) := by
    intro v126_3 v126_4 f126_0_1 f126_0_14 f126_0_16 H locs ls w1 r2 t3 r4 t5 r6 t7 r9 t10 r12 t13 hw hT hF c8 c11 c14 hl
    refine lv_iconst (v := 1) hx hb dX12_numberHere_126 (by decide) ?_
    refine lv_goto (tgt := 131) hx hb dX12_numberHere_127 (by decide) ?_
    exact tk_zret hC hr rfl hlocks hK ⟨hT, hF, (Or.inr (Or.inr ⟨rfl, ⟨f126_0_1, c8, (show 1 ≤ f126_0_1.toInt by omega), (show f126_0_1.toInt ≤ 400 by omega)⟩, ⟨f126_0_16, c14, (show 2 ≤ f126_0_16.toInt by omega), (show f126_0_16.toInt ≤ 10 by omega)⟩⟩))⟩ hw dX12_numberHere_131
  have J117 : ∀ (v117_3 : Int32) (v117_4 : Int32) (f117_0_1 : Int32) (f117_0_14 : Int32) (f117_0_16 : Int32) (H : Heap) (locs : List Loc) (ls : Array Slot) (w15 : va_W), 0 ≤ v117_3.toInt → v117_3.toInt ≤ 399 → 1 ≤ f117_0_1.toInt → f117_0_1.toInt ≤ 400 → 0 ≤ f117_0_14.toInt → f117_0_14.toInt ≤ 400 → Wd dC dI A s.heap H locs w15 → TW ksM ad cy B qr 12 w15 → FE ksM [(12, 14, 14), (12, 15, 15), (12, 16, 16)] w0 w15 → gi w15 0 1 = f117_0_1 → gi w15 0 14 = f117_0_14 → gi w15 0 16 = f117_0_16 → lv_has ls 5 [(0, .ref (ad 0)), (1, .int 2), (2, .int 10), (3, .int v117_3), (4, .int v117_4)] → W p l e ({ frames := 2, cells := 0, slots := 0, locals := 37 }) s m (List.toArray [.ref (ad 0), .int 2, .int 10]) below meth c H locs 0 0 (MQ below (va_Qi (P_X12_numberHere_1 ad cy B qr s1  w0) (fun u : va_W => wpost dC dI cy A u) A) (List.toArray [.ref (ad 0), .int 2, .int 10]) s 0 0 A) (F0 m 117 ls []) := by
    intro v117_3 v117_4 f117_0_1 f117_0_14 f117_0_16 H locs ls w15 r16 t17 r18 t19 r21 t22 hw hT hF c20 c23 c24 hl
    refine lv_aload_n hx hb dX12_numberHere_117 rfl (lv_at hl 0 rfl) ?_
    refine lv_iconst (v := 1) hx hb dX12_numberHere_118 (by decide) ?_
    refine lv_iload_n hx hb dX12_numberHere_119 rfl (lv_at hl 3 rfl) ?_
    refine tk_Vi hC hK hw hT hA hE hSR kM_at0 (by decide) rfl (k_X12_fails_1 l adK adV dC dI cy ad B (by omega) (by omega) qr s1   1 (by decide) (by decide) v117_3 (show 0 ≤ v117_3.toInt by omega) (show v117_3.toInt ≤ 400 by omega) w15 H.size hT ) (cwV 2 hC.2.2.2.2 gX12_numberHere_X12_fails rfl rfl rfl (by decide +kernel) ⟨Nat.le_of_ble_eq_true rfl, Nat.le_of_ble_eq_true rfl⟩) rfl hl.1 rfl (Nat.le_of_ble_eq_true rfl) dX12_numberHere_120 (fun r25 w27 H locs hp26 hw => ?_)
    obtain ⟨hT, k28, hg31⟩ := hp26
    have hF := hF.tr k28 (by decide)
    have c32 := k28.gi kM_at0 (by decide) c20
    have c33 := k28.gi kM_at0 (by decide) c23
    have c34 := k28.gi kM_at0 (by decide) c24
    obtain ⟨rfl, ⟨x29, c30, rx29, tx29⟩⟩ := hg31
    refine lv_if_eq (tgt := 130) hx hb dX12_numberHere_123 (by decide) (fun _ => ?_) (fun c => absurd (by decide) c)
    refine lv_iconst (v := 0) hx hb dX12_numberHere_130 (by decide) ?_
    exact tk_zret hC hr rfl hlocks hK ⟨hT, hF, (Or.inl ⟨rfl, ⟨f117_0_1, c32, (show 1 ≤ f117_0_1.toInt by omega), (show f117_0_1.toInt ≤ 400 by omega)⟩, ⟨x29, c30, (show 1 ≤ x29.toInt by omega), (show x29.toInt ≤ 3205 by omega)⟩⟩)⟩ hw dX12_numberHere_131
  have L34 : ∀ (n34 : Nat) (v34_3 : Int32) (v34_4 : Int32) (f34_0_1 : Int32) (f34_0_14 : Int32) (H : Heap) (locs : List Loc) (ls : Array Slot) (w35 : va_W), 0 ≤ v34_3.toInt → v34_3.toInt ≤ 399 → 1 ≤ f34_0_1.toInt → f34_0_1.toInt ≤ 400 → 0 ≤ f34_0_14.toInt → f34_0_14.toInt ≤ 400 → (400 - f34_0_14.toInt).toNat < n34 → Wd dC dI A s.heap H locs w35 → TW ksM ad cy B qr 12 w35 → FE ksM [(12, 14, 14), (12, 15, 15), (12, 16, 16)] w0 w35 → gi w35 0 1 = f34_0_1 → gi w35 0 14 = f34_0_14 → lv_has ls 5 [(0, .ref (ad 0)), (1, .int 2), (2, .int 10), (3, .int v34_3), (4, .int v34_4)] → W p l e ({ frames := 2, cells := 0, slots := 0, locals := 37 }) s m (List.toArray [.ref (ad 0), .int 2, .int 10]) below meth c H locs 0 0 (MQ below (va_Qi (P_X12_numberHere_1 ad cy B qr s1  w0) (fun u : va_W => wpost dC dI cy A u) A) (List.toArray [.ref (ad 0), .int 2, .int 10]) s 0 0 A) (F0 m 34 ls []) := by
    intro n34
    induction n34 with
    | zero => intro v34_3 v34_4 f34_0_1 f34_0_14 H locs ls w35 r36 t37 r38 t39 r41 t42 hm34 hw hT hF c40 c43 hl; omega
    | succ n34 ih34 =>
      intro v34_3 v34_4 f34_0_1 f34_0_14 H locs ls w35 r36 t37 r38 t39 r41 t42 hm34 hw hT hF c40 c43 hl
      have J75 : ∀ (v75_4 : Int32) (H : Heap) (locs : List Loc) (ls : Array Slot) (w44 : va_W), 0 ≤ v34_3.toInt → v34_3.toInt ≤ 399 → 1 ≤ f34_0_1.toInt → f34_0_1.toInt ≤ 400 → 0 ≤ f34_0_14.toInt → f34_0_14.toInt ≤ 399 → Wd dC dI A s.heap H locs w44 → TW ksM ad cy B qr 12 w44 → FE ksM [(12, 14, 14), (12, 15, 15), (12, 16, 16)] w0 w44 → gi w44 0 1 = f34_0_1 → gi w44 0 14 = f34_0_14 → lv_has ls 5 [(0, .ref (ad 0)), (1, .int 2), (2, .int 10), (3, .int v34_3), (4, .int v75_4)] → W p l e ({ frames := 2, cells := 0, slots := 0, locals := 37 }) s m (List.toArray [.ref (ad 0), .int 2, .int 10]) below meth c H locs 0 0 (MQ below (va_Qi (P_X12_numberHere_1 ad cy B qr s1  w0) (fun u : va_W => wpost dC dI cy A u) A) (List.toArray [.ref (ad 0), .int 2, .int 10]) s 0 0 A) (F0 m 75 ls []) := by
        intro v75_4 H locs ls w44 r45 t46 r47 t48 r50 t51 hw hT hF c49 c52 hl
        refine lv_aload_n hx hb dX12_numberHere_75 rfl (lv_at hl 0 rfl) ?_
        refine lv_dup hx hb dX12_numberHere_76 rfl ?_
        refine tk_geti hC hK hw hT hinX12 kM_at0 (by decide) rfl 14 (by decide) (List.mem_of_getElem? (i := 1) rfl) rfl rfl dX12_numberHere_77 (fun x53 c54 rx53 tx53 => ?_)
        refine wk_top f34_0_14 (c54.symm.trans c52) ?_
        refine lv_iconst (v := 1) hx hb dX12_numberHere_80 (by decide) ?_
        refine lv_iadd hx hb dX12_numberHere_81 ?_
        refine lv_topi (fun x55 ex55 => ?_)
        have ex55 : x55.toInt = f34_0_14.toInt + (1 : Int) := by rw [ex55]; exact wk_add (show (-2147483648) ≤ f34_0_14.toInt + (1 : Int) by omega) (show f34_0_14.toInt + (1 : Int) ≤ 2147483647 by omega)
        refine tk_puti hC hK hw hT hinX12 tyX12_ok nmX12 kM_at0 (by decide) rfl rfl 14 (by decide) (List.mem_of_getElem? (i := 1) rfl) rfl rfl rfl rfl (show 0 ≤ x55.toInt by omega) (show x55.toInt ≤ 400 by omega) dX12_numberHere_82 (fun H locs w56 hw hT k58 c57 => ?_)
        have hF := hF.put kM_at0 (k := 14) (by decide) k58
        have c59 := k58.gi (Or.inr (by decide)) c49
        refine lv_goto (tgt := 34) hx hb dX12_numberHere_85 (by decide) ?_
        exact ih34 v34_3 v75_4 f34_0_1 x55 H locs ls w56 (show 0 ≤ v34_3.toInt by omega) (show v34_3.toInt ≤ 399 by omega) (show 1 ≤ f34_0_1.toInt by omega) (show f34_0_1.toInt ≤ 400 by omega) (show 0 ≤ x55.toInt by omega) (show x55.toInt ≤ 400 by omega) (show (400 - x55.toInt).toNat < n34 by omega) hw hT hF c59 c57 (lv_sub hl [0, 1, 2, 3, 4] rfl)
      refine lv_aload_n hx hb dX12_numberHere_34 rfl (lv_at hl 0 rfl) ?_
      refine lv_aload_n hx hb dX12_numberHere_35 rfl (lv_at hl 0 rfl) ?_
      refine tk_geti hC hK hw hT hinX12 kM_at0 (by decide) rfl 14 (by decide) (List.mem_of_getElem? (i := 1) rfl) rfl rfl dX12_numberHere_36 (fun x60 c61 rx60 tx60 => ?_)
      refine wk_top f34_0_14 (c61.symm.trans c43) ?_
      refine tk_Vi hC hK hw hT hA hE hSR kM_at0 (by decide) rfl (k_X12_isDigit_2 l adK adV dC dI cy ad B (by omega) (by omega) qr s1   f34_0_14 (show 0 ≤ f34_0_14.toInt by omega) (show f34_0_14.toInt ≤ 400 by omega) w35 H.size hT ) (cwV 1 hC.2.2.2.2 gX12_numberHere_X12_isDigit rfl rfl rfl (by decide +kernel) ⟨Nat.le_of_ble_eq_true rfl, Nat.le_of_ble_eq_true rfl⟩) rfl hl.1 rfl (Nat.le_of_ble_eq_true rfl) dX12_numberHere_39 (fun r62 w64 H locs hp63 hw => ?_)
      obtain ⟨rfl, hg71⟩ := hp63
      rcases hg71 with ⟨rfl, ⟨x66, c67, rx66, tx66⟩⟩ | ⟨rfl, g68, ⟨x69, c70, rx69, tx69⟩⟩
      · have ex66 : x66.toInt = f34_0_1.toInt := by rw [← c40.symm.trans c67]
        refine lv_if_eq (tgt := 88) hx hb dX12_numberHere_42 (by decide) (fun _ => ?_) (fun c => absurd (by decide) c)
        refine lv_aload_n hx hb dX12_numberHere_88 rfl (lv_at hl 0 rfl) ?_
        refine lv_iload hx hb dX12_numberHere_89 (lv_at hl 4 rfl) ?_
        refine tk_puti hC hK hw hT hinX12 tyX12_ok nmX12 kM_at0 (by decide) rfl rfl 16 (by decide) (List.mem_of_getElem? (i := 3) rfl) rfl rfl rfl rfl (wk_i32 v34_4).1 (wk_i32 v34_4).2 dX12_numberHere_91 (fun H locs w72 hw hT k74 c73 => ?_)
        have hF := hF.put kM_at0 (k := 16) (by decide) k74
        have c75 := k74.gi (Or.inr (by decide)) c40
        have c76 := k74.gi (Or.inr (by decide)) c43
        refine lv_aload_n hx hb dX12_numberHere_94 rfl (lv_at hl 0 rfl) ?_
        refine tk_geti hC hK hw hT hinX12 kM_at0 (by decide) rfl 14 (by decide) (List.mem_of_getElem? (i := 1) rfl) rfl rfl dX12_numberHere_95 (fun x77 c78 rx77 tx77 => ?_)
        refine wk_top f34_0_14 (c78.symm.trans c76) ?_
        refine lv_iload_n hx hb dX12_numberHere_98 rfl (lv_at hl 3 rfl) ?_
        refine lv_isub hx hb dX12_numberHere_99 ?_
        refine lv_topi (fun x79 ex79 => ?_)
        have ex79 : x79.toInt = f34_0_14.toInt - v34_3.toInt := by rw [ex79]; exact wk_sub (show (-2147483648) ≤ f34_0_14.toInt - v34_3.toInt by omega) (show f34_0_14.toInt - v34_3.toInt ≤ 2147483647 by omega)
        refine lv_iconst (v := 5) hx hb dX12_numberHere_100 (by decide) ?_
        refine lv_icmp_gt (tgt := 117) hx hb dX12_numberHere_101 (by decide) (fun c80 => ?_) (fun c80 => ?_)
        · have c80 : (5 : Int) < x79.toInt := wk_lt.mp c80
          exact J117 v34_3 v34_4 f34_0_1 f34_0_14 v34_4 H locs ls w72 (show 0 ≤ v34_3.toInt by omega) (show v34_3.toInt ≤ 399 by omega) (show 1 ≤ f34_0_1.toInt by omega) (show f34_0_1.toInt ≤ 400 by omega) (show 0 ≤ f34_0_14.toInt by omega) (show f34_0_14.toInt ≤ 400 by omega)  hw hT hF c75 c76 c73 (lv_sub hl [0, 1, 2, 3, 4] rfl)
        · have c80 : x79.toInt ≤ (5 : Int) := wk_ltF c80
          refine lv_iload hx hb dX12_numberHere_104 (lv_at hl 4 rfl) ?_
          refine lv_i2l hx hb dX12_numberHere_106 rfl ?_
          refine lv_topl (fun x81 ex81 => ?_)
          have ex81 : x81.toInt = v34_4.toInt := by rw [ex81]; exact wk_i2l _
          have bx81 := wk_i32 v34_4
          refine lv_iload_n hx hb dX12_numberHere_107 rfl (lv_at hl 1 rfl) ?_
          refine lv_i2l hx hb dX12_numberHere_108 rfl ?_
          refine wk_topl 2 (by decide) ?_
          refine lv_iload_n hx hb dX12_numberHere_109 rfl (lv_at hl 2 rfl) ?_
          refine lv_i2l hx hb dX12_numberHere_110 rfl ?_
          refine wk_topl 10 (by decide) ?_
          refine tk_Si hC hK hw hT hA hE hSR (k_X12_in_1 l adK adV dC dI cy ad B (by omega) (by omega) qr s1   x81 (show (-2147483648) ≤ x81.toInt by omega) (show x81.toInt ≤ 2147483647 by omega) w72 H.size hT ) (va_cwS 3 hC.2.2.2.2 gX12_numberHere_X12_in rfl rfl rfl (by decide +kernel) ⟨Nat.le_of_ble_eq_true rfl, Nat.le_of_ble_eq_true rfl⟩) rfl hl.1 rfl (Nat.le_of_ble_eq_true rfl) dX12_numberHere_111 (fun r82 w84 H locs hp83 hw => ?_)
          obtain ⟨rfl, hg88⟩ := hp83
          rcases hg88 with rfl | ⟨rfl, g86, g87⟩
          · refine lv_if_ne (tgt := 126) hx hb dX12_numberHere_114 (by decide) (fun c => absurd (by decide) c) (fun _ => ?_)
            exact J117 v34_3 v34_4 f34_0_1 f34_0_14 v34_4 H locs ls w72 (show 0 ≤ v34_3.toInt by omega) (show v34_3.toInt ≤ 399 by omega) (show 1 ≤ f34_0_1.toInt by omega) (show f34_0_1.toInt ≤ 400 by omega) (show 0 ≤ f34_0_14.toInt by omega) (show f34_0_14.toInt ≤ 400 by omega)  hw hT hF c75 c76 c73 (lv_sub hl [0, 1, 2, 3, 4] rfl)
          · refine lv_if_ne (tgt := 126) hx hb dX12_numberHere_114 (by decide) (fun _ => ?_) (fun c => absurd c (by decide))
            exact J126 v34_3 v34_4 f34_0_1 f34_0_14 v34_4 H locs ls w72 (show 0 ≤ v34_3.toInt by omega) (show v34_3.toInt ≤ 399 by omega) (show 2 ≤ v34_4.toInt by omega) (show v34_4.toInt ≤ 10 by omega) (show 1 ≤ f34_0_1.toInt by omega) (show f34_0_1.toInt ≤ 400 by omega) (show 0 ≤ f34_0_14.toInt by omega) (show f34_0_14.toInt ≤ 400 by omega) (show 2 ≤ v34_4.toInt by omega) (show v34_4.toInt ≤ 10 by omega)  hw hT hF c75 c76 c73 (lv_sub hl [0, 1, 2, 3, 4] rfl)
      · have ex69 : x69.toInt = f34_0_1.toInt := by rw [← c40.symm.trans c70]
        refine lv_if_eq (tgt := 88) hx hb dX12_numberHere_42 (by decide) (fun c => absurd c (by decide)) (fun _ => ?_)
        refine lv_aload_n hx hb dX12_numberHere_45 rfl (lv_at hl 0 rfl) ?_
        refine tk_geti hC hK hw hT hinX12 kM_at0 (by decide) rfl 14 (by decide) (List.mem_of_getElem? (i := 1) rfl) rfl rfl dX12_numberHere_46 (fun x89 c90 rx89 tx89 => ?_)
        refine wk_top f34_0_14 (c90.symm.trans c43) ?_
        refine lv_iload_n hx hb dX12_numberHere_49 rfl (lv_at hl 3 rfl) ?_
        refine lv_isub hx hb dX12_numberHere_50 ?_
        refine lv_topi (fun x91 ex91 => ?_)
        have ex91 : x91.toInt = f34_0_14.toInt - v34_3.toInt := by rw [ex91]; exact wk_sub (show (-2147483648) ≤ f34_0_14.toInt - v34_3.toInt by omega) (show f34_0_14.toInt - v34_3.toInt ≤ 2147483647 by omega)
        refine lv_iconst (v := 5) hx hb dX12_numberHere_51 (by decide) ?_
        refine lv_icmp_ge (tgt := 75) hx hb dX12_numberHere_52 (by decide) (fun c92 => ?_) (fun c92 => ?_)
        · have c92 : (5 : Int) ≤ x91.toInt := wk_le.mp c92
          exact J75 v34_4 H locs ls w35 (show 0 ≤ v34_3.toInt by omega) (show v34_3.toInt ≤ 399 by omega) (show 1 ≤ f34_0_1.toInt by omega) (show f34_0_1.toInt ≤ 400 by omega) (show 0 ≤ f34_0_14.toInt by omega) (show f34_0_14.toInt ≤ 399 by omega)  hw hT hF c40 c43 (lv_sub hl [0, 1, 2, 3, 4] rfl)
        · have c92 : x91.toInt < (5 : Int) := wk_leF c92
          refine lv_bipush (v := 10) hx hb dX12_numberHere_55 (by decide) ?_
          refine lv_iload hx hb dX12_numberHere_57 (lv_at hl 4 rfl) ?_
          refine lv_imul hx hb dX12_numberHere_59 ?_
          have nx93 := wk_i32 v34_4
          refine lv_topi (fun x94 ex94 => ?_)
          refine lv_aload_n hx hb dX12_numberHere_60 rfl (lv_at hl 0 rfl) ?_
          refine tk_getA hC hK hw hT hinX12 kM_at0 (by decide) rfl 0 (by decide) (List.mem_of_getElem? (i := 2) rfl) rfl rfl dX12_numberHere_61 ?_
          refine lv_aload_n hx hb dX12_numberHere_64 rfl (lv_at hl 0 rfl) ?_
          refine tk_geti hC hK hw hT hinX12 kM_at0 (by decide) rfl 14 (by decide) (List.mem_of_getElem? (i := 1) rfl) rfl rfl dX12_numberHere_65 (fun x95 c96 rx95 tx95 => ?_)
          refine wk_top f34_0_14 (c96.symm.trans c43) ?_
          refine tk_bald hC hK hw hT kM_at1 rfl rfl (show 0 ≤ f34_0_14.toInt by omega) (show f34_0_14.toInt < 400 by omega) dX12_numberHere_68 (fun x97 c98 rx97 tx97 => ?_)
          have c98 : gi w35 1 (f34_0_14.toInt).toNat = x97 := (congrArg (gi w35 1) (congrArg Int.toNat (show f34_0_14.toInt = f34_0_14.toInt by omega))).trans c98
          refine lv_iadd hx hb dX12_numberHere_69 ?_
          have nx99 := wk_i32 x94
          refine lv_topi (fun x100 ex100 => ?_)
          refine lv_bipush (v := 48) hx hb dX12_numberHere_70 (by decide) ?_
          refine lv_isub hx hb dX12_numberHere_72 ?_
          have nx101 := wk_i32 x100
          refine lv_topi (fun x102 ex102 => ?_)
          refine lv_istore (lv' := [(4, .int x102), (0, .ref (ad 0)), (1, .int 2), (2, .int 10), (3, .int v34_3)]) hx hb dX12_numberHere_73 hl (by decide) rfl (fun ls hl => ?_)
          exact J75 x102 H locs ls w35 (show 0 ≤ v34_3.toInt by omega) (show v34_3.toInt ≤ 399 by omega) (show 1 ≤ f34_0_1.toInt by omega) (show f34_0_1.toInt ≤ 400 by omega) (show 0 ≤ f34_0_14.toInt by omega) (show f34_0_14.toInt ≤ 399 by omega)  hw hT hF c40 c43 (lv_sub hl [1, 2, 3, 4, 0] rfl)
  refine lv_aload_n hx hb dX12_numberHere_0 rfl (lv_at hl 0 rfl) ?_
  obtain ⟨x103, c104, rx103, tx103⟩ := hT.rdi (lo := 0) (hi := 400) (k := 14) kM_at0 (by decide) rfl
  refine tk_Vi hC hK hw hT hA hE hSR kM_at0 (by decide) rfl (k_X12_see_1 l adK adV dC dI cy ad B (by omega) (by omega) qr s1    w0 s.heap.size hT x103 c104 (show 0 ≤ x103.toInt by omega) (show x103.toInt ≤ 400 by omega)) (cwV 0 hC.2.2.2.2 gX12_numberHere_X12_see rfl rfl rfl (by decide +kernel) ⟨Nat.le_of_ble_eq_true rfl, Nat.le_of_ble_eq_true rfl⟩) rfl hl.1 rfl (Nat.le_of_ble_eq_true rfl) dX12_numberHere_1 (fun r105 w107 H locs hp106 hw => ?_)
  obtain ⟨hT, k108, hg125⟩ := hp106
  have hF := hF.tr k108 (by decide)
  rcases hg125 with ⟨g109, g110, ⟨x111, c112, rx111, tx111⟩, ⟨x113, c114, rx113, tx113⟩, g115, g116⟩ | ⟨rfl, ⟨x117, c118, rx117, tx117⟩, ⟨x119, c120, rx119, tx119⟩, g121⟩ | ⟨rfl, ⟨x122, c123, rx122, tx122⟩, g124⟩
  · have g115 : (gi w107 1 (x113.toInt).toNat).toInt ≠ 32 := by have q := g115; simp only [c114] at q; omega
    have g116 : (x113.toInt = x103.toInt ∨ (gi w0 1 (x103.toInt).toNat).toInt = 32) := by have q := g116; simp only [c104, c114] at q; omega
    refine lv_pop hx hb dX12_numberHere_4 rfl ?_
    refine lv_aload_n hx hb dX12_numberHere_5 rfl (lv_at hl 0 rfl) ?_
    refine lv_aload_n hx hb dX12_numberHere_6 rfl (lv_at hl 0 rfl) ?_
    refine tk_geti hC hK hw hT hinX12 kM_at0 (by decide) rfl 14 (by decide) (List.mem_of_getElem? (i := 1) rfl) rfl rfl dX12_numberHere_7 (fun x128 c129 rx128 tx128 => ?_)
    refine wk_top x113 (c129.symm.trans c114) ?_
    refine tk_Vi hC hK hw hT hA hE hSR kM_at0 (by decide) rfl (k_X12_isDigit_1 l adK adV dC dI cy ad B (by omega) (by omega) qr s1   x113 (show 0 ≤ x113.toInt by omega) (show x113.toInt ≤ 399 by omega) w107 H.size hT ) (cwV 1 hC.2.2.2.2 gX12_numberHere_X12_isDigit rfl rfl rfl (by decide +kernel) ⟨Nat.le_of_ble_eq_true rfl, Nat.le_of_ble_eq_true rfl⟩) rfl hl.1 rfl (Nat.le_of_ble_eq_true rfl) dX12_numberHere_10 (fun r130 w132 H locs hp131 hw => ?_)
    obtain ⟨rfl, hg138⟩ := hp131
    rcases hg138 with ⟨rfl, ⟨x134, c135, rx134, tx134⟩⟩ | ⟨rfl, ⟨x136, c137, rx136, tx136⟩⟩
    · have ex134 : x134.toInt = x111.toInt := by rw [← c112.symm.trans c135]
      refine lv_if_ne (tgt := 26) hx hb dX12_numberHere_13 (by decide) (fun c => absurd (by decide) c) (fun _ => ?_)
      refine lv_aload_n hx hb dX12_numberHere_16 rfl (lv_at hl 0 rfl) ?_
      refine lv_iconst (v := 0) hx hb dX12_numberHere_17 (by decide) ?_
      refine lv_aload_n hx hb dX12_numberHere_18 rfl (lv_at hl 0 rfl) ?_
      refine tk_geti hC hK hw hT hinX12 kM_at0 (by decide) rfl 14 (by decide) (List.mem_of_getElem? (i := 1) rfl) rfl rfl dX12_numberHere_19 (fun x139 c140 rx139 tx139 => ?_)
      refine wk_top x113 (c140.symm.trans c114) ?_
      refine tk_Vi hC hK hw hT hA hE hSR kM_at0 (by decide) rfl (k_X12_fails_1 l adK adV dC dI cy ad B (by omega) (by omega) qr s1   0 (by decide) (by decide) x113 (show 0 ≤ x113.toInt by omega) (show x113.toInt ≤ 400 by omega) w107 H.size hT ) (cwV 2 hC.2.2.2.2 gX12_numberHere_X12_fails rfl rfl rfl (by decide +kernel) ⟨Nat.le_of_ble_eq_true rfl, Nat.le_of_ble_eq_true rfl⟩) rfl hl.1 rfl (Nat.le_of_ble_eq_true rfl) dX12_numberHere_22 (fun r141 w143 H locs hp142 hw => ?_)
      obtain ⟨hT, k144, hg147⟩ := hp142
      have hF := hF.tr k144 (by decide)
      have c148 := k144.gi kM_at0 (by decide) c112
      have c149 := k144.gi kM_at0 (by decide) c114
      obtain ⟨rfl, ⟨x145, c146, rx145, tx145⟩⟩ := hg147
      exact tk_zret hC hr rfl hlocks hK ⟨hT, hF, (Or.inl ⟨rfl, ⟨x111, c148, (show 1 ≤ x111.toInt by omega), (show x111.toInt ≤ 400 by omega)⟩, ⟨x145, c146, (show 1 ≤ x145.toInt by omega), (show x145.toInt ≤ 3205 by omega)⟩⟩)⟩ hw dX12_numberHere_25
    · have ex136 : x136.toInt = x111.toInt := by rw [← c112.symm.trans c137]
      refine lv_if_ne (tgt := 26) hx hb dX12_numberHere_13 (by decide) (fun _ => ?_) (fun c => absurd c (by decide))
      refine lv_aload_n hx hb dX12_numberHere_26 rfl (lv_at hl 0 rfl) ?_
      refine tk_geti hC hK hw hT hinX12 kM_at0 (by decide) rfl 14 (by decide) (List.mem_of_getElem? (i := 1) rfl) rfl rfl dX12_numberHere_27 (fun x150 c151 rx150 tx150 => ?_)
      refine wk_top x113 (c151.symm.trans c114) ?_
      refine lv_istore_n (lv' := [(3, .int x113), (0, .ref (ad 0)), (1, .int 2), (2, .int 10)]) hx hb dX12_numberHere_30 rfl hl (by decide) rfl (fun ls hl => ?_)
      refine lv_iconst (v := 0) hx hb dX12_numberHere_31 (by decide) ?_
      refine lv_istore (lv' := [(4, .int 0), (3, .int x113), (0, .ref (ad 0)), (1, .int 2), (2, .int 10)]) hx hb dX12_numberHere_32 hl (by decide) rfl (fun ls hl => ?_)
      exact L34 ((400 - x113.toInt).toNat + 1) x113 0 x111 x113 H locs ls w107 (show 0 ≤ x113.toInt by omega) (show x113.toInt ≤ 399 by omega) (show 1 ≤ x111.toInt by omega) (show x111.toInt ≤ 400 by omega) (show 0 ≤ x113.toInt by omega) (show x113.toInt ≤ 400 by omega) (Nat.lt_succ_self _) hw hT hF c112 c114 (lv_sub hl [2, 3, 4, 1, 0] rfl)
  · have g121 : (x119.toInt = x103.toInt ∨ (gi w0 1 (x103.toInt).toNat).toInt = 32) := by have q := g121; simp only [c104, c120] at q; omega
    refine lv_pop hx hb dX12_numberHere_4 rfl ?_
    refine lv_aload_n hx hb dX12_numberHere_5 rfl (lv_at hl 0 rfl) ?_
    refine lv_aload_n hx hb dX12_numberHere_6 rfl (lv_at hl 0 rfl) ?_
    refine tk_geti hC hK hw hT hinX12 kM_at0 (by decide) rfl 14 (by decide) (List.mem_of_getElem? (i := 1) rfl) rfl rfl dX12_numberHere_7 (fun x152 c153 rx152 tx152 => ?_)
    refine wk_top x119 (c153.symm.trans c120) ?_
    refine tk_Vi hC hK hw hT hA hE hSR kM_at0 (by decide) rfl (k_X12_isDigit_3 l adK adV dC dI cy ad B (by omega) (by omega) qr s1   x119 (show 1 ≤ x119.toInt by omega) (show x119.toInt ≤ 399 by omega) w107 H.size hT ) (cwV 1 hC.2.2.2.2 gX12_numberHere_X12_isDigit rfl rfl rfl (by decide +kernel) ⟨Nat.le_of_ble_eq_true rfl, Nat.le_of_ble_eq_true rfl⟩) rfl hl.1 rfl (Nat.le_of_ble_eq_true rfl) dX12_numberHere_10 (fun r154 w156 H locs hp155 hw => ?_)
    obtain ⟨rfl, hg162⟩ := hp155
    rcases hg162 with ⟨rfl, ⟨x158, c159, rx158, tx158⟩⟩ | ⟨rfl, ⟨x160, c161, rx160, tx160⟩⟩
    · have ex158 : x158.toInt = x117.toInt := by rw [← c118.symm.trans c159]
      refine lv_if_ne (tgt := 26) hx hb dX12_numberHere_13 (by decide) (fun c => absurd (by decide) c) (fun _ => ?_)
      refine lv_aload_n hx hb dX12_numberHere_16 rfl (lv_at hl 0 rfl) ?_
      refine lv_iconst (v := 0) hx hb dX12_numberHere_17 (by decide) ?_
      refine lv_aload_n hx hb dX12_numberHere_18 rfl (lv_at hl 0 rfl) ?_
      refine tk_geti hC hK hw hT hinX12 kM_at0 (by decide) rfl 14 (by decide) (List.mem_of_getElem? (i := 1) rfl) rfl rfl dX12_numberHere_19 (fun x163 c164 rx163 tx163 => ?_)
      refine wk_top x119 (c164.symm.trans c120) ?_
      refine tk_Vi hC hK hw hT hA hE hSR kM_at0 (by decide) rfl (k_X12_fails_1 l adK adV dC dI cy ad B (by omega) (by omega) qr s1   0 (by decide) (by decide) x119 (show 0 ≤ x119.toInt by omega) (show x119.toInt ≤ 400 by omega) w107 H.size hT ) (cwV 2 hC.2.2.2.2 gX12_numberHere_X12_fails rfl rfl rfl (by decide +kernel) ⟨Nat.le_of_ble_eq_true rfl, Nat.le_of_ble_eq_true rfl⟩) rfl hl.1 rfl (Nat.le_of_ble_eq_true rfl) dX12_numberHere_22 (fun r165 w167 H locs hp166 hw => ?_)
      obtain ⟨hT, k168, hg171⟩ := hp166
      have hF := hF.tr k168 (by decide)
      have c172 := k168.gi kM_at0 (by decide) c118
      have c173 := k168.gi kM_at0 (by decide) c120
      obtain ⟨rfl, ⟨x169, c170, rx169, tx169⟩⟩ := hg171
      exact tk_zret hC hr rfl hlocks hK ⟨hT, hF, (Or.inl ⟨rfl, ⟨x117, c172, (show 1 ≤ x117.toInt by omega), (show x117.toInt ≤ 400 by omega)⟩, ⟨x169, c170, (show 1 ≤ x169.toInt by omega), (show x169.toInt ≤ 3205 by omega)⟩⟩)⟩ hw dX12_numberHere_25
    · have ex160 : x160.toInt = x117.toInt := by rw [← c118.symm.trans c161]
      refine lv_if_ne (tgt := 26) hx hb dX12_numberHere_13 (by decide) (fun _ => ?_) (fun c => absurd c (by decide))
      refine lv_aload_n hx hb dX12_numberHere_26 rfl (lv_at hl 0 rfl) ?_
      refine tk_geti hC hK hw hT hinX12 kM_at0 (by decide) rfl 14 (by decide) (List.mem_of_getElem? (i := 1) rfl) rfl rfl dX12_numberHere_27 (fun x174 c175 rx174 tx174 => ?_)
      refine wk_top x119 (c175.symm.trans c120) ?_
      refine lv_istore_n (lv' := [(3, .int x119), (0, .ref (ad 0)), (1, .int 2), (2, .int 10)]) hx hb dX12_numberHere_30 rfl hl (by decide) rfl (fun ls hl => ?_)
      refine lv_iconst (v := 0) hx hb dX12_numberHere_31 (by decide) ?_
      refine lv_istore (lv' := [(4, .int 0), (3, .int x119), (0, .ref (ad 0)), (1, .int 2), (2, .int 10)]) hx hb dX12_numberHere_32 hl (by decide) rfl (fun ls hl => ?_)
      exact L34 ((400 - x119.toInt).toNat + 1) x119 0 x117 x119 H locs ls w107 (show 0 ≤ x119.toInt by omega) (show x119.toInt ≤ 399 by omega) (show 1 ≤ x117.toInt by omega) (show x117.toInt ≤ 400 by omega) (show 0 ≤ x119.toInt by omega) (show x119.toInt ≤ 400 by omega) (Nat.lt_succ_self _) hw hT hF c118 c120 (lv_sub hl [2, 3, 4, 1, 0] rfl)
  · obtain ⟨x126, c127, rx126, tx126⟩ := hT.rdi (lo := 0) (hi := 400) (k := 14) kM_at0 (by decide) rfl
    have g124 : (x126.toInt = x103.toInt ∨ (gi w0 1 (x103.toInt).toNat).toInt = 32) := by have q := g124; simp only [c104, c127] at q; omega
    refine lv_pop hx hb dX12_numberHere_4 rfl ?_
    refine lv_aload_n hx hb dX12_numberHere_5 rfl (lv_at hl 0 rfl) ?_
    refine lv_aload_n hx hb dX12_numberHere_6 rfl (lv_at hl 0 rfl) ?_
    refine tk_geti hC hK hw hT hinX12 kM_at0 (by decide) rfl 14 (by decide) (List.mem_of_getElem? (i := 1) rfl) rfl rfl dX12_numberHere_7 (fun x176 c177 rx176 tx176 => ?_)
    refine wk_top x126 (c177.symm.trans c127) ?_
    refine tk_Vi hC hK hw hT hA hE hSR kM_at0 (by decide) rfl (k_X12_isDigit_2 l adK adV dC dI cy ad B (by omega) (by omega) qr s1   x126 (show 0 ≤ x126.toInt by omega) (show x126.toInt ≤ 400 by omega) w107 H.size hT ) (cwV 1 hC.2.2.2.2 gX12_numberHere_X12_isDigit rfl rfl rfl (by decide +kernel) ⟨Nat.le_of_ble_eq_true rfl, Nat.le_of_ble_eq_true rfl⟩) rfl hl.1 rfl (Nat.le_of_ble_eq_true rfl) dX12_numberHere_10 (fun r178 w180 H locs hp179 hw => ?_)
    obtain ⟨rfl, hg187⟩ := hp179
    rcases hg187 with ⟨rfl, ⟨x182, c183, rx182, tx182⟩⟩ | ⟨rfl, g184, ⟨x185, c186, rx185, tx185⟩⟩
    · have ex182 : x182.toInt = x122.toInt := by rw [← c123.symm.trans c183]
      refine lv_if_ne (tgt := 26) hx hb dX12_numberHere_13 (by decide) (fun c => absurd (by decide) c) (fun _ => ?_)
      refine lv_aload_n hx hb dX12_numberHere_16 rfl (lv_at hl 0 rfl) ?_
      refine lv_iconst (v := 0) hx hb dX12_numberHere_17 (by decide) ?_
      refine lv_aload_n hx hb dX12_numberHere_18 rfl (lv_at hl 0 rfl) ?_
      refine tk_geti hC hK hw hT hinX12 kM_at0 (by decide) rfl 14 (by decide) (List.mem_of_getElem? (i := 1) rfl) rfl rfl dX12_numberHere_19 (fun x188 c189 rx188 tx188 => ?_)
      refine wk_top x126 (c189.symm.trans c127) ?_
      refine tk_Vi hC hK hw hT hA hE hSR kM_at0 (by decide) rfl (k_X12_fails_1 l adK adV dC dI cy ad B (by omega) (by omega) qr s1   0 (by decide) (by decide) x126 (show 0 ≤ x126.toInt by omega) (show x126.toInt ≤ 400 by omega) w107 H.size hT ) (cwV 2 hC.2.2.2.2 gX12_numberHere_X12_fails rfl rfl rfl (by decide +kernel) ⟨Nat.le_of_ble_eq_true rfl, Nat.le_of_ble_eq_true rfl⟩) rfl hl.1 rfl (Nat.le_of_ble_eq_true rfl) dX12_numberHere_22 (fun r190 w192 H locs hp191 hw => ?_)
      obtain ⟨hT, k193, hg196⟩ := hp191
      have hF := hF.tr k193 (by decide)
      have c197 := k193.gi kM_at0 (by decide) c123
      have c198 := k193.gi kM_at0 (by decide) c127
      obtain ⟨rfl, ⟨x194, c195, rx194, tx194⟩⟩ := hg196
      exact tk_zret hC hr rfl hlocks hK ⟨hT, hF, (Or.inr (Or.inl ⟨rfl, ⟨x122, c197, (show 0 ≤ x122.toInt by omega), (show x122.toInt ≤ 400 by omega)⟩, ⟨x194, c195, (show 1 ≤ x194.toInt by omega), (show x194.toInt ≤ 3205 by omega)⟩⟩))⟩ hw dX12_numberHere_25
    · have ex185 : x185.toInt = x122.toInt := by rw [← c123.symm.trans c186]
      refine lv_if_ne (tgt := 26) hx hb dX12_numberHere_13 (by decide) (fun _ => ?_) (fun c => absurd c (by decide))
      refine lv_aload_n hx hb dX12_numberHere_26 rfl (lv_at hl 0 rfl) ?_
      refine tk_geti hC hK hw hT hinX12 kM_at0 (by decide) rfl 14 (by decide) (List.mem_of_getElem? (i := 1) rfl) rfl rfl dX12_numberHere_27 (fun x199 c200 rx199 tx199 => ?_)
      refine wk_top x126 (c200.symm.trans c127) ?_
      refine lv_istore_n (lv' := [(3, .int x126), (0, .ref (ad 0)), (1, .int 2), (2, .int 10)]) hx hb dX12_numberHere_30 rfl hl (by decide) rfl (fun ls hl => ?_)
      refine lv_iconst (v := 0) hx hb dX12_numberHere_31 (by decide) ?_
      refine lv_istore (lv' := [(4, .int 0), (3, .int x126), (0, .ref (ad 0)), (1, .int 2), (2, .int 10)]) hx hb dX12_numberHere_32 hl (by decide) rfl (fun ls hl => ?_)
      exact L34 ((400 - x126.toInt).toNat + 1) x126 0 x122 x126 H locs ls w107 (show 0 ≤ x126.toInt by omega) (show x126.toInt ≤ 399 by omega) (show 1 ≤ x122.toInt by omega) (show x122.toInt ≤ 400 by omega) (show 0 ≤ x126.toInt by omega) (show x126.toInt ≤ 400 by omega) (Nat.lt_succ_self _) hw hT hF c123 c127 (lv_sub hl [2, 3, 4, 1, 0] rfl)
abbrev P_X12_isLetter_2 (ad : Nat → Nat) (cy : Nat → ClassId) (B : Int) (qr : Nat) (s1 : Int) (a1 : Int32) (w0 : va_W) : Int32 → va_W → Prop := fun r u => w0 = u ∧ ((r = 0 ∧ (∃ y : Int32, gi u 0 1 = y ∧ 0 ≤ y.toInt ∧ y.toInt ≤ 400)) ∨ (r = 1 ∧ a1.toInt ≤ 399 ∧ (∃ y : Int32, gi u 0 1 = y ∧ 1 ≤ y.toInt ∧ y.toInt ≤ 400)))
set_option maxHeartbeats 4000000 in
set_option maxRecDepth 100000 in
theorem k_X12_isLetter_2 (l : Launch) (adK adV : Nat → Nat) (dC : Nat → ClassId) (dI : Nat → Nat → Nat) (cy : Nat → ClassId) (ad : Nat → Nat) (B : Int) (hB0 : 100000 ≤ B) (hB1 : B ≤ 1073741824) (qr : Nat) (s1 : Int)  (a1 : Int32) (ra1 : 0 ≤ a1.toInt) (ta1 : a1.toInt ≤ 400) (w0 : va_W) (sz : Nat) (hT : TW ksM ad cy B qr 12 w0)  : Met l yX12_isLetter wsX12_isLetter ({ frames := 1, cells := 0, slots := 0, locals := 12 }) (va_Pc [.ref (ad 0), .int a1] (wpreS adK adV dC dI cy sz w0)) (va_Qi (P_X12_isLetter_2 ad cy B qr s1 a1 w0) (fun u : va_W => wpost dC dI cy (va_A w0 sz) u) (va_A w0 sz)) 0 0 (va_A w0 sz) := by
  refine Met.ofW (cc := cX12_isLetter) (maxL := 2) (ret := (some .boolean)) (by decide) rfl ?_
  intro p e s m args below meth c s₁ Bk hml hv
  obtain ⟨rfl, ⟨hsz, hP, hK, hD0⟩, hE, hSR⟩ := hv
  have hx := Bk.exec
  have hb := Bk.bytes
  have hr := Bk.returns
  have hlocks := Bk.notSynchronized
  have hC : CallFix p m c cX12_isLetter 2 s _ wsX12_isLetter RX12 := ⟨hx, hb, hml, findClass_of_methodNamed Bk.named, atoms_spec (ws := wsX12_isLetter) Bk.pre⟩
  subst hsz
  have hD := hD0.self (sz := s.heap.size)
  generalize hAe : va_A w0 s.heap.size = A at hD hE ⊢
  have hA : ∀ q : Nat, s.heap.size ≤ q → A q := fun q h => by rw [← hAe]; exact Or.inr h
  have hw : Wd dC dI A s.heap s.heap [] w0 := ⟨hP, hD, va_S.rf⟩
  have hF : FE ksM ([] : List (Nat × Nat × Nat)) w0 w0 := FE.rf
  have hl := lv_entry ([.ref (ad 0), .int a1]) (n := 2) (Nat.le_of_ble_eq_true rfl)
  rw [lg_entry_eq]
  generalize (lg_sl ([.ref (ad 0), .int a1]) ++ List.replicate (2 - (lg_sl ([.ref (ad 0), .int a1])).length) Slot.unset).toArray = ls at hl ⊢
  have hl : lv_has ls 2 [(0, .ref (ad 0)), (1, .int a1)] := hl
  generalize hloc : ([] : List Loc) = locs at hw ⊢
  have hinX12 : ∀ w ∈ u_ws RX12 TX12 42, w ∈ wsX12_isLetter := fun _ h => List.mem_cons_of_mem _ (List.mem_append_right _ (h))
  have J34 : ∀ (f34_0_1 : Int32) (H : Heap) (locs : List Loc) (ls : Array Slot), 0 ≤ a1.toInt → a1.toInt ≤ 400 → 0 ≤ f34_0_1.toInt → f34_0_1.toInt ≤ 400 → Wd dC dI A s.heap H locs w0 → gi w0 0 1 = f34_0_1 → lv_has ls 2 [(0, .ref (ad 0)), (1, .int a1)] → W p l e ({ frames := 1, cells := 0, slots := 0, locals := 12 }) s m (List.toArray [.ref (ad 0), .int a1]) below meth c H locs 0 0 (MQ below (va_Qi (P_X12_isLetter_2 ad cy B qr s1 a1 w0) (fun u : va_W => wpost dC dI cy A u) A) (List.toArray [.ref (ad 0), .int a1]) s 0 0 A) (F0 m 34 ls []) := by
    intro f34_0_1 H locs ls r1 t2 r3 t4 hw c5 hl
    refine lv_iconst (v := 0) hx hb dX12_isLetter_34 (by decide) ?_
    exact tk_zret hC hr rfl hlocks hK ⟨rfl, (Or.inl ⟨rfl, ⟨f34_0_1, c5, (show 0 ≤ f34_0_1.toInt by omega), (show f34_0_1.toInt ≤ 400 by omega)⟩⟩)⟩ hw dX12_isLetter_35
  refine lv_iload_n hx hb dX12_isLetter_0 rfl (lv_at hl 1 rfl) ?_
  refine lv_aload_n hx hb dX12_isLetter_1 rfl (lv_at hl 0 rfl) ?_
  refine tk_geti hC hK hw hT hinX12 kM_at0 (by decide) rfl 1 (by decide) (List.mem_of_getElem? (i := 1) rfl) rfl rfl dX12_isLetter_2 (fun x6 c7 rx6 tx6 => ?_)
  refine lv_icmp_ge (tgt := 34) hx hb dX12_isLetter_5 (by decide) (fun c8 => ?_) (fun c8 => ?_)
  · have c8 : x6.toInt ≤ a1.toInt := wk_le.mp c8
    exact J34 x6 s.heap locs ls  (show 0 ≤ a1.toInt by omega) (show a1.toInt ≤ 400 by omega) (show 0 ≤ x6.toInt by omega) (show x6.toInt ≤ 400 by omega)  hw  c7 (lv_sub hl [0, 1] rfl)
  · have c8 : a1.toInt < x6.toInt := wk_leF c8
    refine lv_aload_n hx hb dX12_isLetter_8 rfl (lv_at hl 0 rfl) ?_
    refine tk_getA hC hK hw hT hinX12 kM_at0 (by decide) rfl 0 (by decide) (List.mem_of_getElem? (i := 2) rfl) rfl rfl dX12_isLetter_9 ?_
    refine lv_iload_n hx hb dX12_isLetter_12 rfl (lv_at hl 1 rfl) ?_
    refine tk_bald hC hK hw hT kM_at1 rfl rfl (show 0 ≤ a1.toInt by omega) (show a1.toInt < 400 by omega) dX12_isLetter_13 (fun x9 c10 rx9 tx9 => ?_)
    have c10 : gi w0 1 (a1.toInt).toNat = x9 := (congrArg (gi w0 1) (congrArg Int.toNat (show a1.toInt = a1.toInt by omega))).trans c10
    refine lv_bipush (v := 97) hx hb dX12_isLetter_14 (by decide) ?_
    refine lv_icmp_lt (tgt := 34) hx hb dX12_isLetter_16 (by decide) (fun c11 => ?_) (fun c11 => ?_)
    · have c11 : x9.toInt < (97 : Int) := wk_lt.mp c11
      exact J34 x6 s.heap locs ls  (show 0 ≤ a1.toInt by omega) (show a1.toInt ≤ 400 by omega) (show 0 ≤ x6.toInt by omega) (show x6.toInt ≤ 400 by omega)  hw  c7 (lv_sub hl [0, 1] rfl)
    · have c11 : (97 : Int) ≤ x9.toInt := wk_ltF c11
      refine lv_aload_n hx hb dX12_isLetter_19 rfl (lv_at hl 0 rfl) ?_
      refine tk_getA hC hK hw hT hinX12 kM_at0 (by decide) rfl 0 (by decide) (List.mem_of_getElem? (i := 2) rfl) rfl rfl dX12_isLetter_20 ?_
      refine lv_iload_n hx hb dX12_isLetter_23 rfl (lv_at hl 1 rfl) ?_
      refine tk_bald hC hK hw hT kM_at1 rfl rfl (show 0 ≤ a1.toInt by omega) (show a1.toInt < 400 by omega) dX12_isLetter_24 (fun x12 c13 rx12 tx12 => ?_)
      have c13 : gi w0 1 (a1.toInt).toNat = x12 := (congrArg (gi w0 1) (congrArg Int.toNat (show a1.toInt = a1.toInt by omega))).trans c13
      refine wk_top x9 (c13.symm.trans c10) ?_
      refine lv_bipush (v := 122) hx hb dX12_isLetter_25 (by decide) ?_
      refine lv_icmp_gt (tgt := 34) hx hb dX12_isLetter_27 (by decide) (fun c14 => ?_) (fun c14 => ?_)
      · have c14 : (122 : Int) < x9.toInt := wk_lt.mp c14
        exact J34 x6 s.heap locs ls  (show 0 ≤ a1.toInt by omega) (show a1.toInt ≤ 400 by omega) (show 0 ≤ x6.toInt by omega) (show x6.toInt ≤ 400 by omega)  hw  c7 (lv_sub hl [0, 1] rfl)
      · have c14 : x9.toInt ≤ (122 : Int) := wk_ltF c14
        refine lv_iconst (v := 1) hx hb dX12_isLetter_30 (by decide) ?_
        refine lv_goto (tgt := 35) hx hb dX12_isLetter_31 (by decide) ?_
        exact tk_zret hC hr rfl hlocks hK ⟨rfl, (Or.inr ⟨rfl, (show a1.toInt ≤ 399 by omega), ⟨x6, c7, (show 1 ≤ x6.toInt by omega), (show x6.toInt ≤ 400 by omega)⟩⟩)⟩ hw dX12_isLetter_35
abbrev P_X12_isLetter_3 (ad : Nat → Nat) (cy : Nat → ClassId) (B : Int) (qr : Nat) (s1 : Int) (a1 : Int32) (w0 : va_W) : Int32 → va_W → Prop := fun r u => w0 = u ∧ ((r = 0 ∧ (∃ y : Int32, gi u 0 1 = y ∧ 0 ≤ y.toInt ∧ y.toInt ≤ 400)) ∨ (r = 1 ∧ a1.toInt ≤ 399 ∧ (∃ y : Int32, gi u 0 1 = y ∧ 2 ≤ y.toInt ∧ y.toInt ≤ 400)))
set_option maxHeartbeats 4000000 in
set_option maxRecDepth 100000 in
theorem k_X12_isLetter_3 (l : Launch) (adK adV : Nat → Nat) (dC : Nat → ClassId) (dI : Nat → Nat → Nat) (cy : Nat → ClassId) (ad : Nat → Nat) (B : Int) (hB0 : 100000 ≤ B) (hB1 : B ≤ 1073741824) (qr : Nat) (s1 : Int)  (a1 : Int32) (ra1 : 1 ≤ a1.toInt) (ta1 : a1.toInt ≤ 400) (w0 : va_W) (sz : Nat) (hT : TW ksM ad cy B qr 12 w0)  : Met l yX12_isLetter wsX12_isLetter ({ frames := 1, cells := 0, slots := 0, locals := 12 }) (va_Pc [.ref (ad 0), .int a1] (wpreS adK adV dC dI cy sz w0)) (va_Qi (P_X12_isLetter_3 ad cy B qr s1 a1 w0) (fun u : va_W => wpost dC dI cy (va_A w0 sz) u) (va_A w0 sz)) 0 0 (va_A w0 sz) := by
  refine Met.ofW (cc := cX12_isLetter) (maxL := 2) (ret := (some .boolean)) (by decide) rfl ?_
  intro p e s m args below meth c s₁ Bk hml hv
  obtain ⟨rfl, ⟨hsz, hP, hK, hD0⟩, hE, hSR⟩ := hv
  have hx := Bk.exec
  have hb := Bk.bytes
  have hr := Bk.returns
  have hlocks := Bk.notSynchronized
  have hC : CallFix p m c cX12_isLetter 2 s _ wsX12_isLetter RX12 := ⟨hx, hb, hml, findClass_of_methodNamed Bk.named, atoms_spec (ws := wsX12_isLetter) Bk.pre⟩
  subst hsz
  have hD := hD0.self (sz := s.heap.size)
  generalize hAe : va_A w0 s.heap.size = A at hD hE ⊢
  have hA : ∀ q : Nat, s.heap.size ≤ q → A q := fun q h => by rw [← hAe]; exact Or.inr h
  have hw : Wd dC dI A s.heap s.heap [] w0 := ⟨hP, hD, va_S.rf⟩
  have hF : FE ksM ([] : List (Nat × Nat × Nat)) w0 w0 := FE.rf
  have hl := lv_entry ([.ref (ad 0), .int a1]) (n := 2) (Nat.le_of_ble_eq_true rfl)
  rw [lg_entry_eq]
  generalize (lg_sl ([.ref (ad 0), .int a1]) ++ List.replicate (2 - (lg_sl ([.ref (ad 0), .int a1])).length) Slot.unset).toArray = ls at hl ⊢
  have hl : lv_has ls 2 [(0, .ref (ad 0)), (1, .int a1)] := hl
  generalize hloc : ([] : List Loc) = locs at hw ⊢
  have hinX12 : ∀ w ∈ u_ws RX12 TX12 42, w ∈ wsX12_isLetter := fun _ h => List.mem_cons_of_mem _ (List.mem_append_right _ (h))
  have J34 : ∀ (f34_0_1 : Int32) (H : Heap) (locs : List Loc) (ls : Array Slot), 1 ≤ a1.toInt → a1.toInt ≤ 400 → 0 ≤ f34_0_1.toInt → f34_0_1.toInt ≤ 400 → Wd dC dI A s.heap H locs w0 → gi w0 0 1 = f34_0_1 → lv_has ls 2 [(0, .ref (ad 0)), (1, .int a1)] → W p l e ({ frames := 1, cells := 0, slots := 0, locals := 12 }) s m (List.toArray [.ref (ad 0), .int a1]) below meth c H locs 0 0 (MQ below (va_Qi (P_X12_isLetter_3 ad cy B qr s1 a1 w0) (fun u : va_W => wpost dC dI cy A u) A) (List.toArray [.ref (ad 0), .int a1]) s 0 0 A) (F0 m 34 ls []) := by
    intro f34_0_1 H locs ls r1 t2 r3 t4 hw c5 hl
    refine lv_iconst (v := 0) hx hb dX12_isLetter_34 (by decide) ?_
    exact tk_zret hC hr rfl hlocks hK ⟨rfl, (Or.inl ⟨rfl, ⟨f34_0_1, c5, (show 0 ≤ f34_0_1.toInt by omega), (show f34_0_1.toInt ≤ 400 by omega)⟩⟩)⟩ hw dX12_isLetter_35
  refine lv_iload_n hx hb dX12_isLetter_0 rfl (lv_at hl 1 rfl) ?_
  refine lv_aload_n hx hb dX12_isLetter_1 rfl (lv_at hl 0 rfl) ?_
  refine tk_geti hC hK hw hT hinX12 kM_at0 (by decide) rfl 1 (by decide) (List.mem_of_getElem? (i := 1) rfl) rfl rfl dX12_isLetter_2 (fun x6 c7 rx6 tx6 => ?_)
  refine lv_icmp_ge (tgt := 34) hx hb dX12_isLetter_5 (by decide) (fun c8 => ?_) (fun c8 => ?_)
  · have c8 : x6.toInt ≤ a1.toInt := wk_le.mp c8
    exact J34 x6 s.heap locs ls  (show 1 ≤ a1.toInt by omega) (show a1.toInt ≤ 400 by omega) (show 0 ≤ x6.toInt by omega) (show x6.toInt ≤ 400 by omega)  hw  c7 (lv_sub hl [0, 1] rfl)
  · have c8 : a1.toInt < x6.toInt := wk_leF c8
    refine lv_aload_n hx hb dX12_isLetter_8 rfl (lv_at hl 0 rfl) ?_
    refine tk_getA hC hK hw hT hinX12 kM_at0 (by decide) rfl 0 (by decide) (List.mem_of_getElem? (i := 2) rfl) rfl rfl dX12_isLetter_9 ?_
    refine lv_iload_n hx hb dX12_isLetter_12 rfl (lv_at hl 1 rfl) ?_
    refine tk_bald hC hK hw hT kM_at1 rfl rfl (show 0 ≤ a1.toInt by omega) (show a1.toInt < 400 by omega) dX12_isLetter_13 (fun x9 c10 rx9 tx9 => ?_)
    have c10 : gi w0 1 (a1.toInt).toNat = x9 := (congrArg (gi w0 1) (congrArg Int.toNat (show a1.toInt = a1.toInt by omega))).trans c10
    refine lv_bipush (v := 97) hx hb dX12_isLetter_14 (by decide) ?_
    refine lv_icmp_lt (tgt := 34) hx hb dX12_isLetter_16 (by decide) (fun c11 => ?_) (fun c11 => ?_)
    · have c11 : x9.toInt < (97 : Int) := wk_lt.mp c11
      exact J34 x6 s.heap locs ls  (show 1 ≤ a1.toInt by omega) (show a1.toInt ≤ 400 by omega) (show 0 ≤ x6.toInt by omega) (show x6.toInt ≤ 400 by omega)  hw  c7 (lv_sub hl [0, 1] rfl)
    · have c11 : (97 : Int) ≤ x9.toInt := wk_ltF c11
      refine lv_aload_n hx hb dX12_isLetter_19 rfl (lv_at hl 0 rfl) ?_
      refine tk_getA hC hK hw hT hinX12 kM_at0 (by decide) rfl 0 (by decide) (List.mem_of_getElem? (i := 2) rfl) rfl rfl dX12_isLetter_20 ?_
      refine lv_iload_n hx hb dX12_isLetter_23 rfl (lv_at hl 1 rfl) ?_
      refine tk_bald hC hK hw hT kM_at1 rfl rfl (show 0 ≤ a1.toInt by omega) (show a1.toInt < 400 by omega) dX12_isLetter_24 (fun x12 c13 rx12 tx12 => ?_)
      have c13 : gi w0 1 (a1.toInt).toNat = x12 := (congrArg (gi w0 1) (congrArg Int.toNat (show a1.toInt = a1.toInt by omega))).trans c13
      refine wk_top x9 (c13.symm.trans c10) ?_
      refine lv_bipush (v := 122) hx hb dX12_isLetter_25 (by decide) ?_
      refine lv_icmp_gt (tgt := 34) hx hb dX12_isLetter_27 (by decide) (fun c14 => ?_) (fun c14 => ?_)
      · have c14 : (122 : Int) < x9.toInt := wk_lt.mp c14
        exact J34 x6 s.heap locs ls  (show 1 ≤ a1.toInt by omega) (show a1.toInt ≤ 400 by omega) (show 0 ≤ x6.toInt by omega) (show x6.toInt ≤ 400 by omega)  hw  c7 (lv_sub hl [0, 1] rfl)
      · have c14 : x9.toInt ≤ (122 : Int) := wk_ltF c14
        refine lv_iconst (v := 1) hx hb dX12_isLetter_30 (by decide) ?_
        refine lv_goto (tgt := 35) hx hb dX12_isLetter_31 (by decide) ?_
        exact tk_zret hC hr rfl hlocks hK ⟨rfl, (Or.inr ⟨rfl, (show a1.toInt ≤ 399 by omega), ⟨x6, c7, (show 2 ≤ x6.toInt by omega), (show x6.toInt ≤ 400 by omega)⟩⟩)⟩ hw dX12_isLetter_35
abbrev P_X12_passWord_1 (ad : Nat → Nat) (cy : Nat → ClassId) (B : Int) (qr : Nat) (s1 : Int)  (w0 : va_W) : va_W → Prop := fun u => TW ksM ad cy B qr 12 u ∧ FE ksM [(12, 14, 14)] w0 u ∧ (((∃ y : Int32, gi u 0 1 = y ∧ 1 ≤ y.toInt ∧ y.toInt ≤ 400) ∧ (∃ y : Int32, gi u 0 14 = y ∧ 1 ≤ y.toInt ∧ y.toInt ≤ 400)) ∨ ((∃ y : Int32, gi u 0 1 = y ∧ 0 ≤ y.toInt ∧ y.toInt ≤ 400)))
set_option maxHeartbeats 4000000 in
set_option maxRecDepth 100000 in
theorem k_X12_passWord_1 (l : Launch) (adK adV : Nat → Nat) (dC : Nat → ClassId) (dI : Nat → Nat → Nat) (cy : Nat → ClassId) (ad : Nat → Nat) (B : Int) (hB0 : 100000 ≤ B) (hB1 : B ≤ 1073741824) (qr : Nat) (s1 : Int)   (w0 : va_W) (sz : Nat) (hT : TW ksM ad cy B qr 12 w0)  : Met l yX12_passWord wsX12_passWord ({ frames := 2, cells := 0, slots := 0, locals := 33 }) (va_Pc [.ref (ad 0)] (wpreS adK adV dC dI cy sz w0)) (va_Qv (P_X12_passWord_1 ad cy B qr s1  w0) (fun u : va_W => wpost dC dI cy (va_A w0 sz) u) (va_A w0 sz)) 0 0 (va_A w0 sz) := by
  refine Met.ofW (cc := cX12_passWord) (maxL := 1) (ret := none) (by decide) rfl ?_
  intro p e s m args below meth c s₁ Bk hml hv
  obtain ⟨rfl, ⟨hsz, hP, hK, hD0⟩, hE, hSR⟩ := hv
  have hx := Bk.exec
  have hb := Bk.bytes
  have hr := Bk.returns
  have hlocks := Bk.notSynchronized
  have hC : CallFix p m c cX12_passWord 1 s _ wsX12_passWord RX12 := ⟨hx, hb, hml, findClass_of_methodNamed Bk.named, atoms_spec (ws := wsX12_passWord) Bk.pre⟩
  subst hsz
  have hD := hD0.self (sz := s.heap.size)
  generalize hAe : va_A w0 s.heap.size = A at hD hE ⊢
  have hA : ∀ q : Nat, s.heap.size ≤ q → A q := fun q h => by rw [← hAe]; exact Or.inr h
  have hw : Wd dC dI A s.heap s.heap [] w0 := ⟨hP, hD, va_S.rf⟩
  have hF : FE ksM [(12, 14, 14)] w0 w0 := FE.rf
  have hl := lv_entry ([.ref (ad 0)]) (n := 1) (Nat.le_of_ble_eq_true rfl)
  rw [lg_entry_eq]
  generalize (lg_sl ([.ref (ad 0)]) ++ List.replicate (1 - (lg_sl ([.ref (ad 0)])).length) Slot.unset).toArray = ls at hl ⊢
  have hl : lv_has ls 1 [(0, .ref (ad 0))] := hl
  generalize hloc : ([] : List Loc) = locs at hw ⊢
  have hinX12 : ∀ w ∈ u_ws RX12 TX12 42, w ∈ wsX12_passWord := fun _ h => List.mem_cons_of_mem _ (List.mem_append_right _ (h))
  have L0 : ∀ (n0 : Nat) (f0_0_1 : Int32) (f0_0_14 : Int32) (H : Heap) (locs : List Loc) (ls : Array Slot) (w1 : va_W), 1 ≤ f0_0_1.toInt → f0_0_1.toInt ≤ 400 → 1 ≤ f0_0_14.toInt → f0_0_14.toInt ≤ 400 → (400 - f0_0_14.toInt).toNat < n0 → Wd dC dI A s.heap H locs w1 → TW ksM ad cy B qr 12 w1 → FE ksM [(12, 14, 14)] w0 w1 → gi w1 0 1 = f0_0_1 → gi w1 0 14 = f0_0_14 → lv_has ls 1 [(0, .ref (ad 0))] → W p l e ({ frames := 2, cells := 0, slots := 0, locals := 33 }) s m (List.toArray [.ref (ad 0)]) below meth c H locs 0 0 (MQ below (va_Qv (P_X12_passWord_1 ad cy B qr s1  w0) (fun u : va_W => wpost dC dI cy A u) A) (List.toArray [.ref (ad 0)]) s 0 0 A) (F0 m 0 ls []) := by
    intro n0
    induction n0 with
    | zero => intro f0_0_1 f0_0_14 H locs ls w1 r2 t3 r5 t6 hm0 hw hT hF c4 c7 hl; omega
    | succ n0 ih0 =>
      intro f0_0_1 f0_0_14 H locs ls w1 r2 t3 r5 t6 hm0 hw hT hF c4 c7 hl
      refine lv_aload_n hx hb dX12_passWord_0 rfl (lv_at hl 0 rfl) ?_
      refine lv_aload_n hx hb dX12_passWord_1 rfl (lv_at hl 0 rfl) ?_
      refine tk_geti hC hK hw hT hinX12 kM_at0 (by decide) rfl 14 (by decide) (List.mem_of_getElem? (i := 1) rfl) rfl rfl dX12_passWord_2 (fun x8 c9 rx8 tx8 => ?_)
      refine wk_top f0_0_14 (c9.symm.trans c7) ?_
      refine tk_Vi hC hK hw hT hA hE hSR kM_at0 (by decide) rfl (k_X12_isLetter_3 l adK adV dC dI cy ad B (by omega) (by omega) qr s1   f0_0_14 (show 1 ≤ f0_0_14.toInt by omega) (show f0_0_14.toInt ≤ 400 by omega) w1 H.size hT ) (cwV 1 hC.2.2.2.2 gX12_passWord_X12_isLetter rfl rfl rfl (by decide +kernel) ⟨Nat.le_of_ble_eq_true rfl, Nat.le_of_ble_eq_true rfl⟩) rfl hl.1 rfl (Nat.le_of_ble_eq_true rfl) dX12_passWord_5 (fun r10 w12 H locs hp11 hw => ?_)
      obtain ⟨rfl, hg19⟩ := hp11
      rcases hg19 with ⟨rfl, ⟨x14, c15, rx14, tx14⟩⟩ | ⟨rfl, g16, ⟨x17, c18, rx17, tx17⟩⟩
      · have ex14 : x14.toInt = f0_0_1.toInt := by rw [← c4.symm.trans c15]
        refine lv_if_eq (tgt := 24) hx hb dX12_passWord_8 (by decide) (fun _ => ?_) (fun c => absurd (by decide) c)
        exact tk_vret hC hr hlocks hK ⟨hT, hF, (Or.inl ⟨⟨f0_0_1, c4, (show 1 ≤ f0_0_1.toInt by omega), (show f0_0_1.toInt ≤ 400 by omega)⟩, ⟨f0_0_14, c7, (show 1 ≤ f0_0_14.toInt by omega), (show f0_0_14.toInt ≤ 400 by omega)⟩⟩)⟩ hw dX12_passWord_24
      · have ex17 : x17.toInt = f0_0_1.toInt := by rw [← c4.symm.trans c18]
        refine lv_if_eq (tgt := 24) hx hb dX12_passWord_8 (by decide) (fun c => absurd c (by decide)) (fun _ => ?_)
        refine lv_aload_n hx hb dX12_passWord_11 rfl (lv_at hl 0 rfl) ?_
        refine lv_dup hx hb dX12_passWord_12 rfl ?_
        refine tk_geti hC hK hw hT hinX12 kM_at0 (by decide) rfl 14 (by decide) (List.mem_of_getElem? (i := 1) rfl) rfl rfl dX12_passWord_13 (fun x20 c21 rx20 tx20 => ?_)
        refine wk_top f0_0_14 (c21.symm.trans c7) ?_
        refine lv_iconst (v := 1) hx hb dX12_passWord_16 (by decide) ?_
        refine lv_iadd hx hb dX12_passWord_17 ?_
        refine lv_topi (fun x22 ex22 => ?_)
        have ex22 : x22.toInt = f0_0_14.toInt + (1 : Int) := by rw [ex22]; exact wk_add (show (-2147483648) ≤ f0_0_14.toInt + (1 : Int) by omega) (show f0_0_14.toInt + (1 : Int) ≤ 2147483647 by omega)
        refine tk_puti hC hK hw hT hinX12 tyX12_ok nmX12 kM_at0 (by decide) rfl rfl 14 (by decide) (List.mem_of_getElem? (i := 1) rfl) rfl rfl rfl rfl (show 0 ≤ x22.toInt by omega) (show x22.toInt ≤ 400 by omega) dX12_passWord_18 (fun H locs w23 hw hT k25 c24 => ?_)
        have hF := hF.put kM_at0 (k := 14) (by decide) k25
        have c26 := k25.gi (Or.inr (by decide)) c4
        refine lv_goto (tgt := 0) hx hb dX12_passWord_21 (by decide) ?_
        exact ih0 f0_0_1 x22 H locs ls w23 (show 1 ≤ f0_0_1.toInt by omega) (show f0_0_1.toInt ≤ 400 by omega) (show 1 ≤ x22.toInt by omega) (show x22.toInt ≤ 400 by omega) (show (400 - x22.toInt).toNat < n0 by omega) hw hT hF c26 c24 (lv_sub hl [0] rfl)
  refine lv_aload_n hx hb dX12_passWord_0 rfl (lv_at hl 0 rfl) ?_
  refine lv_aload_n hx hb dX12_passWord_1 rfl (lv_at hl 0 rfl) ?_
  refine tk_geti hC hK hw hT hinX12 kM_at0 (by decide) rfl 14 (by decide) (List.mem_of_getElem? (i := 1) rfl) rfl rfl dX12_passWord_2 (fun x27 c28 rx27 tx27 => ?_)
  refine tk_Vi hC hK hw hT hA hE hSR kM_at0 (by decide) rfl (k_X12_isLetter_2 l adK adV dC dI cy ad B (by omega) (by omega) qr s1   x27 (show 0 ≤ x27.toInt by omega) (show x27.toInt ≤ 400 by omega) w0 s.heap.size hT ) (cwV 1 hC.2.2.2.2 gX12_passWord_X12_isLetter rfl rfl rfl (by decide +kernel) ⟨Nat.le_of_ble_eq_true rfl, Nat.le_of_ble_eq_true rfl⟩) rfl hl.1 rfl (Nat.le_of_ble_eq_true rfl) dX12_passWord_5 (fun r29 w31 H locs hp30 hw => ?_)
  obtain ⟨rfl, hg38⟩ := hp30
  rcases hg38 with ⟨rfl, ⟨x33, c34, rx33, tx33⟩⟩ | ⟨rfl, g35, ⟨x36, c37, rx36, tx36⟩⟩
  · refine lv_if_eq (tgt := 24) hx hb dX12_passWord_8 (by decide) (fun _ => ?_) (fun c => absurd (by decide) c)
    exact tk_vret hC hr hlocks hK ⟨hT, hF, (Or.inr ⟨x33, c34, (show 0 ≤ x33.toInt by omega), (show x33.toInt ≤ 400 by omega)⟩)⟩ hw dX12_passWord_24
  · refine lv_if_eq (tgt := 24) hx hb dX12_passWord_8 (by decide) (fun c => absurd c (by decide)) (fun _ => ?_)
    refine lv_aload_n hx hb dX12_passWord_11 rfl (lv_at hl 0 rfl) ?_
    refine lv_dup hx hb dX12_passWord_12 rfl ?_
    refine tk_geti hC hK hw hT hinX12 kM_at0 (by decide) rfl 14 (by decide) (List.mem_of_getElem? (i := 1) rfl) rfl rfl dX12_passWord_13 (fun x39 c40 rx39 tx39 => ?_)
    refine wk_top x27 (c40.symm.trans c28) ?_
    refine lv_iconst (v := 1) hx hb dX12_passWord_16 (by decide) ?_
    refine lv_iadd hx hb dX12_passWord_17 ?_
    refine lv_topi (fun x41 ex41 => ?_)
    have ex41 : x41.toInt = x27.toInt + (1 : Int) := by rw [ex41]; exact wk_add (show (-2147483648) ≤ x27.toInt + (1 : Int) by omega) (show x27.toInt + (1 : Int) ≤ 2147483647 by omega)
    refine tk_puti hC hK hw hT hinX12 tyX12_ok nmX12 kM_at0 (by decide) rfl rfl 14 (by decide) (List.mem_of_getElem? (i := 1) rfl) rfl rfl rfl rfl (show 0 ≤ x41.toInt by omega) (show x41.toInt ≤ 400 by omega) dX12_passWord_18 (fun H locs w42 hw hT k44 c43 => ?_)
    have hF := hF.put kM_at0 (k := 14) (by decide) k44
    have c45 := k44.gi (Or.inr (by decide)) c37
    refine lv_goto (tgt := 0) hx hb dX12_passWord_21 (by decide) ?_
    exact L0 ((400 - x41.toInt).toNat + 1) x36 x41 H locs ls w42 (show 1 ≤ x36.toInt by omega) (show x36.toInt ≤ 400 by omega) (show 1 ≤ x41.toInt by omega) (show x41.toInt ≤ 400 by omega) (Nat.lt_succ_self _) hw hT hF c45 c43 (lv_sub hl [0] rfl)
abbrev P_X12_areCornersHere_1 (ad : Nat → Nat) (cy : Nat → ClassId) (B : Int) (qr : Nat) (s1 : Int) (a1 : Int32) (w0 : va_W) : Int32 → va_W → Prop := fun r u => TW ksM ad cy B qr 12 u ∧ FE ksM [(12, 7, 7), (12, 14, 14), (12, 15, 15), (12, 16, 16)] w0 u ∧ ((r = 0 ∧ (∃ y : Int32, gi u 0 7 = y ∧ 1 ≤ y.toInt ∧ y.toInt ≤ 10) ∧ (∃ y : Int32, gi u 0 15 = y ∧ 1 ≤ y.toInt ∧ y.toInt ≤ 3205)) ∨ (r = 0 ∧ (∃ y : Int32, gi u 0 1 = y ∧ 1 ≤ y.toInt ∧ y.toInt ≤ 400) ∧ (∃ y : Int32, gi u 0 7 = y ∧ 0 ≤ y.toInt ∧ y.toInt ≤ 0) ∧ (∃ y : Int32, gi u 0 15 = y ∧ 1 ≤ y.toInt ∧ y.toInt ≤ 3205)) ∨ (r = 0 ∧ (∃ y : Int32, gi u 0 1 = y ∧ 0 ≤ y.toInt ∧ y.toInt ≤ 400) ∧ (∃ y : Int32, gi u 0 7 = y ∧ 0 ≤ y.toInt ∧ y.toInt ≤ 0) ∧ (∃ y : Int32, gi u 0 15 = y ∧ 1 ≤ y.toInt ∧ y.toInt ≤ 3205)) ∨ (r = 1 ∧ (∃ y : Int32, gi u 0 1 = y ∧ 1 ≤ y.toInt ∧ y.toInt ≤ 400) ∧ (∃ y : Int32, gi u 0 7 = y ∧ 2 ≤ y.toInt ∧ y.toInt ≤ 10) ∧ (∃ y : Int32, gi u 0 16 = y ∧ 2 ≤ y.toInt ∧ y.toInt ≤ 10)))
set_option maxHeartbeats 4000000 in
set_option maxRecDepth 100000 in
theorem k_X12_areCornersHere_1 (l : Launch) (adK adV : Nat → Nat) (dC : Nat → ClassId) (dI : Nat → Nat → Nat) (cy : Nat → ClassId) (ad : Nat → Nat) (B : Int) (hB0 : 100000 ≤ B) (hB1 : B ≤ 1073741824) (qr : Nat) (s1 : Int)  (a1 : Int32) (ra1 : 0 ≤ a1.toInt) (ta1 : a1.toInt ≤ 400) (w0 : va_W) (sz : Nat) (hT : TW ksM ad cy B qr 12 w0)  : Met l yX12_areCornersHere wsX12_areCornersHere ({ frames := 3, cells := 0, slots := 0, locals := 61 }) (va_Pc [.ref (ad 0), .int a1] (wpreS adK adV dC dI cy sz w0)) (va_Qi (P_X12_areCornersHere_1 ad cy B qr s1 a1 w0) (fun u : va_W => wpost dC dI cy (va_A w0 sz) u) (va_A w0 sz)) 0 0 (va_A w0 sz) := by
  refine Met.ofW (cc := cX12_areCornersHere) (maxL := 2) (ret := (some .boolean)) (by decide) rfl ?_
  intro p e s m args below meth c s₁ Bk hml hv
  obtain ⟨rfl, ⟨hsz, hP, hK, hD0⟩, hE, hSR⟩ := hv
  have hx := Bk.exec
  have hb := Bk.bytes
  have hr := Bk.returns
  have hlocks := Bk.notSynchronized
  have hC : CallFix p m c cX12_areCornersHere 2 s _ wsX12_areCornersHere RX12 := ⟨hx, hb, hml, findClass_of_methodNamed Bk.named, atoms_spec (ws := wsX12_areCornersHere) Bk.pre⟩
  subst hsz
  have hD := hD0.self (sz := s.heap.size)
  generalize hAe : va_A w0 s.heap.size = A at hD hE ⊢
  have hA : ∀ q : Nat, s.heap.size ≤ q → A q := fun q h => by rw [← hAe]; exact Or.inr h
  have hw : Wd dC dI A s.heap s.heap [] w0 := ⟨hP, hD, va_S.rf⟩
  have hF : FE ksM [(12, 7, 7), (12, 14, 14), (12, 15, 15), (12, 16, 16)] w0 w0 := FE.rf
  have hl := lv_entry ([.ref (ad 0), .int a1]) (n := 2) (Nat.le_of_ble_eq_true rfl)
  rw [lg_entry_eq]
  generalize (lg_sl ([.ref (ad 0), .int a1]) ++ List.replicate (2 - (lg_sl ([.ref (ad 0), .int a1])).length) Slot.unset).toArray = ls at hl ⊢
  have hl : lv_has ls 2 [(0, .ref (ad 0)), (1, .int a1)] := hl
  generalize hloc : ([] : List Loc) = locs at hw ⊢
  have hinX12 : ∀ w ∈ u_ws RX12 TX12 42, w ∈ wsX12_areCornersHere := fun _ h => List.mem_cons_of_mem _ (List.mem_append_right _ (h))
  refine lv_aload_n hx hb dX12_areCornersHere_0 rfl (lv_at hl 0 rfl) ?_
  refine tk_geti hC hK hw hT hinX12 kM_at0 (by decide) rfl 7 (by decide) (List.mem_of_getElem? (i := 1) rfl) rfl rfl dX12_areCornersHere_1 (fun x1 c2 rx1 tx1 => ?_)
  refine lv_if_le (tgt := 14) hx hb dX12_areCornersHere_4 (by decide) (fun c3 => ?_) (fun c3 => ?_)
  · have c3 : x1.toInt ≤ (0 : Int) := wk_le.mp c3
    refine lv_aload_n hx hb dX12_areCornersHere_14 rfl (lv_at hl 0 rfl) ?_
    refine tk_Vv hC hK hw hT hA hE hSR kM_at0 (by decide) rfl (k_X12_passWord_1 l adK adV dC dI cy ad B (by omega) (by omega) qr s1    w0 s.heap.size hT ) (cwV 0 hC.2.2.2.2 gX12_areCornersHere_X12_passWord rfl rfl rfl (by decide +kernel) ⟨Nat.le_of_ble_eq_true rfl, Nat.le_of_ble_eq_true rfl⟩) rfl hl.1 rfl (Nat.le_of_ble_eq_true rfl) dX12_areCornersHere_15 (fun w6 H locs hp5 hw => ?_)
    obtain ⟨hT, k7, hg14⟩ := hp5
    have hF := hF.tr k7 (by decide)
    have c15 := k7.gi kM_at0 (by decide) c2
    rcases hg14 with ⟨⟨x8, c9, rx8, tx8⟩, ⟨x10, c11, rx10, tx10⟩⟩ | ⟨x12, c13, rx12, tx12⟩
    · refine lv_aload_n hx hb dX12_areCornersHere_18 rfl (lv_at hl 0 rfl) ?_
      refine lv_iconst (v := 2) hx hb dX12_areCornersHere_19 (by decide) ?_
      refine lv_bipush (v := 10) hx hb dX12_areCornersHere_20 (by decide) ?_
      refine tk_Vi hC hK hw hT hA hE hSR kM_at0 (by decide) rfl (k_X12_numberHere_1 l adK adV dC dI cy ad B (by omega) (by omega) qr s1    w6 H.size hT ) (cwV 2 hC.2.2.2.2 gX12_areCornersHere_X12_numberHere rfl rfl rfl (by decide +kernel) ⟨Nat.le_of_ble_eq_true rfl, Nat.le_of_ble_eq_true rfl⟩) rfl hl.1 rfl (Nat.le_of_ble_eq_true rfl) dX12_areCornersHere_22 (fun r16 w18 H locs hp17 hw => ?_)
      obtain ⟨hT, k19, hg32⟩ := hp17
      have hF := hF.tr k19 (by decide)
      have c33 := k19.gi kM_at0 (by decide) c15
      have c34 := k19.gi kM_at0 (by decide) c9
      rcases hg32 with ⟨rfl, ⟨x20, c21, rx20, tx20⟩, ⟨x22, c23, rx22, tx22⟩⟩ | ⟨rfl, ⟨x24, c25, rx24, tx24⟩, ⟨x26, c27, rx26, tx26⟩⟩ | ⟨rfl, ⟨x28, c29, rx28, tx28⟩, ⟨x30, c31, rx30, tx30⟩⟩
      · have ex20 : x20.toInt = x8.toInt := by rw [← c34.symm.trans c21]
        refine lv_if_ne (tgt := 30) hx hb dX12_areCornersHere_25 (by decide) (fun c => absurd (by decide) c) (fun _ => ?_)
        refine lv_iconst (v := 0) hx hb dX12_areCornersHere_28 (by decide) ?_
        exact tk_zret hC hr rfl hlocks hK ⟨hT, hF, (Or.inr (Or.inl ⟨rfl, ⟨x8, c34, (show 1 ≤ x8.toInt by omega), (show x8.toInt ≤ 400 by omega)⟩, ⟨x1, c33, (show 0 ≤ x1.toInt by omega), (show x1.toInt ≤ 0 by omega)⟩, ⟨x22, c23, (show 1 ≤ x22.toInt by omega), (show x22.toInt ≤ 3205 by omega)⟩⟩))⟩ hw dX12_areCornersHere_29
      · have ex24 : x24.toInt = x8.toInt := by rw [← c34.symm.trans c25]
        refine lv_if_ne (tgt := 30) hx hb dX12_areCornersHere_25 (by decide) (fun c => absurd (by decide) c) (fun _ => ?_)
        refine lv_iconst (v := 0) hx hb dX12_areCornersHere_28 (by decide) ?_
        exact tk_zret hC hr rfl hlocks hK ⟨hT, hF, (Or.inr (Or.inl ⟨rfl, ⟨x8, c34, (show 1 ≤ x8.toInt by omega), (show x8.toInt ≤ 400 by omega)⟩, ⟨x1, c33, (show 0 ≤ x1.toInt by omega), (show x1.toInt ≤ 0 by omega)⟩, ⟨x26, c27, (show 1 ≤ x26.toInt by omega), (show x26.toInt ≤ 3205 by omega)⟩⟩))⟩ hw dX12_areCornersHere_29
      · have ex28 : x28.toInt = x8.toInt := by rw [← c34.symm.trans c29]
        refine lv_if_ne (tgt := 30) hx hb dX12_areCornersHere_25 (by decide) (fun _ => ?_) (fun c => absurd c (by decide))
        refine lv_aload_n hx hb dX12_areCornersHere_30 rfl (lv_at hl 0 rfl) ?_
        refine lv_aload_n hx hb dX12_areCornersHere_31 rfl (lv_at hl 0 rfl) ?_
        refine tk_geti hC hK hw hT hinX12 kM_at0 (by decide) rfl 16 (by decide) (List.mem_of_getElem? (i := 2) rfl) rfl rfl dX12_areCornersHere_32 (fun x35 c36 rx35 tx35 => ?_)
        refine wk_top x30 (c36.symm.trans c31) ?_
        refine tk_puti hC hK hw hT hinX12 tyX12_ok nmX12 kM_at0 (by decide) rfl rfl 7 (by decide) (List.mem_of_getElem? (i := 1) rfl) rfl rfl rfl rfl (show 0 ≤ x30.toInt by omega) (show x30.toInt ≤ 10 by omega) dX12_areCornersHere_35 (fun H locs w37 hw hT k39 c38 => ?_)
        have hF := hF.put kM_at0 (k := 7) (by decide) k39
        have c40 := k39.gi (Or.inr (by decide)) c34
        have c41 := k39.gi (Or.inr (by decide)) c31
        refine lv_iconst (v := 1) hx hb dX12_areCornersHere_38 (by decide) ?_
        exact tk_zret hC hr rfl hlocks hK ⟨hT, hF, (Or.inr (Or.inr (Or.inr ⟨rfl, ⟨x8, c40, (show 1 ≤ x8.toInt by omega), (show x8.toInt ≤ 400 by omega)⟩, ⟨x30, c38, (show 2 ≤ x30.toInt by omega), (show x30.toInt ≤ 10 by omega)⟩, ⟨x30, c41, (show 2 ≤ x30.toInt by omega), (show x30.toInt ≤ 10 by omega)⟩⟩)))⟩ hw dX12_areCornersHere_39
    · refine lv_aload_n hx hb dX12_areCornersHere_18 rfl (lv_at hl 0 rfl) ?_
      refine lv_iconst (v := 2) hx hb dX12_areCornersHere_19 (by decide) ?_
      refine lv_bipush (v := 10) hx hb dX12_areCornersHere_20 (by decide) ?_
      refine tk_Vi hC hK hw hT hA hE hSR kM_at0 (by decide) rfl (k_X12_numberHere_1 l adK adV dC dI cy ad B (by omega) (by omega) qr s1    w6 H.size hT ) (cwV 2 hC.2.2.2.2 gX12_areCornersHere_X12_numberHere rfl rfl rfl (by decide +kernel) ⟨Nat.le_of_ble_eq_true rfl, Nat.le_of_ble_eq_true rfl⟩) rfl hl.1 rfl (Nat.le_of_ble_eq_true rfl) dX12_areCornersHere_22 (fun r42 w44 H locs hp43 hw => ?_)
      obtain ⟨hT, k45, hg58⟩ := hp43
      have hF := hF.tr k45 (by decide)
      have c59 := k45.gi kM_at0 (by decide) c15
      have c60 := k45.gi kM_at0 (by decide) c13
      rcases hg58 with ⟨rfl, ⟨x46, c47, rx46, tx46⟩, ⟨x48, c49, rx48, tx48⟩⟩ | ⟨rfl, ⟨x50, c51, rx50, tx50⟩, ⟨x52, c53, rx52, tx52⟩⟩ | ⟨rfl, ⟨x54, c55, rx54, tx54⟩, ⟨x56, c57, rx56, tx56⟩⟩
      · have ex46 : x46.toInt = x12.toInt := by rw [← c60.symm.trans c47]
        refine lv_if_ne (tgt := 30) hx hb dX12_areCornersHere_25 (by decide) (fun c => absurd (by decide) c) (fun _ => ?_)
        refine lv_iconst (v := 0) hx hb dX12_areCornersHere_28 (by decide) ?_
        exact tk_zret hC hr rfl hlocks hK ⟨hT, hF, (Or.inr (Or.inl ⟨rfl, ⟨x12, c60, (show 1 ≤ x12.toInt by omega), (show x12.toInt ≤ 400 by omega)⟩, ⟨x1, c59, (show 0 ≤ x1.toInt by omega), (show x1.toInt ≤ 0 by omega)⟩, ⟨x48, c49, (show 1 ≤ x48.toInt by omega), (show x48.toInt ≤ 3205 by omega)⟩⟩))⟩ hw dX12_areCornersHere_29
      · have ex50 : x50.toInt = x12.toInt := by rw [← c60.symm.trans c51]
        refine lv_if_ne (tgt := 30) hx hb dX12_areCornersHere_25 (by decide) (fun c => absurd (by decide) c) (fun _ => ?_)
        refine lv_iconst (v := 0) hx hb dX12_areCornersHere_28 (by decide) ?_
        exact tk_zret hC hr rfl hlocks hK ⟨hT, hF, (Or.inr (Or.inr (Or.inl ⟨rfl, ⟨x12, c60, (show 0 ≤ x12.toInt by omega), (show x12.toInt ≤ 400 by omega)⟩, ⟨x1, c59, (show 0 ≤ x1.toInt by omega), (show x1.toInt ≤ 0 by omega)⟩, ⟨x52, c53, (show 1 ≤ x52.toInt by omega), (show x52.toInt ≤ 3205 by omega)⟩⟩)))⟩ hw dX12_areCornersHere_29
      · have ex54 : x54.toInt = x12.toInt := by rw [← c60.symm.trans c55]
        refine lv_if_ne (tgt := 30) hx hb dX12_areCornersHere_25 (by decide) (fun _ => ?_) (fun c => absurd c (by decide))
        refine lv_aload_n hx hb dX12_areCornersHere_30 rfl (lv_at hl 0 rfl) ?_
        refine lv_aload_n hx hb dX12_areCornersHere_31 rfl (lv_at hl 0 rfl) ?_
        refine tk_geti hC hK hw hT hinX12 kM_at0 (by decide) rfl 16 (by decide) (List.mem_of_getElem? (i := 2) rfl) rfl rfl dX12_areCornersHere_32 (fun x61 c62 rx61 tx61 => ?_)
        refine wk_top x56 (c62.symm.trans c57) ?_
        refine tk_puti hC hK hw hT hinX12 tyX12_ok nmX12 kM_at0 (by decide) rfl rfl 7 (by decide) (List.mem_of_getElem? (i := 1) rfl) rfl rfl rfl rfl (show 0 ≤ x56.toInt by omega) (show x56.toInt ≤ 10 by omega) dX12_areCornersHere_35 (fun H locs w63 hw hT k65 c64 => ?_)
        have hF := hF.put kM_at0 (k := 7) (by decide) k65
        have c66 := k65.gi (Or.inr (by decide)) c60
        have c67 := k65.gi (Or.inr (by decide)) c57
        refine lv_iconst (v := 1) hx hb dX12_areCornersHere_38 (by decide) ?_
        exact tk_zret hC hr rfl hlocks hK ⟨hT, hF, (Or.inr (Or.inr (Or.inr ⟨rfl, ⟨x12, c66, (show 1 ≤ x12.toInt by omega), (show x12.toInt ≤ 400 by omega)⟩, ⟨x56, c64, (show 2 ≤ x56.toInt by omega), (show x56.toInt ≤ 10 by omega)⟩, ⟨x56, c67, (show 2 ≤ x56.toInt by omega), (show x56.toInt ≤ 10 by omega)⟩⟩)))⟩ hw dX12_areCornersHere_39
  · have c3 : (0 : Int) < x1.toInt := wk_leF c3
    refine lv_aload_n hx hb dX12_areCornersHere_7 rfl (lv_at hl 0 rfl) ?_
    refine lv_iconst (v := 4) hx hb dX12_areCornersHere_8 (by decide) ?_
    refine lv_iload_n hx hb dX12_areCornersHere_9 rfl (lv_at hl 1 rfl) ?_
    refine tk_Vi hC hK hw hT hA hE hSR kM_at0 (by decide) rfl (k_X12_fails_1 l adK adV dC dI cy ad B (by omega) (by omega) qr s1   4 (by decide) (by decide) a1 (show 0 ≤ a1.toInt by omega) (show a1.toInt ≤ 400 by omega) w0 s.heap.size hT ) (cwV 2 hC.2.2.2.2 gX12_areCornersHere_X12_fails rfl rfl rfl (by decide +kernel) ⟨Nat.le_of_ble_eq_true rfl, Nat.le_of_ble_eq_true rfl⟩) rfl hl.1 rfl (Nat.le_of_ble_eq_true rfl) dX12_areCornersHere_10 (fun r68 w70 H locs hp69 hw => ?_)
    obtain ⟨hT, k71, hg74⟩ := hp69
    have hF := hF.tr k71 (by decide)
    have c75 := k71.gi kM_at0 (by decide) c2
    obtain ⟨rfl, ⟨x72, c73, rx72, tx72⟩⟩ := hg74
    exact tk_zret hC hr rfl hlocks hK ⟨hT, hF, (Or.inl ⟨rfl, ⟨x1, c75, (show 1 ≤ x1.toInt by omega), (show x1.toInt ≤ 10 by omega)⟩, ⟨x72, c73, (show 1 ≤ x72.toInt by omega), (show x72.toInt ≤ 3205 by omega)⟩⟩)⟩ hw dX12_areCornersHere_13
abbrev P_X12_in_2 (ad : Nat → Nat) (cy : Nat → ClassId) (B : Int) (qr : Nat) (s1 : Int) (a0 : Int64) (a2 : Int64) (w0 : va_W) : Int32 → va_W → Prop := fun r u => w0 = u ∧ ((r = 0) ∨ (r = 1 ∧ 0 ≤ a0.toInt ∧ a0.toInt ≤ 11 ∧ 0 ≤ a2.toInt))
set_option maxHeartbeats 4000000 in
set_option maxRecDepth 100000 in
theorem k_X12_in_2 (l : Launch) (adK adV : Nat → Nat) (dC : Nat → ClassId) (dI : Nat → Nat → Nat) (cy : Nat → ClassId) (ad : Nat → Nat) (B : Int) (hB0 : 100000 ≤ B) (hB1 : B ≤ 1073741824) (qr : Nat) (s1 : Int)  (a0 : Int64) (ra0 : (-2147483648) ≤ a0.toInt) (ta0 : a0.toInt ≤ 2147483647) (a2 : Int64) (ra2 : (-1) ≤ a2.toInt) (ta2 : a2.toInt ≤ 11) (w0 : va_W) (sz : Nat) (hT : TW ksM ad cy B qr 12 w0)  : Met l yX12_in wsX12_in ({ frames := 1, cells := 0, slots := 0, locals := 12 }) (va_Pc [.long a0, .long 0, .long a2] (wpreS adK adV dC dI cy sz w0)) (va_Qi (P_X12_in_2 ad cy B qr s1 a0 a2 w0) (fun u : va_W => wpost dC dI cy (va_A w0 sz) u) (va_A w0 sz)) 0 0 (va_A w0 sz) := by
  refine Met.ofW (cc := cX12_in) (maxL := 6) (ret := (some .boolean)) (by decide) rfl ?_
  intro p e s m args below meth c s₁ Bk hml hv
  obtain ⟨rfl, ⟨hsz, hP, hK, hD0⟩, hE, hSR⟩ := hv
  have hx := Bk.exec
  have hb := Bk.bytes
  have hr := Bk.returns
  have hlocks := Bk.notSynchronized
  have hC : CallFix p m c cX12_in 6 s _ wsX12_in RX12 := ⟨hx, hb, hml, findClass_of_methodNamed Bk.named, atoms_spec (ws := wsX12_in) Bk.pre⟩
  subst hsz
  have hD := hD0.self (sz := s.heap.size)
  generalize hAe : va_A w0 s.heap.size = A at hD hE ⊢
  have hA : ∀ q : Nat, s.heap.size ≤ q → A q := fun q h => by rw [← hAe]; exact Or.inr h
  have hw : Wd dC dI A s.heap s.heap [] w0 := ⟨hP, hD, va_S.rf⟩
  have hF : FE ksM ([] : List (Nat × Nat × Nat)) w0 w0 := FE.rf
  have hl := lv_entry ([.long a0, .long 0, .long a2]) (n := 6) (Nat.le_of_ble_eq_true rfl)
  rw [lg_entry_eq]
  generalize (lg_sl ([.long a0, .long 0, .long a2]) ++ List.replicate (6 - (lg_sl ([.long a0, .long 0, .long a2])).length) Slot.unset).toArray = ls at hl ⊢
  have hl : lv_has ls 6 [(0, .long a0), (2, .long 0), (4, .long a2)] := hl
  generalize hloc : ([] : List Loc) = locs at hw ⊢
  have J17 : ∀ (H : Heap) (locs : List Loc) (ls : Array Slot), (-2147483648) ≤ a0.toInt → a0.toInt ≤ 2147483647 → (-1) ≤ a2.toInt → a2.toInt ≤ 11 → Wd dC dI A s.heap H locs w0 → lv_has ls 6 [(0, .long a0), (2, .long 0), (4, .long a2)] → W p l e ({ frames := 1, cells := 0, slots := 0, locals := 12 }) s m (List.toArray [.long a0, .long 0, .long a2]) below meth c H locs 0 0 (MQ below (va_Qi (P_X12_in_2 ad cy B qr s1 a0 a2 w0) (fun u : va_W => wpost dC dI cy A u) A) (List.toArray [.long a0, .long 0, .long a2]) s 0 0 A) (F0 m 17 ls []) := by
    intro H locs ls r1 t2 r3 t4 hw hl
    refine lv_iconst (v := 0) hx hb dX12_in_17 (by decide) ?_
    exact tk_zret hC hr rfl hlocks hK ⟨rfl, (Or.inl rfl)⟩ hw dX12_in_18
  refine lv_lload_n hx hb dX12_in_0 rfl (lv_at hl 0 rfl) ?_
  refine lv_lload_n hx hb dX12_in_1 rfl (lv_at hl 1 rfl) ?_
  refine W.lcmp hx hb dX12_in_2 ?_
  refine lv_if_lt (tgt := 17) hx hb dX12_in_3 (by decide) (fun c5 => ?_) (fun c5 => ?_)
  · have c5 : a0.toInt < (0 : Int) := wk_cltT c5
    exact J17  s.heap locs ls  (show (-2147483648) ≤ a0.toInt by omega) (show a0.toInt ≤ 2147483647 by omega) (show (-1) ≤ a2.toInt by omega) (show a2.toInt ≤ 11 by omega)  hw   (lv_sub hl [0, 1, 2] rfl)
  · have c5 : (0 : Int) ≤ a0.toInt := wk_cltF c5
    refine lv_lload_n hx hb dX12_in_6 rfl (lv_at hl 0 rfl) ?_
    refine lv_lload hx hb dX12_in_7 (lv_at hl 2 rfl) ?_
    refine W.lcmp hx hb dX12_in_9 ?_
    refine lv_if_gt (tgt := 17) hx hb dX12_in_10 (by decide) (fun c6 => ?_) (fun c6 => ?_)
    · have c6 : a2.toInt < a0.toInt := wk_cgtT c6
      exact J17  s.heap locs ls  (show (-2147483648) ≤ a0.toInt by omega) (show a0.toInt ≤ 2147483647 by omega) (show (-1) ≤ a2.toInt by omega) (show a2.toInt ≤ 11 by omega)  hw   (lv_sub hl [0, 1, 2] rfl)
    · have c6 : a0.toInt ≤ a2.toInt := wk_cgtF c6
      refine lv_iconst (v := 1) hx hb dX12_in_13 (by decide) ?_
      refine lv_goto (tgt := 18) hx hb dX12_in_14 (by decide) ?_
      exact tk_zret hC hr rfl hlocks hK ⟨rfl, (Or.inr ⟨rfl, (show 0 ≤ a0.toInt by omega), (show a0.toInt ≤ 11 by omega), (show 0 ≤ a2.toInt by omega)⟩)⟩ hw dX12_in_18
abbrev P_X12_numberHere_2 (ad : Nat → Nat) (cy : Nat → ClassId) (B : Int) (qr : Nat) (s1 : Int) (a2 : Int32) (w0 : va_W) : Int32 → va_W → Prop := fun r u => TW ksM ad cy B qr 12 u ∧ FE ksM [(12, 14, 14), (12, 15, 15), (12, 16, 16)] w0 u ∧ ((r = 0 ∧ (∃ y : Int32, gi u 0 1 = y ∧ 1 ≤ y.toInt ∧ y.toInt ≤ 400) ∧ (∃ y : Int32, gi u 0 15 = y ∧ 1 ≤ y.toInt ∧ y.toInt ≤ 3205)) ∨ (r = 0 ∧ (∃ y : Int32, gi u 0 1 = y ∧ 0 ≤ y.toInt ∧ y.toInt ≤ 400) ∧ (∃ y : Int32, gi u 0 15 = y ∧ 1 ≤ y.toInt ∧ y.toInt ≤ 3205)) ∨ (r = 1 ∧ 0 ≤ a2.toInt ∧ (∃ y : Int32, gi u 0 1 = y ∧ 1 ≤ y.toInt ∧ y.toInt ≤ 400) ∧ (∃ y : Int32, gi u 0 16 = y ∧ 0 ≤ y.toInt ∧ y.toInt ≤ 11)))
set_option maxHeartbeats 4000000 in
set_option maxRecDepth 100000 in
theorem k_X12_numberHere_2 (l : Launch) (adK adV : Nat → Nat) (dC : Nat → ClassId) (dI : Nat → Nat → Nat) (cy : Nat → ClassId) (ad : Nat → Nat) (B : Int) (hB0 : 100000 ≤ B) (hB1 : B ≤ 1073741824) (qr : Nat) (s1 : Int)  (a2 : Int32) (ra2 : (-1) ≤ a2.toInt) (ta2 : a2.toInt ≤ 11) (w0 : va_W) (sz : Nat) (hT : TW ksM ad cy B qr 12 w0)  : Met l yX12_numberHere wsX12_numberHere ({ frames := 2, cells := 0, slots := 0, locals := 37 }) (va_Pc [.ref (ad 0), .int 0, .int a2] (wpreS adK adV dC dI cy sz w0)) (va_Qi (P_X12_numberHere_2 ad cy B qr s1 a2 w0) (fun u : va_W => wpost dC dI cy (va_A w0 sz) u) (va_A w0 sz)) 0 0 (va_A w0 sz) := by
  refine Met.ofW (cc := cX12_numberHere) (maxL := 5) (ret := (some .boolean)) (by decide) rfl ?_
  intro p e s m args below meth c s₁ Bk hml hv
  obtain ⟨rfl, ⟨hsz, hP, hK, hD0⟩, hE, hSR⟩ := hv
  have hx := Bk.exec
  have hb := Bk.bytes
  have hr := Bk.returns
  have hlocks := Bk.notSynchronized
  have hC : CallFix p m c cX12_numberHere 5 s _ wsX12_numberHere RX12 := ⟨hx, hb, hml, findClass_of_methodNamed Bk.named, atoms_spec (ws := wsX12_numberHere) Bk.pre⟩
  subst hsz
  have hD := hD0.self (sz := s.heap.size)
  generalize hAe : va_A w0 s.heap.size = A at hD hE ⊢
  have hA : ∀ q : Nat, s.heap.size ≤ q → A q := fun q h => by rw [← hAe]; exact Or.inr h
  have hw : Wd dC dI A s.heap s.heap [] w0 := ⟨hP, hD, va_S.rf⟩
  have hF : FE ksM [(12, 14, 14), (12, 15, 15), (12, 16, 16)] w0 w0 := FE.rf
  have hl := lv_entry ([.ref (ad 0), .int 0, .int a2]) (n := 5) (Nat.le_of_ble_eq_true rfl)
  rw [lg_entry_eq]
  generalize (lg_sl ([.ref (ad 0), .int 0, .int a2]) ++ List.replicate (5 - (lg_sl ([.ref (ad 0), .int 0, .int a2])).length) Slot.unset).toArray = ls at hl ⊢
  have hl : lv_has ls 5 [(0, .ref (ad 0)), (1, .int 0), (2, .int a2)] := hl
  generalize hloc : ([] : List Loc) = locs at hw ⊢
  have hinX12 : ∀ w ∈ u_ws RX12 TX12 42, w ∈ wsX12_numberHere := fun _ h => List.mem_cons_of_mem _ (List.mem_append_right _ (h))
  have J126 : ∀ (v126_3 : Int32) (v126_4 : Int32) (f126_0_1 : Int32) (f126_0_14 : Int32) (f126_0_16 : Int32) (H : Heap) (locs : List Loc) (ls : Array Slot) (w1 : va_W), 0 ≤ a2.toInt → a2.toInt ≤ 11 → 0 ≤ v126_3.toInt → v126_3.toInt ≤ 399 → 0 ≤ v126_4.toInt → v126_4.toInt ≤ 11 → 1 ≤ f126_0_1.toInt → f126_0_1.toInt ≤ 400 → 0 ≤ f126_0_14.toInt → f126_0_14.toInt ≤ 400 → 0 ≤ f126_0_16.toInt → f126_0_16.toInt ≤ 11 → Wd dC dI A s.heap H locs w1 → TW ksM ad cy B qr 12 w1 → FE ksM [(12, 14, 14), (12, 15, 15), (12, 16, 16)] w0 w1 → gi w1 0 1 = f126_0_1 → gi w1 0 14 = f126_0_14 → gi w1 0 16 = f126_0_16 → lv_has ls 5 [(0, .ref (ad 0)), (1, .int 0), (2, .int a2), (3, .int v126_3), (4, .int v126_4)] → W p l e ({ frames := 2, cells := 0, slots := 0, locals := 37 }) s m (List.toArray [.ref (ad 0), .int 0, .int a2]) below meth c H locs 0 0 (MQ below (va_Qi (P_X12_numberHere_2 ad cy B qr s1 a2 w0) (fun u : va_W => wpost dC dI cy A u) A) (List.toArray [.ref (ad 0), .int 0, .int a2]) s 0 0 A) (F0 m 126 ls []) := by
    intro v126_3 v126_4 f126_0_1 f126_0_14 f126_0_16 H locs ls w1 r2 t3 r4 t5 r6 t7 r8 t9 r11 t12 r14 t15 hw hT hF c10 c13 c16 hl
    refine lv_iconst (v := 1) hx hb dX12_numberHere_126 (by decide) ?_
    refine lv_goto (tgt := 131) hx hb dX12_numberHere_127 (by decide) ?_
    exact tk_zret hC hr rfl hlocks hK ⟨hT, hF, (Or.inr (Or.inr ⟨rfl, (show 0 ≤ a2.toInt by omega), ⟨f126_0_1, c10, (show 1 ≤ f126_0_1.toInt by omega), (show f126_0_1.toInt ≤ 400 by omega)⟩, ⟨f126_0_16, c16, (show 0 ≤ f126_0_16.toInt by omega), (show f126_0_16.toInt ≤ 11 by omega)⟩⟩))⟩ hw dX12_numberHere_131
  have J117 : ∀ (v117_3 : Int32) (v117_4 : Int32) (f117_0_1 : Int32) (f117_0_14 : Int32) (f117_0_16 : Int32) (H : Heap) (locs : List Loc) (ls : Array Slot) (w17 : va_W), (-1) ≤ a2.toInt → a2.toInt ≤ 11 → 0 ≤ v117_3.toInt → v117_3.toInt ≤ 399 → 1 ≤ f117_0_1.toInt → f117_0_1.toInt ≤ 400 → 0 ≤ f117_0_14.toInt → f117_0_14.toInt ≤ 400 → Wd dC dI A s.heap H locs w17 → TW ksM ad cy B qr 12 w17 → FE ksM [(12, 14, 14), (12, 15, 15), (12, 16, 16)] w0 w17 → gi w17 0 1 = f117_0_1 → gi w17 0 14 = f117_0_14 → gi w17 0 16 = f117_0_16 → lv_has ls 5 [(0, .ref (ad 0)), (1, .int 0), (2, .int a2), (3, .int v117_3), (4, .int v117_4)] → W p l e ({ frames := 2, cells := 0, slots := 0, locals := 37 }) s m (List.toArray [.ref (ad 0), .int 0, .int a2]) below meth c H locs 0 0 (MQ below (va_Qi (P_X12_numberHere_2 ad cy B qr s1 a2 w0) (fun u : va_W => wpost dC dI cy A u) A) (List.toArray [.ref (ad 0), .int 0, .int a2]) s 0 0 A) (F0 m 117 ls []) := by
    intro v117_3 v117_4 f117_0_1 f117_0_14 f117_0_16 H locs ls w17 r18 t19 r20 t21 r22 t23 r25 t26 hw hT hF c24 c27 c28 hl
    refine lv_aload_n hx hb dX12_numberHere_117 rfl (lv_at hl 0 rfl) ?_
    refine lv_iconst (v := 1) hx hb dX12_numberHere_118 (by decide) ?_
    refine lv_iload_n hx hb dX12_numberHere_119 rfl (lv_at hl 3 rfl) ?_
    refine tk_Vi hC hK hw hT hA hE hSR kM_at0 (by decide) rfl (k_X12_fails_1 l adK adV dC dI cy ad B (by omega) (by omega) qr s1   1 (by decide) (by decide) v117_3 (show 0 ≤ v117_3.toInt by omega) (show v117_3.toInt ≤ 400 by omega) w17 H.size hT ) (cwV 2 hC.2.2.2.2 gX12_numberHere_X12_fails rfl rfl rfl (by decide +kernel) ⟨Nat.le_of_ble_eq_true rfl, Nat.le_of_ble_eq_true rfl⟩) rfl hl.1 rfl (Nat.le_of_ble_eq_true rfl) dX12_numberHere_120 (fun r29 w31 H locs hp30 hw => ?_)
    obtain ⟨hT, k32, hg35⟩ := hp30
    have hF := hF.tr k32 (by decide)
    have c36 := k32.gi kM_at0 (by decide) c24
    have c37 := k32.gi kM_at0 (by decide) c27
    have c38 := k32.gi kM_at0 (by decide) c28
    obtain ⟨rfl, ⟨x33, c34, rx33, tx33⟩⟩ := hg35
    refine lv_if_eq (tgt := 130) hx hb dX12_numberHere_123 (by decide) (fun _ => ?_) (fun c => absurd (by decide) c)
    refine lv_iconst (v := 0) hx hb dX12_numberHere_130 (by decide) ?_
    exact tk_zret hC hr rfl hlocks hK ⟨hT, hF, (Or.inl ⟨rfl, ⟨f117_0_1, c36, (show 1 ≤ f117_0_1.toInt by omega), (show f117_0_1.toInt ≤ 400 by omega)⟩, ⟨x33, c34, (show 1 ≤ x33.toInt by omega), (show x33.toInt ≤ 3205 by omega)⟩⟩)⟩ hw dX12_numberHere_131
  have L34 : ∀ (n34 : Nat) (v34_3 : Int32) (v34_4 : Int32) (f34_0_1 : Int32) (f34_0_14 : Int32) (H : Heap) (locs : List Loc) (ls : Array Slot) (w39 : va_W), (-1) ≤ a2.toInt → a2.toInt ≤ 11 → 0 ≤ v34_3.toInt → v34_3.toInt ≤ 399 → 1 ≤ f34_0_1.toInt → f34_0_1.toInt ≤ 400 → 0 ≤ f34_0_14.toInt → f34_0_14.toInt ≤ 400 → (400 - f34_0_14.toInt).toNat < n34 → Wd dC dI A s.heap H locs w39 → TW ksM ad cy B qr 12 w39 → FE ksM [(12, 14, 14), (12, 15, 15), (12, 16, 16)] w0 w39 → gi w39 0 1 = f34_0_1 → gi w39 0 14 = f34_0_14 → lv_has ls 5 [(0, .ref (ad 0)), (1, .int 0), (2, .int a2), (3, .int v34_3), (4, .int v34_4)] → W p l e ({ frames := 2, cells := 0, slots := 0, locals := 37 }) s m (List.toArray [.ref (ad 0), .int 0, .int a2]) below meth c H locs 0 0 (MQ below (va_Qi (P_X12_numberHere_2 ad cy B qr s1 a2 w0) (fun u : va_W => wpost dC dI cy A u) A) (List.toArray [.ref (ad 0), .int 0, .int a2]) s 0 0 A) (F0 m 34 ls []) := by
    intro n34
    induction n34 with
    | zero => intro v34_3 v34_4 f34_0_1 f34_0_14 H locs ls w39 r40 t41 r42 t43 r44 t45 r47 t48 hm34 hw hT hF c46 c49 hl; omega
    | succ n34 ih34 =>
      intro v34_3 v34_4 f34_0_1 f34_0_14 H locs ls w39 r40 t41 r42 t43 r44 t45 r47 t48 hm34 hw hT hF c46 c49 hl
      have J75 : ∀ (v75_4 : Int32) (H : Heap) (locs : List Loc) (ls : Array Slot) (w50 : va_W), (-1) ≤ a2.toInt → a2.toInt ≤ 11 → 0 ≤ v34_3.toInt → v34_3.toInt ≤ 399 → 1 ≤ f34_0_1.toInt → f34_0_1.toInt ≤ 400 → 0 ≤ f34_0_14.toInt → f34_0_14.toInt ≤ 399 → Wd dC dI A s.heap H locs w50 → TW ksM ad cy B qr 12 w50 → FE ksM [(12, 14, 14), (12, 15, 15), (12, 16, 16)] w0 w50 → gi w50 0 1 = f34_0_1 → gi w50 0 14 = f34_0_14 → lv_has ls 5 [(0, .ref (ad 0)), (1, .int 0), (2, .int a2), (3, .int v34_3), (4, .int v75_4)] → W p l e ({ frames := 2, cells := 0, slots := 0, locals := 37 }) s m (List.toArray [.ref (ad 0), .int 0, .int a2]) below meth c H locs 0 0 (MQ below (va_Qi (P_X12_numberHere_2 ad cy B qr s1 a2 w0) (fun u : va_W => wpost dC dI cy A u) A) (List.toArray [.ref (ad 0), .int 0, .int a2]) s 0 0 A) (F0 m 75 ls []) := by
        intro v75_4 H locs ls w50 r51 t52 r53 t54 r55 t56 r58 t59 hw hT hF c57 c60 hl
        refine lv_aload_n hx hb dX12_numberHere_75 rfl (lv_at hl 0 rfl) ?_
        refine lv_dup hx hb dX12_numberHere_76 rfl ?_
        refine tk_geti hC hK hw hT hinX12 kM_at0 (by decide) rfl 14 (by decide) (List.mem_of_getElem? (i := 1) rfl) rfl rfl dX12_numberHere_77 (fun x61 c62 rx61 tx61 => ?_)
        refine wk_top f34_0_14 (c62.symm.trans c60) ?_
        refine lv_iconst (v := 1) hx hb dX12_numberHere_80 (by decide) ?_
        refine lv_iadd hx hb dX12_numberHere_81 ?_
        refine lv_topi (fun x63 ex63 => ?_)
        have ex63 : x63.toInt = f34_0_14.toInt + (1 : Int) := by rw [ex63]; exact wk_add (show (-2147483648) ≤ f34_0_14.toInt + (1 : Int) by omega) (show f34_0_14.toInt + (1 : Int) ≤ 2147483647 by omega)
        refine tk_puti hC hK hw hT hinX12 tyX12_ok nmX12 kM_at0 (by decide) rfl rfl 14 (by decide) (List.mem_of_getElem? (i := 1) rfl) rfl rfl rfl rfl (show 0 ≤ x63.toInt by omega) (show x63.toInt ≤ 400 by omega) dX12_numberHere_82 (fun H locs w64 hw hT k66 c65 => ?_)
        have hF := hF.put kM_at0 (k := 14) (by decide) k66
        have c67 := k66.gi (Or.inr (by decide)) c57
        refine lv_goto (tgt := 34) hx hb dX12_numberHere_85 (by decide) ?_
        exact ih34 v34_3 v75_4 f34_0_1 x63 H locs ls w64 (show (-1) ≤ a2.toInt by omega) (show a2.toInt ≤ 11 by omega) (show 0 ≤ v34_3.toInt by omega) (show v34_3.toInt ≤ 399 by omega) (show 1 ≤ f34_0_1.toInt by omega) (show f34_0_1.toInt ≤ 400 by omega) (show 0 ≤ x63.toInt by omega) (show x63.toInt ≤ 400 by omega) (show (400 - x63.toInt).toNat < n34 by omega) hw hT hF c67 c65 (lv_sub hl [0, 1, 2, 3, 4] rfl)
      refine lv_aload_n hx hb dX12_numberHere_34 rfl (lv_at hl 0 rfl) ?_
      refine lv_aload_n hx hb dX12_numberHere_35 rfl (lv_at hl 0 rfl) ?_
      refine tk_geti hC hK hw hT hinX12 kM_at0 (by decide) rfl 14 (by decide) (List.mem_of_getElem? (i := 1) rfl) rfl rfl dX12_numberHere_36 (fun x68 c69 rx68 tx68 => ?_)
      refine wk_top f34_0_14 (c69.symm.trans c49) ?_
      refine tk_Vi hC hK hw hT hA hE hSR kM_at0 (by decide) rfl (k_X12_isDigit_2 l adK adV dC dI cy ad B (by omega) (by omega) qr s1   f34_0_14 (show 0 ≤ f34_0_14.toInt by omega) (show f34_0_14.toInt ≤ 400 by omega) w39 H.size hT ) (cwV 1 hC.2.2.2.2 gX12_numberHere_X12_isDigit rfl rfl rfl (by decide +kernel) ⟨Nat.le_of_ble_eq_true rfl, Nat.le_of_ble_eq_true rfl⟩) rfl hl.1 rfl (Nat.le_of_ble_eq_true rfl) dX12_numberHere_39 (fun r70 w72 H locs hp71 hw => ?_)
      obtain ⟨rfl, hg79⟩ := hp71
      rcases hg79 with ⟨rfl, ⟨x74, c75, rx74, tx74⟩⟩ | ⟨rfl, g76, ⟨x77, c78, rx77, tx77⟩⟩
      · have ex74 : x74.toInt = f34_0_1.toInt := by rw [← c46.symm.trans c75]
        refine lv_if_eq (tgt := 88) hx hb dX12_numberHere_42 (by decide) (fun _ => ?_) (fun c => absurd (by decide) c)
        refine lv_aload_n hx hb dX12_numberHere_88 rfl (lv_at hl 0 rfl) ?_
        refine lv_iload hx hb dX12_numberHere_89 (lv_at hl 4 rfl) ?_
        refine tk_puti hC hK hw hT hinX12 tyX12_ok nmX12 kM_at0 (by decide) rfl rfl 16 (by decide) (List.mem_of_getElem? (i := 3) rfl) rfl rfl rfl rfl (wk_i32 v34_4).1 (wk_i32 v34_4).2 dX12_numberHere_91 (fun H locs w80 hw hT k82 c81 => ?_)
        have hF := hF.put kM_at0 (k := 16) (by decide) k82
        have c83 := k82.gi (Or.inr (by decide)) c46
        have c84 := k82.gi (Or.inr (by decide)) c49
        refine lv_aload_n hx hb dX12_numberHere_94 rfl (lv_at hl 0 rfl) ?_
        refine tk_geti hC hK hw hT hinX12 kM_at0 (by decide) rfl 14 (by decide) (List.mem_of_getElem? (i := 1) rfl) rfl rfl dX12_numberHere_95 (fun x85 c86 rx85 tx85 => ?_)
        refine wk_top f34_0_14 (c86.symm.trans c84) ?_
        refine lv_iload_n hx hb dX12_numberHere_98 rfl (lv_at hl 3 rfl) ?_
        refine lv_isub hx hb dX12_numberHere_99 ?_
        refine lv_topi (fun x87 ex87 => ?_)
        have ex87 : x87.toInt = f34_0_14.toInt - v34_3.toInt := by rw [ex87]; exact wk_sub (show (-2147483648) ≤ f34_0_14.toInt - v34_3.toInt by omega) (show f34_0_14.toInt - v34_3.toInt ≤ 2147483647 by omega)
        refine lv_iconst (v := 5) hx hb dX12_numberHere_100 (by decide) ?_
        refine lv_icmp_gt (tgt := 117) hx hb dX12_numberHere_101 (by decide) (fun c88 => ?_) (fun c88 => ?_)
        · have c88 : (5 : Int) < x87.toInt := wk_lt.mp c88
          exact J117 v34_3 v34_4 f34_0_1 f34_0_14 v34_4 H locs ls w80 (show (-1) ≤ a2.toInt by omega) (show a2.toInt ≤ 11 by omega) (show 0 ≤ v34_3.toInt by omega) (show v34_3.toInt ≤ 399 by omega) (show 1 ≤ f34_0_1.toInt by omega) (show f34_0_1.toInt ≤ 400 by omega) (show 0 ≤ f34_0_14.toInt by omega) (show f34_0_14.toInt ≤ 400 by omega)  hw hT hF c83 c84 c81 (lv_sub hl [0, 1, 2, 3, 4] rfl)
        · have c88 : x87.toInt ≤ (5 : Int) := wk_ltF c88
          refine lv_iload hx hb dX12_numberHere_104 (lv_at hl 4 rfl) ?_
          refine lv_i2l hx hb dX12_numberHere_106 rfl ?_
          refine lv_topl (fun x89 ex89 => ?_)
          have ex89 : x89.toInt = v34_4.toInt := by rw [ex89]; exact wk_i2l _
          have bx89 := wk_i32 v34_4
          refine lv_iload_n hx hb dX12_numberHere_107 rfl (lv_at hl 1 rfl) ?_
          refine lv_i2l hx hb dX12_numberHere_108 rfl ?_
          refine wk_topl 0 (by decide) ?_
          refine lv_iload_n hx hb dX12_numberHere_109 rfl (lv_at hl 2 rfl) ?_
          refine lv_i2l hx hb dX12_numberHere_110 rfl ?_
          refine lv_topl (fun x90 ex90 => ?_)
          have ex90 : x90.toInt = a2.toInt := by rw [ex90]; exact wk_i2l _
          have bx90 := wk_i32 a2
          refine tk_Si hC hK hw hT hA hE hSR (k_X12_in_2 l adK adV dC dI cy ad B (by omega) (by omega) qr s1   x89 (show (-2147483648) ≤ x89.toInt by omega) (show x89.toInt ≤ 2147483647 by omega) x90 (show (-1) ≤ x90.toInt by omega) (show x90.toInt ≤ 11 by omega) w80 H.size hT ) (va_cwS 3 hC.2.2.2.2 gX12_numberHere_X12_in rfl rfl rfl (by decide +kernel) ⟨Nat.le_of_ble_eq_true rfl, Nat.le_of_ble_eq_true rfl⟩) rfl hl.1 rfl (Nat.le_of_ble_eq_true rfl) dX12_numberHere_111 (fun r91 w93 H locs hp92 hw => ?_)
          obtain ⟨rfl, hg98⟩ := hp92
          rcases hg98 with rfl | ⟨rfl, g95, g96, g97⟩
          · refine lv_if_ne (tgt := 126) hx hb dX12_numberHere_114 (by decide) (fun c => absurd (by decide) c) (fun _ => ?_)
            exact J117 v34_3 v34_4 f34_0_1 f34_0_14 v34_4 H locs ls w80 (show (-1) ≤ a2.toInt by omega) (show a2.toInt ≤ 11 by omega) (show 0 ≤ v34_3.toInt by omega) (show v34_3.toInt ≤ 399 by omega) (show 1 ≤ f34_0_1.toInt by omega) (show f34_0_1.toInt ≤ 400 by omega) (show 0 ≤ f34_0_14.toInt by omega) (show f34_0_14.toInt ≤ 400 by omega)  hw hT hF c83 c84 c81 (lv_sub hl [0, 1, 2, 3, 4] rfl)
          · refine lv_if_ne (tgt := 126) hx hb dX12_numberHere_114 (by decide) (fun _ => ?_) (fun c => absurd c (by decide))
            exact J126 v34_3 v34_4 f34_0_1 f34_0_14 v34_4 H locs ls w80 (show 0 ≤ a2.toInt by omega) (show a2.toInt ≤ 11 by omega) (show 0 ≤ v34_3.toInt by omega) (show v34_3.toInt ≤ 399 by omega) (show 0 ≤ v34_4.toInt by omega) (show v34_4.toInt ≤ 11 by omega) (show 1 ≤ f34_0_1.toInt by omega) (show f34_0_1.toInt ≤ 400 by omega) (show 0 ≤ f34_0_14.toInt by omega) (show f34_0_14.toInt ≤ 400 by omega) (show 0 ≤ v34_4.toInt by omega) (show v34_4.toInt ≤ 11 by omega)  hw hT hF c83 c84 c81 (lv_sub hl [0, 1, 2, 3, 4] rfl)
      · have ex77 : x77.toInt = f34_0_1.toInt := by rw [← c46.symm.trans c78]
        refine lv_if_eq (tgt := 88) hx hb dX12_numberHere_42 (by decide) (fun c => absurd c (by decide)) (fun _ => ?_)
        refine lv_aload_n hx hb dX12_numberHere_45 rfl (lv_at hl 0 rfl) ?_
        refine tk_geti hC hK hw hT hinX12 kM_at0 (by decide) rfl 14 (by decide) (List.mem_of_getElem? (i := 1) rfl) rfl rfl dX12_numberHere_46 (fun x99 c100 rx99 tx99 => ?_)
        refine wk_top f34_0_14 (c100.symm.trans c49) ?_
        refine lv_iload_n hx hb dX12_numberHere_49 rfl (lv_at hl 3 rfl) ?_
        refine lv_isub hx hb dX12_numberHere_50 ?_
        refine lv_topi (fun x101 ex101 => ?_)
        have ex101 : x101.toInt = f34_0_14.toInt - v34_3.toInt := by rw [ex101]; exact wk_sub (show (-2147483648) ≤ f34_0_14.toInt - v34_3.toInt by omega) (show f34_0_14.toInt - v34_3.toInt ≤ 2147483647 by omega)
        refine lv_iconst (v := 5) hx hb dX12_numberHere_51 (by decide) ?_
        refine lv_icmp_ge (tgt := 75) hx hb dX12_numberHere_52 (by decide) (fun c102 => ?_) (fun c102 => ?_)
        · have c102 : (5 : Int) ≤ x101.toInt := wk_le.mp c102
          exact J75 v34_4 H locs ls w39 (show (-1) ≤ a2.toInt by omega) (show a2.toInt ≤ 11 by omega) (show 0 ≤ v34_3.toInt by omega) (show v34_3.toInt ≤ 399 by omega) (show 1 ≤ f34_0_1.toInt by omega) (show f34_0_1.toInt ≤ 400 by omega) (show 0 ≤ f34_0_14.toInt by omega) (show f34_0_14.toInt ≤ 399 by omega)  hw hT hF c46 c49 (lv_sub hl [0, 1, 2, 3, 4] rfl)
        · have c102 : x101.toInt < (5 : Int) := wk_leF c102
          refine lv_bipush (v := 10) hx hb dX12_numberHere_55 (by decide) ?_
          refine lv_iload hx hb dX12_numberHere_57 (lv_at hl 4 rfl) ?_
          refine lv_imul hx hb dX12_numberHere_59 ?_
          have nx103 := wk_i32 v34_4
          refine lv_topi (fun x104 ex104 => ?_)
          refine lv_aload_n hx hb dX12_numberHere_60 rfl (lv_at hl 0 rfl) ?_
          refine tk_getA hC hK hw hT hinX12 kM_at0 (by decide) rfl 0 (by decide) (List.mem_of_getElem? (i := 2) rfl) rfl rfl dX12_numberHere_61 ?_
          refine lv_aload_n hx hb dX12_numberHere_64 rfl (lv_at hl 0 rfl) ?_
          refine tk_geti hC hK hw hT hinX12 kM_at0 (by decide) rfl 14 (by decide) (List.mem_of_getElem? (i := 1) rfl) rfl rfl dX12_numberHere_65 (fun x105 c106 rx105 tx105 => ?_)
          refine wk_top f34_0_14 (c106.symm.trans c49) ?_
          refine tk_bald hC hK hw hT kM_at1 rfl rfl (show 0 ≤ f34_0_14.toInt by omega) (show f34_0_14.toInt < 400 by omega) dX12_numberHere_68 (fun x107 c108 rx107 tx107 => ?_)
          have c108 : gi w39 1 (f34_0_14.toInt).toNat = x107 := (congrArg (gi w39 1) (congrArg Int.toNat (show f34_0_14.toInt = f34_0_14.toInt by omega))).trans c108
          refine lv_iadd hx hb dX12_numberHere_69 ?_
          have nx109 := wk_i32 x104
          refine lv_topi (fun x110 ex110 => ?_)
          refine lv_bipush (v := 48) hx hb dX12_numberHere_70 (by decide) ?_
          refine lv_isub hx hb dX12_numberHere_72 ?_
          have nx111 := wk_i32 x110
          refine lv_topi (fun x112 ex112 => ?_)
          refine lv_istore (lv' := [(4, .int x112), (0, .ref (ad 0)), (1, .int 0), (2, .int a2), (3, .int v34_3)]) hx hb dX12_numberHere_73 hl (by decide) rfl (fun ls hl => ?_)
          exact J75 x112 H locs ls w39 (show (-1) ≤ a2.toInt by omega) (show a2.toInt ≤ 11 by omega) (show 0 ≤ v34_3.toInt by omega) (show v34_3.toInt ≤ 399 by omega) (show 1 ≤ f34_0_1.toInt by omega) (show f34_0_1.toInt ≤ 400 by omega) (show 0 ≤ f34_0_14.toInt by omega) (show f34_0_14.toInt ≤ 399 by omega)  hw hT hF c46 c49 (lv_sub hl [1, 2, 3, 4, 0] rfl)
  refine lv_aload_n hx hb dX12_numberHere_0 rfl (lv_at hl 0 rfl) ?_
  obtain ⟨x113, c114, rx113, tx113⟩ := hT.rdi (lo := 0) (hi := 400) (k := 14) kM_at0 (by decide) rfl
  refine tk_Vi hC hK hw hT hA hE hSR kM_at0 (by decide) rfl (k_X12_see_1 l adK adV dC dI cy ad B (by omega) (by omega) qr s1    w0 s.heap.size hT x113 c114 (show 0 ≤ x113.toInt by omega) (show x113.toInt ≤ 400 by omega)) (cwV 0 hC.2.2.2.2 gX12_numberHere_X12_see rfl rfl rfl (by decide +kernel) ⟨Nat.le_of_ble_eq_true rfl, Nat.le_of_ble_eq_true rfl⟩) rfl hl.1 rfl (Nat.le_of_ble_eq_true rfl) dX12_numberHere_1 (fun r115 w117 H locs hp116 hw => ?_)
  obtain ⟨hT, k118, hg135⟩ := hp116
  have hF := hF.tr k118 (by decide)
  rcases hg135 with ⟨g119, g120, ⟨x121, c122, rx121, tx121⟩, ⟨x123, c124, rx123, tx123⟩, g125, g126⟩ | ⟨rfl, ⟨x127, c128, rx127, tx127⟩, ⟨x129, c130, rx129, tx129⟩, g131⟩ | ⟨rfl, ⟨x132, c133, rx132, tx132⟩, g134⟩
  · have g125 : (gi w117 1 (x123.toInt).toNat).toInt ≠ 32 := by have q := g125; simp only [c124] at q; omega
    have g126 : (x123.toInt = x113.toInt ∨ (gi w0 1 (x113.toInt).toNat).toInt = 32) := by have q := g126; simp only [c114, c124] at q; omega
    refine lv_pop hx hb dX12_numberHere_4 rfl ?_
    refine lv_aload_n hx hb dX12_numberHere_5 rfl (lv_at hl 0 rfl) ?_
    refine lv_aload_n hx hb dX12_numberHere_6 rfl (lv_at hl 0 rfl) ?_
    refine tk_geti hC hK hw hT hinX12 kM_at0 (by decide) rfl 14 (by decide) (List.mem_of_getElem? (i := 1) rfl) rfl rfl dX12_numberHere_7 (fun x138 c139 rx138 tx138 => ?_)
    refine wk_top x123 (c139.symm.trans c124) ?_
    refine tk_Vi hC hK hw hT hA hE hSR kM_at0 (by decide) rfl (k_X12_isDigit_1 l adK adV dC dI cy ad B (by omega) (by omega) qr s1   x123 (show 0 ≤ x123.toInt by omega) (show x123.toInt ≤ 399 by omega) w117 H.size hT ) (cwV 1 hC.2.2.2.2 gX12_numberHere_X12_isDigit rfl rfl rfl (by decide +kernel) ⟨Nat.le_of_ble_eq_true rfl, Nat.le_of_ble_eq_true rfl⟩) rfl hl.1 rfl (Nat.le_of_ble_eq_true rfl) dX12_numberHere_10 (fun r140 w142 H locs hp141 hw => ?_)
    obtain ⟨rfl, hg148⟩ := hp141
    rcases hg148 with ⟨rfl, ⟨x144, c145, rx144, tx144⟩⟩ | ⟨rfl, ⟨x146, c147, rx146, tx146⟩⟩
    · have ex144 : x144.toInt = x121.toInt := by rw [← c122.symm.trans c145]
      refine lv_if_ne (tgt := 26) hx hb dX12_numberHere_13 (by decide) (fun c => absurd (by decide) c) (fun _ => ?_)
      refine lv_aload_n hx hb dX12_numberHere_16 rfl (lv_at hl 0 rfl) ?_
      refine lv_iconst (v := 0) hx hb dX12_numberHere_17 (by decide) ?_
      refine lv_aload_n hx hb dX12_numberHere_18 rfl (lv_at hl 0 rfl) ?_
      refine tk_geti hC hK hw hT hinX12 kM_at0 (by decide) rfl 14 (by decide) (List.mem_of_getElem? (i := 1) rfl) rfl rfl dX12_numberHere_19 (fun x149 c150 rx149 tx149 => ?_)
      refine wk_top x123 (c150.symm.trans c124) ?_
      refine tk_Vi hC hK hw hT hA hE hSR kM_at0 (by decide) rfl (k_X12_fails_1 l adK adV dC dI cy ad B (by omega) (by omega) qr s1   0 (by decide) (by decide) x123 (show 0 ≤ x123.toInt by omega) (show x123.toInt ≤ 400 by omega) w117 H.size hT ) (cwV 2 hC.2.2.2.2 gX12_numberHere_X12_fails rfl rfl rfl (by decide +kernel) ⟨Nat.le_of_ble_eq_true rfl, Nat.le_of_ble_eq_true rfl⟩) rfl hl.1 rfl (Nat.le_of_ble_eq_true rfl) dX12_numberHere_22 (fun r151 w153 H locs hp152 hw => ?_)
      obtain ⟨hT, k154, hg157⟩ := hp152
      have hF := hF.tr k154 (by decide)
      have c158 := k154.gi kM_at0 (by decide) c122
      have c159 := k154.gi kM_at0 (by decide) c124
      obtain ⟨rfl, ⟨x155, c156, rx155, tx155⟩⟩ := hg157
      exact tk_zret hC hr rfl hlocks hK ⟨hT, hF, (Or.inl ⟨rfl, ⟨x121, c158, (show 1 ≤ x121.toInt by omega), (show x121.toInt ≤ 400 by omega)⟩, ⟨x155, c156, (show 1 ≤ x155.toInt by omega), (show x155.toInt ≤ 3205 by omega)⟩⟩)⟩ hw dX12_numberHere_25
    · have ex146 : x146.toInt = x121.toInt := by rw [← c122.symm.trans c147]
      refine lv_if_ne (tgt := 26) hx hb dX12_numberHere_13 (by decide) (fun _ => ?_) (fun c => absurd c (by decide))
      refine lv_aload_n hx hb dX12_numberHere_26 rfl (lv_at hl 0 rfl) ?_
      refine tk_geti hC hK hw hT hinX12 kM_at0 (by decide) rfl 14 (by decide) (List.mem_of_getElem? (i := 1) rfl) rfl rfl dX12_numberHere_27 (fun x160 c161 rx160 tx160 => ?_)
      refine wk_top x123 (c161.symm.trans c124) ?_
      refine lv_istore_n (lv' := [(3, .int x123), (0, .ref (ad 0)), (1, .int 0), (2, .int a2)]) hx hb dX12_numberHere_30 rfl hl (by decide) rfl (fun ls hl => ?_)
      refine lv_iconst (v := 0) hx hb dX12_numberHere_31 (by decide) ?_
      refine lv_istore (lv' := [(4, .int 0), (3, .int x123), (0, .ref (ad 0)), (1, .int 0), (2, .int a2)]) hx hb dX12_numberHere_32 hl (by decide) rfl (fun ls hl => ?_)
      exact L34 ((400 - x123.toInt).toNat + 1) x123 0 x121 x123 H locs ls w117 (show (-1) ≤ a2.toInt by omega) (show a2.toInt ≤ 11 by omega) (show 0 ≤ x123.toInt by omega) (show x123.toInt ≤ 399 by omega) (show 1 ≤ x121.toInt by omega) (show x121.toInt ≤ 400 by omega) (show 0 ≤ x123.toInt by omega) (show x123.toInt ≤ 400 by omega) (Nat.lt_succ_self _) hw hT hF c122 c124 (lv_sub hl [2, 3, 4, 1, 0] rfl)
  · have g131 : (x129.toInt = x113.toInt ∨ (gi w0 1 (x113.toInt).toNat).toInt = 32) := by have q := g131; simp only [c114, c130] at q; omega
    refine lv_pop hx hb dX12_numberHere_4 rfl ?_
    refine lv_aload_n hx hb dX12_numberHere_5 rfl (lv_at hl 0 rfl) ?_
    refine lv_aload_n hx hb dX12_numberHere_6 rfl (lv_at hl 0 rfl) ?_
    refine tk_geti hC hK hw hT hinX12 kM_at0 (by decide) rfl 14 (by decide) (List.mem_of_getElem? (i := 1) rfl) rfl rfl dX12_numberHere_7 (fun x162 c163 rx162 tx162 => ?_)
    refine wk_top x129 (c163.symm.trans c130) ?_
    refine tk_Vi hC hK hw hT hA hE hSR kM_at0 (by decide) rfl (k_X12_isDigit_3 l adK adV dC dI cy ad B (by omega) (by omega) qr s1   x129 (show 1 ≤ x129.toInt by omega) (show x129.toInt ≤ 399 by omega) w117 H.size hT ) (cwV 1 hC.2.2.2.2 gX12_numberHere_X12_isDigit rfl rfl rfl (by decide +kernel) ⟨Nat.le_of_ble_eq_true rfl, Nat.le_of_ble_eq_true rfl⟩) rfl hl.1 rfl (Nat.le_of_ble_eq_true rfl) dX12_numberHere_10 (fun r164 w166 H locs hp165 hw => ?_)
    obtain ⟨rfl, hg172⟩ := hp165
    rcases hg172 with ⟨rfl, ⟨x168, c169, rx168, tx168⟩⟩ | ⟨rfl, ⟨x170, c171, rx170, tx170⟩⟩
    · have ex168 : x168.toInt = x127.toInt := by rw [← c128.symm.trans c169]
      refine lv_if_ne (tgt := 26) hx hb dX12_numberHere_13 (by decide) (fun c => absurd (by decide) c) (fun _ => ?_)
      refine lv_aload_n hx hb dX12_numberHere_16 rfl (lv_at hl 0 rfl) ?_
      refine lv_iconst (v := 0) hx hb dX12_numberHere_17 (by decide) ?_
      refine lv_aload_n hx hb dX12_numberHere_18 rfl (lv_at hl 0 rfl) ?_
      refine tk_geti hC hK hw hT hinX12 kM_at0 (by decide) rfl 14 (by decide) (List.mem_of_getElem? (i := 1) rfl) rfl rfl dX12_numberHere_19 (fun x173 c174 rx173 tx173 => ?_)
      refine wk_top x129 (c174.symm.trans c130) ?_
      refine tk_Vi hC hK hw hT hA hE hSR kM_at0 (by decide) rfl (k_X12_fails_1 l adK adV dC dI cy ad B (by omega) (by omega) qr s1   0 (by decide) (by decide) x129 (show 0 ≤ x129.toInt by omega) (show x129.toInt ≤ 400 by omega) w117 H.size hT ) (cwV 2 hC.2.2.2.2 gX12_numberHere_X12_fails rfl rfl rfl (by decide +kernel) ⟨Nat.le_of_ble_eq_true rfl, Nat.le_of_ble_eq_true rfl⟩) rfl hl.1 rfl (Nat.le_of_ble_eq_true rfl) dX12_numberHere_22 (fun r175 w177 H locs hp176 hw => ?_)
      obtain ⟨hT, k178, hg181⟩ := hp176
      have hF := hF.tr k178 (by decide)
      have c182 := k178.gi kM_at0 (by decide) c128
      have c183 := k178.gi kM_at0 (by decide) c130
      obtain ⟨rfl, ⟨x179, c180, rx179, tx179⟩⟩ := hg181
      exact tk_zret hC hr rfl hlocks hK ⟨hT, hF, (Or.inl ⟨rfl, ⟨x127, c182, (show 1 ≤ x127.toInt by omega), (show x127.toInt ≤ 400 by omega)⟩, ⟨x179, c180, (show 1 ≤ x179.toInt by omega), (show x179.toInt ≤ 3205 by omega)⟩⟩)⟩ hw dX12_numberHere_25
    · have ex170 : x170.toInt = x127.toInt := by rw [← c128.symm.trans c171]
      refine lv_if_ne (tgt := 26) hx hb dX12_numberHere_13 (by decide) (fun _ => ?_) (fun c => absurd c (by decide))
      refine lv_aload_n hx hb dX12_numberHere_26 rfl (lv_at hl 0 rfl) ?_
      refine tk_geti hC hK hw hT hinX12 kM_at0 (by decide) rfl 14 (by decide) (List.mem_of_getElem? (i := 1) rfl) rfl rfl dX12_numberHere_27 (fun x184 c185 rx184 tx184 => ?_)
      refine wk_top x129 (c185.symm.trans c130) ?_
      refine lv_istore_n (lv' := [(3, .int x129), (0, .ref (ad 0)), (1, .int 0), (2, .int a2)]) hx hb dX12_numberHere_30 rfl hl (by decide) rfl (fun ls hl => ?_)
      refine lv_iconst (v := 0) hx hb dX12_numberHere_31 (by decide) ?_
      refine lv_istore (lv' := [(4, .int 0), (3, .int x129), (0, .ref (ad 0)), (1, .int 0), (2, .int a2)]) hx hb dX12_numberHere_32 hl (by decide) rfl (fun ls hl => ?_)
      exact L34 ((400 - x129.toInt).toNat + 1) x129 0 x127 x129 H locs ls w117 (show (-1) ≤ a2.toInt by omega) (show a2.toInt ≤ 11 by omega) (show 0 ≤ x129.toInt by omega) (show x129.toInt ≤ 399 by omega) (show 1 ≤ x127.toInt by omega) (show x127.toInt ≤ 400 by omega) (show 0 ≤ x129.toInt by omega) (show x129.toInt ≤ 400 by omega) (Nat.lt_succ_self _) hw hT hF c128 c130 (lv_sub hl [2, 3, 4, 1, 0] rfl)
  · obtain ⟨x136, c137, rx136, tx136⟩ := hT.rdi (lo := 0) (hi := 400) (k := 14) kM_at0 (by decide) rfl
    have g134 : (x136.toInt = x113.toInt ∨ (gi w0 1 (x113.toInt).toNat).toInt = 32) := by have q := g134; simp only [c114, c137] at q; omega
    refine lv_pop hx hb dX12_numberHere_4 rfl ?_
    refine lv_aload_n hx hb dX12_numberHere_5 rfl (lv_at hl 0 rfl) ?_
    refine lv_aload_n hx hb dX12_numberHere_6 rfl (lv_at hl 0 rfl) ?_
    refine tk_geti hC hK hw hT hinX12 kM_at0 (by decide) rfl 14 (by decide) (List.mem_of_getElem? (i := 1) rfl) rfl rfl dX12_numberHere_7 (fun x186 c187 rx186 tx186 => ?_)
    refine wk_top x136 (c187.symm.trans c137) ?_
    refine tk_Vi hC hK hw hT hA hE hSR kM_at0 (by decide) rfl (k_X12_isDigit_2 l adK adV dC dI cy ad B (by omega) (by omega) qr s1   x136 (show 0 ≤ x136.toInt by omega) (show x136.toInt ≤ 400 by omega) w117 H.size hT ) (cwV 1 hC.2.2.2.2 gX12_numberHere_X12_isDigit rfl rfl rfl (by decide +kernel) ⟨Nat.le_of_ble_eq_true rfl, Nat.le_of_ble_eq_true rfl⟩) rfl hl.1 rfl (Nat.le_of_ble_eq_true rfl) dX12_numberHere_10 (fun r188 w190 H locs hp189 hw => ?_)
    obtain ⟨rfl, hg197⟩ := hp189
    rcases hg197 with ⟨rfl, ⟨x192, c193, rx192, tx192⟩⟩ | ⟨rfl, g194, ⟨x195, c196, rx195, tx195⟩⟩
    · have ex192 : x192.toInt = x132.toInt := by rw [← c133.symm.trans c193]
      refine lv_if_ne (tgt := 26) hx hb dX12_numberHere_13 (by decide) (fun c => absurd (by decide) c) (fun _ => ?_)
      refine lv_aload_n hx hb dX12_numberHere_16 rfl (lv_at hl 0 rfl) ?_
      refine lv_iconst (v := 0) hx hb dX12_numberHere_17 (by decide) ?_
      refine lv_aload_n hx hb dX12_numberHere_18 rfl (lv_at hl 0 rfl) ?_
      refine tk_geti hC hK hw hT hinX12 kM_at0 (by decide) rfl 14 (by decide) (List.mem_of_getElem? (i := 1) rfl) rfl rfl dX12_numberHere_19 (fun x198 c199 rx198 tx198 => ?_)
      refine wk_top x136 (c199.symm.trans c137) ?_
      refine tk_Vi hC hK hw hT hA hE hSR kM_at0 (by decide) rfl (k_X12_fails_1 l adK adV dC dI cy ad B (by omega) (by omega) qr s1   0 (by decide) (by decide) x136 (show 0 ≤ x136.toInt by omega) (show x136.toInt ≤ 400 by omega) w117 H.size hT ) (cwV 2 hC.2.2.2.2 gX12_numberHere_X12_fails rfl rfl rfl (by decide +kernel) ⟨Nat.le_of_ble_eq_true rfl, Nat.le_of_ble_eq_true rfl⟩) rfl hl.1 rfl (Nat.le_of_ble_eq_true rfl) dX12_numberHere_22 (fun r200 w202 H locs hp201 hw => ?_)
      obtain ⟨hT, k203, hg206⟩ := hp201
      have hF := hF.tr k203 (by decide)
      have c207 := k203.gi kM_at0 (by decide) c133
      have c208 := k203.gi kM_at0 (by decide) c137
      obtain ⟨rfl, ⟨x204, c205, rx204, tx204⟩⟩ := hg206
      exact tk_zret hC hr rfl hlocks hK ⟨hT, hF, (Or.inr (Or.inl ⟨rfl, ⟨x132, c207, (show 0 ≤ x132.toInt by omega), (show x132.toInt ≤ 400 by omega)⟩, ⟨x204, c205, (show 1 ≤ x204.toInt by omega), (show x204.toInt ≤ 3205 by omega)⟩⟩))⟩ hw dX12_numberHere_25
    · have ex195 : x195.toInt = x132.toInt := by rw [← c133.symm.trans c196]
      refine lv_if_ne (tgt := 26) hx hb dX12_numberHere_13 (by decide) (fun _ => ?_) (fun c => absurd c (by decide))
      refine lv_aload_n hx hb dX12_numberHere_26 rfl (lv_at hl 0 rfl) ?_
      refine tk_geti hC hK hw hT hinX12 kM_at0 (by decide) rfl 14 (by decide) (List.mem_of_getElem? (i := 1) rfl) rfl rfl dX12_numberHere_27 (fun x209 c210 rx209 tx209 => ?_)
      refine wk_top x136 (c210.symm.trans c137) ?_
      refine lv_istore_n (lv' := [(3, .int x136), (0, .ref (ad 0)), (1, .int 0), (2, .int a2)]) hx hb dX12_numberHere_30 rfl hl (by decide) rfl (fun ls hl => ?_)
      refine lv_iconst (v := 0) hx hb dX12_numberHere_31 (by decide) ?_
      refine lv_istore (lv' := [(4, .int 0), (3, .int x136), (0, .ref (ad 0)), (1, .int 0), (2, .int a2)]) hx hb dX12_numberHere_32 hl (by decide) rfl (fun ls hl => ?_)
      exact L34 ((400 - x136.toInt).toNat + 1) x136 0 x132 x136 H locs ls w117 (show (-1) ≤ a2.toInt by omega) (show a2.toInt ≤ 11 by omega) (show 0 ≤ x136.toInt by omega) (show x136.toInt ≤ 399 by omega) (show 1 ≤ x132.toInt by omega) (show x132.toInt ≤ 400 by omega) (show 0 ≤ x136.toInt by omega) (show x136.toInt ≤ 400 by omega) (Nat.lt_succ_self _) hw hT hF c133 c137 (lv_sub hl [2, 3, 4, 1, 0] rfl)
abbrev P_X12_in_3 (ad : Nat → Nat) (cy : Nat → ClassId) (B : Int) (qr : Nat) (s1 : Int) (a0 : Int64) (w0 : va_W) : Int32 → va_W → Prop := fun r u => w0 = u ∧ ((r = 0) ∨ (r = 1 ∧ 0 ≤ a0.toInt ∧ a0.toInt ≤ 23))
set_option maxHeartbeats 4000000 in
set_option maxRecDepth 100000 in
theorem k_X12_in_3 (l : Launch) (adK adV : Nat → Nat) (dC : Nat → ClassId) (dI : Nat → Nat → Nat) (cy : Nat → ClassId) (ad : Nat → Nat) (B : Int) (hB0 : 100000 ≤ B) (hB1 : B ≤ 1073741824) (qr : Nat) (s1 : Int)  (a0 : Int64) (ra0 : (-2147483648) ≤ a0.toInt) (ta0 : a0.toInt ≤ 2147483647) (w0 : va_W) (sz : Nat) (hT : TW ksM ad cy B qr 12 w0)  : Met l yX12_in wsX12_in ({ frames := 1, cells := 0, slots := 0, locals := 12 }) (va_Pc [.long a0, .long 0, .long 23] (wpreS adK adV dC dI cy sz w0)) (va_Qi (P_X12_in_3 ad cy B qr s1 a0 w0) (fun u : va_W => wpost dC dI cy (va_A w0 sz) u) (va_A w0 sz)) 0 0 (va_A w0 sz) := by
  refine Met.ofW (cc := cX12_in) (maxL := 6) (ret := (some .boolean)) (by decide) rfl ?_
  intro p e s m args below meth c s₁ Bk hml hv
  obtain ⟨rfl, ⟨hsz, hP, hK, hD0⟩, hE, hSR⟩ := hv
  have hx := Bk.exec
  have hb := Bk.bytes
  have hr := Bk.returns
  have hlocks := Bk.notSynchronized
  have hC : CallFix p m c cX12_in 6 s _ wsX12_in RX12 := ⟨hx, hb, hml, findClass_of_methodNamed Bk.named, atoms_spec (ws := wsX12_in) Bk.pre⟩
  subst hsz
  have hD := hD0.self (sz := s.heap.size)
  generalize hAe : va_A w0 s.heap.size = A at hD hE ⊢
  have hA : ∀ q : Nat, s.heap.size ≤ q → A q := fun q h => by rw [← hAe]; exact Or.inr h
  have hw : Wd dC dI A s.heap s.heap [] w0 := ⟨hP, hD, va_S.rf⟩
  have hF : FE ksM ([] : List (Nat × Nat × Nat)) w0 w0 := FE.rf
  have hl := lv_entry ([.long a0, .long 0, .long 23]) (n := 6) (Nat.le_of_ble_eq_true rfl)
  rw [lg_entry_eq]
  generalize (lg_sl ([.long a0, .long 0, .long 23]) ++ List.replicate (6 - (lg_sl ([.long a0, .long 0, .long 23])).length) Slot.unset).toArray = ls at hl ⊢
  have hl : lv_has ls 6 [(0, .long a0), (2, .long 0), (4, .long 23)] := hl
  generalize hloc : ([] : List Loc) = locs at hw ⊢
  have J17 : ∀ (H : Heap) (locs : List Loc) (ls : Array Slot), (-2147483648) ≤ a0.toInt → a0.toInt ≤ 2147483647 → Wd dC dI A s.heap H locs w0 → lv_has ls 6 [(0, .long a0), (2, .long 0), (4, .long 23)] → W p l e ({ frames := 1, cells := 0, slots := 0, locals := 12 }) s m (List.toArray [.long a0, .long 0, .long 23]) below meth c H locs 0 0 (MQ below (va_Qi (P_X12_in_3 ad cy B qr s1 a0 w0) (fun u : va_W => wpost dC dI cy A u) A) (List.toArray [.long a0, .long 0, .long 23]) s 0 0 A) (F0 m 17 ls []) := by
    intro H locs ls r1 t2 hw hl
    refine lv_iconst (v := 0) hx hb dX12_in_17 (by decide) ?_
    exact tk_zret hC hr rfl hlocks hK ⟨rfl, (Or.inl rfl)⟩ hw dX12_in_18
  refine lv_lload_n hx hb dX12_in_0 rfl (lv_at hl 0 rfl) ?_
  refine lv_lload_n hx hb dX12_in_1 rfl (lv_at hl 1 rfl) ?_
  refine W.lcmp hx hb dX12_in_2 ?_
  refine lv_if_lt (tgt := 17) hx hb dX12_in_3 (by decide) (fun c3 => ?_) (fun c3 => ?_)
  · have c3 : a0.toInt < (0 : Int) := wk_cltT c3
    exact J17  s.heap locs ls  (show (-2147483648) ≤ a0.toInt by omega) (show a0.toInt ≤ 2147483647 by omega)  hw   (lv_sub hl [0, 1, 2] rfl)
  · have c3 : (0 : Int) ≤ a0.toInt := wk_cltF c3
    refine lv_lload_n hx hb dX12_in_6 rfl (lv_at hl 0 rfl) ?_
    refine lv_lload hx hb dX12_in_7 (lv_at hl 2 rfl) ?_
    refine W.lcmp hx hb dX12_in_9 ?_
    refine lv_if_gt (tgt := 17) hx hb dX12_in_10 (by decide) (fun c4 => ?_) (fun c4 => ?_)
    · have c4 : (23 : Int) < a0.toInt := wk_cgtT c4
      exact J17  s.heap locs ls  (show (-2147483648) ≤ a0.toInt by omega) (show a0.toInt ≤ 2147483647 by omega)  hw   (lv_sub hl [0, 1, 2] rfl)
    · have c4 : a0.toInt ≤ (23 : Int) := wk_cgtF c4
      refine lv_iconst (v := 1) hx hb dX12_in_13 (by decide) ?_
      refine lv_goto (tgt := 18) hx hb dX12_in_14 (by decide) ?_
      exact tk_zret hC hr rfl hlocks hK ⟨rfl, (Or.inr ⟨rfl, (show 0 ≤ a0.toInt by omega), (show a0.toInt ≤ 23 by omega)⟩)⟩ hw dX12_in_18
abbrev P_X12_numberHere_3 (ad : Nat → Nat) (cy : Nat → ClassId) (B : Int) (qr : Nat) (s1 : Int)  (w0 : va_W) : Int32 → va_W → Prop := fun r u => TW ksM ad cy B qr 12 u ∧ FE ksM [(12, 14, 14), (12, 15, 15), (12, 16, 16)] w0 u ∧ ((r = 0 ∧ (∃ y : Int32, gi u 0 1 = y ∧ 1 ≤ y.toInt ∧ y.toInt ≤ 400) ∧ (∃ y : Int32, gi u 0 15 = y ∧ 1 ≤ y.toInt ∧ y.toInt ≤ 3205)) ∨ (r = 0 ∧ (∃ y : Int32, gi u 0 1 = y ∧ 0 ≤ y.toInt ∧ y.toInt ≤ 400) ∧ (∃ y : Int32, gi u 0 15 = y ∧ 1 ≤ y.toInt ∧ y.toInt ≤ 3205)) ∨ (r = 1 ∧ (∃ y : Int32, gi u 0 1 = y ∧ 1 ≤ y.toInt ∧ y.toInt ≤ 400) ∧ (∃ y : Int32, gi u 0 16 = y ∧ 0 ≤ y.toInt ∧ y.toInt ≤ 23)))
set_option maxHeartbeats 4000000 in
set_option maxRecDepth 100000 in
theorem k_X12_numberHere_3 (l : Launch) (adK adV : Nat → Nat) (dC : Nat → ClassId) (dI : Nat → Nat → Nat) (cy : Nat → ClassId) (ad : Nat → Nat) (B : Int) (hB0 : 100000 ≤ B) (hB1 : B ≤ 1073741824) (qr : Nat) (s1 : Int)   (w0 : va_W) (sz : Nat) (hT : TW ksM ad cy B qr 12 w0)  : Met l yX12_numberHere wsX12_numberHere ({ frames := 2, cells := 0, slots := 0, locals := 37 }) (va_Pc [.ref (ad 0), .int 0, .int 23] (wpreS adK adV dC dI cy sz w0)) (va_Qi (P_X12_numberHere_3 ad cy B qr s1  w0) (fun u : va_W => wpost dC dI cy (va_A w0 sz) u) (va_A w0 sz)) 0 0 (va_A w0 sz) := by
  refine Met.ofW (cc := cX12_numberHere) (maxL := 5) (ret := (some .boolean)) (by decide) rfl ?_
  intro p e s m args below meth c s₁ Bk hml hv
  obtain ⟨rfl, ⟨hsz, hP, hK, hD0⟩, hE, hSR⟩ := hv
  have hx := Bk.exec
  have hb := Bk.bytes
  have hr := Bk.returns
  have hlocks := Bk.notSynchronized
  have hC : CallFix p m c cX12_numberHere 5 s _ wsX12_numberHere RX12 := ⟨hx, hb, hml, findClass_of_methodNamed Bk.named, atoms_spec (ws := wsX12_numberHere) Bk.pre⟩
  subst hsz
  have hD := hD0.self (sz := s.heap.size)
  generalize hAe : va_A w0 s.heap.size = A at hD hE ⊢
  have hA : ∀ q : Nat, s.heap.size ≤ q → A q := fun q h => by rw [← hAe]; exact Or.inr h
  have hw : Wd dC dI A s.heap s.heap [] w0 := ⟨hP, hD, va_S.rf⟩
  have hF : FE ksM [(12, 14, 14), (12, 15, 15), (12, 16, 16)] w0 w0 := FE.rf
  have hl := lv_entry ([.ref (ad 0), .int 0, .int 23]) (n := 5) (Nat.le_of_ble_eq_true rfl)
  rw [lg_entry_eq]
  generalize (lg_sl ([.ref (ad 0), .int 0, .int 23]) ++ List.replicate (5 - (lg_sl ([.ref (ad 0), .int 0, .int 23])).length) Slot.unset).toArray = ls at hl ⊢
  have hl : lv_has ls 5 [(0, .ref (ad 0)), (1, .int 0), (2, .int 23)] := hl
  generalize hloc : ([] : List Loc) = locs at hw ⊢
  have hinX12 : ∀ w ∈ u_ws RX12 TX12 42, w ∈ wsX12_numberHere := fun _ h => List.mem_cons_of_mem _ (List.mem_append_right _ (h))
  have J126 : ∀ (v126_3 : Int32) (v126_4 : Int32) (f126_0_1 : Int32) (f126_0_14 : Int32) (f126_0_16 : Int32) (H : Heap) (locs : List Loc) (ls : Array Slot) (w1 : va_W), 0 ≤ v126_3.toInt → v126_3.toInt ≤ 399 → 0 ≤ v126_4.toInt → v126_4.toInt ≤ 23 → 1 ≤ f126_0_1.toInt → f126_0_1.toInt ≤ 400 → 0 ≤ f126_0_14.toInt → f126_0_14.toInt ≤ 400 → 0 ≤ f126_0_16.toInt → f126_0_16.toInt ≤ 23 → Wd dC dI A s.heap H locs w1 → TW ksM ad cy B qr 12 w1 → FE ksM [(12, 14, 14), (12, 15, 15), (12, 16, 16)] w0 w1 → gi w1 0 1 = f126_0_1 → gi w1 0 14 = f126_0_14 → gi w1 0 16 = f126_0_16 → lv_has ls 5 [(0, .ref (ad 0)), (1, .int 0), (2, .int 23), (3, .int v126_3), (4, .int v126_4)] → W p l e ({ frames := 2, cells := 0, slots := 0, locals := 37 }) s m (List.toArray [.ref (ad 0), .int 0, .int 23]) below meth c H locs 0 0 (MQ below (va_Qi (P_X12_numberHere_3 ad cy B qr s1  w0) (fun u : va_W => wpost dC dI cy A u) A) (List.toArray [.ref (ad 0), .int 0, .int 23]) s 0 0 A) (F0 m 126 ls []) := by
    intro v126_3 v126_4 f126_0_1 f126_0_14 f126_0_16 H locs ls w1 r2 t3 r4 t5 r6 t7 r9 t10 r12 t13 hw hT hF c8 c11 c14 hl
    refine lv_iconst (v := 1) hx hb dX12_numberHere_126 (by decide) ?_
    refine lv_goto (tgt := 131) hx hb dX12_numberHere_127 (by decide) ?_
    exact tk_zret hC hr rfl hlocks hK ⟨hT, hF, (Or.inr (Or.inr ⟨rfl, ⟨f126_0_1, c8, (show 1 ≤ f126_0_1.toInt by omega), (show f126_0_1.toInt ≤ 400 by omega)⟩, ⟨f126_0_16, c14, (show 0 ≤ f126_0_16.toInt by omega), (show f126_0_16.toInt ≤ 23 by omega)⟩⟩))⟩ hw dX12_numberHere_131
  have J117 : ∀ (v117_3 : Int32) (v117_4 : Int32) (f117_0_1 : Int32) (f117_0_14 : Int32) (f117_0_16 : Int32) (H : Heap) (locs : List Loc) (ls : Array Slot) (w15 : va_W), 0 ≤ v117_3.toInt → v117_3.toInt ≤ 399 → 1 ≤ f117_0_1.toInt → f117_0_1.toInt ≤ 400 → 0 ≤ f117_0_14.toInt → f117_0_14.toInt ≤ 400 → Wd dC dI A s.heap H locs w15 → TW ksM ad cy B qr 12 w15 → FE ksM [(12, 14, 14), (12, 15, 15), (12, 16, 16)] w0 w15 → gi w15 0 1 = f117_0_1 → gi w15 0 14 = f117_0_14 → gi w15 0 16 = f117_0_16 → lv_has ls 5 [(0, .ref (ad 0)), (1, .int 0), (2, .int 23), (3, .int v117_3), (4, .int v117_4)] → W p l e ({ frames := 2, cells := 0, slots := 0, locals := 37 }) s m (List.toArray [.ref (ad 0), .int 0, .int 23]) below meth c H locs 0 0 (MQ below (va_Qi (P_X12_numberHere_3 ad cy B qr s1  w0) (fun u : va_W => wpost dC dI cy A u) A) (List.toArray [.ref (ad 0), .int 0, .int 23]) s 0 0 A) (F0 m 117 ls []) := by
    intro v117_3 v117_4 f117_0_1 f117_0_14 f117_0_16 H locs ls w15 r16 t17 r18 t19 r21 t22 hw hT hF c20 c23 c24 hl
    refine lv_aload_n hx hb dX12_numberHere_117 rfl (lv_at hl 0 rfl) ?_
    refine lv_iconst (v := 1) hx hb dX12_numberHere_118 (by decide) ?_
    refine lv_iload_n hx hb dX12_numberHere_119 rfl (lv_at hl 3 rfl) ?_
    refine tk_Vi hC hK hw hT hA hE hSR kM_at0 (by decide) rfl (k_X12_fails_1 l adK adV dC dI cy ad B (by omega) (by omega) qr s1   1 (by decide) (by decide) v117_3 (show 0 ≤ v117_3.toInt by omega) (show v117_3.toInt ≤ 400 by omega) w15 H.size hT ) (cwV 2 hC.2.2.2.2 gX12_numberHere_X12_fails rfl rfl rfl (by decide +kernel) ⟨Nat.le_of_ble_eq_true rfl, Nat.le_of_ble_eq_true rfl⟩) rfl hl.1 rfl (Nat.le_of_ble_eq_true rfl) dX12_numberHere_120 (fun r25 w27 H locs hp26 hw => ?_)
    obtain ⟨hT, k28, hg31⟩ := hp26
    have hF := hF.tr k28 (by decide)
    have c32 := k28.gi kM_at0 (by decide) c20
    have c33 := k28.gi kM_at0 (by decide) c23
    have c34 := k28.gi kM_at0 (by decide) c24
    obtain ⟨rfl, ⟨x29, c30, rx29, tx29⟩⟩ := hg31
    refine lv_if_eq (tgt := 130) hx hb dX12_numberHere_123 (by decide) (fun _ => ?_) (fun c => absurd (by decide) c)
    refine lv_iconst (v := 0) hx hb dX12_numberHere_130 (by decide) ?_
    exact tk_zret hC hr rfl hlocks hK ⟨hT, hF, (Or.inl ⟨rfl, ⟨f117_0_1, c32, (show 1 ≤ f117_0_1.toInt by omega), (show f117_0_1.toInt ≤ 400 by omega)⟩, ⟨x29, c30, (show 1 ≤ x29.toInt by omega), (show x29.toInt ≤ 3205 by omega)⟩⟩)⟩ hw dX12_numberHere_131
  have L34 : ∀ (n34 : Nat) (v34_3 : Int32) (v34_4 : Int32) (f34_0_1 : Int32) (f34_0_14 : Int32) (H : Heap) (locs : List Loc) (ls : Array Slot) (w35 : va_W), 0 ≤ v34_3.toInt → v34_3.toInt ≤ 399 → 1 ≤ f34_0_1.toInt → f34_0_1.toInt ≤ 400 → 0 ≤ f34_0_14.toInt → f34_0_14.toInt ≤ 400 → (400 - f34_0_14.toInt).toNat < n34 → Wd dC dI A s.heap H locs w35 → TW ksM ad cy B qr 12 w35 → FE ksM [(12, 14, 14), (12, 15, 15), (12, 16, 16)] w0 w35 → gi w35 0 1 = f34_0_1 → gi w35 0 14 = f34_0_14 → lv_has ls 5 [(0, .ref (ad 0)), (1, .int 0), (2, .int 23), (3, .int v34_3), (4, .int v34_4)] → W p l e ({ frames := 2, cells := 0, slots := 0, locals := 37 }) s m (List.toArray [.ref (ad 0), .int 0, .int 23]) below meth c H locs 0 0 (MQ below (va_Qi (P_X12_numberHere_3 ad cy B qr s1  w0) (fun u : va_W => wpost dC dI cy A u) A) (List.toArray [.ref (ad 0), .int 0, .int 23]) s 0 0 A) (F0 m 34 ls []) := by
    intro n34
    induction n34 with
    | zero => intro v34_3 v34_4 f34_0_1 f34_0_14 H locs ls w35 r36 t37 r38 t39 r41 t42 hm34 hw hT hF c40 c43 hl; omega
    | succ n34 ih34 =>
      intro v34_3 v34_4 f34_0_1 f34_0_14 H locs ls w35 r36 t37 r38 t39 r41 t42 hm34 hw hT hF c40 c43 hl
      have J75 : ∀ (v75_4 : Int32) (H : Heap) (locs : List Loc) (ls : Array Slot) (w44 : va_W), 0 ≤ v34_3.toInt → v34_3.toInt ≤ 399 → 1 ≤ f34_0_1.toInt → f34_0_1.toInt ≤ 400 → 0 ≤ f34_0_14.toInt → f34_0_14.toInt ≤ 399 → Wd dC dI A s.heap H locs w44 → TW ksM ad cy B qr 12 w44 → FE ksM [(12, 14, 14), (12, 15, 15), (12, 16, 16)] w0 w44 → gi w44 0 1 = f34_0_1 → gi w44 0 14 = f34_0_14 → lv_has ls 5 [(0, .ref (ad 0)), (1, .int 0), (2, .int 23), (3, .int v34_3), (4, .int v75_4)] → W p l e ({ frames := 2, cells := 0, slots := 0, locals := 37 }) s m (List.toArray [.ref (ad 0), .int 0, .int 23]) below meth c H locs 0 0 (MQ below (va_Qi (P_X12_numberHere_3 ad cy B qr s1  w0) (fun u : va_W => wpost dC dI cy A u) A) (List.toArray [.ref (ad 0), .int 0, .int 23]) s 0 0 A) (F0 m 75 ls []) := by
        intro v75_4 H locs ls w44 r45 t46 r47 t48 r50 t51 hw hT hF c49 c52 hl
        refine lv_aload_n hx hb dX12_numberHere_75 rfl (lv_at hl 0 rfl) ?_
        refine lv_dup hx hb dX12_numberHere_76 rfl ?_
        refine tk_geti hC hK hw hT hinX12 kM_at0 (by decide) rfl 14 (by decide) (List.mem_of_getElem? (i := 1) rfl) rfl rfl dX12_numberHere_77 (fun x53 c54 rx53 tx53 => ?_)
        refine wk_top f34_0_14 (c54.symm.trans c52) ?_
        refine lv_iconst (v := 1) hx hb dX12_numberHere_80 (by decide) ?_
        refine lv_iadd hx hb dX12_numberHere_81 ?_
        refine lv_topi (fun x55 ex55 => ?_)
        have ex55 : x55.toInt = f34_0_14.toInt + (1 : Int) := by rw [ex55]; exact wk_add (show (-2147483648) ≤ f34_0_14.toInt + (1 : Int) by omega) (show f34_0_14.toInt + (1 : Int) ≤ 2147483647 by omega)
        refine tk_puti hC hK hw hT hinX12 tyX12_ok nmX12 kM_at0 (by decide) rfl rfl 14 (by decide) (List.mem_of_getElem? (i := 1) rfl) rfl rfl rfl rfl (show 0 ≤ x55.toInt by omega) (show x55.toInt ≤ 400 by omega) dX12_numberHere_82 (fun H locs w56 hw hT k58 c57 => ?_)
        have hF := hF.put kM_at0 (k := 14) (by decide) k58
        have c59 := k58.gi (Or.inr (by decide)) c49
        refine lv_goto (tgt := 34) hx hb dX12_numberHere_85 (by decide) ?_
        exact ih34 v34_3 v75_4 f34_0_1 x55 H locs ls w56 (show 0 ≤ v34_3.toInt by omega) (show v34_3.toInt ≤ 399 by omega) (show 1 ≤ f34_0_1.toInt by omega) (show f34_0_1.toInt ≤ 400 by omega) (show 0 ≤ x55.toInt by omega) (show x55.toInt ≤ 400 by omega) (show (400 - x55.toInt).toNat < n34 by omega) hw hT hF c59 c57 (lv_sub hl [0, 1, 2, 3, 4] rfl)
      refine lv_aload_n hx hb dX12_numberHere_34 rfl (lv_at hl 0 rfl) ?_
      refine lv_aload_n hx hb dX12_numberHere_35 rfl (lv_at hl 0 rfl) ?_
      refine tk_geti hC hK hw hT hinX12 kM_at0 (by decide) rfl 14 (by decide) (List.mem_of_getElem? (i := 1) rfl) rfl rfl dX12_numberHere_36 (fun x60 c61 rx60 tx60 => ?_)
      refine wk_top f34_0_14 (c61.symm.trans c43) ?_
      refine tk_Vi hC hK hw hT hA hE hSR kM_at0 (by decide) rfl (k_X12_isDigit_2 l adK adV dC dI cy ad B (by omega) (by omega) qr s1   f34_0_14 (show 0 ≤ f34_0_14.toInt by omega) (show f34_0_14.toInt ≤ 400 by omega) w35 H.size hT ) (cwV 1 hC.2.2.2.2 gX12_numberHere_X12_isDigit rfl rfl rfl (by decide +kernel) ⟨Nat.le_of_ble_eq_true rfl, Nat.le_of_ble_eq_true rfl⟩) rfl hl.1 rfl (Nat.le_of_ble_eq_true rfl) dX12_numberHere_39 (fun r62 w64 H locs hp63 hw => ?_)
      obtain ⟨rfl, hg71⟩ := hp63
      rcases hg71 with ⟨rfl, ⟨x66, c67, rx66, tx66⟩⟩ | ⟨rfl, g68, ⟨x69, c70, rx69, tx69⟩⟩
      · have ex66 : x66.toInt = f34_0_1.toInt := by rw [← c40.symm.trans c67]
        refine lv_if_eq (tgt := 88) hx hb dX12_numberHere_42 (by decide) (fun _ => ?_) (fun c => absurd (by decide) c)
        refine lv_aload_n hx hb dX12_numberHere_88 rfl (lv_at hl 0 rfl) ?_
        refine lv_iload hx hb dX12_numberHere_89 (lv_at hl 4 rfl) ?_
        refine tk_puti hC hK hw hT hinX12 tyX12_ok nmX12 kM_at0 (by decide) rfl rfl 16 (by decide) (List.mem_of_getElem? (i := 3) rfl) rfl rfl rfl rfl (wk_i32 v34_4).1 (wk_i32 v34_4).2 dX12_numberHere_91 (fun H locs w72 hw hT k74 c73 => ?_)
        have hF := hF.put kM_at0 (k := 16) (by decide) k74
        have c75 := k74.gi (Or.inr (by decide)) c40
        have c76 := k74.gi (Or.inr (by decide)) c43
        refine lv_aload_n hx hb dX12_numberHere_94 rfl (lv_at hl 0 rfl) ?_
        refine tk_geti hC hK hw hT hinX12 kM_at0 (by decide) rfl 14 (by decide) (List.mem_of_getElem? (i := 1) rfl) rfl rfl dX12_numberHere_95 (fun x77 c78 rx77 tx77 => ?_)
        refine wk_top f34_0_14 (c78.symm.trans c76) ?_
        refine lv_iload_n hx hb dX12_numberHere_98 rfl (lv_at hl 3 rfl) ?_
        refine lv_isub hx hb dX12_numberHere_99 ?_
        refine lv_topi (fun x79 ex79 => ?_)
        have ex79 : x79.toInt = f34_0_14.toInt - v34_3.toInt := by rw [ex79]; exact wk_sub (show (-2147483648) ≤ f34_0_14.toInt - v34_3.toInt by omega) (show f34_0_14.toInt - v34_3.toInt ≤ 2147483647 by omega)
        refine lv_iconst (v := 5) hx hb dX12_numberHere_100 (by decide) ?_
        refine lv_icmp_gt (tgt := 117) hx hb dX12_numberHere_101 (by decide) (fun c80 => ?_) (fun c80 => ?_)
        · have c80 : (5 : Int) < x79.toInt := wk_lt.mp c80
          exact J117 v34_3 v34_4 f34_0_1 f34_0_14 v34_4 H locs ls w72 (show 0 ≤ v34_3.toInt by omega) (show v34_3.toInt ≤ 399 by omega) (show 1 ≤ f34_0_1.toInt by omega) (show f34_0_1.toInt ≤ 400 by omega) (show 0 ≤ f34_0_14.toInt by omega) (show f34_0_14.toInt ≤ 400 by omega)  hw hT hF c75 c76 c73 (lv_sub hl [0, 1, 2, 3, 4] rfl)
        · have c80 : x79.toInt ≤ (5 : Int) := wk_ltF c80
          refine lv_iload hx hb dX12_numberHere_104 (lv_at hl 4 rfl) ?_
          refine lv_i2l hx hb dX12_numberHere_106 rfl ?_
          refine lv_topl (fun x81 ex81 => ?_)
          have ex81 : x81.toInt = v34_4.toInt := by rw [ex81]; exact wk_i2l _
          have bx81 := wk_i32 v34_4
          refine lv_iload_n hx hb dX12_numberHere_107 rfl (lv_at hl 1 rfl) ?_
          refine lv_i2l hx hb dX12_numberHere_108 rfl ?_
          refine wk_topl 0 (by decide) ?_
          refine lv_iload_n hx hb dX12_numberHere_109 rfl (lv_at hl 2 rfl) ?_
          refine lv_i2l hx hb dX12_numberHere_110 rfl ?_
          refine wk_topl 23 (by decide) ?_
          refine tk_Si hC hK hw hT hA hE hSR (k_X12_in_3 l adK adV dC dI cy ad B (by omega) (by omega) qr s1   x81 (show (-2147483648) ≤ x81.toInt by omega) (show x81.toInt ≤ 2147483647 by omega) w72 H.size hT ) (va_cwS 3 hC.2.2.2.2 gX12_numberHere_X12_in rfl rfl rfl (by decide +kernel) ⟨Nat.le_of_ble_eq_true rfl, Nat.le_of_ble_eq_true rfl⟩) rfl hl.1 rfl (Nat.le_of_ble_eq_true rfl) dX12_numberHere_111 (fun r82 w84 H locs hp83 hw => ?_)
          obtain ⟨rfl, hg88⟩ := hp83
          rcases hg88 with rfl | ⟨rfl, g86, g87⟩
          · refine lv_if_ne (tgt := 126) hx hb dX12_numberHere_114 (by decide) (fun c => absurd (by decide) c) (fun _ => ?_)
            exact J117 v34_3 v34_4 f34_0_1 f34_0_14 v34_4 H locs ls w72 (show 0 ≤ v34_3.toInt by omega) (show v34_3.toInt ≤ 399 by omega) (show 1 ≤ f34_0_1.toInt by omega) (show f34_0_1.toInt ≤ 400 by omega) (show 0 ≤ f34_0_14.toInt by omega) (show f34_0_14.toInt ≤ 400 by omega)  hw hT hF c75 c76 c73 (lv_sub hl [0, 1, 2, 3, 4] rfl)
          · refine lv_if_ne (tgt := 126) hx hb dX12_numberHere_114 (by decide) (fun _ => ?_) (fun c => absurd c (by decide))
            exact J126 v34_3 v34_4 f34_0_1 f34_0_14 v34_4 H locs ls w72 (show 0 ≤ v34_3.toInt by omega) (show v34_3.toInt ≤ 399 by omega) (show 0 ≤ v34_4.toInt by omega) (show v34_4.toInt ≤ 23 by omega) (show 1 ≤ f34_0_1.toInt by omega) (show f34_0_1.toInt ≤ 400 by omega) (show 0 ≤ f34_0_14.toInt by omega) (show f34_0_14.toInt ≤ 400 by omega) (show 0 ≤ v34_4.toInt by omega) (show v34_4.toInt ≤ 23 by omega)  hw hT hF c75 c76 c73 (lv_sub hl [0, 1, 2, 3, 4] rfl)
      · have ex69 : x69.toInt = f34_0_1.toInt := by rw [← c40.symm.trans c70]
        refine lv_if_eq (tgt := 88) hx hb dX12_numberHere_42 (by decide) (fun c => absurd c (by decide)) (fun _ => ?_)
        refine lv_aload_n hx hb dX12_numberHere_45 rfl (lv_at hl 0 rfl) ?_
        refine tk_geti hC hK hw hT hinX12 kM_at0 (by decide) rfl 14 (by decide) (List.mem_of_getElem? (i := 1) rfl) rfl rfl dX12_numberHere_46 (fun x89 c90 rx89 tx89 => ?_)
        refine wk_top f34_0_14 (c90.symm.trans c43) ?_
        refine lv_iload_n hx hb dX12_numberHere_49 rfl (lv_at hl 3 rfl) ?_
        refine lv_isub hx hb dX12_numberHere_50 ?_
        refine lv_topi (fun x91 ex91 => ?_)
        have ex91 : x91.toInt = f34_0_14.toInt - v34_3.toInt := by rw [ex91]; exact wk_sub (show (-2147483648) ≤ f34_0_14.toInt - v34_3.toInt by omega) (show f34_0_14.toInt - v34_3.toInt ≤ 2147483647 by omega)
        refine lv_iconst (v := 5) hx hb dX12_numberHere_51 (by decide) ?_
        refine lv_icmp_ge (tgt := 75) hx hb dX12_numberHere_52 (by decide) (fun c92 => ?_) (fun c92 => ?_)
        · have c92 : (5 : Int) ≤ x91.toInt := wk_le.mp c92
          exact J75 v34_4 H locs ls w35 (show 0 ≤ v34_3.toInt by omega) (show v34_3.toInt ≤ 399 by omega) (show 1 ≤ f34_0_1.toInt by omega) (show f34_0_1.toInt ≤ 400 by omega) (show 0 ≤ f34_0_14.toInt by omega) (show f34_0_14.toInt ≤ 399 by omega)  hw hT hF c40 c43 (lv_sub hl [0, 1, 2, 3, 4] rfl)
        · have c92 : x91.toInt < (5 : Int) := wk_leF c92
          refine lv_bipush (v := 10) hx hb dX12_numberHere_55 (by decide) ?_
          refine lv_iload hx hb dX12_numberHere_57 (lv_at hl 4 rfl) ?_
          refine lv_imul hx hb dX12_numberHere_59 ?_
          have nx93 := wk_i32 v34_4
          refine lv_topi (fun x94 ex94 => ?_)
          refine lv_aload_n hx hb dX12_numberHere_60 rfl (lv_at hl 0 rfl) ?_
          refine tk_getA hC hK hw hT hinX12 kM_at0 (by decide) rfl 0 (by decide) (List.mem_of_getElem? (i := 2) rfl) rfl rfl dX12_numberHere_61 ?_
          refine lv_aload_n hx hb dX12_numberHere_64 rfl (lv_at hl 0 rfl) ?_
          refine tk_geti hC hK hw hT hinX12 kM_at0 (by decide) rfl 14 (by decide) (List.mem_of_getElem? (i := 1) rfl) rfl rfl dX12_numberHere_65 (fun x95 c96 rx95 tx95 => ?_)
          refine wk_top f34_0_14 (c96.symm.trans c43) ?_
          refine tk_bald hC hK hw hT kM_at1 rfl rfl (show 0 ≤ f34_0_14.toInt by omega) (show f34_0_14.toInt < 400 by omega) dX12_numberHere_68 (fun x97 c98 rx97 tx97 => ?_)
          have c98 : gi w35 1 (f34_0_14.toInt).toNat = x97 := (congrArg (gi w35 1) (congrArg Int.toNat (show f34_0_14.toInt = f34_0_14.toInt by omega))).trans c98
          refine lv_iadd hx hb dX12_numberHere_69 ?_
          have nx99 := wk_i32 x94
          refine lv_topi (fun x100 ex100 => ?_)
          refine lv_bipush (v := 48) hx hb dX12_numberHere_70 (by decide) ?_
          refine lv_isub hx hb dX12_numberHere_72 ?_
          have nx101 := wk_i32 x100
          refine lv_topi (fun x102 ex102 => ?_)
          refine lv_istore (lv' := [(4, .int x102), (0, .ref (ad 0)), (1, .int 0), (2, .int 23), (3, .int v34_3)]) hx hb dX12_numberHere_73 hl (by decide) rfl (fun ls hl => ?_)
          exact J75 x102 H locs ls w35 (show 0 ≤ v34_3.toInt by omega) (show v34_3.toInt ≤ 399 by omega) (show 1 ≤ f34_0_1.toInt by omega) (show f34_0_1.toInt ≤ 400 by omega) (show 0 ≤ f34_0_14.toInt by omega) (show f34_0_14.toInt ≤ 399 by omega)  hw hT hF c40 c43 (lv_sub hl [1, 2, 3, 4, 0] rfl)
  refine lv_aload_n hx hb dX12_numberHere_0 rfl (lv_at hl 0 rfl) ?_
  obtain ⟨x103, c104, rx103, tx103⟩ := hT.rdi (lo := 0) (hi := 400) (k := 14) kM_at0 (by decide) rfl
  refine tk_Vi hC hK hw hT hA hE hSR kM_at0 (by decide) rfl (k_X12_see_1 l adK adV dC dI cy ad B (by omega) (by omega) qr s1    w0 s.heap.size hT x103 c104 (show 0 ≤ x103.toInt by omega) (show x103.toInt ≤ 400 by omega)) (cwV 0 hC.2.2.2.2 gX12_numberHere_X12_see rfl rfl rfl (by decide +kernel) ⟨Nat.le_of_ble_eq_true rfl, Nat.le_of_ble_eq_true rfl⟩) rfl hl.1 rfl (Nat.le_of_ble_eq_true rfl) dX12_numberHere_1 (fun r105 w107 H locs hp106 hw => ?_)
  obtain ⟨hT, k108, hg125⟩ := hp106
  have hF := hF.tr k108 (by decide)
  rcases hg125 with ⟨g109, g110, ⟨x111, c112, rx111, tx111⟩, ⟨x113, c114, rx113, tx113⟩, g115, g116⟩ | ⟨rfl, ⟨x117, c118, rx117, tx117⟩, ⟨x119, c120, rx119, tx119⟩, g121⟩ | ⟨rfl, ⟨x122, c123, rx122, tx122⟩, g124⟩
  · have g115 : (gi w107 1 (x113.toInt).toNat).toInt ≠ 32 := by have q := g115; simp only [c114] at q; omega
    have g116 : (x113.toInt = x103.toInt ∨ (gi w0 1 (x103.toInt).toNat).toInt = 32) := by have q := g116; simp only [c104, c114] at q; omega
    refine lv_pop hx hb dX12_numberHere_4 rfl ?_
    refine lv_aload_n hx hb dX12_numberHere_5 rfl (lv_at hl 0 rfl) ?_
    refine lv_aload_n hx hb dX12_numberHere_6 rfl (lv_at hl 0 rfl) ?_
    refine tk_geti hC hK hw hT hinX12 kM_at0 (by decide) rfl 14 (by decide) (List.mem_of_getElem? (i := 1) rfl) rfl rfl dX12_numberHere_7 (fun x128 c129 rx128 tx128 => ?_)
    refine wk_top x113 (c129.symm.trans c114) ?_
    refine tk_Vi hC hK hw hT hA hE hSR kM_at0 (by decide) rfl (k_X12_isDigit_1 l adK adV dC dI cy ad B (by omega) (by omega) qr s1   x113 (show 0 ≤ x113.toInt by omega) (show x113.toInt ≤ 399 by omega) w107 H.size hT ) (cwV 1 hC.2.2.2.2 gX12_numberHere_X12_isDigit rfl rfl rfl (by decide +kernel) ⟨Nat.le_of_ble_eq_true rfl, Nat.le_of_ble_eq_true rfl⟩) rfl hl.1 rfl (Nat.le_of_ble_eq_true rfl) dX12_numberHere_10 (fun r130 w132 H locs hp131 hw => ?_)
    obtain ⟨rfl, hg138⟩ := hp131
    rcases hg138 with ⟨rfl, ⟨x134, c135, rx134, tx134⟩⟩ | ⟨rfl, ⟨x136, c137, rx136, tx136⟩⟩
    · have ex134 : x134.toInt = x111.toInt := by rw [← c112.symm.trans c135]
      refine lv_if_ne (tgt := 26) hx hb dX12_numberHere_13 (by decide) (fun c => absurd (by decide) c) (fun _ => ?_)
      refine lv_aload_n hx hb dX12_numberHere_16 rfl (lv_at hl 0 rfl) ?_
      refine lv_iconst (v := 0) hx hb dX12_numberHere_17 (by decide) ?_
      refine lv_aload_n hx hb dX12_numberHere_18 rfl (lv_at hl 0 rfl) ?_
      refine tk_geti hC hK hw hT hinX12 kM_at0 (by decide) rfl 14 (by decide) (List.mem_of_getElem? (i := 1) rfl) rfl rfl dX12_numberHere_19 (fun x139 c140 rx139 tx139 => ?_)
      refine wk_top x113 (c140.symm.trans c114) ?_
      refine tk_Vi hC hK hw hT hA hE hSR kM_at0 (by decide) rfl (k_X12_fails_1 l adK adV dC dI cy ad B (by omega) (by omega) qr s1   0 (by decide) (by decide) x113 (show 0 ≤ x113.toInt by omega) (show x113.toInt ≤ 400 by omega) w107 H.size hT ) (cwV 2 hC.2.2.2.2 gX12_numberHere_X12_fails rfl rfl rfl (by decide +kernel) ⟨Nat.le_of_ble_eq_true rfl, Nat.le_of_ble_eq_true rfl⟩) rfl hl.1 rfl (Nat.le_of_ble_eq_true rfl) dX12_numberHere_22 (fun r141 w143 H locs hp142 hw => ?_)
      obtain ⟨hT, k144, hg147⟩ := hp142
      have hF := hF.tr k144 (by decide)
      have c148 := k144.gi kM_at0 (by decide) c112
      have c149 := k144.gi kM_at0 (by decide) c114
      obtain ⟨rfl, ⟨x145, c146, rx145, tx145⟩⟩ := hg147
      exact tk_zret hC hr rfl hlocks hK ⟨hT, hF, (Or.inl ⟨rfl, ⟨x111, c148, (show 1 ≤ x111.toInt by omega), (show x111.toInt ≤ 400 by omega)⟩, ⟨x145, c146, (show 1 ≤ x145.toInt by omega), (show x145.toInt ≤ 3205 by omega)⟩⟩)⟩ hw dX12_numberHere_25
    · have ex136 : x136.toInt = x111.toInt := by rw [← c112.symm.trans c137]
      refine lv_if_ne (tgt := 26) hx hb dX12_numberHere_13 (by decide) (fun _ => ?_) (fun c => absurd c (by decide))
      refine lv_aload_n hx hb dX12_numberHere_26 rfl (lv_at hl 0 rfl) ?_
      refine tk_geti hC hK hw hT hinX12 kM_at0 (by decide) rfl 14 (by decide) (List.mem_of_getElem? (i := 1) rfl) rfl rfl dX12_numberHere_27 (fun x150 c151 rx150 tx150 => ?_)
      refine wk_top x113 (c151.symm.trans c114) ?_
      refine lv_istore_n (lv' := [(3, .int x113), (0, .ref (ad 0)), (1, .int 0), (2, .int 23)]) hx hb dX12_numberHere_30 rfl hl (by decide) rfl (fun ls hl => ?_)
      refine lv_iconst (v := 0) hx hb dX12_numberHere_31 (by decide) ?_
      refine lv_istore (lv' := [(4, .int 0), (3, .int x113), (0, .ref (ad 0)), (1, .int 0), (2, .int 23)]) hx hb dX12_numberHere_32 hl (by decide) rfl (fun ls hl => ?_)
      exact L34 ((400 - x113.toInt).toNat + 1) x113 0 x111 x113 H locs ls w107 (show 0 ≤ x113.toInt by omega) (show x113.toInt ≤ 399 by omega) (show 1 ≤ x111.toInt by omega) (show x111.toInt ≤ 400 by omega) (show 0 ≤ x113.toInt by omega) (show x113.toInt ≤ 400 by omega) (Nat.lt_succ_self _) hw hT hF c112 c114 (lv_sub hl [2, 3, 4, 1, 0] rfl)
  · have g121 : (x119.toInt = x103.toInt ∨ (gi w0 1 (x103.toInt).toNat).toInt = 32) := by have q := g121; simp only [c104, c120] at q; omega
    refine lv_pop hx hb dX12_numberHere_4 rfl ?_
    refine lv_aload_n hx hb dX12_numberHere_5 rfl (lv_at hl 0 rfl) ?_
    refine lv_aload_n hx hb dX12_numberHere_6 rfl (lv_at hl 0 rfl) ?_
    refine tk_geti hC hK hw hT hinX12 kM_at0 (by decide) rfl 14 (by decide) (List.mem_of_getElem? (i := 1) rfl) rfl rfl dX12_numberHere_7 (fun x152 c153 rx152 tx152 => ?_)
    refine wk_top x119 (c153.symm.trans c120) ?_
    refine tk_Vi hC hK hw hT hA hE hSR kM_at0 (by decide) rfl (k_X12_isDigit_3 l adK adV dC dI cy ad B (by omega) (by omega) qr s1   x119 (show 1 ≤ x119.toInt by omega) (show x119.toInt ≤ 399 by omega) w107 H.size hT ) (cwV 1 hC.2.2.2.2 gX12_numberHere_X12_isDigit rfl rfl rfl (by decide +kernel) ⟨Nat.le_of_ble_eq_true rfl, Nat.le_of_ble_eq_true rfl⟩) rfl hl.1 rfl (Nat.le_of_ble_eq_true rfl) dX12_numberHere_10 (fun r154 w156 H locs hp155 hw => ?_)
    obtain ⟨rfl, hg162⟩ := hp155
    rcases hg162 with ⟨rfl, ⟨x158, c159, rx158, tx158⟩⟩ | ⟨rfl, ⟨x160, c161, rx160, tx160⟩⟩
    · have ex158 : x158.toInt = x117.toInt := by rw [← c118.symm.trans c159]
      refine lv_if_ne (tgt := 26) hx hb dX12_numberHere_13 (by decide) (fun c => absurd (by decide) c) (fun _ => ?_)
      refine lv_aload_n hx hb dX12_numberHere_16 rfl (lv_at hl 0 rfl) ?_
      refine lv_iconst (v := 0) hx hb dX12_numberHere_17 (by decide) ?_
      refine lv_aload_n hx hb dX12_numberHere_18 rfl (lv_at hl 0 rfl) ?_
      refine tk_geti hC hK hw hT hinX12 kM_at0 (by decide) rfl 14 (by decide) (List.mem_of_getElem? (i := 1) rfl) rfl rfl dX12_numberHere_19 (fun x163 c164 rx163 tx163 => ?_)
      refine wk_top x119 (c164.symm.trans c120) ?_
      refine tk_Vi hC hK hw hT hA hE hSR kM_at0 (by decide) rfl (k_X12_fails_1 l adK adV dC dI cy ad B (by omega) (by omega) qr s1   0 (by decide) (by decide) x119 (show 0 ≤ x119.toInt by omega) (show x119.toInt ≤ 400 by omega) w107 H.size hT ) (cwV 2 hC.2.2.2.2 gX12_numberHere_X12_fails rfl rfl rfl (by decide +kernel) ⟨Nat.le_of_ble_eq_true rfl, Nat.le_of_ble_eq_true rfl⟩) rfl hl.1 rfl (Nat.le_of_ble_eq_true rfl) dX12_numberHere_22 (fun r165 w167 H locs hp166 hw => ?_)
      obtain ⟨hT, k168, hg171⟩ := hp166
      have hF := hF.tr k168 (by decide)
      have c172 := k168.gi kM_at0 (by decide) c118
      have c173 := k168.gi kM_at0 (by decide) c120
      obtain ⟨rfl, ⟨x169, c170, rx169, tx169⟩⟩ := hg171
      exact tk_zret hC hr rfl hlocks hK ⟨hT, hF, (Or.inl ⟨rfl, ⟨x117, c172, (show 1 ≤ x117.toInt by omega), (show x117.toInt ≤ 400 by omega)⟩, ⟨x169, c170, (show 1 ≤ x169.toInt by omega), (show x169.toInt ≤ 3205 by omega)⟩⟩)⟩ hw dX12_numberHere_25
    · have ex160 : x160.toInt = x117.toInt := by rw [← c118.symm.trans c161]
      refine lv_if_ne (tgt := 26) hx hb dX12_numberHere_13 (by decide) (fun _ => ?_) (fun c => absurd c (by decide))
      refine lv_aload_n hx hb dX12_numberHere_26 rfl (lv_at hl 0 rfl) ?_
      refine tk_geti hC hK hw hT hinX12 kM_at0 (by decide) rfl 14 (by decide) (List.mem_of_getElem? (i := 1) rfl) rfl rfl dX12_numberHere_27 (fun x174 c175 rx174 tx174 => ?_)
      refine wk_top x119 (c175.symm.trans c120) ?_
      refine lv_istore_n (lv' := [(3, .int x119), (0, .ref (ad 0)), (1, .int 0), (2, .int 23)]) hx hb dX12_numberHere_30 rfl hl (by decide) rfl (fun ls hl => ?_)
      refine lv_iconst (v := 0) hx hb dX12_numberHere_31 (by decide) ?_
      refine lv_istore (lv' := [(4, .int 0), (3, .int x119), (0, .ref (ad 0)), (1, .int 0), (2, .int 23)]) hx hb dX12_numberHere_32 hl (by decide) rfl (fun ls hl => ?_)
      exact L34 ((400 - x119.toInt).toNat + 1) x119 0 x117 x119 H locs ls w107 (show 0 ≤ x119.toInt by omega) (show x119.toInt ≤ 399 by omega) (show 1 ≤ x117.toInt by omega) (show x117.toInt ≤ 400 by omega) (show 0 ≤ x119.toInt by omega) (show x119.toInt ≤ 400 by omega) (Nat.lt_succ_self _) hw hT hF c118 c120 (lv_sub hl [2, 3, 4, 1, 0] rfl)
  · obtain ⟨x126, c127, rx126, tx126⟩ := hT.rdi (lo := 0) (hi := 400) (k := 14) kM_at0 (by decide) rfl
    have g124 : (x126.toInt = x103.toInt ∨ (gi w0 1 (x103.toInt).toNat).toInt = 32) := by have q := g124; simp only [c104, c127] at q; omega
    refine lv_pop hx hb dX12_numberHere_4 rfl ?_
    refine lv_aload_n hx hb dX12_numberHere_5 rfl (lv_at hl 0 rfl) ?_
    refine lv_aload_n hx hb dX12_numberHere_6 rfl (lv_at hl 0 rfl) ?_
    refine tk_geti hC hK hw hT hinX12 kM_at0 (by decide) rfl 14 (by decide) (List.mem_of_getElem? (i := 1) rfl) rfl rfl dX12_numberHere_7 (fun x176 c177 rx176 tx176 => ?_)
    refine wk_top x126 (c177.symm.trans c127) ?_
    refine tk_Vi hC hK hw hT hA hE hSR kM_at0 (by decide) rfl (k_X12_isDigit_2 l adK adV dC dI cy ad B (by omega) (by omega) qr s1   x126 (show 0 ≤ x126.toInt by omega) (show x126.toInt ≤ 400 by omega) w107 H.size hT ) (cwV 1 hC.2.2.2.2 gX12_numberHere_X12_isDigit rfl rfl rfl (by decide +kernel) ⟨Nat.le_of_ble_eq_true rfl, Nat.le_of_ble_eq_true rfl⟩) rfl hl.1 rfl (Nat.le_of_ble_eq_true rfl) dX12_numberHere_10 (fun r178 w180 H locs hp179 hw => ?_)
    obtain ⟨rfl, hg187⟩ := hp179
    rcases hg187 with ⟨rfl, ⟨x182, c183, rx182, tx182⟩⟩ | ⟨rfl, g184, ⟨x185, c186, rx185, tx185⟩⟩
    · have ex182 : x182.toInt = x122.toInt := by rw [← c123.symm.trans c183]
      refine lv_if_ne (tgt := 26) hx hb dX12_numberHere_13 (by decide) (fun c => absurd (by decide) c) (fun _ => ?_)
      refine lv_aload_n hx hb dX12_numberHere_16 rfl (lv_at hl 0 rfl) ?_
      refine lv_iconst (v := 0) hx hb dX12_numberHere_17 (by decide) ?_
      refine lv_aload_n hx hb dX12_numberHere_18 rfl (lv_at hl 0 rfl) ?_
      refine tk_geti hC hK hw hT hinX12 kM_at0 (by decide) rfl 14 (by decide) (List.mem_of_getElem? (i := 1) rfl) rfl rfl dX12_numberHere_19 (fun x188 c189 rx188 tx188 => ?_)
      refine wk_top x126 (c189.symm.trans c127) ?_
      refine tk_Vi hC hK hw hT hA hE hSR kM_at0 (by decide) rfl (k_X12_fails_1 l adK adV dC dI cy ad B (by omega) (by omega) qr s1   0 (by decide) (by decide) x126 (show 0 ≤ x126.toInt by omega) (show x126.toInt ≤ 400 by omega) w107 H.size hT ) (cwV 2 hC.2.2.2.2 gX12_numberHere_X12_fails rfl rfl rfl (by decide +kernel) ⟨Nat.le_of_ble_eq_true rfl, Nat.le_of_ble_eq_true rfl⟩) rfl hl.1 rfl (Nat.le_of_ble_eq_true rfl) dX12_numberHere_22 (fun r190 w192 H locs hp191 hw => ?_)
      obtain ⟨hT, k193, hg196⟩ := hp191
      have hF := hF.tr k193 (by decide)
      have c197 := k193.gi kM_at0 (by decide) c123
      have c198 := k193.gi kM_at0 (by decide) c127
      obtain ⟨rfl, ⟨x194, c195, rx194, tx194⟩⟩ := hg196
      exact tk_zret hC hr rfl hlocks hK ⟨hT, hF, (Or.inr (Or.inl ⟨rfl, ⟨x122, c197, (show 0 ≤ x122.toInt by omega), (show x122.toInt ≤ 400 by omega)⟩, ⟨x194, c195, (show 1 ≤ x194.toInt by omega), (show x194.toInt ≤ 3205 by omega)⟩⟩))⟩ hw dX12_numberHere_25
    · have ex185 : x185.toInt = x122.toInt := by rw [← c123.symm.trans c186]
      refine lv_if_ne (tgt := 26) hx hb dX12_numberHere_13 (by decide) (fun _ => ?_) (fun c => absurd c (by decide))
      refine lv_aload_n hx hb dX12_numberHere_26 rfl (lv_at hl 0 rfl) ?_
      refine tk_geti hC hK hw hT hinX12 kM_at0 (by decide) rfl 14 (by decide) (List.mem_of_getElem? (i := 1) rfl) rfl rfl dX12_numberHere_27 (fun x199 c200 rx199 tx199 => ?_)
      refine wk_top x126 (c200.symm.trans c127) ?_
      refine lv_istore_n (lv' := [(3, .int x126), (0, .ref (ad 0)), (1, .int 0), (2, .int 23)]) hx hb dX12_numberHere_30 rfl hl (by decide) rfl (fun ls hl => ?_)
      refine lv_iconst (v := 0) hx hb dX12_numberHere_31 (by decide) ?_
      refine lv_istore (lv' := [(4, .int 0), (3, .int x126), (0, .ref (ad 0)), (1, .int 0), (2, .int 23)]) hx hb dX12_numberHere_32 hl (by decide) rfl (fun ls hl => ?_)
      exact L34 ((400 - x126.toInt).toNat + 1) x126 0 x122 x126 H locs ls w107 (show 0 ≤ x126.toInt by omega) (show x126.toInt ≤ 399 by omega) (show 1 ≤ x122.toInt by omega) (show x122.toInt ≤ 400 by omega) (show 0 ≤ x126.toInt by omega) (show x126.toInt ≤ 400 by omega) (Nat.lt_succ_self _) hw hT hF c123 c127 (lv_sub hl [2, 3, 4, 1, 0] rfl)
abbrev P_X12_in_4 (ad : Nat → Nat) (cy : Nat → ClassId) (B : Int) (qr : Nat) (s1 : Int) (a0 : Int64) (a1 : Int64) (w0 : va_W) : Int32 → va_W → Prop := fun r u => w0 = u ∧ ((r = 0) ∨ (r = 1 ∧ 1 ≤ a0.toInt ∧ a0.toInt ≤ 24))
set_option maxHeartbeats 4000000 in
set_option maxRecDepth 100000 in
theorem k_X12_in_4 (l : Launch) (adK adV : Nat → Nat) (dC : Nat → ClassId) (dI : Nat → Nat → Nat) (cy : Nat → ClassId) (ad : Nat → Nat) (B : Int) (hB0 : 100000 ≤ B) (hB1 : B ≤ 1073741824) (qr : Nat) (s1 : Int)  (a0 : Int64) (ra0 : (-2147483648) ≤ a0.toInt) (ta0 : a0.toInt ≤ 2147483647) (a1 : Int64) (ra1 : 1 ≤ a1.toInt) (ta1 : a1.toInt ≤ 24) (w0 : va_W) (sz : Nat) (hT : TW ksM ad cy B qr 12 w0)  : Met l yX12_in wsX12_in ({ frames := 1, cells := 0, slots := 0, locals := 12 }) (va_Pc [.long a0, .long a1, .long 24] (wpreS adK adV dC dI cy sz w0)) (va_Qi (P_X12_in_4 ad cy B qr s1 a0 a1 w0) (fun u : va_W => wpost dC dI cy (va_A w0 sz) u) (va_A w0 sz)) 0 0 (va_A w0 sz) := by
  refine Met.ofW (cc := cX12_in) (maxL := 6) (ret := (some .boolean)) (by decide) rfl ?_
  intro p e s m args below meth c s₁ Bk hml hv
  obtain ⟨rfl, ⟨hsz, hP, hK, hD0⟩, hE, hSR⟩ := hv
  have hx := Bk.exec
  have hb := Bk.bytes
  have hr := Bk.returns
  have hlocks := Bk.notSynchronized
  have hC : CallFix p m c cX12_in 6 s _ wsX12_in RX12 := ⟨hx, hb, hml, findClass_of_methodNamed Bk.named, atoms_spec (ws := wsX12_in) Bk.pre⟩
  subst hsz
  have hD := hD0.self (sz := s.heap.size)
  generalize hAe : va_A w0 s.heap.size = A at hD hE ⊢
  have hA : ∀ q : Nat, s.heap.size ≤ q → A q := fun q h => by rw [← hAe]; exact Or.inr h
  have hw : Wd dC dI A s.heap s.heap [] w0 := ⟨hP, hD, va_S.rf⟩
  have hF : FE ksM ([] : List (Nat × Nat × Nat)) w0 w0 := FE.rf
  have hl := lv_entry ([.long a0, .long a1, .long 24]) (n := 6) (Nat.le_of_ble_eq_true rfl)
  rw [lg_entry_eq]
  generalize (lg_sl ([.long a0, .long a1, .long 24]) ++ List.replicate (6 - (lg_sl ([.long a0, .long a1, .long 24])).length) Slot.unset).toArray = ls at hl ⊢
  have hl : lv_has ls 6 [(0, .long a0), (2, .long a1), (4, .long 24)] := hl
  generalize hloc : ([] : List Loc) = locs at hw ⊢
  have J17 : ∀ (H : Heap) (locs : List Loc) (ls : Array Slot), (-2147483648) ≤ a0.toInt → a0.toInt ≤ 2147483647 → 1 ≤ a1.toInt → a1.toInt ≤ 24 → Wd dC dI A s.heap H locs w0 → lv_has ls 6 [(0, .long a0), (2, .long a1), (4, .long 24)] → W p l e ({ frames := 1, cells := 0, slots := 0, locals := 12 }) s m (List.toArray [.long a0, .long a1, .long 24]) below meth c H locs 0 0 (MQ below (va_Qi (P_X12_in_4 ad cy B qr s1 a0 a1 w0) (fun u : va_W => wpost dC dI cy A u) A) (List.toArray [.long a0, .long a1, .long 24]) s 0 0 A) (F0 m 17 ls []) := by
    intro H locs ls r1 t2 r3 t4 hw hl
    refine lv_iconst (v := 0) hx hb dX12_in_17 (by decide) ?_
    exact tk_zret hC hr rfl hlocks hK ⟨rfl, (Or.inl rfl)⟩ hw dX12_in_18
  refine lv_lload_n hx hb dX12_in_0 rfl (lv_at hl 0 rfl) ?_
  refine lv_lload_n hx hb dX12_in_1 rfl (lv_at hl 1 rfl) ?_
  refine W.lcmp hx hb dX12_in_2 ?_
  refine lv_if_lt (tgt := 17) hx hb dX12_in_3 (by decide) (fun c5 => ?_) (fun c5 => ?_)
  · have c5 : a0.toInt < a1.toInt := wk_cltT c5
    exact J17  s.heap locs ls  (show (-2147483648) ≤ a0.toInt by omega) (show a0.toInt ≤ 2147483647 by omega) (show 1 ≤ a1.toInt by omega) (show a1.toInt ≤ 24 by omega)  hw   (lv_sub hl [0, 1, 2] rfl)
  · have c5 : a1.toInt ≤ a0.toInt := wk_cltF c5
    refine lv_lload_n hx hb dX12_in_6 rfl (lv_at hl 0 rfl) ?_
    refine lv_lload hx hb dX12_in_7 (lv_at hl 2 rfl) ?_
    refine W.lcmp hx hb dX12_in_9 ?_
    refine lv_if_gt (tgt := 17) hx hb dX12_in_10 (by decide) (fun c6 => ?_) (fun c6 => ?_)
    · have c6 : (24 : Int) < a0.toInt := wk_cgtT c6
      exact J17  s.heap locs ls  (show (-2147483648) ≤ a0.toInt by omega) (show a0.toInt ≤ 2147483647 by omega) (show 1 ≤ a1.toInt by omega) (show a1.toInt ≤ 24 by omega)  hw   (lv_sub hl [0, 1, 2] rfl)
    · have c6 : a0.toInt ≤ (24 : Int) := wk_cgtF c6
      refine lv_iconst (v := 1) hx hb dX12_in_13 (by decide) ?_
      refine lv_goto (tgt := 18) hx hb dX12_in_14 (by decide) ?_
      exact tk_zret hC hr rfl hlocks hK ⟨rfl, (Or.inr ⟨rfl, (show 1 ≤ a0.toInt by omega), (show a0.toInt ≤ 24 by omega)⟩)⟩ hw dX12_in_18
abbrev P_X12_numberHere_4 (ad : Nat → Nat) (cy : Nat → ClassId) (B : Int) (qr : Nat) (s1 : Int) (a1 : Int32) (w0 : va_W) : Int32 → va_W → Prop := fun r u => TW ksM ad cy B qr 12 u ∧ FE ksM [(12, 14, 14), (12, 15, 15), (12, 16, 16)] w0 u ∧ ((r = 0 ∧ (∃ y : Int32, gi u 0 1 = y ∧ 1 ≤ y.toInt ∧ y.toInt ≤ 400) ∧ (∃ y : Int32, gi u 0 15 = y ∧ 1 ≤ y.toInt ∧ y.toInt ≤ 3205)) ∨ (r = 0 ∧ (∃ y : Int32, gi u 0 1 = y ∧ 0 ≤ y.toInt ∧ y.toInt ≤ 400) ∧ (∃ y : Int32, gi u 0 15 = y ∧ 1 ≤ y.toInt ∧ y.toInt ≤ 3205)) ∨ (r = 1 ∧ (∃ y : Int32, gi u 0 1 = y ∧ 1 ≤ y.toInt ∧ y.toInt ≤ 400) ∧ (∃ y : Int32, gi u 0 16 = y ∧ 1 ≤ y.toInt ∧ y.toInt ≤ 24)))
set_option maxHeartbeats 4000000 in
set_option maxRecDepth 100000 in
theorem k_X12_numberHere_4 (l : Launch) (adK adV : Nat → Nat) (dC : Nat → ClassId) (dI : Nat → Nat → Nat) (cy : Nat → ClassId) (ad : Nat → Nat) (B : Int) (hB0 : 100000 ≤ B) (hB1 : B ≤ 1073741824) (qr : Nat) (s1 : Int)  (a1 : Int32) (ra1 : 1 ≤ a1.toInt) (ta1 : a1.toInt ≤ 24) (w0 : va_W) (sz : Nat) (hT : TW ksM ad cy B qr 12 w0)  : Met l yX12_numberHere wsX12_numberHere ({ frames := 2, cells := 0, slots := 0, locals := 37 }) (va_Pc [.ref (ad 0), .int a1, .int 24] (wpreS adK adV dC dI cy sz w0)) (va_Qi (P_X12_numberHere_4 ad cy B qr s1 a1 w0) (fun u : va_W => wpost dC dI cy (va_A w0 sz) u) (va_A w0 sz)) 0 0 (va_A w0 sz) := by
  refine Met.ofW (cc := cX12_numberHere) (maxL := 5) (ret := (some .boolean)) (by decide) rfl ?_
  intro p e s m args below meth c s₁ Bk hml hv
  obtain ⟨rfl, ⟨hsz, hP, hK, hD0⟩, hE, hSR⟩ := hv
  have hx := Bk.exec
  have hb := Bk.bytes
  have hr := Bk.returns
  have hlocks := Bk.notSynchronized
  have hC : CallFix p m c cX12_numberHere 5 s _ wsX12_numberHere RX12 := ⟨hx, hb, hml, findClass_of_methodNamed Bk.named, atoms_spec (ws := wsX12_numberHere) Bk.pre⟩
  subst hsz
  have hD := hD0.self (sz := s.heap.size)
  generalize hAe : va_A w0 s.heap.size = A at hD hE ⊢
  have hA : ∀ q : Nat, s.heap.size ≤ q → A q := fun q h => by rw [← hAe]; exact Or.inr h
  have hw : Wd dC dI A s.heap s.heap [] w0 := ⟨hP, hD, va_S.rf⟩
  have hF : FE ksM [(12, 14, 14), (12, 15, 15), (12, 16, 16)] w0 w0 := FE.rf
  have hl := lv_entry ([.ref (ad 0), .int a1, .int 24]) (n := 5) (Nat.le_of_ble_eq_true rfl)
  rw [lg_entry_eq]
  generalize (lg_sl ([.ref (ad 0), .int a1, .int 24]) ++ List.replicate (5 - (lg_sl ([.ref (ad 0), .int a1, .int 24])).length) Slot.unset).toArray = ls at hl ⊢
  have hl : lv_has ls 5 [(0, .ref (ad 0)), (1, .int a1), (2, .int 24)] := hl
  generalize hloc : ([] : List Loc) = locs at hw ⊢
  have hinX12 : ∀ w ∈ u_ws RX12 TX12 42, w ∈ wsX12_numberHere := fun _ h => List.mem_cons_of_mem _ (List.mem_append_right _ (h))
  have J126 : ∀ (v126_3 : Int32) (v126_4 : Int32) (f126_0_1 : Int32) (f126_0_14 : Int32) (f126_0_16 : Int32) (H : Heap) (locs : List Loc) (ls : Array Slot) (w1 : va_W), 1 ≤ a1.toInt → a1.toInt ≤ 24 → 0 ≤ v126_3.toInt → v126_3.toInt ≤ 399 → 1 ≤ v126_4.toInt → v126_4.toInt ≤ 24 → 1 ≤ f126_0_1.toInt → f126_0_1.toInt ≤ 400 → 0 ≤ f126_0_14.toInt → f126_0_14.toInt ≤ 400 → 1 ≤ f126_0_16.toInt → f126_0_16.toInt ≤ 24 → Wd dC dI A s.heap H locs w1 → TW ksM ad cy B qr 12 w1 → FE ksM [(12, 14, 14), (12, 15, 15), (12, 16, 16)] w0 w1 → gi w1 0 1 = f126_0_1 → gi w1 0 14 = f126_0_14 → gi w1 0 16 = f126_0_16 → lv_has ls 5 [(0, .ref (ad 0)), (1, .int a1), (2, .int 24), (3, .int v126_3), (4, .int v126_4)] → W p l e ({ frames := 2, cells := 0, slots := 0, locals := 37 }) s m (List.toArray [.ref (ad 0), .int a1, .int 24]) below meth c H locs 0 0 (MQ below (va_Qi (P_X12_numberHere_4 ad cy B qr s1 a1 w0) (fun u : va_W => wpost dC dI cy A u) A) (List.toArray [.ref (ad 0), .int a1, .int 24]) s 0 0 A) (F0 m 126 ls []) := by
    intro v126_3 v126_4 f126_0_1 f126_0_14 f126_0_16 H locs ls w1 r2 t3 r4 t5 r6 t7 r8 t9 r11 t12 r14 t15 hw hT hF c10 c13 c16 hl
    refine lv_iconst (v := 1) hx hb dX12_numberHere_126 (by decide) ?_
    refine lv_goto (tgt := 131) hx hb dX12_numberHere_127 (by decide) ?_
    exact tk_zret hC hr rfl hlocks hK ⟨hT, hF, (Or.inr (Or.inr ⟨rfl, ⟨f126_0_1, c10, (show 1 ≤ f126_0_1.toInt by omega), (show f126_0_1.toInt ≤ 400 by omega)⟩, ⟨f126_0_16, c16, (show 1 ≤ f126_0_16.toInt by omega), (show f126_0_16.toInt ≤ 24 by omega)⟩⟩))⟩ hw dX12_numberHere_131
  have J117 : ∀ (v117_3 : Int32) (v117_4 : Int32) (f117_0_1 : Int32) (f117_0_14 : Int32) (f117_0_16 : Int32) (H : Heap) (locs : List Loc) (ls : Array Slot) (w17 : va_W), 1 ≤ a1.toInt → a1.toInt ≤ 24 → 0 ≤ v117_3.toInt → v117_3.toInt ≤ 399 → 1 ≤ f117_0_1.toInt → f117_0_1.toInt ≤ 400 → 0 ≤ f117_0_14.toInt → f117_0_14.toInt ≤ 400 → Wd dC dI A s.heap H locs w17 → TW ksM ad cy B qr 12 w17 → FE ksM [(12, 14, 14), (12, 15, 15), (12, 16, 16)] w0 w17 → gi w17 0 1 = f117_0_1 → gi w17 0 14 = f117_0_14 → gi w17 0 16 = f117_0_16 → lv_has ls 5 [(0, .ref (ad 0)), (1, .int a1), (2, .int 24), (3, .int v117_3), (4, .int v117_4)] → W p l e ({ frames := 2, cells := 0, slots := 0, locals := 37 }) s m (List.toArray [.ref (ad 0), .int a1, .int 24]) below meth c H locs 0 0 (MQ below (va_Qi (P_X12_numberHere_4 ad cy B qr s1 a1 w0) (fun u : va_W => wpost dC dI cy A u) A) (List.toArray [.ref (ad 0), .int a1, .int 24]) s 0 0 A) (F0 m 117 ls []) := by
    intro v117_3 v117_4 f117_0_1 f117_0_14 f117_0_16 H locs ls w17 r18 t19 r20 t21 r22 t23 r25 t26 hw hT hF c24 c27 c28 hl
    refine lv_aload_n hx hb dX12_numberHere_117 rfl (lv_at hl 0 rfl) ?_
    refine lv_iconst (v := 1) hx hb dX12_numberHere_118 (by decide) ?_
    refine lv_iload_n hx hb dX12_numberHere_119 rfl (lv_at hl 3 rfl) ?_
    refine tk_Vi hC hK hw hT hA hE hSR kM_at0 (by decide) rfl (k_X12_fails_1 l adK adV dC dI cy ad B (by omega) (by omega) qr s1   1 (by decide) (by decide) v117_3 (show 0 ≤ v117_3.toInt by omega) (show v117_3.toInt ≤ 400 by omega) w17 H.size hT ) (cwV 2 hC.2.2.2.2 gX12_numberHere_X12_fails rfl rfl rfl (by decide +kernel) ⟨Nat.le_of_ble_eq_true rfl, Nat.le_of_ble_eq_true rfl⟩) rfl hl.1 rfl (Nat.le_of_ble_eq_true rfl) dX12_numberHere_120 (fun r29 w31 H locs hp30 hw => ?_)
    obtain ⟨hT, k32, hg35⟩ := hp30
    have hF := hF.tr k32 (by decide)
    have c36 := k32.gi kM_at0 (by decide) c24
    have c37 := k32.gi kM_at0 (by decide) c27
    have c38 := k32.gi kM_at0 (by decide) c28
    obtain ⟨rfl, ⟨x33, c34, rx33, tx33⟩⟩ := hg35
    refine lv_if_eq (tgt := 130) hx hb dX12_numberHere_123 (by decide) (fun _ => ?_) (fun c => absurd (by decide) c)
    refine lv_iconst (v := 0) hx hb dX12_numberHere_130 (by decide) ?_
    exact tk_zret hC hr rfl hlocks hK ⟨hT, hF, (Or.inl ⟨rfl, ⟨f117_0_1, c36, (show 1 ≤ f117_0_1.toInt by omega), (show f117_0_1.toInt ≤ 400 by omega)⟩, ⟨x33, c34, (show 1 ≤ x33.toInt by omega), (show x33.toInt ≤ 3205 by omega)⟩⟩)⟩ hw dX12_numberHere_131
  have L34 : ∀ (n34 : Nat) (v34_3 : Int32) (v34_4 : Int32) (f34_0_1 : Int32) (f34_0_14 : Int32) (H : Heap) (locs : List Loc) (ls : Array Slot) (w39 : va_W), 1 ≤ a1.toInt → a1.toInt ≤ 24 → 0 ≤ v34_3.toInt → v34_3.toInt ≤ 399 → 1 ≤ f34_0_1.toInt → f34_0_1.toInt ≤ 400 → 0 ≤ f34_0_14.toInt → f34_0_14.toInt ≤ 400 → (400 - f34_0_14.toInt).toNat < n34 → Wd dC dI A s.heap H locs w39 → TW ksM ad cy B qr 12 w39 → FE ksM [(12, 14, 14), (12, 15, 15), (12, 16, 16)] w0 w39 → gi w39 0 1 = f34_0_1 → gi w39 0 14 = f34_0_14 → lv_has ls 5 [(0, .ref (ad 0)), (1, .int a1), (2, .int 24), (3, .int v34_3), (4, .int v34_4)] → W p l e ({ frames := 2, cells := 0, slots := 0, locals := 37 }) s m (List.toArray [.ref (ad 0), .int a1, .int 24]) below meth c H locs 0 0 (MQ below (va_Qi (P_X12_numberHere_4 ad cy B qr s1 a1 w0) (fun u : va_W => wpost dC dI cy A u) A) (List.toArray [.ref (ad 0), .int a1, .int 24]) s 0 0 A) (F0 m 34 ls []) := by
    intro n34
    induction n34 with
    | zero => intro v34_3 v34_4 f34_0_1 f34_0_14 H locs ls w39 r40 t41 r42 t43 r44 t45 r47 t48 hm34 hw hT hF c46 c49 hl; omega
    | succ n34 ih34 =>
      intro v34_3 v34_4 f34_0_1 f34_0_14 H locs ls w39 r40 t41 r42 t43 r44 t45 r47 t48 hm34 hw hT hF c46 c49 hl
      have J75 : ∀ (v75_4 : Int32) (H : Heap) (locs : List Loc) (ls : Array Slot) (w50 : va_W), 1 ≤ a1.toInt → a1.toInt ≤ 24 → 0 ≤ v34_3.toInt → v34_3.toInt ≤ 399 → 1 ≤ f34_0_1.toInt → f34_0_1.toInt ≤ 400 → 0 ≤ f34_0_14.toInt → f34_0_14.toInt ≤ 399 → Wd dC dI A s.heap H locs w50 → TW ksM ad cy B qr 12 w50 → FE ksM [(12, 14, 14), (12, 15, 15), (12, 16, 16)] w0 w50 → gi w50 0 1 = f34_0_1 → gi w50 0 14 = f34_0_14 → lv_has ls 5 [(0, .ref (ad 0)), (1, .int a1), (2, .int 24), (3, .int v34_3), (4, .int v75_4)] → W p l e ({ frames := 2, cells := 0, slots := 0, locals := 37 }) s m (List.toArray [.ref (ad 0), .int a1, .int 24]) below meth c H locs 0 0 (MQ below (va_Qi (P_X12_numberHere_4 ad cy B qr s1 a1 w0) (fun u : va_W => wpost dC dI cy A u) A) (List.toArray [.ref (ad 0), .int a1, .int 24]) s 0 0 A) (F0 m 75 ls []) := by
        intro v75_4 H locs ls w50 r51 t52 r53 t54 r55 t56 r58 t59 hw hT hF c57 c60 hl
        refine lv_aload_n hx hb dX12_numberHere_75 rfl (lv_at hl 0 rfl) ?_
        refine lv_dup hx hb dX12_numberHere_76 rfl ?_
        refine tk_geti hC hK hw hT hinX12 kM_at0 (by decide) rfl 14 (by decide) (List.mem_of_getElem? (i := 1) rfl) rfl rfl dX12_numberHere_77 (fun x61 c62 rx61 tx61 => ?_)
        refine wk_top f34_0_14 (c62.symm.trans c60) ?_
        refine lv_iconst (v := 1) hx hb dX12_numberHere_80 (by decide) ?_
        refine lv_iadd hx hb dX12_numberHere_81 ?_
        refine lv_topi (fun x63 ex63 => ?_)
        have ex63 : x63.toInt = f34_0_14.toInt + (1 : Int) := by rw [ex63]; exact wk_add (show (-2147483648) ≤ f34_0_14.toInt + (1 : Int) by omega) (show f34_0_14.toInt + (1 : Int) ≤ 2147483647 by omega)
        refine tk_puti hC hK hw hT hinX12 tyX12_ok nmX12 kM_at0 (by decide) rfl rfl 14 (by decide) (List.mem_of_getElem? (i := 1) rfl) rfl rfl rfl rfl (show 0 ≤ x63.toInt by omega) (show x63.toInt ≤ 400 by omega) dX12_numberHere_82 (fun H locs w64 hw hT k66 c65 => ?_)
        have hF := hF.put kM_at0 (k := 14) (by decide) k66
        have c67 := k66.gi (Or.inr (by decide)) c57
        refine lv_goto (tgt := 34) hx hb dX12_numberHere_85 (by decide) ?_
        exact ih34 v34_3 v75_4 f34_0_1 x63 H locs ls w64 (show 1 ≤ a1.toInt by omega) (show a1.toInt ≤ 24 by omega) (show 0 ≤ v34_3.toInt by omega) (show v34_3.toInt ≤ 399 by omega) (show 1 ≤ f34_0_1.toInt by omega) (show f34_0_1.toInt ≤ 400 by omega) (show 0 ≤ x63.toInt by omega) (show x63.toInt ≤ 400 by omega) (show (400 - x63.toInt).toNat < n34 by omega) hw hT hF c67 c65 (lv_sub hl [0, 1, 2, 3, 4] rfl)
      refine lv_aload_n hx hb dX12_numberHere_34 rfl (lv_at hl 0 rfl) ?_
      refine lv_aload_n hx hb dX12_numberHere_35 rfl (lv_at hl 0 rfl) ?_
      refine tk_geti hC hK hw hT hinX12 kM_at0 (by decide) rfl 14 (by decide) (List.mem_of_getElem? (i := 1) rfl) rfl rfl dX12_numberHere_36 (fun x68 c69 rx68 tx68 => ?_)
      refine wk_top f34_0_14 (c69.symm.trans c49) ?_
      refine tk_Vi hC hK hw hT hA hE hSR kM_at0 (by decide) rfl (k_X12_isDigit_2 l adK adV dC dI cy ad B (by omega) (by omega) qr s1   f34_0_14 (show 0 ≤ f34_0_14.toInt by omega) (show f34_0_14.toInt ≤ 400 by omega) w39 H.size hT ) (cwV 1 hC.2.2.2.2 gX12_numberHere_X12_isDigit rfl rfl rfl (by decide +kernel) ⟨Nat.le_of_ble_eq_true rfl, Nat.le_of_ble_eq_true rfl⟩) rfl hl.1 rfl (Nat.le_of_ble_eq_true rfl) dX12_numberHere_39 (fun r70 w72 H locs hp71 hw => ?_)
      obtain ⟨rfl, hg79⟩ := hp71
      rcases hg79 with ⟨rfl, ⟨x74, c75, rx74, tx74⟩⟩ | ⟨rfl, g76, ⟨x77, c78, rx77, tx77⟩⟩
      · have ex74 : x74.toInt = f34_0_1.toInt := by rw [← c46.symm.trans c75]
        refine lv_if_eq (tgt := 88) hx hb dX12_numberHere_42 (by decide) (fun _ => ?_) (fun c => absurd (by decide) c)
        refine lv_aload_n hx hb dX12_numberHere_88 rfl (lv_at hl 0 rfl) ?_
        refine lv_iload hx hb dX12_numberHere_89 (lv_at hl 4 rfl) ?_
        refine tk_puti hC hK hw hT hinX12 tyX12_ok nmX12 kM_at0 (by decide) rfl rfl 16 (by decide) (List.mem_of_getElem? (i := 3) rfl) rfl rfl rfl rfl (wk_i32 v34_4).1 (wk_i32 v34_4).2 dX12_numberHere_91 (fun H locs w80 hw hT k82 c81 => ?_)
        have hF := hF.put kM_at0 (k := 16) (by decide) k82
        have c83 := k82.gi (Or.inr (by decide)) c46
        have c84 := k82.gi (Or.inr (by decide)) c49
        refine lv_aload_n hx hb dX12_numberHere_94 rfl (lv_at hl 0 rfl) ?_
        refine tk_geti hC hK hw hT hinX12 kM_at0 (by decide) rfl 14 (by decide) (List.mem_of_getElem? (i := 1) rfl) rfl rfl dX12_numberHere_95 (fun x85 c86 rx85 tx85 => ?_)
        refine wk_top f34_0_14 (c86.symm.trans c84) ?_
        refine lv_iload_n hx hb dX12_numberHere_98 rfl (lv_at hl 3 rfl) ?_
        refine lv_isub hx hb dX12_numberHere_99 ?_
        refine lv_topi (fun x87 ex87 => ?_)
        have ex87 : x87.toInt = f34_0_14.toInt - v34_3.toInt := by rw [ex87]; exact wk_sub (show (-2147483648) ≤ f34_0_14.toInt - v34_3.toInt by omega) (show f34_0_14.toInt - v34_3.toInt ≤ 2147483647 by omega)
        refine lv_iconst (v := 5) hx hb dX12_numberHere_100 (by decide) ?_
        refine lv_icmp_gt (tgt := 117) hx hb dX12_numberHere_101 (by decide) (fun c88 => ?_) (fun c88 => ?_)
        · have c88 : (5 : Int) < x87.toInt := wk_lt.mp c88
          exact J117 v34_3 v34_4 f34_0_1 f34_0_14 v34_4 H locs ls w80 (show 1 ≤ a1.toInt by omega) (show a1.toInt ≤ 24 by omega) (show 0 ≤ v34_3.toInt by omega) (show v34_3.toInt ≤ 399 by omega) (show 1 ≤ f34_0_1.toInt by omega) (show f34_0_1.toInt ≤ 400 by omega) (show 0 ≤ f34_0_14.toInt by omega) (show f34_0_14.toInt ≤ 400 by omega)  hw hT hF c83 c84 c81 (lv_sub hl [0, 1, 2, 3, 4] rfl)
        · have c88 : x87.toInt ≤ (5 : Int) := wk_ltF c88
          refine lv_iload hx hb dX12_numberHere_104 (lv_at hl 4 rfl) ?_
          refine lv_i2l hx hb dX12_numberHere_106 rfl ?_
          refine lv_topl (fun x89 ex89 => ?_)
          have ex89 : x89.toInt = v34_4.toInt := by rw [ex89]; exact wk_i2l _
          have bx89 := wk_i32 v34_4
          refine lv_iload_n hx hb dX12_numberHere_107 rfl (lv_at hl 1 rfl) ?_
          refine lv_i2l hx hb dX12_numberHere_108 rfl ?_
          refine lv_topl (fun x90 ex90 => ?_)
          have ex90 : x90.toInt = a1.toInt := by rw [ex90]; exact wk_i2l _
          have bx90 := wk_i32 a1
          refine lv_iload_n hx hb dX12_numberHere_109 rfl (lv_at hl 2 rfl) ?_
          refine lv_i2l hx hb dX12_numberHere_110 rfl ?_
          refine wk_topl 24 (by decide) ?_
          refine tk_Si hC hK hw hT hA hE hSR (k_X12_in_4 l adK adV dC dI cy ad B (by omega) (by omega) qr s1   x89 (show (-2147483648) ≤ x89.toInt by omega) (show x89.toInt ≤ 2147483647 by omega) x90 (show 1 ≤ x90.toInt by omega) (show x90.toInt ≤ 24 by omega) w80 H.size hT ) (va_cwS 3 hC.2.2.2.2 gX12_numberHere_X12_in rfl rfl rfl (by decide +kernel) ⟨Nat.le_of_ble_eq_true rfl, Nat.le_of_ble_eq_true rfl⟩) rfl hl.1 rfl (Nat.le_of_ble_eq_true rfl) dX12_numberHere_111 (fun r91 w93 H locs hp92 hw => ?_)
          obtain ⟨rfl, hg97⟩ := hp92
          rcases hg97 with rfl | ⟨rfl, g95, g96⟩
          · refine lv_if_ne (tgt := 126) hx hb dX12_numberHere_114 (by decide) (fun c => absurd (by decide) c) (fun _ => ?_)
            exact J117 v34_3 v34_4 f34_0_1 f34_0_14 v34_4 H locs ls w80 (show 1 ≤ a1.toInt by omega) (show a1.toInt ≤ 24 by omega) (show 0 ≤ v34_3.toInt by omega) (show v34_3.toInt ≤ 399 by omega) (show 1 ≤ f34_0_1.toInt by omega) (show f34_0_1.toInt ≤ 400 by omega) (show 0 ≤ f34_0_14.toInt by omega) (show f34_0_14.toInt ≤ 400 by omega)  hw hT hF c83 c84 c81 (lv_sub hl [0, 1, 2, 3, 4] rfl)
          · refine lv_if_ne (tgt := 126) hx hb dX12_numberHere_114 (by decide) (fun _ => ?_) (fun c => absurd c (by decide))
            exact J126 v34_3 v34_4 f34_0_1 f34_0_14 v34_4 H locs ls w80 (show 1 ≤ a1.toInt by omega) (show a1.toInt ≤ 24 by omega) (show 0 ≤ v34_3.toInt by omega) (show v34_3.toInt ≤ 399 by omega) (show 1 ≤ v34_4.toInt by omega) (show v34_4.toInt ≤ 24 by omega) (show 1 ≤ f34_0_1.toInt by omega) (show f34_0_1.toInt ≤ 400 by omega) (show 0 ≤ f34_0_14.toInt by omega) (show f34_0_14.toInt ≤ 400 by omega) (show 1 ≤ v34_4.toInt by omega) (show v34_4.toInt ≤ 24 by omega)  hw hT hF c83 c84 c81 (lv_sub hl [0, 1, 2, 3, 4] rfl)
      · have ex77 : x77.toInt = f34_0_1.toInt := by rw [← c46.symm.trans c78]
        refine lv_if_eq (tgt := 88) hx hb dX12_numberHere_42 (by decide) (fun c => absurd c (by decide)) (fun _ => ?_)
        refine lv_aload_n hx hb dX12_numberHere_45 rfl (lv_at hl 0 rfl) ?_
        refine tk_geti hC hK hw hT hinX12 kM_at0 (by decide) rfl 14 (by decide) (List.mem_of_getElem? (i := 1) rfl) rfl rfl dX12_numberHere_46 (fun x98 c99 rx98 tx98 => ?_)
        refine wk_top f34_0_14 (c99.symm.trans c49) ?_
        refine lv_iload_n hx hb dX12_numberHere_49 rfl (lv_at hl 3 rfl) ?_
        refine lv_isub hx hb dX12_numberHere_50 ?_
        refine lv_topi (fun x100 ex100 => ?_)
        have ex100 : x100.toInt = f34_0_14.toInt - v34_3.toInt := by rw [ex100]; exact wk_sub (show (-2147483648) ≤ f34_0_14.toInt - v34_3.toInt by omega) (show f34_0_14.toInt - v34_3.toInt ≤ 2147483647 by omega)
        refine lv_iconst (v := 5) hx hb dX12_numberHere_51 (by decide) ?_
        refine lv_icmp_ge (tgt := 75) hx hb dX12_numberHere_52 (by decide) (fun c101 => ?_) (fun c101 => ?_)
        · have c101 : (5 : Int) ≤ x100.toInt := wk_le.mp c101
          exact J75 v34_4 H locs ls w39 (show 1 ≤ a1.toInt by omega) (show a1.toInt ≤ 24 by omega) (show 0 ≤ v34_3.toInt by omega) (show v34_3.toInt ≤ 399 by omega) (show 1 ≤ f34_0_1.toInt by omega) (show f34_0_1.toInt ≤ 400 by omega) (show 0 ≤ f34_0_14.toInt by omega) (show f34_0_14.toInt ≤ 399 by omega)  hw hT hF c46 c49 (lv_sub hl [0, 1, 2, 3, 4] rfl)
        · have c101 : x100.toInt < (5 : Int) := wk_leF c101
          refine lv_bipush (v := 10) hx hb dX12_numberHere_55 (by decide) ?_
          refine lv_iload hx hb dX12_numberHere_57 (lv_at hl 4 rfl) ?_
          refine lv_imul hx hb dX12_numberHere_59 ?_
          have nx102 := wk_i32 v34_4
          refine lv_topi (fun x103 ex103 => ?_)
          refine lv_aload_n hx hb dX12_numberHere_60 rfl (lv_at hl 0 rfl) ?_
          refine tk_getA hC hK hw hT hinX12 kM_at0 (by decide) rfl 0 (by decide) (List.mem_of_getElem? (i := 2) rfl) rfl rfl dX12_numberHere_61 ?_
          refine lv_aload_n hx hb dX12_numberHere_64 rfl (lv_at hl 0 rfl) ?_
          refine tk_geti hC hK hw hT hinX12 kM_at0 (by decide) rfl 14 (by decide) (List.mem_of_getElem? (i := 1) rfl) rfl rfl dX12_numberHere_65 (fun x104 c105 rx104 tx104 => ?_)
          refine wk_top f34_0_14 (c105.symm.trans c49) ?_
          refine tk_bald hC hK hw hT kM_at1 rfl rfl (show 0 ≤ f34_0_14.toInt by omega) (show f34_0_14.toInt < 400 by omega) dX12_numberHere_68 (fun x106 c107 rx106 tx106 => ?_)
          have c107 : gi w39 1 (f34_0_14.toInt).toNat = x106 := (congrArg (gi w39 1) (congrArg Int.toNat (show f34_0_14.toInt = f34_0_14.toInt by omega))).trans c107
          refine lv_iadd hx hb dX12_numberHere_69 ?_
          have nx108 := wk_i32 x103
          refine lv_topi (fun x109 ex109 => ?_)
          refine lv_bipush (v := 48) hx hb dX12_numberHere_70 (by decide) ?_
          refine lv_isub hx hb dX12_numberHere_72 ?_
          have nx110 := wk_i32 x109
          refine lv_topi (fun x111 ex111 => ?_)
          refine lv_istore (lv' := [(4, .int x111), (0, .ref (ad 0)), (1, .int a1), (2, .int 24), (3, .int v34_3)]) hx hb dX12_numberHere_73 hl (by decide) rfl (fun ls hl => ?_)
          exact J75 x111 H locs ls w39 (show 1 ≤ a1.toInt by omega) (show a1.toInt ≤ 24 by omega) (show 0 ≤ v34_3.toInt by omega) (show v34_3.toInt ≤ 399 by omega) (show 1 ≤ f34_0_1.toInt by omega) (show f34_0_1.toInt ≤ 400 by omega) (show 0 ≤ f34_0_14.toInt by omega) (show f34_0_14.toInt ≤ 399 by omega)  hw hT hF c46 c49 (lv_sub hl [1, 2, 3, 4, 0] rfl)
  refine lv_aload_n hx hb dX12_numberHere_0 rfl (lv_at hl 0 rfl) ?_
  obtain ⟨x112, c113, rx112, tx112⟩ := hT.rdi (lo := 0) (hi := 400) (k := 14) kM_at0 (by decide) rfl
  refine tk_Vi hC hK hw hT hA hE hSR kM_at0 (by decide) rfl (k_X12_see_1 l adK adV dC dI cy ad B (by omega) (by omega) qr s1    w0 s.heap.size hT x112 c113 (show 0 ≤ x112.toInt by omega) (show x112.toInt ≤ 400 by omega)) (cwV 0 hC.2.2.2.2 gX12_numberHere_X12_see rfl rfl rfl (by decide +kernel) ⟨Nat.le_of_ble_eq_true rfl, Nat.le_of_ble_eq_true rfl⟩) rfl hl.1 rfl (Nat.le_of_ble_eq_true rfl) dX12_numberHere_1 (fun r114 w116 H locs hp115 hw => ?_)
  obtain ⟨hT, k117, hg134⟩ := hp115
  have hF := hF.tr k117 (by decide)
  rcases hg134 with ⟨g118, g119, ⟨x120, c121, rx120, tx120⟩, ⟨x122, c123, rx122, tx122⟩, g124, g125⟩ | ⟨rfl, ⟨x126, c127, rx126, tx126⟩, ⟨x128, c129, rx128, tx128⟩, g130⟩ | ⟨rfl, ⟨x131, c132, rx131, tx131⟩, g133⟩
  · have g124 : (gi w116 1 (x122.toInt).toNat).toInt ≠ 32 := by have q := g124; simp only [c123] at q; omega
    have g125 : (x122.toInt = x112.toInt ∨ (gi w0 1 (x112.toInt).toNat).toInt = 32) := by have q := g125; simp only [c113, c123] at q; omega
    refine lv_pop hx hb dX12_numberHere_4 rfl ?_
    refine lv_aload_n hx hb dX12_numberHere_5 rfl (lv_at hl 0 rfl) ?_
    refine lv_aload_n hx hb dX12_numberHere_6 rfl (lv_at hl 0 rfl) ?_
    refine tk_geti hC hK hw hT hinX12 kM_at0 (by decide) rfl 14 (by decide) (List.mem_of_getElem? (i := 1) rfl) rfl rfl dX12_numberHere_7 (fun x137 c138 rx137 tx137 => ?_)
    refine wk_top x122 (c138.symm.trans c123) ?_
    refine tk_Vi hC hK hw hT hA hE hSR kM_at0 (by decide) rfl (k_X12_isDigit_1 l adK adV dC dI cy ad B (by omega) (by omega) qr s1   x122 (show 0 ≤ x122.toInt by omega) (show x122.toInt ≤ 399 by omega) w116 H.size hT ) (cwV 1 hC.2.2.2.2 gX12_numberHere_X12_isDigit rfl rfl rfl (by decide +kernel) ⟨Nat.le_of_ble_eq_true rfl, Nat.le_of_ble_eq_true rfl⟩) rfl hl.1 rfl (Nat.le_of_ble_eq_true rfl) dX12_numberHere_10 (fun r139 w141 H locs hp140 hw => ?_)
    obtain ⟨rfl, hg147⟩ := hp140
    rcases hg147 with ⟨rfl, ⟨x143, c144, rx143, tx143⟩⟩ | ⟨rfl, ⟨x145, c146, rx145, tx145⟩⟩
    · have ex143 : x143.toInt = x120.toInt := by rw [← c121.symm.trans c144]
      refine lv_if_ne (tgt := 26) hx hb dX12_numberHere_13 (by decide) (fun c => absurd (by decide) c) (fun _ => ?_)
      refine lv_aload_n hx hb dX12_numberHere_16 rfl (lv_at hl 0 rfl) ?_
      refine lv_iconst (v := 0) hx hb dX12_numberHere_17 (by decide) ?_
      refine lv_aload_n hx hb dX12_numberHere_18 rfl (lv_at hl 0 rfl) ?_
      refine tk_geti hC hK hw hT hinX12 kM_at0 (by decide) rfl 14 (by decide) (List.mem_of_getElem? (i := 1) rfl) rfl rfl dX12_numberHere_19 (fun x148 c149 rx148 tx148 => ?_)
      refine wk_top x122 (c149.symm.trans c123) ?_
      refine tk_Vi hC hK hw hT hA hE hSR kM_at0 (by decide) rfl (k_X12_fails_1 l adK adV dC dI cy ad B (by omega) (by omega) qr s1   0 (by decide) (by decide) x122 (show 0 ≤ x122.toInt by omega) (show x122.toInt ≤ 400 by omega) w116 H.size hT ) (cwV 2 hC.2.2.2.2 gX12_numberHere_X12_fails rfl rfl rfl (by decide +kernel) ⟨Nat.le_of_ble_eq_true rfl, Nat.le_of_ble_eq_true rfl⟩) rfl hl.1 rfl (Nat.le_of_ble_eq_true rfl) dX12_numberHere_22 (fun r150 w152 H locs hp151 hw => ?_)
      obtain ⟨hT, k153, hg156⟩ := hp151
      have hF := hF.tr k153 (by decide)
      have c157 := k153.gi kM_at0 (by decide) c121
      have c158 := k153.gi kM_at0 (by decide) c123
      obtain ⟨rfl, ⟨x154, c155, rx154, tx154⟩⟩ := hg156
      exact tk_zret hC hr rfl hlocks hK ⟨hT, hF, (Or.inl ⟨rfl, ⟨x120, c157, (show 1 ≤ x120.toInt by omega), (show x120.toInt ≤ 400 by omega)⟩, ⟨x154, c155, (show 1 ≤ x154.toInt by omega), (show x154.toInt ≤ 3205 by omega)⟩⟩)⟩ hw dX12_numberHere_25
    · have ex145 : x145.toInt = x120.toInt := by rw [← c121.symm.trans c146]
      refine lv_if_ne (tgt := 26) hx hb dX12_numberHere_13 (by decide) (fun _ => ?_) (fun c => absurd c (by decide))
      refine lv_aload_n hx hb dX12_numberHere_26 rfl (lv_at hl 0 rfl) ?_
      refine tk_geti hC hK hw hT hinX12 kM_at0 (by decide) rfl 14 (by decide) (List.mem_of_getElem? (i := 1) rfl) rfl rfl dX12_numberHere_27 (fun x159 c160 rx159 tx159 => ?_)
      refine wk_top x122 (c160.symm.trans c123) ?_
      refine lv_istore_n (lv' := [(3, .int x122), (0, .ref (ad 0)), (1, .int a1), (2, .int 24)]) hx hb dX12_numberHere_30 rfl hl (by decide) rfl (fun ls hl => ?_)
      refine lv_iconst (v := 0) hx hb dX12_numberHere_31 (by decide) ?_
      refine lv_istore (lv' := [(4, .int 0), (3, .int x122), (0, .ref (ad 0)), (1, .int a1), (2, .int 24)]) hx hb dX12_numberHere_32 hl (by decide) rfl (fun ls hl => ?_)
      exact L34 ((400 - x122.toInt).toNat + 1) x122 0 x120 x122 H locs ls w116 (show 1 ≤ a1.toInt by omega) (show a1.toInt ≤ 24 by omega) (show 0 ≤ x122.toInt by omega) (show x122.toInt ≤ 399 by omega) (show 1 ≤ x120.toInt by omega) (show x120.toInt ≤ 400 by omega) (show 0 ≤ x122.toInt by omega) (show x122.toInt ≤ 400 by omega) (Nat.lt_succ_self _) hw hT hF c121 c123 (lv_sub hl [2, 3, 4, 1, 0] rfl)
  · have g130 : (x128.toInt = x112.toInt ∨ (gi w0 1 (x112.toInt).toNat).toInt = 32) := by have q := g130; simp only [c113, c129] at q; omega
    refine lv_pop hx hb dX12_numberHere_4 rfl ?_
    refine lv_aload_n hx hb dX12_numberHere_5 rfl (lv_at hl 0 rfl) ?_
    refine lv_aload_n hx hb dX12_numberHere_6 rfl (lv_at hl 0 rfl) ?_
    refine tk_geti hC hK hw hT hinX12 kM_at0 (by decide) rfl 14 (by decide) (List.mem_of_getElem? (i := 1) rfl) rfl rfl dX12_numberHere_7 (fun x161 c162 rx161 tx161 => ?_)
    refine wk_top x128 (c162.symm.trans c129) ?_
    refine tk_Vi hC hK hw hT hA hE hSR kM_at0 (by decide) rfl (k_X12_isDigit_3 l adK adV dC dI cy ad B (by omega) (by omega) qr s1   x128 (show 1 ≤ x128.toInt by omega) (show x128.toInt ≤ 399 by omega) w116 H.size hT ) (cwV 1 hC.2.2.2.2 gX12_numberHere_X12_isDigit rfl rfl rfl (by decide +kernel) ⟨Nat.le_of_ble_eq_true rfl, Nat.le_of_ble_eq_true rfl⟩) rfl hl.1 rfl (Nat.le_of_ble_eq_true rfl) dX12_numberHere_10 (fun r163 w165 H locs hp164 hw => ?_)
    obtain ⟨rfl, hg171⟩ := hp164
    rcases hg171 with ⟨rfl, ⟨x167, c168, rx167, tx167⟩⟩ | ⟨rfl, ⟨x169, c170, rx169, tx169⟩⟩
    · have ex167 : x167.toInt = x126.toInt := by rw [← c127.symm.trans c168]
      refine lv_if_ne (tgt := 26) hx hb dX12_numberHere_13 (by decide) (fun c => absurd (by decide) c) (fun _ => ?_)
      refine lv_aload_n hx hb dX12_numberHere_16 rfl (lv_at hl 0 rfl) ?_
      refine lv_iconst (v := 0) hx hb dX12_numberHere_17 (by decide) ?_
      refine lv_aload_n hx hb dX12_numberHere_18 rfl (lv_at hl 0 rfl) ?_
      refine tk_geti hC hK hw hT hinX12 kM_at0 (by decide) rfl 14 (by decide) (List.mem_of_getElem? (i := 1) rfl) rfl rfl dX12_numberHere_19 (fun x172 c173 rx172 tx172 => ?_)
      refine wk_top x128 (c173.symm.trans c129) ?_
      refine tk_Vi hC hK hw hT hA hE hSR kM_at0 (by decide) rfl (k_X12_fails_1 l adK adV dC dI cy ad B (by omega) (by omega) qr s1   0 (by decide) (by decide) x128 (show 0 ≤ x128.toInt by omega) (show x128.toInt ≤ 400 by omega) w116 H.size hT ) (cwV 2 hC.2.2.2.2 gX12_numberHere_X12_fails rfl rfl rfl (by decide +kernel) ⟨Nat.le_of_ble_eq_true rfl, Nat.le_of_ble_eq_true rfl⟩) rfl hl.1 rfl (Nat.le_of_ble_eq_true rfl) dX12_numberHere_22 (fun r174 w176 H locs hp175 hw => ?_)
      obtain ⟨hT, k177, hg180⟩ := hp175
      have hF := hF.tr k177 (by decide)
      have c181 := k177.gi kM_at0 (by decide) c127
      have c182 := k177.gi kM_at0 (by decide) c129
      obtain ⟨rfl, ⟨x178, c179, rx178, tx178⟩⟩ := hg180
      exact tk_zret hC hr rfl hlocks hK ⟨hT, hF, (Or.inl ⟨rfl, ⟨x126, c181, (show 1 ≤ x126.toInt by omega), (show x126.toInt ≤ 400 by omega)⟩, ⟨x178, c179, (show 1 ≤ x178.toInt by omega), (show x178.toInt ≤ 3205 by omega)⟩⟩)⟩ hw dX12_numberHere_25
    · have ex169 : x169.toInt = x126.toInt := by rw [← c127.symm.trans c170]
      refine lv_if_ne (tgt := 26) hx hb dX12_numberHere_13 (by decide) (fun _ => ?_) (fun c => absurd c (by decide))
      refine lv_aload_n hx hb dX12_numberHere_26 rfl (lv_at hl 0 rfl) ?_
      refine tk_geti hC hK hw hT hinX12 kM_at0 (by decide) rfl 14 (by decide) (List.mem_of_getElem? (i := 1) rfl) rfl rfl dX12_numberHere_27 (fun x183 c184 rx183 tx183 => ?_)
      refine wk_top x128 (c184.symm.trans c129) ?_
      refine lv_istore_n (lv' := [(3, .int x128), (0, .ref (ad 0)), (1, .int a1), (2, .int 24)]) hx hb dX12_numberHere_30 rfl hl (by decide) rfl (fun ls hl => ?_)
      refine lv_iconst (v := 0) hx hb dX12_numberHere_31 (by decide) ?_
      refine lv_istore (lv' := [(4, .int 0), (3, .int x128), (0, .ref (ad 0)), (1, .int a1), (2, .int 24)]) hx hb dX12_numberHere_32 hl (by decide) rfl (fun ls hl => ?_)
      exact L34 ((400 - x128.toInt).toNat + 1) x128 0 x126 x128 H locs ls w116 (show 1 ≤ a1.toInt by omega) (show a1.toInt ≤ 24 by omega) (show 0 ≤ x128.toInt by omega) (show x128.toInt ≤ 399 by omega) (show 1 ≤ x126.toInt by omega) (show x126.toInt ≤ 400 by omega) (show 0 ≤ x128.toInt by omega) (show x128.toInt ≤ 400 by omega) (Nat.lt_succ_self _) hw hT hF c127 c129 (lv_sub hl [2, 3, 4, 1, 0] rfl)
  · obtain ⟨x135, c136, rx135, tx135⟩ := hT.rdi (lo := 0) (hi := 400) (k := 14) kM_at0 (by decide) rfl
    have g133 : (x135.toInt = x112.toInt ∨ (gi w0 1 (x112.toInt).toNat).toInt = 32) := by have q := g133; simp only [c113, c136] at q; omega
    refine lv_pop hx hb dX12_numberHere_4 rfl ?_
    refine lv_aload_n hx hb dX12_numberHere_5 rfl (lv_at hl 0 rfl) ?_
    refine lv_aload_n hx hb dX12_numberHere_6 rfl (lv_at hl 0 rfl) ?_
    refine tk_geti hC hK hw hT hinX12 kM_at0 (by decide) rfl 14 (by decide) (List.mem_of_getElem? (i := 1) rfl) rfl rfl dX12_numberHere_7 (fun x185 c186 rx185 tx185 => ?_)
    refine wk_top x135 (c186.symm.trans c136) ?_
    refine tk_Vi hC hK hw hT hA hE hSR kM_at0 (by decide) rfl (k_X12_isDigit_2 l adK adV dC dI cy ad B (by omega) (by omega) qr s1   x135 (show 0 ≤ x135.toInt by omega) (show x135.toInt ≤ 400 by omega) w116 H.size hT ) (cwV 1 hC.2.2.2.2 gX12_numberHere_X12_isDigit rfl rfl rfl (by decide +kernel) ⟨Nat.le_of_ble_eq_true rfl, Nat.le_of_ble_eq_true rfl⟩) rfl hl.1 rfl (Nat.le_of_ble_eq_true rfl) dX12_numberHere_10 (fun r187 w189 H locs hp188 hw => ?_)
    obtain ⟨rfl, hg196⟩ := hp188
    rcases hg196 with ⟨rfl, ⟨x191, c192, rx191, tx191⟩⟩ | ⟨rfl, g193, ⟨x194, c195, rx194, tx194⟩⟩
    · have ex191 : x191.toInt = x131.toInt := by rw [← c132.symm.trans c192]
      refine lv_if_ne (tgt := 26) hx hb dX12_numberHere_13 (by decide) (fun c => absurd (by decide) c) (fun _ => ?_)
      refine lv_aload_n hx hb dX12_numberHere_16 rfl (lv_at hl 0 rfl) ?_
      refine lv_iconst (v := 0) hx hb dX12_numberHere_17 (by decide) ?_
      refine lv_aload_n hx hb dX12_numberHere_18 rfl (lv_at hl 0 rfl) ?_
      refine tk_geti hC hK hw hT hinX12 kM_at0 (by decide) rfl 14 (by decide) (List.mem_of_getElem? (i := 1) rfl) rfl rfl dX12_numberHere_19 (fun x197 c198 rx197 tx197 => ?_)
      refine wk_top x135 (c198.symm.trans c136) ?_
      refine tk_Vi hC hK hw hT hA hE hSR kM_at0 (by decide) rfl (k_X12_fails_1 l adK adV dC dI cy ad B (by omega) (by omega) qr s1   0 (by decide) (by decide) x135 (show 0 ≤ x135.toInt by omega) (show x135.toInt ≤ 400 by omega) w116 H.size hT ) (cwV 2 hC.2.2.2.2 gX12_numberHere_X12_fails rfl rfl rfl (by decide +kernel) ⟨Nat.le_of_ble_eq_true rfl, Nat.le_of_ble_eq_true rfl⟩) rfl hl.1 rfl (Nat.le_of_ble_eq_true rfl) dX12_numberHere_22 (fun r199 w201 H locs hp200 hw => ?_)
      obtain ⟨hT, k202, hg205⟩ := hp200
      have hF := hF.tr k202 (by decide)
      have c206 := k202.gi kM_at0 (by decide) c132
      have c207 := k202.gi kM_at0 (by decide) c136
      obtain ⟨rfl, ⟨x203, c204, rx203, tx203⟩⟩ := hg205
      exact tk_zret hC hr rfl hlocks hK ⟨hT, hF, (Or.inr (Or.inl ⟨rfl, ⟨x131, c206, (show 0 ≤ x131.toInt by omega), (show x131.toInt ≤ 400 by omega)⟩, ⟨x203, c204, (show 1 ≤ x203.toInt by omega), (show x203.toInt ≤ 3205 by omega)⟩⟩))⟩ hw dX12_numberHere_25
    · have ex194 : x194.toInt = x131.toInt := by rw [← c132.symm.trans c195]
      refine lv_if_ne (tgt := 26) hx hb dX12_numberHere_13 (by decide) (fun _ => ?_) (fun c => absurd c (by decide))
      refine lv_aload_n hx hb dX12_numberHere_26 rfl (lv_at hl 0 rfl) ?_
      refine tk_geti hC hK hw hT hinX12 kM_at0 (by decide) rfl 14 (by decide) (List.mem_of_getElem? (i := 1) rfl) rfl rfl dX12_numberHere_27 (fun x208 c209 rx208 tx208 => ?_)
      refine wk_top x135 (c209.symm.trans c136) ?_
      refine lv_istore_n (lv' := [(3, .int x135), (0, .ref (ad 0)), (1, .int a1), (2, .int 24)]) hx hb dX12_numberHere_30 rfl hl (by decide) rfl (fun ls hl => ?_)
      refine lv_iconst (v := 0) hx hb dX12_numberHere_31 (by decide) ?_
      refine lv_istore (lv' := [(4, .int 0), (3, .int x135), (0, .ref (ad 0)), (1, .int a1), (2, .int 24)]) hx hb dX12_numberHere_32 hl (by decide) rfl (fun ls hl => ?_)
      exact L34 ((400 - x135.toInt).toNat + 1) x135 0 x131 x135 H locs ls w116 (show 1 ≤ a1.toInt by omega) (show a1.toInt ≤ 24 by omega) (show 0 ≤ x135.toInt by omega) (show x135.toInt ≤ 399 by omega) (show 1 ≤ x131.toInt by omega) (show x131.toInt ≤ 400 by omega) (show 0 ≤ x135.toInt by omega) (show x135.toInt ≤ 400 by omega) (Nat.lt_succ_self _) hw hT hF c132 c136 (lv_sub hl [2, 3, 4, 1, 0] rfl)
abbrev P_X12_isLiftHere_1 (ad : Nat → Nat) (cy : Nat → ClassId) (B : Int) (qr : Nat) (s1 : Int) (a1 : Int32) (w0 : va_W) : Int32 → va_W → Prop := fun r u => TW ksM ad cy B qr 12 u ∧ FE ksM [(12, 10, 10), (12, 14, 14), (12, 15, 15), (12, 16, 16), (67, 0, 12)] w0 u ∧ ((r = 0 ∧ (∃ y : Int32, gi u 0 10 = y ∧ 4 ≤ y.toInt ∧ y.toInt ≤ 4) ∧ (∃ y : Int32, gi u 0 15 = y ∧ 1 ≤ y.toInt ∧ y.toInt ≤ 3205)) ∨ (r = 0 ∧ (∃ y : Int32, gi u 0 1 = y ∧ 1 ≤ y.toInt ∧ y.toInt ≤ 400) ∧ (∃ y : Int32, gi u 0 10 = y ∧ 0 ≤ y.toInt ∧ y.toInt ≤ 3) ∧ (∃ y : Int32, gi u 0 15 = y ∧ 1 ≤ y.toInt ∧ y.toInt ≤ 3205)) ∨ (r = 0 ∧ (∃ y : Int32, gi u 0 1 = y ∧ 0 ≤ y.toInt ∧ y.toInt ≤ 400) ∧ (∃ y : Int32, gi u 0 10 = y ∧ 0 ≤ y.toInt ∧ y.toInt ≤ 3) ∧ (∃ y : Int32, gi u 0 15 = y ∧ 1 ≤ y.toInt ∧ y.toInt ≤ 3205)) ∨ (r = 1 ∧ (∃ y : Int32, gi u 0 1 = y ∧ 1 ≤ y.toInt ∧ y.toInt ≤ 400) ∧ (∃ y : Int32, gi u 0 8 = y ∧ 1 ≤ y.toInt ∧ y.toInt ≤ 12) ∧ (∃ y : Int32, gi u 0 10 = y ∧ 1 ≤ y.toInt ∧ y.toInt ≤ 4) ∧ (∃ y : Int32, gi u 0 16 = y ∧ 1 ≤ y.toInt ∧ y.toInt ≤ 24)))
set_option maxHeartbeats 4000000 in
set_option maxRecDepth 100000 in
theorem k_X12_isLiftHere_1 (l : Launch) (adK adV : Nat → Nat) (dC : Nat → ClassId) (dI : Nat → Nat → Nat) (cy : Nat → ClassId) (ad : Nat → Nat) (B : Int) (hB0 : 100000 ≤ B) (hB1 : B ≤ 1073741824) (qr : Nat) (s1 : Int)  (a1 : Int32) (ra1 : 0 ≤ a1.toInt) (ta1 : a1.toInt ≤ 400) (w0 : va_W) (sz : Nat) (hT : TW ksM ad cy B qr 12 w0)  : Met l yX12_isLiftHere wsX12_isLiftHere ({ frames := 3, cells := 0, slots := 0, locals := 61 }) (va_Pc [.ref (ad 0), .int a1] (wpreS adK adV dC dI cy sz w0)) (va_Qi (P_X12_isLiftHere_1 ad cy B qr s1 a1 w0) (fun u : va_W => wpost dC dI cy (va_A w0 sz) u) (va_A w0 sz)) 0 0 (va_A w0 sz) := by
  refine Met.ofW (cc := cX12_isLiftHere) (maxL := 3) (ret := (some .boolean)) (by decide) rfl ?_
  intro p e s m args below meth c s₁ Bk hml hv
  obtain ⟨rfl, ⟨hsz, hP, hK, hD0⟩, hE, hSR⟩ := hv
  have hx := Bk.exec
  have hb := Bk.bytes
  have hr := Bk.returns
  have hlocks := Bk.notSynchronized
  have hC : CallFix p m c cX12_isLiftHere 3 s _ wsX12_isLiftHere RX12 := ⟨hx, hb, hml, findClass_of_methodNamed Bk.named, atoms_spec (ws := wsX12_isLiftHere) Bk.pre⟩
  subst hsz
  have hD := hD0.self (sz := s.heap.size)
  generalize hAe : va_A w0 s.heap.size = A at hD hE ⊢
  have hA : ∀ q : Nat, s.heap.size ≤ q → A q := fun q h => by rw [← hAe]; exact Or.inr h
  have hw : Wd dC dI A s.heap s.heap [] w0 := ⟨hP, hD, va_S.rf⟩
  have hF : FE ksM [(12, 10, 10), (12, 14, 14), (12, 15, 15), (12, 16, 16), (67, 0, 12)] w0 w0 := FE.rf
  have hl := lv_entry ([.ref (ad 0), .int a1]) (n := 3) (Nat.le_of_ble_eq_true rfl)
  rw [lg_entry_eq]
  generalize (lg_sl ([.ref (ad 0), .int a1]) ++ List.replicate (3 - (lg_sl ([.ref (ad 0), .int a1])).length) Slot.unset).toArray = ls at hl ⊢
  have hl : lv_has ls 3 [(0, .ref (ad 0)), (1, .int a1)] := hl
  generalize hloc : ([] : List Loc) = locs at hw ⊢
  have hinX12 : ∀ w ∈ u_ws RX12 TX12 42, w ∈ wsX12_isLiftHere := fun _ h => List.mem_cons_of_mem _ (List.mem_append_right _ (h))
  refine lv_aload_n hx hb dX12_isLiftHere_0 rfl (lv_at hl 0 rfl) ?_
  refine tk_geti hC hK hw hT hinX12 kM_at0 (by decide) rfl 10 (by decide) (List.mem_of_getElem? (i := 1) rfl) rfl rfl dX12_isLiftHere_1 (fun x1 c2 rx1 tx1 => ?_)
  refine lv_iconst (v := 4) hx hb dX12_isLiftHere_4 (by decide) ?_
  refine lv_icmp_ne (tgt := 15) hx hb dX12_isLiftHere_5 (by decide) (fun c3 => ?_) (fun c3 => ?_)
  · have c3 : ¬ x1.toInt = (4 : Int) := wk_eqF c3
    refine lv_aload_n hx hb dX12_isLiftHere_15 rfl (lv_at hl 0 rfl) ?_
    refine tk_Vv hC hK hw hT hA hE hSR kM_at0 (by decide) rfl (k_X12_passWord_1 l adK adV dC dI cy ad B (by omega) (by omega) qr s1    w0 s.heap.size hT ) (cwV 0 hC.2.2.2.2 gX12_isLiftHere_X12_passWord rfl rfl rfl (by decide +kernel) ⟨Nat.le_of_ble_eq_true rfl, Nat.le_of_ble_eq_true rfl⟩) rfl hl.1 rfl (Nat.le_of_ble_eq_true rfl) dX12_isLiftHere_16 (fun w6 H locs hp5 hw => ?_)
    obtain ⟨hT, k7, hg14⟩ := hp5
    have hF := hF.tr k7 (by decide)
    have c15 := k7.gi kM_at0 (by decide) c2
    rcases hg14 with ⟨⟨x8, c9, rx8, tx8⟩, ⟨x10, c11, rx10, tx10⟩⟩ | ⟨x12, c13, rx12, tx12⟩
    · refine lv_iconst (v := 3) hx hb dX12_isLiftHere_19 (by decide) ?_
      refine lv_aload_n hx hb dX12_isLiftHere_20 rfl (lv_at hl 0 rfl) ?_
      refine tk_geti hC hK hw hT hinX12 kM_at0 (by decide) rfl 10 (by decide) (List.mem_of_getElem? (i := 1) rfl) rfl rfl dX12_isLiftHere_21 (fun x16 c17 rx16 tx16 => ?_)
      refine wk_top x1 (c17.symm.trans c15) ?_
      refine lv_imul hx hb dX12_isLiftHere_24 ?_
      refine lv_topi (fun x18 ex18 => ?_)
      have ex18 : x18.toInt = (3 : Int) * x1.toInt := by rw [ex18]; exact wk_mul (show (-2147483648) ≤ (3 : Int) * x1.toInt by omega) (show (3 : Int) * x1.toInt ≤ 2147483647 by omega)
      refine lv_istore_n (lv' := [(2, .int x18), (0, .ref (ad 0)), (1, .int a1)]) hx hb dX12_isLiftHere_25 rfl hl (by decide) rfl (fun ls hl => ?_)
      refine lv_aload_n hx hb dX12_isLiftHere_26 rfl (lv_at hl 1 rfl) ?_
      refine lv_iconst (v := 0) hx hb dX12_isLiftHere_27 (by decide) ?_
      refine lv_aload_n hx hb dX12_isLiftHere_28 rfl (lv_at hl 1 rfl) ?_
      refine tk_geti hC hK hw hT hinX12 kM_at0 (by decide) rfl 8 (by decide) (List.mem_of_getElem? (i := 2) rfl) rfl rfl dX12_isLiftHere_29 (fun x19 c20 rx19 tx19 => ?_)
      refine lv_iconst (v := 1) hx hb dX12_isLiftHere_32 (by decide) ?_
      refine lv_isub hx hb dX12_isLiftHere_33 ?_
      refine lv_topi (fun x21 ex21 => ?_)
      have ex21 : x21.toInt = x19.toInt - (1 : Int) := by rw [ex21]; exact wk_sub (show (-2147483648) ≤ x19.toInt - (1 : Int) by omega) (show x19.toInt - (1 : Int) ≤ 2147483647 by omega)
      refine tk_Vi hC hK hw hT hA hE hSR kM_at0 (by decide) rfl (k_X12_numberHere_2 l adK adV dC dI cy ad B (by omega) (by omega) qr s1   x21 (show (-1) ≤ x21.toInt by omega) (show x21.toInt ≤ 11 by omega) w6 H.size hT ) (cwV 2 hC.2.2.2.2 gX12_isLiftHere_X12_numberHere rfl rfl rfl (by decide +kernel) ⟨Nat.le_of_ble_eq_true rfl, Nat.le_of_ble_eq_true rfl⟩) rfl hl.1 rfl (Nat.le_of_ble_eq_true rfl) dX12_isLiftHere_34 (fun r22 w24 H locs hp23 hw => ?_)
      obtain ⟨hT, k25, hg39⟩ := hp23
      have hF := hF.tr k25 (by decide)
      have c40 := k25.gi kM_at0 (by decide) c15
      have c41 := k25.gi kM_at0 (by decide) c9
      have c42 := k25.gi kM_at0 (by decide) c20
      rcases hg39 with ⟨rfl, ⟨x26, c27, rx26, tx26⟩, ⟨x28, c29, rx28, tx28⟩⟩ | ⟨rfl, ⟨x30, c31, rx30, tx30⟩, ⟨x32, c33, rx32, tx32⟩⟩ | ⟨rfl, g34, ⟨x35, c36, rx35, tx35⟩, ⟨x37, c38, rx37, tx37⟩⟩
      · have ex26 : x26.toInt = x8.toInt := by rw [← c41.symm.trans c27]
        refine lv_if_ne (tgt := 42) hx hb dX12_isLiftHere_37 (by decide) (fun c => absurd (by decide) c) (fun _ => ?_)
        refine lv_iconst (v := 0) hx hb dX12_isLiftHere_40 (by decide) ?_
        exact tk_zret hC hr rfl hlocks hK ⟨hT, hF, (Or.inr (Or.inl ⟨rfl, ⟨x8, c41, (show 1 ≤ x8.toInt by omega), (show x8.toInt ≤ 400 by omega)⟩, ⟨x1, c40, (show 0 ≤ x1.toInt by omega), (show x1.toInt ≤ 3 by omega)⟩, ⟨x28, c29, (show 1 ≤ x28.toInt by omega), (show x28.toInt ≤ 3205 by omega)⟩⟩))⟩ hw dX12_isLiftHere_41
      · have ex30 : x30.toInt = x8.toInt := by rw [← c41.symm.trans c31]
        refine lv_if_ne (tgt := 42) hx hb dX12_isLiftHere_37 (by decide) (fun c => absurd (by decide) c) (fun _ => ?_)
        refine lv_iconst (v := 0) hx hb dX12_isLiftHere_40 (by decide) ?_
        exact tk_zret hC hr rfl hlocks hK ⟨hT, hF, (Or.inr (Or.inl ⟨rfl, ⟨x8, c41, (show 1 ≤ x8.toInt by omega), (show x8.toInt ≤ 400 by omega)⟩, ⟨x1, c40, (show 0 ≤ x1.toInt by omega), (show x1.toInt ≤ 3 by omega)⟩, ⟨x32, c33, (show 1 ≤ x32.toInt by omega), (show x32.toInt ≤ 3205 by omega)⟩⟩))⟩ hw dX12_isLiftHere_41
      · have ex35 : x35.toInt = x8.toInt := by rw [← c41.symm.trans c36]
        refine lv_if_ne (tgt := 42) hx hb dX12_isLiftHere_37 (by decide) (fun _ => ?_) (fun c => absurd c (by decide))
        refine lv_aload_n hx hb dX12_isLiftHere_42 rfl (lv_at hl 1 rfl) ?_
        refine tk_getA hC hK hw hT hinX12 kM_at0 (by decide) rfl 13 (by decide) (List.mem_of_getElem? (i := 3) rfl) rfl rfl dX12_isLiftHere_43 ?_
        refine lv_iload_n hx hb dX12_isLiftHere_46 rfl (lv_at hl 0 rfl) ?_
        refine lv_aload_n hx hb dX12_isLiftHere_47 rfl (lv_at hl 1 rfl) ?_
        refine tk_geti hC hK hw hT hinX12 kM_at0 (by decide) rfl 16 (by decide) (List.mem_of_getElem? (i := 4) rfl) rfl rfl dX12_isLiftHere_48 (fun x43 c44 rx43 tx43 => ?_)
        refine wk_top x37 (c44.symm.trans c38) ?_
        refine tk_iast hC hK hw hT kM_at8 (by decide) rfl rfl (show 0 ≤ x18.toInt by omega) (show x18.toInt < 12 by omega) (wk_i32 x37).1 (wk_i32 x37).2 dX12_isLiftHere_51 (fun H locs w45 hw hT k47 c46 => ?_)
        have hF := hF.put kM_at8 (inE_of (a := 0) (b := 12) (by decide) (show 0 ≤ x18.toInt.toNat by omega) (show x18.toInt.toNat ≤ 12 by omega)) k47
        have c48 := k47.gi (Or.inl (tk_ne kM_at0 kM_at8 (by decide))) c40
        have c49 := k47.gi (Or.inl (tk_ne kM_at0 kM_at8 (by decide))) c41
        have c50 := k47.gi (Or.inl (tk_ne kM_at0 kM_at8 (by decide))) c42
        have c51 := k47.gi (Or.inl (tk_ne kM_at0 kM_at8 (by decide))) c38
        refine lv_aload_n hx hb dX12_isLiftHere_52 rfl (lv_at hl 1 rfl) ?_
        refine lv_iconst (v := 0) hx hb dX12_isLiftHere_53 (by decide) ?_
        refine lv_bipush (v := 23) hx hb dX12_isLiftHere_54 (by decide) ?_
        refine tk_Vi hC hK hw hT hA hE hSR kM_at0 (by decide) rfl (k_X12_numberHere_3 l adK adV dC dI cy ad B (by omega) (by omega) qr s1    w45 H.size hT ) (cwV 2 hC.2.2.2.2 gX12_isLiftHere_X12_numberHere rfl rfl rfl (by decide +kernel) ⟨Nat.le_of_ble_eq_true rfl, Nat.le_of_ble_eq_true rfl⟩) rfl hl.1 rfl (Nat.le_of_ble_eq_true rfl) dX12_isLiftHere_56 (fun r52 w54 H locs hp53 hw => ?_)
        obtain ⟨hT, k55, hg68⟩ := hp53
        have hF := hF.tr k55 (by decide)
        have c69 := k55.gi kM_at0 (by decide) c48
        have c70 := k55.gi kM_at0 (by decide) c49
        have c71 := k55.gi kM_at0 (by decide) c50
        rcases hg68 with ⟨rfl, ⟨x56, c57, rx56, tx56⟩, ⟨x58, c59, rx58, tx58⟩⟩ | ⟨rfl, ⟨x60, c61, rx60, tx60⟩, ⟨x62, c63, rx62, tx62⟩⟩ | ⟨rfl, ⟨x64, c65, rx64, tx64⟩, ⟨x66, c67, rx66, tx66⟩⟩
        · have ex56 : x56.toInt = x8.toInt := by rw [← c70.symm.trans c57]
          refine lv_if_ne (tgt := 64) hx hb dX12_isLiftHere_59 (by decide) (fun c => absurd (by decide) c) (fun _ => ?_)
          refine lv_iconst (v := 0) hx hb dX12_isLiftHere_62 (by decide) ?_
          exact tk_zret hC hr rfl hlocks hK ⟨hT, hF, (Or.inr (Or.inl ⟨rfl, ⟨x8, c70, (show 1 ≤ x8.toInt by omega), (show x8.toInt ≤ 400 by omega)⟩, ⟨x1, c69, (show 0 ≤ x1.toInt by omega), (show x1.toInt ≤ 3 by omega)⟩, ⟨x58, c59, (show 1 ≤ x58.toInt by omega), (show x58.toInt ≤ 3205 by omega)⟩⟩))⟩ hw dX12_isLiftHere_63
        · have ex60 : x60.toInt = x8.toInt := by rw [← c70.symm.trans c61]
          refine lv_if_ne (tgt := 64) hx hb dX12_isLiftHere_59 (by decide) (fun c => absurd (by decide) c) (fun _ => ?_)
          refine lv_iconst (v := 0) hx hb dX12_isLiftHere_62 (by decide) ?_
          exact tk_zret hC hr rfl hlocks hK ⟨hT, hF, (Or.inr (Or.inl ⟨rfl, ⟨x8, c70, (show 1 ≤ x8.toInt by omega), (show x8.toInt ≤ 400 by omega)⟩, ⟨x1, c69, (show 0 ≤ x1.toInt by omega), (show x1.toInt ≤ 3 by omega)⟩, ⟨x62, c63, (show 1 ≤ x62.toInt by omega), (show x62.toInt ≤ 3205 by omega)⟩⟩))⟩ hw dX12_isLiftHere_63
        · have ex64 : x64.toInt = x8.toInt := by rw [← c70.symm.trans c65]
          refine lv_if_ne (tgt := 64) hx hb dX12_isLiftHere_59 (by decide) (fun _ => ?_) (fun c => absurd c (by decide))
          refine lv_aload_n hx hb dX12_isLiftHere_64 rfl (lv_at hl 1 rfl) ?_
          refine tk_getA hC hK hw hT hinX12 kM_at0 (by decide) rfl 13 (by decide) (List.mem_of_getElem? (i := 3) rfl) rfl rfl dX12_isLiftHere_65 ?_
          refine lv_iload_n hx hb dX12_isLiftHere_68 rfl (lv_at hl 0 rfl) ?_
          refine lv_iconst (v := 1) hx hb dX12_isLiftHere_69 (by decide) ?_
          refine lv_iadd hx hb dX12_isLiftHere_70 ?_
          refine lv_topi (fun x72 ex72 => ?_)
          have ex72 : x72.toInt = x18.toInt + (1 : Int) := by rw [ex72]; exact wk_add (show (-2147483648) ≤ x18.toInt + (1 : Int) by omega) (show x18.toInt + (1 : Int) ≤ 2147483647 by omega)
          refine lv_aload_n hx hb dX12_isLiftHere_71 rfl (lv_at hl 1 rfl) ?_
          refine tk_geti hC hK hw hT hinX12 kM_at0 (by decide) rfl 16 (by decide) (List.mem_of_getElem? (i := 4) rfl) rfl rfl dX12_isLiftHere_72 (fun x73 c74 rx73 tx73 => ?_)
          refine wk_top x66 (c74.symm.trans c67) ?_
          refine tk_iast hC hK hw hT kM_at8 (by decide) rfl rfl (show 0 ≤ x72.toInt by omega) (show x72.toInt < 12 by omega) (wk_i32 x66).1 (wk_i32 x66).2 dX12_isLiftHere_75 (fun H locs w75 hw hT k77 c76 => ?_)
          have hF := hF.put kM_at8 (inE_of (a := 0) (b := 12) (by decide) (show 0 ≤ x72.toInt.toNat by omega) (show x72.toInt.toNat ≤ 12 by omega)) k77
          have c78 := k77.gi (Or.inl (tk_ne kM_at0 kM_at8 (by decide))) c69
          have c79 := k77.gi (Or.inl (tk_ne kM_at0 kM_at8 (by decide))) c70
          have c80 := k77.gi (Or.inl (tk_ne kM_at0 kM_at8 (by decide))) c71
          have c81 := k77.gi (Or.inl (tk_ne kM_at0 kM_at8 (by decide))) c67
          refine lv_aload_n hx hb dX12_isLiftHere_76 rfl (lv_at hl 1 rfl) ?_
          refine lv_aload_n hx hb dX12_isLiftHere_77 rfl (lv_at hl 1 rfl) ?_
          refine tk_geti hC hK hw hT hinX12 kM_at0 (by decide) rfl 16 (by decide) (List.mem_of_getElem? (i := 4) rfl) rfl rfl dX12_isLiftHere_78 (fun x82 c83 rx82 tx82 => ?_)
          refine wk_top x66 (c83.symm.trans c81) ?_
          refine lv_iconst (v := 1) hx hb dX12_isLiftHere_81 (by decide) ?_
          refine lv_iadd hx hb dX12_isLiftHere_82 ?_
          refine lv_topi (fun x84 ex84 => ?_)
          have ex84 : x84.toInt = x66.toInt + (1 : Int) := by rw [ex84]; exact wk_add (show (-2147483648) ≤ x66.toInt + (1 : Int) by omega) (show x66.toInt + (1 : Int) ≤ 2147483647 by omega)
          refine lv_bipush (v := 24) hx hb dX12_isLiftHere_83 (by decide) ?_
          refine tk_Vi hC hK hw hT hA hE hSR kM_at0 (by decide) rfl (k_X12_numberHere_4 l adK adV dC dI cy ad B (by omega) (by omega) qr s1   x84 (show 1 ≤ x84.toInt by omega) (show x84.toInt ≤ 24 by omega) w75 H.size hT ) (cwV 2 hC.2.2.2.2 gX12_isLiftHere_X12_numberHere rfl rfl rfl (by decide +kernel) ⟨Nat.le_of_ble_eq_true rfl, Nat.le_of_ble_eq_true rfl⟩) rfl hl.1 rfl (Nat.le_of_ble_eq_true rfl) dX12_isLiftHere_85 (fun r85 w87 H locs hp86 hw => ?_)
          obtain ⟨hT, k88, hg101⟩ := hp86
          have hF := hF.tr k88 (by decide)
          have c102 := k88.gi kM_at0 (by decide) c78
          have c103 := k88.gi kM_at0 (by decide) c79
          have c104 := k88.gi kM_at0 (by decide) c80
          rcases hg101 with ⟨rfl, ⟨x89, c90, rx89, tx89⟩, ⟨x91, c92, rx91, tx91⟩⟩ | ⟨rfl, ⟨x93, c94, rx93, tx93⟩, ⟨x95, c96, rx95, tx95⟩⟩ | ⟨rfl, ⟨x97, c98, rx97, tx97⟩, ⟨x99, c100, rx99, tx99⟩⟩
          · have ex89 : x89.toInt = x8.toInt := by rw [← c103.symm.trans c90]
            refine lv_if_ne (tgt := 93) hx hb dX12_isLiftHere_88 (by decide) (fun c => absurd (by decide) c) (fun _ => ?_)
            refine lv_iconst (v := 0) hx hb dX12_isLiftHere_91 (by decide) ?_
            exact tk_zret hC hr rfl hlocks hK ⟨hT, hF, (Or.inr (Or.inl ⟨rfl, ⟨x8, c103, (show 1 ≤ x8.toInt by omega), (show x8.toInt ≤ 400 by omega)⟩, ⟨x1, c102, (show 0 ≤ x1.toInt by omega), (show x1.toInt ≤ 3 by omega)⟩, ⟨x91, c92, (show 1 ≤ x91.toInt by omega), (show x91.toInt ≤ 3205 by omega)⟩⟩))⟩ hw dX12_isLiftHere_92
          · have ex93 : x93.toInt = x8.toInt := by rw [← c103.symm.trans c94]
            refine lv_if_ne (tgt := 93) hx hb dX12_isLiftHere_88 (by decide) (fun c => absurd (by decide) c) (fun _ => ?_)
            refine lv_iconst (v := 0) hx hb dX12_isLiftHere_91 (by decide) ?_
            exact tk_zret hC hr rfl hlocks hK ⟨hT, hF, (Or.inr (Or.inl ⟨rfl, ⟨x8, c103, (show 1 ≤ x8.toInt by omega), (show x8.toInt ≤ 400 by omega)⟩, ⟨x1, c102, (show 0 ≤ x1.toInt by omega), (show x1.toInt ≤ 3 by omega)⟩, ⟨x95, c96, (show 1 ≤ x95.toInt by omega), (show x95.toInt ≤ 3205 by omega)⟩⟩))⟩ hw dX12_isLiftHere_92
          · have ex97 : x97.toInt = x8.toInt := by rw [← c103.symm.trans c98]
            refine lv_if_ne (tgt := 93) hx hb dX12_isLiftHere_88 (by decide) (fun _ => ?_) (fun c => absurd c (by decide))
            refine lv_aload_n hx hb dX12_isLiftHere_93 rfl (lv_at hl 1 rfl) ?_
            refine tk_getA hC hK hw hT hinX12 kM_at0 (by decide) rfl 13 (by decide) (List.mem_of_getElem? (i := 3) rfl) rfl rfl dX12_isLiftHere_94 ?_
            refine lv_iload_n hx hb dX12_isLiftHere_97 rfl (lv_at hl 0 rfl) ?_
            refine lv_iconst (v := 2) hx hb dX12_isLiftHere_98 (by decide) ?_
            refine lv_iadd hx hb dX12_isLiftHere_99 ?_
            refine lv_topi (fun x105 ex105 => ?_)
            have ex105 : x105.toInt = x18.toInt + (2 : Int) := by rw [ex105]; exact wk_add (show (-2147483648) ≤ x18.toInt + (2 : Int) by omega) (show x18.toInt + (2 : Int) ≤ 2147483647 by omega)
            refine lv_aload_n hx hb dX12_isLiftHere_100 rfl (lv_at hl 1 rfl) ?_
            refine tk_geti hC hK hw hT hinX12 kM_at0 (by decide) rfl 16 (by decide) (List.mem_of_getElem? (i := 4) rfl) rfl rfl dX12_isLiftHere_101 (fun x106 c107 rx106 tx106 => ?_)
            refine wk_top x99 (c107.symm.trans c100) ?_
            refine tk_iast hC hK hw hT kM_at8 (by decide) rfl rfl (show 0 ≤ x105.toInt by omega) (show x105.toInt < 12 by omega) (wk_i32 x99).1 (wk_i32 x99).2 dX12_isLiftHere_104 (fun H locs w108 hw hT k110 c109 => ?_)
            have hF := hF.put kM_at8 (inE_of (a := 0) (b := 12) (by decide) (show 0 ≤ x105.toInt.toNat by omega) (show x105.toInt.toNat ≤ 12 by omega)) k110
            have c111 := k110.gi (Or.inl (tk_ne kM_at0 kM_at8 (by decide))) c102
            have c112 := k110.gi (Or.inl (tk_ne kM_at0 kM_at8 (by decide))) c103
            have c113 := k110.gi (Or.inl (tk_ne kM_at0 kM_at8 (by decide))) c104
            have c114 := k110.gi (Or.inl (tk_ne kM_at0 kM_at8 (by decide))) c100
            refine lv_aload_n hx hb dX12_isLiftHere_105 rfl (lv_at hl 1 rfl) ?_
            refine lv_dup hx hb dX12_isLiftHere_106 rfl ?_
            refine tk_geti hC hK hw hT hinX12 kM_at0 (by decide) rfl 10 (by decide) (List.mem_of_getElem? (i := 1) rfl) rfl rfl dX12_isLiftHere_107 (fun x115 c116 rx115 tx115 => ?_)
            refine wk_top x1 (c116.symm.trans c111) ?_
            refine lv_iconst (v := 1) hx hb dX12_isLiftHere_110 (by decide) ?_
            refine lv_iadd hx hb dX12_isLiftHere_111 ?_
            refine lv_topi (fun x117 ex117 => ?_)
            have ex117 : x117.toInt = x1.toInt + (1 : Int) := by rw [ex117]; exact wk_add (show (-2147483648) ≤ x1.toInt + (1 : Int) by omega) (show x1.toInt + (1 : Int) ≤ 2147483647 by omega)
            refine tk_puti hC hK hw hT hinX12 tyX12_ok nmX12 kM_at0 (by decide) rfl rfl 10 (by decide) (List.mem_of_getElem? (i := 1) rfl) rfl rfl rfl rfl (show 0 ≤ x117.toInt by omega) (show x117.toInt ≤ 4 by omega) dX12_isLiftHere_112 (fun H locs w118 hw hT k120 c119 => ?_)
            have hF := hF.put kM_at0 (k := 10) (by decide) k120
            have c121 := k120.gi (Or.inr (by decide)) c112
            have c122 := k120.gi (Or.inr (by decide)) c113
            have c123 := k120.gi (Or.inr (by decide)) c114
            refine lv_iconst (v := 1) hx hb dX12_isLiftHere_115 (by decide) ?_
            exact tk_zret hC hr rfl hlocks hK ⟨hT, hF, (Or.inr (Or.inr (Or.inr ⟨rfl, ⟨x8, c121, (show 1 ≤ x8.toInt by omega), (show x8.toInt ≤ 400 by omega)⟩, ⟨x19, c122, (show 1 ≤ x19.toInt by omega), (show x19.toInt ≤ 12 by omega)⟩, ⟨x117, c119, (show 1 ≤ x117.toInt by omega), (show x117.toInt ≤ 4 by omega)⟩, ⟨x99, c123, (show 1 ≤ x99.toInt by omega), (show x99.toInt ≤ 24 by omega)⟩⟩)))⟩ hw dX12_isLiftHere_116
    · refine lv_iconst (v := 3) hx hb dX12_isLiftHere_19 (by decide) ?_
      refine lv_aload_n hx hb dX12_isLiftHere_20 rfl (lv_at hl 0 rfl) ?_
      refine tk_geti hC hK hw hT hinX12 kM_at0 (by decide) rfl 10 (by decide) (List.mem_of_getElem? (i := 1) rfl) rfl rfl dX12_isLiftHere_21 (fun x124 c125 rx124 tx124 => ?_)
      refine wk_top x1 (c125.symm.trans c15) ?_
      refine lv_imul hx hb dX12_isLiftHere_24 ?_
      refine lv_topi (fun x126 ex126 => ?_)
      have ex126 : x126.toInt = (3 : Int) * x1.toInt := by rw [ex126]; exact wk_mul (show (-2147483648) ≤ (3 : Int) * x1.toInt by omega) (show (3 : Int) * x1.toInt ≤ 2147483647 by omega)
      refine lv_istore_n (lv' := [(2, .int x126), (0, .ref (ad 0)), (1, .int a1)]) hx hb dX12_isLiftHere_25 rfl hl (by decide) rfl (fun ls hl => ?_)
      refine lv_aload_n hx hb dX12_isLiftHere_26 rfl (lv_at hl 1 rfl) ?_
      refine lv_iconst (v := 0) hx hb dX12_isLiftHere_27 (by decide) ?_
      refine lv_aload_n hx hb dX12_isLiftHere_28 rfl (lv_at hl 1 rfl) ?_
      refine tk_geti hC hK hw hT hinX12 kM_at0 (by decide) rfl 8 (by decide) (List.mem_of_getElem? (i := 2) rfl) rfl rfl dX12_isLiftHere_29 (fun x127 c128 rx127 tx127 => ?_)
      refine lv_iconst (v := 1) hx hb dX12_isLiftHere_32 (by decide) ?_
      refine lv_isub hx hb dX12_isLiftHere_33 ?_
      refine lv_topi (fun x129 ex129 => ?_)
      have ex129 : x129.toInt = x127.toInt - (1 : Int) := by rw [ex129]; exact wk_sub (show (-2147483648) ≤ x127.toInt - (1 : Int) by omega) (show x127.toInt - (1 : Int) ≤ 2147483647 by omega)
      refine tk_Vi hC hK hw hT hA hE hSR kM_at0 (by decide) rfl (k_X12_numberHere_2 l adK adV dC dI cy ad B (by omega) (by omega) qr s1   x129 (show (-1) ≤ x129.toInt by omega) (show x129.toInt ≤ 11 by omega) w6 H.size hT ) (cwV 2 hC.2.2.2.2 gX12_isLiftHere_X12_numberHere rfl rfl rfl (by decide +kernel) ⟨Nat.le_of_ble_eq_true rfl, Nat.le_of_ble_eq_true rfl⟩) rfl hl.1 rfl (Nat.le_of_ble_eq_true rfl) dX12_isLiftHere_34 (fun r130 w132 H locs hp131 hw => ?_)
      obtain ⟨hT, k133, hg147⟩ := hp131
      have hF := hF.tr k133 (by decide)
      have c148 := k133.gi kM_at0 (by decide) c15
      have c149 := k133.gi kM_at0 (by decide) c13
      have c150 := k133.gi kM_at0 (by decide) c128
      rcases hg147 with ⟨rfl, ⟨x134, c135, rx134, tx134⟩, ⟨x136, c137, rx136, tx136⟩⟩ | ⟨rfl, ⟨x138, c139, rx138, tx138⟩, ⟨x140, c141, rx140, tx140⟩⟩ | ⟨rfl, g142, ⟨x143, c144, rx143, tx143⟩, ⟨x145, c146, rx145, tx145⟩⟩
      · have ex134 : x134.toInt = x12.toInt := by rw [← c149.symm.trans c135]
        refine lv_if_ne (tgt := 42) hx hb dX12_isLiftHere_37 (by decide) (fun c => absurd (by decide) c) (fun _ => ?_)
        refine lv_iconst (v := 0) hx hb dX12_isLiftHere_40 (by decide) ?_
        exact tk_zret hC hr rfl hlocks hK ⟨hT, hF, (Or.inr (Or.inl ⟨rfl, ⟨x12, c149, (show 1 ≤ x12.toInt by omega), (show x12.toInt ≤ 400 by omega)⟩, ⟨x1, c148, (show 0 ≤ x1.toInt by omega), (show x1.toInt ≤ 3 by omega)⟩, ⟨x136, c137, (show 1 ≤ x136.toInt by omega), (show x136.toInt ≤ 3205 by omega)⟩⟩))⟩ hw dX12_isLiftHere_41
      · have ex138 : x138.toInt = x12.toInt := by rw [← c149.symm.trans c139]
        refine lv_if_ne (tgt := 42) hx hb dX12_isLiftHere_37 (by decide) (fun c => absurd (by decide) c) (fun _ => ?_)
        refine lv_iconst (v := 0) hx hb dX12_isLiftHere_40 (by decide) ?_
        exact tk_zret hC hr rfl hlocks hK ⟨hT, hF, (Or.inr (Or.inr (Or.inl ⟨rfl, ⟨x12, c149, (show 0 ≤ x12.toInt by omega), (show x12.toInt ≤ 400 by omega)⟩, ⟨x1, c148, (show 0 ≤ x1.toInt by omega), (show x1.toInt ≤ 3 by omega)⟩, ⟨x140, c141, (show 1 ≤ x140.toInt by omega), (show x140.toInt ≤ 3205 by omega)⟩⟩)))⟩ hw dX12_isLiftHere_41
      · have ex143 : x143.toInt = x12.toInt := by rw [← c149.symm.trans c144]
        refine lv_if_ne (tgt := 42) hx hb dX12_isLiftHere_37 (by decide) (fun _ => ?_) (fun c => absurd c (by decide))
        refine lv_aload_n hx hb dX12_isLiftHere_42 rfl (lv_at hl 1 rfl) ?_
        refine tk_getA hC hK hw hT hinX12 kM_at0 (by decide) rfl 13 (by decide) (List.mem_of_getElem? (i := 3) rfl) rfl rfl dX12_isLiftHere_43 ?_
        refine lv_iload_n hx hb dX12_isLiftHere_46 rfl (lv_at hl 0 rfl) ?_
        refine lv_aload_n hx hb dX12_isLiftHere_47 rfl (lv_at hl 1 rfl) ?_
        refine tk_geti hC hK hw hT hinX12 kM_at0 (by decide) rfl 16 (by decide) (List.mem_of_getElem? (i := 4) rfl) rfl rfl dX12_isLiftHere_48 (fun x151 c152 rx151 tx151 => ?_)
        refine wk_top x145 (c152.symm.trans c146) ?_
        refine tk_iast hC hK hw hT kM_at8 (by decide) rfl rfl (show 0 ≤ x126.toInt by omega) (show x126.toInt < 12 by omega) (wk_i32 x145).1 (wk_i32 x145).2 dX12_isLiftHere_51 (fun H locs w153 hw hT k155 c154 => ?_)
        have hF := hF.put kM_at8 (inE_of (a := 0) (b := 12) (by decide) (show 0 ≤ x126.toInt.toNat by omega) (show x126.toInt.toNat ≤ 12 by omega)) k155
        have c156 := k155.gi (Or.inl (tk_ne kM_at0 kM_at8 (by decide))) c148
        have c157 := k155.gi (Or.inl (tk_ne kM_at0 kM_at8 (by decide))) c149
        have c158 := k155.gi (Or.inl (tk_ne kM_at0 kM_at8 (by decide))) c150
        have c159 := k155.gi (Or.inl (tk_ne kM_at0 kM_at8 (by decide))) c146
        refine lv_aload_n hx hb dX12_isLiftHere_52 rfl (lv_at hl 1 rfl) ?_
        refine lv_iconst (v := 0) hx hb dX12_isLiftHere_53 (by decide) ?_
        refine lv_bipush (v := 23) hx hb dX12_isLiftHere_54 (by decide) ?_
        refine tk_Vi hC hK hw hT hA hE hSR kM_at0 (by decide) rfl (k_X12_numberHere_3 l adK adV dC dI cy ad B (by omega) (by omega) qr s1    w153 H.size hT ) (cwV 2 hC.2.2.2.2 gX12_isLiftHere_X12_numberHere rfl rfl rfl (by decide +kernel) ⟨Nat.le_of_ble_eq_true rfl, Nat.le_of_ble_eq_true rfl⟩) rfl hl.1 rfl (Nat.le_of_ble_eq_true rfl) dX12_isLiftHere_56 (fun r160 w162 H locs hp161 hw => ?_)
        obtain ⟨hT, k163, hg176⟩ := hp161
        have hF := hF.tr k163 (by decide)
        have c177 := k163.gi kM_at0 (by decide) c156
        have c178 := k163.gi kM_at0 (by decide) c157
        have c179 := k163.gi kM_at0 (by decide) c158
        rcases hg176 with ⟨rfl, ⟨x164, c165, rx164, tx164⟩, ⟨x166, c167, rx166, tx166⟩⟩ | ⟨rfl, ⟨x168, c169, rx168, tx168⟩, ⟨x170, c171, rx170, tx170⟩⟩ | ⟨rfl, ⟨x172, c173, rx172, tx172⟩, ⟨x174, c175, rx174, tx174⟩⟩
        · have ex164 : x164.toInt = x12.toInt := by rw [← c178.symm.trans c165]
          refine lv_if_ne (tgt := 64) hx hb dX12_isLiftHere_59 (by decide) (fun c => absurd (by decide) c) (fun _ => ?_)
          refine lv_iconst (v := 0) hx hb dX12_isLiftHere_62 (by decide) ?_
          exact tk_zret hC hr rfl hlocks hK ⟨hT, hF, (Or.inr (Or.inl ⟨rfl, ⟨x12, c178, (show 1 ≤ x12.toInt by omega), (show x12.toInt ≤ 400 by omega)⟩, ⟨x1, c177, (show 0 ≤ x1.toInt by omega), (show x1.toInt ≤ 3 by omega)⟩, ⟨x166, c167, (show 1 ≤ x166.toInt by omega), (show x166.toInt ≤ 3205 by omega)⟩⟩))⟩ hw dX12_isLiftHere_63
        · have ex168 : x168.toInt = x12.toInt := by rw [← c178.symm.trans c169]
          refine lv_if_ne (tgt := 64) hx hb dX12_isLiftHere_59 (by decide) (fun c => absurd (by decide) c) (fun _ => ?_)
          refine lv_iconst (v := 0) hx hb dX12_isLiftHere_62 (by decide) ?_
          exact tk_zret hC hr rfl hlocks hK ⟨hT, hF, (Or.inr (Or.inl ⟨rfl, ⟨x12, c178, (show 1 ≤ x12.toInt by omega), (show x12.toInt ≤ 400 by omega)⟩, ⟨x1, c177, (show 0 ≤ x1.toInt by omega), (show x1.toInt ≤ 3 by omega)⟩, ⟨x170, c171, (show 1 ≤ x170.toInt by omega), (show x170.toInt ≤ 3205 by omega)⟩⟩))⟩ hw dX12_isLiftHere_63
        · have ex172 : x172.toInt = x12.toInt := by rw [← c178.symm.trans c173]
          refine lv_if_ne (tgt := 64) hx hb dX12_isLiftHere_59 (by decide) (fun _ => ?_) (fun c => absurd c (by decide))
          refine lv_aload_n hx hb dX12_isLiftHere_64 rfl (lv_at hl 1 rfl) ?_
          refine tk_getA hC hK hw hT hinX12 kM_at0 (by decide) rfl 13 (by decide) (List.mem_of_getElem? (i := 3) rfl) rfl rfl dX12_isLiftHere_65 ?_
          refine lv_iload_n hx hb dX12_isLiftHere_68 rfl (lv_at hl 0 rfl) ?_
          refine lv_iconst (v := 1) hx hb dX12_isLiftHere_69 (by decide) ?_
          refine lv_iadd hx hb dX12_isLiftHere_70 ?_
          refine lv_topi (fun x180 ex180 => ?_)
          have ex180 : x180.toInt = x126.toInt + (1 : Int) := by rw [ex180]; exact wk_add (show (-2147483648) ≤ x126.toInt + (1 : Int) by omega) (show x126.toInt + (1 : Int) ≤ 2147483647 by omega)
          refine lv_aload_n hx hb dX12_isLiftHere_71 rfl (lv_at hl 1 rfl) ?_
          refine tk_geti hC hK hw hT hinX12 kM_at0 (by decide) rfl 16 (by decide) (List.mem_of_getElem? (i := 4) rfl) rfl rfl dX12_isLiftHere_72 (fun x181 c182 rx181 tx181 => ?_)
          refine wk_top x174 (c182.symm.trans c175) ?_
          refine tk_iast hC hK hw hT kM_at8 (by decide) rfl rfl (show 0 ≤ x180.toInt by omega) (show x180.toInt < 12 by omega) (wk_i32 x174).1 (wk_i32 x174).2 dX12_isLiftHere_75 (fun H locs w183 hw hT k185 c184 => ?_)
          have hF := hF.put kM_at8 (inE_of (a := 0) (b := 12) (by decide) (show 0 ≤ x180.toInt.toNat by omega) (show x180.toInt.toNat ≤ 12 by omega)) k185
          have c186 := k185.gi (Or.inl (tk_ne kM_at0 kM_at8 (by decide))) c177
          have c187 := k185.gi (Or.inl (tk_ne kM_at0 kM_at8 (by decide))) c178
          have c188 := k185.gi (Or.inl (tk_ne kM_at0 kM_at8 (by decide))) c179
          have c189 := k185.gi (Or.inl (tk_ne kM_at0 kM_at8 (by decide))) c175
          refine lv_aload_n hx hb dX12_isLiftHere_76 rfl (lv_at hl 1 rfl) ?_
          refine lv_aload_n hx hb dX12_isLiftHere_77 rfl (lv_at hl 1 rfl) ?_
          refine tk_geti hC hK hw hT hinX12 kM_at0 (by decide) rfl 16 (by decide) (List.mem_of_getElem? (i := 4) rfl) rfl rfl dX12_isLiftHere_78 (fun x190 c191 rx190 tx190 => ?_)
          refine wk_top x174 (c191.symm.trans c189) ?_
          refine lv_iconst (v := 1) hx hb dX12_isLiftHere_81 (by decide) ?_
          refine lv_iadd hx hb dX12_isLiftHere_82 ?_
          refine lv_topi (fun x192 ex192 => ?_)
          have ex192 : x192.toInt = x174.toInt + (1 : Int) := by rw [ex192]; exact wk_add (show (-2147483648) ≤ x174.toInt + (1 : Int) by omega) (show x174.toInt + (1 : Int) ≤ 2147483647 by omega)
          refine lv_bipush (v := 24) hx hb dX12_isLiftHere_83 (by decide) ?_
          refine tk_Vi hC hK hw hT hA hE hSR kM_at0 (by decide) rfl (k_X12_numberHere_4 l adK adV dC dI cy ad B (by omega) (by omega) qr s1   x192 (show 1 ≤ x192.toInt by omega) (show x192.toInt ≤ 24 by omega) w183 H.size hT ) (cwV 2 hC.2.2.2.2 gX12_isLiftHere_X12_numberHere rfl rfl rfl (by decide +kernel) ⟨Nat.le_of_ble_eq_true rfl, Nat.le_of_ble_eq_true rfl⟩) rfl hl.1 rfl (Nat.le_of_ble_eq_true rfl) dX12_isLiftHere_85 (fun r193 w195 H locs hp194 hw => ?_)
          obtain ⟨hT, k196, hg209⟩ := hp194
          have hF := hF.tr k196 (by decide)
          have c210 := k196.gi kM_at0 (by decide) c186
          have c211 := k196.gi kM_at0 (by decide) c187
          have c212 := k196.gi kM_at0 (by decide) c188
          rcases hg209 with ⟨rfl, ⟨x197, c198, rx197, tx197⟩, ⟨x199, c200, rx199, tx199⟩⟩ | ⟨rfl, ⟨x201, c202, rx201, tx201⟩, ⟨x203, c204, rx203, tx203⟩⟩ | ⟨rfl, ⟨x205, c206, rx205, tx205⟩, ⟨x207, c208, rx207, tx207⟩⟩
          · have ex197 : x197.toInt = x12.toInt := by rw [← c211.symm.trans c198]
            refine lv_if_ne (tgt := 93) hx hb dX12_isLiftHere_88 (by decide) (fun c => absurd (by decide) c) (fun _ => ?_)
            refine lv_iconst (v := 0) hx hb dX12_isLiftHere_91 (by decide) ?_
            exact tk_zret hC hr rfl hlocks hK ⟨hT, hF, (Or.inr (Or.inl ⟨rfl, ⟨x12, c211, (show 1 ≤ x12.toInt by omega), (show x12.toInt ≤ 400 by omega)⟩, ⟨x1, c210, (show 0 ≤ x1.toInt by omega), (show x1.toInt ≤ 3 by omega)⟩, ⟨x199, c200, (show 1 ≤ x199.toInt by omega), (show x199.toInt ≤ 3205 by omega)⟩⟩))⟩ hw dX12_isLiftHere_92
          · have ex201 : x201.toInt = x12.toInt := by rw [← c211.symm.trans c202]
            refine lv_if_ne (tgt := 93) hx hb dX12_isLiftHere_88 (by decide) (fun c => absurd (by decide) c) (fun _ => ?_)
            refine lv_iconst (v := 0) hx hb dX12_isLiftHere_91 (by decide) ?_
            exact tk_zret hC hr rfl hlocks hK ⟨hT, hF, (Or.inr (Or.inl ⟨rfl, ⟨x12, c211, (show 1 ≤ x12.toInt by omega), (show x12.toInt ≤ 400 by omega)⟩, ⟨x1, c210, (show 0 ≤ x1.toInt by omega), (show x1.toInt ≤ 3 by omega)⟩, ⟨x203, c204, (show 1 ≤ x203.toInt by omega), (show x203.toInt ≤ 3205 by omega)⟩⟩))⟩ hw dX12_isLiftHere_92
          · have ex205 : x205.toInt = x12.toInt := by rw [← c211.symm.trans c206]
            refine lv_if_ne (tgt := 93) hx hb dX12_isLiftHere_88 (by decide) (fun _ => ?_) (fun c => absurd c (by decide))
            refine lv_aload_n hx hb dX12_isLiftHere_93 rfl (lv_at hl 1 rfl) ?_
            refine tk_getA hC hK hw hT hinX12 kM_at0 (by decide) rfl 13 (by decide) (List.mem_of_getElem? (i := 3) rfl) rfl rfl dX12_isLiftHere_94 ?_
            refine lv_iload_n hx hb dX12_isLiftHere_97 rfl (lv_at hl 0 rfl) ?_
            refine lv_iconst (v := 2) hx hb dX12_isLiftHere_98 (by decide) ?_
            refine lv_iadd hx hb dX12_isLiftHere_99 ?_
            refine lv_topi (fun x213 ex213 => ?_)
            have ex213 : x213.toInt = x126.toInt + (2 : Int) := by rw [ex213]; exact wk_add (show (-2147483648) ≤ x126.toInt + (2 : Int) by omega) (show x126.toInt + (2 : Int) ≤ 2147483647 by omega)
            refine lv_aload_n hx hb dX12_isLiftHere_100 rfl (lv_at hl 1 rfl) ?_
            refine tk_geti hC hK hw hT hinX12 kM_at0 (by decide) rfl 16 (by decide) (List.mem_of_getElem? (i := 4) rfl) rfl rfl dX12_isLiftHere_101 (fun x214 c215 rx214 tx214 => ?_)
            refine wk_top x207 (c215.symm.trans c208) ?_
            refine tk_iast hC hK hw hT kM_at8 (by decide) rfl rfl (show 0 ≤ x213.toInt by omega) (show x213.toInt < 12 by omega) (wk_i32 x207).1 (wk_i32 x207).2 dX12_isLiftHere_104 (fun H locs w216 hw hT k218 c217 => ?_)
            have hF := hF.put kM_at8 (inE_of (a := 0) (b := 12) (by decide) (show 0 ≤ x213.toInt.toNat by omega) (show x213.toInt.toNat ≤ 12 by omega)) k218
            have c219 := k218.gi (Or.inl (tk_ne kM_at0 kM_at8 (by decide))) c210
            have c220 := k218.gi (Or.inl (tk_ne kM_at0 kM_at8 (by decide))) c211
            have c221 := k218.gi (Or.inl (tk_ne kM_at0 kM_at8 (by decide))) c212
            have c222 := k218.gi (Or.inl (tk_ne kM_at0 kM_at8 (by decide))) c208
            refine lv_aload_n hx hb dX12_isLiftHere_105 rfl (lv_at hl 1 rfl) ?_
            refine lv_dup hx hb dX12_isLiftHere_106 rfl ?_
            refine tk_geti hC hK hw hT hinX12 kM_at0 (by decide) rfl 10 (by decide) (List.mem_of_getElem? (i := 1) rfl) rfl rfl dX12_isLiftHere_107 (fun x223 c224 rx223 tx223 => ?_)
            refine wk_top x1 (c224.symm.trans c219) ?_
            refine lv_iconst (v := 1) hx hb dX12_isLiftHere_110 (by decide) ?_
            refine lv_iadd hx hb dX12_isLiftHere_111 ?_
            refine lv_topi (fun x225 ex225 => ?_)
            have ex225 : x225.toInt = x1.toInt + (1 : Int) := by rw [ex225]; exact wk_add (show (-2147483648) ≤ x1.toInt + (1 : Int) by omega) (show x1.toInt + (1 : Int) ≤ 2147483647 by omega)
            refine tk_puti hC hK hw hT hinX12 tyX12_ok nmX12 kM_at0 (by decide) rfl rfl 10 (by decide) (List.mem_of_getElem? (i := 1) rfl) rfl rfl rfl rfl (show 0 ≤ x225.toInt by omega) (show x225.toInt ≤ 4 by omega) dX12_isLiftHere_112 (fun H locs w226 hw hT k228 c227 => ?_)
            have hF := hF.put kM_at0 (k := 10) (by decide) k228
            have c229 := k228.gi (Or.inr (by decide)) c220
            have c230 := k228.gi (Or.inr (by decide)) c221
            have c231 := k228.gi (Or.inr (by decide)) c222
            refine lv_iconst (v := 1) hx hb dX12_isLiftHere_115 (by decide) ?_
            exact tk_zret hC hr rfl hlocks hK ⟨hT, hF, (Or.inr (Or.inr (Or.inr ⟨rfl, ⟨x12, c229, (show 1 ≤ x12.toInt by omega), (show x12.toInt ≤ 400 by omega)⟩, ⟨x127, c230, (show 1 ≤ x127.toInt by omega), (show x127.toInt ≤ 12 by omega)⟩, ⟨x225, c227, (show 1 ≤ x225.toInt by omega), (show x225.toInt ≤ 4 by omega)⟩, ⟨x207, c231, (show 1 ≤ x207.toInt by omega), (show x207.toInt ≤ 24 by omega)⟩⟩)))⟩ hw dX12_isLiftHere_116
  · have c3 : x1.toInt = (4 : Int) := wk_eq.mp c3
    refine lv_aload_n hx hb dX12_isLiftHere_8 rfl (lv_at hl 0 rfl) ?_
    refine lv_iconst (v := 4) hx hb dX12_isLiftHere_9 (by decide) ?_
    refine lv_iload_n hx hb dX12_isLiftHere_10 rfl (lv_at hl 1 rfl) ?_
    refine tk_Vi hC hK hw hT hA hE hSR kM_at0 (by decide) rfl (k_X12_fails_1 l adK adV dC dI cy ad B (by omega) (by omega) qr s1   4 (by decide) (by decide) a1 (show 0 ≤ a1.toInt by omega) (show a1.toInt ≤ 400 by omega) w0 s.heap.size hT ) (cwV 2 hC.2.2.2.2 gX12_isLiftHere_X12_fails rfl rfl rfl (by decide +kernel) ⟨Nat.le_of_ble_eq_true rfl, Nat.le_of_ble_eq_true rfl⟩) rfl hl.1 rfl (Nat.le_of_ble_eq_true rfl) dX12_isLiftHere_11 (fun r232 w234 H locs hp233 hw => ?_)
    obtain ⟨hT, k235, hg238⟩ := hp233
    have hF := hF.tr k235 (by decide)
    have c239 := k235.gi kM_at0 (by decide) c2
    obtain ⟨rfl, ⟨x236, c237, rx236, tx236⟩⟩ := hg238
    exact tk_zret hC hr rfl hlocks hK ⟨hT, hF, (Or.inl ⟨rfl, ⟨x1, c239, (show 4 ≤ x1.toInt by omega), (show x1.toInt ≤ 4 by omega)⟩, ⟨x236, c237, (show 1 ≤ x236.toInt by omega), (show x236.toInt ≤ 3205 by omega)⟩⟩)⟩ hw dX12_isLiftHere_14
