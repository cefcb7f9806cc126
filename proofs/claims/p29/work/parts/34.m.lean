abbrev P_X12_four_1 (ad : Nat → Nat) (cy : Nat → ClassId) (B : Int) (qr : Nat) (s1 : Int) (a1 : Int32) (w0 : va_W) : va_W → Prop := fun u => TW ksM ad cy B qr 12 u ∧ FE ksM [(12, 1, 1), (60, 0, 400)] w0 u ∧ (((∃ y : Int32, gi u 0 1 = y ∧ 4 ≤ y.toInt ∧ y.toInt ≤ 384)))
set_option maxHeartbeats 4000000 in
set_option maxRecDepth 100000 in
theorem k_X12_four_1 (l : Launch) (adK adV : Nat → Nat) (dC : Nat → ClassId) (dI : Nat → Nat → Nat) (cy : Nat → ClassId) (ad : Nat → Nat) (B : Int) (hB0 : 100000 ≤ B) (hB1 : B ≤ 1073741824) (qr : Nat) (s1 : Int)  (a1 : Int32) (w0 : va_W) (sz : Nat) (hT : TW ksM ad cy B qr 12 w0) (f0_ : Int32) (cf0_ : gi w0 0 1 = f0_) (rf0_ : 0 ≤ f0_.toInt) (tf0_ : f0_.toInt ≤ 380) : Met l yX12_four wsX12_four ({ frames := 1, cells := 0, slots := 0, locals := 12 }) (va_Pc [.ref (ad 0), .int a1] (wpreS adK adV dC dI cy sz w0)) (va_Qv (P_X12_four_1 ad cy B qr s1 a1 w0) (fun u : va_W => wpost dC dI cy (va_A w0 sz) u) (va_A w0 sz)) 0 0 (va_A w0 sz) := by
  refine Met.ofW (cc := cX12_four) (maxL := 3) (ret := none) (by decide) rfl ?_
  intro p e s m args below meth c s₁ Bk hml hv
  obtain ⟨rfl, ⟨hsz, hP, hK, hD0⟩, hE, hSR⟩ := hv
  have hx := Bk.exec
  have hb := Bk.bytes
  have hr := Bk.returns
  have hlocks := Bk.notSynchronized
  have hC : CallFix p m c cX12_four 3 s _ wsX12_four RX12 := ⟨hx, hb, hml, findClass_of_methodNamed Bk.named, atoms_spec (ws := wsX12_four) Bk.pre⟩
  subst hsz
  have hD := hD0.self (sz := s.heap.size)
  generalize hAe : va_A w0 s.heap.size = A at hD hE ⊢
  have hA : ∀ q : Nat, s.heap.size ≤ q → A q := fun q h => by rw [← hAe]; exact Or.inr h
  have hw : Wd dC dI A s.heap s.heap [] w0 := ⟨hP, hD, va_S.rf⟩
  have hF : FE ksM [(12, 1, 1), (60, 0, 400)] w0 w0 := FE.rf
  have hl := lv_entry ([.ref (ad 0), .int a1]) (n := 3) (Nat.le_of_ble_eq_true rfl)
  rw [lg_entry_eq]
  generalize (lg_sl ([.ref (ad 0), .int a1]) ++ List.replicate (3 - (lg_sl ([.ref (ad 0), .int a1])).length) Slot.unset).toArray = ls at hl ⊢
  have hl : lv_has ls 3 [(0, .ref (ad 0)), (1, .int a1)] := hl
  generalize hloc : ([] : List Loc) = locs at hw ⊢
  have hinX12 : ∀ w ∈ u_ws RX12 TX12 42, w ∈ wsX12_four := fun _ h => List.mem_cons_of_mem _ (List.mem_append_right _ (h))
  refine lv_bipush (v := 24) hx hb dX12_four_0 (by decide) ?_
  refine lv_istore_n (lv' := [(2, .int 24), (0, .ref (ad 0)), (1, .int a1)]) hx hb dX12_four_2 rfl hl (by decide) rfl (fun ls hl => ?_)
  refine lv_iload_n hx hb dX12_four_3 rfl (lv_at hl 0 rfl) ?_
  refine lv_if_lt (tgt := 36) hx hb dX12_four_4 (by decide) (fun c => absurd c (by decide)) (fun _ => ?_)
  refine lv_aload_n hx hb dX12_four_7 rfl (lv_at hl 1 rfl) ?_
  refine tk_getA hC hK hw hT hinX12 kM_at0 (by decide) rfl 0 (by decide) (List.mem_of_getElem? (i := 1) rfl) rfl rfl dX12_four_8 ?_
  refine lv_aload_n hx hb dX12_four_11 rfl (lv_at hl 1 rfl) ?_
  refine tk_geti hC hK hw hT hinX12 kM_at0 (by decide) rfl 1 (by decide) (List.mem_of_getElem? (i := 2) rfl) rfl rfl dX12_four_12 (fun x1 c2 rx1 tx1 => ?_)
  refine wk_top f0_ (c2.symm.trans cf0_) ?_
  refine lv_iload_n hx hb dX12_four_15 rfl (lv_at hl 2 rfl) ?_
  refine lv_iload_n hx hb dX12_four_16 rfl (lv_at hl 0 rfl) ?_
  refine lv_ishr hx hb dX12_four_17 ?_
  refine lv_topi (fun x3 ex3 => ?_)
  refine lv_i2b hx hb dX12_four_18 rfl ?_
  refine lv_topi (fun x4 ex4 => ?_)
  refine tk_bast hC hK hw hT kM_at1 (by decide) rfl rfl (show 0 ≤ f0_.toInt by omega) (show f0_.toInt < 400 by omega) dX12_four_19 (fun H locs w5 hw hT k7 => ?_)
  have hF := hF.put kM_at1 (inE_of (a := 0) (b := 400) (by decide) (show 0 ≤ f0_.toInt.toNat by omega) (show f0_.toInt.toNat ≤ 400 by omega)) k7
  have c8 := k7.gi (Or.inl (tk_ne kM_at0 kM_at1 (by decide))) cf0_
  refine lv_aload_n hx hb dX12_four_20 rfl (lv_at hl 1 rfl) ?_
  refine lv_dup hx hb dX12_four_21 rfl ?_
  refine tk_geti hC hK hw hT hinX12 kM_at0 (by decide) rfl 1 (by decide) (List.mem_of_getElem? (i := 2) rfl) rfl rfl dX12_four_22 (fun x9 c10 rx9 tx9 => ?_)
  refine wk_top f0_ (c10.symm.trans c8) ?_
  refine lv_iconst (v := 1) hx hb dX12_four_25 (by decide) ?_
  refine lv_iadd hx hb dX12_four_26 ?_
  refine lv_topi (fun x11 ex11 => ?_)
  have ex11 : x11.toInt = f0_.toInt + (1 : Int) := by rw [ex11]; exact wk_add (show (-2147483648) ≤ f0_.toInt + (1 : Int) by omega) (show f0_.toInt + (1 : Int) ≤ 2147483647 by omega)
  refine tk_puti hC hK hw hT hinX12 tyX12_ok nmX12 kM_at0 (by decide) rfl rfl 1 (by decide) (List.mem_of_getElem? (i := 2) rfl) rfl rfl rfl rfl (show 0 ≤ x11.toInt by omega) (show x11.toInt ≤ 400 by omega) dX12_four_27 (fun H locs w12 hw hT k14 c13 => ?_)
  have hF := hF.put kM_at0 (k := 1) (by decide) k14
  refine lv_iinc (v := 16) (lv' := [(2, .int 16), (0, .ref (ad 0)), (1, .int a1)]) hx hb dX12_four_30 hl (k := 0) rfl (by decide) (by decide) rfl (fun ls hl => ?_)
  refine lv_goto (tgt := 3) hx hb dX12_four_33 (by decide) ?_
  refine lv_iload_n hx hb dX12_four_3 rfl (lv_at hl 0 rfl) ?_
  refine lv_if_lt (tgt := 36) hx hb dX12_four_4 (by decide) (fun c => absurd c (by decide)) (fun _ => ?_)
  refine lv_aload_n hx hb dX12_four_7 rfl (lv_at hl 1 rfl) ?_
  refine tk_getA hC hK hw hT hinX12 kM_at0 (by decide) rfl 0 (by decide) (List.mem_of_getElem? (i := 1) rfl) rfl rfl dX12_four_8 ?_
  refine lv_aload_n hx hb dX12_four_11 rfl (lv_at hl 1 rfl) ?_
  refine tk_geti hC hK hw hT hinX12 kM_at0 (by decide) rfl 1 (by decide) (List.mem_of_getElem? (i := 2) rfl) rfl rfl dX12_four_12 (fun x15 c16 rx15 tx15 => ?_)
  refine wk_top x11 (c16.symm.trans c13) ?_
  refine lv_iload_n hx hb dX12_four_15 rfl (lv_at hl 2 rfl) ?_
  refine lv_iload_n hx hb dX12_four_16 rfl (lv_at hl 0 rfl) ?_
  refine lv_ishr hx hb dX12_four_17 ?_
  refine lv_topi (fun x17 ex17 => ?_)
  refine lv_i2b hx hb dX12_four_18 rfl ?_
  refine lv_topi (fun x18 ex18 => ?_)
  refine tk_bast hC hK hw hT kM_at1 (by decide) rfl rfl (show 0 ≤ x11.toInt by omega) (show x11.toInt < 400 by omega) dX12_four_19 (fun H locs w19 hw hT k21 => ?_)
  have hF := hF.put kM_at1 (inE_of (a := 0) (b := 400) (by decide) (show 0 ≤ x11.toInt.toNat by omega) (show x11.toInt.toNat ≤ 400 by omega)) k21
  have c22 := k21.gi (Or.inl (tk_ne kM_at0 kM_at1 (by decide))) c13
  refine lv_aload_n hx hb dX12_four_20 rfl (lv_at hl 1 rfl) ?_
  refine lv_dup hx hb dX12_four_21 rfl ?_
  refine tk_geti hC hK hw hT hinX12 kM_at0 (by decide) rfl 1 (by decide) (List.mem_of_getElem? (i := 2) rfl) rfl rfl dX12_four_22 (fun x23 c24 rx23 tx23 => ?_)
  refine wk_top x11 (c24.symm.trans c22) ?_
  refine lv_iconst (v := 1) hx hb dX12_four_25 (by decide) ?_
  refine lv_iadd hx hb dX12_four_26 ?_
  refine lv_topi (fun x25 ex25 => ?_)
  have ex25 : x25.toInt = x11.toInt + (1 : Int) := by rw [ex25]; exact wk_add (show (-2147483648) ≤ x11.toInt + (1 : Int) by omega) (show x11.toInt + (1 : Int) ≤ 2147483647 by omega)
  refine tk_puti hC hK hw hT hinX12 tyX12_ok nmX12 kM_at0 (by decide) rfl rfl 1 (by decide) (List.mem_of_getElem? (i := 2) rfl) rfl rfl rfl rfl (show 0 ≤ x25.toInt by omega) (show x25.toInt ≤ 400 by omega) dX12_four_27 (fun H locs w26 hw hT k28 c27 => ?_)
  have hF := hF.put kM_at0 (k := 1) (by decide) k28
  refine lv_iinc (v := 8) (lv' := [(2, .int 8), (0, .ref (ad 0)), (1, .int a1)]) hx hb dX12_four_30 hl (k := 0) rfl (by decide) (by decide) rfl (fun ls hl => ?_)
  refine lv_goto (tgt := 3) hx hb dX12_four_33 (by decide) ?_
  refine lv_iload_n hx hb dX12_four_3 rfl (lv_at hl 0 rfl) ?_
  refine lv_if_lt (tgt := 36) hx hb dX12_four_4 (by decide) (fun c => absurd c (by decide)) (fun _ => ?_)
  refine lv_aload_n hx hb dX12_four_7 rfl (lv_at hl 1 rfl) ?_
  refine tk_getA hC hK hw hT hinX12 kM_at0 (by decide) rfl 0 (by decide) (List.mem_of_getElem? (i := 1) rfl) rfl rfl dX12_four_8 ?_
  refine lv_aload_n hx hb dX12_four_11 rfl (lv_at hl 1 rfl) ?_
  refine tk_geti hC hK hw hT hinX12 kM_at0 (by decide) rfl 1 (by decide) (List.mem_of_getElem? (i := 2) rfl) rfl rfl dX12_four_12 (fun x29 c30 rx29 tx29 => ?_)
  refine wk_top x25 (c30.symm.trans c27) ?_
  refine lv_iload_n hx hb dX12_four_15 rfl (lv_at hl 2 rfl) ?_
  refine lv_iload_n hx hb dX12_four_16 rfl (lv_at hl 0 rfl) ?_
  refine lv_ishr hx hb dX12_four_17 ?_
  refine lv_topi (fun x31 ex31 => ?_)
  refine lv_i2b hx hb dX12_four_18 rfl ?_
  refine lv_topi (fun x32 ex32 => ?_)
  refine tk_bast hC hK hw hT kM_at1 (by decide) rfl rfl (show 0 ≤ x25.toInt by omega) (show x25.toInt < 400 by omega) dX12_four_19 (fun H locs w33 hw hT k35 => ?_)
  have hF := hF.put kM_at1 (inE_of (a := 0) (b := 400) (by decide) (show 0 ≤ x25.toInt.toNat by omega) (show x25.toInt.toNat ≤ 400 by omega)) k35
  have c36 := k35.gi (Or.inl (tk_ne kM_at0 kM_at1 (by decide))) c27
  refine lv_aload_n hx hb dX12_four_20 rfl (lv_at hl 1 rfl) ?_
  refine lv_dup hx hb dX12_four_21 rfl ?_
  refine tk_geti hC hK hw hT hinX12 kM_at0 (by decide) rfl 1 (by decide) (List.mem_of_getElem? (i := 2) rfl) rfl rfl dX12_four_22 (fun x37 c38 rx37 tx37 => ?_)
  refine wk_top x25 (c38.symm.trans c36) ?_
  refine lv_iconst (v := 1) hx hb dX12_four_25 (by decide) ?_
  refine lv_iadd hx hb dX12_four_26 ?_
  refine lv_topi (fun x39 ex39 => ?_)
  have ex39 : x39.toInt = x25.toInt + (1 : Int) := by rw [ex39]; exact wk_add (show (-2147483648) ≤ x25.toInt + (1 : Int) by omega) (show x25.toInt + (1 : Int) ≤ 2147483647 by omega)
  refine tk_puti hC hK hw hT hinX12 tyX12_ok nmX12 kM_at0 (by decide) rfl rfl 1 (by decide) (List.mem_of_getElem? (i := 2) rfl) rfl rfl rfl rfl (show 0 ≤ x39.toInt by omega) (show x39.toInt ≤ 400 by omega) dX12_four_27 (fun H locs w40 hw hT k42 c41 => ?_)
  have hF := hF.put kM_at0 (k := 1) (by decide) k42
  refine lv_iinc (v := 0) (lv' := [(2, .int 0), (0, .ref (ad 0)), (1, .int a1)]) hx hb dX12_four_30 hl (k := 0) rfl (by decide) (by decide) rfl (fun ls hl => ?_)
  refine lv_goto (tgt := 3) hx hb dX12_four_33 (by decide) ?_
  refine lv_iload_n hx hb dX12_four_3 rfl (lv_at hl 0 rfl) ?_
  refine lv_if_lt (tgt := 36) hx hb dX12_four_4 (by decide) (fun c => absurd c (by decide)) (fun _ => ?_)
  refine lv_aload_n hx hb dX12_four_7 rfl (lv_at hl 1 rfl) ?_
  refine tk_getA hC hK hw hT hinX12 kM_at0 (by decide) rfl 0 (by decide) (List.mem_of_getElem? (i := 1) rfl) rfl rfl dX12_four_8 ?_
  refine lv_aload_n hx hb dX12_four_11 rfl (lv_at hl 1 rfl) ?_
  refine tk_geti hC hK hw hT hinX12 kM_at0 (by decide) rfl 1 (by decide) (List.mem_of_getElem? (i := 2) rfl) rfl rfl dX12_four_12 (fun x43 c44 rx43 tx43 => ?_)
  refine wk_top x39 (c44.symm.trans c41) ?_
  refine lv_iload_n hx hb dX12_four_15 rfl (lv_at hl 2 rfl) ?_
  refine lv_iload_n hx hb dX12_four_16 rfl (lv_at hl 0 rfl) ?_
  refine lv_ishr hx hb dX12_four_17 ?_
  refine lv_topi (fun x45 ex45 => ?_)
  refine lv_i2b hx hb dX12_four_18 rfl ?_
  refine lv_topi (fun x46 ex46 => ?_)
  refine tk_bast hC hK hw hT kM_at1 (by decide) rfl rfl (show 0 ≤ x39.toInt by omega) (show x39.toInt < 400 by omega) dX12_four_19 (fun H locs w47 hw hT k49 => ?_)
  have hF := hF.put kM_at1 (inE_of (a := 0) (b := 400) (by decide) (show 0 ≤ x39.toInt.toNat by omega) (show x39.toInt.toNat ≤ 400 by omega)) k49
  have c50 := k49.gi (Or.inl (tk_ne kM_at0 kM_at1 (by decide))) c41
  refine lv_aload_n hx hb dX12_four_20 rfl (lv_at hl 1 rfl) ?_
  refine lv_dup hx hb dX12_four_21 rfl ?_
  refine tk_geti hC hK hw hT hinX12 kM_at0 (by decide) rfl 1 (by decide) (List.mem_of_getElem? (i := 2) rfl) rfl rfl dX12_four_22 (fun x51 c52 rx51 tx51 => ?_)
  refine wk_top x39 (c52.symm.trans c50) ?_
  refine lv_iconst (v := 1) hx hb dX12_four_25 (by decide) ?_
  refine lv_iadd hx hb dX12_four_26 ?_
  refine lv_topi (fun x53 ex53 => ?_)
  have ex53 : x53.toInt = x39.toInt + (1 : Int) := by rw [ex53]; exact wk_add (show (-2147483648) ≤ x39.toInt + (1 : Int) by omega) (show x39.toInt + (1 : Int) ≤ 2147483647 by omega)
  refine tk_puti hC hK hw hT hinX12 tyX12_ok nmX12 kM_at0 (by decide) rfl rfl 1 (by decide) (List.mem_of_getElem? (i := 2) rfl) rfl rfl rfl rfl (show 0 ≤ x53.toInt by omega) (show x53.toInt ≤ 400 by omega) dX12_four_27 (fun H locs w54 hw hT k56 c55 => ?_)
  have hF := hF.put kM_at0 (k := 1) (by decide) k56
  refine lv_iinc (v := (-8)) (lv' := [(2, .int (-8)), (0, .ref (ad 0)), (1, .int a1)]) hx hb dX12_four_30 hl (k := 0) rfl (by decide) (by decide) rfl (fun ls hl => ?_)
  refine lv_goto (tgt := 3) hx hb dX12_four_33 (by decide) ?_
  refine lv_iload_n hx hb dX12_four_3 rfl (lv_at hl 0 rfl) ?_
  refine lv_if_lt (tgt := 36) hx hb dX12_four_4 (by decide) (fun _ => ?_) (fun c => absurd (by decide) c)
  exact tk_vret hC hr hlocks hK ⟨hT, hF, ⟨x53, c55, (show 4 ≤ x53.toInt by omega), (show x53.toInt ≤ 384 by omega)⟩⟩ hw dX12_four_36
abbrev P_X12_four_2 (ad : Nat → Nat) (cy : Nat → ClassId) (B : Int) (qr : Nat) (s1 : Int) (a1 : Int32) (w0 : va_W) : va_W → Prop := fun u => TW ksM ad cy B qr 12 u ∧ FE ksM [(12, 1, 1), (60, 0, 400)] w0 u ∧ (((∃ y : Int32, gi u 0 1 = y ∧ 8 ≤ y.toInt ∧ y.toInt ≤ 388)))
set_option maxHeartbeats 4000000 in
set_option maxRecDepth 100000 in
theorem k_X12_four_2 (l : Launch) (adK adV : Nat → Nat) (dC : Nat → ClassId) (dI : Nat → Nat → Nat) (cy : Nat → ClassId) (ad : Nat → Nat) (B : Int) (hB0 : 100000 ≤ B) (hB1 : B ≤ 1073741824) (qr : Nat) (s1 : Int)  (a1 : Int32) (w0 : va_W) (sz : Nat) (hT : TW ksM ad cy B qr 12 w0) (f0_ : Int32) (cf0_ : gi w0 0 1 = f0_) (rf0_ : 4 ≤ f0_.toInt) (tf0_ : f0_.toInt ≤ 384) : Met l yX12_four wsX12_four ({ frames := 1, cells := 0, slots := 0, locals := 12 }) (va_Pc [.ref (ad 0), .int a1] (wpreS adK adV dC dI cy sz w0)) (va_Qv (P_X12_four_2 ad cy B qr s1 a1 w0) (fun u : va_W => wpost dC dI cy (va_A w0 sz) u) (va_A w0 sz)) 0 0 (va_A w0 sz) := by
  refine Met.ofW (cc := cX12_four) (maxL := 3) (ret := none) (by decide) rfl ?_
  intro p e s m args below meth c s₁ Bk hml hv
  obtain ⟨rfl, ⟨hsz, hP, hK, hD0⟩, hE, hSR⟩ := hv
  have hx := Bk.exec
  have hb := Bk.bytes
  have hr := Bk.returns
  have hlocks := Bk.notSynchronized
  have hC : CallFix p m c cX12_four 3 s _ wsX12_four RX12 := ⟨hx, hb, hml, findClass_of_methodNamed Bk.named, atoms_spec (ws := wsX12_four) Bk.pre⟩
  subst hsz
  have hD := hD0.self (sz := s.heap.size)
  generalize hAe : va_A w0 s.heap.size = A at hD hE ⊢
  have hA : ∀ q : Nat, s.heap.size ≤ q → A q := fun q h => by rw [← hAe]; exact Or.inr h
  have hw : Wd dC dI A s.heap s.heap [] w0 := ⟨hP, hD, va_S.rf⟩
  have hF : FE ksM [(12, 1, 1), (60, 0, 400)] w0 w0 := FE.rf
  have hl := lv_entry ([.ref (ad 0), .int a1]) (n := 3) (Nat.le_of_ble_eq_true rfl)
  rw [lg_entry_eq]
  generalize (lg_sl ([.ref (ad 0), .int a1]) ++ List.replicate (3 - (lg_sl ([.ref (ad 0), .int a1])).length) Slot.unset).toArray = ls at hl ⊢
  have hl : lv_has ls 3 [(0, .ref (ad 0)), (1, .int a1)] := hl
  generalize hloc : ([] : List Loc) = locs at hw ⊢
  have hinX12 : ∀ w ∈ u_ws RX12 TX12 42, w ∈ wsX12_four := fun _ h => List.mem_cons_of_mem _ (List.mem_append_right _ (h))
  refine lv_bipush (v := 24) hx hb dX12_four_0 (by decide) ?_
  refine lv_istore_n (lv' := [(2, .int 24), (0, .ref (ad 0)), (1, .int a1)]) hx hb dX12_four_2 rfl hl (by decide) rfl (fun ls hl => ?_)
  refine lv_iload_n hx hb dX12_four_3 rfl (lv_at hl 0 rfl) ?_
  refine lv_if_lt (tgt := 36) hx hb dX12_four_4 (by decide) (fun c => absurd c (by decide)) (fun _ => ?_)
  refine lv_aload_n hx hb dX12_four_7 rfl (lv_at hl 1 rfl) ?_
  refine tk_getA hC hK hw hT hinX12 kM_at0 (by decide) rfl 0 (by decide) (List.mem_of_getElem? (i := 1) rfl) rfl rfl dX12_four_8 ?_
  refine lv_aload_n hx hb dX12_four_11 rfl (lv_at hl 1 rfl) ?_
  refine tk_geti hC hK hw hT hinX12 kM_at0 (by decide) rfl 1 (by decide) (List.mem_of_getElem? (i := 2) rfl) rfl rfl dX12_four_12 (fun x1 c2 rx1 tx1 => ?_)
  refine wk_top f0_ (c2.symm.trans cf0_) ?_
  refine lv_iload_n hx hb dX12_four_15 rfl (lv_at hl 2 rfl) ?_
  refine lv_iload_n hx hb dX12_four_16 rfl (lv_at hl 0 rfl) ?_
  refine lv_ishr hx hb dX12_four_17 ?_
  refine lv_topi (fun x3 ex3 => ?_)
  refine lv_i2b hx hb dX12_four_18 rfl ?_
  refine lv_topi (fun x4 ex4 => ?_)
  refine tk_bast hC hK hw hT kM_at1 (by decide) rfl rfl (show 0 ≤ f0_.toInt by omega) (show f0_.toInt < 400 by omega) dX12_four_19 (fun H locs w5 hw hT k7 => ?_)
  have hF := hF.put kM_at1 (inE_of (a := 0) (b := 400) (by decide) (show 0 ≤ f0_.toInt.toNat by omega) (show f0_.toInt.toNat ≤ 400 by omega)) k7
  have c8 := k7.gi (Or.inl (tk_ne kM_at0 kM_at1 (by decide))) cf0_
  refine lv_aload_n hx hb dX12_four_20 rfl (lv_at hl 1 rfl) ?_
  refine lv_dup hx hb dX12_four_21 rfl ?_
  refine tk_geti hC hK hw hT hinX12 kM_at0 (by decide) rfl 1 (by decide) (List.mem_of_getElem? (i := 2) rfl) rfl rfl dX12_four_22 (fun x9 c10 rx9 tx9 => ?_)
  refine wk_top f0_ (c10.symm.trans c8) ?_
  refine lv_iconst (v := 1) hx hb dX12_four_25 (by decide) ?_
  refine lv_iadd hx hb dX12_four_26 ?_
  refine lv_topi (fun x11 ex11 => ?_)
  have ex11 : x11.toInt = f0_.toInt + (1 : Int) := by rw [ex11]; exact wk_add (show (-2147483648) ≤ f0_.toInt + (1 : Int) by omega) (show f0_.toInt + (1 : Int) ≤ 2147483647 by omega)
  refine tk_puti hC hK hw hT hinX12 tyX12_ok nmX12 kM_at0 (by decide) rfl rfl 1 (by decide) (List.mem_of_getElem? (i := 2) rfl) rfl rfl rfl rfl (show 0 ≤ x11.toInt by omega) (show x11.toInt ≤ 400 by omega) dX12_four_27 (fun H locs w12 hw hT k14 c13 => ?_)
  have hF := hF.put kM_at0 (k := 1) (by decide) k14
  refine lv_iinc (v := 16) (lv' := [(2, .int 16), (0, .ref (ad 0)), (1, .int a1)]) hx hb dX12_four_30 hl (k := 0) rfl (by decide) (by decide) rfl (fun ls hl => ?_)
  refine lv_goto (tgt := 3) hx hb dX12_four_33 (by decide) ?_
  refine lv_iload_n hx hb dX12_four_3 rfl (lv_at hl 0 rfl) ?_
  refine lv_if_lt (tgt := 36) hx hb dX12_four_4 (by decide) (fun c => absurd c (by decide)) (fun _ => ?_)
  refine lv_aload_n hx hb dX12_four_7 rfl (lv_at hl 1 rfl) ?_
  refine tk_getA hC hK hw hT hinX12 kM_at0 (by decide) rfl 0 (by decide) (List.mem_of_getElem? (i := 1) rfl) rfl rfl dX12_four_8 ?_
  refine lv_aload_n hx hb dX12_four_11 rfl (lv_at hl 1 rfl) ?_
  refine tk_geti hC hK hw hT hinX12 kM_at0 (by decide) rfl 1 (by decide) (List.mem_of_getElem? (i := 2) rfl) rfl rfl dX12_four_12 (fun x15 c16 rx15 tx15 => ?_)
  refine wk_top x11 (c16.symm.trans c13) ?_
  refine lv_iload_n hx hb dX12_four_15 rfl (lv_at hl 2 rfl) ?_
  refine lv_iload_n hx hb dX12_four_16 rfl (lv_at hl 0 rfl) ?_
  refine lv_ishr hx hb dX12_four_17 ?_
  refine lv_topi (fun x17 ex17 => ?_)
  refine lv_i2b hx hb dX12_four_18 rfl ?_
  refine lv_topi (fun x18 ex18 => ?_)
  refine tk_bast hC hK hw hT kM_at1 (by decide) rfl rfl (show 0 ≤ x11.toInt by omega) (show x11.toInt < 400 by omega) dX12_four_19 (fun H locs w19 hw hT k21 => ?_)
  have hF := hF.put kM_at1 (inE_of (a := 0) (b := 400) (by decide) (show 0 ≤ x11.toInt.toNat by omega) (show x11.toInt.toNat ≤ 400 by omega)) k21
  have c22 := k21.gi (Or.inl (tk_ne kM_at0 kM_at1 (by decide))) c13
  refine lv_aload_n hx hb dX12_four_20 rfl (lv_at hl 1 rfl) ?_
  refine lv_dup hx hb dX12_four_21 rfl ?_
  refine tk_geti hC hK hw hT hinX12 kM_at0 (by decide) rfl 1 (by decide) (List.mem_of_getElem? (i := 2) rfl) rfl rfl dX12_four_22 (fun x23 c24 rx23 tx23 => ?_)
  refine wk_top x11 (c24.symm.trans c22) ?_
  refine lv_iconst (v := 1) hx hb dX12_four_25 (by decide) ?_
  refine lv_iadd hx hb dX12_four_26 ?_
  refine lv_topi (fun x25 ex25 => ?_)
  have ex25 : x25.toInt = x11.toInt + (1 : Int) := by rw [ex25]; exact wk_add (show (-2147483648) ≤ x11.toInt + (1 : Int) by omega) (show x11.toInt + (1 : Int) ≤ 2147483647 by omega)
  refine tk_puti hC hK hw hT hinX12 tyX12_ok nmX12 kM_at0 (by decide) rfl rfl 1 (by decide) (List.mem_of_getElem? (i := 2) rfl) rfl rfl rfl rfl (show 0 ≤ x25.toInt by omega) (show x25.toInt ≤ 400 by omega) dX12_four_27 (fun H locs w26 hw hT k28 c27 => ?_)
  have hF := hF.put kM_at0 (k := 1) (by decide) k28
  refine lv_iinc (v := 8) (lv' := [(2, .int 8), (0, .ref (ad 0)), (1, .int a1)]) hx hb dX12_four_30 hl (k := 0) rfl (by decide) (by decide) rfl (fun ls hl => ?_)
  refine lv_goto (tgt := 3) hx hb dX12_four_33 (by decide) ?_
  refine lv_iload_n hx hb dX12_four_3 rfl (lv_at hl 0 rfl) ?_
  refine lv_if_lt (tgt := 36) hx hb dX12_four_4 (by decide) (fun c => absurd c (by decide)) (fun _ => ?_)
  refine lv_aload_n hx hb dX12_four_7 rfl (lv_at hl 1 rfl) ?_
  refine tk_getA hC hK hw hT hinX12 kM_at0 (by decide) rfl 0 (by decide) (List.mem_of_getElem? (i := 1) rfl) rfl rfl dX12_four_8 ?_
  refine lv_aload_n hx hb dX12_four_11 rfl (lv_at hl 1 rfl) ?_
  refine tk_geti hC hK hw hT hinX12 kM_at0 (by decide) rfl 1 (by decide) (List.mem_of_getElem? (i := 2) rfl) rfl rfl dX12_four_12 (fun x29 c30 rx29 tx29 => ?_)
  refine wk_top x25 (c30.symm.trans c27) ?_
  refine lv_iload_n hx hb dX12_four_15 rfl (lv_at hl 2 rfl) ?_
  refine lv_iload_n hx hb dX12_four_16 rfl (lv_at hl 0 rfl) ?_
  refine lv_ishr hx hb dX12_four_17 ?_
  refine lv_topi (fun x31 ex31 => ?_)
  refine lv_i2b hx hb dX12_four_18 rfl ?_
  refine lv_topi (fun x32 ex32 => ?_)
  refine tk_bast hC hK hw hT kM_at1 (by decide) rfl rfl (show 0 ≤ x25.toInt by omega) (show x25.toInt < 400 by omega) dX12_four_19 (fun H locs w33 hw hT k35 => ?_)
  have hF := hF.put kM_at1 (inE_of (a := 0) (b := 400) (by decide) (show 0 ≤ x25.toInt.toNat by omega) (show x25.toInt.toNat ≤ 400 by omega)) k35
  have c36 := k35.gi (Or.inl (tk_ne kM_at0 kM_at1 (by decide))) c27
  refine lv_aload_n hx hb dX12_four_20 rfl (lv_at hl 1 rfl) ?_
  refine lv_dup hx hb dX12_four_21 rfl ?_
  refine tk_geti hC hK hw hT hinX12 kM_at0 (by decide) rfl 1 (by decide) (List.mem_of_getElem? (i := 2) rfl) rfl rfl dX12_four_22 (fun x37 c38 rx37 tx37 => ?_)
  refine wk_top x25 (c38.symm.trans c36) ?_
  refine lv_iconst (v := 1) hx hb dX12_four_25 (by decide) ?_
  refine lv_iadd hx hb dX12_four_26 ?_
  refine lv_topi (fun x39 ex39 => ?_)
  have ex39 : x39.toInt = x25.toInt + (1 : Int) := by rw [ex39]; exact wk_add (show (-2147483648) ≤ x25.toInt + (1 : Int) by omega) (show x25.toInt + (1 : Int) ≤ 2147483647 by omega)
  refine tk_puti hC hK hw hT hinX12 tyX12_ok nmX12 kM_at0 (by decide) rfl rfl 1 (by decide) (List.mem_of_getElem? (i := 2) rfl) rfl rfl rfl rfl (show 0 ≤ x39.toInt by omega) (show x39.toInt ≤ 400 by omega) dX12_four_27 (fun H locs w40 hw hT k42 c41 => ?_)
  have hF := hF.put kM_at0 (k := 1) (by decide) k42
  refine lv_iinc (v := 0) (lv' := [(2, .int 0), (0, .ref (ad 0)), (1, .int a1)]) hx hb dX12_four_30 hl (k := 0) rfl (by decide) (by decide) rfl (fun ls hl => ?_)
  refine lv_goto (tgt := 3) hx hb dX12_four_33 (by decide) ?_
  refine lv_iload_n hx hb dX12_four_3 rfl (lv_at hl 0 rfl) ?_
  refine lv_if_lt (tgt := 36) hx hb dX12_four_4 (by decide) (fun c => absurd c (by decide)) (fun _ => ?_)
  refine lv_aload_n hx hb dX12_four_7 rfl (lv_at hl 1 rfl) ?_
  refine tk_getA hC hK hw hT hinX12 kM_at0 (by decide) rfl 0 (by decide) (List.mem_of_getElem? (i := 1) rfl) rfl rfl dX12_four_8 ?_
  refine lv_aload_n hx hb dX12_four_11 rfl (lv_at hl 1 rfl) ?_
  refine tk_geti hC hK hw hT hinX12 kM_at0 (by decide) rfl 1 (by decide) (List.mem_of_getElem? (i := 2) rfl) rfl rfl dX12_four_12 (fun x43 c44 rx43 tx43 => ?_)
  refine wk_top x39 (c44.symm.trans c41) ?_
  refine lv_iload_n hx hb dX12_four_15 rfl (lv_at hl 2 rfl) ?_
  refine lv_iload_n hx hb dX12_four_16 rfl (lv_at hl 0 rfl) ?_
  refine lv_ishr hx hb dX12_four_17 ?_
  refine lv_topi (fun x45 ex45 => ?_)
  refine lv_i2b hx hb dX12_four_18 rfl ?_
  refine lv_topi (fun x46 ex46 => ?_)
  refine tk_bast hC hK hw hT kM_at1 (by decide) rfl rfl (show 0 ≤ x39.toInt by omega) (show x39.toInt < 400 by omega) dX12_four_19 (fun H locs w47 hw hT k49 => ?_)
  have hF := hF.put kM_at1 (inE_of (a := 0) (b := 400) (by decide) (show 0 ≤ x39.toInt.toNat by omega) (show x39.toInt.toNat ≤ 400 by omega)) k49
  have c50 := k49.gi (Or.inl (tk_ne kM_at0 kM_at1 (by decide))) c41
  refine lv_aload_n hx hb dX12_four_20 rfl (lv_at hl 1 rfl) ?_
  refine lv_dup hx hb dX12_four_21 rfl ?_
  refine tk_geti hC hK hw hT hinX12 kM_at0 (by decide) rfl 1 (by decide) (List.mem_of_getElem? (i := 2) rfl) rfl rfl dX12_four_22 (fun x51 c52 rx51 tx51 => ?_)
  refine wk_top x39 (c52.symm.trans c50) ?_
  refine lv_iconst (v := 1) hx hb dX12_four_25 (by decide) ?_
  refine lv_iadd hx hb dX12_four_26 ?_
  refine lv_topi (fun x53 ex53 => ?_)
  have ex53 : x53.toInt = x39.toInt + (1 : Int) := by rw [ex53]; exact wk_add (show (-2147483648) ≤ x39.toInt + (1 : Int) by omega) (show x39.toInt + (1 : Int) ≤ 2147483647 by omega)
  refine tk_puti hC hK hw hT hinX12 tyX12_ok nmX12 kM_at0 (by decide) rfl rfl 1 (by decide) (List.mem_of_getElem? (i := 2) rfl) rfl rfl rfl rfl (show 0 ≤ x53.toInt by omega) (show x53.toInt ≤ 400 by omega) dX12_four_27 (fun H locs w54 hw hT k56 c55 => ?_)
  have hF := hF.put kM_at0 (k := 1) (by decide) k56
  refine lv_iinc (v := (-8)) (lv' := [(2, .int (-8)), (0, .ref (ad 0)), (1, .int a1)]) hx hb dX12_four_30 hl (k := 0) rfl (by decide) (by decide) rfl (fun ls hl => ?_)
  refine lv_goto (tgt := 3) hx hb dX12_four_33 (by decide) ?_
  refine lv_iload_n hx hb dX12_four_3 rfl (lv_at hl 0 rfl) ?_
  refine lv_if_lt (tgt := 36) hx hb dX12_four_4 (by decide) (fun _ => ?_) (fun c => absurd (by decide) c)
  exact tk_vret hC hr hlocks hK ⟨hT, hF, ⟨x53, c55, (show 8 ≤ x53.toInt by omega), (show x53.toInt ≤ 388 by omega)⟩⟩ hw dX12_four_36
abbrev P_X12_four_3 (ad : Nat → Nat) (cy : Nat → ClassId) (B : Int) (qr : Nat) (s1 : Int) (a1 : Int32) (w0 : va_W) : va_W → Prop := fun u => TW ksM ad cy B qr 12 u ∧ FE ksM [(12, 1, 1), (60, 0, 400)] w0 u ∧ (((∃ y : Int32, gi u 0 1 = y ∧ 12 ≤ y.toInt ∧ y.toInt ≤ 392)))
set_option maxHeartbeats 4000000 in
set_option maxRecDepth 100000 in
theorem k_X12_four_3 (l : Launch) (adK adV : Nat → Nat) (dC : Nat → ClassId) (dI : Nat → Nat → Nat) (cy : Nat → ClassId) (ad : Nat → Nat) (B : Int) (hB0 : 100000 ≤ B) (hB1 : B ≤ 1073741824) (qr : Nat) (s1 : Int)  (a1 : Int32) (w0 : va_W) (sz : Nat) (hT : TW ksM ad cy B qr 12 w0) (f0_ : Int32) (cf0_ : gi w0 0 1 = f0_) (rf0_ : 8 ≤ f0_.toInt) (tf0_ : f0_.toInt ≤ 388) : Met l yX12_four wsX12_four ({ frames := 1, cells := 0, slots := 0, locals := 12 }) (va_Pc [.ref (ad 0), .int a1] (wpreS adK adV dC dI cy sz w0)) (va_Qv (P_X12_four_3 ad cy B qr s1 a1 w0) (fun u : va_W => wpost dC dI cy (va_A w0 sz) u) (va_A w0 sz)) 0 0 (va_A w0 sz) := by
  refine Met.ofW (cc := cX12_four) (maxL := 3) (ret := none) (by decide) rfl ?_
  intro p e s m args below meth c s₁ Bk hml hv
  obtain ⟨rfl, ⟨hsz, hP, hK, hD0⟩, hE, hSR⟩ := hv
  have hx := Bk.exec
  have hb := Bk.bytes
  have hr := Bk.returns
  have hlocks := Bk.notSynchronized
  have hC : CallFix p m c cX12_four 3 s _ wsX12_four RX12 := ⟨hx, hb, hml, findClass_of_methodNamed Bk.named, atoms_spec (ws := wsX12_four) Bk.pre⟩
  subst hsz
  have hD := hD0.self (sz := s.heap.size)
  generalize hAe : va_A w0 s.heap.size = A at hD hE ⊢
  have hA : ∀ q : Nat, s.heap.size ≤ q → A q := fun q h => by rw [← hAe]; exact Or.inr h
  have hw : Wd dC dI A s.heap s.heap [] w0 := ⟨hP, hD, va_S.rf⟩
  have hF : FE ksM [(12, 1, 1), (60, 0, 400)] w0 w0 := FE.rf
  have hl := lv_entry ([.ref (ad 0), .int a1]) (n := 3) (Nat.le_of_ble_eq_true rfl)
  rw [lg_entry_eq]
  generalize (lg_sl ([.ref (ad 0), .int a1]) ++ List.replicate (3 - (lg_sl ([.ref (ad 0), .int a1])).length) Slot.unset).toArray = ls at hl ⊢
  have hl : lv_has ls 3 [(0, .ref (ad 0)), (1, .int a1)] := hl
  generalize hloc : ([] : List Loc) = locs at hw ⊢
  have hinX12 : ∀ w ∈ u_ws RX12 TX12 42, w ∈ wsX12_four := fun _ h => List.mem_cons_of_mem _ (List.mem_append_right _ (h))
  refine lv_bipush (v := 24) hx hb dX12_four_0 (by decide) ?_
  refine lv_istore_n (lv' := [(2, .int 24), (0, .ref (ad 0)), (1, .int a1)]) hx hb dX12_four_2 rfl hl (by decide) rfl (fun ls hl => ?_)
  refine lv_iload_n hx hb dX12_four_3 rfl (lv_at hl 0 rfl) ?_
  refine lv_if_lt (tgt := 36) hx hb dX12_four_4 (by decide) (fun c => absurd c (by decide)) (fun _ => ?_)
  refine lv_aload_n hx hb dX12_four_7 rfl (lv_at hl 1 rfl) ?_
  refine tk_getA hC hK hw hT hinX12 kM_at0 (by decide) rfl 0 (by decide) (List.mem_of_getElem? (i := 1) rfl) rfl rfl dX12_four_8 ?_
  refine lv_aload_n hx hb dX12_four_11 rfl (lv_at hl 1 rfl) ?_
  refine tk_geti hC hK hw hT hinX12 kM_at0 (by decide) rfl 1 (by decide) (List.mem_of_getElem? (i := 2) rfl) rfl rfl dX12_four_12 (fun x1 c2 rx1 tx1 => ?_)
  refine wk_top f0_ (c2.symm.trans cf0_) ?_
  refine lv_iload_n hx hb dX12_four_15 rfl (lv_at hl 2 rfl) ?_
  refine lv_iload_n hx hb dX12_four_16 rfl (lv_at hl 0 rfl) ?_
  refine lv_ishr hx hb dX12_four_17 ?_
  refine lv_topi (fun x3 ex3 => ?_)
  refine lv_i2b hx hb dX12_four_18 rfl ?_
  refine lv_topi (fun x4 ex4 => ?_)
  refine tk_bast hC hK hw hT kM_at1 (by decide) rfl rfl (show 0 ≤ f0_.toInt by omega) (show f0_.toInt < 400 by omega) dX12_four_19 (fun H locs w5 hw hT k7 => ?_)
  have hF := hF.put kM_at1 (inE_of (a := 0) (b := 400) (by decide) (show 0 ≤ f0_.toInt.toNat by omega) (show f0_.toInt.toNat ≤ 400 by omega)) k7
  have c8 := k7.gi (Or.inl (tk_ne kM_at0 kM_at1 (by decide))) cf0_
  refine lv_aload_n hx hb dX12_four_20 rfl (lv_at hl 1 rfl) ?_
  refine lv_dup hx hb dX12_four_21 rfl ?_
  refine tk_geti hC hK hw hT hinX12 kM_at0 (by decide) rfl 1 (by decide) (List.mem_of_getElem? (i := 2) rfl) rfl rfl dX12_four_22 (fun x9 c10 rx9 tx9 => ?_)
  refine wk_top f0_ (c10.symm.trans c8) ?_
  refine lv_iconst (v := 1) hx hb dX12_four_25 (by decide) ?_
  refine lv_iadd hx hb dX12_four_26 ?_
  refine lv_topi (fun x11 ex11 => ?_)
  have ex11 : x11.toInt = f0_.toInt + (1 : Int) := by rw [ex11]; exact wk_add (show (-2147483648) ≤ f0_.toInt + (1 : Int) by omega) (show f0_.toInt + (1 : Int) ≤ 2147483647 by omega)
  refine tk_puti hC hK hw hT hinX12 tyX12_ok nmX12 kM_at0 (by decide) rfl rfl 1 (by decide) (List.mem_of_getElem? (i := 2) rfl) rfl rfl rfl rfl (show 0 ≤ x11.toInt by omega) (show x11.toInt ≤ 400 by omega) dX12_four_27 (fun H locs w12 hw hT k14 c13 => ?_)
  have hF := hF.put kM_at0 (k := 1) (by decide) k14
  refine lv_iinc (v := 16) (lv' := [(2, .int 16), (0, .ref (ad 0)), (1, .int a1)]) hx hb dX12_four_30 hl (k := 0) rfl (by decide) (by decide) rfl (fun ls hl => ?_)
  refine lv_goto (tgt := 3) hx hb dX12_four_33 (by decide) ?_
  refine lv_iload_n hx hb dX12_four_3 rfl (lv_at hl 0 rfl) ?_
  refine lv_if_lt (tgt := 36) hx hb dX12_four_4 (by decide) (fun c => absurd c (by decide)) (fun _ => ?_)
  refine lv_aload_n hx hb dX12_four_7 rfl (lv_at hl 1 rfl) ?_
  refine tk_getA hC hK hw hT hinX12 kM_at0 (by decide) rfl 0 (by decide) (List.mem_of_getElem? (i := 1) rfl) rfl rfl dX12_four_8 ?_
  refine lv_aload_n hx hb dX12_four_11 rfl (lv_at hl 1 rfl) ?_
  refine tk_geti hC hK hw hT hinX12 kM_at0 (by decide) rfl 1 (by decide) (List.mem_of_getElem? (i := 2) rfl) rfl rfl dX12_four_12 (fun x15 c16 rx15 tx15 => ?_)
  refine wk_top x11 (c16.symm.trans c13) ?_
  refine lv_iload_n hx hb dX12_four_15 rfl (lv_at hl 2 rfl) ?_
  refine lv_iload_n hx hb dX12_four_16 rfl (lv_at hl 0 rfl) ?_
  refine lv_ishr hx hb dX12_four_17 ?_
  refine lv_topi (fun x17 ex17 => ?_)
  refine lv_i2b hx hb dX12_four_18 rfl ?_
  refine lv_topi (fun x18 ex18 => ?_)
  refine tk_bast hC hK hw hT kM_at1 (by decide) rfl rfl (show 0 ≤ x11.toInt by omega) (show x11.toInt < 400 by omega) dX12_four_19 (fun H locs w19 hw hT k21 => ?_)
  have hF := hF.put kM_at1 (inE_of (a := 0) (b := 400) (by decide) (show 0 ≤ x11.toInt.toNat by omega) (show x11.toInt.toNat ≤ 400 by omega)) k21
  have c22 := k21.gi (Or.inl (tk_ne kM_at0 kM_at1 (by decide))) c13
  refine lv_aload_n hx hb dX12_four_20 rfl (lv_at hl 1 rfl) ?_
  refine lv_dup hx hb dX12_four_21 rfl ?_
  refine tk_geti hC hK hw hT hinX12 kM_at0 (by decide) rfl 1 (by decide) (List.mem_of_getElem? (i := 2) rfl) rfl rfl dX12_four_22 (fun x23 c24 rx23 tx23 => ?_)
  refine wk_top x11 (c24.symm.trans c22) ?_
  refine lv_iconst (v := 1) hx hb dX12_four_25 (by decide) ?_
  refine lv_iadd hx hb dX12_four_26 ?_
  refine lv_topi (fun x25 ex25 => ?_)
  have ex25 : x25.toInt = x11.toInt + (1 : Int) := by rw [ex25]; exact wk_add (show (-2147483648) ≤ x11.toInt + (1 : Int) by omega) (show x11.toInt + (1 : Int) ≤ 2147483647 by omega)
  refine tk_puti hC hK hw hT hinX12 tyX12_ok nmX12 kM_at0 (by decide) rfl rfl 1 (by decide) (List.mem_of_getElem? (i := 2) rfl) rfl rfl rfl rfl (show 0 ≤ x25.toInt by omega) (show x25.toInt ≤ 400 by omega) dX12_four_27 (fun H locs w26 hw hT k28 c27 => ?_)
  have hF := hF.put kM_at0 (k := 1) (by decide) k28
  refine lv_iinc (v := 8) (lv' := [(2, .int 8), (0, .ref (ad 0)), (1, .int a1)]) hx hb dX12_four_30 hl (k := 0) rfl (by decide) (by decide) rfl (fun ls hl => ?_)
  refine lv_goto (tgt := 3) hx hb dX12_four_33 (by decide) ?_
  refine lv_iload_n hx hb dX12_four_3 rfl (lv_at hl 0 rfl) ?_
  refine lv_if_lt (tgt := 36) hx hb dX12_four_4 (by decide) (fun c => absurd c (by decide)) (fun _ => ?_)
  refine lv_aload_n hx hb dX12_four_7 rfl (lv_at hl 1 rfl) ?_
  refine tk_getA hC hK hw hT hinX12 kM_at0 (by decide) rfl 0 (by decide) (List.mem_of_getElem? (i := 1) rfl) rfl rfl dX12_four_8 ?_
  refine lv_aload_n hx hb dX12_four_11 rfl (lv_at hl 1 rfl) ?_
  refine tk_geti hC hK hw hT hinX12 kM_at0 (by decide) rfl 1 (by decide) (List.mem_of_getElem? (i := 2) rfl) rfl rfl dX12_four_12 (fun x29 c30 rx29 tx29 => ?_)
  refine wk_top x25 (c30.symm.trans c27) ?_
  refine lv_iload_n hx hb dX12_four_15 rfl (lv_at hl 2 rfl) ?_
  refine lv_iload_n hx hb dX12_four_16 rfl (lv_at hl 0 rfl) ?_
  refine lv_ishr hx hb dX12_four_17 ?_
  refine lv_topi (fun x31 ex31 => ?_)
  refine lv_i2b hx hb dX12_four_18 rfl ?_
  refine lv_topi (fun x32 ex32 => ?_)
  refine tk_bast hC hK hw hT kM_at1 (by decide) rfl rfl (show 0 ≤ x25.toInt by omega) (show x25.toInt < 400 by omega) dX12_four_19 (fun H locs w33 hw hT k35 => ?_)
  have hF := hF.put kM_at1 (inE_of (a := 0) (b := 400) (by decide) (show 0 ≤ x25.toInt.toNat by omega) (show x25.toInt.toNat ≤ 400 by omega)) k35
  have c36 := k35.gi (Or.inl (tk_ne kM_at0 kM_at1 (by decide))) c27
  refine lv_aload_n hx hb dX12_four_20 rfl (lv_at hl 1 rfl) ?_
  refine lv_dup hx hb dX12_four_21 rfl ?_
  refine tk_geti hC hK hw hT hinX12 kM_at0 (by decide) rfl 1 (by decide) (List.mem_of_getElem? (i := 2) rfl) rfl rfl dX12_four_22 (fun x37 c38 rx37 tx37 => ?_)
  refine wk_top x25 (c38.symm.trans c36) ?_
  refine lv_iconst (v := 1) hx hb dX12_four_25 (by decide) ?_
  refine lv_iadd hx hb dX12_four_26 ?_
  refine lv_topi (fun x39 ex39 => ?_)
  have ex39 : x39.toInt = x25.toInt + (1 : Int) := by rw [ex39]; exact wk_add (show (-2147483648) ≤ x25.toInt + (1 : Int) by omega) (show x25.toInt + (1 : Int) ≤ 2147483647 by omega)
  refine tk_puti hC hK hw hT hinX12 tyX12_ok nmX12 kM_at0 (by decide) rfl rfl 1 (by decide) (List.mem_of_getElem? (i := 2) rfl) rfl rfl rfl rfl (show 0 ≤ x39.toInt by omega) (show x39.toInt ≤ 400 by omega) dX12_four_27 (fun H locs w40 hw hT k42 c41 => ?_)
  have hF := hF.put kM_at0 (k := 1) (by decide) k42
  refine lv_iinc (v := 0) (lv' := [(2, .int 0), (0, .ref (ad 0)), (1, .int a1)]) hx hb dX12_four_30 hl (k := 0) rfl (by decide) (by decide) rfl (fun ls hl => ?_)
  refine lv_goto (tgt := 3) hx hb dX12_four_33 (by decide) ?_
  refine lv_iload_n hx hb dX12_four_3 rfl (lv_at hl 0 rfl) ?_
  refine lv_if_lt (tgt := 36) hx hb dX12_four_4 (by decide) (fun c => absurd c (by decide)) (fun _ => ?_)
  refine lv_aload_n hx hb dX12_four_7 rfl (lv_at hl 1 rfl) ?_
  refine tk_getA hC hK hw hT hinX12 kM_at0 (by decide) rfl 0 (by decide) (List.mem_of_getElem? (i := 1) rfl) rfl rfl dX12_four_8 ?_
  refine lv_aload_n hx hb dX12_four_11 rfl (lv_at hl 1 rfl) ?_
  refine tk_geti hC hK hw hT hinX12 kM_at0 (by decide) rfl 1 (by decide) (List.mem_of_getElem? (i := 2) rfl) rfl rfl dX12_four_12 (fun x43 c44 rx43 tx43 => ?_)
  refine wk_top x39 (c44.symm.trans c41) ?_
  refine lv_iload_n hx hb dX12_four_15 rfl (lv_at hl 2 rfl) ?_
  refine lv_iload_n hx hb dX12_four_16 rfl (lv_at hl 0 rfl) ?_
  refine lv_ishr hx hb dX12_four_17 ?_
  refine lv_topi (fun x45 ex45 => ?_)
  refine lv_i2b hx hb dX12_four_18 rfl ?_
  refine lv_topi (fun x46 ex46 => ?_)
  refine tk_bast hC hK hw hT kM_at1 (by decide) rfl rfl (show 0 ≤ x39.toInt by omega) (show x39.toInt < 400 by omega) dX12_four_19 (fun H locs w47 hw hT k49 => ?_)
  have hF := hF.put kM_at1 (inE_of (a := 0) (b := 400) (by decide) (show 0 ≤ x39.toInt.toNat by omega) (show x39.toInt.toNat ≤ 400 by omega)) k49
  have c50 := k49.gi (Or.inl (tk_ne kM_at0 kM_at1 (by decide))) c41
  refine lv_aload_n hx hb dX12_four_20 rfl (lv_at hl 1 rfl) ?_
  refine lv_dup hx hb dX12_four_21 rfl ?_
  refine tk_geti hC hK hw hT hinX12 kM_at0 (by decide) rfl 1 (by decide) (List.mem_of_getElem? (i := 2) rfl) rfl rfl dX12_four_22 (fun x51 c52 rx51 tx51 => ?_)
  refine wk_top x39 (c52.symm.trans c50) ?_
  refine lv_iconst (v := 1) hx hb dX12_four_25 (by decide) ?_
  refine lv_iadd hx hb dX12_four_26 ?_
  refine lv_topi (fun x53 ex53 => ?_)
  have ex53 : x53.toInt = x39.toInt + (1 : Int) := by rw [ex53]; exact wk_add (show (-2147483648) ≤ x39.toInt + (1 : Int) by omega) (show x39.toInt + (1 : Int) ≤ 2147483647 by omega)
  refine tk_puti hC hK hw hT hinX12 tyX12_ok nmX12 kM_at0 (by decide) rfl rfl 1 (by decide) (List.mem_of_getElem? (i := 2) rfl) rfl rfl rfl rfl (show 0 ≤ x53.toInt by omega) (show x53.toInt ≤ 400 by omega) dX12_four_27 (fun H locs w54 hw hT k56 c55 => ?_)
  have hF := hF.put kM_at0 (k := 1) (by decide) k56
  refine lv_iinc (v := (-8)) (lv' := [(2, .int (-8)), (0, .ref (ad 0)), (1, .int a1)]) hx hb dX12_four_30 hl (k := 0) rfl (by decide) (by decide) rfl (fun ls hl => ?_)
  refine lv_goto (tgt := 3) hx hb dX12_four_33 (by decide) ?_
  refine lv_iload_n hx hb dX12_four_3 rfl (lv_at hl 0 rfl) ?_
  refine lv_if_lt (tgt := 36) hx hb dX12_four_4 (by decide) (fun _ => ?_) (fun c => absurd (by decide) c)
  exact tk_vret hC hr hlocks hK ⟨hT, hF, ⟨x53, c55, (show 12 ≤ x53.toInt by omega), (show x53.toInt ≤ 392 by omega)⟩⟩ hw dX12_four_36
abbrev P_X12_four_4 (ad : Nat → Nat) (cy : Nat → ClassId) (B : Int) (qr : Nat) (s1 : Int) (a1 : Int32) (w0 : va_W) : va_W → Prop := fun u => TW ksM ad cy B qr 12 u ∧ FE ksM [(12, 1, 1), (60, 0, 400)] w0 u ∧ (((∃ y : Int32, gi u 0 1 = y ∧ 16 ≤ y.toInt ∧ y.toInt ≤ 396)))
set_option maxHeartbeats 4000000 in
set_option maxRecDepth 100000 in
theorem k_X12_four_4 (l : Launch) (adK adV : Nat → Nat) (dC : Nat → ClassId) (dI : Nat → Nat → Nat) (cy : Nat → ClassId) (ad : Nat → Nat) (B : Int) (hB0 : 100000 ≤ B) (hB1 : B ≤ 1073741824) (qr : Nat) (s1 : Int)  (a1 : Int32) (w0 : va_W) (sz : Nat) (hT : TW ksM ad cy B qr 12 w0) (f0_ : Int32) (cf0_ : gi w0 0 1 = f0_) (rf0_ : 12 ≤ f0_.toInt) (tf0_ : f0_.toInt ≤ 392) : Met l yX12_four wsX12_four ({ frames := 1, cells := 0, slots := 0, locals := 12 }) (va_Pc [.ref (ad 0), .int a1] (wpreS adK adV dC dI cy sz w0)) (va_Qv (P_X12_four_4 ad cy B qr s1 a1 w0) (fun u : va_W => wpost dC dI cy (va_A w0 sz) u) (va_A w0 sz)) 0 0 (va_A w0 sz) := by
  refine Met.ofW (cc := cX12_four) (maxL := 3) (ret := none) (by decide) rfl ?_
  intro p e s m args below meth c s₁ Bk hml hv
  obtain ⟨rfl, ⟨hsz, hP, hK, hD0⟩, hE, hSR⟩ := hv
  have hx := Bk.exec
  have hb := Bk.bytes
  have hr := Bk.returns
  have hlocks := Bk.notSynchronized
  have hC : CallFix p m c cX12_four 3 s _ wsX12_four RX12 := ⟨hx, hb, hml, findClass_of_methodNamed Bk.named, atoms_spec (ws := wsX12_four) Bk.pre⟩
  subst hsz
  have hD := hD0.self (sz := s.heap.size)
  generalize hAe : va_A w0 s.heap.size = A at hD hE ⊢
  have hA : ∀ q : Nat, s.heap.size ≤ q → A q := fun q h => by rw [← hAe]; exact Or.inr h
  have hw : Wd dC dI A s.heap s.heap [] w0 := ⟨hP, hD, va_S.rf⟩
  have hF : FE ksM [(12, 1, 1), (60, 0, 400)] w0 w0 := FE.rf
  have hl := lv_entry ([.ref (ad 0), .int a1]) (n := 3) (Nat.le_of_ble_eq_true rfl)
  rw [lg_entry_eq]
  generalize (lg_sl ([.ref (ad 0), .int a1]) ++ List.replicate (3 - (lg_sl ([.ref (ad 0), .int a1])).length) Slot.unset).toArray = ls at hl ⊢
  have hl : lv_has ls 3 [(0, .ref (ad 0)), (1, .int a1)] := hl
  generalize hloc : ([] : List Loc) = locs at hw ⊢
  have hinX12 : ∀ w ∈ u_ws RX12 TX12 42, w ∈ wsX12_four := fun _ h => List.mem_cons_of_mem _ (List.mem_append_right _ (h))
  refine lv_bipush (v := 24) hx hb dX12_four_0 (by decide) ?_
  refine lv_istore_n (lv' := [(2, .int 24), (0, .ref (ad 0)), (1, .int a1)]) hx hb dX12_four_2 rfl hl (by decide) rfl (fun ls hl => ?_)
  refine lv_iload_n hx hb dX12_four_3 rfl (lv_at hl 0 rfl) ?_
  refine lv_if_lt (tgt := 36) hx hb dX12_four_4 (by decide) (fun c => absurd c (by decide)) (fun _ => ?_)
  refine lv_aload_n hx hb dX12_four_7 rfl (lv_at hl 1 rfl) ?_
  refine tk_getA hC hK hw hT hinX12 kM_at0 (by decide) rfl 0 (by decide) (List.mem_of_getElem? (i := 1) rfl) rfl rfl dX12_four_8 ?_
  refine lv_aload_n hx hb dX12_four_11 rfl (lv_at hl 1 rfl) ?_
  refine tk_geti hC hK hw hT hinX12 kM_at0 (by decide) rfl 1 (by decide) (List.mem_of_getElem? (i := 2) rfl) rfl rfl dX12_four_12 (fun x1 c2 rx1 tx1 => ?_)
  refine wk_top f0_ (c2.symm.trans cf0_) ?_
  refine lv_iload_n hx hb dX12_four_15 rfl (lv_at hl 2 rfl) ?_
  refine lv_iload_n hx hb dX12_four_16 rfl (lv_at hl 0 rfl) ?_
  refine lv_ishr hx hb dX12_four_17 ?_
  refine lv_topi (fun x3 ex3 => ?_)
  refine lv_i2b hx hb dX12_four_18 rfl ?_
  refine lv_topi (fun x4 ex4 => ?_)
  refine tk_bast hC hK hw hT kM_at1 (by decide) rfl rfl (show 0 ≤ f0_.toInt by omega) (show f0_.toInt < 400 by omega) dX12_four_19 (fun H locs w5 hw hT k7 => ?_)
  have hF := hF.put kM_at1 (inE_of (a := 0) (b := 400) (by decide) (show 0 ≤ f0_.toInt.toNat by omega) (show f0_.toInt.toNat ≤ 400 by omega)) k7
  have c8 := k7.gi (Or.inl (tk_ne kM_at0 kM_at1 (by decide))) cf0_
  refine lv_aload_n hx hb dX12_four_20 rfl (lv_at hl 1 rfl) ?_
  refine lv_dup hx hb dX12_four_21 rfl ?_
  refine tk_geti hC hK hw hT hinX12 kM_at0 (by decide) rfl 1 (by decide) (List.mem_of_getElem? (i := 2) rfl) rfl rfl dX12_four_22 (fun x9 c10 rx9 tx9 => ?_)
  refine wk_top f0_ (c10.symm.trans c8) ?_
  refine lv_iconst (v := 1) hx hb dX12_four_25 (by decide) ?_
  refine lv_iadd hx hb dX12_four_26 ?_
  refine lv_topi (fun x11 ex11 => ?_)
  have ex11 : x11.toInt = f0_.toInt + (1 : Int) := by rw [ex11]; exact wk_add (show (-2147483648) ≤ f0_.toInt + (1 : Int) by omega) (show f0_.toInt + (1 : Int) ≤ 2147483647 by omega)
  refine tk_puti hC hK hw hT hinX12 tyX12_ok nmX12 kM_at0 (by decide) rfl rfl 1 (by decide) (List.mem_of_getElem? (i := 2) rfl) rfl rfl rfl rfl (show 0 ≤ x11.toInt by omega) (show x11.toInt ≤ 400 by omega) dX12_four_27 (fun H locs w12 hw hT k14 c13 => ?_)
  have hF := hF.put kM_at0 (k := 1) (by decide) k14
  refine lv_iinc (v := 16) (lv' := [(2, .int 16), (0, .ref (ad 0)), (1, .int a1)]) hx hb dX12_four_30 hl (k := 0) rfl (by decide) (by decide) rfl (fun ls hl => ?_)
  refine lv_goto (tgt := 3) hx hb dX12_four_33 (by decide) ?_
  refine lv_iload_n hx hb dX12_four_3 rfl (lv_at hl 0 rfl) ?_
  refine lv_if_lt (tgt := 36) hx hb dX12_four_4 (by decide) (fun c => absurd c (by decide)) (fun _ => ?_)
  refine lv_aload_n hx hb dX12_four_7 rfl (lv_at hl 1 rfl) ?_
  refine tk_getA hC hK hw hT hinX12 kM_at0 (by decide) rfl 0 (by decide) (List.mem_of_getElem? (i := 1) rfl) rfl rfl dX12_four_8 ?_
  refine lv_aload_n hx hb dX12_four_11 rfl (lv_at hl 1 rfl) ?_
  refine tk_geti hC hK hw hT hinX12 kM_at0 (by decide) rfl 1 (by decide) (List.mem_of_getElem? (i := 2) rfl) rfl rfl dX12_four_12 (fun x15 c16 rx15 tx15 => ?_)
  refine wk_top x11 (c16.symm.trans c13) ?_
  refine lv_iload_n hx hb dX12_four_15 rfl (lv_at hl 2 rfl) ?_
  refine lv_iload_n hx hb dX12_four_16 rfl (lv_at hl 0 rfl) ?_
  refine lv_ishr hx hb dX12_four_17 ?_
  refine lv_topi (fun x17 ex17 => ?_)
  refine lv_i2b hx hb dX12_four_18 rfl ?_
  refine lv_topi (fun x18 ex18 => ?_)
  refine tk_bast hC hK hw hT kM_at1 (by decide) rfl rfl (show 0 ≤ x11.toInt by omega) (show x11.toInt < 400 by omega) dX12_four_19 (fun H locs w19 hw hT k21 => ?_)
  have hF := hF.put kM_at1 (inE_of (a := 0) (b := 400) (by decide) (show 0 ≤ x11.toInt.toNat by omega) (show x11.toInt.toNat ≤ 400 by omega)) k21
  have c22 := k21.gi (Or.inl (tk_ne kM_at0 kM_at1 (by decide))) c13
  refine lv_aload_n hx hb dX12_four_20 rfl (lv_at hl 1 rfl) ?_
  refine lv_dup hx hb dX12_four_21 rfl ?_
  refine tk_geti hC hK hw hT hinX12 kM_at0 (by decide) rfl 1 (by decide) (List.mem_of_getElem? (i := 2) rfl) rfl rfl dX12_four_22 (fun x23 c24 rx23 tx23 => ?_)
  refine wk_top x11 (c24.symm.trans c22) ?_
  refine lv_iconst (v := 1) hx hb dX12_four_25 (by decide) ?_
  refine lv_iadd hx hb dX12_four_26 ?_
  refine lv_topi (fun x25 ex25 => ?_)
  have ex25 : x25.toInt = x11.toInt + (1 : Int) := by rw [ex25]; exact wk_add (show (-2147483648) ≤ x11.toInt + (1 : Int) by omega) (show x11.toInt + (1 : Int) ≤ 2147483647 by omega)
  refine tk_puti hC hK hw hT hinX12 tyX12_ok nmX12 kM_at0 (by decide) rfl rfl 1 (by decide) (List.mem_of_getElem? (i := 2) rfl) rfl rfl rfl rfl (show 0 ≤ x25.toInt by omega) (show x25.toInt ≤ 400 by omega) dX12_four_27 (fun H locs w26 hw hT k28 c27 => ?_)
  have hF := hF.put kM_at0 (k := 1) (by decide) k28
  refine lv_iinc (v := 8) (lv' := [(2, .int 8), (0, .ref (ad 0)), (1, .int a1)]) hx hb dX12_four_30 hl (k := 0) rfl (by decide) (by decide) rfl (fun ls hl => ?_)
  refine lv_goto (tgt := 3) hx hb dX12_four_33 (by decide) ?_
  refine lv_iload_n hx hb dX12_four_3 rfl (lv_at hl 0 rfl) ?_
  refine lv_if_lt (tgt := 36) hx hb dX12_four_4 (by decide) (fun c => absurd c (by decide)) (fun _ => ?_)
  refine lv_aload_n hx hb dX12_four_7 rfl (lv_at hl 1 rfl) ?_
  refine tk_getA hC hK hw hT hinX12 kM_at0 (by decide) rfl 0 (by decide) (List.mem_of_getElem? (i := 1) rfl) rfl rfl dX12_four_8 ?_
  refine lv_aload_n hx hb dX12_four_11 rfl (lv_at hl 1 rfl) ?_
  refine tk_geti hC hK hw hT hinX12 kM_at0 (by decide) rfl 1 (by decide) (List.mem_of_getElem? (i := 2) rfl) rfl rfl dX12_four_12 (fun x29 c30 rx29 tx29 => ?_)
  refine wk_top x25 (c30.symm.trans c27) ?_
  refine lv_iload_n hx hb dX12_four_15 rfl (lv_at hl 2 rfl) ?_
  refine lv_iload_n hx hb dX12_four_16 rfl (lv_at hl 0 rfl) ?_
  refine lv_ishr hx hb dX12_four_17 ?_
  refine lv_topi (fun x31 ex31 => ?_)
  refine lv_i2b hx hb dX12_four_18 rfl ?_
  refine lv_topi (fun x32 ex32 => ?_)
  refine tk_bast hC hK hw hT kM_at1 (by decide) rfl rfl (show 0 ≤ x25.toInt by omega) (show x25.toInt < 400 by omega) dX12_four_19 (fun H locs w33 hw hT k35 => ?_)
  have hF := hF.put kM_at1 (inE_of (a := 0) (b := 400) (by decide) (show 0 ≤ x25.toInt.toNat by omega) (show x25.toInt.toNat ≤ 400 by omega)) k35
  have c36 := k35.gi (Or.inl (tk_ne kM_at0 kM_at1 (by decide))) c27
  refine lv_aload_n hx hb dX12_four_20 rfl (lv_at hl 1 rfl) ?_
  refine lv_dup hx hb dX12_four_21 rfl ?_
  refine tk_geti hC hK hw hT hinX12 kM_at0 (by decide) rfl 1 (by decide) (List.mem_of_getElem? (i := 2) rfl) rfl rfl dX12_four_22 (fun x37 c38 rx37 tx37 => ?_)
  refine wk_top x25 (c38.symm.trans c36) ?_
  refine lv_iconst (v := 1) hx hb dX12_four_25 (by decide) ?_
  refine lv_iadd hx hb dX12_four_26 ?_
  refine lv_topi (fun x39 ex39 => ?_)
  have ex39 : x39.toInt = x25.toInt + (1 : Int) := by rw [ex39]; exact wk_add (show (-2147483648) ≤ x25.toInt + (1 : Int) by omega) (show x25.toInt + (1 : Int) ≤ 2147483647 by omega)
  refine tk_puti hC hK hw hT hinX12 tyX12_ok nmX12 kM_at0 (by decide) rfl rfl 1 (by decide) (List.mem_of_getElem? (i := 2) rfl) rfl rfl rfl rfl (show 0 ≤ x39.toInt by omega) (show x39.toInt ≤ 400 by omega) dX12_four_27 (fun H locs w40 hw hT k42 c41 => ?_)
  have hF := hF.put kM_at0 (k := 1) (by decide) k42
  refine lv_iinc (v := 0) (lv' := [(2, .int 0), (0, .ref (ad 0)), (1, .int a1)]) hx hb dX12_four_30 hl (k := 0) rfl (by decide) (by decide) rfl (fun ls hl => ?_)
  refine lv_goto (tgt := 3) hx hb dX12_four_33 (by decide) ?_
  refine lv_iload_n hx hb dX12_four_3 rfl (lv_at hl 0 rfl) ?_
  refine lv_if_lt (tgt := 36) hx hb dX12_four_4 (by decide) (fun c => absurd c (by decide)) (fun _ => ?_)
  refine lv_aload_n hx hb dX12_four_7 rfl (lv_at hl 1 rfl) ?_
  refine tk_getA hC hK hw hT hinX12 kM_at0 (by decide) rfl 0 (by decide) (List.mem_of_getElem? (i := 1) rfl) rfl rfl dX12_four_8 ?_
  refine lv_aload_n hx hb dX12_four_11 rfl (lv_at hl 1 rfl) ?_
  refine tk_geti hC hK hw hT hinX12 kM_at0 (by decide) rfl 1 (by decide) (List.mem_of_getElem? (i := 2) rfl) rfl rfl dX12_four_12 (fun x43 c44 rx43 tx43 => ?_)
  refine wk_top x39 (c44.symm.trans c41) ?_
  refine lv_iload_n hx hb dX12_four_15 rfl (lv_at hl 2 rfl) ?_
  refine lv_iload_n hx hb dX12_four_16 rfl (lv_at hl 0 rfl) ?_
  refine lv_ishr hx hb dX12_four_17 ?_
  refine lv_topi (fun x45 ex45 => ?_)
  refine lv_i2b hx hb dX12_four_18 rfl ?_
  refine lv_topi (fun x46 ex46 => ?_)
  refine tk_bast hC hK hw hT kM_at1 (by decide) rfl rfl (show 0 ≤ x39.toInt by omega) (show x39.toInt < 400 by omega) dX12_four_19 (fun H locs w47 hw hT k49 => ?_)
  have hF := hF.put kM_at1 (inE_of (a := 0) (b := 400) (by decide) (show 0 ≤ x39.toInt.toNat by omega) (show x39.toInt.toNat ≤ 400 by omega)) k49
  have c50 := k49.gi (Or.inl (tk_ne kM_at0 kM_at1 (by decide))) c41
  refine lv_aload_n hx hb dX12_four_20 rfl (lv_at hl 1 rfl) ?_
  refine lv_dup hx hb dX12_four_21 rfl ?_
  refine tk_geti hC hK hw hT hinX12 kM_at0 (by decide) rfl 1 (by decide) (List.mem_of_getElem? (i := 2) rfl) rfl rfl dX12_four_22 (fun x51 c52 rx51 tx51 => ?_)
  refine wk_top x39 (c52.symm.trans c50) ?_
  refine lv_iconst (v := 1) hx hb dX12_four_25 (by decide) ?_
  refine lv_iadd hx hb dX12_four_26 ?_
  refine lv_topi (fun x53 ex53 => ?_)
  have ex53 : x53.toInt = x39.toInt + (1 : Int) := by rw [ex53]; exact wk_add (show (-2147483648) ≤ x39.toInt + (1 : Int) by omega) (show x39.toInt + (1 : Int) ≤ 2147483647 by omega)
  refine tk_puti hC hK hw hT hinX12 tyX12_ok nmX12 kM_at0 (by decide) rfl rfl 1 (by decide) (List.mem_of_getElem? (i := 2) rfl) rfl rfl rfl rfl (show 0 ≤ x53.toInt by omega) (show x53.toInt ≤ 400 by omega) dX12_four_27 (fun H locs w54 hw hT k56 c55 => ?_)
  have hF := hF.put kM_at0 (k := 1) (by decide) k56
  refine lv_iinc (v := (-8)) (lv' := [(2, .int (-8)), (0, .ref (ad 0)), (1, .int a1)]) hx hb dX12_four_30 hl (k := 0) rfl (by decide) (by decide) rfl (fun ls hl => ?_)
  refine lv_goto (tgt := 3) hx hb dX12_four_33 (by decide) ?_
  refine lv_iload_n hx hb dX12_four_3 rfl (lv_at hl 0 rfl) ?_
  refine lv_if_lt (tgt := 36) hx hb dX12_four_4 (by decide) (fun _ => ?_) (fun c => absurd (by decide) c)
  exact tk_vret hC hr hlocks hK ⟨hT, hF, ⟨x53, c55, (show 16 ≤ x53.toInt by omega), (show x53.toInt ≤ 396 by omega)⟩⟩ hw dX12_four_36
abbrev P_X12_four_5 (ad : Nat → Nat) (cy : Nat → ClassId) (B : Int) (qr : Nat) (s1 : Int) (a1 : Int32) (w0 : va_W) : va_W → Prop := fun u => TW ksM ad cy B qr 12 u ∧ FE ksM [(12, 1, 1), (60, 0, 400)] w0 u ∧ (((∃ y : Int32, gi u 0 1 = y ∧ 20 ≤ y.toInt ∧ y.toInt ≤ 400)))
set_option maxHeartbeats 4000000 in
set_option maxRecDepth 100000 in
theorem k_X12_four_5 (l : Launch) (adK adV : Nat → Nat) (dC : Nat → ClassId) (dI : Nat → Nat → Nat) (cy : Nat → ClassId) (ad : Nat → Nat) (B : Int) (hB0 : 100000 ≤ B) (hB1 : B ≤ 1073741824) (qr : Nat) (s1 : Int)  (a1 : Int32) (w0 : va_W) (sz : Nat) (hT : TW ksM ad cy B qr 12 w0) (f0_ : Int32) (cf0_ : gi w0 0 1 = f0_) (rf0_ : 16 ≤ f0_.toInt) (tf0_ : f0_.toInt ≤ 396) : Met l yX12_four wsX12_four ({ frames := 1, cells := 0, slots := 0, locals := 12 }) (va_Pc [.ref (ad 0), .int a1] (wpreS adK adV dC dI cy sz w0)) (va_Qv (P_X12_four_5 ad cy B qr s1 a1 w0) (fun u : va_W => wpost dC dI cy (va_A w0 sz) u) (va_A w0 sz)) 0 0 (va_A w0 sz) := by
  refine Met.ofW (cc := cX12_four) (maxL := 3) (ret := none) (by decide) rfl ?_
  intro p e s m args below meth c s₁ Bk hml hv
  obtain ⟨rfl, ⟨hsz, hP, hK, hD0⟩, hE, hSR⟩ := hv
  have hx := Bk.exec
  have hb := Bk.bytes
  have hr := Bk.returns
  have hlocks := Bk.notSynchronized
  have hC : CallFix p m c cX12_four 3 s _ wsX12_four RX12 := ⟨hx, hb, hml, findClass_of_methodNamed Bk.named, atoms_spec (ws := wsX12_four) Bk.pre⟩
  subst hsz
  have hD := hD0.self (sz := s.heap.size)
  generalize hAe : va_A w0 s.heap.size = A at hD hE ⊢
  have hA : ∀ q : Nat, s.heap.size ≤ q → A q := fun q h => by rw [← hAe]; exact Or.inr h
  have hw : Wd dC dI A s.heap s.heap [] w0 := ⟨hP, hD, va_S.rf⟩
  have hF : FE ksM [(12, 1, 1), (60, 0, 400)] w0 w0 := FE.rf
  have hl := lv_entry ([.ref (ad 0), .int a1]) (n := 3) (Nat.le_of_ble_eq_true rfl)
  rw [lg_entry_eq]
  generalize (lg_sl ([.ref (ad 0), .int a1]) ++ List.replicate (3 - (lg_sl ([.ref (ad 0), .int a1])).length) Slot.unset).toArray = ls at hl ⊢
  have hl : lv_has ls 3 [(0, .ref (ad 0)), (1, .int a1)] := hl
  generalize hloc : ([] : List Loc) = locs at hw ⊢
  have hinX12 : ∀ w ∈ u_ws RX12 TX12 42, w ∈ wsX12_four := fun _ h => List.mem_cons_of_mem _ (List.mem_append_right _ (h))
  refine lv_bipush (v := 24) hx hb dX12_four_0 (by decide) ?_
  refine lv_istore_n (lv' := [(2, .int 24), (0, .ref (ad 0)), (1, .int a1)]) hx hb dX12_four_2 rfl hl (by decide) rfl (fun ls hl => ?_)
  refine lv_iload_n hx hb dX12_four_3 rfl (lv_at hl 0 rfl) ?_
  refine lv_if_lt (tgt := 36) hx hb dX12_four_4 (by decide) (fun c => absurd c (by decide)) (fun _ => ?_)
  refine lv_aload_n hx hb dX12_four_7 rfl (lv_at hl 1 rfl) ?_
  refine tk_getA hC hK hw hT hinX12 kM_at0 (by decide) rfl 0 (by decide) (List.mem_of_getElem? (i := 1) rfl) rfl rfl dX12_four_8 ?_
  refine lv_aload_n hx hb dX12_four_11 rfl (lv_at hl 1 rfl) ?_
  refine tk_geti hC hK hw hT hinX12 kM_at0 (by decide) rfl 1 (by decide) (List.mem_of_getElem? (i := 2) rfl) rfl rfl dX12_four_12 (fun x1 c2 rx1 tx1 => ?_)
  refine wk_top f0_ (c2.symm.trans cf0_) ?_
  refine lv_iload_n hx hb dX12_four_15 rfl (lv_at hl 2 rfl) ?_
  refine lv_iload_n hx hb dX12_four_16 rfl (lv_at hl 0 rfl) ?_
  refine lv_ishr hx hb dX12_four_17 ?_
  refine lv_topi (fun x3 ex3 => ?_)
  refine lv_i2b hx hb dX12_four_18 rfl ?_
  refine lv_topi (fun x4 ex4 => ?_)
  refine tk_bast hC hK hw hT kM_at1 (by decide) rfl rfl (show 0 ≤ f0_.toInt by omega) (show f0_.toInt < 400 by omega) dX12_four_19 (fun H locs w5 hw hT k7 => ?_)
  have hF := hF.put kM_at1 (inE_of (a := 0) (b := 400) (by decide) (show 0 ≤ f0_.toInt.toNat by omega) (show f0_.toInt.toNat ≤ 400 by omega)) k7
  have c8 := k7.gi (Or.inl (tk_ne kM_at0 kM_at1 (by decide))) cf0_
  refine lv_aload_n hx hb dX12_four_20 rfl (lv_at hl 1 rfl) ?_
  refine lv_dup hx hb dX12_four_21 rfl ?_
  refine tk_geti hC hK hw hT hinX12 kM_at0 (by decide) rfl 1 (by decide) (List.mem_of_getElem? (i := 2) rfl) rfl rfl dX12_four_22 (fun x9 c10 rx9 tx9 => ?_)
  refine wk_top f0_ (c10.symm.trans c8) ?_
  refine lv_iconst (v := 1) hx hb dX12_four_25 (by decide) ?_
  refine lv_iadd hx hb dX12_four_26 ?_
  refine lv_topi (fun x11 ex11 => ?_)
  have ex11 : x11.toInt = f0_.toInt + (1 : Int) := by rw [ex11]; exact wk_add (show (-2147483648) ≤ f0_.toInt + (1 : Int) by omega) (show f0_.toInt + (1 : Int) ≤ 2147483647 by omega)
  refine tk_puti hC hK hw hT hinX12 tyX12_ok nmX12 kM_at0 (by decide) rfl rfl 1 (by decide) (List.mem_of_getElem? (i := 2) rfl) rfl rfl rfl rfl (show 0 ≤ x11.toInt by omega) (show x11.toInt ≤ 400 by omega) dX12_four_27 (fun H locs w12 hw hT k14 c13 => ?_)
  have hF := hF.put kM_at0 (k := 1) (by decide) k14
  refine lv_iinc (v := 16) (lv' := [(2, .int 16), (0, .ref (ad 0)), (1, .int a1)]) hx hb dX12_four_30 hl (k := 0) rfl (by decide) (by decide) rfl (fun ls hl => ?_)
  refine lv_goto (tgt := 3) hx hb dX12_four_33 (by decide) ?_
  refine lv_iload_n hx hb dX12_four_3 rfl (lv_at hl 0 rfl) ?_
  refine lv_if_lt (tgt := 36) hx hb dX12_four_4 (by decide) (fun c => absurd c (by decide)) (fun _ => ?_)
  refine lv_aload_n hx hb dX12_four_7 rfl (lv_at hl 1 rfl) ?_
  refine tk_getA hC hK hw hT hinX12 kM_at0 (by decide) rfl 0 (by decide) (List.mem_of_getElem? (i := 1) rfl) rfl rfl dX12_four_8 ?_
  refine lv_aload_n hx hb dX12_four_11 rfl (lv_at hl 1 rfl) ?_
  refine tk_geti hC hK hw hT hinX12 kM_at0 (by decide) rfl 1 (by decide) (List.mem_of_getElem? (i := 2) rfl) rfl rfl dX12_four_12 (fun x15 c16 rx15 tx15 => ?_)
  refine wk_top x11 (c16.symm.trans c13) ?_
  refine lv_iload_n hx hb dX12_four_15 rfl (lv_at hl 2 rfl) ?_
  refine lv_iload_n hx hb dX12_four_16 rfl (lv_at hl 0 rfl) ?_
  refine lv_ishr hx hb dX12_four_17 ?_
  refine lv_topi (fun x17 ex17 => ?_)
  refine lv_i2b hx hb dX12_four_18 rfl ?_
  refine lv_topi (fun x18 ex18 => ?_)
  refine tk_bast hC hK hw hT kM_at1 (by decide) rfl rfl (show 0 ≤ x11.toInt by omega) (show x11.toInt < 400 by omega) dX12_four_19 (fun H locs w19 hw hT k21 => ?_)
  have hF := hF.put kM_at1 (inE_of (a := 0) (b := 400) (by decide) (show 0 ≤ x11.toInt.toNat by omega) (show x11.toInt.toNat ≤ 400 by omega)) k21
  have c22 := k21.gi (Or.inl (tk_ne kM_at0 kM_at1 (by decide))) c13
  refine lv_aload_n hx hb dX12_four_20 rfl (lv_at hl 1 rfl) ?_
  refine lv_dup hx hb dX12_four_21 rfl ?_
  refine tk_geti hC hK hw hT hinX12 kM_at0 (by decide) rfl 1 (by decide) (List.mem_of_getElem? (i := 2) rfl) rfl rfl dX12_four_22 (fun x23 c24 rx23 tx23 => ?_)
  refine wk_top x11 (c24.symm.trans c22) ?_
  refine lv_iconst (v := 1) hx hb dX12_four_25 (by decide) ?_
  refine lv_iadd hx hb dX12_four_26 ?_
  refine lv_topi (fun x25 ex25 => ?_)
  have ex25 : x25.toInt = x11.toInt + (1 : Int) := by rw [ex25]; exact wk_add (show (-2147483648) ≤ x11.toInt + (1 : Int) by omega) (show x11.toInt + (1 : Int) ≤ 2147483647 by omega)
  refine tk_puti hC hK hw hT hinX12 tyX12_ok nmX12 kM_at0 (by decide) rfl rfl 1 (by decide) (List.mem_of_getElem? (i := 2) rfl) rfl rfl rfl rfl (show 0 ≤ x25.toInt by omega) (show x25.toInt ≤ 400 by omega) dX12_four_27 (fun H locs w26 hw hT k28 c27 => ?_)
  have hF := hF.put kM_at0 (k := 1) (by decide) k28
  refine lv_iinc (v := 8) (lv' := [(2, .int 8), (0, .ref (ad 0)), (1, .int a1)]) hx hb dX12_four_30 hl (k := 0) rfl (by decide) (by decide) rfl (fun ls hl => ?_)
  refine lv_goto (tgt := 3) hx hb dX12_four_33 (by decide) ?_
  refine lv_iload_n hx hb dX12_four_3 rfl (lv_at hl 0 rfl) ?_
  refine lv_if_lt (tgt := 36) hx hb dX12_four_4 (by decide) (fun c => absurd c (by decide)) (fun _ => ?_)
  refine lv_aload_n hx hb dX12_four_7 rfl (lv_at hl 1 rfl) ?_
  refine tk_getA hC hK hw hT hinX12 kM_at0 (by decide) rfl 0 (by decide) (List.mem_of_getElem? (i := 1) rfl) rfl rfl dX12_four_8 ?_
  refine lv_aload_n hx hb dX12_four_11 rfl (lv_at hl 1 rfl) ?_
  refine tk_geti hC hK hw hT hinX12 kM_at0 (by decide) rfl 1 (by decide) (List.mem_of_getElem? (i := 2) rfl) rfl rfl dX12_four_12 (fun x29 c30 rx29 tx29 => ?_)
  refine wk_top x25 (c30.symm.trans c27) ?_
  refine lv_iload_n hx hb dX12_four_15 rfl (lv_at hl 2 rfl) ?_
  refine lv_iload_n hx hb dX12_four_16 rfl (lv_at hl 0 rfl) ?_
  refine lv_ishr hx hb dX12_four_17 ?_
  refine lv_topi (fun x31 ex31 => ?_)
  refine lv_i2b hx hb dX12_four_18 rfl ?_
  refine lv_topi (fun x32 ex32 => ?_)
  refine tk_bast hC hK hw hT kM_at1 (by decide) rfl rfl (show 0 ≤ x25.toInt by omega) (show x25.toInt < 400 by omega) dX12_four_19 (fun H locs w33 hw hT k35 => ?_)
  have hF := hF.put kM_at1 (inE_of (a := 0) (b := 400) (by decide) (show 0 ≤ x25.toInt.toNat by omega) (show x25.toInt.toNat ≤ 400 by omega)) k35
  have c36 := k35.gi (Or.inl (tk_ne kM_at0 kM_at1 (by decide))) c27
  refine lv_aload_n hx hb dX12_four_20 rfl (lv_at hl 1 rfl) ?_
  refine lv_dup hx hb dX12_four_21 rfl ?_
  refine tk_geti hC hK hw hT hinX12 kM_at0 (by decide) rfl 1 (by decide) (List.mem_of_getElem? (i := 2) rfl) rfl rfl dX12_four_22 (fun x37 c38 rx37 tx37 => ?_)
  refine wk_top x25 (c38.symm.trans c36) ?_
  refine lv_iconst (v := 1) hx hb dX12_four_25 (by decide) ?_
  refine lv_iadd hx hb dX12_four_26 ?_
  refine lv_topi (fun x39 ex39 => ?_)
  have ex39 : x39.toInt = x25.toInt + (1 : Int) := by rw [ex39]; exact wk_add (show (-2147483648) ≤ x25.toInt + (1 : Int) by omega) (show x25.toInt + (1 : Int) ≤ 2147483647 by omega)
  refine tk_puti hC hK hw hT hinX12 tyX12_ok nmX12 kM_at0 (by decide) rfl rfl 1 (by decide) (List.mem_of_getElem? (i := 2) rfl) rfl rfl rfl rfl (show 0 ≤ x39.toInt by omega) (show x39.toInt ≤ 400 by omega) dX12_four_27 (fun H locs w40 hw hT k42 c41 => ?_)
  have hF := hF.put kM_at0 (k := 1) (by decide) k42
  refine lv_iinc (v := 0) (lv' := [(2, .int 0), (0, .ref (ad 0)), (1, .int a1)]) hx hb dX12_four_30 hl (k := 0) rfl (by decide) (by decide) rfl (fun ls hl => ?_)
  refine lv_goto (tgt := 3) hx hb dX12_four_33 (by decide) ?_
  refine lv_iload_n hx hb dX12_four_3 rfl (lv_at hl 0 rfl) ?_
  refine lv_if_lt (tgt := 36) hx hb dX12_four_4 (by decide) (fun c => absurd c (by decide)) (fun _ => ?_)
  refine lv_aload_n hx hb dX12_four_7 rfl (lv_at hl 1 rfl) ?_
  refine tk_getA hC hK hw hT hinX12 kM_at0 (by decide) rfl 0 (by decide) (List.mem_of_getElem? (i := 1) rfl) rfl rfl dX12_four_8 ?_
  refine lv_aload_n hx hb dX12_four_11 rfl (lv_at hl 1 rfl) ?_
  refine tk_geti hC hK hw hT hinX12 kM_at0 (by decide) rfl 1 (by decide) (List.mem_of_getElem? (i := 2) rfl) rfl rfl dX12_four_12 (fun x43 c44 rx43 tx43 => ?_)
  refine wk_top x39 (c44.symm.trans c41) ?_
  refine lv_iload_n hx hb dX12_four_15 rfl (lv_at hl 2 rfl) ?_
  refine lv_iload_n hx hb dX12_four_16 rfl (lv_at hl 0 rfl) ?_
  refine lv_ishr hx hb dX12_four_17 ?_
  refine lv_topi (fun x45 ex45 => ?_)
  refine lv_i2b hx hb dX12_four_18 rfl ?_
  refine lv_topi (fun x46 ex46 => ?_)
  refine tk_bast hC hK hw hT kM_at1 (by decide) rfl rfl (show 0 ≤ x39.toInt by omega) (show x39.toInt < 400 by omega) dX12_four_19 (fun H locs w47 hw hT k49 => ?_)
  have hF := hF.put kM_at1 (inE_of (a := 0) (b := 400) (by decide) (show 0 ≤ x39.toInt.toNat by omega) (show x39.toInt.toNat ≤ 400 by omega)) k49
  have c50 := k49.gi (Or.inl (tk_ne kM_at0 kM_at1 (by decide))) c41
  refine lv_aload_n hx hb dX12_four_20 rfl (lv_at hl 1 rfl) ?_
  refine lv_dup hx hb dX12_four_21 rfl ?_
  refine tk_geti hC hK hw hT hinX12 kM_at0 (by decide) rfl 1 (by decide) (List.mem_of_getElem? (i := 2) rfl) rfl rfl dX12_four_22 (fun x51 c52 rx51 tx51 => ?_)
  refine wk_top x39 (c52.symm.trans c50) ?_
  refine lv_iconst (v := 1) hx hb dX12_four_25 (by decide) ?_
  refine lv_iadd hx hb dX12_four_26 ?_
  refine lv_topi (fun x53 ex53 => ?_)
  have ex53 : x53.toInt = x39.toInt + (1 : Int) := by rw [ex53]; exact wk_add (show (-2147483648) ≤ x39.toInt + (1 : Int) by omega) (show x39.toInt + (1 : Int) ≤ 2147483647 by omega)
  refine tk_puti hC hK hw hT hinX12 tyX12_ok nmX12 kM_at0 (by decide) rfl rfl 1 (by decide) (List.mem_of_getElem? (i := 2) rfl) rfl rfl rfl rfl (show 0 ≤ x53.toInt by omega) (show x53.toInt ≤ 400 by omega) dX12_four_27 (fun H locs w54 hw hT k56 c55 => ?_)
  have hF := hF.put kM_at0 (k := 1) (by decide) k56
  refine lv_iinc (v := (-8)) (lv' := [(2, .int (-8)), (0, .ref (ad 0)), (1, .int a1)]) hx hb dX12_four_30 hl (k := 0) rfl (by decide) (by decide) rfl (fun ls hl => ?_)
  refine lv_goto (tgt := 3) hx hb dX12_four_33 (by decide) ?_
  refine lv_iload_n hx hb dX12_four_3 rfl (lv_at hl 0 rfl) ?_
  refine lv_if_lt (tgt := 36) hx hb dX12_four_4 (by decide) (fun _ => ?_) (fun c => absurd (by decide) c)
  exact tk_vret hC hr hlocks hK ⟨hT, hF, ⟨x53, c55, (show 20 ≤ x53.toInt by omega), (show x53.toInt ≤ 400 by omega)⟩⟩ hw dX12_four_36
abbrev P_X12_feed_1 (ad : Nat → Nat) (cy : Nat → ClassId) (B : Int) (qr : Nat) (s1 : Int) (a1 : Int32) (a2 : Int32) (a3 : Int32) (a4 : Int32) (a5 : Int32) (w0 : va_W) : Int32 → va_W → Prop := fun r u => TW ksM ad cy B qr 12 u ∧ FE ksM [(12, 1, 1), (60, 0, 400)] w0 u ∧ ((20 ≤ r.toInt ∧ r.toInt ≤ 400 ∧ (∃ y : Int32, gi u 0 1 = y ∧ 20 ≤ y.toInt ∧ y.toInt ≤ 400)) ∨ (r = (-1) ∧ (∃ y : Int32, gi u 0 1 = y ∧ 381 ≤ y.toInt ∧ y.toInt ≤ 400)))
set_option maxHeartbeats 4000000 in
set_option maxRecDepth 100000 in
theorem k_X12_feed_1 (l : Launch) (adK adV : Nat → Nat) (dC : Nat → ClassId) (dI : Nat → Nat → Nat) (cy : Nat → ClassId) (ad : Nat → Nat) (B : Int) (hB0 : 100000 ≤ B) (hB1 : B ≤ 1073741824) (qr : Nat) (s1 : Int)  (a1 : Int32) (a2 : Int32) (a3 : Int32) (a4 : Int32) (a5 : Int32) (w0 : va_W) (sz : Nat) (hT : TW ksM ad cy B qr 12 w0)  : Met l yX12_feed wsX12_feed ({ frames := 2, cells := 0, slots := 0, locals := 34 }) (va_Pc [.ref (ad 0), .int a1, .int a2, .int a3, .int a4, .int a5] (wpreS adK adV dC dI cy sz w0)) (va_Qi (P_X12_feed_1 ad cy B qr s1 a1 a2 a3 a4 a5 w0) (fun u : va_W => wpost dC dI cy (va_A w0 sz) u) (va_A w0 sz)) 0 0 (va_A w0 sz) := by
  refine Met.ofW (cc := cX12_feed) (maxL := 6) (ret := (some .int)) (by decide) rfl ?_
  intro p e s m args below meth c s₁ Bk hml hv
  obtain ⟨rfl, ⟨hsz, hP, hK, hD0⟩, hE, hSR⟩ := hv
  have hx := Bk.exec
  have hb := Bk.bytes
  have hr := Bk.returns
  have hlocks := Bk.notSynchronized
  have hC : CallFix p m c cX12_feed 6 s _ wsX12_feed RX12 := ⟨hx, hb, hml, findClass_of_methodNamed Bk.named, atoms_spec (ws := wsX12_feed) Bk.pre⟩
  subst hsz
  have hD := hD0.self (sz := s.heap.size)
  generalize hAe : va_A w0 s.heap.size = A at hD hE ⊢
  have hA : ∀ q : Nat, s.heap.size ≤ q → A q := fun q h => by rw [← hAe]; exact Or.inr h
  have hw : Wd dC dI A s.heap s.heap [] w0 := ⟨hP, hD, va_S.rf⟩
  have hF : FE ksM [(12, 1, 1), (60, 0, 400)] w0 w0 := FE.rf
  have hl := lv_entry ([.ref (ad 0), .int a1, .int a2, .int a3, .int a4, .int a5]) (n := 6) (Nat.le_of_ble_eq_true rfl)
  rw [lg_entry_eq]
  generalize (lg_sl ([.ref (ad 0), .int a1, .int a2, .int a3, .int a4, .int a5]) ++ List.replicate (6 - (lg_sl ([.ref (ad 0), .int a1, .int a2, .int a3, .int a4, .int a5])).length) Slot.unset).toArray = ls at hl ⊢
  have hl : lv_has ls 6 [(0, .ref (ad 0)), (1, .int a1), (2, .int a2), (3, .int a3), (4, .int a4), (5, .int a5)] := hl
  generalize hloc : ([] : List Loc) = locs at hw ⊢
  have hinX12 : ∀ w ∈ u_ws RX12 TX12 42, w ∈ wsX12_feed := fun _ h => List.mem_cons_of_mem _ (List.mem_append_right _ (h))
  refine lv_aload_n hx hb dX12_feed_0 rfl (lv_at hl 0 rfl) ?_
  refine tk_geti hC hK hw hT hinX12 kM_at0 (by decide) rfl 1 (by decide) (List.mem_of_getElem? (i := 1) rfl) rfl rfl dX12_feed_1 (fun x1 c2 rx1 tx1 => ?_)
  refine lv_bipush (v := 20) hx hb dX12_feed_4 (by decide) ?_
  refine lv_iadd hx hb dX12_feed_6 ?_
  refine lv_topi (fun x3 ex3 => ?_)
  have ex3 : x3.toInt = x1.toInt + (20 : Int) := by rw [ex3]; exact wk_add (show (-2147483648) ≤ x1.toInt + (20 : Int) by omega) (show x1.toInt + (20 : Int) ≤ 2147483647 by omega)
  refine lv_sipush (v := 400) hx hb dX12_feed_7 (by decide) ?_
  refine lv_icmp_le (tgt := 15) hx hb dX12_feed_10 (by decide) (fun c4 => ?_) (fun c4 => ?_)
  · have c4 : x3.toInt ≤ (400 : Int) := wk_le.mp c4
    refine lv_aload_n hx hb dX12_feed_15 rfl (lv_at hl 0 rfl) ?_
    refine lv_iload_n hx hb dX12_feed_16 rfl (lv_at hl 1 rfl) ?_
    refine tk_Vv hC hK hw hT hA hE hSR kM_at0 (by decide) rfl (k_X12_four_1 l adK adV dC dI cy ad B (by omega) (by omega) qr s1   a1 w0 s.heap.size hT x1 c2 (show 0 ≤ x1.toInt by omega) (show x1.toInt ≤ 380 by omega)) (cwV 1 hC.2.2.2.2 gX12_feed_X12_four rfl rfl rfl (by decide +kernel) ⟨Nat.le_of_ble_eq_true rfl, Nat.le_of_ble_eq_true rfl⟩) rfl hl.1 rfl (Nat.le_of_ble_eq_true rfl) dX12_feed_17 (fun w7 H locs hp6 hw => ?_)
    obtain ⟨hT, k8, hg11⟩ := hp6
    have hF := hF.tr k8 (by decide)
    obtain ⟨x9, c10, rx9, tx9⟩ := hg11
    refine lv_aload_n hx hb dX12_feed_20 rfl (lv_at hl 0 rfl) ?_
    refine lv_iload_n hx hb dX12_feed_21 rfl (lv_at hl 2 rfl) ?_
    refine tk_Vv hC hK hw hT hA hE hSR kM_at0 (by decide) rfl (k_X12_four_2 l adK adV dC dI cy ad B (by omega) (by omega) qr s1   a2 w7 H.size hT x9 c10 (show 4 ≤ x9.toInt by omega) (show x9.toInt ≤ 384 by omega)) (cwV 1 hC.2.2.2.2 gX12_feed_X12_four rfl rfl rfl (by decide +kernel) ⟨Nat.le_of_ble_eq_true rfl, Nat.le_of_ble_eq_true rfl⟩) rfl hl.1 rfl (Nat.le_of_ble_eq_true rfl) dX12_feed_22 (fun w14 H locs hp13 hw => ?_)
    obtain ⟨hT, k15, hg18⟩ := hp13
    have hF := hF.tr k15 (by decide)
    obtain ⟨x16, c17, rx16, tx16⟩ := hg18
    refine lv_aload_n hx hb dX12_feed_25 rfl (lv_at hl 0 rfl) ?_
    refine lv_iload_n hx hb dX12_feed_26 rfl (lv_at hl 3 rfl) ?_
    refine tk_Vv hC hK hw hT hA hE hSR kM_at0 (by decide) rfl (k_X12_four_3 l adK adV dC dI cy ad B (by omega) (by omega) qr s1   a3 w14 H.size hT x16 c17 (show 8 ≤ x16.toInt by omega) (show x16.toInt ≤ 388 by omega)) (cwV 1 hC.2.2.2.2 gX12_feed_X12_four rfl rfl rfl (by decide +kernel) ⟨Nat.le_of_ble_eq_true rfl, Nat.le_of_ble_eq_true rfl⟩) rfl hl.1 rfl (Nat.le_of_ble_eq_true rfl) dX12_feed_27 (fun w21 H locs hp20 hw => ?_)
    obtain ⟨hT, k22, hg25⟩ := hp20
    have hF := hF.tr k22 (by decide)
    obtain ⟨x23, c24, rx23, tx23⟩ := hg25
    refine lv_aload_n hx hb dX12_feed_30 rfl (lv_at hl 0 rfl) ?_
    refine lv_iload hx hb dX12_feed_31 (lv_at hl 4 rfl) ?_
    refine tk_Vv hC hK hw hT hA hE hSR kM_at0 (by decide) rfl (k_X12_four_4 l adK adV dC dI cy ad B (by omega) (by omega) qr s1   a4 w21 H.size hT x23 c24 (show 12 ≤ x23.toInt by omega) (show x23.toInt ≤ 392 by omega)) (cwV 1 hC.2.2.2.2 gX12_feed_X12_four rfl rfl rfl (by decide +kernel) ⟨Nat.le_of_ble_eq_true rfl, Nat.le_of_ble_eq_true rfl⟩) rfl hl.1 rfl (Nat.le_of_ble_eq_true rfl) dX12_feed_33 (fun w28 H locs hp27 hw => ?_)
    obtain ⟨hT, k29, hg32⟩ := hp27
    have hF := hF.tr k29 (by decide)
    obtain ⟨x30, c31, rx30, tx30⟩ := hg32
    refine lv_aload_n hx hb dX12_feed_36 rfl (lv_at hl 0 rfl) ?_
    refine lv_iload hx hb dX12_feed_37 (lv_at hl 5 rfl) ?_
    refine tk_Vv hC hK hw hT hA hE hSR kM_at0 (by decide) rfl (k_X12_four_5 l adK adV dC dI cy ad B (by omega) (by omega) qr s1   a5 w28 H.size hT x30 c31 (show 16 ≤ x30.toInt by omega) (show x30.toInt ≤ 396 by omega)) (cwV 1 hC.2.2.2.2 gX12_feed_X12_four rfl rfl rfl (by decide +kernel) ⟨Nat.le_of_ble_eq_true rfl, Nat.le_of_ble_eq_true rfl⟩) rfl hl.1 rfl (Nat.le_of_ble_eq_true rfl) dX12_feed_39 (fun w35 H locs hp34 hw => ?_)
    obtain ⟨hT, k36, hg39⟩ := hp34
    have hF := hF.tr k36 (by decide)
    obtain ⟨x37, c38, rx37, tx37⟩ := hg39
    refine lv_aload_n hx hb dX12_feed_42 rfl (lv_at hl 0 rfl) ?_
    refine tk_geti hC hK hw hT hinX12 kM_at0 (by decide) rfl 1 (by decide) (List.mem_of_getElem? (i := 1) rfl) rfl rfl dX12_feed_43 (fun x40 c41 rx40 tx40 => ?_)
    refine wk_top x37 (c41.symm.trans c38) ?_
    exact tk_iret hC hr hlocks hK ⟨hT, hF, (Or.inl ⟨(show 20 ≤ x37.toInt by omega), (show x37.toInt ≤ 400 by omega), ⟨x37, c38, (show 20 ≤ x37.toInt by omega), (show x37.toInt ≤ 400 by omega)⟩⟩)⟩ hw dX12_feed_46
  · have c4 : (400 : Int) < x3.toInt := wk_leF c4
    refine lv_iconst (v := (-1)) hx hb dX12_feed_13 (by decide) ?_
    exact tk_iret hC hr hlocks hK ⟨hT, hF, (Or.inr ⟨rfl, ⟨x1, c2, (show 381 ≤ x1.toInt by omega), (show x1.toInt ≤ 400 by omega)⟩⟩)⟩ hw dX12_feed_14
abbrev P_X12_end_1 (ad : Nat → Nat) (cy : Nat → ClassId) (B : Int) (qr : Nat) (s1 : Int) (a1 : Int32) (w0 : va_W) : Int32 → va_W → Prop := fun r u => TW ksM ad cy B qr 12 u ∧ FE ksM [(12, 1, 1)] w0 u ∧ ((0 ≤ r.toInt ∧ r.toInt ≤ 400 ∧ 0 ≤ a1.toInt ∧ a1.toInt ≤ 400 ∧ (∃ y : Int32, gi u 0 1 = y ∧ 0 ≤ y.toInt ∧ y.toInt ≤ 400)) ∨ (r = (-1)))
set_option maxHeartbeats 4000000 in
set_option maxRecDepth 100000 in
theorem k_X12_end_1 (l : Launch) (adK adV : Nat → Nat) (dC : Nat → ClassId) (dI : Nat → Nat → Nat) (cy : Nat → ClassId) (ad : Nat → Nat) (B : Int) (hB0 : 100000 ≤ B) (hB1 : B ≤ 1073741824) (qr : Nat) (s1 : Int)  (a1 : Int32) (w0 : va_W) (sz : Nat) (hT : TW ksM ad cy B qr 12 w0)  : Met l yX12_end wsX12_end ({ frames := 1, cells := 0, slots := 0, locals := 12 }) (va_Pc [.ref (ad 0), .int a1] (wpreS adK adV dC dI cy sz w0)) (va_Qi (P_X12_end_1 ad cy B qr s1 a1 w0) (fun u : va_W => wpost dC dI cy (va_A w0 sz) u) (va_A w0 sz)) 0 0 (va_A w0 sz) := by
  refine Met.ofW (cc := cX12_end) (maxL := 2) (ret := (some .int)) (by decide) rfl ?_
  intro p e s m args below meth c s₁ Bk hml hv
  obtain ⟨rfl, ⟨hsz, hP, hK, hD0⟩, hE, hSR⟩ := hv
  have hx := Bk.exec
  have hb := Bk.bytes
  have hr := Bk.returns
  have hlocks := Bk.notSynchronized
  have hC : CallFix p m c cX12_end 2 s _ wsX12_end RX12 := ⟨hx, hb, hml, findClass_of_methodNamed Bk.named, atoms_spec (ws := wsX12_end) Bk.pre⟩
  subst hsz
  have hD := hD0.self (sz := s.heap.size)
  generalize hAe : va_A w0 s.heap.size = A at hD hE ⊢
  have hA : ∀ q : Nat, s.heap.size ≤ q → A q := fun q h => by rw [← hAe]; exact Or.inr h
  have hw : Wd dC dI A s.heap s.heap [] w0 := ⟨hP, hD, va_S.rf⟩
  have hF : FE ksM [(12, 1, 1)] w0 w0 := FE.rf
  have hl := lv_entry ([.ref (ad 0), .int a1]) (n := 2) (Nat.le_of_ble_eq_true rfl)
  rw [lg_entry_eq]
  generalize (lg_sl ([.ref (ad 0), .int a1]) ++ List.replicate (2 - (lg_sl ([.ref (ad 0), .int a1])).length) Slot.unset).toArray = ls at hl ⊢
  have hl : lv_has ls 2 [(0, .ref (ad 0)), (1, .int a1)] := hl
  generalize hloc : ([] : List Loc) = locs at hw ⊢
  have hinX12 : ∀ w ∈ u_ws RX12 TX12 42, w ∈ wsX12_end := fun _ h => List.mem_cons_of_mem _ (List.mem_append_right _ (h))
  have J12 : ∀ (H : Heap) (locs : List Loc) (ls : Array Slot) (w1 : va_W), Wd dC dI A s.heap H locs w1 → TW ksM ad cy B qr 12 w1 → FE ksM [(12, 1, 1)] w0 w1 → lv_has ls 2 [(0, .ref (ad 0)), (1, .int a1)] → W p l e ({ frames := 1, cells := 0, slots := 0, locals := 12 }) s m (List.toArray [.ref (ad 0), .int a1]) below meth c H locs 0 0 (MQ below (va_Qi (P_X12_end_1 ad cy B qr s1 a1 w0) (fun u : va_W => wpost dC dI cy A u) A) (List.toArray [.ref (ad 0), .int a1]) s 0 0 A) (F0 m 12 ls []) := by
    intro H locs ls w1 hw hT hF hl
    refine lv_iconst (v := (-1)) hx hb dX12_end_12 (by decide) ?_
    exact tk_iret hC hr hlocks hK ⟨hT, hF, (Or.inr rfl)⟩ hw dX12_end_13
  refine lv_iload_n hx hb dX12_end_0 rfl (lv_at hl 1 rfl) ?_
  refine lv_if_lt (tgt := 12) hx hb dX12_end_1 (by decide) (fun c2 => ?_) (fun c2 => ?_)
  · have c2 : a1.toInt < (0 : Int) := wk_lt.mp c2
    exact J12  s.heap locs ls w0   hw hT hF  (lv_sub hl [0, 1] rfl)
  · have c2 : (0 : Int) ≤ a1.toInt := wk_ltF c2
    refine lv_iload_n hx hb dX12_end_4 rfl (lv_at hl 1 rfl) ?_
    refine lv_aload_n hx hb dX12_end_5 rfl (lv_at hl 0 rfl) ?_
    refine tk_geti hC hK hw hT hinX12 kM_at0 (by decide) rfl 1 (by decide) (List.mem_of_getElem? (i := 1) rfl) rfl rfl dX12_end_6 (fun x3 c4 rx3 tx3 => ?_)
    refine lv_icmp_le (tgt := 14) hx hb dX12_end_9 (by decide) (fun c5 => ?_) (fun c5 => ?_)
    · have c5 : a1.toInt ≤ x3.toInt := wk_le.mp c5
      refine lv_aload_n hx hb dX12_end_14 rfl (lv_at hl 0 rfl) ?_
      refine lv_iload_n hx hb dX12_end_15 rfl (lv_at hl 1 rfl) ?_
      refine tk_puti hC hK hw hT hinX12 tyX12_ok nmX12 kM_at0 (by decide) rfl rfl 1 (by decide) (List.mem_of_getElem? (i := 1) rfl) rfl rfl rfl rfl (show 0 ≤ a1.toInt by omega) (show a1.toInt ≤ 400 by omega) dX12_end_16 (fun H locs w6 hw hT k8 c7 => ?_)
      have hF := hF.put kM_at0 (k := 1) (by decide) k8
      refine lv_iload_n hx hb dX12_end_19 rfl (lv_at hl 1 rfl) ?_
      exact tk_iret hC hr hlocks hK ⟨hT, hF, (Or.inl ⟨(show 0 ≤ a1.toInt by omega), (show a1.toInt ≤ 400 by omega), (show 0 ≤ a1.toInt by omega), (show a1.toInt ≤ 400 by omega), ⟨a1, c7, (show 0 ≤ a1.toInt by omega), (show a1.toInt ≤ 400 by omega)⟩⟩)⟩ hw dX12_end_20
    · have c5 : x3.toInt < a1.toInt := wk_leF c5
      exact J12  s.heap locs ls w0   hw hT hF  (lv_sub hl [0, 1] rfl)
abbrev P_X12_see_1 (ad : Nat → Nat) (cy : Nat → ClassId) (B : Int) (qr : Nat) (s1 : Int)  (w0 : va_W) : Int32 → va_W → Prop := fun r u => TW ksM ad cy B qr 12 u ∧ FE ksM [(12, 14, 14)] w0 u ∧ ((0 ≤ r.toInt ∧ r.toInt ≤ 255 ∧ (∃ y : Int32, gi u 0 1 = y ∧ 1 ≤ y.toInt ∧ y.toInt ≤ 400) ∧ (∃ y : Int32, gi u 0 14 = y ∧ 0 ≤ y.toInt ∧ y.toInt ≤ 399) ∧ ((gi u 1 ((gi u 0 14).toInt).toNat).toInt ≠ 32) ∧ (((gi u 0 14).toInt = (gi w0 0 14).toInt ∨ (gi w0 1 ((gi w0 0 14).toInt).toNat).toInt = 32))) ∨ (r = (-1) ∧ (∃ y : Int32, gi u 0 1 = y ∧ 1 ≤ y.toInt ∧ y.toInt ≤ 399) ∧ (∃ y : Int32, gi u 0 14 = y ∧ 1 ≤ y.toInt ∧ y.toInt ≤ 399) ∧ (((gi u 0 14).toInt = (gi w0 0 14).toInt ∨ (gi w0 1 ((gi w0 0 14).toInt).toNat).toInt = 32))) ∨ (r = (-1) ∧ (∃ y : Int32, gi u 0 1 = y ∧ 0 ≤ y.toInt ∧ y.toInt ≤ 400) ∧ (((gi u 0 14).toInt = (gi w0 0 14).toInt ∨ (gi w0 1 ((gi w0 0 14).toInt).toNat).toInt = 32))))
set_option maxHeartbeats 4000000 in
set_option maxRecDepth 100000 in
theorem k_X12_see_1 (l : Launch) (adK adV : Nat → Nat) (dC : Nat → ClassId) (dI : Nat → Nat → Nat) (cy : Nat → ClassId) (ad : Nat → Nat) (B : Int) (hB0 : 100000 ≤ B) (hB1 : B ≤ 1073741824) (qr : Nat) (s1 : Int)   (w0 : va_W) (sz : Nat) (hT : TW ksM ad cy B qr 12 w0) (f0_ : Int32) (cf0_ : gi w0 0 14 = f0_) (rf0_ : 0 ≤ f0_.toInt) (tf0_ : f0_.toInt ≤ 400) : Met l yX12_see wsX12_see ({ frames := 1, cells := 0, slots := 0, locals := 12 }) (va_Pc [.ref (ad 0)] (wpreS adK adV dC dI cy sz w0)) (va_Qi (P_X12_see_1 ad cy B qr s1  w0) (fun u : va_W => wpost dC dI cy (va_A w0 sz) u) (va_A w0 sz)) 0 0 (va_A w0 sz) := by
  refine Met.ofW (cc := cX12_see) (maxL := 1) (ret := (some .int)) (by decide) rfl ?_
  intro p e s m args below meth c s₁ Bk hml hv
  obtain ⟨rfl, ⟨hsz, hP, hK, hD0⟩, hE, hSR⟩ := hv
  have hx := Bk.exec
  have hb := Bk.bytes
  have hr := Bk.returns
  have hlocks := Bk.notSynchronized
  have hC : CallFix p m c cX12_see 1 s _ wsX12_see RX12 := ⟨hx, hb, hml, findClass_of_methodNamed Bk.named, atoms_spec (ws := wsX12_see) Bk.pre⟩
  subst hsz
  have hD := hD0.self (sz := s.heap.size)
  generalize hAe : va_A w0 s.heap.size = A at hD hE ⊢
  have hA : ∀ q : Nat, s.heap.size ≤ q → A q := fun q h => by rw [← hAe]; exact Or.inr h
  have hw : Wd dC dI A s.heap s.heap [] w0 := ⟨hP, hD, va_S.rf⟩
  have hF : FE ksM [(12, 14, 14)] w0 w0 := FE.rf
  have hl := lv_entry ([.ref (ad 0)]) (n := 1) (Nat.le_of_ble_eq_true rfl)
  rw [lg_entry_eq]
  generalize (lg_sl ([.ref (ad 0)]) ++ List.replicate (1 - (lg_sl ([.ref (ad 0)])).length) Slot.unset).toArray = ls at hl ⊢
  have hl : lv_has ls 1 [(0, .ref (ad 0))] := hl
  generalize hloc : ([] : List Loc) = locs at hw ⊢
  have hinX12 : ∀ w ∈ u_ws RX12 TX12 42, w ∈ wsX12_see := fun _ h => List.mem_cons_of_mem _ (List.mem_append_right _ (h))
  have L0 : ∀ (n0 : Nat) (f0_0_14 : Int32) (H : Heap) (locs : List Loc) (ls : Array Slot) (w1 : va_W), 0 ≤ f0_0_14.toInt → f0_0_14.toInt ≤ 400 → (f0_0_14.toInt = f0_.toInt ∨ (gi w0 1 (f0_.toInt).toNat).toInt = 32) → (400 - f0_0_14.toInt).toNat < n0 → Wd dC dI A s.heap H locs w1 → TW ksM ad cy B qr 12 w1 → FE ksM [(12, 14, 14)] w0 w1 → gi w1 0 14 = f0_0_14 → lv_has ls 1 [(0, .ref (ad 0))] → W p l e ({ frames := 1, cells := 0, slots := 0, locals := 12 }) s m (List.toArray [.ref (ad 0)]) below meth c H locs 0 0 (MQ below (va_Qi (P_X12_see_1 ad cy B qr s1  w0) (fun u : va_W => wpost dC dI cy A u) A) (List.toArray [.ref (ad 0)]) s 0 0 A) (F0 m 0 ls []) := by
    intro n0
    induction n0 with
    | zero => intro f0_0_14 H locs ls w1 r2 t3 hcr0_0 hm0 hw hT hF c4 hl; omega
    | succ n0 ih0 =>
      intro f0_0_14 H locs ls w1 r2 t3 hcr0_0 hm0 hw hT hF c4 hl
      refine lv_aload_n hx hb dX12_see_0 rfl (lv_at hl 0 rfl) ?_
      refine tk_geti hC hK hw hT hinX12 kM_at0 (by decide) rfl 14 (by decide) (List.mem_of_getElem? (i := 1) rfl) rfl rfl dX12_see_1 (fun x5 c6 rx5 tx5 => ?_)
      refine wk_top f0_0_14 (c6.symm.trans c4) ?_
      refine lv_aload_n hx hb dX12_see_4 rfl (lv_at hl 0 rfl) ?_
      refine tk_geti hC hK hw hT hinX12 kM_at0 (by decide) rfl 1 (by decide) (List.mem_of_getElem? (i := 2) rfl) rfl rfl dX12_see_5 (fun x7 c8 rx7 tx7 => ?_)
      refine lv_icmp_ge (tgt := 38) hx hb dX12_see_8 (by decide) (fun c9 => ?_) (fun c9 => ?_)
      · have c9 : x7.toInt ≤ f0_0_14.toInt := wk_le.mp c9
        refine lv_aload_n hx hb dX12_see_38 rfl (lv_at hl 0 rfl) ?_
        refine tk_geti hC hK hw hT hinX12 kM_at0 (by decide) rfl 14 (by decide) (List.mem_of_getElem? (i := 1) rfl) rfl rfl dX12_see_39 (fun x10 c11 rx10 tx10 => ?_)
        refine wk_top f0_0_14 (c11.symm.trans c4) ?_
        refine lv_aload_n hx hb dX12_see_42 rfl (lv_at hl 0 rfl) ?_
        refine tk_geti hC hK hw hT hinX12 kM_at0 (by decide) rfl 1 (by decide) (List.mem_of_getElem? (i := 2) rfl) rfl rfl dX12_see_43 (fun x12 c13 rx12 tx12 => ?_)
        refine wk_top x7 (c13.symm.trans c8) ?_
        refine lv_icmp_ge (tgt := 65) hx hb dX12_see_46 (by decide) (fun c14 => ?_) (fun c14 => ?_)
        · have c14 : x7.toInt ≤ f0_0_14.toInt := wk_le.mp c14
          refine lv_iconst (v := (-1)) hx hb dX12_see_65 (by decide) ?_
          exact tk_iret hC hr hlocks hK ⟨hT, hF, (Or.inr (Or.inr ⟨rfl, ⟨x7, c8, (show 0 ≤ x7.toInt by omega), (show x7.toInt ≤ 400 by omega)⟩, (by simp only [cf0_, c4]; omega)⟩))⟩ hw dX12_see_66
        · have c14 : f0_0_14.toInt < x7.toInt := wk_leF c14
          refine lv_aload_n hx hb dX12_see_49 rfl (lv_at hl 0 rfl) ?_
          refine tk_getA hC hK hw hT hinX12 kM_at0 (by decide) rfl 0 (by decide) (List.mem_of_getElem? (i := 3) rfl) rfl rfl dX12_see_50 ?_
          refine lv_aload_n hx hb dX12_see_53 rfl (lv_at hl 0 rfl) ?_
          refine tk_geti hC hK hw hT hinX12 kM_at0 (by decide) rfl 14 (by decide) (List.mem_of_getElem? (i := 1) rfl) rfl rfl dX12_see_54 (fun x15 c16 rx15 tx15 => ?_)
          refine wk_top f0_0_14 (c16.symm.trans c4) ?_
          refine tk_bald hC hK hw hT kM_at1 rfl rfl (show 0 ≤ f0_0_14.toInt by omega) (show f0_0_14.toInt < 400 by omega) dX12_see_57 (fun x17 c18 rx17 tx17 => ?_)
          have c18 : gi w1 1 (f0_0_14.toInt).toNat = x17 := (congrArg (gi w1 1) (congrArg Int.toNat (show f0_0_14.toInt = f0_0_14.toInt by omega))).trans c18
          refine lv_sipush (v := 255) hx hb dX12_see_58 (by decide) ?_
          refine lv_iand hx hb dX12_see_61 ?_
          refine lv_topi (fun x19 ex19 => ?_)
          have bx19 : 0 ≤ x19.toInt ∧ x19.toInt ≤ (255 : Int) := by rw [ex19]; exact wk_and (by decide)
          refine lv_goto (tgt := 66) hx hb dX12_see_62 (by decide) ?_
          exact tk_iret hC hr hlocks hK ⟨hT, hF, (Or.inl ⟨(show 0 ≤ x19.toInt by omega), (show x19.toInt ≤ 255 by omega), ⟨x7, c8, (show 1 ≤ x7.toInt by omega), (show x7.toInt ≤ 400 by omega)⟩, ⟨f0_0_14, c4, (show 0 ≤ f0_0_14.toInt by omega), (show f0_0_14.toInt ≤ 399 by omega)⟩, (by simp only [c4, c18]; omega), (by simp only [cf0_, c4, c18]; omega)⟩)⟩ hw dX12_see_66
      · have c9 : f0_0_14.toInt < x7.toInt := wk_leF c9
        refine lv_aload_n hx hb dX12_see_11 rfl (lv_at hl 0 rfl) ?_
        refine tk_getA hC hK hw hT hinX12 kM_at0 (by decide) rfl 0 (by decide) (List.mem_of_getElem? (i := 3) rfl) rfl rfl dX12_see_12 ?_
        refine lv_aload_n hx hb dX12_see_15 rfl (lv_at hl 0 rfl) ?_
        refine tk_geti hC hK hw hT hinX12 kM_at0 (by decide) rfl 14 (by decide) (List.mem_of_getElem? (i := 1) rfl) rfl rfl dX12_see_16 (fun x20 c21 rx20 tx20 => ?_)
        refine wk_top f0_0_14 (c21.symm.trans c4) ?_
        refine tk_bald hC hK hw hT kM_at1 rfl rfl (show 0 ≤ f0_0_14.toInt by omega) (show f0_0_14.toInt < 400 by omega) dX12_see_19 (fun x22 c23 rx22 tx22 => ?_)
        have c23 : gi w1 1 (f0_0_14.toInt).toNat = x22 := (congrArg (gi w1 1) (congrArg Int.toNat (show f0_0_14.toInt = f0_0_14.toInt by omega))).trans c23
        refine lv_bipush (v := 32) hx hb dX12_see_20 (by decide) ?_
        refine lv_icmp_ne (tgt := 38) hx hb dX12_see_22 (by decide) (fun c24 => ?_) (fun c24 => ?_)
        · have c24 : ¬ x22.toInt = (32 : Int) := wk_eqF c24
          refine lv_aload_n hx hb dX12_see_38 rfl (lv_at hl 0 rfl) ?_
          refine tk_geti hC hK hw hT hinX12 kM_at0 (by decide) rfl 14 (by decide) (List.mem_of_getElem? (i := 1) rfl) rfl rfl dX12_see_39 (fun x25 c26 rx25 tx25 => ?_)
          refine wk_top f0_0_14 (c26.symm.trans c4) ?_
          refine lv_aload_n hx hb dX12_see_42 rfl (lv_at hl 0 rfl) ?_
          refine tk_geti hC hK hw hT hinX12 kM_at0 (by decide) rfl 1 (by decide) (List.mem_of_getElem? (i := 2) rfl) rfl rfl dX12_see_43 (fun x27 c28 rx27 tx27 => ?_)
          refine wk_top x7 (c28.symm.trans c8) ?_
          refine lv_icmp_ge (tgt := 65) hx hb dX12_see_46 (by decide) (fun c29 => ?_) (fun c29 => ?_)
          · have c29 : x7.toInt ≤ f0_0_14.toInt := wk_le.mp c29
            refine lv_iconst (v := (-1)) hx hb dX12_see_65 (by decide) ?_
            exact tk_iret hC hr hlocks hK ⟨hT, hF, (Or.inr (Or.inl ⟨rfl, ⟨x7, c8, (show 1 ≤ x7.toInt by omega), (show x7.toInt ≤ 399 by omega)⟩, ⟨f0_0_14, c4, (show 1 ≤ f0_0_14.toInt by omega), (show f0_0_14.toInt ≤ 399 by omega)⟩, (by simp only [cf0_, c4, c23]; omega)⟩))⟩ hw dX12_see_66
          · have c29 : f0_0_14.toInt < x7.toInt := wk_leF c29
            refine lv_aload_n hx hb dX12_see_49 rfl (lv_at hl 0 rfl) ?_
            refine tk_getA hC hK hw hT hinX12 kM_at0 (by decide) rfl 0 (by decide) (List.mem_of_getElem? (i := 3) rfl) rfl rfl dX12_see_50 ?_
            refine lv_aload_n hx hb dX12_see_53 rfl (lv_at hl 0 rfl) ?_
            refine tk_geti hC hK hw hT hinX12 kM_at0 (by decide) rfl 14 (by decide) (List.mem_of_getElem? (i := 1) rfl) rfl rfl dX12_see_54 (fun x30 c31 rx30 tx30 => ?_)
            refine wk_top f0_0_14 (c31.symm.trans c4) ?_
            refine tk_bald hC hK hw hT kM_at1 rfl rfl (show 0 ≤ f0_0_14.toInt by omega) (show f0_0_14.toInt < 400 by omega) dX12_see_57 (fun x32 c33 rx32 tx32 => ?_)
            have c33 : gi w1 1 (f0_0_14.toInt).toNat = x32 := (congrArg (gi w1 1) (congrArg Int.toNat (show f0_0_14.toInt = f0_0_14.toInt by omega))).trans c33
            refine wk_top x22 (c33.symm.trans c23) ?_
            refine lv_sipush (v := 255) hx hb dX12_see_58 (by decide) ?_
            refine lv_iand hx hb dX12_see_61 ?_
            refine lv_topi (fun x34 ex34 => ?_)
            have bx34 : 0 ≤ x34.toInt ∧ x34.toInt ≤ (255 : Int) := by rw [ex34]; exact wk_and (by decide)
            refine lv_goto (tgt := 66) hx hb dX12_see_62 (by decide) ?_
            exact tk_iret hC hr hlocks hK ⟨hT, hF, (Or.inl ⟨(show 0 ≤ x34.toInt by omega), (show x34.toInt ≤ 255 by omega), ⟨x7, c8, (show 1 ≤ x7.toInt by omega), (show x7.toInt ≤ 400 by omega)⟩, ⟨f0_0_14, c4, (show 0 ≤ f0_0_14.toInt by omega), (show f0_0_14.toInt ≤ 399 by omega)⟩, (by simp only [c4, c23]; omega), (by simp only [cf0_, c4, c23]; omega)⟩)⟩ hw dX12_see_66
        · have c24 : x22.toInt = (32 : Int) := wk_eq.mp c24
          refine lv_aload_n hx hb dX12_see_25 rfl (lv_at hl 0 rfl) ?_
          refine lv_dup hx hb dX12_see_26 rfl ?_
          refine tk_geti hC hK hw hT hinX12 kM_at0 (by decide) rfl 14 (by decide) (List.mem_of_getElem? (i := 1) rfl) rfl rfl dX12_see_27 (fun x35 c36 rx35 tx35 => ?_)
          refine wk_top f0_0_14 (c36.symm.trans c4) ?_
          refine lv_iconst (v := 1) hx hb dX12_see_30 (by decide) ?_
          refine lv_iadd hx hb dX12_see_31 ?_
          refine lv_topi (fun x37 ex37 => ?_)
          have ex37 : x37.toInt = f0_0_14.toInt + (1 : Int) := by rw [ex37]; exact wk_add (show (-2147483648) ≤ f0_0_14.toInt + (1 : Int) by omega) (show f0_0_14.toInt + (1 : Int) ≤ 2147483647 by omega)
          refine tk_puti hC hK hw hT hinX12 tyX12_ok nmX12 kM_at0 (by decide) rfl rfl 14 (by decide) (List.mem_of_getElem? (i := 1) rfl) rfl rfl rfl rfl (show 0 ≤ x37.toInt by omega) (show x37.toInt ≤ 400 by omega) dX12_see_32 (fun H locs w38 hw hT k40 c39 => ?_)
          have hF := hF.put kM_at0 (k := 14) (by decide) k40
          have c41 := k40.gi (Or.inr (by decide)) c8
          have c42 := k40.gi (Or.inl (tk_ne kM_at1 kM_at0 (by decide))) c23
          refine lv_goto (tgt := 0) hx hb dX12_see_35 (by decide) ?_
          exact ih0 x37 H locs ls w38 (show 0 ≤ x37.toInt by omega) (show x37.toInt ≤ 400 by omega) (show (x37.toInt = f0_.toInt ∨ (gi w0 1 (f0_.toInt).toNat).toInt = 32) by first | omega | assumption | (left; omega) | (left; decide) | (right; assumption) | (right; rw [c42]; omega) | (right; rw [c42]; decide) | (right; rcases hcr0_0 with hx1 | hx1; · rw [← hx1]; exact (congrArg Int32.toInt ((hF.gi kM_at1 rfl rfl).symm.trans c42)).trans (by omega); · exact hx1)) (show (400 - x37.toInt).toNat < n0 by omega) hw hT hF c39 (lv_sub hl [0] rfl)
  exact L0 ((400 - f0_.toInt).toNat + 1) f0_ s.heap locs ls w0 (show 0 ≤ f0_.toInt by omega) (show f0_.toInt ≤ 400 by omega) (show (f0_.toInt = f0_.toInt ∨ (gi w0 1 (f0_.toInt).toNat).toInt = 32) by first | omega | assumption | (left; omega) | (left; decide) | (right; assumption)) (Nat.lt_succ_self _) hw hT hF cf0_ (lv_sub hl [0] rfl)
abbrev P_X12_fails_1 (ad : Nat → Nat) (cy : Nat → ClassId) (B : Int) (qr : Nat) (s1 : Int) (a1 : Int32) (a2 : Int32) (w0 : va_W) : Int32 → va_W → Prop := fun r u => TW ksM ad cy B qr 12 u ∧ FE ksM [(12, 15, 15)] w0 u ∧ ((r = 0 ∧ (∃ y : Int32, gi u 0 15 = y ∧ 1 ≤ y.toInt ∧ y.toInt ≤ 3205)))
set_option maxHeartbeats 4000000 in
set_option maxRecDepth 100000 in
theorem k_X12_fails_1 (l : Launch) (adK adV : Nat → Nat) (dC : Nat → ClassId) (dI : Nat → Nat → Nat) (cy : Nat → ClassId) (ad : Nat → Nat) (B : Int) (hB0 : 100000 ≤ B) (hB1 : B ≤ 1073741824) (qr : Nat) (s1 : Int)  (a1 : Int32) (ra1 : 0 ≤ a1.toInt) (ta1 : a1.toInt ≤ 4) (a2 : Int32) (ra2 : 0 ≤ a2.toInt) (ta2 : a2.toInt ≤ 400) (w0 : va_W) (sz : Nat) (hT : TW ksM ad cy B qr 12 w0)  : Met l yX12_fails wsX12_fails ({ frames := 1, cells := 0, slots := 0, locals := 12 }) (va_Pc [.ref (ad 0), .int a1, .int a2] (wpreS adK adV dC dI cy sz w0)) (va_Qi (P_X12_fails_1 ad cy B qr s1 a1 a2 w0) (fun u : va_W => wpost dC dI cy (va_A w0 sz) u) (va_A w0 sz)) 0 0 (va_A w0 sz) := by
  refine Met.ofW (cc := cX12_fails) (maxL := 3) (ret := (some .boolean)) (by decide) rfl ?_
  intro p e s m args below meth c s₁ Bk hml hv
  obtain ⟨rfl, ⟨hsz, hP, hK, hD0⟩, hE, hSR⟩ := hv
  have hx := Bk.exec
  have hb := Bk.bytes
  have hr := Bk.returns
  have hlocks := Bk.notSynchronized
  have hC : CallFix p m c cX12_fails 3 s _ wsX12_fails RX12 := ⟨hx, hb, hml, findClass_of_methodNamed Bk.named, atoms_spec (ws := wsX12_fails) Bk.pre⟩
  subst hsz
  have hD := hD0.self (sz := s.heap.size)
  generalize hAe : va_A w0 s.heap.size = A at hD hE ⊢
  have hA : ∀ q : Nat, s.heap.size ≤ q → A q := fun q h => by rw [← hAe]; exact Or.inr h
  have hw : Wd dC dI A s.heap s.heap [] w0 := ⟨hP, hD, va_S.rf⟩
  have hF : FE ksM [(12, 15, 15)] w0 w0 := FE.rf
  have hl := lv_entry ([.ref (ad 0), .int a1, .int a2]) (n := 3) (Nat.le_of_ble_eq_true rfl)
  rw [lg_entry_eq]
  generalize (lg_sl ([.ref (ad 0), .int a1, .int a2]) ++ List.replicate (3 - (lg_sl ([.ref (ad 0), .int a1, .int a2])).length) Slot.unset).toArray = ls at hl ⊢
  have hl : lv_has ls 3 [(0, .ref (ad 0)), (1, .int a1), (2, .int a2)] := hl
  generalize hloc : ([] : List Loc) = locs at hw ⊢
  have hinX12 : ∀ w ∈ u_ws RX12 TX12 42, w ∈ wsX12_fails := fun _ h => List.mem_cons_of_mem _ (List.mem_append_right _ (h))
  have J19 : ∀ (f19_0_15 : Int32) (H : Heap) (locs : List Loc) (ls : Array Slot) (w1 : va_W), 0 ≤ a1.toInt → a1.toInt ≤ 4 → 0 ≤ a2.toInt → a2.toInt ≤ 400 → 1 ≤ f19_0_15.toInt → f19_0_15.toInt ≤ 3205 → Wd dC dI A s.heap H locs w1 → TW ksM ad cy B qr 12 w1 → FE ksM [(12, 15, 15)] w0 w1 → gi w1 0 15 = f19_0_15 → lv_has ls 3 [(0, .ref (ad 0)), (1, .int a1), (2, .int a2)] → W p l e ({ frames := 1, cells := 0, slots := 0, locals := 12 }) s m (List.toArray [.ref (ad 0), .int a1, .int a2]) below meth c H locs 0 0 (MQ below (va_Qi (P_X12_fails_1 ad cy B qr s1 a1 a2 w0) (fun u : va_W => wpost dC dI cy A u) A) (List.toArray [.ref (ad 0), .int a1, .int a2]) s 0 0 A) (F0 m 19 ls []) := by
    intro f19_0_15 H locs ls w1 r2 t3 r4 t5 r6 t7 hw hT hF c8 hl
    refine lv_iconst (v := 0) hx hb dX12_fails_19 (by decide) ?_
    exact tk_zret hC hr rfl hlocks hK ⟨hT, hF, ⟨rfl, ⟨f19_0_15, c8, (show 1 ≤ f19_0_15.toInt by omega), (show f19_0_15.toInt ≤ 3205 by omega)⟩⟩⟩ hw dX12_fails_20
  refine lv_aload_n hx hb dX12_fails_0 rfl (lv_at hl 0 rfl) ?_
  refine tk_geti hC hK hw hT hinX12 kM_at0 (by decide) rfl 15 (by decide) (List.mem_of_getElem? (i := 1) rfl) rfl rfl dX12_fails_1 (fun x9 c10 rx9 tx9 => ?_)
  refine lv_if_ne (tgt := 19) hx hb dX12_fails_4 (by decide) (fun c11 => ?_) (fun c11 => ?_)
  · have c11 : ¬ x9.toInt = (0 : Int) := wk_eqF c11
    exact J19 x9 s.heap locs ls w0 (show 0 ≤ a1.toInt by omega) (show a1.toInt ≤ 4 by omega) (show 0 ≤ a2.toInt by omega) (show a2.toInt ≤ 400 by omega) (show 1 ≤ x9.toInt by omega) (show x9.toInt ≤ 3205 by omega)  hw hT hF c10 (lv_sub hl [0, 1, 2] rfl)
  · have c11 : x9.toInt = (0 : Int) := wk_eq.mp c11
    refine lv_aload_n hx hb dX12_fails_7 rfl (lv_at hl 0 rfl) ?_
    refine lv_iconst (v := 1) hx hb dX12_fails_8 (by decide) ?_
    refine lv_bipush (v := 8) hx hb dX12_fails_9 (by decide) ?_
    refine lv_iload_n hx hb dX12_fails_11 rfl (lv_at hl 2 rfl) ?_
    refine lv_imul hx hb dX12_fails_12 ?_
    refine lv_topi (fun x12 ex12 => ?_)
    have ex12 : x12.toInt = (8 : Int) * a2.toInt := by rw [ex12]; exact wk_mul (show (-2147483648) ≤ (8 : Int) * a2.toInt by omega) (show (8 : Int) * a2.toInt ≤ 2147483647 by omega)
    refine lv_iadd hx hb dX12_fails_13 ?_
    refine lv_topi (fun x13 ex13 => ?_)
    have ex13 : x13.toInt = (1 : Int) + x12.toInt := by rw [ex13]; exact wk_add (show (-2147483648) ≤ (1 : Int) + x12.toInt by omega) (show (1 : Int) + x12.toInt ≤ 2147483647 by omega)
    refine lv_iload_n hx hb dX12_fails_14 rfl (lv_at hl 1 rfl) ?_
    refine lv_iadd hx hb dX12_fails_15 ?_
    refine lv_topi (fun x14 ex14 => ?_)
    have ex14 : x14.toInt = x13.toInt + a1.toInt := by rw [ex14]; exact wk_add (show (-2147483648) ≤ x13.toInt + a1.toInt by omega) (show x13.toInt + a1.toInt ≤ 2147483647 by omega)
    refine tk_puti hC hK hw hT hinX12 tyX12_ok nmX12 kM_at0 (by decide) rfl rfl 15 (by decide) (List.mem_of_getElem? (i := 1) rfl) rfl rfl rfl rfl (show 0 ≤ x14.toInt by omega) (show x14.toInt ≤ 3205 by omega) dX12_fails_16 (fun H locs w15 hw hT k17 c16 => ?_)
    have hF := hF.put kM_at0 (k := 15) (by decide) k17
    exact J19 x14 H locs ls w15 (show 0 ≤ a1.toInt by omega) (show a1.toInt ≤ 4 by omega) (show 0 ≤ a2.toInt by omega) (show a2.toInt ≤ 400 by omega) (show 1 ≤ x14.toInt by omega) (show x14.toInt ≤ 3205 by omega)  hw hT hF c16 (lv_sub hl [0, 1, 2] rfl)
abbrev P_X12_isLetter_1 (ad : Nat → Nat) (cy : Nat → ClassId) (B : Int) (qr : Nat) (s1 : Int) (a1 : Int32) (w0 : va_W) : Int32 → va_W → Prop := fun r u => TW ksM ad cy B qr 12 u ∧ FE ksM ([] : List (Nat × Nat × Nat)) w0 u ∧ ((r = 0 ∧ (∃ y : Int32, gi u 0 1 = y ∧ 0 ≤ y.toInt ∧ y.toInt ≤ 400)) ∨ (r = 1 ∧ a1.toInt ≤ 399 ∧ (∃ y : Int32, gi u 0 1 = y ∧ 1 ≤ y.toInt ∧ y.toInt ≤ 400)))
set_option maxHeartbeats 4000000 in
set_option maxRecDepth 100000 in
theorem k_X12_isLetter_1 (l : Launch) (adK adV : Nat → Nat) (dC : Nat → ClassId) (dI : Nat → Nat → Nat) (cy : Nat → ClassId) (ad : Nat → Nat) (B : Int) (hB0 : 100000 ≤ B) (hB1 : B ≤ 1073741824) (qr : Nat) (s1 : Int)  (a1 : Int32) (ra1 : 0 ≤ a1.toInt) (ta1 : a1.toInt ≤ 800) (w0 : va_W) (sz : Nat) (hT : TW ksM ad cy B qr 12 w0)  : Met l yX12_isLetter wsX12_isLetter ({ frames := 1, cells := 0, slots := 0, locals := 12 }) (va_Pc [.ref (ad 0), .int a1] (wpreS adK adV dC dI cy sz w0)) (va_Qi (P_X12_isLetter_1 ad cy B qr s1 a1 w0) (fun u : va_W => wpost dC dI cy (va_A w0 sz) u) (va_A w0 sz)) 0 0 (va_A w0 sz) := by
  refine Met.ofW (cc := cX12_isLetter) (maxL := 2) (ret := (some .boolean)) (by decide) rfl ?_
  intro p e s m args below meth c s₁ Bk hml hv
  obtain ⟨rfl, ⟨hsz, hP, hK, hD0⟩, hE, hSR⟩ := hv
  have hx := Bk.exec
  have hb := Bk.bytes
  have hr := Bk.returns
  have hlocks := Bk.notSynchronized
  have hC : CallFix p m c cX12_isLetter 2 s _ wsX12_isLetter RX12 := ⟨hx, hb, hml, findClass_of_methodNamed Bk.named, atoms_spec (ws := wsX12_isLetter) Bk.pre⟩
  subst hsz
  have hD := hD0.self (sz := s.heap.size)
  generalize hAe : va_A w0 s.heap.size = A at hD hE ⊢
  have hA : ∀ q : Nat, s.heap.size ≤ q → A q := fun q h => by rw [← hAe]; exact Or.inr h
  have hw : Wd dC dI A s.heap s.heap [] w0 := ⟨hP, hD, va_S.rf⟩
  have hF : FE ksM ([] : List (Nat × Nat × Nat)) w0 w0 := FE.rf
  have hl := lv_entry ([.ref (ad 0), .int a1]) (n := 2) (Nat.le_of_ble_eq_true rfl)
  rw [lg_entry_eq]
  generalize (lg_sl ([.ref (ad 0), .int a1]) ++ List.replicate (2 - (lg_sl ([.ref (ad 0), .int a1])).length) Slot.unset).toArray = ls at hl ⊢
  have hl : lv_has ls 2 [(0, .ref (ad 0)), (1, .int a1)] := hl
  generalize hloc : ([] : List Loc) = locs at hw ⊢
  have hinX12 : ∀ w ∈ u_ws RX12 TX12 42, w ∈ wsX12_isLetter := fun _ h => List.mem_cons_of_mem _ (List.mem_append_right _ (h))
  have J34 : ∀ (f34_0_1 : Int32) (H : Heap) (locs : List Loc) (ls : Array Slot) (w1 : va_W), 0 ≤ a1.toInt → a1.toInt ≤ 800 → 0 ≤ f34_0_1.toInt → f34_0_1.toInt ≤ 400 → Wd dC dI A s.heap H locs w1 → TW ksM ad cy B qr 12 w1 → FE ksM ([] : List (Nat × Nat × Nat)) w0 w1 → gi w1 0 1 = f34_0_1 → lv_has ls 2 [(0, .ref (ad 0)), (1, .int a1)] → W p l e ({ frames := 1, cells := 0, slots := 0, locals := 12 }) s m (List.toArray [.ref (ad 0), .int a1]) below meth c H locs 0 0 (MQ below (va_Qi (P_X12_isLetter_1 ad cy B qr s1 a1 w0) (fun u : va_W => wpost dC dI cy A u) A) (List.toArray [.ref (ad 0), .int a1]) s 0 0 A) (F0 m 34 ls []) := by
    intro f34_0_1 H locs ls w1 r2 t3 r4 t5 hw hT hF c6 hl
    refine lv_iconst (v := 0) hx hb dX12_isLetter_34 (by decide) ?_
    exact tk_zret hC hr rfl hlocks hK ⟨hT, hF, (Or.inl ⟨rfl, ⟨f34_0_1, c6, (show 0 ≤ f34_0_1.toInt by omega), (show f34_0_1.toInt ≤ 400 by omega)⟩⟩)⟩ hw dX12_isLetter_35
  refine lv_iload_n hx hb dX12_isLetter_0 rfl (lv_at hl 1 rfl) ?_
  refine lv_aload_n hx hb dX12_isLetter_1 rfl (lv_at hl 0 rfl) ?_
  refine tk_geti hC hK hw hT hinX12 kM_at0 (by decide) rfl 1 (by decide) (List.mem_of_getElem? (i := 1) rfl) rfl rfl dX12_isLetter_2 (fun x7 c8 rx7 tx7 => ?_)
  refine lv_icmp_ge (tgt := 34) hx hb dX12_isLetter_5 (by decide) (fun c9 => ?_) (fun c9 => ?_)
  · have c9 : x7.toInt ≤ a1.toInt := wk_le.mp c9
    exact J34 x7 s.heap locs ls w0 (show 0 ≤ a1.toInt by omega) (show a1.toInt ≤ 800 by omega) (show 0 ≤ x7.toInt by omega) (show x7.toInt ≤ 400 by omega)  hw hT hF c8 (lv_sub hl [0, 1] rfl)
  · have c9 : a1.toInt < x7.toInt := wk_leF c9
    refine lv_aload_n hx hb dX12_isLetter_8 rfl (lv_at hl 0 rfl) ?_
    refine tk_getA hC hK hw hT hinX12 kM_at0 (by decide) rfl 0 (by decide) (List.mem_of_getElem? (i := 2) rfl) rfl rfl dX12_isLetter_9 ?_
    refine lv_iload_n hx hb dX12_isLetter_12 rfl (lv_at hl 1 rfl) ?_
    refine tk_bald hC hK hw hT kM_at1 rfl rfl (show 0 ≤ a1.toInt by omega) (show a1.toInt < 400 by omega) dX12_isLetter_13 (fun x10 c11 rx10 tx10 => ?_)
    have c11 : gi w0 1 (a1.toInt).toNat = x10 := (congrArg (gi w0 1) (congrArg Int.toNat (show a1.toInt = a1.toInt by omega))).trans c11
    refine lv_bipush (v := 97) hx hb dX12_isLetter_14 (by decide) ?_
    refine lv_icmp_lt (tgt := 34) hx hb dX12_isLetter_16 (by decide) (fun c12 => ?_) (fun c12 => ?_)
    · have c12 : x10.toInt < (97 : Int) := wk_lt.mp c12
      exact J34 x7 s.heap locs ls w0 (show 0 ≤ a1.toInt by omega) (show a1.toInt ≤ 800 by omega) (show 0 ≤ x7.toInt by omega) (show x7.toInt ≤ 400 by omega)  hw hT hF c8 (lv_sub hl [0, 1] rfl)
    · have c12 : (97 : Int) ≤ x10.toInt := wk_ltF c12
      refine lv_aload_n hx hb dX12_isLetter_19 rfl (lv_at hl 0 rfl) ?_
      refine tk_getA hC hK hw hT hinX12 kM_at0 (by decide) rfl 0 (by decide) (List.mem_of_getElem? (i := 2) rfl) rfl rfl dX12_isLetter_20 ?_
      refine lv_iload_n hx hb dX12_isLetter_23 rfl (lv_at hl 1 rfl) ?_
      refine tk_bald hC hK hw hT kM_at1 rfl rfl (show 0 ≤ a1.toInt by omega) (show a1.toInt < 400 by omega) dX12_isLetter_24 (fun x13 c14 rx13 tx13 => ?_)
      have c14 : gi w0 1 (a1.toInt).toNat = x13 := (congrArg (gi w0 1) (congrArg Int.toNat (show a1.toInt = a1.toInt by omega))).trans c14
      refine wk_top x10 (c14.symm.trans c11) ?_
      refine lv_bipush (v := 122) hx hb dX12_isLetter_25 (by decide) ?_
      refine lv_icmp_gt (tgt := 34) hx hb dX12_isLetter_27 (by decide) (fun c15 => ?_) (fun c15 => ?_)
      · have c15 : (122 : Int) < x10.toInt := wk_lt.mp c15
        exact J34 x7 s.heap locs ls w0 (show 0 ≤ a1.toInt by omega) (show a1.toInt ≤ 800 by omega) (show 0 ≤ x7.toInt by omega) (show x7.toInt ≤ 400 by omega)  hw hT hF c8 (lv_sub hl [0, 1] rfl)
      · have c15 : x10.toInt ≤ (122 : Int) := wk_ltF c15
        refine lv_iconst (v := 1) hx hb dX12_isLetter_30 (by decide) ?_
        refine lv_goto (tgt := 35) hx hb dX12_isLetter_31 (by decide) ?_
        exact tk_zret hC hr rfl hlocks hK ⟨hT, hF, (Or.inr ⟨rfl, (show a1.toInt ≤ 399 by omega), ⟨x7, c8, (show 1 ≤ x7.toInt by omega), (show x7.toInt ≤ 400 by omega)⟩⟩)⟩ hw dX12_isLetter_35
abbrev P_X12_isWord_1 (ad : Nat → Nat) (cy : Nat → ClassId) (B : Int) (qr : Nat) (s1 : Int)  (w0 : va_W) : Int32 → va_W → Prop := fun r u => TW ksM ad cy B qr 12 u ∧ FE ksM [(12, 14, 14)] w0 u ∧ ((r = 0 ∧ (∃ y : Int32, gi u 0 1 = y ∧ 0 ≤ y.toInt ∧ y.toInt ≤ 400) ∧ (((gi u 0 14).toInt = (gi w0 0 14).toInt ∨ (gi w0 1 ((gi w0 0 14).toInt).toNat).toInt = 32))) ∨ (r = 1 ∧ (∃ y : Int32, gi u 0 1 = y ∧ 0 ≤ y.toInt ∧ y.toInt ≤ 400) ∧ (((gi u 0 14).toInt = (gi w0 0 14).toInt ∨ (gi w0 1 ((gi w0 0 14).toInt).toNat).toInt = 32))))
set_option maxHeartbeats 4000000 in
set_option maxRecDepth 100000 in
theorem k_X12_isWord_1 (l : Launch) (adK adV : Nat → Nat) (dC : Nat → ClassId) (dI : Nat → Nat → Nat) (cy : Nat → ClassId) (ad : Nat → Nat) (B : Int) (hB0 : 100000 ≤ B) (hB1 : B ≤ 1073741824) (qr : Nat) (s1 : Int)   (w0 : va_W) (sz : Nat) (hT : TW ksM ad cy B qr 12 w0) (f0_ : Int32) (cf0_ : gi w0 0 14 = f0_) (rf0_ : 0 ≤ f0_.toInt) (tf0_ : f0_.toInt ≤ 400) : Met l yX12_isWord wsX12_isWord ({ frames := 2, cells := 0, slots := 0, locals := 33 }) (va_Pc [.ref (ad 0), .long 27988559963452019] (wpreS adK adV dC dI cy sz w0)) (va_Qi (P_X12_isWord_1 ad cy B qr s1  w0) (fun u : va_W => wpost dC dI cy (va_A w0 sz) u) (va_A w0 sz)) 0 0 (va_A w0 sz) := by
  refine Met.ofW (cc := cX12_isWord) (maxL := 6) (ret := (some .boolean)) (by decide) rfl ?_
  intro p e s m args below meth c s₁ Bk hml hv
  obtain ⟨rfl, ⟨hsz, hP, hK, hD0⟩, hE, hSR⟩ := hv
  have hx := Bk.exec
  have hb := Bk.bytes
  have hr := Bk.returns
  have hlocks := Bk.notSynchronized
  have hC : CallFix p m c cX12_isWord 6 s _ wsX12_isWord RX12 := ⟨hx, hb, hml, findClass_of_methodNamed Bk.named, atoms_spec (ws := wsX12_isWord) Bk.pre⟩
  subst hsz
  have hD := hD0.self (sz := s.heap.size)
  generalize hAe : va_A w0 s.heap.size = A at hD hE ⊢
  have hA : ∀ q : Nat, s.heap.size ≤ q → A q := fun q h => by rw [← hAe]; exact Or.inr h
  have hw : Wd dC dI A s.heap s.heap [] w0 := ⟨hP, hD, va_S.rf⟩
  have hF : FE ksM [(12, 14, 14)] w0 w0 := FE.rf
  have hl := lv_entry ([.ref (ad 0), .long 27988559963452019]) (n := 6) (Nat.le_of_ble_eq_true rfl)
  rw [lg_entry_eq]
  generalize (lg_sl ([.ref (ad 0), .long 27988559963452019]) ++ List.replicate (6 - (lg_sl ([.ref (ad 0), .long 27988559963452019])).length) Slot.unset).toArray = ls at hl ⊢
  have hl : lv_has ls 6 [(0, .ref (ad 0)), (1, .long 27988559963452019)] := hl
  generalize hloc : ([] : List Loc) = locs at hw ⊢
  have hinX12 : ∀ w ∈ u_ws RX12 TX12 42, w ∈ wsX12_isWord := fun _ h => List.mem_cons_of_mem _ (List.mem_append_right _ (h))
  have J78 : ∀ (v78_3 : Int64) (v78_5 : Int32) (f78_0_1 : Int32) (f78_0_14 : Int32) (H : Heap) (locs : List Loc) (ls : Array Slot) (w1 : va_W), 0 ≤ v78_5.toInt → v78_5.toInt ≤ 400 → 0 ≤ f78_0_1.toInt → f78_0_1.toInt ≤ 400 → 0 ≤ f78_0_14.toInt → f78_0_14.toInt ≤ 400 → (f78_0_14.toInt = f0_.toInt ∨ (gi w0 1 (f0_.toInt).toNat).toInt = 32) → Wd dC dI A s.heap H locs w1 → TW ksM ad cy B qr 12 w1 → FE ksM [(12, 14, 14)] w0 w1 → gi w1 0 1 = f78_0_1 → gi w1 0 14 = f78_0_14 → lv_has ls 6 [(0, .ref (ad 0)), (1, .long 27988559963452019), (3, .long v78_3), (5, .int v78_5)] → W p l e ({ frames := 2, cells := 0, slots := 0, locals := 33 }) s m (List.toArray [.ref (ad 0), .long 27988559963452019]) below meth c H locs 0 0 (MQ below (va_Qi (P_X12_isWord_1 ad cy B qr s1  w0) (fun u : va_W => wpost dC dI cy A u) A) (List.toArray [.ref (ad 0), .long 27988559963452019]) s 0 0 A) (F0 m 78 ls []) := by
    intro v78_3 v78_5 f78_0_1 f78_0_14 H locs ls w1 r2 t3 r4 t5 r7 t8 hcr78_0 hw hT hF c6 c9 hl
    refine lv_iconst (v := 0) hx hb dX12_isWord_78 (by decide) ?_
    exact tk_zret hC hr rfl hlocks hK ⟨hT, hF, (Or.inl ⟨rfl, ⟨f78_0_1, c6, (show 0 ≤ f78_0_1.toInt by omega), (show f78_0_1.toInt ≤ 400 by omega)⟩, (by simp only [cf0_, c9]; omega)⟩)⟩ hw dX12_isWord_79
  have L10 : ∀ (n10 : Nat) (v10_3 : Int64) (v10_5 : Int32) (f10_0_1 : Int32) (f10_0_14 : Int32) (H : Heap) (locs : List Loc) (ls : Array Slot) (w10 : va_W), 0 ≤ v10_5.toInt → v10_5.toInt ≤ 400 → 0 ≤ f10_0_1.toInt → f10_0_1.toInt ≤ 400 → 0 ≤ f10_0_14.toInt → f10_0_14.toInt ≤ 400 → (f10_0_14.toInt = f0_.toInt ∨ (gi w0 1 (f0_.toInt).toNat).toInt = 32) → (400 - v10_5.toInt).toNat < n10 → Wd dC dI A s.heap H locs w10 → TW ksM ad cy B qr 12 w10 → FE ksM [(12, 14, 14)] w0 w10 → gi w10 0 1 = f10_0_1 → gi w10 0 14 = f10_0_14 → lv_has ls 6 [(0, .ref (ad 0)), (1, .long 27988559963452019), (3, .long v10_3), (5, .int v10_5)] → W p l e ({ frames := 2, cells := 0, slots := 0, locals := 33 }) s m (List.toArray [.ref (ad 0), .long 27988559963452019]) below meth c H locs 0 0 (MQ below (va_Qi (P_X12_isWord_1 ad cy B qr s1  w0) (fun u : va_W => wpost dC dI cy A u) A) (List.toArray [.ref (ad 0), .long 27988559963452019]) s 0 0 A) (F0 m 10 ls []) := by
    intro n10
    induction n10 with
    | zero => intro v10_3 v10_5 f10_0_1 f10_0_14 H locs ls w10 r11 t12 r13 t14 r16 t17 hcr10_0 hm10 hw hT hF c15 c18 hl; omega
    | succ n10 ih10 =>
      intro v10_3 v10_5 f10_0_1 f10_0_14 H locs ls w10 r11 t12 r13 t14 r16 t17 hcr10_0 hm10 hw hT hF c15 c18 hl
      have J50 : ∀ (v50_3 : Int64) (H : Heap) (locs : List Loc) (ls : Array Slot) (w19 : va_W), 0 ≤ v10_5.toInt → v10_5.toInt ≤ 399 → 1 ≤ f10_0_1.toInt → f10_0_1.toInt ≤ 400 → 0 ≤ f10_0_14.toInt → f10_0_14.toInt ≤ 399 → (f10_0_14.toInt = f0_.toInt ∨ (gi w0 1 (f0_.toInt).toNat).toInt = 32) → Wd dC dI A s.heap H locs w19 → TW ksM ad cy B qr 12 w19 → FE ksM [(12, 14, 14)] w0 w19 → gi w19 0 1 = f10_0_1 → gi w19 0 14 = f10_0_14 → lv_has ls 6 [(0, .ref (ad 0)), (1, .long 27988559963452019), (3, .long v50_3), (5, .int v10_5)] → W p l e ({ frames := 2, cells := 0, slots := 0, locals := 33 }) s m (List.toArray [.ref (ad 0), .long 27988559963452019]) below meth c H locs 0 0 (MQ below (va_Qi (P_X12_isWord_1 ad cy B qr s1  w0) (fun u : va_W => wpost dC dI cy A u) A) (List.toArray [.ref (ad 0), .long 27988559963452019]) s 0 0 A) (F0 m 50 ls []) := by
        intro v50_3 H locs ls w19 r20 t21 r22 t23 r25 t26 hcr50_0 hw hT hF c24 c27 hl
        obtain ⟨x28, ex28⟩ : ∃ y : Int32, y = v10_5 + Int32.ofInt 1 := ⟨_, rfl⟩
        refine lv_iinc (v := x28) (lv' := [(5, .int x28), (0, .ref (ad 0)), (1, .long 27988559963452019), (3, .long v50_3)]) hx hb dX12_isWord_50 hl (k := 3) rfl ex28.symm (by decide) rfl (fun ls hl => ?_)
        have ex28 : x28.toInt = v10_5.toInt + 1 := by rw [ex28]; exact wk_add (y := 1) (show -2147483648 ≤ v10_5.toInt + 1 by omega) (show v10_5.toInt + 1 ≤ 2147483647 by omega)
        refine lv_goto (tgt := 10) hx hb dX12_isWord_53 (by decide) ?_
        exact ih10 v50_3 x28 f10_0_1 f10_0_14 H locs ls w19 (show 0 ≤ x28.toInt by omega) (show x28.toInt ≤ 400 by omega) (show 0 ≤ f10_0_1.toInt by omega) (show f10_0_1.toInt ≤ 400 by omega) (show 0 ≤ f10_0_14.toInt by omega) (show f10_0_14.toInt ≤ 400 by omega) (show (f10_0_14.toInt = f0_.toInt ∨ (gi w0 1 (f0_.toInt).toNat).toInt = 32) by first | omega | assumption | (left; omega) | (left; decide) | (right; assumption)) (show (400 - x28.toInt).toNat < n10 by omega) hw hT hF c24 c27 (lv_sub hl [1, 2, 3, 0] rfl)
      refine lv_aload_n hx hb dX12_isWord_10 rfl (lv_at hl 0 rfl) ?_
      refine lv_aload_n hx hb dX12_isWord_11 rfl (lv_at hl 0 rfl) ?_
      refine tk_geti hC hK hw hT hinX12 kM_at0 (by decide) rfl 14 (by decide) (List.mem_of_getElem? (i := 1) rfl) rfl rfl dX12_isWord_12 (fun x29 c30 rx29 tx29 => ?_)
      refine wk_top f10_0_14 (c30.symm.trans c18) ?_
      refine lv_iload hx hb dX12_isWord_15 (lv_at hl 3 rfl) ?_
      refine lv_iadd hx hb dX12_isWord_17 ?_
      refine lv_topi (fun x31 ex31 => ?_)
      have ex31 : x31.toInt = f10_0_14.toInt + v10_5.toInt := by rw [ex31]; exact wk_add (show (-2147483648) ≤ f10_0_14.toInt + v10_5.toInt by omega) (show f10_0_14.toInt + v10_5.toInt ≤ 2147483647 by omega)
      refine tk_Vi hC hK hw hT hA hE hSR kM_at0 (by decide) rfl (k_X12_isLetter_1 l adK adV dC dI cy ad B (by omega) (by omega) qr s1   x31 (show 0 ≤ x31.toInt by omega) (show x31.toInt ≤ 800 by omega) w10 H.size hT ) (cwV 1 hC.2.2.2.2 gX12_isWord_X12_isLetter rfl rfl rfl (by decide +kernel) ⟨Nat.le_of_ble_eq_true rfl, Nat.le_of_ble_eq_true rfl⟩) rfl hl.1 rfl (Nat.le_of_ble_eq_true rfl) dX12_isWord_18 (fun r32 w34 H locs hp33 hw => ?_)
      obtain ⟨hT, k35, hg41⟩ := hp33
      have hF := hF.tr k35 (by decide)
      have c42 := k35.gi kM_at0 (by decide) c15
      have c43 := k35.gi kM_at0 (by decide) c18
      rcases hg41 with ⟨rfl, ⟨x36, c37, rx36, tx36⟩⟩ | ⟨rfl, g38, ⟨x39, c40, rx39, tx39⟩⟩
      · have ex36 : x36.toInt = f10_0_1.toInt := by rw [← c42.symm.trans c37]
        refine lv_if_eq (tgt := 56) hx hb dX12_isWord_21 (by decide) (fun _ => ?_) (fun c => absurd (by decide) c)
        refine lv_iload hx hb dX12_isWord_56 (lv_at hl 3 rfl) ?_
        refine lv_if_le (tgt := 78) hx hb dX12_isWord_58 (by decide) (fun c44 => ?_) (fun c44 => ?_)
        · have c44 : v10_5.toInt ≤ (0 : Int) := wk_le.mp c44
          exact J78 v10_3 v10_5 f10_0_1 f10_0_14 H locs ls w34 (show 0 ≤ v10_5.toInt by omega) (show v10_5.toInt ≤ 400 by omega) (show 0 ≤ f10_0_1.toInt by omega) (show f10_0_1.toInt ≤ 400 by omega) (show 0 ≤ f10_0_14.toInt by omega) (show f10_0_14.toInt ≤ 400 by omega) (show (f10_0_14.toInt = f0_.toInt ∨ (gi w0 1 (f0_.toInt).toNat).toInt = 32) by first | omega | assumption | (left; omega) | (left; decide) | (right; assumption))  hw hT hF c42 c43 (lv_sub hl [0, 1, 2, 3] rfl)
        · have c44 : (0 : Int) < v10_5.toInt := wk_leF c44
          refine lv_iload hx hb dX12_isWord_61 (lv_at hl 3 rfl) ?_
          refine lv_bipush (v := 8) hx hb dX12_isWord_63 (by decide) ?_
          refine lv_icmp_ge (tgt := 78) hx hb dX12_isWord_65 (by decide) (fun c45 => ?_) (fun c45 => ?_)
          · have c45 : (8 : Int) ≤ v10_5.toInt := wk_le.mp c45
            exact J78 v10_3 v10_5 f10_0_1 f10_0_14 H locs ls w34 (show 0 ≤ v10_5.toInt by omega) (show v10_5.toInt ≤ 400 by omega) (show 0 ≤ f10_0_1.toInt by omega) (show f10_0_1.toInt ≤ 400 by omega) (show 0 ≤ f10_0_14.toInt by omega) (show f10_0_14.toInt ≤ 400 by omega) (show (f10_0_14.toInt = f0_.toInt ∨ (gi w0 1 (f0_.toInt).toNat).toInt = 32) by first | omega | assumption | (left; omega) | (left; decide) | (right; assumption))  hw hT hF c42 c43 (lv_sub hl [0, 1, 2, 3] rfl)
          · have c45 : v10_5.toInt < (8 : Int) := wk_leF c45
            refine lv_lload_n hx hb dX12_isWord_68 rfl (lv_at hl 2 rfl) ?_
            refine lv_lload_n hx hb dX12_isWord_69 rfl (lv_at hl 1 rfl) ?_
            refine W.lcmp hx hb dX12_isWord_70 ?_
            refine lv_if_ne (tgt := 78) hx hb dX12_isWord_71 (by decide) (fun c46 => ?_) (fun c46 => ?_)
            · have c46 : ¬ v10_3.toInt = (27988559963452019 : Int) := wk_ceF c46
              exact J78 v10_3 v10_5 f10_0_1 f10_0_14 H locs ls w34 (show 0 ≤ v10_5.toInt by omega) (show v10_5.toInt ≤ 400 by omega) (show 0 ≤ f10_0_1.toInt by omega) (show f10_0_1.toInt ≤ 400 by omega) (show 0 ≤ f10_0_14.toInt by omega) (show f10_0_14.toInt ≤ 400 by omega) (show (f10_0_14.toInt = f0_.toInt ∨ (gi w0 1 (f0_.toInt).toNat).toInt = 32) by first | omega | assumption | (left; omega) | (left; decide) | (right; assumption))  hw hT hF c42 c43 (lv_sub hl [0, 1, 2, 3] rfl)
            · have c46 : v10_3.toInt = (27988559963452019 : Int) := wk_ceT c46
              refine lv_iconst (v := 1) hx hb dX12_isWord_74 (by decide) ?_
              refine lv_goto (tgt := 79) hx hb dX12_isWord_75 (by decide) ?_
              exact tk_zret hC hr rfl hlocks hK ⟨hT, hF, (Or.inr ⟨rfl, ⟨f10_0_1, c42, (show 0 ≤ f10_0_1.toInt by omega), (show f10_0_1.toInt ≤ 400 by omega)⟩, (by simp only [cf0_, c43]; omega)⟩)⟩ hw dX12_isWord_79
      · have ex39 : x39.toInt = f10_0_1.toInt := by rw [← c42.symm.trans c40]
        refine lv_if_eq (tgt := 56) hx hb dX12_isWord_21 (by decide) (fun c => absurd c (by decide)) (fun _ => ?_)
        refine lv_iload hx hb dX12_isWord_24 (lv_at hl 3 rfl) ?_
        refine lv_bipush (v := 8) hx hb dX12_isWord_26 (by decide) ?_
        refine lv_icmp_ge (tgt := 50) hx hb dX12_isWord_28 (by decide) (fun c47 => ?_) (fun c47 => ?_)
        · have c47 : (8 : Int) ≤ v10_5.toInt := wk_le.mp c47
          exact J50 v10_3 H locs ls w34 (show 0 ≤ v10_5.toInt by omega) (show v10_5.toInt ≤ 399 by omega) (show 1 ≤ f10_0_1.toInt by omega) (show f10_0_1.toInt ≤ 400 by omega) (show 0 ≤ f10_0_14.toInt by omega) (show f10_0_14.toInt ≤ 399 by omega) (show (f10_0_14.toInt = f0_.toInt ∨ (gi w0 1 (f0_.toInt).toNat).toInt = 32) by first | omega | assumption | (left; omega) | (left; decide) | (right; assumption))  hw hT hF c42 c43 (lv_sub hl [0, 1, 2, 3] rfl)
        · have c47 : v10_5.toInt < (8 : Int) := wk_leF c47
          refine lv_lload_n hx hb dX12_isWord_31 rfl (lv_at hl 2 rfl) ?_
          refine lv_bipush (v := 8) hx hb dX12_isWord_32 (by decide) ?_
          refine lv_lshl hx hb dX12_isWord_34 rfl ?_
          refine lv_topl (fun x48 ex48 => ?_)
          refine lv_aload_n hx hb dX12_isWord_35 rfl (lv_at hl 0 rfl) ?_
          refine tk_getA hC hK hw hT hinX12 kM_at0 (by decide) rfl 0 (by decide) (List.mem_of_getElem? (i := 2) rfl) rfl rfl dX12_isWord_36 ?_
          refine lv_aload_n hx hb dX12_isWord_39 rfl (lv_at hl 0 rfl) ?_
          refine tk_geti hC hK hw hT hinX12 kM_at0 (by decide) rfl 14 (by decide) (List.mem_of_getElem? (i := 1) rfl) rfl rfl dX12_isWord_40 (fun x49 c50 rx49 tx49 => ?_)
          refine wk_top f10_0_14 (c50.symm.trans c43) ?_
          refine lv_iload hx hb dX12_isWord_43 (lv_at hl 3 rfl) ?_
          refine lv_iadd hx hb dX12_isWord_45 ?_
          refine lv_topi (fun x51 ex51 => ?_)
          have ex51 : x51.toInt = f10_0_14.toInt + v10_5.toInt := by rw [ex51]; exact wk_add (show (-2147483648) ≤ f10_0_14.toInt + v10_5.toInt by omega) (show f10_0_14.toInt + v10_5.toInt ≤ 2147483647 by omega)
          refine tk_bald hC hK hw hT kM_at1 rfl rfl (show 0 ≤ x51.toInt by omega) (show x51.toInt < 400 by omega) dX12_isWord_46 (fun x52 c53 rx52 tx52 => ?_)
          have c53 : gi w34 1 (x51.toInt).toNat = x52 := (congrArg (gi w34 1) (congrArg Int.toNat (show x51.toInt = x51.toInt by omega))).trans c53
          refine lv_i2l hx hb dX12_isWord_47 rfl ?_
          refine lv_topl (fun x54 ex54 => ?_)
          have ex54 : x54.toInt = x52.toInt := by rw [ex54]; exact wk_i2l _
          have bx54 := wk_i32 x52
          refine lv_lor hx hb dX12_isWord_48 ?_
          refine lv_topl (fun x55 ex55 => ?_)
          refine lv_lstore_n (lv' := [(3, .long x55), (0, .ref (ad 0)), (1, .long 27988559963452019), (5, .int v10_5)]) hx hb dX12_isWord_49 rfl hl (by decide) rfl (fun ls hl => ?_)
          exact J50 x55 H locs ls w34 (show 0 ≤ v10_5.toInt by omega) (show v10_5.toInt ≤ 399 by omega) (show 1 ≤ f10_0_1.toInt by omega) (show f10_0_1.toInt ≤ 400 by omega) (show 0 ≤ f10_0_14.toInt by omega) (show f10_0_14.toInt ≤ 399 by omega) (show (f10_0_14.toInt = f0_.toInt ∨ (gi w0 1 (f0_.toInt).toNat).toInt = 32) by first | omega | assumption | (left; omega) | (left; decide) | (right; assumption) | (right; rw [c53]; omega) | (right; rw [c53]; decide))  hw hT hF c42 c43 (lv_sub hl [1, 2, 0, 3] rfl)
  refine lv_aload_n hx hb dX12_isWord_0 rfl (lv_at hl 0 rfl) ?_
  refine tk_Vi hC hK hw hT hA hE hSR kM_at0 (by decide) rfl (k_X12_see_1 l adK adV dC dI cy ad B (by omega) (by omega) qr s1    w0 s.heap.size hT f0_ cf0_ (show 0 ≤ f0_.toInt by omega) (show f0_.toInt ≤ 400 by omega)) (cwV 0 hC.2.2.2.2 gX12_isWord_X12_see rfl rfl rfl (by decide +kernel) ⟨Nat.le_of_ble_eq_true rfl, Nat.le_of_ble_eq_true rfl⟩) rfl hl.1 rfl (Nat.le_of_ble_eq_true rfl) dX12_isWord_1 (fun r56 w58 H locs hp57 hw => ?_)
  obtain ⟨hT, k59, hg76⟩ := hp57
  have hF := hF.tr k59 (by decide)
  rcases hg76 with ⟨g60, g61, ⟨x62, c63, rx62, tx62⟩, ⟨x64, c65, rx64, tx64⟩, g66, g67⟩ | ⟨rfl, ⟨x68, c69, rx68, tx68⟩, ⟨x70, c71, rx70, tx70⟩, g72⟩ | ⟨rfl, ⟨x73, c74, rx73, tx73⟩, g75⟩
  · have g66 : (gi w58 1 (x64.toInt).toNat).toInt ≠ 32 := by have q := g66; simp only [c65] at q; omega
    have g67 : (x64.toInt = f0_.toInt ∨ (gi w0 1 (f0_.toInt).toNat).toInt = 32) := by have q := g67; simp only [cf0_, c65] at q; omega
    refine lv_pop hx hb dX12_isWord_4 rfl ?_
    refine lv_lconst (v := 0) hx hb dX12_isWord_5 (by decide) ?_
    refine lv_lstore_n (lv' := [(3, .long 0), (0, .ref (ad 0)), (1, .long 27988559963452019)]) hx hb dX12_isWord_6 rfl hl (by decide) rfl (fun ls hl => ?_)
    refine lv_iconst (v := 0) hx hb dX12_isWord_7 (by decide) ?_
    refine lv_istore (lv' := [(5, .int 0), (3, .long 0), (0, .ref (ad 0)), (1, .long 27988559963452019)]) hx hb dX12_isWord_8 hl (by decide) rfl (fun ls hl => ?_)
    exact L10 ((400 - (0 : Int)).toNat + 1) 0 0 x62 x64 H locs ls w58 (by decide) (by decide) (show 0 ≤ x62.toInt by omega) (show x62.toInt ≤ 400 by omega) (show 0 ≤ x64.toInt by omega) (show x64.toInt ≤ 400 by omega) (show (x64.toInt = f0_.toInt ∨ (gi w0 1 (f0_.toInt).toNat).toInt = 32) by first | omega | assumption | (left; omega) | (left; decide) | (right; assumption)) (Nat.lt_succ_self _) hw hT hF c63 c65 (lv_sub hl [2, 3, 1, 0] rfl)
  · have g72 : (x70.toInt = f0_.toInt ∨ (gi w0 1 (f0_.toInt).toNat).toInt = 32) := by have q := g72; simp only [cf0_, c71] at q; omega
    refine lv_pop hx hb dX12_isWord_4 rfl ?_
    refine lv_lconst (v := 0) hx hb dX12_isWord_5 (by decide) ?_
    refine lv_lstore_n (lv' := [(3, .long 0), (0, .ref (ad 0)), (1, .long 27988559963452019)]) hx hb dX12_isWord_6 rfl hl (by decide) rfl (fun ls hl => ?_)
    refine lv_iconst (v := 0) hx hb dX12_isWord_7 (by decide) ?_
    refine lv_istore (lv' := [(5, .int 0), (3, .long 0), (0, .ref (ad 0)), (1, .long 27988559963452019)]) hx hb dX12_isWord_8 hl (by decide) rfl (fun ls hl => ?_)
    exact L10 ((400 - (0 : Int)).toNat + 1) 0 0 x68 x70 H locs ls w58 (by decide) (by decide) (show 0 ≤ x68.toInt by omega) (show x68.toInt ≤ 400 by omega) (show 0 ≤ x70.toInt by omega) (show x70.toInt ≤ 400 by omega) (show (x70.toInt = f0_.toInt ∨ (gi w0 1 (f0_.toInt).toNat).toInt = 32) by first | omega | assumption | (left; omega) | (left; decide) | (right; assumption)) (Nat.lt_succ_self _) hw hT hF c69 c71 (lv_sub hl [2, 3, 1, 0] rfl)
  · obtain ⟨x77, c78, rx77, tx77⟩ := hT.rdi (lo := 0) (hi := 400) (k := 14) kM_at0 (by decide) rfl
    have g75 : (x77.toInt = f0_.toInt ∨ (gi w0 1 (f0_.toInt).toNat).toInt = 32) := by have q := g75; simp only [cf0_, c78] at q; omega
    refine lv_pop hx hb dX12_isWord_4 rfl ?_
    refine lv_lconst (v := 0) hx hb dX12_isWord_5 (by decide) ?_
    refine lv_lstore_n (lv' := [(3, .long 0), (0, .ref (ad 0)), (1, .long 27988559963452019)]) hx hb dX12_isWord_6 rfl hl (by decide) rfl (fun ls hl => ?_)
    refine lv_iconst (v := 0) hx hb dX12_isWord_7 (by decide) ?_
    refine lv_istore (lv' := [(5, .int 0), (3, .long 0), (0, .ref (ad 0)), (1, .long 27988559963452019)]) hx hb dX12_isWord_8 hl (by decide) rfl (fun ls hl => ?_)
    exact L10 ((400 - (0 : Int)).toNat + 1) 0 0 x73 x77 H locs ls w58 (by decide) (by decide) (show 0 ≤ x73.toInt by omega) (show x73.toInt ≤ 400 by omega) (show 0 ≤ x77.toInt by omega) (show x77.toInt ≤ 400 by omega) (show (x77.toInt = f0_.toInt ∨ (gi w0 1 (f0_.toInt).toNat).toInt = 32) by first | omega | assumption | (left; omega) | (left; decide) | (right; assumption)) (Nat.lt_succ_self _) hw hT hF c74 c78 (lv_sub hl [2, 3, 1, 0] rfl)
abbrev P_X12_isWord_2 (ad : Nat → Nat) (cy : Nat → ClassId) (B : Int) (qr : Nat) (s1 : Int)  (w0 : va_W) : Int32 → va_W → Prop := fun r u => TW ksM ad cy B qr 12 u ∧ FE ksM [(12, 14, 14)] w0 u ∧ ((r = 0 ∧ (∃ y : Int32, gi u 0 1 = y ∧ 0 ≤ y.toInt ∧ y.toInt ≤ 400) ∧ (((gi u 0 14).toInt = (gi w0 0 14).toInt ∨ (gi w0 1 ((gi w0 0 14).toInt).toNat).toInt = 32))) ∨ (r = 1 ∧ (∃ y : Int32, gi u 0 1 = y ∧ 0 ≤ y.toInt ∧ y.toInt ≤ 400) ∧ (((gi u 0 14).toInt = (gi w0 0 14).toInt ∨ (gi w0 1 ((gi w0 0 14).toInt).toNat).toInt = 32))))
set_option maxHeartbeats 4000000 in
set_option maxRecDepth 100000 in
theorem k_X12_isWord_2 (l : Launch) (adK adV : Nat → Nat) (dC : Nat → ClassId) (dI : Nat → Nat → Nat) (cy : Nat → ClassId) (ad : Nat → Nat) (B : Int) (hB0 : 100000 ≤ B) (hB1 : B ≤ 1073741824) (qr : Nat) (s1 : Int)   (w0 : va_W) (sz : Nat) (hT : TW ksM ad cy B qr 12 w0) (f0_ : Int32) (cf0_ : gi w0 0 14 = f0_) (rf0_ : 0 ≤ f0_.toInt) (tf0_ : f0_.toInt ≤ 400) : Met l yX12_isWord wsX12_isWord ({ frames := 2, cells := 0, slots := 0, locals := 33 }) (va_Pc [.ref (ad 0), .long 126943972648308] (wpreS adK adV dC dI cy sz w0)) (va_Qi (P_X12_isWord_2 ad cy B qr s1  w0) (fun u : va_W => wpost dC dI cy (va_A w0 sz) u) (va_A w0 sz)) 0 0 (va_A w0 sz) := by
  refine Met.ofW (cc := cX12_isWord) (maxL := 6) (ret := (some .boolean)) (by decide) rfl ?_
  intro p e s m args below meth c s₁ Bk hml hv
  obtain ⟨rfl, ⟨hsz, hP, hK, hD0⟩, hE, hSR⟩ := hv
  have hx := Bk.exec
  have hb := Bk.bytes
  have hr := Bk.returns
  have hlocks := Bk.notSynchronized
  have hC : CallFix p m c cX12_isWord 6 s _ wsX12_isWord RX12 := ⟨hx, hb, hml, findClass_of_methodNamed Bk.named, atoms_spec (ws := wsX12_isWord) Bk.pre⟩
  subst hsz
  have hD := hD0.self (sz := s.heap.size)
  generalize hAe : va_A w0 s.heap.size = A at hD hE ⊢
  have hA : ∀ q : Nat, s.heap.size ≤ q → A q := fun q h => by rw [← hAe]; exact Or.inr h
  have hw : Wd dC dI A s.heap s.heap [] w0 := ⟨hP, hD, va_S.rf⟩
  have hF : FE ksM [(12, 14, 14)] w0 w0 := FE.rf
  have hl := lv_entry ([.ref (ad 0), .long 126943972648308]) (n := 6) (Nat.le_of_ble_eq_true rfl)
  rw [lg_entry_eq]
  generalize (lg_sl ([.ref (ad 0), .long 126943972648308]) ++ List.replicate (6 - (lg_sl ([.ref (ad 0), .long 126943972648308])).length) Slot.unset).toArray = ls at hl ⊢
  have hl : lv_has ls 6 [(0, .ref (ad 0)), (1, .long 126943972648308)] := hl
  generalize hloc : ([] : List Loc) = locs at hw ⊢
  have hinX12 : ∀ w ∈ u_ws RX12 TX12 42, w ∈ wsX12_isWord := fun _ h => List.mem_cons_of_mem _ (List.mem_append_right _ (h))
  have J78 : ∀ (v78_3 : Int64) (v78_5 : Int32) (f78_0_1 : Int32) (f78_0_14 : Int32) (H : Heap) (locs : List Loc) (ls : Array Slot) (w1 : va_W), 0 ≤ v78_5.toInt → v78_5.toInt ≤ 400 → 0 ≤ f78_0_1.toInt → f78_0_1.toInt ≤ 400 → 0 ≤ f78_0_14.toInt → f78_0_14.toInt ≤ 400 → (f78_0_14.toInt = f0_.toInt ∨ (gi w0 1 (f0_.toInt).toNat).toInt = 32) → Wd dC dI A s.heap H locs w1 → TW ksM ad cy B qr 12 w1 → FE ksM [(12, 14, 14)] w0 w1 → gi w1 0 1 = f78_0_1 → gi w1 0 14 = f78_0_14 → lv_has ls 6 [(0, .ref (ad 0)), (1, .long 126943972648308), (3, .long v78_3), (5, .int v78_5)] → W p l e ({ frames := 2, cells := 0, slots := 0, locals := 33 }) s m (List.toArray [.ref (ad 0), .long 126943972648308]) below meth c H locs 0 0 (MQ below (va_Qi (P_X12_isWord_2 ad cy B qr s1  w0) (fun u : va_W => wpost dC dI cy A u) A) (List.toArray [.ref (ad 0), .long 126943972648308]) s 0 0 A) (F0 m 78 ls []) := by
    intro v78_3 v78_5 f78_0_1 f78_0_14 H locs ls w1 r2 t3 r4 t5 r7 t8 hcr78_0 hw hT hF c6 c9 hl
    refine lv_iconst (v := 0) hx hb dX12_isWord_78 (by decide) ?_
    exact tk_zret hC hr rfl hlocks hK ⟨hT, hF, (Or.inl ⟨rfl, ⟨f78_0_1, c6, (show 0 ≤ f78_0_1.toInt by omega), (show f78_0_1.toInt ≤ 400 by omega)⟩, (by simp only [cf0_, c9]; omega)⟩)⟩ hw dX12_isWord_79
  have L10 : ∀ (n10 : Nat) (v10_3 : Int64) (v10_5 : Int32) (f10_0_1 : Int32) (f10_0_14 : Int32) (H : Heap) (locs : List Loc) (ls : Array Slot) (w10 : va_W), 0 ≤ v10_5.toInt → v10_5.toInt ≤ 400 → 0 ≤ f10_0_1.toInt → f10_0_1.toInt ≤ 400 → 0 ≤ f10_0_14.toInt → f10_0_14.toInt ≤ 400 → (f10_0_14.toInt = f0_.toInt ∨ (gi w0 1 (f0_.toInt).toNat).toInt = 32) → (400 - v10_5.toInt).toNat < n10 → Wd dC dI A s.heap H locs w10 → TW ksM ad cy B qr 12 w10 → FE ksM [(12, 14, 14)] w0 w10 → gi w10 0 1 = f10_0_1 → gi w10 0 14 = f10_0_14 → lv_has ls 6 [(0, .ref (ad 0)), (1, .long 126943972648308), (3, .long v10_3), (5, .int v10_5)] → W p l e ({ frames := 2, cells := 0, slots := 0, locals := 33 }) s m (List.toArray [.ref (ad 0), .long 126943972648308]) below meth c H locs 0 0 (MQ below (va_Qi (P_X12_isWord_2 ad cy B qr s1  w0) (fun u : va_W => wpost dC dI cy A u) A) (List.toArray [.ref (ad 0), .long 126943972648308]) s 0 0 A) (F0 m 10 ls []) := by
    intro n10
    induction n10 with
    | zero => intro v10_3 v10_5 f10_0_1 f10_0_14 H locs ls w10 r11 t12 r13 t14 r16 t17 hcr10_0 hm10 hw hT hF c15 c18 hl; omega
    | succ n10 ih10 =>
      intro v10_3 v10_5 f10_0_1 f10_0_14 H locs ls w10 r11 t12 r13 t14 r16 t17 hcr10_0 hm10 hw hT hF c15 c18 hl
      have J50 : ∀ (v50_3 : Int64) (H : Heap) (locs : List Loc) (ls : Array Slot) (w19 : va_W), 0 ≤ v10_5.toInt → v10_5.toInt ≤ 399 → 1 ≤ f10_0_1.toInt → f10_0_1.toInt ≤ 400 → 0 ≤ f10_0_14.toInt → f10_0_14.toInt ≤ 399 → (f10_0_14.toInt = f0_.toInt ∨ (gi w0 1 (f0_.toInt).toNat).toInt = 32) → Wd dC dI A s.heap H locs w19 → TW ksM ad cy B qr 12 w19 → FE ksM [(12, 14, 14)] w0 w19 → gi w19 0 1 = f10_0_1 → gi w19 0 14 = f10_0_14 → lv_has ls 6 [(0, .ref (ad 0)), (1, .long 126943972648308), (3, .long v50_3), (5, .int v10_5)] → W p l e ({ frames := 2, cells := 0, slots := 0, locals := 33 }) s m (List.toArray [.ref (ad 0), .long 126943972648308]) below meth c H locs 0 0 (MQ below (va_Qi (P_X12_isWord_2 ad cy B qr s1  w0) (fun u : va_W => wpost dC dI cy A u) A) (List.toArray [.ref (ad 0), .long 126943972648308]) s 0 0 A) (F0 m 50 ls []) := by
        intro v50_3 H locs ls w19 r20 t21 r22 t23 r25 t26 hcr50_0 hw hT hF c24 c27 hl
        obtain ⟨x28, ex28⟩ : ∃ y : Int32, y = v10_5 + Int32.ofInt 1 := ⟨_, rfl⟩
        refine lv_iinc (v := x28) (lv' := [(5, .int x28), (0, .ref (ad 0)), (1, .long 126943972648308), (3, .long v50_3)]) hx hb dX12_isWord_50 hl (k := 3) rfl ex28.symm (by decide) rfl (fun ls hl => ?_)
        have ex28 : x28.toInt = v10_5.toInt + 1 := by rw [ex28]; exact wk_add (y := 1) (show -2147483648 ≤ v10_5.toInt + 1 by omega) (show v10_5.toInt + 1 ≤ 2147483647 by omega)
        refine lv_goto (tgt := 10) hx hb dX12_isWord_53 (by decide) ?_
        exact ih10 v50_3 x28 f10_0_1 f10_0_14 H locs ls w19 (show 0 ≤ x28.toInt by omega) (show x28.toInt ≤ 400 by omega) (show 0 ≤ f10_0_1.toInt by omega) (show f10_0_1.toInt ≤ 400 by omega) (show 0 ≤ f10_0_14.toInt by omega) (show f10_0_14.toInt ≤ 400 by omega) (show (f10_0_14.toInt = f0_.toInt ∨ (gi w0 1 (f0_.toInt).toNat).toInt = 32) by first | omega | assumption | (left; omega) | (left; decide) | (right; assumption)) (show (400 - x28.toInt).toNat < n10 by omega) hw hT hF c24 c27 (lv_sub hl [1, 2, 3, 0] rfl)
      refine lv_aload_n hx hb dX12_isWord_10 rfl (lv_at hl 0 rfl) ?_
      refine lv_aload_n hx hb dX12_isWord_11 rfl (lv_at hl 0 rfl) ?_
      refine tk_geti hC hK hw hT hinX12 kM_at0 (by decide) rfl 14 (by decide) (List.mem_of_getElem? (i := 1) rfl) rfl rfl dX12_isWord_12 (fun x29 c30 rx29 tx29 => ?_)
      refine wk_top f10_0_14 (c30.symm.trans c18) ?_
      refine lv_iload hx hb dX12_isWord_15 (lv_at hl 3 rfl) ?_
      refine lv_iadd hx hb dX12_isWord_17 ?_
      refine lv_topi (fun x31 ex31 => ?_)
      have ex31 : x31.toInt = f10_0_14.toInt + v10_5.toInt := by rw [ex31]; exact wk_add (show (-2147483648) ≤ f10_0_14.toInt + v10_5.toInt by omega) (show f10_0_14.toInt + v10_5.toInt ≤ 2147483647 by omega)
      refine tk_Vi hC hK hw hT hA hE hSR kM_at0 (by decide) rfl (k_X12_isLetter_1 l adK adV dC dI cy ad B (by omega) (by omega) qr s1   x31 (show 0 ≤ x31.toInt by omega) (show x31.toInt ≤ 800 by omega) w10 H.size hT ) (cwV 1 hC.2.2.2.2 gX12_isWord_X12_isLetter rfl rfl rfl (by decide +kernel) ⟨Nat.le_of_ble_eq_true rfl, Nat.le_of_ble_eq_true rfl⟩) rfl hl.1 rfl (Nat.le_of_ble_eq_true rfl) dX12_isWord_18 (fun r32 w34 H locs hp33 hw => ?_)
      obtain ⟨hT, k35, hg41⟩ := hp33
      have hF := hF.tr k35 (by decide)
      have c42 := k35.gi kM_at0 (by decide) c15
      have c43 := k35.gi kM_at0 (by decide) c18
      rcases hg41 with ⟨rfl, ⟨x36, c37, rx36, tx36⟩⟩ | ⟨rfl, g38, ⟨x39, c40, rx39, tx39⟩⟩
      · have ex36 : x36.toInt = f10_0_1.toInt := by rw [← c42.symm.trans c37]
        refine lv_if_eq (tgt := 56) hx hb dX12_isWord_21 (by decide) (fun _ => ?_) (fun c => absurd (by decide) c)
        refine lv_iload hx hb dX12_isWord_56 (lv_at hl 3 rfl) ?_
        refine lv_if_le (tgt := 78) hx hb dX12_isWord_58 (by decide) (fun c44 => ?_) (fun c44 => ?_)
        · have c44 : v10_5.toInt ≤ (0 : Int) := wk_le.mp c44
          exact J78 v10_3 v10_5 f10_0_1 f10_0_14 H locs ls w34 (show 0 ≤ v10_5.toInt by omega) (show v10_5.toInt ≤ 400 by omega) (show 0 ≤ f10_0_1.toInt by omega) (show f10_0_1.toInt ≤ 400 by omega) (show 0 ≤ f10_0_14.toInt by omega) (show f10_0_14.toInt ≤ 400 by omega) (show (f10_0_14.toInt = f0_.toInt ∨ (gi w0 1 (f0_.toInt).toNat).toInt = 32) by first | omega | assumption | (left; omega) | (left; decide) | (right; assumption))  hw hT hF c42 c43 (lv_sub hl [0, 1, 2, 3] rfl)
        · have c44 : (0 : Int) < v10_5.toInt := wk_leF c44
          refine lv_iload hx hb dX12_isWord_61 (lv_at hl 3 rfl) ?_
          refine lv_bipush (v := 8) hx hb dX12_isWord_63 (by decide) ?_
          refine lv_icmp_ge (tgt := 78) hx hb dX12_isWord_65 (by decide) (fun c45 => ?_) (fun c45 => ?_)
          · have c45 : (8 : Int) ≤ v10_5.toInt := wk_le.mp c45
            exact J78 v10_3 v10_5 f10_0_1 f10_0_14 H locs ls w34 (show 0 ≤ v10_5.toInt by omega) (show v10_5.toInt ≤ 400 by omega) (show 0 ≤ f10_0_1.toInt by omega) (show f10_0_1.toInt ≤ 400 by omega) (show 0 ≤ f10_0_14.toInt by omega) (show f10_0_14.toInt ≤ 400 by omega) (show (f10_0_14.toInt = f0_.toInt ∨ (gi w0 1 (f0_.toInt).toNat).toInt = 32) by first | omega | assumption | (left; omega) | (left; decide) | (right; assumption))  hw hT hF c42 c43 (lv_sub hl [0, 1, 2, 3] rfl)
          · have c45 : v10_5.toInt < (8 : Int) := wk_leF c45
            refine lv_lload_n hx hb dX12_isWord_68 rfl (lv_at hl 2 rfl) ?_
            refine lv_lload_n hx hb dX12_isWord_69 rfl (lv_at hl 1 rfl) ?_
            refine W.lcmp hx hb dX12_isWord_70 ?_
            refine lv_if_ne (tgt := 78) hx hb dX12_isWord_71 (by decide) (fun c46 => ?_) (fun c46 => ?_)
            · have c46 : ¬ v10_3.toInt = (126943972648308 : Int) := wk_ceF c46
              exact J78 v10_3 v10_5 f10_0_1 f10_0_14 H locs ls w34 (show 0 ≤ v10_5.toInt by omega) (show v10_5.toInt ≤ 400 by omega) (show 0 ≤ f10_0_1.toInt by omega) (show f10_0_1.toInt ≤ 400 by omega) (show 0 ≤ f10_0_14.toInt by omega) (show f10_0_14.toInt ≤ 400 by omega) (show (f10_0_14.toInt = f0_.toInt ∨ (gi w0 1 (f0_.toInt).toNat).toInt = 32) by first | omega | assumption | (left; omega) | (left; decide) | (right; assumption))  hw hT hF c42 c43 (lv_sub hl [0, 1, 2, 3] rfl)
            · have c46 : v10_3.toInt = (126943972648308 : Int) := wk_ceT c46
              refine lv_iconst (v := 1) hx hb dX12_isWord_74 (by decide) ?_
              refine lv_goto (tgt := 79) hx hb dX12_isWord_75 (by decide) ?_
              exact tk_zret hC hr rfl hlocks hK ⟨hT, hF, (Or.inr ⟨rfl, ⟨f10_0_1, c42, (show 0 ≤ f10_0_1.toInt by omega), (show f10_0_1.toInt ≤ 400 by omega)⟩, (by simp only [cf0_, c43]; omega)⟩)⟩ hw dX12_isWord_79
      · have ex39 : x39.toInt = f10_0_1.toInt := by rw [← c42.symm.trans c40]
        refine lv_if_eq (tgt := 56) hx hb dX12_isWord_21 (by decide) (fun c => absurd c (by decide)) (fun _ => ?_)
        refine lv_iload hx hb dX12_isWord_24 (lv_at hl 3 rfl) ?_
        refine lv_bipush (v := 8) hx hb dX12_isWord_26 (by decide) ?_
        refine lv_icmp_ge (tgt := 50) hx hb dX12_isWord_28 (by decide) (fun c47 => ?_) (fun c47 => ?_)
        · have c47 : (8 : Int) ≤ v10_5.toInt := wk_le.mp c47
          exact J50 v10_3 H locs ls w34 (show 0 ≤ v10_5.toInt by omega) (show v10_5.toInt ≤ 399 by omega) (show 1 ≤ f10_0_1.toInt by omega) (show f10_0_1.toInt ≤ 400 by omega) (show 0 ≤ f10_0_14.toInt by omega) (show f10_0_14.toInt ≤ 399 by omega) (show (f10_0_14.toInt = f0_.toInt ∨ (gi w0 1 (f0_.toInt).toNat).toInt = 32) by first | omega | assumption | (left; omega) | (left; decide) | (right; assumption))  hw hT hF c42 c43 (lv_sub hl [0, 1, 2, 3] rfl)
        · have c47 : v10_5.toInt < (8 : Int) := wk_leF c47
          refine lv_lload_n hx hb dX12_isWord_31 rfl (lv_at hl 2 rfl) ?_
          refine lv_bipush (v := 8) hx hb dX12_isWord_32 (by decide) ?_
          refine lv_lshl hx hb dX12_isWord_34 rfl ?_
          refine lv_topl (fun x48 ex48 => ?_)
          refine lv_aload_n hx hb dX12_isWord_35 rfl (lv_at hl 0 rfl) ?_
          refine tk_getA hC hK hw hT hinX12 kM_at0 (by decide) rfl 0 (by decide) (List.mem_of_getElem? (i := 2) rfl) rfl rfl dX12_isWord_36 ?_
          refine lv_aload_n hx hb dX12_isWord_39 rfl (lv_at hl 0 rfl) ?_
          refine tk_geti hC hK hw hT hinX12 kM_at0 (by decide) rfl 14 (by decide) (List.mem_of_getElem? (i := 1) rfl) rfl rfl dX12_isWord_40 (fun x49 c50 rx49 tx49 => ?_)
          refine wk_top f10_0_14 (c50.symm.trans c43) ?_
          refine lv_iload hx hb dX12_isWord_43 (lv_at hl 3 rfl) ?_
          refine lv_iadd hx hb dX12_isWord_45 ?_
          refine lv_topi (fun x51 ex51 => ?_)
          have ex51 : x51.toInt = f10_0_14.toInt + v10_5.toInt := by rw [ex51]; exact wk_add (show (-2147483648) ≤ f10_0_14.toInt + v10_5.toInt by omega) (show f10_0_14.toInt + v10_5.toInt ≤ 2147483647 by omega)
          refine tk_bald hC hK hw hT kM_at1 rfl rfl (show 0 ≤ x51.toInt by omega) (show x51.toInt < 400 by omega) dX12_isWord_46 (fun x52 c53 rx52 tx52 => ?_)
          have c53 : gi w34 1 (x51.toInt).toNat = x52 := (congrArg (gi w34 1) (congrArg Int.toNat (show x51.toInt = x51.toInt by omega))).trans c53
          refine lv_i2l hx hb dX12_isWord_47 rfl ?_
          refine lv_topl (fun x54 ex54 => ?_)
          have ex54 : x54.toInt = x52.toInt := by rw [ex54]; exact wk_i2l _
          have bx54 := wk_i32 x52
          refine lv_lor hx hb dX12_isWord_48 ?_
          refine lv_topl (fun x55 ex55 => ?_)
          refine lv_lstore_n (lv' := [(3, .long x55), (0, .ref (ad 0)), (1, .long 126943972648308), (5, .int v10_5)]) hx hb dX12_isWord_49 rfl hl (by decide) rfl (fun ls hl => ?_)
          exact J50 x55 H locs ls w34 (show 0 ≤ v10_5.toInt by omega) (show v10_5.toInt ≤ 399 by omega) (show 1 ≤ f10_0_1.toInt by omega) (show f10_0_1.toInt ≤ 400 by omega) (show 0 ≤ f10_0_14.toInt by omega) (show f10_0_14.toInt ≤ 399 by omega) (show (f10_0_14.toInt = f0_.toInt ∨ (gi w0 1 (f0_.toInt).toNat).toInt = 32) by first | omega | assumption | (left; omega) | (left; decide) | (right; assumption) | (right; rw [c53]; omega) | (right; rw [c53]; decide))  hw hT hF c42 c43 (lv_sub hl [1, 2, 0, 3] rfl)
  refine lv_aload_n hx hb dX12_isWord_0 rfl (lv_at hl 0 rfl) ?_
  refine tk_Vi hC hK hw hT hA hE hSR kM_at0 (by decide) rfl (k_X12_see_1 l adK adV dC dI cy ad B (by omega) (by omega) qr s1    w0 s.heap.size hT f0_ cf0_ (show 0 ≤ f0_.toInt by omega) (show f0_.toInt ≤ 400 by omega)) (cwV 0 hC.2.2.2.2 gX12_isWord_X12_see rfl rfl rfl (by decide +kernel) ⟨Nat.le_of_ble_eq_true rfl, Nat.le_of_ble_eq_true rfl⟩) rfl hl.1 rfl (Nat.le_of_ble_eq_true rfl) dX12_isWord_1 (fun r56 w58 H locs hp57 hw => ?_)
  obtain ⟨hT, k59, hg76⟩ := hp57
  have hF := hF.tr k59 (by decide)
  rcases hg76 with ⟨g60, g61, ⟨x62, c63, rx62, tx62⟩, ⟨x64, c65, rx64, tx64⟩, g66, g67⟩ | ⟨rfl, ⟨x68, c69, rx68, tx68⟩, ⟨x70, c71, rx70, tx70⟩, g72⟩ | ⟨rfl, ⟨x73, c74, rx73, tx73⟩, g75⟩
  · have g66 : (gi w58 1 (x64.toInt).toNat).toInt ≠ 32 := by have q := g66; simp only [c65] at q; omega
    have g67 : (x64.toInt = f0_.toInt ∨ (gi w0 1 (f0_.toInt).toNat).toInt = 32) := by have q := g67; simp only [cf0_, c65] at q; omega
    refine lv_pop hx hb dX12_isWord_4 rfl ?_
    refine lv_lconst (v := 0) hx hb dX12_isWord_5 (by decide) ?_
    refine lv_lstore_n (lv' := [(3, .long 0), (0, .ref (ad 0)), (1, .long 126943972648308)]) hx hb dX12_isWord_6 rfl hl (by decide) rfl (fun ls hl => ?_)
    refine lv_iconst (v := 0) hx hb dX12_isWord_7 (by decide) ?_
    refine lv_istore (lv' := [(5, .int 0), (3, .long 0), (0, .ref (ad 0)), (1, .long 126943972648308)]) hx hb dX12_isWord_8 hl (by decide) rfl (fun ls hl => ?_)
    exact L10 ((400 - (0 : Int)).toNat + 1) 0 0 x62 x64 H locs ls w58 (by decide) (by decide) (show 0 ≤ x62.toInt by omega) (show x62.toInt ≤ 400 by omega) (show 0 ≤ x64.toInt by omega) (show x64.toInt ≤ 400 by omega) (show (x64.toInt = f0_.toInt ∨ (gi w0 1 (f0_.toInt).toNat).toInt = 32) by first | omega | assumption | (left; omega) | (left; decide) | (right; assumption)) (Nat.lt_succ_self _) hw hT hF c63 c65 (lv_sub hl [2, 3, 1, 0] rfl)
  · have g72 : (x70.toInt = f0_.toInt ∨ (gi w0 1 (f0_.toInt).toNat).toInt = 32) := by have q := g72; simp only [cf0_, c71] at q; omega
    refine lv_pop hx hb dX12_isWord_4 rfl ?_
    refine lv_lconst (v := 0) hx hb dX12_isWord_5 (by decide) ?_
    refine lv_lstore_n (lv' := [(3, .long 0), (0, .ref (ad 0)), (1, .long 126943972648308)]) hx hb dX12_isWord_6 rfl hl (by decide) rfl (fun ls hl => ?_)
    refine lv_iconst (v := 0) hx hb dX12_isWord_7 (by decide) ?_
    refine lv_istore (lv' := [(5, .int 0), (3, .long 0), (0, .ref (ad 0)), (1, .long 126943972648308)]) hx hb dX12_isWord_8 hl (by decide) rfl (fun ls hl => ?_)
    exact L10 ((400 - (0 : Int)).toNat + 1) 0 0 x68 x70 H locs ls w58 (by decide) (by decide) (show 0 ≤ x68.toInt by omega) (show x68.toInt ≤ 400 by omega) (show 0 ≤ x70.toInt by omega) (show x70.toInt ≤ 400 by omega) (show (x70.toInt = f0_.toInt ∨ (gi w0 1 (f0_.toInt).toNat).toInt = 32) by first | omega | assumption | (left; omega) | (left; decide) | (right; assumption)) (Nat.lt_succ_self _) hw hT hF c69 c71 (lv_sub hl [2, 3, 1, 0] rfl)
  · obtain ⟨x77, c78, rx77, tx77⟩ := hT.rdi (lo := 0) (hi := 400) (k := 14) kM_at0 (by decide) rfl
    have g75 : (x77.toInt = f0_.toInt ∨ (gi w0 1 (f0_.toInt).toNat).toInt = 32) := by have q := g75; simp only [cf0_, c78] at q; omega
    refine lv_pop hx hb dX12_isWord_4 rfl ?_
    refine lv_lconst (v := 0) hx hb dX12_isWord_5 (by decide) ?_
    refine lv_lstore_n (lv' := [(3, .long 0), (0, .ref (ad 0)), (1, .long 126943972648308)]) hx hb dX12_isWord_6 rfl hl (by decide) rfl (fun ls hl => ?_)
    refine lv_iconst (v := 0) hx hb dX12_isWord_7 (by decide) ?_
    refine lv_istore (lv' := [(5, .int 0), (3, .long 0), (0, .ref (ad 0)), (1, .long 126943972648308)]) hx hb dX12_isWord_8 hl (by decide) rfl (fun ls hl => ?_)
    exact L10 ((400 - (0 : Int)).toNat + 1) 0 0 x73 x77 H locs ls w58 (by decide) (by decide) (show 0 ≤ x73.toInt by omega) (show x73.toInt ≤ 400 by omega) (show 0 ≤ x77.toInt by omega) (show x77.toInt ≤ 400 by omega) (show (x77.toInt = f0_.toInt ∨ (gi w0 1 (f0_.toInt).toNat).toInt = 32) by first | omega | assumption | (left; omega) | (left; decide) | (right; assumption)) (Nat.lt_succ_self _) hw hT hF c74 c78 (lv_sub hl [2, 3, 1, 0] rfl)
abbrev P_X12_isWord_3 (ad : Nat → Nat) (cy : Nat → ClassId) (B : Int) (qr : Nat) (s1 : Int)  (w0 : va_W) : Int32 → va_W → Prop := fun r u => TW ksM ad cy B qr 12 u ∧ FE ksM [(12, 14, 14)] w0 u ∧ ((r = 0 ∧ (∃ y : Int32, gi u 0 1 = y ∧ 0 ≤ y.toInt ∧ y.toInt ≤ 400) ∧ (((gi u 0 14).toInt = (gi w0 0 14).toInt ∨ (gi w0 1 ((gi w0 0 14).toInt).toNat).toInt = 32))) ∨ (r = 1 ∧ (∃ y : Int32, gi u 0 1 = y ∧ 0 ≤ y.toInt ∧ y.toInt ≤ 400) ∧ (((gi u 0 14).toInt = (gi w0 0 14).toInt ∨ (gi w0 1 ((gi w0 0 14).toInt).toNat).toInt = 32))))
set_option maxHeartbeats 4000000 in
set_option maxRecDepth 100000 in
theorem k_X12_isWord_3 (l : Launch) (adK adV : Nat → Nat) (dC : Nat → ClassId) (dI : Nat → Nat → Nat) (cy : Nat → ClassId) (ad : Nat → Nat) (B : Int) (hB0 : 100000 ≤ B) (hB1 : B ≤ 1073741824) (qr : Nat) (s1 : Int)   (w0 : va_W) (sz : Nat) (hT : TW ksM ad cy B qr 12 w0) (f0_ : Int32) (cf0_ : gi w0 0 14 = f0_) (rf0_ : 0 ≤ f0_.toInt) (tf0_ : f0_.toInt ≤ 400) : Met l yX12_isWord wsX12_isWord ({ frames := 2, cells := 0, slots := 0, locals := 33 }) (va_Pc [.ref (ad 0), .long 495555538548] (wpreS adK adV dC dI cy sz w0)) (va_Qi (P_X12_isWord_3 ad cy B qr s1  w0) (fun u : va_W => wpost dC dI cy (va_A w0 sz) u) (va_A w0 sz)) 0 0 (va_A w0 sz) := by
  refine Met.ofW (cc := cX12_isWord) (maxL := 6) (ret := (some .boolean)) (by decide) rfl ?_
  intro p e s m args below meth c s₁ Bk hml hv
  obtain ⟨rfl, ⟨hsz, hP, hK, hD0⟩, hE, hSR⟩ := hv
  have hx := Bk.exec
  have hb := Bk.bytes
  have hr := Bk.returns
  have hlocks := Bk.notSynchronized
  have hC : CallFix p m c cX12_isWord 6 s _ wsX12_isWord RX12 := ⟨hx, hb, hml, findClass_of_methodNamed Bk.named, atoms_spec (ws := wsX12_isWord) Bk.pre⟩
  subst hsz
  have hD := hD0.self (sz := s.heap.size)
  generalize hAe : va_A w0 s.heap.size = A at hD hE ⊢
  have hA : ∀ q : Nat, s.heap.size ≤ q → A q := fun q h => by rw [← hAe]; exact Or.inr h
  have hw : Wd dC dI A s.heap s.heap [] w0 := ⟨hP, hD, va_S.rf⟩
  have hF : FE ksM [(12, 14, 14)] w0 w0 := FE.rf
  have hl := lv_entry ([.ref (ad 0), .long 495555538548]) (n := 6) (Nat.le_of_ble_eq_true rfl)
  rw [lg_entry_eq]
  generalize (lg_sl ([.ref (ad 0), .long 495555538548]) ++ List.replicate (6 - (lg_sl ([.ref (ad 0), .long 495555538548])).length) Slot.unset).toArray = ls at hl ⊢
  have hl : lv_has ls 6 [(0, .ref (ad 0)), (1, .long 495555538548)] := hl
  generalize hloc : ([] : List Loc) = locs at hw ⊢
  have hinX12 : ∀ w ∈ u_ws RX12 TX12 42, w ∈ wsX12_isWord := fun _ h => List.mem_cons_of_mem _ (List.mem_append_right _ (h))
  have J78 : ∀ (v78_3 : Int64) (v78_5 : Int32) (f78_0_1 : Int32) (f78_0_14 : Int32) (H : Heap) (locs : List Loc) (ls : Array Slot) (w1 : va_W), 0 ≤ v78_5.toInt → v78_5.toInt ≤ 400 → 0 ≤ f78_0_1.toInt → f78_0_1.toInt ≤ 400 → 0 ≤ f78_0_14.toInt → f78_0_14.toInt ≤ 400 → (f78_0_14.toInt = f0_.toInt ∨ (gi w0 1 (f0_.toInt).toNat).toInt = 32) → Wd dC dI A s.heap H locs w1 → TW ksM ad cy B qr 12 w1 → FE ksM [(12, 14, 14)] w0 w1 → gi w1 0 1 = f78_0_1 → gi w1 0 14 = f78_0_14 → lv_has ls 6 [(0, .ref (ad 0)), (1, .long 495555538548), (3, .long v78_3), (5, .int v78_5)] → W p l e ({ frames := 2, cells := 0, slots := 0, locals := 33 }) s m (List.toArray [.ref (ad 0), .long 495555538548]) below meth c H locs 0 0 (MQ below (va_Qi (P_X12_isWord_3 ad cy B qr s1  w0) (fun u : va_W => wpost dC dI cy A u) A) (List.toArray [.ref (ad 0), .long 495555538548]) s 0 0 A) (F0 m 78 ls []) := by
    intro v78_3 v78_5 f78_0_1 f78_0_14 H locs ls w1 r2 t3 r4 t5 r7 t8 hcr78_0 hw hT hF c6 c9 hl
    refine lv_iconst (v := 0) hx hb dX12_isWord_78 (by decide) ?_
    exact tk_zret hC hr rfl hlocks hK ⟨hT, hF, (Or.inl ⟨rfl, ⟨f78_0_1, c6, (show 0 ≤ f78_0_1.toInt by omega), (show f78_0_1.toInt ≤ 400 by omega)⟩, (by simp only [cf0_, c9]; omega)⟩)⟩ hw dX12_isWord_79
  have L10 : ∀ (n10 : Nat) (v10_3 : Int64) (v10_5 : Int32) (f10_0_1 : Int32) (f10_0_14 : Int32) (H : Heap) (locs : List Loc) (ls : Array Slot) (w10 : va_W), 0 ≤ v10_5.toInt → v10_5.toInt ≤ 400 → 0 ≤ f10_0_1.toInt → f10_0_1.toInt ≤ 400 → 0 ≤ f10_0_14.toInt → f10_0_14.toInt ≤ 400 → (f10_0_14.toInt = f0_.toInt ∨ (gi w0 1 (f0_.toInt).toNat).toInt = 32) → (400 - v10_5.toInt).toNat < n10 → Wd dC dI A s.heap H locs w10 → TW ksM ad cy B qr 12 w10 → FE ksM [(12, 14, 14)] w0 w10 → gi w10 0 1 = f10_0_1 → gi w10 0 14 = f10_0_14 → lv_has ls 6 [(0, .ref (ad 0)), (1, .long 495555538548), (3, .long v10_3), (5, .int v10_5)] → W p l e ({ frames := 2, cells := 0, slots := 0, locals := 33 }) s m (List.toArray [.ref (ad 0), .long 495555538548]) below meth c H locs 0 0 (MQ below (va_Qi (P_X12_isWord_3 ad cy B qr s1  w0) (fun u : va_W => wpost dC dI cy A u) A) (List.toArray [.ref (ad 0), .long 495555538548]) s 0 0 A) (F0 m 10 ls []) := by
    intro n10
    induction n10 with
    | zero => intro v10_3 v10_5 f10_0_1 f10_0_14 H locs ls w10 r11 t12 r13 t14 r16 t17 hcr10_0 hm10 hw hT hF c15 c18 hl; omega
    | succ n10 ih10 =>
      intro v10_3 v10_5 f10_0_1 f10_0_14 H locs ls w10 r11 t12 r13 t14 r16 t17 hcr10_0 hm10 hw hT hF c15 c18 hl
      have J50 : ∀ (v50_3 : Int64) (H : Heap) (locs : List Loc) (ls : Array Slot) (w19 : va_W), 0 ≤ v10_5.toInt → v10_5.toInt ≤ 399 → 1 ≤ f10_0_1.toInt → f10_0_1.toInt ≤ 400 → 0 ≤ f10_0_14.toInt → f10_0_14.toInt ≤ 399 → (f10_0_14.toInt = f0_.toInt ∨ (gi w0 1 (f0_.toInt).toNat).toInt = 32) → Wd dC dI A s.heap H locs w19 → TW ksM ad cy B qr 12 w19 → FE ksM [(12, 14, 14)] w0 w19 → gi w19 0 1 = f10_0_1 → gi w19 0 14 = f10_0_14 → lv_has ls 6 [(0, .ref (ad 0)), (1, .long 495555538548), (3, .long v50_3), (5, .int v10_5)] → W p l e ({ frames := 2, cells := 0, slots := 0, locals := 33 }) s m (List.toArray [.ref (ad 0), .long 495555538548]) below meth c H locs 0 0 (MQ below (va_Qi (P_X12_isWord_3 ad cy B qr s1  w0) (fun u : va_W => wpost dC dI cy A u) A) (List.toArray [.ref (ad 0), .long 495555538548]) s 0 0 A) (F0 m 50 ls []) := by
        intro v50_3 H locs ls w19 r20 t21 r22 t23 r25 t26 hcr50_0 hw hT hF c24 c27 hl
        obtain ⟨x28, ex28⟩ : ∃ y : Int32, y = v10_5 + Int32.ofInt 1 := ⟨_, rfl⟩
        refine lv_iinc (v := x28) (lv' := [(5, .int x28), (0, .ref (ad 0)), (1, .long 495555538548), (3, .long v50_3)]) hx hb dX12_isWord_50 hl (k := 3) rfl ex28.symm (by decide) rfl (fun ls hl => ?_)
        have ex28 : x28.toInt = v10_5.toInt + 1 := by rw [ex28]; exact wk_add (y := 1) (show -2147483648 ≤ v10_5.toInt + 1 by omega) (show v10_5.toInt + 1 ≤ 2147483647 by omega)
        refine lv_goto (tgt := 10) hx hb dX12_isWord_53 (by decide) ?_
        exact ih10 v50_3 x28 f10_0_1 f10_0_14 H locs ls w19 (show 0 ≤ x28.toInt by omega) (show x28.toInt ≤ 400 by omega) (show 0 ≤ f10_0_1.toInt by omega) (show f10_0_1.toInt ≤ 400 by omega) (show 0 ≤ f10_0_14.toInt by omega) (show f10_0_14.toInt ≤ 400 by omega) (show (f10_0_14.toInt = f0_.toInt ∨ (gi w0 1 (f0_.toInt).toNat).toInt = 32) by first | omega | assumption | (left; omega) | (left; decide) | (right; assumption)) (show (400 - x28.toInt).toNat < n10 by omega) hw hT hF c24 c27 (lv_sub hl [1, 2, 3, 0] rfl)
      refine lv_aload_n hx hb dX12_isWord_10 rfl (lv_at hl 0 rfl) ?_
      refine lv_aload_n hx hb dX12_isWord_11 rfl (lv_at hl 0 rfl) ?_
      refine tk_geti hC hK hw hT hinX12 kM_at0 (by decide) rfl 14 (by decide) (List.mem_of_getElem? (i := 1) rfl) rfl rfl dX12_isWord_12 (fun x29 c30 rx29 tx29 => ?_)
      refine wk_top f10_0_14 (c30.symm.trans c18) ?_
      refine lv_iload hx hb dX12_isWord_15 (lv_at hl 3 rfl) ?_
      refine lv_iadd hx hb dX12_isWord_17 ?_
      refine lv_topi (fun x31 ex31 => ?_)
      have ex31 : x31.toInt = f10_0_14.toInt + v10_5.toInt := by rw [ex31]; exact wk_add (show (-2147483648) ≤ f10_0_14.toInt + v10_5.toInt by omega) (show f10_0_14.toInt + v10_5.toInt ≤ 2147483647 by omega)
      refine tk_Vi hC hK hw hT hA hE hSR kM_at0 (by decide) rfl (k_X12_isLetter_1 l adK adV dC dI cy ad B (by omega) (by omega) qr s1   x31 (show 0 ≤ x31.toInt by omega) (show x31.toInt ≤ 800 by omega) w10 H.size hT ) (cwV 1 hC.2.2.2.2 gX12_isWord_X12_isLetter rfl rfl rfl (by decide +kernel) ⟨Nat.le_of_ble_eq_true rfl, Nat.le_of_ble_eq_true rfl⟩) rfl hl.1 rfl (Nat.le_of_ble_eq_true rfl) dX12_isWord_18 (fun r32 w34 H locs hp33 hw => ?_)
      obtain ⟨hT, k35, hg41⟩ := hp33
      have hF := hF.tr k35 (by decide)
      have c42 := k35.gi kM_at0 (by decide) c15
      have c43 := k35.gi kM_at0 (by decide) c18
      rcases hg41 with ⟨rfl, ⟨x36, c37, rx36, tx36⟩⟩ | ⟨rfl, g38, ⟨x39, c40, rx39, tx39⟩⟩
      · have ex36 : x36.toInt = f10_0_1.toInt := by rw [← c42.symm.trans c37]
        refine lv_if_eq (tgt := 56) hx hb dX12_isWord_21 (by decide) (fun _ => ?_) (fun c => absurd (by decide) c)
        refine lv_iload hx hb dX12_isWord_56 (lv_at hl 3 rfl) ?_
        refine lv_if_le (tgt := 78) hx hb dX12_isWord_58 (by decide) (fun c44 => ?_) (fun c44 => ?_)
        · have c44 : v10_5.toInt ≤ (0 : Int) := wk_le.mp c44
          exact J78 v10_3 v10_5 f10_0_1 f10_0_14 H locs ls w34 (show 0 ≤ v10_5.toInt by omega) (show v10_5.toInt ≤ 400 by omega) (show 0 ≤ f10_0_1.toInt by omega) (show f10_0_1.toInt ≤ 400 by omega) (show 0 ≤ f10_0_14.toInt by omega) (show f10_0_14.toInt ≤ 400 by omega) (show (f10_0_14.toInt = f0_.toInt ∨ (gi w0 1 (f0_.toInt).toNat).toInt = 32) by first | omega | assumption | (left; omega) | (left; decide) | (right; assumption))  hw hT hF c42 c43 (lv_sub hl [0, 1, 2, 3] rfl)
        · have c44 : (0 : Int) < v10_5.toInt := wk_leF c44
          refine lv_iload hx hb dX12_isWord_61 (lv_at hl 3 rfl) ?_
          refine lv_bipush (v := 8) hx hb dX12_isWord_63 (by decide) ?_
          refine lv_icmp_ge (tgt := 78) hx hb dX12_isWord_65 (by decide) (fun c45 => ?_) (fun c45 => ?_)
          · have c45 : (8 : Int) ≤ v10_5.toInt := wk_le.mp c45
            exact J78 v10_3 v10_5 f10_0_1 f10_0_14 H locs ls w34 (show 0 ≤ v10_5.toInt by omega) (show v10_5.toInt ≤ 400 by omega) (show 0 ≤ f10_0_1.toInt by omega) (show f10_0_1.toInt ≤ 400 by omega) (show 0 ≤ f10_0_14.toInt by omega) (show f10_0_14.toInt ≤ 400 by omega) (show (f10_0_14.toInt = f0_.toInt ∨ (gi w0 1 (f0_.toInt).toNat).toInt = 32) by first | omega | assumption | (left; omega) | (left; decide) | (right; assumption))  hw hT hF c42 c43 (lv_sub hl [0, 1, 2, 3] rfl)
          · have c45 : v10_5.toInt < (8 : Int) := wk_leF c45
            refine lv_lload_n hx hb dX12_isWord_68 rfl (lv_at hl 2 rfl) ?_
            refine lv_lload_n hx hb dX12_isWord_69 rfl (lv_at hl 1 rfl) ?_
            refine W.lcmp hx hb dX12_isWord_70 ?_
            refine lv_if_ne (tgt := 78) hx hb dX12_isWord_71 (by decide) (fun c46 => ?_) (fun c46 => ?_)
            · have c46 : ¬ v10_3.toInt = (495555538548 : Int) := wk_ceF c46
              exact J78 v10_3 v10_5 f10_0_1 f10_0_14 H locs ls w34 (show 0 ≤ v10_5.toInt by omega) (show v10_5.toInt ≤ 400 by omega) (show 0 ≤ f10_0_1.toInt by omega) (show f10_0_1.toInt ≤ 400 by omega) (show 0 ≤ f10_0_14.toInt by omega) (show f10_0_14.toInt ≤ 400 by omega) (show (f10_0_14.toInt = f0_.toInt ∨ (gi w0 1 (f0_.toInt).toNat).toInt = 32) by first | omega | assumption | (left; omega) | (left; decide) | (right; assumption))  hw hT hF c42 c43 (lv_sub hl [0, 1, 2, 3] rfl)
            · have c46 : v10_3.toInt = (495555538548 : Int) := wk_ceT c46
              refine lv_iconst (v := 1) hx hb dX12_isWord_74 (by decide) ?_
              refine lv_goto (tgt := 79) hx hb dX12_isWord_75 (by decide) ?_
              exact tk_zret hC hr rfl hlocks hK ⟨hT, hF, (Or.inr ⟨rfl, ⟨f10_0_1, c42, (show 0 ≤ f10_0_1.toInt by omega), (show f10_0_1.toInt ≤ 400 by omega)⟩, (by simp only [cf0_, c43]; omega)⟩)⟩ hw dX12_isWord_79
      · have ex39 : x39.toInt = f10_0_1.toInt := by rw [← c42.symm.trans c40]
        refine lv_if_eq (tgt := 56) hx hb dX12_isWord_21 (by decide) (fun c => absurd c (by decide)) (fun _ => ?_)
        refine lv_iload hx hb dX12_isWord_24 (lv_at hl 3 rfl) ?_
        refine lv_bipush (v := 8) hx hb dX12_isWord_26 (by decide) ?_
        refine lv_icmp_ge (tgt := 50) hx hb dX12_isWord_28 (by decide) (fun c47 => ?_) (fun c47 => ?_)
        · have c47 : (8 : Int) ≤ v10_5.toInt := wk_le.mp c47
          exact J50 v10_3 H locs ls w34 (show 0 ≤ v10_5.toInt by omega) (show v10_5.toInt ≤ 399 by omega) (show 1 ≤ f10_0_1.toInt by omega) (show f10_0_1.toInt ≤ 400 by omega) (show 0 ≤ f10_0_14.toInt by omega) (show f10_0_14.toInt ≤ 399 by omega) (show (f10_0_14.toInt = f0_.toInt ∨ (gi w0 1 (f0_.toInt).toNat).toInt = 32) by first | omega | assumption | (left; omega) | (left; decide) | (right; assumption))  hw hT hF c42 c43 (lv_sub hl [0, 1, 2, 3] rfl)
        · have c47 : v10_5.toInt < (8 : Int) := wk_leF c47
          refine lv_lload_n hx hb dX12_isWord_31 rfl (lv_at hl 2 rfl) ?_
          refine lv_bipush (v := 8) hx hb dX12_isWord_32 (by decide) ?_
          refine lv_lshl hx hb dX12_isWord_34 rfl ?_
          refine lv_topl (fun x48 ex48 => ?_)
          refine lv_aload_n hx hb dX12_isWord_35 rfl (lv_at hl 0 rfl) ?_
          refine tk_getA hC hK hw hT hinX12 kM_at0 (by decide) rfl 0 (by decide) (List.mem_of_getElem? (i := 2) rfl) rfl rfl dX12_isWord_36 ?_
          refine lv_aload_n hx hb dX12_isWord_39 rfl (lv_at hl 0 rfl) ?_
          refine tk_geti hC hK hw hT hinX12 kM_at0 (by decide) rfl 14 (by decide) (List.mem_of_getElem? (i := 1) rfl) rfl rfl dX12_isWord_40 (fun x49 c50 rx49 tx49 => ?_)
          refine wk_top f10_0_14 (c50.symm.trans c43) ?_
          refine lv_iload hx hb dX12_isWord_43 (lv_at hl 3 rfl) ?_
          refine lv_iadd hx hb dX12_isWord_45 ?_
          refine lv_topi (fun x51 ex51 => ?_)
          have ex51 : x51.toInt = f10_0_14.toInt + v10_5.toInt := by rw [ex51]; exact wk_add (show (-2147483648) ≤ f10_0_14.toInt + v10_5.toInt by omega) (show f10_0_14.toInt + v10_5.toInt ≤ 2147483647 by omega)
          refine tk_bald hC hK hw hT kM_at1 rfl rfl (show 0 ≤ x51.toInt by omega) (show x51.toInt < 400 by omega) dX12_isWord_46 (fun x52 c53 rx52 tx52 => ?_)
          have c53 : gi w34 1 (x51.toInt).toNat = x52 := (congrArg (gi w34 1) (congrArg Int.toNat (show x51.toInt = x51.toInt by omega))).trans c53
          refine lv_i2l hx hb dX12_isWord_47 rfl ?_
          refine lv_topl (fun x54 ex54 => ?_)
          have ex54 : x54.toInt = x52.toInt := by rw [ex54]; exact wk_i2l _
          have bx54 := wk_i32 x52
          refine lv_lor hx hb dX12_isWord_48 ?_
          refine lv_topl (fun x55 ex55 => ?_)
          refine lv_lstore_n (lv' := [(3, .long x55), (0, .ref (ad 0)), (1, .long 495555538548), (5, .int v10_5)]) hx hb dX12_isWord_49 rfl hl (by decide) rfl (fun ls hl => ?_)
          exact J50 x55 H locs ls w34 (show 0 ≤ v10_5.toInt by omega) (show v10_5.toInt ≤ 399 by omega) (show 1 ≤ f10_0_1.toInt by omega) (show f10_0_1.toInt ≤ 400 by omega) (show 0 ≤ f10_0_14.toInt by omega) (show f10_0_14.toInt ≤ 399 by omega) (show (f10_0_14.toInt = f0_.toInt ∨ (gi w0 1 (f0_.toInt).toNat).toInt = 32) by first | omega | assumption | (left; omega) | (left; decide) | (right; assumption) | (right; rw [c53]; omega) | (right; rw [c53]; decide))  hw hT hF c42 c43 (lv_sub hl [1, 2, 0, 3] rfl)
  refine lv_aload_n hx hb dX12_isWord_0 rfl (lv_at hl 0 rfl) ?_
  refine tk_Vi hC hK hw hT hA hE hSR kM_at0 (by decide) rfl (k_X12_see_1 l adK adV dC dI cy ad B (by omega) (by omega) qr s1    w0 s.heap.size hT f0_ cf0_ (show 0 ≤ f0_.toInt by omega) (show f0_.toInt ≤ 400 by omega)) (cwV 0 hC.2.2.2.2 gX12_isWord_X12_see rfl rfl rfl (by decide +kernel) ⟨Nat.le_of_ble_eq_true rfl, Nat.le_of_ble_eq_true rfl⟩) rfl hl.1 rfl (Nat.le_of_ble_eq_true rfl) dX12_isWord_1 (fun r56 w58 H locs hp57 hw => ?_)
  obtain ⟨hT, k59, hg76⟩ := hp57
  have hF := hF.tr k59 (by decide)
  rcases hg76 with ⟨g60, g61, ⟨x62, c63, rx62, tx62⟩, ⟨x64, c65, rx64, tx64⟩, g66, g67⟩ | ⟨rfl, ⟨x68, c69, rx68, tx68⟩, ⟨x70, c71, rx70, tx70⟩, g72⟩ | ⟨rfl, ⟨x73, c74, rx73, tx73⟩, g75⟩
  · have g66 : (gi w58 1 (x64.toInt).toNat).toInt ≠ 32 := by have q := g66; simp only [c65] at q; omega
    have g67 : (x64.toInt = f0_.toInt ∨ (gi w0 1 (f0_.toInt).toNat).toInt = 32) := by have q := g67; simp only [cf0_, c65] at q; omega
    refine lv_pop hx hb dX12_isWord_4 rfl ?_
    refine lv_lconst (v := 0) hx hb dX12_isWord_5 (by decide) ?_
    refine lv_lstore_n (lv' := [(3, .long 0), (0, .ref (ad 0)), (1, .long 495555538548)]) hx hb dX12_isWord_6 rfl hl (by decide) rfl (fun ls hl => ?_)
    refine lv_iconst (v := 0) hx hb dX12_isWord_7 (by decide) ?_
    refine lv_istore (lv' := [(5, .int 0), (3, .long 0), (0, .ref (ad 0)), (1, .long 495555538548)]) hx hb dX12_isWord_8 hl (by decide) rfl (fun ls hl => ?_)
    exact L10 ((400 - (0 : Int)).toNat + 1) 0 0 x62 x64 H locs ls w58 (by decide) (by decide) (show 0 ≤ x62.toInt by omega) (show x62.toInt ≤ 400 by omega) (show 0 ≤ x64.toInt by omega) (show x64.toInt ≤ 400 by omega) (show (x64.toInt = f0_.toInt ∨ (gi w0 1 (f0_.toInt).toNat).toInt = 32) by first | omega | assumption | (left; omega) | (left; decide) | (right; assumption)) (Nat.lt_succ_self _) hw hT hF c63 c65 (lv_sub hl [2, 3, 1, 0] rfl)
  · have g72 : (x70.toInt = f0_.toInt ∨ (gi w0 1 (f0_.toInt).toNat).toInt = 32) := by have q := g72; simp only [cf0_, c71] at q; omega
    refine lv_pop hx hb dX12_isWord_4 rfl ?_
    refine lv_lconst (v := 0) hx hb dX12_isWord_5 (by decide) ?_
    refine lv_lstore_n (lv' := [(3, .long 0), (0, .ref (ad 0)), (1, .long 495555538548)]) hx hb dX12_isWord_6 rfl hl (by decide) rfl (fun ls hl => ?_)
    refine lv_iconst (v := 0) hx hb dX12_isWord_7 (by decide) ?_
    refine lv_istore (lv' := [(5, .int 0), (3, .long 0), (0, .ref (ad 0)), (1, .long 495555538548)]) hx hb dX12_isWord_8 hl (by decide) rfl (fun ls hl => ?_)
    exact L10 ((400 - (0 : Int)).toNat + 1) 0 0 x68 x70 H locs ls w58 (by decide) (by decide) (show 0 ≤ x68.toInt by omega) (show x68.toInt ≤ 400 by omega) (show 0 ≤ x70.toInt by omega) (show x70.toInt ≤ 400 by omega) (show (x70.toInt = f0_.toInt ∨ (gi w0 1 (f0_.toInt).toNat).toInt = 32) by first | omega | assumption | (left; omega) | (left; decide) | (right; assumption)) (Nat.lt_succ_self _) hw hT hF c69 c71 (lv_sub hl [2, 3, 1, 0] rfl)
  · obtain ⟨x77, c78, rx77, tx77⟩ := hT.rdi (lo := 0) (hi := 400) (k := 14) kM_at0 (by decide) rfl
    have g75 : (x77.toInt = f0_.toInt ∨ (gi w0 1 (f0_.toInt).toNat).toInt = 32) := by have q := g75; simp only [cf0_, c78] at q; omega
    refine lv_pop hx hb dX12_isWord_4 rfl ?_
    refine lv_lconst (v := 0) hx hb dX12_isWord_5 (by decide) ?_
    refine lv_lstore_n (lv' := [(3, .long 0), (0, .ref (ad 0)), (1, .long 495555538548)]) hx hb dX12_isWord_6 rfl hl (by decide) rfl (fun ls hl => ?_)
    refine lv_iconst (v := 0) hx hb dX12_isWord_7 (by decide) ?_
    refine lv_istore (lv' := [(5, .int 0), (3, .long 0), (0, .ref (ad 0)), (1, .long 495555538548)]) hx hb dX12_isWord_8 hl (by decide) rfl (fun ls hl => ?_)
    exact L10 ((400 - (0 : Int)).toNat + 1) 0 0 x73 x77 H locs ls w58 (by decide) (by decide) (show 0 ≤ x73.toInt by omega) (show x73.toInt ≤ 400 by omega) (show 0 ≤ x77.toInt by omega) (show x77.toInt ≤ 400 by omega) (show (x77.toInt = f0_.toInt ∨ (gi w0 1 (f0_.toInt).toNat).toInt = 32) by first | omega | assumption | (left; omega) | (left; decide) | (right; assumption)) (Nat.lt_succ_self _) hw hT hF c74 c78 (lv_sub hl [2, 3, 1, 0] rfl)
abbrev P_X12_isLetter_2 (ad : Nat → Nat) (cy : Nat → ClassId) (B : Int) (qr : Nat) (s1 : Int) (a1 : Int32) (w0 : va_W) : Int32 → va_W → Prop := fun r u => TW ksM ad cy B qr 12 u ∧ FE ksM ([] : List (Nat × Nat × Nat)) w0 u ∧ ((r = 0 ∧ (∃ y : Int32, gi u 0 1 = y ∧ 0 ≤ y.toInt ∧ y.toInt ≤ 400)) ∨ (r = 1 ∧ a1.toInt ≤ 399 ∧ (∃ y : Int32, gi u 0 1 = y ∧ 2 ≤ y.toInt ∧ y.toInt ≤ 400)))
set_option maxHeartbeats 4000000 in
set_option maxRecDepth 100000 in
theorem k_X12_isLetter_2 (l : Launch) (adK adV : Nat → Nat) (dC : Nat → ClassId) (dI : Nat → Nat → Nat) (cy : Nat → ClassId) (ad : Nat → Nat) (B : Int) (hB0 : 100000 ≤ B) (hB1 : B ≤ 1073741824) (qr : Nat) (s1 : Int)  (a1 : Int32) (ra1 : 1 ≤ a1.toInt) (ta1 : a1.toInt ≤ 400) (w0 : va_W) (sz : Nat) (hT : TW ksM ad cy B qr 12 w0)  : Met l yX12_isLetter wsX12_isLetter ({ frames := 1, cells := 0, slots := 0, locals := 12 }) (va_Pc [.ref (ad 0), .int a1] (wpreS adK adV dC dI cy sz w0)) (va_Qi (P_X12_isLetter_2 ad cy B qr s1 a1 w0) (fun u : va_W => wpost dC dI cy (va_A w0 sz) u) (va_A w0 sz)) 0 0 (va_A w0 sz) := by
  refine Met.ofW (cc := cX12_isLetter) (maxL := 2) (ret := (some .boolean)) (by decide) rfl ?_
  intro p e s m args below meth c s₁ Bk hml hv
  obtain ⟨rfl, ⟨hsz, hP, hK, hD0⟩, hE, hSR⟩ := hv
  have hx := Bk.exec
  have hb := Bk.bytes
  have hr := Bk.returns
  have hlocks := Bk.notSynchronized
  have hC : CallFix p m c cX12_isLetter 2 s _ wsX12_isLetter RX12 := ⟨hx, hb, hml, findClass_of_methodNamed Bk.named, atoms_spec (ws := wsX12_isLetter) Bk.pre⟩
  subst hsz
  have hD := hD0.self (sz := s.heap.size)
  generalize hAe : va_A w0 s.heap.size = A at hD hE ⊢
  have hA : ∀ q : Nat, s.heap.size ≤ q → A q := fun q h => by rw [← hAe]; exact Or.inr h
  have hw : Wd dC dI A s.heap s.heap [] w0 := ⟨hP, hD, va_S.rf⟩
  have hF : FE ksM ([] : List (Nat × Nat × Nat)) w0 w0 := FE.rf
  have hl := lv_entry ([.ref (ad 0), .int a1]) (n := 2) (Nat.le_of_ble_eq_true rfl)
  rw [lg_entry_eq]
  generalize (lg_sl ([.ref (ad 0), .int a1]) ++ List.replicate (2 - (lg_sl ([.ref (ad 0), .int a1])).length) Slot.unset).toArray = ls at hl ⊢
  have hl : lv_has ls 2 [(0, .ref (ad 0)), (1, .int a1)] := hl
  generalize hloc : ([] : List Loc) = locs at hw ⊢
  have hinX12 : ∀ w ∈ u_ws RX12 TX12 42, w ∈ wsX12_isLetter := fun _ h => List.mem_cons_of_mem _ (List.mem_append_right _ (h))
  have J34 : ∀ (f34_0_1 : Int32) (H : Heap) (locs : List Loc) (ls : Array Slot) (w1 : va_W), 1 ≤ a1.toInt → a1.toInt ≤ 400 → 0 ≤ f34_0_1.toInt → f34_0_1.toInt ≤ 400 → Wd dC dI A s.heap H locs w1 → TW ksM ad cy B qr 12 w1 → FE ksM ([] : List (Nat × Nat × Nat)) w0 w1 → gi w1 0 1 = f34_0_1 → lv_has ls 2 [(0, .ref (ad 0)), (1, .int a1)] → W p l e ({ frames := 1, cells := 0, slots := 0, locals := 12 }) s m (List.toArray [.ref (ad 0), .int a1]) below meth c H locs 0 0 (MQ below (va_Qi (P_X12_isLetter_2 ad cy B qr s1 a1 w0) (fun u : va_W => wpost dC dI cy A u) A) (List.toArray [.ref (ad 0), .int a1]) s 0 0 A) (F0 m 34 ls []) := by
    intro f34_0_1 H locs ls w1 r2 t3 r4 t5 hw hT hF c6 hl
    refine lv_iconst (v := 0) hx hb dX12_isLetter_34 (by decide) ?_
    exact tk_zret hC hr rfl hlocks hK ⟨hT, hF, (Or.inl ⟨rfl, ⟨f34_0_1, c6, (show 0 ≤ f34_0_1.toInt by omega), (show f34_0_1.toInt ≤ 400 by omega)⟩⟩)⟩ hw dX12_isLetter_35
  refine lv_iload_n hx hb dX12_isLetter_0 rfl (lv_at hl 1 rfl) ?_
  refine lv_aload_n hx hb dX12_isLetter_1 rfl (lv_at hl 0 rfl) ?_
  refine tk_geti hC hK hw hT hinX12 kM_at0 (by decide) rfl 1 (by decide) (List.mem_of_getElem? (i := 1) rfl) rfl rfl dX12_isLetter_2 (fun x7 c8 rx7 tx7 => ?_)
  refine lv_icmp_ge (tgt := 34) hx hb dX12_isLetter_5 (by decide) (fun c9 => ?_) (fun c9 => ?_)
  · have c9 : x7.toInt ≤ a1.toInt := wk_le.mp c9
    exact J34 x7 s.heap locs ls w0 (show 1 ≤ a1.toInt by omega) (show a1.toInt ≤ 400 by omega) (show 0 ≤ x7.toInt by omega) (show x7.toInt ≤ 400 by omega)  hw hT hF c8 (lv_sub hl [0, 1] rfl)
  · have c9 : a1.toInt < x7.toInt := wk_leF c9
    refine lv_aload_n hx hb dX12_isLetter_8 rfl (lv_at hl 0 rfl) ?_
    refine tk_getA hC hK hw hT hinX12 kM_at0 (by decide) rfl 0 (by decide) (List.mem_of_getElem? (i := 2) rfl) rfl rfl dX12_isLetter_9 ?_
    refine lv_iload_n hx hb dX12_isLetter_12 rfl (lv_at hl 1 rfl) ?_
    refine tk_bald hC hK hw hT kM_at1 rfl rfl (show 0 ≤ a1.toInt by omega) (show a1.toInt < 400 by omega) dX12_isLetter_13 (fun x10 c11 rx10 tx10 => ?_)
    have c11 : gi w0 1 (a1.toInt).toNat = x10 := (congrArg (gi w0 1) (congrArg Int.toNat (show a1.toInt = a1.toInt by omega))).trans c11
    refine lv_bipush (v := 97) hx hb dX12_isLetter_14 (by decide) ?_
    refine lv_icmp_lt (tgt := 34) hx hb dX12_isLetter_16 (by decide) (fun c12 => ?_) (fun c12 => ?_)
    · have c12 : x10.toInt < (97 : Int) := wk_lt.mp c12
      exact J34 x7 s.heap locs ls w0 (show 1 ≤ a1.toInt by omega) (show a1.toInt ≤ 400 by omega) (show 0 ≤ x7.toInt by omega) (show x7.toInt ≤ 400 by omega)  hw hT hF c8 (lv_sub hl [0, 1] rfl)
    · have c12 : (97 : Int) ≤ x10.toInt := wk_ltF c12
      refine lv_aload_n hx hb dX12_isLetter_19 rfl (lv_at hl 0 rfl) ?_
      refine tk_getA hC hK hw hT hinX12 kM_at0 (by decide) rfl 0 (by decide) (List.mem_of_getElem? (i := 2) rfl) rfl rfl dX12_isLetter_20 ?_
      refine lv_iload_n hx hb dX12_isLetter_23 rfl (lv_at hl 1 rfl) ?_
      refine tk_bald hC hK hw hT kM_at1 rfl rfl (show 0 ≤ a1.toInt by omega) (show a1.toInt < 400 by omega) dX12_isLetter_24 (fun x13 c14 rx13 tx13 => ?_)
      have c14 : gi w0 1 (a1.toInt).toNat = x13 := (congrArg (gi w0 1) (congrArg Int.toNat (show a1.toInt = a1.toInt by omega))).trans c14
      refine wk_top x10 (c14.symm.trans c11) ?_
      refine lv_bipush (v := 122) hx hb dX12_isLetter_25 (by decide) ?_
      refine lv_icmp_gt (tgt := 34) hx hb dX12_isLetter_27 (by decide) (fun c15 => ?_) (fun c15 => ?_)
      · have c15 : (122 : Int) < x10.toInt := wk_lt.mp c15
        exact J34 x7 s.heap locs ls w0 (show 1 ≤ a1.toInt by omega) (show a1.toInt ≤ 400 by omega) (show 0 ≤ x7.toInt by omega) (show x7.toInt ≤ 400 by omega)  hw hT hF c8 (lv_sub hl [0, 1] rfl)
      · have c15 : x10.toInt ≤ (122 : Int) := wk_ltF c15
        refine lv_iconst (v := 1) hx hb dX12_isLetter_30 (by decide) ?_
        refine lv_goto (tgt := 35) hx hb dX12_isLetter_31 (by decide) ?_
        exact tk_zret hC hr rfl hlocks hK ⟨hT, hF, (Or.inr ⟨rfl, (show a1.toInt ≤ 399 by omega), ⟨x7, c8, (show 2 ≤ x7.toInt by omega), (show x7.toInt ≤ 400 by omega)⟩⟩)⟩ hw dX12_isLetter_35
abbrev P_X12_isLetter_3 (ad : Nat → Nat) (cy : Nat → ClassId) (B : Int) (qr : Nat) (s1 : Int) (a1 : Int32) (w0 : va_W) : Int32 → va_W → Prop := fun r u => TW ksM ad cy B qr 12 u ∧ FE ksM ([] : List (Nat × Nat × Nat)) w0 u ∧ ((r = 0 ∧ (∃ y : Int32, gi u 0 1 = y ∧ 0 ≤ y.toInt ∧ y.toInt ≤ 400)) ∨ (r = 1 ∧ a1.toInt ≤ 399 ∧ (∃ y : Int32, gi u 0 1 = y ∧ 1 ≤ y.toInt ∧ y.toInt ≤ 400)))
set_option maxHeartbeats 4000000 in
set_option maxRecDepth 100000 in
theorem k_X12_isLetter_3 (l : Launch) (adK adV : Nat → Nat) (dC : Nat → ClassId) (dI : Nat → Nat → Nat) (cy : Nat → ClassId) (ad : Nat → Nat) (B : Int) (hB0 : 100000 ≤ B) (hB1 : B ≤ 1073741824) (qr : Nat) (s1 : Int)  (a1 : Int32) (ra1 : 0 ≤ a1.toInt) (ta1 : a1.toInt ≤ 400) (w0 : va_W) (sz : Nat) (hT : TW ksM ad cy B qr 12 w0)  : Met l yX12_isLetter wsX12_isLetter ({ frames := 1, cells := 0, slots := 0, locals := 12 }) (va_Pc [.ref (ad 0), .int a1] (wpreS adK adV dC dI cy sz w0)) (va_Qi (P_X12_isLetter_3 ad cy B qr s1 a1 w0) (fun u : va_W => wpost dC dI cy (va_A w0 sz) u) (va_A w0 sz)) 0 0 (va_A w0 sz) := by
  refine Met.ofW (cc := cX12_isLetter) (maxL := 2) (ret := (some .boolean)) (by decide) rfl ?_
  intro p e s m args below meth c s₁ Bk hml hv
  obtain ⟨rfl, ⟨hsz, hP, hK, hD0⟩, hE, hSR⟩ := hv
  have hx := Bk.exec
  have hb := Bk.bytes
  have hr := Bk.returns
  have hlocks := Bk.notSynchronized
  have hC : CallFix p m c cX12_isLetter 2 s _ wsX12_isLetter RX12 := ⟨hx, hb, hml, findClass_of_methodNamed Bk.named, atoms_spec (ws := wsX12_isLetter) Bk.pre⟩
  subst hsz
  have hD := hD0.self (sz := s.heap.size)
  generalize hAe : va_A w0 s.heap.size = A at hD hE ⊢
  have hA : ∀ q : Nat, s.heap.size ≤ q → A q := fun q h => by rw [← hAe]; exact Or.inr h
  have hw : Wd dC dI A s.heap s.heap [] w0 := ⟨hP, hD, va_S.rf⟩
  have hF : FE ksM ([] : List (Nat × Nat × Nat)) w0 w0 := FE.rf
  have hl := lv_entry ([.ref (ad 0), .int a1]) (n := 2) (Nat.le_of_ble_eq_true rfl)
  rw [lg_entry_eq]
  generalize (lg_sl ([.ref (ad 0), .int a1]) ++ List.replicate (2 - (lg_sl ([.ref (ad 0), .int a1])).length) Slot.unset).toArray = ls at hl ⊢
  have hl : lv_has ls 2 [(0, .ref (ad 0)), (1, .int a1)] := hl
  generalize hloc : ([] : List Loc) = locs at hw ⊢
  have hinX12 : ∀ w ∈ u_ws RX12 TX12 42, w ∈ wsX12_isLetter := fun _ h => List.mem_cons_of_mem _ (List.mem_append_right _ (h))
  have J34 : ∀ (f34_0_1 : Int32) (H : Heap) (locs : List Loc) (ls : Array Slot) (w1 : va_W), 0 ≤ a1.toInt → a1.toInt ≤ 400 → 0 ≤ f34_0_1.toInt → f34_0_1.toInt ≤ 400 → Wd dC dI A s.heap H locs w1 → TW ksM ad cy B qr 12 w1 → FE ksM ([] : List (Nat × Nat × Nat)) w0 w1 → gi w1 0 1 = f34_0_1 → lv_has ls 2 [(0, .ref (ad 0)), (1, .int a1)] → W p l e ({ frames := 1, cells := 0, slots := 0, locals := 12 }) s m (List.toArray [.ref (ad 0), .int a1]) below meth c H locs 0 0 (MQ below (va_Qi (P_X12_isLetter_3 ad cy B qr s1 a1 w0) (fun u : va_W => wpost dC dI cy A u) A) (List.toArray [.ref (ad 0), .int a1]) s 0 0 A) (F0 m 34 ls []) := by
    intro f34_0_1 H locs ls w1 r2 t3 r4 t5 hw hT hF c6 hl
    refine lv_iconst (v := 0) hx hb dX12_isLetter_34 (by decide) ?_
    exact tk_zret hC hr rfl hlocks hK ⟨hT, hF, (Or.inl ⟨rfl, ⟨f34_0_1, c6, (show 0 ≤ f34_0_1.toInt by omega), (show f34_0_1.toInt ≤ 400 by omega)⟩⟩)⟩ hw dX12_isLetter_35
  refine lv_iload_n hx hb dX12_isLetter_0 rfl (lv_at hl 1 rfl) ?_
  refine lv_aload_n hx hb dX12_isLetter_1 rfl (lv_at hl 0 rfl) ?_
  refine tk_geti hC hK hw hT hinX12 kM_at0 (by decide) rfl 1 (by decide) (List.mem_of_getElem? (i := 1) rfl) rfl rfl dX12_isLetter_2 (fun x7 c8 rx7 tx7 => ?_)
  refine lv_icmp_ge (tgt := 34) hx hb dX12_isLetter_5 (by decide) (fun c9 => ?_) (fun c9 => ?_)
  · have c9 : x7.toInt ≤ a1.toInt := wk_le.mp c9
    exact J34 x7 s.heap locs ls w0 (show 0 ≤ a1.toInt by omega) (show a1.toInt ≤ 400 by omega) (show 0 ≤ x7.toInt by omega) (show x7.toInt ≤ 400 by omega)  hw hT hF c8 (lv_sub hl [0, 1] rfl)
  · have c9 : a1.toInt < x7.toInt := wk_leF c9
    refine lv_aload_n hx hb dX12_isLetter_8 rfl (lv_at hl 0 rfl) ?_
    refine tk_getA hC hK hw hT hinX12 kM_at0 (by decide) rfl 0 (by decide) (List.mem_of_getElem? (i := 2) rfl) rfl rfl dX12_isLetter_9 ?_
    refine lv_iload_n hx hb dX12_isLetter_12 rfl (lv_at hl 1 rfl) ?_
    refine tk_bald hC hK hw hT kM_at1 rfl rfl (show 0 ≤ a1.toInt by omega) (show a1.toInt < 400 by omega) dX12_isLetter_13 (fun x10 c11 rx10 tx10 => ?_)
    have c11 : gi w0 1 (a1.toInt).toNat = x10 := (congrArg (gi w0 1) (congrArg Int.toNat (show a1.toInt = a1.toInt by omega))).trans c11
    refine lv_bipush (v := 97) hx hb dX12_isLetter_14 (by decide) ?_
    refine lv_icmp_lt (tgt := 34) hx hb dX12_isLetter_16 (by decide) (fun c12 => ?_) (fun c12 => ?_)
    · have c12 : x10.toInt < (97 : Int) := wk_lt.mp c12
      exact J34 x7 s.heap locs ls w0 (show 0 ≤ a1.toInt by omega) (show a1.toInt ≤ 400 by omega) (show 0 ≤ x7.toInt by omega) (show x7.toInt ≤ 400 by omega)  hw hT hF c8 (lv_sub hl [0, 1] rfl)
    · have c12 : (97 : Int) ≤ x10.toInt := wk_ltF c12
      refine lv_aload_n hx hb dX12_isLetter_19 rfl (lv_at hl 0 rfl) ?_
      refine tk_getA hC hK hw hT hinX12 kM_at0 (by decide) rfl 0 (by decide) (List.mem_of_getElem? (i := 2) rfl) rfl rfl dX12_isLetter_20 ?_
      refine lv_iload_n hx hb dX12_isLetter_23 rfl (lv_at hl 1 rfl) ?_
      refine tk_bald hC hK hw hT kM_at1 rfl rfl (show 0 ≤ a1.toInt by omega) (show a1.toInt < 400 by omega) dX12_isLetter_24 (fun x13 c14 rx13 tx13 => ?_)
      have c14 : gi w0 1 (a1.toInt).toNat = x13 := (congrArg (gi w0 1) (congrArg Int.toNat (show a1.toInt = a1.toInt by omega))).trans c14
      refine wk_top x10 (c14.symm.trans c11) ?_
      refine lv_bipush (v := 122) hx hb dX12_isLetter_25 (by decide) ?_
      refine lv_icmp_gt (tgt := 34) hx hb dX12_isLetter_27 (by decide) (fun c15 => ?_) (fun c15 => ?_)
      · have c15 : (122 : Int) < x10.toInt := wk_lt.mp c15
        exact J34 x7 s.heap locs ls w0 (show 0 ≤ a1.toInt by omega) (show a1.toInt ≤ 400 by omega) (show 0 ≤ x7.toInt by omega) (show x7.toInt ≤ 400 by omega)  hw hT hF c8 (lv_sub hl [0, 1] rfl)
      · have c15 : x10.toInt ≤ (122 : Int) := wk_ltF c15
        refine lv_iconst (v := 1) hx hb dX12_isLetter_30 (by decide) ?_
        refine lv_goto (tgt := 35) hx hb dX12_isLetter_31 (by decide) ?_
        exact tk_zret hC hr rfl hlocks hK ⟨hT, hF, (Or.inr ⟨rfl, (show a1.toInt ≤ 399 by omega), ⟨x7, c8, (show 1 ≤ x7.toInt by omega), (show x7.toInt ≤ 400 by omega)⟩⟩)⟩ hw dX12_isLetter_35
abbrev P_X12_passWord_1 (ad : Nat → Nat) (cy : Nat → ClassId) (B : Int) (qr : Nat) (s1 : Int)  (w0 : va_W) : va_W → Prop := fun u => TW ksM ad cy B qr 12 u ∧ FE ksM [(12, 14, 14)] w0 u ∧ (((∃ y : Int32, gi u 0 1 = y ∧ 1 ≤ y.toInt ∧ y.toInt ≤ 400) ∧ (∃ y : Int32, gi u 0 14 = y ∧ 1 ≤ y.toInt ∧ y.toInt ≤ 400)) ∨ ((∃ y : Int32, gi u 0 1 = y ∧ 0 ≤ y.toInt ∧ y.toInt ≤ 400)))
set_option maxHeartbeats 4000000 in
set_option maxRecDepth 100000 in
theorem k_X12_passWord_1 (l : Launch) (adK adV : Nat → Nat) (dC : Nat → ClassId) (dI : Nat → Nat → Nat) (cy : Nat → ClassId) (ad : Nat → Nat) (B : Int) (hB0 : 100000 ≤ B) (hB1 : B ≤ 1073741824) (qr : Nat) (s1 : Int)   (w0 : va_W) (sz : Nat) (hT : TW ksM ad cy B qr 12 w0)  : Met l yX12_passWord wsX12_passWord ({ frames := 2, cells := 0, slots := 0, locals := 33 }) (va_Pc [.ref (ad 0)] (wpreS adK adV dC dI cy sz w0)) (va_Qv (P_X12_passWord_1 ad cy B qr s1  w0) (fun u : va_W => wpost dC dI cy (va_A w0 sz) u) (va_A w0 sz)) 0 0 (va_A w0 sz) := by
  refine Met.ofW (cc := cX12_passWord) (maxL := 1) (ret := none) (by decide) rfl ?_
  intro p e s m args below meth c s₁ Bk hml hv
  obtain ⟨rfl, ⟨hsz, hP, hK, hD0⟩, hE, hSR⟩ := hv
  have hx := Bk.exec
  have hb := Bk.bytes
  have hr := Bk.returns
  have hlocks := Bk.notSynchronized
  have hC : CallFix p m c cX12_passWord 1 s _ wsX12_passWord RX12 := ⟨hx, hb, hml, findClass_of_methodNamed Bk.named, atoms_spec (ws := wsX12_passWord) Bk.pre⟩
  subst hsz
  have hD := hD0.self (sz := s.heap.size)
  generalize hAe : va_A w0 s.heap.size = A at hD hE ⊢
  have hA : ∀ q : Nat, s.heap.size ≤ q → A q := fun q h => by rw [← hAe]; exact Or.inr h
  have hw : Wd dC dI A s.heap s.heap [] w0 := ⟨hP, hD, va_S.rf⟩
  have hF : FE ksM [(12, 14, 14)] w0 w0 := FE.rf
  have hl := lv_entry ([.ref (ad 0)]) (n := 1) (Nat.le_of_ble_eq_true rfl)
  rw [lg_entry_eq]
  generalize (lg_sl ([.ref (ad 0)]) ++ List.replicate (1 - (lg_sl ([.ref (ad 0)])).length) Slot.unset).toArray = ls at hl ⊢
  have hl : lv_has ls 1 [(0, .ref (ad 0))] := hl
  generalize hloc : ([] : List Loc) = locs at hw ⊢
  have hinX12 : ∀ w ∈ u_ws RX12 TX12 42, w ∈ wsX12_passWord := fun _ h => List.mem_cons_of_mem _ (List.mem_append_right _ (h))
  have L0 : ∀ (n0 : Nat) (f0_0_1 : Int32) (f0_0_14 : Int32) (H : Heap) (locs : List Loc) (ls : Array Slot) (w1 : va_W), 1 ≤ f0_0_1.toInt → f0_0_1.toInt ≤ 400 → 1 ≤ f0_0_14.toInt → f0_0_14.toInt ≤ 400 → (400 - f0_0_14.toInt).toNat < n0 → Wd dC dI A s.heap H locs w1 → TW ksM ad cy B qr 12 w1 → FE ksM [(12, 14, 14)] w0 w1 → gi w1 0 1 = f0_0_1 → gi w1 0 14 = f0_0_14 → lv_has ls 1 [(0, .ref (ad 0))] → W p l e ({ frames := 2, cells := 0, slots := 0, locals := 33 }) s m (List.toArray [.ref (ad 0)]) below meth c H locs 0 0 (MQ below (va_Qv (P_X12_passWord_1 ad cy B qr s1  w0) (fun u : va_W => wpost dC dI cy A u) A) (List.toArray [.ref (ad 0)]) s 0 0 A) (F0 m 0 ls []) := by
    intro n0
    induction n0 with
    | zero => intro f0_0_1 f0_0_14 H locs ls w1 r2 t3 r5 t6 hm0 hw hT hF c4 c7 hl; omega
    | succ n0 ih0 =>
      intro f0_0_1 f0_0_14 H locs ls w1 r2 t3 r5 t6 hm0 hw hT hF c4 c7 hl
      refine lv_aload_n hx hb dX12_passWord_0 rfl (lv_at hl 0 rfl) ?_
      refine lv_aload_n hx hb dX12_passWord_1 rfl (lv_at hl 0 rfl) ?_
      refine tk_geti hC hK hw hT hinX12 kM_at0 (by decide) rfl 14 (by decide) (List.mem_of_getElem? (i := 1) rfl) rfl rfl dX12_passWord_2 (fun x8 c9 rx8 tx8 => ?_)
      refine wk_top f0_0_14 (c9.symm.trans c7) ?_
      refine tk_Vi hC hK hw hT hA hE hSR kM_at0 (by decide) rfl (k_X12_isLetter_2 l adK adV dC dI cy ad B (by omega) (by omega) qr s1   f0_0_14 (show 1 ≤ f0_0_14.toInt by omega) (show f0_0_14.toInt ≤ 400 by omega) w1 H.size hT ) (cwV 1 hC.2.2.2.2 gX12_passWord_X12_isLetter rfl rfl rfl (by decide +kernel) ⟨Nat.le_of_ble_eq_true rfl, Nat.le_of_ble_eq_true rfl⟩) rfl hl.1 rfl (Nat.le_of_ble_eq_true rfl) dX12_passWord_5 (fun r10 w12 H locs hp11 hw => ?_)
      obtain ⟨hT, k13, hg19⟩ := hp11
      have hF := hF.tr k13 (by decide)
      have c20 := k13.gi kM_at0 (by decide) c4
      have c21 := k13.gi kM_at0 (by decide) c7
      rcases hg19 with ⟨rfl, ⟨x14, c15, rx14, tx14⟩⟩ | ⟨rfl, g16, ⟨x17, c18, rx17, tx17⟩⟩
      · have ex14 : x14.toInt = f0_0_1.toInt := by rw [← c20.symm.trans c15]
        refine lv_if_eq (tgt := 24) hx hb dX12_passWord_8 (by decide) (fun _ => ?_) (fun c => absurd (by decide) c)
        exact tk_vret hC hr hlocks hK ⟨hT, hF, (Or.inl ⟨⟨f0_0_1, c20, (show 1 ≤ f0_0_1.toInt by omega), (show f0_0_1.toInt ≤ 400 by omega)⟩, ⟨f0_0_14, c21, (show 1 ≤ f0_0_14.toInt by omega), (show f0_0_14.toInt ≤ 400 by omega)⟩⟩)⟩ hw dX12_passWord_24
      · have ex17 : x17.toInt = f0_0_1.toInt := by rw [← c20.symm.trans c18]
        refine lv_if_eq (tgt := 24) hx hb dX12_passWord_8 (by decide) (fun c => absurd c (by decide)) (fun _ => ?_)
        refine lv_aload_n hx hb dX12_passWord_11 rfl (lv_at hl 0 rfl) ?_
        refine lv_dup hx hb dX12_passWord_12 rfl ?_
        refine tk_geti hC hK hw hT hinX12 kM_at0 (by decide) rfl 14 (by decide) (List.mem_of_getElem? (i := 1) rfl) rfl rfl dX12_passWord_13 (fun x22 c23 rx22 tx22 => ?_)
        refine wk_top f0_0_14 (c23.symm.trans c21) ?_
        refine lv_iconst (v := 1) hx hb dX12_passWord_16 (by decide) ?_
        refine lv_iadd hx hb dX12_passWord_17 ?_
        refine lv_topi (fun x24 ex24 => ?_)
        have ex24 : x24.toInt = f0_0_14.toInt + (1 : Int) := by rw [ex24]; exact wk_add (show (-2147483648) ≤ f0_0_14.toInt + (1 : Int) by omega) (show f0_0_14.toInt + (1 : Int) ≤ 2147483647 by omega)
        refine tk_puti hC hK hw hT hinX12 tyX12_ok nmX12 kM_at0 (by decide) rfl rfl 14 (by decide) (List.mem_of_getElem? (i := 1) rfl) rfl rfl rfl rfl (show 0 ≤ x24.toInt by omega) (show x24.toInt ≤ 400 by omega) dX12_passWord_18 (fun H locs w25 hw hT k27 c26 => ?_)
        have hF := hF.put kM_at0 (k := 14) (by decide) k27
        have c28 := k27.gi (Or.inr (by decide)) c20
        refine lv_goto (tgt := 0) hx hb dX12_passWord_21 (by decide) ?_
        exact ih0 f0_0_1 x24 H locs ls w25 (show 1 ≤ f0_0_1.toInt by omega) (show f0_0_1.toInt ≤ 400 by omega) (show 1 ≤ x24.toInt by omega) (show x24.toInt ≤ 400 by omega) (show (400 - x24.toInt).toNat < n0 by omega) hw hT hF c28 c26 (lv_sub hl [0] rfl)
  refine lv_aload_n hx hb dX12_passWord_0 rfl (lv_at hl 0 rfl) ?_
  refine lv_aload_n hx hb dX12_passWord_1 rfl (lv_at hl 0 rfl) ?_
  refine tk_geti hC hK hw hT hinX12 kM_at0 (by decide) rfl 14 (by decide) (List.mem_of_getElem? (i := 1) rfl) rfl rfl dX12_passWord_2 (fun x29 c30 rx29 tx29 => ?_)
  refine tk_Vi hC hK hw hT hA hE hSR kM_at0 (by decide) rfl (k_X12_isLetter_3 l adK adV dC dI cy ad B (by omega) (by omega) qr s1   x29 (show 0 ≤ x29.toInt by omega) (show x29.toInt ≤ 400 by omega) w0 s.heap.size hT ) (cwV 1 hC.2.2.2.2 gX12_passWord_X12_isLetter rfl rfl rfl (by decide +kernel) ⟨Nat.le_of_ble_eq_true rfl, Nat.le_of_ble_eq_true rfl⟩) rfl hl.1 rfl (Nat.le_of_ble_eq_true rfl) dX12_passWord_5 (fun r31 w33 H locs hp32 hw => ?_)
  obtain ⟨hT, k34, hg40⟩ := hp32
  have hF := hF.tr k34 (by decide)
  have c41 := k34.gi kM_at0 (by decide) c30
  rcases hg40 with ⟨rfl, ⟨x35, c36, rx35, tx35⟩⟩ | ⟨rfl, g37, ⟨x38, c39, rx38, tx38⟩⟩
  · refine lv_if_eq (tgt := 24) hx hb dX12_passWord_8 (by decide) (fun _ => ?_) (fun c => absurd (by decide) c)
    exact tk_vret hC hr hlocks hK ⟨hT, hF, (Or.inr ⟨x35, c36, (show 0 ≤ x35.toInt by omega), (show x35.toInt ≤ 400 by omega)⟩)⟩ hw dX12_passWord_24
  · refine lv_if_eq (tgt := 24) hx hb dX12_passWord_8 (by decide) (fun c => absurd c (by decide)) (fun _ => ?_)
    refine lv_aload_n hx hb dX12_passWord_11 rfl (lv_at hl 0 rfl) ?_
    refine lv_dup hx hb dX12_passWord_12 rfl ?_
    refine tk_geti hC hK hw hT hinX12 kM_at0 (by decide) rfl 14 (by decide) (List.mem_of_getElem? (i := 1) rfl) rfl rfl dX12_passWord_13 (fun x42 c43 rx42 tx42 => ?_)
    refine wk_top x29 (c43.symm.trans c41) ?_
    refine lv_iconst (v := 1) hx hb dX12_passWord_16 (by decide) ?_
    refine lv_iadd hx hb dX12_passWord_17 ?_
    refine lv_topi (fun x44 ex44 => ?_)
    have ex44 : x44.toInt = x29.toInt + (1 : Int) := by rw [ex44]; exact wk_add (show (-2147483648) ≤ x29.toInt + (1 : Int) by omega) (show x29.toInt + (1 : Int) ≤ 2147483647 by omega)
    refine tk_puti hC hK hw hT hinX12 tyX12_ok nmX12 kM_at0 (by decide) rfl rfl 14 (by decide) (List.mem_of_getElem? (i := 1) rfl) rfl rfl rfl rfl (show 0 ≤ x44.toInt by omega) (show x44.toInt ≤ 400 by omega) dX12_passWord_18 (fun H locs w45 hw hT k47 c46 => ?_)
    have hF := hF.put kM_at0 (k := 14) (by decide) k47
    have c48 := k47.gi (Or.inr (by decide)) c39
    refine lv_goto (tgt := 0) hx hb dX12_passWord_21 (by decide) ?_
    exact L0 ((400 - x44.toInt).toNat + 1) x38 x44 H locs ls w45 (show 1 ≤ x38.toInt by omega) (show x38.toInt ≤ 400 by omega) (show 1 ≤ x44.toInt by omega) (show x44.toInt ≤ 400 by omega) (Nat.lt_succ_self _) hw hT hF c48 c46 (lv_sub hl [0] rfl)
abbrev P_X12_isDigit_1 (ad : Nat → Nat) (cy : Nat → ClassId) (B : Int) (qr : Nat) (s1 : Int) (a1 : Int32) (w0 : va_W) : Int32 → va_W → Prop := fun r u => TW ksM ad cy B qr 12 u ∧ FE ksM ([] : List (Nat × Nat × Nat)) w0 u ∧ ((r = 0 ∧ (∃ y : Int32, gi u 0 1 = y ∧ 0 ≤ y.toInt ∧ y.toInt ≤ 400)) ∨ (r = 1 ∧ a1.toInt ≤ 399 ∧ (∃ y : Int32, gi u 0 1 = y ∧ 1 ≤ y.toInt ∧ y.toInt ≤ 400)))
set_option maxHeartbeats 4000000 in
set_option maxRecDepth 100000 in
theorem k_X12_isDigit_1 (l : Launch) (adK adV : Nat → Nat) (dC : Nat → ClassId) (dI : Nat → Nat → Nat) (cy : Nat → ClassId) (ad : Nat → Nat) (B : Int) (hB0 : 100000 ≤ B) (hB1 : B ≤ 1073741824) (qr : Nat) (s1 : Int)  (a1 : Int32) (ra1 : 0 ≤ a1.toInt) (ta1 : a1.toInt ≤ 400) (w0 : va_W) (sz : Nat) (hT : TW ksM ad cy B qr 12 w0)  : Met l yX12_isDigit wsX12_isDigit ({ frames := 1, cells := 0, slots := 0, locals := 12 }) (va_Pc [.ref (ad 0), .int a1] (wpreS adK adV dC dI cy sz w0)) (va_Qi (P_X12_isDigit_1 ad cy B qr s1 a1 w0) (fun u : va_W => wpost dC dI cy (va_A w0 sz) u) (va_A w0 sz)) 0 0 (va_A w0 sz) := by
  refine Met.ofW (cc := cX12_isDigit) (maxL := 2) (ret := (some .boolean)) (by decide) rfl ?_
  intro p e s m args below meth c s₁ Bk hml hv
  obtain ⟨rfl, ⟨hsz, hP, hK, hD0⟩, hE, hSR⟩ := hv
  have hx := Bk.exec
  have hb := Bk.bytes
  have hr := Bk.returns
  have hlocks := Bk.notSynchronized
  have hC : CallFix p m c cX12_isDigit 2 s _ wsX12_isDigit RX12 := ⟨hx, hb, hml, findClass_of_methodNamed Bk.named, atoms_spec (ws := wsX12_isDigit) Bk.pre⟩
  subst hsz
  have hD := hD0.self (sz := s.heap.size)
  generalize hAe : va_A w0 s.heap.size = A at hD hE ⊢
  have hA : ∀ q : Nat, s.heap.size ≤ q → A q := fun q h => by rw [← hAe]; exact Or.inr h
  have hw : Wd dC dI A s.heap s.heap [] w0 := ⟨hP, hD, va_S.rf⟩
  have hF : FE ksM ([] : List (Nat × Nat × Nat)) w0 w0 := FE.rf
  have hl := lv_entry ([.ref (ad 0), .int a1]) (n := 2) (Nat.le_of_ble_eq_true rfl)
  rw [lg_entry_eq]
  generalize (lg_sl ([.ref (ad 0), .int a1]) ++ List.replicate (2 - (lg_sl ([.ref (ad 0), .int a1])).length) Slot.unset).toArray = ls at hl ⊢
  have hl : lv_has ls 2 [(0, .ref (ad 0)), (1, .int a1)] := hl
  generalize hloc : ([] : List Loc) = locs at hw ⊢
  have hinX12 : ∀ w ∈ u_ws RX12 TX12 42, w ∈ wsX12_isDigit := fun _ h => List.mem_cons_of_mem _ (List.mem_append_right _ (h))
  have J34 : ∀ (f34_0_1 : Int32) (H : Heap) (locs : List Loc) (ls : Array Slot) (w1 : va_W), 0 ≤ a1.toInt → a1.toInt ≤ 400 → 0 ≤ f34_0_1.toInt → f34_0_1.toInt ≤ 400 → Wd dC dI A s.heap H locs w1 → TW ksM ad cy B qr 12 w1 → FE ksM ([] : List (Nat × Nat × Nat)) w0 w1 → gi w1 0 1 = f34_0_1 → lv_has ls 2 [(0, .ref (ad 0)), (1, .int a1)] → W p l e ({ frames := 1, cells := 0, slots := 0, locals := 12 }) s m (List.toArray [.ref (ad 0), .int a1]) below meth c H locs 0 0 (MQ below (va_Qi (P_X12_isDigit_1 ad cy B qr s1 a1 w0) (fun u : va_W => wpost dC dI cy A u) A) (List.toArray [.ref (ad 0), .int a1]) s 0 0 A) (F0 m 34 ls []) := by
    intro f34_0_1 H locs ls w1 r2 t3 r4 t5 hw hT hF c6 hl
    refine lv_iconst (v := 0) hx hb dX12_isDigit_34 (by decide) ?_
    exact tk_zret hC hr rfl hlocks hK ⟨hT, hF, (Or.inl ⟨rfl, ⟨f34_0_1, c6, (show 0 ≤ f34_0_1.toInt by omega), (show f34_0_1.toInt ≤ 400 by omega)⟩⟩)⟩ hw dX12_isDigit_35
  refine lv_iload_n hx hb dX12_isDigit_0 rfl (lv_at hl 1 rfl) ?_
  refine lv_aload_n hx hb dX12_isDigit_1 rfl (lv_at hl 0 rfl) ?_
  refine tk_geti hC hK hw hT hinX12 kM_at0 (by decide) rfl 1 (by decide) (List.mem_of_getElem? (i := 1) rfl) rfl rfl dX12_isDigit_2 (fun x7 c8 rx7 tx7 => ?_)
  refine lv_icmp_ge (tgt := 34) hx hb dX12_isDigit_5 (by decide) (fun c9 => ?_) (fun c9 => ?_)
  · have c9 : x7.toInt ≤ a1.toInt := wk_le.mp c9
    exact J34 x7 s.heap locs ls w0 (show 0 ≤ a1.toInt by omega) (show a1.toInt ≤ 400 by omega) (show 0 ≤ x7.toInt by omega) (show x7.toInt ≤ 400 by omega)  hw hT hF c8 (lv_sub hl [0, 1] rfl)
  · have c9 : a1.toInt < x7.toInt := wk_leF c9
    refine lv_aload_n hx hb dX12_isDigit_8 rfl (lv_at hl 0 rfl) ?_
    refine tk_getA hC hK hw hT hinX12 kM_at0 (by decide) rfl 0 (by decide) (List.mem_of_getElem? (i := 2) rfl) rfl rfl dX12_isDigit_9 ?_
    refine lv_iload_n hx hb dX12_isDigit_12 rfl (lv_at hl 1 rfl) ?_
    refine tk_bald hC hK hw hT kM_at1 rfl rfl (show 0 ≤ a1.toInt by omega) (show a1.toInt < 400 by omega) dX12_isDigit_13 (fun x10 c11 rx10 tx10 => ?_)
    have c11 : gi w0 1 (a1.toInt).toNat = x10 := (congrArg (gi w0 1) (congrArg Int.toNat (show a1.toInt = a1.toInt by omega))).trans c11
    refine lv_bipush (v := 48) hx hb dX12_isDigit_14 (by decide) ?_
    refine lv_icmp_lt (tgt := 34) hx hb dX12_isDigit_16 (by decide) (fun c12 => ?_) (fun c12 => ?_)
    · have c12 : x10.toInt < (48 : Int) := wk_lt.mp c12
      exact J34 x7 s.heap locs ls w0 (show 0 ≤ a1.toInt by omega) (show a1.toInt ≤ 400 by omega) (show 0 ≤ x7.toInt by omega) (show x7.toInt ≤ 400 by omega)  hw hT hF c8 (lv_sub hl [0, 1] rfl)
    · have c12 : (48 : Int) ≤ x10.toInt := wk_ltF c12
      refine lv_aload_n hx hb dX12_isDigit_19 rfl (lv_at hl 0 rfl) ?_
      refine tk_getA hC hK hw hT hinX12 kM_at0 (by decide) rfl 0 (by decide) (List.mem_of_getElem? (i := 2) rfl) rfl rfl dX12_isDigit_20 ?_
      refine lv_iload_n hx hb dX12_isDigit_23 rfl (lv_at hl 1 rfl) ?_
      refine tk_bald hC hK hw hT kM_at1 rfl rfl (show 0 ≤ a1.toInt by omega) (show a1.toInt < 400 by omega) dX12_isDigit_24 (fun x13 c14 rx13 tx13 => ?_)
      have c14 : gi w0 1 (a1.toInt).toNat = x13 := (congrArg (gi w0 1) (congrArg Int.toNat (show a1.toInt = a1.toInt by omega))).trans c14
      refine wk_top x10 (c14.symm.trans c11) ?_
      refine lv_bipush (v := 57) hx hb dX12_isDigit_25 (by decide) ?_
      refine lv_icmp_gt (tgt := 34) hx hb dX12_isDigit_27 (by decide) (fun c15 => ?_) (fun c15 => ?_)
      · have c15 : (57 : Int) < x10.toInt := wk_lt.mp c15
        exact J34 x7 s.heap locs ls w0 (show 0 ≤ a1.toInt by omega) (show a1.toInt ≤ 400 by omega) (show 0 ≤ x7.toInt by omega) (show x7.toInt ≤ 400 by omega)  hw hT hF c8 (lv_sub hl [0, 1] rfl)
      · have c15 : x10.toInt ≤ (57 : Int) := wk_ltF c15
        refine lv_iconst (v := 1) hx hb dX12_isDigit_30 (by decide) ?_
        refine lv_goto (tgt := 35) hx hb dX12_isDigit_31 (by decide) ?_
        exact tk_zret hC hr rfl hlocks hK ⟨hT, hF, (Or.inr ⟨rfl, (show a1.toInt ≤ 399 by omega), ⟨x7, c8, (show 1 ≤ x7.toInt by omega), (show x7.toInt ≤ 400 by omega)⟩⟩)⟩ hw dX12_isDigit_35
abbrev P_X12_in_1 (ad : Nat → Nat) (cy : Nat → ClassId) (B : Int) (qr : Nat) (s1 : Int) (a0 : Int64) (a2 : Int64) (w0 : va_W) : Int32 → va_W → Prop := fun r u => TW ksM ad cy B qr 12 u ∧ FE ksM ([] : List (Nat × Nat × Nat)) w0 u ∧ ((r = 0) ∨ (r = 1 ∧ 0 ≤ a0.toInt ∧ a0.toInt ≤ 11 ∧ 0 ≤ a2.toInt))
set_option maxHeartbeats 4000000 in
set_option maxRecDepth 100000 in
theorem k_X12_in_1 (l : Launch) (adK adV : Nat → Nat) (dC : Nat → ClassId) (dI : Nat → Nat → Nat) (cy : Nat → ClassId) (ad : Nat → Nat) (B : Int) (hB0 : 100000 ≤ B) (hB1 : B ≤ 1073741824) (qr : Nat) (s1 : Int)  (a0 : Int64) (ra0 : (-2147483648) ≤ a0.toInt) (ta0 : a0.toInt ≤ 2147483647) (a2 : Int64) (ra2 : (-1) ≤ a2.toInt) (ta2 : a2.toInt ≤ 11) (w0 : va_W) (sz : Nat) (hT : TW ksM ad cy B qr 12 w0)  : Met l yX12_in wsX12_in ({ frames := 1, cells := 0, slots := 0, locals := 12 }) (va_Pc [.long a0, .long 0, .long a2] (wpreS adK adV dC dI cy sz w0)) (va_Qi (P_X12_in_1 ad cy B qr s1 a0 a2 w0) (fun u : va_W => wpost dC dI cy (va_A w0 sz) u) (va_A w0 sz)) 0 0 (va_A w0 sz) := by
  refine Met.ofW (cc := cX12_in) (maxL := 6) (ret := (some .boolean)) (by decide) rfl ?_
  intro p e s m args below meth c s₁ Bk hml hv
  obtain ⟨rfl, ⟨hsz, hP, hK, hD0⟩, hE, hSR⟩ := hv
  have hx := Bk.exec
  have hb := Bk.bytes
  have hr := Bk.returns
  have hlocks := Bk.notSynchronized
  have hC : CallFix p m c cX12_in 6 s _ wsX12_in RX12 := ⟨hx, hb, hml, findClass_of_methodNamed Bk.named, atoms_spec (ws := wsX12_in) Bk.pre⟩
  subst hsz
  have hD := hD0.self (sz := s.heap.size)
  generalize hAe : va_A w0 s.heap.size = A at hD hE ⊢
  have hA : ∀ q : Nat, s.heap.size ≤ q → A q := fun q h => by rw [← hAe]; exact Or.inr h
  have hw : Wd dC dI A s.heap s.heap [] w0 := ⟨hP, hD, va_S.rf⟩
  have hF : FE ksM ([] : List (Nat × Nat × Nat)) w0 w0 := FE.rf
  have hl := lv_entry ([.long a0, .long 0, .long a2]) (n := 6) (Nat.le_of_ble_eq_true rfl)
  rw [lg_entry_eq]
  generalize (lg_sl ([.long a0, .long 0, .long a2]) ++ List.replicate (6 - (lg_sl ([.long a0, .long 0, .long a2])).length) Slot.unset).toArray = ls at hl ⊢
  have hl : lv_has ls 6 [(0, .long a0), (2, .long 0), (4, .long a2)] := hl
  generalize hloc : ([] : List Loc) = locs at hw ⊢
  have J17 : ∀ (H : Heap) (locs : List Loc) (ls : Array Slot) (w1 : va_W), (-2147483648) ≤ a0.toInt → a0.toInt ≤ 2147483647 → (-1) ≤ a2.toInt → a2.toInt ≤ 11 → Wd dC dI A s.heap H locs w1 → TW ksM ad cy B qr 12 w1 → FE ksM ([] : List (Nat × Nat × Nat)) w0 w1 → lv_has ls 6 [(0, .long a0), (2, .long 0), (4, .long a2)] → W p l e ({ frames := 1, cells := 0, slots := 0, locals := 12 }) s m (List.toArray [.long a0, .long 0, .long a2]) below meth c H locs 0 0 (MQ below (va_Qi (P_X12_in_1 ad cy B qr s1 a0 a2 w0) (fun u : va_W => wpost dC dI cy A u) A) (List.toArray [.long a0, .long 0, .long a2]) s 0 0 A) (F0 m 17 ls []) := by
    intro H locs ls w1 r2 t3 r4 t5 hw hT hF hl
    refine lv_iconst (v := 0) hx hb dX12_in_17 (by decide) ?_
    exact tk_zret hC hr rfl hlocks hK ⟨hT, hF, (Or.inl rfl)⟩ hw dX12_in_18
  refine lv_lload_n hx hb dX12_in_0 rfl (lv_at hl 0 rfl) ?_
  refine lv_lload_n hx hb dX12_in_1 rfl (lv_at hl 1 rfl) ?_
  refine W.lcmp hx hb dX12_in_2 ?_
  refine lv_if_lt (tgt := 17) hx hb dX12_in_3 (by decide) (fun c6 => ?_) (fun c6 => ?_)
  · have c6 : a0.toInt < (0 : Int) := wk_cltT c6
    exact J17  s.heap locs ls w0 (show (-2147483648) ≤ a0.toInt by omega) (show a0.toInt ≤ 2147483647 by omega) (show (-1) ≤ a2.toInt by omega) (show a2.toInt ≤ 11 by omega)  hw hT hF  (lv_sub hl [0, 1, 2] rfl)
  · have c6 : (0 : Int) ≤ a0.toInt := wk_cltF c6
    refine lv_lload_n hx hb dX12_in_6 rfl (lv_at hl 0 rfl) ?_
    refine lv_lload hx hb dX12_in_7 (lv_at hl 2 rfl) ?_
    refine W.lcmp hx hb dX12_in_9 ?_
    refine lv_if_gt (tgt := 17) hx hb dX12_in_10 (by decide) (fun c7 => ?_) (fun c7 => ?_)
    · have c7 : a2.toInt < a0.toInt := wk_cgtT c7
      exact J17  s.heap locs ls w0 (show (-2147483648) ≤ a0.toInt by omega) (show a0.toInt ≤ 2147483647 by omega) (show (-1) ≤ a2.toInt by omega) (show a2.toInt ≤ 11 by omega)  hw hT hF  (lv_sub hl [0, 1, 2] rfl)
    · have c7 : a0.toInt ≤ a2.toInt := wk_cgtF c7
      refine lv_iconst (v := 1) hx hb dX12_in_13 (by decide) ?_
      refine lv_goto (tgt := 18) hx hb dX12_in_14 (by decide) ?_
      exact tk_zret hC hr rfl hlocks hK ⟨hT, hF, (Or.inr ⟨rfl, (show 0 ≤ a0.toInt by omega), (show a0.toInt ≤ 11 by omega), (show 0 ≤ a2.toInt by omega)⟩)⟩ hw dX12_in_18
abbrev P_X12_isDigit_2 (ad : Nat → Nat) (cy : Nat → ClassId) (B : Int) (qr : Nat) (s1 : Int) (a1 : Int32) (w0 : va_W) : Int32 → va_W → Prop := fun r u => TW ksM ad cy B qr 12 u ∧ FE ksM ([] : List (Nat × Nat × Nat)) w0 u ∧ ((r = 0 ∧ (∃ y : Int32, gi u 0 1 = y ∧ 0 ≤ y.toInt ∧ y.toInt ≤ 400)) ∨ (r = 1 ∧ (∃ y : Int32, gi u 0 1 = y ∧ 1 ≤ y.toInt ∧ y.toInt ≤ 400)))
set_option maxHeartbeats 4000000 in
set_option maxRecDepth 100000 in
theorem k_X12_isDigit_2 (l : Launch) (adK adV : Nat → Nat) (dC : Nat → ClassId) (dI : Nat → Nat → Nat) (cy : Nat → ClassId) (ad : Nat → Nat) (B : Int) (hB0 : 100000 ≤ B) (hB1 : B ≤ 1073741824) (qr : Nat) (s1 : Int)  (a1 : Int32) (ra1 : 0 ≤ a1.toInt) (ta1 : a1.toInt ≤ 399) (w0 : va_W) (sz : Nat) (hT : TW ksM ad cy B qr 12 w0)  : Met l yX12_isDigit wsX12_isDigit ({ frames := 1, cells := 0, slots := 0, locals := 12 }) (va_Pc [.ref (ad 0), .int a1] (wpreS adK adV dC dI cy sz w0)) (va_Qi (P_X12_isDigit_2 ad cy B qr s1 a1 w0) (fun u : va_W => wpost dC dI cy (va_A w0 sz) u) (va_A w0 sz)) 0 0 (va_A w0 sz) := by
  refine Met.ofW (cc := cX12_isDigit) (maxL := 2) (ret := (some .boolean)) (by decide) rfl ?_
  intro p e s m args below meth c s₁ Bk hml hv
  obtain ⟨rfl, ⟨hsz, hP, hK, hD0⟩, hE, hSR⟩ := hv
  have hx := Bk.exec
  have hb := Bk.bytes
  have hr := Bk.returns
  have hlocks := Bk.notSynchronized
  have hC : CallFix p m c cX12_isDigit 2 s _ wsX12_isDigit RX12 := ⟨hx, hb, hml, findClass_of_methodNamed Bk.named, atoms_spec (ws := wsX12_isDigit) Bk.pre⟩
  subst hsz
  have hD := hD0.self (sz := s.heap.size)
  generalize hAe : va_A w0 s.heap.size = A at hD hE ⊢
  have hA : ∀ q : Nat, s.heap.size ≤ q → A q := fun q h => by rw [← hAe]; exact Or.inr h
  have hw : Wd dC dI A s.heap s.heap [] w0 := ⟨hP, hD, va_S.rf⟩
  have hF : FE ksM ([] : List (Nat × Nat × Nat)) w0 w0 := FE.rf
  have hl := lv_entry ([.ref (ad 0), .int a1]) (n := 2) (Nat.le_of_ble_eq_true rfl)
  rw [lg_entry_eq]
  generalize (lg_sl ([.ref (ad 0), .int a1]) ++ List.replicate (2 - (lg_sl ([.ref (ad 0), .int a1])).length) Slot.unset).toArray = ls at hl ⊢
  have hl : lv_has ls 2 [(0, .ref (ad 0)), (1, .int a1)] := hl
  generalize hloc : ([] : List Loc) = locs at hw ⊢
  have hinX12 : ∀ w ∈ u_ws RX12 TX12 42, w ∈ wsX12_isDigit := fun _ h => List.mem_cons_of_mem _ (List.mem_append_right _ (h))
  have J34 : ∀ (f34_0_1 : Int32) (H : Heap) (locs : List Loc) (ls : Array Slot) (w1 : va_W), 0 ≤ a1.toInt → a1.toInt ≤ 399 → 0 ≤ f34_0_1.toInt → f34_0_1.toInt ≤ 400 → Wd dC dI A s.heap H locs w1 → TW ksM ad cy B qr 12 w1 → FE ksM ([] : List (Nat × Nat × Nat)) w0 w1 → gi w1 0 1 = f34_0_1 → lv_has ls 2 [(0, .ref (ad 0)), (1, .int a1)] → W p l e ({ frames := 1, cells := 0, slots := 0, locals := 12 }) s m (List.toArray [.ref (ad 0), .int a1]) below meth c H locs 0 0 (MQ below (va_Qi (P_X12_isDigit_2 ad cy B qr s1 a1 w0) (fun u : va_W => wpost dC dI cy A u) A) (List.toArray [.ref (ad 0), .int a1]) s 0 0 A) (F0 m 34 ls []) := by
    intro f34_0_1 H locs ls w1 r2 t3 r4 t5 hw hT hF c6 hl
    refine lv_iconst (v := 0) hx hb dX12_isDigit_34 (by decide) ?_
    exact tk_zret hC hr rfl hlocks hK ⟨hT, hF, (Or.inl ⟨rfl, ⟨f34_0_1, c6, (show 0 ≤ f34_0_1.toInt by omega), (show f34_0_1.toInt ≤ 400 by omega)⟩⟩)⟩ hw dX12_isDigit_35
  refine lv_iload_n hx hb dX12_isDigit_0 rfl (lv_at hl 1 rfl) ?_
  refine lv_aload_n hx hb dX12_isDigit_1 rfl (lv_at hl 0 rfl) ?_
  refine tk_geti hC hK hw hT hinX12 kM_at0 (by decide) rfl 1 (by decide) (List.mem_of_getElem? (i := 1) rfl) rfl rfl dX12_isDigit_2 (fun x7 c8 rx7 tx7 => ?_)
  refine lv_icmp_ge (tgt := 34) hx hb dX12_isDigit_5 (by decide) (fun c9 => ?_) (fun c9 => ?_)
  · have c9 : x7.toInt ≤ a1.toInt := wk_le.mp c9
    exact J34 x7 s.heap locs ls w0 (show 0 ≤ a1.toInt by omega) (show a1.toInt ≤ 399 by omega) (show 0 ≤ x7.toInt by omega) (show x7.toInt ≤ 400 by omega)  hw hT hF c8 (lv_sub hl [0, 1] rfl)
  · have c9 : a1.toInt < x7.toInt := wk_leF c9
    refine lv_aload_n hx hb dX12_isDigit_8 rfl (lv_at hl 0 rfl) ?_
    refine tk_getA hC hK hw hT hinX12 kM_at0 (by decide) rfl 0 (by decide) (List.mem_of_getElem? (i := 2) rfl) rfl rfl dX12_isDigit_9 ?_
    refine lv_iload_n hx hb dX12_isDigit_12 rfl (lv_at hl 1 rfl) ?_
    refine tk_bald hC hK hw hT kM_at1 rfl rfl (show 0 ≤ a1.toInt by omega) (show a1.toInt < 400 by omega) dX12_isDigit_13 (fun x10 c11 rx10 tx10 => ?_)
    have c11 : gi w0 1 (a1.toInt).toNat = x10 := (congrArg (gi w0 1) (congrArg Int.toNat (show a1.toInt = a1.toInt by omega))).trans c11
    refine lv_bipush (v := 48) hx hb dX12_isDigit_14 (by decide) ?_
    refine lv_icmp_lt (tgt := 34) hx hb dX12_isDigit_16 (by decide) (fun c12 => ?_) (fun c12 => ?_)
    · have c12 : x10.toInt < (48 : Int) := wk_lt.mp c12
      exact J34 x7 s.heap locs ls w0 (show 0 ≤ a1.toInt by omega) (show a1.toInt ≤ 399 by omega) (show 0 ≤ x7.toInt by omega) (show x7.toInt ≤ 400 by omega)  hw hT hF c8 (lv_sub hl [0, 1] rfl)
    · have c12 : (48 : Int) ≤ x10.toInt := wk_ltF c12
      refine lv_aload_n hx hb dX12_isDigit_19 rfl (lv_at hl 0 rfl) ?_
      refine tk_getA hC hK hw hT hinX12 kM_at0 (by decide) rfl 0 (by decide) (List.mem_of_getElem? (i := 2) rfl) rfl rfl dX12_isDigit_20 ?_
      refine lv_iload_n hx hb dX12_isDigit_23 rfl (lv_at hl 1 rfl) ?_
      refine tk_bald hC hK hw hT kM_at1 rfl rfl (show 0 ≤ a1.toInt by omega) (show a1.toInt < 400 by omega) dX12_isDigit_24 (fun x13 c14 rx13 tx13 => ?_)
      have c14 : gi w0 1 (a1.toInt).toNat = x13 := (congrArg (gi w0 1) (congrArg Int.toNat (show a1.toInt = a1.toInt by omega))).trans c14
      refine wk_top x10 (c14.symm.trans c11) ?_
      refine lv_bipush (v := 57) hx hb dX12_isDigit_25 (by decide) ?_
      refine lv_icmp_gt (tgt := 34) hx hb dX12_isDigit_27 (by decide) (fun c15 => ?_) (fun c15 => ?_)
      · have c15 : (57 : Int) < x10.toInt := wk_lt.mp c15
        exact J34 x7 s.heap locs ls w0 (show 0 ≤ a1.toInt by omega) (show a1.toInt ≤ 399 by omega) (show 0 ≤ x7.toInt by omega) (show x7.toInt ≤ 400 by omega)  hw hT hF c8 (lv_sub hl [0, 1] rfl)
      · have c15 : x10.toInt ≤ (57 : Int) := wk_ltF c15
        refine lv_iconst (v := 1) hx hb dX12_isDigit_30 (by decide) ?_
        refine lv_goto (tgt := 35) hx hb dX12_isDigit_31 (by decide) ?_
        exact tk_zret hC hr rfl hlocks hK ⟨hT, hF, (Or.inr ⟨rfl, ⟨x7, c8, (show 1 ≤ x7.toInt by omega), (show x7.toInt ≤ 400 by omega)⟩⟩)⟩ hw dX12_isDigit_35
abbrev P_X12_isDigit_3 (ad : Nat → Nat) (cy : Nat → ClassId) (B : Int) (qr : Nat) (s1 : Int) (a1 : Int32) (w0 : va_W) : Int32 → va_W → Prop := fun r u => TW ksM ad cy B qr 12 u ∧ FE ksM ([] : List (Nat × Nat × Nat)) w0 u ∧ ((r = 0 ∧ (∃ y : Int32, gi u 0 1 = y ∧ 0 ≤ y.toInt ∧ y.toInt ≤ 400)) ∨ (r = 1 ∧ (∃ y : Int32, gi u 0 1 = y ∧ 2 ≤ y.toInt ∧ y.toInt ≤ 400)))
set_option maxHeartbeats 4000000 in
set_option maxRecDepth 100000 in
theorem k_X12_isDigit_3 (l : Launch) (adK adV : Nat → Nat) (dC : Nat → ClassId) (dI : Nat → Nat → Nat) (cy : Nat → ClassId) (ad : Nat → Nat) (B : Int) (hB0 : 100000 ≤ B) (hB1 : B ≤ 1073741824) (qr : Nat) (s1 : Int)  (a1 : Int32) (ra1 : 1 ≤ a1.toInt) (ta1 : a1.toInt ≤ 399) (w0 : va_W) (sz : Nat) (hT : TW ksM ad cy B qr 12 w0)  : Met l yX12_isDigit wsX12_isDigit ({ frames := 1, cells := 0, slots := 0, locals := 12 }) (va_Pc [.ref (ad 0), .int a1] (wpreS adK adV dC dI cy sz w0)) (va_Qi (P_X12_isDigit_3 ad cy B qr s1 a1 w0) (fun u : va_W => wpost dC dI cy (va_A w0 sz) u) (va_A w0 sz)) 0 0 (va_A w0 sz) := by
  refine Met.ofW (cc := cX12_isDigit) (maxL := 2) (ret := (some .boolean)) (by decide) rfl ?_
  intro p e s m args below meth c s₁ Bk hml hv
  obtain ⟨rfl, ⟨hsz, hP, hK, hD0⟩, hE, hSR⟩ := hv
  have hx := Bk.exec
  have hb := Bk.bytes
  have hr := Bk.returns
  have hlocks := Bk.notSynchronized
  have hC : CallFix p m c cX12_isDigit 2 s _ wsX12_isDigit RX12 := ⟨hx, hb, hml, findClass_of_methodNamed Bk.named, atoms_spec (ws := wsX12_isDigit) Bk.pre⟩
  subst hsz
  have hD := hD0.self (sz := s.heap.size)
  generalize hAe : va_A w0 s.heap.size = A at hD hE ⊢
  have hA : ∀ q : Nat, s.heap.size ≤ q → A q := fun q h => by rw [← hAe]; exact Or.inr h
  have hw : Wd dC dI A s.heap s.heap [] w0 := ⟨hP, hD, va_S.rf⟩
  have hF : FE ksM ([] : List (Nat × Nat × Nat)) w0 w0 := FE.rf
  have hl := lv_entry ([.ref (ad 0), .int a1]) (n := 2) (Nat.le_of_ble_eq_true rfl)
  rw [lg_entry_eq]
  generalize (lg_sl ([.ref (ad 0), .int a1]) ++ List.replicate (2 - (lg_sl ([.ref (ad 0), .int a1])).length) Slot.unset).toArray = ls at hl ⊢
  have hl : lv_has ls 2 [(0, .ref (ad 0)), (1, .int a1)] := hl
  generalize hloc : ([] : List Loc) = locs at hw ⊢
  have hinX12 : ∀ w ∈ u_ws RX12 TX12 42, w ∈ wsX12_isDigit := fun _ h => List.mem_cons_of_mem _ (List.mem_append_right _ (h))
  have J34 : ∀ (f34_0_1 : Int32) (H : Heap) (locs : List Loc) (ls : Array Slot) (w1 : va_W), 1 ≤ a1.toInt → a1.toInt ≤ 399 → 0 ≤ f34_0_1.toInt → f34_0_1.toInt ≤ 400 → Wd dC dI A s.heap H locs w1 → TW ksM ad cy B qr 12 w1 → FE ksM ([] : List (Nat × Nat × Nat)) w0 w1 → gi w1 0 1 = f34_0_1 → lv_has ls 2 [(0, .ref (ad 0)), (1, .int a1)] → W p l e ({ frames := 1, cells := 0, slots := 0, locals := 12 }) s m (List.toArray [.ref (ad 0), .int a1]) below meth c H locs 0 0 (MQ below (va_Qi (P_X12_isDigit_3 ad cy B qr s1 a1 w0) (fun u : va_W => wpost dC dI cy A u) A) (List.toArray [.ref (ad 0), .int a1]) s 0 0 A) (F0 m 34 ls []) := by
    intro f34_0_1 H locs ls w1 r2 t3 r4 t5 hw hT hF c6 hl
    refine lv_iconst (v := 0) hx hb dX12_isDigit_34 (by decide) ?_
    exact tk_zret hC hr rfl hlocks hK ⟨hT, hF, (Or.inl ⟨rfl, ⟨f34_0_1, c6, (show 0 ≤ f34_0_1.toInt by omega), (show f34_0_1.toInt ≤ 400 by omega)⟩⟩)⟩ hw dX12_isDigit_35
  refine lv_iload_n hx hb dX12_isDigit_0 rfl (lv_at hl 1 rfl) ?_
  refine lv_aload_n hx hb dX12_isDigit_1 rfl (lv_at hl 0 rfl) ?_
  refine tk_geti hC hK hw hT hinX12 kM_at0 (by decide) rfl 1 (by decide) (List.mem_of_getElem? (i := 1) rfl) rfl rfl dX12_isDigit_2 (fun x7 c8 rx7 tx7 => ?_)
  refine lv_icmp_ge (tgt := 34) hx hb dX12_isDigit_5 (by decide) (fun c9 => ?_) (fun c9 => ?_)
  · have c9 : x7.toInt ≤ a1.toInt := wk_le.mp c9
    exact J34 x7 s.heap locs ls w0 (show 1 ≤ a1.toInt by omega) (show a1.toInt ≤ 399 by omega) (show 0 ≤ x7.toInt by omega) (show x7.toInt ≤ 400 by omega)  hw hT hF c8 (lv_sub hl [0, 1] rfl)
  · have c9 : a1.toInt < x7.toInt := wk_leF c9
    refine lv_aload_n hx hb dX12_isDigit_8 rfl (lv_at hl 0 rfl) ?_
    refine tk_getA hC hK hw hT hinX12 kM_at0 (by decide) rfl 0 (by decide) (List.mem_of_getElem? (i := 2) rfl) rfl rfl dX12_isDigit_9 ?_
    refine lv_iload_n hx hb dX12_isDigit_12 rfl (lv_at hl 1 rfl) ?_
    refine tk_bald hC hK hw hT kM_at1 rfl rfl (show 0 ≤ a1.toInt by omega) (show a1.toInt < 400 by omega) dX12_isDigit_13 (fun x10 c11 rx10 tx10 => ?_)
    have c11 : gi w0 1 (a1.toInt).toNat = x10 := (congrArg (gi w0 1) (congrArg Int.toNat (show a1.toInt = a1.toInt by omega))).trans c11
    refine lv_bipush (v := 48) hx hb dX12_isDigit_14 (by decide) ?_
    refine lv_icmp_lt (tgt := 34) hx hb dX12_isDigit_16 (by decide) (fun c12 => ?_) (fun c12 => ?_)
    · have c12 : x10.toInt < (48 : Int) := wk_lt.mp c12
      exact J34 x7 s.heap locs ls w0 (show 1 ≤ a1.toInt by omega) (show a1.toInt ≤ 399 by omega) (show 0 ≤ x7.toInt by omega) (show x7.toInt ≤ 400 by omega)  hw hT hF c8 (lv_sub hl [0, 1] rfl)
    · have c12 : (48 : Int) ≤ x10.toInt := wk_ltF c12
      refine lv_aload_n hx hb dX12_isDigit_19 rfl (lv_at hl 0 rfl) ?_
      refine tk_getA hC hK hw hT hinX12 kM_at0 (by decide) rfl 0 (by decide) (List.mem_of_getElem? (i := 2) rfl) rfl rfl dX12_isDigit_20 ?_
      refine lv_iload_n hx hb dX12_isDigit_23 rfl (lv_at hl 1 rfl) ?_
      refine tk_bald hC hK hw hT kM_at1 rfl rfl (show 0 ≤ a1.toInt by omega) (show a1.toInt < 400 by omega) dX12_isDigit_24 (fun x13 c14 rx13 tx13 => ?_)
      have c14 : gi w0 1 (a1.toInt).toNat = x13 := (congrArg (gi w0 1) (congrArg Int.toNat (show a1.toInt = a1.toInt by omega))).trans c14
      refine wk_top x10 (c14.symm.trans c11) ?_
      refine lv_bipush (v := 57) hx hb dX12_isDigit_25 (by decide) ?_
      refine lv_icmp_gt (tgt := 34) hx hb dX12_isDigit_27 (by decide) (fun c15 => ?_) (fun c15 => ?_)
      · have c15 : (57 : Int) < x10.toInt := wk_lt.mp c15
        exact J34 x7 s.heap locs ls w0 (show 1 ≤ a1.toInt by omega) (show a1.toInt ≤ 399 by omega) (show 0 ≤ x7.toInt by omega) (show x7.toInt ≤ 400 by omega)  hw hT hF c8 (lv_sub hl [0, 1] rfl)
      · have c15 : x10.toInt ≤ (57 : Int) := wk_ltF c15
        refine lv_iconst (v := 1) hx hb dX12_isDigit_30 (by decide) ?_
        refine lv_goto (tgt := 35) hx hb dX12_isDigit_31 (by decide) ?_
        exact tk_zret hC hr rfl hlocks hK ⟨hT, hF, (Or.inr ⟨rfl, ⟨x7, c8, (show 2 ≤ x7.toInt by omega), (show x7.toInt ≤ 400 by omega)⟩⟩)⟩ hw dX12_isDigit_35
abbrev P_X12_numberHere_1 (ad : Nat → Nat) (cy : Nat → ClassId) (B : Int) (qr : Nat) (s1 : Int) (a2 : Int32) (w0 : va_W) : Int32 → va_W → Prop := fun r u => TW ksM ad cy B qr 12 u ∧ FE ksM [(12, 14, 14), (12, 15, 15), (12, 16, 16)] w0 u ∧ ((r = 0 ∧ (∃ y : Int32, gi u 0 1 = y ∧ 1 ≤ y.toInt ∧ y.toInt ≤ 400) ∧ (∃ y : Int32, gi u 0 15 = y ∧ 1 ≤ y.toInt ∧ y.toInt ≤ 3205)) ∨ (r = 0 ∧ (∃ y : Int32, gi u 0 1 = y ∧ 0 ≤ y.toInt ∧ y.toInt ≤ 400) ∧ (∃ y : Int32, gi u 0 15 = y ∧ 1 ≤ y.toInt ∧ y.toInt ≤ 3205)) ∨ (r = 1 ∧ 0 ≤ a2.toInt ∧ (∃ y : Int32, gi u 0 1 = y ∧ 1 ≤ y.toInt ∧ y.toInt ≤ 400) ∧ (∃ y : Int32, gi u 0 16 = y ∧ 0 ≤ y.toInt ∧ y.toInt ≤ 11)))
set_option maxHeartbeats 4000000 in
set_option maxRecDepth 100000 in
theorem k_X12_numberHere_1 (l : Launch) (adK adV : Nat → Nat) (dC : Nat → ClassId) (dI : Nat → Nat → Nat) (cy : Nat → ClassId) (ad : Nat → Nat) (B : Int) (hB0 : 100000 ≤ B) (hB1 : B ≤ 1073741824) (qr : Nat) (s1 : Int)  (a2 : Int32) (ra2 : (-1) ≤ a2.toInt) (ta2 : a2.toInt ≤ 11) (w0 : va_W) (sz : Nat) (hT : TW ksM ad cy B qr 12 w0)  : Met l yX12_numberHere wsX12_numberHere ({ frames := 2, cells := 0, slots := 0, locals := 37 }) (va_Pc [.ref (ad 0), .int 0, .int a2] (wpreS adK adV dC dI cy sz w0)) (va_Qi (P_X12_numberHere_1 ad cy B qr s1 a2 w0) (fun u : va_W => wpost dC dI cy (va_A w0 sz) u) (va_A w0 sz)) 0 0 (va_A w0 sz) := by
  refine Met.ofW (cc := cX12_numberHere) (maxL := 5) (ret := (some .boolean)) (by decide) rfl ?_
  intro p e s m args below meth c s₁ Bk hml hv
  obtain ⟨rfl, ⟨hsz, hP, hK, hD0⟩, hE, hSR⟩ := hv
  have hx := Bk.exec
  have hb := Bk.bytes
  have hr := Bk.returns
  have hlocks := Bk.notSynchronized
  have hC : CallFix p m c cX12_numberHere 5 s _ wsX12_numberHere RX12 := ⟨hx, hb, hml, findClass_of_methodNamed Bk.named, atoms_spec (ws := wsX12_numberHere) Bk.pre⟩
  subst hsz
  have hD := hD0.self (sz := s.heap.size)
  generalize hAe : va_A w0 s.heap.size = A at hD hE ⊢
  have hA : ∀ q : Nat, s.heap.size ≤ q → A q := fun q h => by rw [← hAe]; exact Or.inr h
  have hw : Wd dC dI A s.heap s.heap [] w0 := ⟨hP, hD, va_S.rf⟩
  have hF : FE ksM [(12, 14, 14), (12, 15, 15), (12, 16, 16)] w0 w0 := FE.rf
  have hl := lv_entry ([.ref (ad 0), .int 0, .int a2]) (n := 5) (Nat.le_of_ble_eq_true rfl)
  rw [lg_entry_eq]
  generalize (lg_sl ([.ref (ad 0), .int 0, .int a2]) ++ List.replicate (5 - (lg_sl ([.ref (ad 0), .int 0, .int a2])).length) Slot.unset).toArray = ls at hl ⊢
  have hl : lv_has ls 5 [(0, .ref (ad 0)), (1, .int 0), (2, .int a2)] := hl
  generalize hloc : ([] : List Loc) = locs at hw ⊢
  have hinX12 : ∀ w ∈ u_ws RX12 TX12 42, w ∈ wsX12_numberHere := fun _ h => List.mem_cons_of_mem _ (List.mem_append_right _ (h))
  have J126 : ∀ (v126_3 : Int32) (v126_4 : Int32) (f126_0_1 : Int32) (f126_0_14 : Int32) (f126_0_16 : Int32) (H : Heap) (locs : List Loc) (ls : Array Slot) (w1 : va_W), 0 ≤ a2.toInt → a2.toInt ≤ 11 → 0 ≤ v126_3.toInt → v126_3.toInt ≤ 399 → 0 ≤ v126_4.toInt → v126_4.toInt ≤ 11 → 1 ≤ f126_0_1.toInt → f126_0_1.toInt ≤ 400 → 0 ≤ f126_0_14.toInt → f126_0_14.toInt ≤ 400 → 0 ≤ f126_0_16.toInt → f126_0_16.toInt ≤ 11 → Wd dC dI A s.heap H locs w1 → TW ksM ad cy B qr 12 w1 → FE ksM [(12, 14, 14), (12, 15, 15), (12, 16, 16)] w0 w1 → gi w1 0 1 = f126_0_1 → gi w1 0 14 = f126_0_14 → gi w1 0 16 = f126_0_16 → lv_has ls 5 [(0, .ref (ad 0)), (1, .int 0), (2, .int a2), (3, .int v126_3), (4, .int v126_4)] → W p l e ({ frames := 2, cells := 0, slots := 0, locals := 37 }) s m (List.toArray [.ref (ad 0), .int 0, .int a2]) below meth c H locs 0 0 (MQ below (va_Qi (P_X12_numberHere_1 ad cy B qr s1 a2 w0) (fun u : va_W => wpost dC dI cy A u) A) (List.toArray [.ref (ad 0), .int 0, .int a2]) s 0 0 A) (F0 m 126 ls []) := by
    intro v126_3 v126_4 f126_0_1 f126_0_14 f126_0_16 H locs ls w1 r2 t3 r4 t5 r6 t7 r8 t9 r11 t12 r14 t15 hw hT hF c10 c13 c16 hl
    refine lv_iconst (v := 1) hx hb dX12_numberHere_126 (by decide) ?_
    refine lv_goto (tgt := 131) hx hb dX12_numberHere_127 (by decide) ?_
    exact tk_zret hC hr rfl hlocks hK ⟨hT, hF, (Or.inr (Or.inr ⟨rfl, (show 0 ≤ a2.toInt by omega), ⟨f126_0_1, c10, (show 1 ≤ f126_0_1.toInt by omega), (show f126_0_1.toInt ≤ 400 by omega)⟩, ⟨f126_0_16, c16, (show 0 ≤ f126_0_16.toInt by omega), (show f126_0_16.toInt ≤ 11 by omega)⟩⟩))⟩ hw dX12_numberHere_131
  have J117 : ∀ (v117_3 : Int32) (v117_4 : Int32) (f117_0_1 : Int32) (f117_0_14 : Int32) (f117_0_16 : Int32) (H : Heap) (locs : List Loc) (ls : Array Slot) (w17 : va_W), (-1) ≤ a2.toInt → a2.toInt ≤ 11 → 0 ≤ v117_3.toInt → v117_3.toInt ≤ 399 → 1 ≤ f117_0_1.toInt → f117_0_1.toInt ≤ 400 → 0 ≤ f117_0_14.toInt → f117_0_14.toInt ≤ 400 → Wd dC dI A s.heap H locs w17 → TW ksM ad cy B qr 12 w17 → FE ksM [(12, 14, 14), (12, 15, 15), (12, 16, 16)] w0 w17 → gi w17 0 1 = f117_0_1 → gi w17 0 14 = f117_0_14 → gi w17 0 16 = f117_0_16 → lv_has ls 5 [(0, .ref (ad 0)), (1, .int 0), (2, .int a2), (3, .int v117_3), (4, .int v117_4)] → W p l e ({ frames := 2, cells := 0, slots := 0, locals := 37 }) s m (List.toArray [.ref (ad 0), .int 0, .int a2]) below meth c H locs 0 0 (MQ below (va_Qi (P_X12_numberHere_1 ad cy B qr s1 a2 w0) (fun u : va_W => wpost dC dI cy A u) A) (List.toArray [.ref (ad 0), .int 0, .int a2]) s 0 0 A) (F0 m 117 ls []) := by
    intro v117_3 v117_4 f117_0_1 f117_0_14 f117_0_16 H locs ls w17 r18 t19 r20 t21 r22 t23 r25 t26 hw hT hF c24 c27 c28 hl
    refine lv_aload_n hx hb dX12_numberHere_117 rfl (lv_at hl 0 rfl) ?_
    refine lv_iconst (v := 1) hx hb dX12_numberHere_118 (by decide) ?_
    refine lv_iload_n hx hb dX12_numberHere_119 rfl (lv_at hl 3 rfl) ?_
    refine tk_Vi hC hK hw hT hA hE hSR kM_at0 (by decide) rfl (k_X12_fails_1 l adK adV dC dI cy ad B (by omega) (by omega) qr s1   1 (by decide) (by decide) v117_3 (show 0 ≤ v117_3.toInt by omega) (show v117_3.toInt ≤ 400 by omega) w17 H.size hT ) (cwV 2 hC.2.2.2.2 gX12_numberHere_X12_fails rfl rfl rfl (by decide +kernel) ⟨Nat.le_of_ble_eq_true rfl, Nat.le_of_ble_eq_true rfl⟩) rfl hl.1 rfl (Nat.le_of_ble_eq_true rfl) dX12_numberHere_120 (fun r29 w31 H locs hp30 hw => ?_)
    obtain ⟨hT, k32, hg35⟩ := hp30
    have hF := hF.tr k32 (by decide)
    have c36 := k32.gi kM_at0 (by decide) c24
    have c37 := k32.gi kM_at0 (by decide) c27
    have c38 := k32.gi kM_at0 (by decide) c28
    obtain ⟨rfl, ⟨x33, c34, rx33, tx33⟩⟩ := hg35
    refine lv_if_eq (tgt := 130) hx hb dX12_numberHere_123 (by decide) (fun _ => ?_) (fun c => absurd (by decide) c)
    refine lv_iconst (v := 0) hx hb dX12_numberHere_130 (by decide) ?_
    exact tk_zret hC hr rfl hlocks hK ⟨hT, hF, (Or.inl ⟨rfl, ⟨f117_0_1, c36, (show 1 ≤ f117_0_1.toInt by omega), (show f117_0_1.toInt ≤ 400 by omega)⟩, ⟨x33, c34, (show 1 ≤ x33.toInt by omega), (show x33.toInt ≤ 3205 by omega)⟩⟩)⟩ hw dX12_numberHere_131
  have L34 : ∀ (n34 : Nat) (v34_3 : Int32) (v34_4 : Int32) (f34_0_1 : Int32) (f34_0_14 : Int32) (H : Heap) (locs : List Loc) (ls : Array Slot) (w39 : va_W), (-1) ≤ a2.toInt → a2.toInt ≤ 11 → 0 ≤ v34_3.toInt → v34_3.toInt ≤ 399 → 1 ≤ f34_0_1.toInt → f34_0_1.toInt ≤ 400 → 0 ≤ f34_0_14.toInt → f34_0_14.toInt ≤ 400 → (400 - f34_0_14.toInt).toNat < n34 → Wd dC dI A s.heap H locs w39 → TW ksM ad cy B qr 12 w39 → FE ksM [(12, 14, 14), (12, 15, 15), (12, 16, 16)] w0 w39 → gi w39 0 1 = f34_0_1 → gi w39 0 14 = f34_0_14 → lv_has ls 5 [(0, .ref (ad 0)), (1, .int 0), (2, .int a2), (3, .int v34_3), (4, .int v34_4)] → W p l e ({ frames := 2, cells := 0, slots := 0, locals := 37 }) s m (List.toArray [.ref (ad 0), .int 0, .int a2]) below meth c H locs 0 0 (MQ below (va_Qi (P_X12_numberHere_1 ad cy B qr s1 a2 w0) (fun u : va_W => wpost dC dI cy A u) A) (List.toArray [.ref (ad 0), .int 0, .int a2]) s 0 0 A) (F0 m 34 ls []) := by
    intro n34
    induction n34 with
    | zero => intro v34_3 v34_4 f34_0_1 f34_0_14 H locs ls w39 r40 t41 r42 t43 r44 t45 r47 t48 hm34 hw hT hF c46 c49 hl; omega
    | succ n34 ih34 =>
      intro v34_3 v34_4 f34_0_1 f34_0_14 H locs ls w39 r40 t41 r42 t43 r44 t45 r47 t48 hm34 hw hT hF c46 c49 hl
      have J75 : ∀ (v75_4 : Int32) (H : Heap) (locs : List Loc) (ls : Array Slot) (w50 : va_W), (-1) ≤ a2.toInt → a2.toInt ≤ 11 → 0 ≤ v34_3.toInt → v34_3.toInt ≤ 399 → 1 ≤ f34_0_1.toInt → f34_0_1.toInt ≤ 400 → 0 ≤ f34_0_14.toInt → f34_0_14.toInt ≤ 399 → Wd dC dI A s.heap H locs w50 → TW ksM ad cy B qr 12 w50 → FE ksM [(12, 14, 14), (12, 15, 15), (12, 16, 16)] w0 w50 → gi w50 0 1 = f34_0_1 → gi w50 0 14 = f34_0_14 → lv_has ls 5 [(0, .ref (ad 0)), (1, .int 0), (2, .int a2), (3, .int v34_3), (4, .int v75_4)] → W p l e ({ frames := 2, cells := 0, slots := 0, locals := 37 }) s m (List.toArray [.ref (ad 0), .int 0, .int a2]) below meth c H locs 0 0 (MQ below (va_Qi (P_X12_numberHere_1 ad cy B qr s1 a2 w0) (fun u : va_W => wpost dC dI cy A u) A) (List.toArray [.ref (ad 0), .int 0, .int a2]) s 0 0 A) (F0 m 75 ls []) := by
        intro v75_4 H locs ls w50 r51 t52 r53 t54 r55 t56 r58 t59 hw hT hF c57 c60 hl
        refine lv_aload_n hx hb dX12_numberHere_75 rfl (lv_at hl 0 rfl) ?_
        refine lv_dup hx hb dX12_numberHere_76 rfl ?_
        refine tk_geti hC hK hw hT hinX12 kM_at0 (by decide) rfl 14 (by decide) (List.mem_of_getElem? (i := 1) rfl) rfl rfl dX12_numberHere_77 (fun x61 c62 rx61 tx61 => ?_)
        refine wk_top f34_0_14 (c62.symm.trans c60) ?_
        refine lv_iconst (v := 1) hx hb dX12_numberHere_80 (by decide) ?_
        refine lv_iadd hx hb dX12_numberHere_81 ?_
        refine lv_topi (fun x63 ex63 => ?_)
        have ex63 : x63.toInt = f34_0_14.toInt + (1 : Int) := by rw [ex63]; exact wk_add (show (-2147483648) ≤ f34_0_14.toInt + (1 : Int) by omega) (show f34_0_14.toInt + (1 : Int) ≤ 2147483647 by omega)
        refine tk_puti hC hK hw hT hinX12 tyX12_ok nmX12 kM_at0 (by decide) rfl rfl 14 (by decide) (List.mem_of_getElem? (i := 1) rfl) rfl rfl rfl rfl (show 0 ≤ x63.toInt by omega) (show x63.toInt ≤ 400 by omega) dX12_numberHere_82 (fun H locs w64 hw hT k66 c65 => ?_)
        have hF := hF.put kM_at0 (k := 14) (by decide) k66
        have c67 := k66.gi (Or.inr (by decide)) c57
        refine lv_goto (tgt := 34) hx hb dX12_numberHere_85 (by decide) ?_
        exact ih34 v34_3 v75_4 f34_0_1 x63 H locs ls w64 (show (-1) ≤ a2.toInt by omega) (show a2.toInt ≤ 11 by omega) (show 0 ≤ v34_3.toInt by omega) (show v34_3.toInt ≤ 399 by omega) (show 1 ≤ f34_0_1.toInt by omega) (show f34_0_1.toInt ≤ 400 by omega) (show 0 ≤ x63.toInt by omega) (show x63.toInt ≤ 400 by omega) (show (400 - x63.toInt).toNat < n34 by omega) hw hT hF c67 c65 (lv_sub hl [0, 1, 2, 3, 4] rfl)
      refine lv_aload_n hx hb dX12_numberHere_34 rfl (lv_at hl 0 rfl) ?_
      refine lv_aload_n hx hb dX12_numberHere_35 rfl (lv_at hl 0 rfl) ?_
      refine tk_geti hC hK hw hT hinX12 kM_at0 (by decide) rfl 14 (by decide) (List.mem_of_getElem? (i := 1) rfl) rfl rfl dX12_numberHere_36 (fun x68 c69 rx68 tx68 => ?_)
      refine wk_top f34_0_14 (c69.symm.trans c49) ?_
      refine tk_Vi hC hK hw hT hA hE hSR kM_at0 (by decide) rfl (k_X12_isDigit_1 l adK adV dC dI cy ad B (by omega) (by omega) qr s1   f34_0_14 (show 0 ≤ f34_0_14.toInt by omega) (show f34_0_14.toInt ≤ 400 by omega) w39 H.size hT ) (cwV 1 hC.2.2.2.2 gX12_numberHere_X12_isDigit rfl rfl rfl (by decide +kernel) ⟨Nat.le_of_ble_eq_true rfl, Nat.le_of_ble_eq_true rfl⟩) rfl hl.1 rfl (Nat.le_of_ble_eq_true rfl) dX12_numberHere_39 (fun r70 w72 H locs hp71 hw => ?_)
      obtain ⟨hT, k73, hg79⟩ := hp71
      have hF := hF.tr k73 (by decide)
      have c80 := k73.gi kM_at0 (by decide) c46
      have c81 := k73.gi kM_at0 (by decide) c49
      rcases hg79 with ⟨rfl, ⟨x74, c75, rx74, tx74⟩⟩ | ⟨rfl, g76, ⟨x77, c78, rx77, tx77⟩⟩
      · have ex74 : x74.toInt = f34_0_1.toInt := by rw [← c80.symm.trans c75]
        refine lv_if_eq (tgt := 88) hx hb dX12_numberHere_42 (by decide) (fun _ => ?_) (fun c => absurd (by decide) c)
        refine lv_aload_n hx hb dX12_numberHere_88 rfl (lv_at hl 0 rfl) ?_
        refine lv_iload hx hb dX12_numberHere_89 (lv_at hl 4 rfl) ?_
        refine tk_puti hC hK hw hT hinX12 tyX12_ok nmX12 kM_at0 (by decide) rfl rfl 16 (by decide) (List.mem_of_getElem? (i := 3) rfl) rfl rfl rfl rfl (wk_i32 v34_4).1 (wk_i32 v34_4).2 dX12_numberHere_91 (fun H locs w82 hw hT k84 c83 => ?_)
        have hF := hF.put kM_at0 (k := 16) (by decide) k84
        have c85 := k84.gi (Or.inr (by decide)) c80
        have c86 := k84.gi (Or.inr (by decide)) c81
        refine lv_aload_n hx hb dX12_numberHere_94 rfl (lv_at hl 0 rfl) ?_
        refine tk_geti hC hK hw hT hinX12 kM_at0 (by decide) rfl 14 (by decide) (List.mem_of_getElem? (i := 1) rfl) rfl rfl dX12_numberHere_95 (fun x87 c88 rx87 tx87 => ?_)
        refine wk_top f34_0_14 (c88.symm.trans c86) ?_
        refine lv_iload_n hx hb dX12_numberHere_98 rfl (lv_at hl 3 rfl) ?_
        refine lv_isub hx hb dX12_numberHere_99 ?_
        refine lv_topi (fun x89 ex89 => ?_)
        have ex89 : x89.toInt = f34_0_14.toInt - v34_3.toInt := by rw [ex89]; exact wk_sub (show (-2147483648) ≤ f34_0_14.toInt - v34_3.toInt by omega) (show f34_0_14.toInt - v34_3.toInt ≤ 2147483647 by omega)
        refine lv_iconst (v := 5) hx hb dX12_numberHere_100 (by decide) ?_
        refine lv_icmp_gt (tgt := 117) hx hb dX12_numberHere_101 (by decide) (fun c90 => ?_) (fun c90 => ?_)
        · have c90 : (5 : Int) < x89.toInt := wk_lt.mp c90
          exact J117 v34_3 v34_4 f34_0_1 f34_0_14 v34_4 H locs ls w82 (show (-1) ≤ a2.toInt by omega) (show a2.toInt ≤ 11 by omega) (show 0 ≤ v34_3.toInt by omega) (show v34_3.toInt ≤ 399 by omega) (show 1 ≤ f34_0_1.toInt by omega) (show f34_0_1.toInt ≤ 400 by omega) (show 0 ≤ f34_0_14.toInt by omega) (show f34_0_14.toInt ≤ 400 by omega)  hw hT hF c85 c86 c83 (lv_sub hl [0, 1, 2, 3, 4] rfl)
        · have c90 : x89.toInt ≤ (5 : Int) := wk_ltF c90
          refine lv_iload hx hb dX12_numberHere_104 (lv_at hl 4 rfl) ?_
          refine lv_i2l hx hb dX12_numberHere_106 rfl ?_
          refine lv_topl (fun x91 ex91 => ?_)
          have ex91 : x91.toInt = v34_4.toInt := by rw [ex91]; exact wk_i2l _
          have bx91 := wk_i32 v34_4
          refine lv_iload_n hx hb dX12_numberHere_107 rfl (lv_at hl 1 rfl) ?_
          refine lv_i2l hx hb dX12_numberHere_108 rfl ?_
          refine wk_topl 0 (by decide) ?_
          refine lv_iload_n hx hb dX12_numberHere_109 rfl (lv_at hl 2 rfl) ?_
          refine lv_i2l hx hb dX12_numberHere_110 rfl ?_
          refine lv_topl (fun x92 ex92 => ?_)
          have ex92 : x92.toInt = a2.toInt := by rw [ex92]; exact wk_i2l _
          have bx92 := wk_i32 a2
          refine tk_Si hC hK hw hT hA hE hSR (k_X12_in_1 l adK adV dC dI cy ad B (by omega) (by omega) qr s1   x91 (show (-2147483648) ≤ x91.toInt by omega) (show x91.toInt ≤ 2147483647 by omega) x92 (show (-1) ≤ x92.toInt by omega) (show x92.toInt ≤ 11 by omega) w82 H.size hT ) (va_cwS 3 hC.2.2.2.2 gX12_numberHere_X12_in rfl rfl rfl (by decide +kernel) ⟨Nat.le_of_ble_eq_true rfl, Nat.le_of_ble_eq_true rfl⟩) rfl hl.1 rfl (Nat.le_of_ble_eq_true rfl) dX12_numberHere_111 (fun r93 w95 H locs hp94 hw => ?_)
          obtain ⟨hT, k96, hg100⟩ := hp94
          have hF := hF.tr k96 (by decide)
          have c101 := k96.gi kM_at0 (by decide) c85
          have c102 := k96.gi kM_at0 (by decide) c86
          have c103 := k96.gi kM_at0 (by decide) c83
          rcases hg100 with rfl | ⟨rfl, g97, g98, g99⟩
          · refine lv_if_ne (tgt := 126) hx hb dX12_numberHere_114 (by decide) (fun c => absurd (by decide) c) (fun _ => ?_)
            exact J117 v34_3 v34_4 f34_0_1 f34_0_14 v34_4 H locs ls w95 (show (-1) ≤ a2.toInt by omega) (show a2.toInt ≤ 11 by omega) (show 0 ≤ v34_3.toInt by omega) (show v34_3.toInt ≤ 399 by omega) (show 1 ≤ f34_0_1.toInt by omega) (show f34_0_1.toInt ≤ 400 by omega) (show 0 ≤ f34_0_14.toInt by omega) (show f34_0_14.toInt ≤ 400 by omega)  hw hT hF c101 c102 c103 (lv_sub hl [0, 1, 2, 3, 4] rfl)
          · refine lv_if_ne (tgt := 126) hx hb dX12_numberHere_114 (by decide) (fun _ => ?_) (fun c => absurd c (by decide))
            exact J126 v34_3 v34_4 f34_0_1 f34_0_14 v34_4 H locs ls w95 (show 0 ≤ a2.toInt by omega) (show a2.toInt ≤ 11 by omega) (show 0 ≤ v34_3.toInt by omega) (show v34_3.toInt ≤ 399 by omega) (show 0 ≤ v34_4.toInt by omega) (show v34_4.toInt ≤ 11 by omega) (show 1 ≤ f34_0_1.toInt by omega) (show f34_0_1.toInt ≤ 400 by omega) (show 0 ≤ f34_0_14.toInt by omega) (show f34_0_14.toInt ≤ 400 by omega) (show 0 ≤ v34_4.toInt by omega) (show v34_4.toInt ≤ 11 by omega)  hw hT hF c101 c102 c103 (lv_sub hl [0, 1, 2, 3, 4] rfl)
      · have ex77 : x77.toInt = f34_0_1.toInt := by rw [← c80.symm.trans c78]
        refine lv_if_eq (tgt := 88) hx hb dX12_numberHere_42 (by decide) (fun c => absurd c (by decide)) (fun _ => ?_)
        refine lv_aload_n hx hb dX12_numberHere_45 rfl (lv_at hl 0 rfl) ?_
        refine tk_geti hC hK hw hT hinX12 kM_at0 (by decide) rfl 14 (by decide) (List.mem_of_getElem? (i := 1) rfl) rfl rfl dX12_numberHere_46 (fun x104 c105 rx104 tx104 => ?_)
        refine wk_top f34_0_14 (c105.symm.trans c81) ?_
        refine lv_iload_n hx hb dX12_numberHere_49 rfl (lv_at hl 3 rfl) ?_
        refine lv_isub hx hb dX12_numberHere_50 ?_
        refine lv_topi (fun x106 ex106 => ?_)
        have ex106 : x106.toInt = f34_0_14.toInt - v34_3.toInt := by rw [ex106]; exact wk_sub (show (-2147483648) ≤ f34_0_14.toInt - v34_3.toInt by omega) (show f34_0_14.toInt - v34_3.toInt ≤ 2147483647 by omega)
        refine lv_iconst (v := 5) hx hb dX12_numberHere_51 (by decide) ?_
        refine lv_icmp_ge (tgt := 75) hx hb dX12_numberHere_52 (by decide) (fun c107 => ?_) (fun c107 => ?_)
        · have c107 : (5 : Int) ≤ x106.toInt := wk_le.mp c107
          exact J75 v34_4 H locs ls w72 (show (-1) ≤ a2.toInt by omega) (show a2.toInt ≤ 11 by omega) (show 0 ≤ v34_3.toInt by omega) (show v34_3.toInt ≤ 399 by omega) (show 1 ≤ f34_0_1.toInt by omega) (show f34_0_1.toInt ≤ 400 by omega) (show 0 ≤ f34_0_14.toInt by omega) (show f34_0_14.toInt ≤ 399 by omega)  hw hT hF c80 c81 (lv_sub hl [0, 1, 2, 3, 4] rfl)
        · have c107 : x106.toInt < (5 : Int) := wk_leF c107
          refine lv_bipush (v := 10) hx hb dX12_numberHere_55 (by decide) ?_
          refine lv_iload hx hb dX12_numberHere_57 (lv_at hl 4 rfl) ?_
          refine lv_imul hx hb dX12_numberHere_59 ?_
          have nx108 := wk_i32 v34_4
          refine lv_topi (fun x109 ex109 => ?_)
          refine lv_aload_n hx hb dX12_numberHere_60 rfl (lv_at hl 0 rfl) ?_
          refine tk_getA hC hK hw hT hinX12 kM_at0 (by decide) rfl 0 (by decide) (List.mem_of_getElem? (i := 2) rfl) rfl rfl dX12_numberHere_61 ?_
          refine lv_aload_n hx hb dX12_numberHere_64 rfl (lv_at hl 0 rfl) ?_
          refine tk_geti hC hK hw hT hinX12 kM_at0 (by decide) rfl 14 (by decide) (List.mem_of_getElem? (i := 1) rfl) rfl rfl dX12_numberHere_65 (fun x110 c111 rx110 tx110 => ?_)
          refine wk_top f34_0_14 (c111.symm.trans c81) ?_
          refine tk_bald hC hK hw hT kM_at1 rfl rfl (show 0 ≤ f34_0_14.toInt by omega) (show f34_0_14.toInt < 400 by omega) dX12_numberHere_68 (fun x112 c113 rx112 tx112 => ?_)
          have c113 : gi w72 1 (f34_0_14.toInt).toNat = x112 := (congrArg (gi w72 1) (congrArg Int.toNat (show f34_0_14.toInt = f34_0_14.toInt by omega))).trans c113
          refine lv_iadd hx hb dX12_numberHere_69 ?_
          have nx114 := wk_i32 x109
          refine lv_topi (fun x115 ex115 => ?_)
          refine lv_bipush (v := 48) hx hb dX12_numberHere_70 (by decide) ?_
          refine lv_isub hx hb dX12_numberHere_72 ?_
          have nx116 := wk_i32 x115
          refine lv_topi (fun x117 ex117 => ?_)
          refine lv_istore (lv' := [(4, .int x117), (0, .ref (ad 0)), (1, .int 0), (2, .int a2), (3, .int v34_3)]) hx hb dX12_numberHere_73 hl (by decide) rfl (fun ls hl => ?_)
          exact J75 x117 H locs ls w72 (show (-1) ≤ a2.toInt by omega) (show a2.toInt ≤ 11 by omega) (show 0 ≤ v34_3.toInt by omega) (show v34_3.toInt ≤ 399 by omega) (show 1 ≤ f34_0_1.toInt by omega) (show f34_0_1.toInt ≤ 400 by omega) (show 0 ≤ f34_0_14.toInt by omega) (show f34_0_14.toInt ≤ 399 by omega)  hw hT hF c80 c81 (lv_sub hl [1, 2, 3, 4, 0] rfl)
  refine lv_aload_n hx hb dX12_numberHere_0 rfl (lv_at hl 0 rfl) ?_
  obtain ⟨x118, c119, rx118, tx118⟩ := hT.rdi (lo := 0) (hi := 400) (k := 14) kM_at0 (by decide) rfl
  refine tk_Vi hC hK hw hT hA hE hSR kM_at0 (by decide) rfl (k_X12_see_1 l adK adV dC dI cy ad B (by omega) (by omega) qr s1    w0 s.heap.size hT x118 c119 (show 0 ≤ x118.toInt by omega) (show x118.toInt ≤ 400 by omega)) (cwV 0 hC.2.2.2.2 gX12_numberHere_X12_see rfl rfl rfl (by decide +kernel) ⟨Nat.le_of_ble_eq_true rfl, Nat.le_of_ble_eq_true rfl⟩) rfl hl.1 rfl (Nat.le_of_ble_eq_true rfl) dX12_numberHere_1 (fun r120 w122 H locs hp121 hw => ?_)
  obtain ⟨hT, k123, hg140⟩ := hp121
  have hF := hF.tr k123 (by decide)
  rcases hg140 with ⟨g124, g125, ⟨x126, c127, rx126, tx126⟩, ⟨x128, c129, rx128, tx128⟩, g130, g131⟩ | ⟨rfl, ⟨x132, c133, rx132, tx132⟩, ⟨x134, c135, rx134, tx134⟩, g136⟩ | ⟨rfl, ⟨x137, c138, rx137, tx137⟩, g139⟩
  · have g130 : (gi w122 1 (x128.toInt).toNat).toInt ≠ 32 := by have q := g130; simp only [c129] at q; omega
    have g131 : (x128.toInt = x118.toInt ∨ (gi w0 1 (x118.toInt).toNat).toInt = 32) := by have q := g131; simp only [c119, c129] at q; omega
    refine lv_pop hx hb dX12_numberHere_4 rfl ?_
    refine lv_aload_n hx hb dX12_numberHere_5 rfl (lv_at hl 0 rfl) ?_
    refine lv_aload_n hx hb dX12_numberHere_6 rfl (lv_at hl 0 rfl) ?_
    refine tk_geti hC hK hw hT hinX12 kM_at0 (by decide) rfl 14 (by decide) (List.mem_of_getElem? (i := 1) rfl) rfl rfl dX12_numberHere_7 (fun x143 c144 rx143 tx143 => ?_)
    refine wk_top x128 (c144.symm.trans c129) ?_
    refine tk_Vi hC hK hw hT hA hE hSR kM_at0 (by decide) rfl (k_X12_isDigit_2 l adK adV dC dI cy ad B (by omega) (by omega) qr s1   x128 (show 0 ≤ x128.toInt by omega) (show x128.toInt ≤ 399 by omega) w122 H.size hT ) (cwV 1 hC.2.2.2.2 gX12_numberHere_X12_isDigit rfl rfl rfl (by decide +kernel) ⟨Nat.le_of_ble_eq_true rfl, Nat.le_of_ble_eq_true rfl⟩) rfl hl.1 rfl (Nat.le_of_ble_eq_true rfl) dX12_numberHere_10 (fun r145 w147 H locs hp146 hw => ?_)
    obtain ⟨hT, k148, hg153⟩ := hp146
    have hF := hF.tr k148 (by decide)
    have c154 := k148.gi kM_at0 (by decide) c127
    have c155 := k148.gi kM_at0 (by decide) c129
    rcases hg153 with ⟨rfl, ⟨x149, c150, rx149, tx149⟩⟩ | ⟨rfl, ⟨x151, c152, rx151, tx151⟩⟩
    · have ex149 : x149.toInt = x126.toInt := by rw [← c154.symm.trans c150]
      refine lv_if_ne (tgt := 26) hx hb dX12_numberHere_13 (by decide) (fun c => absurd (by decide) c) (fun _ => ?_)
      refine lv_aload_n hx hb dX12_numberHere_16 rfl (lv_at hl 0 rfl) ?_
      refine lv_iconst (v := 0) hx hb dX12_numberHere_17 (by decide) ?_
      refine lv_aload_n hx hb dX12_numberHere_18 rfl (lv_at hl 0 rfl) ?_
      refine tk_geti hC hK hw hT hinX12 kM_at0 (by decide) rfl 14 (by decide) (List.mem_of_getElem? (i := 1) rfl) rfl rfl dX12_numberHere_19 (fun x156 c157 rx156 tx156 => ?_)
      refine wk_top x128 (c157.symm.trans c155) ?_
      refine tk_Vi hC hK hw hT hA hE hSR kM_at0 (by decide) rfl (k_X12_fails_1 l adK adV dC dI cy ad B (by omega) (by omega) qr s1   0 (by decide) (by decide) x128 (show 0 ≤ x128.toInt by omega) (show x128.toInt ≤ 400 by omega) w147 H.size hT ) (cwV 2 hC.2.2.2.2 gX12_numberHere_X12_fails rfl rfl rfl (by decide +kernel) ⟨Nat.le_of_ble_eq_true rfl, Nat.le_of_ble_eq_true rfl⟩) rfl hl.1 rfl (Nat.le_of_ble_eq_true rfl) dX12_numberHere_22 (fun r158 w160 H locs hp159 hw => ?_)
      obtain ⟨hT, k161, hg164⟩ := hp159
      have hF := hF.tr k161 (by decide)
      have c165 := k161.gi kM_at0 (by decide) c154
      have c166 := k161.gi kM_at0 (by decide) c155
      obtain ⟨rfl, ⟨x162, c163, rx162, tx162⟩⟩ := hg164
      exact tk_zret hC hr rfl hlocks hK ⟨hT, hF, (Or.inl ⟨rfl, ⟨x126, c165, (show 1 ≤ x126.toInt by omega), (show x126.toInt ≤ 400 by omega)⟩, ⟨x162, c163, (show 1 ≤ x162.toInt by omega), (show x162.toInt ≤ 3205 by omega)⟩⟩)⟩ hw dX12_numberHere_25
    · have ex151 : x151.toInt = x126.toInt := by rw [← c154.symm.trans c152]
      refine lv_if_ne (tgt := 26) hx hb dX12_numberHere_13 (by decide) (fun _ => ?_) (fun c => absurd c (by decide))
      refine lv_aload_n hx hb dX12_numberHere_26 rfl (lv_at hl 0 rfl) ?_
      refine tk_geti hC hK hw hT hinX12 kM_at0 (by decide) rfl 14 (by decide) (List.mem_of_getElem? (i := 1) rfl) rfl rfl dX12_numberHere_27 (fun x167 c168 rx167 tx167 => ?_)
      refine wk_top x128 (c168.symm.trans c155) ?_
      refine lv_istore_n (lv' := [(3, .int x128), (0, .ref (ad 0)), (1, .int 0), (2, .int a2)]) hx hb dX12_numberHere_30 rfl hl (by decide) rfl (fun ls hl => ?_)
      refine lv_iconst (v := 0) hx hb dX12_numberHere_31 (by decide) ?_
      refine lv_istore (lv' := [(4, .int 0), (3, .int x128), (0, .ref (ad 0)), (1, .int 0), (2, .int a2)]) hx hb dX12_numberHere_32 hl (by decide) rfl (fun ls hl => ?_)
      exact L34 ((400 - x128.toInt).toNat + 1) x128 0 x126 x128 H locs ls w147 (show (-1) ≤ a2.toInt by omega) (show a2.toInt ≤ 11 by omega) (show 0 ≤ x128.toInt by omega) (show x128.toInt ≤ 399 by omega) (show 1 ≤ x126.toInt by omega) (show x126.toInt ≤ 400 by omega) (show 0 ≤ x128.toInt by omega) (show x128.toInt ≤ 400 by omega) (Nat.lt_succ_self _) hw hT hF c154 c155 (lv_sub hl [2, 3, 4, 1, 0] rfl)
  · have g136 : (x134.toInt = x118.toInt ∨ (gi w0 1 (x118.toInt).toNat).toInt = 32) := by have q := g136; simp only [c119, c135] at q; omega
    refine lv_pop hx hb dX12_numberHere_4 rfl ?_
    refine lv_aload_n hx hb dX12_numberHere_5 rfl (lv_at hl 0 rfl) ?_
    refine lv_aload_n hx hb dX12_numberHere_6 rfl (lv_at hl 0 rfl) ?_
    refine tk_geti hC hK hw hT hinX12 kM_at0 (by decide) rfl 14 (by decide) (List.mem_of_getElem? (i := 1) rfl) rfl rfl dX12_numberHere_7 (fun x169 c170 rx169 tx169 => ?_)
    refine wk_top x134 (c170.symm.trans c135) ?_
    refine tk_Vi hC hK hw hT hA hE hSR kM_at0 (by decide) rfl (k_X12_isDigit_3 l adK adV dC dI cy ad B (by omega) (by omega) qr s1   x134 (show 1 ≤ x134.toInt by omega) (show x134.toInt ≤ 399 by omega) w122 H.size hT ) (cwV 1 hC.2.2.2.2 gX12_numberHere_X12_isDigit rfl rfl rfl (by decide +kernel) ⟨Nat.le_of_ble_eq_true rfl, Nat.le_of_ble_eq_true rfl⟩) rfl hl.1 rfl (Nat.le_of_ble_eq_true rfl) dX12_numberHere_10 (fun r171 w173 H locs hp172 hw => ?_)
    obtain ⟨hT, k174, hg179⟩ := hp172
    have hF := hF.tr k174 (by decide)
    have c180 := k174.gi kM_at0 (by decide) c133
    have c181 := k174.gi kM_at0 (by decide) c135
    rcases hg179 with ⟨rfl, ⟨x175, c176, rx175, tx175⟩⟩ | ⟨rfl, ⟨x177, c178, rx177, tx177⟩⟩
    · have ex175 : x175.toInt = x132.toInt := by rw [← c180.symm.trans c176]
      refine lv_if_ne (tgt := 26) hx hb dX12_numberHere_13 (by decide) (fun c => absurd (by decide) c) (fun _ => ?_)
      refine lv_aload_n hx hb dX12_numberHere_16 rfl (lv_at hl 0 rfl) ?_
      refine lv_iconst (v := 0) hx hb dX12_numberHere_17 (by decide) ?_
      refine lv_aload_n hx hb dX12_numberHere_18 rfl (lv_at hl 0 rfl) ?_
      refine tk_geti hC hK hw hT hinX12 kM_at0 (by decide) rfl 14 (by decide) (List.mem_of_getElem? (i := 1) rfl) rfl rfl dX12_numberHere_19 (fun x182 c183 rx182 tx182 => ?_)
      refine wk_top x134 (c183.symm.trans c181) ?_
      refine tk_Vi hC hK hw hT hA hE hSR kM_at0 (by decide) rfl (k_X12_fails_1 l adK adV dC dI cy ad B (by omega) (by omega) qr s1   0 (by decide) (by decide) x134 (show 0 ≤ x134.toInt by omega) (show x134.toInt ≤ 400 by omega) w173 H.size hT ) (cwV 2 hC.2.2.2.2 gX12_numberHere_X12_fails rfl rfl rfl (by decide +kernel) ⟨Nat.le_of_ble_eq_true rfl, Nat.le_of_ble_eq_true rfl⟩) rfl hl.1 rfl (Nat.le_of_ble_eq_true rfl) dX12_numberHere_22 (fun r184 w186 H locs hp185 hw => ?_)
      obtain ⟨hT, k187, hg190⟩ := hp185
      have hF := hF.tr k187 (by decide)
      have c191 := k187.gi kM_at0 (by decide) c180
      have c192 := k187.gi kM_at0 (by decide) c181
      obtain ⟨rfl, ⟨x188, c189, rx188, tx188⟩⟩ := hg190
      exact tk_zret hC hr rfl hlocks hK ⟨hT, hF, (Or.inl ⟨rfl, ⟨x132, c191, (show 1 ≤ x132.toInt by omega), (show x132.toInt ≤ 400 by omega)⟩, ⟨x188, c189, (show 1 ≤ x188.toInt by omega), (show x188.toInt ≤ 3205 by omega)⟩⟩)⟩ hw dX12_numberHere_25
    · have ex177 : x177.toInt = x132.toInt := by rw [← c180.symm.trans c178]
      refine lv_if_ne (tgt := 26) hx hb dX12_numberHere_13 (by decide) (fun _ => ?_) (fun c => absurd c (by decide))
      refine lv_aload_n hx hb dX12_numberHere_26 rfl (lv_at hl 0 rfl) ?_
      refine tk_geti hC hK hw hT hinX12 kM_at0 (by decide) rfl 14 (by decide) (List.mem_of_getElem? (i := 1) rfl) rfl rfl dX12_numberHere_27 (fun x193 c194 rx193 tx193 => ?_)
      refine wk_top x134 (c194.symm.trans c181) ?_
      refine lv_istore_n (lv' := [(3, .int x134), (0, .ref (ad 0)), (1, .int 0), (2, .int a2)]) hx hb dX12_numberHere_30 rfl hl (by decide) rfl (fun ls hl => ?_)
      refine lv_iconst (v := 0) hx hb dX12_numberHere_31 (by decide) ?_
      refine lv_istore (lv' := [(4, .int 0), (3, .int x134), (0, .ref (ad 0)), (1, .int 0), (2, .int a2)]) hx hb dX12_numberHere_32 hl (by decide) rfl (fun ls hl => ?_)
      exact L34 ((400 - x134.toInt).toNat + 1) x134 0 x132 x134 H locs ls w173 (show (-1) ≤ a2.toInt by omega) (show a2.toInt ≤ 11 by omega) (show 0 ≤ x134.toInt by omega) (show x134.toInt ≤ 399 by omega) (show 1 ≤ x132.toInt by omega) (show x132.toInt ≤ 400 by omega) (show 0 ≤ x134.toInt by omega) (show x134.toInt ≤ 400 by omega) (Nat.lt_succ_self _) hw hT hF c180 c181 (lv_sub hl [2, 3, 4, 1, 0] rfl)
  · obtain ⟨x141, c142, rx141, tx141⟩ := hT.rdi (lo := 0) (hi := 400) (k := 14) kM_at0 (by decide) rfl
    have g139 : (x141.toInt = x118.toInt ∨ (gi w0 1 (x118.toInt).toNat).toInt = 32) := by have q := g139; simp only [c119, c142] at q; omega
    refine lv_pop hx hb dX12_numberHere_4 rfl ?_
    refine lv_aload_n hx hb dX12_numberHere_5 rfl (lv_at hl 0 rfl) ?_
    refine lv_aload_n hx hb dX12_numberHere_6 rfl (lv_at hl 0 rfl) ?_
    refine tk_geti hC hK hw hT hinX12 kM_at0 (by decide) rfl 14 (by decide) (List.mem_of_getElem? (i := 1) rfl) rfl rfl dX12_numberHere_7 (fun x195 c196 rx195 tx195 => ?_)
    refine wk_top x141 (c196.symm.trans c142) ?_
    refine tk_Vi hC hK hw hT hA hE hSR kM_at0 (by decide) rfl (k_X12_isDigit_1 l adK adV dC dI cy ad B (by omega) (by omega) qr s1   x141 (show 0 ≤ x141.toInt by omega) (show x141.toInt ≤ 400 by omega) w122 H.size hT ) (cwV 1 hC.2.2.2.2 gX12_numberHere_X12_isDigit rfl rfl rfl (by decide +kernel) ⟨Nat.le_of_ble_eq_true rfl, Nat.le_of_ble_eq_true rfl⟩) rfl hl.1 rfl (Nat.le_of_ble_eq_true rfl) dX12_numberHere_10 (fun r197 w199 H locs hp198 hw => ?_)
    obtain ⟨hT, k200, hg206⟩ := hp198
    have hF := hF.tr k200 (by decide)
    have c207 := k200.gi kM_at0 (by decide) c138
    have c208 := k200.gi kM_at0 (by decide) c142
    rcases hg206 with ⟨rfl, ⟨x201, c202, rx201, tx201⟩⟩ | ⟨rfl, g203, ⟨x204, c205, rx204, tx204⟩⟩
    · have ex201 : x201.toInt = x137.toInt := by rw [← c207.symm.trans c202]
      refine lv_if_ne (tgt := 26) hx hb dX12_numberHere_13 (by decide) (fun c => absurd (by decide) c) (fun _ => ?_)
      refine lv_aload_n hx hb dX12_numberHere_16 rfl (lv_at hl 0 rfl) ?_
      refine lv_iconst (v := 0) hx hb dX12_numberHere_17 (by decide) ?_
      refine lv_aload_n hx hb dX12_numberHere_18 rfl (lv_at hl 0 rfl) ?_
      refine tk_geti hC hK hw hT hinX12 kM_at0 (by decide) rfl 14 (by decide) (List.mem_of_getElem? (i := 1) rfl) rfl rfl dX12_numberHere_19 (fun x209 c210 rx209 tx209 => ?_)
      refine wk_top x141 (c210.symm.trans c208) ?_
      refine tk_Vi hC hK hw hT hA hE hSR kM_at0 (by decide) rfl (k_X12_fails_1 l adK adV dC dI cy ad B (by omega) (by omega) qr s1   0 (by decide) (by decide) x141 (show 0 ≤ x141.toInt by omega) (show x141.toInt ≤ 400 by omega) w199 H.size hT ) (cwV 2 hC.2.2.2.2 gX12_numberHere_X12_fails rfl rfl rfl (by decide +kernel) ⟨Nat.le_of_ble_eq_true rfl, Nat.le_of_ble_eq_true rfl⟩) rfl hl.1 rfl (Nat.le_of_ble_eq_true rfl) dX12_numberHere_22 (fun r211 w213 H locs hp212 hw => ?_)
      obtain ⟨hT, k214, hg217⟩ := hp212
      have hF := hF.tr k214 (by decide)
      have c218 := k214.gi kM_at0 (by decide) c207
      have c219 := k214.gi kM_at0 (by decide) c208
      obtain ⟨rfl, ⟨x215, c216, rx215, tx215⟩⟩ := hg217
      exact tk_zret hC hr rfl hlocks hK ⟨hT, hF, (Or.inr (Or.inl ⟨rfl, ⟨x137, c218, (show 0 ≤ x137.toInt by omega), (show x137.toInt ≤ 400 by omega)⟩, ⟨x215, c216, (show 1 ≤ x215.toInt by omega), (show x215.toInt ≤ 3205 by omega)⟩⟩))⟩ hw dX12_numberHere_25
    · have ex204 : x204.toInt = x137.toInt := by rw [← c207.symm.trans c205]
      refine lv_if_ne (tgt := 26) hx hb dX12_numberHere_13 (by decide) (fun _ => ?_) (fun c => absurd c (by decide))
      refine lv_aload_n hx hb dX12_numberHere_26 rfl (lv_at hl 0 rfl) ?_
      refine tk_geti hC hK hw hT hinX12 kM_at0 (by decide) rfl 14 (by decide) (List.mem_of_getElem? (i := 1) rfl) rfl rfl dX12_numberHere_27 (fun x220 c221 rx220 tx220 => ?_)
      refine wk_top x141 (c221.symm.trans c208) ?_
      refine lv_istore_n (lv' := [(3, .int x141), (0, .ref (ad 0)), (1, .int 0), (2, .int a2)]) hx hb dX12_numberHere_30 rfl hl (by decide) rfl (fun ls hl => ?_)
      refine lv_iconst (v := 0) hx hb dX12_numberHere_31 (by decide) ?_
      refine lv_istore (lv' := [(4, .int 0), (3, .int x141), (0, .ref (ad 0)), (1, .int 0), (2, .int a2)]) hx hb dX12_numberHere_32 hl (by decide) rfl (fun ls hl => ?_)
      exact L34 ((400 - x141.toInt).toNat + 1) x141 0 x137 x141 H locs ls w199 (show (-1) ≤ a2.toInt by omega) (show a2.toInt ≤ 11 by omega) (show 0 ≤ x141.toInt by omega) (show x141.toInt ≤ 399 by omega) (show 1 ≤ x137.toInt by omega) (show x137.toInt ≤ 400 by omega) (show 0 ≤ x141.toInt by omega) (show x141.toInt ≤ 400 by omega) (Nat.lt_succ_self _) hw hT hF c207 c208 (lv_sub hl [2, 3, 4, 1, 0] rfl)
abbrev P_X12_in_2 (ad : Nat → Nat) (cy : Nat → ClassId) (B : Int) (qr : Nat) (s1 : Int) (a0 : Int64) (w0 : va_W) : Int32 → va_W → Prop := fun r u => TW ksM ad cy B qr 12 u ∧ FE ksM ([] : List (Nat × Nat × Nat)) w0 u ∧ ((r = 0) ∨ (r = 1 ∧ 0 ≤ a0.toInt ∧ a0.toInt ≤ 23))
set_option maxHeartbeats 4000000 in
set_option maxRecDepth 100000 in
theorem k_X12_in_2 (l : Launch) (adK adV : Nat → Nat) (dC : Nat → ClassId) (dI : Nat → Nat → Nat) (cy : Nat → ClassId) (ad : Nat → Nat) (B : Int) (hB0 : 100000 ≤ B) (hB1 : B ≤ 1073741824) (qr : Nat) (s1 : Int)  (a0 : Int64) (ra0 : (-2147483648) ≤ a0.toInt) (ta0 : a0.toInt ≤ 2147483647) (w0 : va_W) (sz : Nat) (hT : TW ksM ad cy B qr 12 w0)  : Met l yX12_in wsX12_in ({ frames := 1, cells := 0, slots := 0, locals := 12 }) (va_Pc [.long a0, .long 0, .long 23] (wpreS adK adV dC dI cy sz w0)) (va_Qi (P_X12_in_2 ad cy B qr s1 a0 w0) (fun u : va_W => wpost dC dI cy (va_A w0 sz) u) (va_A w0 sz)) 0 0 (va_A w0 sz) := by
  refine Met.ofW (cc := cX12_in) (maxL := 6) (ret := (some .boolean)) (by decide) rfl ?_
  intro p e s m args below meth c s₁ Bk hml hv
  obtain ⟨rfl, ⟨hsz, hP, hK, hD0⟩, hE, hSR⟩ := hv
  have hx := Bk.exec
  have hb := Bk.bytes
  have hr := Bk.returns
  have hlocks := Bk.notSynchronized
  have hC : CallFix p m c cX12_in 6 s _ wsX12_in RX12 := ⟨hx, hb, hml, findClass_of_methodNamed Bk.named, atoms_spec (ws := wsX12_in) Bk.pre⟩
  subst hsz
  have hD := hD0.self (sz := s.heap.size)
  generalize hAe : va_A w0 s.heap.size = A at hD hE ⊢
  have hA : ∀ q : Nat, s.heap.size ≤ q → A q := fun q h => by rw [← hAe]; exact Or.inr h
  have hw : Wd dC dI A s.heap s.heap [] w0 := ⟨hP, hD, va_S.rf⟩
  have hF : FE ksM ([] : List (Nat × Nat × Nat)) w0 w0 := FE.rf
  have hl := lv_entry ([.long a0, .long 0, .long 23]) (n := 6) (Nat.le_of_ble_eq_true rfl)
  rw [lg_entry_eq]
  generalize (lg_sl ([.long a0, .long 0, .long 23]) ++ List.replicate (6 - (lg_sl ([.long a0, .long 0, .long 23])).length) Slot.unset).toArray = ls at hl ⊢
  have hl : lv_has ls 6 [(0, .long a0), (2, .long 0), (4, .long 23)] := hl
  generalize hloc : ([] : List Loc) = locs at hw ⊢
  have J17 : ∀ (H : Heap) (locs : List Loc) (ls : Array Slot) (w1 : va_W), (-2147483648) ≤ a0.toInt → a0.toInt ≤ 2147483647 → Wd dC dI A s.heap H locs w1 → TW ksM ad cy B qr 12 w1 → FE ksM ([] : List (Nat × Nat × Nat)) w0 w1 → lv_has ls 6 [(0, .long a0), (2, .long 0), (4, .long 23)] → W p l e ({ frames := 1, cells := 0, slots := 0, locals := 12 }) s m (List.toArray [.long a0, .long 0, .long 23]) below meth c H locs 0 0 (MQ below (va_Qi (P_X12_in_2 ad cy B qr s1 a0 w0) (fun u : va_W => wpost dC dI cy A u) A) (List.toArray [.long a0, .long 0, .long 23]) s 0 0 A) (F0 m 17 ls []) := by
    intro H locs ls w1 r2 t3 hw hT hF hl
    refine lv_iconst (v := 0) hx hb dX12_in_17 (by decide) ?_
    exact tk_zret hC hr rfl hlocks hK ⟨hT, hF, (Or.inl rfl)⟩ hw dX12_in_18
  refine lv_lload_n hx hb dX12_in_0 rfl (lv_at hl 0 rfl) ?_
  refine lv_lload_n hx hb dX12_in_1 rfl (lv_at hl 1 rfl) ?_
  refine W.lcmp hx hb dX12_in_2 ?_
  refine lv_if_lt (tgt := 17) hx hb dX12_in_3 (by decide) (fun c4 => ?_) (fun c4 => ?_)
  · have c4 : a0.toInt < (0 : Int) := wk_cltT c4
    exact J17  s.heap locs ls w0 (show (-2147483648) ≤ a0.toInt by omega) (show a0.toInt ≤ 2147483647 by omega)  hw hT hF  (lv_sub hl [0, 1, 2] rfl)
  · have c4 : (0 : Int) ≤ a0.toInt := wk_cltF c4
    refine lv_lload_n hx hb dX12_in_6 rfl (lv_at hl 0 rfl) ?_
    refine lv_lload hx hb dX12_in_7 (lv_at hl 2 rfl) ?_
    refine W.lcmp hx hb dX12_in_9 ?_
    refine lv_if_gt (tgt := 17) hx hb dX12_in_10 (by decide) (fun c5 => ?_) (fun c5 => ?_)
    · have c5 : (23 : Int) < a0.toInt := wk_cgtT c5
      exact J17  s.heap locs ls w0 (show (-2147483648) ≤ a0.toInt by omega) (show a0.toInt ≤ 2147483647 by omega)  hw hT hF  (lv_sub hl [0, 1, 2] rfl)
    · have c5 : a0.toInt ≤ (23 : Int) := wk_cgtF c5
      refine lv_iconst (v := 1) hx hb dX12_in_13 (by decide) ?_
      refine lv_goto (tgt := 18) hx hb dX12_in_14 (by decide) ?_
      exact tk_zret hC hr rfl hlocks hK ⟨hT, hF, (Or.inr ⟨rfl, (show 0 ≤ a0.toInt by omega), (show a0.toInt ≤ 23 by omega)⟩)⟩ hw dX12_in_18
abbrev P_X12_numberHere_2 (ad : Nat → Nat) (cy : Nat → ClassId) (B : Int) (qr : Nat) (s1 : Int)  (w0 : va_W) : Int32 → va_W → Prop := fun r u => TW ksM ad cy B qr 12 u ∧ FE ksM [(12, 14, 14), (12, 15, 15), (12, 16, 16)] w0 u ∧ ((r = 0 ∧ (∃ y : Int32, gi u 0 1 = y ∧ 1 ≤ y.toInt ∧ y.toInt ≤ 400) ∧ (∃ y : Int32, gi u 0 15 = y ∧ 1 ≤ y.toInt ∧ y.toInt ≤ 3205)) ∨ (r = 0 ∧ (∃ y : Int32, gi u 0 1 = y ∧ 0 ≤ y.toInt ∧ y.toInt ≤ 400) ∧ (∃ y : Int32, gi u 0 15 = y ∧ 1 ≤ y.toInt ∧ y.toInt ≤ 3205)) ∨ (r = 1 ∧ (∃ y : Int32, gi u 0 1 = y ∧ 1 ≤ y.toInt ∧ y.toInt ≤ 400) ∧ (∃ y : Int32, gi u 0 16 = y ∧ 0 ≤ y.toInt ∧ y.toInt ≤ 23)))
set_option maxHeartbeats 4000000 in
set_option maxRecDepth 100000 in
theorem k_X12_numberHere_2 (l : Launch) (adK adV : Nat → Nat) (dC : Nat → ClassId) (dI : Nat → Nat → Nat) (cy : Nat → ClassId) (ad : Nat → Nat) (B : Int) (hB0 : 100000 ≤ B) (hB1 : B ≤ 1073741824) (qr : Nat) (s1 : Int)   (w0 : va_W) (sz : Nat) (hT : TW ksM ad cy B qr 12 w0)  : Met l yX12_numberHere wsX12_numberHere ({ frames := 2, cells := 0, slots := 0, locals := 37 }) (va_Pc [.ref (ad 0), .int 0, .int 23] (wpreS adK adV dC dI cy sz w0)) (va_Qi (P_X12_numberHere_2 ad cy B qr s1  w0) (fun u : va_W => wpost dC dI cy (va_A w0 sz) u) (va_A w0 sz)) 0 0 (va_A w0 sz) := by
  refine Met.ofW (cc := cX12_numberHere) (maxL := 5) (ret := (some .boolean)) (by decide) rfl ?_
  intro p e s m args below meth c s₁ Bk hml hv
  obtain ⟨rfl, ⟨hsz, hP, hK, hD0⟩, hE, hSR⟩ := hv
  have hx := Bk.exec
  have hb := Bk.bytes
  have hr := Bk.returns
  have hlocks := Bk.notSynchronized
  have hC : CallFix p m c cX12_numberHere 5 s _ wsX12_numberHere RX12 := ⟨hx, hb, hml, findClass_of_methodNamed Bk.named, atoms_spec (ws := wsX12_numberHere) Bk.pre⟩
  subst hsz
  have hD := hD0.self (sz := s.heap.size)
  generalize hAe : va_A w0 s.heap.size = A at hD hE ⊢
  have hA : ∀ q : Nat, s.heap.size ≤ q → A q := fun q h => by rw [← hAe]; exact Or.inr h
  have hw : Wd dC dI A s.heap s.heap [] w0 := ⟨hP, hD, va_S.rf⟩
  have hF : FE ksM [(12, 14, 14), (12, 15, 15), (12, 16, 16)] w0 w0 := FE.rf
  have hl := lv_entry ([.ref (ad 0), .int 0, .int 23]) (n := 5) (Nat.le_of_ble_eq_true rfl)
  rw [lg_entry_eq]
  generalize (lg_sl ([.ref (ad 0), .int 0, .int 23]) ++ List.replicate (5 - (lg_sl ([.ref (ad 0), .int 0, .int 23])).length) Slot.unset).toArray = ls at hl ⊢
  have hl : lv_has ls 5 [(0, .ref (ad 0)), (1, .int 0), (2, .int 23)] := hl
  generalize hloc : ([] : List Loc) = locs at hw ⊢
  have hinX12 : ∀ w ∈ u_ws RX12 TX12 42, w ∈ wsX12_numberHere := fun _ h => List.mem_cons_of_mem _ (List.mem_append_right _ (h))
  have J126 : ∀ (v126_3 : Int32) (v126_4 : Int32) (f126_0_1 : Int32) (f126_0_14 : Int32) (f126_0_16 : Int32) (H : Heap) (locs : List Loc) (ls : Array Slot) (w1 : va_W), 0 ≤ v126_3.toInt → v126_3.toInt ≤ 399 → 0 ≤ v126_4.toInt → v126_4.toInt ≤ 23 → 1 ≤ f126_0_1.toInt → f126_0_1.toInt ≤ 400 → 0 ≤ f126_0_14.toInt → f126_0_14.toInt ≤ 400 → 0 ≤ f126_0_16.toInt → f126_0_16.toInt ≤ 23 → Wd dC dI A s.heap H locs w1 → TW ksM ad cy B qr 12 w1 → FE ksM [(12, 14, 14), (12, 15, 15), (12, 16, 16)] w0 w1 → gi w1 0 1 = f126_0_1 → gi w1 0 14 = f126_0_14 → gi w1 0 16 = f126_0_16 → lv_has ls 5 [(0, .ref (ad 0)), (1, .int 0), (2, .int 23), (3, .int v126_3), (4, .int v126_4)] → W p l e ({ frames := 2, cells := 0, slots := 0, locals := 37 }) s m (List.toArray [.ref (ad 0), .int 0, .int 23]) below meth c H locs 0 0 (MQ below (va_Qi (P_X12_numberHere_2 ad cy B qr s1  w0) (fun u : va_W => wpost dC dI cy A u) A) (List.toArray [.ref (ad 0), .int 0, .int 23]) s 0 0 A) (F0 m 126 ls []) := by
    intro v126_3 v126_4 f126_0_1 f126_0_14 f126_0_16 H locs ls w1 r2 t3 r4 t5 r6 t7 r9 t10 r12 t13 hw hT hF c8 c11 c14 hl
    refine lv_iconst (v := 1) hx hb dX12_numberHere_126 (by decide) ?_
    refine lv_goto (tgt := 131) hx hb dX12_numberHere_127 (by decide) ?_
    exact tk_zret hC hr rfl hlocks hK ⟨hT, hF, (Or.inr (Or.inr ⟨rfl, ⟨f126_0_1, c8, (show 1 ≤ f126_0_1.toInt by omega), (show f126_0_1.toInt ≤ 400 by omega)⟩, ⟨f126_0_16, c14, (show 0 ≤ f126_0_16.toInt by omega), (show f126_0_16.toInt ≤ 23 by omega)⟩⟩))⟩ hw dX12_numberHere_131
  have J117 : ∀ (v117_3 : Int32) (v117_4 : Int32) (f117_0_1 : Int32) (f117_0_14 : Int32) (f117_0_16 : Int32) (H : Heap) (locs : List Loc) (ls : Array Slot) (w15 : va_W), 0 ≤ v117_3.toInt → v117_3.toInt ≤ 399 → 1 ≤ f117_0_1.toInt → f117_0_1.toInt ≤ 400 → 0 ≤ f117_0_14.toInt → f117_0_14.toInt ≤ 400 → Wd dC dI A s.heap H locs w15 → TW ksM ad cy B qr 12 w15 → FE ksM [(12, 14, 14), (12, 15, 15), (12, 16, 16)] w0 w15 → gi w15 0 1 = f117_0_1 → gi w15 0 14 = f117_0_14 → gi w15 0 16 = f117_0_16 → lv_has ls 5 [(0, .ref (ad 0)), (1, .int 0), (2, .int 23), (3, .int v117_3), (4, .int v117_4)] → W p l e ({ frames := 2, cells := 0, slots := 0, locals := 37 }) s m (List.toArray [.ref (ad 0), .int 0, .int 23]) below meth c H locs 0 0 (MQ below (va_Qi (P_X12_numberHere_2 ad cy B qr s1  w0) (fun u : va_W => wpost dC dI cy A u) A) (List.toArray [.ref (ad 0), .int 0, .int 23]) s 0 0 A) (F0 m 117 ls []) := by
    intro v117_3 v117_4 f117_0_1 f117_0_14 f117_0_16 H locs ls w15 r16 t17 r18 t19 r21 t22 hw hT hF c20 c23 c24 hl
    refine lv_aload_n hx hb dX12_numberHere_117 rfl (lv_at hl 0 rfl) ?_
    refine lv_iconst (v := 1) hx hb dX12_numberHere_118 (by decide) ?_
    refine lv_iload_n hx hb dX12_numberHere_119 rfl (lv_at hl 3 rfl) ?_
    refine tk_Vi hC hK hw hT hA hE hSR kM_at0 (by decide) rfl (k_X12_fails_1 l adK adV dC dI cy ad B (by omega) (by omega) qr s1   1 (by decide) (by decide) v117_3 (show 0 ≤ v117_3.toInt by omega) (show v117_3.toInt ≤ 400 by omega) w15 H.size hT ) (cwV 2 hC.2.2.2.2 gX12_numberHere_X12_fails rfl rfl rfl (by decide +kernel) ⟨Nat.le_of_ble_eq_true rfl, Nat.le_of_ble_eq_true rfl⟩) rfl hl.1 rfl (Nat.le_of_ble_eq_true rfl) dX12_numberHere_120 (fun r25 w27 H locs hp26 hw => ?_)
    obtain ⟨hT, k28, hg31⟩ := hp26
    have hF := hF.tr k28 (by decide)
    have c32 := k28.gi kM_at0 (by decide) c20
    have c33 := k28.gi kM_at0 (by decide) c23
    have c34 := k28.gi kM_at0 (by decide) c24
    obtain ⟨rfl, ⟨x29, c30, rx29, tx29⟩⟩ := hg31
    refine lv_if_eq (tgt := 130) hx hb dX12_numberHere_123 (by decide) (fun _ => ?_) (fun c => absurd (by decide) c)
    refine lv_iconst (v := 0) hx hb dX12_numberHere_130 (by decide) ?_
    exact tk_zret hC hr rfl hlocks hK ⟨hT, hF, (Or.inl ⟨rfl, ⟨f117_0_1, c32, (show 1 ≤ f117_0_1.toInt by omega), (show f117_0_1.toInt ≤ 400 by omega)⟩, ⟨x29, c30, (show 1 ≤ x29.toInt by omega), (show x29.toInt ≤ 3205 by omega)⟩⟩)⟩ hw dX12_numberHere_131
  have L34 : ∀ (n34 : Nat) (v34_3 : Int32) (v34_4 : Int32) (f34_0_1 : Int32) (f34_0_14 : Int32) (H : Heap) (locs : List Loc) (ls : Array Slot) (w35 : va_W), 0 ≤ v34_3.toInt → v34_3.toInt ≤ 399 → 1 ≤ f34_0_1.toInt → f34_0_1.toInt ≤ 400 → 0 ≤ f34_0_14.toInt → f34_0_14.toInt ≤ 400 → (400 - f34_0_14.toInt).toNat < n34 → Wd dC dI A s.heap H locs w35 → TW ksM ad cy B qr 12 w35 → FE ksM [(12, 14, 14), (12, 15, 15), (12, 16, 16)] w0 w35 → gi w35 0 1 = f34_0_1 → gi w35 0 14 = f34_0_14 → lv_has ls 5 [(0, .ref (ad 0)), (1, .int 0), (2, .int 23), (3, .int v34_3), (4, .int v34_4)] → W p l e ({ frames := 2, cells := 0, slots := 0, locals := 37 }) s m (List.toArray [.ref (ad 0), .int 0, .int 23]) below meth c H locs 0 0 (MQ below (va_Qi (P_X12_numberHere_2 ad cy B qr s1  w0) (fun u : va_W => wpost dC dI cy A u) A) (List.toArray [.ref (ad 0), .int 0, .int 23]) s 0 0 A) (F0 m 34 ls []) := by
    intro n34
    induction n34 with
    | zero => intro v34_3 v34_4 f34_0_1 f34_0_14 H locs ls w35 r36 t37 r38 t39 r41 t42 hm34 hw hT hF c40 c43 hl; omega
    | succ n34 ih34 =>
      intro v34_3 v34_4 f34_0_1 f34_0_14 H locs ls w35 r36 t37 r38 t39 r41 t42 hm34 hw hT hF c40 c43 hl
      have J75 : ∀ (v75_4 : Int32) (H : Heap) (locs : List Loc) (ls : Array Slot) (w44 : va_W), 0 ≤ v34_3.toInt → v34_3.toInt ≤ 399 → 1 ≤ f34_0_1.toInt → f34_0_1.toInt ≤ 400 → 0 ≤ f34_0_14.toInt → f34_0_14.toInt ≤ 399 → Wd dC dI A s.heap H locs w44 → TW ksM ad cy B qr 12 w44 → FE ksM [(12, 14, 14), (12, 15, 15), (12, 16, 16)] w0 w44 → gi w44 0 1 = f34_0_1 → gi w44 0 14 = f34_0_14 → lv_has ls 5 [(0, .ref (ad 0)), (1, .int 0), (2, .int 23), (3, .int v34_3), (4, .int v75_4)] → W p l e ({ frames := 2, cells := 0, slots := 0, locals := 37 }) s m (List.toArray [.ref (ad 0), .int 0, .int 23]) below meth c H locs 0 0 (MQ below (va_Qi (P_X12_numberHere_2 ad cy B qr s1  w0) (fun u : va_W => wpost dC dI cy A u) A) (List.toArray [.ref (ad 0), .int 0, .int 23]) s 0 0 A) (F0 m 75 ls []) := by
        intro v75_4 H locs ls w44 r45 t46 r47 t48 r50 t51 hw hT hF c49 c52 hl
        refine lv_aload_n hx hb dX12_numberHere_75 rfl (lv_at hl 0 rfl) ?_
        refine lv_dup hx hb dX12_numberHere_76 rfl ?_
        refine tk_geti hC hK hw hT hinX12 kM_at0 (by decide) rfl 14 (by decide) (List.mem_of_getElem? (i := 1) rfl) rfl rfl dX12_numberHere_77 (fun x53 c54 rx53 tx53 => ?_)
        refine wk_top f34_0_14 (c54.symm.trans c52) ?_
        refine lv_iconst (v := 1) hx hb dX12_numberHere_80 (by decide) ?_
        refine lv_iadd hx hb dX12_numberHere_81 ?_
        refine lv_topi (fun x55 ex55 => ?_)
        have ex55 : x55.toInt = f34_0_14.toInt + (1 : Int) := by rw [ex55]; exact wk_add (show (-2147483648) ≤ f34_0_14.toInt + (1 : Int) by omega) (show f34_0_14.toInt + (1 : Int) ≤ 2147483647 by omega)
        refine tk_puti hC hK hw hT hinX12 tyX12_ok nmX12 kM_at0 (by decide) rfl rfl 14 (by decide) (List.mem_of_getElem? (i := 1) rfl) rfl rfl rfl rfl (show 0 ≤ x55.toInt by omega) (show x55.toInt ≤ 400 by omega) dX12_numberHere_82 (fun H locs w56 hw hT k58 c57 => ?_)
        have hF := hF.put kM_at0 (k := 14) (by decide) k58
        have c59 := k58.gi (Or.inr (by decide)) c49
        refine lv_goto (tgt := 34) hx hb dX12_numberHere_85 (by decide) ?_
        exact ih34 v34_3 v75_4 f34_0_1 x55 H locs ls w56 (show 0 ≤ v34_3.toInt by omega) (show v34_3.toInt ≤ 399 by omega) (show 1 ≤ f34_0_1.toInt by omega) (show f34_0_1.toInt ≤ 400 by omega) (show 0 ≤ x55.toInt by omega) (show x55.toInt ≤ 400 by omega) (show (400 - x55.toInt).toNat < n34 by omega) hw hT hF c59 c57 (lv_sub hl [0, 1, 2, 3, 4] rfl)
      refine lv_aload_n hx hb dX12_numberHere_34 rfl (lv_at hl 0 rfl) ?_
      refine lv_aload_n hx hb dX12_numberHere_35 rfl (lv_at hl 0 rfl) ?_
      refine tk_geti hC hK hw hT hinX12 kM_at0 (by decide) rfl 14 (by decide) (List.mem_of_getElem? (i := 1) rfl) rfl rfl dX12_numberHere_36 (fun x60 c61 rx60 tx60 => ?_)
      refine wk_top f34_0_14 (c61.symm.trans c43) ?_
      refine tk_Vi hC hK hw hT hA hE hSR kM_at0 (by decide) rfl (k_X12_isDigit_1 l adK adV dC dI cy ad B (by omega) (by omega) qr s1   f34_0_14 (show 0 ≤ f34_0_14.toInt by omega) (show f34_0_14.toInt ≤ 400 by omega) w35 H.size hT ) (cwV 1 hC.2.2.2.2 gX12_numberHere_X12_isDigit rfl rfl rfl (by decide +kernel) ⟨Nat.le_of_ble_eq_true rfl, Nat.le_of_ble_eq_true rfl⟩) rfl hl.1 rfl (Nat.le_of_ble_eq_true rfl) dX12_numberHere_39 (fun r62 w64 H locs hp63 hw => ?_)
      obtain ⟨hT, k65, hg71⟩ := hp63
      have hF := hF.tr k65 (by decide)
      have c72 := k65.gi kM_at0 (by decide) c40
      have c73 := k65.gi kM_at0 (by decide) c43
      rcases hg71 with ⟨rfl, ⟨x66, c67, rx66, tx66⟩⟩ | ⟨rfl, g68, ⟨x69, c70, rx69, tx69⟩⟩
      · have ex66 : x66.toInt = f34_0_1.toInt := by rw [← c72.symm.trans c67]
        refine lv_if_eq (tgt := 88) hx hb dX12_numberHere_42 (by decide) (fun _ => ?_) (fun c => absurd (by decide) c)
        refine lv_aload_n hx hb dX12_numberHere_88 rfl (lv_at hl 0 rfl) ?_
        refine lv_iload hx hb dX12_numberHere_89 (lv_at hl 4 rfl) ?_
        refine tk_puti hC hK hw hT hinX12 tyX12_ok nmX12 kM_at0 (by decide) rfl rfl 16 (by decide) (List.mem_of_getElem? (i := 3) rfl) rfl rfl rfl rfl (wk_i32 v34_4).1 (wk_i32 v34_4).2 dX12_numberHere_91 (fun H locs w74 hw hT k76 c75 => ?_)
        have hF := hF.put kM_at0 (k := 16) (by decide) k76
        have c77 := k76.gi (Or.inr (by decide)) c72
        have c78 := k76.gi (Or.inr (by decide)) c73
        refine lv_aload_n hx hb dX12_numberHere_94 rfl (lv_at hl 0 rfl) ?_
        refine tk_geti hC hK hw hT hinX12 kM_at0 (by decide) rfl 14 (by decide) (List.mem_of_getElem? (i := 1) rfl) rfl rfl dX12_numberHere_95 (fun x79 c80 rx79 tx79 => ?_)
        refine wk_top f34_0_14 (c80.symm.trans c78) ?_
        refine lv_iload_n hx hb dX12_numberHere_98 rfl (lv_at hl 3 rfl) ?_
        refine lv_isub hx hb dX12_numberHere_99 ?_
        refine lv_topi (fun x81 ex81 => ?_)
        have ex81 : x81.toInt = f34_0_14.toInt - v34_3.toInt := by rw [ex81]; exact wk_sub (show (-2147483648) ≤ f34_0_14.toInt - v34_3.toInt by omega) (show f34_0_14.toInt - v34_3.toInt ≤ 2147483647 by omega)
        refine lv_iconst (v := 5) hx hb dX12_numberHere_100 (by decide) ?_
        refine lv_icmp_gt (tgt := 117) hx hb dX12_numberHere_101 (by decide) (fun c82 => ?_) (fun c82 => ?_)
        · have c82 : (5 : Int) < x81.toInt := wk_lt.mp c82
          exact J117 v34_3 v34_4 f34_0_1 f34_0_14 v34_4 H locs ls w74 (show 0 ≤ v34_3.toInt by omega) (show v34_3.toInt ≤ 399 by omega) (show 1 ≤ f34_0_1.toInt by omega) (show f34_0_1.toInt ≤ 400 by omega) (show 0 ≤ f34_0_14.toInt by omega) (show f34_0_14.toInt ≤ 400 by omega)  hw hT hF c77 c78 c75 (lv_sub hl [0, 1, 2, 3, 4] rfl)
        · have c82 : x81.toInt ≤ (5 : Int) := wk_ltF c82
          refine lv_iload hx hb dX12_numberHere_104 (lv_at hl 4 rfl) ?_
          refine lv_i2l hx hb dX12_numberHere_106 rfl ?_
          refine lv_topl (fun x83 ex83 => ?_)
          have ex83 : x83.toInt = v34_4.toInt := by rw [ex83]; exact wk_i2l _
          have bx83 := wk_i32 v34_4
          refine lv_iload_n hx hb dX12_numberHere_107 rfl (lv_at hl 1 rfl) ?_
          refine lv_i2l hx hb dX12_numberHere_108 rfl ?_
          refine wk_topl 0 (by decide) ?_
          refine lv_iload_n hx hb dX12_numberHere_109 rfl (lv_at hl 2 rfl) ?_
          refine lv_i2l hx hb dX12_numberHere_110 rfl ?_
          refine wk_topl 23 (by decide) ?_
          refine tk_Si hC hK hw hT hA hE hSR (k_X12_in_2 l adK adV dC dI cy ad B (by omega) (by omega) qr s1   x83 (show (-2147483648) ≤ x83.toInt by omega) (show x83.toInt ≤ 2147483647 by omega) w74 H.size hT ) (va_cwS 3 hC.2.2.2.2 gX12_numberHere_X12_in rfl rfl rfl (by decide +kernel) ⟨Nat.le_of_ble_eq_true rfl, Nat.le_of_ble_eq_true rfl⟩) rfl hl.1 rfl (Nat.le_of_ble_eq_true rfl) dX12_numberHere_111 (fun r84 w86 H locs hp85 hw => ?_)
          obtain ⟨hT, k87, hg90⟩ := hp85
          have hF := hF.tr k87 (by decide)
          have c91 := k87.gi kM_at0 (by decide) c77
          have c92 := k87.gi kM_at0 (by decide) c78
          have c93 := k87.gi kM_at0 (by decide) c75
          rcases hg90 with rfl | ⟨rfl, g88, g89⟩
          · refine lv_if_ne (tgt := 126) hx hb dX12_numberHere_114 (by decide) (fun c => absurd (by decide) c) (fun _ => ?_)
            exact J117 v34_3 v34_4 f34_0_1 f34_0_14 v34_4 H locs ls w86 (show 0 ≤ v34_3.toInt by omega) (show v34_3.toInt ≤ 399 by omega) (show 1 ≤ f34_0_1.toInt by omega) (show f34_0_1.toInt ≤ 400 by omega) (show 0 ≤ f34_0_14.toInt by omega) (show f34_0_14.toInt ≤ 400 by omega)  hw hT hF c91 c92 c93 (lv_sub hl [0, 1, 2, 3, 4] rfl)
          · refine lv_if_ne (tgt := 126) hx hb dX12_numberHere_114 (by decide) (fun _ => ?_) (fun c => absurd c (by decide))
            exact J126 v34_3 v34_4 f34_0_1 f34_0_14 v34_4 H locs ls w86 (show 0 ≤ v34_3.toInt by omega) (show v34_3.toInt ≤ 399 by omega) (show 0 ≤ v34_4.toInt by omega) (show v34_4.toInt ≤ 23 by omega) (show 1 ≤ f34_0_1.toInt by omega) (show f34_0_1.toInt ≤ 400 by omega) (show 0 ≤ f34_0_14.toInt by omega) (show f34_0_14.toInt ≤ 400 by omega) (show 0 ≤ v34_4.toInt by omega) (show v34_4.toInt ≤ 23 by omega)  hw hT hF c91 c92 c93 (lv_sub hl [0, 1, 2, 3, 4] rfl)
      · have ex69 : x69.toInt = f34_0_1.toInt := by rw [← c72.symm.trans c70]
        refine lv_if_eq (tgt := 88) hx hb dX12_numberHere_42 (by decide) (fun c => absurd c (by decide)) (fun _ => ?_)
        refine lv_aload_n hx hb dX12_numberHere_45 rfl (lv_at hl 0 rfl) ?_
        refine tk_geti hC hK hw hT hinX12 kM_at0 (by decide) rfl 14 (by decide) (List.mem_of_getElem? (i := 1) rfl) rfl rfl dX12_numberHere_46 (fun x94 c95 rx94 tx94 => ?_)
        refine wk_top f34_0_14 (c95.symm.trans c73) ?_
        refine lv_iload_n hx hb dX12_numberHere_49 rfl (lv_at hl 3 rfl) ?_
        refine lv_isub hx hb dX12_numberHere_50 ?_
        refine lv_topi (fun x96 ex96 => ?_)
        have ex96 : x96.toInt = f34_0_14.toInt - v34_3.toInt := by rw [ex96]; exact wk_sub (show (-2147483648) ≤ f34_0_14.toInt - v34_3.toInt by omega) (show f34_0_14.toInt - v34_3.toInt ≤ 2147483647 by omega)
        refine lv_iconst (v := 5) hx hb dX12_numberHere_51 (by decide) ?_
        refine lv_icmp_ge (tgt := 75) hx hb dX12_numberHere_52 (by decide) (fun c97 => ?_) (fun c97 => ?_)
        · have c97 : (5 : Int) ≤ x96.toInt := wk_le.mp c97
          exact J75 v34_4 H locs ls w64 (show 0 ≤ v34_3.toInt by omega) (show v34_3.toInt ≤ 399 by omega) (show 1 ≤ f34_0_1.toInt by omega) (show f34_0_1.toInt ≤ 400 by omega) (show 0 ≤ f34_0_14.toInt by omega) (show f34_0_14.toInt ≤ 399 by omega)  hw hT hF c72 c73 (lv_sub hl [0, 1, 2, 3, 4] rfl)
        · have c97 : x96.toInt < (5 : Int) := wk_leF c97
          refine lv_bipush (v := 10) hx hb dX12_numberHere_55 (by decide) ?_
          refine lv_iload hx hb dX12_numberHere_57 (lv_at hl 4 rfl) ?_
          refine lv_imul hx hb dX12_numberHere_59 ?_
          have nx98 := wk_i32 v34_4
          refine lv_topi (fun x99 ex99 => ?_)
          refine lv_aload_n hx hb dX12_numberHere_60 rfl (lv_at hl 0 rfl) ?_
          refine tk_getA hC hK hw hT hinX12 kM_at0 (by decide) rfl 0 (by decide) (List.mem_of_getElem? (i := 2) rfl) rfl rfl dX12_numberHere_61 ?_
          refine lv_aload_n hx hb dX12_numberHere_64 rfl (lv_at hl 0 rfl) ?_
          refine tk_geti hC hK hw hT hinX12 kM_at0 (by decide) rfl 14 (by decide) (List.mem_of_getElem? (i := 1) rfl) rfl rfl dX12_numberHere_65 (fun x100 c101 rx100 tx100 => ?_)
          refine wk_top f34_0_14 (c101.symm.trans c73) ?_
          refine tk_bald hC hK hw hT kM_at1 rfl rfl (show 0 ≤ f34_0_14.toInt by omega) (show f34_0_14.toInt < 400 by omega) dX12_numberHere_68 (fun x102 c103 rx102 tx102 => ?_)
          have c103 : gi w64 1 (f34_0_14.toInt).toNat = x102 := (congrArg (gi w64 1) (congrArg Int.toNat (show f34_0_14.toInt = f34_0_14.toInt by omega))).trans c103
          refine lv_iadd hx hb dX12_numberHere_69 ?_
          have nx104 := wk_i32 x99
          refine lv_topi (fun x105 ex105 => ?_)
          refine lv_bipush (v := 48) hx hb dX12_numberHere_70 (by decide) ?_
          refine lv_isub hx hb dX12_numberHere_72 ?_
          have nx106 := wk_i32 x105
          refine lv_topi (fun x107 ex107 => ?_)
          refine lv_istore (lv' := [(4, .int x107), (0, .ref (ad 0)), (1, .int 0), (2, .int 23), (3, .int v34_3)]) hx hb dX12_numberHere_73 hl (by decide) rfl (fun ls hl => ?_)
          exact J75 x107 H locs ls w64 (show 0 ≤ v34_3.toInt by omega) (show v34_3.toInt ≤ 399 by omega) (show 1 ≤ f34_0_1.toInt by omega) (show f34_0_1.toInt ≤ 400 by omega) (show 0 ≤ f34_0_14.toInt by omega) (show f34_0_14.toInt ≤ 399 by omega)  hw hT hF c72 c73 (lv_sub hl [1, 2, 3, 4, 0] rfl)
  refine lv_aload_n hx hb dX12_numberHere_0 rfl (lv_at hl 0 rfl) ?_
  obtain ⟨x108, c109, rx108, tx108⟩ := hT.rdi (lo := 0) (hi := 400) (k := 14) kM_at0 (by decide) rfl
  refine tk_Vi hC hK hw hT hA hE hSR kM_at0 (by decide) rfl (k_X12_see_1 l adK adV dC dI cy ad B (by omega) (by omega) qr s1    w0 s.heap.size hT x108 c109 (show 0 ≤ x108.toInt by omega) (show x108.toInt ≤ 400 by omega)) (cwV 0 hC.2.2.2.2 gX12_numberHere_X12_see rfl rfl rfl (by decide +kernel) ⟨Nat.le_of_ble_eq_true rfl, Nat.le_of_ble_eq_true rfl⟩) rfl hl.1 rfl (Nat.le_of_ble_eq_true rfl) dX12_numberHere_1 (fun r110 w112 H locs hp111 hw => ?_)
  obtain ⟨hT, k113, hg130⟩ := hp111
  have hF := hF.tr k113 (by decide)
  rcases hg130 with ⟨g114, g115, ⟨x116, c117, rx116, tx116⟩, ⟨x118, c119, rx118, tx118⟩, g120, g121⟩ | ⟨rfl, ⟨x122, c123, rx122, tx122⟩, ⟨x124, c125, rx124, tx124⟩, g126⟩ | ⟨rfl, ⟨x127, c128, rx127, tx127⟩, g129⟩
  · have g120 : (gi w112 1 (x118.toInt).toNat).toInt ≠ 32 := by have q := g120; simp only [c119] at q; omega
    have g121 : (x118.toInt = x108.toInt ∨ (gi w0 1 (x108.toInt).toNat).toInt = 32) := by have q := g121; simp only [c109, c119] at q; omega
    refine lv_pop hx hb dX12_numberHere_4 rfl ?_
    refine lv_aload_n hx hb dX12_numberHere_5 rfl (lv_at hl 0 rfl) ?_
    refine lv_aload_n hx hb dX12_numberHere_6 rfl (lv_at hl 0 rfl) ?_
    refine tk_geti hC hK hw hT hinX12 kM_at0 (by decide) rfl 14 (by decide) (List.mem_of_getElem? (i := 1) rfl) rfl rfl dX12_numberHere_7 (fun x133 c134 rx133 tx133 => ?_)
    refine wk_top x118 (c134.symm.trans c119) ?_
    refine tk_Vi hC hK hw hT hA hE hSR kM_at0 (by decide) rfl (k_X12_isDigit_2 l adK adV dC dI cy ad B (by omega) (by omega) qr s1   x118 (show 0 ≤ x118.toInt by omega) (show x118.toInt ≤ 399 by omega) w112 H.size hT ) (cwV 1 hC.2.2.2.2 gX12_numberHere_X12_isDigit rfl rfl rfl (by decide +kernel) ⟨Nat.le_of_ble_eq_true rfl, Nat.le_of_ble_eq_true rfl⟩) rfl hl.1 rfl (Nat.le_of_ble_eq_true rfl) dX12_numberHere_10 (fun r135 w137 H locs hp136 hw => ?_)
    obtain ⟨hT, k138, hg143⟩ := hp136
    have hF := hF.tr k138 (by decide)
    have c144 := k138.gi kM_at0 (by decide) c117
    have c145 := k138.gi kM_at0 (by decide) c119
    rcases hg143 with ⟨rfl, ⟨x139, c140, rx139, tx139⟩⟩ | ⟨rfl, ⟨x141, c142, rx141, tx141⟩⟩
    · have ex139 : x139.toInt = x116.toInt := by rw [← c144.symm.trans c140]
      refine lv_if_ne (tgt := 26) hx hb dX12_numberHere_13 (by decide) (fun c => absurd (by decide) c) (fun _ => ?_)
      refine lv_aload_n hx hb dX12_numberHere_16 rfl (lv_at hl 0 rfl) ?_
      refine lv_iconst (v := 0) hx hb dX12_numberHere_17 (by decide) ?_
      refine lv_aload_n hx hb dX12_numberHere_18 rfl (lv_at hl 0 rfl) ?_
      refine tk_geti hC hK hw hT hinX12 kM_at0 (by decide) rfl 14 (by decide) (List.mem_of_getElem? (i := 1) rfl) rfl rfl dX12_numberHere_19 (fun x146 c147 rx146 tx146 => ?_)
      refine wk_top x118 (c147.symm.trans c145) ?_
      refine tk_Vi hC hK hw hT hA hE hSR kM_at0 (by decide) rfl (k_X12_fails_1 l adK adV dC dI cy ad B (by omega) (by omega) qr s1   0 (by decide) (by decide) x118 (show 0 ≤ x118.toInt by omega) (show x118.toInt ≤ 400 by omega) w137 H.size hT ) (cwV 2 hC.2.2.2.2 gX12_numberHere_X12_fails rfl rfl rfl (by decide +kernel) ⟨Nat.le_of_ble_eq_true rfl, Nat.le_of_ble_eq_true rfl⟩) rfl hl.1 rfl (Nat.le_of_ble_eq_true rfl) dX12_numberHere_22 (fun r148 w150 H locs hp149 hw => ?_)
      obtain ⟨hT, k151, hg154⟩ := hp149
      have hF := hF.tr k151 (by decide)
      have c155 := k151.gi kM_at0 (by decide) c144
      have c156 := k151.gi kM_at0 (by decide) c145
      obtain ⟨rfl, ⟨x152, c153, rx152, tx152⟩⟩ := hg154
      exact tk_zret hC hr rfl hlocks hK ⟨hT, hF, (Or.inl ⟨rfl, ⟨x116, c155, (show 1 ≤ x116.toInt by omega), (show x116.toInt ≤ 400 by omega)⟩, ⟨x152, c153, (show 1 ≤ x152.toInt by omega), (show x152.toInt ≤ 3205 by omega)⟩⟩)⟩ hw dX12_numberHere_25
    · have ex141 : x141.toInt = x116.toInt := by rw [← c144.symm.trans c142]
      refine lv_if_ne (tgt := 26) hx hb dX12_numberHere_13 (by decide) (fun _ => ?_) (fun c => absurd c (by decide))
      refine lv_aload_n hx hb dX12_numberHere_26 rfl (lv_at hl 0 rfl) ?_
      refine tk_geti hC hK hw hT hinX12 kM_at0 (by decide) rfl 14 (by decide) (List.mem_of_getElem? (i := 1) rfl) rfl rfl dX12_numberHere_27 (fun x157 c158 rx157 tx157 => ?_)
      refine wk_top x118 (c158.symm.trans c145) ?_
      refine lv_istore_n (lv' := [(3, .int x118), (0, .ref (ad 0)), (1, .int 0), (2, .int 23)]) hx hb dX12_numberHere_30 rfl hl (by decide) rfl (fun ls hl => ?_)
      refine lv_iconst (v := 0) hx hb dX12_numberHere_31 (by decide) ?_
      refine lv_istore (lv' := [(4, .int 0), (3, .int x118), (0, .ref (ad 0)), (1, .int 0), (2, .int 23)]) hx hb dX12_numberHere_32 hl (by decide) rfl (fun ls hl => ?_)
      exact L34 ((400 - x118.toInt).toNat + 1) x118 0 x116 x118 H locs ls w137 (show 0 ≤ x118.toInt by omega) (show x118.toInt ≤ 399 by omega) (show 1 ≤ x116.toInt by omega) (show x116.toInt ≤ 400 by omega) (show 0 ≤ x118.toInt by omega) (show x118.toInt ≤ 400 by omega) (Nat.lt_succ_self _) hw hT hF c144 c145 (lv_sub hl [2, 3, 4, 1, 0] rfl)
  · have g126 : (x124.toInt = x108.toInt ∨ (gi w0 1 (x108.toInt).toNat).toInt = 32) := by have q := g126; simp only [c109, c125] at q; omega
    refine lv_pop hx hb dX12_numberHere_4 rfl ?_
    refine lv_aload_n hx hb dX12_numberHere_5 rfl (lv_at hl 0 rfl) ?_
    refine lv_aload_n hx hb dX12_numberHere_6 rfl (lv_at hl 0 rfl) ?_
    refine tk_geti hC hK hw hT hinX12 kM_at0 (by decide) rfl 14 (by decide) (List.mem_of_getElem? (i := 1) rfl) rfl rfl dX12_numberHere_7 (fun x159 c160 rx159 tx159 => ?_)
    refine wk_top x124 (c160.symm.trans c125) ?_
    refine tk_Vi hC hK hw hT hA hE hSR kM_at0 (by decide) rfl (k_X12_isDigit_3 l adK adV dC dI cy ad B (by omega) (by omega) qr s1   x124 (show 1 ≤ x124.toInt by omega) (show x124.toInt ≤ 399 by omega) w112 H.size hT ) (cwV 1 hC.2.2.2.2 gX12_numberHere_X12_isDigit rfl rfl rfl (by decide +kernel) ⟨Nat.le_of_ble_eq_true rfl, Nat.le_of_ble_eq_true rfl⟩) rfl hl.1 rfl (Nat.le_of_ble_eq_true rfl) dX12_numberHere_10 (fun r161 w163 H locs hp162 hw => ?_)
    obtain ⟨hT, k164, hg169⟩ := hp162
    have hF := hF.tr k164 (by decide)
    have c170 := k164.gi kM_at0 (by decide) c123
    have c171 := k164.gi kM_at0 (by decide) c125
    rcases hg169 with ⟨rfl, ⟨x165, c166, rx165, tx165⟩⟩ | ⟨rfl, ⟨x167, c168, rx167, tx167⟩⟩
    · have ex165 : x165.toInt = x122.toInt := by rw [← c170.symm.trans c166]
      refine lv_if_ne (tgt := 26) hx hb dX12_numberHere_13 (by decide) (fun c => absurd (by decide) c) (fun _ => ?_)
      refine lv_aload_n hx hb dX12_numberHere_16 rfl (lv_at hl 0 rfl) ?_
      refine lv_iconst (v := 0) hx hb dX12_numberHere_17 (by decide) ?_
      refine lv_aload_n hx hb dX12_numberHere_18 rfl (lv_at hl 0 rfl) ?_
      refine tk_geti hC hK hw hT hinX12 kM_at0 (by decide) rfl 14 (by decide) (List.mem_of_getElem? (i := 1) rfl) rfl rfl dX12_numberHere_19 (fun x172 c173 rx172 tx172 => ?_)
      refine wk_top x124 (c173.symm.trans c171) ?_
      refine tk_Vi hC hK hw hT hA hE hSR kM_at0 (by decide) rfl (k_X12_fails_1 l adK adV dC dI cy ad B (by omega) (by omega) qr s1   0 (by decide) (by decide) x124 (show 0 ≤ x124.toInt by omega) (show x124.toInt ≤ 400 by omega) w163 H.size hT ) (cwV 2 hC.2.2.2.2 gX12_numberHere_X12_fails rfl rfl rfl (by decide +kernel) ⟨Nat.le_of_ble_eq_true rfl, Nat.le_of_ble_eq_true rfl⟩) rfl hl.1 rfl (Nat.le_of_ble_eq_true rfl) dX12_numberHere_22 (fun r174 w176 H locs hp175 hw => ?_)
      obtain ⟨hT, k177, hg180⟩ := hp175
      have hF := hF.tr k177 (by decide)
      have c181 := k177.gi kM_at0 (by decide) c170
      have c182 := k177.gi kM_at0 (by decide) c171
      obtain ⟨rfl, ⟨x178, c179, rx178, tx178⟩⟩ := hg180
      exact tk_zret hC hr rfl hlocks hK ⟨hT, hF, (Or.inl ⟨rfl, ⟨x122, c181, (show 1 ≤ x122.toInt by omega), (show x122.toInt ≤ 400 by omega)⟩, ⟨x178, c179, (show 1 ≤ x178.toInt by omega), (show x178.toInt ≤ 3205 by omega)⟩⟩)⟩ hw dX12_numberHere_25
    · have ex167 : x167.toInt = x122.toInt := by rw [← c170.symm.trans c168]
      refine lv_if_ne (tgt := 26) hx hb dX12_numberHere_13 (by decide) (fun _ => ?_) (fun c => absurd c (by decide))
      refine lv_aload_n hx hb dX12_numberHere_26 rfl (lv_at hl 0 rfl) ?_
      refine tk_geti hC hK hw hT hinX12 kM_at0 (by decide) rfl 14 (by decide) (List.mem_of_getElem? (i := 1) rfl) rfl rfl dX12_numberHere_27 (fun x183 c184 rx183 tx183 => ?_)
      refine wk_top x124 (c184.symm.trans c171) ?_
      refine lv_istore_n (lv' := [(3, .int x124), (0, .ref (ad 0)), (1, .int 0), (2, .int 23)]) hx hb dX12_numberHere_30 rfl hl (by decide) rfl (fun ls hl => ?_)
      refine lv_iconst (v := 0) hx hb dX12_numberHere_31 (by decide) ?_
      refine lv_istore (lv' := [(4, .int 0), (3, .int x124), (0, .ref (ad 0)), (1, .int 0), (2, .int 23)]) hx hb dX12_numberHere_32 hl (by decide) rfl (fun ls hl => ?_)
      exact L34 ((400 - x124.toInt).toNat + 1) x124 0 x122 x124 H locs ls w163 (show 0 ≤ x124.toInt by omega) (show x124.toInt ≤ 399 by omega) (show 1 ≤ x122.toInt by omega) (show x122.toInt ≤ 400 by omega) (show 0 ≤ x124.toInt by omega) (show x124.toInt ≤ 400 by omega) (Nat.lt_succ_self _) hw hT hF c170 c171 (lv_sub hl [2, 3, 4, 1, 0] rfl)
  · obtain ⟨x131, c132, rx131, tx131⟩ := hT.rdi (lo := 0) (hi := 400) (k := 14) kM_at0 (by decide) rfl
    have g129 : (x131.toInt = x108.toInt ∨ (gi w0 1 (x108.toInt).toNat).toInt = 32) := by have q := g129; simp only [c109, c132] at q; omega
    refine lv_pop hx hb dX12_numberHere_4 rfl ?_
    refine lv_aload_n hx hb dX12_numberHere_5 rfl (lv_at hl 0 rfl) ?_
    refine lv_aload_n hx hb dX12_numberHere_6 rfl (lv_at hl 0 rfl) ?_
    refine tk_geti hC hK hw hT hinX12 kM_at0 (by decide) rfl 14 (by decide) (List.mem_of_getElem? (i := 1) rfl) rfl rfl dX12_numberHere_7 (fun x185 c186 rx185 tx185 => ?_)
    refine wk_top x131 (c186.symm.trans c132) ?_
    refine tk_Vi hC hK hw hT hA hE hSR kM_at0 (by decide) rfl (k_X12_isDigit_1 l adK adV dC dI cy ad B (by omega) (by omega) qr s1   x131 (show 0 ≤ x131.toInt by omega) (show x131.toInt ≤ 400 by omega) w112 H.size hT ) (cwV 1 hC.2.2.2.2 gX12_numberHere_X12_isDigit rfl rfl rfl (by decide +kernel) ⟨Nat.le_of_ble_eq_true rfl, Nat.le_of_ble_eq_true rfl⟩) rfl hl.1 rfl (Nat.le_of_ble_eq_true rfl) dX12_numberHere_10 (fun r187 w189 H locs hp188 hw => ?_)
    obtain ⟨hT, k190, hg196⟩ := hp188
    have hF := hF.tr k190 (by decide)
    have c197 := k190.gi kM_at0 (by decide) c128
    have c198 := k190.gi kM_at0 (by decide) c132
    rcases hg196 with ⟨rfl, ⟨x191, c192, rx191, tx191⟩⟩ | ⟨rfl, g193, ⟨x194, c195, rx194, tx194⟩⟩
    · have ex191 : x191.toInt = x127.toInt := by rw [← c197.symm.trans c192]
      refine lv_if_ne (tgt := 26) hx hb dX12_numberHere_13 (by decide) (fun c => absurd (by decide) c) (fun _ => ?_)
      refine lv_aload_n hx hb dX12_numberHere_16 rfl (lv_at hl 0 rfl) ?_
      refine lv_iconst (v := 0) hx hb dX12_numberHere_17 (by decide) ?_
      refine lv_aload_n hx hb dX12_numberHere_18 rfl (lv_at hl 0 rfl) ?_
      refine tk_geti hC hK hw hT hinX12 kM_at0 (by decide) rfl 14 (by decide) (List.mem_of_getElem? (i := 1) rfl) rfl rfl dX12_numberHere_19 (fun x199 c200 rx199 tx199 => ?_)
      refine wk_top x131 (c200.symm.trans c198) ?_
      refine tk_Vi hC hK hw hT hA hE hSR kM_at0 (by decide) rfl (k_X12_fails_1 l adK adV dC dI cy ad B (by omega) (by omega) qr s1   0 (by decide) (by decide) x131 (show 0 ≤ x131.toInt by omega) (show x131.toInt ≤ 400 by omega) w189 H.size hT ) (cwV 2 hC.2.2.2.2 gX12_numberHere_X12_fails rfl rfl rfl (by decide +kernel) ⟨Nat.le_of_ble_eq_true rfl, Nat.le_of_ble_eq_true rfl⟩) rfl hl.1 rfl (Nat.le_of_ble_eq_true rfl) dX12_numberHere_22 (fun r201 w203 H locs hp202 hw => ?_)
      obtain ⟨hT, k204, hg207⟩ := hp202
      have hF := hF.tr k204 (by decide)
      have c208 := k204.gi kM_at0 (by decide) c197
      have c209 := k204.gi kM_at0 (by decide) c198
      obtain ⟨rfl, ⟨x205, c206, rx205, tx205⟩⟩ := hg207
      exact tk_zret hC hr rfl hlocks hK ⟨hT, hF, (Or.inr (Or.inl ⟨rfl, ⟨x127, c208, (show 0 ≤ x127.toInt by omega), (show x127.toInt ≤ 400 by omega)⟩, ⟨x205, c206, (show 1 ≤ x205.toInt by omega), (show x205.toInt ≤ 3205 by omega)⟩⟩))⟩ hw dX12_numberHere_25
    · have ex194 : x194.toInt = x127.toInt := by rw [← c197.symm.trans c195]
      refine lv_if_ne (tgt := 26) hx hb dX12_numberHere_13 (by decide) (fun _ => ?_) (fun c => absurd c (by decide))
      refine lv_aload_n hx hb dX12_numberHere_26 rfl (lv_at hl 0 rfl) ?_
      refine tk_geti hC hK hw hT hinX12 kM_at0 (by decide) rfl 14 (by decide) (List.mem_of_getElem? (i := 1) rfl) rfl rfl dX12_numberHere_27 (fun x210 c211 rx210 tx210 => ?_)
      refine wk_top x131 (c211.symm.trans c198) ?_
      refine lv_istore_n (lv' := [(3, .int x131), (0, .ref (ad 0)), (1, .int 0), (2, .int 23)]) hx hb dX12_numberHere_30 rfl hl (by decide) rfl (fun ls hl => ?_)
      refine lv_iconst (v := 0) hx hb dX12_numberHere_31 (by decide) ?_
      refine lv_istore (lv' := [(4, .int 0), (3, .int x131), (0, .ref (ad 0)), (1, .int 0), (2, .int 23)]) hx hb dX12_numberHere_32 hl (by decide) rfl (fun ls hl => ?_)
      exact L34 ((400 - x131.toInt).toNat + 1) x131 0 x127 x131 H locs ls w189 (show 0 ≤ x131.toInt by omega) (show x131.toInt ≤ 399 by omega) (show 1 ≤ x127.toInt by omega) (show x127.toInt ≤ 400 by omega) (show 0 ≤ x131.toInt by omega) (show x131.toInt ≤ 400 by omega) (Nat.lt_succ_self _) hw hT hF c197 c198 (lv_sub hl [2, 3, 4, 1, 0] rfl)
abbrev P_X12_in_3 (ad : Nat → Nat) (cy : Nat → ClassId) (B : Int) (qr : Nat) (s1 : Int) (a0 : Int64) (a1 : Int64) (w0 : va_W) : Int32 → va_W → Prop := fun r u => TW ksM ad cy B qr 12 u ∧ FE ksM ([] : List (Nat × Nat × Nat)) w0 u ∧ ((r = 0) ∨ (r = 1 ∧ 1 ≤ a0.toInt ∧ a0.toInt ≤ 24))
set_option maxHeartbeats 4000000 in
set_option maxRecDepth 100000 in
theorem k_X12_in_3 (l : Launch) (adK adV : Nat → Nat) (dC : Nat → ClassId) (dI : Nat → Nat → Nat) (cy : Nat → ClassId) (ad : Nat → Nat) (B : Int) (hB0 : 100000 ≤ B) (hB1 : B ≤ 1073741824) (qr : Nat) (s1 : Int)  (a0 : Int64) (ra0 : (-2147483648) ≤ a0.toInt) (ta0 : a0.toInt ≤ 2147483647) (a1 : Int64) (ra1 : 1 ≤ a1.toInt) (ta1 : a1.toInt ≤ 24) (w0 : va_W) (sz : Nat) (hT : TW ksM ad cy B qr 12 w0)  : Met l yX12_in wsX12_in ({ frames := 1, cells := 0, slots := 0, locals := 12 }) (va_Pc [.long a0, .long a1, .long 24] (wpreS adK adV dC dI cy sz w0)) (va_Qi (P_X12_in_3 ad cy B qr s1 a0 a1 w0) (fun u : va_W => wpost dC dI cy (va_A w0 sz) u) (va_A w0 sz)) 0 0 (va_A w0 sz) := by
  refine Met.ofW (cc := cX12_in) (maxL := 6) (ret := (some .boolean)) (by decide) rfl ?_
  intro p e s m args below meth c s₁ Bk hml hv
  obtain ⟨rfl, ⟨hsz, hP, hK, hD0⟩, hE, hSR⟩ := hv
  have hx := Bk.exec
  have hb := Bk.bytes
  have hr := Bk.returns
  have hlocks := Bk.notSynchronized
  have hC : CallFix p m c cX12_in 6 s _ wsX12_in RX12 := ⟨hx, hb, hml, findClass_of_methodNamed Bk.named, atoms_spec (ws := wsX12_in) Bk.pre⟩
  subst hsz
  have hD := hD0.self (sz := s.heap.size)
  generalize hAe : va_A w0 s.heap.size = A at hD hE ⊢
  have hA : ∀ q : Nat, s.heap.size ≤ q → A q := fun q h => by rw [← hAe]; exact Or.inr h
  have hw : Wd dC dI A s.heap s.heap [] w0 := ⟨hP, hD, va_S.rf⟩
  have hF : FE ksM ([] : List (Nat × Nat × Nat)) w0 w0 := FE.rf
  have hl := lv_entry ([.long a0, .long a1, .long 24]) (n := 6) (Nat.le_of_ble_eq_true rfl)
  rw [lg_entry_eq]
  generalize (lg_sl ([.long a0, .long a1, .long 24]) ++ List.replicate (6 - (lg_sl ([.long a0, .long a1, .long 24])).length) Slot.unset).toArray = ls at hl ⊢
  have hl : lv_has ls 6 [(0, .long a0), (2, .long a1), (4, .long 24)] := hl
  generalize hloc : ([] : List Loc) = locs at hw ⊢
  have J17 : ∀ (H : Heap) (locs : List Loc) (ls : Array Slot) (w1 : va_W), (-2147483648) ≤ a0.toInt → a0.toInt ≤ 2147483647 → 1 ≤ a1.toInt → a1.toInt ≤ 24 → Wd dC dI A s.heap H locs w1 → TW ksM ad cy B qr 12 w1 → FE ksM ([] : List (Nat × Nat × Nat)) w0 w1 → lv_has ls 6 [(0, .long a0), (2, .long a1), (4, .long 24)] → W p l e ({ frames := 1, cells := 0, slots := 0, locals := 12 }) s m (List.toArray [.long a0, .long a1, .long 24]) below meth c H locs 0 0 (MQ below (va_Qi (P_X12_in_3 ad cy B qr s1 a0 a1 w0) (fun u : va_W => wpost dC dI cy A u) A) (List.toArray [.long a0, .long a1, .long 24]) s 0 0 A) (F0 m 17 ls []) := by
    intro H locs ls w1 r2 t3 r4 t5 hw hT hF hl
    refine lv_iconst (v := 0) hx hb dX12_in_17 (by decide) ?_
    exact tk_zret hC hr rfl hlocks hK ⟨hT, hF, (Or.inl rfl)⟩ hw dX12_in_18
  refine lv_lload_n hx hb dX12_in_0 rfl (lv_at hl 0 rfl) ?_
  refine lv_lload_n hx hb dX12_in_1 rfl (lv_at hl 1 rfl) ?_
  refine W.lcmp hx hb dX12_in_2 ?_
  refine lv_if_lt (tgt := 17) hx hb dX12_in_3 (by decide) (fun c6 => ?_) (fun c6 => ?_)
  · have c6 : a0.toInt < a1.toInt := wk_cltT c6
    exact J17  s.heap locs ls w0 (show (-2147483648) ≤ a0.toInt by omega) (show a0.toInt ≤ 2147483647 by omega) (show 1 ≤ a1.toInt by omega) (show a1.toInt ≤ 24 by omega)  hw hT hF  (lv_sub hl [0, 1, 2] rfl)
  · have c6 : a1.toInt ≤ a0.toInt := wk_cltF c6
    refine lv_lload_n hx hb dX12_in_6 rfl (lv_at hl 0 rfl) ?_
    refine lv_lload hx hb dX12_in_7 (lv_at hl 2 rfl) ?_
    refine W.lcmp hx hb dX12_in_9 ?_
    refine lv_if_gt (tgt := 17) hx hb dX12_in_10 (by decide) (fun c7 => ?_) (fun c7 => ?_)
    · have c7 : (24 : Int) < a0.toInt := wk_cgtT c7
      exact J17  s.heap locs ls w0 (show (-2147483648) ≤ a0.toInt by omega) (show a0.toInt ≤ 2147483647 by omega) (show 1 ≤ a1.toInt by omega) (show a1.toInt ≤ 24 by omega)  hw hT hF  (lv_sub hl [0, 1, 2] rfl)
    · have c7 : a0.toInt ≤ (24 : Int) := wk_cgtF c7
      refine lv_iconst (v := 1) hx hb dX12_in_13 (by decide) ?_
      refine lv_goto (tgt := 18) hx hb dX12_in_14 (by decide) ?_
      exact tk_zret hC hr rfl hlocks hK ⟨hT, hF, (Or.inr ⟨rfl, (show 1 ≤ a0.toInt by omega), (show a0.toInt ≤ 24 by omega)⟩)⟩ hw dX12_in_18
abbrev P_X12_numberHere_3 (ad : Nat → Nat) (cy : Nat → ClassId) (B : Int) (qr : Nat) (s1 : Int) (a1 : Int32) (w0 : va_W) : Int32 → va_W → Prop := fun r u => TW ksM ad cy B qr 12 u ∧ FE ksM [(12, 14, 14), (12, 15, 15), (12, 16, 16)] w0 u ∧ ((r = 0 ∧ (∃ y : Int32, gi u 0 1 = y ∧ 1 ≤ y.toInt ∧ y.toInt ≤ 400) ∧ (∃ y : Int32, gi u 0 15 = y ∧ 1 ≤ y.toInt ∧ y.toInt ≤ 3205)) ∨ (r = 0 ∧ (∃ y : Int32, gi u 0 1 = y ∧ 0 ≤ y.toInt ∧ y.toInt ≤ 400) ∧ (∃ y : Int32, gi u 0 15 = y ∧ 1 ≤ y.toInt ∧ y.toInt ≤ 3205)) ∨ (r = 1 ∧ (∃ y : Int32, gi u 0 1 = y ∧ 1 ≤ y.toInt ∧ y.toInt ≤ 400) ∧ (∃ y : Int32, gi u 0 16 = y ∧ 1 ≤ y.toInt ∧ y.toInt ≤ 24)))
set_option maxHeartbeats 4000000 in
set_option maxRecDepth 100000 in
theorem k_X12_numberHere_3 (l : Launch) (adK adV : Nat → Nat) (dC : Nat → ClassId) (dI : Nat → Nat → Nat) (cy : Nat → ClassId) (ad : Nat → Nat) (B : Int) (hB0 : 100000 ≤ B) (hB1 : B ≤ 1073741824) (qr : Nat) (s1 : Int)  (a1 : Int32) (ra1 : 1 ≤ a1.toInt) (ta1 : a1.toInt ≤ 24) (w0 : va_W) (sz : Nat) (hT : TW ksM ad cy B qr 12 w0)  : Met l yX12_numberHere wsX12_numberHere ({ frames := 2, cells := 0, slots := 0, locals := 37 }) (va_Pc [.ref (ad 0), .int a1, .int 24] (wpreS adK adV dC dI cy sz w0)) (va_Qi (P_X12_numberHere_3 ad cy B qr s1 a1 w0) (fun u : va_W => wpost dC dI cy (va_A w0 sz) u) (va_A w0 sz)) 0 0 (va_A w0 sz) := by
  refine Met.ofW (cc := cX12_numberHere) (maxL := 5) (ret := (some .boolean)) (by decide) rfl ?_
  intro p e s m args below meth c s₁ Bk hml hv
  obtain ⟨rfl, ⟨hsz, hP, hK, hD0⟩, hE, hSR⟩ := hv
  have hx := Bk.exec
  have hb := Bk.bytes
  have hr := Bk.returns
  have hlocks := Bk.notSynchronized
  have hC : CallFix p m c cX12_numberHere 5 s _ wsX12_numberHere RX12 := ⟨hx, hb, hml, findClass_of_methodNamed Bk.named, atoms_spec (ws := wsX12_numberHere) Bk.pre⟩
  subst hsz
  have hD := hD0.self (sz := s.heap.size)
  generalize hAe : va_A w0 s.heap.size = A at hD hE ⊢
  have hA : ∀ q : Nat, s.heap.size ≤ q → A q := fun q h => by rw [← hAe]; exact Or.inr h
  have hw : Wd dC dI A s.heap s.heap [] w0 := ⟨hP, hD, va_S.rf⟩
  have hF : FE ksM [(12, 14, 14), (12, 15, 15), (12, 16, 16)] w0 w0 := FE.rf
  have hl := lv_entry ([.ref (ad 0), .int a1, .int 24]) (n := 5) (Nat.le_of_ble_eq_true rfl)
  rw [lg_entry_eq]
  generalize (lg_sl ([.ref (ad 0), .int a1, .int 24]) ++ List.replicate (5 - (lg_sl ([.ref (ad 0), .int a1, .int 24])).length) Slot.unset).toArray = ls at hl ⊢
  have hl : lv_has ls 5 [(0, .ref (ad 0)), (1, .int a1), (2, .int 24)] := hl
  generalize hloc : ([] : List Loc) = locs at hw ⊢
  have hinX12 : ∀ w ∈ u_ws RX12 TX12 42, w ∈ wsX12_numberHere := fun _ h => List.mem_cons_of_mem _ (List.mem_append_right _ (h))
  have J126 : ∀ (v126_3 : Int32) (v126_4 : Int32) (f126_0_1 : Int32) (f126_0_14 : Int32) (f126_0_16 : Int32) (H : Heap) (locs : List Loc) (ls : Array Slot) (w1 : va_W), 1 ≤ a1.toInt → a1.toInt ≤ 24 → 0 ≤ v126_3.toInt → v126_3.toInt ≤ 399 → 1 ≤ v126_4.toInt → v126_4.toInt ≤ 24 → 1 ≤ f126_0_1.toInt → f126_0_1.toInt ≤ 400 → 0 ≤ f126_0_14.toInt → f126_0_14.toInt ≤ 400 → 1 ≤ f126_0_16.toInt → f126_0_16.toInt ≤ 24 → Wd dC dI A s.heap H locs w1 → TW ksM ad cy B qr 12 w1 → FE ksM [(12, 14, 14), (12, 15, 15), (12, 16, 16)] w0 w1 → gi w1 0 1 = f126_0_1 → gi w1 0 14 = f126_0_14 → gi w1 0 16 = f126_0_16 → lv_has ls 5 [(0, .ref (ad 0)), (1, .int a1), (2, .int 24), (3, .int v126_3), (4, .int v126_4)] → W p l e ({ frames := 2, cells := 0, slots := 0, locals := 37 }) s m (List.toArray [.ref (ad 0), .int a1, .int 24]) below meth c H locs 0 0 (MQ below (va_Qi (P_X12_numberHere_3 ad cy B qr s1 a1 w0) (fun u : va_W => wpost dC dI cy A u) A) (List.toArray [.ref (ad 0), .int a1, .int 24]) s 0 0 A) (F0 m 126 ls []) := by
    intro v126_3 v126_4 f126_0_1 f126_0_14 f126_0_16 H locs ls w1 r2 t3 r4 t5 r6 t7 r8 t9 r11 t12 r14 t15 hw hT hF c10 c13 c16 hl
    refine lv_iconst (v := 1) hx hb dX12_numberHere_126 (by decide) ?_
    refine lv_goto (tgt := 131) hx hb dX12_numberHere_127 (by decide) ?_
    exact tk_zret hC hr rfl hlocks hK ⟨hT, hF, (Or.inr (Or.inr ⟨rfl, ⟨f126_0_1, c10, (show 1 ≤ f126_0_1.toInt by omega), (show f126_0_1.toInt ≤ 400 by omega)⟩, ⟨f126_0_16, c16, (show 1 ≤ f126_0_16.toInt by omega), (show f126_0_16.toInt ≤ 24 by omega)⟩⟩))⟩ hw dX12_numberHere_131
  have J117 : ∀ (v117_3 : Int32) (v117_4 : Int32) (f117_0_1 : Int32) (f117_0_14 : Int32) (f117_0_16 : Int32) (H : Heap) (locs : List Loc) (ls : Array Slot) (w17 : va_W), 1 ≤ a1.toInt → a1.toInt ≤ 24 → 0 ≤ v117_3.toInt → v117_3.toInt ≤ 399 → 1 ≤ f117_0_1.toInt → f117_0_1.toInt ≤ 400 → 0 ≤ f117_0_14.toInt → f117_0_14.toInt ≤ 400 → Wd dC dI A s.heap H locs w17 → TW ksM ad cy B qr 12 w17 → FE ksM [(12, 14, 14), (12, 15, 15), (12, 16, 16)] w0 w17 → gi w17 0 1 = f117_0_1 → gi w17 0 14 = f117_0_14 → gi w17 0 16 = f117_0_16 → lv_has ls 5 [(0, .ref (ad 0)), (1, .int a1), (2, .int 24), (3, .int v117_3), (4, .int v117_4)] → W p l e ({ frames := 2, cells := 0, slots := 0, locals := 37 }) s m (List.toArray [.ref (ad 0), .int a1, .int 24]) below meth c H locs 0 0 (MQ below (va_Qi (P_X12_numberHere_3 ad cy B qr s1 a1 w0) (fun u : va_W => wpost dC dI cy A u) A) (List.toArray [.ref (ad 0), .int a1, .int 24]) s 0 0 A) (F0 m 117 ls []) := by
    intro v117_3 v117_4 f117_0_1 f117_0_14 f117_0_16 H locs ls w17 r18 t19 r20 t21 r22 t23 r25 t26 hw hT hF c24 c27 c28 hl
    refine lv_aload_n hx hb dX12_numberHere_117 rfl (lv_at hl 0 rfl) ?_
    refine lv_iconst (v := 1) hx hb dX12_numberHere_118 (by decide) ?_
    refine lv_iload_n hx hb dX12_numberHere_119 rfl (lv_at hl 3 rfl) ?_
    refine tk_Vi hC hK hw hT hA hE hSR kM_at0 (by decide) rfl (k_X12_fails_1 l adK adV dC dI cy ad B (by omega) (by omega) qr s1   1 (by decide) (by decide) v117_3 (show 0 ≤ v117_3.toInt by omega) (show v117_3.toInt ≤ 400 by omega) w17 H.size hT ) (cwV 2 hC.2.2.2.2 gX12_numberHere_X12_fails rfl rfl rfl (by decide +kernel) ⟨Nat.le_of_ble_eq_true rfl, Nat.le_of_ble_eq_true rfl⟩) rfl hl.1 rfl (Nat.le_of_ble_eq_true rfl) dX12_numberHere_120 (fun r29 w31 H locs hp30 hw => ?_)
    obtain ⟨hT, k32, hg35⟩ := hp30
    have hF := hF.tr k32 (by decide)
    have c36 := k32.gi kM_at0 (by decide) c24
    have c37 := k32.gi kM_at0 (by decide) c27
    have c38 := k32.gi kM_at0 (by decide) c28
    obtain ⟨rfl, ⟨x33, c34, rx33, tx33⟩⟩ := hg35
    refine lv_if_eq (tgt := 130) hx hb dX12_numberHere_123 (by decide) (fun _ => ?_) (fun c => absurd (by decide) c)
    refine lv_iconst (v := 0) hx hb dX12_numberHere_130 (by decide) ?_
    exact tk_zret hC hr rfl hlocks hK ⟨hT, hF, (Or.inl ⟨rfl, ⟨f117_0_1, c36, (show 1 ≤ f117_0_1.toInt by omega), (show f117_0_1.toInt ≤ 400 by omega)⟩, ⟨x33, c34, (show 1 ≤ x33.toInt by omega), (show x33.toInt ≤ 3205 by omega)⟩⟩)⟩ hw dX12_numberHere_131
  have L34 : ∀ (n34 : Nat) (v34_3 : Int32) (v34_4 : Int32) (f34_0_1 : Int32) (f34_0_14 : Int32) (H : Heap) (locs : List Loc) (ls : Array Slot) (w39 : va_W), 1 ≤ a1.toInt → a1.toInt ≤ 24 → 0 ≤ v34_3.toInt → v34_3.toInt ≤ 399 → 1 ≤ f34_0_1.toInt → f34_0_1.toInt ≤ 400 → 0 ≤ f34_0_14.toInt → f34_0_14.toInt ≤ 400 → (400 - f34_0_14.toInt).toNat < n34 → Wd dC dI A s.heap H locs w39 → TW ksM ad cy B qr 12 w39 → FE ksM [(12, 14, 14), (12, 15, 15), (12, 16, 16)] w0 w39 → gi w39 0 1 = f34_0_1 → gi w39 0 14 = f34_0_14 → lv_has ls 5 [(0, .ref (ad 0)), (1, .int a1), (2, .int 24), (3, .int v34_3), (4, .int v34_4)] → W p l e ({ frames := 2, cells := 0, slots := 0, locals := 37 }) s m (List.toArray [.ref (ad 0), .int a1, .int 24]) below meth c H locs 0 0 (MQ below (va_Qi (P_X12_numberHere_3 ad cy B qr s1 a1 w0) (fun u : va_W => wpost dC dI cy A u) A) (List.toArray [.ref (ad 0), .int a1, .int 24]) s 0 0 A) (F0 m 34 ls []) := by
    intro n34
    induction n34 with
    | zero => intro v34_3 v34_4 f34_0_1 f34_0_14 H locs ls w39 r40 t41 r42 t43 r44 t45 r47 t48 hm34 hw hT hF c46 c49 hl; omega
    | succ n34 ih34 =>
      intro v34_3 v34_4 f34_0_1 f34_0_14 H locs ls w39 r40 t41 r42 t43 r44 t45 r47 t48 hm34 hw hT hF c46 c49 hl
      have J75 : ∀ (v75_4 : Int32) (H : Heap) (locs : List Loc) (ls : Array Slot) (w50 : va_W), 1 ≤ a1.toInt → a1.toInt ≤ 24 → 0 ≤ v34_3.toInt → v34_3.toInt ≤ 399 → 1 ≤ f34_0_1.toInt → f34_0_1.toInt ≤ 400 → 0 ≤ f34_0_14.toInt → f34_0_14.toInt ≤ 399 → Wd dC dI A s.heap H locs w50 → TW ksM ad cy B qr 12 w50 → FE ksM [(12, 14, 14), (12, 15, 15), (12, 16, 16)] w0 w50 → gi w50 0 1 = f34_0_1 → gi w50 0 14 = f34_0_14 → lv_has ls 5 [(0, .ref (ad 0)), (1, .int a1), (2, .int 24), (3, .int v34_3), (4, .int v75_4)] → W p l e ({ frames := 2, cells := 0, slots := 0, locals := 37 }) s m (List.toArray [.ref (ad 0), .int a1, .int 24]) below meth c H locs 0 0 (MQ below (va_Qi (P_X12_numberHere_3 ad cy B qr s1 a1 w0) (fun u : va_W => wpost dC dI cy A u) A) (List.toArray [.ref (ad 0), .int a1, .int 24]) s 0 0 A) (F0 m 75 ls []) := by
        intro v75_4 H locs ls w50 r51 t52 r53 t54 r55 t56 r58 t59 hw hT hF c57 c60 hl
        refine lv_aload_n hx hb dX12_numberHere_75 rfl (lv_at hl 0 rfl) ?_
        refine lv_dup hx hb dX12_numberHere_76 rfl ?_
        refine tk_geti hC hK hw hT hinX12 kM_at0 (by decide) rfl 14 (by decide) (List.mem_of_getElem? (i := 1) rfl) rfl rfl dX12_numberHere_77 (fun x61 c62 rx61 tx61 => ?_)
        refine wk_top f34_0_14 (c62.symm.trans c60) ?_
        refine lv_iconst (v := 1) hx hb dX12_numberHere_80 (by decide) ?_
        refine lv_iadd hx hb dX12_numberHere_81 ?_
        refine lv_topi (fun x63 ex63 => ?_)
        have ex63 : x63.toInt = f34_0_14.toInt + (1 : Int) := by rw [ex63]; exact wk_add (show (-2147483648) ≤ f34_0_14.toInt + (1 : Int) by omega) (show f34_0_14.toInt + (1 : Int) ≤ 2147483647 by omega)
        refine tk_puti hC hK hw hT hinX12 tyX12_ok nmX12 kM_at0 (by decide) rfl rfl 14 (by decide) (List.mem_of_getElem? (i := 1) rfl) rfl rfl rfl rfl (show 0 ≤ x63.toInt by omega) (show x63.toInt ≤ 400 by omega) dX12_numberHere_82 (fun H locs w64 hw hT k66 c65 => ?_)
        have hF := hF.put kM_at0 (k := 14) (by decide) k66
        have c67 := k66.gi (Or.inr (by decide)) c57
        refine lv_goto (tgt := 34) hx hb dX12_numberHere_85 (by decide) ?_
        exact ih34 v34_3 v75_4 f34_0_1 x63 H locs ls w64 (show 1 ≤ a1.toInt by omega) (show a1.toInt ≤ 24 by omega) (show 0 ≤ v34_3.toInt by omega) (show v34_3.toInt ≤ 399 by omega) (show 1 ≤ f34_0_1.toInt by omega) (show f34_0_1.toInt ≤ 400 by omega) (show 0 ≤ x63.toInt by omega) (show x63.toInt ≤ 400 by omega) (show (400 - x63.toInt).toNat < n34 by omega) hw hT hF c67 c65 (lv_sub hl [0, 1, 2, 3, 4] rfl)
      refine lv_aload_n hx hb dX12_numberHere_34 rfl (lv_at hl 0 rfl) ?_
      refine lv_aload_n hx hb dX12_numberHere_35 rfl (lv_at hl 0 rfl) ?_
      refine tk_geti hC hK hw hT hinX12 kM_at0 (by decide) rfl 14 (by decide) (List.mem_of_getElem? (i := 1) rfl) rfl rfl dX12_numberHere_36 (fun x68 c69 rx68 tx68 => ?_)
      refine wk_top f34_0_14 (c69.symm.trans c49) ?_
      refine tk_Vi hC hK hw hT hA hE hSR kM_at0 (by decide) rfl (k_X12_isDigit_1 l adK adV dC dI cy ad B (by omega) (by omega) qr s1   f34_0_14 (show 0 ≤ f34_0_14.toInt by omega) (show f34_0_14.toInt ≤ 400 by omega) w39 H.size hT ) (cwV 1 hC.2.2.2.2 gX12_numberHere_X12_isDigit rfl rfl rfl (by decide +kernel) ⟨Nat.le_of_ble_eq_true rfl, Nat.le_of_ble_eq_true rfl⟩) rfl hl.1 rfl (Nat.le_of_ble_eq_true rfl) dX12_numberHere_39 (fun r70 w72 H locs hp71 hw => ?_)
      obtain ⟨hT, k73, hg79⟩ := hp71
      have hF := hF.tr k73 (by decide)
      have c80 := k73.gi kM_at0 (by decide) c46
      have c81 := k73.gi kM_at0 (by decide) c49
      rcases hg79 with ⟨rfl, ⟨x74, c75, rx74, tx74⟩⟩ | ⟨rfl, g76, ⟨x77, c78, rx77, tx77⟩⟩
      · have ex74 : x74.toInt = f34_0_1.toInt := by rw [← c80.symm.trans c75]
        refine lv_if_eq (tgt := 88) hx hb dX12_numberHere_42 (by decide) (fun _ => ?_) (fun c => absurd (by decide) c)
        refine lv_aload_n hx hb dX12_numberHere_88 rfl (lv_at hl 0 rfl) ?_
        refine lv_iload hx hb dX12_numberHere_89 (lv_at hl 4 rfl) ?_
        refine tk_puti hC hK hw hT hinX12 tyX12_ok nmX12 kM_at0 (by decide) rfl rfl 16 (by decide) (List.mem_of_getElem? (i := 3) rfl) rfl rfl rfl rfl (wk_i32 v34_4).1 (wk_i32 v34_4).2 dX12_numberHere_91 (fun H locs w82 hw hT k84 c83 => ?_)
        have hF := hF.put kM_at0 (k := 16) (by decide) k84
        have c85 := k84.gi (Or.inr (by decide)) c80
        have c86 := k84.gi (Or.inr (by decide)) c81
        refine lv_aload_n hx hb dX12_numberHere_94 rfl (lv_at hl 0 rfl) ?_
        refine tk_geti hC hK hw hT hinX12 kM_at0 (by decide) rfl 14 (by decide) (List.mem_of_getElem? (i := 1) rfl) rfl rfl dX12_numberHere_95 (fun x87 c88 rx87 tx87 => ?_)
        refine wk_top f34_0_14 (c88.symm.trans c86) ?_
        refine lv_iload_n hx hb dX12_numberHere_98 rfl (lv_at hl 3 rfl) ?_
        refine lv_isub hx hb dX12_numberHere_99 ?_
        refine lv_topi (fun x89 ex89 => ?_)
        have ex89 : x89.toInt = f34_0_14.toInt - v34_3.toInt := by rw [ex89]; exact wk_sub (show (-2147483648) ≤ f34_0_14.toInt - v34_3.toInt by omega) (show f34_0_14.toInt - v34_3.toInt ≤ 2147483647 by omega)
        refine lv_iconst (v := 5) hx hb dX12_numberHere_100 (by decide) ?_
        refine lv_icmp_gt (tgt := 117) hx hb dX12_numberHere_101 (by decide) (fun c90 => ?_) (fun c90 => ?_)
        · have c90 : (5 : Int) < x89.toInt := wk_lt.mp c90
          exact J117 v34_3 v34_4 f34_0_1 f34_0_14 v34_4 H locs ls w82 (show 1 ≤ a1.toInt by omega) (show a1.toInt ≤ 24 by omega) (show 0 ≤ v34_3.toInt by omega) (show v34_3.toInt ≤ 399 by omega) (show 1 ≤ f34_0_1.toInt by omega) (show f34_0_1.toInt ≤ 400 by omega) (show 0 ≤ f34_0_14.toInt by omega) (show f34_0_14.toInt ≤ 400 by omega)  hw hT hF c85 c86 c83 (lv_sub hl [0, 1, 2, 3, 4] rfl)
        · have c90 : x89.toInt ≤ (5 : Int) := wk_ltF c90
          refine lv_iload hx hb dX12_numberHere_104 (lv_at hl 4 rfl) ?_
          refine lv_i2l hx hb dX12_numberHere_106 rfl ?_
          refine lv_topl (fun x91 ex91 => ?_)
          have ex91 : x91.toInt = v34_4.toInt := by rw [ex91]; exact wk_i2l _
          have bx91 := wk_i32 v34_4
          refine lv_iload_n hx hb dX12_numberHere_107 rfl (lv_at hl 1 rfl) ?_
          refine lv_i2l hx hb dX12_numberHere_108 rfl ?_
          refine lv_topl (fun x92 ex92 => ?_)
          have ex92 : x92.toInt = a1.toInt := by rw [ex92]; exact wk_i2l _
          have bx92 := wk_i32 a1
          refine lv_iload_n hx hb dX12_numberHere_109 rfl (lv_at hl 2 rfl) ?_
          refine lv_i2l hx hb dX12_numberHere_110 rfl ?_
          refine wk_topl 24 (by decide) ?_
          refine tk_Si hC hK hw hT hA hE hSR (k_X12_in_3 l adK adV dC dI cy ad B (by omega) (by omega) qr s1   x91 (show (-2147483648) ≤ x91.toInt by omega) (show x91.toInt ≤ 2147483647 by omega) x92 (show 1 ≤ x92.toInt by omega) (show x92.toInt ≤ 24 by omega) w82 H.size hT ) (va_cwS 3 hC.2.2.2.2 gX12_numberHere_X12_in rfl rfl rfl (by decide +kernel) ⟨Nat.le_of_ble_eq_true rfl, Nat.le_of_ble_eq_true rfl⟩) rfl hl.1 rfl (Nat.le_of_ble_eq_true rfl) dX12_numberHere_111 (fun r93 w95 H locs hp94 hw => ?_)
          obtain ⟨hT, k96, hg99⟩ := hp94
          have hF := hF.tr k96 (by decide)
          have c100 := k96.gi kM_at0 (by decide) c85
          have c101 := k96.gi kM_at0 (by decide) c86
          have c102 := k96.gi kM_at0 (by decide) c83
          rcases hg99 with rfl | ⟨rfl, g97, g98⟩
          · refine lv_if_ne (tgt := 126) hx hb dX12_numberHere_114 (by decide) (fun c => absurd (by decide) c) (fun _ => ?_)
            exact J117 v34_3 v34_4 f34_0_1 f34_0_14 v34_4 H locs ls w95 (show 1 ≤ a1.toInt by omega) (show a1.toInt ≤ 24 by omega) (show 0 ≤ v34_3.toInt by omega) (show v34_3.toInt ≤ 399 by omega) (show 1 ≤ f34_0_1.toInt by omega) (show f34_0_1.toInt ≤ 400 by omega) (show 0 ≤ f34_0_14.toInt by omega) (show f34_0_14.toInt ≤ 400 by omega)  hw hT hF c100 c101 c102 (lv_sub hl [0, 1, 2, 3, 4] rfl)
          · refine lv_if_ne (tgt := 126) hx hb dX12_numberHere_114 (by decide) (fun _ => ?_) (fun c => absurd c (by decide))
            exact J126 v34_3 v34_4 f34_0_1 f34_0_14 v34_4 H locs ls w95 (show 1 ≤ a1.toInt by omega) (show a1.toInt ≤ 24 by omega) (show 0 ≤ v34_3.toInt by omega) (show v34_3.toInt ≤ 399 by omega) (show 1 ≤ v34_4.toInt by omega) (show v34_4.toInt ≤ 24 by omega) (show 1 ≤ f34_0_1.toInt by omega) (show f34_0_1.toInt ≤ 400 by omega) (show 0 ≤ f34_0_14.toInt by omega) (show f34_0_14.toInt ≤ 400 by omega) (show 1 ≤ v34_4.toInt by omega) (show v34_4.toInt ≤ 24 by omega)  hw hT hF c100 c101 c102 (lv_sub hl [0, 1, 2, 3, 4] rfl)
      · have ex77 : x77.toInt = f34_0_1.toInt := by rw [← c80.symm.trans c78]
        refine lv_if_eq (tgt := 88) hx hb dX12_numberHere_42 (by decide) (fun c => absurd c (by decide)) (fun _ => ?_)
        refine lv_aload_n hx hb dX12_numberHere_45 rfl (lv_at hl 0 rfl) ?_
        refine tk_geti hC hK hw hT hinX12 kM_at0 (by decide) rfl 14 (by decide) (List.mem_of_getElem? (i := 1) rfl) rfl rfl dX12_numberHere_46 (fun x103 c104 rx103 tx103 => ?_)
        refine wk_top f34_0_14 (c104.symm.trans c81) ?_
        refine lv_iload_n hx hb dX12_numberHere_49 rfl (lv_at hl 3 rfl) ?_
        refine lv_isub hx hb dX12_numberHere_50 ?_
        refine lv_topi (fun x105 ex105 => ?_)
        have ex105 : x105.toInt = f34_0_14.toInt - v34_3.toInt := by rw [ex105]; exact wk_sub (show (-2147483648) ≤ f34_0_14.toInt - v34_3.toInt by omega) (show f34_0_14.toInt - v34_3.toInt ≤ 2147483647 by omega)
        refine lv_iconst (v := 5) hx hb dX12_numberHere_51 (by decide) ?_
        refine lv_icmp_ge (tgt := 75) hx hb dX12_numberHere_52 (by decide) (fun c106 => ?_) (fun c106 => ?_)
        · have c106 : (5 : Int) ≤ x105.toInt := wk_le.mp c106
          exact J75 v34_4 H locs ls w72 (show 1 ≤ a1.toInt by omega) (show a1.toInt ≤ 24 by omega) (show 0 ≤ v34_3.toInt by omega) (show v34_3.toInt ≤ 399 by omega) (show 1 ≤ f34_0_1.toInt by omega) (show f34_0_1.toInt ≤ 400 by omega) (show 0 ≤ f34_0_14.toInt by omega) (show f34_0_14.toInt ≤ 399 by omega)  hw hT hF c80 c81 (lv_sub hl [0, 1, 2, 3, 4] rfl)
        · have c106 : x105.toInt < (5 : Int) := wk_leF c106
          refine lv_bipush (v := 10) hx hb dX12_numberHere_55 (by decide) ?_
          refine lv_iload hx hb dX12_numberHere_57 (lv_at hl 4 rfl) ?_
          refine lv_imul hx hb dX12_numberHere_59 ?_
          have nx107 := wk_i32 v34_4
          refine lv_topi (fun x108 ex108 => ?_)
          refine lv_aload_n hx hb dX12_numberHere_60 rfl (lv_at hl 0 rfl) ?_
          refine tk_getA hC hK hw hT hinX12 kM_at0 (by decide) rfl 0 (by decide) (List.mem_of_getElem? (i := 2) rfl) rfl rfl dX12_numberHere_61 ?_
          refine lv_aload_n hx hb dX12_numberHere_64 rfl (lv_at hl 0 rfl) ?_
          refine tk_geti hC hK hw hT hinX12 kM_at0 (by decide) rfl 14 (by decide) (List.mem_of_getElem? (i := 1) rfl) rfl rfl dX12_numberHere_65 (fun x109 c110 rx109 tx109 => ?_)
          refine wk_top f34_0_14 (c110.symm.trans c81) ?_
          refine tk_bald hC hK hw hT kM_at1 rfl rfl (show 0 ≤ f34_0_14.toInt by omega) (show f34_0_14.toInt < 400 by omega) dX12_numberHere_68 (fun x111 c112 rx111 tx111 => ?_)
          have c112 : gi w72 1 (f34_0_14.toInt).toNat = x111 := (congrArg (gi w72 1) (congrArg Int.toNat (show f34_0_14.toInt = f34_0_14.toInt by omega))).trans c112
          refine lv_iadd hx hb dX12_numberHere_69 ?_
          have nx113 := wk_i32 x108
          refine lv_topi (fun x114 ex114 => ?_)
          refine lv_bipush (v := 48) hx hb dX12_numberHere_70 (by decide) ?_
          refine lv_isub hx hb dX12_numberHere_72 ?_
          have nx115 := wk_i32 x114
          refine lv_topi (fun x116 ex116 => ?_)
          refine lv_istore (lv' := [(4, .int x116), (0, .ref (ad 0)), (1, .int a1), (2, .int 24), (3, .int v34_3)]) hx hb dX12_numberHere_73 hl (by decide) rfl (fun ls hl => ?_)
          exact J75 x116 H locs ls w72 (show 1 ≤ a1.toInt by omega) (show a1.toInt ≤ 24 by omega) (show 0 ≤ v34_3.toInt by omega) (show v34_3.toInt ≤ 399 by omega) (show 1 ≤ f34_0_1.toInt by omega) (show f34_0_1.toInt ≤ 400 by omega) (show 0 ≤ f34_0_14.toInt by omega) (show f34_0_14.toInt ≤ 399 by omega)  hw hT hF c80 c81 (lv_sub hl [1, 2, 3, 4, 0] rfl)
  refine lv_aload_n hx hb dX12_numberHere_0 rfl (lv_at hl 0 rfl) ?_
  obtain ⟨x117, c118, rx117, tx117⟩ := hT.rdi (lo := 0) (hi := 400) (k := 14) kM_at0 (by decide) rfl
  refine tk_Vi hC hK hw hT hA hE hSR kM_at0 (by decide) rfl (k_X12_see_1 l adK adV dC dI cy ad B (by omega) (by omega) qr s1    w0 s.heap.size hT x117 c118 (show 0 ≤ x117.toInt by omega) (show x117.toInt ≤ 400 by omega)) (cwV 0 hC.2.2.2.2 gX12_numberHere_X12_see rfl rfl rfl (by decide +kernel) ⟨Nat.le_of_ble_eq_true rfl, Nat.le_of_ble_eq_true rfl⟩) rfl hl.1 rfl (Nat.le_of_ble_eq_true rfl) dX12_numberHere_1 (fun r119 w121 H locs hp120 hw => ?_)
  obtain ⟨hT, k122, hg139⟩ := hp120
  have hF := hF.tr k122 (by decide)
  rcases hg139 with ⟨g123, g124, ⟨x125, c126, rx125, tx125⟩, ⟨x127, c128, rx127, tx127⟩, g129, g130⟩ | ⟨rfl, ⟨x131, c132, rx131, tx131⟩, ⟨x133, c134, rx133, tx133⟩, g135⟩ | ⟨rfl, ⟨x136, c137, rx136, tx136⟩, g138⟩
  · have g129 : (gi w121 1 (x127.toInt).toNat).toInt ≠ 32 := by have q := g129; simp only [c128] at q; omega
    have g130 : (x127.toInt = x117.toInt ∨ (gi w0 1 (x117.toInt).toNat).toInt = 32) := by have q := g130; simp only [c118, c128] at q; omega
    refine lv_pop hx hb dX12_numberHere_4 rfl ?_
    refine lv_aload_n hx hb dX12_numberHere_5 rfl (lv_at hl 0 rfl) ?_
    refine lv_aload_n hx hb dX12_numberHere_6 rfl (lv_at hl 0 rfl) ?_
    refine tk_geti hC hK hw hT hinX12 kM_at0 (by decide) rfl 14 (by decide) (List.mem_of_getElem? (i := 1) rfl) rfl rfl dX12_numberHere_7 (fun x142 c143 rx142 tx142 => ?_)
    refine wk_top x127 (c143.symm.trans c128) ?_
    refine tk_Vi hC hK hw hT hA hE hSR kM_at0 (by decide) rfl (k_X12_isDigit_2 l adK adV dC dI cy ad B (by omega) (by omega) qr s1   x127 (show 0 ≤ x127.toInt by omega) (show x127.toInt ≤ 399 by omega) w121 H.size hT ) (cwV 1 hC.2.2.2.2 gX12_numberHere_X12_isDigit rfl rfl rfl (by decide +kernel) ⟨Nat.le_of_ble_eq_true rfl, Nat.le_of_ble_eq_true rfl⟩) rfl hl.1 rfl (Nat.le_of_ble_eq_true rfl) dX12_numberHere_10 (fun r144 w146 H locs hp145 hw => ?_)
    obtain ⟨hT, k147, hg152⟩ := hp145
    have hF := hF.tr k147 (by decide)
    have c153 := k147.gi kM_at0 (by decide) c126
    have c154 := k147.gi kM_at0 (by decide) c128
    rcases hg152 with ⟨rfl, ⟨x148, c149, rx148, tx148⟩⟩ | ⟨rfl, ⟨x150, c151, rx150, tx150⟩⟩
    · have ex148 : x148.toInt = x125.toInt := by rw [← c153.symm.trans c149]
      refine lv_if_ne (tgt := 26) hx hb dX12_numberHere_13 (by decide) (fun c => absurd (by decide) c) (fun _ => ?_)
      refine lv_aload_n hx hb dX12_numberHere_16 rfl (lv_at hl 0 rfl) ?_
      refine lv_iconst (v := 0) hx hb dX12_numberHere_17 (by decide) ?_
      refine lv_aload_n hx hb dX12_numberHere_18 rfl (lv_at hl 0 rfl) ?_
      refine tk_geti hC hK hw hT hinX12 kM_at0 (by decide) rfl 14 (by decide) (List.mem_of_getElem? (i := 1) rfl) rfl rfl dX12_numberHere_19 (fun x155 c156 rx155 tx155 => ?_)
      refine wk_top x127 (c156.symm.trans c154) ?_
      refine tk_Vi hC hK hw hT hA hE hSR kM_at0 (by decide) rfl (k_X12_fails_1 l adK adV dC dI cy ad B (by omega) (by omega) qr s1   0 (by decide) (by decide) x127 (show 0 ≤ x127.toInt by omega) (show x127.toInt ≤ 400 by omega) w146 H.size hT ) (cwV 2 hC.2.2.2.2 gX12_numberHere_X12_fails rfl rfl rfl (by decide +kernel) ⟨Nat.le_of_ble_eq_true rfl, Nat.le_of_ble_eq_true rfl⟩) rfl hl.1 rfl (Nat.le_of_ble_eq_true rfl) dX12_numberHere_22 (fun r157 w159 H locs hp158 hw => ?_)
      obtain ⟨hT, k160, hg163⟩ := hp158
      have hF := hF.tr k160 (by decide)
      have c164 := k160.gi kM_at0 (by decide) c153
      have c165 := k160.gi kM_at0 (by decide) c154
      obtain ⟨rfl, ⟨x161, c162, rx161, tx161⟩⟩ := hg163
      exact tk_zret hC hr rfl hlocks hK ⟨hT, hF, (Or.inl ⟨rfl, ⟨x125, c164, (show 1 ≤ x125.toInt by omega), (show x125.toInt ≤ 400 by omega)⟩, ⟨x161, c162, (show 1 ≤ x161.toInt by omega), (show x161.toInt ≤ 3205 by omega)⟩⟩)⟩ hw dX12_numberHere_25
    · have ex150 : x150.toInt = x125.toInt := by rw [← c153.symm.trans c151]
      refine lv_if_ne (tgt := 26) hx hb dX12_numberHere_13 (by decide) (fun _ => ?_) (fun c => absurd c (by decide))
      refine lv_aload_n hx hb dX12_numberHere_26 rfl (lv_at hl 0 rfl) ?_
      refine tk_geti hC hK hw hT hinX12 kM_at0 (by decide) rfl 14 (by decide) (List.mem_of_getElem? (i := 1) rfl) rfl rfl dX12_numberHere_27 (fun x166 c167 rx166 tx166 => ?_)
      refine wk_top x127 (c167.symm.trans c154) ?_
      refine lv_istore_n (lv' := [(3, .int x127), (0, .ref (ad 0)), (1, .int a1), (2, .int 24)]) hx hb dX12_numberHere_30 rfl hl (by decide) rfl (fun ls hl => ?_)
      refine lv_iconst (v := 0) hx hb dX12_numberHere_31 (by decide) ?_
      refine lv_istore (lv' := [(4, .int 0), (3, .int x127), (0, .ref (ad 0)), (1, .int a1), (2, .int 24)]) hx hb dX12_numberHere_32 hl (by decide) rfl (fun ls hl => ?_)
      exact L34 ((400 - x127.toInt).toNat + 1) x127 0 x125 x127 H locs ls w146 (show 1 ≤ a1.toInt by omega) (show a1.toInt ≤ 24 by omega) (show 0 ≤ x127.toInt by omega) (show x127.toInt ≤ 399 by omega) (show 1 ≤ x125.toInt by omega) (show x125.toInt ≤ 400 by omega) (show 0 ≤ x127.toInt by omega) (show x127.toInt ≤ 400 by omega) (Nat.lt_succ_self _) hw hT hF c153 c154 (lv_sub hl [2, 3, 4, 1, 0] rfl)
  · have g135 : (x133.toInt = x117.toInt ∨ (gi w0 1 (x117.toInt).toNat).toInt = 32) := by have q := g135; simp only [c118, c134] at q; omega
    refine lv_pop hx hb dX12_numberHere_4 rfl ?_
    refine lv_aload_n hx hb dX12_numberHere_5 rfl (lv_at hl 0 rfl) ?_
    refine lv_aload_n hx hb dX12_numberHere_6 rfl (lv_at hl 0 rfl) ?_
    refine tk_geti hC hK hw hT hinX12 kM_at0 (by decide) rfl 14 (by decide) (List.mem_of_getElem? (i := 1) rfl) rfl rfl dX12_numberHere_7 (fun x168 c169 rx168 tx168 => ?_)
    refine wk_top x133 (c169.symm.trans c134) ?_
    refine tk_Vi hC hK hw hT hA hE hSR kM_at0 (by decide) rfl (k_X12_isDigit_3 l adK adV dC dI cy ad B (by omega) (by omega) qr s1   x133 (show 1 ≤ x133.toInt by omega) (show x133.toInt ≤ 399 by omega) w121 H.size hT ) (cwV 1 hC.2.2.2.2 gX12_numberHere_X12_isDigit rfl rfl rfl (by decide +kernel) ⟨Nat.le_of_ble_eq_true rfl, Nat.le_of_ble_eq_true rfl⟩) rfl hl.1 rfl (Nat.le_of_ble_eq_true rfl) dX12_numberHere_10 (fun r170 w172 H locs hp171 hw => ?_)
    obtain ⟨hT, k173, hg178⟩ := hp171
    have hF := hF.tr k173 (by decide)
    have c179 := k173.gi kM_at0 (by decide) c132
    have c180 := k173.gi kM_at0 (by decide) c134
    rcases hg178 with ⟨rfl, ⟨x174, c175, rx174, tx174⟩⟩ | ⟨rfl, ⟨x176, c177, rx176, tx176⟩⟩
    · have ex174 : x174.toInt = x131.toInt := by rw [← c179.symm.trans c175]
      refine lv_if_ne (tgt := 26) hx hb dX12_numberHere_13 (by decide) (fun c => absurd (by decide) c) (fun _ => ?_)
      refine lv_aload_n hx hb dX12_numberHere_16 rfl (lv_at hl 0 rfl) ?_
      refine lv_iconst (v := 0) hx hb dX12_numberHere_17 (by decide) ?_
      refine lv_aload_n hx hb dX12_numberHere_18 rfl (lv_at hl 0 rfl) ?_
      refine tk_geti hC hK hw hT hinX12 kM_at0 (by decide) rfl 14 (by decide) (List.mem_of_getElem? (i := 1) rfl) rfl rfl dX12_numberHere_19 (fun x181 c182 rx181 tx181 => ?_)
      refine wk_top x133 (c182.symm.trans c180) ?_
      refine tk_Vi hC hK hw hT hA hE hSR kM_at0 (by decide) rfl (k_X12_fails_1 l adK adV dC dI cy ad B (by omega) (by omega) qr s1   0 (by decide) (by decide) x133 (show 0 ≤ x133.toInt by omega) (show x133.toInt ≤ 400 by omega) w172 H.size hT ) (cwV 2 hC.2.2.2.2 gX12_numberHere_X12_fails rfl rfl rfl (by decide +kernel) ⟨Nat.le_of_ble_eq_true rfl, Nat.le_of_ble_eq_true rfl⟩) rfl hl.1 rfl (Nat.le_of_ble_eq_true rfl) dX12_numberHere_22 (fun r183 w185 H locs hp184 hw => ?_)
      obtain ⟨hT, k186, hg189⟩ := hp184
      have hF := hF.tr k186 (by decide)
      have c190 := k186.gi kM_at0 (by decide) c179
      have c191 := k186.gi kM_at0 (by decide) c180
      obtain ⟨rfl, ⟨x187, c188, rx187, tx187⟩⟩ := hg189
      exact tk_zret hC hr rfl hlocks hK ⟨hT, hF, (Or.inl ⟨rfl, ⟨x131, c190, (show 1 ≤ x131.toInt by omega), (show x131.toInt ≤ 400 by omega)⟩, ⟨x187, c188, (show 1 ≤ x187.toInt by omega), (show x187.toInt ≤ 3205 by omega)⟩⟩)⟩ hw dX12_numberHere_25
    · have ex176 : x176.toInt = x131.toInt := by rw [← c179.symm.trans c177]
      refine lv_if_ne (tgt := 26) hx hb dX12_numberHere_13 (by decide) (fun _ => ?_) (fun c => absurd c (by decide))
      refine lv_aload_n hx hb dX12_numberHere_26 rfl (lv_at hl 0 rfl) ?_
      refine tk_geti hC hK hw hT hinX12 kM_at0 (by decide) rfl 14 (by decide) (List.mem_of_getElem? (i := 1) rfl) rfl rfl dX12_numberHere_27 (fun x192 c193 rx192 tx192 => ?_)
      refine wk_top x133 (c193.symm.trans c180) ?_
      refine lv_istore_n (lv' := [(3, .int x133), (0, .ref (ad 0)), (1, .int a1), (2, .int 24)]) hx hb dX12_numberHere_30 rfl hl (by decide) rfl (fun ls hl => ?_)
      refine lv_iconst (v := 0) hx hb dX12_numberHere_31 (by decide) ?_
      refine lv_istore (lv' := [(4, .int 0), (3, .int x133), (0, .ref (ad 0)), (1, .int a1), (2, .int 24)]) hx hb dX12_numberHere_32 hl (by decide) rfl (fun ls hl => ?_)
      exact L34 ((400 - x133.toInt).toNat + 1) x133 0 x131 x133 H locs ls w172 (show 1 ≤ a1.toInt by omega) (show a1.toInt ≤ 24 by omega) (show 0 ≤ x133.toInt by omega) (show x133.toInt ≤ 399 by omega) (show 1 ≤ x131.toInt by omega) (show x131.toInt ≤ 400 by omega) (show 0 ≤ x133.toInt by omega) (show x133.toInt ≤ 400 by omega) (Nat.lt_succ_self _) hw hT hF c179 c180 (lv_sub hl [2, 3, 4, 1, 0] rfl)
  · obtain ⟨x140, c141, rx140, tx140⟩ := hT.rdi (lo := 0) (hi := 400) (k := 14) kM_at0 (by decide) rfl
    have g138 : (x140.toInt = x117.toInt ∨ (gi w0 1 (x117.toInt).toNat).toInt = 32) := by have q := g138; simp only [c118, c141] at q; omega
    refine lv_pop hx hb dX12_numberHere_4 rfl ?_
    refine lv_aload_n hx hb dX12_numberHere_5 rfl (lv_at hl 0 rfl) ?_
    refine lv_aload_n hx hb dX12_numberHere_6 rfl (lv_at hl 0 rfl) ?_
    refine tk_geti hC hK hw hT hinX12 kM_at0 (by decide) rfl 14 (by decide) (List.mem_of_getElem? (i := 1) rfl) rfl rfl dX12_numberHere_7 (fun x194 c195 rx194 tx194 => ?_)
    refine wk_top x140 (c195.symm.trans c141) ?_
    refine tk_Vi hC hK hw hT hA hE hSR kM_at0 (by decide) rfl (k_X12_isDigit_1 l adK adV dC dI cy ad B (by omega) (by omega) qr s1   x140 (show 0 ≤ x140.toInt by omega) (show x140.toInt ≤ 400 by omega) w121 H.size hT ) (cwV 1 hC.2.2.2.2 gX12_numberHere_X12_isDigit rfl rfl rfl (by decide +kernel) ⟨Nat.le_of_ble_eq_true rfl, Nat.le_of_ble_eq_true rfl⟩) rfl hl.1 rfl (Nat.le_of_ble_eq_true rfl) dX12_numberHere_10 (fun r196 w198 H locs hp197 hw => ?_)
    obtain ⟨hT, k199, hg205⟩ := hp197
    have hF := hF.tr k199 (by decide)
    have c206 := k199.gi kM_at0 (by decide) c137
    have c207 := k199.gi kM_at0 (by decide) c141
    rcases hg205 with ⟨rfl, ⟨x200, c201, rx200, tx200⟩⟩ | ⟨rfl, g202, ⟨x203, c204, rx203, tx203⟩⟩
    · have ex200 : x200.toInt = x136.toInt := by rw [← c206.symm.trans c201]
      refine lv_if_ne (tgt := 26) hx hb dX12_numberHere_13 (by decide) (fun c => absurd (by decide) c) (fun _ => ?_)
      refine lv_aload_n hx hb dX12_numberHere_16 rfl (lv_at hl 0 rfl) ?_
      refine lv_iconst (v := 0) hx hb dX12_numberHere_17 (by decide) ?_
      refine lv_aload_n hx hb dX12_numberHere_18 rfl (lv_at hl 0 rfl) ?_
      refine tk_geti hC hK hw hT hinX12 kM_at0 (by decide) rfl 14 (by decide) (List.mem_of_getElem? (i := 1) rfl) rfl rfl dX12_numberHere_19 (fun x208 c209 rx208 tx208 => ?_)
      refine wk_top x140 (c209.symm.trans c207) ?_
      refine tk_Vi hC hK hw hT hA hE hSR kM_at0 (by decide) rfl (k_X12_fails_1 l adK adV dC dI cy ad B (by omega) (by omega) qr s1   0 (by decide) (by decide) x140 (show 0 ≤ x140.toInt by omega) (show x140.toInt ≤ 400 by omega) w198 H.size hT ) (cwV 2 hC.2.2.2.2 gX12_numberHere_X12_fails rfl rfl rfl (by decide +kernel) ⟨Nat.le_of_ble_eq_true rfl, Nat.le_of_ble_eq_true rfl⟩) rfl hl.1 rfl (Nat.le_of_ble_eq_true rfl) dX12_numberHere_22 (fun r210 w212 H locs hp211 hw => ?_)
      obtain ⟨hT, k213, hg216⟩ := hp211
      have hF := hF.tr k213 (by decide)
      have c217 := k213.gi kM_at0 (by decide) c206
      have c218 := k213.gi kM_at0 (by decide) c207
      obtain ⟨rfl, ⟨x214, c215, rx214, tx214⟩⟩ := hg216
      exact tk_zret hC hr rfl hlocks hK ⟨hT, hF, (Or.inr (Or.inl ⟨rfl, ⟨x136, c217, (show 0 ≤ x136.toInt by omega), (show x136.toInt ≤ 400 by omega)⟩, ⟨x214, c215, (show 1 ≤ x214.toInt by omega), (show x214.toInt ≤ 3205 by omega)⟩⟩))⟩ hw dX12_numberHere_25
    · have ex203 : x203.toInt = x136.toInt := by rw [← c206.symm.trans c204]
      refine lv_if_ne (tgt := 26) hx hb dX12_numberHere_13 (by decide) (fun _ => ?_) (fun c => absurd c (by decide))
      refine lv_aload_n hx hb dX12_numberHere_26 rfl (lv_at hl 0 rfl) ?_
      refine tk_geti hC hK hw hT hinX12 kM_at0 (by decide) rfl 14 (by decide) (List.mem_of_getElem? (i := 1) rfl) rfl rfl dX12_numberHere_27 (fun x219 c220 rx219 tx219 => ?_)
      refine wk_top x140 (c220.symm.trans c207) ?_
      refine lv_istore_n (lv' := [(3, .int x140), (0, .ref (ad 0)), (1, .int a1), (2, .int 24)]) hx hb dX12_numberHere_30 rfl hl (by decide) rfl (fun ls hl => ?_)
      refine lv_iconst (v := 0) hx hb dX12_numberHere_31 (by decide) ?_
      refine lv_istore (lv' := [(4, .int 0), (3, .int x140), (0, .ref (ad 0)), (1, .int a1), (2, .int 24)]) hx hb dX12_numberHere_32 hl (by decide) rfl (fun ls hl => ?_)
      exact L34 ((400 - x140.toInt).toNat + 1) x140 0 x136 x140 H locs ls w198 (show 1 ≤ a1.toInt by omega) (show a1.toInt ≤ 24 by omega) (show 0 ≤ x140.toInt by omega) (show x140.toInt ≤ 399 by omega) (show 1 ≤ x136.toInt by omega) (show x136.toInt ≤ 400 by omega) (show 0 ≤ x140.toInt by omega) (show x140.toInt ≤ 400 by omega) (Nat.lt_succ_self _) hw hT hF c206 c207 (lv_sub hl [2, 3, 4, 1, 0] rfl)
abbrev P_X12_isLiftHere_1 (ad : Nat → Nat) (cy : Nat → ClassId) (B : Int) (qr : Nat) (s1 : Int) (a1 : Int32) (w0 : va_W) : Int32 → va_W → Prop := fun r u => TW ksM ad cy B qr 12 u ∧ FE ksM [(12, 10, 10), (12, 14, 14), (12, 15, 15), (12, 16, 16), (67, 0, 12)] w0 u ∧ ((r = 0 ∧ (∃ y : Int32, gi u 0 10 = y ∧ 4 ≤ y.toInt ∧ y.toInt ≤ 4) ∧ (∃ y : Int32, gi u 0 15 = y ∧ 1 ≤ y.toInt ∧ y.toInt ≤ 3205)) ∨ (r = 0 ∧ (∃ y : Int32, gi u 0 1 = y ∧ 1 ≤ y.toInt ∧ y.toInt ≤ 400) ∧ (∃ y : Int32, gi u 0 10 = y ∧ 0 ≤ y.toInt ∧ y.toInt ≤ 3) ∧ (∃ y : Int32, gi u 0 15 = y ∧ 1 ≤ y.toInt ∧ y.toInt ≤ 3205)) ∨ (r = 0 ∧ (∃ y : Int32, gi u 0 1 = y ∧ 0 ≤ y.toInt ∧ y.toInt ≤ 400) ∧ (∃ y : Int32, gi u 0 10 = y ∧ 0 ≤ y.toInt ∧ y.toInt ≤ 3) ∧ (∃ y : Int32, gi u 0 15 = y ∧ 1 ≤ y.toInt ∧ y.toInt ≤ 3205)) ∨ (r = 1 ∧ (∃ y : Int32, gi u 0 1 = y ∧ 1 ≤ y.toInt ∧ y.toInt ≤ 400) ∧ (∃ y : Int32, gi u 0 8 = y ∧ 1 ≤ y.toInt ∧ y.toInt ≤ 12) ∧ (∃ y : Int32, gi u 0 10 = y ∧ 1 ≤ y.toInt ∧ y.toInt ≤ 4) ∧ (∃ y : Int32, gi u 0 16 = y ∧ 1 ≤ y.toInt ∧ y.toInt ≤ 24)))
set_option maxHeartbeats 4000000 in
set_option maxRecDepth 100000 in
theorem k_X12_isLiftHere_1 (l : Launch) (adK adV : Nat → Nat) (dC : Nat → ClassId) (dI : Nat → Nat → Nat) (cy : Nat → ClassId) (ad : Nat → Nat) (B : Int) (hB0 : 100000 ≤ B) (hB1 : B ≤ 1073741824) (qr : Nat) (s1 : Int)  (a1 : Int32) (ra1 : 0 ≤ a1.toInt) (ta1 : a1.toInt ≤ 400) (w0 : va_W) (sz : Nat) (hT : TW ksM ad cy B qr 12 w0)  : Met l yX12_isLiftHere wsX12_isLiftHere ({ frames := 3, cells := 0, slots := 0, locals := 61 }) (va_Pc [.ref (ad 0), .int a1] (wpreS adK adV dC dI cy sz w0)) (va_Qi (P_X12_isLiftHere_1 ad cy B qr s1 a1 w0) (fun u : va_W => wpost dC dI cy (va_A w0 sz) u) (va_A w0 sz)) 0 0 (va_A w0 sz) := by
  refine Met.ofW (cc := cX12_isLiftHere) (maxL := 3) (ret := (some .boolean)) (by decide) rfl ?_
  intro p e s m args below meth c s₁ Bk hml hv
  obtain ⟨rfl, ⟨hsz, hP, hK, hD0⟩, hE, hSR⟩ := hv
  have hx := Bk.exec
  have hb := Bk.bytes
  have hr := Bk.returns
  have hlocks := Bk.notSynchronized
  have hC : CallFix p m c cX12_isLiftHere 3 s _ wsX12_isLiftHere RX12 := ⟨hx, hb, hml, findClass_of_methodNamed Bk.named, atoms_spec (ws := wsX12_isLiftHere) Bk.pre⟩
  subst hsz
  have hD := hD0.self (sz := s.heap.size)
  generalize hAe : va_A w0 s.heap.size = A at hD hE ⊢
  have hA : ∀ q : Nat, s.heap.size ≤ q → A q := fun q h => by rw [← hAe]; exact Or.inr h
  have hw : Wd dC dI A s.heap s.heap [] w0 := ⟨hP, hD, va_S.rf⟩
  have hF : FE ksM [(12, 10, 10), (12, 14, 14), (12, 15, 15), (12, 16, 16), (67, 0, 12)] w0 w0 := FE.rf
  have hl := lv_entry ([.ref (ad 0), .int a1]) (n := 3) (Nat.le_of_ble_eq_true rfl)
  rw [lg_entry_eq]
  generalize (lg_sl ([.ref (ad 0), .int a1]) ++ List.replicate (3 - (lg_sl ([.ref (ad 0), .int a1])).length) Slot.unset).toArray = ls at hl ⊢
  have hl : lv_has ls 3 [(0, .ref (ad 0)), (1, .int a1)] := hl
  generalize hloc : ([] : List Loc) = locs at hw ⊢
  have hinX12 : ∀ w ∈ u_ws RX12 TX12 42, w ∈ wsX12_isLiftHere := fun _ h => List.mem_cons_of_mem _ (List.mem_append_right _ (h))
  refine lv_aload_n hx hb dX12_isLiftHere_0 rfl (lv_at hl 0 rfl) ?_
  refine tk_geti hC hK hw hT hinX12 kM_at0 (by decide) rfl 10 (by decide) (List.mem_of_getElem? (i := 1) rfl) rfl rfl dX12_isLiftHere_1 (fun x1 c2 rx1 tx1 => ?_)
  refine lv_iconst (v := 4) hx hb dX12_isLiftHere_4 (by decide) ?_
  refine lv_icmp_ne (tgt := 15) hx hb dX12_isLiftHere_5 (by decide) (fun c3 => ?_) (fun c3 => ?_)
  · have c3 : ¬ x1.toInt = (4 : Int) := wk_eqF c3
    refine lv_aload_n hx hb dX12_isLiftHere_15 rfl (lv_at hl 0 rfl) ?_
    refine tk_Vv hC hK hw hT hA hE hSR kM_at0 (by decide) rfl (k_X12_passWord_1 l adK adV dC dI cy ad B (by omega) (by omega) qr s1    w0 s.heap.size hT ) (cwV 0 hC.2.2.2.2 gX12_isLiftHere_X12_passWord rfl rfl rfl (by decide +kernel) ⟨Nat.le_of_ble_eq_true rfl, Nat.le_of_ble_eq_true rfl⟩) rfl hl.1 rfl (Nat.le_of_ble_eq_true rfl) dX12_isLiftHere_16 (fun w6 H locs hp5 hw => ?_)
    obtain ⟨hT, k7, hg14⟩ := hp5
    have hF := hF.tr k7 (by decide)
    have c15 := k7.gi kM_at0 (by decide) c2
    rcases hg14 with ⟨⟨x8, c9, rx8, tx8⟩, ⟨x10, c11, rx10, tx10⟩⟩ | ⟨x12, c13, rx12, tx12⟩
    · refine lv_iconst (v := 3) hx hb dX12_isLiftHere_19 (by decide) ?_
      refine lv_aload_n hx hb dX12_isLiftHere_20 rfl (lv_at hl 0 rfl) ?_
      refine tk_geti hC hK hw hT hinX12 kM_at0 (by decide) rfl 10 (by decide) (List.mem_of_getElem? (i := 1) rfl) rfl rfl dX12_isLiftHere_21 (fun x16 c17 rx16 tx16 => ?_)
      refine wk_top x1 (c17.symm.trans c15) ?_
      refine lv_imul hx hb dX12_isLiftHere_24 ?_
      refine lv_topi (fun x18 ex18 => ?_)
      have ex18 : x18.toInt = (3 : Int) * x1.toInt := by rw [ex18]; exact wk_mul (show (-2147483648) ≤ (3 : Int) * x1.toInt by omega) (show (3 : Int) * x1.toInt ≤ 2147483647 by omega)
      refine lv_istore_n (lv' := [(2, .int x18), (0, .ref (ad 0)), (1, .int a1)]) hx hb dX12_isLiftHere_25 rfl hl (by decide) rfl (fun ls hl => ?_)
      refine lv_aload_n hx hb dX12_isLiftHere_26 rfl (lv_at hl 1 rfl) ?_
      refine lv_iconst (v := 0) hx hb dX12_isLiftHere_27 (by decide) ?_
      refine lv_aload_n hx hb dX12_isLiftHere_28 rfl (lv_at hl 1 rfl) ?_
      refine tk_geti hC hK hw hT hinX12 kM_at0 (by decide) rfl 8 (by decide) (List.mem_of_getElem? (i := 2) rfl) rfl rfl dX12_isLiftHere_29 (fun x19 c20 rx19 tx19 => ?_)
      refine lv_iconst (v := 1) hx hb dX12_isLiftHere_32 (by decide) ?_
      refine lv_isub hx hb dX12_isLiftHere_33 ?_
      refine lv_topi (fun x21 ex21 => ?_)
      have ex21 : x21.toInt = x19.toInt - (1 : Int) := by rw [ex21]; exact wk_sub (show (-2147483648) ≤ x19.toInt - (1 : Int) by omega) (show x19.toInt - (1 : Int) ≤ 2147483647 by omega)
      refine tk_Vi hC hK hw hT hA hE hSR kM_at0 (by decide) rfl (k_X12_numberHere_1 l adK adV dC dI cy ad B (by omega) (by omega) qr s1   x21 (show (-1) ≤ x21.toInt by omega) (show x21.toInt ≤ 11 by omega) w6 H.size hT ) (cwV 2 hC.2.2.2.2 gX12_isLiftHere_X12_numberHere rfl rfl rfl (by decide +kernel) ⟨Nat.le_of_ble_eq_true rfl, Nat.le_of_ble_eq_true rfl⟩) rfl hl.1 rfl (Nat.le_of_ble_eq_true rfl) dX12_isLiftHere_34 (fun r22 w24 H locs hp23 hw => ?_)
      obtain ⟨hT, k25, hg39⟩ := hp23
      have hF := hF.tr k25 (by decide)
      have c40 := k25.gi kM_at0 (by decide) c15
      have c41 := k25.gi kM_at0 (by decide) c9
      have c42 := k25.gi kM_at0 (by decide) c20
      rcases hg39 with ⟨rfl, ⟨x26, c27, rx26, tx26⟩, ⟨x28, c29, rx28, tx28⟩⟩ | ⟨rfl, ⟨x30, c31, rx30, tx30⟩, ⟨x32, c33, rx32, tx32⟩⟩ | ⟨rfl, g34, ⟨x35, c36, rx35, tx35⟩, ⟨x37, c38, rx37, tx37⟩⟩
      · have ex26 : x26.toInt = x8.toInt := by rw [← c41.symm.trans c27]
        refine lv_if_ne (tgt := 42) hx hb dX12_isLiftHere_37 (by decide) (fun c => absurd (by decide) c) (fun _ => ?_)
        refine lv_iconst (v := 0) hx hb dX12_isLiftHere_40 (by decide) ?_
        exact tk_zret hC hr rfl hlocks hK ⟨hT, hF, (Or.inr (Or.inl ⟨rfl, ⟨x8, c41, (show 1 ≤ x8.toInt by omega), (show x8.toInt ≤ 400 by omega)⟩, ⟨x1, c40, (show 0 ≤ x1.toInt by omega), (show x1.toInt ≤ 3 by omega)⟩, ⟨x28, c29, (show 1 ≤ x28.toInt by omega), (show x28.toInt ≤ 3205 by omega)⟩⟩))⟩ hw dX12_isLiftHere_41
      · have ex30 : x30.toInt = x8.toInt := by rw [← c41.symm.trans c31]
        refine lv_if_ne (tgt := 42) hx hb dX12_isLiftHere_37 (by decide) (fun c => absurd (by decide) c) (fun _ => ?_)
        refine lv_iconst (v := 0) hx hb dX12_isLiftHere_40 (by decide) ?_
        exact tk_zret hC hr rfl hlocks hK ⟨hT, hF, (Or.inr (Or.inl ⟨rfl, ⟨x8, c41, (show 1 ≤ x8.toInt by omega), (show x8.toInt ≤ 400 by omega)⟩, ⟨x1, c40, (show 0 ≤ x1.toInt by omega), (show x1.toInt ≤ 3 by omega)⟩, ⟨x32, c33, (show 1 ≤ x32.toInt by omega), (show x32.toInt ≤ 3205 by omega)⟩⟩))⟩ hw dX12_isLiftHere_41
      · have ex35 : x35.toInt = x8.toInt := by rw [← c41.symm.trans c36]
        refine lv_if_ne (tgt := 42) hx hb dX12_isLiftHere_37 (by decide) (fun _ => ?_) (fun c => absurd c (by decide))
        refine lv_aload_n hx hb dX12_isLiftHere_42 rfl (lv_at hl 1 rfl) ?_
        refine tk_getA hC hK hw hT hinX12 kM_at0 (by decide) rfl 13 (by decide) (List.mem_of_getElem? (i := 3) rfl) rfl rfl dX12_isLiftHere_43 ?_
        refine lv_iload_n hx hb dX12_isLiftHere_46 rfl (lv_at hl 0 rfl) ?_
        refine lv_aload_n hx hb dX12_isLiftHere_47 rfl (lv_at hl 1 rfl) ?_
        refine tk_geti hC hK hw hT hinX12 kM_at0 (by decide) rfl 16 (by decide) (List.mem_of_getElem? (i := 4) rfl) rfl rfl dX12_isLiftHere_48 (fun x43 c44 rx43 tx43 => ?_)
        refine wk_top x37 (c44.symm.trans c38) ?_
        refine tk_iast hC hK hw hT kM_at8 (by decide) rfl rfl (show 0 ≤ x18.toInt by omega) (show x18.toInt < 12 by omega) (wk_i32 x37).1 (wk_i32 x37).2 dX12_isLiftHere_51 (fun H locs w45 hw hT k47 c46 => ?_)
        have hF := hF.put kM_at8 (inE_of (a := 0) (b := 12) (by decide) (show 0 ≤ x18.toInt.toNat by omega) (show x18.toInt.toNat ≤ 12 by omega)) k47
        have c48 := k47.gi (Or.inl (tk_ne kM_at0 kM_at8 (by decide))) c40
        have c49 := k47.gi (Or.inl (tk_ne kM_at0 kM_at8 (by decide))) c41
        have c50 := k47.gi (Or.inl (tk_ne kM_at0 kM_at8 (by decide))) c42
        have c51 := k47.gi (Or.inl (tk_ne kM_at0 kM_at8 (by decide))) c38
        refine lv_aload_n hx hb dX12_isLiftHere_52 rfl (lv_at hl 1 rfl) ?_
        refine lv_iconst (v := 0) hx hb dX12_isLiftHere_53 (by decide) ?_
        refine lv_bipush (v := 23) hx hb dX12_isLiftHere_54 (by decide) ?_
        refine tk_Vi hC hK hw hT hA hE hSR kM_at0 (by decide) rfl (k_X12_numberHere_2 l adK adV dC dI cy ad B (by omega) (by omega) qr s1    w45 H.size hT ) (cwV 2 hC.2.2.2.2 gX12_isLiftHere_X12_numberHere rfl rfl rfl (by decide +kernel) ⟨Nat.le_of_ble_eq_true rfl, Nat.le_of_ble_eq_true rfl⟩) rfl hl.1 rfl (Nat.le_of_ble_eq_true rfl) dX12_isLiftHere_56 (fun r52 w54 H locs hp53 hw => ?_)
        obtain ⟨hT, k55, hg68⟩ := hp53
        have hF := hF.tr k55 (by decide)
        have c69 := k55.gi kM_at0 (by decide) c48
        have c70 := k55.gi kM_at0 (by decide) c49
        have c71 := k55.gi kM_at0 (by decide) c50
        rcases hg68 with ⟨rfl, ⟨x56, c57, rx56, tx56⟩, ⟨x58, c59, rx58, tx58⟩⟩ | ⟨rfl, ⟨x60, c61, rx60, tx60⟩, ⟨x62, c63, rx62, tx62⟩⟩ | ⟨rfl, ⟨x64, c65, rx64, tx64⟩, ⟨x66, c67, rx66, tx66⟩⟩
        · have ex56 : x56.toInt = x8.toInt := by rw [← c70.symm.trans c57]
          refine lv_if_ne (tgt := 64) hx hb dX12_isLiftHere_59 (by decide) (fun c => absurd (by decide) c) (fun _ => ?_)
          refine lv_iconst (v := 0) hx hb dX12_isLiftHere_62 (by decide) ?_
          exact tk_zret hC hr rfl hlocks hK ⟨hT, hF, (Or.inr (Or.inl ⟨rfl, ⟨x8, c70, (show 1 ≤ x8.toInt by omega), (show x8.toInt ≤ 400 by omega)⟩, ⟨x1, c69, (show 0 ≤ x1.toInt by omega), (show x1.toInt ≤ 3 by omega)⟩, ⟨x58, c59, (show 1 ≤ x58.toInt by omega), (show x58.toInt ≤ 3205 by omega)⟩⟩))⟩ hw dX12_isLiftHere_63
        · have ex60 : x60.toInt = x8.toInt := by rw [← c70.symm.trans c61]
          refine lv_if_ne (tgt := 64) hx hb dX12_isLiftHere_59 (by decide) (fun c => absurd (by decide) c) (fun _ => ?_)
          refine lv_iconst (v := 0) hx hb dX12_isLiftHere_62 (by decide) ?_
          exact tk_zret hC hr rfl hlocks hK ⟨hT, hF, (Or.inr (Or.inl ⟨rfl, ⟨x8, c70, (show 1 ≤ x8.toInt by omega), (show x8.toInt ≤ 400 by omega)⟩, ⟨x1, c69, (show 0 ≤ x1.toInt by omega), (show x1.toInt ≤ 3 by omega)⟩, ⟨x62, c63, (show 1 ≤ x62.toInt by omega), (show x62.toInt ≤ 3205 by omega)⟩⟩))⟩ hw dX12_isLiftHere_63
        · have ex64 : x64.toInt = x8.toInt := by rw [← c70.symm.trans c65]
          refine lv_if_ne (tgt := 64) hx hb dX12_isLiftHere_59 (by decide) (fun _ => ?_) (fun c => absurd c (by decide))
          refine lv_aload_n hx hb dX12_isLiftHere_64 rfl (lv_at hl 1 rfl) ?_
          refine tk_getA hC hK hw hT hinX12 kM_at0 (by decide) rfl 13 (by decide) (List.mem_of_getElem? (i := 3) rfl) rfl rfl dX12_isLiftHere_65 ?_
          refine lv_iload_n hx hb dX12_isLiftHere_68 rfl (lv_at hl 0 rfl) ?_
          refine lv_iconst (v := 1) hx hb dX12_isLiftHere_69 (by decide) ?_
          refine lv_iadd hx hb dX12_isLiftHere_70 ?_
          refine lv_topi (fun x72 ex72 => ?_)
          have ex72 : x72.toInt = x18.toInt + (1 : Int) := by rw [ex72]; exact wk_add (show (-2147483648) ≤ x18.toInt + (1 : Int) by omega) (show x18.toInt + (1 : Int) ≤ 2147483647 by omega)
          refine lv_aload_n hx hb dX12_isLiftHere_71 rfl (lv_at hl 1 rfl) ?_
          refine tk_geti hC hK hw hT hinX12 kM_at0 (by decide) rfl 16 (by decide) (List.mem_of_getElem? (i := 4) rfl) rfl rfl dX12_isLiftHere_72 (fun x73 c74 rx73 tx73 => ?_)
          refine wk_top x66 (c74.symm.trans c67) ?_
          refine tk_iast hC hK hw hT kM_at8 (by decide) rfl rfl (show 0 ≤ x72.toInt by omega) (show x72.toInt < 12 by omega) (wk_i32 x66).1 (wk_i32 x66).2 dX12_isLiftHere_75 (fun H locs w75 hw hT k77 c76 => ?_)
          have hF := hF.put kM_at8 (inE_of (a := 0) (b := 12) (by decide) (show 0 ≤ x72.toInt.toNat by omega) (show x72.toInt.toNat ≤ 12 by omega)) k77
          have c78 := k77.gi (Or.inl (tk_ne kM_at0 kM_at8 (by decide))) c69
          have c79 := k77.gi (Or.inl (tk_ne kM_at0 kM_at8 (by decide))) c70
          have c80 := k77.gi (Or.inl (tk_ne kM_at0 kM_at8 (by decide))) c71
          have c81 := k77.gi (Or.inl (tk_ne kM_at0 kM_at8 (by decide))) c67
          refine lv_aload_n hx hb dX12_isLiftHere_76 rfl (lv_at hl 1 rfl) ?_
          refine lv_aload_n hx hb dX12_isLiftHere_77 rfl (lv_at hl 1 rfl) ?_
          refine tk_geti hC hK hw hT hinX12 kM_at0 (by decide) rfl 16 (by decide) (List.mem_of_getElem? (i := 4) rfl) rfl rfl dX12_isLiftHere_78 (fun x82 c83 rx82 tx82 => ?_)
          refine wk_top x66 (c83.symm.trans c81) ?_
          refine lv_iconst (v := 1) hx hb dX12_isLiftHere_81 (by decide) ?_
          refine lv_iadd hx hb dX12_isLiftHere_82 ?_
          refine lv_topi (fun x84 ex84 => ?_)
          have ex84 : x84.toInt = x66.toInt + (1 : Int) := by rw [ex84]; exact wk_add (show (-2147483648) ≤ x66.toInt + (1 : Int) by omega) (show x66.toInt + (1 : Int) ≤ 2147483647 by omega)
          refine lv_bipush (v := 24) hx hb dX12_isLiftHere_83 (by decide) ?_
          refine tk_Vi hC hK hw hT hA hE hSR kM_at0 (by decide) rfl (k_X12_numberHere_3 l adK adV dC dI cy ad B (by omega) (by omega) qr s1   x84 (show 1 ≤ x84.toInt by omega) (show x84.toInt ≤ 24 by omega) w75 H.size hT ) (cwV 2 hC.2.2.2.2 gX12_isLiftHere_X12_numberHere rfl rfl rfl (by decide +kernel) ⟨Nat.le_of_ble_eq_true rfl, Nat.le_of_ble_eq_true rfl⟩) rfl hl.1 rfl (Nat.le_of_ble_eq_true rfl) dX12_isLiftHere_85 (fun r85 w87 H locs hp86 hw => ?_)
          obtain ⟨hT, k88, hg101⟩ := hp86
          have hF := hF.tr k88 (by decide)
          have c102 := k88.gi kM_at0 (by decide) c78
          have c103 := k88.gi kM_at0 (by decide) c79
          have c104 := k88.gi kM_at0 (by decide) c80
          rcases hg101 with ⟨rfl, ⟨x89, c90, rx89, tx89⟩, ⟨x91, c92, rx91, tx91⟩⟩ | ⟨rfl, ⟨x93, c94, rx93, tx93⟩, ⟨x95, c96, rx95, tx95⟩⟩ | ⟨rfl, ⟨x97, c98, rx97, tx97⟩, ⟨x99, c100, rx99, tx99⟩⟩
          · have ex89 : x89.toInt = x8.toInt := by rw [← c103.symm.trans c90]
            refine lv_if_ne (tgt := 93) hx hb dX12_isLiftHere_88 (by decide) (fun c => absurd (by decide) c) (fun _ => ?_)
            refine lv_iconst (v := 0) hx hb dX12_isLiftHere_91 (by decide) ?_
            exact tk_zret hC hr rfl hlocks hK ⟨hT, hF, (Or.inr (Or.inl ⟨rfl, ⟨x8, c103, (show 1 ≤ x8.toInt by omega), (show x8.toInt ≤ 400 by omega)⟩, ⟨x1, c102, (show 0 ≤ x1.toInt by omega), (show x1.toInt ≤ 3 by omega)⟩, ⟨x91, c92, (show 1 ≤ x91.toInt by omega), (show x91.toInt ≤ 3205 by omega)⟩⟩))⟩ hw dX12_isLiftHere_92
          · have ex93 : x93.toInt = x8.toInt := by rw [← c103.symm.trans c94]
            refine lv_if_ne (tgt := 93) hx hb dX12_isLiftHere_88 (by decide) (fun c => absurd (by decide) c) (fun _ => ?_)
            refine lv_iconst (v := 0) hx hb dX12_isLiftHere_91 (by decide) ?_
            exact tk_zret hC hr rfl hlocks hK ⟨hT, hF, (Or.inr (Or.inl ⟨rfl, ⟨x8, c103, (show 1 ≤ x8.toInt by omega), (show x8.toInt ≤ 400 by omega)⟩, ⟨x1, c102, (show 0 ≤ x1.toInt by omega), (show x1.toInt ≤ 3 by omega)⟩, ⟨x95, c96, (show 1 ≤ x95.toInt by omega), (show x95.toInt ≤ 3205 by omega)⟩⟩))⟩ hw dX12_isLiftHere_92
          · have ex97 : x97.toInt = x8.toInt := by rw [← c103.symm.trans c98]
            refine lv_if_ne (tgt := 93) hx hb dX12_isLiftHere_88 (by decide) (fun _ => ?_) (fun c => absurd c (by decide))
            refine lv_aload_n hx hb dX12_isLiftHere_93 rfl (lv_at hl 1 rfl) ?_
            refine tk_getA hC hK hw hT hinX12 kM_at0 (by decide) rfl 13 (by decide) (List.mem_of_getElem? (i := 3) rfl) rfl rfl dX12_isLiftHere_94 ?_
            refine lv_iload_n hx hb dX12_isLiftHere_97 rfl (lv_at hl 0 rfl) ?_
            refine lv_iconst (v := 2) hx hb dX12_isLiftHere_98 (by decide) ?_
            refine lv_iadd hx hb dX12_isLiftHere_99 ?_
            refine lv_topi (fun x105 ex105 => ?_)
            have ex105 : x105.toInt = x18.toInt + (2 : Int) := by rw [ex105]; exact wk_add (show (-2147483648) ≤ x18.toInt + (2 : Int) by omega) (show x18.toInt + (2 : Int) ≤ 2147483647 by omega)
            refine lv_aload_n hx hb dX12_isLiftHere_100 rfl (lv_at hl 1 rfl) ?_
            refine tk_geti hC hK hw hT hinX12 kM_at0 (by decide) rfl 16 (by decide) (List.mem_of_getElem? (i := 4) rfl) rfl rfl dX12_isLiftHere_101 (fun x106 c107 rx106 tx106 => ?_)
            refine wk_top x99 (c107.symm.trans c100) ?_
            refine tk_iast hC hK hw hT kM_at8 (by decide) rfl rfl (show 0 ≤ x105.toInt by omega) (show x105.toInt < 12 by omega) (wk_i32 x99).1 (wk_i32 x99).2 dX12_isLiftHere_104 (fun H locs w108 hw hT k110 c109 => ?_)
            have hF := hF.put kM_at8 (inE_of (a := 0) (b := 12) (by decide) (show 0 ≤ x105.toInt.toNat by omega) (show x105.toInt.toNat ≤ 12 by omega)) k110
            have c111 := k110.gi (Or.inl (tk_ne kM_at0 kM_at8 (by decide))) c102
            have c112 := k110.gi (Or.inl (tk_ne kM_at0 kM_at8 (by decide))) c103
            have c113 := k110.gi (Or.inl (tk_ne kM_at0 kM_at8 (by decide))) c104
            have c114 := k110.gi (Or.inl (tk_ne kM_at0 kM_at8 (by decide))) c100
            refine lv_aload_n hx hb dX12_isLiftHere_105 rfl (lv_at hl 1 rfl) ?_
            refine lv_dup hx hb dX12_isLiftHere_106 rfl ?_
            refine tk_geti hC hK hw hT hinX12 kM_at0 (by decide) rfl 10 (by decide) (List.mem_of_getElem? (i := 1) rfl) rfl rfl dX12_isLiftHere_107 (fun x115 c116 rx115 tx115 => ?_)
            refine wk_top x1 (c116.symm.trans c111) ?_
            refine lv_iconst (v := 1) hx hb dX12_isLiftHere_110 (by decide) ?_
            refine lv_iadd hx hb dX12_isLiftHere_111 ?_
            refine lv_topi (fun x117 ex117 => ?_)
            have ex117 : x117.toInt = x1.toInt + (1 : Int) := by rw [ex117]; exact wk_add (show (-2147483648) ≤ x1.toInt + (1 : Int) by omega) (show x1.toInt + (1 : Int) ≤ 2147483647 by omega)
            refine tk_puti hC hK hw hT hinX12 tyX12_ok nmX12 kM_at0 (by decide) rfl rfl 10 (by decide) (List.mem_of_getElem? (i := 1) rfl) rfl rfl rfl rfl (show 0 ≤ x117.toInt by omega) (show x117.toInt ≤ 4 by omega) dX12_isLiftHere_112 (fun H locs w118 hw hT k120 c119 => ?_)
            have hF := hF.put kM_at0 (k := 10) (by decide) k120
            have c121 := k120.gi (Or.inr (by decide)) c112
            have c122 := k120.gi (Or.inr (by decide)) c113
            have c123 := k120.gi (Or.inr (by decide)) c114
            refine lv_iconst (v := 1) hx hb dX12_isLiftHere_115 (by decide) ?_
            exact tk_zret hC hr rfl hlocks hK ⟨hT, hF, (Or.inr (Or.inr (Or.inr ⟨rfl, ⟨x8, c121, (show 1 ≤ x8.toInt by omega), (show x8.toInt ≤ 400 by omega)⟩, ⟨x19, c122, (show 1 ≤ x19.toInt by omega), (show x19.toInt ≤ 12 by omega)⟩, ⟨x117, c119, (show 1 ≤ x117.toInt by omega), (show x117.toInt ≤ 4 by omega)⟩, ⟨x99, c123, (show 1 ≤ x99.toInt by omega), (show x99.toInt ≤ 24 by omega)⟩⟩)))⟩ hw dX12_isLiftHere_116
    · refine lv_iconst (v := 3) hx hb dX12_isLiftHere_19 (by decide) ?_
      refine lv_aload_n hx hb dX12_isLiftHere_20 rfl (lv_at hl 0 rfl) ?_
      refine tk_geti hC hK hw hT hinX12 kM_at0 (by decide) rfl 10 (by decide) (List.mem_of_getElem? (i := 1) rfl) rfl rfl dX12_isLiftHere_21 (fun x124 c125 rx124 tx124 => ?_)
      refine wk_top x1 (c125.symm.trans c15) ?_
      refine lv_imul hx hb dX12_isLiftHere_24 ?_
      refine lv_topi (fun x126 ex126 => ?_)
      have ex126 : x126.toInt = (3 : Int) * x1.toInt := by rw [ex126]; exact wk_mul (show (-2147483648) ≤ (3 : Int) * x1.toInt by omega) (show (3 : Int) * x1.toInt ≤ 2147483647 by omega)
      refine lv_istore_n (lv' := [(2, .int x126), (0, .ref (ad 0)), (1, .int a1)]) hx hb dX12_isLiftHere_25 rfl hl (by decide) rfl (fun ls hl => ?_)
      refine lv_aload_n hx hb dX12_isLiftHere_26 rfl (lv_at hl 1 rfl) ?_
      refine lv_iconst (v := 0) hx hb dX12_isLiftHere_27 (by decide) ?_
      refine lv_aload_n hx hb dX12_isLiftHere_28 rfl (lv_at hl 1 rfl) ?_
      refine tk_geti hC hK hw hT hinX12 kM_at0 (by decide) rfl 8 (by decide) (List.mem_of_getElem? (i := 2) rfl) rfl rfl dX12_isLiftHere_29 (fun x127 c128 rx127 tx127 => ?_)
      refine lv_iconst (v := 1) hx hb dX12_isLiftHere_32 (by decide) ?_
      refine lv_isub hx hb dX12_isLiftHere_33 ?_
      refine lv_topi (fun x129 ex129 => ?_)
      have ex129 : x129.toInt = x127.toInt - (1 : Int) := by rw [ex129]; exact wk_sub (show (-2147483648) ≤ x127.toInt - (1 : Int) by omega) (show x127.toInt - (1 : Int) ≤ 2147483647 by omega)
      refine tk_Vi hC hK hw hT hA hE hSR kM_at0 (by decide) rfl (k_X12_numberHere_1 l adK adV dC dI cy ad B (by omega) (by omega) qr s1   x129 (show (-1) ≤ x129.toInt by omega) (show x129.toInt ≤ 11 by omega) w6 H.size hT ) (cwV 2 hC.2.2.2.2 gX12_isLiftHere_X12_numberHere rfl rfl rfl (by decide +kernel) ⟨Nat.le_of_ble_eq_true rfl, Nat.le_of_ble_eq_true rfl⟩) rfl hl.1 rfl (Nat.le_of_ble_eq_true rfl) dX12_isLiftHere_34 (fun r130 w132 H locs hp131 hw => ?_)
      obtain ⟨hT, k133, hg147⟩ := hp131
      have hF := hF.tr k133 (by decide)
      have c148 := k133.gi kM_at0 (by decide) c15
      have c149 := k133.gi kM_at0 (by decide) c13
      have c150 := k133.gi kM_at0 (by decide) c128
      rcases hg147 with ⟨rfl, ⟨x134, c135, rx134, tx134⟩, ⟨x136, c137, rx136, tx136⟩⟩ | ⟨rfl, ⟨x138, c139, rx138, tx138⟩, ⟨x140, c141, rx140, tx140⟩⟩ | ⟨rfl, g142, ⟨x143, c144, rx143, tx143⟩, ⟨x145, c146, rx145, tx145⟩⟩
      · have ex134 : x134.toInt = x12.toInt := by rw [← c149.symm.trans c135]
        refine lv_if_ne (tgt := 42) hx hb dX12_isLiftHere_37 (by decide) (fun c => absurd (by decide) c) (fun _ => ?_)
        refine lv_iconst (v := 0) hx hb dX12_isLiftHere_40 (by decide) ?_
        exact tk_zret hC hr rfl hlocks hK ⟨hT, hF, (Or.inr (Or.inl ⟨rfl, ⟨x12, c149, (show 1 ≤ x12.toInt by omega), (show x12.toInt ≤ 400 by omega)⟩, ⟨x1, c148, (show 0 ≤ x1.toInt by omega), (show x1.toInt ≤ 3 by omega)⟩, ⟨x136, c137, (show 1 ≤ x136.toInt by omega), (show x136.toInt ≤ 3205 by omega)⟩⟩))⟩ hw dX12_isLiftHere_41
      · have ex138 : x138.toInt = x12.toInt := by rw [← c149.symm.trans c139]
        refine lv_if_ne (tgt := 42) hx hb dX12_isLiftHere_37 (by decide) (fun c => absurd (by decide) c) (fun _ => ?_)
        refine lv_iconst (v := 0) hx hb dX12_isLiftHere_40 (by decide) ?_
        exact tk_zret hC hr rfl hlocks hK ⟨hT, hF, (Or.inr (Or.inr (Or.inl ⟨rfl, ⟨x12, c149, (show 0 ≤ x12.toInt by omega), (show x12.toInt ≤ 400 by omega)⟩, ⟨x1, c148, (show 0 ≤ x1.toInt by omega), (show x1.toInt ≤ 3 by omega)⟩, ⟨x140, c141, (show 1 ≤ x140.toInt by omega), (show x140.toInt ≤ 3205 by omega)⟩⟩)))⟩ hw dX12_isLiftHere_41
      · have ex143 : x143.toInt = x12.toInt := by rw [← c149.symm.trans c144]
        refine lv_if_ne (tgt := 42) hx hb dX12_isLiftHere_37 (by decide) (fun _ => ?_) (fun c => absurd c (by decide))
        refine lv_aload_n hx hb dX12_isLiftHere_42 rfl (lv_at hl 1 rfl) ?_
        refine tk_getA hC hK hw hT hinX12 kM_at0 (by decide) rfl 13 (by decide) (List.mem_of_getElem? (i := 3) rfl) rfl rfl dX12_isLiftHere_43 ?_
        refine lv_iload_n hx hb dX12_isLiftHere_46 rfl (lv_at hl 0 rfl) ?_
        refine lv_aload_n hx hb dX12_isLiftHere_47 rfl (lv_at hl 1 rfl) ?_
        refine tk_geti hC hK hw hT hinX12 kM_at0 (by decide) rfl 16 (by decide) (List.mem_of_getElem? (i := 4) rfl) rfl rfl dX12_isLiftHere_48 (fun x151 c152 rx151 tx151 => ?_)
        refine wk_top x145 (c152.symm.trans c146) ?_
        refine tk_iast hC hK hw hT kM_at8 (by decide) rfl rfl (show 0 ≤ x126.toInt by omega) (show x126.toInt < 12 by omega) (wk_i32 x145).1 (wk_i32 x145).2 dX12_isLiftHere_51 (fun H locs w153 hw hT k155 c154 => ?_)
        have hF := hF.put kM_at8 (inE_of (a := 0) (b := 12) (by decide) (show 0 ≤ x126.toInt.toNat by omega) (show x126.toInt.toNat ≤ 12 by omega)) k155
        have c156 := k155.gi (Or.inl (tk_ne kM_at0 kM_at8 (by decide))) c148
        have c157 := k155.gi (Or.inl (tk_ne kM_at0 kM_at8 (by decide))) c149
        have c158 := k155.gi (Or.inl (tk_ne kM_at0 kM_at8 (by decide))) c150
        have c159 := k155.gi (Or.inl (tk_ne kM_at0 kM_at8 (by decide))) c146
        refine lv_aload_n hx hb dX12_isLiftHere_52 rfl (lv_at hl 1 rfl) ?_
        refine lv_iconst (v := 0) hx hb dX12_isLiftHere_53 (by decide) ?_
        refine lv_bipush (v := 23) hx hb dX12_isLiftHere_54 (by decide) ?_
        refine tk_Vi hC hK hw hT hA hE hSR kM_at0 (by decide) rfl (k_X12_numberHere_2 l adK adV dC dI cy ad B (by omega) (by omega) qr s1    w153 H.size hT ) (cwV 2 hC.2.2.2.2 gX12_isLiftHere_X12_numberHere rfl rfl rfl (by decide +kernel) ⟨Nat.le_of_ble_eq_true rfl, Nat.le_of_ble_eq_true rfl⟩) rfl hl.1 rfl (Nat.le_of_ble_eq_true rfl) dX12_isLiftHere_56 (fun r160 w162 H locs hp161 hw => ?_)
        obtain ⟨hT, k163, hg176⟩ := hp161
        have hF := hF.tr k163 (by decide)
        have c177 := k163.gi kM_at0 (by decide) c156
        have c178 := k163.gi kM_at0 (by decide) c157
        have c179 := k163.gi kM_at0 (by decide) c158
        rcases hg176 with ⟨rfl, ⟨x164, c165, rx164, tx164⟩, ⟨x166, c167, rx166, tx166⟩⟩ | ⟨rfl, ⟨x168, c169, rx168, tx168⟩, ⟨x170, c171, rx170, tx170⟩⟩ | ⟨rfl, ⟨x172, c173, rx172, tx172⟩, ⟨x174, c175, rx174, tx174⟩⟩
        · have ex164 : x164.toInt = x12.toInt := by rw [← c178.symm.trans c165]
          refine lv_if_ne (tgt := 64) hx hb dX12_isLiftHere_59 (by decide) (fun c => absurd (by decide) c) (fun _ => ?_)
          refine lv_iconst (v := 0) hx hb dX12_isLiftHere_62 (by decide) ?_
          exact tk_zret hC hr rfl hlocks hK ⟨hT, hF, (Or.inr (Or.inl ⟨rfl, ⟨x12, c178, (show 1 ≤ x12.toInt by omega), (show x12.toInt ≤ 400 by omega)⟩, ⟨x1, c177, (show 0 ≤ x1.toInt by omega), (show x1.toInt ≤ 3 by omega)⟩, ⟨x166, c167, (show 1 ≤ x166.toInt by omega), (show x166.toInt ≤ 3205 by omega)⟩⟩))⟩ hw dX12_isLiftHere_63
        · have ex168 : x168.toInt = x12.toInt := by rw [← c178.symm.trans c169]
          refine lv_if_ne (tgt := 64) hx hb dX12_isLiftHere_59 (by decide) (fun c => absurd (by decide) c) (fun _ => ?_)
          refine lv_iconst (v := 0) hx hb dX12_isLiftHere_62 (by decide) ?_
          exact tk_zret hC hr rfl hlocks hK ⟨hT, hF, (Or.inr (Or.inl ⟨rfl, ⟨x12, c178, (show 1 ≤ x12.toInt by omega), (show x12.toInt ≤ 400 by omega)⟩, ⟨x1, c177, (show 0 ≤ x1.toInt by omega), (show x1.toInt ≤ 3 by omega)⟩, ⟨x170, c171, (show 1 ≤ x170.toInt by omega), (show x170.toInt ≤ 3205 by omega)⟩⟩))⟩ hw dX12_isLiftHere_63
        · have ex172 : x172.toInt = x12.toInt := by rw [← c178.symm.trans c173]
          refine lv_if_ne (tgt := 64) hx hb dX12_isLiftHere_59 (by decide) (fun _ => ?_) (fun c => absurd c (by decide))
          refine lv_aload_n hx hb dX12_isLiftHere_64 rfl (lv_at hl 1 rfl) ?_
          refine tk_getA hC hK hw hT hinX12 kM_at0 (by decide) rfl 13 (by decide) (List.mem_of_getElem? (i := 3) rfl) rfl rfl dX12_isLiftHere_65 ?_
          refine lv_iload_n hx hb dX12_isLiftHere_68 rfl (lv_at hl 0 rfl) ?_
          refine lv_iconst (v := 1) hx hb dX12_isLiftHere_69 (by decide) ?_
          refine lv_iadd hx hb dX12_isLiftHere_70 ?_
          refine lv_topi (fun x180 ex180 => ?_)
          have ex180 : x180.toInt = x126.toInt + (1 : Int) := by rw [ex180]; exact wk_add (show (-2147483648) ≤ x126.toInt + (1 : Int) by omega) (show x126.toInt + (1 : Int) ≤ 2147483647 by omega)
          refine lv_aload_n hx hb dX12_isLiftHere_71 rfl (lv_at hl 1 rfl) ?_
          refine tk_geti hC hK hw hT hinX12 kM_at0 (by decide) rfl 16 (by decide) (List.mem_of_getElem? (i := 4) rfl) rfl rfl dX12_isLiftHere_72 (fun x181 c182 rx181 tx181 => ?_)
          refine wk_top x174 (c182.symm.trans c175) ?_
          refine tk_iast hC hK hw hT kM_at8 (by decide) rfl rfl (show 0 ≤ x180.toInt by omega) (show x180.toInt < 12 by omega) (wk_i32 x174).1 (wk_i32 x174).2 dX12_isLiftHere_75 (fun H locs w183 hw hT k185 c184 => ?_)
          have hF := hF.put kM_at8 (inE_of (a := 0) (b := 12) (by decide) (show 0 ≤ x180.toInt.toNat by omega) (show x180.toInt.toNat ≤ 12 by omega)) k185
          have c186 := k185.gi (Or.inl (tk_ne kM_at0 kM_at8 (by decide))) c177
          have c187 := k185.gi (Or.inl (tk_ne kM_at0 kM_at8 (by decide))) c178
          have c188 := k185.gi (Or.inl (tk_ne kM_at0 kM_at8 (by decide))) c179
          have c189 := k185.gi (Or.inl (tk_ne kM_at0 kM_at8 (by decide))) c175
          refine lv_aload_n hx hb dX12_isLiftHere_76 rfl (lv_at hl 1 rfl) ?_
          refine lv_aload_n hx hb dX12_isLiftHere_77 rfl (lv_at hl 1 rfl) ?_
          refine tk_geti hC hK hw hT hinX12 kM_at0 (by decide) rfl 16 (by decide) (List.mem_of_getElem? (i := 4) rfl) rfl rfl dX12_isLiftHere_78 (fun x190 c191 rx190 tx190 => ?_)
          refine wk_top x174 (c191.symm.trans c189) ?_
          refine lv_iconst (v := 1) hx hb dX12_isLiftHere_81 (by decide) ?_
          refine lv_iadd hx hb dX12_isLiftHere_82 ?_
          refine lv_topi (fun x192 ex192 => ?_)
          have ex192 : x192.toInt = x174.toInt + (1 : Int) := by rw [ex192]; exact wk_add (show (-2147483648) ≤ x174.toInt + (1 : Int) by omega) (show x174.toInt + (1 : Int) ≤ 2147483647 by omega)
          refine lv_bipush (v := 24) hx hb dX12_isLiftHere_83 (by decide) ?_
          refine tk_Vi hC hK hw hT hA hE hSR kM_at0 (by decide) rfl (k_X12_numberHere_3 l adK adV dC dI cy ad B (by omega) (by omega) qr s1   x192 (show 1 ≤ x192.toInt by omega) (show x192.toInt ≤ 24 by omega) w183 H.size hT ) (cwV 2 hC.2.2.2.2 gX12_isLiftHere_X12_numberHere rfl rfl rfl (by decide +kernel) ⟨Nat.le_of_ble_eq_true rfl, Nat.le_of_ble_eq_true rfl⟩) rfl hl.1 rfl (Nat.le_of_ble_eq_true rfl) dX12_isLiftHere_85 (fun r193 w195 H locs hp194 hw => ?_)
          obtain ⟨hT, k196, hg209⟩ := hp194
          have hF := hF.tr k196 (by decide)
          have c210 := k196.gi kM_at0 (by decide) c186
          have c211 := k196.gi kM_at0 (by decide) c187
          have c212 := k196.gi kM_at0 (by decide) c188
          rcases hg209 with ⟨rfl, ⟨x197, c198, rx197, tx197⟩, ⟨x199, c200, rx199, tx199⟩⟩ | ⟨rfl, ⟨x201, c202, rx201, tx201⟩, ⟨x203, c204, rx203, tx203⟩⟩ | ⟨rfl, ⟨x205, c206, rx205, tx205⟩, ⟨x207, c208, rx207, tx207⟩⟩
          · have ex197 : x197.toInt = x12.toInt := by rw [← c211.symm.trans c198]
            refine lv_if_ne (tgt := 93) hx hb dX12_isLiftHere_88 (by decide) (fun c => absurd (by decide) c) (fun _ => ?_)
            refine lv_iconst (v := 0) hx hb dX12_isLiftHere_91 (by decide) ?_
            exact tk_zret hC hr rfl hlocks hK ⟨hT, hF, (Or.inr (Or.inl ⟨rfl, ⟨x12, c211, (show 1 ≤ x12.toInt by omega), (show x12.toInt ≤ 400 by omega)⟩, ⟨x1, c210, (show 0 ≤ x1.toInt by omega), (show x1.toInt ≤ 3 by omega)⟩, ⟨x199, c200, (show 1 ≤ x199.toInt by omega), (show x199.toInt ≤ 3205 by omega)⟩⟩))⟩ hw dX12_isLiftHere_92
          · have ex201 : x201.toInt = x12.toInt := by rw [← c211.symm.trans c202]
            refine lv_if_ne (tgt := 93) hx hb dX12_isLiftHere_88 (by decide) (fun c => absurd (by decide) c) (fun _ => ?_)
            refine lv_iconst (v := 0) hx hb dX12_isLiftHere_91 (by decide) ?_
            exact tk_zret hC hr rfl hlocks hK ⟨hT, hF, (Or.inr (Or.inl ⟨rfl, ⟨x12, c211, (show 1 ≤ x12.toInt by omega), (show x12.toInt ≤ 400 by omega)⟩, ⟨x1, c210, (show 0 ≤ x1.toInt by omega), (show x1.toInt ≤ 3 by omega)⟩, ⟨x203, c204, (show 1 ≤ x203.toInt by omega), (show x203.toInt ≤ 3205 by omega)⟩⟩))⟩ hw dX12_isLiftHere_92
          · have ex205 : x205.toInt = x12.toInt := by rw [← c211.symm.trans c206]
            refine lv_if_ne (tgt := 93) hx hb dX12_isLiftHere_88 (by decide) (fun _ => ?_) (fun c => absurd c (by decide))
            refine lv_aload_n hx hb dX12_isLiftHere_93 rfl (lv_at hl 1 rfl) ?_
            refine tk_getA hC hK hw hT hinX12 kM_at0 (by decide) rfl 13 (by decide) (List.mem_of_getElem? (i := 3) rfl) rfl rfl dX12_isLiftHere_94 ?_
            refine lv_iload_n hx hb dX12_isLiftHere_97 rfl (lv_at hl 0 rfl) ?_
            refine lv_iconst (v := 2) hx hb dX12_isLiftHere_98 (by decide) ?_
            refine lv_iadd hx hb dX12_isLiftHere_99 ?_
            refine lv_topi (fun x213 ex213 => ?_)
            have ex213 : x213.toInt = x126.toInt + (2 : Int) := by rw [ex213]; exact wk_add (show (-2147483648) ≤ x126.toInt + (2 : Int) by omega) (show x126.toInt + (2 : Int) ≤ 2147483647 by omega)
            refine lv_aload_n hx hb dX12_isLiftHere_100 rfl (lv_at hl 1 rfl) ?_
            refine tk_geti hC hK hw hT hinX12 kM_at0 (by decide) rfl 16 (by decide) (List.mem_of_getElem? (i := 4) rfl) rfl rfl dX12_isLiftHere_101 (fun x214 c215 rx214 tx214 => ?_)
            refine wk_top x207 (c215.symm.trans c208) ?_
            refine tk_iast hC hK hw hT kM_at8 (by decide) rfl rfl (show 0 ≤ x213.toInt by omega) (show x213.toInt < 12 by omega) (wk_i32 x207).1 (wk_i32 x207).2 dX12_isLiftHere_104 (fun H locs w216 hw hT k218 c217 => ?_)
            have hF := hF.put kM_at8 (inE_of (a := 0) (b := 12) (by decide) (show 0 ≤ x213.toInt.toNat by omega) (show x213.toInt.toNat ≤ 12 by omega)) k218
            have c219 := k218.gi (Or.inl (tk_ne kM_at0 kM_at8 (by decide))) c210
            have c220 := k218.gi (Or.inl (tk_ne kM_at0 kM_at8 (by decide))) c211
            have c221 := k218.gi (Or.inl (tk_ne kM_at0 kM_at8 (by decide))) c212
            have c222 := k218.gi (Or.inl (tk_ne kM_at0 kM_at8 (by decide))) c208
            refine lv_aload_n hx hb dX12_isLiftHere_105 rfl (lv_at hl 1 rfl) ?_
            refine lv_dup hx hb dX12_isLiftHere_106 rfl ?_
            refine tk_geti hC hK hw hT hinX12 kM_at0 (by decide) rfl 10 (by decide) (List.mem_of_getElem? (i := 1) rfl) rfl rfl dX12_isLiftHere_107 (fun x223 c224 rx223 tx223 => ?_)
            refine wk_top x1 (c224.symm.trans c219) ?_
            refine lv_iconst (v := 1) hx hb dX12_isLiftHere_110 (by decide) ?_
            refine lv_iadd hx hb dX12_isLiftHere_111 ?_
            refine lv_topi (fun x225 ex225 => ?_)
            have ex225 : x225.toInt = x1.toInt + (1 : Int) := by rw [ex225]; exact wk_add (show (-2147483648) ≤ x1.toInt + (1 : Int) by omega) (show x1.toInt + (1 : Int) ≤ 2147483647 by omega)
            refine tk_puti hC hK hw hT hinX12 tyX12_ok nmX12 kM_at0 (by decide) rfl rfl 10 (by decide) (List.mem_of_getElem? (i := 1) rfl) rfl rfl rfl rfl (show 0 ≤ x225.toInt by omega) (show x225.toInt ≤ 4 by omega) dX12_isLiftHere_112 (fun H locs w226 hw hT k228 c227 => ?_)
            have hF := hF.put kM_at0 (k := 10) (by decide) k228
            have c229 := k228.gi (Or.inr (by decide)) c220
            have c230 := k228.gi (Or.inr (by decide)) c221
            have c231 := k228.gi (Or.inr (by decide)) c222
            refine lv_iconst (v := 1) hx hb dX12_isLiftHere_115 (by decide) ?_
            exact tk_zret hC hr rfl hlocks hK ⟨hT, hF, (Or.inr (Or.inr (Or.inr ⟨rfl, ⟨x12, c229, (show 1 ≤ x12.toInt by omega), (show x12.toInt ≤ 400 by omega)⟩, ⟨x127, c230, (show 1 ≤ x127.toInt by omega), (show x127.toInt ≤ 12 by omega)⟩, ⟨x225, c227, (show 1 ≤ x225.toInt by omega), (show x225.toInt ≤ 4 by omega)⟩, ⟨x207, c231, (show 1 ≤ x207.toInt by omega), (show x207.toInt ≤ 24 by omega)⟩⟩)))⟩ hw dX12_isLiftHere_116
  · have c3 : x1.toInt = (4 : Int) := wk_eq.mp c3
    refine lv_aload_n hx hb dX12_isLiftHere_8 rfl (lv_at hl 0 rfl) ?_
    refine lv_iconst (v := 4) hx hb dX12_isLiftHere_9 (by decide) ?_
    refine lv_iload_n hx hb dX12_isLiftHere_10 rfl (lv_at hl 1 rfl) ?_
    refine tk_Vi hC hK hw hT hA hE hSR kM_at0 (by decide) rfl (k_X12_fails_1 l adK adV dC dI cy ad B (by omega) (by omega) qr s1   4 (by decide) (by decide) a1 (show 0 ≤ a1.toInt by omega) (show a1.toInt ≤ 400 by omega) w0 s.heap.size hT ) (cwV 2 hC.2.2.2.2 gX12_isLiftHere_X12_fails rfl rfl rfl (by decide +kernel) ⟨Nat.le_of_ble_eq_true rfl, Nat.le_of_ble_eq_true rfl⟩) rfl hl.1 rfl (Nat.le_of_ble_eq_true rfl) dX12_isLiftHere_11 (fun r232 w234 H locs hp233 hw => ?_)
    obtain ⟨hT, k235, hg238⟩ := hp233
    have hF := hF.tr k235 (by decide)
    have c239 := k235.gi kM_at0 (by decide) c2
    obtain ⟨rfl, ⟨x236, c237, rx236, tx236⟩⟩ := hg238
    exact tk_zret hC hr rfl hlocks hK ⟨hT, hF, (Or.inl ⟨rfl, ⟨x1, c239, (show 4 ≤ x1.toInt by omega), (show x1.toInt ≤ 4 by omega)⟩, ⟨x236, c237, (show 1 ≤ x236.toInt by omega), (show x236.toInt ≤ 3205 by omega)⟩⟩)⟩ hw dX12_isLiftHere_14
abbrev P_X12_in_4 (ad : Nat → Nat) (cy : Nat → ClassId) (B : Int) (qr : Nat) (s1 : Int) (a0 : Int64) (a2 : Int64) (w0 : va_W) : Int32 → va_W → Prop := fun r u => TW ksM ad cy B qr 12 u ∧ FE ksM ([] : List (Nat × Nat × Nat)) w0 u ∧ ((r = 0) ∨ (r = 1 ∧ 0 ≤ a0.toInt ∧ a0.toInt ≤ 9 ∧ 0 ≤ a2.toInt))
set_option maxHeartbeats 4000000 in
set_option maxRecDepth 100000 in
theorem k_X12_in_4 (l : Launch) (adK adV : Nat → Nat) (dC : Nat → ClassId) (dI : Nat → Nat → Nat) (cy : Nat → ClassId) (ad : Nat → Nat) (B : Int) (hB0 : 100000 ≤ B) (hB1 : B ≤ 1073741824) (qr : Nat) (s1 : Int)  (a0 : Int64) (ra0 : (-2147483648) ≤ a0.toInt) (ta0 : a0.toInt ≤ 2147483647) (a2 : Int64) (ra2 : (-1) ≤ a2.toInt) (ta2 : a2.toInt ≤ 9) (w0 : va_W) (sz : Nat) (hT : TW ksM ad cy B qr 12 w0)  : Met l yX12_in wsX12_in ({ frames := 1, cells := 0, slots := 0, locals := 12 }) (va_Pc [.long a0, .long 0, .long a2] (wpreS adK adV dC dI cy sz w0)) (va_Qi (P_X12_in_4 ad cy B qr s1 a0 a2 w0) (fun u : va_W => wpost dC dI cy (va_A w0 sz) u) (va_A w0 sz)) 0 0 (va_A w0 sz) := by
  refine Met.ofW (cc := cX12_in) (maxL := 6) (ret := (some .boolean)) (by decide) rfl ?_
  intro p e s m args below meth c s₁ Bk hml hv
  obtain ⟨rfl, ⟨hsz, hP, hK, hD0⟩, hE, hSR⟩ := hv
  have hx := Bk.exec
  have hb := Bk.bytes
  have hr := Bk.returns
  have hlocks := Bk.notSynchronized
  have hC : CallFix p m c cX12_in 6 s _ wsX12_in RX12 := ⟨hx, hb, hml, findClass_of_methodNamed Bk.named, atoms_spec (ws := wsX12_in) Bk.pre⟩
  subst hsz
  have hD := hD0.self (sz := s.heap.size)
  generalize hAe : va_A w0 s.heap.size = A at hD hE ⊢
  have hA : ∀ q : Nat, s.heap.size ≤ q → A q := fun q h => by rw [← hAe]; exact Or.inr h
  have hw : Wd dC dI A s.heap s.heap [] w0 := ⟨hP, hD, va_S.rf⟩
  have hF : FE ksM ([] : List (Nat × Nat × Nat)) w0 w0 := FE.rf
  have hl := lv_entry ([.long a0, .long 0, .long a2]) (n := 6) (Nat.le_of_ble_eq_true rfl)
  rw [lg_entry_eq]
  generalize (lg_sl ([.long a0, .long 0, .long a2]) ++ List.replicate (6 - (lg_sl ([.long a0, .long 0, .long a2])).length) Slot.unset).toArray = ls at hl ⊢
  have hl : lv_has ls 6 [(0, .long a0), (2, .long 0), (4, .long a2)] := hl
  generalize hloc : ([] : List Loc) = locs at hw ⊢
  have J17 : ∀ (H : Heap) (locs : List Loc) (ls : Array Slot) (w1 : va_W), (-2147483648) ≤ a0.toInt → a0.toInt ≤ 2147483647 → (-1) ≤ a2.toInt → a2.toInt ≤ 9 → Wd dC dI A s.heap H locs w1 → TW ksM ad cy B qr 12 w1 → FE ksM ([] : List (Nat × Nat × Nat)) w0 w1 → lv_has ls 6 [(0, .long a0), (2, .long 0), (4, .long a2)] → W p l e ({ frames := 1, cells := 0, slots := 0, locals := 12 }) s m (List.toArray [.long a0, .long 0, .long a2]) below meth c H locs 0 0 (MQ below (va_Qi (P_X12_in_4 ad cy B qr s1 a0 a2 w0) (fun u : va_W => wpost dC dI cy A u) A) (List.toArray [.long a0, .long 0, .long a2]) s 0 0 A) (F0 m 17 ls []) := by
    intro H locs ls w1 r2 t3 r4 t5 hw hT hF hl
    refine lv_iconst (v := 0) hx hb dX12_in_17 (by decide) ?_
    exact tk_zret hC hr rfl hlocks hK ⟨hT, hF, (Or.inl rfl)⟩ hw dX12_in_18
  refine lv_lload_n hx hb dX12_in_0 rfl (lv_at hl 0 rfl) ?_
  refine lv_lload_n hx hb dX12_in_1 rfl (lv_at hl 1 rfl) ?_
  refine W.lcmp hx hb dX12_in_2 ?_
  refine lv_if_lt (tgt := 17) hx hb dX12_in_3 (by decide) (fun c6 => ?_) (fun c6 => ?_)
  · have c6 : a0.toInt < (0 : Int) := wk_cltT c6
    exact J17  s.heap locs ls w0 (show (-2147483648) ≤ a0.toInt by omega) (show a0.toInt ≤ 2147483647 by omega) (show (-1) ≤ a2.toInt by omega) (show a2.toInt ≤ 9 by omega)  hw hT hF  (lv_sub hl [0, 1, 2] rfl)
  · have c6 : (0 : Int) ≤ a0.toInt := wk_cltF c6
    refine lv_lload_n hx hb dX12_in_6 rfl (lv_at hl 0 rfl) ?_
    refine lv_lload hx hb dX12_in_7 (lv_at hl 2 rfl) ?_
    refine W.lcmp hx hb dX12_in_9 ?_
    refine lv_if_gt (tgt := 17) hx hb dX12_in_10 (by decide) (fun c7 => ?_) (fun c7 => ?_)
    · have c7 : a2.toInt < a0.toInt := wk_cgtT c7
      exact J17  s.heap locs ls w0 (show (-2147483648) ≤ a0.toInt by omega) (show a0.toInt ≤ 2147483647 by omega) (show (-1) ≤ a2.toInt by omega) (show a2.toInt ≤ 9 by omega)  hw hT hF  (lv_sub hl [0, 1, 2] rfl)
    · have c7 : a0.toInt ≤ a2.toInt := wk_cgtF c7
      refine lv_iconst (v := 1) hx hb dX12_in_13 (by decide) ?_
      refine lv_goto (tgt := 18) hx hb dX12_in_14 (by decide) ?_
      exact tk_zret hC hr rfl hlocks hK ⟨hT, hF, (Or.inr ⟨rfl, (show 0 ≤ a0.toInt by omega), (show a0.toInt ≤ 9 by omega), (show 0 ≤ a2.toInt by omega)⟩)⟩ hw dX12_in_18
abbrev P_X12_numberHere_4 (ad : Nat → Nat) (cy : Nat → ClassId) (B : Int) (qr : Nat) (s1 : Int) (a2 : Int32) (w0 : va_W) : Int32 → va_W → Prop := fun r u => TW ksM ad cy B qr 12 u ∧ FE ksM [(12, 14, 14), (12, 15, 15), (12, 16, 16)] w0 u ∧ ((r = 0 ∧ (∃ y : Int32, gi u 0 1 = y ∧ 1 ≤ y.toInt ∧ y.toInt ≤ 400) ∧ (∃ y : Int32, gi u 0 15 = y ∧ 1 ≤ y.toInt ∧ y.toInt ≤ 3205)) ∨ (r = 0 ∧ (∃ y : Int32, gi u 0 1 = y ∧ 0 ≤ y.toInt ∧ y.toInt ≤ 400) ∧ (∃ y : Int32, gi u 0 15 = y ∧ 1 ≤ y.toInt ∧ y.toInt ≤ 3205)) ∨ (r = 1 ∧ 0 ≤ a2.toInt ∧ (∃ y : Int32, gi u 0 1 = y ∧ 1 ≤ y.toInt ∧ y.toInt ≤ 400) ∧ (∃ y : Int32, gi u 0 16 = y ∧ 0 ≤ y.toInt ∧ y.toInt ≤ 9)))
set_option maxHeartbeats 4000000 in
set_option maxRecDepth 100000 in
theorem k_X12_numberHere_4 (l : Launch) (adK adV : Nat → Nat) (dC : Nat → ClassId) (dI : Nat → Nat → Nat) (cy : Nat → ClassId) (ad : Nat → Nat) (B : Int) (hB0 : 100000 ≤ B) (hB1 : B ≤ 1073741824) (qr : Nat) (s1 : Int)  (a2 : Int32) (ra2 : (-1) ≤ a2.toInt) (ta2 : a2.toInt ≤ 9) (w0 : va_W) (sz : Nat) (hT : TW ksM ad cy B qr 12 w0)  : Met l yX12_numberHere wsX12_numberHere ({ frames := 2, cells := 0, slots := 0, locals := 37 }) (va_Pc [.ref (ad 0), .int 0, .int a2] (wpreS adK adV dC dI cy sz w0)) (va_Qi (P_X12_numberHere_4 ad cy B qr s1 a2 w0) (fun u : va_W => wpost dC dI cy (va_A w0 sz) u) (va_A w0 sz)) 0 0 (va_A w0 sz) := by
  refine Met.ofW (cc := cX12_numberHere) (maxL := 5) (ret := (some .boolean)) (by decide) rfl ?_
  intro p e s m args below meth c s₁ Bk hml hv
  obtain ⟨rfl, ⟨hsz, hP, hK, hD0⟩, hE, hSR⟩ := hv
  have hx := Bk.exec
  have hb := Bk.bytes
  have hr := Bk.returns
  have hlocks := Bk.notSynchronized
  have hC : CallFix p m c cX12_numberHere 5 s _ wsX12_numberHere RX12 := ⟨hx, hb, hml, findClass_of_methodNamed Bk.named, atoms_spec (ws := wsX12_numberHere) Bk.pre⟩
  subst hsz
  have hD := hD0.self (sz := s.heap.size)
  generalize hAe : va_A w0 s.heap.size = A at hD hE ⊢
  have hA : ∀ q : Nat, s.heap.size ≤ q → A q := fun q h => by rw [← hAe]; exact Or.inr h
  have hw : Wd dC dI A s.heap s.heap [] w0 := ⟨hP, hD, va_S.rf⟩
  have hF : FE ksM [(12, 14, 14), (12, 15, 15), (12, 16, 16)] w0 w0 := FE.rf
  have hl := lv_entry ([.ref (ad 0), .int 0, .int a2]) (n := 5) (Nat.le_of_ble_eq_true rfl)
  rw [lg_entry_eq]
  generalize (lg_sl ([.ref (ad 0), .int 0, .int a2]) ++ List.replicate (5 - (lg_sl ([.ref (ad 0), .int 0, .int a2])).length) Slot.unset).toArray = ls at hl ⊢
  have hl : lv_has ls 5 [(0, .ref (ad 0)), (1, .int 0), (2, .int a2)] := hl
  generalize hloc : ([] : List Loc) = locs at hw ⊢
  have hinX12 : ∀ w ∈ u_ws RX12 TX12 42, w ∈ wsX12_numberHere := fun _ h => List.mem_cons_of_mem _ (List.mem_append_right _ (h))
  have J126 : ∀ (v126_3 : Int32) (v126_4 : Int32) (f126_0_1 : Int32) (f126_0_14 : Int32) (f126_0_16 : Int32) (H : Heap) (locs : List Loc) (ls : Array Slot) (w1 : va_W), 0 ≤ a2.toInt → a2.toInt ≤ 9 → 0 ≤ v126_3.toInt → v126_3.toInt ≤ 399 → 0 ≤ v126_4.toInt → v126_4.toInt ≤ 9 → 1 ≤ f126_0_1.toInt → f126_0_1.toInt ≤ 400 → 0 ≤ f126_0_14.toInt → f126_0_14.toInt ≤ 400 → 0 ≤ f126_0_16.toInt → f126_0_16.toInt ≤ 9 → Wd dC dI A s.heap H locs w1 → TW ksM ad cy B qr 12 w1 → FE ksM [(12, 14, 14), (12, 15, 15), (12, 16, 16)] w0 w1 → gi w1 0 1 = f126_0_1 → gi w1 0 14 = f126_0_14 → gi w1 0 16 = f126_0_16 → lv_has ls 5 [(0, .ref (ad 0)), (1, .int 0), (2, .int a2), (3, .int v126_3), (4, .int v126_4)] → W p l e ({ frames := 2, cells := 0, slots := 0, locals := 37 }) s m (List.toArray [.ref (ad 0), .int 0, .int a2]) below meth c H locs 0 0 (MQ below (va_Qi (P_X12_numberHere_4 ad cy B qr s1 a2 w0) (fun u : va_W => wpost dC dI cy A u) A) (List.toArray [.ref (ad 0), .int 0, .int a2]) s 0 0 A) (F0 m 126 ls []) := by
    intro v126_3 v126_4 f126_0_1 f126_0_14 f126_0_16 H locs ls w1 r2 t3 r4 t5 r6 t7 r8 t9 r11 t12 r14 t15 hw hT hF c10 c13 c16 hl
    refine lv_iconst (v := 1) hx hb dX12_numberHere_126 (by decide) ?_
    refine lv_goto (tgt := 131) hx hb dX12_numberHere_127 (by decide) ?_
    exact tk_zret hC hr rfl hlocks hK ⟨hT, hF, (Or.inr (Or.inr ⟨rfl, (show 0 ≤ a2.toInt by omega), ⟨f126_0_1, c10, (show 1 ≤ f126_0_1.toInt by omega), (show f126_0_1.toInt ≤ 400 by omega)⟩, ⟨f126_0_16, c16, (show 0 ≤ f126_0_16.toInt by omega), (show f126_0_16.toInt ≤ 9 by omega)⟩⟩))⟩ hw dX12_numberHere_131
  have J117 : ∀ (v117_3 : Int32) (v117_4 : Int32) (f117_0_1 : Int32) (f117_0_14 : Int32) (f117_0_16 : Int32) (H : Heap) (locs : List Loc) (ls : Array Slot) (w17 : va_W), (-1) ≤ a2.toInt → a2.toInt ≤ 9 → 0 ≤ v117_3.toInt → v117_3.toInt ≤ 399 → 1 ≤ f117_0_1.toInt → f117_0_1.toInt ≤ 400 → 0 ≤ f117_0_14.toInt → f117_0_14.toInt ≤ 400 → Wd dC dI A s.heap H locs w17 → TW ksM ad cy B qr 12 w17 → FE ksM [(12, 14, 14), (12, 15, 15), (12, 16, 16)] w0 w17 → gi w17 0 1 = f117_0_1 → gi w17 0 14 = f117_0_14 → gi w17 0 16 = f117_0_16 → lv_has ls 5 [(0, .ref (ad 0)), (1, .int 0), (2, .int a2), (3, .int v117_3), (4, .int v117_4)] → W p l e ({ frames := 2, cells := 0, slots := 0, locals := 37 }) s m (List.toArray [.ref (ad 0), .int 0, .int a2]) below meth c H locs 0 0 (MQ below (va_Qi (P_X12_numberHere_4 ad cy B qr s1 a2 w0) (fun u : va_W => wpost dC dI cy A u) A) (List.toArray [.ref (ad 0), .int 0, .int a2]) s 0 0 A) (F0 m 117 ls []) := by
    intro v117_3 v117_4 f117_0_1 f117_0_14 f117_0_16 H locs ls w17 r18 t19 r20 t21 r22 t23 r25 t26 hw hT hF c24 c27 c28 hl
    refine lv_aload_n hx hb dX12_numberHere_117 rfl (lv_at hl 0 rfl) ?_
    refine lv_iconst (v := 1) hx hb dX12_numberHere_118 (by decide) ?_
    refine lv_iload_n hx hb dX12_numberHere_119 rfl (lv_at hl 3 rfl) ?_
    refine tk_Vi hC hK hw hT hA hE hSR kM_at0 (by decide) rfl (k_X12_fails_1 l adK adV dC dI cy ad B (by omega) (by omega) qr s1   1 (by decide) (by decide) v117_3 (show 0 ≤ v117_3.toInt by omega) (show v117_3.toInt ≤ 400 by omega) w17 H.size hT ) (cwV 2 hC.2.2.2.2 gX12_numberHere_X12_fails rfl rfl rfl (by decide +kernel) ⟨Nat.le_of_ble_eq_true rfl, Nat.le_of_ble_eq_true rfl⟩) rfl hl.1 rfl (Nat.le_of_ble_eq_true rfl) dX12_numberHere_120 (fun r29 w31 H locs hp30 hw => ?_)
    obtain ⟨hT, k32, hg35⟩ := hp30
    have hF := hF.tr k32 (by decide)
    have c36 := k32.gi kM_at0 (by decide) c24
    have c37 := k32.gi kM_at0 (by decide) c27
    have c38 := k32.gi kM_at0 (by decide) c28
    obtain ⟨rfl, ⟨x33, c34, rx33, tx33⟩⟩ := hg35
    refine lv_if_eq (tgt := 130) hx hb dX12_numberHere_123 (by decide) (fun _ => ?_) (fun c => absurd (by decide) c)
    refine lv_iconst (v := 0) hx hb dX12_numberHere_130 (by decide) ?_
    exact tk_zret hC hr rfl hlocks hK ⟨hT, hF, (Or.inl ⟨rfl, ⟨f117_0_1, c36, (show 1 ≤ f117_0_1.toInt by omega), (show f117_0_1.toInt ≤ 400 by omega)⟩, ⟨x33, c34, (show 1 ≤ x33.toInt by omega), (show x33.toInt ≤ 3205 by omega)⟩⟩)⟩ hw dX12_numberHere_131
  have L34 : ∀ (n34 : Nat) (v34_3 : Int32) (v34_4 : Int32) (f34_0_1 : Int32) (f34_0_14 : Int32) (H : Heap) (locs : List Loc) (ls : Array Slot) (w39 : va_W), (-1) ≤ a2.toInt → a2.toInt ≤ 9 → 0 ≤ v34_3.toInt → v34_3.toInt ≤ 399 → 1 ≤ f34_0_1.toInt → f34_0_1.toInt ≤ 400 → 0 ≤ f34_0_14.toInt → f34_0_14.toInt ≤ 400 → (400 - f34_0_14.toInt).toNat < n34 → Wd dC dI A s.heap H locs w39 → TW ksM ad cy B qr 12 w39 → FE ksM [(12, 14, 14), (12, 15, 15), (12, 16, 16)] w0 w39 → gi w39 0 1 = f34_0_1 → gi w39 0 14 = f34_0_14 → lv_has ls 5 [(0, .ref (ad 0)), (1, .int 0), (2, .int a2), (3, .int v34_3), (4, .int v34_4)] → W p l e ({ frames := 2, cells := 0, slots := 0, locals := 37 }) s m (List.toArray [.ref (ad 0), .int 0, .int a2]) below meth c H locs 0 0 (MQ below (va_Qi (P_X12_numberHere_4 ad cy B qr s1 a2 w0) (fun u : va_W => wpost dC dI cy A u) A) (List.toArray [.ref (ad 0), .int 0, .int a2]) s 0 0 A) (F0 m 34 ls []) := by
    intro n34
    induction n34 with
    | zero => intro v34_3 v34_4 f34_0_1 f34_0_14 H locs ls w39 r40 t41 r42 t43 r44 t45 r47 t48 hm34 hw hT hF c46 c49 hl; omega
    | succ n34 ih34 =>
      intro v34_3 v34_4 f34_0_1 f34_0_14 H locs ls w39 r40 t41 r42 t43 r44 t45 r47 t48 hm34 hw hT hF c46 c49 hl
      have J75 : ∀ (v75_4 : Int32) (H : Heap) (locs : List Loc) (ls : Array Slot) (w50 : va_W), (-1) ≤ a2.toInt → a2.toInt ≤ 9 → 0 ≤ v34_3.toInt → v34_3.toInt ≤ 399 → 1 ≤ f34_0_1.toInt → f34_0_1.toInt ≤ 400 → 0 ≤ f34_0_14.toInt → f34_0_14.toInt ≤ 399 → Wd dC dI A s.heap H locs w50 → TW ksM ad cy B qr 12 w50 → FE ksM [(12, 14, 14), (12, 15, 15), (12, 16, 16)] w0 w50 → gi w50 0 1 = f34_0_1 → gi w50 0 14 = f34_0_14 → lv_has ls 5 [(0, .ref (ad 0)), (1, .int 0), (2, .int a2), (3, .int v34_3), (4, .int v75_4)] → W p l e ({ frames := 2, cells := 0, slots := 0, locals := 37 }) s m (List.toArray [.ref (ad 0), .int 0, .int a2]) below meth c H locs 0 0 (MQ below (va_Qi (P_X12_numberHere_4 ad cy B qr s1 a2 w0) (fun u : va_W => wpost dC dI cy A u) A) (List.toArray [.ref (ad 0), .int 0, .int a2]) s 0 0 A) (F0 m 75 ls []) := by
        intro v75_4 H locs ls w50 r51 t52 r53 t54 r55 t56 r58 t59 hw hT hF c57 c60 hl
        refine lv_aload_n hx hb dX12_numberHere_75 rfl (lv_at hl 0 rfl) ?_
        refine lv_dup hx hb dX12_numberHere_76 rfl ?_
        refine tk_geti hC hK hw hT hinX12 kM_at0 (by decide) rfl 14 (by decide) (List.mem_of_getElem? (i := 1) rfl) rfl rfl dX12_numberHere_77 (fun x61 c62 rx61 tx61 => ?_)
        refine wk_top f34_0_14 (c62.symm.trans c60) ?_
        refine lv_iconst (v := 1) hx hb dX12_numberHere_80 (by decide) ?_
        refine lv_iadd hx hb dX12_numberHere_81 ?_
        refine lv_topi (fun x63 ex63 => ?_)
        have ex63 : x63.toInt = f34_0_14.toInt + (1 : Int) := by rw [ex63]; exact wk_add (show (-2147483648) ≤ f34_0_14.toInt + (1 : Int) by omega) (show f34_0_14.toInt + (1 : Int) ≤ 2147483647 by omega)
        refine tk_puti hC hK hw hT hinX12 tyX12_ok nmX12 kM_at0 (by decide) rfl rfl 14 (by decide) (List.mem_of_getElem? (i := 1) rfl) rfl rfl rfl rfl (show 0 ≤ x63.toInt by omega) (show x63.toInt ≤ 400 by omega) dX12_numberHere_82 (fun H locs w64 hw hT k66 c65 => ?_)
        have hF := hF.put kM_at0 (k := 14) (by decide) k66
        have c67 := k66.gi (Or.inr (by decide)) c57
        refine lv_goto (tgt := 34) hx hb dX12_numberHere_85 (by decide) ?_
        exact ih34 v34_3 v75_4 f34_0_1 x63 H locs ls w64 (show (-1) ≤ a2.toInt by omega) (show a2.toInt ≤ 9 by omega) (show 0 ≤ v34_3.toInt by omega) (show v34_3.toInt ≤ 399 by omega) (show 1 ≤ f34_0_1.toInt by omega) (show f34_0_1.toInt ≤ 400 by omega) (show 0 ≤ x63.toInt by omega) (show x63.toInt ≤ 400 by omega) (show (400 - x63.toInt).toNat < n34 by omega) hw hT hF c67 c65 (lv_sub hl [0, 1, 2, 3, 4] rfl)
      refine lv_aload_n hx hb dX12_numberHere_34 rfl (lv_at hl 0 rfl) ?_
      refine lv_aload_n hx hb dX12_numberHere_35 rfl (lv_at hl 0 rfl) ?_
      refine tk_geti hC hK hw hT hinX12 kM_at0 (by decide) rfl 14 (by decide) (List.mem_of_getElem? (i := 1) rfl) rfl rfl dX12_numberHere_36 (fun x68 c69 rx68 tx68 => ?_)
      refine wk_top f34_0_14 (c69.symm.trans c49) ?_
      refine tk_Vi hC hK hw hT hA hE hSR kM_at0 (by decide) rfl (k_X12_isDigit_1 l adK adV dC dI cy ad B (by omega) (by omega) qr s1   f34_0_14 (show 0 ≤ f34_0_14.toInt by omega) (show f34_0_14.toInt ≤ 400 by omega) w39 H.size hT ) (cwV 1 hC.2.2.2.2 gX12_numberHere_X12_isDigit rfl rfl rfl (by decide +kernel) ⟨Nat.le_of_ble_eq_true rfl, Nat.le_of_ble_eq_true rfl⟩) rfl hl.1 rfl (Nat.le_of_ble_eq_true rfl) dX12_numberHere_39 (fun r70 w72 H locs hp71 hw => ?_)
      obtain ⟨hT, k73, hg79⟩ := hp71
      have hF := hF.tr k73 (by decide)
      have c80 := k73.gi kM_at0 (by decide) c46
      have c81 := k73.gi kM_at0 (by decide) c49
      rcases hg79 with ⟨rfl, ⟨x74, c75, rx74, tx74⟩⟩ | ⟨rfl, g76, ⟨x77, c78, rx77, tx77⟩⟩
      · have ex74 : x74.toInt = f34_0_1.toInt := by rw [← c80.symm.trans c75]
        refine lv_if_eq (tgt := 88) hx hb dX12_numberHere_42 (by decide) (fun _ => ?_) (fun c => absurd (by decide) c)
        refine lv_aload_n hx hb dX12_numberHere_88 rfl (lv_at hl 0 rfl) ?_
        refine lv_iload hx hb dX12_numberHere_89 (lv_at hl 4 rfl) ?_
        refine tk_puti hC hK hw hT hinX12 tyX12_ok nmX12 kM_at0 (by decide) rfl rfl 16 (by decide) (List.mem_of_getElem? (i := 3) rfl) rfl rfl rfl rfl (wk_i32 v34_4).1 (wk_i32 v34_4).2 dX12_numberHere_91 (fun H locs w82 hw hT k84 c83 => ?_)
        have hF := hF.put kM_at0 (k := 16) (by decide) k84
        have c85 := k84.gi (Or.inr (by decide)) c80
        have c86 := k84.gi (Or.inr (by decide)) c81
        refine lv_aload_n hx hb dX12_numberHere_94 rfl (lv_at hl 0 rfl) ?_
        refine tk_geti hC hK hw hT hinX12 kM_at0 (by decide) rfl 14 (by decide) (List.mem_of_getElem? (i := 1) rfl) rfl rfl dX12_numberHere_95 (fun x87 c88 rx87 tx87 => ?_)
        refine wk_top f34_0_14 (c88.symm.trans c86) ?_
        refine lv_iload_n hx hb dX12_numberHere_98 rfl (lv_at hl 3 rfl) ?_
        refine lv_isub hx hb dX12_numberHere_99 ?_
        refine lv_topi (fun x89 ex89 => ?_)
        have ex89 : x89.toInt = f34_0_14.toInt - v34_3.toInt := by rw [ex89]; exact wk_sub (show (-2147483648) ≤ f34_0_14.toInt - v34_3.toInt by omega) (show f34_0_14.toInt - v34_3.toInt ≤ 2147483647 by omega)
        refine lv_iconst (v := 5) hx hb dX12_numberHere_100 (by decide) ?_
        refine lv_icmp_gt (tgt := 117) hx hb dX12_numberHere_101 (by decide) (fun c90 => ?_) (fun c90 => ?_)
        · have c90 : (5 : Int) < x89.toInt := wk_lt.mp c90
          exact J117 v34_3 v34_4 f34_0_1 f34_0_14 v34_4 H locs ls w82 (show (-1) ≤ a2.toInt by omega) (show a2.toInt ≤ 9 by omega) (show 0 ≤ v34_3.toInt by omega) (show v34_3.toInt ≤ 399 by omega) (show 1 ≤ f34_0_1.toInt by omega) (show f34_0_1.toInt ≤ 400 by omega) (show 0 ≤ f34_0_14.toInt by omega) (show f34_0_14.toInt ≤ 400 by omega)  hw hT hF c85 c86 c83 (lv_sub hl [0, 1, 2, 3, 4] rfl)
        · have c90 : x89.toInt ≤ (5 : Int) := wk_ltF c90
          refine lv_iload hx hb dX12_numberHere_104 (lv_at hl 4 rfl) ?_
          refine lv_i2l hx hb dX12_numberHere_106 rfl ?_
          refine lv_topl (fun x91 ex91 => ?_)
          have ex91 : x91.toInt = v34_4.toInt := by rw [ex91]; exact wk_i2l _
          have bx91 := wk_i32 v34_4
          refine lv_iload_n hx hb dX12_numberHere_107 rfl (lv_at hl 1 rfl) ?_
          refine lv_i2l hx hb dX12_numberHere_108 rfl ?_
          refine wk_topl 0 (by decide) ?_
          refine lv_iload_n hx hb dX12_numberHere_109 rfl (lv_at hl 2 rfl) ?_
          refine lv_i2l hx hb dX12_numberHere_110 rfl ?_
          refine lv_topl (fun x92 ex92 => ?_)
          have ex92 : x92.toInt = a2.toInt := by rw [ex92]; exact wk_i2l _
          have bx92 := wk_i32 a2
          refine tk_Si hC hK hw hT hA hE hSR (k_X12_in_4 l adK adV dC dI cy ad B (by omega) (by omega) qr s1   x91 (show (-2147483648) ≤ x91.toInt by omega) (show x91.toInt ≤ 2147483647 by omega) x92 (show (-1) ≤ x92.toInt by omega) (show x92.toInt ≤ 9 by omega) w82 H.size hT ) (va_cwS 3 hC.2.2.2.2 gX12_numberHere_X12_in rfl rfl rfl (by decide +kernel) ⟨Nat.le_of_ble_eq_true rfl, Nat.le_of_ble_eq_true rfl⟩) rfl hl.1 rfl (Nat.le_of_ble_eq_true rfl) dX12_numberHere_111 (fun r93 w95 H locs hp94 hw => ?_)
          obtain ⟨hT, k96, hg100⟩ := hp94
          have hF := hF.tr k96 (by decide)
          have c101 := k96.gi kM_at0 (by decide) c85
          have c102 := k96.gi kM_at0 (by decide) c86
          have c103 := k96.gi kM_at0 (by decide) c83
          rcases hg100 with rfl | ⟨rfl, g97, g98, g99⟩
          · refine lv_if_ne (tgt := 126) hx hb dX12_numberHere_114 (by decide) (fun c => absurd (by decide) c) (fun _ => ?_)
            exact J117 v34_3 v34_4 f34_0_1 f34_0_14 v34_4 H locs ls w95 (show (-1) ≤ a2.toInt by omega) (show a2.toInt ≤ 9 by omega) (show 0 ≤ v34_3.toInt by omega) (show v34_3.toInt ≤ 399 by omega) (show 1 ≤ f34_0_1.toInt by omega) (show f34_0_1.toInt ≤ 400 by omega) (show 0 ≤ f34_0_14.toInt by omega) (show f34_0_14.toInt ≤ 400 by omega)  hw hT hF c101 c102 c103 (lv_sub hl [0, 1, 2, 3, 4] rfl)
          · refine lv_if_ne (tgt := 126) hx hb dX12_numberHere_114 (by decide) (fun _ => ?_) (fun c => absurd c (by decide))
            exact J126 v34_3 v34_4 f34_0_1 f34_0_14 v34_4 H locs ls w95 (show 0 ≤ a2.toInt by omega) (show a2.toInt ≤ 9 by omega) (show 0 ≤ v34_3.toInt by omega) (show v34_3.toInt ≤ 399 by omega) (show 0 ≤ v34_4.toInt by omega) (show v34_4.toInt ≤ 9 by omega) (show 1 ≤ f34_0_1.toInt by omega) (show f34_0_1.toInt ≤ 400 by omega) (show 0 ≤ f34_0_14.toInt by omega) (show f34_0_14.toInt ≤ 400 by omega) (show 0 ≤ v34_4.toInt by omega) (show v34_4.toInt ≤ 9 by omega)  hw hT hF c101 c102 c103 (lv_sub hl [0, 1, 2, 3, 4] rfl)
      · have ex77 : x77.toInt = f34_0_1.toInt := by rw [← c80.symm.trans c78]
        refine lv_if_eq (tgt := 88) hx hb dX12_numberHere_42 (by decide) (fun c => absurd c (by decide)) (fun _ => ?_)
        refine lv_aload_n hx hb dX12_numberHere_45 rfl (lv_at hl 0 rfl) ?_
        refine tk_geti hC hK hw hT hinX12 kM_at0 (by decide) rfl 14 (by decide) (List.mem_of_getElem? (i := 1) rfl) rfl rfl dX12_numberHere_46 (fun x104 c105 rx104 tx104 => ?_)
        refine wk_top f34_0_14 (c105.symm.trans c81) ?_
        refine lv_iload_n hx hb dX12_numberHere_49 rfl (lv_at hl 3 rfl) ?_
        refine lv_isub hx hb dX12_numberHere_50 ?_
        refine lv_topi (fun x106 ex106 => ?_)
        have ex106 : x106.toInt = f34_0_14.toInt - v34_3.toInt := by rw [ex106]; exact wk_sub (show (-2147483648) ≤ f34_0_14.toInt - v34_3.toInt by omega) (show f34_0_14.toInt - v34_3.toInt ≤ 2147483647 by omega)
        refine lv_iconst (v := 5) hx hb dX12_numberHere_51 (by decide) ?_
        refine lv_icmp_ge (tgt := 75) hx hb dX12_numberHere_52 (by decide) (fun c107 => ?_) (fun c107 => ?_)
        · have c107 : (5 : Int) ≤ x106.toInt := wk_le.mp c107
          exact J75 v34_4 H locs ls w72 (show (-1) ≤ a2.toInt by omega) (show a2.toInt ≤ 9 by omega) (show 0 ≤ v34_3.toInt by omega) (show v34_3.toInt ≤ 399 by omega) (show 1 ≤ f34_0_1.toInt by omega) (show f34_0_1.toInt ≤ 400 by omega) (show 0 ≤ f34_0_14.toInt by omega) (show f34_0_14.toInt ≤ 399 by omega)  hw hT hF c80 c81 (lv_sub hl [0, 1, 2, 3, 4] rfl)
        · have c107 : x106.toInt < (5 : Int) := wk_leF c107
          refine lv_bipush (v := 10) hx hb dX12_numberHere_55 (by decide) ?_
          refine lv_iload hx hb dX12_numberHere_57 (lv_at hl 4 rfl) ?_
          refine lv_imul hx hb dX12_numberHere_59 ?_
          have nx108 := wk_i32 v34_4
          refine lv_topi (fun x109 ex109 => ?_)
          refine lv_aload_n hx hb dX12_numberHere_60 rfl (lv_at hl 0 rfl) ?_
          refine tk_getA hC hK hw hT hinX12 kM_at0 (by decide) rfl 0 (by decide) (List.mem_of_getElem? (i := 2) rfl) rfl rfl dX12_numberHere_61 ?_
          refine lv_aload_n hx hb dX12_numberHere_64 rfl (lv_at hl 0 rfl) ?_
          refine tk_geti hC hK hw hT hinX12 kM_at0 (by decide) rfl 14 (by decide) (List.mem_of_getElem? (i := 1) rfl) rfl rfl dX12_numberHere_65 (fun x110 c111 rx110 tx110 => ?_)
          refine wk_top f34_0_14 (c111.symm.trans c81) ?_
          refine tk_bald hC hK hw hT kM_at1 rfl rfl (show 0 ≤ f34_0_14.toInt by omega) (show f34_0_14.toInt < 400 by omega) dX12_numberHere_68 (fun x112 c113 rx112 tx112 => ?_)
          have c113 : gi w72 1 (f34_0_14.toInt).toNat = x112 := (congrArg (gi w72 1) (congrArg Int.toNat (show f34_0_14.toInt = f34_0_14.toInt by omega))).trans c113
          refine lv_iadd hx hb dX12_numberHere_69 ?_
          have nx114 := wk_i32 x109
          refine lv_topi (fun x115 ex115 => ?_)
          refine lv_bipush (v := 48) hx hb dX12_numberHere_70 (by decide) ?_
          refine lv_isub hx hb dX12_numberHere_72 ?_
          have nx116 := wk_i32 x115
          refine lv_topi (fun x117 ex117 => ?_)
          refine lv_istore (lv' := [(4, .int x117), (0, .ref (ad 0)), (1, .int 0), (2, .int a2), (3, .int v34_3)]) hx hb dX12_numberHere_73 hl (by decide) rfl (fun ls hl => ?_)
          exact J75 x117 H locs ls w72 (show (-1) ≤ a2.toInt by omega) (show a2.toInt ≤ 9 by omega) (show 0 ≤ v34_3.toInt by omega) (show v34_3.toInt ≤ 399 by omega) (show 1 ≤ f34_0_1.toInt by omega) (show f34_0_1.toInt ≤ 400 by omega) (show 0 ≤ f34_0_14.toInt by omega) (show f34_0_14.toInt ≤ 399 by omega)  hw hT hF c80 c81 (lv_sub hl [1, 2, 3, 4, 0] rfl)
  refine lv_aload_n hx hb dX12_numberHere_0 rfl (lv_at hl 0 rfl) ?_
  obtain ⟨x118, c119, rx118, tx118⟩ := hT.rdi (lo := 0) (hi := 400) (k := 14) kM_at0 (by decide) rfl
  refine tk_Vi hC hK hw hT hA hE hSR kM_at0 (by decide) rfl (k_X12_see_1 l adK adV dC dI cy ad B (by omega) (by omega) qr s1    w0 s.heap.size hT x118 c119 (show 0 ≤ x118.toInt by omega) (show x118.toInt ≤ 400 by omega)) (cwV 0 hC.2.2.2.2 gX12_numberHere_X12_see rfl rfl rfl (by decide +kernel) ⟨Nat.le_of_ble_eq_true rfl, Nat.le_of_ble_eq_true rfl⟩) rfl hl.1 rfl (Nat.le_of_ble_eq_true rfl) dX12_numberHere_1 (fun r120 w122 H locs hp121 hw => ?_)
  obtain ⟨hT, k123, hg140⟩ := hp121
  have hF := hF.tr k123 (by decide)
  rcases hg140 with ⟨g124, g125, ⟨x126, c127, rx126, tx126⟩, ⟨x128, c129, rx128, tx128⟩, g130, g131⟩ | ⟨rfl, ⟨x132, c133, rx132, tx132⟩, ⟨x134, c135, rx134, tx134⟩, g136⟩ | ⟨rfl, ⟨x137, c138, rx137, tx137⟩, g139⟩
  · have g130 : (gi w122 1 (x128.toInt).toNat).toInt ≠ 32 := by have q := g130; simp only [c129] at q; omega
    have g131 : (x128.toInt = x118.toInt ∨ (gi w0 1 (x118.toInt).toNat).toInt = 32) := by have q := g131; simp only [c119, c129] at q; omega
    refine lv_pop hx hb dX12_numberHere_4 rfl ?_
    refine lv_aload_n hx hb dX12_numberHere_5 rfl (lv_at hl 0 rfl) ?_
    refine lv_aload_n hx hb dX12_numberHere_6 rfl (lv_at hl 0 rfl) ?_
    refine tk_geti hC hK hw hT hinX12 kM_at0 (by decide) rfl 14 (by decide) (List.mem_of_getElem? (i := 1) rfl) rfl rfl dX12_numberHere_7 (fun x143 c144 rx143 tx143 => ?_)
    refine wk_top x128 (c144.symm.trans c129) ?_
    refine tk_Vi hC hK hw hT hA hE hSR kM_at0 (by decide) rfl (k_X12_isDigit_2 l adK adV dC dI cy ad B (by omega) (by omega) qr s1   x128 (show 0 ≤ x128.toInt by omega) (show x128.toInt ≤ 399 by omega) w122 H.size hT ) (cwV 1 hC.2.2.2.2 gX12_numberHere_X12_isDigit rfl rfl rfl (by decide +kernel) ⟨Nat.le_of_ble_eq_true rfl, Nat.le_of_ble_eq_true rfl⟩) rfl hl.1 rfl (Nat.le_of_ble_eq_true rfl) dX12_numberHere_10 (fun r145 w147 H locs hp146 hw => ?_)
    obtain ⟨hT, k148, hg153⟩ := hp146
    have hF := hF.tr k148 (by decide)
    have c154 := k148.gi kM_at0 (by decide) c127
    have c155 := k148.gi kM_at0 (by decide) c129
    rcases hg153 with ⟨rfl, ⟨x149, c150, rx149, tx149⟩⟩ | ⟨rfl, ⟨x151, c152, rx151, tx151⟩⟩
    · have ex149 : x149.toInt = x126.toInt := by rw [← c154.symm.trans c150]
      refine lv_if_ne (tgt := 26) hx hb dX12_numberHere_13 (by decide) (fun c => absurd (by decide) c) (fun _ => ?_)
      refine lv_aload_n hx hb dX12_numberHere_16 rfl (lv_at hl 0 rfl) ?_
      refine lv_iconst (v := 0) hx hb dX12_numberHere_17 (by decide) ?_
      refine lv_aload_n hx hb dX12_numberHere_18 rfl (lv_at hl 0 rfl) ?_
      refine tk_geti hC hK hw hT hinX12 kM_at0 (by decide) rfl 14 (by decide) (List.mem_of_getElem? (i := 1) rfl) rfl rfl dX12_numberHere_19 (fun x156 c157 rx156 tx156 => ?_)
      refine wk_top x128 (c157.symm.trans c155) ?_
      refine tk_Vi hC hK hw hT hA hE hSR kM_at0 (by decide) rfl (k_X12_fails_1 l adK adV dC dI cy ad B (by omega) (by omega) qr s1   0 (by decide) (by decide) x128 (show 0 ≤ x128.toInt by omega) (show x128.toInt ≤ 400 by omega) w147 H.size hT ) (cwV 2 hC.2.2.2.2 gX12_numberHere_X12_fails rfl rfl rfl (by decide +kernel) ⟨Nat.le_of_ble_eq_true rfl, Nat.le_of_ble_eq_true rfl⟩) rfl hl.1 rfl (Nat.le_of_ble_eq_true rfl) dX12_numberHere_22 (fun r158 w160 H locs hp159 hw => ?_)
      obtain ⟨hT, k161, hg164⟩ := hp159
      have hF := hF.tr k161 (by decide)
      have c165 := k161.gi kM_at0 (by decide) c154
      have c166 := k161.gi kM_at0 (by decide) c155
      obtain ⟨rfl, ⟨x162, c163, rx162, tx162⟩⟩ := hg164
      exact tk_zret hC hr rfl hlocks hK ⟨hT, hF, (Or.inl ⟨rfl, ⟨x126, c165, (show 1 ≤ x126.toInt by omega), (show x126.toInt ≤ 400 by omega)⟩, ⟨x162, c163, (show 1 ≤ x162.toInt by omega), (show x162.toInt ≤ 3205 by omega)⟩⟩)⟩ hw dX12_numberHere_25
    · have ex151 : x151.toInt = x126.toInt := by rw [← c154.symm.trans c152]
      refine lv_if_ne (tgt := 26) hx hb dX12_numberHere_13 (by decide) (fun _ => ?_) (fun c => absurd c (by decide))
      refine lv_aload_n hx hb dX12_numberHere_26 rfl (lv_at hl 0 rfl) ?_
      refine tk_geti hC hK hw hT hinX12 kM_at0 (by decide) rfl 14 (by decide) (List.mem_of_getElem? (i := 1) rfl) rfl rfl dX12_numberHere_27 (fun x167 c168 rx167 tx167 => ?_)
      refine wk_top x128 (c168.symm.trans c155) ?_
      refine lv_istore_n (lv' := [(3, .int x128), (0, .ref (ad 0)), (1, .int 0), (2, .int a2)]) hx hb dX12_numberHere_30 rfl hl (by decide) rfl (fun ls hl => ?_)
      refine lv_iconst (v := 0) hx hb dX12_numberHere_31 (by decide) ?_
      refine lv_istore (lv' := [(4, .int 0), (3, .int x128), (0, .ref (ad 0)), (1, .int 0), (2, .int a2)]) hx hb dX12_numberHere_32 hl (by decide) rfl (fun ls hl => ?_)
      exact L34 ((400 - x128.toInt).toNat + 1) x128 0 x126 x128 H locs ls w147 (show (-1) ≤ a2.toInt by omega) (show a2.toInt ≤ 9 by omega) (show 0 ≤ x128.toInt by omega) (show x128.toInt ≤ 399 by omega) (show 1 ≤ x126.toInt by omega) (show x126.toInt ≤ 400 by omega) (show 0 ≤ x128.toInt by omega) (show x128.toInt ≤ 400 by omega) (Nat.lt_succ_self _) hw hT hF c154 c155 (lv_sub hl [2, 3, 4, 1, 0] rfl)
  · have g136 : (x134.toInt = x118.toInt ∨ (gi w0 1 (x118.toInt).toNat).toInt = 32) := by have q := g136; simp only [c119, c135] at q; omega
    refine lv_pop hx hb dX12_numberHere_4 rfl ?_
    refine lv_aload_n hx hb dX12_numberHere_5 rfl (lv_at hl 0 rfl) ?_
    refine lv_aload_n hx hb dX12_numberHere_6 rfl (lv_at hl 0 rfl) ?_
    refine tk_geti hC hK hw hT hinX12 kM_at0 (by decide) rfl 14 (by decide) (List.mem_of_getElem? (i := 1) rfl) rfl rfl dX12_numberHere_7 (fun x169 c170 rx169 tx169 => ?_)
    refine wk_top x134 (c170.symm.trans c135) ?_
    refine tk_Vi hC hK hw hT hA hE hSR kM_at0 (by decide) rfl (k_X12_isDigit_3 l adK adV dC dI cy ad B (by omega) (by omega) qr s1   x134 (show 1 ≤ x134.toInt by omega) (show x134.toInt ≤ 399 by omega) w122 H.size hT ) (cwV 1 hC.2.2.2.2 gX12_numberHere_X12_isDigit rfl rfl rfl (by decide +kernel) ⟨Nat.le_of_ble_eq_true rfl, Nat.le_of_ble_eq_true rfl⟩) rfl hl.1 rfl (Nat.le_of_ble_eq_true rfl) dX12_numberHere_10 (fun r171 w173 H locs hp172 hw => ?_)
    obtain ⟨hT, k174, hg179⟩ := hp172
    have hF := hF.tr k174 (by decide)
    have c180 := k174.gi kM_at0 (by decide) c133
    have c181 := k174.gi kM_at0 (by decide) c135
    rcases hg179 with ⟨rfl, ⟨x175, c176, rx175, tx175⟩⟩ | ⟨rfl, ⟨x177, c178, rx177, tx177⟩⟩
    · have ex175 : x175.toInt = x132.toInt := by rw [← c180.symm.trans c176]
      refine lv_if_ne (tgt := 26) hx hb dX12_numberHere_13 (by decide) (fun c => absurd (by decide) c) (fun _ => ?_)
      refine lv_aload_n hx hb dX12_numberHere_16 rfl (lv_at hl 0 rfl) ?_
      refine lv_iconst (v := 0) hx hb dX12_numberHere_17 (by decide) ?_
      refine lv_aload_n hx hb dX12_numberHere_18 rfl (lv_at hl 0 rfl) ?_
      refine tk_geti hC hK hw hT hinX12 kM_at0 (by decide) rfl 14 (by decide) (List.mem_of_getElem? (i := 1) rfl) rfl rfl dX12_numberHere_19 (fun x182 c183 rx182 tx182 => ?_)
      refine wk_top x134 (c183.symm.trans c181) ?_
      refine tk_Vi hC hK hw hT hA hE hSR kM_at0 (by decide) rfl (k_X12_fails_1 l adK adV dC dI cy ad B (by omega) (by omega) qr s1   0 (by decide) (by decide) x134 (show 0 ≤ x134.toInt by omega) (show x134.toInt ≤ 400 by omega) w173 H.size hT ) (cwV 2 hC.2.2.2.2 gX12_numberHere_X12_fails rfl rfl rfl (by decide +kernel) ⟨Nat.le_of_ble_eq_true rfl, Nat.le_of_ble_eq_true rfl⟩) rfl hl.1 rfl (Nat.le_of_ble_eq_true rfl) dX12_numberHere_22 (fun r184 w186 H locs hp185 hw => ?_)
      obtain ⟨hT, k187, hg190⟩ := hp185
      have hF := hF.tr k187 (by decide)
      have c191 := k187.gi kM_at0 (by decide) c180
      have c192 := k187.gi kM_at0 (by decide) c181
      obtain ⟨rfl, ⟨x188, c189, rx188, tx188⟩⟩ := hg190
      exact tk_zret hC hr rfl hlocks hK ⟨hT, hF, (Or.inl ⟨rfl, ⟨x132, c191, (show 1 ≤ x132.toInt by omega), (show x132.toInt ≤ 400 by omega)⟩, ⟨x188, c189, (show 1 ≤ x188.toInt by omega), (show x188.toInt ≤ 3205 by omega)⟩⟩)⟩ hw dX12_numberHere_25
    · have ex177 : x177.toInt = x132.toInt := by rw [← c180.symm.trans c178]
      refine lv_if_ne (tgt := 26) hx hb dX12_numberHere_13 (by decide) (fun _ => ?_) (fun c => absurd c (by decide))
      refine lv_aload_n hx hb dX12_numberHere_26 rfl (lv_at hl 0 rfl) ?_
      refine tk_geti hC hK hw hT hinX12 kM_at0 (by decide) rfl 14 (by decide) (List.mem_of_getElem? (i := 1) rfl) rfl rfl dX12_numberHere_27 (fun x193 c194 rx193 tx193 => ?_)
      refine wk_top x134 (c194.symm.trans c181) ?_
      refine lv_istore_n (lv' := [(3, .int x134), (0, .ref (ad 0)), (1, .int 0), (2, .int a2)]) hx hb dX12_numberHere_30 rfl hl (by decide) rfl (fun ls hl => ?_)
      refine lv_iconst (v := 0) hx hb dX12_numberHere_31 (by decide) ?_
      refine lv_istore (lv' := [(4, .int 0), (3, .int x134), (0, .ref (ad 0)), (1, .int 0), (2, .int a2)]) hx hb dX12_numberHere_32 hl (by decide) rfl (fun ls hl => ?_)
      exact L34 ((400 - x134.toInt).toNat + 1) x134 0 x132 x134 H locs ls w173 (show (-1) ≤ a2.toInt by omega) (show a2.toInt ≤ 9 by omega) (show 0 ≤ x134.toInt by omega) (show x134.toInt ≤ 399 by omega) (show 1 ≤ x132.toInt by omega) (show x132.toInt ≤ 400 by omega) (show 0 ≤ x134.toInt by omega) (show x134.toInt ≤ 400 by omega) (Nat.lt_succ_self _) hw hT hF c180 c181 (lv_sub hl [2, 3, 4, 1, 0] rfl)
  · obtain ⟨x141, c142, rx141, tx141⟩ := hT.rdi (lo := 0) (hi := 400) (k := 14) kM_at0 (by decide) rfl
    have g139 : (x141.toInt = x118.toInt ∨ (gi w0 1 (x118.toInt).toNat).toInt = 32) := by have q := g139; simp only [c119, c142] at q; omega
    refine lv_pop hx hb dX12_numberHere_4 rfl ?_
    refine lv_aload_n hx hb dX12_numberHere_5 rfl (lv_at hl 0 rfl) ?_
    refine lv_aload_n hx hb dX12_numberHere_6 rfl (lv_at hl 0 rfl) ?_
    refine tk_geti hC hK hw hT hinX12 kM_at0 (by decide) rfl 14 (by decide) (List.mem_of_getElem? (i := 1) rfl) rfl rfl dX12_numberHere_7 (fun x195 c196 rx195 tx195 => ?_)
    refine wk_top x141 (c196.symm.trans c142) ?_
    refine tk_Vi hC hK hw hT hA hE hSR kM_at0 (by decide) rfl (k_X12_isDigit_1 l adK adV dC dI cy ad B (by omega) (by omega) qr s1   x141 (show 0 ≤ x141.toInt by omega) (show x141.toInt ≤ 400 by omega) w122 H.size hT ) (cwV 1 hC.2.2.2.2 gX12_numberHere_X12_isDigit rfl rfl rfl (by decide +kernel) ⟨Nat.le_of_ble_eq_true rfl, Nat.le_of_ble_eq_true rfl⟩) rfl hl.1 rfl (Nat.le_of_ble_eq_true rfl) dX12_numberHere_10 (fun r197 w199 H locs hp198 hw => ?_)
    obtain ⟨hT, k200, hg206⟩ := hp198
    have hF := hF.tr k200 (by decide)
    have c207 := k200.gi kM_at0 (by decide) c138
    have c208 := k200.gi kM_at0 (by decide) c142
    rcases hg206 with ⟨rfl, ⟨x201, c202, rx201, tx201⟩⟩ | ⟨rfl, g203, ⟨x204, c205, rx204, tx204⟩⟩
    · have ex201 : x201.toInt = x137.toInt := by rw [← c207.symm.trans c202]
      refine lv_if_ne (tgt := 26) hx hb dX12_numberHere_13 (by decide) (fun c => absurd (by decide) c) (fun _ => ?_)
      refine lv_aload_n hx hb dX12_numberHere_16 rfl (lv_at hl 0 rfl) ?_
      refine lv_iconst (v := 0) hx hb dX12_numberHere_17 (by decide) ?_
      refine lv_aload_n hx hb dX12_numberHere_18 rfl (lv_at hl 0 rfl) ?_
      refine tk_geti hC hK hw hT hinX12 kM_at0 (by decide) rfl 14 (by decide) (List.mem_of_getElem? (i := 1) rfl) rfl rfl dX12_numberHere_19 (fun x209 c210 rx209 tx209 => ?_)
      refine wk_top x141 (c210.symm.trans c208) ?_
      refine tk_Vi hC hK hw hT hA hE hSR kM_at0 (by decide) rfl (k_X12_fails_1 l adK adV dC dI cy ad B (by omega) (by omega) qr s1   0 (by decide) (by decide) x141 (show 0 ≤ x141.toInt by omega) (show x141.toInt ≤ 400 by omega) w199 H.size hT ) (cwV 2 hC.2.2.2.2 gX12_numberHere_X12_fails rfl rfl rfl (by decide +kernel) ⟨Nat.le_of_ble_eq_true rfl, Nat.le_of_ble_eq_true rfl⟩) rfl hl.1 rfl (Nat.le_of_ble_eq_true rfl) dX12_numberHere_22 (fun r211 w213 H locs hp212 hw => ?_)
      obtain ⟨hT, k214, hg217⟩ := hp212
      have hF := hF.tr k214 (by decide)
      have c218 := k214.gi kM_at0 (by decide) c207
      have c219 := k214.gi kM_at0 (by decide) c208
      obtain ⟨rfl, ⟨x215, c216, rx215, tx215⟩⟩ := hg217
      exact tk_zret hC hr rfl hlocks hK ⟨hT, hF, (Or.inr (Or.inl ⟨rfl, ⟨x137, c218, (show 0 ≤ x137.toInt by omega), (show x137.toInt ≤ 400 by omega)⟩, ⟨x215, c216, (show 1 ≤ x215.toInt by omega), (show x215.toInt ≤ 3205 by omega)⟩⟩))⟩ hw dX12_numberHere_25
    · have ex204 : x204.toInt = x137.toInt := by rw [← c207.symm.trans c205]
      refine lv_if_ne (tgt := 26) hx hb dX12_numberHere_13 (by decide) (fun _ => ?_) (fun c => absurd c (by decide))
      refine lv_aload_n hx hb dX12_numberHere_26 rfl (lv_at hl 0 rfl) ?_
      refine tk_geti hC hK hw hT hinX12 kM_at0 (by decide) rfl 14 (by decide) (List.mem_of_getElem? (i := 1) rfl) rfl rfl dX12_numberHere_27 (fun x220 c221 rx220 tx220 => ?_)
      refine wk_top x141 (c221.symm.trans c208) ?_
      refine lv_istore_n (lv' := [(3, .int x141), (0, .ref (ad 0)), (1, .int 0), (2, .int a2)]) hx hb dX12_numberHere_30 rfl hl (by decide) rfl (fun ls hl => ?_)
      refine lv_iconst (v := 0) hx hb dX12_numberHere_31 (by decide) ?_
      refine lv_istore (lv' := [(4, .int 0), (3, .int x141), (0, .ref (ad 0)), (1, .int 0), (2, .int a2)]) hx hb dX12_numberHere_32 hl (by decide) rfl (fun ls hl => ?_)
      exact L34 ((400 - x141.toInt).toNat + 1) x141 0 x137 x141 H locs ls w199 (show (-1) ≤ a2.toInt by omega) (show a2.toInt ≤ 9 by omega) (show 0 ≤ x141.toInt by omega) (show x141.toInt ≤ 399 by omega) (show 1 ≤ x137.toInt by omega) (show x137.toInt ≤ 400 by omega) (show 0 ≤ x141.toInt by omega) (show x141.toInt ≤ 400 by omega) (Nat.lt_succ_self _) hw hT hF c207 c208 (lv_sub hl [2, 3, 4, 1, 0] rfl)
abbrev P_X12_in_5 (ad : Nat → Nat) (cy : Nat → ClassId) (B : Int) (qr : Nat) (s1 : Int) (a0 : Int64) (w0 : va_W) : Int32 → va_W → Prop := fun r u => TW ksM ad cy B qr 12 u ∧ FE ksM ([] : List (Nat × Nat × Nat)) w0 u ∧ ((r = 0) ∨ (r = 1 ∧ 0 ≤ a0.toInt ∧ a0.toInt ≤ 359))
set_option maxHeartbeats 4000000 in
set_option maxRecDepth 100000 in
theorem k_X12_in_5 (l : Launch) (adK adV : Nat → Nat) (dC : Nat → ClassId) (dI : Nat → Nat → Nat) (cy : Nat → ClassId) (ad : Nat → Nat) (B : Int) (hB0 : 100000 ≤ B) (hB1 : B ≤ 1073741824) (qr : Nat) (s1 : Int)  (a0 : Int64) (ra0 : (-2147483648) ≤ a0.toInt) (ta0 : a0.toInt ≤ 2147483647) (w0 : va_W) (sz : Nat) (hT : TW ksM ad cy B qr 12 w0)  : Met l yX12_in wsX12_in ({ frames := 1, cells := 0, slots := 0, locals := 12 }) (va_Pc [.long a0, .long 0, .long 359] (wpreS adK adV dC dI cy sz w0)) (va_Qi (P_X12_in_5 ad cy B qr s1 a0 w0) (fun u : va_W => wpost dC dI cy (va_A w0 sz) u) (va_A w0 sz)) 0 0 (va_A w0 sz) := by
  refine Met.ofW (cc := cX12_in) (maxL := 6) (ret := (some .boolean)) (by decide) rfl ?_
  intro p e s m args below meth c s₁ Bk hml hv
  obtain ⟨rfl, ⟨hsz, hP, hK, hD0⟩, hE, hSR⟩ := hv
  have hx := Bk.exec
  have hb := Bk.bytes
  have hr := Bk.returns
  have hlocks := Bk.notSynchronized
  have hC : CallFix p m c cX12_in 6 s _ wsX12_in RX12 := ⟨hx, hb, hml, findClass_of_methodNamed Bk.named, atoms_spec (ws := wsX12_in) Bk.pre⟩
  subst hsz
  have hD := hD0.self (sz := s.heap.size)
  generalize hAe : va_A w0 s.heap.size = A at hD hE ⊢
  have hA : ∀ q : Nat, s.heap.size ≤ q → A q := fun q h => by rw [← hAe]; exact Or.inr h
  have hw : Wd dC dI A s.heap s.heap [] w0 := ⟨hP, hD, va_S.rf⟩
  have hF : FE ksM ([] : List (Nat × Nat × Nat)) w0 w0 := FE.rf
  have hl := lv_entry ([.long a0, .long 0, .long 359]) (n := 6) (Nat.le_of_ble_eq_true rfl)
  rw [lg_entry_eq]
  generalize (lg_sl ([.long a0, .long 0, .long 359]) ++ List.replicate (6 - (lg_sl ([.long a0, .long 0, .long 359])).length) Slot.unset).toArray = ls at hl ⊢
  have hl : lv_has ls 6 [(0, .long a0), (2, .long 0), (4, .long 359)] := hl
  generalize hloc : ([] : List Loc) = locs at hw ⊢
  have J17 : ∀ (H : Heap) (locs : List Loc) (ls : Array Slot) (w1 : va_W), (-2147483648) ≤ a0.toInt → a0.toInt ≤ 2147483647 → Wd dC dI A s.heap H locs w1 → TW ksM ad cy B qr 12 w1 → FE ksM ([] : List (Nat × Nat × Nat)) w0 w1 → lv_has ls 6 [(0, .long a0), (2, .long 0), (4, .long 359)] → W p l e ({ frames := 1, cells := 0, slots := 0, locals := 12 }) s m (List.toArray [.long a0, .long 0, .long 359]) below meth c H locs 0 0 (MQ below (va_Qi (P_X12_in_5 ad cy B qr s1 a0 w0) (fun u : va_W => wpost dC dI cy A u) A) (List.toArray [.long a0, .long 0, .long 359]) s 0 0 A) (F0 m 17 ls []) := by
    intro H locs ls w1 r2 t3 hw hT hF hl
    refine lv_iconst (v := 0) hx hb dX12_in_17 (by decide) ?_
    exact tk_zret hC hr rfl hlocks hK ⟨hT, hF, (Or.inl rfl)⟩ hw dX12_in_18
  refine lv_lload_n hx hb dX12_in_0 rfl (lv_at hl 0 rfl) ?_
  refine lv_lload_n hx hb dX12_in_1 rfl (lv_at hl 1 rfl) ?_
  refine W.lcmp hx hb dX12_in_2 ?_
  refine lv_if_lt (tgt := 17) hx hb dX12_in_3 (by decide) (fun c4 => ?_) (fun c4 => ?_)
  · have c4 : a0.toInt < (0 : Int) := wk_cltT c4
    exact J17  s.heap locs ls w0 (show (-2147483648) ≤ a0.toInt by omega) (show a0.toInt ≤ 2147483647 by omega)  hw hT hF  (lv_sub hl [0, 1, 2] rfl)
  · have c4 : (0 : Int) ≤ a0.toInt := wk_cltF c4
    refine lv_lload_n hx hb dX12_in_6 rfl (lv_at hl 0 rfl) ?_
    refine lv_lload hx hb dX12_in_7 (lv_at hl 2 rfl) ?_
    refine W.lcmp hx hb dX12_in_9 ?_
    refine lv_if_gt (tgt := 17) hx hb dX12_in_10 (by decide) (fun c5 => ?_) (fun c5 => ?_)
    · have c5 : (359 : Int) < a0.toInt := wk_cgtT c5
      exact J17  s.heap locs ls w0 (show (-2147483648) ≤ a0.toInt by omega) (show a0.toInt ≤ 2147483647 by omega)  hw hT hF  (lv_sub hl [0, 1, 2] rfl)
    · have c5 : a0.toInt ≤ (359 : Int) := wk_cgtF c5
      refine lv_iconst (v := 1) hx hb dX12_in_13 (by decide) ?_
      refine lv_goto (tgt := 18) hx hb dX12_in_14 (by decide) ?_
      exact tk_zret hC hr rfl hlocks hK ⟨hT, hF, (Or.inr ⟨rfl, (show 0 ≤ a0.toInt by omega), (show a0.toInt ≤ 359 by omega)⟩)⟩ hw dX12_in_18
abbrev P_X12_numberHere_5 (ad : Nat → Nat) (cy : Nat → ClassId) (B : Int) (qr : Nat) (s1 : Int)  (w0 : va_W) : Int32 → va_W → Prop := fun r u => TW ksM ad cy B qr 12 u ∧ FE ksM [(12, 14, 14), (12, 15, 15), (12, 16, 16)] w0 u ∧ ((r = 0 ∧ (∃ y : Int32, gi u 0 1 = y ∧ 1 ≤ y.toInt ∧ y.toInt ≤ 400) ∧ (∃ y : Int32, gi u 0 15 = y ∧ 1 ≤ y.toInt ∧ y.toInt ≤ 3205)) ∨ (r = 0 ∧ (∃ y : Int32, gi u 0 1 = y ∧ 0 ≤ y.toInt ∧ y.toInt ≤ 400) ∧ (∃ y : Int32, gi u 0 15 = y ∧ 1 ≤ y.toInt ∧ y.toInt ≤ 3205)) ∨ (r = 1 ∧ (∃ y : Int32, gi u 0 1 = y ∧ 1 ≤ y.toInt ∧ y.toInt ≤ 400) ∧ (∃ y : Int32, gi u 0 16 = y ∧ 0 ≤ y.toInt ∧ y.toInt ≤ 359)))
set_option maxHeartbeats 4000000 in
set_option maxRecDepth 100000 in
theorem k_X12_numberHere_5 (l : Launch) (adK adV : Nat → Nat) (dC : Nat → ClassId) (dI : Nat → Nat → Nat) (cy : Nat → ClassId) (ad : Nat → Nat) (B : Int) (hB0 : 100000 ≤ B) (hB1 : B ≤ 1073741824) (qr : Nat) (s1 : Int)   (w0 : va_W) (sz : Nat) (hT : TW ksM ad cy B qr 12 w0)  : Met l yX12_numberHere wsX12_numberHere ({ frames := 2, cells := 0, slots := 0, locals := 37 }) (va_Pc [.ref (ad 0), .int 0, .int 359] (wpreS adK adV dC dI cy sz w0)) (va_Qi (P_X12_numberHere_5 ad cy B qr s1  w0) (fun u : va_W => wpost dC dI cy (va_A w0 sz) u) (va_A w0 sz)) 0 0 (va_A w0 sz) := by
  refine Met.ofW (cc := cX12_numberHere) (maxL := 5) (ret := (some .boolean)) (by decide) rfl ?_
  intro p e s m args below meth c s₁ Bk hml hv
  obtain ⟨rfl, ⟨hsz, hP, hK, hD0⟩, hE, hSR⟩ := hv
  have hx := Bk.exec
  have hb := Bk.bytes
  have hr := Bk.returns
  have hlocks := Bk.notSynchronized
  have hC : CallFix p m c cX12_numberHere 5 s _ wsX12_numberHere RX12 := ⟨hx, hb, hml, findClass_of_methodNamed Bk.named, atoms_spec (ws := wsX12_numberHere) Bk.pre⟩
  subst hsz
  have hD := hD0.self (sz := s.heap.size)
  generalize hAe : va_A w0 s.heap.size = A at hD hE ⊢
  have hA : ∀ q : Nat, s.heap.size ≤ q → A q := fun q h => by rw [← hAe]; exact Or.inr h
  have hw : Wd dC dI A s.heap s.heap [] w0 := ⟨hP, hD, va_S.rf⟩
  have hF : FE ksM [(12, 14, 14), (12, 15, 15), (12, 16, 16)] w0 w0 := FE.rf
  have hl := lv_entry ([.ref (ad 0), .int 0, .int 359]) (n := 5) (Nat.le_of_ble_eq_true rfl)
  rw [lg_entry_eq]
  generalize (lg_sl ([.ref (ad 0), .int 0, .int 359]) ++ List.replicate (5 - (lg_sl ([.ref (ad 0), .int 0, .int 359])).length) Slot.unset).toArray = ls at hl ⊢
  have hl : lv_has ls 5 [(0, .ref (ad 0)), (1, .int 0), (2, .int 359)] := hl
  generalize hloc : ([] : List Loc) = locs at hw ⊢
  have hinX12 : ∀ w ∈ u_ws RX12 TX12 42, w ∈ wsX12_numberHere := fun _ h => List.mem_cons_of_mem _ (List.mem_append_right _ (h))
  have J126 : ∀ (v126_3 : Int32) (v126_4 : Int32) (f126_0_1 : Int32) (f126_0_14 : Int32) (f126_0_16 : Int32) (H : Heap) (locs : List Loc) (ls : Array Slot) (w1 : va_W), 0 ≤ v126_3.toInt → v126_3.toInt ≤ 399 → 0 ≤ v126_4.toInt → v126_4.toInt ≤ 359 → 1 ≤ f126_0_1.toInt → f126_0_1.toInt ≤ 400 → 0 ≤ f126_0_14.toInt → f126_0_14.toInt ≤ 400 → 0 ≤ f126_0_16.toInt → f126_0_16.toInt ≤ 359 → Wd dC dI A s.heap H locs w1 → TW ksM ad cy B qr 12 w1 → FE ksM [(12, 14, 14), (12, 15, 15), (12, 16, 16)] w0 w1 → gi w1 0 1 = f126_0_1 → gi w1 0 14 = f126_0_14 → gi w1 0 16 = f126_0_16 → lv_has ls 5 [(0, .ref (ad 0)), (1, .int 0), (2, .int 359), (3, .int v126_3), (4, .int v126_4)] → W p l e ({ frames := 2, cells := 0, slots := 0, locals := 37 }) s m (List.toArray [.ref (ad 0), .int 0, .int 359]) below meth c H locs 0 0 (MQ below (va_Qi (P_X12_numberHere_5 ad cy B qr s1  w0) (fun u : va_W => wpost dC dI cy A u) A) (List.toArray [.ref (ad 0), .int 0, .int 359]) s 0 0 A) (F0 m 126 ls []) := by
    intro v126_3 v126_4 f126_0_1 f126_0_14 f126_0_16 H locs ls w1 r2 t3 r4 t5 r6 t7 r9 t10 r12 t13 hw hT hF c8 c11 c14 hl
    refine lv_iconst (v := 1) hx hb dX12_numberHere_126 (by decide) ?_
    refine lv_goto (tgt := 131) hx hb dX12_numberHere_127 (by decide) ?_
    exact tk_zret hC hr rfl hlocks hK ⟨hT, hF, (Or.inr (Or.inr ⟨rfl, ⟨f126_0_1, c8, (show 1 ≤ f126_0_1.toInt by omega), (show f126_0_1.toInt ≤ 400 by omega)⟩, ⟨f126_0_16, c14, (show 0 ≤ f126_0_16.toInt by omega), (show f126_0_16.toInt ≤ 359 by omega)⟩⟩))⟩ hw dX12_numberHere_131
  have J117 : ∀ (v117_3 : Int32) (v117_4 : Int32) (f117_0_1 : Int32) (f117_0_14 : Int32) (f117_0_16 : Int32) (H : Heap) (locs : List Loc) (ls : Array Slot) (w15 : va_W), 0 ≤ v117_3.toInt → v117_3.toInt ≤ 399 → 1 ≤ f117_0_1.toInt → f117_0_1.toInt ≤ 400 → 0 ≤ f117_0_14.toInt → f117_0_14.toInt ≤ 400 → Wd dC dI A s.heap H locs w15 → TW ksM ad cy B qr 12 w15 → FE ksM [(12, 14, 14), (12, 15, 15), (12, 16, 16)] w0 w15 → gi w15 0 1 = f117_0_1 → gi w15 0 14 = f117_0_14 → gi w15 0 16 = f117_0_16 → lv_has ls 5 [(0, .ref (ad 0)), (1, .int 0), (2, .int 359), (3, .int v117_3), (4, .int v117_4)] → W p l e ({ frames := 2, cells := 0, slots := 0, locals := 37 }) s m (List.toArray [.ref (ad 0), .int 0, .int 359]) below meth c H locs 0 0 (MQ below (va_Qi (P_X12_numberHere_5 ad cy B qr s1  w0) (fun u : va_W => wpost dC dI cy A u) A) (List.toArray [.ref (ad 0), .int 0, .int 359]) s 0 0 A) (F0 m 117 ls []) := by
    intro v117_3 v117_4 f117_0_1 f117_0_14 f117_0_16 H locs ls w15 r16 t17 r18 t19 r21 t22 hw hT hF c20 c23 c24 hl
    refine lv_aload_n hx hb dX12_numberHere_117 rfl (lv_at hl 0 rfl) ?_
    refine lv_iconst (v := 1) hx hb dX12_numberHere_118 (by decide) ?_
    refine lv_iload_n hx hb dX12_numberHere_119 rfl (lv_at hl 3 rfl) ?_
    refine tk_Vi hC hK hw hT hA hE hSR kM_at0 (by decide) rfl (k_X12_fails_1 l adK adV dC dI cy ad B (by omega) (by omega) qr s1   1 (by decide) (by decide) v117_3 (show 0 ≤ v117_3.toInt by omega) (show v117_3.toInt ≤ 400 by omega) w15 H.size hT ) (cwV 2 hC.2.2.2.2 gX12_numberHere_X12_fails rfl rfl rfl (by decide +kernel) ⟨Nat.le_of_ble_eq_true rfl, Nat.le_of_ble_eq_true rfl⟩) rfl hl.1 rfl (Nat.le_of_ble_eq_true rfl) dX12_numberHere_120 (fun r25 w27 H locs hp26 hw => ?_)
    obtain ⟨hT, k28, hg31⟩ := hp26
    have hF := hF.tr k28 (by decide)
    have c32 := k28.gi kM_at0 (by decide) c20
    have c33 := k28.gi kM_at0 (by decide) c23
    have c34 := k28.gi kM_at0 (by decide) c24
    obtain ⟨rfl, ⟨x29, c30, rx29, tx29⟩⟩ := hg31
    refine lv_if_eq (tgt := 130) hx hb dX12_numberHere_123 (by decide) (fun _ => ?_) (fun c => absurd (by decide) c)
    refine lv_iconst (v := 0) hx hb dX12_numberHere_130 (by decide) ?_
    exact tk_zret hC hr rfl hlocks hK ⟨hT, hF, (Or.inl ⟨rfl, ⟨f117_0_1, c32, (show 1 ≤ f117_0_1.toInt by omega), (show f117_0_1.toInt ≤ 400 by omega)⟩, ⟨x29, c30, (show 1 ≤ x29.toInt by omega), (show x29.toInt ≤ 3205 by omega)⟩⟩)⟩ hw dX12_numberHere_131
  have L34 : ∀ (n34 : Nat) (v34_3 : Int32) (v34_4 : Int32) (f34_0_1 : Int32) (f34_0_14 : Int32) (H : Heap) (locs : List Loc) (ls : Array Slot) (w35 : va_W), 0 ≤ v34_3.toInt → v34_3.toInt ≤ 399 → 1 ≤ f34_0_1.toInt → f34_0_1.toInt ≤ 400 → 0 ≤ f34_0_14.toInt → f34_0_14.toInt ≤ 400 → (400 - f34_0_14.toInt).toNat < n34 → Wd dC dI A s.heap H locs w35 → TW ksM ad cy B qr 12 w35 → FE ksM [(12, 14, 14), (12, 15, 15), (12, 16, 16)] w0 w35 → gi w35 0 1 = f34_0_1 → gi w35 0 14 = f34_0_14 → lv_has ls 5 [(0, .ref (ad 0)), (1, .int 0), (2, .int 359), (3, .int v34_3), (4, .int v34_4)] → W p l e ({ frames := 2, cells := 0, slots := 0, locals := 37 }) s m (List.toArray [.ref (ad 0), .int 0, .int 359]) below meth c H locs 0 0 (MQ below (va_Qi (P_X12_numberHere_5 ad cy B qr s1  w0) (fun u : va_W => wpost dC dI cy A u) A) (List.toArray [.ref (ad 0), .int 0, .int 359]) s 0 0 A) (F0 m 34 ls []) := by
    intro n34
    induction n34 with
    | zero => intro v34_3 v34_4 f34_0_1 f34_0_14 H locs ls w35 r36 t37 r38 t39 r41 t42 hm34 hw hT hF c40 c43 hl; omega
    | succ n34 ih34 =>
      intro v34_3 v34_4 f34_0_1 f34_0_14 H locs ls w35 r36 t37 r38 t39 r41 t42 hm34 hw hT hF c40 c43 hl
      have J75 : ∀ (v75_4 : Int32) (H : Heap) (locs : List Loc) (ls : Array Slot) (w44 : va_W), 0 ≤ v34_3.toInt → v34_3.toInt ≤ 399 → 1 ≤ f34_0_1.toInt → f34_0_1.toInt ≤ 400 → 0 ≤ f34_0_14.toInt → f34_0_14.toInt ≤ 399 → Wd dC dI A s.heap H locs w44 → TW ksM ad cy B qr 12 w44 → FE ksM [(12, 14, 14), (12, 15, 15), (12, 16, 16)] w0 w44 → gi w44 0 1 = f34_0_1 → gi w44 0 14 = f34_0_14 → lv_has ls 5 [(0, .ref (ad 0)), (1, .int 0), (2, .int 359), (3, .int v34_3), (4, .int v75_4)] → W p l e ({ frames := 2, cells := 0, slots := 0, locals := 37 }) s m (List.toArray [.ref (ad 0), .int 0, .int 359]) below meth c H locs 0 0 (MQ below (va_Qi (P_X12_numberHere_5 ad cy B qr s1  w0) (fun u : va_W => wpost dC dI cy A u) A) (List.toArray [.ref (ad 0), .int 0, .int 359]) s 0 0 A) (F0 m 75 ls []) := by
        intro v75_4 H locs ls w44 r45 t46 r47 t48 r50 t51 hw hT hF c49 c52 hl
        refine lv_aload_n hx hb dX12_numberHere_75 rfl (lv_at hl 0 rfl) ?_
        refine lv_dup hx hb dX12_numberHere_76 rfl ?_
        refine tk_geti hC hK hw hT hinX12 kM_at0 (by decide) rfl 14 (by decide) (List.mem_of_getElem? (i := 1) rfl) rfl rfl dX12_numberHere_77 (fun x53 c54 rx53 tx53 => ?_)
        refine wk_top f34_0_14 (c54.symm.trans c52) ?_
        refine lv_iconst (v := 1) hx hb dX12_numberHere_80 (by decide) ?_
        refine lv_iadd hx hb dX12_numberHere_81 ?_
        refine lv_topi (fun x55 ex55 => ?_)
        have ex55 : x55.toInt = f34_0_14.toInt + (1 : Int) := by rw [ex55]; exact wk_add (show (-2147483648) ≤ f34_0_14.toInt + (1 : Int) by omega) (show f34_0_14.toInt + (1 : Int) ≤ 2147483647 by omega)
        refine tk_puti hC hK hw hT hinX12 tyX12_ok nmX12 kM_at0 (by decide) rfl rfl 14 (by decide) (List.mem_of_getElem? (i := 1) rfl) rfl rfl rfl rfl (show 0 ≤ x55.toInt by omega) (show x55.toInt ≤ 400 by omega) dX12_numberHere_82 (fun H locs w56 hw hT k58 c57 => ?_)
        have hF := hF.put kM_at0 (k := 14) (by decide) k58
        have c59 := k58.gi (Or.inr (by decide)) c49
        refine lv_goto (tgt := 34) hx hb dX12_numberHere_85 (by decide) ?_
        exact ih34 v34_3 v75_4 f34_0_1 x55 H locs ls w56 (show 0 ≤ v34_3.toInt by omega) (show v34_3.toInt ≤ 399 by omega) (show 1 ≤ f34_0_1.toInt by omega) (show f34_0_1.toInt ≤ 400 by omega) (show 0 ≤ x55.toInt by omega) (show x55.toInt ≤ 400 by omega) (show (400 - x55.toInt).toNat < n34 by omega) hw hT hF c59 c57 (lv_sub hl [0, 1, 2, 3, 4] rfl)
      refine lv_aload_n hx hb dX12_numberHere_34 rfl (lv_at hl 0 rfl) ?_
      refine lv_aload_n hx hb dX12_numberHere_35 rfl (lv_at hl 0 rfl) ?_
      refine tk_geti hC hK hw hT hinX12 kM_at0 (by decide) rfl 14 (by decide) (List.mem_of_getElem? (i := 1) rfl) rfl rfl dX12_numberHere_36 (fun x60 c61 rx60 tx60 => ?_)
      refine wk_top f34_0_14 (c61.symm.trans c43) ?_
      refine tk_Vi hC hK hw hT hA hE hSR kM_at0 (by decide) rfl (k_X12_isDigit_1 l adK adV dC dI cy ad B (by omega) (by omega) qr s1   f34_0_14 (show 0 ≤ f34_0_14.toInt by omega) (show f34_0_14.toInt ≤ 400 by omega) w35 H.size hT ) (cwV 1 hC.2.2.2.2 gX12_numberHere_X12_isDigit rfl rfl rfl (by decide +kernel) ⟨Nat.le_of_ble_eq_true rfl, Nat.le_of_ble_eq_true rfl⟩) rfl hl.1 rfl (Nat.le_of_ble_eq_true rfl) dX12_numberHere_39 (fun r62 w64 H locs hp63 hw => ?_)
      obtain ⟨hT, k65, hg71⟩ := hp63
      have hF := hF.tr k65 (by decide)
      have c72 := k65.gi kM_at0 (by decide) c40
      have c73 := k65.gi kM_at0 (by decide) c43
      rcases hg71 with ⟨rfl, ⟨x66, c67, rx66, tx66⟩⟩ | ⟨rfl, g68, ⟨x69, c70, rx69, tx69⟩⟩
      · have ex66 : x66.toInt = f34_0_1.toInt := by rw [← c72.symm.trans c67]
        refine lv_if_eq (tgt := 88) hx hb dX12_numberHere_42 (by decide) (fun _ => ?_) (fun c => absurd (by decide) c)
        refine lv_aload_n hx hb dX12_numberHere_88 rfl (lv_at hl 0 rfl) ?_
        refine lv_iload hx hb dX12_numberHere_89 (lv_at hl 4 rfl) ?_
        refine tk_puti hC hK hw hT hinX12 tyX12_ok nmX12 kM_at0 (by decide) rfl rfl 16 (by decide) (List.mem_of_getElem? (i := 3) rfl) rfl rfl rfl rfl (wk_i32 v34_4).1 (wk_i32 v34_4).2 dX12_numberHere_91 (fun H locs w74 hw hT k76 c75 => ?_)
        have hF := hF.put kM_at0 (k := 16) (by decide) k76
        have c77 := k76.gi (Or.inr (by decide)) c72
        have c78 := k76.gi (Or.inr (by decide)) c73
        refine lv_aload_n hx hb dX12_numberHere_94 rfl (lv_at hl 0 rfl) ?_
        refine tk_geti hC hK hw hT hinX12 kM_at0 (by decide) rfl 14 (by decide) (List.mem_of_getElem? (i := 1) rfl) rfl rfl dX12_numberHere_95 (fun x79 c80 rx79 tx79 => ?_)
        refine wk_top f34_0_14 (c80.symm.trans c78) ?_
        refine lv_iload_n hx hb dX12_numberHere_98 rfl (lv_at hl 3 rfl) ?_
        refine lv_isub hx hb dX12_numberHere_99 ?_
        refine lv_topi (fun x81 ex81 => ?_)
        have ex81 : x81.toInt = f34_0_14.toInt - v34_3.toInt := by rw [ex81]; exact wk_sub (show (-2147483648) ≤ f34_0_14.toInt - v34_3.toInt by omega) (show f34_0_14.toInt - v34_3.toInt ≤ 2147483647 by omega)
        refine lv_iconst (v := 5) hx hb dX12_numberHere_100 (by decide) ?_
        refine lv_icmp_gt (tgt := 117) hx hb dX12_numberHere_101 (by decide) (fun c82 => ?_) (fun c82 => ?_)
        · have c82 : (5 : Int) < x81.toInt := wk_lt.mp c82
          exact J117 v34_3 v34_4 f34_0_1 f34_0_14 v34_4 H locs ls w74 (show 0 ≤ v34_3.toInt by omega) (show v34_3.toInt ≤ 399 by omega) (show 1 ≤ f34_0_1.toInt by omega) (show f34_0_1.toInt ≤ 400 by omega) (show 0 ≤ f34_0_14.toInt by omega) (show f34_0_14.toInt ≤ 400 by omega)  hw hT hF c77 c78 c75 (lv_sub hl [0, 1, 2, 3, 4] rfl)
        · have c82 : x81.toInt ≤ (5 : Int) := wk_ltF c82
          refine lv_iload hx hb dX12_numberHere_104 (lv_at hl 4 rfl) ?_
          refine lv_i2l hx hb dX12_numberHere_106 rfl ?_
          refine lv_topl (fun x83 ex83 => ?_)
          have ex83 : x83.toInt = v34_4.toInt := by rw [ex83]; exact wk_i2l _
          have bx83 := wk_i32 v34_4
          refine lv_iload_n hx hb dX12_numberHere_107 rfl (lv_at hl 1 rfl) ?_
          refine lv_i2l hx hb dX12_numberHere_108 rfl ?_
          refine wk_topl 0 (by decide) ?_
          refine lv_iload_n hx hb dX12_numberHere_109 rfl (lv_at hl 2 rfl) ?_
          refine lv_i2l hx hb dX12_numberHere_110 rfl ?_
          refine wk_topl 359 (by decide) ?_
          refine tk_Si hC hK hw hT hA hE hSR (k_X12_in_5 l adK adV dC dI cy ad B (by omega) (by omega) qr s1   x83 (show (-2147483648) ≤ x83.toInt by omega) (show x83.toInt ≤ 2147483647 by omega) w74 H.size hT ) (va_cwS 3 hC.2.2.2.2 gX12_numberHere_X12_in rfl rfl rfl (by decide +kernel) ⟨Nat.le_of_ble_eq_true rfl, Nat.le_of_ble_eq_true rfl⟩) rfl hl.1 rfl (Nat.le_of_ble_eq_true rfl) dX12_numberHere_111 (fun r84 w86 H locs hp85 hw => ?_)
          obtain ⟨hT, k87, hg90⟩ := hp85
          have hF := hF.tr k87 (by decide)
          have c91 := k87.gi kM_at0 (by decide) c77
          have c92 := k87.gi kM_at0 (by decide) c78
          have c93 := k87.gi kM_at0 (by decide) c75
          rcases hg90 with rfl | ⟨rfl, g88, g89⟩
          · refine lv_if_ne (tgt := 126) hx hb dX12_numberHere_114 (by decide) (fun c => absurd (by decide) c) (fun _ => ?_)
            exact J117 v34_3 v34_4 f34_0_1 f34_0_14 v34_4 H locs ls w86 (show 0 ≤ v34_3.toInt by omega) (show v34_3.toInt ≤ 399 by omega) (show 1 ≤ f34_0_1.toInt by omega) (show f34_0_1.toInt ≤ 400 by omega) (show 0 ≤ f34_0_14.toInt by omega) (show f34_0_14.toInt ≤ 400 by omega)  hw hT hF c91 c92 c93 (lv_sub hl [0, 1, 2, 3, 4] rfl)
          · refine lv_if_ne (tgt := 126) hx hb dX12_numberHere_114 (by decide) (fun _ => ?_) (fun c => absurd c (by decide))
            exact J126 v34_3 v34_4 f34_0_1 f34_0_14 v34_4 H locs ls w86 (show 0 ≤ v34_3.toInt by omega) (show v34_3.toInt ≤ 399 by omega) (show 0 ≤ v34_4.toInt by omega) (show v34_4.toInt ≤ 359 by omega) (show 1 ≤ f34_0_1.toInt by omega) (show f34_0_1.toInt ≤ 400 by omega) (show 0 ≤ f34_0_14.toInt by omega) (show f34_0_14.toInt ≤ 400 by omega) (show 0 ≤ v34_4.toInt by omega) (show v34_4.toInt ≤ 359 by omega)  hw hT hF c91 c92 c93 (lv_sub hl [0, 1, 2, 3, 4] rfl)
      · have ex69 : x69.toInt = f34_0_1.toInt := by rw [← c72.symm.trans c70]
        refine lv_if_eq (tgt := 88) hx hb dX12_numberHere_42 (by decide) (fun c => absurd c (by decide)) (fun _ => ?_)
        refine lv_aload_n hx hb dX12_numberHere_45 rfl (lv_at hl 0 rfl) ?_
        refine tk_geti hC hK hw hT hinX12 kM_at0 (by decide) rfl 14 (by decide) (List.mem_of_getElem? (i := 1) rfl) rfl rfl dX12_numberHere_46 (fun x94 c95 rx94 tx94 => ?_)
        refine wk_top f34_0_14 (c95.symm.trans c73) ?_
        refine lv_iload_n hx hb dX12_numberHere_49 rfl (lv_at hl 3 rfl) ?_
        refine lv_isub hx hb dX12_numberHere_50 ?_
        refine lv_topi (fun x96 ex96 => ?_)
        have ex96 : x96.toInt = f34_0_14.toInt - v34_3.toInt := by rw [ex96]; exact wk_sub (show (-2147483648) ≤ f34_0_14.toInt - v34_3.toInt by omega) (show f34_0_14.toInt - v34_3.toInt ≤ 2147483647 by omega)
        refine lv_iconst (v := 5) hx hb dX12_numberHere_51 (by decide) ?_
        refine lv_icmp_ge (tgt := 75) hx hb dX12_numberHere_52 (by decide) (fun c97 => ?_) (fun c97 => ?_)
        · have c97 : (5 : Int) ≤ x96.toInt := wk_le.mp c97
          exact J75 v34_4 H locs ls w64 (show 0 ≤ v34_3.toInt by omega) (show v34_3.toInt ≤ 399 by omega) (show 1 ≤ f34_0_1.toInt by omega) (show f34_0_1.toInt ≤ 400 by omega) (show 0 ≤ f34_0_14.toInt by omega) (show f34_0_14.toInt ≤ 399 by omega)  hw hT hF c72 c73 (lv_sub hl [0, 1, 2, 3, 4] rfl)
        · have c97 : x96.toInt < (5 : Int) := wk_leF c97
          refine lv_bipush (v := 10) hx hb dX12_numberHere_55 (by decide) ?_
          refine lv_iload hx hb dX12_numberHere_57 (lv_at hl 4 rfl) ?_
          refine lv_imul hx hb dX12_numberHere_59 ?_
          have nx98 := wk_i32 v34_4
          refine lv_topi (fun x99 ex99 => ?_)
          refine lv_aload_n hx hb dX12_numberHere_60 rfl (lv_at hl 0 rfl) ?_
          refine tk_getA hC hK hw hT hinX12 kM_at0 (by decide) rfl 0 (by decide) (List.mem_of_getElem? (i := 2) rfl) rfl rfl dX12_numberHere_61 ?_
          refine lv_aload_n hx hb dX12_numberHere_64 rfl (lv_at hl 0 rfl) ?_
          refine tk_geti hC hK hw hT hinX12 kM_at0 (by decide) rfl 14 (by decide) (List.mem_of_getElem? (i := 1) rfl) rfl rfl dX12_numberHere_65 (fun x100 c101 rx100 tx100 => ?_)
          refine wk_top f34_0_14 (c101.symm.trans c73) ?_
          refine tk_bald hC hK hw hT kM_at1 rfl rfl (show 0 ≤ f34_0_14.toInt by omega) (show f34_0_14.toInt < 400 by omega) dX12_numberHere_68 (fun x102 c103 rx102 tx102 => ?_)
          have c103 : gi w64 1 (f34_0_14.toInt).toNat = x102 := (congrArg (gi w64 1) (congrArg Int.toNat (show f34_0_14.toInt = f34_0_14.toInt by omega))).trans c103
          refine lv_iadd hx hb dX12_numberHere_69 ?_
          have nx104 := wk_i32 x99
          refine lv_topi (fun x105 ex105 => ?_)
          refine lv_bipush (v := 48) hx hb dX12_numberHere_70 (by decide) ?_
          refine lv_isub hx hb dX12_numberHere_72 ?_
          have nx106 := wk_i32 x105
          refine lv_topi (fun x107 ex107 => ?_)
          refine lv_istore (lv' := [(4, .int x107), (0, .ref (ad 0)), (1, .int 0), (2, .int 359), (3, .int v34_3)]) hx hb dX12_numberHere_73 hl (by decide) rfl (fun ls hl => ?_)
          exact J75 x107 H locs ls w64 (show 0 ≤ v34_3.toInt by omega) (show v34_3.toInt ≤ 399 by omega) (show 1 ≤ f34_0_1.toInt by omega) (show f34_0_1.toInt ≤ 400 by omega) (show 0 ≤ f34_0_14.toInt by omega) (show f34_0_14.toInt ≤ 399 by omega)  hw hT hF c72 c73 (lv_sub hl [1, 2, 3, 4, 0] rfl)
  refine lv_aload_n hx hb dX12_numberHere_0 rfl (lv_at hl 0 rfl) ?_
  obtain ⟨x108, c109, rx108, tx108⟩ := hT.rdi (lo := 0) (hi := 400) (k := 14) kM_at0 (by decide) rfl
  refine tk_Vi hC hK hw hT hA hE hSR kM_at0 (by decide) rfl (k_X12_see_1 l adK adV dC dI cy ad B (by omega) (by omega) qr s1    w0 s.heap.size hT x108 c109 (show 0 ≤ x108.toInt by omega) (show x108.toInt ≤ 400 by omega)) (cwV 0 hC.2.2.2.2 gX12_numberHere_X12_see rfl rfl rfl (by decide +kernel) ⟨Nat.le_of_ble_eq_true rfl, Nat.le_of_ble_eq_true rfl⟩) rfl hl.1 rfl (Nat.le_of_ble_eq_true rfl) dX12_numberHere_1 (fun r110 w112 H locs hp111 hw => ?_)
  obtain ⟨hT, k113, hg130⟩ := hp111
  have hF := hF.tr k113 (by decide)
  rcases hg130 with ⟨g114, g115, ⟨x116, c117, rx116, tx116⟩, ⟨x118, c119, rx118, tx118⟩, g120, g121⟩ | ⟨rfl, ⟨x122, c123, rx122, tx122⟩, ⟨x124, c125, rx124, tx124⟩, g126⟩ | ⟨rfl, ⟨x127, c128, rx127, tx127⟩, g129⟩
  · have g120 : (gi w112 1 (x118.toInt).toNat).toInt ≠ 32 := by have q := g120; simp only [c119] at q; omega
    have g121 : (x118.toInt = x108.toInt ∨ (gi w0 1 (x108.toInt).toNat).toInt = 32) := by have q := g121; simp only [c109, c119] at q; omega
    refine lv_pop hx hb dX12_numberHere_4 rfl ?_
    refine lv_aload_n hx hb dX12_numberHere_5 rfl (lv_at hl 0 rfl) ?_
    refine lv_aload_n hx hb dX12_numberHere_6 rfl (lv_at hl 0 rfl) ?_
    refine tk_geti hC hK hw hT hinX12 kM_at0 (by decide) rfl 14 (by decide) (List.mem_of_getElem? (i := 1) rfl) rfl rfl dX12_numberHere_7 (fun x133 c134 rx133 tx133 => ?_)
    refine wk_top x118 (c134.symm.trans c119) ?_
    refine tk_Vi hC hK hw hT hA hE hSR kM_at0 (by decide) rfl (k_X12_isDigit_2 l adK adV dC dI cy ad B (by omega) (by omega) qr s1   x118 (show 0 ≤ x118.toInt by omega) (show x118.toInt ≤ 399 by omega) w112 H.size hT ) (cwV 1 hC.2.2.2.2 gX12_numberHere_X12_isDigit rfl rfl rfl (by decide +kernel) ⟨Nat.le_of_ble_eq_true rfl, Nat.le_of_ble_eq_true rfl⟩) rfl hl.1 rfl (Nat.le_of_ble_eq_true rfl) dX12_numberHere_10 (fun r135 w137 H locs hp136 hw => ?_)
    obtain ⟨hT, k138, hg143⟩ := hp136
    have hF := hF.tr k138 (by decide)
    have c144 := k138.gi kM_at0 (by decide) c117
    have c145 := k138.gi kM_at0 (by decide) c119
    rcases hg143 with ⟨rfl, ⟨x139, c140, rx139, tx139⟩⟩ | ⟨rfl, ⟨x141, c142, rx141, tx141⟩⟩
    · have ex139 : x139.toInt = x116.toInt := by rw [← c144.symm.trans c140]
      refine lv_if_ne (tgt := 26) hx hb dX12_numberHere_13 (by decide) (fun c => absurd (by decide) c) (fun _ => ?_)
      refine lv_aload_n hx hb dX12_numberHere_16 rfl (lv_at hl 0 rfl) ?_
      refine lv_iconst (v := 0) hx hb dX12_numberHere_17 (by decide) ?_
      refine lv_aload_n hx hb dX12_numberHere_18 rfl (lv_at hl 0 rfl) ?_
      refine tk_geti hC hK hw hT hinX12 kM_at0 (by decide) rfl 14 (by decide) (List.mem_of_getElem? (i := 1) rfl) rfl rfl dX12_numberHere_19 (fun x146 c147 rx146 tx146 => ?_)
      refine wk_top x118 (c147.symm.trans c145) ?_
      refine tk_Vi hC hK hw hT hA hE hSR kM_at0 (by decide) rfl (k_X12_fails_1 l adK adV dC dI cy ad B (by omega) (by omega) qr s1   0 (by decide) (by decide) x118 (show 0 ≤ x118.toInt by omega) (show x118.toInt ≤ 400 by omega) w137 H.size hT ) (cwV 2 hC.2.2.2.2 gX12_numberHere_X12_fails rfl rfl rfl (by decide +kernel) ⟨Nat.le_of_ble_eq_true rfl, Nat.le_of_ble_eq_true rfl⟩) rfl hl.1 rfl (Nat.le_of_ble_eq_true rfl) dX12_numberHere_22 (fun r148 w150 H locs hp149 hw => ?_)
      obtain ⟨hT, k151, hg154⟩ := hp149
      have hF := hF.tr k151 (by decide)
      have c155 := k151.gi kM_at0 (by decide) c144
      have c156 := k151.gi kM_at0 (by decide) c145
      obtain ⟨rfl, ⟨x152, c153, rx152, tx152⟩⟩ := hg154
      exact tk_zret hC hr rfl hlocks hK ⟨hT, hF, (Or.inl ⟨rfl, ⟨x116, c155, (show 1 ≤ x116.toInt by omega), (show x116.toInt ≤ 400 by omega)⟩, ⟨x152, c153, (show 1 ≤ x152.toInt by omega), (show x152.toInt ≤ 3205 by omega)⟩⟩)⟩ hw dX12_numberHere_25
    · have ex141 : x141.toInt = x116.toInt := by rw [← c144.symm.trans c142]
      refine lv_if_ne (tgt := 26) hx hb dX12_numberHere_13 (by decide) (fun _ => ?_) (fun c => absurd c (by decide))
      refine lv_aload_n hx hb dX12_numberHere_26 rfl (lv_at hl 0 rfl) ?_
      refine tk_geti hC hK hw hT hinX12 kM_at0 (by decide) rfl 14 (by decide) (List.mem_of_getElem? (i := 1) rfl) rfl rfl dX12_numberHere_27 (fun x157 c158 rx157 tx157 => ?_)
      refine wk_top x118 (c158.symm.trans c145) ?_
      refine lv_istore_n (lv' := [(3, .int x118), (0, .ref (ad 0)), (1, .int 0), (2, .int 359)]) hx hb dX12_numberHere_30 rfl hl (by decide) rfl (fun ls hl => ?_)
      refine lv_iconst (v := 0) hx hb dX12_numberHere_31 (by decide) ?_
      refine lv_istore (lv' := [(4, .int 0), (3, .int x118), (0, .ref (ad 0)), (1, .int 0), (2, .int 359)]) hx hb dX12_numberHere_32 hl (by decide) rfl (fun ls hl => ?_)
      exact L34 ((400 - x118.toInt).toNat + 1) x118 0 x116 x118 H locs ls w137 (show 0 ≤ x118.toInt by omega) (show x118.toInt ≤ 399 by omega) (show 1 ≤ x116.toInt by omega) (show x116.toInt ≤ 400 by omega) (show 0 ≤ x118.toInt by omega) (show x118.toInt ≤ 400 by omega) (Nat.lt_succ_self _) hw hT hF c144 c145 (lv_sub hl [2, 3, 4, 1, 0] rfl)
  · have g126 : (x124.toInt = x108.toInt ∨ (gi w0 1 (x108.toInt).toNat).toInt = 32) := by have q := g126; simp only [c109, c125] at q; omega
    refine lv_pop hx hb dX12_numberHere_4 rfl ?_
    refine lv_aload_n hx hb dX12_numberHere_5 rfl (lv_at hl 0 rfl) ?_
    refine lv_aload_n hx hb dX12_numberHere_6 rfl (lv_at hl 0 rfl) ?_
    refine tk_geti hC hK hw hT hinX12 kM_at0 (by decide) rfl 14 (by decide) (List.mem_of_getElem? (i := 1) rfl) rfl rfl dX12_numberHere_7 (fun x159 c160 rx159 tx159 => ?_)
    refine wk_top x124 (c160.symm.trans c125) ?_
    refine tk_Vi hC hK hw hT hA hE hSR kM_at0 (by decide) rfl (k_X12_isDigit_3 l adK adV dC dI cy ad B (by omega) (by omega) qr s1   x124 (show 1 ≤ x124.toInt by omega) (show x124.toInt ≤ 399 by omega) w112 H.size hT ) (cwV 1 hC.2.2.2.2 gX12_numberHere_X12_isDigit rfl rfl rfl (by decide +kernel) ⟨Nat.le_of_ble_eq_true rfl, Nat.le_of_ble_eq_true rfl⟩) rfl hl.1 rfl (Nat.le_of_ble_eq_true rfl) dX12_numberHere_10 (fun r161 w163 H locs hp162 hw => ?_)
    obtain ⟨hT, k164, hg169⟩ := hp162
    have hF := hF.tr k164 (by decide)
    have c170 := k164.gi kM_at0 (by decide) c123
    have c171 := k164.gi kM_at0 (by decide) c125
    rcases hg169 with ⟨rfl, ⟨x165, c166, rx165, tx165⟩⟩ | ⟨rfl, ⟨x167, c168, rx167, tx167⟩⟩
    · have ex165 : x165.toInt = x122.toInt := by rw [← c170.symm.trans c166]
      refine lv_if_ne (tgt := 26) hx hb dX12_numberHere_13 (by decide) (fun c => absurd (by decide) c) (fun _ => ?_)
      refine lv_aload_n hx hb dX12_numberHere_16 rfl (lv_at hl 0 rfl) ?_
      refine lv_iconst (v := 0) hx hb dX12_numberHere_17 (by decide) ?_
      refine lv_aload_n hx hb dX12_numberHere_18 rfl (lv_at hl 0 rfl) ?_
      refine tk_geti hC hK hw hT hinX12 kM_at0 (by decide) rfl 14 (by decide) (List.mem_of_getElem? (i := 1) rfl) rfl rfl dX12_numberHere_19 (fun x172 c173 rx172 tx172 => ?_)
      refine wk_top x124 (c173.symm.trans c171) ?_
      refine tk_Vi hC hK hw hT hA hE hSR kM_at0 (by decide) rfl (k_X12_fails_1 l adK adV dC dI cy ad B (by omega) (by omega) qr s1   0 (by decide) (by decide) x124 (show 0 ≤ x124.toInt by omega) (show x124.toInt ≤ 400 by omega) w163 H.size hT ) (cwV 2 hC.2.2.2.2 gX12_numberHere_X12_fails rfl rfl rfl (by decide +kernel) ⟨Nat.le_of_ble_eq_true rfl, Nat.le_of_ble_eq_true rfl⟩) rfl hl.1 rfl (Nat.le_of_ble_eq_true rfl) dX12_numberHere_22 (fun r174 w176 H locs hp175 hw => ?_)
      obtain ⟨hT, k177, hg180⟩ := hp175
      have hF := hF.tr k177 (by decide)
      have c181 := k177.gi kM_at0 (by decide) c170
      have c182 := k177.gi kM_at0 (by decide) c171
      obtain ⟨rfl, ⟨x178, c179, rx178, tx178⟩⟩ := hg180
      exact tk_zret hC hr rfl hlocks hK ⟨hT, hF, (Or.inl ⟨rfl, ⟨x122, c181, (show 1 ≤ x122.toInt by omega), (show x122.toInt ≤ 400 by omega)⟩, ⟨x178, c179, (show 1 ≤ x178.toInt by omega), (show x178.toInt ≤ 3205 by omega)⟩⟩)⟩ hw dX12_numberHere_25
    · have ex167 : x167.toInt = x122.toInt := by rw [← c170.symm.trans c168]
      refine lv_if_ne (tgt := 26) hx hb dX12_numberHere_13 (by decide) (fun _ => ?_) (fun c => absurd c (by decide))
      refine lv_aload_n hx hb dX12_numberHere_26 rfl (lv_at hl 0 rfl) ?_
      refine tk_geti hC hK hw hT hinX12 kM_at0 (by decide) rfl 14 (by decide) (List.mem_of_getElem? (i := 1) rfl) rfl rfl dX12_numberHere_27 (fun x183 c184 rx183 tx183 => ?_)
      refine wk_top x124 (c184.symm.trans c171) ?_
      refine lv_istore_n (lv' := [(3, .int x124), (0, .ref (ad 0)), (1, .int 0), (2, .int 359)]) hx hb dX12_numberHere_30 rfl hl (by decide) rfl (fun ls hl => ?_)
      refine lv_iconst (v := 0) hx hb dX12_numberHere_31 (by decide) ?_
      refine lv_istore (lv' := [(4, .int 0), (3, .int x124), (0, .ref (ad 0)), (1, .int 0), (2, .int 359)]) hx hb dX12_numberHere_32 hl (by decide) rfl (fun ls hl => ?_)
      exact L34 ((400 - x124.toInt).toNat + 1) x124 0 x122 x124 H locs ls w163 (show 0 ≤ x124.toInt by omega) (show x124.toInt ≤ 399 by omega) (show 1 ≤ x122.toInt by omega) (show x122.toInt ≤ 400 by omega) (show 0 ≤ x124.toInt by omega) (show x124.toInt ≤ 400 by omega) (Nat.lt_succ_self _) hw hT hF c170 c171 (lv_sub hl [2, 3, 4, 1, 0] rfl)
  · obtain ⟨x131, c132, rx131, tx131⟩ := hT.rdi (lo := 0) (hi := 400) (k := 14) kM_at0 (by decide) rfl
    have g129 : (x131.toInt = x108.toInt ∨ (gi w0 1 (x108.toInt).toNat).toInt = 32) := by have q := g129; simp only [c109, c132] at q; omega
    refine lv_pop hx hb dX12_numberHere_4 rfl ?_
    refine lv_aload_n hx hb dX12_numberHere_5 rfl (lv_at hl 0 rfl) ?_
    refine lv_aload_n hx hb dX12_numberHere_6 rfl (lv_at hl 0 rfl) ?_
    refine tk_geti hC hK hw hT hinX12 kM_at0 (by decide) rfl 14 (by decide) (List.mem_of_getElem? (i := 1) rfl) rfl rfl dX12_numberHere_7 (fun x185 c186 rx185 tx185 => ?_)
    refine wk_top x131 (c186.symm.trans c132) ?_
    refine tk_Vi hC hK hw hT hA hE hSR kM_at0 (by decide) rfl (k_X12_isDigit_1 l adK adV dC dI cy ad B (by omega) (by omega) qr s1   x131 (show 0 ≤ x131.toInt by omega) (show x131.toInt ≤ 400 by omega) w112 H.size hT ) (cwV 1 hC.2.2.2.2 gX12_numberHere_X12_isDigit rfl rfl rfl (by decide +kernel) ⟨Nat.le_of_ble_eq_true rfl, Nat.le_of_ble_eq_true rfl⟩) rfl hl.1 rfl (Nat.le_of_ble_eq_true rfl) dX12_numberHere_10 (fun r187 w189 H locs hp188 hw => ?_)
    obtain ⟨hT, k190, hg196⟩ := hp188
    have hF := hF.tr k190 (by decide)
    have c197 := k190.gi kM_at0 (by decide) c128
    have c198 := k190.gi kM_at0 (by decide) c132
    rcases hg196 with ⟨rfl, ⟨x191, c192, rx191, tx191⟩⟩ | ⟨rfl, g193, ⟨x194, c195, rx194, tx194⟩⟩
    · have ex191 : x191.toInt = x127.toInt := by rw [← c197.symm.trans c192]
      refine lv_if_ne (tgt := 26) hx hb dX12_numberHere_13 (by decide) (fun c => absurd (by decide) c) (fun _ => ?_)
      refine lv_aload_n hx hb dX12_numberHere_16 rfl (lv_at hl 0 rfl) ?_
      refine lv_iconst (v := 0) hx hb dX12_numberHere_17 (by decide) ?_
      refine lv_aload_n hx hb dX12_numberHere_18 rfl (lv_at hl 0 rfl) ?_
      refine tk_geti hC hK hw hT hinX12 kM_at0 (by decide) rfl 14 (by decide) (List.mem_of_getElem? (i := 1) rfl) rfl rfl dX12_numberHere_19 (fun x199 c200 rx199 tx199 => ?_)
      refine wk_top x131 (c200.symm.trans c198) ?_
      refine tk_Vi hC hK hw hT hA hE hSR kM_at0 (by decide) rfl (k_X12_fails_1 l adK adV dC dI cy ad B (by omega) (by omega) qr s1   0 (by decide) (by decide) x131 (show 0 ≤ x131.toInt by omega) (show x131.toInt ≤ 400 by omega) w189 H.size hT ) (cwV 2 hC.2.2.2.2 gX12_numberHere_X12_fails rfl rfl rfl (by decide +kernel) ⟨Nat.le_of_ble_eq_true rfl, Nat.le_of_ble_eq_true rfl⟩) rfl hl.1 rfl (Nat.le_of_ble_eq_true rfl) dX12_numberHere_22 (fun r201 w203 H locs hp202 hw => ?_)
      obtain ⟨hT, k204, hg207⟩ := hp202
      have hF := hF.tr k204 (by decide)
      have c208 := k204.gi kM_at0 (by decide) c197
      have c209 := k204.gi kM_at0 (by decide) c198
      obtain ⟨rfl, ⟨x205, c206, rx205, tx205⟩⟩ := hg207
      exact tk_zret hC hr rfl hlocks hK ⟨hT, hF, (Or.inr (Or.inl ⟨rfl, ⟨x127, c208, (show 0 ≤ x127.toInt by omega), (show x127.toInt ≤ 400 by omega)⟩, ⟨x205, c206, (show 1 ≤ x205.toInt by omega), (show x205.toInt ≤ 3205 by omega)⟩⟩))⟩ hw dX12_numberHere_25
    · have ex194 : x194.toInt = x127.toInt := by rw [← c197.symm.trans c195]
      refine lv_if_ne (tgt := 26) hx hb dX12_numberHere_13 (by decide) (fun _ => ?_) (fun c => absurd c (by decide))
      refine lv_aload_n hx hb dX12_numberHere_26 rfl (lv_at hl 0 rfl) ?_
      refine tk_geti hC hK hw hT hinX12 kM_at0 (by decide) rfl 14 (by decide) (List.mem_of_getElem? (i := 1) rfl) rfl rfl dX12_numberHere_27 (fun x210 c211 rx210 tx210 => ?_)
      refine wk_top x131 (c211.symm.trans c198) ?_
      refine lv_istore_n (lv' := [(3, .int x131), (0, .ref (ad 0)), (1, .int 0), (2, .int 359)]) hx hb dX12_numberHere_30 rfl hl (by decide) rfl (fun ls hl => ?_)
      refine lv_iconst (v := 0) hx hb dX12_numberHere_31 (by decide) ?_
      refine lv_istore (lv' := [(4, .int 0), (3, .int x131), (0, .ref (ad 0)), (1, .int 0), (2, .int 359)]) hx hb dX12_numberHere_32 hl (by decide) rfl (fun ls hl => ?_)
      exact L34 ((400 - x131.toInt).toNat + 1) x131 0 x127 x131 H locs ls w189 (show 0 ≤ x131.toInt by omega) (show x131.toInt ≤ 399 by omega) (show 1 ≤ x127.toInt by omega) (show x127.toInt ≤ 400 by omega) (show 0 ≤ x131.toInt by omega) (show x131.toInt ≤ 400 by omega) (Nat.lt_succ_self _) hw hT hF c197 c198 (lv_sub hl [2, 3, 4, 1, 0] rfl)
