abbrev Pz_X12_streetOf_3 (ad : Nat → Nat) (cy : Nat → ClassId) (B : Int) (qr : Nat) (s1 : Int) (a1 : Int32) (w0 : va_W) : Int32 → va_W → Prop := fun r u => w0 = u ∧ Ev (fun n => m_X12_streetOf n 0 a1.toInt 0 (sI w0)) (r.toInt, sI w0) ∧ ((0 ≤ r.toInt ∧ r.toInt ≤ 9 ∧ gi u 12 (10 * a1.toInt + 10).toNat = r))
set_option maxHeartbeats 4000000 in
set_option maxRecDepth 100000 in
theorem kz_X12_streetOf_3 (l : Launch) (adK adV : Nat → Nat) (dC : Nat → ClassId) (dI : Nat → Nat → Nat) (cy : Nat → ClassId) (ad : Nat → Nat) (B : Int) (hB0 : 100000 ≤ B) (hB1 : B ≤ 1073741824) (qr : Nat) (s1 : Int)  (a1 : Int32) (ra1 : 0 ≤ a1.toInt) (ta1 : a1.toInt ≤ 12) (w0 : va_W) (sz : Nat) (hT : TW ksM ad cy B qr 13 w0)  : Met l yX12_streetOf (wu yX12_streetOf cX12_streetOf 3 (some .int)) ({ frames := 1, cells := 0, slots := 0, locals := 12 }) (va_Pc [.ref (ad 0), .int a1, .int 0] (wpreS adK adV dC dI cy sz w0)) (va_Qi (Pz_X12_streetOf_3 ad cy B qr s1 a1 w0) (fun u : va_W => wpost dC dI cy (va_A w0 sz) u) (va_A w0 sz)) 0 0 (va_A w0 sz) := by
  refine Met.ofW (cc := cX12_streetOf) (maxL := 3) (ret := (some .int)) (by decide) rfl ?_
  intro p e s m args below meth c s₁ Bk hml hv
  obtain ⟨rfl, ⟨hsz, hP, hK, hD0⟩, hE, hSR⟩ := hv
  have hx := Bk.exec
  have hb := Bk.bytes
  have hr := Bk.returns
  have hlocks := Bk.notSynchronized
  have hC : CallFix p m c cX12_streetOf 3 s _ (wu yX12_streetOf cX12_streetOf 3 (some .int)) RX12 := ⟨hx, hb, hml, findClass_of_methodNamed Bk.named, atoms_spec (ws := (wu yX12_streetOf cX12_streetOf 3 (some .int))) Bk.pre⟩
  subst hsz
  have hD := hD0.self (sz := s.heap.size)
  generalize hAe : va_A w0 s.heap.size = A at hD hE ⊢
  have hA : ∀ q : Nat, s.heap.size ≤ q → A q := fun q h => by rw [← hAe]; exact Or.inr h
  have hw : Wd dC dI A s.heap s.heap [] w0 := ⟨hP, hD, va_S.rf⟩
  have hF : FE ksM ([] : List (Nat × Nat × Nat)) w0 w0 := FE.rf
  have hl := lv_entry ([.ref (ad 0), .int a1, .int 0]) (n := 3) (Nat.le_of_ble_eq_true rfl)
  rw [lg_entry_eq]
  generalize (lg_sl ([.ref (ad 0), .int a1, .int 0]) ++ List.replicate (3 - (lg_sl ([.ref (ad 0), .int a1, .int 0])).length) Slot.unset).toArray = ls at hl ⊢
  have hl : lv_has ls 3 [(0, .ref (ad 0)), (1, .int a1), (2, .int 0)] := hl
  generalize hloc : ([] : List Loc) = locs at hw ⊢
  have hinX12 : ∀ w ∈ u_ws RX12 TX12 42, w ∈ (wu yX12_streetOf cX12_streetOf 3 (some .int)) := fun _ h => List.mem_cons_of_mem _ (up_71 h)
  have hM : TT (fun n => m_X12_streetOf n 0 a1.toInt 0 (sI w0)) (fun n => m_X12_streetOf n 0 a1.toInt 0 (sI w0)) := TT.rf
  refine lv_aload_n hx hb dX12_streetOf_0 rfl (lv_at hl 0 rfl) ?_
  refine tk_getA hC hK hw hT hinX12 kM_at0 (by decide) rfl 26 (by decide) (List.mem_cons_of_mem _ uw_7_1) rfl rfl dX12_streetOf_1 ?_
  refine lv_bipush (v := 10) hx hb dX12_streetOf_4 (by decide) ?_
  refine lv_bipush (v := 10) hx hb dX12_streetOf_6 (by decide) ?_
  refine lv_iload_n hx hb dX12_streetOf_8 rfl (lv_at hl 1 rfl) ?_
  refine lv_imul hx hb dX12_streetOf_9 ?_
  refine lv_topi (fun x1 ex1 => ?_)
  have ezx1 := ex1
  have ex1 : x1.toInt = (10 : Int) * a1.toInt := by rw [ex1]; exact wk_mul (show (-2147483648) ≤ (10 : Int) * a1.toInt by omega) (show (10 : Int) * a1.toInt ≤ 2147483647 by omega)
  replace hM := hM.lt ex1.symm
  refine lv_iadd hx hb dX12_streetOf_10 ?_
  refine lv_topi (fun x2 ex2 => ?_)
  have ezx2 := ex2
  have ex2 : x2.toInt = (10 : Int) + x1.toInt := by rw [ex2]; exact wk_add (show (-2147483648) ≤ (10 : Int) + x1.toInt by omega) (show (10 : Int) + x1.toInt ≤ 2147483647 by omega)
  replace hM := hM.lt ex2.symm
  refine lv_iload_n hx hb dX12_streetOf_11 rfl (lv_at hl 2 rfl) ?_
  refine lv_iadd hx hb dX12_streetOf_12 ?_
  refine lv_topi (fun x3 ex3 => ?_)
  have ezx3 := ex3
  have ex3 : x3.toInt = x2.toInt + (0 : Int) := by rw [ex3]; exact wk_add (show (-2147483648) ≤ x2.toInt + (0 : Int) by omega) (show x2.toInt + (0 : Int) ≤ 2147483647 by omega)
  replace hM := hM.lt ex3.symm
  refine tk_ialdR hC hK hw hT kM_at12 rfl (show 0 ≤ x3.toInt by first | with_reducible assumption | omega) (show x3.toInt < 296 by first | with_reducible assumption | omega) dX12_streetOf_13 (fun x4 c5 Ex4 => ?_)
  have hox4 := c5
  have c5 : gi w0 12 (10 * a1.toInt + 10).toNat = x4 := (congrArg (gi w0 12) (congrArg Int.toNat (show 10 * a1.toInt + 10 = x3.toInt by first | exact Int.le_antisymm (by omega) (by omega) | omega))).trans c5
  replace hM := hM.rd (sI_at hox4)
  have bx4 := tk_rgI rfl 10 10 13 0 9 (by decide +kernel) ⟨(a1.toInt - 0).toNat, by omega, show x3.toInt.toNat = 10 + 10 * (a1.toInt - 0).toNat by omega⟩ Ex4
  exact tk_iret hC hr hlocks hK ⟨rfl, hM.ret rfl, ⟨(show 0 ≤ x4.toInt by first | with_reducible assumption | omega), (show x4.toInt ≤ 9 by first | with_reducible assumption | omega), c5⟩⟩ hw dX12_streetOf_14
abbrev Pz_X12_streetOf_4 (ad : Nat → Nat) (cy : Nat → ClassId) (B : Int) (qr : Nat) (s1 : Int) (a1 : Int32) (w0 : va_W) : Int32 → va_W → Prop := fun r u => w0 = u ∧ Ev (fun n => m_X12_streetOf n 0 a1.toInt 1 (sI w0)) (r.toInt, sI w0) ∧ ((0 ≤ r.toInt ∧ r.toInt ≤ 9 ∧ gi u 12 (10 * a1.toInt + 11).toNat = r))
set_option maxHeartbeats 4000000 in
set_option maxRecDepth 100000 in
theorem kz_X12_streetOf_4 (l : Launch) (adK adV : Nat → Nat) (dC : Nat → ClassId) (dI : Nat → Nat → Nat) (cy : Nat → ClassId) (ad : Nat → Nat) (B : Int) (hB0 : 100000 ≤ B) (hB1 : B ≤ 1073741824) (qr : Nat) (s1 : Int)  (a1 : Int32) (ra1 : 0 ≤ a1.toInt) (ta1 : a1.toInt ≤ 12) (w0 : va_W) (sz : Nat) (hT : TW ksM ad cy B qr 13 w0)  : Met l yX12_streetOf (wu yX12_streetOf cX12_streetOf 3 (some .int)) ({ frames := 1, cells := 0, slots := 0, locals := 12 }) (va_Pc [.ref (ad 0), .int a1, .int 1] (wpreS adK adV dC dI cy sz w0)) (va_Qi (Pz_X12_streetOf_4 ad cy B qr s1 a1 w0) (fun u : va_W => wpost dC dI cy (va_A w0 sz) u) (va_A w0 sz)) 0 0 (va_A w0 sz) := by
  refine Met.ofW (cc := cX12_streetOf) (maxL := 3) (ret := (some .int)) (by decide) rfl ?_
  intro p e s m args below meth c s₁ Bk hml hv
  obtain ⟨rfl, ⟨hsz, hP, hK, hD0⟩, hE, hSR⟩ := hv
  have hx := Bk.exec
  have hb := Bk.bytes
  have hr := Bk.returns
  have hlocks := Bk.notSynchronized
  have hC : CallFix p m c cX12_streetOf 3 s _ (wu yX12_streetOf cX12_streetOf 3 (some .int)) RX12 := ⟨hx, hb, hml, findClass_of_methodNamed Bk.named, atoms_spec (ws := (wu yX12_streetOf cX12_streetOf 3 (some .int))) Bk.pre⟩
  subst hsz
  have hD := hD0.self (sz := s.heap.size)
  generalize hAe : va_A w0 s.heap.size = A at hD hE ⊢
  have hA : ∀ q : Nat, s.heap.size ≤ q → A q := fun q h => by rw [← hAe]; exact Or.inr h
  have hw : Wd dC dI A s.heap s.heap [] w0 := ⟨hP, hD, va_S.rf⟩
  have hF : FE ksM ([] : List (Nat × Nat × Nat)) w0 w0 := FE.rf
  have hl := lv_entry ([.ref (ad 0), .int a1, .int 1]) (n := 3) (Nat.le_of_ble_eq_true rfl)
  rw [lg_entry_eq]
  generalize (lg_sl ([.ref (ad 0), .int a1, .int 1]) ++ List.replicate (3 - (lg_sl ([.ref (ad 0), .int a1, .int 1])).length) Slot.unset).toArray = ls at hl ⊢
  have hl : lv_has ls 3 [(0, .ref (ad 0)), (1, .int a1), (2, .int 1)] := hl
  generalize hloc : ([] : List Loc) = locs at hw ⊢
  have hinX12 : ∀ w ∈ u_ws RX12 TX12 42, w ∈ (wu yX12_streetOf cX12_streetOf 3 (some .int)) := fun _ h => List.mem_cons_of_mem _ (up_71 h)
  have hM : TT (fun n => m_X12_streetOf n 0 a1.toInt 1 (sI w0)) (fun n => m_X12_streetOf n 0 a1.toInt 1 (sI w0)) := TT.rf
  refine lv_aload_n hx hb dX12_streetOf_0 rfl (lv_at hl 0 rfl) ?_
  refine tk_getA hC hK hw hT hinX12 kM_at0 (by decide) rfl 26 (by decide) (List.mem_cons_of_mem _ uw_7_1) rfl rfl dX12_streetOf_1 ?_
  refine lv_bipush (v := 10) hx hb dX12_streetOf_4 (by decide) ?_
  refine lv_bipush (v := 10) hx hb dX12_streetOf_6 (by decide) ?_
  refine lv_iload_n hx hb dX12_streetOf_8 rfl (lv_at hl 1 rfl) ?_
  refine lv_imul hx hb dX12_streetOf_9 ?_
  refine lv_topi (fun x1 ex1 => ?_)
  have ezx1 := ex1
  have ex1 : x1.toInt = (10 : Int) * a1.toInt := by rw [ex1]; exact wk_mul (show (-2147483648) ≤ (10 : Int) * a1.toInt by omega) (show (10 : Int) * a1.toInt ≤ 2147483647 by omega)
  replace hM := hM.lt ex1.symm
  refine lv_iadd hx hb dX12_streetOf_10 ?_
  refine lv_topi (fun x2 ex2 => ?_)
  have ezx2 := ex2
  have ex2 : x2.toInt = (10 : Int) + x1.toInt := by rw [ex2]; exact wk_add (show (-2147483648) ≤ (10 : Int) + x1.toInt by omega) (show (10 : Int) + x1.toInt ≤ 2147483647 by omega)
  replace hM := hM.lt ex2.symm
  refine lv_iload_n hx hb dX12_streetOf_11 rfl (lv_at hl 2 rfl) ?_
  refine lv_iadd hx hb dX12_streetOf_12 ?_
  refine lv_topi (fun x3 ex3 => ?_)
  have ezx3 := ex3
  have ex3 : x3.toInt = x2.toInt + (1 : Int) := by rw [ex3]; exact wk_add (show (-2147483648) ≤ x2.toInt + (1 : Int) by omega) (show x2.toInt + (1 : Int) ≤ 2147483647 by omega)
  replace hM := hM.lt ex3.symm
  refine tk_ialdR hC hK hw hT kM_at12 rfl (show 0 ≤ x3.toInt by first | with_reducible assumption | omega) (show x3.toInt < 296 by first | with_reducible assumption | omega) dX12_streetOf_13 (fun x4 c5 Ex4 => ?_)
  have hox4 := c5
  have c5 : gi w0 12 (10 * a1.toInt + 11).toNat = x4 := (congrArg (gi w0 12) (congrArg Int.toNat (show 10 * a1.toInt + 11 = x3.toInt by first | exact Int.le_antisymm (by omega) (by omega) | omega))).trans c5
  replace hM := hM.rd (sI_at hox4)
  have bx4 := tk_rgI rfl 11 10 13 0 9 (by decide +kernel) ⟨(a1.toInt - 0).toNat, by omega, show x3.toInt.toNat = 11 + 10 * (a1.toInt - 0).toNat by omega⟩ Ex4
  exact tk_iret hC hr hlocks hK ⟨rfl, hM.ret rfl, ⟨(show 0 ≤ x4.toInt by first | with_reducible assumption | omega), (show x4.toInt ≤ 9 by first | with_reducible assumption | omega), c5⟩⟩ hw dX12_streetOf_14
abbrev Pz_X12_isAt_1 (ad : Nat → Nat) (cy : Nat → ClassId) (B : Int) (qr : Nat) (s1 : Int) (a1 : Int32) (a2 : Int32) (w0 : va_W) : Int32 → va_W → Prop := fun r u => w0 = u ∧ Ev (fun n => m_X12_isAt n 0 a1.toInt a2.toInt (sI w0)) (r.toInt, sI w0) ∧ ((r = 0 ∧ (¬ mAt w0 a1.toInt a2.toInt)) ∨ (r = 1 ∧ gi u 12 (10 * a1.toInt + 10).toNat = a2 ∧ (mAt w0 a1.toInt a2.toInt)) ∨ (r = 1 ∧ gi u 12 (10 * a1.toInt + 11).toNat = a2 ∧ (mAt w0 a1.toInt a2.toInt)))
set_option maxHeartbeats 4000000 in
set_option maxRecDepth 100000 in
theorem kz_X12_isAt_1 (l : Launch) (adK adV : Nat → Nat) (dC : Nat → ClassId) (dI : Nat → Nat → Nat) (cy : Nat → ClassId) (ad : Nat → Nat) (B : Int) (hB0 : 100000 ≤ B) (hB1 : B ≤ 1073741824) (qr : Nat) (s1 : Int)  (a1 : Int32) (ra1 : 0 ≤ a1.toInt) (ta1 : a1.toInt ≤ 12) (a2 : Int32) (ra2 : 0 ≤ a2.toInt) (ta2 : a2.toInt ≤ 9) (w0 : va_W) (sz : Nat) (hT : TW ksM ad cy B qr 13 w0)  : Met l yX12_isAt (wu yX12_isAt cX12_isAt 3 (some .boolean)) ({ frames := 2, cells := 0, slots := 0, locals := 34 }) (va_Pc [.ref (ad 0), .int a1, .int a2] (wpreS adK adV dC dI cy sz w0)) (va_Qi (Pz_X12_isAt_1 ad cy B qr s1 a1 a2 w0) (fun u : va_W => wpost dC dI cy (va_A w0 sz) u) (va_A w0 sz)) 0 0 (va_A w0 sz) := by
  refine Met.ofW (cc := cX12_isAt) (maxL := 3) (ret := (some .boolean)) (by decide) rfl ?_
  intro p e s m args below meth c s₁ Bk hml hv
  obtain ⟨rfl, ⟨hsz, hP, hK, hD0⟩, hE, hSR⟩ := hv
  have hx := Bk.exec
  have hb := Bk.bytes
  have hr := Bk.returns
  have hlocks := Bk.notSynchronized
  have hC : CallFix p m c cX12_isAt 3 s _ (wu yX12_isAt cX12_isAt 3 (some .boolean)) RX12 := ⟨hx, hb, hml, findClass_of_methodNamed Bk.named, atoms_spec (ws := (wu yX12_isAt cX12_isAt 3 (some .boolean))) Bk.pre⟩
  subst hsz
  have hD := hD0.self (sz := s.heap.size)
  generalize hAe : va_A w0 s.heap.size = A at hD hE ⊢
  have hA : ∀ q : Nat, s.heap.size ≤ q → A q := fun q h => by rw [← hAe]; exact Or.inr h
  have hw : Wd dC dI A s.heap s.heap [] w0 := ⟨hP, hD, va_S.rf⟩
  have hF : FE ksM ([] : List (Nat × Nat × Nat)) w0 w0 := FE.rf
  have hl := lv_entry ([.ref (ad 0), .int a1, .int a2]) (n := 3) (Nat.le_of_ble_eq_true rfl)
  rw [lg_entry_eq]
  generalize (lg_sl ([.ref (ad 0), .int a1, .int a2]) ++ List.replicate (3 - (lg_sl ([.ref (ad 0), .int a1, .int a2])).length) Slot.unset).toArray = ls at hl ⊢
  have hl : lv_has ls 3 [(0, .ref (ad 0)), (1, .int a1), (2, .int a2)] := hl
  generalize hloc : ([] : List Loc) = locs at hw ⊢
  have hM : TT (fun n => m_X12_isAt n 0 a1.toInt a2.toInt (sI w0)) (fun n => m_X12_isAt n 0 a1.toInt a2.toInt (sI w0)) := TT.rf
  refine lv_aload_n hx hb dX12_isAt_0 rfl (lv_at hl 0 rfl) ?_
  refine lv_iload_n hx hb dX12_isAt_1 rfl (lv_at hl 1 rfl) ?_
  refine lv_iconst (v := 0) hx hb dX12_isAt_2 (by decide) ?_
  refine tk_Vi hC hK hw hT hA hE hSR kM_at0 (by decide) rfl (kz_X12_streetOf_3 l adK adV dC dI cy ad B hB0 (Int.le_trans hB1 (by decide)) qr s1   a1 (show 0 ≤ a1.toInt from ra1) (show a1.toInt ≤ 12 from ta1) w0 s.heap.size hT ) (cwV 2 hC.2.2.2.2 uV_RX12_300 rfl rfl rfl (by decide +kernel) ⟨Nat.le_of_ble_eq_true rfl, Nat.le_of_ble_eq_true rfl⟩) rfl hl.1 rfl (Nat.le_of_ble_eq_true rfl) dX12_isAt_3 (fun r1 w3 H locs hp2 hw => ?_)
  obtain ⟨rfl, hv9, hg8⟩ := hp2
  obtain ⟨g5, g6, c7⟩ := hg8
  replace hM := hM.call hv9 rfl
  refine lv_iload_n hx hb dX12_isAt_6 rfl (lv_at hl 2 rfl) ?_
  refine lv_icmp_eq (tgt := 20) hx hb dX12_isAt_7 (by decide) (fun c10 => ?_) (fun c10 => ?_)
  · have c10 : r1.toInt = a2.toInt := wk_eq.mp c10
    replace hM := hM.pos c10
    refine lv_iconst (v := 1) hx hb dX12_isAt_20 (by decide) ?_
    refine lv_goto (tgt := 25) hx hb dX12_isAt_21 (by decide) ?_
    exact tk_zret hC hr rfl hlocks hK ⟨rfl, hM.ret (by decide), (Or.inr (Or.inl ⟨rfl, (c7.trans (wk_eq.mpr (show r1.toInt = a2.toInt by first | exact Int.le_antisymm (by omega) (by omega) | omega))), (by unfold mAt; simp only [c7]; omega)⟩))⟩ hw dX12_isAt_25
  · have c10 : ¬ r1.toInt = a2.toInt := wk_eqF c10
    replace hM := hM.neg c10
    refine lv_aload_n hx hb dX12_isAt_10 rfl (lv_at hl 0 rfl) ?_
    refine lv_iload_n hx hb dX12_isAt_11 rfl (lv_at hl 1 rfl) ?_
    refine lv_iconst (v := 1) hx hb dX12_isAt_12 (by decide) ?_
    refine tk_Vi hC hK hw hT hA hE hSR kM_at0 (by decide) rfl (kz_X12_streetOf_4 l adK adV dC dI cy ad B hB0 (Int.le_trans hB1 (by decide)) qr s1   a1 (show 0 ≤ a1.toInt from ra1) (show a1.toInt ≤ 12 from ta1) w0 H.size hT ) (cwV 2 hC.2.2.2.2 uV_RX12_300 rfl rfl rfl (by decide +kernel) ⟨Nat.le_of_ble_eq_true rfl, Nat.le_of_ble_eq_true rfl⟩) rfl hl.1 rfl (Nat.le_of_ble_eq_true rfl) dX12_isAt_13 (fun r11 w13 H locs hp12 hw => ?_)
    obtain ⟨rfl, hv19, hg18⟩ := hp12
    obtain ⟨g15, g16, c17⟩ := hg18
    replace hM := hM.call hv19 rfl
    refine lv_iload_n hx hb dX12_isAt_16 rfl (lv_at hl 2 rfl) ?_
    refine lv_icmp_ne (tgt := 24) hx hb dX12_isAt_17 (by decide) (fun c20 => ?_) (fun c20 => ?_)
    · have c20 : ¬ r11.toInt = a2.toInt := wk_eqF c20
      replace hM := hM.pos c20
      refine lv_iconst (v := 0) hx hb dX12_isAt_24 (by decide) ?_
      exact tk_zret hC hr rfl hlocks hK ⟨rfl, hM.ret (by decide), (Or.inl ⟨rfl, (by unfold mAt; simp only [c7, c17]; omega)⟩)⟩ hw dX12_isAt_25
    · have c20 : r11.toInt = a2.toInt := wk_eq.mp c20
      replace hM := hM.neg (fun q => q c20)
      refine lv_iconst (v := 1) hx hb dX12_isAt_20 (by decide) ?_
      refine lv_goto (tgt := 25) hx hb dX12_isAt_21 (by decide) ?_
      exact tk_zret hC hr rfl hlocks hK ⟨rfl, hM.ret (by decide), (Or.inr (Or.inr ⟨rfl, (c17.trans (wk_eq.mpr (show r11.toInt = a2.toInt by first | exact Int.le_antisymm (by omega) (by omega) | omega))), (by unfold mAt; simp only [c7, c17]; omega)⟩))⟩ hw dX12_isAt_25
abbrev Pz_X12_streetOf_5 (ad : Nat → Nat) (cy : Nat → ClassId) (B : Int) (qr : Nat) (s1 : Int) (a1 : Int32) (a2 : Int32) (w0 : va_W) : Int32 → va_W → Prop := fun r u => w0 = u ∧ Ev (fun n => m_X12_streetOf n 0 a1.toInt a2.toInt (sI w0)) (r.toInt, sI w0) ∧ ((0 ≤ r.toInt ∧ r.toInt ≤ 9 ∧ gi u 12 (10 * a1.toInt + 1 * a2.toInt + 10).toNat = r))
set_option maxHeartbeats 4000000 in
set_option maxRecDepth 100000 in
theorem kz_X12_streetOf_5 (l : Launch) (adK adV : Nat → Nat) (dC : Nat → ClassId) (dI : Nat → Nat → Nat) (cy : Nat → ClassId) (ad : Nat → Nat) (B : Int) (hB0 : 100000 ≤ B) (hB1 : B ≤ 1073741824) (qr : Nat) (s1 : Int)  (a1 : Int32) (ra1 : 0 ≤ a1.toInt) (ta1 : a1.toInt ≤ 12) (a2 : Int32) (ra2 : 3 ≤ a2.toInt) (ta2 : a2.toInt ≤ 9) (w0 : va_W) (sz : Nat) (hT : TW ksM ad cy B qr 13 w0)  : Met l yX12_streetOf (wu yX12_streetOf cX12_streetOf 3 (some .int)) ({ frames := 1, cells := 0, slots := 0, locals := 12 }) (va_Pc [.ref (ad 0), .int a1, .int a2] (wpreS adK adV dC dI cy sz w0)) (va_Qi (Pz_X12_streetOf_5 ad cy B qr s1 a1 a2 w0) (fun u : va_W => wpost dC dI cy (va_A w0 sz) u) (va_A w0 sz)) 0 0 (va_A w0 sz) := by
  refine Met.ofW (cc := cX12_streetOf) (maxL := 3) (ret := (some .int)) (by decide) rfl ?_
  intro p e s m args below meth c s₁ Bk hml hv
  obtain ⟨rfl, ⟨hsz, hP, hK, hD0⟩, hE, hSR⟩ := hv
  have hx := Bk.exec
  have hb := Bk.bytes
  have hr := Bk.returns
  have hlocks := Bk.notSynchronized
  have hC : CallFix p m c cX12_streetOf 3 s _ (wu yX12_streetOf cX12_streetOf 3 (some .int)) RX12 := ⟨hx, hb, hml, findClass_of_methodNamed Bk.named, atoms_spec (ws := (wu yX12_streetOf cX12_streetOf 3 (some .int))) Bk.pre⟩
  subst hsz
  have hD := hD0.self (sz := s.heap.size)
  generalize hAe : va_A w0 s.heap.size = A at hD hE ⊢
  have hA : ∀ q : Nat, s.heap.size ≤ q → A q := fun q h => by rw [← hAe]; exact Or.inr h
  have hw : Wd dC dI A s.heap s.heap [] w0 := ⟨hP, hD, va_S.rf⟩
  have hF : FE ksM ([] : List (Nat × Nat × Nat)) w0 w0 := FE.rf
  have hl := lv_entry ([.ref (ad 0), .int a1, .int a2]) (n := 3) (Nat.le_of_ble_eq_true rfl)
  rw [lg_entry_eq]
  generalize (lg_sl ([.ref (ad 0), .int a1, .int a2]) ++ List.replicate (3 - (lg_sl ([.ref (ad 0), .int a1, .int a2])).length) Slot.unset).toArray = ls at hl ⊢
  have hl : lv_has ls 3 [(0, .ref (ad 0)), (1, .int a1), (2, .int a2)] := hl
  generalize hloc : ([] : List Loc) = locs at hw ⊢
  have hinX12 : ∀ w ∈ u_ws RX12 TX12 42, w ∈ (wu yX12_streetOf cX12_streetOf 3 (some .int)) := fun _ h => List.mem_cons_of_mem _ (up_71 h)
  have hM : TT (fun n => m_X12_streetOf n 0 a1.toInt a2.toInt (sI w0)) (fun n => m_X12_streetOf n 0 a1.toInt a2.toInt (sI w0)) := TT.rf
  refine lv_aload_n hx hb dX12_streetOf_0 rfl (lv_at hl 0 rfl) ?_
  refine tk_getA hC hK hw hT hinX12 kM_at0 (by decide) rfl 26 (by decide) (List.mem_cons_of_mem _ uw_7_1) rfl rfl dX12_streetOf_1 ?_
  refine lv_bipush (v := 10) hx hb dX12_streetOf_4 (by decide) ?_
  refine lv_bipush (v := 10) hx hb dX12_streetOf_6 (by decide) ?_
  refine lv_iload_n hx hb dX12_streetOf_8 rfl (lv_at hl 1 rfl) ?_
  refine lv_imul hx hb dX12_streetOf_9 ?_
  refine lv_topi (fun x1 ex1 => ?_)
  have ezx1 := ex1
  have ex1 : x1.toInt = (10 : Int) * a1.toInt := by rw [ex1]; exact wk_mul (show (-2147483648) ≤ (10 : Int) * a1.toInt by omega) (show (10 : Int) * a1.toInt ≤ 2147483647 by omega)
  replace hM := hM.lt ex1.symm
  refine lv_iadd hx hb dX12_streetOf_10 ?_
  refine lv_topi (fun x2 ex2 => ?_)
  have ezx2 := ex2
  have ex2 : x2.toInt = (10 : Int) + x1.toInt := by rw [ex2]; exact wk_add (show (-2147483648) ≤ (10 : Int) + x1.toInt by omega) (show (10 : Int) + x1.toInt ≤ 2147483647 by omega)
  replace hM := hM.lt ex2.symm
  refine lv_iload_n hx hb dX12_streetOf_11 rfl (lv_at hl 2 rfl) ?_
  refine lv_iadd hx hb dX12_streetOf_12 ?_
  refine lv_topi (fun x3 ex3 => ?_)
  have ezx3 := ex3
  have ex3 : x3.toInt = x2.toInt + a2.toInt := by rw [ex3]; exact wk_add (show (-2147483648) ≤ x2.toInt + a2.toInt by omega) (show x2.toInt + a2.toInt ≤ 2147483647 by omega)
  replace hM := hM.lt ex3.symm
  refine tk_ialdR hC hK hw hT kM_at12 rfl (show 0 ≤ x3.toInt by first | with_reducible assumption | omega) (show x3.toInt < 296 by first | with_reducible assumption | omega) dX12_streetOf_13 (fun x4 c5 Ex4 => ?_)
  have hox4 := c5
  have c5 : gi w0 12 (10 * a1.toInt + 1 * a2.toInt + 10).toNat = x4 := (congrArg (gi w0 12) (congrArg Int.toNat (show 10 * a1.toInt + 1 * a2.toInt + 10 = x3.toInt by first | exact Int.le_antisymm (by omega) (by omega) | omega))).trans c5
  replace hM := hM.rd (sI_at hox4)
  have bx4 := tk_rgI rfl 13 1 127 0 9 (by decide +kernel) ⟨(x3.toInt - 13).toNat, by omega, show x3.toInt.toNat = 13 + 1 * (x3.toInt - 13).toNat by omega⟩ Ex4
  exact tk_iret hC hr hlocks hK ⟨rfl, hM.ret rfl, ⟨(show 0 ≤ x4.toInt by first | with_reducible assumption | omega), (show x4.toInt ≤ 9 by first | with_reducible assumption | omega), c5⟩⟩ hw dX12_streetOf_14
abbrev Pz_X12_isOf_1 (ad : Nat → Nat) (cy : Nat → ClassId) (B : Int) (qr : Nat) (s1 : Int) (a0 : Int32) (w0 : va_W) : Int32 → va_W → Prop := fun r u => w0 = u ∧ Ev (fun n => m_X12_isOf n a0.toInt 1 (sI w0)) (r.toInt, sI w0) ∧ ((r = 0 ∧ (¬ mOf a0 (1 : Int32))) ∨ (r = 1 ∧ (mOf a0 (1 : Int32))))
set_option maxHeartbeats 4000000 in
set_option maxRecDepth 100000 in
theorem kz_X12_isOf_1 (l : Launch) (adK adV : Nat → Nat) (dC : Nat → ClassId) (dI : Nat → Nat → Nat) (cy : Nat → ClassId) (ad : Nat → Nat) (B : Int) (hB0 : 100000 ≤ B) (hB1 : B ≤ 1073741824) (qr : Nat) (s1 : Int)  (a0 : Int32) (ra0 : 0 ≤ a0.toInt) (ta0 : a0.toInt ≤ 9) (w0 : va_W) (sz : Nat) (hT : TW ksM ad cy B qr 13 w0)  : Met l yX12_isOf (wu yX12_isOf cX12_isOf 2 (some .boolean)) ({ frames := 1, cells := 0, slots := 0, locals := 12 }) (va_Pc [.int a0, .int 1] (wpreS adK adV dC dI cy sz w0)) (va_Qi (Pz_X12_isOf_1 ad cy B qr s1 a0 w0) (fun u : va_W => wpost dC dI cy (va_A w0 sz) u) (va_A w0 sz)) 0 0 (va_A w0 sz) := by
  refine Met.ofW (cc := cX12_isOf) (maxL := 2) (ret := (some .boolean)) (by decide) rfl ?_
  intro p e s m args below meth c s₁ Bk hml hv
  obtain ⟨rfl, ⟨hsz, hP, hK, hD0⟩, hE, hSR⟩ := hv
  have hx := Bk.exec
  have hb := Bk.bytes
  have hr := Bk.returns
  have hlocks := Bk.notSynchronized
  have hC : CallFix p m c cX12_isOf 2 s _ (wu yX12_isOf cX12_isOf 2 (some .boolean)) RX12 := ⟨hx, hb, hml, findClass_of_methodNamed Bk.named, atoms_spec (ws := (wu yX12_isOf cX12_isOf 2 (some .boolean))) Bk.pre⟩
  subst hsz
  have hD := hD0.self (sz := s.heap.size)
  generalize hAe : va_A w0 s.heap.size = A at hD hE ⊢
  have hA : ∀ q : Nat, s.heap.size ≤ q → A q := fun q h => by rw [← hAe]; exact Or.inr h
  have hw : Wd dC dI A s.heap s.heap [] w0 := ⟨hP, hD, va_S.rf⟩
  have hF : FE ksM ([] : List (Nat × Nat × Nat)) w0 w0 := FE.rf
  have hl := lv_entry ([.int a0, .int 1]) (n := 2) (Nat.le_of_ble_eq_true rfl)
  rw [lg_entry_eq]
  generalize (lg_sl ([.int a0, .int 1]) ++ List.replicate (2 - (lg_sl ([.int a0, .int 1])).length) Slot.unset).toArray = ls at hl ⊢
  have hl : lv_has ls 2 [(0, .int a0), (1, .int 1)] := hl
  generalize hloc : ([] : List Loc) = locs at hw ⊢
  have hM : TT (fun n => m_X12_isOf n a0.toInt 1 (sI w0)) (fun n => m_X12_isOf n a0.toInt 1 (sI w0)) := TT.rf
  refine lv_iload_n hx hb dX12_isOf_0 rfl (lv_at hl 0 rfl) ?_
  refine lv_iload_n hx hb dX12_isOf_1 rfl (lv_at hl 1 rfl) ?_
  refine lv_ishr hx hb dX12_isOf_2 ?_
  refine lv_topi (fun x1 ex1 => ?_)
  have ezx1 := ex1
  have bx1 : 0 ≤ x1.toInt ∧ x1.toInt ≤ a0.toInt := by rw [ex1]; exact wk_shr (by omega)
  replace hM := hM.lt (o32_e (f := fun x y => x >>> (y &&& 31)) ezx1 rfl (by decide))
  refine lv_iconst (v := 1) hx hb dX12_isOf_3 (by decide) ?_
  refine lv_iand hx hb dX12_isOf_4 ?_
  refine lv_topi (fun x2 ex2 => ?_)
  have ezx2 := ex2
  have bx2 : 0 ≤ x2.toInt ∧ x2.toInt ≤ (1 : Int) := by rw [ex2]; exact wk_and (by decide)
  replace hM := hM.lt (o32_e (f := fun x y => x &&& y) ezx2 rfl (by decide))
  refine lv_iconst (v := 1) hx hb dX12_isOf_5 (by decide) ?_
  refine lv_icmp_ne (tgt := 13) hx hb dX12_isOf_6 (by decide) (fun c3 => ?_) (fun c3 => ?_)
  · have c3 : ¬ x2.toInt = (1 : Int) := wk_eqF c3
    replace hM := hM.pos c3
    refine lv_iconst (v := 0) hx hb dX12_isOf_13 (by decide) ?_
    exact tk_zret hC hr rfl hlocks hK ⟨rfl, hM.ret (by decide), (Or.inl ⟨rfl, (by unfold mOf; rw [← ex1, ← ex2]; omega)⟩)⟩ hw dX12_isOf_14
  · have c3 : x2.toInt = (1 : Int) := wk_eq.mp c3
    replace hM := hM.neg (fun q => q c3)
    refine lv_iconst (v := 1) hx hb dX12_isOf_9 (by decide) ?_
    refine lv_goto (tgt := 14) hx hb dX12_isOf_10 (by decide) ?_
    exact tk_zret hC hr rfl hlocks hK ⟨rfl, hM.ret (by decide), (Or.inr ⟨rfl, (by unfold mOf; rw [← ex1, ← ex2]; omega)⟩)⟩ hw dX12_isOf_14
abbrev Pz_X12_isOf_2 (ad : Nat → Nat) (cy : Nat → ClassId) (B : Int) (qr : Nat) (s1 : Int) (a0 : Int32) (w0 : va_W) : Int32 → va_W → Prop := fun r u => w0 = u ∧ Ev (fun n => m_X12_isOf n a0.toInt 0 (sI w0)) (r.toInt, sI w0) ∧ ((r = 0 ∧ (¬ mOf a0 (0 : Int32))) ∨ (r = 1 ∧ (mOf a0 (0 : Int32))))
set_option maxHeartbeats 4000000 in
set_option maxRecDepth 100000 in
theorem kz_X12_isOf_2 (l : Launch) (adK adV : Nat → Nat) (dC : Nat → ClassId) (dI : Nat → Nat → Nat) (cy : Nat → ClassId) (ad : Nat → Nat) (B : Int) (hB0 : 100000 ≤ B) (hB1 : B ≤ 1073741824) (qr : Nat) (s1 : Int)  (a0 : Int32) (ra0 : 0 ≤ a0.toInt) (ta0 : a0.toInt ≤ 9) (w0 : va_W) (sz : Nat) (hT : TW ksM ad cy B qr 13 w0)  : Met l yX12_isOf (wu yX12_isOf cX12_isOf 2 (some .boolean)) ({ frames := 1, cells := 0, slots := 0, locals := 12 }) (va_Pc [.int a0, .int 0] (wpreS adK adV dC dI cy sz w0)) (va_Qi (Pz_X12_isOf_2 ad cy B qr s1 a0 w0) (fun u : va_W => wpost dC dI cy (va_A w0 sz) u) (va_A w0 sz)) 0 0 (va_A w0 sz) := by
  refine Met.ofW (cc := cX12_isOf) (maxL := 2) (ret := (some .boolean)) (by decide) rfl ?_
  intro p e s m args below meth c s₁ Bk hml hv
  obtain ⟨rfl, ⟨hsz, hP, hK, hD0⟩, hE, hSR⟩ := hv
  have hx := Bk.exec
  have hb := Bk.bytes
  have hr := Bk.returns
  have hlocks := Bk.notSynchronized
  have hC : CallFix p m c cX12_isOf 2 s _ (wu yX12_isOf cX12_isOf 2 (some .boolean)) RX12 := ⟨hx, hb, hml, findClass_of_methodNamed Bk.named, atoms_spec (ws := (wu yX12_isOf cX12_isOf 2 (some .boolean))) Bk.pre⟩
  subst hsz
  have hD := hD0.self (sz := s.heap.size)
  generalize hAe : va_A w0 s.heap.size = A at hD hE ⊢
  have hA : ∀ q : Nat, s.heap.size ≤ q → A q := fun q h => by rw [← hAe]; exact Or.inr h
  have hw : Wd dC dI A s.heap s.heap [] w0 := ⟨hP, hD, va_S.rf⟩
  have hF : FE ksM ([] : List (Nat × Nat × Nat)) w0 w0 := FE.rf
  have hl := lv_entry ([.int a0, .int 0]) (n := 2) (Nat.le_of_ble_eq_true rfl)
  rw [lg_entry_eq]
  generalize (lg_sl ([.int a0, .int 0]) ++ List.replicate (2 - (lg_sl ([.int a0, .int 0])).length) Slot.unset).toArray = ls at hl ⊢
  have hl : lv_has ls 2 [(0, .int a0), (1, .int 0)] := hl
  generalize hloc : ([] : List Loc) = locs at hw ⊢
  have hM : TT (fun n => m_X12_isOf n a0.toInt 0 (sI w0)) (fun n => m_X12_isOf n a0.toInt 0 (sI w0)) := TT.rf
  refine lv_iload_n hx hb dX12_isOf_0 rfl (lv_at hl 0 rfl) ?_
  refine lv_iload_n hx hb dX12_isOf_1 rfl (lv_at hl 1 rfl) ?_
  refine lv_ishr hx hb dX12_isOf_2 ?_
  refine lv_topi (fun x1 ex1 => ?_)
  have ezx1 := ex1
  have bx1 : 0 ≤ x1.toInt ∧ x1.toInt ≤ a0.toInt := by rw [ex1]; exact wk_shr (by omega)
  replace hM := hM.lt (o32_e (f := fun x y => x >>> (y &&& 31)) ezx1 rfl (by decide))
  refine lv_iconst (v := 1) hx hb dX12_isOf_3 (by decide) ?_
  refine lv_iand hx hb dX12_isOf_4 ?_
  refine lv_topi (fun x2 ex2 => ?_)
  have ezx2 := ex2
  have bx2 : 0 ≤ x2.toInt ∧ x2.toInt ≤ (1 : Int) := by rw [ex2]; exact wk_and (by decide)
  replace hM := hM.lt (o32_e (f := fun x y => x &&& y) ezx2 rfl (by decide))
  refine lv_iconst (v := 1) hx hb dX12_isOf_5 (by decide) ?_
  refine lv_icmp_ne (tgt := 13) hx hb dX12_isOf_6 (by decide) (fun c3 => ?_) (fun c3 => ?_)
  · have c3 : ¬ x2.toInt = (1 : Int) := wk_eqF c3
    replace hM := hM.pos c3
    refine lv_iconst (v := 0) hx hb dX12_isOf_13 (by decide) ?_
    exact tk_zret hC hr rfl hlocks hK ⟨rfl, hM.ret (by decide), (Or.inl ⟨rfl, (by unfold mOf; rw [← ex1, ← ex2]; omega)⟩)⟩ hw dX12_isOf_14
  · have c3 : x2.toInt = (1 : Int) := wk_eq.mp c3
    replace hM := hM.neg (fun q => q c3)
    refine lv_iconst (v := 1) hx hb dX12_isOf_9 (by decide) ?_
    refine lv_goto (tgt := 14) hx hb dX12_isOf_10 (by decide) ?_
    exact tk_zret hC hr rfl hlocks hK ⟨rfl, hM.ret (by decide), (Or.inr ⟨rfl, (by unfold mOf; rw [← ex1, ← ex2]; omega)⟩)⟩ hw dX12_isOf_14
abbrev Pz_X12_hasSign_1 (ad : Nat → Nat) (cy : Nat → ClassId) (B : Int) (qr : Nat) (s1 : Int) (a1 : Int32) (a2 : Int32) (a3 : Int32) (w0 : va_W) : Int32 → va_W → Prop := fun r u => w0 = u ∧ Ev (fun n => m_X12_hasSign n 0 a1.toInt a2.toInt a3.toInt (sI w0)) (r.toInt, sI w0) ∧ ((r = 0 ∧ (¬ mSign w0 a1 a2.toInt a3.toInt)) ∨ (r = 0 ∧ gi u 12 (10 * a2.toInt + 10).toNat = a3 ∧ (¬ mSign w0 a1 a2.toInt a3.toInt)) ∨ (r = 1 ∧ (mSign w0 a1 a2.toInt a3.toInt)) ∨ (r = 1 ∧ gi u 12 (10 * a2.toInt + 10).toNat = a3 ∧ (mSign w0 a1 a2.toInt a3.toInt)))
set_option maxHeartbeats 4000000 in
set_option maxRecDepth 100000 in
theorem kz_X12_hasSign_1 (l : Launch) (adK adV : Nat → Nat) (dC : Nat → ClassId) (dI : Nat → Nat → Nat) (cy : Nat → ClassId) (ad : Nat → Nat) (B : Int) (hB0 : 100000 ≤ B) (hB1 : B ≤ 1073741824) (qr : Nat) (s1 : Int)  (a1 : Int32) (ra1 : 0 ≤ a1.toInt) (ta1 : a1.toInt ≤ 9) (a2 : Int32) (ra2 : 0 ≤ a2.toInt) (ta2 : a2.toInt ≤ 12) (a3 : Int32) (ra3 : 0 ≤ a3.toInt) (ta3 : a3.toInt ≤ 9) (w0 : va_W) (sz : Nat) (hT : TW ksM ad cy B qr 13 w0)  : Met l yX12_hasSign (wu yX12_hasSign cX12_hasSign 4 (some .boolean)) ({ frames := 2, cells := 0, slots := 0, locals := 34 }) (va_Pc [.ref (ad 0), .int a1, .int a2, .int a3] (wpreS adK adV dC dI cy sz w0)) (va_Qi (Pz_X12_hasSign_1 ad cy B qr s1 a1 a2 a3 w0) (fun u : va_W => wpost dC dI cy (va_A w0 sz) u) (va_A w0 sz)) 0 0 (va_A w0 sz) := by
  refine Met.ofW (cc := cX12_hasSign) (maxL := 4) (ret := (some .boolean)) (by decide) rfl ?_
  intro p e s m args below meth c s₁ Bk hml hv
  obtain ⟨rfl, ⟨hsz, hP, hK, hD0⟩, hE, hSR⟩ := hv
  have hx := Bk.exec
  have hb := Bk.bytes
  have hr := Bk.returns
  have hlocks := Bk.notSynchronized
  have hC : CallFix p m c cX12_hasSign 4 s _ (wu yX12_hasSign cX12_hasSign 4 (some .boolean)) RX12 := ⟨hx, hb, hml, findClass_of_methodNamed Bk.named, atoms_spec (ws := (wu yX12_hasSign cX12_hasSign 4 (some .boolean))) Bk.pre⟩
  subst hsz
  have hD := hD0.self (sz := s.heap.size)
  generalize hAe : va_A w0 s.heap.size = A at hD hE ⊢
  have hA : ∀ q : Nat, s.heap.size ≤ q → A q := fun q h => by rw [← hAe]; exact Or.inr h
  have hw : Wd dC dI A s.heap s.heap [] w0 := ⟨hP, hD, va_S.rf⟩
  have hF : FE ksM ([] : List (Nat × Nat × Nat)) w0 w0 := FE.rf
  have hl := lv_entry ([.ref (ad 0), .int a1, .int a2, .int a3]) (n := 4) (Nat.le_of_ble_eq_true rfl)
  rw [lg_entry_eq]
  generalize (lg_sl ([.ref (ad 0), .int a1, .int a2, .int a3]) ++ List.replicate (4 - (lg_sl ([.ref (ad 0), .int a1, .int a2, .int a3])).length) Slot.unset).toArray = ls at hl ⊢
  have hl : lv_has ls 4 [(0, .ref (ad 0)), (1, .int a1), (2, .int a2), (3, .int a3)] := hl
  generalize hloc : ([] : List Loc) = locs at hw ⊢
  have hM : TT (fun n => m_X12_hasSign n 0 a1.toInt a2.toInt a3.toInt (sI w0)) (fun n => m_X12_hasSign n 0 a1.toInt a2.toInt a3.toInt (sI w0)) := TT.rf
  refine lv_iload_n hx hb dX12_hasSign_0 rfl (lv_at hl 1 rfl) ?_
  refine lv_aload_n hx hb dX12_hasSign_1 rfl (lv_at hl 0 rfl) ?_
  refine lv_iload_n hx hb dX12_hasSign_2 rfl (lv_at hl 2 rfl) ?_
  refine lv_iconst (v := 0) hx hb dX12_hasSign_3 (by decide) ?_
  refine tk_Vi hC hK hw hT hA hE hSR kM_at0 (by decide) rfl (kz_X12_streetOf_3 l adK adV dC dI cy ad B hB0 (Int.le_trans hB1 (by decide)) qr s1   a2 (show 0 ≤ a2.toInt from ra2) (show a2.toInt ≤ 12 from ta2) w0 s.heap.size hT ) (cwV 2 hC.2.2.2.2 uV_RX12_300 rfl rfl rfl (by decide +kernel) ⟨Nat.le_of_ble_eq_true rfl, Nat.le_of_ble_eq_true rfl⟩) rfl hl.1 rfl (Nat.le_of_ble_eq_true rfl) dX12_hasSign_4 (fun r1 w3 H locs hp2 hw => ?_)
  obtain ⟨rfl, hv9, hg8⟩ := hp2
  obtain ⟨g5, g6, c7⟩ := hg8
  replace hM := hM.call hv9 rfl
  refine lv_iload_n hx hb dX12_hasSign_7 rfl (lv_at hl 3 rfl) ?_
  refine lv_icmp_ne (tgt := 15) hx hb dX12_hasSign_8 (by decide) (fun c10 => ?_) (fun c10 => ?_)
  · have c10 : ¬ r1.toInt = a3.toInt := wk_eqF c10
    replace hM := hM.pos c10
    refine lv_iconst (v := 1) hx hb dX12_hasSign_15 (by decide) ?_
    refine tk_Si hC hK hw hT hA hE hSR (kz_X12_isOf_1 l adK adV dC dI cy ad B hB0 (Int.le_trans hB1 (by decide)) qr s1   a1 (show 0 ≤ a1.toInt from ra1) (show a1.toInt ≤ 9 from ta1) w0 H.size hT ) (va_cwS 2 hC.2.2.2.2 uS_RX12_304 rfl rfl rfl (by decide +kernel) ⟨Nat.le_of_ble_eq_true rfl, Nat.le_of_ble_eq_true rfl⟩) rfl hl.1 rfl (Nat.le_of_ble_eq_true rfl) dX12_hasSign_16 (fun r11 w13 H locs hp12 hw => ?_)
    obtain ⟨rfl, hv18, hg17⟩ := hp12
    rcases hg17 with ⟨rfl, hq15⟩ | ⟨rfl, hq16⟩
    · replace hM := hM.call (r' := 0) hv18 (by decide)
      exact tk_zret hC hr rfl hlocks hK ⟨rfl, hM.ret (by decide), (Or.inl ⟨rfl, (by unfold mSign; simp only [c7]; first | exact Or.inl ⟨by omega, by assumption⟩ | exact Or.inr ⟨by omega, by assumption⟩ | (rintro (⟨q1, q2⟩ | ⟨q1, q2⟩) <;> first | omega | contradiction))⟩)⟩ hw dX12_hasSign_19
    · replace hM := hM.call (r' := 1) hv18 (by decide)
      exact tk_zret hC hr rfl hlocks hK ⟨rfl, hM.ret (by decide), (Or.inr (Or.inr (Or.inl ⟨rfl, (by unfold mSign; simp only [c7]; first | exact Or.inl ⟨by omega, by assumption⟩ | exact Or.inr ⟨by omega, by assumption⟩ | (rintro (⟨q1, q2⟩ | ⟨q1, q2⟩) <;> first | omega | contradiction))⟩)))⟩ hw dX12_hasSign_19
  · have c10 : r1.toInt = a3.toInt := wk_eq.mp c10
    replace hM := hM.neg (fun q => q c10)
    refine lv_iconst (v := 0) hx hb dX12_hasSign_11 (by decide) ?_
    refine lv_goto (tgt := 16) hx hb dX12_hasSign_12 (by decide) ?_
    refine tk_Si hC hK hw hT hA hE hSR (kz_X12_isOf_2 l adK adV dC dI cy ad B hB0 (Int.le_trans hB1 (by decide)) qr s1   a1 (show 0 ≤ a1.toInt from ra1) (show a1.toInt ≤ 9 from ta1) w0 H.size hT ) (va_cwS 2 hC.2.2.2.2 uS_RX12_304 rfl rfl rfl (by decide +kernel) ⟨Nat.le_of_ble_eq_true rfl, Nat.le_of_ble_eq_true rfl⟩) rfl hl.1 rfl (Nat.le_of_ble_eq_true rfl) dX12_hasSign_16 (fun r19 w21 H locs hp20 hw => ?_)
    obtain ⟨rfl, hv26, hg25⟩ := hp20
    rcases hg25 with ⟨rfl, hq23⟩ | ⟨rfl, hq24⟩
    · replace hM := hM.call (r' := 0) hv26 (by decide)
      exact tk_zret hC hr rfl hlocks hK ⟨rfl, hM.ret (by decide), (Or.inr (Or.inl ⟨rfl, (c7.trans (wk_eq.mpr (show r1.toInt = a3.toInt by first | exact Int.le_antisymm (by omega) (by omega) | omega))), (by unfold mSign; simp only [c7]; first | exact Or.inl ⟨by omega, by assumption⟩ | exact Or.inr ⟨by omega, by assumption⟩ | (rintro (⟨q1, q2⟩ | ⟨q1, q2⟩) <;> first | omega | contradiction))⟩))⟩ hw dX12_hasSign_19
    · replace hM := hM.call (r' := 1) hv26 (by decide)
      exact tk_zret hC hr rfl hlocks hK ⟨rfl, hM.ret (by decide), (Or.inr (Or.inr (Or.inr ⟨rfl, (c7.trans (wk_eq.mpr (show r1.toInt = a3.toInt by first | exact Int.le_antisymm (by omega) (by omega) | omega))), (by unfold mSign; simp only [c7]; first | exact Or.inl ⟨by omega, by assumption⟩ | exact Or.inr ⟨by omega, by assumption⟩ | (rintro (⟨q1, q2⟩ | ⟨q1, q2⟩) <;> first | omega | contradiction))⟩)))⟩ hw dX12_hasSign_19
abbrev Pz_X12_isClosed_1 (ad : Nat → Nat) (cy : Nat → ClassId) (B : Int) (qr : Nat) (s1 : Int) (a1 : Int32) (a2 : Int32) (w0 : va_W) : Int32 → va_W → Prop := fun r u => w0 = u ∧ Ev (fun n => m_X12_isClosed n 0 a1.toInt a2.toInt (sI w0)) (r.toInt, sI w0) ∧ ((r = 0 ∧ (¬ mCl w0 a1.toInt a2.toInt)) ∨ (r = 1 ∧ (∃ y : Int32, gi u 0 27 = y ∧ 1 ≤ y.toInt ∧ y.toInt ≤ 1) ∧ (∃ y : Int32, gi u 12 2 = y ∧ 1 ≤ y.toInt ∧ y.toInt ≤ 8) ∧ (mCl w0 a1.toInt a2.toInt)))
set_option maxHeartbeats 4000000 in
set_option maxRecDepth 100000 in
theorem kz_X12_isClosed_1 (l : Launch) (adK adV : Nat → Nat) (dC : Nat → ClassId) (dI : Nat → Nat → Nat) (cy : Nat → ClassId) (ad : Nat → Nat) (B : Int) (hB0 : 100000 ≤ B) (hB1 : B ≤ 1073741824) (qr : Nat) (s1 : Int)  (a1 : Int32) (ra1 : 0 ≤ a1.toInt) (ta1 : a1.toInt ≤ 9) (a2 : Int32) (ra2 : 0 ≤ a2.toInt) (ta2 : a2.toInt ≤ 359) (w0 : va_W) (sz : Nat) (hT : TW ksM ad cy B qr 13 w0)  : Met l yX12_isClosed (wu yX12_isClosed cX12_isClosed 4 (some .boolean)) ({ frames := 1, cells := 0, slots := 0, locals := 12 }) (va_Pc [.ref (ad 0), .int a1, .int a2] (wpreS adK adV dC dI cy sz w0)) (va_Qi (Pz_X12_isClosed_1 ad cy B qr s1 a1 a2 w0) (fun u : va_W => wpost dC dI cy (va_A w0 sz) u) (va_A w0 sz)) 0 0 (va_A w0 sz) := by
  refine Met.ofW (cc := cX12_isClosed) (maxL := 4) (ret := (some .boolean)) (by decide) rfl ?_
  intro p e s m args below meth c s₁ Bk hml hv
  obtain ⟨rfl, ⟨hsz, hP, hK, hD0⟩, hE, hSR⟩ := hv
  have hx := Bk.exec
  have hb := Bk.bytes
  have hr := Bk.returns
  have hlocks := Bk.notSynchronized
  have hC : CallFix p m c cX12_isClosed 4 s _ (wu yX12_isClosed cX12_isClosed 4 (some .boolean)) RX12 := ⟨hx, hb, hml, findClass_of_methodNamed Bk.named, atoms_spec (ws := (wu yX12_isClosed cX12_isClosed 4 (some .boolean))) Bk.pre⟩
  subst hsz
  have hD := hD0.self (sz := s.heap.size)
  generalize hAe : va_A w0 s.heap.size = A at hD hE ⊢
  have hA : ∀ q : Nat, s.heap.size ≤ q → A q := fun q h => by rw [← hAe]; exact Or.inr h
  have hw : Wd dC dI A s.heap s.heap [] w0 := ⟨hP, hD, va_S.rf⟩
  have hF : FE ksM ([] : List (Nat × Nat × Nat)) w0 w0 := FE.rf
  have hl := lv_entry ([.ref (ad 0), .int a1, .int a2]) (n := 4) (Nat.le_of_ble_eq_true rfl)
  rw [lg_entry_eq]
  generalize (lg_sl ([.ref (ad 0), .int a1, .int a2]) ++ List.replicate (4 - (lg_sl ([.ref (ad 0), .int a1, .int a2])).length) Slot.unset).toArray = ls at hl ⊢
  have hl : lv_has ls 4 [(0, .ref (ad 0)), (1, .int a1), (2, .int a2)] := hl
  generalize hloc : ([] : List Loc) = locs at hw ⊢
  have hinX12 : ∀ w ∈ u_ws RX12 TX12 42, w ∈ (wu yX12_isClosed cX12_isClosed 4 (some .boolean)) := fun _ h => List.mem_cons_of_mem _ (up_71 h)
  have L2 : ∀ (n2 : Nat) (v2_3 : Int32) (H : Heap) (locs : List Loc) (ls : Array Slot), 0 ≤ a1.toInt → a1.toInt ≤ 9 → 0 ≤ a2.toInt → a2.toInt ≤ 359 → 0 ≤ v2_3.toInt → v2_3.toInt ≤ 8 → (∀ k : Int, 0 ≤ k → k < v2_3.toInt → ¬ mCl1 w0 k a1.toInt a2.toInt) → (8 - v2_3.toInt).toNat < n2 → Wd dC dI A s.heap H locs w0 → TT (fun n => m_X12_isClosed n 0 a1.toInt a2.toInt (sI w0)) (fun n => j_X12_isClosed 0 n 2 [a1.toInt, a2.toInt, v2_3.toInt] (sI w0)) → lv_has ls 4 [(0, .ref (ad 0)), (1, .int a1), (2, .int a2), (3, .int v2_3)] → W p l e ({ frames := 1, cells := 0, slots := 0, locals := 12 }) s m (List.toArray [.ref (ad 0), .int a1, .int a2]) below meth c H locs 0 0 (MQ below (va_Qi (Pz_X12_isClosed_1 ad cy B qr s1 a1 a2 w0) (fun u : va_W => wpost dC dI cy A u) A) (List.toArray [.ref (ad 0), .int a1, .int a2]) s 0 0 A) (F0 m 2 ls []) := by
    intro n2
    induction n2 with
    | zero => intro v2_3 H locs ls r1 t2 r3 t4 r5 t6 hcr2_0 hm2 hw hM hl; omega
    | succ n2 ih2 =>
      intro v2_3 H locs ls r1 t2 r3 t4 r5 t6 hcr2_0 hm2 hw hM hl
      replace hM := hM.suc (fun _ => e_X12_isClosed_2)
      refine lv_iload_n hx hb dX12_isClosed_2 rfl (lv_at hl 3 rfl) ?_
      refine lv_aload_n hx hb dX12_isClosed_3 rfl (lv_at hl 0 rfl) ?_
      refine tk_getA hC hK hw hT hinX12 kM_at0 (by decide) rfl 26 (by decide) (List.mem_cons_of_mem _ uw_7_1) rfl rfl dX12_isClosed_4 ?_
      refine lv_iconst (v := 2) hx hb dX12_isClosed_7 (by decide) ?_
      refine tk_ialdR hC hK hw hT kM_at12 rfl (by decide) (by decide) dX12_isClosed_8 (fun x7 c8 Ex7 => ?_)
      have hox7 := c8
      replace hM := hM.rd (sI_at hox7)
      have bx7 := tk_rgI rfl 2 1 1 0 8 (by decide +kernel) ⟨0, by decide, by decide⟩ Ex7
      have c8 : gi w0 12 2 = x7 := c8
      refine lv_icmp_ge (tgt := 61) hx hb dX12_isClosed_9 (by decide) (fun c9 => ?_) (fun c9 => ?_)
      · have c9 : x7.toInt ≤ v2_3.toInt := wk_le.mp c9
        replace hM := hM.pos c9
        refine lv_iconst (v := 0) hx hb dX12_isClosed_61 (by decide) ?_
        exact tk_zret hC hr rfl hlocks hK ⟨rfl, hM.ret (by decide), (Or.inl ⟨rfl, (by first | exact mCl_no hcr2_0 (by simp only [c8]; omega) | exact mCl_off (by simp only [c8]; omega))⟩)⟩ hw dX12_isClosed_62
      · have c9 : v2_3.toInt < x7.toInt := wk_leF c9
        replace hM := hM.neg (Int.not_le.mpr c9)
        refine lv_aload_n hx hb dX12_isClosed_12 rfl (lv_at hl 0 rfl) ?_
        refine tk_geti hC hK hw hT hinX12 kM_at0 (by decide) rfl 27 (by decide) (List.mem_cons_of_mem _ uw_7_2) rfl rfl dX12_isClosed_13 (fun x10 c11 rx10 tx10 => ?_)
        replace hM := hM.rd (sI_at c11)
        refine lv_if_eq (tgt := 61) hx hb dX12_isClosed_16 (by decide) (fun c12 => ?_) (fun c12 => ?_)
        · have c12 : x10.toInt = (0 : Int) := wk_eq.mp c12
          replace hM := hM.pos c12
          refine lv_iconst (v := 0) hx hb dX12_isClosed_61 (by decide) ?_
          exact tk_zret hC hr rfl hlocks hK ⟨rfl, hM.ret (by decide), (Or.inl ⟨rfl, (by first | exact mCl_no hcr2_0 (by simp only [c8, c11]; omega) | exact mCl_off (by simp only [c8, c11]; omega))⟩)⟩ hw dX12_isClosed_62
        · have c12 : ¬ x10.toInt = (0 : Int) := wk_eqF c12
          replace hM := hM.neg c12
          refine lv_aload_n hx hb dX12_isClosed_19 rfl (lv_at hl 0 rfl) ?_
          refine tk_getA hC hK hw hT hinX12 kM_at0 (by decide) rfl 26 (by decide) (List.mem_cons_of_mem _ uw_7_1) rfl rfl dX12_isClosed_20 ?_
          refine lv_sipush (v := 140) hx hb dX12_isClosed_23 (by decide) ?_
          refine lv_iconst (v := 2) hx hb dX12_isClosed_26 (by decide) ?_
          refine lv_iload_n hx hb dX12_isClosed_27 rfl (lv_at hl 3 rfl) ?_
          refine lv_imul hx hb dX12_isClosed_28 ?_
          refine lv_topi (fun x13 ex13 => ?_)
          have ezx13 := ex13
          have ex13 : x13.toInt = (2 : Int) * v2_3.toInt := by rw [ex13]; exact wk_mul (show (-2147483648) ≤ (2 : Int) * v2_3.toInt by omega) (show (2 : Int) * v2_3.toInt ≤ 2147483647 by omega)
          replace hM := hM.lt ex13.symm
          refine lv_iadd hx hb dX12_isClosed_29 ?_
          refine lv_topi (fun x14 ex14 => ?_)
          have ezx14 := ex14
          have ex14 : x14.toInt = (140 : Int) + x13.toInt := by rw [ex14]; exact wk_add (show (-2147483648) ≤ (140 : Int) + x13.toInt by omega) (show (140 : Int) + x13.toInt ≤ 2147483647 by omega)
          replace hM := hM.lt ex14.symm
          refine tk_ialdR hC hK hw hT kM_at12 rfl (show 0 ≤ x14.toInt by first | with_reducible assumption | omega) (show x14.toInt < 296 by first | with_reducible assumption | omega) dX12_isClosed_30 (fun x15 c16 Ex15 => ?_)
          have hox15 := c16
          have c16 : gi w0 12 (2 * v2_3.toInt + 140).toNat = x15 := (congrArg (gi w0 12) (congrArg Int.toNat (show 2 * v2_3.toInt + 140 = x14.toInt by first | exact Int.le_antisymm (by omega) (by omega) | omega))).trans c16
          replace hM := hM.rd (sI_at hox15)
          refine lv_iload_n hx hb dX12_isClosed_31 rfl (lv_at hl 1 rfl) ?_
          refine lv_icmp_ne (tgt := 55) hx hb dX12_isClosed_32 (by decide) (fun c17 => ?_) (fun c17 => ?_)
          · have c17 : ¬ x15.toInt = a1.toInt := wk_eqF c17
            replace hM := hM.pos c17
            obtain ⟨x18, ex18⟩ : ∃ y : Int32, y = v2_3 + Int32.ofInt 1 := ⟨_, rfl⟩
            have erx18 := ex18
            refine lv_iinc (v := x18) (lv' := [(3, .int x18), (0, .ref (ad 0)), (1, .int a1), (2, .int a2)]) hx hb dX12_isClosed_55 hl (k := 3) rfl ex18.symm (by decide) rfl (fun ls hl => ?_)
            have ex18 : x18.toInt = v2_3.toInt + 1 := by rw [ex18]; exact wk_add (y := 1) (show -2147483648 ≤ v2_3.toInt + 1 by omega) (show v2_3.toInt + 1 ≤ 2147483647 by omega)
            replace hM := hM.lt ex18.symm
            refine lv_goto (tgt := 2) hx hb dX12_isClosed_58 (by decide) ?_
            exact ih2 x18 H locs ls  (show 0 ≤ a1.toInt from r1) (show a1.toInt ≤ 9 from t2) (show 0 ≤ a2.toInt from r3) (show a2.toInt ≤ 359 from t4) (show 0 ≤ x18.toInt by first | with_reducible assumption | omega) (show x18.toInt ≤ 8 by first | with_reducible assumption | omega) (show ∀ k : Int, 0 ≤ k → k < x18.toInt → ¬ mCl1 w0 k a1.toInt a2.toInt from all_step hcr2_0 (show ¬ mCl1 w0 v2_3.toInt a1.toInt a2.toInt by unfold mCl1; simp only [c8, c11, c16]; omega) (by omega)) (show (8 - x18.toInt).toNat < n2 by first | exact tn_lt hm2 (by omega) (by omega) | omega) hw  hM (lv_sub hl [1, 2, 3, 0] rfl)
          · have c17 : x15.toInt = a1.toInt := wk_eq.mp c17
            replace hM := hM.neg (fun q => q c17)
            refine lv_aload_n hx hb dX12_isClosed_35 rfl (lv_at hl 0 rfl) ?_
            refine tk_getA hC hK hw hT hinX12 kM_at0 (by decide) rfl 26 (by decide) (List.mem_cons_of_mem _ uw_7_1) rfl rfl dX12_isClosed_36 ?_
            refine lv_sipush (v := 140) hx hb dX12_isClosed_39 (by decide) ?_
            refine lv_iconst (v := 2) hx hb dX12_isClosed_42 (by decide) ?_
            refine lv_iload_n hx hb dX12_isClosed_43 rfl (lv_at hl 3 rfl) ?_
            refine lv_imul hx hb dX12_isClosed_44 ?_
            refine lv_topi (fun x19 ex19 => ?_)
            have ezx19 := ex19
            have ex19 : x19.toInt = (2 : Int) * v2_3.toInt := by rw [ex19]; exact wk_mul (show (-2147483648) ≤ (2 : Int) * v2_3.toInt by omega) (show (2 : Int) * v2_3.toInt ≤ 2147483647 by omega)
            replace hM := hM.lt ex19.symm
            refine lv_iadd hx hb dX12_isClosed_45 ?_
            refine lv_topi (fun x20 ex20 => ?_)
            have ezx20 := ex20
            have ex20 : x20.toInt = (140 : Int) + x19.toInt := by rw [ex20]; exact wk_add (show (-2147483648) ≤ (140 : Int) + x19.toInt by omega) (show (140 : Int) + x19.toInt ≤ 2147483647 by omega)
            replace hM := hM.lt ex20.symm
            refine lv_iconst (v := 1) hx hb dX12_isClosed_46 (by decide) ?_
            refine lv_iadd hx hb dX12_isClosed_47 ?_
            refine lv_topi (fun x21 ex21 => ?_)
            have ezx21 := ex21
            have ex21 : x21.toInt = x20.toInt + (1 : Int) := by rw [ex21]; exact wk_add (show (-2147483648) ≤ x20.toInt + (1 : Int) by omega) (show x20.toInt + (1 : Int) ≤ 2147483647 by omega)
            replace hM := hM.lt ex21.symm
            refine tk_ialdR hC hK hw hT kM_at12 rfl (show 0 ≤ x21.toInt by first | with_reducible assumption | omega) (show x21.toInt < 296 by first | with_reducible assumption | omega) dX12_isClosed_48 (fun x22 c23 Ex22 => ?_)
            have hox22 := c23
            have c23 : gi w0 12 (2 * v2_3.toInt + 141).toNat = x22 := (congrArg (gi w0 12) (congrArg Int.toNat (show 2 * v2_3.toInt + 141 = x21.toInt by first | exact Int.le_antisymm (by omega) (by omega) | omega))).trans c23
            replace hM := hM.rd (sI_at hox22)
            refine lv_iload_n hx hb dX12_isClosed_49 rfl (lv_at hl 2 rfl) ?_
            refine lv_icmp_ne (tgt := 55) hx hb dX12_isClosed_50 (by decide) (fun c24 => ?_) (fun c24 => ?_)
            · have c24 : ¬ x22.toInt = a2.toInt := wk_eqF c24
              replace hM := hM.pos c24
              obtain ⟨x25, ex25⟩ : ∃ y : Int32, y = v2_3 + Int32.ofInt 1 := ⟨_, rfl⟩
              have erx25 := ex25
              refine lv_iinc (v := x25) (lv' := [(3, .int x25), (0, .ref (ad 0)), (1, .int a1), (2, .int a2)]) hx hb dX12_isClosed_55 hl (k := 3) rfl ex25.symm (by decide) rfl (fun ls hl => ?_)
              have ex25 : x25.toInt = v2_3.toInt + 1 := by rw [ex25]; exact wk_add (y := 1) (show -2147483648 ≤ v2_3.toInt + 1 by omega) (show v2_3.toInt + 1 ≤ 2147483647 by omega)
              replace hM := hM.lt ex25.symm
              refine lv_goto (tgt := 2) hx hb dX12_isClosed_58 (by decide) ?_
              exact ih2 x25 H locs ls  (show 0 ≤ a1.toInt from r1) (show a1.toInt ≤ 9 from t2) (show 0 ≤ a2.toInt from r3) (show a2.toInt ≤ 359 from t4) (show 0 ≤ x25.toInt by first | with_reducible assumption | omega) (show x25.toInt ≤ 8 by first | with_reducible assumption | omega) (show ∀ k : Int, 0 ≤ k → k < x25.toInt → ¬ mCl1 w0 k a1.toInt a2.toInt from all_step hcr2_0 (show ¬ mCl1 w0 v2_3.toInt a1.toInt a2.toInt by unfold mCl1; simp only [c8, c11, c16, c23]; omega) (by omega)) (show (8 - x25.toInt).toNat < n2 by first | exact tn_lt hm2 (by omega) (by omega) | omega) hw  hM (lv_sub hl [1, 2, 3, 0] rfl)
            · have c24 : x22.toInt = a2.toInt := wk_eq.mp c24
              replace hM := hM.neg (fun q => q c24)
              refine lv_iconst (v := 1) hx hb dX12_isClosed_53 (by decide) ?_
              exact tk_zret hC hr rfl hlocks hK ⟨rfl, hM.ret (by decide), (Or.inr ⟨rfl, ⟨x10, c11, (show 1 ≤ x10.toInt by first | with_reducible assumption | omega), (show x10.toInt ≤ 1 from tx10)⟩, ⟨x7, c8, (show 1 ≤ x7.toInt by first | with_reducible assumption | omega), (show x7.toInt ≤ 8 by first | with_reducible assumption | omega)⟩, (by exact ⟨v2_3.toInt, by omega, by simp only [c8, c11, c16, c23]; omega, by unfold mCl1; simp only [c8, c11, c16, c23]; omega⟩)⟩)⟩ hw dX12_isClosed_54
  have hM : TT (fun n => m_X12_isClosed n 0 a1.toInt a2.toInt (sI w0)) (fun n => m_X12_isClosed n 0 a1.toInt a2.toInt (sI w0)) := TT.rf
  refine lv_iconst (v := 0) hx hb dX12_isClosed_0 (by decide) ?_
  refine lv_istore_n (lv' := [(3, .int 0), (0, .ref (ad 0)), (1, .int a1), (2, .int a2)]) hx hb dX12_isClosed_1 rfl hl (by decide) rfl (fun ls hl => ?_)
  exact L2 ((8 - (0 : Int)).toNat + 1) 0 s.heap locs ls  (show 0 ≤ a1.toInt from ra1) (show a1.toInt ≤ 9 from ta1) (show 0 ≤ a2.toInt from ra2) (show a2.toInt ≤ 359 from ta2) (by decide) (by decide) (show ∀ k : Int, 0 ≤ k → k < (0 : Int) → ¬ mCl1 w0 k a1.toInt a2.toInt from all_none) (Nat.lt_succ_self _) hw  hM (lv_sub hl [1, 2, 3, 0] rfl)
abbrev Pz_X12_isDayFor_1 (ad : Nat → Nat) (cy : Nat → ClassId) (B : Int) (qr : Nat) (s1 : Int) (a1 : Int32) (a2 : Int32) (a3 : Int32) (w0 : va_W) : Int32 → va_W → Prop := fun r u => w0 = u ∧ Ev (fun n => m_X12_isDayFor n 0 a1.toInt a2.toInt a3.toInt (sI w0)) (r.toInt, sI w0) ∧ ((r = 0 ∧ (¬ mDay w0 a1.toInt a2.toInt a3.toInt)) ∨ (r = 0 ∧ gi u 12 (10 * a1.toInt + 10).toNat = a2 ∧ (¬ mDay w0 a1.toInt a2.toInt a3.toInt)) ∨ (r = 1 ∧ (mDay w0 a1.toInt a2.toInt a3.toInt)) ∨ (r = 1 ∧ gi u 12 (10 * a1.toInt + 10).toNat = a2 ∧ (mDay w0 a1.toInt a2.toInt a3.toInt)))
set_option maxHeartbeats 4000000 in
set_option maxRecDepth 100000 in
theorem kz_X12_isDayFor_1 (l : Launch) (adK adV : Nat → Nat) (dC : Nat → ClassId) (dI : Nat → Nat → Nat) (cy : Nat → ClassId) (ad : Nat → Nat) (B : Int) (hB0 : 100000 ≤ B) (hB1 : B ≤ 1073741824) (qr : Nat) (s1 : Int)  (a1 : Int32) (ra1 : 0 ≤ a1.toInt) (ta1 : a1.toInt ≤ 12) (a2 : Int32) (ra2 : 0 ≤ a2.toInt) (ta2 : a2.toInt ≤ 9) (a3 : Int32) (ra3 : 0 ≤ a3.toInt) (ta3 : a3.toInt ≤ 4249) (w0 : va_W) (sz : Nat) (hT : TW ksM ad cy B qr 13 w0)  : Met l yX12_isDayFor (wu yX12_isDayFor cX12_isDayFor 4 (some .boolean)) ({ frames := 3, cells := 0, slots := 0, locals := 57 }) (va_Pc [.ref (ad 0), .int a1, .int a2, .int a3] (wpreS adK adV dC dI cy sz w0)) (va_Qi (Pz_X12_isDayFor_1 ad cy B qr s1 a1 a2 a3 w0) (fun u : va_W => wpost dC dI cy (va_A w0 sz) u) (va_A w0 sz)) 0 0 (va_A w0 sz) := by
  refine Met.ofW (cc := cX12_isDayFor) (maxL := 4) (ret := (some .boolean)) (by decide) rfl ?_
  intro p e s m args below meth c s₁ Bk hml hv
  obtain ⟨rfl, ⟨hsz, hP, hK, hD0⟩, hE, hSR⟩ := hv
  have hx := Bk.exec
  have hb := Bk.bytes
  have hr := Bk.returns
  have hlocks := Bk.notSynchronized
  have hC : CallFix p m c cX12_isDayFor 4 s _ (wu yX12_isDayFor cX12_isDayFor 4 (some .boolean)) RX12 := ⟨hx, hb, hml, findClass_of_methodNamed Bk.named, atoms_spec (ws := (wu yX12_isDayFor cX12_isDayFor 4 (some .boolean))) Bk.pre⟩
  subst hsz
  have hD := hD0.self (sz := s.heap.size)
  generalize hAe : va_A w0 s.heap.size = A at hD hE ⊢
  have hA : ∀ q : Nat, s.heap.size ≤ q → A q := fun q h => by rw [← hAe]; exact Or.inr h
  have hw : Wd dC dI A s.heap s.heap [] w0 := ⟨hP, hD, va_S.rf⟩
  have hF : FE ksM ([] : List (Nat × Nat × Nat)) w0 w0 := FE.rf
  have hl := lv_entry ([.ref (ad 0), .int a1, .int a2, .int a3]) (n := 4) (Nat.le_of_ble_eq_true rfl)
  rw [lg_entry_eq]
  generalize (lg_sl ([.ref (ad 0), .int a1, .int a2, .int a3]) ++ List.replicate (4 - (lg_sl ([.ref (ad 0), .int a1, .int a2, .int a3])).length) Slot.unset).toArray = ls at hl ⊢
  have hl : lv_has ls 4 [(0, .ref (ad 0)), (1, .int a1), (2, .int a2), (3, .int a3)] := hl
  generalize hloc : ([] : List Loc) = locs at hw ⊢
  have hM : TT (fun n => m_X12_isDayFor n 0 a1.toInt a2.toInt a3.toInt (sI w0)) (fun n => m_X12_isDayFor n 0 a1.toInt a2.toInt a3.toInt (sI w0)) := TT.rf
  refine lv_aload_n hx hb dX12_isDayFor_0 rfl (lv_at hl 0 rfl) ?_
  refine lv_aload_n hx hb dX12_isDayFor_1 rfl (lv_at hl 0 rfl) ?_
  refine lv_iload_n hx hb dX12_isDayFor_2 rfl (lv_at hl 1 rfl) ?_
  refine lv_iconst (v := 3) hx hb dX12_isDayFor_3 (by decide) ?_
  refine lv_iload_n hx hb dX12_isDayFor_4 rfl (lv_at hl 3 rfl) ?_
  refine lv_bipush (v := 7) hx hb dX12_isDayFor_5 (by decide) ?_
  refine lv_irem hx hb dX12_isDayFor_7 (by decide) ?_
  refine lv_topi (fun x1 ex1 => ?_)
  have ezx1 := ex1
  have ex1 : x1.toInt = a3.toInt % (7 : Int) := by rw [ex1]; exact wk_rem (show 0 ≤ a3.toInt from ra3) (show 0 < (7 : Int) by decide)
  replace hM := hM.lt ex1.symm
  refine lv_iadd hx hb dX12_isDayFor_8 ?_
  refine lv_topi (fun x2 ex2 => ?_)
  have ezx2 := ex2
  have ex2 : x2.toInt = (3 : Int) + x1.toInt := by rw [ex2]; exact wk_add (show (-2147483648) ≤ (3 : Int) + x1.toInt by omega) (show (3 : Int) + x1.toInt ≤ 2147483647 by omega)
  replace hM := hM.lt ex2.symm
  refine tk_Vi hC hK hw hT hA hE hSR kM_at0 (by decide) rfl (kz_X12_streetOf_5 l adK adV dC dI cy ad B hB0 (Int.le_trans hB1 (by decide)) qr s1   a1 (show 0 ≤ a1.toInt from ra1) (show a1.toInt ≤ 12 from ta1) x2 (show 3 ≤ x2.toInt by first | with_reducible assumption | omega) (show x2.toInt ≤ 9 by first | with_reducible assumption | omega) w0 s.heap.size hT ) (cwV 2 hC.2.2.2.2 uV_RX12_300 rfl rfl rfl (by decide +kernel) ⟨Nat.le_of_ble_eq_true rfl, Nat.le_of_ble_eq_true rfl⟩) rfl hl.1 rfl (Nat.le_of_ble_eq_true rfl) dX12_isDayFor_9 (fun r3 w5 H locs hp4 hw => ?_)
  obtain ⟨rfl, hv11, hg10⟩ := hp4
  obtain ⟨g7, g8, c9⟩ := hg10
  replace hM := hM.call hv11 rfl
  refine lv_iload_n hx hb dX12_isDayFor_12 rfl (lv_at hl 1 rfl) ?_
  refine lv_iload_n hx hb dX12_isDayFor_13 rfl (lv_at hl 2 rfl) ?_
  refine tk_Vi hC hK hw hT hA hE hSR kM_at0 (by decide) rfl (kz_X12_hasSign_1 l adK adV dC dI cy ad B hB0 (Int.le_trans hB1 (by decide)) qr s1   r3 (show 0 ≤ r3.toInt by first | with_reducible assumption | omega) (show r3.toInt ≤ 9 by first | with_reducible assumption | omega) a1 (show 0 ≤ a1.toInt from ra1) (show a1.toInt ≤ 12 from ta1) a2 (show 0 ≤ a2.toInt from ra2) (show a2.toInt ≤ 9 from ta2) w0 H.size hT ) (cwV 3 hC.2.2.2.2 uV_RX12_307 rfl rfl rfl (by decide +kernel) ⟨Nat.le_of_ble_eq_true rfl, Nat.le_of_ble_eq_true rfl⟩) rfl hl.1 rfl (Nat.le_of_ble_eq_true rfl) dX12_isDayFor_14 (fun r12 w14 H locs hp13 hw => ?_)
  obtain ⟨rfl, hv23, hg22⟩ := hp13
  rcases hg22 with ⟨rfl, hq16⟩ | ⟨rfl, c17, hq18⟩ | ⟨rfl, hq19⟩ | ⟨rfl, c20, hq21⟩
  · replace hM := hM.call (r' := 0) hv23 (by decide)
    refine lv_if_ne (tgt := 22) hx hb dX12_isDayFor_17 (by decide) (fun c => absurd (by decide) c) (fun _ => ?_)
    replace hM := hM.neg (by decide)
    refine lv_iconst (v := 0) hx hb dX12_isDayFor_20 (by decide) ?_
    exact tk_zret hC hr rfl hlocks hK ⟨rfl, hM.ret (by decide), (Or.inl ⟨rfl, (by unfold mDay; rw [show (10 * a1.toInt + (3 + a3.toInt % 7) + 10) = 10 * a1.toInt + 1 * x2.toInt + 10 by omega]; simp only [c9]; first | exact ⟨by assumption, by assumption, by assumption⟩ | (rintro ⟨q1, q2, q3⟩; first | exact absurd q1 (by assumption) | exact q2 (by assumption) | exact q3 (by assumption)))⟩)⟩ hw dX12_isDayFor_21
  · replace hM := hM.call (r' := 0) hv23 (by decide)
    refine lv_if_ne (tgt := 22) hx hb dX12_isDayFor_17 (by decide) (fun c => absurd (by decide) c) (fun _ => ?_)
    replace hM := hM.neg (by decide)
    refine lv_iconst (v := 0) hx hb dX12_isDayFor_20 (by decide) ?_
    exact tk_zret hC hr rfl hlocks hK ⟨rfl, hM.ret (by decide), (Or.inr (Or.inl ⟨rfl, c17, (by unfold mDay; rw [show (10 * a1.toInt + (3 + a3.toInt % 7) + 10) = 10 * a1.toInt + 1 * x2.toInt + 10 by omega]; simp only [c9, c17]; first | exact ⟨by assumption, by assumption, by assumption⟩ | (rintro ⟨q1, q2, q3⟩; first | exact absurd q1 (by assumption) | exact q2 (by assumption) | exact q3 (by assumption)))⟩))⟩ hw dX12_isDayFor_21
  · replace hM := hM.call (r' := 1) hv23 (by decide)
    refine lv_if_ne (tgt := 22) hx hb dX12_isDayFor_17 (by decide) (fun _ => ?_) (fun c => absurd c (by decide))
    replace hM := hM.pos (by decide)
    refine lv_aload_n hx hb dX12_isDayFor_22 rfl (lv_at hl 0 rfl) ?_
    refine lv_aload_n hx hb dX12_isDayFor_23 rfl (lv_at hl 0 rfl) ?_
    refine lv_iload_n hx hb dX12_isDayFor_24 rfl (lv_at hl 1 rfl) ?_
    refine lv_iconst (v := 0) hx hb dX12_isDayFor_25 (by decide) ?_
    refine tk_Vi hC hK hw hT hA hE hSR kM_at0 (by decide) rfl (kz_X12_streetOf_3 l adK adV dC dI cy ad B hB0 (Int.le_trans hB1 (by decide)) qr s1   a1 (show 0 ≤ a1.toInt from ra1) (show a1.toInt ≤ 12 from ta1) w0 H.size hT ) (cwV 2 hC.2.2.2.2 uV_RX12_300 rfl rfl rfl (by decide +kernel) ⟨Nat.le_of_ble_eq_true rfl, Nat.le_of_ble_eq_true rfl⟩) rfl hl.1 rfl (Nat.le_of_ble_eq_true rfl) dX12_isDayFor_26 (fun r24 w26 H locs hp25 hw => ?_)
    obtain ⟨rfl, hv32, hg31⟩ := hp25
    obtain ⟨g28, g29, c30⟩ := hg31
    replace hM := hM.call hv32 rfl
    refine lv_iload_n hx hb dX12_isDayFor_29 rfl (lv_at hl 3 rfl) ?_
    refine lv_sipush (v := 360) hx hb dX12_isDayFor_30 (by decide) ?_
    refine lv_irem hx hb dX12_isDayFor_33 (by decide) ?_
    refine lv_topi (fun x33 ex33 => ?_)
    have ezx33 := ex33
    have ex33 : x33.toInt = a3.toInt % (360 : Int) := by rw [ex33]; exact wk_rem (show 0 ≤ a3.toInt from ra3) (show 0 < (360 : Int) by decide)
    replace hM := hM.lt ex33.symm
    refine tk_Vi hC hK hw hT hA hE hSR kM_at0 (by decide) rfl (kz_X12_isClosed_1 l adK adV dC dI cy ad B hB0 (Int.le_trans hB1 (by decide)) qr s1   r24 (show 0 ≤ r24.toInt by first | with_reducible assumption | omega) (show r24.toInt ≤ 9 by first | with_reducible assumption | omega) x33 (show 0 ≤ x33.toInt by first | with_reducible assumption | omega) (show x33.toInt ≤ 359 by first | with_reducible assumption | omega) w0 H.size hT ) (cwV 2 hC.2.2.2.2 uV_RX12_311 rfl rfl rfl (by decide +kernel) ⟨Nat.le_of_ble_eq_true rfl, Nat.le_of_ble_eq_true rfl⟩) rfl hl.1 rfl (Nat.le_of_ble_eq_true rfl) dX12_isDayFor_34 (fun r34 w36 H locs hp35 hw => ?_)
    obtain ⟨rfl, hv45, hg44⟩ := hp35
    rcases hg44 with ⟨rfl, hq38⟩ | ⟨rfl, ⟨x39, c40, rx39, tx39⟩, ⟨x41, c42, rx41, tx41⟩, hq43⟩
    · replace hM := hM.call (r' := 0) hv45 (by decide)
      refine lv_if_ne (tgt := 62) hx hb dX12_isDayFor_37 (by decide) (fun c => absurd (by decide) c) (fun _ => ?_)
      replace hM := hM.neg (by decide)
      refine lv_aload_n hx hb dX12_isDayFor_40 rfl (lv_at hl 0 rfl) ?_
      refine lv_aload_n hx hb dX12_isDayFor_41 rfl (lv_at hl 0 rfl) ?_
      refine lv_iload_n hx hb dX12_isDayFor_42 rfl (lv_at hl 1 rfl) ?_
      refine lv_iconst (v := 1) hx hb dX12_isDayFor_43 (by decide) ?_
      refine tk_Vi hC hK hw hT hA hE hSR kM_at0 (by decide) rfl (kz_X12_streetOf_4 l adK adV dC dI cy ad B hB0 (Int.le_trans hB1 (by decide)) qr s1   a1 (show 0 ≤ a1.toInt from ra1) (show a1.toInt ≤ 12 from ta1) w0 H.size hT ) (cwV 2 hC.2.2.2.2 uV_RX12_300 rfl rfl rfl (by decide +kernel) ⟨Nat.le_of_ble_eq_true rfl, Nat.le_of_ble_eq_true rfl⟩) rfl hl.1 rfl (Nat.le_of_ble_eq_true rfl) dX12_isDayFor_44 (fun r46 w48 H locs hp47 hw => ?_)
      obtain ⟨rfl, hv54, hg53⟩ := hp47
      obtain ⟨g50, g51, c52⟩ := hg53
      replace hM := hM.call hv54 rfl
      refine lv_iload_n hx hb dX12_isDayFor_47 rfl (lv_at hl 3 rfl) ?_
      refine lv_sipush (v := 360) hx hb dX12_isDayFor_48 (by decide) ?_
      refine lv_irem hx hb dX12_isDayFor_51 (by decide) ?_
      refine lv_topi (fun x55 ex55 => ?_)
      have ezx55 := ex55
      have ex55 : x55.toInt = a3.toInt % (360 : Int) := by rw [ex55]; exact wk_rem (show 0 ≤ a3.toInt from ra3) (show 0 < (360 : Int) by decide)
      replace hM := hM.lt ex55.symm
      refine tk_Vi hC hK hw hT hA hE hSR kM_at0 (by decide) rfl (kz_X12_isClosed_1 l adK adV dC dI cy ad B hB0 (Int.le_trans hB1 (by decide)) qr s1   r46 (show 0 ≤ r46.toInt by first | with_reducible assumption | omega) (show r46.toInt ≤ 9 by first | with_reducible assumption | omega) x55 (show 0 ≤ x55.toInt by first | with_reducible assumption | omega) (show x55.toInt ≤ 359 by first | with_reducible assumption | omega) w0 H.size hT ) (cwV 2 hC.2.2.2.2 uV_RX12_311 rfl rfl rfl (by decide +kernel) ⟨Nat.le_of_ble_eq_true rfl, Nat.le_of_ble_eq_true rfl⟩) rfl hl.1 rfl (Nat.le_of_ble_eq_true rfl) dX12_isDayFor_52 (fun r56 w58 H locs hp57 hw => ?_)
      obtain ⟨rfl, hv67, hg66⟩ := hp57
      rcases hg66 with ⟨rfl, hq60⟩ | ⟨rfl, ⟨x61, c62, rx61, tx61⟩, ⟨x63, c64, rx63, tx63⟩, hq65⟩
      · replace hM := hM.call (r' := 0) hv67 (by decide)
        refine lv_if_ne (tgt := 62) hx hb dX12_isDayFor_55 (by decide) (fun c => absurd (by decide) c) (fun _ => ?_)
        replace hM := hM.neg (by decide)
        refine lv_iconst (v := 1) hx hb dX12_isDayFor_58 (by decide) ?_
        refine lv_goto (tgt := 63) hx hb dX12_isDayFor_59 (by decide) ?_
        exact tk_zret hC hr rfl hlocks hK ⟨rfl, hM.ret (by decide), (Or.inr (Or.inr (Or.inl ⟨rfl, (by have hq38 := hq38; rw [show x33.toInt = a3.toInt % 360 by omega] at hq38; have hq60 := hq60; rw [show x55.toInt = a3.toInt % 360 by omega] at hq60; unfold mDay; rw [show (10 * a1.toInt + (3 + a3.toInt % 7) + 10) = 10 * a1.toInt + 1 * x2.toInt + 10 by omega]; simp only [c9, c30, c52]; first | exact ⟨by assumption, by assumption, by assumption⟩ | (rintro ⟨q1, q2, q3⟩; first | exact absurd q1 (by assumption) | exact q2 (by assumption) | exact q3 (by assumption)))⟩)))⟩ hw dX12_isDayFor_63
      · replace hM := hM.call (r' := 1) hv67 (by decide)
        refine lv_if_ne (tgt := 62) hx hb dX12_isDayFor_55 (by decide) (fun _ => ?_) (fun c => absurd c (by decide))
        replace hM := hM.pos (by decide)
        refine lv_iconst (v := 0) hx hb dX12_isDayFor_62 (by decide) ?_
        exact tk_zret hC hr rfl hlocks hK ⟨rfl, hM.ret (by decide), (Or.inl ⟨rfl, (by have hq38 := hq38; rw [show x33.toInt = a3.toInt % 360 by omega] at hq38; have hq65 := hq65; rw [show x55.toInt = a3.toInt % 360 by omega] at hq65; unfold mDay; rw [show (10 * a1.toInt + (3 + a3.toInt % 7) + 10) = 10 * a1.toInt + 1 * x2.toInt + 10 by omega]; simp only [c9, c30, c52, c62, c64]; first | exact ⟨by assumption, by assumption, by assumption⟩ | (rintro ⟨q1, q2, q3⟩; first | exact absurd q1 (by assumption) | exact q2 (by assumption) | exact q3 (by assumption)))⟩)⟩ hw dX12_isDayFor_63
    · replace hM := hM.call (r' := 1) hv45 (by decide)
      refine lv_if_ne (tgt := 62) hx hb dX12_isDayFor_37 (by decide) (fun _ => ?_) (fun c => absurd c (by decide))
      replace hM := hM.pos (by decide)
      refine lv_iconst (v := 0) hx hb dX12_isDayFor_62 (by decide) ?_
      exact tk_zret hC hr rfl hlocks hK ⟨rfl, hM.ret (by decide), (Or.inl ⟨rfl, (by have hq43 := hq43; rw [show x33.toInt = a3.toInt % 360 by omega] at hq43; unfold mDay; rw [show (10 * a1.toInt + (3 + a3.toInt % 7) + 10) = 10 * a1.toInt + 1 * x2.toInt + 10 by omega]; simp only [c9, c30, c40, c42]; first | exact ⟨by assumption, by assumption, by assumption⟩ | (rintro ⟨q1, q2, q3⟩; first | exact absurd q1 (by assumption) | exact q2 (by assumption) | exact q3 (by assumption)))⟩)⟩ hw dX12_isDayFor_63
  · replace hM := hM.call (r' := 1) hv23 (by decide)
    refine lv_if_ne (tgt := 22) hx hb dX12_isDayFor_17 (by decide) (fun _ => ?_) (fun c => absurd c (by decide))
    replace hM := hM.pos (by decide)
    refine lv_aload_n hx hb dX12_isDayFor_22 rfl (lv_at hl 0 rfl) ?_
    refine lv_aload_n hx hb dX12_isDayFor_23 rfl (lv_at hl 0 rfl) ?_
    refine lv_iload_n hx hb dX12_isDayFor_24 rfl (lv_at hl 1 rfl) ?_
    refine lv_iconst (v := 0) hx hb dX12_isDayFor_25 (by decide) ?_
    refine tk_Vi hC hK hw hT hA hE hSR kM_at0 (by decide) rfl (kz_X12_streetOf_3 l adK adV dC dI cy ad B hB0 (Int.le_trans hB1 (by decide)) qr s1   a1 (show 0 ≤ a1.toInt from ra1) (show a1.toInt ≤ 12 from ta1) w0 H.size hT ) (cwV 2 hC.2.2.2.2 uV_RX12_300 rfl rfl rfl (by decide +kernel) ⟨Nat.le_of_ble_eq_true rfl, Nat.le_of_ble_eq_true rfl⟩) rfl hl.1 rfl (Nat.le_of_ble_eq_true rfl) dX12_isDayFor_26 (fun r68 w70 H locs hp69 hw => ?_)
    obtain ⟨rfl, hv76, hg75⟩ := hp69
    obtain ⟨g72, g73, c74⟩ := hg75
    replace hM := hM.call hv76 rfl
    obtain rfl : a2 = r68 := c20.symm.trans c74
    refine lv_iload_n hx hb dX12_isDayFor_29 rfl (lv_at hl 3 rfl) ?_
    refine lv_sipush (v := 360) hx hb dX12_isDayFor_30 (by decide) ?_
    refine lv_irem hx hb dX12_isDayFor_33 (by decide) ?_
    refine lv_topi (fun x77 ex77 => ?_)
    have ezx77 := ex77
    have ex77 : x77.toInt = a3.toInt % (360 : Int) := by rw [ex77]; exact wk_rem (show 0 ≤ a3.toInt from ra3) (show 0 < (360 : Int) by decide)
    replace hM := hM.lt ex77.symm
    refine tk_Vi hC hK hw hT hA hE hSR kM_at0 (by decide) rfl (kz_X12_isClosed_1 l adK adV dC dI cy ad B hB0 (Int.le_trans hB1 (by decide)) qr s1   a2 (show 0 ≤ a2.toInt from ra2) (show a2.toInt ≤ 9 from ta2) x77 (show 0 ≤ x77.toInt by first | with_reducible assumption | omega) (show x77.toInt ≤ 359 by first | with_reducible assumption | omega) w0 H.size hT ) (cwV 2 hC.2.2.2.2 uV_RX12_311 rfl rfl rfl (by decide +kernel) ⟨Nat.le_of_ble_eq_true rfl, Nat.le_of_ble_eq_true rfl⟩) rfl hl.1 rfl (Nat.le_of_ble_eq_true rfl) dX12_isDayFor_34 (fun r78 w80 H locs hp79 hw => ?_)
    obtain ⟨rfl, hv89, hg88⟩ := hp79
    rcases hg88 with ⟨rfl, hq82⟩ | ⟨rfl, ⟨x83, c84, rx83, tx83⟩, ⟨x85, c86, rx85, tx85⟩, hq87⟩
    · replace hM := hM.call (r' := 0) hv89 (by decide)
      refine lv_if_ne (tgt := 62) hx hb dX12_isDayFor_37 (by decide) (fun c => absurd (by decide) c) (fun _ => ?_)
      replace hM := hM.neg (by decide)
      refine lv_aload_n hx hb dX12_isDayFor_40 rfl (lv_at hl 0 rfl) ?_
      refine lv_aload_n hx hb dX12_isDayFor_41 rfl (lv_at hl 0 rfl) ?_
      refine lv_iload_n hx hb dX12_isDayFor_42 rfl (lv_at hl 1 rfl) ?_
      refine lv_iconst (v := 1) hx hb dX12_isDayFor_43 (by decide) ?_
      refine tk_Vi hC hK hw hT hA hE hSR kM_at0 (by decide) rfl (kz_X12_streetOf_4 l adK adV dC dI cy ad B hB0 (Int.le_trans hB1 (by decide)) qr s1   a1 (show 0 ≤ a1.toInt from ra1) (show a1.toInt ≤ 12 from ta1) w0 H.size hT ) (cwV 2 hC.2.2.2.2 uV_RX12_300 rfl rfl rfl (by decide +kernel) ⟨Nat.le_of_ble_eq_true rfl, Nat.le_of_ble_eq_true rfl⟩) rfl hl.1 rfl (Nat.le_of_ble_eq_true rfl) dX12_isDayFor_44 (fun r90 w92 H locs hp91 hw => ?_)
      obtain ⟨rfl, hv98, hg97⟩ := hp91
      obtain ⟨g94, g95, c96⟩ := hg97
      replace hM := hM.call hv98 rfl
      refine lv_iload_n hx hb dX12_isDayFor_47 rfl (lv_at hl 3 rfl) ?_
      refine lv_sipush (v := 360) hx hb dX12_isDayFor_48 (by decide) ?_
      refine lv_irem hx hb dX12_isDayFor_51 (by decide) ?_
      refine lv_topi (fun x99 ex99 => ?_)
      have ezx99 := ex99
      have ex99 : x99.toInt = a3.toInt % (360 : Int) := by rw [ex99]; exact wk_rem (show 0 ≤ a3.toInt from ra3) (show 0 < (360 : Int) by decide)
      replace hM := hM.lt ex99.symm
      refine tk_Vi hC hK hw hT hA hE hSR kM_at0 (by decide) rfl (kz_X12_isClosed_1 l adK adV dC dI cy ad B hB0 (Int.le_trans hB1 (by decide)) qr s1   r90 (show 0 ≤ r90.toInt by first | with_reducible assumption | omega) (show r90.toInt ≤ 9 by first | with_reducible assumption | omega) x99 (show 0 ≤ x99.toInt by first | with_reducible assumption | omega) (show x99.toInt ≤ 359 by first | with_reducible assumption | omega) w0 H.size hT ) (cwV 2 hC.2.2.2.2 uV_RX12_311 rfl rfl rfl (by decide +kernel) ⟨Nat.le_of_ble_eq_true rfl, Nat.le_of_ble_eq_true rfl⟩) rfl hl.1 rfl (Nat.le_of_ble_eq_true rfl) dX12_isDayFor_52 (fun r100 w102 H locs hp101 hw => ?_)
      obtain ⟨rfl, hv111, hg110⟩ := hp101
      rcases hg110 with ⟨rfl, hq104⟩ | ⟨rfl, ⟨x105, c106, rx105, tx105⟩, ⟨x107, c108, rx107, tx107⟩, hq109⟩
      · replace hM := hM.call (r' := 0) hv111 (by decide)
        refine lv_if_ne (tgt := 62) hx hb dX12_isDayFor_55 (by decide) (fun c => absurd (by decide) c) (fun _ => ?_)
        replace hM := hM.neg (by decide)
        refine lv_iconst (v := 1) hx hb dX12_isDayFor_58 (by decide) ?_
        refine lv_goto (tgt := 63) hx hb dX12_isDayFor_59 (by decide) ?_
        exact tk_zret hC hr rfl hlocks hK ⟨rfl, hM.ret (by decide), (Or.inr (Or.inr (Or.inr ⟨rfl, c20, (by have hq82 := hq82; rw [show x77.toInt = a3.toInt % 360 by omega] at hq82; have hq104 := hq104; rw [show x99.toInt = a3.toInt % 360 by omega] at hq104; unfold mDay; rw [show (10 * a1.toInt + (3 + a3.toInt % 7) + 10) = 10 * a1.toInt + 1 * x2.toInt + 10 by omega]; simp only [c9, c20, c96]; first | exact ⟨by assumption, by assumption, by assumption⟩ | (rintro ⟨q1, q2, q3⟩; first | exact absurd q1 (by assumption) | exact q2 (by assumption) | exact q3 (by assumption)))⟩)))⟩ hw dX12_isDayFor_63
      · replace hM := hM.call (r' := 1) hv111 (by decide)
        refine lv_if_ne (tgt := 62) hx hb dX12_isDayFor_55 (by decide) (fun _ => ?_) (fun c => absurd c (by decide))
        replace hM := hM.pos (by decide)
        refine lv_iconst (v := 0) hx hb dX12_isDayFor_62 (by decide) ?_
        exact tk_zret hC hr rfl hlocks hK ⟨rfl, hM.ret (by decide), (Or.inr (Or.inl ⟨rfl, c20, (by have hq82 := hq82; rw [show x77.toInt = a3.toInt % 360 by omega] at hq82; have hq109 := hq109; rw [show x99.toInt = a3.toInt % 360 by omega] at hq109; unfold mDay; rw [show (10 * a1.toInt + (3 + a3.toInt % 7) + 10) = 10 * a1.toInt + 1 * x2.toInt + 10 by omega]; simp only [c9, c20, c96, c106, c108]; first | exact ⟨by assumption, by assumption, by assumption⟩ | (rintro ⟨q1, q2, q3⟩; first | exact absurd q1 (by assumption) | exact q2 (by assumption) | exact q3 (by assumption)))⟩))⟩ hw dX12_isDayFor_63
    · replace hM := hM.call (r' := 1) hv89 (by decide)
      refine lv_if_ne (tgt := 62) hx hb dX12_isDayFor_37 (by decide) (fun _ => ?_) (fun c => absurd c (by decide))
      replace hM := hM.pos (by decide)
      refine lv_iconst (v := 0) hx hb dX12_isDayFor_62 (by decide) ?_
      exact tk_zret hC hr rfl hlocks hK ⟨rfl, hM.ret (by decide), (Or.inr (Or.inl ⟨rfl, c20, (by have hq87 := hq87; rw [show x77.toInt = a3.toInt % 360 by omega] at hq87; unfold mDay; rw [show (10 * a1.toInt + (3 + a3.toInt % 7) + 10) = 10 * a1.toInt + 1 * x2.toInt + 10 by omega]; simp only [c9, c20, c84, c86]; first | exact ⟨by assumption, by assumption, by assumption⟩ | (rintro ⟨q1, q2, q3⟩; first | exact absurd q1 (by assumption) | exact q2 (by assumption) | exact q3 (by assumption)))⟩))⟩ hw dX12_isDayFor_63
abbrev Pz_X12_isLifted_1 (ad : Nat → Nat) (cy : Nat → ClassId) (B : Int) (qr : Nat) (s1 : Int) (a1 : Int32) (a2 : Int32) (w0 : va_W) : Int32 → va_W → Prop := fun r u => w0 = u ∧ Ev (fun n => m_X12_isLifted n 0 a1.toInt a2.toInt (sI w0)) (r.toInt, sI w0) ∧ ((r = 0 ∧ (¬ mLf w0 a1.toInt a2.toInt)) ∨ (r = 1 ∧ (∃ y : Int32, gi u 12 3 = y ∧ 1 ≤ y.toInt ∧ y.toInt ≤ 4) ∧ (mLf w0 a1.toInt a2.toInt)))
set_option maxHeartbeats 4000000 in
set_option maxRecDepth 100000 in
theorem kz_X12_isLifted_1 (l : Launch) (adK adV : Nat → Nat) (dC : Nat → ClassId) (dI : Nat → Nat → Nat) (cy : Nat → ClassId) (ad : Nat → Nat) (B : Int) (hB0 : 100000 ≤ B) (hB1 : B ≤ 1073741824) (qr : Nat) (s1 : Int)  (a1 : Int32) (ra1 : 0 ≤ a1.toInt) (ta1 : a1.toInt ≤ 12) (a2 : Int32) (ra2 : 0 ≤ a2.toInt) (ta2 : a2.toInt ≤ 101999) (w0 : va_W) (sz : Nat) (hT : TW ksM ad cy B qr 13 w0)  : Met l yX12_isLifted (wu yX12_isLifted cX12_isLifted 5 (some .boolean)) ({ frames := 1, cells := 0, slots := 0, locals := 12 }) (va_Pc [.ref (ad 0), .int a1, .int a2] (wpreS adK adV dC dI cy sz w0)) (va_Qi (Pz_X12_isLifted_1 ad cy B qr s1 a1 a2 w0) (fun u : va_W => wpost dC dI cy (va_A w0 sz) u) (va_A w0 sz)) 0 0 (va_A w0 sz) := by
  refine Met.ofW (cc := cX12_isLifted) (maxL := 5) (ret := (some .boolean)) (by decide) rfl ?_
  intro p e s m args below meth c s₁ Bk hml hv
  obtain ⟨rfl, ⟨hsz, hP, hK, hD0⟩, hE, hSR⟩ := hv
  have hx := Bk.exec
  have hb := Bk.bytes
  have hr := Bk.returns
  have hlocks := Bk.notSynchronized
  have hC : CallFix p m c cX12_isLifted 5 s _ (wu yX12_isLifted cX12_isLifted 5 (some .boolean)) RX12 := ⟨hx, hb, hml, findClass_of_methodNamed Bk.named, atoms_spec (ws := (wu yX12_isLifted cX12_isLifted 5 (some .boolean))) Bk.pre⟩
  subst hsz
  have hD := hD0.self (sz := s.heap.size)
  generalize hAe : va_A w0 s.heap.size = A at hD hE ⊢
  have hA : ∀ q : Nat, s.heap.size ≤ q → A q := fun q h => by rw [← hAe]; exact Or.inr h
  have hw : Wd dC dI A s.heap s.heap [] w0 := ⟨hP, hD, va_S.rf⟩
  have hF : FE ksM ([] : List (Nat × Nat × Nat)) w0 w0 := FE.rf
  have hl := lv_entry ([.ref (ad 0), .int a1, .int a2]) (n := 5) (Nat.le_of_ble_eq_true rfl)
  rw [lg_entry_eq]
  generalize (lg_sl ([.ref (ad 0), .int a1, .int a2]) ++ List.replicate (5 - (lg_sl ([.ref (ad 0), .int a1, .int a2])).length) Slot.unset).toArray = ls at hl ⊢
  have hl : lv_has ls 5 [(0, .ref (ad 0)), (1, .int a1), (2, .int a2)] := hl
  generalize hloc : ([] : List Loc) = locs at hw ⊢
  have hinX12 : ∀ w ∈ u_ws RX12 TX12 42, w ∈ (wu yX12_isLifted cX12_isLifted 5 (some .boolean)) := fun _ h => List.mem_cons_of_mem _ (up_71 h)
  have L2 : ∀ (n2 : Nat) (v2_3 : Int32) (H : Heap) (locs : List Loc) (ls : Array Slot), 0 ≤ a1.toInt → a1.toInt ≤ 12 → 0 ≤ a2.toInt → a2.toInt ≤ 101999 → 0 ≤ v2_3.toInt → v2_3.toInt ≤ 4 → (∀ k : Int, 0 ≤ k → k < v2_3.toInt → ¬ mLf1 w0 k a1.toInt a2.toInt) → (4 - v2_3.toInt).toNat < n2 → Wd dC dI A s.heap H locs w0 → TT (fun n => m_X12_isLifted n 0 a1.toInt a2.toInt (sI w0)) (fun n => j_X12_isLifted 0 n 2 [a1.toInt, a2.toInt, v2_3.toInt] (sI w0)) → lv_has ls 5 [(0, .ref (ad 0)), (1, .int a1), (2, .int a2), (3, .int v2_3)] → W p l e ({ frames := 1, cells := 0, slots := 0, locals := 12 }) s m (List.toArray [.ref (ad 0), .int a1, .int a2]) below meth c H locs 0 0 (MQ below (va_Qi (Pz_X12_isLifted_1 ad cy B qr s1 a1 a2 w0) (fun u : va_W => wpost dC dI cy A u) A) (List.toArray [.ref (ad 0), .int a1, .int a2]) s 0 0 A) (F0 m 2 ls []) := by
    intro n2
    induction n2 with
    | zero => intro v2_3 H locs ls r1 t2 r3 t4 r5 t6 hcr2_0 hm2 hw hM hl; omega
    | succ n2 ih2 =>
      intro v2_3 H locs ls r1 t2 r3 t4 r5 t6 hcr2_0 hm2 hw hM hl
      replace hM := hM.suc (fun _ => e_X12_isLifted_2)
      refine lv_iload_n hx hb dX12_isLifted_2 rfl (lv_at hl 3 rfl) ?_
      refine lv_aload_n hx hb dX12_isLifted_3 rfl (lv_at hl 0 rfl) ?_
      refine tk_getA hC hK hw hT hinX12 kM_at0 (by decide) rfl 26 (by decide) (List.mem_cons_of_mem _ uw_7_1) rfl rfl dX12_isLifted_4 ?_
      refine lv_iconst (v := 3) hx hb dX12_isLifted_7 (by decide) ?_
      refine tk_ialdR hC hK hw hT kM_at12 rfl (by decide) (by decide) dX12_isLifted_8 (fun x7 c8 Ex7 => ?_)
      have hox7 := c8
      replace hM := hM.rd (sI_at hox7)
      have bx7 := tk_rgI rfl 3 1 1 0 4 (by decide +kernel) ⟨0, by decide, by decide⟩ Ex7
      have c8 : gi w0 12 3 = x7 := c8
      refine lv_icmp_ge (tgt := 72) hx hb dX12_isLifted_9 (by decide) (fun c9 => ?_) (fun c9 => ?_)
      · have c9 : x7.toInt ≤ v2_3.toInt := wk_le.mp c9
        replace hM := hM.pos c9
        refine lv_iconst (v := 0) hx hb dX12_isLifted_72 (by decide) ?_
        exact tk_zret hC hr rfl hlocks hK ⟨rfl, hM.ret (by decide), (Or.inl ⟨rfl, (by exact mLf_no hcr2_0 (by simp only [c8]; omega))⟩)⟩ hw dX12_isLifted_73
      · have c9 : v2_3.toInt < x7.toInt := wk_leF c9
        replace hM := hM.neg (Int.not_le.mpr c9)
        refine lv_sipush (v := 156) hx hb dX12_isLifted_12 (by decide) ?_
        refine lv_iconst (v := 3) hx hb dX12_isLifted_15 (by decide) ?_
        refine lv_iload_n hx hb dX12_isLifted_16 rfl (lv_at hl 3 rfl) ?_
        refine lv_imul hx hb dX12_isLifted_17 ?_
        refine lv_topi (fun x10 ex10 => ?_)
        have ezx10 := ex10
        have ex10 : x10.toInt = (3 : Int) * v2_3.toInt := by rw [ex10]; exact wk_mul (show (-2147483648) ≤ (3 : Int) * v2_3.toInt by omega) (show (3 : Int) * v2_3.toInt ≤ 2147483647 by omega)
        replace hM := hM.lt ex10.symm
        refine lv_iadd hx hb dX12_isLifted_18 ?_
        refine lv_topi (fun x11 ex11 => ?_)
        have ezx11 := ex11
        have ex11 : x11.toInt = (156 : Int) + x10.toInt := by rw [ex11]; exact wk_add (show (-2147483648) ≤ (156 : Int) + x10.toInt by omega) (show (156 : Int) + x10.toInt ≤ 2147483647 by omega)
        replace hM := hM.lt ex11.symm
        refine lv_istore (lv' := [(4, .int x11), (0, .ref (ad 0)), (1, .int a1), (2, .int a2), (3, .int v2_3)]) hx hb dX12_isLifted_19 hl (by decide) rfl (fun ls hl => ?_)
        refine lv_aload_n hx hb dX12_isLifted_21 rfl (lv_at hl 1 rfl) ?_
        refine tk_getA hC hK hw hT hinX12 kM_at0 (by decide) rfl 26 (by decide) (List.mem_cons_of_mem _ uw_7_1) rfl rfl dX12_isLifted_22 ?_
        refine lv_iload hx hb dX12_isLifted_25 (lv_at hl 0 rfl) ?_
        refine tk_ialdR hC hK hw hT kM_at12 rfl (show 0 ≤ x11.toInt by first | with_reducible assumption | omega) (show x11.toInt < 296 by first | with_reducible assumption | omega) dX12_isLifted_27 (fun x12 c13 Ex12 => ?_)
        have hox12 := c13
        have c13 : gi w0 12 (3 * v2_3.toInt + 156).toNat = x12 := (congrArg (gi w0 12) (congrArg Int.toNat (show 3 * v2_3.toInt + 156 = x11.toInt by first | exact Int.le_antisymm (by omega) (by omega) | omega))).trans c13
        replace hM := hM.rd (sI_at hox12)
        refine lv_iload_n hx hb dX12_isLifted_28 rfl (lv_at hl 2 rfl) ?_
        refine lv_icmp_ne (tgt := 66) hx hb dX12_isLifted_29 (by decide) (fun c14 => ?_) (fun c14 => ?_)
        · have c14 : ¬ x12.toInt = a1.toInt := wk_eqF c14
          replace hM := hM.pos c14
          obtain ⟨x15, ex15⟩ : ∃ y : Int32, y = v2_3 + Int32.ofInt 1 := ⟨_, rfl⟩
          have erx15 := ex15
          refine lv_iinc (v := x15) (lv' := [(3, .int x15), (4, .int x11), (0, .ref (ad 0)), (1, .int a1), (2, .int a2)]) hx hb dX12_isLifted_66 hl (k := 4) rfl ex15.symm (by decide) rfl (fun ls hl => ?_)
          have ex15 : x15.toInt = v2_3.toInt + 1 := by rw [ex15]; exact wk_add (y := 1) (show -2147483648 ≤ v2_3.toInt + 1 by omega) (show v2_3.toInt + 1 ≤ 2147483647 by omega)
          replace hM := hM.lt ex15.symm
          refine lv_goto (tgt := 2) hx hb dX12_isLifted_69 (by decide) ?_
          exact ih2 x15 H locs ls  (show 0 ≤ a1.toInt from r1) (show a1.toInt ≤ 12 from t2) (show 0 ≤ a2.toInt from r3) (show a2.toInt ≤ 101999 from t4) (show 0 ≤ x15.toInt by first | with_reducible assumption | omega) (show x15.toInt ≤ 4 by first | with_reducible assumption | omega) (show ∀ k : Int, 0 ≤ k → k < x15.toInt → ¬ mLf1 w0 k a1.toInt a2.toInt from all_step hcr2_0 (show ¬ mLf1 w0 v2_3.toInt a1.toInt a2.toInt by unfold mLf1; simp only [c8, c13]; omega) (by omega)) (show (4 - x15.toInt).toNat < n2 by first | exact tn_lt hm2 (by omega) (by omega) | omega) hw  hM (lv_sub hl [2, 3, 4, 0] rfl)
        · have c14 : x12.toInt = a1.toInt := wk_eq.mp c14
          replace hM := hM.neg (fun q => q c14)
          refine lv_iload_n hx hb dX12_isLifted_32 rfl (lv_at hl 3 rfl) ?_
          refine lv_bipush (v := 24) hx hb dX12_isLifted_33 (by decide) ?_
          refine lv_irem hx hb dX12_isLifted_35 (by decide) ?_
          refine lv_topi (fun x16 ex16 => ?_)
          have ezx16 := ex16
          have ex16 : x16.toInt = a2.toInt % (24 : Int) := by rw [ex16]; exact wk_rem (show 0 ≤ a2.toInt from r3) (show 0 < (24 : Int) by decide)
          replace hM := hM.lt ex16.symm
          refine lv_aload_n hx hb dX12_isLifted_36 rfl (lv_at hl 1 rfl) ?_
          refine tk_getA hC hK hw hT hinX12 kM_at0 (by decide) rfl 26 (by decide) (List.mem_cons_of_mem _ uw_7_1) rfl rfl dX12_isLifted_37 ?_
          refine lv_iload hx hb dX12_isLifted_40 (lv_at hl 0 rfl) ?_
          refine lv_iconst (v := 1) hx hb dX12_isLifted_42 (by decide) ?_
          refine lv_iadd hx hb dX12_isLifted_43 ?_
          refine lv_topi (fun x17 ex17 => ?_)
          have ezx17 := ex17
          have ex17 : x17.toInt = x11.toInt + (1 : Int) := by rw [ex17]; exact wk_add (show (-2147483648) ≤ x11.toInt + (1 : Int) by omega) (show x11.toInt + (1 : Int) ≤ 2147483647 by omega)
          replace hM := hM.lt ex17.symm
          refine tk_ialdR hC hK hw hT kM_at12 rfl (show 0 ≤ x17.toInt by first | with_reducible assumption | omega) (show x17.toInt < 296 by first | with_reducible assumption | omega) dX12_isLifted_44 (fun x18 c19 Ex18 => ?_)
          have hox18 := c19
          have c19 : gi w0 12 (3 * v2_3.toInt + 157).toNat = x18 := (congrArg (gi w0 12) (congrArg Int.toNat (show 3 * v2_3.toInt + 157 = x17.toInt by first | exact Int.le_antisymm (by omega) (by omega) | omega))).trans c19
          replace hM := hM.rd (sI_at hox18)
          refine lv_icmp_lt (tgt := 66) hx hb dX12_isLifted_45 (by decide) (fun c20 => ?_) (fun c20 => ?_)
          · have c20 : x16.toInt < x18.toInt := wk_lt.mp c20
            replace hM := hM.pos c20
            obtain ⟨x21, ex21⟩ : ∃ y : Int32, y = v2_3 + Int32.ofInt 1 := ⟨_, rfl⟩
            have erx21 := ex21
            refine lv_iinc (v := x21) (lv' := [(3, .int x21), (4, .int x11), (0, .ref (ad 0)), (1, .int a1), (2, .int a2)]) hx hb dX12_isLifted_66 hl (k := 4) rfl ex21.symm (by decide) rfl (fun ls hl => ?_)
            have ex21 : x21.toInt = v2_3.toInt + 1 := by rw [ex21]; exact wk_add (y := 1) (show -2147483648 ≤ v2_3.toInt + 1 by omega) (show v2_3.toInt + 1 ≤ 2147483647 by omega)
            replace hM := hM.lt ex21.symm
            refine lv_goto (tgt := 2) hx hb dX12_isLifted_69 (by decide) ?_
            exact ih2 x21 H locs ls  (show 0 ≤ a1.toInt from r1) (show a1.toInt ≤ 12 from t2) (show 0 ≤ a2.toInt from r3) (show a2.toInt ≤ 101999 from t4) (show 0 ≤ x21.toInt by first | with_reducible assumption | omega) (show x21.toInt ≤ 4 by first | with_reducible assumption | omega) (show ∀ k : Int, 0 ≤ k → k < x21.toInt → ¬ mLf1 w0 k a1.toInt a2.toInt from all_step hcr2_0 (show ¬ mLf1 w0 v2_3.toInt a1.toInt a2.toInt by unfold mLf1; simp only [c8, c13, c19]; omega) (by omega)) (show (4 - x21.toInt).toNat < n2 by first | exact tn_lt hm2 (by omega) (by omega) | omega) hw  hM (lv_sub hl [2, 3, 4, 0] rfl)
          · have c20 : x18.toInt ≤ x16.toInt := wk_ltF c20
            replace hM := hM.neg (Int.not_lt.mpr c20)
            refine lv_iload_n hx hb dX12_isLifted_48 rfl (lv_at hl 3 rfl) ?_
            refine lv_bipush (v := 24) hx hb dX12_isLifted_49 (by decide) ?_
            refine lv_irem hx hb dX12_isLifted_51 (by decide) ?_
            refine lv_topi (fun x22 ex22 => ?_)
            have ezx22 := ex22
            have ex22 : x22.toInt = a2.toInt % (24 : Int) := by rw [ex22]; exact wk_rem (show 0 ≤ a2.toInt from r3) (show 0 < (24 : Int) by decide)
            replace hM := hM.lt ex22.symm
            refine lv_aload_n hx hb dX12_isLifted_52 rfl (lv_at hl 1 rfl) ?_
            refine tk_getA hC hK hw hT hinX12 kM_at0 (by decide) rfl 26 (by decide) (List.mem_cons_of_mem _ uw_7_1) rfl rfl dX12_isLifted_53 ?_
            refine lv_iload hx hb dX12_isLifted_56 (lv_at hl 0 rfl) ?_
            refine lv_iconst (v := 2) hx hb dX12_isLifted_58 (by decide) ?_
            refine lv_iadd hx hb dX12_isLifted_59 ?_
            refine lv_topi (fun x23 ex23 => ?_)
            have ezx23 := ex23
            have ex23 : x23.toInt = x11.toInt + (2 : Int) := by rw [ex23]; exact wk_add (show (-2147483648) ≤ x11.toInt + (2 : Int) by omega) (show x11.toInt + (2 : Int) ≤ 2147483647 by omega)
            replace hM := hM.lt ex23.symm
            refine tk_ialdR hC hK hw hT kM_at12 rfl (show 0 ≤ x23.toInt by first | with_reducible assumption | omega) (show x23.toInt < 296 by first | with_reducible assumption | omega) dX12_isLifted_60 (fun x24 c25 Ex24 => ?_)
            have hox24 := c25
            have c25 : gi w0 12 (3 * v2_3.toInt + 158).toNat = x24 := (congrArg (gi w0 12) (congrArg Int.toNat (show 3 * v2_3.toInt + 158 = x23.toInt by first | exact Int.le_antisymm (by omega) (by omega) | omega))).trans c25
            replace hM := hM.rd (sI_at hox24)
            refine lv_icmp_ge (tgt := 66) hx hb dX12_isLifted_61 (by decide) (fun c26 => ?_) (fun c26 => ?_)
            · have c26 : x24.toInt ≤ x22.toInt := wk_le.mp c26
              replace hM := hM.pos c26
              obtain ⟨x27, ex27⟩ : ∃ y : Int32, y = v2_3 + Int32.ofInt 1 := ⟨_, rfl⟩
              have erx27 := ex27
              refine lv_iinc (v := x27) (lv' := [(3, .int x27), (4, .int x11), (0, .ref (ad 0)), (1, .int a1), (2, .int a2)]) hx hb dX12_isLifted_66 hl (k := 4) rfl ex27.symm (by decide) rfl (fun ls hl => ?_)
              have ex27 : x27.toInt = v2_3.toInt + 1 := by rw [ex27]; exact wk_add (y := 1) (show -2147483648 ≤ v2_3.toInt + 1 by omega) (show v2_3.toInt + 1 ≤ 2147483647 by omega)
              replace hM := hM.lt ex27.symm
              refine lv_goto (tgt := 2) hx hb dX12_isLifted_69 (by decide) ?_
              exact ih2 x27 H locs ls  (show 0 ≤ a1.toInt from r1) (show a1.toInt ≤ 12 from t2) (show 0 ≤ a2.toInt from r3) (show a2.toInt ≤ 101999 from t4) (show 0 ≤ x27.toInt by first | with_reducible assumption | omega) (show x27.toInt ≤ 4 by first | with_reducible assumption | omega) (show ∀ k : Int, 0 ≤ k → k < x27.toInt → ¬ mLf1 w0 k a1.toInt a2.toInt from all_step hcr2_0 (show ¬ mLf1 w0 v2_3.toInt a1.toInt a2.toInt by unfold mLf1; simp only [c8, c13, c19, c25]; omega) (by omega)) (show (4 - x27.toInt).toNat < n2 by first | exact tn_lt hm2 (by omega) (by omega) | omega) hw  hM (lv_sub hl [2, 3, 4, 0] rfl)
            · have c26 : x22.toInt < x24.toInt := wk_leF c26
              replace hM := hM.neg (Int.not_le.mpr c26)
              refine lv_iconst (v := 1) hx hb dX12_isLifted_64 (by decide) ?_
              exact tk_zret hC hr rfl hlocks hK ⟨rfl, hM.ret (by decide), (Or.inr ⟨rfl, ⟨x7, c8, (show 1 ≤ x7.toInt by first | with_reducible assumption | omega), (show x7.toInt ≤ 4 by first | with_reducible assumption | omega)⟩, (by exact ⟨v2_3.toInt, by omega, by simp only [c8, c13, c19, c25]; omega, by unfold mLf1; simp only [c8, c13, c19, c25]; omega⟩)⟩)⟩ hw dX12_isLifted_65
  have hM : TT (fun n => m_X12_isLifted n 0 a1.toInt a2.toInt (sI w0)) (fun n => m_X12_isLifted n 0 a1.toInt a2.toInt (sI w0)) := TT.rf
  refine lv_iconst (v := 0) hx hb dX12_isLifted_0 (by decide) ?_
  refine lv_istore_n (lv' := [(3, .int 0), (0, .ref (ad 0)), (1, .int a1), (2, .int a2)]) hx hb dX12_isLifted_1 rfl hl (by decide) rfl (fun ls hl => ?_)
  exact L2 ((4 - (0 : Int)).toNat + 1) 0 s.heap locs ls  (show 0 ≤ a1.toInt from ra1) (show a1.toInt ≤ 12 from ta1) (show 0 ≤ a2.toInt from ra2) (show a2.toInt ≤ 101999 from ta2) (by decide) (by decide) (show ∀ k : Int, 0 ≤ k → k < (0 : Int) → ¬ mLf1 w0 k a1.toInt a2.toInt from all_none) (Nat.lt_succ_self _) hw  hM (lv_sub hl [1, 2, 3, 0] rfl)
abbrev Pz_X12_firstOpen_1 (ad : Nat → Nat) (cy : Nat → ClassId) (B : Int) (qr : Nat) (s1 : Int) (a1 : Int32) (a2 : Int32) (a3 : Int32) (a4 : Int32) (w0 : va_W) : Int32 → va_W → Prop := fun r u => w0 = u ∧ Ev (fun n => m_X12_firstOpen n 0 a1.toInt a2.toInt a3.toInt a4.toInt (sI w0)) (r.toInt, sI w0) ∧ ((0 ≤ r.toInt ∧ r.toInt ≤ 100000000) ∨ (0 ≤ r.toInt ∧ r.toInt ≤ 101999 ∧ gi u 12 (10 * a1.toInt + 10).toNat = a2))
set_option maxHeartbeats 4000000 in
set_option maxRecDepth 100000 in
theorem kz_X12_firstOpen_1 (l : Launch) (adK adV : Nat → Nat) (dC : Nat → ClassId) (dI : Nat → Nat → Nat) (cy : Nat → ClassId) (ad : Nat → Nat) (B : Int) (hB0 : 100000 ≤ B) (hB1 : B ≤ 1073741824) (qr : Nat) (s1 : Int)  (a1 : Int32) (ra1 : 0 ≤ a1.toInt) (ta1 : a1.toInt ≤ 12) (a2 : Int32) (ra2 : 0 ≤ a2.toInt) (ta2 : a2.toInt ≤ 9) (a3 : Int32) (ra3 : 0 ≤ a3.toInt) (ta3 : a3.toInt ≤ 100000100) (a4 : Int32) (ra4 : 2000 ≤ a4.toInt) (ta4 : a4.toInt ≤ 101999) (w0 : va_W) (sz : Nat) (hT : TW ksM ad cy B qr 13 w0)  : Met l yX12_firstOpen (wu yX12_firstOpen cX12_firstOpen 6 (some .int)) ({ frames := 4, cells := 0, slots := 0, locals := 80 }) (va_Pc [.ref (ad 0), .int a1, .int a2, .int a3, .int a4] (wpreS adK adV dC dI cy sz w0)) (va_Qi (Pz_X12_firstOpen_1 ad cy B qr s1 a1 a2 a3 a4 w0) (fun u : va_W => wpost dC dI cy (va_A w0 sz) u) (va_A w0 sz)) 0 0 (va_A w0 sz) := by
  refine Met.ofW (cc := cX12_firstOpen) (maxL := 6) (ret := (some .int)) (by decide) rfl ?_
  intro p e s m args below meth c s₁ Bk hml hv
  obtain ⟨rfl, ⟨hsz, hP, hK, hD0⟩, hE, hSR⟩ := hv
  have hx := Bk.exec
  have hb := Bk.bytes
  have hr := Bk.returns
  have hlocks := Bk.notSynchronized
  have hC : CallFix p m c cX12_firstOpen 6 s _ (wu yX12_firstOpen cX12_firstOpen 6 (some .int)) RX12 := ⟨hx, hb, hml, findClass_of_methodNamed Bk.named, atoms_spec (ws := (wu yX12_firstOpen cX12_firstOpen 6 (some .int))) Bk.pre⟩
  subst hsz
  have hD := hD0.self (sz := s.heap.size)
  generalize hAe : va_A w0 s.heap.size = A at hD hE ⊢
  have hA : ∀ q : Nat, s.heap.size ≤ q → A q := fun q h => by rw [← hAe]; exact Or.inr h
  have hw : Wd dC dI A s.heap s.heap [] w0 := ⟨hP, hD, va_S.rf⟩
  have hF : FE ksM ([] : List (Nat × Nat × Nat)) w0 w0 := FE.rf
  have hl := lv_entry ([.ref (ad 0), .int a1, .int a2, .int a3, .int a4]) (n := 6) (Nat.le_of_ble_eq_true rfl)
  rw [lg_entry_eq]
  generalize (lg_sl ([.ref (ad 0), .int a1, .int a2, .int a3, .int a4]) ++ List.replicate (6 - (lg_sl ([.ref (ad 0), .int a1, .int a2, .int a3, .int a4])).length) Slot.unset).toArray = ls at hl ⊢
  have hl : lv_has ls 6 [(0, .ref (ad 0)), (1, .int a1), (2, .int a2), (3, .int a3), (4, .int a4)] := hl
  generalize hloc : ([] : List Loc) = locs at hw ⊢
  have L3 : ∀ (n3 : Nat) (v3_5 : Int32) (H : Heap) (locs : List Loc) (ls : Array Slot), 0 ≤ a1.toInt → a1.toInt ≤ 12 → 0 ≤ a2.toInt → a2.toInt ≤ 9 → 0 ≤ a3.toInt → a3.toInt ≤ 100000100 → 2000 ≤ a4.toInt → a4.toInt ≤ 101999 → 0 ≤ v3_5.toInt → v3_5.toInt ≤ 100000100 → (100000100 - v3_5.toInt).toNat < n3 → Wd dC dI A s.heap H locs w0 → TT (fun n => m_X12_firstOpen n 0 a1.toInt a2.toInt a3.toInt a4.toInt (sI w0)) (fun n => j_X12_firstOpen 0 n 3 [a1.toInt, a2.toInt, a4.toInt, v3_5.toInt] (sI w0)) → lv_has ls 6 [(0, .ref (ad 0)), (1, .int a1), (2, .int a2), (3, .int a3), (4, .int a4), (5, .int v3_5)] → W p l e ({ frames := 4, cells := 0, slots := 0, locals := 80 }) s m (List.toArray [.ref (ad 0), .int a1, .int a2, .int a3, .int a4]) below meth c H locs 0 0 (MQ below (va_Qi (Pz_X12_firstOpen_1 ad cy B qr s1 a1 a2 a3 a4 w0) (fun u : va_W => wpost dC dI cy A u) A) (List.toArray [.ref (ad 0), .int a1, .int a2, .int a3, .int a4]) s 0 0 A) (F0 m 3 ls []) := by
    intro n3
    induction n3 with
    | zero => intro v3_5 H locs ls r1 t2 r3 t4 r5 t6 r7 t8 r9 t10 hm3 hw hM hl; omega
    | succ n3 ih3 =>
      intro v3_5 H locs ls r1 t2 r3 t4 r5 t6 r7 t8 r9 t10 hm3 hw hM hl
      replace hM := hM.suc (fun _ => e_X12_firstOpen_3)
      refine lv_iload hx hb dX12_firstOpen_3 (lv_at hl 5 rfl) ?_
      refine lv_iload hx hb dX12_firstOpen_5 (lv_at hl 4 rfl) ?_
      refine lv_icmp_gt (tgt := 58) hx hb dX12_firstOpen_7 (by decide) (fun c11 => ?_) (fun c11 => ?_)
      · have c11 : a4.toInt < v3_5.toInt := wk_lt.mp c11
        replace hM := hM.pos c11
        refine lv_ldcw (v := 100000000) hx hb hC.2.2.2.1 (hC.2.2.2.2 _ (List.mem_cons_of_mem _ uw_38_2)) dX12_firstOpen_58 ?_
        exact tk_iret hC hr hlocks hK ⟨rfl, hM.ret (by decide), (Or.inl ⟨(by decide), (by decide)⟩)⟩ hw dX12_firstOpen_61
      · have c11 : v3_5.toInt ≤ a4.toInt := wk_ltF c11
        replace hM := hM.neg (Int.not_lt.mpr c11)
        refine lv_aload_n hx hb dX12_firstOpen_10 rfl (lv_at hl 0 rfl) ?_
        refine lv_iload_n hx hb dX12_firstOpen_11 rfl (lv_at hl 1 rfl) ?_
        refine lv_iload_n hx hb dX12_firstOpen_12 rfl (lv_at hl 2 rfl) ?_
        refine lv_iload hx hb dX12_firstOpen_13 (lv_at hl 5 rfl) ?_
        refine lv_bipush (v := 24) hx hb dX12_firstOpen_15 (by decide) ?_
        refine lv_idiv hx hb dX12_firstOpen_17 (by decide) ?_
        refine lv_topi (fun x12 ex12 => ?_)
        have ezx12 := ex12
        have ex12 : x12.toInt = v3_5.toInt / (24 : Int) := by rw [ex12]; exact wk_div (show 0 ≤ v3_5.toInt from r9) (show 0 < (24 : Int) by decide)
        replace hM := hM.lt ex12.symm
        refine tk_Vi hC hK hw hT hA hE hSR kM_at0 (by decide) rfl (kz_X12_isDayFor_1 l adK adV dC dI cy ad B hB0 (Int.le_trans hB1 (by decide)) qr s1   a1 (show 0 ≤ a1.toInt from r1) (show a1.toInt ≤ 12 from t2) a2 (show 0 ≤ a2.toInt from r3) (show a2.toInt ≤ 9 from t4) x12 (show 0 ≤ x12.toInt by first | with_reducible assumption | omega) (show x12.toInt ≤ 4249 by first | with_reducible assumption | omega) w0 H.size hT ) (cwV 3 hC.2.2.2.2 uV_RX12_317 rfl rfl rfl (by decide +kernel) ⟨Nat.le_of_ble_eq_true rfl, Nat.le_of_ble_eq_true rfl⟩) rfl hl.1 rfl (Nat.le_of_ble_eq_true rfl) dX12_firstOpen_18 (fun r13 w15 H locs hp14 hw => ?_)
        obtain ⟨rfl, hv24, hg23⟩ := hp14
        rcases hg23 with ⟨rfl, hq17⟩ | ⟨rfl, c18, hq19⟩ | ⟨rfl, hq20⟩ | ⟨rfl, c21, hq22⟩
        · replace hM := hM.call (r' := 0) hv24 (by decide)
          refine lv_if_ne (tgt := 39) hx hb dX12_firstOpen_21 (by decide) (fun c => absurd (by decide) c) (fun _ => ?_)
          replace hM := hM.neg (by decide)
          refine lv_iload hx hb dX12_firstOpen_24 (lv_at hl 5 rfl) ?_
          refine lv_bipush (v := 24) hx hb dX12_firstOpen_26 (by decide) ?_
          refine lv_idiv hx hb dX12_firstOpen_28 (by decide) ?_
          refine lv_topi (fun x25 ex25 => ?_)
          have ezx25 := ex25
          have ex25 : x25.toInt = v3_5.toInt / (24 : Int) := by rw [ex25]; exact wk_div (show 0 ≤ v3_5.toInt from r9) (show 0 < (24 : Int) by decide)
          replace hM := hM.lt ex25.symm
          refine lv_iconst (v := 1) hx hb dX12_firstOpen_29 (by decide) ?_
          refine lv_iadd hx hb dX12_firstOpen_30 ?_
          refine lv_topi (fun x26 ex26 => ?_)
          have ezx26 := ex26
          have ex26 : x26.toInt = x25.toInt + (1 : Int) := by rw [ex26]; exact wk_add (show (-2147483648) ≤ x25.toInt + (1 : Int) by omega) (show x25.toInt + (1 : Int) ≤ 2147483647 by omega)
          replace hM := hM.lt ex26.symm
          refine lv_bipush (v := 24) hx hb dX12_firstOpen_31 (by decide) ?_
          refine lv_imul hx hb dX12_firstOpen_33 ?_
          refine lv_topi (fun x27 ex27 => ?_)
          have ezx27 := ex27
          have ex27 : x27.toInt = x26.toInt * (24 : Int) := by rw [ex27]; exact wk_mul (show (-2147483648) ≤ x26.toInt * (24 : Int) by omega) (show x26.toInt * (24 : Int) ≤ 2147483647 by omega)
          replace hM := hM.lt ex27.symm
          refine lv_istore (lv' := [(5, .int x27), (0, .ref (ad 0)), (1, .int a1), (2, .int a2), (3, .int a3), (4, .int a4)]) hx hb dX12_firstOpen_34 hl (by decide) rfl (fun ls hl => ?_)
          refine lv_goto (tgt := 3) hx hb dX12_firstOpen_36 (by decide) ?_
          exact ih3 x27 H locs ls  (show 0 ≤ a1.toInt from r1) (show a1.toInt ≤ 12 from t2) (show 0 ≤ a2.toInt from r3) (show a2.toInt ≤ 9 from t4) (show 0 ≤ a3.toInt from r5) (show a3.toInt ≤ 100000100 from t6) (show 2000 ≤ a4.toInt from r7) (show a4.toInt ≤ 101999 from t8) (show 0 ≤ x27.toInt by first | with_reducible assumption | omega) (show x27.toInt ≤ 100000100 by first | with_reducible assumption | omega) (show (100000100 - x27.toInt).toNat < n3 by first | exact tn_lt hm3 (by omega) (by omega) | omega) hw  hM (lv_sub hl [1, 2, 3, 4, 5, 0] rfl)
        · replace hM := hM.call (r' := 0) hv24 (by decide)
          refine lv_if_ne (tgt := 39) hx hb dX12_firstOpen_21 (by decide) (fun c => absurd (by decide) c) (fun _ => ?_)
          replace hM := hM.neg (by decide)
          refine lv_iload hx hb dX12_firstOpen_24 (lv_at hl 5 rfl) ?_
          refine lv_bipush (v := 24) hx hb dX12_firstOpen_26 (by decide) ?_
          refine lv_idiv hx hb dX12_firstOpen_28 (by decide) ?_
          refine lv_topi (fun x28 ex28 => ?_)
          have ezx28 := ex28
          have ex28 : x28.toInt = v3_5.toInt / (24 : Int) := by rw [ex28]; exact wk_div (show 0 ≤ v3_5.toInt from r9) (show 0 < (24 : Int) by decide)
          replace hM := hM.lt ex28.symm
          refine lv_iconst (v := 1) hx hb dX12_firstOpen_29 (by decide) ?_
          refine lv_iadd hx hb dX12_firstOpen_30 ?_
          refine lv_topi (fun x29 ex29 => ?_)
          have ezx29 := ex29
          have ex29 : x29.toInt = x28.toInt + (1 : Int) := by rw [ex29]; exact wk_add (show (-2147483648) ≤ x28.toInt + (1 : Int) by omega) (show x28.toInt + (1 : Int) ≤ 2147483647 by omega)
          replace hM := hM.lt ex29.symm
          refine lv_bipush (v := 24) hx hb dX12_firstOpen_31 (by decide) ?_
          refine lv_imul hx hb dX12_firstOpen_33 ?_
          refine lv_topi (fun x30 ex30 => ?_)
          have ezx30 := ex30
          have ex30 : x30.toInt = x29.toInt * (24 : Int) := by rw [ex30]; exact wk_mul (show (-2147483648) ≤ x29.toInt * (24 : Int) by omega) (show x29.toInt * (24 : Int) ≤ 2147483647 by omega)
          replace hM := hM.lt ex30.symm
          refine lv_istore (lv' := [(5, .int x30), (0, .ref (ad 0)), (1, .int a1), (2, .int a2), (3, .int a3), (4, .int a4)]) hx hb dX12_firstOpen_34 hl (by decide) rfl (fun ls hl => ?_)
          refine lv_goto (tgt := 3) hx hb dX12_firstOpen_36 (by decide) ?_
          exact ih3 x30 H locs ls  (show 0 ≤ a1.toInt from r1) (show a1.toInt ≤ 12 from t2) (show 0 ≤ a2.toInt from r3) (show a2.toInt ≤ 9 from t4) (show 0 ≤ a3.toInt from r5) (show a3.toInt ≤ 100000100 from t6) (show 2000 ≤ a4.toInt from r7) (show a4.toInt ≤ 101999 from t8) (show 0 ≤ x30.toInt by first | with_reducible assumption | omega) (show x30.toInt ≤ 100000100 by first | with_reducible assumption | omega) (show (100000100 - x30.toInt).toNat < n3 by first | exact tn_lt hm3 (by omega) (by omega) | omega) hw  hM (lv_sub hl [1, 2, 3, 4, 5, 0] rfl)
        · replace hM := hM.call (r' := 1) hv24 (by decide)
          refine lv_if_ne (tgt := 39) hx hb dX12_firstOpen_21 (by decide) (fun _ => ?_) (fun c => absurd c (by decide))
          replace hM := hM.pos (by decide)
          refine lv_aload_n hx hb dX12_firstOpen_39 rfl (lv_at hl 0 rfl) ?_
          refine lv_iload_n hx hb dX12_firstOpen_40 rfl (lv_at hl 1 rfl) ?_
          refine lv_iload hx hb dX12_firstOpen_41 (lv_at hl 5 rfl) ?_
          refine tk_Vi hC hK hw hT hA hE hSR kM_at0 (by decide) rfl (kz_X12_isLifted_1 l adK adV dC dI cy ad B hB0 (Int.le_trans hB1 (by decide)) qr s1   a1 (show 0 ≤ a1.toInt from r1) (show a1.toInt ≤ 12 from t2) v3_5 (show 0 ≤ v3_5.toInt from r9) (show v3_5.toInt ≤ 101999 by first | with_reducible assumption | omega) w0 H.size hT ) (cwV 2 hC.2.2.2.2 uV_RX12_320 rfl rfl rfl (by decide +kernel) ⟨Nat.le_of_ble_eq_true rfl, Nat.le_of_ble_eq_true rfl⟩) rfl hl.1 rfl (Nat.le_of_ble_eq_true rfl) dX12_firstOpen_43 (fun r31 w33 H locs hp32 hw => ?_)
          obtain ⟨rfl, hv40, hg39⟩ := hp32
          rcases hg39 with ⟨rfl, hq35⟩ | ⟨rfl, ⟨x36, c37, rx36, tx36⟩, hq38⟩
          · replace hM := hM.call (r' := 0) hv40 (by decide)
            refine lv_if_eq (tgt := 55) hx hb dX12_firstOpen_46 (by decide) (fun _ => ?_) (fun c => absurd (by decide) c)
            replace hM := hM.pos (by decide)
            refine lv_iload hx hb dX12_firstOpen_55 (lv_at hl 5 rfl) ?_
            exact tk_iret hC hr hlocks hK ⟨rfl, hM.ret rfl, (Or.inl ⟨(show 0 ≤ v3_5.toInt from r9), (show v3_5.toInt ≤ 100000000 by first | with_reducible assumption | omega)⟩)⟩ hw dX12_firstOpen_57
          · replace hM := hM.call (r' := 1) hv40 (by decide)
            refine lv_if_eq (tgt := 55) hx hb dX12_firstOpen_46 (by decide) (fun c => absurd c (by decide)) (fun _ => ?_)
            replace hM := hM.neg (by decide)
            obtain ⟨x41, ex41⟩ : ∃ y : Int32, y = v3_5 + Int32.ofInt 1 := ⟨_, rfl⟩
            have erx41 := ex41
            refine lv_iinc (v := x41) (lv' := [(5, .int x41), (0, .ref (ad 0)), (1, .int a1), (2, .int a2), (3, .int a3), (4, .int a4)]) hx hb dX12_firstOpen_49 hl (k := 5) rfl ex41.symm (by decide) rfl (fun ls hl => ?_)
            have ex41 : x41.toInt = v3_5.toInt + 1 := by rw [ex41]; exact wk_add (y := 1) (show -2147483648 ≤ v3_5.toInt + 1 by omega) (show v3_5.toInt + 1 ≤ 2147483647 by omega)
            replace hM := hM.lt ex41.symm
            refine lv_goto (tgt := 3) hx hb dX12_firstOpen_52 (by decide) ?_
            exact ih3 x41 H locs ls  (show 0 ≤ a1.toInt from r1) (show a1.toInt ≤ 12 from t2) (show 0 ≤ a2.toInt from r3) (show a2.toInt ≤ 9 from t4) (show 0 ≤ a3.toInt from r5) (show a3.toInt ≤ 100000100 from t6) (show 2000 ≤ a4.toInt from r7) (show a4.toInt ≤ 101999 from t8) (show 0 ≤ x41.toInt by first | with_reducible assumption | omega) (show x41.toInt ≤ 100000100 by first | with_reducible assumption | omega) (show (100000100 - x41.toInt).toNat < n3 by first | exact tn_lt hm3 (by omega) (by omega) | omega) hw  hM (lv_sub hl [1, 2, 3, 4, 5, 0] rfl)
        · replace hM := hM.call (r' := 1) hv24 (by decide)
          refine lv_if_ne (tgt := 39) hx hb dX12_firstOpen_21 (by decide) (fun _ => ?_) (fun c => absurd c (by decide))
          replace hM := hM.pos (by decide)
          refine lv_aload_n hx hb dX12_firstOpen_39 rfl (lv_at hl 0 rfl) ?_
          refine lv_iload_n hx hb dX12_firstOpen_40 rfl (lv_at hl 1 rfl) ?_
          refine lv_iload hx hb dX12_firstOpen_41 (lv_at hl 5 rfl) ?_
          refine tk_Vi hC hK hw hT hA hE hSR kM_at0 (by decide) rfl (kz_X12_isLifted_1 l adK adV dC dI cy ad B hB0 (Int.le_trans hB1 (by decide)) qr s1   a1 (show 0 ≤ a1.toInt from r1) (show a1.toInt ≤ 12 from t2) v3_5 (show 0 ≤ v3_5.toInt from r9) (show v3_5.toInt ≤ 101999 by first | with_reducible assumption | omega) w0 H.size hT ) (cwV 2 hC.2.2.2.2 uV_RX12_320 rfl rfl rfl (by decide +kernel) ⟨Nat.le_of_ble_eq_true rfl, Nat.le_of_ble_eq_true rfl⟩) rfl hl.1 rfl (Nat.le_of_ble_eq_true rfl) dX12_firstOpen_43 (fun r42 w44 H locs hp43 hw => ?_)
          obtain ⟨rfl, hv51, hg50⟩ := hp43
          rcases hg50 with ⟨rfl, hq46⟩ | ⟨rfl, ⟨x47, c48, rx47, tx47⟩, hq49⟩
          · replace hM := hM.call (r' := 0) hv51 (by decide)
            refine lv_if_eq (tgt := 55) hx hb dX12_firstOpen_46 (by decide) (fun _ => ?_) (fun c => absurd (by decide) c)
            replace hM := hM.pos (by decide)
            refine lv_iload hx hb dX12_firstOpen_55 (lv_at hl 5 rfl) ?_
            exact tk_iret hC hr hlocks hK ⟨rfl, hM.ret rfl, (Or.inr ⟨(show 0 ≤ v3_5.toInt from r9), (show v3_5.toInt ≤ 101999 by first | with_reducible assumption | omega), c21⟩)⟩ hw dX12_firstOpen_57
          · replace hM := hM.call (r' := 1) hv51 (by decide)
            refine lv_if_eq (tgt := 55) hx hb dX12_firstOpen_46 (by decide) (fun c => absurd c (by decide)) (fun _ => ?_)
            replace hM := hM.neg (by decide)
            obtain ⟨x52, ex52⟩ : ∃ y : Int32, y = v3_5 + Int32.ofInt 1 := ⟨_, rfl⟩
            have erx52 := ex52
            refine lv_iinc (v := x52) (lv' := [(5, .int x52), (0, .ref (ad 0)), (1, .int a1), (2, .int a2), (3, .int a3), (4, .int a4)]) hx hb dX12_firstOpen_49 hl (k := 5) rfl ex52.symm (by decide) rfl (fun ls hl => ?_)
            have ex52 : x52.toInt = v3_5.toInt + 1 := by rw [ex52]; exact wk_add (y := 1) (show -2147483648 ≤ v3_5.toInt + 1 by omega) (show v3_5.toInt + 1 ≤ 2147483647 by omega)
            replace hM := hM.lt ex52.symm
            refine lv_goto (tgt := 3) hx hb dX12_firstOpen_52 (by decide) ?_
            exact ih3 x52 H locs ls  (show 0 ≤ a1.toInt from r1) (show a1.toInt ≤ 12 from t2) (show 0 ≤ a2.toInt from r3) (show a2.toInt ≤ 9 from t4) (show 0 ≤ a3.toInt from r5) (show a3.toInt ≤ 100000100 from t6) (show 2000 ≤ a4.toInt from r7) (show a4.toInt ≤ 101999 from t8) (show 0 ≤ x52.toInt by first | with_reducible assumption | omega) (show x52.toInt ≤ 100000100 by first | with_reducible assumption | omega) (show (100000100 - x52.toInt).toNat < n3 by first | exact tn_lt hm3 (by omega) (by omega) | omega) hw  hM (lv_sub hl [1, 2, 3, 4, 5, 0] rfl)
  have hM : TT (fun n => m_X12_firstOpen n 0 a1.toInt a2.toInt a3.toInt a4.toInt (sI w0)) (fun n => m_X12_firstOpen n 0 a1.toInt a2.toInt a3.toInt a4.toInt (sI w0)) := TT.rf
  refine lv_iload_n hx hb dX12_firstOpen_0 rfl (lv_at hl 3 rfl) ?_
  refine lv_istore (lv' := [(5, .int a3), (0, .ref (ad 0)), (1, .int a1), (2, .int a2), (3, .int a3), (4, .int a4)]) hx hb dX12_firstOpen_1 hl (by decide) rfl (fun ls hl => ?_)
  exact L3 ((100000100 - a3.toInt).toNat + 1) a3 s.heap locs ls  (show 0 ≤ a1.toInt from ra1) (show a1.toInt ≤ 12 from ta1) (show 0 ≤ a2.toInt from ra2) (show a2.toInt ≤ 9 from ta2) (show 0 ≤ a3.toInt from ra3) (show a3.toInt ≤ 100000100 from ta3) (show 2000 ≤ a4.toInt from ra4) (show a4.toInt ≤ 101999 from ta4) (show 0 ≤ a3.toInt from ra3) (show a3.toInt ≤ 100000100 from ta3) (Nat.lt_succ_self _) hw  hM (lv_sub hl [1, 2, 3, 4, 5, 0] rfl)
abbrev Pz_X12_otherOf_1 (ad : Nat → Nat) (cy : Nat → ClassId) (B : Int) (qr : Nat) (s1 : Int) (a1 : Int32) (a2 : Int32) (w0 : va_W) : Int32 → va_W → Prop := fun r u => w0 = u ∧ Ev (fun n => m_X12_otherOf n 0 a1.toInt a2.toInt (sI w0)) (r.toInt, sI w0) ∧ ((0 ≤ r.toInt ∧ r.toInt ≤ 9) ∨ (0 ≤ r.toInt ∧ r.toInt ≤ 9 ∧ gi u 12 (10 * a1.toInt + 10).toNat = a2))
set_option maxHeartbeats 4000000 in
set_option maxRecDepth 100000 in
theorem kz_X12_otherOf_1 (l : Launch) (adK adV : Nat → Nat) (dC : Nat → ClassId) (dI : Nat → Nat → Nat) (cy : Nat → ClassId) (ad : Nat → Nat) (B : Int) (hB0 : 100000 ≤ B) (hB1 : B ≤ 1073741824) (qr : Nat) (s1 : Int)  (a1 : Int32) (ra1 : 0 ≤ a1.toInt) (ta1 : a1.toInt ≤ 12) (a2 : Int32) (ra2 : 0 ≤ a2.toInt) (ta2 : a2.toInt ≤ 9) (w0 : va_W) (sz : Nat) (hT : TW ksM ad cy B qr 13 w0)  : Met l yX12_otherOf (wu yX12_otherOf cX12_otherOf 3 (some .int)) ({ frames := 2, cells := 0, slots := 0, locals := 34 }) (va_Pc [.ref (ad 0), .int a1, .int a2] (wpreS adK adV dC dI cy sz w0)) (va_Qi (Pz_X12_otherOf_1 ad cy B qr s1 a1 a2 w0) (fun u : va_W => wpost dC dI cy (va_A w0 sz) u) (va_A w0 sz)) 0 0 (va_A w0 sz) := by
  refine Met.ofW (cc := cX12_otherOf) (maxL := 3) (ret := (some .int)) (by decide) rfl ?_
  intro p e s m args below meth c s₁ Bk hml hv
  obtain ⟨rfl, ⟨hsz, hP, hK, hD0⟩, hE, hSR⟩ := hv
  have hx := Bk.exec
  have hb := Bk.bytes
  have hr := Bk.returns
  have hlocks := Bk.notSynchronized
  have hC : CallFix p m c cX12_otherOf 3 s _ (wu yX12_otherOf cX12_otherOf 3 (some .int)) RX12 := ⟨hx, hb, hml, findClass_of_methodNamed Bk.named, atoms_spec (ws := (wu yX12_otherOf cX12_otherOf 3 (some .int))) Bk.pre⟩
  subst hsz
  have hD := hD0.self (sz := s.heap.size)
  generalize hAe : va_A w0 s.heap.size = A at hD hE ⊢
  have hA : ∀ q : Nat, s.heap.size ≤ q → A q := fun q h => by rw [← hAe]; exact Or.inr h
  have hw : Wd dC dI A s.heap s.heap [] w0 := ⟨hP, hD, va_S.rf⟩
  have hF : FE ksM ([] : List (Nat × Nat × Nat)) w0 w0 := FE.rf
  have hl := lv_entry ([.ref (ad 0), .int a1, .int a2]) (n := 3) (Nat.le_of_ble_eq_true rfl)
  rw [lg_entry_eq]
  generalize (lg_sl ([.ref (ad 0), .int a1, .int a2]) ++ List.replicate (3 - (lg_sl ([.ref (ad 0), .int a1, .int a2])).length) Slot.unset).toArray = ls at hl ⊢
  have hl : lv_has ls 3 [(0, .ref (ad 0)), (1, .int a1), (2, .int a2)] := hl
  generalize hloc : ([] : List Loc) = locs at hw ⊢
  have hM : TT (fun n => m_X12_otherOf n 0 a1.toInt a2.toInt (sI w0)) (fun n => m_X12_otherOf n 0 a1.toInt a2.toInt (sI w0)) := TT.rf
  refine lv_aload_n hx hb dX12_otherOf_0 rfl (lv_at hl 0 rfl) ?_
  refine lv_iload_n hx hb dX12_otherOf_1 rfl (lv_at hl 1 rfl) ?_
  refine lv_iconst (v := 0) hx hb dX12_otherOf_2 (by decide) ?_
  refine tk_Vi hC hK hw hT hA hE hSR kM_at0 (by decide) rfl (kz_X12_streetOf_3 l adK adV dC dI cy ad B hB0 (Int.le_trans hB1 (by decide)) qr s1   a1 (show 0 ≤ a1.toInt from ra1) (show a1.toInt ≤ 12 from ta1) w0 s.heap.size hT ) (cwV 2 hC.2.2.2.2 uV_RX12_300 rfl rfl rfl (by decide +kernel) ⟨Nat.le_of_ble_eq_true rfl, Nat.le_of_ble_eq_true rfl⟩) rfl hl.1 rfl (Nat.le_of_ble_eq_true rfl) dX12_otherOf_3 (fun r1 w3 H locs hp2 hw => ?_)
  obtain ⟨rfl, hv9, hg8⟩ := hp2
  obtain ⟨g5, g6, c7⟩ := hg8
  replace hM := hM.call hv9 rfl
  refine lv_iload_n hx hb dX12_otherOf_6 rfl (lv_at hl 2 rfl) ?_
  refine lv_icmp_ne (tgt := 19) hx hb dX12_otherOf_7 (by decide) (fun c10 => ?_) (fun c10 => ?_)
  · have c10 : ¬ r1.toInt = a2.toInt := wk_eqF c10
    replace hM := hM.pos c10
    refine lv_aload_n hx hb dX12_otherOf_19 rfl (lv_at hl 0 rfl) ?_
    refine lv_iload_n hx hb dX12_otherOf_20 rfl (lv_at hl 1 rfl) ?_
    refine lv_iconst (v := 0) hx hb dX12_otherOf_21 (by decide) ?_
    refine tk_Vi hC hK hw hT hA hE hSR kM_at0 (by decide) rfl (kz_X12_streetOf_3 l adK adV dC dI cy ad B hB0 (Int.le_trans hB1 (by decide)) qr s1   a1 (show 0 ≤ a1.toInt from ra1) (show a1.toInt ≤ 12 from ta1) w0 H.size hT ) (cwV 2 hC.2.2.2.2 uV_RX12_300 rfl rfl rfl (by decide +kernel) ⟨Nat.le_of_ble_eq_true rfl, Nat.le_of_ble_eq_true rfl⟩) rfl hl.1 rfl (Nat.le_of_ble_eq_true rfl) dX12_otherOf_22 (fun r11 w13 H locs hp12 hw => ?_)
    obtain ⟨rfl, hv19, hg18⟩ := hp12
    obtain ⟨g15, g16, c17⟩ := hg18
    replace hM := hM.call hv19 rfl
    obtain rfl : r1 = r11 := c7.symm.trans c17
    exact tk_iret hC hr hlocks hK ⟨rfl, hM.ret rfl, (Or.inl ⟨(show 0 ≤ r1.toInt by first | with_reducible assumption | omega), (show r1.toInt ≤ 9 by first | with_reducible assumption | omega)⟩)⟩ hw dX12_otherOf_25
  · have c10 : r1.toInt = a2.toInt := wk_eq.mp c10
    replace hM := hM.neg (fun q => q c10)
    refine lv_aload_n hx hb dX12_otherOf_10 rfl (lv_at hl 0 rfl) ?_
    refine lv_iload_n hx hb dX12_otherOf_11 rfl (lv_at hl 1 rfl) ?_
    refine lv_iconst (v := 1) hx hb dX12_otherOf_12 (by decide) ?_
    refine tk_Vi hC hK hw hT hA hE hSR kM_at0 (by decide) rfl (kz_X12_streetOf_4 l adK adV dC dI cy ad B hB0 (Int.le_trans hB1 (by decide)) qr s1   a1 (show 0 ≤ a1.toInt from ra1) (show a1.toInt ≤ 12 from ta1) w0 H.size hT ) (cwV 2 hC.2.2.2.2 uV_RX12_300 rfl rfl rfl (by decide +kernel) ⟨Nat.le_of_ble_eq_true rfl, Nat.le_of_ble_eq_true rfl⟩) rfl hl.1 rfl (Nat.le_of_ble_eq_true rfl) dX12_otherOf_13 (fun r20 w22 H locs hp21 hw => ?_)
    obtain ⟨rfl, hv28, hg27⟩ := hp21
    obtain ⟨g24, g25, c26⟩ := hg27
    replace hM := hM.call hv28 rfl
    refine lv_goto (tgt := 25) hx hb dX12_otherOf_16 (by decide) ?_
    exact tk_iret hC hr hlocks hK ⟨rfl, hM.ret rfl, (Or.inr ⟨(show 0 ≤ r20.toInt by first | with_reducible assumption | omega), (show r20.toInt ≤ 9 by first | with_reducible assumption | omega), (c7.trans (wk_eq.mpr (show r1.toInt = a2.toInt by first | exact Int.le_antisymm (by omega) (by omega) | omega)))⟩)⟩ hw dX12_otherOf_25
abbrev Pz_X12_streetOf_6 (ad : Nat → Nat) (cy : Nat → ClassId) (B : Int) (qr : Nat) (s1 : Int) (a1 : Int32) (w0 : va_W) : Int32 → va_W → Prop := fun r u => w0 = u ∧ Ev (fun n => m_X12_streetOf n 0 a1.toInt 2 (sI w0)) (r.toInt, sI w0) ∧ ((0 ≤ r.toInt ∧ r.toInt ≤ 9 ∧ gi u 12 (10 * a1.toInt + 12).toNat = r))
set_option maxHeartbeats 4000000 in
set_option maxRecDepth 100000 in
theorem kz_X12_streetOf_6 (l : Launch) (adK adV : Nat → Nat) (dC : Nat → ClassId) (dI : Nat → Nat → Nat) (cy : Nat → ClassId) (ad : Nat → Nat) (B : Int) (hB0 : 100000 ≤ B) (hB1 : B ≤ 1073741824) (qr : Nat) (s1 : Int)  (a1 : Int32) (ra1 : 0 ≤ a1.toInt) (ta1 : a1.toInt ≤ 12) (w0 : va_W) (sz : Nat) (hT : TW ksM ad cy B qr 13 w0)  : Met l yX12_streetOf (wu yX12_streetOf cX12_streetOf 3 (some .int)) ({ frames := 1, cells := 0, slots := 0, locals := 12 }) (va_Pc [.ref (ad 0), .int a1, .int 2] (wpreS adK adV dC dI cy sz w0)) (va_Qi (Pz_X12_streetOf_6 ad cy B qr s1 a1 w0) (fun u : va_W => wpost dC dI cy (va_A w0 sz) u) (va_A w0 sz)) 0 0 (va_A w0 sz) := by
  refine Met.ofW (cc := cX12_streetOf) (maxL := 3) (ret := (some .int)) (by decide) rfl ?_
  intro p e s m args below meth c s₁ Bk hml hv
  obtain ⟨rfl, ⟨hsz, hP, hK, hD0⟩, hE, hSR⟩ := hv
  have hx := Bk.exec
  have hb := Bk.bytes
  have hr := Bk.returns
  have hlocks := Bk.notSynchronized
  have hC : CallFix p m c cX12_streetOf 3 s _ (wu yX12_streetOf cX12_streetOf 3 (some .int)) RX12 := ⟨hx, hb, hml, findClass_of_methodNamed Bk.named, atoms_spec (ws := (wu yX12_streetOf cX12_streetOf 3 (some .int))) Bk.pre⟩
  subst hsz
  have hD := hD0.self (sz := s.heap.size)
  generalize hAe : va_A w0 s.heap.size = A at hD hE ⊢
  have hA : ∀ q : Nat, s.heap.size ≤ q → A q := fun q h => by rw [← hAe]; exact Or.inr h
  have hw : Wd dC dI A s.heap s.heap [] w0 := ⟨hP, hD, va_S.rf⟩
  have hF : FE ksM ([] : List (Nat × Nat × Nat)) w0 w0 := FE.rf
  have hl := lv_entry ([.ref (ad 0), .int a1, .int 2]) (n := 3) (Nat.le_of_ble_eq_true rfl)
  rw [lg_entry_eq]
  generalize (lg_sl ([.ref (ad 0), .int a1, .int 2]) ++ List.replicate (3 - (lg_sl ([.ref (ad 0), .int a1, .int 2])).length) Slot.unset).toArray = ls at hl ⊢
  have hl : lv_has ls 3 [(0, .ref (ad 0)), (1, .int a1), (2, .int 2)] := hl
  generalize hloc : ([] : List Loc) = locs at hw ⊢
  have hinX12 : ∀ w ∈ u_ws RX12 TX12 42, w ∈ (wu yX12_streetOf cX12_streetOf 3 (some .int)) := fun _ h => List.mem_cons_of_mem _ (up_71 h)
  have hM : TT (fun n => m_X12_streetOf n 0 a1.toInt 2 (sI w0)) (fun n => m_X12_streetOf n 0 a1.toInt 2 (sI w0)) := TT.rf
  refine lv_aload_n hx hb dX12_streetOf_0 rfl (lv_at hl 0 rfl) ?_
  refine tk_getA hC hK hw hT hinX12 kM_at0 (by decide) rfl 26 (by decide) (List.mem_cons_of_mem _ uw_7_1) rfl rfl dX12_streetOf_1 ?_
  refine lv_bipush (v := 10) hx hb dX12_streetOf_4 (by decide) ?_
  refine lv_bipush (v := 10) hx hb dX12_streetOf_6 (by decide) ?_
  refine lv_iload_n hx hb dX12_streetOf_8 rfl (lv_at hl 1 rfl) ?_
  refine lv_imul hx hb dX12_streetOf_9 ?_
  refine lv_topi (fun x1 ex1 => ?_)
  have ezx1 := ex1
  have ex1 : x1.toInt = (10 : Int) * a1.toInt := by rw [ex1]; exact wk_mul (show (-2147483648) ≤ (10 : Int) * a1.toInt by omega) (show (10 : Int) * a1.toInt ≤ 2147483647 by omega)
  replace hM := hM.lt ex1.symm
  refine lv_iadd hx hb dX12_streetOf_10 ?_
  refine lv_topi (fun x2 ex2 => ?_)
  have ezx2 := ex2
  have ex2 : x2.toInt = (10 : Int) + x1.toInt := by rw [ex2]; exact wk_add (show (-2147483648) ≤ (10 : Int) + x1.toInt by omega) (show (10 : Int) + x1.toInt ≤ 2147483647 by omega)
  replace hM := hM.lt ex2.symm
  refine lv_iload_n hx hb dX12_streetOf_11 rfl (lv_at hl 2 rfl) ?_
  refine lv_iadd hx hb dX12_streetOf_12 ?_
  refine lv_topi (fun x3 ex3 => ?_)
  have ezx3 := ex3
  have ex3 : x3.toInt = x2.toInt + (2 : Int) := by rw [ex3]; exact wk_add (show (-2147483648) ≤ x2.toInt + (2 : Int) by omega) (show x2.toInt + (2 : Int) ≤ 2147483647 by omega)
  replace hM := hM.lt ex3.symm
  refine tk_ialdR hC hK hw hT kM_at12 rfl (show 0 ≤ x3.toInt by first | with_reducible assumption | omega) (show x3.toInt < 296 by first | with_reducible assumption | omega) dX12_streetOf_13 (fun x4 c5 Ex4 => ?_)
  have hox4 := c5
  have c5 : gi w0 12 (10 * a1.toInt + 12).toNat = x4 := (congrArg (gi w0 12) (congrArg Int.toNat (show 10 * a1.toInt + 12 = x3.toInt by first | exact Int.le_antisymm (by omega) (by omega) | omega))).trans c5
  replace hM := hM.rd (sI_at hox4)
  have bx4 := tk_rgI rfl 12 10 13 0 9 (by decide +kernel) ⟨(a1.toInt - 0).toNat, by omega, show x3.toInt.toNat = 12 + 10 * (a1.toInt - 0).toNat by omega⟩ Ex4
  exact tk_iret hC hr hlocks hK ⟨rfl, hM.ret rfl, ⟨(show 0 ≤ x4.toInt by first | with_reducible assumption | omega), (show x4.toInt ≤ 9 by first | with_reducible assumption | omega), c5⟩⟩ hw dX12_streetOf_14
abbrev Pz_X12_reaches_1 (ad : Nat → Nat) (cy : Nat → ClassId) (B : Int) (qr : Nat) (s1 : Int) (a1 : Int32) (a2 : Int32) (a3 : Int32) (a4 : Int32) (w0 : va_W) : Int32 → va_W → Prop := fun r u => TW ksM ad cy B qr 13 u ∧ FE ksM [(77, 0, 10), (78, 0, 10)] w0 u ∧ Ev (fun n => m_X12_reaches n 0 a1.toInt a2.toInt a3.toInt a4.toInt (sI w0)) (r.toInt, sI u) ∧ ((0 ≤ r.toInt ∧ r.toInt ≤ 100000100))
set_option maxHeartbeats 4000000 in
set_option maxRecDepth 100000 in
theorem kz_X12_reaches_1 (l : Launch) (adK adV : Nat → Nat) (dC : Nat → ClassId) (dI : Nat → Nat → Nat) (cy : Nat → ClassId) (ad : Nat → Nat) (B : Int) (hB0 : 100000 ≤ B) (hB1 : B ≤ 1073741824) (qr : Nat) (s1 : Int)  (a1 : Int32) (ra1 : 0 ≤ a1.toInt) (ta1 : a1.toInt ≤ 9) (a2 : Int32) (ra2 : 0 ≤ a2.toInt) (ta2 : a2.toInt ≤ 9) (a3 : Int32) (ra3 : 0 ≤ a3.toInt) (ta3 : a3.toInt ≤ 99999) (a4 : Int32) (ra4 : 2000 ≤ a4.toInt) (ta4 : a4.toInt ≤ 101999) (w0 : va_W) (sz : Nat) (hT : TW ksM ad cy B qr 13 w0)  : Met l yX12_reaches (wu yX12_reaches cX12_reaches 9 (some .int)) ({ frames := 5, cells := 0, slots := 0, locals := 105 }) (va_Pc [.ref (ad 0), .int a1, .int a2, .int a3, .int a4] (wpreS adK adV dC dI cy sz w0)) (va_Qi (Pz_X12_reaches_1 ad cy B qr s1 a1 a2 a3 a4 w0) (fun u : va_W => wpost dC dI cy (va_A w0 sz) u) (va_A w0 sz)) 0 0 (va_A w0 sz) := by
  refine Met.ofW (cc := cX12_reaches) (maxL := 9) (ret := (some .int)) (by decide) rfl ?_
  intro p e s m args below meth c s₁ Bk hml hv
  obtain ⟨rfl, ⟨hsz, hP, hK, hD0⟩, hE, hSR⟩ := hv
  have hx := Bk.exec
  have hb := Bk.bytes
  have hr := Bk.returns
  have hlocks := Bk.notSynchronized
  have hC : CallFix p m c cX12_reaches 9 s _ (wu yX12_reaches cX12_reaches 9 (some .int)) RX12 := ⟨hx, hb, hml, findClass_of_methodNamed Bk.named, atoms_spec (ws := (wu yX12_reaches cX12_reaches 9 (some .int))) Bk.pre⟩
  subst hsz
  have hD := hD0.self (sz := s.heap.size)
  generalize hAe : va_A w0 s.heap.size = A at hD hE ⊢
  have hA : ∀ q : Nat, s.heap.size ≤ q → A q := fun q h => by rw [← hAe]; exact Or.inr h
  have hw : Wd dC dI A s.heap s.heap [] w0 := ⟨hP, hD, va_S.rf⟩
  have hF : FE ksM [(77, 0, 10), (78, 0, 10)] w0 w0 := FE.rf
  have hl := lv_entry ([.ref (ad 0), .int a1, .int a2, .int a3, .int a4]) (n := 9) (Nat.le_of_ble_eq_true rfl)
  rw [lg_entry_eq]
  generalize (lg_sl ([.ref (ad 0), .int a1, .int a2, .int a3, .int a4]) ++ List.replicate (9 - (lg_sl ([.ref (ad 0), .int a1, .int a2, .int a3, .int a4])).length) Slot.unset).toArray = ls at hl ⊢
  have hl : lv_has ls 9 [(0, .ref (ad 0)), (1, .int a1), (2, .int a2), (3, .int a3), (4, .int a4)] := hl
  generalize hloc : ([] : List Loc) = locs at hw ⊢
  have hinX12 : ∀ w ∈ u_ws RX12 TX12 42, w ∈ (wu yX12_reaches cX12_reaches 9 (some .int)) := fun _ h => List.mem_cons_of_mem _ (up_71 h)
  have L44 : ∀ (n44 : Nat) (v44_5 : Int32) (H : Heap) (locs : List Loc) (ls : Array Slot) (w1 : va_W), 0 ≤ a1.toInt → a1.toInt ≤ 9 → 0 ≤ a2.toInt → a2.toInt ≤ 9 → 0 ≤ a3.toInt → a3.toInt ≤ 99999 → 2000 ≤ a4.toInt → a4.toInt ≤ 101999 → 0 ≤ v44_5.toInt → v44_5.toInt ≤ 10 → (0 ≤ (sumG 19 10 w1)) → (10 - (sumG 19 10 w1)).toNat < n44 → Wd dC dI A s.heap H locs w1 → TW ksM ad cy B qr 13 w1 → FE ksM [(77, 0, 10), (78, 0, 10)] w0 w1 → TT (fun n => m_X12_reaches n 0 a1.toInt a2.toInt a3.toInt a4.toInt (sI w0)) (fun n => j_X12_reaches 0 n 44 [a2.toInt, a4.toInt] (sI w1)) → lv_has ls 9 [(0, .ref (ad 0)), (1, .int a1), (2, .int a2), (3, .int a3), (4, .int a4), (5, .int v44_5)] → W p l e ({ frames := 5, cells := 0, slots := 0, locals := 105 }) s m (List.toArray [.ref (ad 0), .int a1, .int a2, .int a3, .int a4]) below meth c H locs 0 0 (MQ below (va_Qi (Pz_X12_reaches_1 ad cy B qr s1 a1 a2 a3 a4 w0) (fun u : va_W => wpost dC dI cy A u) A) (List.toArray [.ref (ad 0), .int a1, .int a2, .int a3, .int a4]) s 0 0 A) (F0 m 44 ls []) := by
    intro n44
    induction n44 with
    | zero => intro v44_5 H locs ls w1 r2 t3 r4 t5 r6 t7 r8 t9 r10 t11 hcr44_0 hm44 hw hT hF hM hl; omega
    | succ n44 ih44 =>
      intro v44_5 H locs ls w1 r2 t3 r4 t5 r6 t7 r8 t9 r10 t11 hcr44_0 hm44 hw hT hF hM hl
      have L145 : ∀ (n145 : Nat) (v145_5 : Int32) (v145_6 : Int32) (f145_12_0 : Int32) (H : Heap) (locs : List Loc) (ls : Array Slot) (w12 : va_W), 0 ≤ a1.toInt → a1.toInt ≤ 9 → 0 ≤ a2.toInt → a2.toInt ≤ 9 → 0 ≤ a3.toInt → a3.toInt ≤ 99999 → 2000 ≤ a4.toInt → a4.toInt ≤ 101999 → 0 ≤ v145_5.toInt → v145_5.toInt ≤ 9 → 0 ≤ v145_6.toInt → v145_6.toInt ≤ 13 → 0 ≤ f145_12_0.toInt → f145_12_0.toInt ≤ 10 → ((sumG 19 10 w1) + 1 ≤ (sumG 19 10 w12)) → (13 - v145_6.toInt).toNat < n145 → Wd dC dI A s.heap H locs w12 → TW ksM ad cy B qr 13 w12 → FE ksM [(77, 0, 10), (78, 0, 10)] w0 w12 → gi w12 12 0 = f145_12_0 → TT (fun n => m_X12_reaches n 0 a1.toInt a2.toInt a3.toInt a4.toInt (sI w0)) (fun n => j_X12_reaches 0 n 145 [a2.toInt, a4.toInt, v145_5.toInt, v145_6.toInt] (sI w12)) → lv_has ls 9 [(0, .ref (ad 0)), (1, .int a1), (2, .int a2), (3, .int a3), (4, .int a4), (5, .int v145_5), (6, .int v145_6)] → W p l e ({ frames := 5, cells := 0, slots := 0, locals := 105 }) s m (List.toArray [.ref (ad 0), .int a1, .int a2, .int a3, .int a4]) below meth c H locs 0 0 (MQ below (va_Qi (Pz_X12_reaches_1 ad cy B qr s1 a1 a2 a3 a4 w0) (fun u : va_W => wpost dC dI cy A u) A) (List.toArray [.ref (ad 0), .int a1, .int a2, .int a3, .int a4]) s 0 0 A) (F0 m 145 ls []) := by
        intro n145
        induction n145 with
        | zero => intro v145_5 v145_6 f145_12_0 H locs ls w12 r13 t14 r15 t16 r17 t18 r19 t20 r21 t22 r23 t24 r25 t26 hcr145_0 hm145 hw hT hF c27 hM hl; omega
        | succ n145 ih145 =>
          intro v145_5 v145_6 f145_12_0 H locs ls w12 r13 t14 r15 t16 r17 t18 r19 t20 r21 t22 r23 t24 r25 t26 hcr145_0 hm145 hw hT hF c27 hM hl
          have J259 : ∀ (f259_12_1 : Int32) (H : Heap) (locs : List Loc) (ls : Array Slot) (w28 : va_W), 0 ≤ a1.toInt → a1.toInt ≤ 9 → 0 ≤ a2.toInt → a2.toInt ≤ 9 → 0 ≤ a3.toInt → a3.toInt ≤ 99999 → 2000 ≤ a4.toInt → a4.toInt ≤ 101999 → 0 ≤ v145_5.toInt → v145_5.toInt ≤ 9 → 0 ≤ v145_6.toInt → v145_6.toInt ≤ 12 → 0 ≤ f145_12_0.toInt → f145_12_0.toInt ≤ 10 → 1 ≤ f259_12_1.toInt → f259_12_1.toInt ≤ 13 → ((sumG 19 10 w1) + 1 ≤ (sumG 19 10 w28)) → Wd dC dI A s.heap H locs w28 → TW ksM ad cy B qr 13 w28 → FE ksM [(77, 0, 10), (78, 0, 10)] w0 w28 → gi w28 12 0 = f145_12_0 → gi w28 12 1 = f259_12_1 → TT (fun n => m_X12_reaches n 0 a1.toInt a2.toInt a3.toInt a4.toInt (sI w0)) (fun n => b_X12_reaches_259 (j_X12_reaches 0 n) n 0 (a2.toInt) (a4.toInt) (v145_5.toInt) (v145_6.toInt) (sI w28)) → lv_has ls 9 [(0, .ref (ad 0)), (1, .int a1), (2, .int a2), (3, .int a3), (4, .int a4), (5, .int v145_5), (6, .int v145_6)] → W p l e ({ frames := 5, cells := 0, slots := 0, locals := 105 }) s m (List.toArray [.ref (ad 0), .int a1, .int a2, .int a3, .int a4]) below meth c H locs 0 0 (MQ below (va_Qi (Pz_X12_reaches_1 ad cy B qr s1 a1 a2 a3 a4 w0) (fun u : va_W => wpost dC dI cy A u) A) (List.toArray [.ref (ad 0), .int a1, .int a2, .int a3, .int a4]) s 0 0 A) (F0 m 259 ls []) := by
            intro f259_12_1 H locs ls w28 r29 t30 r31 t32 r33 t34 r35 t36 r37 t38 r39 t40 r41 t42 r44 t45 hcr259_0 hw hT hF c43 c46 hM hl
            obtain ⟨x47, ex47⟩ : ∃ y : Int32, y = v145_6 + Int32.ofInt 1 := ⟨_, rfl⟩
            have erx47 := ex47
            refine lv_iinc (v := x47) (lv' := [(6, .int x47), (0, .ref (ad 0)), (1, .int a1), (2, .int a2), (3, .int a3), (4, .int a4), (5, .int v145_5)]) hx hb dX12_reaches_259 hl (k := 6) rfl ex47.symm (by decide) rfl (fun ls hl => ?_)
            have ex47 : x47.toInt = v145_6.toInt + 1 := by rw [ex47]; exact wk_add (y := 1) (show -2147483648 ≤ v145_6.toInt + 1 by omega) (show v145_6.toInt + 1 ≤ 2147483647 by omega)
            replace hM := hM.lt ex47.symm
            refine lv_goto (tgt := 145) hx hb dX12_reaches_262 (by decide) ?_
            have gb48 : 0 ≤ sumG 19 10 w28 ∧ sumG 19 10 w28 ≤ 10 := hT.sum (lo := 0) (hi := 1) kM_at19 rfl (by decide) rfl
            exact ih145 v145_5 x47 f145_12_0 H locs ls w28 (show 0 ≤ a1.toInt from r29) (show a1.toInt ≤ 9 from t30) (show 0 ≤ a2.toInt from r31) (show a2.toInt ≤ 9 from t32) (show 0 ≤ a3.toInt from r33) (show a3.toInt ≤ 99999 from t34) (show 2000 ≤ a4.toInt from r35) (show a4.toInt ≤ 101999 from t36) (show 0 ≤ v145_5.toInt from r37) (show v145_5.toInt ≤ 9 from t38) (show 0 ≤ x47.toInt by first | with_reducible assumption | omega) (show x47.toInt ≤ 13 by first | with_reducible assumption | omega) (show 0 ≤ f145_12_0.toInt from r41) (show f145_12_0.toInt ≤ 10 from t42) (show (sumG 19 10 w1) + 1 ≤ (sumG 19 10 w28) by omega) (show (13 - x47.toInt).toNat < n145 by first | exact tn_lt hm145 (by omega) (by omega) | omega) hw hT hF c43 hM (lv_sub hl [1, 2, 3, 4, 5, 6, 0] rfl)
          replace hM := hM.suc (fun _ => e_X12_reaches_145)
          refine lv_iload hx hb dX12_reaches_145 (lv_at hl 6 rfl) ?_
          refine lv_aload_n hx hb dX12_reaches_147 rfl (lv_at hl 0 rfl) ?_
          refine tk_getA hC hK hw hT hinX12 kM_at0 (by decide) rfl 26 (by decide) (List.mem_cons_of_mem _ uw_7_1) rfl rfl dX12_reaches_148 ?_
          refine lv_iconst (v := 1) hx hb dX12_reaches_151 (by decide) ?_
          refine tk_ialdR hC hK hw hT kM_at12 rfl (by decide) (by decide) dX12_reaches_152 (fun x49 c50 Ex49 => ?_)
          have hox49 := c50
          replace hM := hM.rd (sI_at hox49)
          have bx49 : 0 ≤ x49.toInt ∧ x49.toInt ≤ 13 := (tk_rg1 rfl).mp Ex49
          have c50 : gi w12 12 1 = x49 := c50
          refine lv_icmp_ge (tgt := 265) hx hb dX12_reaches_153 (by decide) (fun c51 => ?_) (fun c51 => ?_)
          · have c51 : x49.toInt ≤ v145_6.toInt := wk_le.mp c51
            replace hM := hM.pos c51
            refine lv_goto (tgt := 44) hx hb dX12_reaches_265 (by decide) ?_
            have gb52 : 0 ≤ sumG 19 10 w12 ∧ sumG 19 10 w12 ≤ 10 := hT.sum (lo := 0) (hi := 1) kM_at19 rfl (by decide) rfl
            exact ih44 v145_5 H locs ls w12 (show 0 ≤ a1.toInt from r13) (show a1.toInt ≤ 9 from t14) (show 0 ≤ a2.toInt from r15) (show a2.toInt ≤ 9 from t16) (show 0 ≤ a3.toInt from r17) (show a3.toInt ≤ 99999 from t18) (show 2000 ≤ a4.toInt from r19) (show a4.toInt ≤ 101999 from t20) (show 0 ≤ v145_5.toInt from r21) (show v145_5.toInt ≤ 10 from Int.le_trans t22 (by decide)) (show 0 ≤ (sumG 19 10 w12) by omega) (show (10 - (sumG 19 10 w12)).toNat < n44 by first | exact tn_lt hm44 (by omega) (by omega) | omega) hw hT hF hM (lv_sub hl [0, 1, 2, 3, 4, 5] rfl)
          · have c51 : v145_6.toInt < x49.toInt := wk_leF c51
            replace hM := hM.neg (Int.not_le.mpr c51)
            refine lv_aload_n hx hb dX12_reaches_156 rfl (lv_at hl 0 rfl) ?_
            refine lv_iload hx hb dX12_reaches_157 (lv_at hl 6 rfl) ?_
            refine lv_iload hx hb dX12_reaches_159 (lv_at hl 5 rfl) ?_
            refine tk_Vi hC hK hw hT hA hE hSR kM_at0 (by decide) rfl (kz_X12_isAt_1 l adK adV dC dI cy ad B hB0 (Int.le_trans hB1 (by decide)) qr s1   v145_6 (show 0 ≤ v145_6.toInt from r23) (show v145_6.toInt ≤ 12 by first | with_reducible assumption | omega) v145_5 (show 0 ≤ v145_5.toInt from r21) (show v145_5.toInt ≤ 9 from t22) w12 H.size hT ) (cwV 2 hC.2.2.2.2 uV_RX12_314 rfl rfl rfl (by decide +kernel) ⟨Nat.le_of_ble_eq_true rfl, Nat.le_of_ble_eq_true rfl⟩) rfl hl.1 rfl (Nat.le_of_ble_eq_true rfl) dX12_reaches_161 (fun r53 w55 H locs hp54 hw => ?_)
            obtain ⟨rfl, hv63, hg62⟩ := hp54
            rcases hg62 with ⟨rfl, hq57⟩ | ⟨rfl, c58, hq59⟩ | ⟨rfl, c60, hq61⟩
            · replace hM := hM.call (r' := 0) hv63 (by decide)
              refine lv_if_ne (tgt := 170) hx hb dX12_reaches_164 (by decide) (fun c => absurd (by decide) c) (fun _ => ?_)
              replace hM := hM.neg (by decide)
              refine lv_goto (tgt := 259) hx hb dX12_reaches_167 (by decide) ?_
              have gb64 : 0 ≤ sumG 19 10 w12 ∧ sumG 19 10 w12 ≤ 10 := hT.sum (lo := 0) (hi := 1) kM_at19 rfl (by decide) rfl
              exact J259 x49 H locs ls w12 (show 0 ≤ a1.toInt from r13) (show a1.toInt ≤ 9 from t14) (show 0 ≤ a2.toInt from r15) (show a2.toInt ≤ 9 from t16) (show 0 ≤ a3.toInt from r17) (show a3.toInt ≤ 99999 from t18) (show 2000 ≤ a4.toInt from r19) (show a4.toInt ≤ 101999 from t20) (show 0 ≤ v145_5.toInt from r21) (show v145_5.toInt ≤ 9 from t22) (show 0 ≤ v145_6.toInt from r23) (show v145_6.toInt ≤ 12 by first | with_reducible assumption | omega) (show 0 ≤ f145_12_0.toInt from r25) (show f145_12_0.toInt ≤ 10 from t26) (show 1 ≤ x49.toInt by first | with_reducible assumption | omega) (show x49.toInt ≤ 13 by first | with_reducible assumption | omega) (show (sumG 19 10 w1) + 1 ≤ (sumG 19 10 w12) by omega)  hw hT hF c27 c50 hM (lv_sub hl [0, 1, 2, 3, 4, 5, 6] rfl)
            · replace hM := hM.call (r' := 1) hv63 (by decide)
              refine lv_if_ne (tgt := 170) hx hb dX12_reaches_164 (by decide) (fun _ => ?_) (fun c => absurd c (by decide))
              replace hM := hM.pos (by decide)
              refine lv_aload_n hx hb dX12_reaches_170 rfl (lv_at hl 0 rfl) ?_
              refine lv_iload hx hb dX12_reaches_171 (lv_at hl 6 rfl) ?_
              refine lv_iload hx hb dX12_reaches_173 (lv_at hl 5 rfl) ?_
              refine lv_aload_n hx hb dX12_reaches_175 rfl (lv_at hl 0 rfl) ?_
              refine tk_getA hC hK hw hT hinX12 kM_at0 (by decide) rfl 35 (by decide) (List.mem_cons_of_mem _ uw_7_8) rfl rfl dX12_reaches_176 ?_
              refine lv_iload hx hb dX12_reaches_179 (lv_at hl 5 rfl) ?_
              refine tk_iald hC hK hw hT kM_at18 rfl rfl (show 0 ≤ v145_5.toInt from r21) (show v145_5.toInt < 10 from Int.lt_of_le_of_lt t22 (by decide)) dX12_reaches_181 (fun x65 c66 rx65 tx65 => ?_)
              have hox65 := c66
              replace hM := hM.rd (sI_at hox65)
              refine lv_iload hx hb dX12_reaches_182 (lv_at hl 4 rfl) ?_
              refine tk_Vi hC hK hw hT hA hE hSR kM_at0 (by decide) rfl (kz_X12_firstOpen_1 l adK adV dC dI cy ad B hB0 (Int.le_trans hB1 (by decide)) qr s1   v145_6 (show 0 ≤ v145_6.toInt from r23) (show v145_6.toInt ≤ 12 by first | with_reducible assumption | omega) v145_5 (show 0 ≤ v145_5.toInt from r21) (show v145_5.toInt ≤ 9 from t22) x65 (show 0 ≤ x65.toInt from rx65) (show x65.toInt ≤ 100000100 from tx65) a4 (show 2000 ≤ a4.toInt from r19) (show a4.toInt ≤ 101999 from t20) w12 H.size hT ) (cwV 4 hC.2.2.2.2 uV_RX12_449 rfl rfl rfl (by decide +kernel) ⟨Nat.le_of_ble_eq_true rfl, Nat.le_of_ble_eq_true rfl⟩) rfl hl.1 rfl (Nat.le_of_ble_eq_true rfl) dX12_reaches_184 (fun r67 w69 H locs hp68 hw => ?_)
              obtain ⟨rfl, hv77, hg76⟩ := hp68
              rcases hg76 with ⟨g71, g72⟩ | ⟨g73, g74, c75⟩
              · replace hM := hM.call hv77 rfl
                refine lv_istore (lv' := [(7, .int r67), (0, .ref (ad 0)), (1, .int a1), (2, .int a2), (3, .int a3), (4, .int a4), (5, .int v145_5), (6, .int v145_6)]) hx hb dX12_reaches_187 hl (by decide) rfl (fun ls hl => ?_)
                refine lv_aload_n hx hb dX12_reaches_189 rfl (lv_at hl 1 rfl) ?_
                refine lv_iload hx hb dX12_reaches_190 (lv_at hl 7 rfl) ?_
                refine lv_iload hx hb dX12_reaches_192 (lv_at hl 6 rfl) ?_
                refine tk_Vi hC hK hw hT hA hE hSR kM_at0 (by decide) rfl (kz_X12_otherOf_1 l adK adV dC dI cy ad B hB0 (Int.le_trans hB1 (by decide)) qr s1   v145_6 (show 0 ≤ v145_6.toInt from r23) (show v145_6.toInt ≤ 12 by first | with_reducible assumption | omega) v145_5 (show 0 ≤ v145_5.toInt from r21) (show v145_5.toInt ≤ 9 from t22) w12 H.size hT ) (cwV 2 hC.2.2.2.2 uV_RX12_348 rfl rfl rfl (by decide +kernel) ⟨Nat.le_of_ble_eq_true rfl, Nat.le_of_ble_eq_true rfl⟩) rfl hl.1 rfl (Nat.le_of_ble_eq_true rfl) dX12_reaches_194 (fun r78 w80 H locs hp79 hw => ?_)
                obtain ⟨rfl, hv88, hg87⟩ := hp79
                rcases hg87 with ⟨g82, g83⟩ | ⟨g84, g85, c86⟩
                · replace hM := hM.call hv88 rfl
                  refine lv_istore (lv' := [(8, .int r78), (7, .int r67), (0, .ref (ad 0)), (1, .int a1), (2, .int a2), (3, .int a3), (4, .int a4), (5, .int v145_5), (6, .int v145_6)]) hx hb dX12_reaches_197 hl (by decide) rfl (fun ls hl => ?_)
                  refine lv_iload hx hb dX12_reaches_199 (lv_at hl 1 rfl) ?_
                  refine lv_ldcw (v := 100000000) hx hb hC.2.2.2.1 (hC.2.2.2.2 _ (List.mem_cons_of_mem _ uw_38_2)) dX12_reaches_201 ?_
                  refine lv_icmp_ge (tgt := 259) hx hb dX12_reaches_204 (by decide) (fun c89 => ?_) (fun c89 => ?_)
                  · have c89 : (100000000 : Int) ≤ r67.toInt := wk_le.mp c89
                    replace hM := hM.pos c89
                    have gb90 : 0 ≤ sumG 19 10 w12 ∧ sumG 19 10 w12 ≤ 10 := hT.sum (lo := 0) (hi := 1) kM_at19 rfl (by decide) rfl
                    exact J259 x49 H locs ls w12 (show 0 ≤ a1.toInt from r13) (show a1.toInt ≤ 9 from t14) (show 0 ≤ a2.toInt from r15) (show a2.toInt ≤ 9 from t16) (show 0 ≤ a3.toInt from r17) (show a3.toInt ≤ 99999 from t18) (show 2000 ≤ a4.toInt from r19) (show a4.toInt ≤ 101999 from t20) (show 0 ≤ v145_5.toInt from r21) (show v145_5.toInt ≤ 9 from t22) (show 0 ≤ v145_6.toInt from r23) (show v145_6.toInt ≤ 12 by first | with_reducible assumption | omega) (show 0 ≤ f145_12_0.toInt from r25) (show f145_12_0.toInt ≤ 10 from t26) (show 1 ≤ x49.toInt by first | with_reducible assumption | omega) (show x49.toInt ≤ 13 by first | with_reducible assumption | omega) (show (sumG 19 10 w1) + 1 ≤ (sumG 19 10 w12) by omega)  hw hT hF c27 c50 hM (lv_sub hl [2, 3, 4, 5, 6, 7, 8] rfl)
                  · have c89 : r67.toInt < (100000000 : Int) := wk_leF c89
                    replace hM := hM.neg (Int.not_le.mpr c89)
                    refine lv_iload hx hb dX12_reaches_207 (lv_at hl 1 rfl) ?_
                    refine lv_aload_n hx hb dX12_reaches_209 rfl (lv_at hl 2 rfl) ?_
                    refine lv_iload hx hb dX12_reaches_210 (lv_at hl 8 rfl) ?_
                    refine lv_iconst (v := 2) hx hb dX12_reaches_212 (by decide) ?_
                    refine tk_Vi hC hK hw hT hA hE hSR kM_at0 (by decide) rfl (kz_X12_streetOf_6 l adK adV dC dI cy ad B hB0 (Int.le_trans hB1 (by decide)) qr s1   v145_6 (show 0 ≤ v145_6.toInt from r23) (show v145_6.toInt ≤ 12 by first | with_reducible assumption | omega) w12 H.size hT ) (cwV 2 hC.2.2.2.2 uV_RX12_300 rfl rfl rfl (by decide +kernel) ⟨Nat.le_of_ble_eq_true rfl, Nat.le_of_ble_eq_true rfl⟩) rfl hl.1 rfl (Nat.le_of_ble_eq_true rfl) dX12_reaches_213 (fun r91 w93 H locs hp92 hw => ?_)
                    obtain ⟨rfl, hv99, hg98⟩ := hp92
                    obtain ⟨g95, g96, c97⟩ := hg98
                    replace hM := hM.call hv99 rfl
                    refine lv_iadd hx hb dX12_reaches_216 ?_
                    refine lv_topi (fun x100 ex100 => ?_)
                    have ezx100 := ex100
                    have ex100 : x100.toInt = r67.toInt + r91.toInt := by rw [ex100]; exact wk_add (show (-2147483648) ≤ r67.toInt + r91.toInt by omega) (show r67.toInt + r91.toInt ≤ 2147483647 by omega)
                    replace hM := hM.lt ex100.symm
                    refine lv_iload hx hb dX12_reaches_217 (lv_at hl 6 rfl) ?_
                    refine lv_icmp_gt (tgt := 259) hx hb dX12_reaches_219 (by decide) (fun c101 => ?_) (fun c101 => ?_)
                    · have c101 : a4.toInt < x100.toInt := wk_lt.mp c101
                      replace hM := hM.pos c101
                      have gb102 : 0 ≤ sumG 19 10 w12 ∧ sumG 19 10 w12 ≤ 10 := hT.sum (lo := 0) (hi := 1) kM_at19 rfl (by decide) rfl
                      exact J259 x49 H locs ls w12 (show 0 ≤ a1.toInt from r13) (show a1.toInt ≤ 9 from t14) (show 0 ≤ a2.toInt from r15) (show a2.toInt ≤ 9 from t16) (show 0 ≤ a3.toInt from r17) (show a3.toInt ≤ 99999 from t18) (show 2000 ≤ a4.toInt from r19) (show a4.toInt ≤ 101999 from t20) (show 0 ≤ v145_5.toInt from r21) (show v145_5.toInt ≤ 9 from t22) (show 0 ≤ v145_6.toInt from r23) (show v145_6.toInt ≤ 12 by first | with_reducible assumption | omega) (show 0 ≤ f145_12_0.toInt from r25) (show f145_12_0.toInt ≤ 10 from t26) (show 1 ≤ x49.toInt by first | with_reducible assumption | omega) (show x49.toInt ≤ 13 by first | with_reducible assumption | omega) (show (sumG 19 10 w1) + 1 ≤ (sumG 19 10 w12) by omega)  hw hT hF c27 c50 hM (lv_sub hl [2, 3, 4, 5, 6, 7, 8] rfl)
                    · have c101 : x100.toInt ≤ a4.toInt := wk_ltF c101
                      replace hM := hM.neg (Int.not_lt.mpr c101)
                      refine lv_iload hx hb dX12_reaches_222 (lv_at hl 1 rfl) ?_
                      refine lv_aload_n hx hb dX12_reaches_224 rfl (lv_at hl 2 rfl) ?_
                      refine lv_iload hx hb dX12_reaches_225 (lv_at hl 8 rfl) ?_
                      refine lv_iconst (v := 2) hx hb dX12_reaches_227 (by decide) ?_
                      refine tk_Vi hC hK hw hT hA hE hSR kM_at0 (by decide) rfl (kz_X12_streetOf_6 l adK adV dC dI cy ad B hB0 (Int.le_trans hB1 (by decide)) qr s1   v145_6 (show 0 ≤ v145_6.toInt from r23) (show v145_6.toInt ≤ 12 by first | with_reducible assumption | omega) w12 H.size hT ) (cwV 2 hC.2.2.2.2 uV_RX12_300 rfl rfl rfl (by decide +kernel) ⟨Nat.le_of_ble_eq_true rfl, Nat.le_of_ble_eq_true rfl⟩) rfl hl.1 rfl (Nat.le_of_ble_eq_true rfl) dX12_reaches_228 (fun r103 w105 H locs hp104 hw => ?_)
                      obtain ⟨rfl, hv111, hg110⟩ := hp104
                      obtain ⟨g107, g108, c109⟩ := hg110
                      replace hM := hM.call hv111 rfl
                      obtain rfl : r91 = r103 := c97.symm.trans c109
                      refine lv_iadd hx hb dX12_reaches_231 ?_
                      refine lv_topi (fun x112 ex112 => ?_)
                      have ezx112 := ex112
                      have ex112 : x112.toInt = r67.toInt + r91.toInt := by rw [ex112]; exact wk_add (show (-2147483648) ≤ r67.toInt + r91.toInt by omega) (show r67.toInt + r91.toInt ≤ 2147483647 by omega)
                      replace hM := hM.lt ex112.symm
                      refine lv_aload_n hx hb dX12_reaches_232 rfl (lv_at hl 2 rfl) ?_
                      refine tk_getA hC hK hw hT hinX12 kM_at0 (by decide) rfl 35 (by decide) (List.mem_cons_of_mem _ uw_7_8) rfl rfl dX12_reaches_233 ?_
                      refine lv_iload hx hb dX12_reaches_236 (lv_at hl 0 rfl) ?_
                      refine tk_iald hC hK hw hT kM_at18 rfl rfl (show 0 ≤ r78.toInt by first | with_reducible assumption | omega) (show r78.toInt < 10 by first | with_reducible assumption | omega) dX12_reaches_238 (fun x113 c114 rx113 tx113 => ?_)
                      have hox113 := c114
                      replace hM := hM.rd (sI_at hox113)
                      refine lv_icmp_ge (tgt := 259) hx hb dX12_reaches_239 (by decide) (fun c115 => ?_) (fun c115 => ?_)
                      · have c115 : x113.toInt ≤ x112.toInt := wk_le.mp c115
                        replace hM := hM.pos c115
                        have gb116 : 0 ≤ sumG 19 10 w12 ∧ sumG 19 10 w12 ≤ 10 := hT.sum (lo := 0) (hi := 1) kM_at19 rfl (by decide) rfl
                        exact J259 x49 H locs ls w12 (show 0 ≤ a1.toInt from r13) (show a1.toInt ≤ 9 from t14) (show 0 ≤ a2.toInt from r15) (show a2.toInt ≤ 9 from t16) (show 0 ≤ a3.toInt from r17) (show a3.toInt ≤ 99999 from t18) (show 2000 ≤ a4.toInt from r19) (show a4.toInt ≤ 101999 from t20) (show 0 ≤ v145_5.toInt from r21) (show v145_5.toInt ≤ 9 from t22) (show 0 ≤ v145_6.toInt from r23) (show v145_6.toInt ≤ 12 by first | with_reducible assumption | omega) (show 0 ≤ f145_12_0.toInt from r25) (show f145_12_0.toInt ≤ 10 from t26) (show 1 ≤ x49.toInt by first | with_reducible assumption | omega) (show x49.toInt ≤ 13 by first | with_reducible assumption | omega) (show (sumG 19 10 w1) + 1 ≤ (sumG 19 10 w12) by omega)  hw hT hF c27 c50 hM (lv_sub hl [2, 3, 4, 5, 6, 7, 8] rfl)
                      · have c115 : x112.toInt < x113.toInt := wk_leF c115
                        replace hM := hM.neg (Int.not_le.mpr c115)
                        refine lv_aload_n hx hb dX12_reaches_242 rfl (lv_at hl 2 rfl) ?_
                        refine tk_getA hC hK hw hT hinX12 kM_at0 (by decide) rfl 35 (by decide) (List.mem_cons_of_mem _ uw_7_8) rfl rfl dX12_reaches_243 ?_
                        refine lv_iload hx hb dX12_reaches_246 (lv_at hl 0 rfl) ?_
                        refine lv_iload hx hb dX12_reaches_248 (lv_at hl 1 rfl) ?_
                        refine lv_aload_n hx hb dX12_reaches_250 rfl (lv_at hl 2 rfl) ?_
                        refine lv_iload hx hb dX12_reaches_251 (lv_at hl 8 rfl) ?_
                        refine lv_iconst (v := 2) hx hb dX12_reaches_253 (by decide) ?_
                        refine tk_Vi hC hK hw hT hA hE hSR kM_at0 (by decide) rfl (kz_X12_streetOf_6 l adK adV dC dI cy ad B hB0 (Int.le_trans hB1 (by decide)) qr s1   v145_6 (show 0 ≤ v145_6.toInt from r23) (show v145_6.toInt ≤ 12 by first | with_reducible assumption | omega) w12 H.size hT ) (cwV 2 hC.2.2.2.2 uV_RX12_300 rfl rfl rfl (by decide +kernel) ⟨Nat.le_of_ble_eq_true rfl, Nat.le_of_ble_eq_true rfl⟩) rfl hl.1 rfl (Nat.le_of_ble_eq_true rfl) dX12_reaches_254 (fun r117 w119 H locs hp118 hw => ?_)
                        obtain ⟨rfl, hv125, hg124⟩ := hp118
                        obtain ⟨g121, g122, c123⟩ := hg124
                        replace hM := hM.call hv125 rfl
                        obtain rfl : r91 = r117 := c97.symm.trans c123
                        refine lv_iadd hx hb dX12_reaches_257 ?_
                        refine lv_topi (fun x126 ex126 => ?_)
                        have ezx126 := ex126
                        have ex126 : x126.toInt = r67.toInt + r91.toInt := by rw [ex126]; exact wk_add (show (-2147483648) ≤ r67.toInt + r91.toInt by omega) (show r67.toInt + r91.toInt ≤ 2147483647 by omega)
                        replace hM := hM.lt ex126.symm
                        refine tk_iast hC hK hw hT kM_at18 (by decide) rfl rfl (show 0 ≤ r78.toInt by first | with_reducible assumption | omega) (show r78.toInt < 10 by first | with_reducible assumption | omega) (show 0 ≤ x126.toInt by first | with_reducible assumption | omega) (show x126.toInt ≤ 100000100 by first | with_reducible assumption | omega) dX12_reaches_258 (fun H locs w127 hw hT k129 c128 => ?_)
                        replace hM := hM.wr (sI_up k129 c128)
                        have gs130 : sumG 19 10 w127 = sumG 19 10 w12 := sumG_ne 10 k129 (tk_ne kM_at19 kM_at18 (by decide))
                        have hF := hF.put kM_at18 (inE_of (a := 0) (b := 10) (by decide) (show 0 ≤ r78.toInt.toNat by omega) (show r78.toInt.toNat ≤ 10 by omega)) k129
                        have c131 := k129.gi (Or.inl (tk_ne kM_at12 kM_at18 (by decide))) c27
                        have c132 := k129.gi (Or.inl (tk_ne kM_at12 kM_at18 (by decide))) c50
                        have c133 := k129.gi (Or.inl (tk_ne kM_at12 kM_at18 (by decide))) c58
                        have c134 := k129.gi (Or.inl (tk_ne kM_at12 kM_at18 (by decide))) c97
                        have gb135 : 0 ≤ sumG 19 10 w127 ∧ sumG 19 10 w127 ≤ 10 := hT.sum (lo := 0) (hi := 1) kM_at19 rfl (by decide) rfl
                        exact J259 x49 H locs ls w127 (show 0 ≤ a1.toInt from r13) (show a1.toInt ≤ 9 from t14) (show 0 ≤ a2.toInt from r15) (show a2.toInt ≤ 9 from t16) (show 0 ≤ a3.toInt from r17) (show a3.toInt ≤ 99999 from t18) (show 2000 ≤ a4.toInt from r19) (show a4.toInt ≤ 101999 from t20) (show 0 ≤ v145_5.toInt from r21) (show v145_5.toInt ≤ 9 from t22) (show 0 ≤ v145_6.toInt from r23) (show v145_6.toInt ≤ 12 by first | with_reducible assumption | omega) (show 0 ≤ f145_12_0.toInt from r25) (show f145_12_0.toInt ≤ 10 from t26) (show 1 ≤ x49.toInt by first | with_reducible assumption | omega) (show x49.toInt ≤ 13 by first | with_reducible assumption | omega) (show (sumG 19 10 w1) + 1 ≤ (sumG 19 10 w127) by omega)  hw hT hF c131 c132 hM (lv_sub hl [2, 3, 4, 5, 6, 7, 8] rfl)
                · replace hM := hM.call hv88 rfl
                  refine lv_istore (lv' := [(8, .int r78), (7, .int r67), (0, .ref (ad 0)), (1, .int a1), (2, .int a2), (3, .int a3), (4, .int a4), (5, .int v145_5), (6, .int v145_6)]) hx hb dX12_reaches_197 hl (by decide) rfl (fun ls hl => ?_)
                  refine lv_iload hx hb dX12_reaches_199 (lv_at hl 1 rfl) ?_
                  refine lv_ldcw (v := 100000000) hx hb hC.2.2.2.1 (hC.2.2.2.2 _ (List.mem_cons_of_mem _ uw_38_2)) dX12_reaches_201 ?_
                  refine lv_icmp_ge (tgt := 259) hx hb dX12_reaches_204 (by decide) (fun c136 => ?_) (fun c136 => ?_)
                  · have c136 : (100000000 : Int) ≤ r67.toInt := wk_le.mp c136
                    replace hM := hM.pos c136
                    have gb137 : 0 ≤ sumG 19 10 w12 ∧ sumG 19 10 w12 ≤ 10 := hT.sum (lo := 0) (hi := 1) kM_at19 rfl (by decide) rfl
                    exact J259 x49 H locs ls w12 (show 0 ≤ a1.toInt from r13) (show a1.toInt ≤ 9 from t14) (show 0 ≤ a2.toInt from r15) (show a2.toInt ≤ 9 from t16) (show 0 ≤ a3.toInt from r17) (show a3.toInt ≤ 99999 from t18) (show 2000 ≤ a4.toInt from r19) (show a4.toInt ≤ 101999 from t20) (show 0 ≤ v145_5.toInt from r21) (show v145_5.toInt ≤ 9 from t22) (show 0 ≤ v145_6.toInt from r23) (show v145_6.toInt ≤ 12 by first | with_reducible assumption | omega) (show 0 ≤ f145_12_0.toInt from r25) (show f145_12_0.toInt ≤ 10 from t26) (show 1 ≤ x49.toInt by first | with_reducible assumption | omega) (show x49.toInt ≤ 13 by first | with_reducible assumption | omega) (show (sumG 19 10 w1) + 1 ≤ (sumG 19 10 w12) by omega)  hw hT hF c27 c50 hM (lv_sub hl [2, 3, 4, 5, 6, 7, 8] rfl)
                  · have c136 : r67.toInt < (100000000 : Int) := wk_leF c136
                    replace hM := hM.neg (Int.not_le.mpr c136)
                    refine lv_iload hx hb dX12_reaches_207 (lv_at hl 1 rfl) ?_
                    refine lv_aload_n hx hb dX12_reaches_209 rfl (lv_at hl 2 rfl) ?_
                    refine lv_iload hx hb dX12_reaches_210 (lv_at hl 8 rfl) ?_
                    refine lv_iconst (v := 2) hx hb dX12_reaches_212 (by decide) ?_
                    refine tk_Vi hC hK hw hT hA hE hSR kM_at0 (by decide) rfl (kz_X12_streetOf_6 l adK adV dC dI cy ad B hB0 (Int.le_trans hB1 (by decide)) qr s1   v145_6 (show 0 ≤ v145_6.toInt from r23) (show v145_6.toInt ≤ 12 by first | with_reducible assumption | omega) w12 H.size hT ) (cwV 2 hC.2.2.2.2 uV_RX12_300 rfl rfl rfl (by decide +kernel) ⟨Nat.le_of_ble_eq_true rfl, Nat.le_of_ble_eq_true rfl⟩) rfl hl.1 rfl (Nat.le_of_ble_eq_true rfl) dX12_reaches_213 (fun r138 w140 H locs hp139 hw => ?_)
                    obtain ⟨rfl, hv146, hg145⟩ := hp139
                    obtain ⟨g142, g143, c144⟩ := hg145
                    replace hM := hM.call hv146 rfl
                    refine lv_iadd hx hb dX12_reaches_216 ?_
                    refine lv_topi (fun x147 ex147 => ?_)
                    have ezx147 := ex147
                    have ex147 : x147.toInt = r67.toInt + r138.toInt := by rw [ex147]; exact wk_add (show (-2147483648) ≤ r67.toInt + r138.toInt by omega) (show r67.toInt + r138.toInt ≤ 2147483647 by omega)
                    replace hM := hM.lt ex147.symm
                    refine lv_iload hx hb dX12_reaches_217 (lv_at hl 6 rfl) ?_
                    refine lv_icmp_gt (tgt := 259) hx hb dX12_reaches_219 (by decide) (fun c148 => ?_) (fun c148 => ?_)
                    · have c148 : a4.toInt < x147.toInt := wk_lt.mp c148
                      replace hM := hM.pos c148
                      have gb149 : 0 ≤ sumG 19 10 w12 ∧ sumG 19 10 w12 ≤ 10 := hT.sum (lo := 0) (hi := 1) kM_at19 rfl (by decide) rfl
                      exact J259 x49 H locs ls w12 (show 0 ≤ a1.toInt from r13) (show a1.toInt ≤ 9 from t14) (show 0 ≤ a2.toInt from r15) (show a2.toInt ≤ 9 from t16) (show 0 ≤ a3.toInt from r17) (show a3.toInt ≤ 99999 from t18) (show 2000 ≤ a4.toInt from r19) (show a4.toInt ≤ 101999 from t20) (show 0 ≤ v145_5.toInt from r21) (show v145_5.toInt ≤ 9 from t22) (show 0 ≤ v145_6.toInt from r23) (show v145_6.toInt ≤ 12 by first | with_reducible assumption | omega) (show 0 ≤ f145_12_0.toInt from r25) (show f145_12_0.toInt ≤ 10 from t26) (show 1 ≤ x49.toInt by first | with_reducible assumption | omega) (show x49.toInt ≤ 13 by first | with_reducible assumption | omega) (show (sumG 19 10 w1) + 1 ≤ (sumG 19 10 w12) by omega)  hw hT hF c27 c50 hM (lv_sub hl [2, 3, 4, 5, 6, 7, 8] rfl)
                    · have c148 : x147.toInt ≤ a4.toInt := wk_ltF c148
                      replace hM := hM.neg (Int.not_lt.mpr c148)
                      refine lv_iload hx hb dX12_reaches_222 (lv_at hl 1 rfl) ?_
                      refine lv_aload_n hx hb dX12_reaches_224 rfl (lv_at hl 2 rfl) ?_
                      refine lv_iload hx hb dX12_reaches_225 (lv_at hl 8 rfl) ?_
                      refine lv_iconst (v := 2) hx hb dX12_reaches_227 (by decide) ?_
                      refine tk_Vi hC hK hw hT hA hE hSR kM_at0 (by decide) rfl (kz_X12_streetOf_6 l adK adV dC dI cy ad B hB0 (Int.le_trans hB1 (by decide)) qr s1   v145_6 (show 0 ≤ v145_6.toInt from r23) (show v145_6.toInt ≤ 12 by first | with_reducible assumption | omega) w12 H.size hT ) (cwV 2 hC.2.2.2.2 uV_RX12_300 rfl rfl rfl (by decide +kernel) ⟨Nat.le_of_ble_eq_true rfl, Nat.le_of_ble_eq_true rfl⟩) rfl hl.1 rfl (Nat.le_of_ble_eq_true rfl) dX12_reaches_228 (fun r150 w152 H locs hp151 hw => ?_)
                      obtain ⟨rfl, hv158, hg157⟩ := hp151
                      obtain ⟨g154, g155, c156⟩ := hg157
                      replace hM := hM.call hv158 rfl
                      obtain rfl : r138 = r150 := c144.symm.trans c156
                      refine lv_iadd hx hb dX12_reaches_231 ?_
                      refine lv_topi (fun x159 ex159 => ?_)
                      have ezx159 := ex159
                      have ex159 : x159.toInt = r67.toInt + r138.toInt := by rw [ex159]; exact wk_add (show (-2147483648) ≤ r67.toInt + r138.toInt by omega) (show r67.toInt + r138.toInt ≤ 2147483647 by omega)
                      replace hM := hM.lt ex159.symm
                      refine lv_aload_n hx hb dX12_reaches_232 rfl (lv_at hl 2 rfl) ?_
                      refine tk_getA hC hK hw hT hinX12 kM_at0 (by decide) rfl 35 (by decide) (List.mem_cons_of_mem _ uw_7_8) rfl rfl dX12_reaches_233 ?_
                      refine lv_iload hx hb dX12_reaches_236 (lv_at hl 0 rfl) ?_
                      refine tk_iald hC hK hw hT kM_at18 rfl rfl (show 0 ≤ r78.toInt by first | with_reducible assumption | omega) (show r78.toInt < 10 by first | with_reducible assumption | omega) dX12_reaches_238 (fun x160 c161 rx160 tx160 => ?_)
                      have hox160 := c161
                      replace hM := hM.rd (sI_at hox160)
                      refine lv_icmp_ge (tgt := 259) hx hb dX12_reaches_239 (by decide) (fun c162 => ?_) (fun c162 => ?_)
                      · have c162 : x160.toInt ≤ x159.toInt := wk_le.mp c162
                        replace hM := hM.pos c162
                        have gb163 : 0 ≤ sumG 19 10 w12 ∧ sumG 19 10 w12 ≤ 10 := hT.sum (lo := 0) (hi := 1) kM_at19 rfl (by decide) rfl
                        exact J259 x49 H locs ls w12 (show 0 ≤ a1.toInt from r13) (show a1.toInt ≤ 9 from t14) (show 0 ≤ a2.toInt from r15) (show a2.toInt ≤ 9 from t16) (show 0 ≤ a3.toInt from r17) (show a3.toInt ≤ 99999 from t18) (show 2000 ≤ a4.toInt from r19) (show a4.toInt ≤ 101999 from t20) (show 0 ≤ v145_5.toInt from r21) (show v145_5.toInt ≤ 9 from t22) (show 0 ≤ v145_6.toInt from r23) (show v145_6.toInt ≤ 12 by first | with_reducible assumption | omega) (show 0 ≤ f145_12_0.toInt from r25) (show f145_12_0.toInt ≤ 10 from t26) (show 1 ≤ x49.toInt by first | with_reducible assumption | omega) (show x49.toInt ≤ 13 by first | with_reducible assumption | omega) (show (sumG 19 10 w1) + 1 ≤ (sumG 19 10 w12) by omega)  hw hT hF c27 c50 hM (lv_sub hl [2, 3, 4, 5, 6, 7, 8] rfl)
                      · have c162 : x159.toInt < x160.toInt := wk_leF c162
                        replace hM := hM.neg (Int.not_le.mpr c162)
                        refine lv_aload_n hx hb dX12_reaches_242 rfl (lv_at hl 2 rfl) ?_
                        refine tk_getA hC hK hw hT hinX12 kM_at0 (by decide) rfl 35 (by decide) (List.mem_cons_of_mem _ uw_7_8) rfl rfl dX12_reaches_243 ?_
                        refine lv_iload hx hb dX12_reaches_246 (lv_at hl 0 rfl) ?_
                        refine lv_iload hx hb dX12_reaches_248 (lv_at hl 1 rfl) ?_
                        refine lv_aload_n hx hb dX12_reaches_250 rfl (lv_at hl 2 rfl) ?_
                        refine lv_iload hx hb dX12_reaches_251 (lv_at hl 8 rfl) ?_
                        refine lv_iconst (v := 2) hx hb dX12_reaches_253 (by decide) ?_
                        refine tk_Vi hC hK hw hT hA hE hSR kM_at0 (by decide) rfl (kz_X12_streetOf_6 l adK adV dC dI cy ad B hB0 (Int.le_trans hB1 (by decide)) qr s1   v145_6 (show 0 ≤ v145_6.toInt from r23) (show v145_6.toInt ≤ 12 by first | with_reducible assumption | omega) w12 H.size hT ) (cwV 2 hC.2.2.2.2 uV_RX12_300 rfl rfl rfl (by decide +kernel) ⟨Nat.le_of_ble_eq_true rfl, Nat.le_of_ble_eq_true rfl⟩) rfl hl.1 rfl (Nat.le_of_ble_eq_true rfl) dX12_reaches_254 (fun r164 w166 H locs hp165 hw => ?_)
                        obtain ⟨rfl, hv172, hg171⟩ := hp165
                        obtain ⟨g168, g169, c170⟩ := hg171
                        replace hM := hM.call hv172 rfl
                        obtain rfl : r138 = r164 := c144.symm.trans c170
                        refine lv_iadd hx hb dX12_reaches_257 ?_
                        refine lv_topi (fun x173 ex173 => ?_)
                        have ezx173 := ex173
                        have ex173 : x173.toInt = r67.toInt + r138.toInt := by rw [ex173]; exact wk_add (show (-2147483648) ≤ r67.toInt + r138.toInt by omega) (show r67.toInt + r138.toInt ≤ 2147483647 by omega)
                        replace hM := hM.lt ex173.symm
                        refine tk_iast hC hK hw hT kM_at18 (by decide) rfl rfl (show 0 ≤ r78.toInt by first | with_reducible assumption | omega) (show r78.toInt < 10 by first | with_reducible assumption | omega) (show 0 ≤ x173.toInt by first | with_reducible assumption | omega) (show x173.toInt ≤ 100000100 by first | with_reducible assumption | omega) dX12_reaches_258 (fun H locs w174 hw hT k176 c175 => ?_)
                        replace hM := hM.wr (sI_up k176 c175)
                        have gs177 : sumG 19 10 w174 = sumG 19 10 w12 := sumG_ne 10 k176 (tk_ne kM_at19 kM_at18 (by decide))
                        have hF := hF.put kM_at18 (inE_of (a := 0) (b := 10) (by decide) (show 0 ≤ r78.toInt.toNat by omega) (show r78.toInt.toNat ≤ 10 by omega)) k176
                        have c178 := k176.gi (Or.inl (tk_ne kM_at12 kM_at18 (by decide))) c27
                        have c179 := k176.gi (Or.inl (tk_ne kM_at12 kM_at18 (by decide))) c50
                        have c180 := k176.gi (Or.inl (tk_ne kM_at12 kM_at18 (by decide))) c58
                        have c181 := k176.gi (Or.inl (tk_ne kM_at12 kM_at18 (by decide))) c144
                        have gb182 : 0 ≤ sumG 19 10 w174 ∧ sumG 19 10 w174 ≤ 10 := hT.sum (lo := 0) (hi := 1) kM_at19 rfl (by decide) rfl
                        exact J259 x49 H locs ls w174 (show 0 ≤ a1.toInt from r13) (show a1.toInt ≤ 9 from t14) (show 0 ≤ a2.toInt from r15) (show a2.toInt ≤ 9 from t16) (show 0 ≤ a3.toInt from r17) (show a3.toInt ≤ 99999 from t18) (show 2000 ≤ a4.toInt from r19) (show a4.toInt ≤ 101999 from t20) (show 0 ≤ v145_5.toInt from r21) (show v145_5.toInt ≤ 9 from t22) (show 0 ≤ v145_6.toInt from r23) (show v145_6.toInt ≤ 12 by first | with_reducible assumption | omega) (show 0 ≤ f145_12_0.toInt from r25) (show f145_12_0.toInt ≤ 10 from t26) (show 1 ≤ x49.toInt by first | with_reducible assumption | omega) (show x49.toInt ≤ 13 by first | with_reducible assumption | omega) (show (sumG 19 10 w1) + 1 ≤ (sumG 19 10 w174) by omega)  hw hT hF c178 c179 hM (lv_sub hl [2, 3, 4, 5, 6, 7, 8] rfl)
              · replace hM := hM.call hv77 rfl
                refine lv_istore (lv' := [(7, .int r67), (0, .ref (ad 0)), (1, .int a1), (2, .int a2), (3, .int a3), (4, .int a4), (5, .int v145_5), (6, .int v145_6)]) hx hb dX12_reaches_187 hl (by decide) rfl (fun ls hl => ?_)
                refine lv_aload_n hx hb dX12_reaches_189 rfl (lv_at hl 1 rfl) ?_
                refine lv_iload hx hb dX12_reaches_190 (lv_at hl 7 rfl) ?_
                refine lv_iload hx hb dX12_reaches_192 (lv_at hl 6 rfl) ?_
                refine tk_Vi hC hK hw hT hA hE hSR kM_at0 (by decide) rfl (kz_X12_otherOf_1 l adK adV dC dI cy ad B hB0 (Int.le_trans hB1 (by decide)) qr s1   v145_6 (show 0 ≤ v145_6.toInt from r23) (show v145_6.toInt ≤ 12 by first | with_reducible assumption | omega) v145_5 (show 0 ≤ v145_5.toInt from r21) (show v145_5.toInt ≤ 9 from t22) w12 H.size hT ) (cwV 2 hC.2.2.2.2 uV_RX12_348 rfl rfl rfl (by decide +kernel) ⟨Nat.le_of_ble_eq_true rfl, Nat.le_of_ble_eq_true rfl⟩) rfl hl.1 rfl (Nat.le_of_ble_eq_true rfl) dX12_reaches_194 (fun r183 w185 H locs hp184 hw => ?_)
                obtain ⟨rfl, hv193, hg192⟩ := hp184
                rcases hg192 with ⟨g187, g188⟩ | ⟨g189, g190, c191⟩
                · replace hM := hM.call hv193 rfl
                  refine lv_istore (lv' := [(8, .int r183), (7, .int r67), (0, .ref (ad 0)), (1, .int a1), (2, .int a2), (3, .int a3), (4, .int a4), (5, .int v145_5), (6, .int v145_6)]) hx hb dX12_reaches_197 hl (by decide) rfl (fun ls hl => ?_)
                  refine lv_iload hx hb dX12_reaches_199 (lv_at hl 1 rfl) ?_
                  refine lv_ldcw (v := 100000000) hx hb hC.2.2.2.1 (hC.2.2.2.2 _ (List.mem_cons_of_mem _ uw_38_2)) dX12_reaches_201 ?_
                  refine lv_icmp_ge (tgt := 259) hx hb dX12_reaches_204 (by decide) (fun c => absurd c (fun h => absurd (show (100000000 : Int) ≤ r67.toInt from wk_le.mp h) (by omega))) (fun _ => ?_)
                  replace hM := hM.neg (by omega)
                  refine lv_iload hx hb dX12_reaches_207 (lv_at hl 1 rfl) ?_
                  refine lv_aload_n hx hb dX12_reaches_209 rfl (lv_at hl 2 rfl) ?_
                  refine lv_iload hx hb dX12_reaches_210 (lv_at hl 8 rfl) ?_
                  refine lv_iconst (v := 2) hx hb dX12_reaches_212 (by decide) ?_
                  refine tk_Vi hC hK hw hT hA hE hSR kM_at0 (by decide) rfl (kz_X12_streetOf_6 l adK adV dC dI cy ad B hB0 (Int.le_trans hB1 (by decide)) qr s1   v145_6 (show 0 ≤ v145_6.toInt from r23) (show v145_6.toInt ≤ 12 by first | with_reducible assumption | omega) w12 H.size hT ) (cwV 2 hC.2.2.2.2 uV_RX12_300 rfl rfl rfl (by decide +kernel) ⟨Nat.le_of_ble_eq_true rfl, Nat.le_of_ble_eq_true rfl⟩) rfl hl.1 rfl (Nat.le_of_ble_eq_true rfl) dX12_reaches_213 (fun r194 w196 H locs hp195 hw => ?_)
                  obtain ⟨rfl, hv202, hg201⟩ := hp195
                  obtain ⟨g198, g199, c200⟩ := hg201
                  replace hM := hM.call hv202 rfl
                  refine lv_iadd hx hb dX12_reaches_216 ?_
                  refine lv_topi (fun x203 ex203 => ?_)
                  have ezx203 := ex203
                  have ex203 : x203.toInt = r67.toInt + r194.toInt := by rw [ex203]; exact wk_add (show (-2147483648) ≤ r67.toInt + r194.toInt by omega) (show r67.toInt + r194.toInt ≤ 2147483647 by omega)
                  replace hM := hM.lt ex203.symm
                  refine lv_iload hx hb dX12_reaches_217 (lv_at hl 6 rfl) ?_
                  refine lv_icmp_gt (tgt := 259) hx hb dX12_reaches_219 (by decide) (fun c204 => ?_) (fun c204 => ?_)
                  · have c204 : a4.toInt < x203.toInt := wk_lt.mp c204
                    replace hM := hM.pos c204
                    have gb205 : 0 ≤ sumG 19 10 w12 ∧ sumG 19 10 w12 ≤ 10 := hT.sum (lo := 0) (hi := 1) kM_at19 rfl (by decide) rfl
                    exact J259 x49 H locs ls w12 (show 0 ≤ a1.toInt from r13) (show a1.toInt ≤ 9 from t14) (show 0 ≤ a2.toInt from r15) (show a2.toInt ≤ 9 from t16) (show 0 ≤ a3.toInt from r17) (show a3.toInt ≤ 99999 from t18) (show 2000 ≤ a4.toInt from r19) (show a4.toInt ≤ 101999 from t20) (show 0 ≤ v145_5.toInt from r21) (show v145_5.toInt ≤ 9 from t22) (show 0 ≤ v145_6.toInt from r23) (show v145_6.toInt ≤ 12 by first | with_reducible assumption | omega) (show 0 ≤ f145_12_0.toInt from r25) (show f145_12_0.toInt ≤ 10 from t26) (show 1 ≤ x49.toInt by first | with_reducible assumption | omega) (show x49.toInt ≤ 13 by first | with_reducible assumption | omega) (show (sumG 19 10 w1) + 1 ≤ (sumG 19 10 w12) by omega)  hw hT hF c27 c50 hM (lv_sub hl [2, 3, 4, 5, 6, 7, 8] rfl)
                  · have c204 : x203.toInt ≤ a4.toInt := wk_ltF c204
                    replace hM := hM.neg (Int.not_lt.mpr c204)
                    refine lv_iload hx hb dX12_reaches_222 (lv_at hl 1 rfl) ?_
                    refine lv_aload_n hx hb dX12_reaches_224 rfl (lv_at hl 2 rfl) ?_
                    refine lv_iload hx hb dX12_reaches_225 (lv_at hl 8 rfl) ?_
                    refine lv_iconst (v := 2) hx hb dX12_reaches_227 (by decide) ?_
                    refine tk_Vi hC hK hw hT hA hE hSR kM_at0 (by decide) rfl (kz_X12_streetOf_6 l adK adV dC dI cy ad B hB0 (Int.le_trans hB1 (by decide)) qr s1   v145_6 (show 0 ≤ v145_6.toInt from r23) (show v145_6.toInt ≤ 12 by first | with_reducible assumption | omega) w12 H.size hT ) (cwV 2 hC.2.2.2.2 uV_RX12_300 rfl rfl rfl (by decide +kernel) ⟨Nat.le_of_ble_eq_true rfl, Nat.le_of_ble_eq_true rfl⟩) rfl hl.1 rfl (Nat.le_of_ble_eq_true rfl) dX12_reaches_228 (fun r206 w208 H locs hp207 hw => ?_)
                    obtain ⟨rfl, hv214, hg213⟩ := hp207
                    obtain ⟨g210, g211, c212⟩ := hg213
                    replace hM := hM.call hv214 rfl
                    obtain rfl : r194 = r206 := c200.symm.trans c212
                    refine lv_iadd hx hb dX12_reaches_231 ?_
                    refine lv_topi (fun x215 ex215 => ?_)
                    have ezx215 := ex215
                    have ex215 : x215.toInt = r67.toInt + r194.toInt := by rw [ex215]; exact wk_add (show (-2147483648) ≤ r67.toInt + r194.toInt by omega) (show r67.toInt + r194.toInt ≤ 2147483647 by omega)
                    replace hM := hM.lt ex215.symm
                    refine lv_aload_n hx hb dX12_reaches_232 rfl (lv_at hl 2 rfl) ?_
                    refine tk_getA hC hK hw hT hinX12 kM_at0 (by decide) rfl 35 (by decide) (List.mem_cons_of_mem _ uw_7_8) rfl rfl dX12_reaches_233 ?_
                    refine lv_iload hx hb dX12_reaches_236 (lv_at hl 0 rfl) ?_
                    refine tk_iald hC hK hw hT kM_at18 rfl rfl (show 0 ≤ r183.toInt by first | with_reducible assumption | omega) (show r183.toInt < 10 by first | with_reducible assumption | omega) dX12_reaches_238 (fun x216 c217 rx216 tx216 => ?_)
                    have hox216 := c217
                    replace hM := hM.rd (sI_at hox216)
                    refine lv_icmp_ge (tgt := 259) hx hb dX12_reaches_239 (by decide) (fun c218 => ?_) (fun c218 => ?_)
                    · have c218 : x216.toInt ≤ x215.toInt := wk_le.mp c218
                      replace hM := hM.pos c218
                      have gb219 : 0 ≤ sumG 19 10 w12 ∧ sumG 19 10 w12 ≤ 10 := hT.sum (lo := 0) (hi := 1) kM_at19 rfl (by decide) rfl
                      exact J259 x49 H locs ls w12 (show 0 ≤ a1.toInt from r13) (show a1.toInt ≤ 9 from t14) (show 0 ≤ a2.toInt from r15) (show a2.toInt ≤ 9 from t16) (show 0 ≤ a3.toInt from r17) (show a3.toInt ≤ 99999 from t18) (show 2000 ≤ a4.toInt from r19) (show a4.toInt ≤ 101999 from t20) (show 0 ≤ v145_5.toInt from r21) (show v145_5.toInt ≤ 9 from t22) (show 0 ≤ v145_6.toInt from r23) (show v145_6.toInt ≤ 12 by first | with_reducible assumption | omega) (show 0 ≤ f145_12_0.toInt from r25) (show f145_12_0.toInt ≤ 10 from t26) (show 1 ≤ x49.toInt by first | with_reducible assumption | omega) (show x49.toInt ≤ 13 by first | with_reducible assumption | omega) (show (sumG 19 10 w1) + 1 ≤ (sumG 19 10 w12) by omega)  hw hT hF c27 c50 hM (lv_sub hl [2, 3, 4, 5, 6, 7, 8] rfl)
                    · have c218 : x215.toInt < x216.toInt := wk_leF c218
                      replace hM := hM.neg (Int.not_le.mpr c218)
                      refine lv_aload_n hx hb dX12_reaches_242 rfl (lv_at hl 2 rfl) ?_
                      refine tk_getA hC hK hw hT hinX12 kM_at0 (by decide) rfl 35 (by decide) (List.mem_cons_of_mem _ uw_7_8) rfl rfl dX12_reaches_243 ?_
                      refine lv_iload hx hb dX12_reaches_246 (lv_at hl 0 rfl) ?_
                      refine lv_iload hx hb dX12_reaches_248 (lv_at hl 1 rfl) ?_
                      refine lv_aload_n hx hb dX12_reaches_250 rfl (lv_at hl 2 rfl) ?_
                      refine lv_iload hx hb dX12_reaches_251 (lv_at hl 8 rfl) ?_
                      refine lv_iconst (v := 2) hx hb dX12_reaches_253 (by decide) ?_
                      refine tk_Vi hC hK hw hT hA hE hSR kM_at0 (by decide) rfl (kz_X12_streetOf_6 l adK adV dC dI cy ad B hB0 (Int.le_trans hB1 (by decide)) qr s1   v145_6 (show 0 ≤ v145_6.toInt from r23) (show v145_6.toInt ≤ 12 by first | with_reducible assumption | omega) w12 H.size hT ) (cwV 2 hC.2.2.2.2 uV_RX12_300 rfl rfl rfl (by decide +kernel) ⟨Nat.le_of_ble_eq_true rfl, Nat.le_of_ble_eq_true rfl⟩) rfl hl.1 rfl (Nat.le_of_ble_eq_true rfl) dX12_reaches_254 (fun r220 w222 H locs hp221 hw => ?_)
                      obtain ⟨rfl, hv228, hg227⟩ := hp221
                      obtain ⟨g224, g225, c226⟩ := hg227
                      replace hM := hM.call hv228 rfl
                      obtain rfl : r194 = r220 := c200.symm.trans c226
                      refine lv_iadd hx hb dX12_reaches_257 ?_
                      refine lv_topi (fun x229 ex229 => ?_)
                      have ezx229 := ex229
                      have ex229 : x229.toInt = r67.toInt + r194.toInt := by rw [ex229]; exact wk_add (show (-2147483648) ≤ r67.toInt + r194.toInt by omega) (show r67.toInt + r194.toInt ≤ 2147483647 by omega)
                      replace hM := hM.lt ex229.symm
                      refine tk_iast hC hK hw hT kM_at18 (by decide) rfl rfl (show 0 ≤ r183.toInt by first | with_reducible assumption | omega) (show r183.toInt < 10 by first | with_reducible assumption | omega) (show 0 ≤ x229.toInt by first | with_reducible assumption | omega) (show x229.toInt ≤ 100000100 by first | with_reducible assumption | omega) dX12_reaches_258 (fun H locs w230 hw hT k232 c231 => ?_)
                      replace hM := hM.wr (sI_up k232 c231)
                      have gs233 : sumG 19 10 w230 = sumG 19 10 w12 := sumG_ne 10 k232 (tk_ne kM_at19 kM_at18 (by decide))
                      have hF := hF.put kM_at18 (inE_of (a := 0) (b := 10) (by decide) (show 0 ≤ r183.toInt.toNat by omega) (show r183.toInt.toNat ≤ 10 by omega)) k232
                      have c234 := k232.gi (Or.inl (tk_ne kM_at12 kM_at18 (by decide))) c27
                      have c235 := k232.gi (Or.inl (tk_ne kM_at12 kM_at18 (by decide))) c50
                      have c236 := k232.gi (Or.inl (tk_ne kM_at12 kM_at18 (by decide))) c58
                      have c237 := k232.gi (Or.inl (tk_ne kM_at12 kM_at18 (by decide))) c200
                      have gb238 : 0 ≤ sumG 19 10 w230 ∧ sumG 19 10 w230 ≤ 10 := hT.sum (lo := 0) (hi := 1) kM_at19 rfl (by decide) rfl
                      exact J259 x49 H locs ls w230 (show 0 ≤ a1.toInt from r13) (show a1.toInt ≤ 9 from t14) (show 0 ≤ a2.toInt from r15) (show a2.toInt ≤ 9 from t16) (show 0 ≤ a3.toInt from r17) (show a3.toInt ≤ 99999 from t18) (show 2000 ≤ a4.toInt from r19) (show a4.toInt ≤ 101999 from t20) (show 0 ≤ v145_5.toInt from r21) (show v145_5.toInt ≤ 9 from t22) (show 0 ≤ v145_6.toInt from r23) (show v145_6.toInt ≤ 12 by first | with_reducible assumption | omega) (show 0 ≤ f145_12_0.toInt from r25) (show f145_12_0.toInt ≤ 10 from t26) (show 1 ≤ x49.toInt by first | with_reducible assumption | omega) (show x49.toInt ≤ 13 by first | with_reducible assumption | omega) (show (sumG 19 10 w1) + 1 ≤ (sumG 19 10 w230) by omega)  hw hT hF c234 c235 hM (lv_sub hl [2, 3, 4, 5, 6, 7, 8] rfl)
                · replace hM := hM.call hv193 rfl
                  refine lv_istore (lv' := [(8, .int r183), (7, .int r67), (0, .ref (ad 0)), (1, .int a1), (2, .int a2), (3, .int a3), (4, .int a4), (5, .int v145_5), (6, .int v145_6)]) hx hb dX12_reaches_197 hl (by decide) rfl (fun ls hl => ?_)
                  refine lv_iload hx hb dX12_reaches_199 (lv_at hl 1 rfl) ?_
                  refine lv_ldcw (v := 100000000) hx hb hC.2.2.2.1 (hC.2.2.2.2 _ (List.mem_cons_of_mem _ uw_38_2)) dX12_reaches_201 ?_
                  refine lv_icmp_ge (tgt := 259) hx hb dX12_reaches_204 (by decide) (fun c => absurd c (fun h => absurd (show (100000000 : Int) ≤ r67.toInt from wk_le.mp h) (by omega))) (fun _ => ?_)
                  replace hM := hM.neg (by omega)
                  refine lv_iload hx hb dX12_reaches_207 (lv_at hl 1 rfl) ?_
                  refine lv_aload_n hx hb dX12_reaches_209 rfl (lv_at hl 2 rfl) ?_
                  refine lv_iload hx hb dX12_reaches_210 (lv_at hl 8 rfl) ?_
                  refine lv_iconst (v := 2) hx hb dX12_reaches_212 (by decide) ?_
                  refine tk_Vi hC hK hw hT hA hE hSR kM_at0 (by decide) rfl (kz_X12_streetOf_6 l adK adV dC dI cy ad B hB0 (Int.le_trans hB1 (by decide)) qr s1   v145_6 (show 0 ≤ v145_6.toInt from r23) (show v145_6.toInt ≤ 12 by first | with_reducible assumption | omega) w12 H.size hT ) (cwV 2 hC.2.2.2.2 uV_RX12_300 rfl rfl rfl (by decide +kernel) ⟨Nat.le_of_ble_eq_true rfl, Nat.le_of_ble_eq_true rfl⟩) rfl hl.1 rfl (Nat.le_of_ble_eq_true rfl) dX12_reaches_213 (fun r239 w241 H locs hp240 hw => ?_)
                  obtain ⟨rfl, hv247, hg246⟩ := hp240
                  obtain ⟨g243, g244, c245⟩ := hg246
                  replace hM := hM.call hv247 rfl
                  refine lv_iadd hx hb dX12_reaches_216 ?_
                  refine lv_topi (fun x248 ex248 => ?_)
                  have ezx248 := ex248
                  have ex248 : x248.toInt = r67.toInt + r239.toInt := by rw [ex248]; exact wk_add (show (-2147483648) ≤ r67.toInt + r239.toInt by omega) (show r67.toInt + r239.toInt ≤ 2147483647 by omega)
                  replace hM := hM.lt ex248.symm
                  refine lv_iload hx hb dX12_reaches_217 (lv_at hl 6 rfl) ?_
                  refine lv_icmp_gt (tgt := 259) hx hb dX12_reaches_219 (by decide) (fun c249 => ?_) (fun c249 => ?_)
                  · have c249 : a4.toInt < x248.toInt := wk_lt.mp c249
                    replace hM := hM.pos c249
                    have gb250 : 0 ≤ sumG 19 10 w12 ∧ sumG 19 10 w12 ≤ 10 := hT.sum (lo := 0) (hi := 1) kM_at19 rfl (by decide) rfl
                    exact J259 x49 H locs ls w12 (show 0 ≤ a1.toInt from r13) (show a1.toInt ≤ 9 from t14) (show 0 ≤ a2.toInt from r15) (show a2.toInt ≤ 9 from t16) (show 0 ≤ a3.toInt from r17) (show a3.toInt ≤ 99999 from t18) (show 2000 ≤ a4.toInt from r19) (show a4.toInt ≤ 101999 from t20) (show 0 ≤ v145_5.toInt from r21) (show v145_5.toInt ≤ 9 from t22) (show 0 ≤ v145_6.toInt from r23) (show v145_6.toInt ≤ 12 by first | with_reducible assumption | omega) (show 0 ≤ f145_12_0.toInt from r25) (show f145_12_0.toInt ≤ 10 from t26) (show 1 ≤ x49.toInt by first | with_reducible assumption | omega) (show x49.toInt ≤ 13 by first | with_reducible assumption | omega) (show (sumG 19 10 w1) + 1 ≤ (sumG 19 10 w12) by omega)  hw hT hF c27 c50 hM (lv_sub hl [2, 3, 4, 5, 6, 7, 8] rfl)
                  · have c249 : x248.toInt ≤ a4.toInt := wk_ltF c249
                    replace hM := hM.neg (Int.not_lt.mpr c249)
                    refine lv_iload hx hb dX12_reaches_222 (lv_at hl 1 rfl) ?_
                    refine lv_aload_n hx hb dX12_reaches_224 rfl (lv_at hl 2 rfl) ?_
                    refine lv_iload hx hb dX12_reaches_225 (lv_at hl 8 rfl) ?_
                    refine lv_iconst (v := 2) hx hb dX12_reaches_227 (by decide) ?_
                    refine tk_Vi hC hK hw hT hA hE hSR kM_at0 (by decide) rfl (kz_X12_streetOf_6 l adK adV dC dI cy ad B hB0 (Int.le_trans hB1 (by decide)) qr s1   v145_6 (show 0 ≤ v145_6.toInt from r23) (show v145_6.toInt ≤ 12 by first | with_reducible assumption | omega) w12 H.size hT ) (cwV 2 hC.2.2.2.2 uV_RX12_300 rfl rfl rfl (by decide +kernel) ⟨Nat.le_of_ble_eq_true rfl, Nat.le_of_ble_eq_true rfl⟩) rfl hl.1 rfl (Nat.le_of_ble_eq_true rfl) dX12_reaches_228 (fun r251 w253 H locs hp252 hw => ?_)
                    obtain ⟨rfl, hv259, hg258⟩ := hp252
                    obtain ⟨g255, g256, c257⟩ := hg258
                    replace hM := hM.call hv259 rfl
                    obtain rfl : r239 = r251 := c245.symm.trans c257
                    refine lv_iadd hx hb dX12_reaches_231 ?_
                    refine lv_topi (fun x260 ex260 => ?_)
                    have ezx260 := ex260
                    have ex260 : x260.toInt = r67.toInt + r239.toInt := by rw [ex260]; exact wk_add (show (-2147483648) ≤ r67.toInt + r239.toInt by omega) (show r67.toInt + r239.toInt ≤ 2147483647 by omega)
                    replace hM := hM.lt ex260.symm
                    refine lv_aload_n hx hb dX12_reaches_232 rfl (lv_at hl 2 rfl) ?_
                    refine tk_getA hC hK hw hT hinX12 kM_at0 (by decide) rfl 35 (by decide) (List.mem_cons_of_mem _ uw_7_8) rfl rfl dX12_reaches_233 ?_
                    refine lv_iload hx hb dX12_reaches_236 (lv_at hl 0 rfl) ?_
                    refine tk_iald hC hK hw hT kM_at18 rfl rfl (show 0 ≤ r183.toInt by first | with_reducible assumption | omega) (show r183.toInt < 10 by first | with_reducible assumption | omega) dX12_reaches_238 (fun x261 c262 rx261 tx261 => ?_)
                    have hox261 := c262
                    replace hM := hM.rd (sI_at hox261)
                    refine lv_icmp_ge (tgt := 259) hx hb dX12_reaches_239 (by decide) (fun c263 => ?_) (fun c263 => ?_)
                    · have c263 : x261.toInt ≤ x260.toInt := wk_le.mp c263
                      replace hM := hM.pos c263
                      have gb264 : 0 ≤ sumG 19 10 w12 ∧ sumG 19 10 w12 ≤ 10 := hT.sum (lo := 0) (hi := 1) kM_at19 rfl (by decide) rfl
                      exact J259 x49 H locs ls w12 (show 0 ≤ a1.toInt from r13) (show a1.toInt ≤ 9 from t14) (show 0 ≤ a2.toInt from r15) (show a2.toInt ≤ 9 from t16) (show 0 ≤ a3.toInt from r17) (show a3.toInt ≤ 99999 from t18) (show 2000 ≤ a4.toInt from r19) (show a4.toInt ≤ 101999 from t20) (show 0 ≤ v145_5.toInt from r21) (show v145_5.toInt ≤ 9 from t22) (show 0 ≤ v145_6.toInt from r23) (show v145_6.toInt ≤ 12 by first | with_reducible assumption | omega) (show 0 ≤ f145_12_0.toInt from r25) (show f145_12_0.toInt ≤ 10 from t26) (show 1 ≤ x49.toInt by first | with_reducible assumption | omega) (show x49.toInt ≤ 13 by first | with_reducible assumption | omega) (show (sumG 19 10 w1) + 1 ≤ (sumG 19 10 w12) by omega)  hw hT hF c27 c50 hM (lv_sub hl [2, 3, 4, 5, 6, 7, 8] rfl)
                    · have c263 : x260.toInt < x261.toInt := wk_leF c263
                      replace hM := hM.neg (Int.not_le.mpr c263)
                      refine lv_aload_n hx hb dX12_reaches_242 rfl (lv_at hl 2 rfl) ?_
                      refine tk_getA hC hK hw hT hinX12 kM_at0 (by decide) rfl 35 (by decide) (List.mem_cons_of_mem _ uw_7_8) rfl rfl dX12_reaches_243 ?_
                      refine lv_iload hx hb dX12_reaches_246 (lv_at hl 0 rfl) ?_
                      refine lv_iload hx hb dX12_reaches_248 (lv_at hl 1 rfl) ?_
                      refine lv_aload_n hx hb dX12_reaches_250 rfl (lv_at hl 2 rfl) ?_
                      refine lv_iload hx hb dX12_reaches_251 (lv_at hl 8 rfl) ?_
                      refine lv_iconst (v := 2) hx hb dX12_reaches_253 (by decide) ?_
                      refine tk_Vi hC hK hw hT hA hE hSR kM_at0 (by decide) rfl (kz_X12_streetOf_6 l adK adV dC dI cy ad B hB0 (Int.le_trans hB1 (by decide)) qr s1   v145_6 (show 0 ≤ v145_6.toInt from r23) (show v145_6.toInt ≤ 12 by first | with_reducible assumption | omega) w12 H.size hT ) (cwV 2 hC.2.2.2.2 uV_RX12_300 rfl rfl rfl (by decide +kernel) ⟨Nat.le_of_ble_eq_true rfl, Nat.le_of_ble_eq_true rfl⟩) rfl hl.1 rfl (Nat.le_of_ble_eq_true rfl) dX12_reaches_254 (fun r265 w267 H locs hp266 hw => ?_)
                      obtain ⟨rfl, hv273, hg272⟩ := hp266
                      obtain ⟨g269, g270, c271⟩ := hg272
                      replace hM := hM.call hv273 rfl
                      obtain rfl : r239 = r265 := c245.symm.trans c271
                      refine lv_iadd hx hb dX12_reaches_257 ?_
                      refine lv_topi (fun x274 ex274 => ?_)
                      have ezx274 := ex274
                      have ex274 : x274.toInt = r67.toInt + r239.toInt := by rw [ex274]; exact wk_add (show (-2147483648) ≤ r67.toInt + r239.toInt by omega) (show r67.toInt + r239.toInt ≤ 2147483647 by omega)
                      replace hM := hM.lt ex274.symm
                      refine tk_iast hC hK hw hT kM_at18 (by decide) rfl rfl (show 0 ≤ r183.toInt by first | with_reducible assumption | omega) (show r183.toInt < 10 by first | with_reducible assumption | omega) (show 0 ≤ x274.toInt by first | with_reducible assumption | omega) (show x274.toInt ≤ 100000100 by first | with_reducible assumption | omega) dX12_reaches_258 (fun H locs w275 hw hT k277 c276 => ?_)
                      replace hM := hM.wr (sI_up k277 c276)
                      have gs278 : sumG 19 10 w275 = sumG 19 10 w12 := sumG_ne 10 k277 (tk_ne kM_at19 kM_at18 (by decide))
                      have hF := hF.put kM_at18 (inE_of (a := 0) (b := 10) (by decide) (show 0 ≤ r183.toInt.toNat by omega) (show r183.toInt.toNat ≤ 10 by omega)) k277
                      have c279 := k277.gi (Or.inl (tk_ne kM_at12 kM_at18 (by decide))) c27
                      have c280 := k277.gi (Or.inl (tk_ne kM_at12 kM_at18 (by decide))) c50
                      have c281 := k277.gi (Or.inl (tk_ne kM_at12 kM_at18 (by decide))) c58
                      have c282 := k277.gi (Or.inl (tk_ne kM_at12 kM_at18 (by decide))) c245
                      have gb283 : 0 ≤ sumG 19 10 w275 ∧ sumG 19 10 w275 ≤ 10 := hT.sum (lo := 0) (hi := 1) kM_at19 rfl (by decide) rfl
                      exact J259 x49 H locs ls w275 (show 0 ≤ a1.toInt from r13) (show a1.toInt ≤ 9 from t14) (show 0 ≤ a2.toInt from r15) (show a2.toInt ≤ 9 from t16) (show 0 ≤ a3.toInt from r17) (show a3.toInt ≤ 99999 from t18) (show 2000 ≤ a4.toInt from r19) (show a4.toInt ≤ 101999 from t20) (show 0 ≤ v145_5.toInt from r21) (show v145_5.toInt ≤ 9 from t22) (show 0 ≤ v145_6.toInt from r23) (show v145_6.toInt ≤ 12 by first | with_reducible assumption | omega) (show 0 ≤ f145_12_0.toInt from r25) (show f145_12_0.toInt ≤ 10 from t26) (show 1 ≤ x49.toInt by first | with_reducible assumption | omega) (show x49.toInt ≤ 13 by first | with_reducible assumption | omega) (show (sumG 19 10 w1) + 1 ≤ (sumG 19 10 w275) by omega)  hw hT hF c279 c280 hM (lv_sub hl [2, 3, 4, 5, 6, 7, 8] rfl)
            · replace hM := hM.call (r' := 1) hv63 (by decide)
              refine lv_if_ne (tgt := 170) hx hb dX12_reaches_164 (by decide) (fun _ => ?_) (fun c => absurd c (by decide))
              replace hM := hM.pos (by decide)
              refine lv_aload_n hx hb dX12_reaches_170 rfl (lv_at hl 0 rfl) ?_
              refine lv_iload hx hb dX12_reaches_171 (lv_at hl 6 rfl) ?_
              refine lv_iload hx hb dX12_reaches_173 (lv_at hl 5 rfl) ?_
              refine lv_aload_n hx hb dX12_reaches_175 rfl (lv_at hl 0 rfl) ?_
              refine tk_getA hC hK hw hT hinX12 kM_at0 (by decide) rfl 35 (by decide) (List.mem_cons_of_mem _ uw_7_8) rfl rfl dX12_reaches_176 ?_
              refine lv_iload hx hb dX12_reaches_179 (lv_at hl 5 rfl) ?_
              refine tk_iald hC hK hw hT kM_at18 rfl rfl (show 0 ≤ v145_5.toInt from r21) (show v145_5.toInt < 10 from Int.lt_of_le_of_lt t22 (by decide)) dX12_reaches_181 (fun x284 c285 rx284 tx284 => ?_)
              have hox284 := c285
              replace hM := hM.rd (sI_at hox284)
              refine lv_iload hx hb dX12_reaches_182 (lv_at hl 4 rfl) ?_
              refine tk_Vi hC hK hw hT hA hE hSR kM_at0 (by decide) rfl (kz_X12_firstOpen_1 l adK adV dC dI cy ad B hB0 (Int.le_trans hB1 (by decide)) qr s1   v145_6 (show 0 ≤ v145_6.toInt from r23) (show v145_6.toInt ≤ 12 by first | with_reducible assumption | omega) v145_5 (show 0 ≤ v145_5.toInt from r21) (show v145_5.toInt ≤ 9 from t22) x284 (show 0 ≤ x284.toInt from rx284) (show x284.toInt ≤ 100000100 from tx284) a4 (show 2000 ≤ a4.toInt from r19) (show a4.toInt ≤ 101999 from t20) w12 H.size hT ) (cwV 4 hC.2.2.2.2 uV_RX12_449 rfl rfl rfl (by decide +kernel) ⟨Nat.le_of_ble_eq_true rfl, Nat.le_of_ble_eq_true rfl⟩) rfl hl.1 rfl (Nat.le_of_ble_eq_true rfl) dX12_reaches_184 (fun r286 w288 H locs hp287 hw => ?_)
              obtain ⟨rfl, hv296, hg295⟩ := hp287
              rcases hg295 with ⟨g290, g291⟩ | ⟨g292, g293, c294⟩
              · replace hM := hM.call hv296 rfl
                refine lv_istore (lv' := [(7, .int r286), (0, .ref (ad 0)), (1, .int a1), (2, .int a2), (3, .int a3), (4, .int a4), (5, .int v145_5), (6, .int v145_6)]) hx hb dX12_reaches_187 hl (by decide) rfl (fun ls hl => ?_)
                refine lv_aload_n hx hb dX12_reaches_189 rfl (lv_at hl 1 rfl) ?_
                refine lv_iload hx hb dX12_reaches_190 (lv_at hl 7 rfl) ?_
                refine lv_iload hx hb dX12_reaches_192 (lv_at hl 6 rfl) ?_
                refine tk_Vi hC hK hw hT hA hE hSR kM_at0 (by decide) rfl (kz_X12_otherOf_1 l adK adV dC dI cy ad B hB0 (Int.le_trans hB1 (by decide)) qr s1   v145_6 (show 0 ≤ v145_6.toInt from r23) (show v145_6.toInt ≤ 12 by first | with_reducible assumption | omega) v145_5 (show 0 ≤ v145_5.toInt from r21) (show v145_5.toInt ≤ 9 from t22) w12 H.size hT ) (cwV 2 hC.2.2.2.2 uV_RX12_348 rfl rfl rfl (by decide +kernel) ⟨Nat.le_of_ble_eq_true rfl, Nat.le_of_ble_eq_true rfl⟩) rfl hl.1 rfl (Nat.le_of_ble_eq_true rfl) dX12_reaches_194 (fun r297 w299 H locs hp298 hw => ?_)
                obtain ⟨rfl, hv307, hg306⟩ := hp298
                rcases hg306 with ⟨g301, g302⟩ | ⟨g303, g304, c305⟩
                · replace hM := hM.call hv307 rfl
                  refine lv_istore (lv' := [(8, .int r297), (7, .int r286), (0, .ref (ad 0)), (1, .int a1), (2, .int a2), (3, .int a3), (4, .int a4), (5, .int v145_5), (6, .int v145_6)]) hx hb dX12_reaches_197 hl (by decide) rfl (fun ls hl => ?_)
                  refine lv_iload hx hb dX12_reaches_199 (lv_at hl 1 rfl) ?_
                  refine lv_ldcw (v := 100000000) hx hb hC.2.2.2.1 (hC.2.2.2.2 _ (List.mem_cons_of_mem _ uw_38_2)) dX12_reaches_201 ?_
                  refine lv_icmp_ge (tgt := 259) hx hb dX12_reaches_204 (by decide) (fun c308 => ?_) (fun c308 => ?_)
                  · have c308 : (100000000 : Int) ≤ r286.toInt := wk_le.mp c308
                    replace hM := hM.pos c308
                    have gb309 : 0 ≤ sumG 19 10 w12 ∧ sumG 19 10 w12 ≤ 10 := hT.sum (lo := 0) (hi := 1) kM_at19 rfl (by decide) rfl
                    exact J259 x49 H locs ls w12 (show 0 ≤ a1.toInt from r13) (show a1.toInt ≤ 9 from t14) (show 0 ≤ a2.toInt from r15) (show a2.toInt ≤ 9 from t16) (show 0 ≤ a3.toInt from r17) (show a3.toInt ≤ 99999 from t18) (show 2000 ≤ a4.toInt from r19) (show a4.toInt ≤ 101999 from t20) (show 0 ≤ v145_5.toInt from r21) (show v145_5.toInt ≤ 9 from t22) (show 0 ≤ v145_6.toInt from r23) (show v145_6.toInt ≤ 12 by first | with_reducible assumption | omega) (show 0 ≤ f145_12_0.toInt from r25) (show f145_12_0.toInt ≤ 10 from t26) (show 1 ≤ x49.toInt by first | with_reducible assumption | omega) (show x49.toInt ≤ 13 by first | with_reducible assumption | omega) (show (sumG 19 10 w1) + 1 ≤ (sumG 19 10 w12) by omega)  hw hT hF c27 c50 hM (lv_sub hl [2, 3, 4, 5, 6, 7, 8] rfl)
                  · have c308 : r286.toInt < (100000000 : Int) := wk_leF c308
                    replace hM := hM.neg (Int.not_le.mpr c308)
                    refine lv_iload hx hb dX12_reaches_207 (lv_at hl 1 rfl) ?_
                    refine lv_aload_n hx hb dX12_reaches_209 rfl (lv_at hl 2 rfl) ?_
                    refine lv_iload hx hb dX12_reaches_210 (lv_at hl 8 rfl) ?_
                    refine lv_iconst (v := 2) hx hb dX12_reaches_212 (by decide) ?_
                    refine tk_Vi hC hK hw hT hA hE hSR kM_at0 (by decide) rfl (kz_X12_streetOf_6 l adK adV dC dI cy ad B hB0 (Int.le_trans hB1 (by decide)) qr s1   v145_6 (show 0 ≤ v145_6.toInt from r23) (show v145_6.toInt ≤ 12 by first | with_reducible assumption | omega) w12 H.size hT ) (cwV 2 hC.2.2.2.2 uV_RX12_300 rfl rfl rfl (by decide +kernel) ⟨Nat.le_of_ble_eq_true rfl, Nat.le_of_ble_eq_true rfl⟩) rfl hl.1 rfl (Nat.le_of_ble_eq_true rfl) dX12_reaches_213 (fun r310 w312 H locs hp311 hw => ?_)
                    obtain ⟨rfl, hv318, hg317⟩ := hp311
                    obtain ⟨g314, g315, c316⟩ := hg317
                    replace hM := hM.call hv318 rfl
                    refine lv_iadd hx hb dX12_reaches_216 ?_
                    refine lv_topi (fun x319 ex319 => ?_)
                    have ezx319 := ex319
                    have ex319 : x319.toInt = r286.toInt + r310.toInt := by rw [ex319]; exact wk_add (show (-2147483648) ≤ r286.toInt + r310.toInt by omega) (show r286.toInt + r310.toInt ≤ 2147483647 by omega)
                    replace hM := hM.lt ex319.symm
                    refine lv_iload hx hb dX12_reaches_217 (lv_at hl 6 rfl) ?_
                    refine lv_icmp_gt (tgt := 259) hx hb dX12_reaches_219 (by decide) (fun c320 => ?_) (fun c320 => ?_)
                    · have c320 : a4.toInt < x319.toInt := wk_lt.mp c320
                      replace hM := hM.pos c320
                      have gb321 : 0 ≤ sumG 19 10 w12 ∧ sumG 19 10 w12 ≤ 10 := hT.sum (lo := 0) (hi := 1) kM_at19 rfl (by decide) rfl
                      exact J259 x49 H locs ls w12 (show 0 ≤ a1.toInt from r13) (show a1.toInt ≤ 9 from t14) (show 0 ≤ a2.toInt from r15) (show a2.toInt ≤ 9 from t16) (show 0 ≤ a3.toInt from r17) (show a3.toInt ≤ 99999 from t18) (show 2000 ≤ a4.toInt from r19) (show a4.toInt ≤ 101999 from t20) (show 0 ≤ v145_5.toInt from r21) (show v145_5.toInt ≤ 9 from t22) (show 0 ≤ v145_6.toInt from r23) (show v145_6.toInt ≤ 12 by first | with_reducible assumption | omega) (show 0 ≤ f145_12_0.toInt from r25) (show f145_12_0.toInt ≤ 10 from t26) (show 1 ≤ x49.toInt by first | with_reducible assumption | omega) (show x49.toInt ≤ 13 by first | with_reducible assumption | omega) (show (sumG 19 10 w1) + 1 ≤ (sumG 19 10 w12) by omega)  hw hT hF c27 c50 hM (lv_sub hl [2, 3, 4, 5, 6, 7, 8] rfl)
                    · have c320 : x319.toInt ≤ a4.toInt := wk_ltF c320
                      replace hM := hM.neg (Int.not_lt.mpr c320)
                      refine lv_iload hx hb dX12_reaches_222 (lv_at hl 1 rfl) ?_
                      refine lv_aload_n hx hb dX12_reaches_224 rfl (lv_at hl 2 rfl) ?_
                      refine lv_iload hx hb dX12_reaches_225 (lv_at hl 8 rfl) ?_
                      refine lv_iconst (v := 2) hx hb dX12_reaches_227 (by decide) ?_
                      refine tk_Vi hC hK hw hT hA hE hSR kM_at0 (by decide) rfl (kz_X12_streetOf_6 l adK adV dC dI cy ad B hB0 (Int.le_trans hB1 (by decide)) qr s1   v145_6 (show 0 ≤ v145_6.toInt from r23) (show v145_6.toInt ≤ 12 by first | with_reducible assumption | omega) w12 H.size hT ) (cwV 2 hC.2.2.2.2 uV_RX12_300 rfl rfl rfl (by decide +kernel) ⟨Nat.le_of_ble_eq_true rfl, Nat.le_of_ble_eq_true rfl⟩) rfl hl.1 rfl (Nat.le_of_ble_eq_true rfl) dX12_reaches_228 (fun r322 w324 H locs hp323 hw => ?_)
                      obtain ⟨rfl, hv330, hg329⟩ := hp323
                      obtain ⟨g326, g327, c328⟩ := hg329
                      replace hM := hM.call hv330 rfl
                      obtain rfl : r310 = r322 := c316.symm.trans c328
                      refine lv_iadd hx hb dX12_reaches_231 ?_
                      refine lv_topi (fun x331 ex331 => ?_)
                      have ezx331 := ex331
                      have ex331 : x331.toInt = r286.toInt + r310.toInt := by rw [ex331]; exact wk_add (show (-2147483648) ≤ r286.toInt + r310.toInt by omega) (show r286.toInt + r310.toInt ≤ 2147483647 by omega)
                      replace hM := hM.lt ex331.symm
                      refine lv_aload_n hx hb dX12_reaches_232 rfl (lv_at hl 2 rfl) ?_
                      refine tk_getA hC hK hw hT hinX12 kM_at0 (by decide) rfl 35 (by decide) (List.mem_cons_of_mem _ uw_7_8) rfl rfl dX12_reaches_233 ?_
                      refine lv_iload hx hb dX12_reaches_236 (lv_at hl 0 rfl) ?_
                      refine tk_iald hC hK hw hT kM_at18 rfl rfl (show 0 ≤ r297.toInt by first | with_reducible assumption | omega) (show r297.toInt < 10 by first | with_reducible assumption | omega) dX12_reaches_238 (fun x332 c333 rx332 tx332 => ?_)
                      have hox332 := c333
                      replace hM := hM.rd (sI_at hox332)
                      refine lv_icmp_ge (tgt := 259) hx hb dX12_reaches_239 (by decide) (fun c334 => ?_) (fun c334 => ?_)
                      · have c334 : x332.toInt ≤ x331.toInt := wk_le.mp c334
                        replace hM := hM.pos c334
                        have gb335 : 0 ≤ sumG 19 10 w12 ∧ sumG 19 10 w12 ≤ 10 := hT.sum (lo := 0) (hi := 1) kM_at19 rfl (by decide) rfl
                        exact J259 x49 H locs ls w12 (show 0 ≤ a1.toInt from r13) (show a1.toInt ≤ 9 from t14) (show 0 ≤ a2.toInt from r15) (show a2.toInt ≤ 9 from t16) (show 0 ≤ a3.toInt from r17) (show a3.toInt ≤ 99999 from t18) (show 2000 ≤ a4.toInt from r19) (show a4.toInt ≤ 101999 from t20) (show 0 ≤ v145_5.toInt from r21) (show v145_5.toInt ≤ 9 from t22) (show 0 ≤ v145_6.toInt from r23) (show v145_6.toInt ≤ 12 by first | with_reducible assumption | omega) (show 0 ≤ f145_12_0.toInt from r25) (show f145_12_0.toInt ≤ 10 from t26) (show 1 ≤ x49.toInt by first | with_reducible assumption | omega) (show x49.toInt ≤ 13 by first | with_reducible assumption | omega) (show (sumG 19 10 w1) + 1 ≤ (sumG 19 10 w12) by omega)  hw hT hF c27 c50 hM (lv_sub hl [2, 3, 4, 5, 6, 7, 8] rfl)
                      · have c334 : x331.toInt < x332.toInt := wk_leF c334
                        replace hM := hM.neg (Int.not_le.mpr c334)
                        refine lv_aload_n hx hb dX12_reaches_242 rfl (lv_at hl 2 rfl) ?_
                        refine tk_getA hC hK hw hT hinX12 kM_at0 (by decide) rfl 35 (by decide) (List.mem_cons_of_mem _ uw_7_8) rfl rfl dX12_reaches_243 ?_
                        refine lv_iload hx hb dX12_reaches_246 (lv_at hl 0 rfl) ?_
                        refine lv_iload hx hb dX12_reaches_248 (lv_at hl 1 rfl) ?_
                        refine lv_aload_n hx hb dX12_reaches_250 rfl (lv_at hl 2 rfl) ?_
                        refine lv_iload hx hb dX12_reaches_251 (lv_at hl 8 rfl) ?_
                        refine lv_iconst (v := 2) hx hb dX12_reaches_253 (by decide) ?_
                        refine tk_Vi hC hK hw hT hA hE hSR kM_at0 (by decide) rfl (kz_X12_streetOf_6 l adK adV dC dI cy ad B hB0 (Int.le_trans hB1 (by decide)) qr s1   v145_6 (show 0 ≤ v145_6.toInt from r23) (show v145_6.toInt ≤ 12 by first | with_reducible assumption | omega) w12 H.size hT ) (cwV 2 hC.2.2.2.2 uV_RX12_300 rfl rfl rfl (by decide +kernel) ⟨Nat.le_of_ble_eq_true rfl, Nat.le_of_ble_eq_true rfl⟩) rfl hl.1 rfl (Nat.le_of_ble_eq_true rfl) dX12_reaches_254 (fun r336 w338 H locs hp337 hw => ?_)
                        obtain ⟨rfl, hv344, hg343⟩ := hp337
                        obtain ⟨g340, g341, c342⟩ := hg343
                        replace hM := hM.call hv344 rfl
                        obtain rfl : r310 = r336 := c316.symm.trans c342
                        refine lv_iadd hx hb dX12_reaches_257 ?_
                        refine lv_topi (fun x345 ex345 => ?_)
                        have ezx345 := ex345
                        have ex345 : x345.toInt = r286.toInt + r310.toInt := by rw [ex345]; exact wk_add (show (-2147483648) ≤ r286.toInt + r310.toInt by omega) (show r286.toInt + r310.toInt ≤ 2147483647 by omega)
                        replace hM := hM.lt ex345.symm
                        refine tk_iast hC hK hw hT kM_at18 (by decide) rfl rfl (show 0 ≤ r297.toInt by first | with_reducible assumption | omega) (show r297.toInt < 10 by first | with_reducible assumption | omega) (show 0 ≤ x345.toInt by first | with_reducible assumption | omega) (show x345.toInt ≤ 100000100 by first | with_reducible assumption | omega) dX12_reaches_258 (fun H locs w346 hw hT k348 c347 => ?_)
                        replace hM := hM.wr (sI_up k348 c347)
                        have gs349 : sumG 19 10 w346 = sumG 19 10 w12 := sumG_ne 10 k348 (tk_ne kM_at19 kM_at18 (by decide))
                        have hF := hF.put kM_at18 (inE_of (a := 0) (b := 10) (by decide) (show 0 ≤ r297.toInt.toNat by omega) (show r297.toInt.toNat ≤ 10 by omega)) k348
                        have c350 := k348.gi (Or.inl (tk_ne kM_at12 kM_at18 (by decide))) c27
                        have c351 := k348.gi (Or.inl (tk_ne kM_at12 kM_at18 (by decide))) c50
                        have c352 := k348.gi (Or.inl (tk_ne kM_at12 kM_at18 (by decide))) c60
                        have c353 := k348.gi (Or.inl (tk_ne kM_at12 kM_at18 (by decide))) c316
                        have gb354 : 0 ≤ sumG 19 10 w346 ∧ sumG 19 10 w346 ≤ 10 := hT.sum (lo := 0) (hi := 1) kM_at19 rfl (by decide) rfl
                        exact J259 x49 H locs ls w346 (show 0 ≤ a1.toInt from r13) (show a1.toInt ≤ 9 from t14) (show 0 ≤ a2.toInt from r15) (show a2.toInt ≤ 9 from t16) (show 0 ≤ a3.toInt from r17) (show a3.toInt ≤ 99999 from t18) (show 2000 ≤ a4.toInt from r19) (show a4.toInt ≤ 101999 from t20) (show 0 ≤ v145_5.toInt from r21) (show v145_5.toInt ≤ 9 from t22) (show 0 ≤ v145_6.toInt from r23) (show v145_6.toInt ≤ 12 by first | with_reducible assumption | omega) (show 0 ≤ f145_12_0.toInt from r25) (show f145_12_0.toInt ≤ 10 from t26) (show 1 ≤ x49.toInt by first | with_reducible assumption | omega) (show x49.toInt ≤ 13 by first | with_reducible assumption | omega) (show (sumG 19 10 w1) + 1 ≤ (sumG 19 10 w346) by omega)  hw hT hF c350 c351 hM (lv_sub hl [2, 3, 4, 5, 6, 7, 8] rfl)
                · replace hM := hM.call hv307 rfl
                  refine lv_istore (lv' := [(8, .int r297), (7, .int r286), (0, .ref (ad 0)), (1, .int a1), (2, .int a2), (3, .int a3), (4, .int a4), (5, .int v145_5), (6, .int v145_6)]) hx hb dX12_reaches_197 hl (by decide) rfl (fun ls hl => ?_)
                  refine lv_iload hx hb dX12_reaches_199 (lv_at hl 1 rfl) ?_
                  refine lv_ldcw (v := 100000000) hx hb hC.2.2.2.1 (hC.2.2.2.2 _ (List.mem_cons_of_mem _ uw_38_2)) dX12_reaches_201 ?_
                  refine lv_icmp_ge (tgt := 259) hx hb dX12_reaches_204 (by decide) (fun c355 => ?_) (fun c355 => ?_)
                  · have c355 : (100000000 : Int) ≤ r286.toInt := wk_le.mp c355
                    replace hM := hM.pos c355
                    have gb356 : 0 ≤ sumG 19 10 w12 ∧ sumG 19 10 w12 ≤ 10 := hT.sum (lo := 0) (hi := 1) kM_at19 rfl (by decide) rfl
                    exact J259 x49 H locs ls w12 (show 0 ≤ a1.toInt from r13) (show a1.toInt ≤ 9 from t14) (show 0 ≤ a2.toInt from r15) (show a2.toInt ≤ 9 from t16) (show 0 ≤ a3.toInt from r17) (show a3.toInt ≤ 99999 from t18) (show 2000 ≤ a4.toInt from r19) (show a4.toInt ≤ 101999 from t20) (show 0 ≤ v145_5.toInt from r21) (show v145_5.toInt ≤ 9 from t22) (show 0 ≤ v145_6.toInt from r23) (show v145_6.toInt ≤ 12 by first | with_reducible assumption | omega) (show 0 ≤ f145_12_0.toInt from r25) (show f145_12_0.toInt ≤ 10 from t26) (show 1 ≤ x49.toInt by first | with_reducible assumption | omega) (show x49.toInt ≤ 13 by first | with_reducible assumption | omega) (show (sumG 19 10 w1) + 1 ≤ (sumG 19 10 w12) by omega)  hw hT hF c27 c50 hM (lv_sub hl [2, 3, 4, 5, 6, 7, 8] rfl)
                  · have c355 : r286.toInt < (100000000 : Int) := wk_leF c355
                    replace hM := hM.neg (Int.not_le.mpr c355)
                    refine lv_iload hx hb dX12_reaches_207 (lv_at hl 1 rfl) ?_
                    refine lv_aload_n hx hb dX12_reaches_209 rfl (lv_at hl 2 rfl) ?_
                    refine lv_iload hx hb dX12_reaches_210 (lv_at hl 8 rfl) ?_
                    refine lv_iconst (v := 2) hx hb dX12_reaches_212 (by decide) ?_
                    refine tk_Vi hC hK hw hT hA hE hSR kM_at0 (by decide) rfl (kz_X12_streetOf_6 l adK adV dC dI cy ad B hB0 (Int.le_trans hB1 (by decide)) qr s1   v145_6 (show 0 ≤ v145_6.toInt from r23) (show v145_6.toInt ≤ 12 by first | with_reducible assumption | omega) w12 H.size hT ) (cwV 2 hC.2.2.2.2 uV_RX12_300 rfl rfl rfl (by decide +kernel) ⟨Nat.le_of_ble_eq_true rfl, Nat.le_of_ble_eq_true rfl⟩) rfl hl.1 rfl (Nat.le_of_ble_eq_true rfl) dX12_reaches_213 (fun r357 w359 H locs hp358 hw => ?_)
                    obtain ⟨rfl, hv365, hg364⟩ := hp358
                    obtain ⟨g361, g362, c363⟩ := hg364
                    replace hM := hM.call hv365 rfl
                    refine lv_iadd hx hb dX12_reaches_216 ?_
                    refine lv_topi (fun x366 ex366 => ?_)
                    have ezx366 := ex366
                    have ex366 : x366.toInt = r286.toInt + r357.toInt := by rw [ex366]; exact wk_add (show (-2147483648) ≤ r286.toInt + r357.toInt by omega) (show r286.toInt + r357.toInt ≤ 2147483647 by omega)
                    replace hM := hM.lt ex366.symm
                    refine lv_iload hx hb dX12_reaches_217 (lv_at hl 6 rfl) ?_
                    refine lv_icmp_gt (tgt := 259) hx hb dX12_reaches_219 (by decide) (fun c367 => ?_) (fun c367 => ?_)
                    · have c367 : a4.toInt < x366.toInt := wk_lt.mp c367
                      replace hM := hM.pos c367
                      have gb368 : 0 ≤ sumG 19 10 w12 ∧ sumG 19 10 w12 ≤ 10 := hT.sum (lo := 0) (hi := 1) kM_at19 rfl (by decide) rfl
                      exact J259 x49 H locs ls w12 (show 0 ≤ a1.toInt from r13) (show a1.toInt ≤ 9 from t14) (show 0 ≤ a2.toInt from r15) (show a2.toInt ≤ 9 from t16) (show 0 ≤ a3.toInt from r17) (show a3.toInt ≤ 99999 from t18) (show 2000 ≤ a4.toInt from r19) (show a4.toInt ≤ 101999 from t20) (show 0 ≤ v145_5.toInt from r21) (show v145_5.toInt ≤ 9 from t22) (show 0 ≤ v145_6.toInt from r23) (show v145_6.toInt ≤ 12 by first | with_reducible assumption | omega) (show 0 ≤ f145_12_0.toInt from r25) (show f145_12_0.toInt ≤ 10 from t26) (show 1 ≤ x49.toInt by first | with_reducible assumption | omega) (show x49.toInt ≤ 13 by first | with_reducible assumption | omega) (show (sumG 19 10 w1) + 1 ≤ (sumG 19 10 w12) by omega)  hw hT hF c27 c50 hM (lv_sub hl [2, 3, 4, 5, 6, 7, 8] rfl)
                    · have c367 : x366.toInt ≤ a4.toInt := wk_ltF c367
                      replace hM := hM.neg (Int.not_lt.mpr c367)
                      refine lv_iload hx hb dX12_reaches_222 (lv_at hl 1 rfl) ?_
                      refine lv_aload_n hx hb dX12_reaches_224 rfl (lv_at hl 2 rfl) ?_
                      refine lv_iload hx hb dX12_reaches_225 (lv_at hl 8 rfl) ?_
                      refine lv_iconst (v := 2) hx hb dX12_reaches_227 (by decide) ?_
                      refine tk_Vi hC hK hw hT hA hE hSR kM_at0 (by decide) rfl (kz_X12_streetOf_6 l adK adV dC dI cy ad B hB0 (Int.le_trans hB1 (by decide)) qr s1   v145_6 (show 0 ≤ v145_6.toInt from r23) (show v145_6.toInt ≤ 12 by first | with_reducible assumption | omega) w12 H.size hT ) (cwV 2 hC.2.2.2.2 uV_RX12_300 rfl rfl rfl (by decide +kernel) ⟨Nat.le_of_ble_eq_true rfl, Nat.le_of_ble_eq_true rfl⟩) rfl hl.1 rfl (Nat.le_of_ble_eq_true rfl) dX12_reaches_228 (fun r369 w371 H locs hp370 hw => ?_)
                      obtain ⟨rfl, hv377, hg376⟩ := hp370
                      obtain ⟨g373, g374, c375⟩ := hg376
                      replace hM := hM.call hv377 rfl
                      obtain rfl : r357 = r369 := c363.symm.trans c375
                      refine lv_iadd hx hb dX12_reaches_231 ?_
                      refine lv_topi (fun x378 ex378 => ?_)
                      have ezx378 := ex378
                      have ex378 : x378.toInt = r286.toInt + r357.toInt := by rw [ex378]; exact wk_add (show (-2147483648) ≤ r286.toInt + r357.toInt by omega) (show r286.toInt + r357.toInt ≤ 2147483647 by omega)
                      replace hM := hM.lt ex378.symm
                      refine lv_aload_n hx hb dX12_reaches_232 rfl (lv_at hl 2 rfl) ?_
                      refine tk_getA hC hK hw hT hinX12 kM_at0 (by decide) rfl 35 (by decide) (List.mem_cons_of_mem _ uw_7_8) rfl rfl dX12_reaches_233 ?_
                      refine lv_iload hx hb dX12_reaches_236 (lv_at hl 0 rfl) ?_
                      refine tk_iald hC hK hw hT kM_at18 rfl rfl (show 0 ≤ r297.toInt by first | with_reducible assumption | omega) (show r297.toInt < 10 by first | with_reducible assumption | omega) dX12_reaches_238 (fun x379 c380 rx379 tx379 => ?_)
                      have hox379 := c380
                      replace hM := hM.rd (sI_at hox379)
                      refine lv_icmp_ge (tgt := 259) hx hb dX12_reaches_239 (by decide) (fun c381 => ?_) (fun c381 => ?_)
                      · have c381 : x379.toInt ≤ x378.toInt := wk_le.mp c381
                        replace hM := hM.pos c381
                        have gb382 : 0 ≤ sumG 19 10 w12 ∧ sumG 19 10 w12 ≤ 10 := hT.sum (lo := 0) (hi := 1) kM_at19 rfl (by decide) rfl
                        exact J259 x49 H locs ls w12 (show 0 ≤ a1.toInt from r13) (show a1.toInt ≤ 9 from t14) (show 0 ≤ a2.toInt from r15) (show a2.toInt ≤ 9 from t16) (show 0 ≤ a3.toInt from r17) (show a3.toInt ≤ 99999 from t18) (show 2000 ≤ a4.toInt from r19) (show a4.toInt ≤ 101999 from t20) (show 0 ≤ v145_5.toInt from r21) (show v145_5.toInt ≤ 9 from t22) (show 0 ≤ v145_6.toInt from r23) (show v145_6.toInt ≤ 12 by first | with_reducible assumption | omega) (show 0 ≤ f145_12_0.toInt from r25) (show f145_12_0.toInt ≤ 10 from t26) (show 1 ≤ x49.toInt by first | with_reducible assumption | omega) (show x49.toInt ≤ 13 by first | with_reducible assumption | omega) (show (sumG 19 10 w1) + 1 ≤ (sumG 19 10 w12) by omega)  hw hT hF c27 c50 hM (lv_sub hl [2, 3, 4, 5, 6, 7, 8] rfl)
                      · have c381 : x378.toInt < x379.toInt := wk_leF c381
                        replace hM := hM.neg (Int.not_le.mpr c381)
                        refine lv_aload_n hx hb dX12_reaches_242 rfl (lv_at hl 2 rfl) ?_
                        refine tk_getA hC hK hw hT hinX12 kM_at0 (by decide) rfl 35 (by decide) (List.mem_cons_of_mem _ uw_7_8) rfl rfl dX12_reaches_243 ?_
                        refine lv_iload hx hb dX12_reaches_246 (lv_at hl 0 rfl) ?_
                        refine lv_iload hx hb dX12_reaches_248 (lv_at hl 1 rfl) ?_
                        refine lv_aload_n hx hb dX12_reaches_250 rfl (lv_at hl 2 rfl) ?_
                        refine lv_iload hx hb dX12_reaches_251 (lv_at hl 8 rfl) ?_
                        refine lv_iconst (v := 2) hx hb dX12_reaches_253 (by decide) ?_
                        refine tk_Vi hC hK hw hT hA hE hSR kM_at0 (by decide) rfl (kz_X12_streetOf_6 l adK adV dC dI cy ad B hB0 (Int.le_trans hB1 (by decide)) qr s1   v145_6 (show 0 ≤ v145_6.toInt from r23) (show v145_6.toInt ≤ 12 by first | with_reducible assumption | omega) w12 H.size hT ) (cwV 2 hC.2.2.2.2 uV_RX12_300 rfl rfl rfl (by decide +kernel) ⟨Nat.le_of_ble_eq_true rfl, Nat.le_of_ble_eq_true rfl⟩) rfl hl.1 rfl (Nat.le_of_ble_eq_true rfl) dX12_reaches_254 (fun r383 w385 H locs hp384 hw => ?_)
                        obtain ⟨rfl, hv391, hg390⟩ := hp384
                        obtain ⟨g387, g388, c389⟩ := hg390
                        replace hM := hM.call hv391 rfl
                        obtain rfl : r357 = r383 := c363.symm.trans c389
                        refine lv_iadd hx hb dX12_reaches_257 ?_
                        refine lv_topi (fun x392 ex392 => ?_)
                        have ezx392 := ex392
                        have ex392 : x392.toInt = r286.toInt + r357.toInt := by rw [ex392]; exact wk_add (show (-2147483648) ≤ r286.toInt + r357.toInt by omega) (show r286.toInt + r357.toInt ≤ 2147483647 by omega)
                        replace hM := hM.lt ex392.symm
                        refine tk_iast hC hK hw hT kM_at18 (by decide) rfl rfl (show 0 ≤ r297.toInt by first | with_reducible assumption | omega) (show r297.toInt < 10 by first | with_reducible assumption | omega) (show 0 ≤ x392.toInt by first | with_reducible assumption | omega) (show x392.toInt ≤ 100000100 by first | with_reducible assumption | omega) dX12_reaches_258 (fun H locs w393 hw hT k395 c394 => ?_)
                        replace hM := hM.wr (sI_up k395 c394)
                        have gs396 : sumG 19 10 w393 = sumG 19 10 w12 := sumG_ne 10 k395 (tk_ne kM_at19 kM_at18 (by decide))
                        have hF := hF.put kM_at18 (inE_of (a := 0) (b := 10) (by decide) (show 0 ≤ r297.toInt.toNat by omega) (show r297.toInt.toNat ≤ 10 by omega)) k395
                        have c397 := k395.gi (Or.inl (tk_ne kM_at12 kM_at18 (by decide))) c27
                        have c398 := k395.gi (Or.inl (tk_ne kM_at12 kM_at18 (by decide))) c50
                        have c399 := k395.gi (Or.inl (tk_ne kM_at12 kM_at18 (by decide))) c60
                        have c400 := k395.gi (Or.inl (tk_ne kM_at12 kM_at18 (by decide))) c305
                        have c401 := k395.gi (Or.inl (tk_ne kM_at12 kM_at18 (by decide))) c363
                        have gb402 : 0 ≤ sumG 19 10 w393 ∧ sumG 19 10 w393 ≤ 10 := hT.sum (lo := 0) (hi := 1) kM_at19 rfl (by decide) rfl
                        exact J259 x49 H locs ls w393 (show 0 ≤ a1.toInt from r13) (show a1.toInt ≤ 9 from t14) (show 0 ≤ a2.toInt from r15) (show a2.toInt ≤ 9 from t16) (show 0 ≤ a3.toInt from r17) (show a3.toInt ≤ 99999 from t18) (show 2000 ≤ a4.toInt from r19) (show a4.toInt ≤ 101999 from t20) (show 0 ≤ v145_5.toInt from r21) (show v145_5.toInt ≤ 9 from t22) (show 0 ≤ v145_6.toInt from r23) (show v145_6.toInt ≤ 12 by first | with_reducible assumption | omega) (show 0 ≤ f145_12_0.toInt from r25) (show f145_12_0.toInt ≤ 10 from t26) (show 1 ≤ x49.toInt by first | with_reducible assumption | omega) (show x49.toInt ≤ 13 by first | with_reducible assumption | omega) (show (sumG 19 10 w1) + 1 ≤ (sumG 19 10 w393) by omega)  hw hT hF c397 c398 hM (lv_sub hl [2, 3, 4, 5, 6, 7, 8] rfl)
              · replace hM := hM.call hv296 rfl
                refine lv_istore (lv' := [(7, .int r286), (0, .ref (ad 0)), (1, .int a1), (2, .int a2), (3, .int a3), (4, .int a4), (5, .int v145_5), (6, .int v145_6)]) hx hb dX12_reaches_187 hl (by decide) rfl (fun ls hl => ?_)
                refine lv_aload_n hx hb dX12_reaches_189 rfl (lv_at hl 1 rfl) ?_
                refine lv_iload hx hb dX12_reaches_190 (lv_at hl 7 rfl) ?_
                refine lv_iload hx hb dX12_reaches_192 (lv_at hl 6 rfl) ?_
                refine tk_Vi hC hK hw hT hA hE hSR kM_at0 (by decide) rfl (kz_X12_otherOf_1 l adK adV dC dI cy ad B hB0 (Int.le_trans hB1 (by decide)) qr s1   v145_6 (show 0 ≤ v145_6.toInt from r23) (show v145_6.toInt ≤ 12 by first | with_reducible assumption | omega) v145_5 (show 0 ≤ v145_5.toInt from r21) (show v145_5.toInt ≤ 9 from t22) w12 H.size hT ) (cwV 2 hC.2.2.2.2 uV_RX12_348 rfl rfl rfl (by decide +kernel) ⟨Nat.le_of_ble_eq_true rfl, Nat.le_of_ble_eq_true rfl⟩) rfl hl.1 rfl (Nat.le_of_ble_eq_true rfl) dX12_reaches_194 (fun r403 w405 H locs hp404 hw => ?_)
                obtain ⟨rfl, hv413, hg412⟩ := hp404
                rcases hg412 with ⟨g407, g408⟩ | ⟨g409, g410, c411⟩
                · replace hM := hM.call hv413 rfl
                  refine lv_istore (lv' := [(8, .int r403), (7, .int r286), (0, .ref (ad 0)), (1, .int a1), (2, .int a2), (3, .int a3), (4, .int a4), (5, .int v145_5), (6, .int v145_6)]) hx hb dX12_reaches_197 hl (by decide) rfl (fun ls hl => ?_)
                  refine lv_iload hx hb dX12_reaches_199 (lv_at hl 1 rfl) ?_
                  refine lv_ldcw (v := 100000000) hx hb hC.2.2.2.1 (hC.2.2.2.2 _ (List.mem_cons_of_mem _ uw_38_2)) dX12_reaches_201 ?_
                  refine lv_icmp_ge (tgt := 259) hx hb dX12_reaches_204 (by decide) (fun c => absurd c (fun h => absurd (show (100000000 : Int) ≤ r286.toInt from wk_le.mp h) (by omega))) (fun _ => ?_)
                  replace hM := hM.neg (by omega)
                  refine lv_iload hx hb dX12_reaches_207 (lv_at hl 1 rfl) ?_
                  refine lv_aload_n hx hb dX12_reaches_209 rfl (lv_at hl 2 rfl) ?_
                  refine lv_iload hx hb dX12_reaches_210 (lv_at hl 8 rfl) ?_
                  refine lv_iconst (v := 2) hx hb dX12_reaches_212 (by decide) ?_
                  refine tk_Vi hC hK hw hT hA hE hSR kM_at0 (by decide) rfl (kz_X12_streetOf_6 l adK adV dC dI cy ad B hB0 (Int.le_trans hB1 (by decide)) qr s1   v145_6 (show 0 ≤ v145_6.toInt from r23) (show v145_6.toInt ≤ 12 by first | with_reducible assumption | omega) w12 H.size hT ) (cwV 2 hC.2.2.2.2 uV_RX12_300 rfl rfl rfl (by decide +kernel) ⟨Nat.le_of_ble_eq_true rfl, Nat.le_of_ble_eq_true rfl⟩) rfl hl.1 rfl (Nat.le_of_ble_eq_true rfl) dX12_reaches_213 (fun r414 w416 H locs hp415 hw => ?_)
                  obtain ⟨rfl, hv422, hg421⟩ := hp415
                  obtain ⟨g418, g419, c420⟩ := hg421
                  replace hM := hM.call hv422 rfl
                  refine lv_iadd hx hb dX12_reaches_216 ?_
                  refine lv_topi (fun x423 ex423 => ?_)
                  have ezx423 := ex423
                  have ex423 : x423.toInt = r286.toInt + r414.toInt := by rw [ex423]; exact wk_add (show (-2147483648) ≤ r286.toInt + r414.toInt by omega) (show r286.toInt + r414.toInt ≤ 2147483647 by omega)
                  replace hM := hM.lt ex423.symm
                  refine lv_iload hx hb dX12_reaches_217 (lv_at hl 6 rfl) ?_
                  refine lv_icmp_gt (tgt := 259) hx hb dX12_reaches_219 (by decide) (fun c424 => ?_) (fun c424 => ?_)
                  · have c424 : a4.toInt < x423.toInt := wk_lt.mp c424
                    replace hM := hM.pos c424
                    have gb425 : 0 ≤ sumG 19 10 w12 ∧ sumG 19 10 w12 ≤ 10 := hT.sum (lo := 0) (hi := 1) kM_at19 rfl (by decide) rfl
                    exact J259 x49 H locs ls w12 (show 0 ≤ a1.toInt from r13) (show a1.toInt ≤ 9 from t14) (show 0 ≤ a2.toInt from r15) (show a2.toInt ≤ 9 from t16) (show 0 ≤ a3.toInt from r17) (show a3.toInt ≤ 99999 from t18) (show 2000 ≤ a4.toInt from r19) (show a4.toInt ≤ 101999 from t20) (show 0 ≤ v145_5.toInt from r21) (show v145_5.toInt ≤ 9 from t22) (show 0 ≤ v145_6.toInt from r23) (show v145_6.toInt ≤ 12 by first | with_reducible assumption | omega) (show 0 ≤ f145_12_0.toInt from r25) (show f145_12_0.toInt ≤ 10 from t26) (show 1 ≤ x49.toInt by first | with_reducible assumption | omega) (show x49.toInt ≤ 13 by first | with_reducible assumption | omega) (show (sumG 19 10 w1) + 1 ≤ (sumG 19 10 w12) by omega)  hw hT hF c27 c50 hM (lv_sub hl [2, 3, 4, 5, 6, 7, 8] rfl)
                  · have c424 : x423.toInt ≤ a4.toInt := wk_ltF c424
                    replace hM := hM.neg (Int.not_lt.mpr c424)
                    refine lv_iload hx hb dX12_reaches_222 (lv_at hl 1 rfl) ?_
                    refine lv_aload_n hx hb dX12_reaches_224 rfl (lv_at hl 2 rfl) ?_
                    refine lv_iload hx hb dX12_reaches_225 (lv_at hl 8 rfl) ?_
                    refine lv_iconst (v := 2) hx hb dX12_reaches_227 (by decide) ?_
                    refine tk_Vi hC hK hw hT hA hE hSR kM_at0 (by decide) rfl (kz_X12_streetOf_6 l adK adV dC dI cy ad B hB0 (Int.le_trans hB1 (by decide)) qr s1   v145_6 (show 0 ≤ v145_6.toInt from r23) (show v145_6.toInt ≤ 12 by first | with_reducible assumption | omega) w12 H.size hT ) (cwV 2 hC.2.2.2.2 uV_RX12_300 rfl rfl rfl (by decide +kernel) ⟨Nat.le_of_ble_eq_true rfl, Nat.le_of_ble_eq_true rfl⟩) rfl hl.1 rfl (Nat.le_of_ble_eq_true rfl) dX12_reaches_228 (fun r426 w428 H locs hp427 hw => ?_)
                    obtain ⟨rfl, hv434, hg433⟩ := hp427
                    obtain ⟨g430, g431, c432⟩ := hg433
                    replace hM := hM.call hv434 rfl
                    obtain rfl : r414 = r426 := c420.symm.trans c432
                    refine lv_iadd hx hb dX12_reaches_231 ?_
                    refine lv_topi (fun x435 ex435 => ?_)
                    have ezx435 := ex435
                    have ex435 : x435.toInt = r286.toInt + r414.toInt := by rw [ex435]; exact wk_add (show (-2147483648) ≤ r286.toInt + r414.toInt by omega) (show r286.toInt + r414.toInt ≤ 2147483647 by omega)
                    replace hM := hM.lt ex435.symm
                    refine lv_aload_n hx hb dX12_reaches_232 rfl (lv_at hl 2 rfl) ?_
                    refine tk_getA hC hK hw hT hinX12 kM_at0 (by decide) rfl 35 (by decide) (List.mem_cons_of_mem _ uw_7_8) rfl rfl dX12_reaches_233 ?_
                    refine lv_iload hx hb dX12_reaches_236 (lv_at hl 0 rfl) ?_
                    refine tk_iald hC hK hw hT kM_at18 rfl rfl (show 0 ≤ r403.toInt by first | with_reducible assumption | omega) (show r403.toInt < 10 by first | with_reducible assumption | omega) dX12_reaches_238 (fun x436 c437 rx436 tx436 => ?_)
                    have hox436 := c437
                    replace hM := hM.rd (sI_at hox436)
                    refine lv_icmp_ge (tgt := 259) hx hb dX12_reaches_239 (by decide) (fun c438 => ?_) (fun c438 => ?_)
                    · have c438 : x436.toInt ≤ x435.toInt := wk_le.mp c438
                      replace hM := hM.pos c438
                      have gb439 : 0 ≤ sumG 19 10 w12 ∧ sumG 19 10 w12 ≤ 10 := hT.sum (lo := 0) (hi := 1) kM_at19 rfl (by decide) rfl
                      exact J259 x49 H locs ls w12 (show 0 ≤ a1.toInt from r13) (show a1.toInt ≤ 9 from t14) (show 0 ≤ a2.toInt from r15) (show a2.toInt ≤ 9 from t16) (show 0 ≤ a3.toInt from r17) (show a3.toInt ≤ 99999 from t18) (show 2000 ≤ a4.toInt from r19) (show a4.toInt ≤ 101999 from t20) (show 0 ≤ v145_5.toInt from r21) (show v145_5.toInt ≤ 9 from t22) (show 0 ≤ v145_6.toInt from r23) (show v145_6.toInt ≤ 12 by first | with_reducible assumption | omega) (show 0 ≤ f145_12_0.toInt from r25) (show f145_12_0.toInt ≤ 10 from t26) (show 1 ≤ x49.toInt by first | with_reducible assumption | omega) (show x49.toInt ≤ 13 by first | with_reducible assumption | omega) (show (sumG 19 10 w1) + 1 ≤ (sumG 19 10 w12) by omega)  hw hT hF c27 c50 hM (lv_sub hl [2, 3, 4, 5, 6, 7, 8] rfl)
                    · have c438 : x435.toInt < x436.toInt := wk_leF c438
                      replace hM := hM.neg (Int.not_le.mpr c438)
                      refine lv_aload_n hx hb dX12_reaches_242 rfl (lv_at hl 2 rfl) ?_
                      refine tk_getA hC hK hw hT hinX12 kM_at0 (by decide) rfl 35 (by decide) (List.mem_cons_of_mem _ uw_7_8) rfl rfl dX12_reaches_243 ?_
                      refine lv_iload hx hb dX12_reaches_246 (lv_at hl 0 rfl) ?_
                      refine lv_iload hx hb dX12_reaches_248 (lv_at hl 1 rfl) ?_
                      refine lv_aload_n hx hb dX12_reaches_250 rfl (lv_at hl 2 rfl) ?_
                      refine lv_iload hx hb dX12_reaches_251 (lv_at hl 8 rfl) ?_
                      refine lv_iconst (v := 2) hx hb dX12_reaches_253 (by decide) ?_
                      refine tk_Vi hC hK hw hT hA hE hSR kM_at0 (by decide) rfl (kz_X12_streetOf_6 l adK adV dC dI cy ad B hB0 (Int.le_trans hB1 (by decide)) qr s1   v145_6 (show 0 ≤ v145_6.toInt from r23) (show v145_6.toInt ≤ 12 by first | with_reducible assumption | omega) w12 H.size hT ) (cwV 2 hC.2.2.2.2 uV_RX12_300 rfl rfl rfl (by decide +kernel) ⟨Nat.le_of_ble_eq_true rfl, Nat.le_of_ble_eq_true rfl⟩) rfl hl.1 rfl (Nat.le_of_ble_eq_true rfl) dX12_reaches_254 (fun r440 w442 H locs hp441 hw => ?_)
                      obtain ⟨rfl, hv448, hg447⟩ := hp441
                      obtain ⟨g444, g445, c446⟩ := hg447
                      replace hM := hM.call hv448 rfl
                      obtain rfl : r414 = r440 := c420.symm.trans c446
                      refine lv_iadd hx hb dX12_reaches_257 ?_
                      refine lv_topi (fun x449 ex449 => ?_)
                      have ezx449 := ex449
                      have ex449 : x449.toInt = r286.toInt + r414.toInt := by rw [ex449]; exact wk_add (show (-2147483648) ≤ r286.toInt + r414.toInt by omega) (show r286.toInt + r414.toInt ≤ 2147483647 by omega)
                      replace hM := hM.lt ex449.symm
                      refine tk_iast hC hK hw hT kM_at18 (by decide) rfl rfl (show 0 ≤ r403.toInt by first | with_reducible assumption | omega) (show r403.toInt < 10 by first | with_reducible assumption | omega) (show 0 ≤ x449.toInt by first | with_reducible assumption | omega) (show x449.toInt ≤ 100000100 by first | with_reducible assumption | omega) dX12_reaches_258 (fun H locs w450 hw hT k452 c451 => ?_)
                      replace hM := hM.wr (sI_up k452 c451)
                      have gs453 : sumG 19 10 w450 = sumG 19 10 w12 := sumG_ne 10 k452 (tk_ne kM_at19 kM_at18 (by decide))
                      have hF := hF.put kM_at18 (inE_of (a := 0) (b := 10) (by decide) (show 0 ≤ r403.toInt.toNat by omega) (show r403.toInt.toNat ≤ 10 by omega)) k452
                      have c454 := k452.gi (Or.inl (tk_ne kM_at12 kM_at18 (by decide))) c27
                      have c455 := k452.gi (Or.inl (tk_ne kM_at12 kM_at18 (by decide))) c50
                      have c456 := k452.gi (Or.inl (tk_ne kM_at12 kM_at18 (by decide))) c60
                      have c457 := k452.gi (Or.inl (tk_ne kM_at12 kM_at18 (by decide))) c294
                      have c458 := k452.gi (Or.inl (tk_ne kM_at12 kM_at18 (by decide))) c420
                      have gb459 : 0 ≤ sumG 19 10 w450 ∧ sumG 19 10 w450 ≤ 10 := hT.sum (lo := 0) (hi := 1) kM_at19 rfl (by decide) rfl
                      exact J259 x49 H locs ls w450 (show 0 ≤ a1.toInt from r13) (show a1.toInt ≤ 9 from t14) (show 0 ≤ a2.toInt from r15) (show a2.toInt ≤ 9 from t16) (show 0 ≤ a3.toInt from r17) (show a3.toInt ≤ 99999 from t18) (show 2000 ≤ a4.toInt from r19) (show a4.toInt ≤ 101999 from t20) (show 0 ≤ v145_5.toInt from r21) (show v145_5.toInt ≤ 9 from t22) (show 0 ≤ v145_6.toInt from r23) (show v145_6.toInt ≤ 12 by first | with_reducible assumption | omega) (show 0 ≤ f145_12_0.toInt from r25) (show f145_12_0.toInt ≤ 10 from t26) (show 1 ≤ x49.toInt by first | with_reducible assumption | omega) (show x49.toInt ≤ 13 by first | with_reducible assumption | omega) (show (sumG 19 10 w1) + 1 ≤ (sumG 19 10 w450) by omega)  hw hT hF c454 c455 hM (lv_sub hl [2, 3, 4, 5, 6, 7, 8] rfl)
                · replace hM := hM.call hv413 rfl
                  refine lv_istore (lv' := [(8, .int r403), (7, .int r286), (0, .ref (ad 0)), (1, .int a1), (2, .int a2), (3, .int a3), (4, .int a4), (5, .int v145_5), (6, .int v145_6)]) hx hb dX12_reaches_197 hl (by decide) rfl (fun ls hl => ?_)
                  refine lv_iload hx hb dX12_reaches_199 (lv_at hl 1 rfl) ?_
                  refine lv_ldcw (v := 100000000) hx hb hC.2.2.2.1 (hC.2.2.2.2 _ (List.mem_cons_of_mem _ uw_38_2)) dX12_reaches_201 ?_
                  refine lv_icmp_ge (tgt := 259) hx hb dX12_reaches_204 (by decide) (fun c => absurd c (fun h => absurd (show (100000000 : Int) ≤ r286.toInt from wk_le.mp h) (by omega))) (fun _ => ?_)
                  replace hM := hM.neg (by omega)
                  refine lv_iload hx hb dX12_reaches_207 (lv_at hl 1 rfl) ?_
                  refine lv_aload_n hx hb dX12_reaches_209 rfl (lv_at hl 2 rfl) ?_
                  refine lv_iload hx hb dX12_reaches_210 (lv_at hl 8 rfl) ?_
                  refine lv_iconst (v := 2) hx hb dX12_reaches_212 (by decide) ?_
                  refine tk_Vi hC hK hw hT hA hE hSR kM_at0 (by decide) rfl (kz_X12_streetOf_6 l adK adV dC dI cy ad B hB0 (Int.le_trans hB1 (by decide)) qr s1   v145_6 (show 0 ≤ v145_6.toInt from r23) (show v145_6.toInt ≤ 12 by first | with_reducible assumption | omega) w12 H.size hT ) (cwV 2 hC.2.2.2.2 uV_RX12_300 rfl rfl rfl (by decide +kernel) ⟨Nat.le_of_ble_eq_true rfl, Nat.le_of_ble_eq_true rfl⟩) rfl hl.1 rfl (Nat.le_of_ble_eq_true rfl) dX12_reaches_213 (fun r460 w462 H locs hp461 hw => ?_)
                  obtain ⟨rfl, hv468, hg467⟩ := hp461
                  obtain ⟨g464, g465, c466⟩ := hg467
                  replace hM := hM.call hv468 rfl
                  refine lv_iadd hx hb dX12_reaches_216 ?_
                  refine lv_topi (fun x469 ex469 => ?_)
                  have ezx469 := ex469
                  have ex469 : x469.toInt = r286.toInt + r460.toInt := by rw [ex469]; exact wk_add (show (-2147483648) ≤ r286.toInt + r460.toInt by omega) (show r286.toInt + r460.toInt ≤ 2147483647 by omega)
                  replace hM := hM.lt ex469.symm
                  refine lv_iload hx hb dX12_reaches_217 (lv_at hl 6 rfl) ?_
                  refine lv_icmp_gt (tgt := 259) hx hb dX12_reaches_219 (by decide) (fun c470 => ?_) (fun c470 => ?_)
                  · have c470 : a4.toInt < x469.toInt := wk_lt.mp c470
                    replace hM := hM.pos c470
                    have gb471 : 0 ≤ sumG 19 10 w12 ∧ sumG 19 10 w12 ≤ 10 := hT.sum (lo := 0) (hi := 1) kM_at19 rfl (by decide) rfl
                    exact J259 x49 H locs ls w12 (show 0 ≤ a1.toInt from r13) (show a1.toInt ≤ 9 from t14) (show 0 ≤ a2.toInt from r15) (show a2.toInt ≤ 9 from t16) (show 0 ≤ a3.toInt from r17) (show a3.toInt ≤ 99999 from t18) (show 2000 ≤ a4.toInt from r19) (show a4.toInt ≤ 101999 from t20) (show 0 ≤ v145_5.toInt from r21) (show v145_5.toInt ≤ 9 from t22) (show 0 ≤ v145_6.toInt from r23) (show v145_6.toInt ≤ 12 by first | with_reducible assumption | omega) (show 0 ≤ f145_12_0.toInt from r25) (show f145_12_0.toInt ≤ 10 from t26) (show 1 ≤ x49.toInt by first | with_reducible assumption | omega) (show x49.toInt ≤ 13 by first | with_reducible assumption | omega) (show (sumG 19 10 w1) + 1 ≤ (sumG 19 10 w12) by omega)  hw hT hF c27 c50 hM (lv_sub hl [2, 3, 4, 5, 6, 7, 8] rfl)
                  · have c470 : x469.toInt ≤ a4.toInt := wk_ltF c470
                    replace hM := hM.neg (Int.not_lt.mpr c470)
                    refine lv_iload hx hb dX12_reaches_222 (lv_at hl 1 rfl) ?_
                    refine lv_aload_n hx hb dX12_reaches_224 rfl (lv_at hl 2 rfl) ?_
                    refine lv_iload hx hb dX12_reaches_225 (lv_at hl 8 rfl) ?_
                    refine lv_iconst (v := 2) hx hb dX12_reaches_227 (by decide) ?_
                    refine tk_Vi hC hK hw hT hA hE hSR kM_at0 (by decide) rfl (kz_X12_streetOf_6 l adK adV dC dI cy ad B hB0 (Int.le_trans hB1 (by decide)) qr s1   v145_6 (show 0 ≤ v145_6.toInt from r23) (show v145_6.toInt ≤ 12 by first | with_reducible assumption | omega) w12 H.size hT ) (cwV 2 hC.2.2.2.2 uV_RX12_300 rfl rfl rfl (by decide +kernel) ⟨Nat.le_of_ble_eq_true rfl, Nat.le_of_ble_eq_true rfl⟩) rfl hl.1 rfl (Nat.le_of_ble_eq_true rfl) dX12_reaches_228 (fun r472 w474 H locs hp473 hw => ?_)
                    obtain ⟨rfl, hv480, hg479⟩ := hp473
                    obtain ⟨g476, g477, c478⟩ := hg479
                    replace hM := hM.call hv480 rfl
                    obtain rfl : r460 = r472 := c466.symm.trans c478
                    refine lv_iadd hx hb dX12_reaches_231 ?_
                    refine lv_topi (fun x481 ex481 => ?_)
                    have ezx481 := ex481
                    have ex481 : x481.toInt = r286.toInt + r460.toInt := by rw [ex481]; exact wk_add (show (-2147483648) ≤ r286.toInt + r460.toInt by omega) (show r286.toInt + r460.toInt ≤ 2147483647 by omega)
                    replace hM := hM.lt ex481.symm
                    refine lv_aload_n hx hb dX12_reaches_232 rfl (lv_at hl 2 rfl) ?_
                    refine tk_getA hC hK hw hT hinX12 kM_at0 (by decide) rfl 35 (by decide) (List.mem_cons_of_mem _ uw_7_8) rfl rfl dX12_reaches_233 ?_
                    refine lv_iload hx hb dX12_reaches_236 (lv_at hl 0 rfl) ?_
                    refine tk_iald hC hK hw hT kM_at18 rfl rfl (show 0 ≤ r403.toInt by first | with_reducible assumption | omega) (show r403.toInt < 10 by first | with_reducible assumption | omega) dX12_reaches_238 (fun x482 c483 rx482 tx482 => ?_)
                    have hox482 := c483
                    replace hM := hM.rd (sI_at hox482)
                    refine lv_icmp_ge (tgt := 259) hx hb dX12_reaches_239 (by decide) (fun c484 => ?_) (fun c484 => ?_)
                    · have c484 : x482.toInt ≤ x481.toInt := wk_le.mp c484
                      replace hM := hM.pos c484
                      have gb485 : 0 ≤ sumG 19 10 w12 ∧ sumG 19 10 w12 ≤ 10 := hT.sum (lo := 0) (hi := 1) kM_at19 rfl (by decide) rfl
                      exact J259 x49 H locs ls w12 (show 0 ≤ a1.toInt from r13) (show a1.toInt ≤ 9 from t14) (show 0 ≤ a2.toInt from r15) (show a2.toInt ≤ 9 from t16) (show 0 ≤ a3.toInt from r17) (show a3.toInt ≤ 99999 from t18) (show 2000 ≤ a4.toInt from r19) (show a4.toInt ≤ 101999 from t20) (show 0 ≤ v145_5.toInt from r21) (show v145_5.toInt ≤ 9 from t22) (show 0 ≤ v145_6.toInt from r23) (show v145_6.toInt ≤ 12 by first | with_reducible assumption | omega) (show 0 ≤ f145_12_0.toInt from r25) (show f145_12_0.toInt ≤ 10 from t26) (show 1 ≤ x49.toInt by first | with_reducible assumption | omega) (show x49.toInt ≤ 13 by first | with_reducible assumption | omega) (show (sumG 19 10 w1) + 1 ≤ (sumG 19 10 w12) by omega)  hw hT hF c27 c50 hM (lv_sub hl [2, 3, 4, 5, 6, 7, 8] rfl)
                    · have c484 : x481.toInt < x482.toInt := wk_leF c484
                      replace hM := hM.neg (Int.not_le.mpr c484)
                      refine lv_aload_n hx hb dX12_reaches_242 rfl (lv_at hl 2 rfl) ?_
                      refine tk_getA hC hK hw hT hinX12 kM_at0 (by decide) rfl 35 (by decide) (List.mem_cons_of_mem _ uw_7_8) rfl rfl dX12_reaches_243 ?_
                      refine lv_iload hx hb dX12_reaches_246 (lv_at hl 0 rfl) ?_
                      refine lv_iload hx hb dX12_reaches_248 (lv_at hl 1 rfl) ?_
                      refine lv_aload_n hx hb dX12_reaches_250 rfl (lv_at hl 2 rfl) ?_
                      refine lv_iload hx hb dX12_reaches_251 (lv_at hl 8 rfl) ?_
                      refine lv_iconst (v := 2) hx hb dX12_reaches_253 (by decide) ?_
                      refine tk_Vi hC hK hw hT hA hE hSR kM_at0 (by decide) rfl (kz_X12_streetOf_6 l adK adV dC dI cy ad B hB0 (Int.le_trans hB1 (by decide)) qr s1   v145_6 (show 0 ≤ v145_6.toInt from r23) (show v145_6.toInt ≤ 12 by first | with_reducible assumption | omega) w12 H.size hT ) (cwV 2 hC.2.2.2.2 uV_RX12_300 rfl rfl rfl (by decide +kernel) ⟨Nat.le_of_ble_eq_true rfl, Nat.le_of_ble_eq_true rfl⟩) rfl hl.1 rfl (Nat.le_of_ble_eq_true rfl) dX12_reaches_254 (fun r486 w488 H locs hp487 hw => ?_)
                      obtain ⟨rfl, hv494, hg493⟩ := hp487
                      obtain ⟨g490, g491, c492⟩ := hg493
                      replace hM := hM.call hv494 rfl
                      obtain rfl : r460 = r486 := c466.symm.trans c492
                      refine lv_iadd hx hb dX12_reaches_257 ?_
                      refine lv_topi (fun x495 ex495 => ?_)
                      have ezx495 := ex495
                      have ex495 : x495.toInt = r286.toInt + r460.toInt := by rw [ex495]; exact wk_add (show (-2147483648) ≤ r286.toInt + r460.toInt by omega) (show r286.toInt + r460.toInt ≤ 2147483647 by omega)
                      replace hM := hM.lt ex495.symm
                      refine tk_iast hC hK hw hT kM_at18 (by decide) rfl rfl (show 0 ≤ r403.toInt by first | with_reducible assumption | omega) (show r403.toInt < 10 by first | with_reducible assumption | omega) (show 0 ≤ x495.toInt by first | with_reducible assumption | omega) (show x495.toInt ≤ 100000100 by first | with_reducible assumption | omega) dX12_reaches_258 (fun H locs w496 hw hT k498 c497 => ?_)
                      replace hM := hM.wr (sI_up k498 c497)
                      have gs499 : sumG 19 10 w496 = sumG 19 10 w12 := sumG_ne 10 k498 (tk_ne kM_at19 kM_at18 (by decide))
                      have hF := hF.put kM_at18 (inE_of (a := 0) (b := 10) (by decide) (show 0 ≤ r403.toInt.toNat by omega) (show r403.toInt.toNat ≤ 10 by omega)) k498
                      have c500 := k498.gi (Or.inl (tk_ne kM_at12 kM_at18 (by decide))) c27
                      have c501 := k498.gi (Or.inl (tk_ne kM_at12 kM_at18 (by decide))) c50
                      have c502 := k498.gi (Or.inl (tk_ne kM_at12 kM_at18 (by decide))) c60
                      have c503 := k498.gi (Or.inl (tk_ne kM_at12 kM_at18 (by decide))) c294
                      have c504 := k498.gi (Or.inl (tk_ne kM_at12 kM_at18 (by decide))) c466
                      have gb505 : 0 ≤ sumG 19 10 w496 ∧ sumG 19 10 w496 ≤ 10 := hT.sum (lo := 0) (hi := 1) kM_at19 rfl (by decide) rfl
                      exact J259 x49 H locs ls w496 (show 0 ≤ a1.toInt from r13) (show a1.toInt ≤ 9 from t14) (show 0 ≤ a2.toInt from r15) (show a2.toInt ≤ 9 from t16) (show 0 ≤ a3.toInt from r17) (show a3.toInt ≤ 99999 from t18) (show 2000 ≤ a4.toInt from r19) (show a4.toInt ≤ 101999 from t20) (show 0 ≤ v145_5.toInt from r21) (show v145_5.toInt ≤ 9 from t22) (show 0 ≤ v145_6.toInt from r23) (show v145_6.toInt ≤ 12 by first | with_reducible assumption | omega) (show 0 ≤ f145_12_0.toInt from r25) (show f145_12_0.toInt ≤ 10 from t26) (show 1 ≤ x49.toInt by first | with_reducible assumption | omega) (show x49.toInt ≤ 13 by first | with_reducible assumption | omega) (show (sumG 19 10 w1) + 1 ≤ (sumG 19 10 w496) by omega)  hw hT hF c500 c501 hM (lv_sub hl [2, 3, 4, 5, 6, 7, 8] rfl)
      have L59 : ∀ (n59 : Nat) (v59_5 : Int32) (v59_6 : Int32) (H : Heap) (locs : List Loc) (ls : Array Slot) (w506 : va_W), 0 ≤ a1.toInt → a1.toInt ≤ 9 → 0 ≤ a2.toInt → a2.toInt ≤ 9 → 0 ≤ a3.toInt → a3.toInt ≤ 99999 → 2000 ≤ a4.toInt → a4.toInt ≤ 101999 → (-1) ≤ v59_5.toInt → v59_5.toInt ≤ 9 → 0 ≤ v59_6.toInt → v59_6.toInt ≤ 10 → ((sumG 19 10 w506) ≤ (sumG 19 10 w1)) → ((sumG 19 10 w1) ≤ (sumG 19 10 w506)) → ((v59_5.toInt = -1 ∨ (gi w506 19 (v59_5.toInt).toNat).toInt = 0)) → (10 - v59_6.toInt).toNat < n59 → Wd dC dI A s.heap H locs w506 → TW ksM ad cy B qr 13 w506 → FE ksM [(77, 0, 10), (78, 0, 10)] w0 w506 → gi w506 19 (a2.toInt).toNat = 0 → TT (fun n => m_X12_reaches n 0 a1.toInt a2.toInt a3.toInt a4.toInt (sI w0)) (fun n => j_X12_reaches 0 n 59 [a2.toInt, a4.toInt, v59_5.toInt, v59_6.toInt] (sI w506)) → lv_has ls 9 [(0, .ref (ad 0)), (1, .int a1), (2, .int a2), (3, .int a3), (4, .int a4), (5, .int v59_5), (6, .int v59_6)] → W p l e ({ frames := 5, cells := 0, slots := 0, locals := 105 }) s m (List.toArray [.ref (ad 0), .int a1, .int a2, .int a3, .int a4]) below meth c H locs 0 0 (MQ below (va_Qi (Pz_X12_reaches_1 ad cy B qr s1 a1 a2 a3 a4 w0) (fun u : va_W => wpost dC dI cy A u) A) (List.toArray [.ref (ad 0), .int a1, .int a2, .int a3, .int a4]) s 0 0 A) (F0 m 59 ls []) := by
        intro n59
        induction n59 with
        | zero => intro v59_5 v59_6 H locs ls w506 r507 t508 r509 t510 r511 t512 r513 t514 r515 t516 r517 t518 hcr59_0 hcr59_1 hcr59_2 hm59 hw hT hF c519 hM hl; omega
        | succ n59 ih59 =>
          intro v59_5 v59_6 H locs ls w506 r507 t508 r509 t510 r511 t512 r513 t514 r515 t516 r517 t518 hcr59_0 hcr59_1 hcr59_2 hm59 hw hT hF c519 hM hl
          have J119 : ∀ (v119_5 : Int32) (f119_12_0 : Int32) (f119_19__v59_6_toInt_toNat : Int32) (H : Heap) (locs : List Loc) (ls : Array Slot) (w520 : va_W), 0 ≤ a1.toInt → a1.toInt ≤ 9 → 0 ≤ a2.toInt → a2.toInt ≤ 9 → 0 ≤ a3.toInt → a3.toInt ≤ 99999 → 2000 ≤ a4.toInt → a4.toInt ≤ 101999 → (-1) ≤ v119_5.toInt → v119_5.toInt ≤ 9 → 0 ≤ v59_6.toInt → v59_6.toInt ≤ 9 → 1 ≤ f119_12_0.toInt → f119_12_0.toInt ≤ 10 → 0 ≤ f119_19__v59_6_toInt_toNat.toInt → f119_19__v59_6_toInt_toNat.toInt ≤ 1 → ((sumG 19 10 w520) ≤ (sumG 19 10 w1)) → ((sumG 19 10 w1) ≤ (sumG 19 10 w520)) → ((v119_5.toInt = -1 ∨ (gi w520 19 (v119_5.toInt).toNat).toInt = 0)) → Wd dC dI A s.heap H locs w520 → TW ksM ad cy B qr 13 w520 → FE ksM [(77, 0, 10), (78, 0, 10)] w0 w520 → gi w520 12 0 = f119_12_0 → gi w520 19 (a2.toInt).toNat = 0 → gi w520 19 (v59_6.toInt).toNat = f119_19__v59_6_toInt_toNat → TT (fun n => m_X12_reaches n 0 a1.toInt a2.toInt a3.toInt a4.toInt (sI w0)) (fun n => b_X12_reaches_119 (j_X12_reaches 0 n) n 0 (a2.toInt) (a4.toInt) (v119_5.toInt) (v59_6.toInt) (sI w520)) → lv_has ls 9 [(0, .ref (ad 0)), (1, .int a1), (2, .int a2), (3, .int a3), (4, .int a4), (5, .int v119_5), (6, .int v59_6)] → W p l e ({ frames := 5, cells := 0, slots := 0, locals := 105 }) s m (List.toArray [.ref (ad 0), .int a1, .int a2, .int a3, .int a4]) below meth c H locs 0 0 (MQ below (va_Qi (Pz_X12_reaches_1 ad cy B qr s1 a1 a2 a3 a4 w0) (fun u : va_W => wpost dC dI cy A u) A) (List.toArray [.ref (ad 0), .int a1, .int a2, .int a3, .int a4]) s 0 0 A) (F0 m 119 ls []) := by
            intro v119_5 f119_12_0 f119_19__v59_6_toInt_toNat H locs ls w520 r521 t522 r523 t524 r525 t526 r527 t528 r529 t530 r531 t532 r533 t534 r537 t538 hcr119_0 hcr119_1 hcr119_2 hw hT hF c535 c536 c539 hM hl
            obtain ⟨x540, ex540⟩ : ∃ y : Int32, y = v59_6 + Int32.ofInt 1 := ⟨_, rfl⟩
            have erx540 := ex540
            refine lv_iinc (v := x540) (lv' := [(6, .int x540), (0, .ref (ad 0)), (1, .int a1), (2, .int a2), (3, .int a3), (4, .int a4), (5, .int v119_5)]) hx hb dX12_reaches_119 hl (k := 6) rfl ex540.symm (by decide) rfl (fun ls hl => ?_)
            have ex540 : x540.toInt = v59_6.toInt + 1 := by rw [ex540]; exact wk_add (y := 1) (show -2147483648 ≤ v59_6.toInt + 1 by omega) (show v59_6.toInt + 1 ≤ 2147483647 by omega)
            replace hM := hM.lt ex540.symm
            refine lv_goto (tgt := 59) hx hb dX12_reaches_122 (by decide) ?_
            have gb541 : 0 ≤ sumG 19 10 w520 ∧ sumG 19 10 w520 ≤ 10 := hT.sum (lo := 0) (hi := 1) kM_at19 rfl (by decide) rfl
            exact ih59 v119_5 x540 H locs ls w520 (show 0 ≤ a1.toInt from r521) (show a1.toInt ≤ 9 from t522) (show 0 ≤ a2.toInt from r523) (show a2.toInt ≤ 9 from t524) (show 0 ≤ a3.toInt from r525) (show a3.toInt ≤ 99999 from t526) (show 2000 ≤ a4.toInt from r527) (show a4.toInt ≤ 101999 from t528) (show (-1) ≤ v119_5.toInt from r529) (show v119_5.toInt ≤ 9 from t530) (show 0 ≤ x540.toInt by first | with_reducible assumption | omega) (show x540.toInt ≤ 10 by first | with_reducible assumption | omega) (show (sumG 19 10 w520) ≤ (sumG 19 10 w1) by omega) (show (sumG 19 10 w1) ≤ (sumG 19 10 w520) by omega) (show (v119_5.toInt = -1 ∨ (gi w520 19 (v119_5.toInt).toNat).toInt = 0) by first | omega | assumption | (left; omega) | (left; decide) | (right; assumption) | (right; rw [c536]; omega) | (right; rw [c536]; decide) | (right; rw [c539]; omega) | (right; rw [c539]; decide) | (right; rcases hcr59_2 with hx1 | hx1 <;> first | exact hx1 | (rw [← hx1]; exact (congrArg Int32.toInt ((hF.gi kM_at19 rfl rfl).symm.trans c536)).trans (by omega))) | (right; rcases hcr59_2 with hx1 | hx1 <;> first | exact hx1 | (rw [← hx1]; exact (congrArg Int32.toInt ((hF.gi kM_at19 rfl rfl).symm.trans c539)).trans (by omega)))) (show (10 - x540.toInt).toNat < n59 by first | exact tn_lt hm59 (by omega) (by omega) | omega) hw hT hF c536 hM (lv_sub hl [1, 2, 3, 4, 5, 6, 0] rfl)
          have J115 : ∀ (f115_12_0 : Int32) (H : Heap) (locs : List Loc) (ls : Array Slot) (w542 : va_W), 0 ≤ a1.toInt → a1.toInt ≤ 9 → 0 ≤ a2.toInt → a2.toInt ≤ 9 → 0 ≤ a3.toInt → a3.toInt ≤ 99999 → 2000 ≤ a4.toInt → a4.toInt ≤ 101999 → (-1) ≤ v59_5.toInt → v59_5.toInt ≤ 9 → 0 ≤ v59_6.toInt → v59_6.toInt ≤ 9 → 1 ≤ f115_12_0.toInt → f115_12_0.toInt ≤ 10 → ((sumG 19 10 w542) ≤ (sumG 19 10 w1)) → ((sumG 19 10 w1) ≤ (sumG 19 10 w542)) → ((v59_5.toInt = -1 ∨ (gi w542 19 (v59_5.toInt).toNat).toInt = 0)) → Wd dC dI A s.heap H locs w542 → TW ksM ad cy B qr 13 w542 → FE ksM [(77, 0, 10), (78, 0, 10)] w0 w542 → gi w542 12 0 = f115_12_0 → gi w542 19 (a2.toInt).toNat = 0 → gi w542 19 (v59_6.toInt).toNat = 0 → TT (fun n => m_X12_reaches n 0 a1.toInt a2.toInt a3.toInt a4.toInt (sI w0)) (fun n => b_X12_reaches_115 (j_X12_reaches 0 n) n 0 (a2.toInt) (a4.toInt) (v59_6.toInt) (sI w542)) → lv_has ls 9 [(0, .ref (ad 0)), (1, .int a1), (2, .int a2), (3, .int a3), (4, .int a4), (5, .int v59_5), (6, .int v59_6)] → W p l e ({ frames := 5, cells := 0, slots := 0, locals := 105 }) s m (List.toArray [.ref (ad 0), .int a1, .int a2, .int a3, .int a4]) below meth c H locs 0 0 (MQ below (va_Qi (Pz_X12_reaches_1 ad cy B qr s1 a1 a2 a3 a4 w0) (fun u : va_W => wpost dC dI cy A u) A) (List.toArray [.ref (ad 0), .int a1, .int a2, .int a3, .int a4]) s 0 0 A) (F0 m 115 ls []) := by
            intro f115_12_0 H locs ls w542 r543 t544 r545 t546 r547 t548 r549 t550 r551 t552 r553 t554 r555 t556 hcr115_0 hcr115_1 hcr115_2 hw hT hF c557 c558 c559 hM hl
            have hM : TT (fun n => m_X12_reaches n 0 a1.toInt a2.toInt a3.toInt a4.toInt (sI w0)) (fun n => b_X12_reaches_119 (j_X12_reaches 0 n) n 0 (a2.toInt) (a4.toInt) (v59_6.toInt) (v59_6.toInt) (sI w542)) := hM
            refine lv_iload hx hb dX12_reaches_115 (lv_at hl 6 rfl) ?_
            refine lv_istore (lv' := [(5, .int v59_6), (0, .ref (ad 0)), (1, .int a1), (2, .int a2), (3, .int a3), (4, .int a4), (6, .int v59_6)]) hx hb dX12_reaches_117 hl (by decide) rfl (fun ls hl => ?_)
            have gb560 : 0 ≤ sumG 19 10 w542 ∧ sumG 19 10 w542 ≤ 10 := hT.sum (lo := 0) (hi := 1) kM_at19 rfl (by decide) rfl
            exact J119 v59_6 f115_12_0 0 H locs ls w542 (show 0 ≤ a1.toInt from r543) (show a1.toInt ≤ 9 from t544) (show 0 ≤ a2.toInt from r545) (show a2.toInt ≤ 9 from t546) (show 0 ≤ a3.toInt from r547) (show a3.toInt ≤ 99999 from t548) (show 2000 ≤ a4.toInt from r549) (show a4.toInt ≤ 101999 from t550) (show (-1) ≤ v59_6.toInt from Int.le_trans (by decide) r553) (show v59_6.toInt ≤ 9 from t554) (show 0 ≤ v59_6.toInt from r553) (show v59_6.toInt ≤ 9 from t554) (show 1 ≤ f115_12_0.toInt from r555) (show f115_12_0.toInt ≤ 10 from t556) (by decide) (by decide) (show (sumG 19 10 w542) ≤ (sumG 19 10 w1) by omega) (show (sumG 19 10 w1) ≤ (sumG 19 10 w542) by omega) (show (v59_6.toInt = -1 ∨ (gi w542 19 (v59_6.toInt).toNat).toInt = 0) by first | omega | assumption | (left; omega) | (left; decide) | (right; assumption) | (right; rw [c558]; omega) | (right; rw [c558]; decide) | (right; rw [c559]; omega) | (right; rw [c559]; decide))  hw hT hF c557 c558 c559 hM (lv_sub hl [1, 2, 3, 4, 5, 0, 6] rfl)
          replace hM := hM.suc (fun _ => e_X12_reaches_59)
          refine lv_iload hx hb dX12_reaches_59 (lv_at hl 6 rfl) ?_
          refine lv_aload_n hx hb dX12_reaches_61 rfl (lv_at hl 0 rfl) ?_
          refine tk_getA hC hK hw hT hinX12 kM_at0 (by decide) rfl 26 (by decide) (List.mem_cons_of_mem _ uw_7_1) rfl rfl dX12_reaches_62 ?_
          refine lv_iconst (v := 0) hx hb dX12_reaches_65 (by decide) ?_
          refine tk_ialdR hC hK hw hT kM_at12 rfl (by decide) (by decide) dX12_reaches_66 (fun x561 c562 Ex561 => ?_)
          have hox561 := c562
          replace hM := hM.rd (sI_at hox561)
          have bx561 := tk_rgI rfl 0 1 1 0 10 (by decide +kernel) ⟨0, by decide, by decide⟩ Ex561
          have c562 : gi w506 12 0 = x561 := c562
          refine lv_icmp_ge (tgt := 125) hx hb dX12_reaches_67 (by decide) (fun c563 => ?_) (fun c563 => ?_)
          · have c563 : x561.toInt ≤ v59_6.toInt := wk_le.mp c563
            replace hM := hM.pos c563
            refine lv_iload hx hb dX12_reaches_125 (lv_at hl 5 rfl) ?_
            refine lv_if_ge (tgt := 134) hx hb dX12_reaches_127 (by decide) (fun c564 => ?_) (fun c564 => ?_)
            · have c564 : (0 : Int) ≤ v59_5.toInt := wk_le.mp c564
              replace hM := hM.pos c564
              refine lv_aload_n hx hb dX12_reaches_134 rfl (lv_at hl 0 rfl) ?_
              refine tk_getA hC hK hw hT hinX12 kM_at0 (by decide) rfl 36 (by decide) (List.mem_cons_of_mem _ uw_7_9) rfl rfl dX12_reaches_135 ?_
              refine lv_iload hx hb dX12_reaches_138 (lv_at hl 5 rfl) ?_
              refine lv_iconst (v := 1) hx hb dX12_reaches_140 (by decide) ?_
              refine tk_zast hC hK hw hT kM_at19 (by decide) rfl rfl (show 0 ≤ v59_5.toInt by first | with_reducible assumption | omega) (show v59_5.toInt < 10 from Int.lt_of_le_of_lt t516 (by decide)) (by decide) (by decide) dX12_reaches_141 (fun H locs w565 hw hT k567 c566 => ?_)
              replace hM := hM.wr (sI_upc k567 c566 (by decide))
              have gs568 : sumG 19 10 w565 = sumG 19 10 w506 - (gi w506 19 (v59_5.toInt.toNat)).toInt + (gi w565 19 (v59_5.toInt.toNat)).toInt := sumG_up (i := v59_5.toInt.toNat) k567 10 (show v59_5.toInt.toNat < 10 by omega)
              rw [show gi w565 19 (v59_5.toInt.toNat) = 1 from c566] at gs568
              rw [show (1 : Int32).toInt = 1 by decide] at gs568
              have hF := hF.put kM_at19 (inE_of (a := 0) (b := 10) (by decide) (show 0 ≤ v59_5.toInt.toNat by omega) (show v59_5.toInt.toNat ≤ 10 by omega)) k567
              have c569 := k567.gi (Or.inl (tk_ne kM_at12 kM_at19 (by decide))) c562
              refine lv_iconst (v := 0) hx hb dX12_reaches_142 (by decide) ?_
              refine lv_istore (lv' := [(6, .int 0), (0, .ref (ad 0)), (1, .int a1), (2, .int a2), (3, .int a3), (4, .int a4), (5, .int v59_5)]) hx hb dX12_reaches_143 hl (by decide) rfl (fun ls hl => ?_)
              have gb570 : 0 ≤ sumG 19 10 w565 ∧ sumG 19 10 w565 ≤ 10 := hT.sum (lo := 0) (hi := 1) kM_at19 rfl (by decide) rfl
              exact L145 ((13 - (0 : Int)).toNat + 1) v59_5 0 x561 H locs ls w565 (show 0 ≤ a1.toInt from r507) (show a1.toInt ≤ 9 from t508) (show 0 ≤ a2.toInt from r509) (show a2.toInt ≤ 9 from t510) (show 0 ≤ a3.toInt from r511) (show a3.toInt ≤ 99999 from t512) (show 2000 ≤ a4.toInt from r513) (show a4.toInt ≤ 101999 from t514) (show 0 ≤ v59_5.toInt by first | with_reducible assumption | omega) (show v59_5.toInt ≤ 9 from t516) (by decide) (by decide) (show 0 ≤ x561.toInt by first | with_reducible assumption | omega) (show x561.toInt ≤ 10 by first | with_reducible assumption | omega) (show (sumG 19 10 w1) + 1 ≤ (sumG 19 10 w565) by omega) (Nat.lt_succ_self _) hw hT hF c569 hM (lv_sub hl [1, 2, 3, 4, 5, 6, 0] rfl)
            · have c564 : v59_5.toInt < (0 : Int) := wk_leF c564
              replace hM := hM.neg (Int.not_le.mpr c564)
              refine lv_ldcw (v := 100000000) hx hb hC.2.2.2.1 (hC.2.2.2.2 _ (List.mem_cons_of_mem _ uw_38_2)) dX12_reaches_130 ?_
              exact tk_iret hC hr hlocks hK ⟨hT, hF, hM.ret (by decide), ⟨(by decide), (by decide)⟩⟩ hw dX12_reaches_133
          · have c563 : v59_6.toInt < x561.toInt := wk_leF c563
            replace hM := hM.neg (Int.not_le.mpr c563)
            refine lv_aload_n hx hb dX12_reaches_70 rfl (lv_at hl 0 rfl) ?_
            refine tk_getA hC hK hw hT hinX12 kM_at0 (by decide) rfl 36 (by decide) (List.mem_cons_of_mem _ uw_7_9) rfl rfl dX12_reaches_71 ?_
            refine lv_iload hx hb dX12_reaches_74 (lv_at hl 6 rfl) ?_
            refine tk_zald hC hK hw hT kM_at19 rfl rfl (show 0 ≤ v59_6.toInt from r517) (show v59_6.toInt < 10 by first | with_reducible assumption | omega) dX12_reaches_76 (fun x571 c572 rx571 tx571 => ?_)
            have hox571 := c572
            replace hM := hM.rd (sI_at hox571)
            have c572 : gi w506 19 (v59_6.toInt).toNat = x571 := (congrArg (gi w506 19) (congrArg Int.toNat (show v59_6.toInt = v59_6.toInt from rfl))).trans c572
            refine lv_if_ne (tgt := 119) hx hb dX12_reaches_77 (by decide) (fun c573 => ?_) (fun c573 => ?_)
            · have c573 : ¬ x571.toInt = (0 : Int) := wk_eqF c573
              replace hM := hM.pos c573
              have gb574 : 0 ≤ sumG 19 10 w506 ∧ sumG 19 10 w506 ≤ 10 := hT.sum (lo := 0) (hi := 1) kM_at19 rfl (by decide) rfl
              exact J119 v59_5 x561 x571 H locs ls w506 (show 0 ≤ a1.toInt from r507) (show a1.toInt ≤ 9 from t508) (show 0 ≤ a2.toInt from r509) (show a2.toInt ≤ 9 from t510) (show 0 ≤ a3.toInt from r511) (show a3.toInt ≤ 99999 from t512) (show 2000 ≤ a4.toInt from r513) (show a4.toInt ≤ 101999 from t514) (show (-1) ≤ v59_5.toInt from r515) (show v59_5.toInt ≤ 9 from t516) (show 0 ≤ v59_6.toInt from r517) (show v59_6.toInt ≤ 9 by first | with_reducible assumption | omega) (show 1 ≤ x561.toInt by first | with_reducible assumption | omega) (show x561.toInt ≤ 10 by first | with_reducible assumption | omega) (show 0 ≤ x571.toInt from rx571) (show x571.toInt ≤ 1 from tx571) (show (sumG 19 10 w506) ≤ (sumG 19 10 w1) by omega) (show (sumG 19 10 w1) ≤ (sumG 19 10 w506) by omega) (show (v59_5.toInt = -1 ∨ (gi w506 19 (v59_5.toInt).toNat).toInt = 0) by first | omega | assumption | (left; omega) | (left; decide) | (right; assumption) | (right; rw [c519]; omega) | (right; rw [c519]; decide) | (right; rw [c572]; omega) | (right; rw [c572]; decide))  hw hT hF c562 c519 c572 hM (lv_sub hl [0, 1, 2, 3, 4, 5, 6] rfl)
            · have c573 : x571.toInt = (0 : Int) := wk_eq.mp c573
              replace hM := hM.neg (fun q => q c573)
              refine lv_aload_n hx hb dX12_reaches_80 rfl (lv_at hl 0 rfl) ?_
              refine tk_getA hC hK hw hT hinX12 kM_at0 (by decide) rfl 35 (by decide) (List.mem_cons_of_mem _ uw_7_8) rfl rfl dX12_reaches_81 ?_
              refine lv_iload hx hb dX12_reaches_84 (lv_at hl 6 rfl) ?_
              refine tk_iald hC hK hw hT kM_at18 rfl rfl (show 0 ≤ v59_6.toInt from r517) (show v59_6.toInt < 10 by first | with_reducible assumption | omega) dX12_reaches_86 (fun x575 c576 rx575 tx575 => ?_)
              have hox575 := c576
              replace hM := hM.rd (sI_at hox575)
              refine lv_ldcw (v := 100000000) hx hb hC.2.2.2.1 (hC.2.2.2.2 _ (List.mem_cons_of_mem _ uw_38_2)) dX12_reaches_87 ?_
              refine lv_icmp_ge (tgt := 119) hx hb dX12_reaches_90 (by decide) (fun c577 => ?_) (fun c577 => ?_)
              · have c577 : (100000000 : Int) ≤ x575.toInt := wk_le.mp c577
                replace hM := hM.pos c577
                have gb578 : 0 ≤ sumG 19 10 w506 ∧ sumG 19 10 w506 ≤ 10 := hT.sum (lo := 0) (hi := 1) kM_at19 rfl (by decide) rfl
                exact J119 v59_5 x561 x571 H locs ls w506 (show 0 ≤ a1.toInt from r507) (show a1.toInt ≤ 9 from t508) (show 0 ≤ a2.toInt from r509) (show a2.toInt ≤ 9 from t510) (show 0 ≤ a3.toInt from r511) (show a3.toInt ≤ 99999 from t512) (show 2000 ≤ a4.toInt from r513) (show a4.toInt ≤ 101999 from t514) (show (-1) ≤ v59_5.toInt from r515) (show v59_5.toInt ≤ 9 from t516) (show 0 ≤ v59_6.toInt from r517) (show v59_6.toInt ≤ 9 by first | with_reducible assumption | omega) (show 1 ≤ x561.toInt by first | with_reducible assumption | omega) (show x561.toInt ≤ 10 by first | with_reducible assumption | omega) (show 0 ≤ x571.toInt from rx571) (show x571.toInt ≤ 1 from tx571) (show (sumG 19 10 w506) ≤ (sumG 19 10 w1) by omega) (show (sumG 19 10 w1) ≤ (sumG 19 10 w506) by omega) (show (v59_5.toInt = -1 ∨ (gi w506 19 (v59_5.toInt).toNat).toInt = 0) by first | omega | assumption | (left; omega) | (left; decide) | (right; assumption) | (right; rw [c519]; omega) | (right; rw [c519]; decide) | (right; rw [c572]; omega) | (right; rw [c572]; decide))  hw hT hF c562 c519 c572 hM (lv_sub hl [0, 1, 2, 3, 4, 5, 6] rfl)
              · have c577 : x575.toInt < (100000000 : Int) := wk_leF c577
                replace hM := hM.neg (Int.not_le.mpr c577)
                refine lv_iload hx hb dX12_reaches_93 (lv_at hl 5 rfl) ?_
                refine lv_if_lt (tgt := 115) hx hb dX12_reaches_95 (by decide) (fun c579 => ?_) (fun c579 => ?_)
                · have c579 : v59_5.toInt < (0 : Int) := wk_lt.mp c579
                  replace hM := hM.pos c579
                  have gb580 : 0 ≤ sumG 19 10 w506 ∧ sumG 19 10 w506 ≤ 10 := hT.sum (lo := 0) (hi := 1) kM_at19 rfl (by decide) rfl
                  obtain rfl : x571 = 0 := wk_eq.mpr (show x571.toInt = 0 by first | exact Int.le_antisymm (by omega) (by omega) | omega)
                  try simp only [show (0 : Int32).toInt = 0 by decide] at hM
                  exact J115 x561 H locs ls w506 (show 0 ≤ a1.toInt from r507) (show a1.toInt ≤ 9 from t508) (show 0 ≤ a2.toInt from r509) (show a2.toInt ≤ 9 from t510) (show 0 ≤ a3.toInt from r511) (show a3.toInt ≤ 99999 from t512) (show 2000 ≤ a4.toInt from r513) (show a4.toInt ≤ 101999 from t514) (show (-1) ≤ v59_5.toInt from r515) (show v59_5.toInt ≤ 9 from t516) (show 0 ≤ v59_6.toInt from r517) (show v59_6.toInt ≤ 9 by first | with_reducible assumption | omega) (show 1 ≤ x561.toInt by first | with_reducible assumption | omega) (show x561.toInt ≤ 10 by first | with_reducible assumption | omega) (show (sumG 19 10 w506) ≤ (sumG 19 10 w1) by omega) (show (sumG 19 10 w1) ≤ (sumG 19 10 w506) by omega) (show (v59_5.toInt = -1 ∨ (gi w506 19 (v59_5.toInt).toNat).toInt = 0) by first | omega | assumption | (left; omega) | (left; decide) | (right; assumption) | (right; rw [c519]; omega) | (right; rw [c519]; decide) | (right; rw [c572]; omega) | (right; rw [c572]; decide))  hw hT hF c562 c519 c572 hM (lv_sub hl [0, 1, 2, 3, 4, 5, 6] rfl)
                · have c579 : (0 : Int) ≤ v59_5.toInt := wk_ltF c579
                  replace hM := hM.neg (Int.not_lt.mpr c579)
                  refine lv_aload_n hx hb dX12_reaches_98 rfl (lv_at hl 0 rfl) ?_
                  refine tk_getA hC hK hw hT hinX12 kM_at0 (by decide) rfl 35 (by decide) (List.mem_cons_of_mem _ uw_7_8) rfl rfl dX12_reaches_99 ?_
                  refine lv_iload hx hb dX12_reaches_102 (lv_at hl 6 rfl) ?_
                  refine tk_iald hC hK hw hT kM_at18 rfl rfl (show 0 ≤ v59_6.toInt from r517) (show v59_6.toInt < 10 by first | with_reducible assumption | omega) dX12_reaches_104 (fun x581 c582 rx581 tx581 => ?_)
                  have hox581 := c582
                  replace hM := hM.rd (sI_at hox581)
                  refine lv_aload_n hx hb dX12_reaches_105 rfl (lv_at hl 0 rfl) ?_
                  refine tk_getA hC hK hw hT hinX12 kM_at0 (by decide) rfl 35 (by decide) (List.mem_cons_of_mem _ uw_7_8) rfl rfl dX12_reaches_106 ?_
                  refine lv_iload hx hb dX12_reaches_109 (lv_at hl 5 rfl) ?_
                  refine tk_iald hC hK hw hT kM_at18 rfl rfl (show 0 ≤ v59_5.toInt by first | with_reducible assumption | omega) (show v59_5.toInt < 10 from Int.lt_of_le_of_lt t516 (by decide)) dX12_reaches_111 (fun x583 c584 rx583 tx583 => ?_)
                  have hox583 := c584
                  replace hM := hM.rd (sI_at hox583)
                  refine lv_icmp_ge (tgt := 119) hx hb dX12_reaches_112 (by decide) (fun c585 => ?_) (fun c585 => ?_)
                  · have c585 : x583.toInt ≤ x581.toInt := wk_le.mp c585
                    replace hM := hM.pos c585
                    have gb586 : 0 ≤ sumG 19 10 w506 ∧ sumG 19 10 w506 ≤ 10 := hT.sum (lo := 0) (hi := 1) kM_at19 rfl (by decide) rfl
                    exact J119 v59_5 x561 x571 H locs ls w506 (show 0 ≤ a1.toInt from r507) (show a1.toInt ≤ 9 from t508) (show 0 ≤ a2.toInt from r509) (show a2.toInt ≤ 9 from t510) (show 0 ≤ a3.toInt from r511) (show a3.toInt ≤ 99999 from t512) (show 2000 ≤ a4.toInt from r513) (show a4.toInt ≤ 101999 from t514) (show (-1) ≤ v59_5.toInt from r515) (show v59_5.toInt ≤ 9 from t516) (show 0 ≤ v59_6.toInt from r517) (show v59_6.toInt ≤ 9 by first | with_reducible assumption | omega) (show 1 ≤ x561.toInt by first | with_reducible assumption | omega) (show x561.toInt ≤ 10 by first | with_reducible assumption | omega) (show 0 ≤ x571.toInt from rx571) (show x571.toInt ≤ 1 from tx571) (show (sumG 19 10 w506) ≤ (sumG 19 10 w1) by omega) (show (sumG 19 10 w1) ≤ (sumG 19 10 w506) by omega) (show (v59_5.toInt = -1 ∨ (gi w506 19 (v59_5.toInt).toNat).toInt = 0) by first | omega | assumption | (left; omega) | (left; decide) | (right; assumption) | (right; rw [c519]; omega) | (right; rw [c519]; decide) | (right; rw [c572]; omega) | (right; rw [c572]; decide))  hw hT hF c562 c519 c572 hM (lv_sub hl [0, 1, 2, 3, 4, 5, 6] rfl)
                  · have c585 : x581.toInt < x583.toInt := wk_leF c585
                    replace hM := hM.neg (Int.not_le.mpr c585)
                    have gb587 : 0 ≤ sumG 19 10 w506 ∧ sumG 19 10 w506 ≤ 10 := hT.sum (lo := 0) (hi := 1) kM_at19 rfl (by decide) rfl
                    obtain rfl : x571 = 0 := wk_eq.mpr (show x571.toInt = 0 by first | exact Int.le_antisymm (by omega) (by omega) | omega)
                    try simp only [show (0 : Int32).toInt = 0 by decide] at hM
                    exact J115 x561 H locs ls w506 (show 0 ≤ a1.toInt from r507) (show a1.toInt ≤ 9 from t508) (show 0 ≤ a2.toInt from r509) (show a2.toInt ≤ 9 from t510) (show 0 ≤ a3.toInt from r511) (show a3.toInt ≤ 99999 from t512) (show 2000 ≤ a4.toInt from r513) (show a4.toInt ≤ 101999 from t514) (show (-1) ≤ v59_5.toInt from r515) (show v59_5.toInt ≤ 9 from t516) (show 0 ≤ v59_6.toInt from r517) (show v59_6.toInt ≤ 9 by first | with_reducible assumption | omega) (show 1 ≤ x561.toInt by first | with_reducible assumption | omega) (show x561.toInt ≤ 10 by first | with_reducible assumption | omega) (show (sumG 19 10 w506) ≤ (sumG 19 10 w1) by omega) (show (sumG 19 10 w1) ≤ (sumG 19 10 w506) by omega) (show (v59_5.toInt = -1 ∨ (gi w506 19 (v59_5.toInt).toNat).toInt = 0) by first | omega | assumption | (left; omega) | (left; decide) | (right; assumption) | (right; rw [c519]; omega) | (right; rw [c519]; decide) | (right; rw [c572]; omega) | (right; rw [c572]; decide))  hw hT hF c562 c519 c572 hM (lv_sub hl [0, 1, 2, 3, 4, 5, 6] rfl)
      replace hM := hM.suc (fun _ => e_X12_reaches_44)
      refine lv_aload_n hx hb dX12_reaches_44 rfl (lv_at hl 0 rfl) ?_
      refine tk_getA hC hK hw hT hinX12 kM_at0 (by decide) rfl 36 (by decide) (List.mem_cons_of_mem _ uw_7_9) rfl rfl dX12_reaches_45 ?_
      refine lv_iload_n hx hb dX12_reaches_48 rfl (lv_at hl 2 rfl) ?_
      refine tk_zald hC hK hw hT kM_at19 rfl rfl (show 0 ≤ a2.toInt from r4) (show a2.toInt < 10 from Int.lt_of_le_of_lt t5 (by decide)) dX12_reaches_49 (fun x588 c589 rx588 tx588 => ?_)
      have hox588 := c589
      replace hM := hM.rd (sI_at hox588)
      have c589 : gi w1 19 (a2.toInt).toNat = x588 := (congrArg (gi w1 19) (congrArg Int.toNat (show a2.toInt = a2.toInt from rfl))).trans c589
      refine lv_if_ne (tgt := 268) hx hb dX12_reaches_50 (by decide) (fun c590 => ?_) (fun c590 => ?_)
      · have c590 : ¬ x588.toInt = (0 : Int) := wk_eqF c590
        replace hM := hM.pos c590
        refine lv_aload_n hx hb dX12_reaches_268 rfl (lv_at hl 0 rfl) ?_
        refine tk_getA hC hK hw hT hinX12 kM_at0 (by decide) rfl 35 (by decide) (List.mem_cons_of_mem _ uw_7_8) rfl rfl dX12_reaches_269 ?_
        refine lv_iload_n hx hb dX12_reaches_272 rfl (lv_at hl 2 rfl) ?_
        refine tk_iald hC hK hw hT kM_at18 rfl rfl (show 0 ≤ a2.toInt from r4) (show a2.toInt < 10 from Int.lt_of_le_of_lt t5 (by decide)) dX12_reaches_273 (fun x591 c592 rx591 tx591 => ?_)
        have hox591 := c592
        replace hM := hM.rd (sI_at hox591)
        exact tk_iret hC hr hlocks hK ⟨hT, hF, hM.ret rfl, ⟨(show 0 ≤ x591.toInt from rx591), (show x591.toInt ≤ 100000100 from tx591)⟩⟩ hw dX12_reaches_274
      · have c590 : x588.toInt = (0 : Int) := wk_eq.mp c590
        replace hM := hM.neg (fun q => q c590)
        refine lv_iconst (v := (-1)) hx hb dX12_reaches_53 (by decide) ?_
        refine lv_istore (lv' := [(5, .int (-1)), (0, .ref (ad 0)), (1, .int a1), (2, .int a2), (3, .int a3), (4, .int a4)]) hx hb dX12_reaches_54 hl (by decide) rfl (fun ls hl => ?_)
        refine lv_iconst (v := 0) hx hb dX12_reaches_56 (by decide) ?_
        refine lv_istore (lv' := [(6, .int 0), (5, .int (-1)), (0, .ref (ad 0)), (1, .int a1), (2, .int a2), (3, .int a3), (4, .int a4)]) hx hb dX12_reaches_57 hl (by decide) rfl (fun ls hl => ?_)
        have gb593 : 0 ≤ sumG 19 10 w1 ∧ sumG 19 10 w1 ≤ 10 := hT.sum (lo := 0) (hi := 1) kM_at19 rfl (by decide) rfl
        obtain rfl : x588 = 0 := wk_eq.mpr (show x588.toInt = 0 by first | exact Int.le_antisymm (by omega) (by omega) | omega)
        try simp only [show (0 : Int32).toInt = 0 by decide] at hM
        exact L59 ((10 - (0 : Int)).toNat + 1) (-1) 0 H locs ls w1 (show 0 ≤ a1.toInt from r2) (show a1.toInt ≤ 9 from t3) (show 0 ≤ a2.toInt from r4) (show a2.toInt ≤ 9 from t5) (show 0 ≤ a3.toInt from r6) (show a3.toInt ≤ 99999 from t7) (show 2000 ≤ a4.toInt from r8) (show a4.toInt ≤ 101999 from t9) (by decide) (by decide) (by decide) (by decide) (show (sumG 19 10 w1) ≤ (sumG 19 10 w1) from Int.le_refl _) (show (sumG 19 10 w1) ≤ (sumG 19 10 w1) from Int.le_refl _) (show ((-1 : Int) = -1 ∨ (gi w1 19 ((-1 : Int)).toNat).toInt = 0) by first | omega | assumption | (left; omega) | (left; decide) | (right; assumption) | (right; rw [c589]; omega) | (right; rw [c589]; decide)) (Nat.lt_succ_self _) hw hT hF c589 hM (lv_sub hl [2, 3, 4, 5, 6, 1, 0] rfl)
  have L3 : ∀ (n3 : Nat) (v3_5 : Int32) (H : Heap) (locs : List Loc) (ls : Array Slot) (w594 : va_W), 0 ≤ a1.toInt → a1.toInt ≤ 9 → 0 ≤ a2.toInt → a2.toInt ≤ 9 → 0 ≤ a3.toInt → a3.toInt ≤ 99999 → 2000 ≤ a4.toInt → a4.toInt ≤ 101999 → 0 ≤ v3_5.toInt → v3_5.toInt ≤ 10 → (10 - v3_5.toInt).toNat < n3 → Wd dC dI A s.heap H locs w594 → TW ksM ad cy B qr 13 w594 → FE ksM [(77, 0, 10), (78, 0, 10)] w0 w594 → TT (fun n => m_X12_reaches n 0 a1.toInt a2.toInt a3.toInt a4.toInt (sI w0)) (fun n => j_X12_reaches 0 n 3 [a1.toInt, a2.toInt, a3.toInt, a4.toInt, v3_5.toInt] (sI w594)) → lv_has ls 9 [(0, .ref (ad 0)), (1, .int a1), (2, .int a2), (3, .int a3), (4, .int a4), (5, .int v3_5)] → W p l e ({ frames := 5, cells := 0, slots := 0, locals := 105 }) s m (List.toArray [.ref (ad 0), .int a1, .int a2, .int a3, .int a4]) below meth c H locs 0 0 (MQ below (va_Qi (Pz_X12_reaches_1 ad cy B qr s1 a1 a2 a3 a4 w0) (fun u : va_W => wpost dC dI cy A u) A) (List.toArray [.ref (ad 0), .int a1, .int a2, .int a3, .int a4]) s 0 0 A) (F0 m 3 ls []) := by
    intro n3
    induction n3 with
    | zero => intro v3_5 H locs ls w594 r595 t596 r597 t598 r599 t600 r601 t602 r603 t604 hm3 hw hT hF hM hl; omega
    | succ n3 ih3 =>
      intro v3_5 H locs ls w594 r595 t596 r597 t598 r599 t600 r601 t602 r603 t604 hm3 hw hT hF hM hl
      replace hM := hM.suc (fun _ => e_X12_reaches_3)
      refine lv_iload hx hb dX12_reaches_3 (lv_at hl 5 rfl) ?_
      refine lv_bipush (v := 10) hx hb dX12_reaches_5 (by decide) ?_
      refine lv_icmp_ge (tgt := 44) hx hb dX12_reaches_7 (by decide) (fun c605 => ?_) (fun c605 => ?_)
      · have c605 : (10 : Int) ≤ v3_5.toInt := wk_le.mp c605
        replace hM := hM.pos c605
        have gb606 : 0 ≤ sumG 19 10 w594 ∧ sumG 19 10 w594 ≤ 10 := hT.sum (lo := 0) (hi := 1) kM_at19 rfl (by decide) rfl
        exact L44 ((10 - (sumG 19 10 w594)).toNat + 1) v3_5 H locs ls w594 (show 0 ≤ a1.toInt from r595) (show a1.toInt ≤ 9 from t596) (show 0 ≤ a2.toInt from r597) (show a2.toInt ≤ 9 from t598) (show 0 ≤ a3.toInt from r599) (show a3.toInt ≤ 99999 from t600) (show 2000 ≤ a4.toInt from r601) (show a4.toInt ≤ 101999 from t602) (show 0 ≤ v3_5.toInt from r603) (show v3_5.toInt ≤ 10 from t604) (show 0 ≤ (sumG 19 10 w594) by omega) (Nat.lt_succ_self _) hw hT hF hM (lv_sub hl [0, 1, 2, 3, 4, 5] rfl)
      · have c605 : v3_5.toInt < (10 : Int) := wk_leF c605
        replace hM := hM.neg (Int.not_le.mpr c605)
        refine lv_aload_n hx hb dX12_reaches_10 rfl (lv_at hl 0 rfl) ?_
        refine tk_getA hC hK hw hT hinX12 kM_at0 (by decide) rfl 35 (by decide) (List.mem_cons_of_mem _ uw_7_8) rfl rfl dX12_reaches_11 ?_
        refine lv_iload hx hb dX12_reaches_14 (lv_at hl 5 rfl) ?_
        refine lv_iload hx hb dX12_reaches_16 (lv_at hl 5 rfl) ?_
        refine lv_iload_n hx hb dX12_reaches_18 rfl (lv_at hl 1 rfl) ?_
        refine lv_icmp_ne (tgt := 26) hx hb dX12_reaches_19 (by decide) (fun c607 => ?_) (fun c607 => ?_)
        · have c607 : ¬ v3_5.toInt = a1.toInt := wk_eqF c607
          replace hM := hM.pos c607
          refine lv_ldcw (v := 100000000) hx hb hC.2.2.2.1 (hC.2.2.2.2 _ (List.mem_cons_of_mem _ uw_38_2)) dX12_reaches_26 ?_
          refine tk_iast hC hK hw hT kM_at18 (by decide) rfl rfl (show 0 ≤ v3_5.toInt from r603) (show v3_5.toInt < 10 by first | with_reducible assumption | omega) (by decide) (by decide) dX12_reaches_29 (fun H locs w608 hw hT k610 c609 => ?_)
          replace hM := hM.wr (sI_upc k610 c609 (by decide))
          have gs611 : sumG 19 10 w608 = sumG 19 10 w594 := sumG_ne 10 k610 (tk_ne kM_at19 kM_at18 (by decide))
          have hF := hF.put kM_at18 (inE_of (a := 0) (b := 10) (by decide) (show 0 ≤ v3_5.toInt.toNat by omega) (show v3_5.toInt.toNat ≤ 10 by omega)) k610
          refine lv_aload_n hx hb dX12_reaches_30 rfl (lv_at hl 0 rfl) ?_
          refine tk_getA hC hK hw hT hinX12 kM_at0 (by decide) rfl 36 (by decide) (List.mem_cons_of_mem _ uw_7_9) rfl rfl dX12_reaches_31 ?_
          refine lv_iload hx hb dX12_reaches_34 (lv_at hl 5 rfl) ?_
          refine lv_iconst (v := 0) hx hb dX12_reaches_36 (by decide) ?_
          refine tk_zast hC hK hw hT kM_at19 (by decide) rfl rfl (show 0 ≤ v3_5.toInt from r603) (show v3_5.toInt < 10 by first | with_reducible assumption | omega) (by decide) (by decide) dX12_reaches_37 (fun H locs w612 hw hT k614 c613 => ?_)
          replace hM := hM.wr (sI_upc k614 c613 (by decide))
          have gs615 : sumG 19 10 w612 = sumG 19 10 w608 - (gi w608 19 (v3_5.toInt.toNat)).toInt + (gi w612 19 (v3_5.toInt.toNat)).toInt := sumG_up (i := v3_5.toInt.toNat) k614 10 (show v3_5.toInt.toNat < 10 by omega)
          rw [show gi w612 19 (v3_5.toInt.toNat) = 0 from c613] at gs615
          rw [show (0 : Int32).toInt = 0 by decide] at gs615
          have hF := hF.put kM_at19 (inE_of (a := 0) (b := 10) (by decide) (show 0 ≤ v3_5.toInt.toNat by omega) (show v3_5.toInt.toNat ≤ 10 by omega)) k614
          obtain ⟨x616, ex616⟩ : ∃ y : Int32, y = v3_5 + Int32.ofInt 1 := ⟨_, rfl⟩
          have erx616 := ex616
          refine lv_iinc (v := x616) (lv' := [(5, .int x616), (0, .ref (ad 0)), (1, .int a1), (2, .int a2), (3, .int a3), (4, .int a4)]) hx hb dX12_reaches_38 hl (k := 5) rfl ex616.symm (by decide) rfl (fun ls hl => ?_)
          have ex616 : x616.toInt = v3_5.toInt + 1 := by rw [ex616]; exact wk_add (y := 1) (show -2147483648 ≤ v3_5.toInt + 1 by omega) (show v3_5.toInt + 1 ≤ 2147483647 by omega)
          replace hM := hM.lt ex616.symm
          refine lv_goto (tgt := 3) hx hb dX12_reaches_41 (by decide) ?_
          exact ih3 x616 H locs ls w612 (show 0 ≤ a1.toInt from r595) (show a1.toInt ≤ 9 from t596) (show 0 ≤ a2.toInt from r597) (show a2.toInt ≤ 9 from t598) (show 0 ≤ a3.toInt from r599) (show a3.toInt ≤ 99999 from t600) (show 2000 ≤ a4.toInt from r601) (show a4.toInt ≤ 101999 from t602) (show 0 ≤ x616.toInt by first | with_reducible assumption | omega) (show x616.toInt ≤ 10 by first | with_reducible assumption | omega) (show (10 - x616.toInt).toNat < n3 by first | exact tn_lt hm3 (by omega) (by omega) | omega) hw hT hF hM (lv_sub hl [1, 2, 3, 4, 5, 0] rfl)
        · have c607 : v3_5.toInt = a1.toInt := wk_eq.mp c607
          replace hM := hM.neg (fun q => q c607)
          refine lv_iload_n hx hb dX12_reaches_22 rfl (lv_at hl 3 rfl) ?_
          refine lv_goto (tgt := 29) hx hb dX12_reaches_23 (by decide) ?_
          refine tk_iast hC hK hw hT kM_at18 (by decide) rfl rfl (show 0 ≤ v3_5.toInt from r603) (show v3_5.toInt < 10 by first | with_reducible assumption | omega) (show 0 ≤ a3.toInt from r599) (show a3.toInt ≤ 100000100 from Int.le_trans t600 (by decide)) dX12_reaches_29 (fun H locs w617 hw hT k619 c618 => ?_)
          replace hM := hM.wr (sI_up k619 c618)
          have gs620 : sumG 19 10 w617 = sumG 19 10 w594 := sumG_ne 10 k619 (tk_ne kM_at19 kM_at18 (by decide))
          have hF := hF.put kM_at18 (inE_of (a := 0) (b := 10) (by decide) (show 0 ≤ v3_5.toInt.toNat by omega) (show v3_5.toInt.toNat ≤ 10 by omega)) k619
          refine lv_aload_n hx hb dX12_reaches_30 rfl (lv_at hl 0 rfl) ?_
          refine tk_getA hC hK hw hT hinX12 kM_at0 (by decide) rfl 36 (by decide) (List.mem_cons_of_mem _ uw_7_9) rfl rfl dX12_reaches_31 ?_
          refine lv_iload hx hb dX12_reaches_34 (lv_at hl 5 rfl) ?_
          refine lv_iconst (v := 0) hx hb dX12_reaches_36 (by decide) ?_
          refine tk_zast hC hK hw hT kM_at19 (by decide) rfl rfl (show 0 ≤ v3_5.toInt from r603) (show v3_5.toInt < 10 by first | with_reducible assumption | omega) (by decide) (by decide) dX12_reaches_37 (fun H locs w621 hw hT k623 c622 => ?_)
          replace hM := hM.wr (sI_upc k623 c622 (by decide))
          have gs624 : sumG 19 10 w621 = sumG 19 10 w617 - (gi w617 19 (v3_5.toInt.toNat)).toInt + (gi w621 19 (v3_5.toInt.toNat)).toInt := sumG_up (i := v3_5.toInt.toNat) k623 10 (show v3_5.toInt.toNat < 10 by omega)
          rw [show gi w621 19 (v3_5.toInt.toNat) = 0 from c622] at gs624
          rw [show (0 : Int32).toInt = 0 by decide] at gs624
          have hF := hF.put kM_at19 (inE_of (a := 0) (b := 10) (by decide) (show 0 ≤ v3_5.toInt.toNat by omega) (show v3_5.toInt.toNat ≤ 10 by omega)) k623
          obtain ⟨x625, ex625⟩ : ∃ y : Int32, y = v3_5 + Int32.ofInt 1 := ⟨_, rfl⟩
          have erx625 := ex625
          refine lv_iinc (v := x625) (lv' := [(5, .int x625), (0, .ref (ad 0)), (1, .int a1), (2, .int a2), (3, .int a3), (4, .int a4)]) hx hb dX12_reaches_38 hl (k := 5) rfl ex625.symm (by decide) rfl (fun ls hl => ?_)
          have ex625 : x625.toInt = v3_5.toInt + 1 := by rw [ex625]; exact wk_add (y := 1) (show -2147483648 ≤ v3_5.toInt + 1 by omega) (show v3_5.toInt + 1 ≤ 2147483647 by omega)
          replace hM := hM.lt ex625.symm
          refine lv_goto (tgt := 3) hx hb dX12_reaches_41 (by decide) ?_
          exact ih3 x625 H locs ls w621 (show 0 ≤ a1.toInt from r595) (show a1.toInt ≤ 9 from t596) (show 0 ≤ a2.toInt from r597) (show a2.toInt ≤ 9 from t598) (show 0 ≤ a3.toInt from r599) (show a3.toInt ≤ 99999 from t600) (show 2000 ≤ a4.toInt from r601) (show a4.toInt ≤ 101999 from t602) (show 0 ≤ x625.toInt by first | with_reducible assumption | omega) (show x625.toInt ≤ 10 by first | with_reducible assumption | omega) (show (10 - x625.toInt).toNat < n3 by first | exact tn_lt hm3 (by omega) (by omega) | omega) hw hT hF hM (lv_sub hl [1, 2, 3, 4, 5, 0] rfl)
  have hM : TT (fun n => m_X12_reaches n 0 a1.toInt a2.toInt a3.toInt a4.toInt (sI w0)) (fun n => m_X12_reaches n 0 a1.toInt a2.toInt a3.toInt a4.toInt (sI w0)) := TT.rf
  refine lv_iconst (v := 0) hx hb dX12_reaches_0 (by decide) ?_
  refine lv_istore (lv' := [(5, .int 0), (0, .ref (ad 0)), (1, .int a1), (2, .int a2), (3, .int a3), (4, .int a4)]) hx hb dX12_reaches_1 hl (by decide) rfl (fun ls hl => ?_)
  exact L3 ((10 - (0 : Int)).toNat + 1) 0 s.heap locs ls w0 (show 0 ≤ a1.toInt from ra1) (show a1.toInt ≤ 9 from ta1) (show 0 ≤ a2.toInt from ra2) (show a2.toInt ≤ 9 from ta2) (show 0 ≤ a3.toInt from ra3) (show a3.toInt ≤ 99999 from ta3) (show 2000 ≤ a4.toInt from ra4) (show a4.toInt ≤ 101999 from ta4) (by decide) (by decide) (Nat.lt_succ_self _) hw hT hF hM (lv_sub hl [1, 2, 3, 4, 5, 0] rfl)
