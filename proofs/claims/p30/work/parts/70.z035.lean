abbrev Pz_X12_streetOf_9 (ad : Nat → Nat) (cy : Nat → ClassId) (B : Int) (qr : Nat) (s1 : Int) (a1 : Int32) (w0 : va_W) : Int32 → va_W → Prop := fun r u => w0 = u ∧ Ev (fun n => m_X12_streetOf n 0 a1.toInt 0 (sI w0)) (r.toInt, sI w0) ∧ ((0 ≤ r.toInt ∧ r.toInt ≤ 9 ∧ gi u 12 (10 * a1.toInt + 10).toNat = r))
set_option maxHeartbeats 4000000 in
set_option maxRecDepth 100000 in
theorem kz_X12_streetOf_9 (l : Launch) (adK adV : Nat → Nat) (dC : Nat → ClassId) (dI : Nat → Nat → Nat) (cy : Nat → ClassId) (ad : Nat → Nat) (B : Int) (hB0 : 100000 ≤ B) (hB1 : B ≤ 1073741824) (qr : Nat) (s1 : Int)  (a1 : Int32) (ra1 : 0 ≤ a1.toInt) (ta1 : a1.toInt ≤ 11) (w0 : va_W) (sz : Nat) (hT : TW ksM ad cy B qr 12 w0)  : Met l yX12_streetOf (wu yX12_streetOf cX12_streetOf 3 (some .int)) ({ frames := 1, cells := 0, slots := 0, locals := 12 }) (va_Pc [.ref (ad 0), .int a1, .int 0] (wpreS adK adV dC dI cy sz w0)) (va_Qi (Pz_X12_streetOf_9 ad cy B qr s1 a1 w0) (fun u : va_W => wpost dC dI cy (va_A w0 sz) u) (va_A w0 sz)) 0 0 (va_A w0 sz) := by
  refine Met.ofW (cc := cX12_streetOf) (maxL := 3) (ret := (some .int)) (by decide) rfl ?_
  intro p e s m args below meth c s₁ Bk hml hv
  obtain ⟨rfl, ⟨hsz, hP, hK, hD0⟩, hE, hSR⟩ := hv
  have hx := Bk.exec
  have hb := Bk.bytes
  have hr := Bk.returns
  have hlocks := Bk.notSynchronized
  have hC : CallFix p m c cX12_streetOf 3 s _ (wu yX12_streetOf cX12_streetOf 3 (some .int)) RX12 := ⟨hx, hb, hml, findClass_of_methodNamed Bk.named, atoms_spec (ws := (wu yX12_streetOf cX12_streetOf 3 (some .int))) Bk.pre⟩
  subst hsz
  have hD := hD0.self (sz := s.heap.size)
  generalize hAe : va_A w0 s.heap.size = A at hD hE ⊢
  have hA : ∀ q : Nat, s.heap.size ≤ q → A q := fun q h => by rw [← hAe]; exact Or.inr h
  have hw : Wd dC dI A s.heap s.heap [] w0 := ⟨hP, hD, va_S.rf⟩
  have hF : FE ksM ([] : List (Nat × Nat × Nat)) w0 w0 := FE.rf
  have hl := lv_entry ([.ref (ad 0), .int a1, .int 0]) (n := 3) (Nat.le_of_ble_eq_true rfl)
  rw [lg_entry_eq]
  generalize (lg_sl ([.ref (ad 0), .int a1, .int 0]) ++ List.replicate (3 - (lg_sl ([.ref (ad 0), .int a1, .int 0])).length) Slot.unset).toArray = ls at hl ⊢
  have hl : lv_has ls 3 [(0, .ref (ad 0)), (1, .int a1), (2, .int 0)] := hl
  generalize hloc : ([] : List Loc) = locs at hw ⊢
  have hinX12 : ∀ w ∈ u_ws RX12 TX12 42, w ∈ (wu yX12_streetOf cX12_streetOf 3 (some .int)) := fun _ h => List.mem_cons_of_mem _ (up_71 h)
  have hM : TT (fun n => m_X12_streetOf n 0 a1.toInt 0 (sI w0)) (fun n => m_X12_streetOf n 0 a1.toInt 0 (sI w0)) := TT.rf
  refine lv_aload_n hx hb dX12_streetOf_0 rfl (lv_at hl 0 rfl) ?_
  refine tk_getA hC hK hw hT hinX12 kM_at0 (by decide) rfl 26 (by decide) (List.mem_cons_of_mem _ uw_7_1) rfl rfl dX12_streetOf_1 ?_
  refine lv_bipush (v := 10) hx hb dX12_streetOf_4 (by decide) ?_
  refine lv_bipush (v := 10) hx hb dX12_streetOf_6 (by decide) ?_
  refine lv_iload_n hx hb dX12_streetOf_8 rfl (lv_at hl 1 rfl) ?_
  refine lv_imul hx hb dX12_streetOf_9 ?_
  refine lv_topi (fun x1 ex1 => ?_)
  have ezx1 := ex1
  have ex1 : x1.toInt = (10 : Int) * a1.toInt := by rw [ex1]; exact wk_mul (show (-2147483648) ≤ (10 : Int) * a1.toInt by omega) (show (10 : Int) * a1.toInt ≤ 2147483647 by omega)
  replace hM := hM.lt ex1.symm
  refine lv_iadd hx hb dX12_streetOf_10 ?_
  refine lv_topi (fun x2 ex2 => ?_)
  have ezx2 := ex2
  have ex2 : x2.toInt = (10 : Int) + x1.toInt := by rw [ex2]; exact wk_add (show (-2147483648) ≤ (10 : Int) + x1.toInt by omega) (show (10 : Int) + x1.toInt ≤ 2147483647 by omega)
  replace hM := hM.lt ex2.symm
  refine lv_iload_n hx hb dX12_streetOf_11 rfl (lv_at hl 2 rfl) ?_
  refine lv_iadd hx hb dX12_streetOf_12 ?_
  refine lv_topi (fun x3 ex3 => ?_)
  have ezx3 := ex3
  have ex3 : x3.toInt = x2.toInt + (0 : Int) := by rw [ex3]; exact wk_add (show (-2147483648) ≤ x2.toInt + (0 : Int) by omega) (show x2.toInt + (0 : Int) ≤ 2147483647 by omega)
  replace hM := hM.lt ex3.symm
  refine tk_ialdR hC hK hw hT kM_at12 rfl (show 0 ≤ x3.toInt by first | with_reducible assumption | omega) (show x3.toInt < 296 by first | with_reducible assumption | omega) dX12_streetOf_13 (fun x4 c5 Ex4 => ?_)
  have hox4 := c5
  have c5 : gi w0 12 (10 * a1.toInt + 10).toNat = x4 := (congrArg (gi w0 12) (congrArg Int.toNat (show 10 * a1.toInt + 10 = x3.toInt by first | exact Int.le_antisymm (by omega) (by omega) | omega))).trans c5
  replace hM := hM.rd (sI_at hox4)
  have bx4 := tk_rgI rfl 10 10 12 0 9 (by decide +kernel) ⟨(a1.toInt - 0).toNat, by omega, show x3.toInt.toNat = 10 + 10 * (a1.toInt - 0).toNat by omega⟩ Ex4
  exact tk_iret hC hr hlocks hK ⟨rfl, hM.ret rfl, ⟨(show 0 ≤ x4.toInt by first | with_reducible assumption | omega), (show x4.toInt ≤ 9 by first | with_reducible assumption | omega), c5⟩⟩ hw dX12_streetOf_14
abbrev Pz_X12_streetOf_10 (ad : Nat → Nat) (cy : Nat → ClassId) (B : Int) (qr : Nat) (s1 : Int) (a1 : Int32) (w0 : va_W) : Int32 → va_W → Prop := fun r u => w0 = u ∧ Ev (fun n => m_X12_streetOf n 0 a1.toInt 1 (sI w0)) (r.toInt, sI w0) ∧ ((0 ≤ r.toInt ∧ r.toInt ≤ 9 ∧ gi u 12 (10 * a1.toInt + 11).toNat = r))
set_option maxHeartbeats 4000000 in
set_option maxRecDepth 100000 in
theorem kz_X12_streetOf_10 (l : Launch) (adK adV : Nat → Nat) (dC : Nat → ClassId) (dI : Nat → Nat → Nat) (cy : Nat → ClassId) (ad : Nat → Nat) (B : Int) (hB0 : 100000 ≤ B) (hB1 : B ≤ 1073741824) (qr : Nat) (s1 : Int)  (a1 : Int32) (ra1 : 0 ≤ a1.toInt) (ta1 : a1.toInt ≤ 11) (w0 : va_W) (sz : Nat) (hT : TW ksM ad cy B qr 12 w0)  : Met l yX12_streetOf (wu yX12_streetOf cX12_streetOf 3 (some .int)) ({ frames := 1, cells := 0, slots := 0, locals := 12 }) (va_Pc [.ref (ad 0), .int a1, .int 1] (wpreS adK adV dC dI cy sz w0)) (va_Qi (Pz_X12_streetOf_10 ad cy B qr s1 a1 w0) (fun u : va_W => wpost dC dI cy (va_A w0 sz) u) (va_A w0 sz)) 0 0 (va_A w0 sz) := by
  refine Met.ofW (cc := cX12_streetOf) (maxL := 3) (ret := (some .int)) (by decide) rfl ?_
  intro p e s m args below meth c s₁ Bk hml hv
  obtain ⟨rfl, ⟨hsz, hP, hK, hD0⟩, hE, hSR⟩ := hv
  have hx := Bk.exec
  have hb := Bk.bytes
  have hr := Bk.returns
  have hlocks := Bk.notSynchronized
  have hC : CallFix p m c cX12_streetOf 3 s _ (wu yX12_streetOf cX12_streetOf 3 (some .int)) RX12 := ⟨hx, hb, hml, findClass_of_methodNamed Bk.named, atoms_spec (ws := (wu yX12_streetOf cX12_streetOf 3 (some .int))) Bk.pre⟩
  subst hsz
  have hD := hD0.self (sz := s.heap.size)
  generalize hAe : va_A w0 s.heap.size = A at hD hE ⊢
  have hA : ∀ q : Nat, s.heap.size ≤ q → A q := fun q h => by rw [← hAe]; exact Or.inr h
  have hw : Wd dC dI A s.heap s.heap [] w0 := ⟨hP, hD, va_S.rf⟩
  have hF : FE ksM ([] : List (Nat × Nat × Nat)) w0 w0 := FE.rf
  have hl := lv_entry ([.ref (ad 0), .int a1, .int 1]) (n := 3) (Nat.le_of_ble_eq_true rfl)
  rw [lg_entry_eq]
  generalize (lg_sl ([.ref (ad 0), .int a1, .int 1]) ++ List.replicate (3 - (lg_sl ([.ref (ad 0), .int a1, .int 1])).length) Slot.unset).toArray = ls at hl ⊢
  have hl : lv_has ls 3 [(0, .ref (ad 0)), (1, .int a1), (2, .int 1)] := hl
  generalize hloc : ([] : List Loc) = locs at hw ⊢
  have hinX12 : ∀ w ∈ u_ws RX12 TX12 42, w ∈ (wu yX12_streetOf cX12_streetOf 3 (some .int)) := fun _ h => List.mem_cons_of_mem _ (up_71 h)
  have hM : TT (fun n => m_X12_streetOf n 0 a1.toInt 1 (sI w0)) (fun n => m_X12_streetOf n 0 a1.toInt 1 (sI w0)) := TT.rf
  refine lv_aload_n hx hb dX12_streetOf_0 rfl (lv_at hl 0 rfl) ?_
  refine tk_getA hC hK hw hT hinX12 kM_at0 (by decide) rfl 26 (by decide) (List.mem_cons_of_mem _ uw_7_1) rfl rfl dX12_streetOf_1 ?_
  refine lv_bipush (v := 10) hx hb dX12_streetOf_4 (by decide) ?_
  refine lv_bipush (v := 10) hx hb dX12_streetOf_6 (by decide) ?_
  refine lv_iload_n hx hb dX12_streetOf_8 rfl (lv_at hl 1 rfl) ?_
  refine lv_imul hx hb dX12_streetOf_9 ?_
  refine lv_topi (fun x1 ex1 => ?_)
  have ezx1 := ex1
  have ex1 : x1.toInt = (10 : Int) * a1.toInt := by rw [ex1]; exact wk_mul (show (-2147483648) ≤ (10 : Int) * a1.toInt by omega) (show (10 : Int) * a1.toInt ≤ 2147483647 by omega)
  replace hM := hM.lt ex1.symm
  refine lv_iadd hx hb dX12_streetOf_10 ?_
  refine lv_topi (fun x2 ex2 => ?_)
  have ezx2 := ex2
  have ex2 : x2.toInt = (10 : Int) + x1.toInt := by rw [ex2]; exact wk_add (show (-2147483648) ≤ (10 : Int) + x1.toInt by omega) (show (10 : Int) + x1.toInt ≤ 2147483647 by omega)
  replace hM := hM.lt ex2.symm
  refine lv_iload_n hx hb dX12_streetOf_11 rfl (lv_at hl 2 rfl) ?_
  refine lv_iadd hx hb dX12_streetOf_12 ?_
  refine lv_topi (fun x3 ex3 => ?_)
  have ezx3 := ex3
  have ex3 : x3.toInt = x2.toInt + (1 : Int) := by rw [ex3]; exact wk_add (show (-2147483648) ≤ x2.toInt + (1 : Int) by omega) (show x2.toInt + (1 : Int) ≤ 2147483647 by omega)
  replace hM := hM.lt ex3.symm
  refine tk_ialdR hC hK hw hT kM_at12 rfl (show 0 ≤ x3.toInt by first | with_reducible assumption | omega) (show x3.toInt < 296 by first | with_reducible assumption | omega) dX12_streetOf_13 (fun x4 c5 Ex4 => ?_)
  have hox4 := c5
  have c5 : gi w0 12 (10 * a1.toInt + 11).toNat = x4 := (congrArg (gi w0 12) (congrArg Int.toNat (show 10 * a1.toInt + 11 = x3.toInt by first | exact Int.le_antisymm (by omega) (by omega) | omega))).trans c5
  replace hM := hM.rd (sI_at hox4)
  have bx4 := tk_rgI rfl 11 10 12 0 9 (by decide +kernel) ⟨(a1.toInt - 0).toNat, by omega, show x3.toInt.toNat = 11 + 10 * (a1.toInt - 0).toNat by omega⟩ Ex4
  exact tk_iret hC hr hlocks hK ⟨rfl, hM.ret rfl, ⟨(show 0 ≤ x4.toInt by first | with_reducible assumption | omega), (show x4.toInt ≤ 9 by first | with_reducible assumption | omega), c5⟩⟩ hw dX12_streetOf_14
abbrev Pz_X12_isAt_2 (ad : Nat → Nat) (cy : Nat → ClassId) (B : Int) (qr : Nat) (s1 : Int) (a1 : Int32) (a2 : Int32) (w0 : va_W) : Int32 → va_W → Prop := fun r u => w0 = u ∧ Ev (fun n => m_X12_isAt n 0 a1.toInt a2.toInt (sI w0)) (r.toInt, sI w0) ∧ ((r = 0 ∧ (¬ mAt w0 a1.toInt a2.toInt)) ∨ (r = 1 ∧ gi u 12 (10 * a1.toInt + 10).toNat = a2 ∧ (mAt w0 a1.toInt a2.toInt)) ∨ (r = 1 ∧ gi u 12 (10 * a1.toInt + 11).toNat = a2 ∧ (mAt w0 a1.toInt a2.toInt)))
set_option maxHeartbeats 4000000 in
set_option maxRecDepth 100000 in
theorem kz_X12_isAt_2 (l : Launch) (adK adV : Nat → Nat) (dC : Nat → ClassId) (dI : Nat → Nat → Nat) (cy : Nat → ClassId) (ad : Nat → Nat) (B : Int) (hB0 : 100000 ≤ B) (hB1 : B ≤ 1073741824) (qr : Nat) (s1 : Int)  (a1 : Int32) (ra1 : 0 ≤ a1.toInt) (ta1 : a1.toInt ≤ 11) (a2 : Int32) (ra2 : 0 ≤ a2.toInt) (ta2 : a2.toInt ≤ 9) (w0 : va_W) (sz : Nat) (hT : TW ksM ad cy B qr 12 w0)  : Met l yX12_isAt (wu yX12_isAt cX12_isAt 3 (some .boolean)) ({ frames := 2, cells := 0, slots := 0, locals := 34 }) (va_Pc [.ref (ad 0), .int a1, .int a2] (wpreS adK adV dC dI cy sz w0)) (va_Qi (Pz_X12_isAt_2 ad cy B qr s1 a1 a2 w0) (fun u : va_W => wpost dC dI cy (va_A w0 sz) u) (va_A w0 sz)) 0 0 (va_A w0 sz) := by
  refine Met.ofW (cc := cX12_isAt) (maxL := 3) (ret := (some .boolean)) (by decide) rfl ?_
  intro p e s m args below meth c s₁ Bk hml hv
  obtain ⟨rfl, ⟨hsz, hP, hK, hD0⟩, hE, hSR⟩ := hv
  have hx := Bk.exec
  have hb := Bk.bytes
  have hr := Bk.returns
  have hlocks := Bk.notSynchronized
  have hC : CallFix p m c cX12_isAt 3 s _ (wu yX12_isAt cX12_isAt 3 (some .boolean)) RX12 := ⟨hx, hb, hml, findClass_of_methodNamed Bk.named, atoms_spec (ws := (wu yX12_isAt cX12_isAt 3 (some .boolean))) Bk.pre⟩
  subst hsz
  have hD := hD0.self (sz := s.heap.size)
  generalize hAe : va_A w0 s.heap.size = A at hD hE ⊢
  have hA : ∀ q : Nat, s.heap.size ≤ q → A q := fun q h => by rw [← hAe]; exact Or.inr h
  have hw : Wd dC dI A s.heap s.heap [] w0 := ⟨hP, hD, va_S.rf⟩
  have hF : FE ksM ([] : List (Nat × Nat × Nat)) w0 w0 := FE.rf
  have hl := lv_entry ([.ref (ad 0), .int a1, .int a2]) (n := 3) (Nat.le_of_ble_eq_true rfl)
  rw [lg_entry_eq]
  generalize (lg_sl ([.ref (ad 0), .int a1, .int a2]) ++ List.replicate (3 - (lg_sl ([.ref (ad 0), .int a1, .int a2])).length) Slot.unset).toArray = ls at hl ⊢
  have hl : lv_has ls 3 [(0, .ref (ad 0)), (1, .int a1), (2, .int a2)] := hl
  generalize hloc : ([] : List Loc) = locs at hw ⊢
  have hM : TT (fun n => m_X12_isAt n 0 a1.toInt a2.toInt (sI w0)) (fun n => m_X12_isAt n 0 a1.toInt a2.toInt (sI w0)) := TT.rf
  refine lv_aload_n hx hb dX12_isAt_0 rfl (lv_at hl 0 rfl) ?_
  refine lv_iload_n hx hb dX12_isAt_1 rfl (lv_at hl 1 rfl) ?_
  refine lv_iconst (v := 0) hx hb dX12_isAt_2 (by decide) ?_
  refine tk_Vi hC hK hw hT hA hE hSR kM_at0 (by decide) rfl (kz_X12_streetOf_9 l adK adV dC dI cy ad B hB0 (Int.le_trans hB1 (by decide)) qr s1   a1 (show 0 ≤ a1.toInt from ra1) (show a1.toInt ≤ 11 from ta1) w0 s.heap.size hT ) (cwV 2 hC.2.2.2.2 uV_RX12_300 rfl rfl rfl (by decide +kernel) ⟨Nat.le_of_ble_eq_true rfl, Nat.le_of_ble_eq_true rfl⟩) rfl hl.1 rfl (Nat.le_of_ble_eq_true rfl) dX12_isAt_3 (fun r1 w3 H locs hp2 hw => ?_)
  obtain ⟨rfl, hv9, hg8⟩ := hp2
  obtain ⟨g5, g6, c7⟩ := hg8
  replace hM := hM.call hv9 rfl
  refine lv_iload_n hx hb dX12_isAt_6 rfl (lv_at hl 2 rfl) ?_
  refine lv_icmp_eq (tgt := 20) hx hb dX12_isAt_7 (by decide) (fun c10 => ?_) (fun c10 => ?_)
  · have c10 : r1.toInt = a2.toInt := wk_eq.mp c10
    replace hM := hM.pos c10
    refine lv_iconst (v := 1) hx hb dX12_isAt_20 (by decide) ?_
    refine lv_goto (tgt := 25) hx hb dX12_isAt_21 (by decide) ?_
    exact tk_zret hC hr rfl hlocks hK ⟨rfl, hM.ret (by decide), (Or.inr (Or.inl ⟨rfl, (c7.trans (wk_eq.mpr (show r1.toInt = a2.toInt by first | exact Int.le_antisymm (by omega) (by omega) | omega))), (by unfold mAt; simp only [c7]; omega)⟩))⟩ hw dX12_isAt_25
  · have c10 : ¬ r1.toInt = a2.toInt := wk_eqF c10
    replace hM := hM.neg c10
    refine lv_aload_n hx hb dX12_isAt_10 rfl (lv_at hl 0 rfl) ?_
    refine lv_iload_n hx hb dX12_isAt_11 rfl (lv_at hl 1 rfl) ?_
    refine lv_iconst (v := 1) hx hb dX12_isAt_12 (by decide) ?_
    refine tk_Vi hC hK hw hT hA hE hSR kM_at0 (by decide) rfl (kz_X12_streetOf_10 l adK adV dC dI cy ad B hB0 (Int.le_trans hB1 (by decide)) qr s1   a1 (show 0 ≤ a1.toInt from ra1) (show a1.toInt ≤ 11 from ta1) w0 H.size hT ) (cwV 2 hC.2.2.2.2 uV_RX12_300 rfl rfl rfl (by decide +kernel) ⟨Nat.le_of_ble_eq_true rfl, Nat.le_of_ble_eq_true rfl⟩) rfl hl.1 rfl (Nat.le_of_ble_eq_true rfl) dX12_isAt_13 (fun r11 w13 H locs hp12 hw => ?_)
    obtain ⟨rfl, hv19, hg18⟩ := hp12
    obtain ⟨g15, g16, c17⟩ := hg18
    replace hM := hM.call hv19 rfl
    refine lv_iload_n hx hb dX12_isAt_16 rfl (lv_at hl 2 rfl) ?_
    refine lv_icmp_ne (tgt := 24) hx hb dX12_isAt_17 (by decide) (fun c20 => ?_) (fun c20 => ?_)
    · have c20 : ¬ r11.toInt = a2.toInt := wk_eqF c20
      replace hM := hM.pos c20
      refine lv_iconst (v := 0) hx hb dX12_isAt_24 (by decide) ?_
      exact tk_zret hC hr rfl hlocks hK ⟨rfl, hM.ret (by decide), (Or.inl ⟨rfl, (by unfold mAt; simp only [c7, c17]; omega)⟩)⟩ hw dX12_isAt_25
    · have c20 : r11.toInt = a2.toInt := wk_eq.mp c20
      replace hM := hM.neg (fun q => q c20)
      refine lv_iconst (v := 1) hx hb dX12_isAt_20 (by decide) ?_
      refine lv_goto (tgt := 25) hx hb dX12_isAt_21 (by decide) ?_
      exact tk_zret hC hr rfl hlocks hK ⟨rfl, hM.ret (by decide), (Or.inr (Or.inr ⟨rfl, (c17.trans (wk_eq.mpr (show r11.toInt = a2.toInt by first | exact Int.le_antisymm (by omega) (by omega) | omega))), (by unfold mAt; simp only [c7, c17]; omega)⟩))⟩ hw dX12_isAt_25
abbrev Pz_X12_isOf_4 (ad : Nat → Nat) (cy : Nat → ClassId) (B : Int) (qr : Nat) (s1 : Int) (a0 : Int32) (w0 : va_W) : Int32 → va_W → Prop := fun r u => w0 = u ∧ Ev (fun n => m_X12_isOf n a0.toInt 1 (sI w0)) (r.toInt, sI w0) ∧ ((r = 0 ∧ (¬ mOf a0 (1 : Int32))) ∨ (r = 1 ∧ (mOf a0 (1 : Int32))))
set_option maxHeartbeats 4000000 in
set_option maxRecDepth 100000 in
theorem kz_X12_isOf_4 (l : Launch) (adK adV : Nat → Nat) (dC : Nat → ClassId) (dI : Nat → Nat → Nat) (cy : Nat → ClassId) (ad : Nat → Nat) (B : Int) (hB0 : 100000 ≤ B) (hB1 : B ≤ 1073741824) (qr : Nat) (s1 : Int)  (a0 : Int32) (w0 : va_W) (sz : Nat) (hT : TW ksM ad cy B qr 12 w0)  : Met l yX12_isOf (wu yX12_isOf cX12_isOf 2 (some .boolean)) ({ frames := 1, cells := 0, slots := 0, locals := 12 }) (va_Pc [.int a0, .int 1] (wpreS adK adV dC dI cy sz w0)) (va_Qi (Pz_X12_isOf_4 ad cy B qr s1 a0 w0) (fun u : va_W => wpost dC dI cy (va_A w0 sz) u) (va_A w0 sz)) 0 0 (va_A w0 sz) := by
  refine Met.ofW (cc := cX12_isOf) (maxL := 2) (ret := (some .boolean)) (by decide) rfl ?_
  intro p e s m args below meth c s₁ Bk hml hv
  obtain ⟨rfl, ⟨hsz, hP, hK, hD0⟩, hE, hSR⟩ := hv
  have hx := Bk.exec
  have hb := Bk.bytes
  have hr := Bk.returns
  have hlocks := Bk.notSynchronized
  have hC : CallFix p m c cX12_isOf 2 s _ (wu yX12_isOf cX12_isOf 2 (some .boolean)) RX12 := ⟨hx, hb, hml, findClass_of_methodNamed Bk.named, atoms_spec (ws := (wu yX12_isOf cX12_isOf 2 (some .boolean))) Bk.pre⟩
  subst hsz
  have hD := hD0.self (sz := s.heap.size)
  generalize hAe : va_A w0 s.heap.size = A at hD hE ⊢
  have hA : ∀ q : Nat, s.heap.size ≤ q → A q := fun q h => by rw [← hAe]; exact Or.inr h
  have hw : Wd dC dI A s.heap s.heap [] w0 := ⟨hP, hD, va_S.rf⟩
  have hF : FE ksM ([] : List (Nat × Nat × Nat)) w0 w0 := FE.rf
  have hl := lv_entry ([.int a0, .int 1]) (n := 2) (Nat.le_of_ble_eq_true rfl)
  rw [lg_entry_eq]
  generalize (lg_sl ([.int a0, .int 1]) ++ List.replicate (2 - (lg_sl ([.int a0, .int 1])).length) Slot.unset).toArray = ls at hl ⊢
  have hl : lv_has ls 2 [(0, .int a0), (1, .int 1)] := hl
  generalize hloc : ([] : List Loc) = locs at hw ⊢
  have hM : TT (fun n => m_X12_isOf n a0.toInt 1 (sI w0)) (fun n => m_X12_isOf n a0.toInt 1 (sI w0)) := TT.rf
  refine lv_iload_n hx hb dX12_isOf_0 rfl (lv_at hl 0 rfl) ?_
  refine lv_iload_n hx hb dX12_isOf_1 rfl (lv_at hl 1 rfl) ?_
  refine lv_ishr hx hb dX12_isOf_2 ?_
  refine lv_topi (fun x1 ex1 => ?_)
  have ezx1 := ex1
  replace hM := hM.lt (o32_e (f := fun x y => x >>> (y &&& 31)) ezx1 rfl (by decide))
  refine lv_iconst (v := 1) hx hb dX12_isOf_3 (by decide) ?_
  refine lv_iand hx hb dX12_isOf_4 ?_
  refine lv_topi (fun x2 ex2 => ?_)
  have ezx2 := ex2
  have bx2 : 0 ≤ x2.toInt ∧ x2.toInt ≤ (1 : Int) := by rw [ex2]; exact wk_and (by decide)
  replace hM := hM.lt (o32_e (f := fun x y => x &&& y) ezx2 rfl (by decide))
  refine lv_iconst (v := 1) hx hb dX12_isOf_5 (by decide) ?_
  refine lv_icmp_ne (tgt := 13) hx hb dX12_isOf_6 (by decide) (fun c3 => ?_) (fun c3 => ?_)
  · have c3 : ¬ x2.toInt = (1 : Int) := wk_eqF c3
    replace hM := hM.pos c3
    refine lv_iconst (v := 0) hx hb dX12_isOf_13 (by decide) ?_
    exact tk_zret hC hr rfl hlocks hK ⟨rfl, hM.ret (by decide), (Or.inl ⟨rfl, (by unfold mOf; rw [← ex1, ← ex2]; omega)⟩)⟩ hw dX12_isOf_14
  · have c3 : x2.toInt = (1 : Int) := wk_eq.mp c3
    replace hM := hM.neg (fun q => q c3)
    refine lv_iconst (v := 1) hx hb dX12_isOf_9 (by decide) ?_
    refine lv_goto (tgt := 14) hx hb dX12_isOf_10 (by decide) ?_
    exact tk_zret hC hr rfl hlocks hK ⟨rfl, hM.ret (by decide), (Or.inr ⟨rfl, (by unfold mOf; rw [← ex1, ← ex2]; omega)⟩)⟩ hw dX12_isOf_14
abbrev Pz_X12_isOf_5 (ad : Nat → Nat) (cy : Nat → ClassId) (B : Int) (qr : Nat) (s1 : Int) (a0 : Int32) (w0 : va_W) : Int32 → va_W → Prop := fun r u => w0 = u ∧ Ev (fun n => m_X12_isOf n a0.toInt 0 (sI w0)) (r.toInt, sI w0) ∧ ((r = 0 ∧ (¬ mOf a0 (0 : Int32))) ∨ (r = 1 ∧ (mOf a0 (0 : Int32))))
set_option maxHeartbeats 4000000 in
set_option maxRecDepth 100000 in
theorem kz_X12_isOf_5 (l : Launch) (adK adV : Nat → Nat) (dC : Nat → ClassId) (dI : Nat → Nat → Nat) (cy : Nat → ClassId) (ad : Nat → Nat) (B : Int) (hB0 : 100000 ≤ B) (hB1 : B ≤ 1073741824) (qr : Nat) (s1 : Int)  (a0 : Int32) (w0 : va_W) (sz : Nat) (hT : TW ksM ad cy B qr 12 w0)  : Met l yX12_isOf (wu yX12_isOf cX12_isOf 2 (some .boolean)) ({ frames := 1, cells := 0, slots := 0, locals := 12 }) (va_Pc [.int a0, .int 0] (wpreS adK adV dC dI cy sz w0)) (va_Qi (Pz_X12_isOf_5 ad cy B qr s1 a0 w0) (fun u : va_W => wpost dC dI cy (va_A w0 sz) u) (va_A w0 sz)) 0 0 (va_A w0 sz) := by
  refine Met.ofW (cc := cX12_isOf) (maxL := 2) (ret := (some .boolean)) (by decide) rfl ?_
  intro p e s m args below meth c s₁ Bk hml hv
  obtain ⟨rfl, ⟨hsz, hP, hK, hD0⟩, hE, hSR⟩ := hv
  have hx := Bk.exec
  have hb := Bk.bytes
  have hr := Bk.returns
  have hlocks := Bk.notSynchronized
  have hC : CallFix p m c cX12_isOf 2 s _ (wu yX12_isOf cX12_isOf 2 (some .boolean)) RX12 := ⟨hx, hb, hml, findClass_of_methodNamed Bk.named, atoms_spec (ws := (wu yX12_isOf cX12_isOf 2 (some .boolean))) Bk.pre⟩
  subst hsz
  have hD := hD0.self (sz := s.heap.size)
  generalize hAe : va_A w0 s.heap.size = A at hD hE ⊢
  have hA : ∀ q : Nat, s.heap.size ≤ q → A q := fun q h => by rw [← hAe]; exact Or.inr h
  have hw : Wd dC dI A s.heap s.heap [] w0 := ⟨hP, hD, va_S.rf⟩
  have hF : FE ksM ([] : List (Nat × Nat × Nat)) w0 w0 := FE.rf
  have hl := lv_entry ([.int a0, .int 0]) (n := 2) (Nat.le_of_ble_eq_true rfl)
  rw [lg_entry_eq]
  generalize (lg_sl ([.int a0, .int 0]) ++ List.replicate (2 - (lg_sl ([.int a0, .int 0])).length) Slot.unset).toArray = ls at hl ⊢
  have hl : lv_has ls 2 [(0, .int a0), (1, .int 0)] := hl
  generalize hloc : ([] : List Loc) = locs at hw ⊢
  have hM : TT (fun n => m_X12_isOf n a0.toInt 0 (sI w0)) (fun n => m_X12_isOf n a0.toInt 0 (sI w0)) := TT.rf
  refine lv_iload_n hx hb dX12_isOf_0 rfl (lv_at hl 0 rfl) ?_
  refine lv_iload_n hx hb dX12_isOf_1 rfl (lv_at hl 1 rfl) ?_
  refine lv_ishr hx hb dX12_isOf_2 ?_
  refine lv_topi (fun x1 ex1 => ?_)
  have ezx1 := ex1
  replace hM := hM.lt (o32_e (f := fun x y => x >>> (y &&& 31)) ezx1 rfl (by decide))
  refine lv_iconst (v := 1) hx hb dX12_isOf_3 (by decide) ?_
  refine lv_iand hx hb dX12_isOf_4 ?_
  refine lv_topi (fun x2 ex2 => ?_)
  have ezx2 := ex2
  have bx2 : 0 ≤ x2.toInt ∧ x2.toInt ≤ (1 : Int) := by rw [ex2]; exact wk_and (by decide)
  replace hM := hM.lt (o32_e (f := fun x y => x &&& y) ezx2 rfl (by decide))
  refine lv_iconst (v := 1) hx hb dX12_isOf_5 (by decide) ?_
  refine lv_icmp_ne (tgt := 13) hx hb dX12_isOf_6 (by decide) (fun c3 => ?_) (fun c3 => ?_)
  · have c3 : ¬ x2.toInt = (1 : Int) := wk_eqF c3
    replace hM := hM.pos c3
    refine lv_iconst (v := 0) hx hb dX12_isOf_13 (by decide) ?_
    exact tk_zret hC hr rfl hlocks hK ⟨rfl, hM.ret (by decide), (Or.inl ⟨rfl, (by unfold mOf; rw [← ex1, ← ex2]; omega)⟩)⟩ hw dX12_isOf_14
  · have c3 : x2.toInt = (1 : Int) := wk_eq.mp c3
    replace hM := hM.neg (fun q => q c3)
    refine lv_iconst (v := 1) hx hb dX12_isOf_9 (by decide) ?_
    refine lv_goto (tgt := 14) hx hb dX12_isOf_10 (by decide) ?_
    exact tk_zret hC hr rfl hlocks hK ⟨rfl, hM.ret (by decide), (Or.inr ⟨rfl, (by unfold mOf; rw [← ex1, ← ex2]; omega)⟩)⟩ hw dX12_isOf_14
abbrev Pz_X12_hasSign_2 (ad : Nat → Nat) (cy : Nat → ClassId) (B : Int) (qr : Nat) (s1 : Int) (a1 : Int32) (a2 : Int32) (a3 : Int32) (w0 : va_W) : Int32 → va_W → Prop := fun r u => w0 = u ∧ Ev (fun n => m_X12_hasSign n 0 a1.toInt a2.toInt a3.toInt (sI w0)) (r.toInt, sI w0) ∧ ((r = 0 ∧ (¬ mSign w0 a1 a2.toInt a3.toInt)) ∨ (r = 0 ∧ gi u 12 (10 * a2.toInt + 10).toNat = a3 ∧ (¬ mSign w0 a1 a2.toInt a3.toInt)) ∨ (r = 1 ∧ (mSign w0 a1 a2.toInt a3.toInt)) ∨ (r = 1 ∧ gi u 12 (10 * a2.toInt + 10).toNat = a3 ∧ (mSign w0 a1 a2.toInt a3.toInt)))
set_option maxHeartbeats 4000000 in
set_option maxRecDepth 100000 in
theorem kz_X12_hasSign_2 (l : Launch) (adK adV : Nat → Nat) (dC : Nat → ClassId) (dI : Nat → Nat → Nat) (cy : Nat → ClassId) (ad : Nat → Nat) (B : Int) (hB0 : 100000 ≤ B) (hB1 : B ≤ 1073741824) (qr : Nat) (s1 : Int)  (a1 : Int32) (a2 : Int32) (ra2 : 0 ≤ a2.toInt) (ta2 : a2.toInt ≤ 11) (a3 : Int32) (ra3 : 0 ≤ a3.toInt) (ta3 : a3.toInt ≤ 9) (w0 : va_W) (sz : Nat) (hT : TW ksM ad cy B qr 12 w0)  : Met l yX12_hasSign (wu yX12_hasSign cX12_hasSign 4 (some .boolean)) ({ frames := 2, cells := 0, slots := 0, locals := 34 }) (va_Pc [.ref (ad 0), .int a1, .int a2, .int a3] (wpreS adK adV dC dI cy sz w0)) (va_Qi (Pz_X12_hasSign_2 ad cy B qr s1 a1 a2 a3 w0) (fun u : va_W => wpost dC dI cy (va_A w0 sz) u) (va_A w0 sz)) 0 0 (va_A w0 sz) := by
  refine Met.ofW (cc := cX12_hasSign) (maxL := 4) (ret := (some .boolean)) (by decide) rfl ?_
  intro p e s m args below meth c s₁ Bk hml hv
  obtain ⟨rfl, ⟨hsz, hP, hK, hD0⟩, hE, hSR⟩ := hv
  have hx := Bk.exec
  have hb := Bk.bytes
  have hr := Bk.returns
  have hlocks := Bk.notSynchronized
  have hC : CallFix p m c cX12_hasSign 4 s _ (wu yX12_hasSign cX12_hasSign 4 (some .boolean)) RX12 := ⟨hx, hb, hml, findClass_of_methodNamed Bk.named, atoms_spec (ws := (wu yX12_hasSign cX12_hasSign 4 (some .boolean))) Bk.pre⟩
  subst hsz
  have hD := hD0.self (sz := s.heap.size)
  generalize hAe : va_A w0 s.heap.size = A at hD hE ⊢
  have hA : ∀ q : Nat, s.heap.size ≤ q → A q := fun q h => by rw [← hAe]; exact Or.inr h
  have hw : Wd dC dI A s.heap s.heap [] w0 := ⟨hP, hD, va_S.rf⟩
  have hF : FE ksM ([] : List (Nat × Nat × Nat)) w0 w0 := FE.rf
  have hl := lv_entry ([.ref (ad 0), .int a1, .int a2, .int a3]) (n := 4) (Nat.le_of_ble_eq_true rfl)
  rw [lg_entry_eq]
  generalize (lg_sl ([.ref (ad 0), .int a1, .int a2, .int a3]) ++ List.replicate (4 - (lg_sl ([.ref (ad 0), .int a1, .int a2, .int a3])).length) Slot.unset).toArray = ls at hl ⊢
  have hl : lv_has ls 4 [(0, .ref (ad 0)), (1, .int a1), (2, .int a2), (3, .int a3)] := hl
  generalize hloc : ([] : List Loc) = locs at hw ⊢
  have hM : TT (fun n => m_X12_hasSign n 0 a1.toInt a2.toInt a3.toInt (sI w0)) (fun n => m_X12_hasSign n 0 a1.toInt a2.toInt a3.toInt (sI w0)) := TT.rf
  refine lv_iload_n hx hb dX12_hasSign_0 rfl (lv_at hl 1 rfl) ?_
  refine lv_aload_n hx hb dX12_hasSign_1 rfl (lv_at hl 0 rfl) ?_
  refine lv_iload_n hx hb dX12_hasSign_2 rfl (lv_at hl 2 rfl) ?_
  refine lv_iconst (v := 0) hx hb dX12_hasSign_3 (by decide) ?_
  refine tk_Vi hC hK hw hT hA hE hSR kM_at0 (by decide) rfl (kz_X12_streetOf_9 l adK adV dC dI cy ad B hB0 (Int.le_trans hB1 (by decide)) qr s1   a2 (show 0 ≤ a2.toInt from ra2) (show a2.toInt ≤ 11 from ta2) w0 s.heap.size hT ) (cwV 2 hC.2.2.2.2 uV_RX12_300 rfl rfl rfl (by decide +kernel) ⟨Nat.le_of_ble_eq_true rfl, Nat.le_of_ble_eq_true rfl⟩) rfl hl.1 rfl (Nat.le_of_ble_eq_true rfl) dX12_hasSign_4 (fun r1 w3 H locs hp2 hw => ?_)
  obtain ⟨rfl, hv9, hg8⟩ := hp2
  obtain ⟨g5, g6, c7⟩ := hg8
  replace hM := hM.call hv9 rfl
  refine lv_iload_n hx hb dX12_hasSign_7 rfl (lv_at hl 3 rfl) ?_
  refine lv_icmp_ne (tgt := 15) hx hb dX12_hasSign_8 (by decide) (fun c10 => ?_) (fun c10 => ?_)
  · have c10 : ¬ r1.toInt = a3.toInt := wk_eqF c10
    replace hM := hM.pos c10
    refine lv_iconst (v := 1) hx hb dX12_hasSign_15 (by decide) ?_
    refine tk_Si hC hK hw hT hA hE hSR (kz_X12_isOf_4 l adK adV dC dI cy ad B hB0 (Int.le_trans hB1 (by decide)) qr s1   a1 w0 H.size hT ) (va_cwS 2 hC.2.2.2.2 uS_RX12_304 rfl rfl rfl (by decide +kernel) ⟨Nat.le_of_ble_eq_true rfl, Nat.le_of_ble_eq_true rfl⟩) rfl hl.1 rfl (Nat.le_of_ble_eq_true rfl) dX12_hasSign_16 (fun r11 w13 H locs hp12 hw => ?_)
    obtain ⟨rfl, hv18, hg17⟩ := hp12
    rcases hg17 with ⟨rfl, hq15⟩ | ⟨rfl, hq16⟩
    · replace hM := hM.call (r' := 0) hv18 (by decide)
      exact tk_zret hC hr rfl hlocks hK ⟨rfl, hM.ret (by decide), (Or.inl ⟨rfl, (by unfold mSign; simp only [c7]; first | exact Or.inl ⟨by omega, by assumption⟩ | exact Or.inr ⟨by omega, by assumption⟩ | (rintro (⟨q1, q2⟩ | ⟨q1, q2⟩) <;> first | omega | contradiction))⟩)⟩ hw dX12_hasSign_19
    · replace hM := hM.call (r' := 1) hv18 (by decide)
      exact tk_zret hC hr rfl hlocks hK ⟨rfl, hM.ret (by decide), (Or.inr (Or.inr (Or.inl ⟨rfl, (by unfold mSign; simp only [c7]; first | exact Or.inl ⟨by omega, by assumption⟩ | exact Or.inr ⟨by omega, by assumption⟩ | (rintro (⟨q1, q2⟩ | ⟨q1, q2⟩) <;> first | omega | contradiction))⟩)))⟩ hw dX12_hasSign_19
  · have c10 : r1.toInt = a3.toInt := wk_eq.mp c10
    replace hM := hM.neg (fun q => q c10)
    refine lv_iconst (v := 0) hx hb dX12_hasSign_11 (by decide) ?_
    refine lv_goto (tgt := 16) hx hb dX12_hasSign_12 (by decide) ?_
    refine tk_Si hC hK hw hT hA hE hSR (kz_X12_isOf_5 l adK adV dC dI cy ad B hB0 (Int.le_trans hB1 (by decide)) qr s1   a1 w0 H.size hT ) (va_cwS 2 hC.2.2.2.2 uS_RX12_304 rfl rfl rfl (by decide +kernel) ⟨Nat.le_of_ble_eq_true rfl, Nat.le_of_ble_eq_true rfl⟩) rfl hl.1 rfl (Nat.le_of_ble_eq_true rfl) dX12_hasSign_16 (fun r19 w21 H locs hp20 hw => ?_)
    obtain ⟨rfl, hv26, hg25⟩ := hp20
    rcases hg25 with ⟨rfl, hq23⟩ | ⟨rfl, hq24⟩
    · replace hM := hM.call (r' := 0) hv26 (by decide)
      exact tk_zret hC hr rfl hlocks hK ⟨rfl, hM.ret (by decide), (Or.inr (Or.inl ⟨rfl, (c7.trans (wk_eq.mpr (show r1.toInt = a3.toInt by first | exact Int.le_antisymm (by omega) (by omega) | omega))), (by unfold mSign; simp only [c7]; first | exact Or.inl ⟨by omega, by assumption⟩ | exact Or.inr ⟨by omega, by assumption⟩ | (rintro (⟨q1, q2⟩ | ⟨q1, q2⟩) <;> first | omega | contradiction))⟩))⟩ hw dX12_hasSign_19
    · replace hM := hM.call (r' := 1) hv26 (by decide)
      exact tk_zret hC hr rfl hlocks hK ⟨rfl, hM.ret (by decide), (Or.inr (Or.inr (Or.inr ⟨rfl, (c7.trans (wk_eq.mpr (show r1.toInt = a3.toInt by first | exact Int.le_antisymm (by omega) (by omega) | omega))), (by unfold mSign; simp only [c7]; first | exact Or.inl ⟨by omega, by assumption⟩ | exact Or.inr ⟨by omega, by assumption⟩ | (rintro (⟨q1, q2⟩ | ⟨q1, q2⟩) <;> first | omega | contradiction))⟩)))⟩ hw dX12_hasSign_19
abbrev Pz_X12_otherOf_2 (ad : Nat → Nat) (cy : Nat → ClassId) (B : Int) (qr : Nat) (s1 : Int) (a1 : Int32) (a2 : Int32) (w0 : va_W) : Int32 → va_W → Prop := fun r u => w0 = u ∧ Ev (fun n => m_X12_otherOf n 0 a1.toInt a2.toInt (sI w0)) (r.toInt, sI w0) ∧ ((0 ≤ r.toInt ∧ r.toInt ≤ 9) ∨ (0 ≤ r.toInt ∧ r.toInt ≤ 9 ∧ gi u 12 (10 * a1.toInt + 10).toNat = a2))
set_option maxHeartbeats 4000000 in
set_option maxRecDepth 100000 in
theorem kz_X12_otherOf_2 (l : Launch) (adK adV : Nat → Nat) (dC : Nat → ClassId) (dI : Nat → Nat → Nat) (cy : Nat → ClassId) (ad : Nat → Nat) (B : Int) (hB0 : 100000 ≤ B) (hB1 : B ≤ 1073741824) (qr : Nat) (s1 : Int)  (a1 : Int32) (ra1 : 0 ≤ a1.toInt) (ta1 : a1.toInt ≤ 11) (a2 : Int32) (ra2 : 0 ≤ a2.toInt) (ta2 : a2.toInt ≤ 9) (w0 : va_W) (sz : Nat) (hT : TW ksM ad cy B qr 12 w0)  : Met l yX12_otherOf (wu yX12_otherOf cX12_otherOf 3 (some .int)) ({ frames := 2, cells := 0, slots := 0, locals := 34 }) (va_Pc [.ref (ad 0), .int a1, .int a2] (wpreS adK adV dC dI cy sz w0)) (va_Qi (Pz_X12_otherOf_2 ad cy B qr s1 a1 a2 w0) (fun u : va_W => wpost dC dI cy (va_A w0 sz) u) (va_A w0 sz)) 0 0 (va_A w0 sz) := by
  refine Met.ofW (cc := cX12_otherOf) (maxL := 3) (ret := (some .int)) (by decide) rfl ?_
  intro p e s m args below meth c s₁ Bk hml hv
  obtain ⟨rfl, ⟨hsz, hP, hK, hD0⟩, hE, hSR⟩ := hv
  have hx := Bk.exec
  have hb := Bk.bytes
  have hr := Bk.returns
  have hlocks := Bk.notSynchronized
  have hC : CallFix p m c cX12_otherOf 3 s _ (wu yX12_otherOf cX12_otherOf 3 (some .int)) RX12 := ⟨hx, hb, hml, findClass_of_methodNamed Bk.named, atoms_spec (ws := (wu yX12_otherOf cX12_otherOf 3 (some .int))) Bk.pre⟩
  subst hsz
  have hD := hD0.self (sz := s.heap.size)
  generalize hAe : va_A w0 s.heap.size = A at hD hE ⊢
  have hA : ∀ q : Nat, s.heap.size ≤ q → A q := fun q h => by rw [← hAe]; exact Or.inr h
  have hw : Wd dC dI A s.heap s.heap [] w0 := ⟨hP, hD, va_S.rf⟩
  have hF : FE ksM ([] : List (Nat × Nat × Nat)) w0 w0 := FE.rf
  have hl := lv_entry ([.ref (ad 0), .int a1, .int a2]) (n := 3) (Nat.le_of_ble_eq_true rfl)
  rw [lg_entry_eq]
  generalize (lg_sl ([.ref (ad 0), .int a1, .int a2]) ++ List.replicate (3 - (lg_sl ([.ref (ad 0), .int a1, .int a2])).length) Slot.unset).toArray = ls at hl ⊢
  have hl : lv_has ls 3 [(0, .ref (ad 0)), (1, .int a1), (2, .int a2)] := hl
  generalize hloc : ([] : List Loc) = locs at hw ⊢
  have hM : TT (fun n => m_X12_otherOf n 0 a1.toInt a2.toInt (sI w0)) (fun n => m_X12_otherOf n 0 a1.toInt a2.toInt (sI w0)) := TT.rf
  refine lv_aload_n hx hb dX12_otherOf_0 rfl (lv_at hl 0 rfl) ?_
  refine lv_iload_n hx hb dX12_otherOf_1 rfl (lv_at hl 1 rfl) ?_
  refine lv_iconst (v := 0) hx hb dX12_otherOf_2 (by decide) ?_
  refine tk_Vi hC hK hw hT hA hE hSR kM_at0 (by decide) rfl (kz_X12_streetOf_9 l adK adV dC dI cy ad B hB0 (Int.le_trans hB1 (by decide)) qr s1   a1 (show 0 ≤ a1.toInt from ra1) (show a1.toInt ≤ 11 from ta1) w0 s.heap.size hT ) (cwV 2 hC.2.2.2.2 uV_RX12_300 rfl rfl rfl (by decide +kernel) ⟨Nat.le_of_ble_eq_true rfl, Nat.le_of_ble_eq_true rfl⟩) rfl hl.1 rfl (Nat.le_of_ble_eq_true rfl) dX12_otherOf_3 (fun r1 w3 H locs hp2 hw => ?_)
  obtain ⟨rfl, hv9, hg8⟩ := hp2
  obtain ⟨g5, g6, c7⟩ := hg8
  replace hM := hM.call hv9 rfl
  refine lv_iload_n hx hb dX12_otherOf_6 rfl (lv_at hl 2 rfl) ?_
  refine lv_icmp_ne (tgt := 19) hx hb dX12_otherOf_7 (by decide) (fun c10 => ?_) (fun c10 => ?_)
  · have c10 : ¬ r1.toInt = a2.toInt := wk_eqF c10
    replace hM := hM.pos c10
    refine lv_aload_n hx hb dX12_otherOf_19 rfl (lv_at hl 0 rfl) ?_
    refine lv_iload_n hx hb dX12_otherOf_20 rfl (lv_at hl 1 rfl) ?_
    refine lv_iconst (v := 0) hx hb dX12_otherOf_21 (by decide) ?_
    refine tk_Vi hC hK hw hT hA hE hSR kM_at0 (by decide) rfl (kz_X12_streetOf_9 l adK adV dC dI cy ad B hB0 (Int.le_trans hB1 (by decide)) qr s1   a1 (show 0 ≤ a1.toInt from ra1) (show a1.toInt ≤ 11 from ta1) w0 H.size hT ) (cwV 2 hC.2.2.2.2 uV_RX12_300 rfl rfl rfl (by decide +kernel) ⟨Nat.le_of_ble_eq_true rfl, Nat.le_of_ble_eq_true rfl⟩) rfl hl.1 rfl (Nat.le_of_ble_eq_true rfl) dX12_otherOf_22 (fun r11 w13 H locs hp12 hw => ?_)
    obtain ⟨rfl, hv19, hg18⟩ := hp12
    obtain ⟨g15, g16, c17⟩ := hg18
    replace hM := hM.call hv19 rfl
    obtain rfl : r1 = r11 := c7.symm.trans c17
    exact tk_iret hC hr hlocks hK ⟨rfl, hM.ret rfl, (Or.inl ⟨(show 0 ≤ r1.toInt by first | with_reducible assumption | omega), (show r1.toInt ≤ 9 by first | with_reducible assumption | omega)⟩)⟩ hw dX12_otherOf_25
  · have c10 : r1.toInt = a2.toInt := wk_eq.mp c10
    replace hM := hM.neg (fun q => q c10)
    refine lv_aload_n hx hb dX12_otherOf_10 rfl (lv_at hl 0 rfl) ?_
    refine lv_iload_n hx hb dX12_otherOf_11 rfl (lv_at hl 1 rfl) ?_
    refine lv_iconst (v := 1) hx hb dX12_otherOf_12 (by decide) ?_
    refine tk_Vi hC hK hw hT hA hE hSR kM_at0 (by decide) rfl (kz_X12_streetOf_10 l adK adV dC dI cy ad B hB0 (Int.le_trans hB1 (by decide)) qr s1   a1 (show 0 ≤ a1.toInt from ra1) (show a1.toInt ≤ 11 from ta1) w0 H.size hT ) (cwV 2 hC.2.2.2.2 uV_RX12_300 rfl rfl rfl (by decide +kernel) ⟨Nat.le_of_ble_eq_true rfl, Nat.le_of_ble_eq_true rfl⟩) rfl hl.1 rfl (Nat.le_of_ble_eq_true rfl) dX12_otherOf_13 (fun r20 w22 H locs hp21 hw => ?_)
    obtain ⟨rfl, hv28, hg27⟩ := hp21
    obtain ⟨g24, g25, c26⟩ := hg27
    replace hM := hM.call hv28 rfl
    refine lv_goto (tgt := 25) hx hb dX12_otherOf_16 (by decide) ?_
    exact tk_iret hC hr hlocks hK ⟨rfl, hM.ret rfl, (Or.inr ⟨(show 0 ≤ r20.toInt by first | with_reducible assumption | omega), (show r20.toInt ≤ 9 by first | with_reducible assumption | omega), (c7.trans (wk_eq.mpr (show r1.toInt = a2.toInt by first | exact Int.le_antisymm (by omega) (by omega) | omega)))⟩)⟩ hw dX12_otherOf_25
abbrev Pz_X12_streetFrom_1 (ad : Nat → Nat) (cy : Nat → ClassId) (B : Int) (qr : Nat) (s1 : Int) (a1 : Int32) (w0 : va_W) : Int32 → va_W → Prop := fun r u => w0 = u ∧ Ev (fun n => m_X12_streetFrom n 0 a1.toInt (sI w0)) (r.toInt, sI w0) ∧ ((0 ≤ r.toInt ∧ r.toInt ≤ 11 ∧ (∃ y : Int32, gi u 12 1 = y ∧ 1 ≤ y.toInt ∧ y.toInt ≤ 12) ∧ gi u 12 (10 * r.toInt + 10).toNat = a1 ∧ gi u 12 (10 * r.toInt + 11).toNat = a1) ∨ (0 ≤ r.toInt ∧ r.toInt ≤ 11 ∧ (∃ y : Int32, gi u 12 1 = y ∧ 1 ≤ y.toInt ∧ y.toInt ≤ 12) ∧ gi u 12 (10 * r.toInt + 10).toNat = a1) ∨ (0 ≤ r.toInt ∧ r.toInt ≤ 11 ∧ (∃ y : Int32, gi u 12 1 = y ∧ 1 ≤ y.toInt ∧ y.toInt ≤ 12) ∧ gi u 12 (10 * r.toInt + 11).toNat = a1) ∨ (r = (-1)))
set_option maxHeartbeats 4000000 in
set_option maxRecDepth 100000 in
theorem kz_X12_streetFrom_1 (l : Launch) (adK adV : Nat → Nat) (dC : Nat → ClassId) (dI : Nat → Nat → Nat) (cy : Nat → ClassId) (ad : Nat → Nat) (B : Int) (hB0 : 100000 ≤ B) (hB1 : B ≤ 1073741824) (qr : Nat) (s1 : Int)  (a1 : Int32) (ra1 : 0 ≤ a1.toInt) (ta1 : a1.toInt ≤ 9) (w0 : va_W) (sz : Nat) (hT : TW ksM ad cy B qr 12 w0)  : Met l yX12_streetFrom (wu yX12_streetFrom cX12_streetFrom 3 (some .int)) ({ frames := 3, cells := 0, slots := 0, locals := 57 }) (va_Pc [.ref (ad 0), .int a1] (wpreS adK adV dC dI cy sz w0)) (va_Qi (Pz_X12_streetFrom_1 ad cy B qr s1 a1 w0) (fun u : va_W => wpost dC dI cy (va_A w0 sz) u) (va_A w0 sz)) 0 0 (va_A w0 sz) := by
  refine Met.ofW (cc := cX12_streetFrom) (maxL := 3) (ret := (some .int)) (by decide) rfl ?_
  intro p e s m args below meth c s₁ Bk hml hv
  obtain ⟨rfl, ⟨hsz, hP, hK, hD0⟩, hE, hSR⟩ := hv
  have hx := Bk.exec
  have hb := Bk.bytes
  have hr := Bk.returns
  have hlocks := Bk.notSynchronized
  have hC : CallFix p m c cX12_streetFrom 3 s _ (wu yX12_streetFrom cX12_streetFrom 3 (some .int)) RX12 := ⟨hx, hb, hml, findClass_of_methodNamed Bk.named, atoms_spec (ws := (wu yX12_streetFrom cX12_streetFrom 3 (some .int))) Bk.pre⟩
  subst hsz
  have hD := hD0.self (sz := s.heap.size)
  generalize hAe : va_A w0 s.heap.size = A at hD hE ⊢
  have hA : ∀ q : Nat, s.heap.size ≤ q → A q := fun q h => by rw [← hAe]; exact Or.inr h
  have hw : Wd dC dI A s.heap s.heap [] w0 := ⟨hP, hD, va_S.rf⟩
  have hF : FE ksM ([] : List (Nat × Nat × Nat)) w0 w0 := FE.rf
  have hl := lv_entry ([.ref (ad 0), .int a1]) (n := 3) (Nat.le_of_ble_eq_true rfl)
  rw [lg_entry_eq]
  generalize (lg_sl ([.ref (ad 0), .int a1]) ++ List.replicate (3 - (lg_sl ([.ref (ad 0), .int a1])).length) Slot.unset).toArray = ls at hl ⊢
  have hl : lv_has ls 3 [(0, .ref (ad 0)), (1, .int a1)] := hl
  generalize hloc : ([] : List Loc) = locs at hw ⊢
  have hinX12 : ∀ w ∈ u_ws RX12 TX12 42, w ∈ (wu yX12_streetFrom cX12_streetFrom 3 (some .int)) := fun _ h => List.mem_cons_of_mem _ (up_71 h)
  have J21 : ∀ (f21_14__a1_toInt_toNat : Int32) (H : Heap) (locs : List Loc) (ls : Array Slot), 0 ≤ a1.toInt → a1.toInt ≤ 9 → 0 ≤ f21_14__a1_toInt_toNat.toInt → f21_14__a1_toInt_toNat.toInt ≤ 100000000 → Wd dC dI A s.heap H locs w0 → gi w0 14 (a1.toInt).toNat = f21_14__a1_toInt_toNat → TT (fun n => m_X12_streetFrom n 0 a1.toInt (sI w0)) (fun n => b_X12_streetFrom_21 (j_X12_streetFrom 0 n) n 0 (sI w0)) → lv_has ls 3 [(0, .ref (ad 0)), (1, .int a1)] → W p l e ({ frames := 3, cells := 0, slots := 0, locals := 57 }) s m (List.toArray [.ref (ad 0), .int a1]) below meth c H locs 0 0 (MQ below (va_Qi (Pz_X12_streetFrom_1 ad cy B qr s1 a1 w0) (fun u : va_W => wpost dC dI cy A u) A) (List.toArray [.ref (ad 0), .int a1]) s 0 0 A) (F0 m 21 ls []) := by
    intro f21_14__a1_toInt_toNat H locs ls r1 t2 r3 t4 hw c5 hM hl
    refine lv_iconst (v := (-1)) hx hb dX12_streetFrom_21 (by decide) ?_
    exact tk_iret hC hr hlocks hK ⟨rfl, hM.ret (by decide), (Or.inr (Or.inr (Or.inr rfl)))⟩ hw dX12_streetFrom_22
  have L25 : ∀ (n25 : Nat) (v25_2 : Int32) (f25_14__a1_toInt_toNat : Int32) (H : Heap) (locs : List Loc) (ls : Array Slot), 0 ≤ a1.toInt → a1.toInt ≤ 9 → 0 ≤ v25_2.toInt → v25_2.toInt ≤ 12 → 1 ≤ f25_14__a1_toInt_toNat.toInt → f25_14__a1_toInt_toNat.toInt ≤ 100000100 → (12 - v25_2.toInt).toNat < n25 → Wd dC dI A s.heap H locs w0 → gi w0 14 (a1.toInt).toNat = f25_14__a1_toInt_toNat → TT (fun n => m_X12_streetFrom n 0 a1.toInt (sI w0)) (fun n => j_X12_streetFrom 0 n 25 [a1.toInt, v25_2.toInt] (sI w0)) → lv_has ls 3 [(0, .ref (ad 0)), (1, .int a1), (2, .int v25_2)] → W p l e ({ frames := 3, cells := 0, slots := 0, locals := 57 }) s m (List.toArray [.ref (ad 0), .int a1]) below meth c H locs 0 0 (MQ below (va_Qi (Pz_X12_streetFrom_1 ad cy B qr s1 a1 w0) (fun u : va_W => wpost dC dI cy A u) A) (List.toArray [.ref (ad 0), .int a1]) s 0 0 A) (F0 m 25 ls []) := by
    intro n25
    induction n25 with
    | zero => intro v25_2 f25_14__a1_toInt_toNat H locs ls r6 t7 r8 t9 r10 t11 hm25 hw c12 hM hl; omega
    | succ n25 ih25 =>
      intro v25_2 f25_14__a1_toInt_toNat H locs ls r6 t7 r8 t9 r10 t11 hm25 hw c12 hM hl
      have J88 : ∀ (f88_12_1 : Int32) (H : Heap) (locs : List Loc) (ls : Array Slot), 0 ≤ a1.toInt → a1.toInt ≤ 9 → 0 ≤ v25_2.toInt → v25_2.toInt ≤ 11 → 1 ≤ f88_12_1.toInt → f88_12_1.toInt ≤ 12 → 1 ≤ f25_14__a1_toInt_toNat.toInt → f25_14__a1_toInt_toNat.toInt ≤ 100000100 → Wd dC dI A s.heap H locs w0 → gi w0 12 1 = f88_12_1 → gi w0 14 (a1.toInt).toNat = f25_14__a1_toInt_toNat → TT (fun n => m_X12_streetFrom n 0 a1.toInt (sI w0)) (fun n => b_X12_streetFrom_88 (j_X12_streetFrom 0 n) n 0 (a1.toInt) (v25_2.toInt) (sI w0)) → lv_has ls 3 [(0, .ref (ad 0)), (1, .int a1), (2, .int v25_2)] → W p l e ({ frames := 3, cells := 0, slots := 0, locals := 57 }) s m (List.toArray [.ref (ad 0), .int a1]) below meth c H locs 0 0 (MQ below (va_Qi (Pz_X12_streetFrom_1 ad cy B qr s1 a1 w0) (fun u : va_W => wpost dC dI cy A u) A) (List.toArray [.ref (ad 0), .int a1]) s 0 0 A) (F0 m 88 ls []) := by
        intro f88_12_1 H locs ls r13 t14 r15 t16 r17 t18 r20 t21 hw c19 c22 hM hl
        obtain ⟨x23, ex23⟩ : ∃ y : Int32, y = v25_2 + Int32.ofInt 1 := ⟨_, rfl⟩
        have erx23 := ex23
        refine lv_iinc (v := x23) (lv' := [(2, .int x23), (0, .ref (ad 0)), (1, .int a1)]) hx hb dX12_streetFrom_88 hl (k := 2) rfl ex23.symm (by decide) rfl (fun ls hl => ?_)
        have ex23 : x23.toInt = v25_2.toInt + 1 := by rw [ex23]; exact wk_add (y := 1) (show -2147483648 ≤ v25_2.toInt + 1 by omega) (show v25_2.toInt + 1 ≤ 2147483647 by omega)
        replace hM := hM.lt ex23.symm
        refine lv_goto (tgt := 25) hx hb dX12_streetFrom_91 (by decide) ?_
        exact ih25 x23 f25_14__a1_toInt_toNat H locs ls  (show 0 ≤ a1.toInt from r13) (show a1.toInt ≤ 9 from t14) (show 0 ≤ x23.toInt by first | with_reducible assumption | omega) (show x23.toInt ≤ 12 by first | with_reducible assumption | omega) (show 1 ≤ f25_14__a1_toInt_toNat.toInt from r20) (show f25_14__a1_toInt_toNat.toInt ≤ 100000100 from t21) (show (12 - x23.toInt).toNat < n25 by first | exact tn_lt hm25 (by omega) (by omega) | omega) hw  c22 hM (lv_sub hl [1, 2, 0] rfl)
      replace hM := hM.suc (fun _ => e_X12_streetFrom_25)
      refine lv_iload_n hx hb dX12_streetFrom_25 rfl (lv_at hl 2 rfl) ?_
      refine lv_aload_n hx hb dX12_streetFrom_26 rfl (lv_at hl 0 rfl) ?_
      refine tk_getA hC hK hw hT hinX12 kM_at0 (by decide) rfl 26 (by decide) (List.mem_cons_of_mem _ uw_7_1) rfl rfl dX12_streetFrom_27 ?_
      refine lv_iconst (v := 1) hx hb dX12_streetFrom_30 (by decide) ?_
      refine tk_ialdR hC hK hw hT kM_at12 rfl (by decide) (by decide) dX12_streetFrom_31 (fun x24 c25 Ex24 => ?_)
      have hox24 := c25
      replace hM := hM.rd (sI_at hox24)
      have bx24 : 0 ≤ x24.toInt ∧ x24.toInt ≤ 12 := (tk_rg1 rfl).mp Ex24
      have c25 : gi w0 12 1 = x24 := c25
      refine lv_icmp_ge (tgt := 94) hx hb dX12_streetFrom_32 (by decide) (fun c26 => ?_) (fun c26 => ?_)
      · have c26 : x24.toInt ≤ v25_2.toInt := wk_le.mp c26
        replace hM := hM.pos c26
        refine lv_iconst (v := (-1)) hx hb dX12_streetFrom_94 (by decide) ?_
        exact tk_iret hC hr hlocks hK ⟨rfl, hM.ret (by decide), (Or.inr (Or.inr (Or.inr rfl)))⟩ hw dX12_streetFrom_95
      · have c26 : v25_2.toInt < x24.toInt := wk_leF c26
        replace hM := hM.neg (Int.not_le.mpr c26)
        refine lv_aload_n hx hb dX12_streetFrom_35 rfl (lv_at hl 0 rfl) ?_
        refine lv_iload_n hx hb dX12_streetFrom_36 rfl (lv_at hl 2 rfl) ?_
        refine lv_iload_n hx hb dX12_streetFrom_37 rfl (lv_at hl 1 rfl) ?_
        refine tk_Vi hC hK hw hT hA hE hSR kM_at0 (by decide) rfl (kz_X12_isAt_2 l adK adV dC dI cy ad B hB0 (Int.le_trans hB1 (by decide)) qr s1   v25_2 (show 0 ≤ v25_2.toInt from r8) (show v25_2.toInt ≤ 11 by first | with_reducible assumption | omega) a1 (show 0 ≤ a1.toInt from r6) (show a1.toInt ≤ 9 from t7) w0 H.size hT ) (cwV 2 hC.2.2.2.2 uV_RX12_314 rfl rfl rfl (by decide +kernel) ⟨Nat.le_of_ble_eq_true rfl, Nat.le_of_ble_eq_true rfl⟩) rfl hl.1 rfl (Nat.le_of_ble_eq_true rfl) dX12_streetFrom_38 (fun r27 w29 H locs hp28 hw => ?_)
        obtain ⟨rfl, hv37, hg36⟩ := hp28
        rcases hg36 with ⟨rfl, hq31⟩ | ⟨rfl, c32, hq33⟩ | ⟨rfl, c34, hq35⟩
        · replace hM := hM.call (r' := 0) hv37 (by decide)
          refine lv_if_eq (tgt := 88) hx hb dX12_streetFrom_41 (by decide) (fun _ => ?_) (fun c => absurd (by decide) c)
          replace hM := hM.pos (by decide)
          exact J88 x24 H locs ls  (show 0 ≤ a1.toInt from r6) (show a1.toInt ≤ 9 from t7) (show 0 ≤ v25_2.toInt from r8) (show v25_2.toInt ≤ 11 by first | with_reducible assumption | omega) (show 1 ≤ x24.toInt by first | with_reducible assumption | omega) (show x24.toInt ≤ 12 by first | with_reducible assumption | omega) (show 1 ≤ f25_14__a1_toInt_toNat.toInt from r10) (show f25_14__a1_toInt_toNat.toInt ≤ 100000100 from t11)  hw  c25 c12 hM (lv_sub hl [0, 1, 2] rfl)
        · replace hM := hM.call (r' := 1) hv37 (by decide)
          refine lv_if_eq (tgt := 88) hx hb dX12_streetFrom_41 (by decide) (fun c => absurd c (by decide)) (fun _ => ?_)
          replace hM := hM.neg (by decide)
          refine lv_aload_n hx hb dX12_streetFrom_44 rfl (lv_at hl 0 rfl) ?_
          refine lv_aload_n hx hb dX12_streetFrom_45 rfl (lv_at hl 0 rfl) ?_
          refine tk_getA hC hK hw hT hinX12 kM_at0 (by decide) rfl 28 (by decide) (List.mem_cons_of_mem _ uw_7_3) rfl rfl dX12_streetFrom_46 ?_
          refine lv_iload_n hx hb dX12_streetFrom_49 rfl (lv_at hl 2 rfl) ?_
          refine tk_iald hC hK hw hT kM_at13 rfl rfl (show 0 ≤ v25_2.toInt from r8) (show v25_2.toInt < 12 by first | with_reducible assumption | omega) dX12_streetFrom_50 (fun x38 c39 rx38 tx38 => ?_)
          have hox38 := c39
          replace hM := hM.rd (sI_at hox38)
          refine lv_iload_n hx hb dX12_streetFrom_51 rfl (lv_at hl 2 rfl) ?_
          refine lv_iload_n hx hb dX12_streetFrom_52 rfl (lv_at hl 1 rfl) ?_
          refine tk_Vi hC hK hw hT hA hE hSR kM_at0 (by decide) rfl (kz_X12_hasSign_2 l adK adV dC dI cy ad B hB0 (Int.le_trans hB1 (by decide)) qr s1   x38 v25_2 (show 0 ≤ v25_2.toInt from r8) (show v25_2.toInt ≤ 11 by first | with_reducible assumption | omega) a1 (show 0 ≤ a1.toInt from r6) (show a1.toInt ≤ 9 from t7) w0 H.size hT ) (cwV 3 hC.2.2.2.2 uV_RX12_307 rfl rfl rfl (by decide +kernel) ⟨Nat.le_of_ble_eq_true rfl, Nat.le_of_ble_eq_true rfl⟩) rfl hl.1 rfl (Nat.le_of_ble_eq_true rfl) dX12_streetFrom_53 (fun r40 w42 H locs hp41 hw => ?_)
          obtain ⟨rfl, hv51, hg50⟩ := hp41
          rcases hg50 with ⟨rfl, hq44⟩ | ⟨rfl, c45, hq46⟩ | ⟨rfl, hq47⟩ | ⟨rfl, c48, hq49⟩
          · replace hM := hM.call (r' := 0) hv51 (by decide)
            refine lv_if_eq (tgt := 88) hx hb dX12_streetFrom_56 (by decide) (fun _ => ?_) (fun c => absurd (by decide) c)
            replace hM := hM.pos (by decide)
            exact J88 x24 H locs ls  (show 0 ≤ a1.toInt from r6) (show a1.toInt ≤ 9 from t7) (show 0 ≤ v25_2.toInt from r8) (show v25_2.toInt ≤ 11 by first | with_reducible assumption | omega) (show 1 ≤ x24.toInt by first | with_reducible assumption | omega) (show x24.toInt ≤ 12 by first | with_reducible assumption | omega) (show 1 ≤ f25_14__a1_toInt_toNat.toInt from r10) (show f25_14__a1_toInt_toNat.toInt ≤ 100000100 from t11)  hw  c25 c12 hM (lv_sub hl [0, 1, 2] rfl)
          · replace hM := hM.call (r' := 0) hv51 (by decide)
            refine lv_if_eq (tgt := 88) hx hb dX12_streetFrom_56 (by decide) (fun _ => ?_) (fun c => absurd (by decide) c)
            replace hM := hM.pos (by decide)
            exact J88 x24 H locs ls  (show 0 ≤ a1.toInt from r6) (show a1.toInt ≤ 9 from t7) (show 0 ≤ v25_2.toInt from r8) (show v25_2.toInt ≤ 11 by first | with_reducible assumption | omega) (show 1 ≤ x24.toInt by first | with_reducible assumption | omega) (show x24.toInt ≤ 12 by first | with_reducible assumption | omega) (show 1 ≤ f25_14__a1_toInt_toNat.toInt from r10) (show f25_14__a1_toInt_toNat.toInt ≤ 100000100 from t11)  hw  c25 c12 hM (lv_sub hl [0, 1, 2] rfl)
          · replace hM := hM.call (r' := 1) hv51 (by decide)
            refine lv_if_eq (tgt := 88) hx hb dX12_streetFrom_56 (by decide) (fun c => absurd c (by decide)) (fun _ => ?_)
            replace hM := hM.neg (by decide)
            refine lv_aload_n hx hb dX12_streetFrom_59 rfl (lv_at hl 0 rfl) ?_
            refine lv_iload_n hx hb dX12_streetFrom_60 rfl (lv_at hl 2 rfl) ?_
            refine lv_iconst (v := 2) hx hb dX12_streetFrom_61 (by decide) ?_
            refine tk_Vi hC hK hw hT hA hE hSR kM_at0 (by decide) rfl (kz_X12_streetOf_8 l adK adV dC dI cy ad B hB0 (Int.le_trans hB1 (by decide)) qr s1   v25_2 (show 0 ≤ v25_2.toInt from r8) (show v25_2.toInt ≤ 11 by first | with_reducible assumption | omega) w0 H.size hT ) (cwV 2 hC.2.2.2.2 uV_RX12_300 rfl rfl rfl (by decide +kernel) ⟨Nat.le_of_ble_eq_true rfl, Nat.le_of_ble_eq_true rfl⟩) rfl hl.1 rfl (Nat.le_of_ble_eq_true rfl) dX12_streetFrom_62 (fun r52 w54 H locs hp53 hw => ?_)
            obtain ⟨rfl, hv60, hg59⟩ := hp53
            obtain ⟨g56, g57, c58⟩ := hg59
            replace hM := hM.call hv60 rfl
            refine lv_aload_n hx hb dX12_streetFrom_65 rfl (lv_at hl 0 rfl) ?_
            refine tk_getA hC hK hw hT hinX12 kM_at0 (by decide) rfl 29 (by decide) (List.mem_cons_of_mem _ uw_7_4) rfl rfl dX12_streetFrom_66 ?_
            refine lv_aload_n hx hb dX12_streetFrom_69 rfl (lv_at hl 0 rfl) ?_
            refine lv_iload_n hx hb dX12_streetFrom_70 rfl (lv_at hl 2 rfl) ?_
            refine lv_iload_n hx hb dX12_streetFrom_71 rfl (lv_at hl 1 rfl) ?_
            refine tk_Vi hC hK hw hT hA hE hSR kM_at0 (by decide) rfl (kz_X12_otherOf_2 l adK adV dC dI cy ad B hB0 (Int.le_trans hB1 (by decide)) qr s1   v25_2 (show 0 ≤ v25_2.toInt from r8) (show v25_2.toInt ≤ 11 by first | with_reducible assumption | omega) a1 (show 0 ≤ a1.toInt from r6) (show a1.toInt ≤ 9 from t7) w0 H.size hT ) (cwV 2 hC.2.2.2.2 uV_RX12_348 rfl rfl rfl (by decide +kernel) ⟨Nat.le_of_ble_eq_true rfl, Nat.le_of_ble_eq_true rfl⟩) rfl hl.1 rfl (Nat.le_of_ble_eq_true rfl) dX12_streetFrom_72 (fun r61 w63 H locs hp62 hw => ?_)
            obtain ⟨rfl, hv71, hg70⟩ := hp62
            rcases hg70 with ⟨g65, g66⟩ | ⟨g67, g68, c69⟩
            · replace hM := hM.call hv71 rfl
              refine tk_iald hC hK hw hT kM_at14 rfl rfl (show 0 ≤ r61.toInt by first | with_reducible assumption | omega) (show r61.toInt < 10 by first | with_reducible assumption | omega) dX12_streetFrom_75 (fun x72 c73 rx72 tx72 => ?_)
              have hox72 := c73
              replace hM := hM.rd (sI_at hox72)
              have c73 : gi w0 14 (r61.toInt).toNat = x72 := (congrArg (gi w0 14) (congrArg Int.toNat (show r61.toInt = r61.toInt from rfl))).trans c73
              refine lv_iadd hx hb dX12_streetFrom_76 ?_
              refine lv_topi (fun x74 ex74 => ?_)
              have ezx74 := ex74
              have ex74 : x74.toInt = r52.toInt + x72.toInt := by rw [ex74]; exact wk_add (show (-2147483648) ≤ r52.toInt + x72.toInt by omega) (show r52.toInt + x72.toInt ≤ 2147483647 by omega)
              replace hM := hM.lt ex74.symm
              refine lv_aload_n hx hb dX12_streetFrom_77 rfl (lv_at hl 0 rfl) ?_
              refine tk_getA hC hK hw hT hinX12 kM_at0 (by decide) rfl 29 (by decide) (List.mem_cons_of_mem _ uw_7_4) rfl rfl dX12_streetFrom_78 ?_
              refine lv_iload_n hx hb dX12_streetFrom_81 rfl (lv_at hl 1 rfl) ?_
              refine tk_iald hC hK hw hT kM_at14 rfl rfl (show 0 ≤ a1.toInt from r6) (show a1.toInt < 10 from Int.lt_of_le_of_lt t7 (by decide)) dX12_streetFrom_82 (fun x75 c76 rx75 tx75 => ?_)
              have hox75 := c76
              have c76 : gi w0 14 (a1.toInt).toNat = x75 := (congrArg (gi w0 14) (congrArg Int.toNat (show a1.toInt = a1.toInt from rfl))).trans c76
              refine wk_top f25_14__a1_toInt_toNat (c76.symm.trans c12) ?_
              replace hM := hM.rd ((sI_at hox75).trans (congrArg Int32.toInt (c76.symm.trans c12)))
              refine lv_icmp_ne (tgt := 88) hx hb dX12_streetFrom_83 (by decide) (fun c77 => ?_) (fun c77 => ?_)
              · have c77 : ¬ x74.toInt = f25_14__a1_toInt_toNat.toInt := wk_eqF c77
                replace hM := hM.pos c77
                exact J88 x24 H locs ls  (show 0 ≤ a1.toInt from r6) (show a1.toInt ≤ 9 from t7) (show 0 ≤ v25_2.toInt from r8) (show v25_2.toInt ≤ 11 by first | with_reducible assumption | omega) (show 1 ≤ x24.toInt by first | with_reducible assumption | omega) (show x24.toInt ≤ 12 by first | with_reducible assumption | omega) (show 1 ≤ f25_14__a1_toInt_toNat.toInt from r10) (show f25_14__a1_toInt_toNat.toInt ≤ 100000100 from t11)  hw  c25 c12 hM (lv_sub hl [0, 1, 2] rfl)
              · have c77 : x74.toInt = f25_14__a1_toInt_toNat.toInt := wk_eq.mp c77
                replace hM := hM.neg (fun q => q c77)
                refine lv_iload_n hx hb dX12_streetFrom_86 rfl (lv_at hl 2 rfl) ?_
                exact tk_iret hC hr hlocks hK ⟨rfl, hM.ret rfl, (Or.inr (Or.inl ⟨(show 0 ≤ v25_2.toInt from r8), (show v25_2.toInt ≤ 11 by first | with_reducible assumption | omega), ⟨x24, c25, (show 1 ≤ x24.toInt by first | with_reducible assumption | omega), (show x24.toInt ≤ 12 by first | with_reducible assumption | omega)⟩, c32⟩))⟩ hw dX12_streetFrom_87
            · replace hM := hM.call hv71 rfl
              refine tk_iald hC hK hw hT kM_at14 rfl rfl (show 0 ≤ r61.toInt by first | with_reducible assumption | omega) (show r61.toInt < 10 by first | with_reducible assumption | omega) dX12_streetFrom_75 (fun x78 c79 rx78 tx78 => ?_)
              have hox78 := c79
              replace hM := hM.rd (sI_at hox78)
              have c79 : gi w0 14 (r61.toInt).toNat = x78 := (congrArg (gi w0 14) (congrArg Int.toNat (show r61.toInt = r61.toInt from rfl))).trans c79
              refine lv_iadd hx hb dX12_streetFrom_76 ?_
              refine lv_topi (fun x80 ex80 => ?_)
              have ezx80 := ex80
              have ex80 : x80.toInt = r52.toInt + x78.toInt := by rw [ex80]; exact wk_add (show (-2147483648) ≤ r52.toInt + x78.toInt by omega) (show r52.toInt + x78.toInt ≤ 2147483647 by omega)
              replace hM := hM.lt ex80.symm
              refine lv_aload_n hx hb dX12_streetFrom_77 rfl (lv_at hl 0 rfl) ?_
              refine tk_getA hC hK hw hT hinX12 kM_at0 (by decide) rfl 29 (by decide) (List.mem_cons_of_mem _ uw_7_4) rfl rfl dX12_streetFrom_78 ?_
              refine lv_iload_n hx hb dX12_streetFrom_81 rfl (lv_at hl 1 rfl) ?_
              refine tk_iald hC hK hw hT kM_at14 rfl rfl (show 0 ≤ a1.toInt from r6) (show a1.toInt < 10 from Int.lt_of_le_of_lt t7 (by decide)) dX12_streetFrom_82 (fun x81 c82 rx81 tx81 => ?_)
              have hox81 := c82
              have c82 : gi w0 14 (a1.toInt).toNat = x81 := (congrArg (gi w0 14) (congrArg Int.toNat (show a1.toInt = a1.toInt from rfl))).trans c82
              refine wk_top f25_14__a1_toInt_toNat (c82.symm.trans c12) ?_
              replace hM := hM.rd ((sI_at hox81).trans (congrArg Int32.toInt (c82.symm.trans c12)))
              refine lv_icmp_ne (tgt := 88) hx hb dX12_streetFrom_83 (by decide) (fun c83 => ?_) (fun c83 => ?_)
              · have c83 : ¬ x80.toInt = f25_14__a1_toInt_toNat.toInt := wk_eqF c83
                replace hM := hM.pos c83
                exact J88 x24 H locs ls  (show 0 ≤ a1.toInt from r6) (show a1.toInt ≤ 9 from t7) (show 0 ≤ v25_2.toInt from r8) (show v25_2.toInt ≤ 11 by first | with_reducible assumption | omega) (show 1 ≤ x24.toInt by first | with_reducible assumption | omega) (show x24.toInt ≤ 12 by first | with_reducible assumption | omega) (show 1 ≤ f25_14__a1_toInt_toNat.toInt from r10) (show f25_14__a1_toInt_toNat.toInt ≤ 100000100 from t11)  hw  c25 c12 hM (lv_sub hl [0, 1, 2] rfl)
              · have c83 : x80.toInt = f25_14__a1_toInt_toNat.toInt := wk_eq.mp c83
                replace hM := hM.neg (fun q => q c83)
                refine lv_iload_n hx hb dX12_streetFrom_86 rfl (lv_at hl 2 rfl) ?_
                exact tk_iret hC hr hlocks hK ⟨rfl, hM.ret rfl, (Or.inr (Or.inl ⟨(show 0 ≤ v25_2.toInt from r8), (show v25_2.toInt ≤ 11 by first | with_reducible assumption | omega), ⟨x24, c25, (show 1 ≤ x24.toInt by first | with_reducible assumption | omega), (show x24.toInt ≤ 12 by first | with_reducible assumption | omega)⟩, c32⟩))⟩ hw dX12_streetFrom_87
          · replace hM := hM.call (r' := 1) hv51 (by decide)
            refine lv_if_eq (tgt := 88) hx hb dX12_streetFrom_56 (by decide) (fun c => absurd c (by decide)) (fun _ => ?_)
            replace hM := hM.neg (by decide)
            refine lv_aload_n hx hb dX12_streetFrom_59 rfl (lv_at hl 0 rfl) ?_
            refine lv_iload_n hx hb dX12_streetFrom_60 rfl (lv_at hl 2 rfl) ?_
            refine lv_iconst (v := 2) hx hb dX12_streetFrom_61 (by decide) ?_
            refine tk_Vi hC hK hw hT hA hE hSR kM_at0 (by decide) rfl (kz_X12_streetOf_8 l adK adV dC dI cy ad B hB0 (Int.le_trans hB1 (by decide)) qr s1   v25_2 (show 0 ≤ v25_2.toInt from r8) (show v25_2.toInt ≤ 11 by first | with_reducible assumption | omega) w0 H.size hT ) (cwV 2 hC.2.2.2.2 uV_RX12_300 rfl rfl rfl (by decide +kernel) ⟨Nat.le_of_ble_eq_true rfl, Nat.le_of_ble_eq_true rfl⟩) rfl hl.1 rfl (Nat.le_of_ble_eq_true rfl) dX12_streetFrom_62 (fun r84 w86 H locs hp85 hw => ?_)
            obtain ⟨rfl, hv92, hg91⟩ := hp85
            obtain ⟨g88, g89, c90⟩ := hg91
            replace hM := hM.call hv92 rfl
            refine lv_aload_n hx hb dX12_streetFrom_65 rfl (lv_at hl 0 rfl) ?_
            refine tk_getA hC hK hw hT hinX12 kM_at0 (by decide) rfl 29 (by decide) (List.mem_cons_of_mem _ uw_7_4) rfl rfl dX12_streetFrom_66 ?_
            refine lv_aload_n hx hb dX12_streetFrom_69 rfl (lv_at hl 0 rfl) ?_
            refine lv_iload_n hx hb dX12_streetFrom_70 rfl (lv_at hl 2 rfl) ?_
            refine lv_iload_n hx hb dX12_streetFrom_71 rfl (lv_at hl 1 rfl) ?_
            refine tk_Vi hC hK hw hT hA hE hSR kM_at0 (by decide) rfl (kz_X12_otherOf_2 l adK adV dC dI cy ad B hB0 (Int.le_trans hB1 (by decide)) qr s1   v25_2 (show 0 ≤ v25_2.toInt from r8) (show v25_2.toInt ≤ 11 by first | with_reducible assumption | omega) a1 (show 0 ≤ a1.toInt from r6) (show a1.toInt ≤ 9 from t7) w0 H.size hT ) (cwV 2 hC.2.2.2.2 uV_RX12_348 rfl rfl rfl (by decide +kernel) ⟨Nat.le_of_ble_eq_true rfl, Nat.le_of_ble_eq_true rfl⟩) rfl hl.1 rfl (Nat.le_of_ble_eq_true rfl) dX12_streetFrom_72 (fun r93 w95 H locs hp94 hw => ?_)
            obtain ⟨rfl, hv103, hg102⟩ := hp94
            rcases hg102 with ⟨g97, g98⟩ | ⟨g99, g100, c101⟩
            · replace hM := hM.call hv103 rfl
              refine tk_iald hC hK hw hT kM_at14 rfl rfl (show 0 ≤ r93.toInt by first | with_reducible assumption | omega) (show r93.toInt < 10 by first | with_reducible assumption | omega) dX12_streetFrom_75 (fun x104 c105 rx104 tx104 => ?_)
              have hox104 := c105
              replace hM := hM.rd (sI_at hox104)
              have c105 : gi w0 14 (r93.toInt).toNat = x104 := (congrArg (gi w0 14) (congrArg Int.toNat (show r93.toInt = r93.toInt from rfl))).trans c105
              refine lv_iadd hx hb dX12_streetFrom_76 ?_
              refine lv_topi (fun x106 ex106 => ?_)
              have ezx106 := ex106
              have ex106 : x106.toInt = r84.toInt + x104.toInt := by rw [ex106]; exact wk_add (show (-2147483648) ≤ r84.toInt + x104.toInt by omega) (show r84.toInt + x104.toInt ≤ 2147483647 by omega)
              replace hM := hM.lt ex106.symm
              refine lv_aload_n hx hb dX12_streetFrom_77 rfl (lv_at hl 0 rfl) ?_
              refine tk_getA hC hK hw hT hinX12 kM_at0 (by decide) rfl 29 (by decide) (List.mem_cons_of_mem _ uw_7_4) rfl rfl dX12_streetFrom_78 ?_
              refine lv_iload_n hx hb dX12_streetFrom_81 rfl (lv_at hl 1 rfl) ?_
              refine tk_iald hC hK hw hT kM_at14 rfl rfl (show 0 ≤ a1.toInt from r6) (show a1.toInt < 10 from Int.lt_of_le_of_lt t7 (by decide)) dX12_streetFrom_82 (fun x107 c108 rx107 tx107 => ?_)
              have hox107 := c108
              have c108 : gi w0 14 (a1.toInt).toNat = x107 := (congrArg (gi w0 14) (congrArg Int.toNat (show a1.toInt = a1.toInt from rfl))).trans c108
              refine wk_top f25_14__a1_toInt_toNat (c108.symm.trans c12) ?_
              replace hM := hM.rd ((sI_at hox107).trans (congrArg Int32.toInt (c108.symm.trans c12)))
              refine lv_icmp_ne (tgt := 88) hx hb dX12_streetFrom_83 (by decide) (fun c109 => ?_) (fun c109 => ?_)
              · have c109 : ¬ x106.toInt = f25_14__a1_toInt_toNat.toInt := wk_eqF c109
                replace hM := hM.pos c109
                exact J88 x24 H locs ls  (show 0 ≤ a1.toInt from r6) (show a1.toInt ≤ 9 from t7) (show 0 ≤ v25_2.toInt from r8) (show v25_2.toInt ≤ 11 by first | with_reducible assumption | omega) (show 1 ≤ x24.toInt by first | with_reducible assumption | omega) (show x24.toInt ≤ 12 by first | with_reducible assumption | omega) (show 1 ≤ f25_14__a1_toInt_toNat.toInt from r10) (show f25_14__a1_toInt_toNat.toInt ≤ 100000100 from t11)  hw  c25 c12 hM (lv_sub hl [0, 1, 2] rfl)
              · have c109 : x106.toInt = f25_14__a1_toInt_toNat.toInt := wk_eq.mp c109
                replace hM := hM.neg (fun q => q c109)
                refine lv_iload_n hx hb dX12_streetFrom_86 rfl (lv_at hl 2 rfl) ?_
                exact tk_iret hC hr hlocks hK ⟨rfl, hM.ret rfl, (Or.inr (Or.inl ⟨(show 0 ≤ v25_2.toInt from r8), (show v25_2.toInt ≤ 11 by first | with_reducible assumption | omega), ⟨x24, c25, (show 1 ≤ x24.toInt by first | with_reducible assumption | omega), (show x24.toInt ≤ 12 by first | with_reducible assumption | omega)⟩, c32⟩))⟩ hw dX12_streetFrom_87
            · replace hM := hM.call hv103 rfl
              refine tk_iald hC hK hw hT kM_at14 rfl rfl (show 0 ≤ r93.toInt by first | with_reducible assumption | omega) (show r93.toInt < 10 by first | with_reducible assumption | omega) dX12_streetFrom_75 (fun x110 c111 rx110 tx110 => ?_)
              have hox110 := c111
              replace hM := hM.rd (sI_at hox110)
              have c111 : gi w0 14 (r93.toInt).toNat = x110 := (congrArg (gi w0 14) (congrArg Int.toNat (show r93.toInt = r93.toInt from rfl))).trans c111
              refine lv_iadd hx hb dX12_streetFrom_76 ?_
              refine lv_topi (fun x112 ex112 => ?_)
              have ezx112 := ex112
              have ex112 : x112.toInt = r84.toInt + x110.toInt := by rw [ex112]; exact wk_add (show (-2147483648) ≤ r84.toInt + x110.toInt by omega) (show r84.toInt + x110.toInt ≤ 2147483647 by omega)
              replace hM := hM.lt ex112.symm
              refine lv_aload_n hx hb dX12_streetFrom_77 rfl (lv_at hl 0 rfl) ?_
              refine tk_getA hC hK hw hT hinX12 kM_at0 (by decide) rfl 29 (by decide) (List.mem_cons_of_mem _ uw_7_4) rfl rfl dX12_streetFrom_78 ?_
              refine lv_iload_n hx hb dX12_streetFrom_81 rfl (lv_at hl 1 rfl) ?_
              refine tk_iald hC hK hw hT kM_at14 rfl rfl (show 0 ≤ a1.toInt from r6) (show a1.toInt < 10 from Int.lt_of_le_of_lt t7 (by decide)) dX12_streetFrom_82 (fun x113 c114 rx113 tx113 => ?_)
              have hox113 := c114
              have c114 : gi w0 14 (a1.toInt).toNat = x113 := (congrArg (gi w0 14) (congrArg Int.toNat (show a1.toInt = a1.toInt from rfl))).trans c114
              refine wk_top f25_14__a1_toInt_toNat (c114.symm.trans c12) ?_
              replace hM := hM.rd ((sI_at hox113).trans (congrArg Int32.toInt (c114.symm.trans c12)))
              refine lv_icmp_ne (tgt := 88) hx hb dX12_streetFrom_83 (by decide) (fun c115 => ?_) (fun c115 => ?_)
              · have c115 : ¬ x112.toInt = f25_14__a1_toInt_toNat.toInt := wk_eqF c115
                replace hM := hM.pos c115
                exact J88 x24 H locs ls  (show 0 ≤ a1.toInt from r6) (show a1.toInt ≤ 9 from t7) (show 0 ≤ v25_2.toInt from r8) (show v25_2.toInt ≤ 11 by first | with_reducible assumption | omega) (show 1 ≤ x24.toInt by first | with_reducible assumption | omega) (show x24.toInt ≤ 12 by first | with_reducible assumption | omega) (show 1 ≤ f25_14__a1_toInt_toNat.toInt from r10) (show f25_14__a1_toInt_toNat.toInt ≤ 100000100 from t11)  hw  c25 c12 hM (lv_sub hl [0, 1, 2] rfl)
              · have c115 : x112.toInt = f25_14__a1_toInt_toNat.toInt := wk_eq.mp c115
                replace hM := hM.neg (fun q => q c115)
                refine lv_iload_n hx hb dX12_streetFrom_86 rfl (lv_at hl 2 rfl) ?_
                exact tk_iret hC hr hlocks hK ⟨rfl, hM.ret rfl, (Or.inr (Or.inl ⟨(show 0 ≤ v25_2.toInt from r8), (show v25_2.toInt ≤ 11 by first | with_reducible assumption | omega), ⟨x24, c25, (show 1 ≤ x24.toInt by first | with_reducible assumption | omega), (show x24.toInt ≤ 12 by first | with_reducible assumption | omega)⟩, c32⟩))⟩ hw dX12_streetFrom_87
        · replace hM := hM.call (r' := 1) hv37 (by decide)
          refine lv_if_eq (tgt := 88) hx hb dX12_streetFrom_41 (by decide) (fun c => absurd c (by decide)) (fun _ => ?_)
          replace hM := hM.neg (by decide)
          refine lv_aload_n hx hb dX12_streetFrom_44 rfl (lv_at hl 0 rfl) ?_
          refine lv_aload_n hx hb dX12_streetFrom_45 rfl (lv_at hl 0 rfl) ?_
          refine tk_getA hC hK hw hT hinX12 kM_at0 (by decide) rfl 28 (by decide) (List.mem_cons_of_mem _ uw_7_3) rfl rfl dX12_streetFrom_46 ?_
          refine lv_iload_n hx hb dX12_streetFrom_49 rfl (lv_at hl 2 rfl) ?_
          refine tk_iald hC hK hw hT kM_at13 rfl rfl (show 0 ≤ v25_2.toInt from r8) (show v25_2.toInt < 12 by first | with_reducible assumption | omega) dX12_streetFrom_50 (fun x116 c117 rx116 tx116 => ?_)
          have hox116 := c117
          replace hM := hM.rd (sI_at hox116)
          refine lv_iload_n hx hb dX12_streetFrom_51 rfl (lv_at hl 2 rfl) ?_
          refine lv_iload_n hx hb dX12_streetFrom_52 rfl (lv_at hl 1 rfl) ?_
          refine tk_Vi hC hK hw hT hA hE hSR kM_at0 (by decide) rfl (kz_X12_hasSign_2 l adK adV dC dI cy ad B hB0 (Int.le_trans hB1 (by decide)) qr s1   x116 v25_2 (show 0 ≤ v25_2.toInt from r8) (show v25_2.toInt ≤ 11 by first | with_reducible assumption | omega) a1 (show 0 ≤ a1.toInt from r6) (show a1.toInt ≤ 9 from t7) w0 H.size hT ) (cwV 3 hC.2.2.2.2 uV_RX12_307 rfl rfl rfl (by decide +kernel) ⟨Nat.le_of_ble_eq_true rfl, Nat.le_of_ble_eq_true rfl⟩) rfl hl.1 rfl (Nat.le_of_ble_eq_true rfl) dX12_streetFrom_53 (fun r118 w120 H locs hp119 hw => ?_)
          obtain ⟨rfl, hv129, hg128⟩ := hp119
          rcases hg128 with ⟨rfl, hq122⟩ | ⟨rfl, c123, hq124⟩ | ⟨rfl, hq125⟩ | ⟨rfl, c126, hq127⟩
          · replace hM := hM.call (r' := 0) hv129 (by decide)
            refine lv_if_eq (tgt := 88) hx hb dX12_streetFrom_56 (by decide) (fun _ => ?_) (fun c => absurd (by decide) c)
            replace hM := hM.pos (by decide)
            exact J88 x24 H locs ls  (show 0 ≤ a1.toInt from r6) (show a1.toInt ≤ 9 from t7) (show 0 ≤ v25_2.toInt from r8) (show v25_2.toInt ≤ 11 by first | with_reducible assumption | omega) (show 1 ≤ x24.toInt by first | with_reducible assumption | omega) (show x24.toInt ≤ 12 by first | with_reducible assumption | omega) (show 1 ≤ f25_14__a1_toInt_toNat.toInt from r10) (show f25_14__a1_toInt_toNat.toInt ≤ 100000100 from t11)  hw  c25 c12 hM (lv_sub hl [0, 1, 2] rfl)
          · replace hM := hM.call (r' := 0) hv129 (by decide)
            refine lv_if_eq (tgt := 88) hx hb dX12_streetFrom_56 (by decide) (fun _ => ?_) (fun c => absurd (by decide) c)
            replace hM := hM.pos (by decide)
            exact J88 x24 H locs ls  (show 0 ≤ a1.toInt from r6) (show a1.toInt ≤ 9 from t7) (show 0 ≤ v25_2.toInt from r8) (show v25_2.toInt ≤ 11 by first | with_reducible assumption | omega) (show 1 ≤ x24.toInt by first | with_reducible assumption | omega) (show x24.toInt ≤ 12 by first | with_reducible assumption | omega) (show 1 ≤ f25_14__a1_toInt_toNat.toInt from r10) (show f25_14__a1_toInt_toNat.toInt ≤ 100000100 from t11)  hw  c25 c12 hM (lv_sub hl [0, 1, 2] rfl)
          · replace hM := hM.call (r' := 1) hv129 (by decide)
            refine lv_if_eq (tgt := 88) hx hb dX12_streetFrom_56 (by decide) (fun c => absurd c (by decide)) (fun _ => ?_)
            replace hM := hM.neg (by decide)
            refine lv_aload_n hx hb dX12_streetFrom_59 rfl (lv_at hl 0 rfl) ?_
            refine lv_iload_n hx hb dX12_streetFrom_60 rfl (lv_at hl 2 rfl) ?_
            refine lv_iconst (v := 2) hx hb dX12_streetFrom_61 (by decide) ?_
            refine tk_Vi hC hK hw hT hA hE hSR kM_at0 (by decide) rfl (kz_X12_streetOf_8 l adK adV dC dI cy ad B hB0 (Int.le_trans hB1 (by decide)) qr s1   v25_2 (show 0 ≤ v25_2.toInt from r8) (show v25_2.toInt ≤ 11 by first | with_reducible assumption | omega) w0 H.size hT ) (cwV 2 hC.2.2.2.2 uV_RX12_300 rfl rfl rfl (by decide +kernel) ⟨Nat.le_of_ble_eq_true rfl, Nat.le_of_ble_eq_true rfl⟩) rfl hl.1 rfl (Nat.le_of_ble_eq_true rfl) dX12_streetFrom_62 (fun r130 w132 H locs hp131 hw => ?_)
            obtain ⟨rfl, hv138, hg137⟩ := hp131
            obtain ⟨g134, g135, c136⟩ := hg137
            replace hM := hM.call hv138 rfl
            refine lv_aload_n hx hb dX12_streetFrom_65 rfl (lv_at hl 0 rfl) ?_
            refine tk_getA hC hK hw hT hinX12 kM_at0 (by decide) rfl 29 (by decide) (List.mem_cons_of_mem _ uw_7_4) rfl rfl dX12_streetFrom_66 ?_
            refine lv_aload_n hx hb dX12_streetFrom_69 rfl (lv_at hl 0 rfl) ?_
            refine lv_iload_n hx hb dX12_streetFrom_70 rfl (lv_at hl 2 rfl) ?_
            refine lv_iload_n hx hb dX12_streetFrom_71 rfl (lv_at hl 1 rfl) ?_
            refine tk_Vi hC hK hw hT hA hE hSR kM_at0 (by decide) rfl (kz_X12_otherOf_2 l adK adV dC dI cy ad B hB0 (Int.le_trans hB1 (by decide)) qr s1   v25_2 (show 0 ≤ v25_2.toInt from r8) (show v25_2.toInt ≤ 11 by first | with_reducible assumption | omega) a1 (show 0 ≤ a1.toInt from r6) (show a1.toInt ≤ 9 from t7) w0 H.size hT ) (cwV 2 hC.2.2.2.2 uV_RX12_348 rfl rfl rfl (by decide +kernel) ⟨Nat.le_of_ble_eq_true rfl, Nat.le_of_ble_eq_true rfl⟩) rfl hl.1 rfl (Nat.le_of_ble_eq_true rfl) dX12_streetFrom_72 (fun r139 w141 H locs hp140 hw => ?_)
            obtain ⟨rfl, hv149, hg148⟩ := hp140
            rcases hg148 with ⟨g143, g144⟩ | ⟨g145, g146, c147⟩
            · replace hM := hM.call hv149 rfl
              refine tk_iald hC hK hw hT kM_at14 rfl rfl (show 0 ≤ r139.toInt by first | with_reducible assumption | omega) (show r139.toInt < 10 by first | with_reducible assumption | omega) dX12_streetFrom_75 (fun x150 c151 rx150 tx150 => ?_)
              have hox150 := c151
              replace hM := hM.rd (sI_at hox150)
              have c151 : gi w0 14 (r139.toInt).toNat = x150 := (congrArg (gi w0 14) (congrArg Int.toNat (show r139.toInt = r139.toInt from rfl))).trans c151
              refine lv_iadd hx hb dX12_streetFrom_76 ?_
              refine lv_topi (fun x152 ex152 => ?_)
              have ezx152 := ex152
              have ex152 : x152.toInt = r130.toInt + x150.toInt := by rw [ex152]; exact wk_add (show (-2147483648) ≤ r130.toInt + x150.toInt by omega) (show r130.toInt + x150.toInt ≤ 2147483647 by omega)
              replace hM := hM.lt ex152.symm
              refine lv_aload_n hx hb dX12_streetFrom_77 rfl (lv_at hl 0 rfl) ?_
              refine tk_getA hC hK hw hT hinX12 kM_at0 (by decide) rfl 29 (by decide) (List.mem_cons_of_mem _ uw_7_4) rfl rfl dX12_streetFrom_78 ?_
              refine lv_iload_n hx hb dX12_streetFrom_81 rfl (lv_at hl 1 rfl) ?_
              refine tk_iald hC hK hw hT kM_at14 rfl rfl (show 0 ≤ a1.toInt from r6) (show a1.toInt < 10 from Int.lt_of_le_of_lt t7 (by decide)) dX12_streetFrom_82 (fun x153 c154 rx153 tx153 => ?_)
              have hox153 := c154
              have c154 : gi w0 14 (a1.toInt).toNat = x153 := (congrArg (gi w0 14) (congrArg Int.toNat (show a1.toInt = a1.toInt from rfl))).trans c154
              refine wk_top f25_14__a1_toInt_toNat (c154.symm.trans c12) ?_
              replace hM := hM.rd ((sI_at hox153).trans (congrArg Int32.toInt (c154.symm.trans c12)))
              refine lv_icmp_ne (tgt := 88) hx hb dX12_streetFrom_83 (by decide) (fun c155 => ?_) (fun c155 => ?_)
              · have c155 : ¬ x152.toInt = f25_14__a1_toInt_toNat.toInt := wk_eqF c155
                replace hM := hM.pos c155
                exact J88 x24 H locs ls  (show 0 ≤ a1.toInt from r6) (show a1.toInt ≤ 9 from t7) (show 0 ≤ v25_2.toInt from r8) (show v25_2.toInt ≤ 11 by first | with_reducible assumption | omega) (show 1 ≤ x24.toInt by first | with_reducible assumption | omega) (show x24.toInt ≤ 12 by first | with_reducible assumption | omega) (show 1 ≤ f25_14__a1_toInt_toNat.toInt from r10) (show f25_14__a1_toInt_toNat.toInt ≤ 100000100 from t11)  hw  c25 c12 hM (lv_sub hl [0, 1, 2] rfl)
              · have c155 : x152.toInt = f25_14__a1_toInt_toNat.toInt := wk_eq.mp c155
                replace hM := hM.neg (fun q => q c155)
                refine lv_iload_n hx hb dX12_streetFrom_86 rfl (lv_at hl 2 rfl) ?_
                exact tk_iret hC hr hlocks hK ⟨rfl, hM.ret rfl, (Or.inr (Or.inr (Or.inl ⟨(show 0 ≤ v25_2.toInt from r8), (show v25_2.toInt ≤ 11 by first | with_reducible assumption | omega), ⟨x24, c25, (show 1 ≤ x24.toInt by first | with_reducible assumption | omega), (show x24.toInt ≤ 12 by first | with_reducible assumption | omega)⟩, c34⟩)))⟩ hw dX12_streetFrom_87
            · replace hM := hM.call hv149 rfl
              refine tk_iald hC hK hw hT kM_at14 rfl rfl (show 0 ≤ r139.toInt by first | with_reducible assumption | omega) (show r139.toInt < 10 by first | with_reducible assumption | omega) dX12_streetFrom_75 (fun x156 c157 rx156 tx156 => ?_)
              have hox156 := c157
              replace hM := hM.rd (sI_at hox156)
              have c157 : gi w0 14 (r139.toInt).toNat = x156 := (congrArg (gi w0 14) (congrArg Int.toNat (show r139.toInt = r139.toInt from rfl))).trans c157
              refine lv_iadd hx hb dX12_streetFrom_76 ?_
              refine lv_topi (fun x158 ex158 => ?_)
              have ezx158 := ex158
              have ex158 : x158.toInt = r130.toInt + x156.toInt := by rw [ex158]; exact wk_add (show (-2147483648) ≤ r130.toInt + x156.toInt by omega) (show r130.toInt + x156.toInt ≤ 2147483647 by omega)
              replace hM := hM.lt ex158.symm
              refine lv_aload_n hx hb dX12_streetFrom_77 rfl (lv_at hl 0 rfl) ?_
              refine tk_getA hC hK hw hT hinX12 kM_at0 (by decide) rfl 29 (by decide) (List.mem_cons_of_mem _ uw_7_4) rfl rfl dX12_streetFrom_78 ?_
              refine lv_iload_n hx hb dX12_streetFrom_81 rfl (lv_at hl 1 rfl) ?_
              refine tk_iald hC hK hw hT kM_at14 rfl rfl (show 0 ≤ a1.toInt from r6) (show a1.toInt < 10 from Int.lt_of_le_of_lt t7 (by decide)) dX12_streetFrom_82 (fun x159 c160 rx159 tx159 => ?_)
              have hox159 := c160
              have c160 : gi w0 14 (a1.toInt).toNat = x159 := (congrArg (gi w0 14) (congrArg Int.toNat (show a1.toInt = a1.toInt from rfl))).trans c160
              refine wk_top f25_14__a1_toInt_toNat (c160.symm.trans c12) ?_
              replace hM := hM.rd ((sI_at hox159).trans (congrArg Int32.toInt (c160.symm.trans c12)))
              refine lv_icmp_ne (tgt := 88) hx hb dX12_streetFrom_83 (by decide) (fun c161 => ?_) (fun c161 => ?_)
              · have c161 : ¬ x158.toInt = f25_14__a1_toInt_toNat.toInt := wk_eqF c161
                replace hM := hM.pos c161
                exact J88 x24 H locs ls  (show 0 ≤ a1.toInt from r6) (show a1.toInt ≤ 9 from t7) (show 0 ≤ v25_2.toInt from r8) (show v25_2.toInt ≤ 11 by first | with_reducible assumption | omega) (show 1 ≤ x24.toInt by first | with_reducible assumption | omega) (show x24.toInt ≤ 12 by first | with_reducible assumption | omega) (show 1 ≤ f25_14__a1_toInt_toNat.toInt from r10) (show f25_14__a1_toInt_toNat.toInt ≤ 100000100 from t11)  hw  c25 c12 hM (lv_sub hl [0, 1, 2] rfl)
              · have c161 : x158.toInt = f25_14__a1_toInt_toNat.toInt := wk_eq.mp c161
                replace hM := hM.neg (fun q => q c161)
                refine lv_iload_n hx hb dX12_streetFrom_86 rfl (lv_at hl 2 rfl) ?_
                exact tk_iret hC hr hlocks hK ⟨rfl, hM.ret rfl, (Or.inl ⟨(show 0 ≤ v25_2.toInt from r8), (show v25_2.toInt ≤ 11 by first | with_reducible assumption | omega), ⟨x24, c25, (show 1 ≤ x24.toInt by first | with_reducible assumption | omega), (show x24.toInt ≤ 12 by first | with_reducible assumption | omega)⟩, c147, c34⟩)⟩ hw dX12_streetFrom_87
          · replace hM := hM.call (r' := 1) hv129 (by decide)
            refine lv_if_eq (tgt := 88) hx hb dX12_streetFrom_56 (by decide) (fun c => absurd c (by decide)) (fun _ => ?_)
            replace hM := hM.neg (by decide)
            refine lv_aload_n hx hb dX12_streetFrom_59 rfl (lv_at hl 0 rfl) ?_
            refine lv_iload_n hx hb dX12_streetFrom_60 rfl (lv_at hl 2 rfl) ?_
            refine lv_iconst (v := 2) hx hb dX12_streetFrom_61 (by decide) ?_
            refine tk_Vi hC hK hw hT hA hE hSR kM_at0 (by decide) rfl (kz_X12_streetOf_8 l adK adV dC dI cy ad B hB0 (Int.le_trans hB1 (by decide)) qr s1   v25_2 (show 0 ≤ v25_2.toInt from r8) (show v25_2.toInt ≤ 11 by first | with_reducible assumption | omega) w0 H.size hT ) (cwV 2 hC.2.2.2.2 uV_RX12_300 rfl rfl rfl (by decide +kernel) ⟨Nat.le_of_ble_eq_true rfl, Nat.le_of_ble_eq_true rfl⟩) rfl hl.1 rfl (Nat.le_of_ble_eq_true rfl) dX12_streetFrom_62 (fun r162 w164 H locs hp163 hw => ?_)
            obtain ⟨rfl, hv170, hg169⟩ := hp163
            obtain ⟨g166, g167, c168⟩ := hg169
            replace hM := hM.call hv170 rfl
            refine lv_aload_n hx hb dX12_streetFrom_65 rfl (lv_at hl 0 rfl) ?_
            refine tk_getA hC hK hw hT hinX12 kM_at0 (by decide) rfl 29 (by decide) (List.mem_cons_of_mem _ uw_7_4) rfl rfl dX12_streetFrom_66 ?_
            refine lv_aload_n hx hb dX12_streetFrom_69 rfl (lv_at hl 0 rfl) ?_
            refine lv_iload_n hx hb dX12_streetFrom_70 rfl (lv_at hl 2 rfl) ?_
            refine lv_iload_n hx hb dX12_streetFrom_71 rfl (lv_at hl 1 rfl) ?_
            refine tk_Vi hC hK hw hT hA hE hSR kM_at0 (by decide) rfl (kz_X12_otherOf_2 l adK adV dC dI cy ad B hB0 (Int.le_trans hB1 (by decide)) qr s1   v25_2 (show 0 ≤ v25_2.toInt from r8) (show v25_2.toInt ≤ 11 by first | with_reducible assumption | omega) a1 (show 0 ≤ a1.toInt from r6) (show a1.toInt ≤ 9 from t7) w0 H.size hT ) (cwV 2 hC.2.2.2.2 uV_RX12_348 rfl rfl rfl (by decide +kernel) ⟨Nat.le_of_ble_eq_true rfl, Nat.le_of_ble_eq_true rfl⟩) rfl hl.1 rfl (Nat.le_of_ble_eq_true rfl) dX12_streetFrom_72 (fun r171 w173 H locs hp172 hw => ?_)
            obtain ⟨rfl, hv181, hg180⟩ := hp172
            rcases hg180 with ⟨g175, g176⟩ | ⟨g177, g178, c179⟩
            · replace hM := hM.call hv181 rfl
              refine tk_iald hC hK hw hT kM_at14 rfl rfl (show 0 ≤ r171.toInt by first | with_reducible assumption | omega) (show r171.toInt < 10 by first | with_reducible assumption | omega) dX12_streetFrom_75 (fun x182 c183 rx182 tx182 => ?_)
              have hox182 := c183
              replace hM := hM.rd (sI_at hox182)
              have c183 : gi w0 14 (r171.toInt).toNat = x182 := (congrArg (gi w0 14) (congrArg Int.toNat (show r171.toInt = r171.toInt from rfl))).trans c183
              refine lv_iadd hx hb dX12_streetFrom_76 ?_
              refine lv_topi (fun x184 ex184 => ?_)
              have ezx184 := ex184
              have ex184 : x184.toInt = r162.toInt + x182.toInt := by rw [ex184]; exact wk_add (show (-2147483648) ≤ r162.toInt + x182.toInt by omega) (show r162.toInt + x182.toInt ≤ 2147483647 by omega)
              replace hM := hM.lt ex184.symm
              refine lv_aload_n hx hb dX12_streetFrom_77 rfl (lv_at hl 0 rfl) ?_
              refine tk_getA hC hK hw hT hinX12 kM_at0 (by decide) rfl 29 (by decide) (List.mem_cons_of_mem _ uw_7_4) rfl rfl dX12_streetFrom_78 ?_
              refine lv_iload_n hx hb dX12_streetFrom_81 rfl (lv_at hl 1 rfl) ?_
              refine tk_iald hC hK hw hT kM_at14 rfl rfl (show 0 ≤ a1.toInt from r6) (show a1.toInt < 10 from Int.lt_of_le_of_lt t7 (by decide)) dX12_streetFrom_82 (fun x185 c186 rx185 tx185 => ?_)
              have hox185 := c186
              have c186 : gi w0 14 (a1.toInt).toNat = x185 := (congrArg (gi w0 14) (congrArg Int.toNat (show a1.toInt = a1.toInt from rfl))).trans c186
              refine wk_top f25_14__a1_toInt_toNat (c186.symm.trans c12) ?_
              replace hM := hM.rd ((sI_at hox185).trans (congrArg Int32.toInt (c186.symm.trans c12)))
              refine lv_icmp_ne (tgt := 88) hx hb dX12_streetFrom_83 (by decide) (fun c187 => ?_) (fun c187 => ?_)
              · have c187 : ¬ x184.toInt = f25_14__a1_toInt_toNat.toInt := wk_eqF c187
                replace hM := hM.pos c187
                exact J88 x24 H locs ls  (show 0 ≤ a1.toInt from r6) (show a1.toInt ≤ 9 from t7) (show 0 ≤ v25_2.toInt from r8) (show v25_2.toInt ≤ 11 by first | with_reducible assumption | omega) (show 1 ≤ x24.toInt by first | with_reducible assumption | omega) (show x24.toInt ≤ 12 by first | with_reducible assumption | omega) (show 1 ≤ f25_14__a1_toInt_toNat.toInt from r10) (show f25_14__a1_toInt_toNat.toInt ≤ 100000100 from t11)  hw  c25 c12 hM (lv_sub hl [0, 1, 2] rfl)
              · have c187 : x184.toInt = f25_14__a1_toInt_toNat.toInt := wk_eq.mp c187
                replace hM := hM.neg (fun q => q c187)
                refine lv_iload_n hx hb dX12_streetFrom_86 rfl (lv_at hl 2 rfl) ?_
                exact tk_iret hC hr hlocks hK ⟨rfl, hM.ret rfl, (Or.inl ⟨(show 0 ≤ v25_2.toInt from r8), (show v25_2.toInt ≤ 11 by first | with_reducible assumption | omega), ⟨x24, c25, (show 1 ≤ x24.toInt by first | with_reducible assumption | omega), (show x24.toInt ≤ 12 by first | with_reducible assumption | omega)⟩, c126, c34⟩)⟩ hw dX12_streetFrom_87
            · replace hM := hM.call hv181 rfl
              refine tk_iald hC hK hw hT kM_at14 rfl rfl (show 0 ≤ r171.toInt by first | with_reducible assumption | omega) (show r171.toInt < 10 by first | with_reducible assumption | omega) dX12_streetFrom_75 (fun x188 c189 rx188 tx188 => ?_)
              have hox188 := c189
              replace hM := hM.rd (sI_at hox188)
              have c189 : gi w0 14 (r171.toInt).toNat = x188 := (congrArg (gi w0 14) (congrArg Int.toNat (show r171.toInt = r171.toInt from rfl))).trans c189
              refine lv_iadd hx hb dX12_streetFrom_76 ?_
              refine lv_topi (fun x190 ex190 => ?_)
              have ezx190 := ex190
              have ex190 : x190.toInt = r162.toInt + x188.toInt := by rw [ex190]; exact wk_add (show (-2147483648) ≤ r162.toInt + x188.toInt by omega) (show r162.toInt + x188.toInt ≤ 2147483647 by omega)
              replace hM := hM.lt ex190.symm
              refine lv_aload_n hx hb dX12_streetFrom_77 rfl (lv_at hl 0 rfl) ?_
              refine tk_getA hC hK hw hT hinX12 kM_at0 (by decide) rfl 29 (by decide) (List.mem_cons_of_mem _ uw_7_4) rfl rfl dX12_streetFrom_78 ?_
              refine lv_iload_n hx hb dX12_streetFrom_81 rfl (lv_at hl 1 rfl) ?_
              refine tk_iald hC hK hw hT kM_at14 rfl rfl (show 0 ≤ a1.toInt from r6) (show a1.toInt < 10 from Int.lt_of_le_of_lt t7 (by decide)) dX12_streetFrom_82 (fun x191 c192 rx191 tx191 => ?_)
              have hox191 := c192
              have c192 : gi w0 14 (a1.toInt).toNat = x191 := (congrArg (gi w0 14) (congrArg Int.toNat (show a1.toInt = a1.toInt from rfl))).trans c192
              refine wk_top f25_14__a1_toInt_toNat (c192.symm.trans c12) ?_
              replace hM := hM.rd ((sI_at hox191).trans (congrArg Int32.toInt (c192.symm.trans c12)))
              refine lv_icmp_ne (tgt := 88) hx hb dX12_streetFrom_83 (by decide) (fun c193 => ?_) (fun c193 => ?_)
              · have c193 : ¬ x190.toInt = f25_14__a1_toInt_toNat.toInt := wk_eqF c193
                replace hM := hM.pos c193
                exact J88 x24 H locs ls  (show 0 ≤ a1.toInt from r6) (show a1.toInt ≤ 9 from t7) (show 0 ≤ v25_2.toInt from r8) (show v25_2.toInt ≤ 11 by first | with_reducible assumption | omega) (show 1 ≤ x24.toInt by first | with_reducible assumption | omega) (show x24.toInt ≤ 12 by first | with_reducible assumption | omega) (show 1 ≤ f25_14__a1_toInt_toNat.toInt from r10) (show f25_14__a1_toInt_toNat.toInt ≤ 100000100 from t11)  hw  c25 c12 hM (lv_sub hl [0, 1, 2] rfl)
              · have c193 : x190.toInt = f25_14__a1_toInt_toNat.toInt := wk_eq.mp c193
                replace hM := hM.neg (fun q => q c193)
                refine lv_iload_n hx hb dX12_streetFrom_86 rfl (lv_at hl 2 rfl) ?_
                exact tk_iret hC hr hlocks hK ⟨rfl, hM.ret rfl, (Or.inl ⟨(show 0 ≤ v25_2.toInt from r8), (show v25_2.toInt ≤ 11 by first | with_reducible assumption | omega), ⟨x24, c25, (show 1 ≤ x24.toInt by first | with_reducible assumption | omega), (show x24.toInt ≤ 12 by first | with_reducible assumption | omega)⟩, c126, c34⟩)⟩ hw dX12_streetFrom_87
  have hM : TT (fun n => m_X12_streetFrom n 0 a1.toInt (sI w0)) (fun n => m_X12_streetFrom n 0 a1.toInt (sI w0)) := TT.rf
  refine lv_aload_n hx hb dX12_streetFrom_0 rfl (lv_at hl 0 rfl) ?_
  refine tk_getA hC hK hw hT hinX12 kM_at0 (by decide) rfl 29 (by decide) (List.mem_cons_of_mem _ uw_7_4) rfl rfl dX12_streetFrom_1 ?_
  refine lv_iload_n hx hb dX12_streetFrom_4 rfl (lv_at hl 1 rfl) ?_
  refine tk_iald hC hK hw hT kM_at14 rfl rfl (show 0 ≤ a1.toInt from ra1) (show a1.toInt < 10 from Int.lt_of_le_of_lt ta1 (by decide)) dX12_streetFrom_5 (fun x194 c195 rx194 tx194 => ?_)
  have hox194 := c195
  replace hM := hM.rd (sI_at hox194)
  have c195 : gi w0 14 (a1.toInt).toNat = x194 := (congrArg (gi w0 14) (congrArg Int.toNat (show a1.toInt = a1.toInt from rfl))).trans c195
  refine lv_if_eq (tgt := 21) hx hb dX12_streetFrom_6 (by decide) (fun c196 => ?_) (fun c196 => ?_)
  · have c196 : x194.toInt = (0 : Int) := wk_eq.mp c196
    replace hM := hM.pos c196
    exact J21 x194 s.heap locs ls  (show 0 ≤ a1.toInt from ra1) (show a1.toInt ≤ 9 from ta1) (show 0 ≤ x194.toInt from rx194) (show x194.toInt ≤ 100000000 by first | with_reducible assumption | omega)  hw  c195 hM (lv_sub hl [0, 1] rfl)
  · have c196 : ¬ x194.toInt = (0 : Int) := wk_eqF c196
    replace hM := hM.neg c196
    refine lv_aload_n hx hb dX12_streetFrom_9 rfl (lv_at hl 0 rfl) ?_
    refine tk_getA hC hK hw hT hinX12 kM_at0 (by decide) rfl 29 (by decide) (List.mem_cons_of_mem _ uw_7_4) rfl rfl dX12_streetFrom_10 ?_
    refine lv_iload_n hx hb dX12_streetFrom_13 rfl (lv_at hl 1 rfl) ?_
    refine tk_iald hC hK hw hT kM_at14 rfl rfl (show 0 ≤ a1.toInt from ra1) (show a1.toInt < 10 from Int.lt_of_le_of_lt ta1 (by decide)) dX12_streetFrom_14 (fun x197 c198 rx197 tx197 => ?_)
    have hox197 := c198
    have c198 : gi w0 14 (a1.toInt).toNat = x197 := (congrArg (gi w0 14) (congrArg Int.toNat (show a1.toInt = a1.toInt from rfl))).trans c198
    refine wk_top x194 (c198.symm.trans c195) ?_
    replace hM := hM.rd ((sI_at hox197).trans (congrArg Int32.toInt (c198.symm.trans c195)))
    refine lv_ldcw (v := 100000000) hx hb hC.2.2.2.1 (hC.2.2.2.2 _ (List.mem_cons_of_mem _ uw_38_2)) dX12_streetFrom_15 ?_
    refine lv_icmp_ne (tgt := 23) hx hb dX12_streetFrom_18 (by decide) (fun c199 => ?_) (fun c199 => ?_)
    · have c199 : ¬ x194.toInt = (100000000 : Int) := wk_eqF c199
      replace hM := hM.pos c199
      refine lv_iconst (v := 0) hx hb dX12_streetFrom_23 (by decide) ?_
      refine lv_istore_n (lv' := [(2, .int 0), (0, .ref (ad 0)), (1, .int a1)]) hx hb dX12_streetFrom_24 rfl hl (by decide) rfl (fun ls hl => ?_)
      exact L25 ((12 - (0 : Int)).toNat + 1) 0 x194 s.heap locs ls  (show 0 ≤ a1.toInt from ra1) (show a1.toInt ≤ 9 from ta1) (by decide) (by decide) (show 1 ≤ x194.toInt by first | with_reducible assumption | omega) (show x194.toInt ≤ 100000100 from tx194) (Nat.lt_succ_self _) hw  c195 hM (lv_sub hl [1, 2, 0] rfl)
    · have c199 : x194.toInt = (100000000 : Int) := wk_eq.mp c199
      replace hM := hM.neg (fun q => q c199)
      exact J21 x194 s.heap locs ls  (show 0 ≤ a1.toInt from ra1) (show a1.toInt ≤ 9 from ta1) (show 0 ≤ x194.toInt from rx194) (show x194.toInt ≤ 100000000 by first | with_reducible assumption | omega)  hw  c195 hM (lv_sub hl [0, 1] rfl)
abbrev Pz_X12_by_1 (ad : Nat → Nat) (cy : Nat → ClassId) (B : Int) (qr : Nat) (s1 : Int) (a1 : Int32) (a2 : Int32) (a3 : Int32) (a4 : Int32) (w0 : va_W) : Int32 → va_W → Prop := fun r u => TW ksM ad cy B qr 12 u ∧ FE ksM [(72, 0, 12), (73, 0, 10)] w0 u ∧ Ev (fun n => m_X12_by n 0 a1.toInt a2.toInt a3.toInt a4.toInt (sI w0)) (r.toInt, sI u) ∧ ((r = (-2) ∧ 0 ≤ a1.toInt ∧ a1.toInt ≤ 3 ∧ 0 ≤ a2.toInt ∧ a2.toInt ≤ 9 ∧ 0 ≤ a3.toInt ∧ a3.toInt ≤ 9 ∧ 0 ≤ a4.toInt ∧ a4.toInt ≤ 1 ∧ (∃ y : Int32, gi u 12 0 = y ∧ 1 ≤ y.toInt ∧ y.toInt ≤ 10) ∧ (∃ y : Int32, gi u 12 4 = y ∧ 1 ≤ y.toInt ∧ y.toInt ≤ 4)) ∨ (0 ≤ r.toInt ∧ r.toInt ≤ 100000100 ∧ 0 ≤ a1.toInt ∧ a1.toInt ≤ 3 ∧ 0 ≤ a2.toInt ∧ a2.toInt ≤ 9 ∧ 0 ≤ a3.toInt ∧ a3.toInt ≤ 9 ∧ 0 ≤ a4.toInt ∧ a4.toInt ≤ 0 ∧ (∃ y : Int32, gi u 12 0 = y ∧ 1 ≤ y.toInt ∧ y.toInt ≤ 10) ∧ (∃ y : Int32, gi u 12 4 = y ∧ 1 ≤ y.toInt ∧ y.toInt ≤ 4)) ∨ (0 ≤ r.toInt ∧ r.toInt ≤ 11 ∧ 0 ≤ a1.toInt ∧ a1.toInt ≤ 3 ∧ 0 ≤ a2.toInt ∧ a2.toInt ≤ 9 ∧ 0 ≤ a3.toInt ∧ a3.toInt ≤ 9 ∧ 1 ≤ a4.toInt ∧ a4.toInt ≤ 1 ∧ (∃ y : Int32, gi u 12 0 = y ∧ 1 ≤ y.toInt ∧ y.toInt ≤ 10) ∧ (∃ y : Int32, gi u 12 1 = y ∧ 1 ≤ y.toInt ∧ y.toInt ≤ 12) ∧ (∃ y : Int32, gi u 12 4 = y ∧ 1 ≤ y.toInt ∧ y.toInt ≤ 4) ∧ gi u 12 (10 * r.toInt + 10).toNat = a2 ∧ gi u 12 (10 * r.toInt + 11).toNat = a2) ∨ (0 ≤ r.toInt ∧ r.toInt ≤ 11 ∧ 0 ≤ a1.toInt ∧ a1.toInt ≤ 3 ∧ 0 ≤ a2.toInt ∧ a2.toInt ≤ 9 ∧ 0 ≤ a3.toInt ∧ a3.toInt ≤ 9 ∧ 1 ≤ a4.toInt ∧ a4.toInt ≤ 1 ∧ (∃ y : Int32, gi u 12 0 = y ∧ 1 ≤ y.toInt ∧ y.toInt ≤ 10) ∧ (∃ y : Int32, gi u 12 1 = y ∧ 1 ≤ y.toInt ∧ y.toInt ≤ 12) ∧ (∃ y : Int32, gi u 12 4 = y ∧ 1 ≤ y.toInt ∧ y.toInt ≤ 4) ∧ gi u 12 (10 * r.toInt + 10).toNat = a2) ∨ (0 ≤ r.toInt ∧ r.toInt ≤ 11 ∧ 0 ≤ a1.toInt ∧ a1.toInt ≤ 3 ∧ 0 ≤ a2.toInt ∧ a2.toInt ≤ 9 ∧ 0 ≤ a3.toInt ∧ a3.toInt ≤ 9 ∧ 1 ≤ a4.toInt ∧ a4.toInt ≤ 1 ∧ (∃ y : Int32, gi u 12 0 = y ∧ 1 ≤ y.toInt ∧ y.toInt ≤ 10) ∧ (∃ y : Int32, gi u 12 1 = y ∧ 1 ≤ y.toInt ∧ y.toInt ≤ 12) ∧ (∃ y : Int32, gi u 12 4 = y ∧ 1 ≤ y.toInt ∧ y.toInt ≤ 4) ∧ gi u 12 (10 * r.toInt + 11).toNat = a2) ∨ (r = (-1)))
set_option maxHeartbeats 4000000 in
set_option maxRecDepth 100000 in
theorem kz_X12_by_1 (l : Launch) (adK adV : Nat → Nat) (dC : Nat → ClassId) (dI : Nat → Nat → Nat) (cy : Nat → ClassId) (ad : Nat → Nat) (B : Int) (hB0 : 100000 ≤ B) (hB1 : B ≤ 1073741824) (qr : Nat) (s1 : Int)  (a1 : Int32) (a2 : Int32) (a3 : Int32) (a4 : Int32) (w0 : va_W) (sz : Nat) (hT : TW ksM ad cy B qr 12 w0)  : Met l yX12_by (wu yX12_by cX12_by 6 (some .int)) ({ frames := 4, cells := 0, slots := 0, locals := 79 }) (va_Pc [.ref (ad 0), .int a1, .int a2, .int a3, .int a4] (wpreS adK adV dC dI cy sz w0)) (va_Qi (Pz_X12_by_1 ad cy B qr s1 a1 a2 a3 a4 w0) (fun u : va_W => wpost dC dI cy (va_A w0 sz) u) (va_A w0 sz)) 0 0 (va_A w0 sz) := by
  refine Met.ofW (cc := cX12_by) (maxL := 6) (ret := (some .int)) (by decide) rfl ?_
  intro p e s m args below meth c s₁ Bk hml hv
  obtain ⟨rfl, ⟨hsz, hP, hK, hD0⟩, hE, hSR⟩ := hv
  have hx := Bk.exec
  have hb := Bk.bytes
  have hr := Bk.returns
  have hlocks := Bk.notSynchronized
  have hC : CallFix p m c cX12_by 6 s _ (wu yX12_by cX12_by 6 (some .int)) RX12 := ⟨hx, hb, hml, findClass_of_methodNamed Bk.named, atoms_spec (ws := (wu yX12_by cX12_by 6 (some .int))) Bk.pre⟩
  subst hsz
  have hD := hD0.self (sz := s.heap.size)
  generalize hAe : va_A w0 s.heap.size = A at hD hE ⊢
  have hA : ∀ q : Nat, s.heap.size ≤ q → A q := fun q h => by rw [← hAe]; exact Or.inr h
  have hw : Wd dC dI A s.heap s.heap [] w0 := ⟨hP, hD, va_S.rf⟩
  have hF : FE ksM [(72, 0, 12), (73, 0, 10)] w0 w0 := FE.rf
  have hl := lv_entry ([.ref (ad 0), .int a1, .int a2, .int a3, .int a4]) (n := 6) (Nat.le_of_ble_eq_true rfl)
  rw [lg_entry_eq]
  generalize (lg_sl ([.ref (ad 0), .int a1, .int a2, .int a3, .int a4]) ++ List.replicate (6 - (lg_sl ([.ref (ad 0), .int a1, .int a2, .int a3, .int a4])).length) Slot.unset).toArray = ls at hl ⊢
  have hl : lv_has ls 6 [(0, .ref (ad 0)), (1, .int a1), (2, .int a2), (3, .int a3), (4, .int a4)] := hl
  generalize hloc : ([] : List Loc) = locs at hw ⊢
  have hinX12 : ∀ w ∈ u_ws RX12 TX12 42, w ∈ (wu yX12_by cX12_by 6 (some .int)) := fun _ h => List.mem_cons_of_mem _ (up_71 h)
  have J35 : ∀ (H : Heap) (locs : List Loc) (ls : Array Slot) (w1 : va_W), Wd dC dI A s.heap H locs w1 → TW ksM ad cy B qr 12 w1 → FE ksM [(72, 0, 12), (73, 0, 10)] w0 w1 → TT (fun n => m_X12_by n 0 a1.toInt a2.toInt a3.toInt a4.toInt (sI w0)) (fun n => b_X12_by_35 n 0 (sI w1)) → lv_has ls 6 [(0, .ref (ad 0)), (1, .int a1), (2, .int a2), (3, .int a3), (4, .int a4)] → W p l e ({ frames := 4, cells := 0, slots := 0, locals := 79 }) s m (List.toArray [.ref (ad 0), .int a1, .int a2, .int a3, .int a4]) below meth c H locs 0 0 (MQ below (va_Qi (Pz_X12_by_1 ad cy B qr s1 a1 a2 a3 a4 w0) (fun u : va_W => wpost dC dI cy A u) A) (List.toArray [.ref (ad 0), .int a1, .int a2, .int a3, .int a4]) s 0 0 A) (F0 m 35 ls []) := by
    intro H locs ls w1 hw hT hF hM hl
    refine lv_iconst (v := (-1)) hx hb dX12_by_35 (by decide) ?_
    exact tk_iret hC hr hlocks hK ⟨hT, hF, hM.ret (by decide), (Or.inr (Or.inr (Or.inr (Or.inr (Or.inr rfl)))))⟩ hw dX12_by_36
  have hM : TT (fun n => m_X12_by n 0 a1.toInt a2.toInt a3.toInt a4.toInt (sI w0)) (fun n => m_X12_by n 0 a1.toInt a2.toInt a3.toInt a4.toInt (sI w0)) := TT.rf
  refine lv_aload_n hx hb dX12_by_0 rfl (lv_at hl 0 rfl) ?_
  refine lv_iload_n hx hb dX12_by_1 rfl (lv_at hl 1 rfl) ?_
  refine tk_Vi hC hK hw hT hA hE hSR kM_at0 (by decide) rfl (kz_X12_isMap_1 l adK adV dC dI cy ad B hB0 (Int.le_trans hB1 (by decide)) qr s1   a1 w0 s.heap.size hT ) (cwV 1 hC.2.2.2.2 uV_RX12_342 rfl rfl rfl (by decide +kernel) ⟨Nat.le_of_ble_eq_true rfl, Nat.le_of_ble_eq_true rfl⟩) rfl hl.1 rfl (Nat.le_of_ble_eq_true rfl) dX12_by_2 (fun r2 w4 H locs hp3 hw => ?_)
  obtain ⟨rfl, hv11, hg10⟩ := hp3
  rcases hg10 with rfl | ⟨rfl, g6, g7, ⟨x8, c9, rx8, tx8⟩⟩
  · replace hM := hM.call (r' := 0) hv11 (by decide)
    refine lv_if_eq (tgt := 35) hx hb dX12_by_5 (by decide) (fun _ => ?_) (fun c => absurd (by decide) c)
    replace hM := hM.pos (by decide)
    exact J35  H locs ls w0   hw hT hF hM (lv_sub hl [0, 1, 2, 3, 4] rfl)
  · replace hM := hM.call (r' := 1) hv11 (by decide)
    refine lv_if_eq (tgt := 35) hx hb dX12_by_5 (by decide) (fun c => absurd c (by decide)) (fun _ => ?_)
    replace hM := hM.neg (by decide)
    refine lv_aload_n hx hb dX12_by_8 rfl (lv_at hl 0 rfl) ?_
    refine lv_iload_n hx hb dX12_by_9 rfl (lv_at hl 2 rfl) ?_
    refine tk_Vi hC hK hw hT hA hE hSR kM_at0 (by decide) rfl (kz_X12_isCorner_1 l adK adV dC dI cy ad B hB0 (Int.le_trans hB1 (by decide)) qr s1   a2 w0 H.size hT ) (cwV 1 hC.2.2.2.2 uV_RX12_328 rfl rfl rfl (by decide +kernel) ⟨Nat.le_of_ble_eq_true rfl, Nat.le_of_ble_eq_true rfl⟩) rfl hl.1 rfl (Nat.le_of_ble_eq_true rfl) dX12_by_10 (fun r12 w14 H locs hp13 hw => ?_)
    obtain ⟨rfl, hv21, hg20⟩ := hp13
    rcases hg20 with rfl | ⟨rfl, g16, g17, ⟨x18, c19, rx18, tx18⟩⟩
    · replace hM := hM.call (r' := 0) hv21 (by decide)
      refine lv_if_eq (tgt := 35) hx hb dX12_by_13 (by decide) (fun _ => ?_) (fun c => absurd (by decide) c)
      replace hM := hM.pos (by decide)
      exact J35  H locs ls w0   hw hT hF hM (lv_sub hl [0, 1, 2, 3, 4] rfl)
    · replace hM := hM.call (r' := 1) hv21 (by decide)
      refine lv_if_eq (tgt := 35) hx hb dX12_by_13 (by decide) (fun c => absurd c (by decide)) (fun _ => ?_)
      replace hM := hM.neg (by decide)
      refine lv_aload_n hx hb dX12_by_16 rfl (lv_at hl 0 rfl) ?_
      refine lv_iload_n hx hb dX12_by_17 rfl (lv_at hl 3 rfl) ?_
      refine tk_Vi hC hK hw hT hA hE hSR kM_at0 (by decide) rfl (kz_X12_isCorner_1 l adK adV dC dI cy ad B hB0 (Int.le_trans hB1 (by decide)) qr s1   a3 w0 H.size hT ) (cwV 1 hC.2.2.2.2 uV_RX12_328 rfl rfl rfl (by decide +kernel) ⟨Nat.le_of_ble_eq_true rfl, Nat.le_of_ble_eq_true rfl⟩) rfl hl.1 rfl (Nat.le_of_ble_eq_true rfl) dX12_by_18 (fun r22 w24 H locs hp23 hw => ?_)
      obtain ⟨rfl, hv31, hg30⟩ := hp23
      rcases hg30 with rfl | ⟨rfl, g26, g27, ⟨x28, c29, rx28, tx28⟩⟩
      · replace hM := hM.call (r' := 0) hv31 (by decide)
        refine lv_if_eq (tgt := 35) hx hb dX12_by_21 (by decide) (fun _ => ?_) (fun c => absurd (by decide) c)
        replace hM := hM.pos (by decide)
        exact J35  H locs ls w0   hw hT hF hM (lv_sub hl [0, 1, 2, 3, 4] rfl)
      · replace hM := hM.call (r' := 1) hv31 (by decide)
        have ex28 : x28.toInt = x18.toInt := by rw [← c19.symm.trans c29]
        refine lv_if_eq (tgt := 35) hx hb dX12_by_21 (by decide) (fun c => absurd c (by decide)) (fun _ => ?_)
        replace hM := hM.neg (by decide)
        refine lv_iload hx hb dX12_by_24 (lv_at hl 4 rfl) ?_
        refine lv_i2l hx hb dX12_by_26 rfl ?_
        refine lv_topl (fun x32 ex32 => ?_)
        have ex32 : x32.toInt = a4.toInt := by rw [ex32]; exact wk_i2l _
        have bx32 := wk_i32 a4
        replace hM := hM.lt ex32.symm
        refine lv_lconst (v := 0) hx hb dX12_by_27 (by decide) ?_
        refine lv_lconst (v := 1) hx hb dX12_by_28 (by decide) ?_
        refine tk_Si hC hK hw hT hA hE hSR (kz_X12_in_15 l adK adV dC dI cy ad B hB0 (Int.le_trans hB1 (by decide)) qr s1   x32 (show (-2147483648) ≤ x32.toInt by first | with_reducible assumption | omega) (show x32.toInt ≤ 2147483647 by first | with_reducible assumption | omega) w0 H.size hT ) (va_cwS 3 hC.2.2.2.2 uS_RX12_122 rfl rfl rfl (by decide +kernel) ⟨Nat.le_of_ble_eq_true rfl, Nat.le_of_ble_eq_true rfl⟩) rfl hl.1 rfl (Nat.le_of_ble_eq_true rfl) dX12_by_29 (fun r33 w35 H locs hp34 hw => ?_)
        obtain ⟨rfl, hv40, hg39⟩ := hp34
        rcases hg39 with rfl | ⟨rfl, g37, g38⟩
        · replace hM := hM.call (r' := 0) hv40 (by decide)
          refine lv_if_ne (tgt := 37) hx hb dX12_by_32 (by decide) (fun c => absurd (by decide) c) (fun _ => ?_)
          replace hM := hM.neg (by decide)
          exact J35  H locs ls w0   hw hT hF hM (lv_sub hl [0, 1, 2, 3, 4] rfl)
        · replace hM := hM.call (r' := 1) hv40 (by decide)
          refine lv_if_ne (tgt := 37) hx hb dX12_by_32 (by decide) (fun _ => ?_) (fun c => absurd c (by decide))
          replace hM := hM.pos (by decide)
          refine lv_aload_n hx hb dX12_by_37 rfl (lv_at hl 0 rfl) ?_
          refine lv_iload_n hx hb dX12_by_38 rfl (lv_at hl 1 rfl) ?_
          refine tk_Vv hC hK hw hT hA hE hSR kM_at0 (by decide) rfl (kz_X12_takesMap_1 l adK adV dC dI cy ad B hB0 (Int.le_trans hB1 (by decide)) qr s1   a1 (show 0 ≤ a1.toInt by first | with_reducible assumption | omega) (show a1.toInt ≤ 3 by first | with_reducible assumption | omega) w0 H.size hT ) (cwV 1 hC.2.2.2.2 uV_RX12_351 rfl rfl rfl (by decide +kernel) ⟨Nat.le_of_ble_eq_true rfl, Nat.le_of_ble_eq_true rfl⟩) rfl hl.1 rfl (Nat.le_of_ble_eq_true rfl) dX12_by_39 (fun w43 H locs hp42 hw => ?_)
          obtain ⟨hT, k44, hv46, hg45⟩ := hp42
          have hF := hF.tr k44 (by decide)
          have c47 := k44.gi kM_at12 (by decide) c9
          have c48 := k44.gi kM_at12 (by decide) c19
          clear hg45
          replace hM := hM.call hv46 rfl
          refine lv_aload_n hx hb dX12_by_42 rfl (lv_at hl 0 rfl) ?_
          refine lv_iload_n hx hb dX12_by_43 rfl (lv_at hl 3 rfl) ?_
          refine tk_Vv hC hK hw hT hA hE hSR kM_at0 (by decide) rfl (kz_X12_spreads_1 l adK adV dC dI cy ad B hB0 (Int.le_trans hB1 (by decide)) qr s1   a3 (show 0 ≤ a3.toInt by first | with_reducible assumption | omega) (show a3.toInt ≤ 9 by first | with_reducible assumption | omega) w43 H.size hT ) (cwV 1 hC.2.2.2.2 uV_RX12_354 rfl rfl rfl (by decide +kernel) ⟨Nat.le_of_ble_eq_true rfl, Nat.le_of_ble_eq_true rfl⟩) rfl hl.1 rfl (Nat.le_of_ble_eq_true rfl) dX12_by_44 (fun w51 H locs hp50 hw => ?_)
          obtain ⟨hT, k52, hv54, hg53⟩ := hp50
          have hF := hF.tr k52 (by decide)
          have c55 := k52.gi kM_at12 (by decide) c47
          have c56 := k52.gi kM_at12 (by decide) c48
          clear hg53
          replace hM := hM.call hv54 rfl
          refine lv_aload_n hx hb dX12_by_47 rfl (lv_at hl 0 rfl) ?_
          refine tk_getA hC hK hw hT hinX12 kM_at0 (by decide) rfl 29 (by decide) (List.mem_cons_of_mem _ uw_7_4) rfl rfl dX12_by_48 ?_
          refine lv_iload_n hx hb dX12_by_51 rfl (lv_at hl 2 rfl) ?_
          refine tk_iald hC hK hw hT kM_at14 rfl rfl (show 0 ≤ a2.toInt by first | with_reducible assumption | omega) (show a2.toInt < 10 by first | with_reducible assumption | omega) dX12_by_52 (fun x57 c58 rx57 tx57 => ?_)
          have hox57 := c58
          replace hM := hM.rd (sI_at hox57)
          have c58 : gi w51 14 (a2.toInt).toNat = x57 := (congrArg (gi w51 14) (congrArg Int.toNat (show a2.toInt = a2.toInt from rfl))).trans c58
          refine lv_ldcw (v := 100000000) hx hb hC.2.2.2.1 (hC.2.2.2.2 _ (List.mem_cons_of_mem _ uw_38_2)) dX12_by_53 ?_
          refine lv_icmp_ne (tgt := 62) hx hb dX12_by_56 (by decide) (fun c59 => ?_) (fun c59 => ?_)
          · have c59 : ¬ x57.toInt = (100000000 : Int) := wk_eqF c59
            replace hM := hM.pos c59
            refine lv_aload_n hx hb dX12_by_62 rfl (lv_at hl 0 rfl) ?_
            refine lv_iload_n hx hb dX12_by_63 rfl (lv_at hl 2 rfl) ?_
            refine tk_Vi hC hK hw hT hA hE hSR kM_at0 (by decide) rfl (kz_X12_streetFrom_1 l adK adV dC dI cy ad B hB0 (Int.le_trans hB1 (by decide)) qr s1   a2 (show 0 ≤ a2.toInt by first | with_reducible assumption | omega) (show a2.toInt ≤ 9 by first | with_reducible assumption | omega) w51 H.size hT ) (cwV 1 hC.2.2.2.2 uV_RX12_357 rfl rfl rfl (by decide +kernel) ⟨Nat.le_of_ble_eq_true rfl, Nat.le_of_ble_eq_true rfl⟩) rfl hl.1 rfl (Nat.le_of_ble_eq_true rfl) dX12_by_64 (fun r60 w62 H locs hp61 hw => ?_)
            obtain ⟨rfl, hv81, hg80⟩ := hp61
            rcases hg80 with ⟨g64, g65, ⟨x66, c67, rx66, tx66⟩, c68, c69⟩ | ⟨g70, g71, ⟨x72, c73, rx72, tx72⟩, c74⟩ | ⟨g75, g76, ⟨x77, c78, rx77, tx77⟩, c79⟩ | rfl
            · replace hM := hM.call hv81 rfl
              refine lv_istore (lv' := [(5, .int r60), (0, .ref (ad 0)), (1, .int a1), (2, .int a2), (3, .int a3), (4, .int a4)]) hx hb dX12_by_67 hl (by decide) rfl (fun ls hl => ?_)
              refine lv_iload hx hb dX12_by_69 (lv_at hl 5 rfl) ?_
              refine lv_if_ne (tgt := 83) hx hb dX12_by_71 (by decide) (fun c82 => ?_) (fun c82 => ?_)
              · have c82 : ¬ a4.toInt = (0 : Int) := wk_eqF c82
                replace hM := hM.pos c82
                refine lv_iload hx hb dX12_by_83 (lv_at hl 0 rfl) ?_
                refine lv_if_ge (tgt := 93) hx hb dX12_by_85 (by decide) (fun _ => ?_) (fun c => (c (wk_le.mpr (show (0 : Int) ≤ r60.toInt by first | with_reducible assumption | omega))).elim)
                replace hM := hM.pos (by omega)
                refine lv_iload hx hb dX12_by_93 (lv_at hl 0 rfl) ?_
                exact tk_iret hC hr hlocks hK ⟨hT, hF, hM.ret rfl, (Or.inr (Or.inr (Or.inl ⟨(show 0 ≤ r60.toInt by first | with_reducible assumption | omega), (show r60.toInt ≤ 11 by first | with_reducible assumption | omega), (show 0 ≤ a1.toInt by first | with_reducible assumption | omega), (show a1.toInt ≤ 3 by first | with_reducible assumption | omega), (show 0 ≤ a2.toInt by first | with_reducible assumption | omega), (show a2.toInt ≤ 9 by first | with_reducible assumption | omega), (show 0 ≤ a3.toInt by first | with_reducible assumption | omega), (show a3.toInt ≤ 9 by first | with_reducible assumption | omega), (show 1 ≤ a4.toInt by first | with_reducible assumption | omega), (show a4.toInt ≤ 1 by first | with_reducible assumption | omega), ⟨x18, c56, (show 1 ≤ x18.toInt by first | with_reducible assumption | omega), (show x18.toInt ≤ 10 by first | with_reducible assumption | omega)⟩, ⟨x66, c67, (show 1 ≤ x66.toInt by first | with_reducible assumption | omega), (show x66.toInt ≤ 12 by first | with_reducible assumption | omega)⟩, ⟨x8, c55, (show 1 ≤ x8.toInt by first | with_reducible assumption | omega), (show x8.toInt ≤ 4 by first | with_reducible assumption | omega)⟩, c68, c69⟩)))⟩ hw dX12_by_95
              · have c82 : a4.toInt = (0 : Int) := wk_eq.mp c82
                replace hM := hM.neg (fun q => q c82)
                refine lv_aload_n hx hb dX12_by_74 rfl (lv_at hl 1 rfl) ?_
                refine tk_getA hC hK hw hT hinX12 kM_at0 (by decide) rfl 29 (by decide) (List.mem_cons_of_mem _ uw_7_4) rfl rfl dX12_by_75 ?_
                refine lv_iload_n hx hb dX12_by_78 rfl (lv_at hl 3 rfl) ?_
                refine tk_iald hC hK hw hT kM_at14 rfl rfl (show 0 ≤ a2.toInt by first | with_reducible assumption | omega) (show a2.toInt < 10 by first | with_reducible assumption | omega) dX12_by_79 (fun x83 c84 rx83 tx83 => ?_)
                have hox83 := c84
                have c84 : gi w51 14 (a2.toInt).toNat = x83 := (congrArg (gi w51 14) (congrArg Int.toNat (show a2.toInt = a2.toInt from rfl))).trans c84
                refine wk_top x57 (c84.symm.trans c58) ?_
                replace hM := hM.rd ((sI_at hox83).trans (congrArg Int32.toInt (c84.symm.trans c58)))
                refine lv_goto (tgt := 95) hx hb dX12_by_80 (by decide) ?_
                exact tk_iret hC hr hlocks hK ⟨hT, hF, hM.ret rfl, (Or.inr (Or.inl ⟨(show 0 ≤ x57.toInt from rx57), (show x57.toInt ≤ 100000100 from tx57), (show 0 ≤ a1.toInt by first | with_reducible assumption | omega), (show a1.toInt ≤ 3 by first | with_reducible assumption | omega), (show 0 ≤ a2.toInt by first | with_reducible assumption | omega), (show a2.toInt ≤ 9 by first | with_reducible assumption | omega), (show 0 ≤ a3.toInt by first | with_reducible assumption | omega), (show a3.toInt ≤ 9 by first | with_reducible assumption | omega), (show 0 ≤ a4.toInt by first | with_reducible assumption | omega), (show a4.toInt ≤ 0 by first | with_reducible assumption | omega), ⟨x18, c56, (show 1 ≤ x18.toInt by first | with_reducible assumption | omega), (show x18.toInt ≤ 10 by first | with_reducible assumption | omega)⟩, ⟨x8, c55, (show 1 ≤ x8.toInt by first | with_reducible assumption | omega), (show x8.toInt ≤ 4 by first | with_reducible assumption | omega)⟩⟩))⟩ hw dX12_by_95
            · replace hM := hM.call hv81 rfl
              refine lv_istore (lv' := [(5, .int r60), (0, .ref (ad 0)), (1, .int a1), (2, .int a2), (3, .int a3), (4, .int a4)]) hx hb dX12_by_67 hl (by decide) rfl (fun ls hl => ?_)
              refine lv_iload hx hb dX12_by_69 (lv_at hl 5 rfl) ?_
              refine lv_if_ne (tgt := 83) hx hb dX12_by_71 (by decide) (fun c85 => ?_) (fun c85 => ?_)
              · have c85 : ¬ a4.toInt = (0 : Int) := wk_eqF c85
                replace hM := hM.pos c85
                refine lv_iload hx hb dX12_by_83 (lv_at hl 0 rfl) ?_
                refine lv_if_ge (tgt := 93) hx hb dX12_by_85 (by decide) (fun _ => ?_) (fun c => (c (wk_le.mpr (show (0 : Int) ≤ r60.toInt by first | with_reducible assumption | omega))).elim)
                replace hM := hM.pos (by omega)
                refine lv_iload hx hb dX12_by_93 (lv_at hl 0 rfl) ?_
                exact tk_iret hC hr hlocks hK ⟨hT, hF, hM.ret rfl, (Or.inr (Or.inr (Or.inr (Or.inl ⟨(show 0 ≤ r60.toInt by first | with_reducible assumption | omega), (show r60.toInt ≤ 11 by first | with_reducible assumption | omega), (show 0 ≤ a1.toInt by first | with_reducible assumption | omega), (show a1.toInt ≤ 3 by first | with_reducible assumption | omega), (show 0 ≤ a2.toInt by first | with_reducible assumption | omega), (show a2.toInt ≤ 9 by first | with_reducible assumption | omega), (show 0 ≤ a3.toInt by first | with_reducible assumption | omega), (show a3.toInt ≤ 9 by first | with_reducible assumption | omega), (show 1 ≤ a4.toInt by first | with_reducible assumption | omega), (show a4.toInt ≤ 1 by first | with_reducible assumption | omega), ⟨x18, c56, (show 1 ≤ x18.toInt by first | with_reducible assumption | omega), (show x18.toInt ≤ 10 by first | with_reducible assumption | omega)⟩, ⟨x72, c73, (show 1 ≤ x72.toInt by first | with_reducible assumption | omega), (show x72.toInt ≤ 12 by first | with_reducible assumption | omega)⟩, ⟨x8, c55, (show 1 ≤ x8.toInt by first | with_reducible assumption | omega), (show x8.toInt ≤ 4 by first | with_reducible assumption | omega)⟩, c74⟩))))⟩ hw dX12_by_95
              · have c85 : a4.toInt = (0 : Int) := wk_eq.mp c85
                replace hM := hM.neg (fun q => q c85)
                refine lv_aload_n hx hb dX12_by_74 rfl (lv_at hl 1 rfl) ?_
                refine tk_getA hC hK hw hT hinX12 kM_at0 (by decide) rfl 29 (by decide) (List.mem_cons_of_mem _ uw_7_4) rfl rfl dX12_by_75 ?_
                refine lv_iload_n hx hb dX12_by_78 rfl (lv_at hl 3 rfl) ?_
                refine tk_iald hC hK hw hT kM_at14 rfl rfl (show 0 ≤ a2.toInt by first | with_reducible assumption | omega) (show a2.toInt < 10 by first | with_reducible assumption | omega) dX12_by_79 (fun x86 c87 rx86 tx86 => ?_)
                have hox86 := c87
                have c87 : gi w51 14 (a2.toInt).toNat = x86 := (congrArg (gi w51 14) (congrArg Int.toNat (show a2.toInt = a2.toInt from rfl))).trans c87
                refine wk_top x57 (c87.symm.trans c58) ?_
                replace hM := hM.rd ((sI_at hox86).trans (congrArg Int32.toInt (c87.symm.trans c58)))
                refine lv_goto (tgt := 95) hx hb dX12_by_80 (by decide) ?_
                exact tk_iret hC hr hlocks hK ⟨hT, hF, hM.ret rfl, (Or.inr (Or.inl ⟨(show 0 ≤ x57.toInt from rx57), (show x57.toInt ≤ 100000100 from tx57), (show 0 ≤ a1.toInt by first | with_reducible assumption | omega), (show a1.toInt ≤ 3 by first | with_reducible assumption | omega), (show 0 ≤ a2.toInt by first | with_reducible assumption | omega), (show a2.toInt ≤ 9 by first | with_reducible assumption | omega), (show 0 ≤ a3.toInt by first | with_reducible assumption | omega), (show a3.toInt ≤ 9 by first | with_reducible assumption | omega), (show 0 ≤ a4.toInt by first | with_reducible assumption | omega), (show a4.toInt ≤ 0 by first | with_reducible assumption | omega), ⟨x18, c56, (show 1 ≤ x18.toInt by first | with_reducible assumption | omega), (show x18.toInt ≤ 10 by first | with_reducible assumption | omega)⟩, ⟨x8, c55, (show 1 ≤ x8.toInt by first | with_reducible assumption | omega), (show x8.toInt ≤ 4 by first | with_reducible assumption | omega)⟩⟩))⟩ hw dX12_by_95
            · replace hM := hM.call hv81 rfl
              refine lv_istore (lv' := [(5, .int r60), (0, .ref (ad 0)), (1, .int a1), (2, .int a2), (3, .int a3), (4, .int a4)]) hx hb dX12_by_67 hl (by decide) rfl (fun ls hl => ?_)
              refine lv_iload hx hb dX12_by_69 (lv_at hl 5 rfl) ?_
              refine lv_if_ne (tgt := 83) hx hb dX12_by_71 (by decide) (fun c88 => ?_) (fun c88 => ?_)
              · have c88 : ¬ a4.toInt = (0 : Int) := wk_eqF c88
                replace hM := hM.pos c88
                refine lv_iload hx hb dX12_by_83 (lv_at hl 0 rfl) ?_
                refine lv_if_ge (tgt := 93) hx hb dX12_by_85 (by decide) (fun _ => ?_) (fun c => (c (wk_le.mpr (show (0 : Int) ≤ r60.toInt by first | with_reducible assumption | omega))).elim)
                replace hM := hM.pos (by omega)
                refine lv_iload hx hb dX12_by_93 (lv_at hl 0 rfl) ?_
                exact tk_iret hC hr hlocks hK ⟨hT, hF, hM.ret rfl, (Or.inr (Or.inr (Or.inr (Or.inr (Or.inl ⟨(show 0 ≤ r60.toInt by first | with_reducible assumption | omega), (show r60.toInt ≤ 11 by first | with_reducible assumption | omega), (show 0 ≤ a1.toInt by first | with_reducible assumption | omega), (show a1.toInt ≤ 3 by first | with_reducible assumption | omega), (show 0 ≤ a2.toInt by first | with_reducible assumption | omega), (show a2.toInt ≤ 9 by first | with_reducible assumption | omega), (show 0 ≤ a3.toInt by first | with_reducible assumption | omega), (show a3.toInt ≤ 9 by first | with_reducible assumption | omega), (show 1 ≤ a4.toInt by first | with_reducible assumption | omega), (show a4.toInt ≤ 1 by first | with_reducible assumption | omega), ⟨x18, c56, (show 1 ≤ x18.toInt by first | with_reducible assumption | omega), (show x18.toInt ≤ 10 by first | with_reducible assumption | omega)⟩, ⟨x77, c78, (show 1 ≤ x77.toInt by first | with_reducible assumption | omega), (show x77.toInt ≤ 12 by first | with_reducible assumption | omega)⟩, ⟨x8, c55, (show 1 ≤ x8.toInt by first | with_reducible assumption | omega), (show x8.toInt ≤ 4 by first | with_reducible assumption | omega)⟩, c79⟩)))))⟩ hw dX12_by_95
              · have c88 : a4.toInt = (0 : Int) := wk_eq.mp c88
                replace hM := hM.neg (fun q => q c88)
                refine lv_aload_n hx hb dX12_by_74 rfl (lv_at hl 1 rfl) ?_
                refine tk_getA hC hK hw hT hinX12 kM_at0 (by decide) rfl 29 (by decide) (List.mem_cons_of_mem _ uw_7_4) rfl rfl dX12_by_75 ?_
                refine lv_iload_n hx hb dX12_by_78 rfl (lv_at hl 3 rfl) ?_
                refine tk_iald hC hK hw hT kM_at14 rfl rfl (show 0 ≤ a2.toInt by first | with_reducible assumption | omega) (show a2.toInt < 10 by first | with_reducible assumption | omega) dX12_by_79 (fun x89 c90 rx89 tx89 => ?_)
                have hox89 := c90
                have c90 : gi w51 14 (a2.toInt).toNat = x89 := (congrArg (gi w51 14) (congrArg Int.toNat (show a2.toInt = a2.toInt from rfl))).trans c90
                refine wk_top x57 (c90.symm.trans c58) ?_
                replace hM := hM.rd ((sI_at hox89).trans (congrArg Int32.toInt (c90.symm.trans c58)))
                refine lv_goto (tgt := 95) hx hb dX12_by_80 (by decide) ?_
                exact tk_iret hC hr hlocks hK ⟨hT, hF, hM.ret rfl, (Or.inr (Or.inl ⟨(show 0 ≤ x57.toInt from rx57), (show x57.toInt ≤ 100000100 from tx57), (show 0 ≤ a1.toInt by first | with_reducible assumption | omega), (show a1.toInt ≤ 3 by first | with_reducible assumption | omega), (show 0 ≤ a2.toInt by first | with_reducible assumption | omega), (show a2.toInt ≤ 9 by first | with_reducible assumption | omega), (show 0 ≤ a3.toInt by first | with_reducible assumption | omega), (show a3.toInt ≤ 9 by first | with_reducible assumption | omega), (show 0 ≤ a4.toInt by first | with_reducible assumption | omega), (show a4.toInt ≤ 0 by first | with_reducible assumption | omega), ⟨x18, c56, (show 1 ≤ x18.toInt by first | with_reducible assumption | omega), (show x18.toInt ≤ 10 by first | with_reducible assumption | omega)⟩, ⟨x8, c55, (show 1 ≤ x8.toInt by first | with_reducible assumption | omega), (show x8.toInt ≤ 4 by first | with_reducible assumption | omega)⟩⟩))⟩ hw dX12_by_95
            · replace hM := hM.call (r' := (-1)) hv81 (by decide)
              refine lv_istore (lv' := [(5, .int (-1)), (0, .ref (ad 0)), (1, .int a1), (2, .int a2), (3, .int a3), (4, .int a4)]) hx hb dX12_by_67 hl (by decide) rfl (fun ls hl => ?_)
              refine lv_iload hx hb dX12_by_69 (lv_at hl 5 rfl) ?_
              refine lv_if_ne (tgt := 83) hx hb dX12_by_71 (by decide) (fun c91 => ?_) (fun c91 => ?_)
              · have c91 : ¬ a4.toInt = (0 : Int) := wk_eqF c91
                replace hM := hM.pos c91
                refine lv_iload hx hb dX12_by_83 (lv_at hl 0 rfl) ?_
                refine lv_if_ge (tgt := 93) hx hb dX12_by_85 (by decide) (fun c => absurd c (by decide)) (fun _ => ?_)
                replace hM := hM.neg (by decide)
                refine lv_bipush (v := (-2)) hx hb dX12_by_88 (by decide) ?_
                refine lv_goto (tgt := 95) hx hb dX12_by_90 (by decide) ?_
                exact tk_iret hC hr hlocks hK ⟨hT, hF, hM.ret (by decide), (Or.inl ⟨rfl, (show 0 ≤ a1.toInt by first | with_reducible assumption | omega), (show a1.toInt ≤ 3 by first | with_reducible assumption | omega), (show 0 ≤ a2.toInt by first | with_reducible assumption | omega), (show a2.toInt ≤ 9 by first | with_reducible assumption | omega), (show 0 ≤ a3.toInt by first | with_reducible assumption | omega), (show a3.toInt ≤ 9 by first | with_reducible assumption | omega), (show 0 ≤ a4.toInt by first | with_reducible assumption | omega), (show a4.toInt ≤ 1 by first | with_reducible assumption | omega), ⟨x18, c56, (show 1 ≤ x18.toInt by first | with_reducible assumption | omega), (show x18.toInt ≤ 10 by first | with_reducible assumption | omega)⟩, ⟨x8, c55, (show 1 ≤ x8.toInt by first | with_reducible assumption | omega), (show x8.toInt ≤ 4 by first | with_reducible assumption | omega)⟩⟩)⟩ hw dX12_by_95
              · have c91 : a4.toInt = (0 : Int) := wk_eq.mp c91
                replace hM := hM.neg (fun q => q c91)
                refine lv_aload_n hx hb dX12_by_74 rfl (lv_at hl 1 rfl) ?_
                refine tk_getA hC hK hw hT hinX12 kM_at0 (by decide) rfl 29 (by decide) (List.mem_cons_of_mem _ uw_7_4) rfl rfl dX12_by_75 ?_
                refine lv_iload_n hx hb dX12_by_78 rfl (lv_at hl 3 rfl) ?_
                refine tk_iald hC hK hw hT kM_at14 rfl rfl (show 0 ≤ a2.toInt by first | with_reducible assumption | omega) (show a2.toInt < 10 by first | with_reducible assumption | omega) dX12_by_79 (fun x92 c93 rx92 tx92 => ?_)
                have hox92 := c93
                have c93 : gi w51 14 (a2.toInt).toNat = x92 := (congrArg (gi w51 14) (congrArg Int.toNat (show a2.toInt = a2.toInt from rfl))).trans c93
                refine wk_top x57 (c93.symm.trans c58) ?_
                replace hM := hM.rd ((sI_at hox92).trans (congrArg Int32.toInt (c93.symm.trans c58)))
                refine lv_goto (tgt := 95) hx hb dX12_by_80 (by decide) ?_
                exact tk_iret hC hr hlocks hK ⟨hT, hF, hM.ret rfl, (Or.inr (Or.inl ⟨(show 0 ≤ x57.toInt from rx57), (show x57.toInt ≤ 100000100 from tx57), (show 0 ≤ a1.toInt by first | with_reducible assumption | omega), (show a1.toInt ≤ 3 by first | with_reducible assumption | omega), (show 0 ≤ a2.toInt by first | with_reducible assumption | omega), (show a2.toInt ≤ 9 by first | with_reducible assumption | omega), (show 0 ≤ a3.toInt by first | with_reducible assumption | omega), (show a3.toInt ≤ 9 by first | with_reducible assumption | omega), (show 0 ≤ a4.toInt by first | with_reducible assumption | omega), (show a4.toInt ≤ 0 by first | with_reducible assumption | omega), ⟨x18, c56, (show 1 ≤ x18.toInt by first | with_reducible assumption | omega), (show x18.toInt ≤ 10 by first | with_reducible assumption | omega)⟩, ⟨x8, c55, (show 1 ≤ x8.toInt by first | with_reducible assumption | omega), (show x8.toInt ≤ 4 by first | with_reducible assumption | omega)⟩⟩))⟩ hw dX12_by_95
          · have c59 : x57.toInt = (100000000 : Int) := wk_eq.mp c59
            replace hM := hM.neg (fun q => q c59)
            refine lv_bipush (v := (-2)) hx hb dX12_by_59 (by decide) ?_
            exact tk_iret hC hr hlocks hK ⟨hT, hF, hM.ret (by decide), (Or.inl ⟨rfl, (show 0 ≤ a1.toInt by first | with_reducible assumption | omega), (show a1.toInt ≤ 3 by first | with_reducible assumption | omega), (show 0 ≤ a2.toInt by first | with_reducible assumption | omega), (show a2.toInt ≤ 9 by first | with_reducible assumption | omega), (show 0 ≤ a3.toInt by first | with_reducible assumption | omega), (show a3.toInt ≤ 9 by first | with_reducible assumption | omega), (show 0 ≤ a4.toInt by first | with_reducible assumption | omega), (show a4.toInt ≤ 1 by first | with_reducible assumption | omega), ⟨x18, c56, (show 1 ≤ x18.toInt by first | with_reducible assumption | omega), (show x18.toInt ≤ 10 by first | with_reducible assumption | omega)⟩, ⟨x8, c55, (show 1 ≤ x8.toInt by first | with_reducible assumption | omega), (show x8.toInt ≤ 4 by first | with_reducible assumption | omega)⟩⟩)⟩ hw dX12_by_61
abbrev Pz_X12_seed_1 (ad : Nat → Nat) (cy : Nat → ClassId) (B : Int) (qr : Nat) (s1 : Int) (a1 : Int32) (w0 : va_W) : Int32 → va_W → Prop := fun r u => TW ksM ad cy B qr 12 u ∧ FE ksM [(71, 9, 9)] w0 u ∧ Ev (fun n => m_X12_seed n 0 a1.toInt (sI w0)) (r.toInt, sI u) ∧ ((0 ≤ r.toInt ∧ 0 ≤ a1.toInt) ∨ (r = (-1) ∧ a1.toInt ≤ (-1)))
set_option maxHeartbeats 4000000 in
set_option maxRecDepth 100000 in
theorem kz_X12_seed_1 (l : Launch) (adK adV : Nat → Nat) (dC : Nat → ClassId) (dI : Nat → Nat → Nat) (cy : Nat → ClassId) (ad : Nat → Nat) (B : Int) (hB0 : 100000 ≤ B) (hB1 : B ≤ 1073741824) (qr : Nat) (s1 : Int)  (a1 : Int32) (w0 : va_W) (sz : Nat) (hT : TW ksM ad cy B qr 12 w0)  : Met l yX12_seed (wu yX12_seed cX12_seed 3 (some .int)) ({ frames := 1, cells := 0, slots := 0, locals := 12 }) (va_Pc [.ref (ad 0), .int a1] (wpreS adK adV dC dI cy sz w0)) (va_Qi (Pz_X12_seed_1 ad cy B qr s1 a1 w0) (fun u : va_W => wpost dC dI cy (va_A w0 sz) u) (va_A w0 sz)) 0 0 (va_A w0 sz) := by
  refine Met.ofW (cc := cX12_seed) (maxL := 3) (ret := (some .int)) (by decide) rfl ?_
  intro p e s m args below meth c s₁ Bk hml hv
  obtain ⟨rfl, ⟨hsz, hP, hK, hD0⟩, hE, hSR⟩ := hv
  have hx := Bk.exec
  have hb := Bk.bytes
  have hr := Bk.returns
  have hlocks := Bk.notSynchronized
  have hC : CallFix p m c cX12_seed 3 s _ (wu yX12_seed cX12_seed 3 (some .int)) RX12 := ⟨hx, hb, hml, findClass_of_methodNamed Bk.named, atoms_spec (ws := (wu yX12_seed cX12_seed 3 (some .int))) Bk.pre⟩
  subst hsz
  have hD := hD0.self (sz := s.heap.size)
  generalize hAe : va_A w0 s.heap.size = A at hD hE ⊢
  have hA : ∀ q : Nat, s.heap.size ≤ q → A q := fun q h => by rw [← hAe]; exact Or.inr h
  have hw : Wd dC dI A s.heap s.heap [] w0 := ⟨hP, hD, va_S.rf⟩
  have hF : FE ksM [(71, 9, 9)] w0 w0 := FE.rf
  have hl := lv_entry ([.ref (ad 0), .int a1]) (n := 3) (Nat.le_of_ble_eq_true rfl)
  rw [lg_entry_eq]
  generalize (lg_sl ([.ref (ad 0), .int a1]) ++ List.replicate (3 - (lg_sl ([.ref (ad 0), .int a1])).length) Slot.unset).toArray = ls at hl ⊢
  have hl : lv_has ls 3 [(0, .ref (ad 0)), (1, .int a1)] := hl
  generalize hloc : ([] : List Loc) = locs at hw ⊢
  have hinX12 : ∀ w ∈ u_ws RX12 TX12 42, w ∈ (wu yX12_seed cX12_seed 3 (some .int)) := fun _ h => List.mem_cons_of_mem _ (up_71 h)
  have hM : TT (fun n => m_X12_seed n 0 a1.toInt (sI w0)) (fun n => m_X12_seed n 0 a1.toInt (sI w0)) := TT.rf
  refine lv_iload_n hx hb dX12_seed_0 rfl (lv_at hl 1 rfl) ?_
  refine lv_if_ge (tgt := 6) hx hb dX12_seed_1 (by decide) (fun c1 => ?_) (fun c1 => ?_)
  · have c1 : (0 : Int) ≤ a1.toInt := wk_le.mp c1
    replace hM := hM.pos c1
    refine lv_aload_n hx hb dX12_seed_6 rfl (lv_at hl 0 rfl) ?_
    refine tk_getA hC hK hw hT hinX12 kM_at0 (by decide) rfl 26 (by decide) (List.mem_cons_of_mem _ uw_7_1) rfl rfl dX12_seed_7 ?_
    refine lv_bipush (v := 9) hx hb dX12_seed_10 (by decide) ?_
    refine tk_ialdR hC hK hw hT kM_at12 rfl (by decide) (by decide) dX12_seed_12 (fun x2 c3 Ex2 => ?_)
    have hox2 := c3
    replace hM := hM.rd (sI_at hox2)
    have bx2 := tk_rgI rfl 9 1 1 0 2147483647 (by decide +kernel) ⟨0, by decide, by decide⟩ Ex2
    have c3 : gi w0 12 9 = x2 := c3
    refine lv_istore_n (lv' := [(2, .int x2), (0, .ref (ad 0)), (1, .int a1)]) hx hb dX12_seed_13 rfl hl (by decide) rfl (fun ls hl => ?_)
    refine lv_aload_n hx hb dX12_seed_14 rfl (lv_at hl 1 rfl) ?_
    refine tk_getA hC hK hw hT hinX12 kM_at0 (by decide) rfl 26 (by decide) (List.mem_cons_of_mem _ uw_7_1) rfl rfl dX12_seed_15 ?_
    refine lv_bipush (v := 9) hx hb dX12_seed_18 (by decide) ?_
    refine lv_iload_n hx hb dX12_seed_20 rfl (lv_at hl 2 rfl) ?_
    refine tk_iastR hC hK hw hT kM_at12 (by decide) rfl (by decide) (by decide) (tk_rgS rfl 9 1 1 0 2147483647 (by decide +kernel) ⟨0, by decide, by decide⟩ (show 0 ≤ a1.toInt by first | with_reducible assumption | omega) (wk_i32 a1).2) dX12_seed_21 (fun H locs w4 hw hT k6 c5 => ?_)
    replace hM := hM.wr (sI_up k6 c5)
    have hF := hF.put kM_at12 (inE_of (a := 9) (b := 9) (by decide) (by decide) (by decide)) k6
    have c5 : gi w4 12 9 = a1 := c5
    refine lv_iload_n hx hb dX12_seed_22 rfl (lv_at hl 0 rfl) ?_
    exact tk_iret hC hr hlocks hK ⟨hT, hF, hM.ret rfl, (Or.inl ⟨(show 0 ≤ x2.toInt by first | with_reducible assumption | omega), (show 0 ≤ a1.toInt by first | with_reducible assumption | omega)⟩)⟩ hw dX12_seed_23
  · have c1 : a1.toInt < (0 : Int) := wk_leF c1
    replace hM := hM.neg (Int.not_le.mpr c1)
    refine lv_iconst (v := (-1)) hx hb dX12_seed_4 (by decide) ?_
    exact tk_iret hC hr hlocks hK ⟨hT, hF, hM.ret (by decide), (Or.inr ⟨rfl, (show a1.toInt ≤ (-1) by first | with_reducible assumption | omega)⟩)⟩ hw dX12_seed_5
abbrev Pz_X0_spot_2 (ad : Nat → Nat) (cy : Nat → ClassId) (B : Int) (qr : Nat) (s1 : Int) (a0 : Int32) (a1 : Int32) (a2 : Int32) (w0 : va_W) : Int32 → va_W → Prop := fun r u => TW ksC ad cy B qr s1 u ∧ FE ksC ([] : List (Nat × Nat × Nat)) w0 u ∧ Ev (fun n => m_X0_spot n a0.toInt a1.toInt a2.toInt (sI w0)) (r.toInt, sI u) ∧ ((0 ≤ r.toInt ∧ r.toInt ≤ 1099))
set_option maxHeartbeats 4000000 in
set_option maxRecDepth 100000 in
theorem kz_X0_spot_2 (l : Launch) (adK adV : Nat → Nat) (dC : Nat → ClassId) (dI : Nat → Nat → Nat) (cy : Nat → ClassId) (ad : Nat → Nat) (B : Int) (hB0 : 2147483648 ≤ B) (hB1 : B ≤ 1152921504606846976) (qr : Nat) (s1 : Int)  (a0 : Int32) (ra0 : 0 ≤ a0.toInt) (ta0 : a0.toInt ≤ 10) (a1 : Int32) (ra1 : 0 ≤ a1.toInt) (ta1 : a1.toInt ≤ 9) (a2 : Int32) (ra2 : 0 ≤ a2.toInt) (ta2 : a2.toInt ≤ 9) (w0 : va_W) (sz : Nat) (hT : TW ksC ad cy B qr s1 w0)  : Met l yX0_spot (wu yX0_spot cX0_spot 3 (some .int)) ({ frames := 1, cells := 0, slots := 0, locals := 12 }) (va_Pc [.int a0, .int a1, .int a2] (wpreS adK adV dC dI cy sz w0)) (va_Qi (Pz_X0_spot_2 ad cy B qr s1 a0 a1 a2 w0) (fun u : va_W => wpost dC dI cy (va_A w0 sz) u) (va_A w0 sz)) 0 0 (va_A w0 sz) := by
  refine Met.ofW (cc := cX0_spot) (maxL := 3) (ret := (some .int)) (by decide) rfl ?_
  intro p e s m args below meth c s₁ Bk hml hv
  obtain ⟨rfl, ⟨hsz, hP, hK, hD0⟩, hE, hSR⟩ := hv
  have hx := Bk.exec
  have hb := Bk.bytes
  have hr := Bk.returns
  have hlocks := Bk.notSynchronized
  have hC : CallFix p m c cX0_spot 3 s _ (wu yX0_spot cX0_spot 3 (some .int)) RX0 := ⟨hx, hb, hml, findClass_of_methodNamed Bk.named, atoms_spec (ws := (wu yX0_spot cX0_spot 3 (some .int))) Bk.pre⟩
  subst hsz
  have hD := hD0.self (sz := s.heap.size)
  generalize hAe : va_A w0 s.heap.size = A at hD hE ⊢
  have hA : ∀ q : Nat, s.heap.size ≤ q → A q := fun q h => by rw [← hAe]; exact Or.inr h
  have hw : Wd dC dI A s.heap s.heap [] w0 := ⟨hP, hD, va_S.rf⟩
  have hF : FE ksC ([] : List (Nat × Nat × Nat)) w0 w0 := FE.rf
  have hl := lv_entry ([.int a0, .int a1, .int a2]) (n := 3) (Nat.le_of_ble_eq_true rfl)
  rw [lg_entry_eq]
  generalize (lg_sl ([.int a0, .int a1, .int a2]) ++ List.replicate (3 - (lg_sl ([.int a0, .int a1, .int a2])).length) Slot.unset).toArray = ls at hl ⊢
  have hl : lv_has ls 3 [(0, .int a0), (1, .int a1), (2, .int a2)] := hl
  generalize hloc : ([] : List Loc) = locs at hw ⊢
  have hM : TT (fun n => m_X0_spot n a0.toInt a1.toInt a2.toInt (sI w0)) (fun n => m_X0_spot n a0.toInt a1.toInt a2.toInt (sI w0)) := TT.rf
  refine lv_iload_n hx hb dX0_spot_0 rfl (lv_at hl 0 rfl) ?_
  refine lv_bipush (v := 100) hx hb dX0_spot_1 (by decide) ?_
  refine lv_imul hx hb dX0_spot_3 ?_
  refine lv_topi (fun x1 ex1 => ?_)
  have ezx1 := ex1
  have ex1 : x1.toInt = a0.toInt * (100 : Int) := by rw [ex1]; exact wk_mul (show (-2147483648) ≤ a0.toInt * (100 : Int) by omega) (show a0.toInt * (100 : Int) ≤ 2147483647 by omega)
  replace hM := hM.lt ex1.symm
  refine lv_iload_n hx hb dX0_spot_4 rfl (lv_at hl 1 rfl) ?_
  refine lv_bipush (v := 10) hx hb dX0_spot_5 (by decide) ?_
  refine lv_imul hx hb dX0_spot_7 ?_
  refine lv_topi (fun x2 ex2 => ?_)
  have ezx2 := ex2
  have ex2 : x2.toInt = a1.toInt * (10 : Int) := by rw [ex2]; exact wk_mul (show (-2147483648) ≤ a1.toInt * (10 : Int) by omega) (show a1.toInt * (10 : Int) ≤ 2147483647 by omega)
  replace hM := hM.lt ex2.symm
  refine lv_iadd hx hb dX0_spot_8 ?_
  refine lv_topi (fun x3 ex3 => ?_)
  have ezx3 := ex3
  have ex3 : x3.toInt = x1.toInt + x2.toInt := by rw [ex3]; exact wk_add (show (-2147483648) ≤ x1.toInt + x2.toInt by omega) (show x1.toInt + x2.toInt ≤ 2147483647 by omega)
  replace hM := hM.lt ex3.symm
  refine lv_iload_n hx hb dX0_spot_9 rfl (lv_at hl 2 rfl) ?_
  refine lv_iadd hx hb dX0_spot_10 ?_
  refine lv_topi (fun x4 ex4 => ?_)
  have ezx4 := ex4
  have ex4 : x4.toInt = x3.toInt + a2.toInt := by rw [ex4]; exact wk_add (show (-2147483648) ≤ x3.toInt + a2.toInt by omega) (show x3.toInt + a2.toInt ≤ 2147483647 by omega)
  replace hM := hM.lt ex4.symm
  exact tk_iret hC hr hlocks hK ⟨hT, hF, hM.ret rfl, ⟨(show 0 ≤ x4.toInt by first | with_reducible assumption | omega), (show x4.toInt ≤ 1099 by first | with_reducible assumption | omega)⟩⟩ hw dX0_spot_11
abbrev Pz_X0_signOf_2 (ad : Nat → Nat) (cy : Nat → ClassId) (B : Int) (qr : Nat) (s1 : Int) (a1 : Int32) (a2 : Int32) (w0 : va_W) : Int32 → va_W → Prop := fun r u => TW ksC ad cy B qr s1 u ∧ FE ksC ([] : List (Nat × Nat × Nat)) w0 u ∧ Ev (fun n => m_X0_signOf n 145 a1.toInt a2.toInt (sI w0)) (r.toInt, sI u) ∧ ((a1.toInt ≤ 3) ∨ (0 ≤ r.toInt ∧ r.toInt ≤ 3 ∧ 4 ≤ a1.toInt))
set_option maxHeartbeats 4000000 in
set_option maxRecDepth 100000 in
theorem kz_X0_signOf_2 (l : Launch) (adK adV : Nat → Nat) (dC : Nat → ClassId) (dI : Nat → Nat → Nat) (cy : Nat → ClassId) (ad : Nat → Nat) (B : Int) (hB0 : 2147483648 ≤ B) (hB1 : B ≤ 1152921504606846976) (qr : Nat) (s1 : Int)  (a1 : Int32) (ra1 : 0 ≤ a1.toInt) (ta1 : a1.toInt ≤ 10) (a2 : Int32) (ra2 : 0 ≤ a2.toInt) (ta2 : a2.toInt ≤ 11) (w0 : va_W) (sz : Nat) (hT : TW ksC ad cy B qr s1 w0)  : Met l yX0_signOf (wu yX0_signOf cX0_signOf 3 (some .int)) ({ frames := 2, cells := 0, slots := 0, locals := 34 }) (va_Pc [.ref (ad 145), .int a1, .int a2] (wpreS adK adV dC dI cy sz w0)) (va_Qi (Pz_X0_signOf_2 ad cy B qr s1 a1 a2 w0) (fun u : va_W => wpost dC dI cy (va_A w0 sz) u) (va_A w0 sz)) 0 0 (va_A w0 sz) := by
  refine Met.ofW (cc := cX0_signOf) (maxL := 3) (ret := (some .int)) (by decide) rfl ?_
  intro p e s m args below meth c s₁ Bk hml hv
  obtain ⟨rfl, ⟨hsz, hP, hK, hD0⟩, hE, hSR⟩ := hv
  have hx := Bk.exec
  have hb := Bk.bytes
  have hr := Bk.returns
  have hlocks := Bk.notSynchronized
  have hC : CallFix p m c cX0_signOf 3 s _ (wu yX0_signOf cX0_signOf 3 (some .int)) RX0 := ⟨hx, hb, hml, findClass_of_methodNamed Bk.named, atoms_spec (ws := (wu yX0_signOf cX0_signOf 3 (some .int))) Bk.pre⟩
  subst hsz
  have hD := hD0.self (sz := s.heap.size)
  generalize hAe : va_A w0 s.heap.size = A at hD hE ⊢
  have hA : ∀ q : Nat, s.heap.size ≤ q → A q := fun q h => by rw [← hAe]; exact Or.inr h
  have hw : Wd dC dI A s.heap s.heap [] w0 := ⟨hP, hD, va_S.rf⟩
  have hF : FE ksC ([] : List (Nat × Nat × Nat)) w0 w0 := FE.rf
  have hl := lv_entry ([.ref (ad 145), .int a1, .int a2]) (n := 3) (Nat.le_of_ble_eq_true rfl)
  rw [lg_entry_eq]
  generalize (lg_sl ([.ref (ad 145), .int a1, .int a2]) ++ List.replicate (3 - (lg_sl ([.ref (ad 145), .int a1, .int a2])).length) Slot.unset).toArray = ls at hl ⊢
  have hl : lv_has ls 3 [(0, .ref (ad 145)), (1, .int a1), (2, .int a2)] := hl
  generalize hloc : ([] : List Loc) = locs at hw ⊢
  have hinX0 : ∀ w ∈ u_ws RX0 TX0 4, w ∈ (wu yX0_signOf cX0_signOf 3 (some .int)) := fun _ h => List.mem_cons_of_mem _ (up_77 h)
  have hinX5 : ∀ w ∈ u_ws RX5 TX5 14, w ∈ (wu yX0_signOf cX0_signOf 3 (some .int)) := fun _ h => List.mem_cons_of_mem _ (up_76 h)
  have hM : TT (fun n => m_X0_signOf n 145 a1.toInt a2.toInt (sI w0)) (fun n => m_X0_signOf n 145 a1.toInt a2.toInt (sI w0)) := TT.rf
  refine lv_iload_n hx hb dX0_signOf_0 rfl (lv_at hl 1 rfl) ?_
  refine lv_iconst (v := 4) hx hb dX0_signOf_1 (by decide) ?_
  refine lv_icmp_ge (tgt := 20) hx hb dX0_signOf_2 (by decide) (fun c1 => ?_) (fun c1 => ?_)
  · have c1 : (4 : Int) ≤ a1.toInt := wk_le.mp c1
    replace hM := hM.pos c1
    refine lv_aload_n hx hb dX0_signOf_20 rfl (lv_at hl 0 rfl) ?_
    refine tk_getA hC hK hw hT hinX0 kC_at145 (by decide) rfl 0 (by decide) (List.mem_cons_of_mem _ uw_4_17) rfl rfl dX0_signOf_21 ?_
    refine tk_getO hC hK hw hT hinX5 kC_at38 (by decide) rfl 0 (by decide) (List.mem_cons_of_mem _ uw_36_9) rfl rfl dX0_signOf_24 ?_
    refine lv_iload_n hx hb dX0_signOf_27 rfl (lv_at hl 2 rfl) ?_
    refine lv_iload_n hx hb dX0_signOf_28 rfl (lv_at hl 1 rfl) ?_
    refine lv_iconst (v := 4) hx hb dX0_signOf_29 (by decide) ?_
    refine lv_isub hx hb dX0_signOf_30 ?_
    refine lv_topi (fun x2 ex2 => ?_)
    have ezx2 := ex2
    have ex2 : x2.toInt = a1.toInt - (4 : Int) := by rw [ex2]; exact wk_sub (show (-2147483648) ≤ a1.toInt - (4 : Int) by omega) (show a1.toInt - (4 : Int) ≤ 2147483647 by omega)
    replace hM := hM.lt ex2.symm
    refine tk_Vi hC hK hw hT hA hE hSR kC_at39 (by decide) rfl (kz_X7_signOn_1 l adK adV dC dI cy ad B hB0 (Int.le_trans hB1 (by decide)) qr s1   a2 (show 0 ≤ a2.toInt from ra2) (show a2.toInt ≤ 11 from ta2) x2 (show 0 ≤ x2.toInt by first | with_reducible assumption | omega) (show x2.toInt ≤ 6 by first | with_reducible assumption | omega) w0 s.heap.size hT ) (cwV 2 hC.2.2.2.2 uV_RX0_59 rfl rfl rfl (by decide +kernel) ⟨Nat.le_of_ble_eq_true rfl, Nat.le_of_ble_eq_true rfl⟩) rfl hl.1 rfl (Nat.le_of_ble_eq_true rfl) dX0_signOf_31 (fun r3 w5 H locs hp4 hw => ?_)
    obtain ⟨hT, k6, hv10, hg9⟩ := hp4
    have hF := hF.tr k6 (by decide)
    obtain ⟨g7, g8⟩ := hg9
    replace hM := hM.call hv10 rfl
    exact tk_iret hC hr hlocks hK ⟨hT, hF, hM.ret rfl, (Or.inr ⟨(show 0 ≤ r3.toInt by first | with_reducible assumption | omega), (show r3.toInt ≤ 3 by first | with_reducible assumption | omega), (show 4 ≤ a1.toInt by first | with_reducible assumption | omega)⟩)⟩ hw dX0_signOf_34
  · have c1 : a1.toInt < (4 : Int) := wk_leF c1
    replace hM := hM.neg (Int.not_le.mpr c1)
    refine lv_aload_n hx hb dX0_signOf_5 rfl (lv_at hl 0 rfl) ?_
    refine tk_getA hC hK hw hT hinX0 kC_at145 (by decide) rfl 0 (by decide) (List.mem_cons_of_mem _ uw_4_17) rfl rfl dX0_signOf_6 ?_
    refine tk_getO hC hK hw hT hinX5 kC_at38 (by decide) rfl 1 (by decide) (List.mem_cons_of_mem _ uw_36_19) rfl rfl dX0_signOf_9 ?_
    refine lv_iload_n hx hb dX0_signOf_12 rfl (lv_at hl 1 rfl) ?_
    refine lv_bipush (v := 12) hx hb dX0_signOf_13 (by decide) ?_
    refine lv_imul hx hb dX0_signOf_15 ?_
    refine lv_topi (fun x11 ex11 => ?_)
    have ezx11 := ex11
    have ex11 : x11.toInt = a1.toInt * (12 : Int) := by rw [ex11]; exact wk_mul (show (-2147483648) ≤ a1.toInt * (12 : Int) by omega) (show a1.toInt * (12 : Int) ≤ 2147483647 by omega)
    replace hM := hM.lt ex11.symm
    refine lv_iload_n hx hb dX0_signOf_16 rfl (lv_at hl 2 rfl) ?_
    refine lv_iadd hx hb dX0_signOf_17 ?_
    refine lv_topi (fun x12 ex12 => ?_)
    have ezx12 := ex12
    have ex12 : x12.toInt = x11.toInt + a2.toInt := by rw [ex12]; exact wk_add (show (-2147483648) ≤ x11.toInt + a2.toInt by omega) (show x11.toInt + a2.toInt ≤ 2147483647 by omega)
    replace hM := hM.lt ex12.symm
    refine tk_iald hC hK hw hT kC_at48 rfl rfl (show 0 ≤ x12.toInt by first | with_reducible assumption | omega) (show x12.toInt < 48 by first | with_reducible assumption | omega) dX0_signOf_18 (fun x13 c14 rx13 tx13 => ?_)
    have hox13 := c14
    replace hM := hM.rd (sI_at hox13)
    exact tk_iret hC hr hlocks hK ⟨hT, hF, hM.ret rfl, (Or.inl (show a1.toInt ≤ 3 by first | with_reducible assumption | omega))⟩ hw dX0_signOf_19
abbrev Pz_X0_drawStreets_2 (ad : Nat → Nat) (cy : Nat → ClassId) (B : Int) (qr : Nat) (s1 : Int) (a1 : Int32) (w0 : va_W) : va_W → Prop := fun u => TW ksC ad cy B qr s1 u ∧ FE ksC [(42, 0, 1100), (43, 0, 1100)] w0 u ∧ Ev (fun n => m_X0_drawStreets n 145 a1.toInt (sI w0)) (0, sI u) ∧ ((True))
set_option maxHeartbeats 4000000 in
set_option maxRecDepth 100000 in
theorem kz_X0_drawStreets_2 (l : Launch) (adK adV : Nat → Nat) (dC : Nat → ClassId) (dI : Nat → Nat → Nat) (cy : Nat → ClassId) (ad : Nat → Nat) (B : Int) (hB0 : 2147483648 ≤ B) (hB1 : B ≤ 1152921504606846976) (qr : Nat) (s1 : Int)  (a1 : Int32) (ra1 : 0 ≤ a1.toInt) (ta1 : a1.toInt ≤ 10) (w0 : va_W) (sz : Nat) (hT : TW ksC ad cy B qr s1 w0)  : Met l yX0_drawStreets (wu yX0_drawStreets cX0_drawStreets 7 none) ({ frames := 3, cells := 0, slots := 0, locals := 56 }) (va_Pc [.ref (ad 145), .int a1] (wpreS adK adV dC dI cy sz w0)) (va_Qv (Pz_X0_drawStreets_2 ad cy B qr s1 a1 w0) (fun u : va_W => wpost dC dI cy (va_A w0 sz) u) (va_A w0 sz)) 0 0 (va_A w0 sz) := by
  refine Met.ofW (cc := cX0_drawStreets) (maxL := 7) (ret := none) (by decide) rfl ?_
  intro p e s m args below meth c s₁ Bk hml hv
  obtain ⟨rfl, ⟨hsz, hP, hK, hD0⟩, hE, hSR⟩ := hv
  have hx := Bk.exec
  have hb := Bk.bytes
  have hr := Bk.returns
  have hlocks := Bk.notSynchronized
  have hC : CallFix p m c cX0_drawStreets 7 s _ (wu yX0_drawStreets cX0_drawStreets 7 none) RX0 := ⟨hx, hb, hml, findClass_of_methodNamed Bk.named, atoms_spec (ws := (wu yX0_drawStreets cX0_drawStreets 7 none)) Bk.pre⟩
  subst hsz
  have hD := hD0.self (sz := s.heap.size)
  generalize hAe : va_A w0 s.heap.size = A at hD hE ⊢
  have hA : ∀ q : Nat, s.heap.size ≤ q → A q := fun q h => by rw [← hAe]; exact Or.inr h
  have hw : Wd dC dI A s.heap s.heap [] w0 := ⟨hP, hD, va_S.rf⟩
  have hF : FE ksC [(42, 0, 1100), (43, 0, 1100)] w0 w0 := FE.rf
  have hl := lv_entry ([.ref (ad 145), .int a1]) (n := 7) (Nat.le_of_ble_eq_true rfl)
  rw [lg_entry_eq]
  generalize (lg_sl ([.ref (ad 145), .int a1]) ++ List.replicate (7 - (lg_sl ([.ref (ad 145), .int a1])).length) Slot.unset).toArray = ls at hl ⊢
  have hl : lv_has ls 7 [(0, .ref (ad 145)), (1, .int a1)] := hl
  generalize hloc : ([] : List Loc) = locs at hw ⊢
  have hinX7 : ∀ w ∈ u_ws RX7 TX7 12, w ∈ (wu yX0_drawStreets cX0_drawStreets 7 none) := fun _ h => List.mem_cons_of_mem _ (up_73 h)
  have hinX0 : ∀ w ∈ u_ws RX0 TX0 4, w ∈ (wu yX0_drawStreets cX0_drawStreets 7 none) := fun _ h => List.mem_cons_of_mem _ (up_77 h)
  have hinX5 : ∀ w ∈ u_ws RX5 TX5 14, w ∈ (wu yX0_drawStreets cX0_drawStreets 7 none) := fun _ h => List.mem_cons_of_mem _ (up_76 h)
  have L72 : ∀ (n72 : Nat) (v72_3 : Int32) (H : Heap) (locs : List Loc) (ls : Array Slot) (w1 : va_W), 0 ≤ a1.toInt → a1.toInt ≤ 10 → 0 ≤ v72_3.toInt → v72_3.toInt ≤ 12 → (12 - v72_3.toInt).toNat < n72 → Wd dC dI A s.heap H locs w1 → TW ksC ad cy B qr s1 w1 → FE ksC [(42, 0, 1100), (43, 0, 1100)] w0 w1 → TT (fun n => m_X0_drawStreets n 145 a1.toInt (sI w0)) (fun n => j_X0_drawStreets 145 n 72 [a1.toInt, v72_3.toInt] (sI w1)) → lv_has ls 7 [(0, .ref (ad 145)), (1, .int a1), (2, .ref (ad 39)), (3, .int v72_3)] → W p l e ({ frames := 3, cells := 0, slots := 0, locals := 56 }) s m (List.toArray [.ref (ad 145), .int a1]) below meth c H locs 0 0 (MQ below (va_Qv (Pz_X0_drawStreets_2 ad cy B qr s1 a1 w0) (fun u : va_W => wpost dC dI cy A u) A) (List.toArray [.ref (ad 145), .int a1]) s 0 0 A) (F0 m 72 ls []) := by
    intro n72
    induction n72 with
    | zero => intro v72_3 H locs ls w1 r2 t3 r4 t5 hm72 hw hT hF hM hl; omega
    | succ n72 ih72 =>
      intro v72_3 H locs ls w1 r2 t3 r4 t5 hm72 hw hT hF hM hl
      have L91 : ∀ (n91 : Nat) (v91_4 : Int32) (v91_5 : Int32) (f91_39_9 : Int32) (H : Heap) (locs : List Loc) (ls : Array Slot) (w6 : va_W), 0 ≤ a1.toInt → a1.toInt ≤ 10 → 0 ≤ v72_3.toInt → v72_3.toInt ≤ 11 → 0 ≤ v91_5.toInt → v91_5.toInt ≤ 2 → 1 ≤ f91_39_9.toInt → f91_39_9.toInt ≤ 12 → (2 - v91_5.toInt).toNat < n91 → Wd dC dI A s.heap H locs w6 → TW ksC ad cy B qr s1 w6 → FE ksC [(42, 0, 1100), (43, 0, 1100)] w0 w6 → gi w6 39 9 = f91_39_9 → TT (fun n => m_X0_drawStreets n 145 a1.toInt (sI w0)) (fun n => j_X0_drawStreets 145 n 91 [a1.toInt, v72_3.toInt, v91_4.toInt, v91_5.toInt] (sI w6)) → lv_has ls 7 [(0, .ref (ad 145)), (1, .int a1), (2, .ref (ad 39)), (3, .int v72_3), (4, .int v91_4), (5, .int v91_5)] → W p l e ({ frames := 3, cells := 0, slots := 0, locals := 56 }) s m (List.toArray [.ref (ad 145), .int a1]) below meth c H locs 0 0 (MQ below (va_Qv (Pz_X0_drawStreets_2 ad cy B qr s1 a1 w0) (fun u : va_W => wpost dC dI cy A u) A) (List.toArray [.ref (ad 145), .int a1]) s 0 0 A) (F0 m 91 ls []) := by
        intro n91
        induction n91 with
        | zero => intro v91_4 v91_5 f91_39_9 H locs ls w6 r7 t8 r9 t10 r11 t12 r13 t14 hm91 hw hT hF c15 hM hl; omega
        | succ n91 ih91 =>
          intro v91_4 v91_5 f91_39_9 H locs ls w6 r7 t8 r9 t10 r11 t12 r13 t14 hm91 hw hT hF c15 hM hl
          have J158 : ∀ (v158_6 : Int32) (H : Heap) (locs : List Loc) (ls : Array Slot) (w16 : va_W), 0 ≤ a1.toInt → a1.toInt ≤ 10 → 0 ≤ v72_3.toInt → v72_3.toInt ≤ 11 → 0 ≤ v91_5.toInt → v91_5.toInt ≤ 1 → 0 ≤ v158_6.toInt → v158_6.toInt ≤ 1099 → 1 ≤ f91_39_9.toInt → f91_39_9.toInt ≤ 12 → Wd dC dI A s.heap H locs w16 → TW ksC ad cy B qr s1 w16 → FE ksC [(42, 0, 1100), (43, 0, 1100)] w0 w16 → gi w16 39 9 = f91_39_9 → TT (fun n => m_X0_drawStreets n 145 a1.toInt (sI w0)) (fun n => b_X0_drawStreets_158 (j_X0_drawStreets 145 n) n 145 (a1.toInt) (v72_3.toInt) (v91_4.toInt) (v91_5.toInt) (sI w16)) → lv_has ls 7 [(0, .ref (ad 145)), (1, .int a1), (2, .ref (ad 39)), (3, .int v72_3), (4, .int v91_4), (5, .int v91_5), (6, .int v158_6)] → W p l e ({ frames := 3, cells := 0, slots := 0, locals := 56 }) s m (List.toArray [.ref (ad 145), .int a1]) below meth c H locs 0 0 (MQ below (va_Qv (Pz_X0_drawStreets_2 ad cy B qr s1 a1 w0) (fun u : va_W => wpost dC dI cy A u) A) (List.toArray [.ref (ad 145), .int a1]) s 0 0 A) (F0 m 158 ls []) := by
            intro v158_6 H locs ls w16 r17 t18 r19 t20 r21 t22 r23 t24 r25 t26 hw hT hF c27 hM hl
            obtain ⟨x28, ex28⟩ : ∃ y : Int32, y = v91_5 + Int32.ofInt 1 := ⟨_, rfl⟩
            have erx28 := ex28
            refine lv_iinc (v := x28) (lv' := [(5, .int x28), (0, .ref (ad 145)), (1, .int a1), (2, .ref (ad 39)), (3, .int v72_3), (4, .int v91_4), (6, .int v158_6)]) hx hb dX0_drawStreets_158 hl (k := 5) rfl ex28.symm (by decide) rfl (fun ls hl => ?_)
            have ex28 : x28.toInt = v91_5.toInt + 1 := by rw [ex28]; exact wk_add (y := 1) (show -2147483648 ≤ v91_5.toInt + 1 by omega) (show v91_5.toInt + 1 ≤ 2147483647 by omega)
            replace hM := hM.lt ex28.symm
            refine lv_goto (tgt := 91) hx hb dX0_drawStreets_161 (by decide) ?_
            exact ih91 v91_4 x28 f91_39_9 H locs ls w16 (show 0 ≤ a1.toInt from r17) (show a1.toInt ≤ 10 from t18) (show 0 ≤ v72_3.toInt from r19) (show v72_3.toInt ≤ 11 from t20) (show 0 ≤ x28.toInt by first | with_reducible assumption | omega) (show x28.toInt ≤ 2 by first | with_reducible assumption | omega) (show 1 ≤ f91_39_9.toInt from r25) (show f91_39_9.toInt ≤ 12 from t26) (show (2 - x28.toInt).toNat < n91 by first | exact tn_lt hm91 (by omega) (by omega) | omega) hw hT hF c27 hM (lv_sub hl [1, 2, 3, 4, 5, 0] rfl)
          replace hM := hM.suc (fun _ => e_X0_drawStreets_91)
          refine lv_iload hx hb dX0_drawStreets_91 (lv_at hl 5 rfl) ?_
          refine lv_iconst (v := 2) hx hb dX0_drawStreets_93 (by decide) ?_
          refine lv_icmp_ge (tgt := 164) hx hb dX0_drawStreets_94 (by decide) (fun c29 => ?_) (fun c29 => ?_)
          · have c29 : (2 : Int) ≤ v91_5.toInt := wk_le.mp c29
            replace hM := hM.pos c29
            obtain ⟨x30, ex30⟩ : ∃ y : Int32, y = v72_3 + Int32.ofInt 1 := ⟨_, rfl⟩
            have erx30 := ex30
            refine lv_iinc (v := x30) (lv' := [(3, .int x30), (0, .ref (ad 145)), (1, .int a1), (2, .ref (ad 39)), (4, .int v91_4), (5, .int v91_5)]) hx hb dX0_drawStreets_164 hl (k := 3) rfl ex30.symm (by decide) rfl (fun ls hl => ?_)
            have ex30 : x30.toInt = v72_3.toInt + 1 := by rw [ex30]; exact wk_add (y := 1) (show -2147483648 ≤ v72_3.toInt + 1 by omega) (show v72_3.toInt + 1 ≤ 2147483647 by omega)
            replace hM := hM.lt ex30.symm
            refine lv_goto (tgt := 72) hx hb dX0_drawStreets_167 (by decide) ?_
            exact ih72 x30 H locs ls w6 (show 0 ≤ a1.toInt from r7) (show a1.toInt ≤ 10 from t8) (show 0 ≤ x30.toInt by first | with_reducible assumption | omega) (show x30.toInt ≤ 12 by first | with_reducible assumption | omega) (show (12 - x30.toInt).toNat < n72 by first | exact tn_lt hm72 (by omega) (by omega) | omega) hw hT hF hM (lv_sub hl [1, 2, 3, 0] rfl)
          · have c29 : v91_5.toInt < (2 : Int) := wk_leF c29
            replace hM := hM.neg (Int.not_le.mpr c29)
            refine lv_iload_n hx hb dX0_drawStreets_97 rfl (lv_at hl 1 rfl) ?_
            refine lv_aload_n hx hb dX0_drawStreets_98 rfl (lv_at hl 2 rfl) ?_
            refine lv_iload_n hx hb dX0_drawStreets_99 rfl (lv_at hl 3 rfl) ?_
            refine lv_iconst (v := 1) hx hb dX0_drawStreets_100 (by decide) ?_
            refine lv_iload hx hb dX0_drawStreets_101 (lv_at hl 5 rfl) ?_
            refine lv_isub hx hb dX0_drawStreets_103 ?_
            refine lv_topi (fun x31 ex31 => ?_)
            have ezx31 := ex31
            have ex31 : x31.toInt = (1 : Int) - v91_5.toInt := by rw [ex31]; exact wk_sub (show (-2147483648) ≤ (1 : Int) - v91_5.toInt by omega) (show (1 : Int) - v91_5.toInt ≤ 2147483647 by omega)
            replace hM := hM.lt ex31.symm
            refine tk_Vi hC hK hw hT hA hE hSR kC_at39 (by decide) rfl (kz_X7_cornerAcross_3 l adK adV dC dI cy ad B hB0 (Int.le_trans hB1 (by decide)) qr s1   v72_3 (show 0 ≤ v72_3.toInt from r9) (show v72_3.toInt ≤ 11 from t10) x31 (show 0 ≤ x31.toInt by first | with_reducible assumption | omega) (show x31.toInt ≤ 1 by first | with_reducible assumption | omega) w6 H.size hT ) (cwV 2 hC.2.2.2.2 uV_RX0_71 rfl rfl rfl (by decide +kernel) ⟨Nat.le_of_ble_eq_true rfl, Nat.le_of_ble_eq_true rfl⟩) rfl hl.1 rfl (Nat.le_of_ble_eq_true rfl) dX0_drawStreets_104 (fun r32 w34 H locs hp33 hw => ?_)
            obtain ⟨hT, k35, hv39, hg38⟩ := hp33
            have hF := hF.tr k35 (by decide)
            have c40 := k35.gi kC_at39 (by decide) c15
            obtain ⟨g36, g37⟩ := hg38
            replace hM := hM.call hv39 rfl
            refine lv_aload_n hx hb dX0_drawStreets_107 rfl (lv_at hl 2 rfl) ?_
            refine lv_iload_n hx hb dX0_drawStreets_108 rfl (lv_at hl 3 rfl) ?_
            refine lv_iload hx hb dX0_drawStreets_109 (lv_at hl 5 rfl) ?_
            refine tk_Vi hC hK hw hT hA hE hSR kC_at39 (by decide) rfl (kz_X7_cornerAcross_3 l adK adV dC dI cy ad B hB0 (Int.le_trans hB1 (by decide)) qr s1   v72_3 (show 0 ≤ v72_3.toInt from r9) (show v72_3.toInt ≤ 11 from t10) v91_5 (show 0 ≤ v91_5.toInt from r11) (show v91_5.toInt ≤ 1 by first | with_reducible assumption | omega) w34 H.size hT ) (cwV 2 hC.2.2.2.2 uV_RX0_71 rfl rfl rfl (by decide +kernel) ⟨Nat.le_of_ble_eq_true rfl, Nat.le_of_ble_eq_true rfl⟩) rfl hl.1 rfl (Nat.le_of_ble_eq_true rfl) dX0_drawStreets_111 (fun r41 w43 H locs hp42 hw => ?_)
            obtain ⟨hT, k44, hv48, hg47⟩ := hp42
            have hF := hF.tr k44 (by decide)
            have c49 := k44.gi kC_at39 (by decide) c40
            obtain ⟨g45, g46⟩ := hg47
            replace hM := hM.call hv48 rfl
            refine tk_Si hC hK hw hT hA hE hSR (kz_X0_spot_2 l adK adV dC dI cy ad B hB0 (Int.le_trans hB1 (by decide)) qr s1   a1 (show 0 ≤ a1.toInt from r7) (show a1.toInt ≤ 10 from t8) r32 (show 0 ≤ r32.toInt by first | with_reducible assumption | omega) (show r32.toInt ≤ 9 by first | with_reducible assumption | omega) r41 (show 0 ≤ r41.toInt by first | with_reducible assumption | omega) (show r41.toInt ≤ 9 by first | with_reducible assumption | omega) w43 H.size hT ) (va_cwS 3 hC.2.2.2.2 uS_RX0_47 rfl rfl rfl (by decide +kernel) ⟨Nat.le_of_ble_eq_true rfl, Nat.le_of_ble_eq_true rfl⟩) rfl hl.1 rfl (Nat.le_of_ble_eq_true rfl) dX0_drawStreets_114 (fun r50 w52 H locs hp51 hw => ?_)
            obtain ⟨hT, k53, hv57, hg56⟩ := hp51
            have hF := hF.tr k53 (by decide)
            have c58 := k53.gi kC_at39 (by decide) c49
            obtain ⟨g54, g55⟩ := hg56
            replace hM := hM.call hv57 rfl
            refine lv_istore (lv' := [(6, .int r50), (0, .ref (ad 145)), (1, .int a1), (2, .ref (ad 39)), (3, .int v72_3), (4, .int v91_4), (5, .int v91_5)]) hx hb dX0_drawStreets_117 hl (by decide) rfl (fun ls hl => ?_)
            refine lv_iload hx hb dX0_drawStreets_119 (lv_at hl 5 rfl) ?_
            refine lv_iload hx hb dX0_drawStreets_121 (lv_at hl 6 rfl) ?_
            refine lv_ishr hx hb dX0_drawStreets_123 ?_
            refine lv_topi (fun x59 ex59 => ?_)
            have ezx59 := ex59
            replace hM := hM.lt (o32_e (f := fun x y => x >>> (y &&& 31)) ezx59 rfl rfl)
            refine lv_iconst (v := 1) hx hb dX0_drawStreets_124 (by decide) ?_
            refine lv_iand hx hb dX0_drawStreets_125 ?_
            refine lv_topi (fun x60 ex60 => ?_)
            have ezx60 := ex60
            have bx60 : 0 ≤ x60.toInt ∧ x60.toInt ≤ (1 : Int) := by rw [ex60]; exact wk_and (by decide)
            replace hM := hM.lt (o32_e (f := fun x y => x &&& y) ezx60 rfl (by decide))
            refine lv_if_eq (tgt := 158) hx hb dX0_drawStreets_126 (by decide) (fun c61 => ?_) (fun c61 => ?_)
            · have c61 : x60.toInt = (0 : Int) := wk_eq.mp c61
              replace hM := hM.pos c61
              exact J158 r50 H locs ls w52 (show 0 ≤ a1.toInt from r7) (show a1.toInt ≤ 10 from t8) (show 0 ≤ v72_3.toInt from r9) (show v72_3.toInt ≤ 11 from t10) (show 0 ≤ v91_5.toInt from r11) (show v91_5.toInt ≤ 1 by first | with_reducible assumption | omega) (show 0 ≤ r50.toInt by first | with_reducible assumption | omega) (show r50.toInt ≤ 1099 by first | with_reducible assumption | omega) (show 1 ≤ f91_39_9.toInt from r13) (show f91_39_9.toInt ≤ 12 from t14)  hw hT hF c58 hM (lv_sub hl [1, 2, 3, 4, 5, 6, 0] rfl)
            · have c61 : ¬ x60.toInt = (0 : Int) := wk_eqF c61
              replace hM := hM.neg c61
              refine lv_aload_n hx hb dX0_drawStreets_129 rfl (lv_at hl 3 rfl) ?_
              refine tk_getO hC hK hw hT hinX7 kC_at39 (by decide) rfl 1 (by decide) (List.mem_cons_of_mem _ uw_36_11) rfl rfl dX0_drawStreets_130 ?_
              refine lv_iload_n hx hb dX0_drawStreets_133 rfl (lv_at hl 4 rfl) ?_
              refine tk_iald hC hK hw hT kC_at41 rfl rfl (show 0 ≤ v72_3.toInt from r9) (show v72_3.toInt < 13 from Int.lt_of_le_of_lt t10 (by decide)) dX0_drawStreets_134 (fun x62 c63 rx62 tx62 => ?_)
              have hox62 := c63
              replace hM := hM.rd (sI_at hox62)
              refine lv_aload_n hx hb dX0_drawStreets_135 rfl (lv_at hl 1 rfl) ?_
              refine tk_getA hC hK hw hT hinX0 kC_at145 (by decide) rfl 1 (by decide) (List.mem_cons_of_mem _ uw_4_14) rfl rfl dX0_drawStreets_136 ?_
              refine lv_iload hx hb dX0_drawStreets_139 (lv_at hl 0 rfl) ?_
              refine tk_iald hC hK hw hT kC_at146 rfl rfl (show 0 ≤ r50.toInt by first | with_reducible assumption | omega) (show r50.toInt < 1100 by first | with_reducible assumption | omega) dX0_drawStreets_141 (fun x64 c65 rx64 tx64 => ?_)
              have hox64 := c65
              replace hM := hM.rd (sI_at hox64)
              refine lv_icmp_ge (tgt := 158) hx hb dX0_drawStreets_142 (by decide) (fun c66 => ?_) (fun c66 => ?_)
              · have c66 : x64.toInt ≤ x62.toInt := wk_le.mp c66
                replace hM := hM.pos c66
                exact J158 r50 H locs ls w52 (show 0 ≤ a1.toInt from r7) (show a1.toInt ≤ 10 from t8) (show 0 ≤ v72_3.toInt from r9) (show v72_3.toInt ≤ 11 from t10) (show 0 ≤ v91_5.toInt from r11) (show v91_5.toInt ≤ 1 by first | with_reducible assumption | omega) (show 0 ≤ r50.toInt by first | with_reducible assumption | omega) (show r50.toInt ≤ 1099 by first | with_reducible assumption | omega) (show 1 ≤ f91_39_9.toInt from r13) (show f91_39_9.toInt ≤ 12 from t14)  hw hT hF c58 hM (lv_sub hl [1, 2, 3, 4, 5, 6, 0] rfl)
              · have c66 : x62.toInt < x64.toInt := wk_leF c66
                replace hM := hM.neg (Int.not_le.mpr c66)
                refine lv_aload_n hx hb dX0_drawStreets_145 rfl (lv_at hl 1 rfl) ?_
                refine tk_getA hC hK hw hT hinX0 kC_at145 (by decide) rfl 1 (by decide) (List.mem_cons_of_mem _ uw_4_14) rfl rfl dX0_drawStreets_146 ?_
                refine lv_iload hx hb dX0_drawStreets_149 (lv_at hl 0 rfl) ?_
                refine lv_aload_n hx hb dX0_drawStreets_151 rfl (lv_at hl 3 rfl) ?_
                refine tk_getO hC hK hw hT hinX7 kC_at39 (by decide) rfl 1 (by decide) (List.mem_cons_of_mem _ uw_36_11) rfl rfl dX0_drawStreets_152 ?_
                refine lv_iload_n hx hb dX0_drawStreets_155 rfl (lv_at hl 4 rfl) ?_
                refine tk_iald hC hK hw hT kC_at41 rfl rfl (show 0 ≤ v72_3.toInt from r9) (show v72_3.toInt < 13 from Int.lt_of_le_of_lt t10 (by decide)) dX0_drawStreets_156 (fun x67 c68 rx67 tx67 => ?_)
                have hox67 := c68
                replace hM := hM.rd (sI_at hox67)
                refine tk_iast hC hK hw hT kC_at146 (by decide) rfl rfl (show 0 ≤ r50.toInt by first | with_reducible assumption | omega) (show r50.toInt < 1100 by first | with_reducible assumption | omega) (show 0 ≤ x67.toInt from rx67) (show x67.toInt ≤ 1000000 from Int.le_trans tx67 (by decide)) dX0_drawStreets_157 (fun H locs w69 hw hT k71 c70 => ?_)
                replace hM := hM.wr (sI_up k71 c70)
                have hF := hF.put kC_at146 (inE_of (a := 0) (b := 1100) (by decide) (show 0 ≤ r50.toInt.toNat by omega) (show r50.toInt.toNat ≤ 1100 by omega)) k71
                have c72 := k71.gi (Or.inl (tk_ne kC_at39 kC_at146 (by decide))) c58
                exact J158 r50 H locs ls w69 (show 0 ≤ a1.toInt from r7) (show a1.toInt ≤ 10 from t8) (show 0 ≤ v72_3.toInt from r9) (show v72_3.toInt ≤ 11 from t10) (show 0 ≤ v91_5.toInt from r11) (show v91_5.toInt ≤ 1 by first | with_reducible assumption | omega) (show 0 ≤ r50.toInt by first | with_reducible assumption | omega) (show r50.toInt ≤ 1099 by first | with_reducible assumption | omega) (show 1 ≤ f91_39_9.toInt from r13) (show f91_39_9.toInt ≤ 12 from t14)  hw hT hF c72 hM (lv_sub hl [1, 2, 3, 4, 5, 6, 0] rfl)
      replace hM := hM.suc (fun _ => e_X0_drawStreets_72)
      refine lv_iload_n hx hb dX0_drawStreets_72 rfl (lv_at hl 3 rfl) ?_
      refine lv_aload_n hx hb dX0_drawStreets_73 rfl (lv_at hl 2 rfl) ?_
      refine tk_geti hC hK hw hT hinX7 kC_at39 (by decide) rfl 9 (by decide) (List.mem_cons_of_mem _ uw_36_10) rfl rfl dX0_drawStreets_74 (fun x73 c74 rx73 tx73 => ?_)
      replace hM := hM.rd (sI_at c74)
      refine lv_icmp_ge (tgt := 170) hx hb dX0_drawStreets_77 (by decide) (fun c75 => ?_) (fun c75 => ?_)
      · have c75 : x73.toInt ≤ v72_3.toInt := wk_le.mp c75
        replace hM := hM.pos c75
        exact tk_vret hC hr hlocks hK ⟨hT, hF, hM.ret rfl, trivial⟩ hw dX0_drawStreets_170
      · have c75 : v72_3.toInt < x73.toInt := wk_leF c75
        replace hM := hM.neg (Int.not_le.mpr c75)
        refine lv_aload_n hx hb dX0_drawStreets_80 rfl (lv_at hl 0 rfl) ?_
        refine lv_iload_n hx hb dX0_drawStreets_81 rfl (lv_at hl 1 rfl) ?_
        refine lv_iload_n hx hb dX0_drawStreets_82 rfl (lv_at hl 3 rfl) ?_
        refine tk_Vi hC hK hw hT hA hE hSR kC_at145 (by decide) rfl (kz_X0_signOf_2 l adK adV dC dI cy ad B hB0 (Int.le_trans hB1 (by decide)) qr s1   a1 (show 0 ≤ a1.toInt from r2) (show a1.toInt ≤ 10 from t3) v72_3 (show 0 ≤ v72_3.toInt from r4) (show v72_3.toInt ≤ 11 by first | with_reducible assumption | omega) w1 H.size hT ) (cwV 2 hC.2.2.2.2 uV_RX0_68 rfl rfl rfl (by decide +kernel) ⟨Nat.le_of_ble_eq_true rfl, Nat.le_of_ble_eq_true rfl⟩) rfl hl.1 rfl (Nat.le_of_ble_eq_true rfl) dX0_drawStreets_83 (fun r76 w78 H locs hp77 hw => ?_)
        obtain ⟨hT, k79, hv85, hg84⟩ := hp77
        have hF := hF.tr k79 (by decide)
        have c86 := k79.gi kC_at39 (by decide) c74
        rcases hg84 with g80 | ⟨g81, g82, g83⟩
        · replace hM := hM.call hv85 rfl
          refine lv_istore (lv' := [(4, .int r76), (0, .ref (ad 145)), (1, .int a1), (2, .ref (ad 39)), (3, .int v72_3)]) hx hb dX0_drawStreets_86 hl (by decide) rfl (fun ls hl => ?_)
          refine lv_iconst (v := 0) hx hb dX0_drawStreets_88 (by decide) ?_
          refine lv_istore (lv' := [(5, .int 0), (4, .int r76), (0, .ref (ad 145)), (1, .int a1), (2, .ref (ad 39)), (3, .int v72_3)]) hx hb dX0_drawStreets_89 hl (by decide) rfl (fun ls hl => ?_)
          exact L91 ((2 - (0 : Int)).toNat + 1) r76 0 x73 H locs ls w78 (show 0 ≤ a1.toInt from r2) (show a1.toInt ≤ 10 from t3) (show 0 ≤ v72_3.toInt from r4) (show v72_3.toInt ≤ 11 by first | with_reducible assumption | omega) (by decide) (by decide) (show 1 ≤ x73.toInt by first | with_reducible assumption | omega) (show x73.toInt ≤ 12 from tx73) (Nat.lt_succ_self _) hw hT hF c86 hM (lv_sub hl [2, 3, 4, 5, 1, 0] rfl)
        · replace hM := hM.call hv85 rfl
          refine lv_istore (lv' := [(4, .int r76), (0, .ref (ad 145)), (1, .int a1), (2, .ref (ad 39)), (3, .int v72_3)]) hx hb dX0_drawStreets_86 hl (by decide) rfl (fun ls hl => ?_)
          refine lv_iconst (v := 0) hx hb dX0_drawStreets_88 (by decide) ?_
          refine lv_istore (lv' := [(5, .int 0), (4, .int r76), (0, .ref (ad 145)), (1, .int a1), (2, .ref (ad 39)), (3, .int v72_3)]) hx hb dX0_drawStreets_89 hl (by decide) rfl (fun ls hl => ?_)
          exact L91 ((2 - (0 : Int)).toNat + 1) r76 0 x73 H locs ls w78 (show 0 ≤ a1.toInt from r2) (show a1.toInt ≤ 10 from t3) (show 0 ≤ v72_3.toInt from r4) (show v72_3.toInt ≤ 11 by first | with_reducible assumption | omega) (by decide) (by decide) (show 1 ≤ x73.toInt by first | with_reducible assumption | omega) (show x73.toInt ≤ 12 from tx73) (Nat.lt_succ_self _) hw hT hF c86 hM (lv_sub hl [2, 3, 4, 5, 1, 0] rfl)
  have L2 : ∀ (n2 : Nat) (v2_2 : Int32) (H : Heap) (locs : List Loc) (ls : Array Slot) (w87 : va_W), 0 ≤ a1.toInt → a1.toInt ≤ 10 → 0 ≤ v2_2.toInt → v2_2.toInt ≤ 10 → (10 - v2_2.toInt).toNat < n2 → Wd dC dI A s.heap H locs w87 → TW ksC ad cy B qr s1 w87 → FE ksC [(42, 0, 1100), (43, 0, 1100)] w0 w87 → TT (fun n => m_X0_drawStreets n 145 a1.toInt (sI w0)) (fun n => j_X0_drawStreets 145 n 2 [a1.toInt, v2_2.toInt] (sI w87)) → lv_has ls 7 [(0, .ref (ad 145)), (1, .int a1), (2, .int v2_2)] → W p l e ({ frames := 3, cells := 0, slots := 0, locals := 56 }) s m (List.toArray [.ref (ad 145), .int a1]) below meth c H locs 0 0 (MQ below (va_Qv (Pz_X0_drawStreets_2 ad cy B qr s1 a1 w0) (fun u : va_W => wpost dC dI cy A u) A) (List.toArray [.ref (ad 145), .int a1]) s 0 0 A) (F0 m 2 ls []) := by
    intro n2
    induction n2 with
    | zero => intro v2_2 H locs ls w87 r88 t89 r90 t91 hm2 hw hT hF hM hl; omega
    | succ n2 ih2 =>
      intro v2_2 H locs ls w87 r88 t89 r90 t91 hm2 hw hT hF hM hl
      have L10 : ∀ (n10 : Nat) (v10_3 : Int32) (H : Heap) (locs : List Loc) (ls : Array Slot) (w92 : va_W), 0 ≤ a1.toInt → a1.toInt ≤ 10 → 0 ≤ v2_2.toInt → v2_2.toInt ≤ 9 → 0 ≤ v10_3.toInt → v10_3.toInt ≤ 10 → (10 - v10_3.toInt).toNat < n10 → Wd dC dI A s.heap H locs w92 → TW ksC ad cy B qr s1 w92 → FE ksC [(42, 0, 1100), (43, 0, 1100)] w0 w92 → TT (fun n => m_X0_drawStreets n 145 a1.toInt (sI w0)) (fun n => j_X0_drawStreets 145 n 10 [a1.toInt, v2_2.toInt, v10_3.toInt] (sI w92)) → lv_has ls 7 [(0, .ref (ad 145)), (1, .int a1), (2, .int v2_2), (3, .int v10_3)] → W p l e ({ frames := 3, cells := 0, slots := 0, locals := 56 }) s m (List.toArray [.ref (ad 145), .int a1]) below meth c H locs 0 0 (MQ below (va_Qv (Pz_X0_drawStreets_2 ad cy B qr s1 a1 w0) (fun u : va_W => wpost dC dI cy A u) A) (List.toArray [.ref (ad 145), .int a1]) s 0 0 A) (F0 m 10 ls []) := by
        intro n10
        induction n10 with
        | zero => intro v10_3 H locs ls w92 r93 t94 r95 t96 r97 t98 hm10 hw hT hF hM hl; omega
        | succ n10 ih10 =>
          intro v10_3 H locs ls w92 r93 t94 r95 t96 r97 t98 hm10 hw hT hF hM hl
          replace hM := hM.suc (fun _ => e_X0_drawStreets_10)
          refine lv_iload_n hx hb dX0_drawStreets_10 rfl (lv_at hl 3 rfl) ?_
          refine lv_bipush (v := 10) hx hb dX0_drawStreets_11 (by decide) ?_
          refine lv_icmp_ge (tgt := 56) hx hb dX0_drawStreets_13 (by decide) (fun c99 => ?_) (fun c99 => ?_)
          · have c99 : (10 : Int) ≤ v10_3.toInt := wk_le.mp c99
            replace hM := hM.pos c99
            obtain ⟨x100, ex100⟩ : ∃ y : Int32, y = v2_2 + Int32.ofInt 1 := ⟨_, rfl⟩
            have erx100 := ex100
            refine lv_iinc (v := x100) (lv' := [(2, .int x100), (0, .ref (ad 145)), (1, .int a1), (3, .int v10_3)]) hx hb dX0_drawStreets_56 hl (k := 2) rfl ex100.symm (by decide) rfl (fun ls hl => ?_)
            have ex100 : x100.toInt = v2_2.toInt + 1 := by rw [ex100]; exact wk_add (y := 1) (show -2147483648 ≤ v2_2.toInt + 1 by omega) (show v2_2.toInt + 1 ≤ 2147483647 by omega)
            replace hM := hM.lt ex100.symm
            refine lv_goto (tgt := 2) hx hb dX0_drawStreets_59 (by decide) ?_
            exact ih2 x100 H locs ls w92 (show 0 ≤ a1.toInt from r93) (show a1.toInt ≤ 10 from t94) (show 0 ≤ x100.toInt by first | with_reducible assumption | omega) (show x100.toInt ≤ 10 by first | with_reducible assumption | omega) (show (10 - x100.toInt).toNat < n2 by first | exact tn_lt hm2 (by omega) (by omega) | omega) hw hT hF hM (lv_sub hl [1, 2, 0] rfl)
          · have c99 : v10_3.toInt < (10 : Int) := wk_leF c99
            replace hM := hM.neg (Int.not_le.mpr c99)
            refine lv_aload_n hx hb dX0_drawStreets_16 rfl (lv_at hl 0 rfl) ?_
            refine tk_getA hC hK hw hT hinX0 kC_at145 (by decide) rfl 1 (by decide) (List.mem_cons_of_mem _ uw_4_14) rfl rfl dX0_drawStreets_17 ?_
            refine lv_iload_n hx hb dX0_drawStreets_20 rfl (lv_at hl 1 rfl) ?_
            refine lv_iload_n hx hb dX0_drawStreets_21 rfl (lv_at hl 2 rfl) ?_
            refine lv_iload_n hx hb dX0_drawStreets_22 rfl (lv_at hl 3 rfl) ?_
            refine tk_Si hC hK hw hT hA hE hSR (kz_X0_spot_2 l adK adV dC dI cy ad B hB0 (Int.le_trans hB1 (by decide)) qr s1   a1 (show 0 ≤ a1.toInt from r93) (show a1.toInt ≤ 10 from t94) v2_2 (show 0 ≤ v2_2.toInt from r95) (show v2_2.toInt ≤ 9 from t96) v10_3 (show 0 ≤ v10_3.toInt from r97) (show v10_3.toInt ≤ 9 by first | with_reducible assumption | omega) w92 H.size hT ) (va_cwS 3 hC.2.2.2.2 uS_RX0_47 rfl rfl rfl (by decide +kernel) ⟨Nat.le_of_ble_eq_true rfl, Nat.le_of_ble_eq_true rfl⟩) rfl hl.1 rfl (Nat.le_of_ble_eq_true rfl) dX0_drawStreets_23 (fun r101 w103 H locs hp102 hw => ?_)
            obtain ⟨hT, k104, hv108, hg107⟩ := hp102
            have hF := hF.tr k104 (by decide)
            obtain ⟨g105, g106⟩ := hg107
            replace hM := hM.call hv108 rfl
            refine lv_iload_n hx hb dX0_drawStreets_26 rfl (lv_at hl 2 rfl) ?_
            refine lv_iload_n hx hb dX0_drawStreets_27 rfl (lv_at hl 3 rfl) ?_
            refine lv_icmp_ne (tgt := 35) hx hb dX0_drawStreets_28 (by decide) (fun c109 => ?_) (fun c109 => ?_)
            · have c109 : ¬ v2_2.toInt = v10_3.toInt := wk_eqF c109
              replace hM := hM.pos c109
              refine lv_ldc (v := 1000000) hx hb hC.2.2.2.1 (hC.2.2.2.2 _ (List.mem_cons_of_mem _ uw_36_8)) dX0_drawStreets_35 ?_
              refine tk_iast hC hK hw hT kC_at146 (by decide) rfl rfl (show 0 ≤ r101.toInt by first | with_reducible assumption | omega) (show r101.toInt < 1100 by first | with_reducible assumption | omega) (by decide) (by decide) dX0_drawStreets_37 (fun H locs w110 hw hT k112 c111 => ?_)
              replace hM := hM.wr (sI_upc k112 c111 (by decide))
              have hF := hF.put kC_at146 (inE_of (a := 0) (b := 1100) (by decide) (show 0 ≤ r101.toInt.toNat by omega) (show r101.toInt.toNat ≤ 1100 by omega)) k112
              refine lv_aload_n hx hb dX0_drawStreets_38 rfl (lv_at hl 0 rfl) ?_
              refine tk_getA hC hK hw hT hinX0 kC_at145 (by decide) rfl 2 (by decide) (List.mem_cons_of_mem _ uw_4_15) rfl rfl dX0_drawStreets_39 ?_
              refine lv_iload_n hx hb dX0_drawStreets_42 rfl (lv_at hl 1 rfl) ?_
              refine lv_iload_n hx hb dX0_drawStreets_43 rfl (lv_at hl 2 rfl) ?_
              refine lv_iload_n hx hb dX0_drawStreets_44 rfl (lv_at hl 3 rfl) ?_
              refine tk_Si hC hK hw hT hA hE hSR (kz_X0_spot_2 l adK adV dC dI cy ad B hB0 (Int.le_trans hB1 (by decide)) qr s1   a1 (show 0 ≤ a1.toInt from r93) (show a1.toInt ≤ 10 from t94) v2_2 (show 0 ≤ v2_2.toInt from r95) (show v2_2.toInt ≤ 9 from t96) v10_3 (show 0 ≤ v10_3.toInt from r97) (show v10_3.toInt ≤ 9 by first | with_reducible assumption | omega) w110 H.size hT ) (va_cwS 3 hC.2.2.2.2 uS_RX0_47 rfl rfl rfl (by decide +kernel) ⟨Nat.le_of_ble_eq_true rfl, Nat.le_of_ble_eq_true rfl⟩) rfl hl.1 rfl (Nat.le_of_ble_eq_true rfl) dX0_drawStreets_45 (fun r113 w115 H locs hp114 hw => ?_)
              obtain ⟨hT, k116, hv120, hg119⟩ := hp114
              have hF := hF.tr k116 (by decide)
              obtain ⟨g117, g118⟩ := hg119
              replace hM := hM.call hv120 rfl
              refine lv_iconst (v := (-1)) hx hb dX0_drawStreets_48 (by decide) ?_
              refine tk_iast hC hK hw hT kC_at147 (by decide) rfl rfl (show 0 ≤ r113.toInt by first | with_reducible assumption | omega) (show r113.toInt < 1100 by first | with_reducible assumption | omega) (by decide) (by decide) dX0_drawStreets_49 (fun H locs w121 hw hT k123 c122 => ?_)
              replace hM := hM.wr (sI_upc k123 c122 (by decide))
              have hF := hF.put kC_at147 (inE_of (a := 0) (b := 1100) (by decide) (show 0 ≤ r113.toInt.toNat by omega) (show r113.toInt.toNat ≤ 1100 by omega)) k123
              obtain ⟨x124, ex124⟩ : ∃ y : Int32, y = v10_3 + Int32.ofInt 1 := ⟨_, rfl⟩
              have erx124 := ex124
              refine lv_iinc (v := x124) (lv' := [(3, .int x124), (0, .ref (ad 145)), (1, .int a1), (2, .int v2_2)]) hx hb dX0_drawStreets_50 hl (k := 3) rfl ex124.symm (by decide) rfl (fun ls hl => ?_)
              have ex124 : x124.toInt = v10_3.toInt + 1 := by rw [ex124]; exact wk_add (y := 1) (show -2147483648 ≤ v10_3.toInt + 1 by omega) (show v10_3.toInt + 1 ≤ 2147483647 by omega)
              replace hM := hM.lt ex124.symm
              refine lv_goto (tgt := 10) hx hb dX0_drawStreets_53 (by decide) ?_
              exact ih10 x124 H locs ls w121 (show 0 ≤ a1.toInt from r93) (show a1.toInt ≤ 10 from t94) (show 0 ≤ v2_2.toInt from r95) (show v2_2.toInt ≤ 9 from t96) (show 0 ≤ x124.toInt by first | with_reducible assumption | omega) (show x124.toInt ≤ 10 by first | with_reducible assumption | omega) (show (10 - x124.toInt).toNat < n10 by first | exact tn_lt hm10 (by omega) (by omega) | omega) hw hT hF hM (lv_sub hl [1, 2, 3, 0] rfl)
            · have c109 : v2_2.toInt = v10_3.toInt := wk_eq.mp c109
              replace hM := hM.neg (fun q => q c109)
              refine lv_iconst (v := 0) hx hb dX0_drawStreets_31 (by decide) ?_
              refine lv_goto (tgt := 37) hx hb dX0_drawStreets_32 (by decide) ?_
              refine tk_iast hC hK hw hT kC_at146 (by decide) rfl rfl (show 0 ≤ r101.toInt by first | with_reducible assumption | omega) (show r101.toInt < 1100 by first | with_reducible assumption | omega) (by decide) (by decide) dX0_drawStreets_37 (fun H locs w125 hw hT k127 c126 => ?_)
              replace hM := hM.wr (sI_upc k127 c126 (by decide))
              have hF := hF.put kC_at146 (inE_of (a := 0) (b := 1100) (by decide) (show 0 ≤ r101.toInt.toNat by omega) (show r101.toInt.toNat ≤ 1100 by omega)) k127
              refine lv_aload_n hx hb dX0_drawStreets_38 rfl (lv_at hl 0 rfl) ?_
              refine tk_getA hC hK hw hT hinX0 kC_at145 (by decide) rfl 2 (by decide) (List.mem_cons_of_mem _ uw_4_15) rfl rfl dX0_drawStreets_39 ?_
              refine lv_iload_n hx hb dX0_drawStreets_42 rfl (lv_at hl 1 rfl) ?_
              refine lv_iload_n hx hb dX0_drawStreets_43 rfl (lv_at hl 2 rfl) ?_
              refine lv_iload_n hx hb dX0_drawStreets_44 rfl (lv_at hl 3 rfl) ?_
              refine tk_Si hC hK hw hT hA hE hSR (kz_X0_spot_2 l adK adV dC dI cy ad B hB0 (Int.le_trans hB1 (by decide)) qr s1   a1 (show 0 ≤ a1.toInt from r93) (show a1.toInt ≤ 10 from t94) v2_2 (show 0 ≤ v2_2.toInt from r95) (show v2_2.toInt ≤ 9 from t96) v10_3 (show 0 ≤ v10_3.toInt from r97) (show v10_3.toInt ≤ 9 by first | with_reducible assumption | omega) w125 H.size hT ) (va_cwS 3 hC.2.2.2.2 uS_RX0_47 rfl rfl rfl (by decide +kernel) ⟨Nat.le_of_ble_eq_true rfl, Nat.le_of_ble_eq_true rfl⟩) rfl hl.1 rfl (Nat.le_of_ble_eq_true rfl) dX0_drawStreets_45 (fun r128 w130 H locs hp129 hw => ?_)
              obtain ⟨hT, k131, hv135, hg134⟩ := hp129
              have hF := hF.tr k131 (by decide)
              obtain ⟨g132, g133⟩ := hg134
              replace hM := hM.call hv135 rfl
              refine lv_iconst (v := (-1)) hx hb dX0_drawStreets_48 (by decide) ?_
              refine tk_iast hC hK hw hT kC_at147 (by decide) rfl rfl (show 0 ≤ r128.toInt by first | with_reducible assumption | omega) (show r128.toInt < 1100 by first | with_reducible assumption | omega) (by decide) (by decide) dX0_drawStreets_49 (fun H locs w136 hw hT k138 c137 => ?_)
              replace hM := hM.wr (sI_upc k138 c137 (by decide))
              have hF := hF.put kC_at147 (inE_of (a := 0) (b := 1100) (by decide) (show 0 ≤ r128.toInt.toNat by omega) (show r128.toInt.toNat ≤ 1100 by omega)) k138
              obtain ⟨x139, ex139⟩ : ∃ y : Int32, y = v10_3 + Int32.ofInt 1 := ⟨_, rfl⟩
              have erx139 := ex139
              refine lv_iinc (v := x139) (lv' := [(3, .int x139), (0, .ref (ad 145)), (1, .int a1), (2, .int v2_2)]) hx hb dX0_drawStreets_50 hl (k := 3) rfl ex139.symm (by decide) rfl (fun ls hl => ?_)
              have ex139 : x139.toInt = v10_3.toInt + 1 := by rw [ex139]; exact wk_add (y := 1) (show -2147483648 ≤ v10_3.toInt + 1 by omega) (show v10_3.toInt + 1 ≤ 2147483647 by omega)
              replace hM := hM.lt ex139.symm
              refine lv_goto (tgt := 10) hx hb dX0_drawStreets_53 (by decide) ?_
              exact ih10 x139 H locs ls w136 (show 0 ≤ a1.toInt from r93) (show a1.toInt ≤ 10 from t94) (show 0 ≤ v2_2.toInt from r95) (show v2_2.toInt ≤ 9 from t96) (show 0 ≤ x139.toInt by first | with_reducible assumption | omega) (show x139.toInt ≤ 10 by first | with_reducible assumption | omega) (show (10 - x139.toInt).toNat < n10 by first | exact tn_lt hm10 (by omega) (by omega) | omega) hw hT hF hM (lv_sub hl [1, 2, 3, 0] rfl)
      replace hM := hM.suc (fun _ => e_X0_drawStreets_2)
      refine lv_iload_n hx hb dX0_drawStreets_2 rfl (lv_at hl 2 rfl) ?_
      refine lv_bipush (v := 10) hx hb dX0_drawStreets_3 (by decide) ?_
      refine lv_icmp_ge (tgt := 62) hx hb dX0_drawStreets_5 (by decide) (fun c140 => ?_) (fun c140 => ?_)
      · have c140 : (10 : Int) ≤ v2_2.toInt := wk_le.mp c140
        replace hM := hM.pos c140
        refine lv_aload_n hx hb dX0_drawStreets_62 rfl (lv_at hl 0 rfl) ?_
        refine tk_getA hC hK hw hT hinX0 kC_at145 (by decide) rfl 0 (by decide) (List.mem_cons_of_mem _ uw_4_17) rfl rfl dX0_drawStreets_63 ?_
        refine tk_getO hC hK hw hT hinX5 kC_at38 (by decide) rfl 0 (by decide) (List.mem_cons_of_mem _ uw_36_9) rfl rfl dX0_drawStreets_66 ?_
        refine lv_astore_n (lv' := [(2, .ref (ad 39)), (0, .ref (ad 145)), (1, .int a1)]) hx hb dX0_drawStreets_69 rfl hl (by decide) rfl (fun ls hl => ?_)
        refine lv_iconst (v := 0) hx hb dX0_drawStreets_70 (by decide) ?_
        refine lv_istore_n (lv' := [(3, .int 0), (2, .ref (ad 39)), (0, .ref (ad 145)), (1, .int a1)]) hx hb dX0_drawStreets_71 rfl hl (by decide) rfl (fun ls hl => ?_)
        exact L72 ((12 - (0 : Int)).toNat + 1) 0 H locs ls w87 (show 0 ≤ a1.toInt from r88) (show a1.toInt ≤ 10 from t89) (by decide) (by decide) (Nat.lt_succ_self _) hw hT hF hM (lv_sub hl [2, 3, 1, 0] rfl)
      · have c140 : v2_2.toInt < (10 : Int) := wk_leF c140
        replace hM := hM.neg (Int.not_le.mpr c140)
        refine lv_iconst (v := 0) hx hb dX0_drawStreets_8 (by decide) ?_
        refine lv_istore_n (lv' := [(3, .int 0), (0, .ref (ad 145)), (1, .int a1), (2, .int v2_2)]) hx hb dX0_drawStreets_9 rfl hl (by decide) rfl (fun ls hl => ?_)
        exact L10 ((10 - (0 : Int)).toNat + 1) 0 H locs ls w87 (show 0 ≤ a1.toInt from r88) (show a1.toInt ≤ 10 from t89) (show 0 ≤ v2_2.toInt from r90) (show v2_2.toInt ≤ 9 by first | with_reducible assumption | omega) (by decide) (by decide) (Nat.lt_succ_self _) hw hT hF hM (lv_sub hl [1, 2, 3, 0] rfl)
  have hM : TT (fun n => m_X0_drawStreets n 145 a1.toInt (sI w0)) (fun n => m_X0_drawStreets n 145 a1.toInt (sI w0)) := TT.rf
  refine lv_iconst (v := 0) hx hb dX0_drawStreets_0 (by decide) ?_
  refine lv_istore_n (lv' := [(2, .int 0), (0, .ref (ad 145)), (1, .int a1)]) hx hb dX0_drawStreets_1 rfl hl (by decide) rfl (fun ls hl => ?_)
  exact L2 ((10 - (0 : Int)).toNat + 1) 0 s.heap locs ls w0 (show 0 ≤ a1.toInt from ra1) (show a1.toInt ≤ 10 from ta1) (by decide) (by decide) (Nat.lt_succ_self _) hw hT hF hM (lv_sub hl [1, 2, 0] rfl)
