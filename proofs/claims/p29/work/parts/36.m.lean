abbrev P_X12_streetOf_4 (ad : Nat → Nat) (cy : Nat → ClassId) (B : Int) (qr : Nat) (s1 : Int) (a1 : Int32) (a2 : Int32) (w0 : va_W) : Int32 → va_W → Prop := fun r u => TW ksM ad cy B qr 12 u ∧ FE ksM ([] : List (Nat × Nat × Nat)) w0 u ∧ ((0 ≤ r.toInt ∧ r.toInt ≤ 9))
set_option maxHeartbeats 4000000 in
set_option maxRecDepth 100000 in
theorem k_X12_streetOf_4 (l : Launch) (adK adV : Nat → Nat) (dC : Nat → ClassId) (dI : Nat → Nat → Nat) (cy : Nat → ClassId) (ad : Nat → Nat) (B : Int) (hB0 : 100000 ≤ B) (hB1 : B ≤ 1073741824) (qr : Nat) (s1 : Int)  (a1 : Int32) (ra1 : 0 ≤ a1.toInt) (ta1 : a1.toInt ≤ 11) (a2 : Int32) (ra2 : 3 ≤ a2.toInt) (ta2 : a2.toInt ≤ 9) (w0 : va_W) (sz : Nat) (hT : TW ksM ad cy B qr 12 w0)  : Met l yX12_streetOf wsX12_streetOf ({ frames := 1, cells := 0, slots := 0, locals := 12 }) (va_Pc [.ref (ad 0), .int a1, .int a2] (wpreS adK adV dC dI cy sz w0)) (va_Qi (P_X12_streetOf_4 ad cy B qr s1 a1 a2 w0) (fun u : va_W => wpost dC dI cy (va_A w0 sz) u) (va_A w0 sz)) 0 0 (va_A w0 sz) := by
  refine Met.ofW (cc := cX12_streetOf) (maxL := 3) (ret := (some .int)) (by decide) rfl ?_
  intro p e s m args below meth c s₁ Bk hml hv
  obtain ⟨rfl, ⟨hsz, hP, hK, hD0⟩, hE, hSR⟩ := hv
  have hx := Bk.exec
  have hb := Bk.bytes
  have hr := Bk.returns
  have hlocks := Bk.notSynchronized
  have hC : CallFix p m c cX12_streetOf 3 s _ wsX12_streetOf RX12 := ⟨hx, hb, hml, findClass_of_methodNamed Bk.named, atoms_spec (ws := wsX12_streetOf) Bk.pre⟩
  subst hsz
  have hD := hD0.self (sz := s.heap.size)
  generalize hAe : va_A w0 s.heap.size = A at hD hE ⊢
  have hA : ∀ q : Nat, s.heap.size ≤ q → A q := fun q h => by rw [← hAe]; exact Or.inr h
  have hw : Wd dC dI A s.heap s.heap [] w0 := ⟨hP, hD, va_S.rf⟩
  have hF : FE ksM ([] : List (Nat × Nat × Nat)) w0 w0 := FE.rf
  have hl := lv_entry ([.ref (ad 0), .int a1, .int a2]) (n := 3) (Nat.le_of_ble_eq_true rfl)
  rw [lg_entry_eq]
  generalize (lg_sl ([.ref (ad 0), .int a1, .int a2]) ++ List.replicate (3 - (lg_sl ([.ref (ad 0), .int a1, .int a2])).length) Slot.unset).toArray = ls at hl ⊢
  have hl : lv_has ls 3 [(0, .ref (ad 0)), (1, .int a1), (2, .int a2)] := hl
  generalize hloc : ([] : List Loc) = locs at hw ⊢
  have hinX12 : ∀ w ∈ u_ws RX12 TX12 42, w ∈ wsX12_streetOf := fun _ h => List.mem_cons_of_mem _ (List.mem_append_right _ (h))
  refine lv_aload_n hx hb dX12_streetOf_0 rfl (lv_at hl 0 rfl) ?_
  refine tk_getA hC hK hw hT hinX12 kM_at0 (by decide) rfl 26 (by decide) (List.mem_of_getElem? (i := 1) rfl) rfl rfl dX12_streetOf_1 ?_
  refine lv_bipush (v := 10) hx hb dX12_streetOf_4 (by decide) ?_
  refine lv_bipush (v := 10) hx hb dX12_streetOf_6 (by decide) ?_
  refine lv_iload_n hx hb dX12_streetOf_8 rfl (lv_at hl 1 rfl) ?_
  refine lv_imul hx hb dX12_streetOf_9 ?_
  refine lv_topi (fun x1 ex1 => ?_)
  have ex1 : x1.toInt = (10 : Int) * a1.toInt := by rw [ex1]; exact wk_mul (show (-2147483648) ≤ (10 : Int) * a1.toInt by omega) (show (10 : Int) * a1.toInt ≤ 2147483647 by omega)
  refine lv_iadd hx hb dX12_streetOf_10 ?_
  refine lv_topi (fun x2 ex2 => ?_)
  have ex2 : x2.toInt = (10 : Int) + x1.toInt := by rw [ex2]; exact wk_add (show (-2147483648) ≤ (10 : Int) + x1.toInt by omega) (show (10 : Int) + x1.toInt ≤ 2147483647 by omega)
  refine lv_iload_n hx hb dX12_streetOf_11 rfl (lv_at hl 2 rfl) ?_
  refine lv_iadd hx hb dX12_streetOf_12 ?_
  refine lv_topi (fun x3 ex3 => ?_)
  have ex3 : x3.toInt = x2.toInt + a2.toInt := by rw [ex3]; exact wk_add (show (-2147483648) ≤ x2.toInt + a2.toInt by omega) (show x2.toInt + a2.toInt ≤ 2147483647 by omega)
  refine tk_ialdR hC hK hw hT kM_at12 rfl (show 0 ≤ x3.toInt by omega) (show x3.toInt < 296 by omega) dX12_streetOf_13 (fun x4 c5 Ex4 => ?_)
  have c5 : gi w0 12 (x3.toInt).toNat = x4 := (congrArg (gi w0 12) (congrArg Int.toNat (show x3.toInt = x3.toInt by omega))).trans c5
  have bx4 := tk_rgI rfl 13 1 117 0 9 (by decide +kernel) ⟨(x3.toInt - 13).toNat, by omega, show x3.toInt.toNat = 13 + 1 * (x3.toInt - 13).toNat by omega⟩ Ex4
  exact tk_iret hC hr hlocks hK ⟨hT, hF, ⟨(show 0 ≤ x4.toInt by omega), (show x4.toInt ≤ 9 by omega)⟩⟩ hw dX12_streetOf_14
abbrev P_X12_isOf_1 (ad : Nat → Nat) (cy : Nat → ClassId) (B : Int) (qr : Nat) (s1 : Int) (a0 : Int32) (w0 : va_W) : Int32 → va_W → Prop := fun r u => TW ksM ad cy B qr 12 u ∧ FE ksM ([] : List (Nat × Nat × Nat)) w0 u ∧ ((r = 0) ∨ (r = 1))
set_option maxHeartbeats 4000000 in
set_option maxRecDepth 100000 in
theorem k_X12_isOf_1 (l : Launch) (adK adV : Nat → Nat) (dC : Nat → ClassId) (dI : Nat → Nat → Nat) (cy : Nat → ClassId) (ad : Nat → Nat) (B : Int) (hB0 : 100000 ≤ B) (hB1 : B ≤ 1073741824) (qr : Nat) (s1 : Int)  (a0 : Int32) (ra0 : 0 ≤ a0.toInt) (ta0 : a0.toInt ≤ 9) (w0 : va_W) (sz : Nat) (hT : TW ksM ad cy B qr 12 w0)  : Met l yX12_isOf wsX12_isOf ({ frames := 1, cells := 0, slots := 0, locals := 12 }) (va_Pc [.int a0, .int 1] (wpreS adK adV dC dI cy sz w0)) (va_Qi (P_X12_isOf_1 ad cy B qr s1 a0 w0) (fun u : va_W => wpost dC dI cy (va_A w0 sz) u) (va_A w0 sz)) 0 0 (va_A w0 sz) := by
  refine Met.ofW (cc := cX12_isOf) (maxL := 2) (ret := (some .boolean)) (by decide) rfl ?_
  intro p e s m args below meth c s₁ Bk hml hv
  obtain ⟨rfl, ⟨hsz, hP, hK, hD0⟩, hE, hSR⟩ := hv
  have hx := Bk.exec
  have hb := Bk.bytes
  have hr := Bk.returns
  have hlocks := Bk.notSynchronized
  have hC : CallFix p m c cX12_isOf 2 s _ wsX12_isOf RX12 := ⟨hx, hb, hml, findClass_of_methodNamed Bk.named, atoms_spec (ws := wsX12_isOf) Bk.pre⟩
  subst hsz
  have hD := hD0.self (sz := s.heap.size)
  generalize hAe : va_A w0 s.heap.size = A at hD hE ⊢
  have hA : ∀ q : Nat, s.heap.size ≤ q → A q := fun q h => by rw [← hAe]; exact Or.inr h
  have hw : Wd dC dI A s.heap s.heap [] w0 := ⟨hP, hD, va_S.rf⟩
  have hF : FE ksM ([] : List (Nat × Nat × Nat)) w0 w0 := FE.rf
  have hl := lv_entry ([.int a0, .int 1]) (n := 2) (Nat.le_of_ble_eq_true rfl)
  rw [lg_entry_eq]
  generalize (lg_sl ([.int a0, .int 1]) ++ List.replicate (2 - (lg_sl ([.int a0, .int 1])).length) Slot.unset).toArray = ls at hl ⊢
  have hl : lv_has ls 2 [(0, .int a0), (1, .int 1)] := hl
  generalize hloc : ([] : List Loc) = locs at hw ⊢
  refine lv_iload_n hx hb dX12_isOf_0 rfl (lv_at hl 0 rfl) ?_
  refine lv_iload_n hx hb dX12_isOf_1 rfl (lv_at hl 1 rfl) ?_
  refine lv_ishr hx hb dX12_isOf_2 ?_
  refine lv_topi (fun x1 ex1 => ?_)
  have bx1 : 0 ≤ x1.toInt ∧ x1.toInt ≤ a0.toInt := by rw [ex1]; exact wk_shr (by omega)
  refine lv_iconst (v := 1) hx hb dX12_isOf_3 (by decide) ?_
  refine lv_iand hx hb dX12_isOf_4 ?_
  refine lv_topi (fun x2 ex2 => ?_)
  have bx2 : 0 ≤ x2.toInt ∧ x2.toInt ≤ (1 : Int) := by rw [ex2]; exact wk_and (by decide)
  refine lv_iconst (v := 1) hx hb dX12_isOf_5 (by decide) ?_
  refine lv_icmp_ne (tgt := 13) hx hb dX12_isOf_6 (by decide) (fun c3 => ?_) (fun c3 => ?_)
  · have c3 : ¬ x2.toInt = (1 : Int) := wk_eqF c3
    refine lv_iconst (v := 0) hx hb dX12_isOf_13 (by decide) ?_
    exact tk_zret hC hr rfl hlocks hK ⟨hT, hF, (Or.inl rfl)⟩ hw dX12_isOf_14
  · have c3 : x2.toInt = (1 : Int) := wk_eq.mp c3
    refine lv_iconst (v := 1) hx hb dX12_isOf_9 (by decide) ?_
    refine lv_goto (tgt := 14) hx hb dX12_isOf_10 (by decide) ?_
    exact tk_zret hC hr rfl hlocks hK ⟨hT, hF, (Or.inr rfl)⟩ hw dX12_isOf_14
abbrev P_X12_isOf_2 (ad : Nat → Nat) (cy : Nat → ClassId) (B : Int) (qr : Nat) (s1 : Int) (a0 : Int32) (w0 : va_W) : Int32 → va_W → Prop := fun r u => TW ksM ad cy B qr 12 u ∧ FE ksM ([] : List (Nat × Nat × Nat)) w0 u ∧ ((r = 0) ∨ (r = 1))
set_option maxHeartbeats 4000000 in
set_option maxRecDepth 100000 in
theorem k_X12_isOf_2 (l : Launch) (adK adV : Nat → Nat) (dC : Nat → ClassId) (dI : Nat → Nat → Nat) (cy : Nat → ClassId) (ad : Nat → Nat) (B : Int) (hB0 : 100000 ≤ B) (hB1 : B ≤ 1073741824) (qr : Nat) (s1 : Int)  (a0 : Int32) (ra0 : 0 ≤ a0.toInt) (ta0 : a0.toInt ≤ 9) (w0 : va_W) (sz : Nat) (hT : TW ksM ad cy B qr 12 w0)  : Met l yX12_isOf wsX12_isOf ({ frames := 1, cells := 0, slots := 0, locals := 12 }) (va_Pc [.int a0, .int 0] (wpreS adK adV dC dI cy sz w0)) (va_Qi (P_X12_isOf_2 ad cy B qr s1 a0 w0) (fun u : va_W => wpost dC dI cy (va_A w0 sz) u) (va_A w0 sz)) 0 0 (va_A w0 sz) := by
  refine Met.ofW (cc := cX12_isOf) (maxL := 2) (ret := (some .boolean)) (by decide) rfl ?_
  intro p e s m args below meth c s₁ Bk hml hv
  obtain ⟨rfl, ⟨hsz, hP, hK, hD0⟩, hE, hSR⟩ := hv
  have hx := Bk.exec
  have hb := Bk.bytes
  have hr := Bk.returns
  have hlocks := Bk.notSynchronized
  have hC : CallFix p m c cX12_isOf 2 s _ wsX12_isOf RX12 := ⟨hx, hb, hml, findClass_of_methodNamed Bk.named, atoms_spec (ws := wsX12_isOf) Bk.pre⟩
  subst hsz
  have hD := hD0.self (sz := s.heap.size)
  generalize hAe : va_A w0 s.heap.size = A at hD hE ⊢
  have hA : ∀ q : Nat, s.heap.size ≤ q → A q := fun q h => by rw [← hAe]; exact Or.inr h
  have hw : Wd dC dI A s.heap s.heap [] w0 := ⟨hP, hD, va_S.rf⟩
  have hF : FE ksM ([] : List (Nat × Nat × Nat)) w0 w0 := FE.rf
  have hl := lv_entry ([.int a0, .int 0]) (n := 2) (Nat.le_of_ble_eq_true rfl)
  rw [lg_entry_eq]
  generalize (lg_sl ([.int a0, .int 0]) ++ List.replicate (2 - (lg_sl ([.int a0, .int 0])).length) Slot.unset).toArray = ls at hl ⊢
  have hl : lv_has ls 2 [(0, .int a0), (1, .int 0)] := hl
  generalize hloc : ([] : List Loc) = locs at hw ⊢
  refine lv_iload_n hx hb dX12_isOf_0 rfl (lv_at hl 0 rfl) ?_
  refine lv_iload_n hx hb dX12_isOf_1 rfl (lv_at hl 1 rfl) ?_
  refine lv_ishr hx hb dX12_isOf_2 ?_
  refine lv_topi (fun x1 ex1 => ?_)
  have bx1 : 0 ≤ x1.toInt ∧ x1.toInt ≤ a0.toInt := by rw [ex1]; exact wk_shr (by omega)
  refine lv_iconst (v := 1) hx hb dX12_isOf_3 (by decide) ?_
  refine lv_iand hx hb dX12_isOf_4 ?_
  refine lv_topi (fun x2 ex2 => ?_)
  have bx2 : 0 ≤ x2.toInt ∧ x2.toInt ≤ (1 : Int) := by rw [ex2]; exact wk_and (by decide)
  refine lv_iconst (v := 1) hx hb dX12_isOf_5 (by decide) ?_
  refine lv_icmp_ne (tgt := 13) hx hb dX12_isOf_6 (by decide) (fun c3 => ?_) (fun c3 => ?_)
  · have c3 : ¬ x2.toInt = (1 : Int) := wk_eqF c3
    refine lv_iconst (v := 0) hx hb dX12_isOf_13 (by decide) ?_
    exact tk_zret hC hr rfl hlocks hK ⟨hT, hF, (Or.inl rfl)⟩ hw dX12_isOf_14
  · have c3 : x2.toInt = (1 : Int) := wk_eq.mp c3
    refine lv_iconst (v := 1) hx hb dX12_isOf_9 (by decide) ?_
    refine lv_goto (tgt := 14) hx hb dX12_isOf_10 (by decide) ?_
    exact tk_zret hC hr rfl hlocks hK ⟨hT, hF, (Or.inr rfl)⟩ hw dX12_isOf_14
abbrev P_X12_hasSign_1 (ad : Nat → Nat) (cy : Nat → ClassId) (B : Int) (qr : Nat) (s1 : Int) (a1 : Int32) (a2 : Int32) (a3 : Int32) (w0 : va_W) : Int32 → va_W → Prop := fun r u => TW ksM ad cy B qr 12 u ∧ FE ksM ([] : List (Nat × Nat × Nat)) w0 u ∧ ((r = 0) ∨ (r = 0 ∧ gi u 12 (10 * a2.toInt + 10).toNat = a3) ∨ (r = 1) ∨ (r = 1 ∧ gi u 12 (10 * a2.toInt + 10).toNat = a3))
set_option maxHeartbeats 4000000 in
set_option maxRecDepth 100000 in
theorem k_X12_hasSign_1 (l : Launch) (adK adV : Nat → Nat) (dC : Nat → ClassId) (dI : Nat → Nat → Nat) (cy : Nat → ClassId) (ad : Nat → Nat) (B : Int) (hB0 : 100000 ≤ B) (hB1 : B ≤ 1073741824) (qr : Nat) (s1 : Int)  (a1 : Int32) (ra1 : 0 ≤ a1.toInt) (ta1 : a1.toInt ≤ 9) (a2 : Int32) (ra2 : 0 ≤ a2.toInt) (ta2 : a2.toInt ≤ 11) (a3 : Int32) (ra3 : 0 ≤ a3.toInt) (ta3 : a3.toInt ≤ 9) (w0 : va_W) (sz : Nat) (hT : TW ksM ad cy B qr 12 w0)  : Met l yX12_hasSign wsX12_hasSign ({ frames := 2, cells := 0, slots := 0, locals := 34 }) (va_Pc [.ref (ad 0), .int a1, .int a2, .int a3] (wpreS adK adV dC dI cy sz w0)) (va_Qi (P_X12_hasSign_1 ad cy B qr s1 a1 a2 a3 w0) (fun u : va_W => wpost dC dI cy (va_A w0 sz) u) (va_A w0 sz)) 0 0 (va_A w0 sz) := by
  refine Met.ofW (cc := cX12_hasSign) (maxL := 4) (ret := (some .boolean)) (by decide) rfl ?_
  intro p e s m args below meth c s₁ Bk hml hv
  obtain ⟨rfl, ⟨hsz, hP, hK, hD0⟩, hE, hSR⟩ := hv
  have hx := Bk.exec
  have hb := Bk.bytes
  have hr := Bk.returns
  have hlocks := Bk.notSynchronized
  have hC : CallFix p m c cX12_hasSign 4 s _ wsX12_hasSign RX12 := ⟨hx, hb, hml, findClass_of_methodNamed Bk.named, atoms_spec (ws := wsX12_hasSign) Bk.pre⟩
  subst hsz
  have hD := hD0.self (sz := s.heap.size)
  generalize hAe : va_A w0 s.heap.size = A at hD hE ⊢
  have hA : ∀ q : Nat, s.heap.size ≤ q → A q := fun q h => by rw [← hAe]; exact Or.inr h
  have hw : Wd dC dI A s.heap s.heap [] w0 := ⟨hP, hD, va_S.rf⟩
  have hF : FE ksM ([] : List (Nat × Nat × Nat)) w0 w0 := FE.rf
  have hl := lv_entry ([.ref (ad 0), .int a1, .int a2, .int a3]) (n := 4) (Nat.le_of_ble_eq_true rfl)
  rw [lg_entry_eq]
  generalize (lg_sl ([.ref (ad 0), .int a1, .int a2, .int a3]) ++ List.replicate (4 - (lg_sl ([.ref (ad 0), .int a1, .int a2, .int a3])).length) Slot.unset).toArray = ls at hl ⊢
  have hl : lv_has ls 4 [(0, .ref (ad 0)), (1, .int a1), (2, .int a2), (3, .int a3)] := hl
  generalize hloc : ([] : List Loc) = locs at hw ⊢
  refine lv_iload_n hx hb dX12_hasSign_0 rfl (lv_at hl 1 rfl) ?_
  refine lv_aload_n hx hb dX12_hasSign_1 rfl (lv_at hl 0 rfl) ?_
  refine lv_iload_n hx hb dX12_hasSign_2 rfl (lv_at hl 2 rfl) ?_
  refine lv_iconst (v := 0) hx hb dX12_hasSign_3 (by decide) ?_
  refine tk_Vi hC hK hw hT hA hE hSR kM_at0 (by decide) rfl (k_X12_streetOf_2 l adK adV dC dI cy ad B (by omega) (by omega) qr s1   a2 (show 0 ≤ a2.toInt by omega) (show a2.toInt ≤ 11 by omega) w0 s.heap.size hT ) (cwV 2 hC.2.2.2.2 gX12_hasSign_X12_streetOf rfl rfl rfl (by decide +kernel) ⟨Nat.le_of_ble_eq_true rfl, Nat.le_of_ble_eq_true rfl⟩) rfl hl.1 rfl (Nat.le_of_ble_eq_true rfl) dX12_hasSign_4 (fun r1 w3 H locs hp2 hw => ?_)
  obtain ⟨hT, k4, hg8⟩ := hp2
  have hF := hF.tr k4 (by decide)
  obtain ⟨g5, g6, c7⟩ := hg8
  refine lv_iload_n hx hb dX12_hasSign_7 rfl (lv_at hl 3 rfl) ?_
  refine lv_icmp_ne (tgt := 15) hx hb dX12_hasSign_8 (by decide) (fun c9 => ?_) (fun c9 => ?_)
  · have c9 : ¬ r1.toInt = a3.toInt := wk_eqF c9
    refine lv_iconst (v := 1) hx hb dX12_hasSign_15 (by decide) ?_
    refine tk_Si hC hK hw hT hA hE hSR (k_X12_isOf_1 l adK adV dC dI cy ad B (by omega) (by omega) qr s1   a1 (show 0 ≤ a1.toInt by omega) (show a1.toInt ≤ 9 by omega) w3 H.size hT ) (va_cwS 2 hC.2.2.2.2 gX12_hasSign_X12_isOf rfl rfl rfl (by decide +kernel) ⟨Nat.le_of_ble_eq_true rfl, Nat.le_of_ble_eq_true rfl⟩) rfl hl.1 rfl (Nat.le_of_ble_eq_true rfl) dX12_hasSign_16 (fun r10 w12 H locs hp11 hw => ?_)
    obtain ⟨hT, k13, hg14⟩ := hp11
    have hF := hF.tr k13 (by decide)
    have c15 := k13.gi kM_at12 rfl c7
    rcases hg14 with rfl | rfl
    · exact tk_zret hC hr rfl hlocks hK ⟨hT, hF, (Or.inl rfl)⟩ hw dX12_hasSign_19
    · exact tk_zret hC hr rfl hlocks hK ⟨hT, hF, (Or.inr (Or.inr (Or.inl rfl)))⟩ hw dX12_hasSign_19
  · have c9 : r1.toInt = a3.toInt := wk_eq.mp c9
    refine lv_iconst (v := 0) hx hb dX12_hasSign_11 (by decide) ?_
    refine lv_goto (tgt := 16) hx hb dX12_hasSign_12 (by decide) ?_
    refine tk_Si hC hK hw hT hA hE hSR (k_X12_isOf_2 l adK adV dC dI cy ad B (by omega) (by omega) qr s1   a1 (show 0 ≤ a1.toInt by omega) (show a1.toInt ≤ 9 by omega) w3 H.size hT ) (va_cwS 2 hC.2.2.2.2 gX12_hasSign_X12_isOf rfl rfl rfl (by decide +kernel) ⟨Nat.le_of_ble_eq_true rfl, Nat.le_of_ble_eq_true rfl⟩) rfl hl.1 rfl (Nat.le_of_ble_eq_true rfl) dX12_hasSign_16 (fun r16 w18 H locs hp17 hw => ?_)
    obtain ⟨hT, k19, hg20⟩ := hp17
    have hF := hF.tr k19 (by decide)
    have c21 := k19.gi kM_at12 rfl c7
    rcases hg20 with rfl | rfl
    · exact tk_zret hC hr rfl hlocks hK ⟨hT, hF, (Or.inr (Or.inl ⟨rfl, (c21.trans (wk_eq.mpr (show r1.toInt = a3.toInt by omega)))⟩))⟩ hw dX12_hasSign_19
    · exact tk_zret hC hr rfl hlocks hK ⟨hT, hF, (Or.inr (Or.inr (Or.inr ⟨rfl, (c21.trans (wk_eq.mpr (show r1.toInt = a3.toInt by omega)))⟩)))⟩ hw dX12_hasSign_19
abbrev P_X12_isClosed_1 (ad : Nat → Nat) (cy : Nat → ClassId) (B : Int) (qr : Nat) (s1 : Int) (a1 : Int32) (a2 : Int32) (w0 : va_W) : Int32 → va_W → Prop := fun r u => TW ksM ad cy B qr 12 u ∧ FE ksM ([] : List (Nat × Nat × Nat)) w0 u ∧ ((r = 0) ∨ (r = 1 ∧ (∃ y : Int32, gi u 0 27 = y ∧ 1 ≤ y.toInt ∧ y.toInt ≤ 1) ∧ (∃ y : Int32, gi u 12 2 = y ∧ 1 ≤ y.toInt ∧ y.toInt ≤ 8)))
set_option maxHeartbeats 4000000 in
set_option maxRecDepth 100000 in
theorem k_X12_isClosed_1 (l : Launch) (adK adV : Nat → Nat) (dC : Nat → ClassId) (dI : Nat → Nat → Nat) (cy : Nat → ClassId) (ad : Nat → Nat) (B : Int) (hB0 : 100000 ≤ B) (hB1 : B ≤ 1073741824) (qr : Nat) (s1 : Int)  (a1 : Int32) (ra1 : 0 ≤ a1.toInt) (ta1 : a1.toInt ≤ 9) (a2 : Int32) (ra2 : 0 ≤ a2.toInt) (ta2 : a2.toInt ≤ 359) (w0 : va_W) (sz : Nat) (hT : TW ksM ad cy B qr 12 w0)  : Met l yX12_isClosed wsX12_isClosed ({ frames := 1, cells := 0, slots := 0, locals := 12 }) (va_Pc [.ref (ad 0), .int a1, .int a2] (wpreS adK adV dC dI cy sz w0)) (va_Qi (P_X12_isClosed_1 ad cy B qr s1 a1 a2 w0) (fun u : va_W => wpost dC dI cy (va_A w0 sz) u) (va_A w0 sz)) 0 0 (va_A w0 sz) := by
  refine Met.ofW (cc := cX12_isClosed) (maxL := 4) (ret := (some .boolean)) (by decide) rfl ?_
  intro p e s m args below meth c s₁ Bk hml hv
  obtain ⟨rfl, ⟨hsz, hP, hK, hD0⟩, hE, hSR⟩ := hv
  have hx := Bk.exec
  have hb := Bk.bytes
  have hr := Bk.returns
  have hlocks := Bk.notSynchronized
  have hC : CallFix p m c cX12_isClosed 4 s _ wsX12_isClosed RX12 := ⟨hx, hb, hml, findClass_of_methodNamed Bk.named, atoms_spec (ws := wsX12_isClosed) Bk.pre⟩
  subst hsz
  have hD := hD0.self (sz := s.heap.size)
  generalize hAe : va_A w0 s.heap.size = A at hD hE ⊢
  have hA : ∀ q : Nat, s.heap.size ≤ q → A q := fun q h => by rw [← hAe]; exact Or.inr h
  have hw : Wd dC dI A s.heap s.heap [] w0 := ⟨hP, hD, va_S.rf⟩
  have hF : FE ksM ([] : List (Nat × Nat × Nat)) w0 w0 := FE.rf
  have hl := lv_entry ([.ref (ad 0), .int a1, .int a2]) (n := 4) (Nat.le_of_ble_eq_true rfl)
  rw [lg_entry_eq]
  generalize (lg_sl ([.ref (ad 0), .int a1, .int a2]) ++ List.replicate (4 - (lg_sl ([.ref (ad 0), .int a1, .int a2])).length) Slot.unset).toArray = ls at hl ⊢
  have hl : lv_has ls 4 [(0, .ref (ad 0)), (1, .int a1), (2, .int a2)] := hl
  generalize hloc : ([] : List Loc) = locs at hw ⊢
  have hinX12 : ∀ w ∈ u_ws RX12 TX12 42, w ∈ wsX12_isClosed := fun _ h => List.mem_cons_of_mem _ (List.mem_append_right _ (h))
  have J61 : ∀ (v61_3 : Int32) (f61_12_2 : Int32) (H : Heap) (locs : List Loc) (ls : Array Slot) (w1 : va_W), 0 ≤ a1.toInt → a1.toInt ≤ 9 → 0 ≤ a2.toInt → a2.toInt ≤ 359 → 0 ≤ v61_3.toInt → v61_3.toInt ≤ 8 → 0 ≤ f61_12_2.toInt → f61_12_2.toInt ≤ 8 → Wd dC dI A s.heap H locs w1 → TW ksM ad cy B qr 12 w1 → FE ksM ([] : List (Nat × Nat × Nat)) w0 w1 → gi w1 12 2 = f61_12_2 → lv_has ls 4 [(0, .ref (ad 0)), (1, .int a1), (2, .int a2), (3, .int v61_3)] → W p l e ({ frames := 1, cells := 0, slots := 0, locals := 12 }) s m (List.toArray [.ref (ad 0), .int a1, .int a2]) below meth c H locs 0 0 (MQ below (va_Qi (P_X12_isClosed_1 ad cy B qr s1 a1 a2 w0) (fun u : va_W => wpost dC dI cy A u) A) (List.toArray [.ref (ad 0), .int a1, .int a2]) s 0 0 A) (F0 m 61 ls []) := by
    intro v61_3 f61_12_2 H locs ls w1 r2 t3 r4 t5 r6 t7 r8 t9 hw hT hF c10 hl
    refine lv_iconst (v := 0) hx hb dX12_isClosed_61 (by decide) ?_
    exact tk_zret hC hr rfl hlocks hK ⟨hT, hF, (Or.inl rfl)⟩ hw dX12_isClosed_62
  have L2 : ∀ (n2 : Nat) (v2_3 : Int32) (H : Heap) (locs : List Loc) (ls : Array Slot) (w11 : va_W), 0 ≤ a1.toInt → a1.toInt ≤ 9 → 0 ≤ a2.toInt → a2.toInt ≤ 359 → 0 ≤ v2_3.toInt → v2_3.toInt ≤ 8 → (8 - v2_3.toInt).toNat < n2 → Wd dC dI A s.heap H locs w11 → TW ksM ad cy B qr 12 w11 → FE ksM ([] : List (Nat × Nat × Nat)) w0 w11 → lv_has ls 4 [(0, .ref (ad 0)), (1, .int a1), (2, .int a2), (3, .int v2_3)] → W p l e ({ frames := 1, cells := 0, slots := 0, locals := 12 }) s m (List.toArray [.ref (ad 0), .int a1, .int a2]) below meth c H locs 0 0 (MQ below (va_Qi (P_X12_isClosed_1 ad cy B qr s1 a1 a2 w0) (fun u : va_W => wpost dC dI cy A u) A) (List.toArray [.ref (ad 0), .int a1, .int a2]) s 0 0 A) (F0 m 2 ls []) := by
    intro n2
    induction n2 with
    | zero => intro v2_3 H locs ls w11 r12 t13 r14 t15 r16 t17 hm2 hw hT hF hl; omega
    | succ n2 ih2 =>
      intro v2_3 H locs ls w11 r12 t13 r14 t15 r16 t17 hm2 hw hT hF hl
      have J55 : ∀ (f55_12__2_v2_3_toInt_140_toNat : Int32) (f55_12_2 : Int32) (H : Heap) (locs : List Loc) (ls : Array Slot) (w18 : va_W), 0 ≤ a1.toInt → a1.toInt ≤ 9 → 0 ≤ a2.toInt → a2.toInt ≤ 359 → 0 ≤ v2_3.toInt → v2_3.toInt ≤ 7 → 1 ≤ f55_12_2.toInt → f55_12_2.toInt ≤ 8 → Wd dC dI A s.heap H locs w18 → TW ksM ad cy B qr 12 w18 → FE ksM ([] : List (Nat × Nat × Nat)) w0 w18 → gi w18 0 27 = 1 → gi w18 12 (2 * v2_3.toInt + 140).toNat = f55_12__2_v2_3_toInt_140_toNat → gi w18 12 2 = f55_12_2 → lv_has ls 4 [(0, .ref (ad 0)), (1, .int a1), (2, .int a2), (3, .int v2_3)] → W p l e ({ frames := 1, cells := 0, slots := 0, locals := 12 }) s m (List.toArray [.ref (ad 0), .int a1, .int a2]) below meth c H locs 0 0 (MQ below (va_Qi (P_X12_isClosed_1 ad cy B qr s1 a1 a2 w0) (fun u : va_W => wpost dC dI cy A u) A) (List.toArray [.ref (ad 0), .int a1, .int a2]) s 0 0 A) (F0 m 55 ls []) := by
        intro f55_12__2_v2_3_toInt_140_toNat f55_12_2 H locs ls w18 r19 t20 r21 t22 r23 t24 r27 t28 hw hT hF c25 c26 c29 hl
        obtain ⟨x30, ex30⟩ : ∃ y : Int32, y = v2_3 + Int32.ofInt 1 := ⟨_, rfl⟩
        refine lv_iinc (v := x30) (lv' := [(3, .int x30), (0, .ref (ad 0)), (1, .int a1), (2, .int a2)]) hx hb dX12_isClosed_55 hl (k := 3) rfl ex30.symm (by decide) rfl (fun ls hl => ?_)
        have ex30 : x30.toInt = v2_3.toInt + 1 := by rw [ex30]; exact wk_add (y := 1) (show -2147483648 ≤ v2_3.toInt + 1 by omega) (show v2_3.toInt + 1 ≤ 2147483647 by omega)
        refine lv_goto (tgt := 2) hx hb dX12_isClosed_58 (by decide) ?_
        exact ih2 x30 H locs ls w18 (show 0 ≤ a1.toInt by omega) (show a1.toInt ≤ 9 by omega) (show 0 ≤ a2.toInt by omega) (show a2.toInt ≤ 359 by omega) (show 0 ≤ x30.toInt by omega) (show x30.toInt ≤ 8 by omega) (show (8 - x30.toInt).toNat < n2 by omega) hw hT hF  (lv_sub hl [1, 2, 3, 0] rfl)
      refine lv_iload_n hx hb dX12_isClosed_2 rfl (lv_at hl 3 rfl) ?_
      refine lv_aload_n hx hb dX12_isClosed_3 rfl (lv_at hl 0 rfl) ?_
      refine tk_getA hC hK hw hT hinX12 kM_at0 (by decide) rfl 26 (by decide) (List.mem_of_getElem? (i := 1) rfl) rfl rfl dX12_isClosed_4 ?_
      refine lv_iconst (v := 2) hx hb dX12_isClosed_7 (by decide) ?_
      refine tk_ialdR hC hK hw hT kM_at12 rfl (by decide) (by decide) dX12_isClosed_8 (fun x31 c32 Ex31 => ?_)
      have bx31 := tk_rgI rfl 2 1 1 0 8 (by decide +kernel) ⟨0, by decide, by decide⟩ Ex31
      have c32 : gi w11 12 2 = x31 := c32
      refine lv_icmp_ge (tgt := 61) hx hb dX12_isClosed_9 (by decide) (fun c33 => ?_) (fun c33 => ?_)
      · have c33 : x31.toInt ≤ v2_3.toInt := wk_le.mp c33
        exact J61 v2_3 x31 H locs ls w11 (show 0 ≤ a1.toInt by omega) (show a1.toInt ≤ 9 by omega) (show 0 ≤ a2.toInt by omega) (show a2.toInt ≤ 359 by omega) (show 0 ≤ v2_3.toInt by omega) (show v2_3.toInt ≤ 8 by omega) (show 0 ≤ x31.toInt by omega) (show x31.toInt ≤ 8 by omega)  hw hT hF c32 (lv_sub hl [0, 1, 2, 3] rfl)
      · have c33 : v2_3.toInt < x31.toInt := wk_leF c33
        refine lv_aload_n hx hb dX12_isClosed_12 rfl (lv_at hl 0 rfl) ?_
        refine tk_geti hC hK hw hT hinX12 kM_at0 (by decide) rfl 27 (by decide) (List.mem_of_getElem? (i := 2) rfl) rfl rfl dX12_isClosed_13 (fun x34 c35 rx34 tx34 => ?_)
        refine lv_if_eq (tgt := 61) hx hb dX12_isClosed_16 (by decide) (fun c36 => ?_) (fun c36 => ?_)
        · have c36 : x34.toInt = (0 : Int) := wk_eq.mp c36
          exact J61 v2_3 x31 H locs ls w11 (show 0 ≤ a1.toInt by omega) (show a1.toInt ≤ 9 by omega) (show 0 ≤ a2.toInt by omega) (show a2.toInt ≤ 359 by omega) (show 0 ≤ v2_3.toInt by omega) (show v2_3.toInt ≤ 8 by omega) (show 0 ≤ x31.toInt by omega) (show x31.toInt ≤ 8 by omega)  hw hT hF c32 (lv_sub hl [0, 1, 2, 3] rfl)
        · have c36 : ¬ x34.toInt = (0 : Int) := wk_eqF c36
          refine lv_aload_n hx hb dX12_isClosed_19 rfl (lv_at hl 0 rfl) ?_
          refine tk_getA hC hK hw hT hinX12 kM_at0 (by decide) rfl 26 (by decide) (List.mem_of_getElem? (i := 1) rfl) rfl rfl dX12_isClosed_20 ?_
          refine lv_sipush (v := 140) hx hb dX12_isClosed_23 (by decide) ?_
          refine lv_iconst (v := 2) hx hb dX12_isClosed_26 (by decide) ?_
          refine lv_iload_n hx hb dX12_isClosed_27 rfl (lv_at hl 3 rfl) ?_
          refine lv_imul hx hb dX12_isClosed_28 ?_
          refine lv_topi (fun x37 ex37 => ?_)
          have ex37 : x37.toInt = (2 : Int) * v2_3.toInt := by rw [ex37]; exact wk_mul (show (-2147483648) ≤ (2 : Int) * v2_3.toInt by omega) (show (2 : Int) * v2_3.toInt ≤ 2147483647 by omega)
          refine lv_iadd hx hb dX12_isClosed_29 ?_
          refine lv_topi (fun x38 ex38 => ?_)
          have ex38 : x38.toInt = (140 : Int) + x37.toInt := by rw [ex38]; exact wk_add (show (-2147483648) ≤ (140 : Int) + x37.toInt by omega) (show (140 : Int) + x37.toInt ≤ 2147483647 by omega)
          refine tk_ialdR hC hK hw hT kM_at12 rfl (show 0 ≤ x38.toInt by omega) (show x38.toInt < 296 by omega) dX12_isClosed_30 (fun x39 c40 Ex39 => ?_)
          have c40 : gi w11 12 (2 * v2_3.toInt + 140).toNat = x39 := (congrArg (gi w11 12) (congrArg Int.toNat (show 2 * v2_3.toInt + 140 = x38.toInt by omega))).trans c40
          refine lv_iload_n hx hb dX12_isClosed_31 rfl (lv_at hl 1 rfl) ?_
          refine lv_icmp_ne (tgt := 55) hx hb dX12_isClosed_32 (by decide) (fun c41 => ?_) (fun c41 => ?_)
          · have c41 : ¬ x39.toInt = a1.toInt := wk_eqF c41
            obtain rfl : x34 = 1 := wk_eq.mpr (show x34.toInt = 1 by omega)
            exact J55 x39 x31 H locs ls w11 (show 0 ≤ a1.toInt by omega) (show a1.toInt ≤ 9 by omega) (show 0 ≤ a2.toInt by omega) (show a2.toInt ≤ 359 by omega) (show 0 ≤ v2_3.toInt by omega) (show v2_3.toInt ≤ 7 by omega) (show 1 ≤ x31.toInt by omega) (show x31.toInt ≤ 8 by omega)  hw hT hF c35 c40 c32 (lv_sub hl [0, 1, 2, 3] rfl)
          · have c41 : x39.toInt = a1.toInt := wk_eq.mp c41
            refine lv_aload_n hx hb dX12_isClosed_35 rfl (lv_at hl 0 rfl) ?_
            refine tk_getA hC hK hw hT hinX12 kM_at0 (by decide) rfl 26 (by decide) (List.mem_of_getElem? (i := 1) rfl) rfl rfl dX12_isClosed_36 ?_
            refine lv_sipush (v := 140) hx hb dX12_isClosed_39 (by decide) ?_
            refine lv_iconst (v := 2) hx hb dX12_isClosed_42 (by decide) ?_
            refine lv_iload_n hx hb dX12_isClosed_43 rfl (lv_at hl 3 rfl) ?_
            refine lv_imul hx hb dX12_isClosed_44 ?_
            refine lv_topi (fun x42 ex42 => ?_)
            have ex42 : x42.toInt = (2 : Int) * v2_3.toInt := by rw [ex42]; exact wk_mul (show (-2147483648) ≤ (2 : Int) * v2_3.toInt by omega) (show (2 : Int) * v2_3.toInt ≤ 2147483647 by omega)
            refine lv_iadd hx hb dX12_isClosed_45 ?_
            refine lv_topi (fun x43 ex43 => ?_)
            have ex43 : x43.toInt = (140 : Int) + x42.toInt := by rw [ex43]; exact wk_add (show (-2147483648) ≤ (140 : Int) + x42.toInt by omega) (show (140 : Int) + x42.toInt ≤ 2147483647 by omega)
            refine lv_iconst (v := 1) hx hb dX12_isClosed_46 (by decide) ?_
            refine lv_iadd hx hb dX12_isClosed_47 ?_
            refine lv_topi (fun x44 ex44 => ?_)
            have ex44 : x44.toInt = x43.toInt + (1 : Int) := by rw [ex44]; exact wk_add (show (-2147483648) ≤ x43.toInt + (1 : Int) by omega) (show x43.toInt + (1 : Int) ≤ 2147483647 by omega)
            refine tk_ialdR hC hK hw hT kM_at12 rfl (show 0 ≤ x44.toInt by omega) (show x44.toInt < 296 by omega) dX12_isClosed_48 (fun x45 c46 Ex45 => ?_)
            have c46 : gi w11 12 (2 * v2_3.toInt + 141).toNat = x45 := (congrArg (gi w11 12) (congrArg Int.toNat (show 2 * v2_3.toInt + 141 = x44.toInt by omega))).trans c46
            refine lv_iload_n hx hb dX12_isClosed_49 rfl (lv_at hl 2 rfl) ?_
            refine lv_icmp_ne (tgt := 55) hx hb dX12_isClosed_50 (by decide) (fun c47 => ?_) (fun c47 => ?_)
            · have c47 : ¬ x45.toInt = a2.toInt := wk_eqF c47
              obtain rfl : x34 = 1 := wk_eq.mpr (show x34.toInt = 1 by omega)
              exact J55 x39 x31 H locs ls w11 (show 0 ≤ a1.toInt by omega) (show a1.toInt ≤ 9 by omega) (show 0 ≤ a2.toInt by omega) (show a2.toInt ≤ 359 by omega) (show 0 ≤ v2_3.toInt by omega) (show v2_3.toInt ≤ 7 by omega) (show 1 ≤ x31.toInt by omega) (show x31.toInt ≤ 8 by omega)  hw hT hF c35 c40 c32 (lv_sub hl [0, 1, 2, 3] rfl)
            · have c47 : x45.toInt = a2.toInt := wk_eq.mp c47
              refine lv_iconst (v := 1) hx hb dX12_isClosed_53 (by decide) ?_
              exact tk_zret hC hr rfl hlocks hK ⟨hT, hF, (Or.inr ⟨rfl, ⟨x34, c35, (show 1 ≤ x34.toInt by omega), (show x34.toInt ≤ 1 by omega)⟩, ⟨x31, c32, (show 1 ≤ x31.toInt by omega), (show x31.toInt ≤ 8 by omega)⟩⟩)⟩ hw dX12_isClosed_54
  refine lv_iconst (v := 0) hx hb dX12_isClosed_0 (by decide) ?_
  refine lv_istore_n (lv' := [(3, .int 0), (0, .ref (ad 0)), (1, .int a1), (2, .int a2)]) hx hb dX12_isClosed_1 rfl hl (by decide) rfl (fun ls hl => ?_)
  exact L2 ((8 - (0 : Int)).toNat + 1) 0 s.heap locs ls w0 (show 0 ≤ a1.toInt by omega) (show a1.toInt ≤ 9 by omega) (show 0 ≤ a2.toInt by omega) (show a2.toInt ≤ 359 by omega) (by decide) (by decide) (Nat.lt_succ_self _) hw hT hF  (lv_sub hl [1, 2, 3, 0] rfl)
abbrev P_X12_isDayFor_1 (ad : Nat → Nat) (cy : Nat → ClassId) (B : Int) (qr : Nat) (s1 : Int) (a1 : Int32) (a2 : Int32) (a3 : Int32) (w0 : va_W) : Int32 → va_W → Prop := fun r u => TW ksM ad cy B qr 12 u ∧ FE ksM ([] : List (Nat × Nat × Nat)) w0 u ∧ ((r = 0) ∨ (r = 0 ∧ gi u 12 (10 * a1.toInt + 10).toNat = a2) ∨ (r = 1) ∨ (r = 1 ∧ gi u 12 (10 * a1.toInt + 10).toNat = a2))
set_option maxHeartbeats 4000000 in
set_option maxRecDepth 100000 in
theorem k_X12_isDayFor_1 (l : Launch) (adK adV : Nat → Nat) (dC : Nat → ClassId) (dI : Nat → Nat → Nat) (cy : Nat → ClassId) (ad : Nat → Nat) (B : Int) (hB0 : 100000 ≤ B) (hB1 : B ≤ 1073741824) (qr : Nat) (s1 : Int)  (a1 : Int32) (ra1 : 0 ≤ a1.toInt) (ta1 : a1.toInt ≤ 11) (a2 : Int32) (ra2 : 0 ≤ a2.toInt) (ta2 : a2.toInt ≤ 9) (a3 : Int32) (ra3 : 0 ≤ a3.toInt) (ta3 : a3.toInt ≤ 4166) (w0 : va_W) (sz : Nat) (hT : TW ksM ad cy B qr 12 w0)  : Met l yX12_isDayFor wsX12_isDayFor ({ frames := 3, cells := 0, slots := 0, locals := 57 }) (va_Pc [.ref (ad 0), .int a1, .int a2, .int a3] (wpreS adK adV dC dI cy sz w0)) (va_Qi (P_X12_isDayFor_1 ad cy B qr s1 a1 a2 a3 w0) (fun u : va_W => wpost dC dI cy (va_A w0 sz) u) (va_A w0 sz)) 0 0 (va_A w0 sz) := by
  refine Met.ofW (cc := cX12_isDayFor) (maxL := 4) (ret := (some .boolean)) (by decide) rfl ?_
  intro p e s m args below meth c s₁ Bk hml hv
  obtain ⟨rfl, ⟨hsz, hP, hK, hD0⟩, hE, hSR⟩ := hv
  have hx := Bk.exec
  have hb := Bk.bytes
  have hr := Bk.returns
  have hlocks := Bk.notSynchronized
  have hC : CallFix p m c cX12_isDayFor 4 s _ wsX12_isDayFor RX12 := ⟨hx, hb, hml, findClass_of_methodNamed Bk.named, atoms_spec (ws := wsX12_isDayFor) Bk.pre⟩
  subst hsz
  have hD := hD0.self (sz := s.heap.size)
  generalize hAe : va_A w0 s.heap.size = A at hD hE ⊢
  have hA : ∀ q : Nat, s.heap.size ≤ q → A q := fun q h => by rw [← hAe]; exact Or.inr h
  have hw : Wd dC dI A s.heap s.heap [] w0 := ⟨hP, hD, va_S.rf⟩
  have hF : FE ksM ([] : List (Nat × Nat × Nat)) w0 w0 := FE.rf
  have hl := lv_entry ([.ref (ad 0), .int a1, .int a2, .int a3]) (n := 4) (Nat.le_of_ble_eq_true rfl)
  rw [lg_entry_eq]
  generalize (lg_sl ([.ref (ad 0), .int a1, .int a2, .int a3]) ++ List.replicate (4 - (lg_sl ([.ref (ad 0), .int a1, .int a2, .int a3])).length) Slot.unset).toArray = ls at hl ⊢
  have hl : lv_has ls 4 [(0, .ref (ad 0)), (1, .int a1), (2, .int a2), (3, .int a3)] := hl
  generalize hloc : ([] : List Loc) = locs at hw ⊢
  have J62 : ∀ (f62_12__10_a1_toInt_10_toNat : Int32) (f62_12_2 : Int32) (H : Heap) (locs : List Loc) (ls : Array Slot) (w1 : va_W), 0 ≤ a1.toInt → a1.toInt ≤ 11 → 0 ≤ a2.toInt → a2.toInt ≤ 9 → 0 ≤ a3.toInt → a3.toInt ≤ 4166 → 0 ≤ f62_12__10_a1_toInt_10_toNat.toInt → f62_12__10_a1_toInt_10_toNat.toInt ≤ 9 → 1 ≤ f62_12_2.toInt → f62_12_2.toInt ≤ 8 → Wd dC dI A s.heap H locs w1 → TW ksM ad cy B qr 12 w1 → FE ksM ([] : List (Nat × Nat × Nat)) w0 w1 → gi w1 0 27 = 1 → gi w1 12 (10 * a1.toInt + 10).toNat = f62_12__10_a1_toInt_10_toNat → gi w1 12 2 = f62_12_2 → lv_has ls 4 [(0, .ref (ad 0)), (1, .int a1), (2, .int a2), (3, .int a3)] → W p l e ({ frames := 3, cells := 0, slots := 0, locals := 57 }) s m (List.toArray [.ref (ad 0), .int a1, .int a2, .int a3]) below meth c H locs 0 0 (MQ below (va_Qi (P_X12_isDayFor_1 ad cy B qr s1 a1 a2 a3 w0) (fun u : va_W => wpost dC dI cy A u) A) (List.toArray [.ref (ad 0), .int a1, .int a2, .int a3]) s 0 0 A) (F0 m 62 ls []) := by
    intro f62_12__10_a1_toInt_10_toNat f62_12_2 H locs ls w1 r2 t3 r4 t5 r6 t7 r9 t10 r12 t13 hw hT hF c8 c11 c14 hl
    refine lv_iconst (v := 0) hx hb dX12_isDayFor_62 (by decide) ?_
    exact tk_zret hC hr rfl hlocks hK ⟨hT, hF, (Or.inl rfl)⟩ hw dX12_isDayFor_63
  refine lv_aload_n hx hb dX12_isDayFor_0 rfl (lv_at hl 0 rfl) ?_
  refine lv_aload_n hx hb dX12_isDayFor_1 rfl (lv_at hl 0 rfl) ?_
  refine lv_iload_n hx hb dX12_isDayFor_2 rfl (lv_at hl 1 rfl) ?_
  refine lv_iconst (v := 3) hx hb dX12_isDayFor_3 (by decide) ?_
  refine lv_iload_n hx hb dX12_isDayFor_4 rfl (lv_at hl 3 rfl) ?_
  refine lv_bipush (v := 7) hx hb dX12_isDayFor_5 (by decide) ?_
  refine lv_irem hx hb dX12_isDayFor_7 (by decide) ?_
  refine lv_topi (fun x15 ex15 => ?_)
  have ex15 : x15.toInt = a3.toInt % (7 : Int) := by rw [ex15]; exact wk_rem (show 0 ≤ a3.toInt by omega) (show 0 < (7 : Int) by decide)
  refine lv_iadd hx hb dX12_isDayFor_8 ?_
  refine lv_topi (fun x16 ex16 => ?_)
  have ex16 : x16.toInt = (3 : Int) + x15.toInt := by rw [ex16]; exact wk_add (show (-2147483648) ≤ (3 : Int) + x15.toInt by omega) (show (3 : Int) + x15.toInt ≤ 2147483647 by omega)
  refine tk_Vi hC hK hw hT hA hE hSR kM_at0 (by decide) rfl (k_X12_streetOf_4 l adK adV dC dI cy ad B (by omega) (by omega) qr s1   a1 (show 0 ≤ a1.toInt by omega) (show a1.toInt ≤ 11 by omega) x16 (show 3 ≤ x16.toInt by omega) (show x16.toInt ≤ 9 by omega) w0 s.heap.size hT ) (cwV 2 hC.2.2.2.2 gX12_isDayFor_X12_streetOf rfl rfl rfl (by decide +kernel) ⟨Nat.le_of_ble_eq_true rfl, Nat.le_of_ble_eq_true rfl⟩) rfl hl.1 rfl (Nat.le_of_ble_eq_true rfl) dX12_isDayFor_9 (fun r17 w19 H locs hp18 hw => ?_)
  obtain ⟨hT, k20, hg23⟩ := hp18
  have hF := hF.tr k20 (by decide)
  obtain ⟨g21, g22⟩ := hg23
  refine lv_iload_n hx hb dX12_isDayFor_12 rfl (lv_at hl 1 rfl) ?_
  refine lv_iload_n hx hb dX12_isDayFor_13 rfl (lv_at hl 2 rfl) ?_
  refine tk_Vi hC hK hw hT hA hE hSR kM_at0 (by decide) rfl (k_X12_hasSign_1 l adK adV dC dI cy ad B (by omega) (by omega) qr s1   r17 (show 0 ≤ r17.toInt by omega) (show r17.toInt ≤ 9 by omega) a1 (show 0 ≤ a1.toInt by omega) (show a1.toInt ≤ 11 by omega) a2 (show 0 ≤ a2.toInt by omega) (show a2.toInt ≤ 9 by omega) w19 H.size hT ) (cwV 3 hC.2.2.2.2 gX12_isDayFor_X12_hasSign rfl rfl rfl (by decide +kernel) ⟨Nat.le_of_ble_eq_true rfl, Nat.le_of_ble_eq_true rfl⟩) rfl hl.1 rfl (Nat.le_of_ble_eq_true rfl) dX12_isDayFor_14 (fun r24 w26 H locs hp25 hw => ?_)
  obtain ⟨hT, k27, hg30⟩ := hp25
  have hF := hF.tr k27 (by decide)
  rcases hg30 with rfl | ⟨rfl, c28⟩ | rfl | ⟨rfl, c29⟩
  · refine lv_if_ne (tgt := 22) hx hb dX12_isDayFor_17 (by decide) (fun c => absurd (by decide) c) (fun _ => ?_)
    refine lv_iconst (v := 0) hx hb dX12_isDayFor_20 (by decide) ?_
    exact tk_zret hC hr rfl hlocks hK ⟨hT, hF, (Or.inl rfl)⟩ hw dX12_isDayFor_21
  · refine lv_if_ne (tgt := 22) hx hb dX12_isDayFor_17 (by decide) (fun c => absurd (by decide) c) (fun _ => ?_)
    refine lv_iconst (v := 0) hx hb dX12_isDayFor_20 (by decide) ?_
    exact tk_zret hC hr rfl hlocks hK ⟨hT, hF, (Or.inr (Or.inl ⟨rfl, c28⟩))⟩ hw dX12_isDayFor_21
  · refine lv_if_ne (tgt := 22) hx hb dX12_isDayFor_17 (by decide) (fun _ => ?_) (fun c => absurd c (by decide))
    refine lv_aload_n hx hb dX12_isDayFor_22 rfl (lv_at hl 0 rfl) ?_
    refine lv_aload_n hx hb dX12_isDayFor_23 rfl (lv_at hl 0 rfl) ?_
    refine lv_iload_n hx hb dX12_isDayFor_24 rfl (lv_at hl 1 rfl) ?_
    refine lv_iconst (v := 0) hx hb dX12_isDayFor_25 (by decide) ?_
    refine tk_Vi hC hK hw hT hA hE hSR kM_at0 (by decide) rfl (k_X12_streetOf_2 l adK adV dC dI cy ad B (by omega) (by omega) qr s1   a1 (show 0 ≤ a1.toInt by omega) (show a1.toInt ≤ 11 by omega) w26 H.size hT ) (cwV 2 hC.2.2.2.2 gX12_isDayFor_X12_streetOf rfl rfl rfl (by decide +kernel) ⟨Nat.le_of_ble_eq_true rfl, Nat.le_of_ble_eq_true rfl⟩) rfl hl.1 rfl (Nat.le_of_ble_eq_true rfl) dX12_isDayFor_26 (fun r31 w33 H locs hp32 hw => ?_)
    obtain ⟨hT, k34, hg38⟩ := hp32
    have hF := hF.tr k34 (by decide)
    obtain ⟨g35, g36, c37⟩ := hg38
    refine lv_iload_n hx hb dX12_isDayFor_29 rfl (lv_at hl 3 rfl) ?_
    refine lv_sipush (v := 360) hx hb dX12_isDayFor_30 (by decide) ?_
    refine lv_irem hx hb dX12_isDayFor_33 (by decide) ?_
    refine lv_topi (fun x39 ex39 => ?_)
    have ex39 : x39.toInt = a3.toInt % (360 : Int) := by rw [ex39]; exact wk_rem (show 0 ≤ a3.toInt by omega) (show 0 < (360 : Int) by decide)
    refine tk_Vi hC hK hw hT hA hE hSR kM_at0 (by decide) rfl (k_X12_isClosed_1 l adK adV dC dI cy ad B (by omega) (by omega) qr s1   r31 (show 0 ≤ r31.toInt by omega) (show r31.toInt ≤ 9 by omega) x39 (show 0 ≤ x39.toInt by omega) (show x39.toInt ≤ 359 by omega) w33 H.size hT ) (cwV 2 hC.2.2.2.2 gX12_isDayFor_X12_isClosed rfl rfl rfl (by decide +kernel) ⟨Nat.le_of_ble_eq_true rfl, Nat.le_of_ble_eq_true rfl⟩) rfl hl.1 rfl (Nat.le_of_ble_eq_true rfl) dX12_isDayFor_34 (fun r40 w42 H locs hp41 hw => ?_)
    obtain ⟨hT, k43, hg48⟩ := hp41
    have hF := hF.tr k43 (by decide)
    have c49 := k43.gi kM_at12 rfl c37
    rcases hg48 with rfl | ⟨rfl, ⟨x44, c45, rx44, tx44⟩, ⟨x46, c47, rx46, tx46⟩⟩
    · refine lv_if_ne (tgt := 62) hx hb dX12_isDayFor_37 (by decide) (fun c => absurd (by decide) c) (fun _ => ?_)
      refine lv_aload_n hx hb dX12_isDayFor_40 rfl (lv_at hl 0 rfl) ?_
      refine lv_aload_n hx hb dX12_isDayFor_41 rfl (lv_at hl 0 rfl) ?_
      refine lv_iload_n hx hb dX12_isDayFor_42 rfl (lv_at hl 1 rfl) ?_
      refine lv_iconst (v := 1) hx hb dX12_isDayFor_43 (by decide) ?_
      refine tk_Vi hC hK hw hT hA hE hSR kM_at0 (by decide) rfl (k_X12_streetOf_3 l adK adV dC dI cy ad B (by omega) (by omega) qr s1   a1 (show 0 ≤ a1.toInt by omega) (show a1.toInt ≤ 11 by omega) w42 H.size hT ) (cwV 2 hC.2.2.2.2 gX12_isDayFor_X12_streetOf rfl rfl rfl (by decide +kernel) ⟨Nat.le_of_ble_eq_true rfl, Nat.le_of_ble_eq_true rfl⟩) rfl hl.1 rfl (Nat.le_of_ble_eq_true rfl) dX12_isDayFor_44 (fun r50 w52 H locs hp51 hw => ?_)
      obtain ⟨hT, k53, hg57⟩ := hp51
      have hF := hF.tr k53 (by decide)
      have c58 := k53.gi kM_at12 rfl c49
      obtain ⟨g54, g55, c56⟩ := hg57
      refine lv_iload_n hx hb dX12_isDayFor_47 rfl (lv_at hl 3 rfl) ?_
      refine lv_sipush (v := 360) hx hb dX12_isDayFor_48 (by decide) ?_
      refine lv_irem hx hb dX12_isDayFor_51 (by decide) ?_
      refine lv_topi (fun x59 ex59 => ?_)
      have ex59 : x59.toInt = a3.toInt % (360 : Int) := by rw [ex59]; exact wk_rem (show 0 ≤ a3.toInt by omega) (show 0 < (360 : Int) by decide)
      refine tk_Vi hC hK hw hT hA hE hSR kM_at0 (by decide) rfl (k_X12_isClosed_1 l adK adV dC dI cy ad B (by omega) (by omega) qr s1   r50 (show 0 ≤ r50.toInt by omega) (show r50.toInt ≤ 9 by omega) x59 (show 0 ≤ x59.toInt by omega) (show x59.toInt ≤ 359 by omega) w52 H.size hT ) (cwV 2 hC.2.2.2.2 gX12_isDayFor_X12_isClosed rfl rfl rfl (by decide +kernel) ⟨Nat.le_of_ble_eq_true rfl, Nat.le_of_ble_eq_true rfl⟩) rfl hl.1 rfl (Nat.le_of_ble_eq_true rfl) dX12_isDayFor_52 (fun r60 w62 H locs hp61 hw => ?_)
      obtain ⟨hT, k63, hg68⟩ := hp61
      have hF := hF.tr k63 (by decide)
      have c69 := k63.gi kM_at12 rfl c58
      have c70 := k63.gi kM_at12 rfl c56
      rcases hg68 with rfl | ⟨rfl, ⟨x64, c65, rx64, tx64⟩, ⟨x66, c67, rx66, tx66⟩⟩
      · refine lv_if_ne (tgt := 62) hx hb dX12_isDayFor_55 (by decide) (fun c => absurd (by decide) c) (fun _ => ?_)
        refine lv_iconst (v := 1) hx hb dX12_isDayFor_58 (by decide) ?_
        refine lv_goto (tgt := 63) hx hb dX12_isDayFor_59 (by decide) ?_
        exact tk_zret hC hr rfl hlocks hK ⟨hT, hF, (Or.inr (Or.inr (Or.inl rfl)))⟩ hw dX12_isDayFor_63
      · refine lv_if_ne (tgt := 62) hx hb dX12_isDayFor_55 (by decide) (fun _ => ?_) (fun c => absurd c (by decide))
        obtain rfl : x64 = 1 := wk_eq.mpr (show x64.toInt = 1 by omega)
        exact J62 r31 x66 H locs ls w62 (show 0 ≤ a1.toInt by omega) (show a1.toInt ≤ 11 by omega) (show 0 ≤ a2.toInt by omega) (show a2.toInt ≤ 9 by omega) (show 0 ≤ a3.toInt by omega) (show a3.toInt ≤ 4166 by omega) (show 0 ≤ r31.toInt by omega) (show r31.toInt ≤ 9 by omega) (show 1 ≤ x66.toInt by omega) (show x66.toInt ≤ 8 by omega)  hw hT hF c65 c69 c67 (lv_sub hl [0, 1, 2, 3] rfl)
    · refine lv_if_ne (tgt := 62) hx hb dX12_isDayFor_37 (by decide) (fun _ => ?_) (fun c => absurd c (by decide))
      obtain rfl : x44 = 1 := wk_eq.mpr (show x44.toInt = 1 by omega)
      exact J62 r31 x46 H locs ls w42 (show 0 ≤ a1.toInt by omega) (show a1.toInt ≤ 11 by omega) (show 0 ≤ a2.toInt by omega) (show a2.toInt ≤ 9 by omega) (show 0 ≤ a3.toInt by omega) (show a3.toInt ≤ 4166 by omega) (show 0 ≤ r31.toInt by omega) (show r31.toInt ≤ 9 by omega) (show 1 ≤ x46.toInt by omega) (show x46.toInt ≤ 8 by omega)  hw hT hF c45 c49 c47 (lv_sub hl [0, 1, 2, 3] rfl)
  · refine lv_if_ne (tgt := 22) hx hb dX12_isDayFor_17 (by decide) (fun _ => ?_) (fun c => absurd c (by decide))
    refine lv_aload_n hx hb dX12_isDayFor_22 rfl (lv_at hl 0 rfl) ?_
    refine lv_aload_n hx hb dX12_isDayFor_23 rfl (lv_at hl 0 rfl) ?_
    refine lv_iload_n hx hb dX12_isDayFor_24 rfl (lv_at hl 1 rfl) ?_
    refine lv_iconst (v := 0) hx hb dX12_isDayFor_25 (by decide) ?_
    refine tk_Vi hC hK hw hT hA hE hSR kM_at0 (by decide) rfl (k_X12_streetOf_2 l adK adV dC dI cy ad B (by omega) (by omega) qr s1   a1 (show 0 ≤ a1.toInt by omega) (show a1.toInt ≤ 11 by omega) w26 H.size hT ) (cwV 2 hC.2.2.2.2 gX12_isDayFor_X12_streetOf rfl rfl rfl (by decide +kernel) ⟨Nat.le_of_ble_eq_true rfl, Nat.le_of_ble_eq_true rfl⟩) rfl hl.1 rfl (Nat.le_of_ble_eq_true rfl) dX12_isDayFor_26 (fun r71 w73 H locs hp72 hw => ?_)
    obtain ⟨hT, k74, hg78⟩ := hp72
    have hF := hF.tr k74 (by decide)
    have c79 := k74.gi kM_at12 rfl c29
    obtain ⟨g75, g76, c77⟩ := hg78
    obtain rfl : r71 = a2 := c77.symm.trans c79
    refine lv_iload_n hx hb dX12_isDayFor_29 rfl (lv_at hl 3 rfl) ?_
    refine lv_sipush (v := 360) hx hb dX12_isDayFor_30 (by decide) ?_
    refine lv_irem hx hb dX12_isDayFor_33 (by decide) ?_
    refine lv_topi (fun x80 ex80 => ?_)
    have ex80 : x80.toInt = a3.toInt % (360 : Int) := by rw [ex80]; exact wk_rem (show 0 ≤ a3.toInt by omega) (show 0 < (360 : Int) by decide)
    refine tk_Vi hC hK hw hT hA hE hSR kM_at0 (by decide) rfl (k_X12_isClosed_1 l adK adV dC dI cy ad B (by omega) (by omega) qr s1   a2 (show 0 ≤ a2.toInt by omega) (show a2.toInt ≤ 9 by omega) x80 (show 0 ≤ x80.toInt by omega) (show x80.toInt ≤ 359 by omega) w73 H.size hT ) (cwV 2 hC.2.2.2.2 gX12_isDayFor_X12_isClosed rfl rfl rfl (by decide +kernel) ⟨Nat.le_of_ble_eq_true rfl, Nat.le_of_ble_eq_true rfl⟩) rfl hl.1 rfl (Nat.le_of_ble_eq_true rfl) dX12_isDayFor_34 (fun r81 w83 H locs hp82 hw => ?_)
    obtain ⟨hT, k84, hg89⟩ := hp82
    have hF := hF.tr k84 (by decide)
    have c90 := k84.gi kM_at12 rfl c79
    rcases hg89 with rfl | ⟨rfl, ⟨x85, c86, rx85, tx85⟩, ⟨x87, c88, rx87, tx87⟩⟩
    · refine lv_if_ne (tgt := 62) hx hb dX12_isDayFor_37 (by decide) (fun c => absurd (by decide) c) (fun _ => ?_)
      refine lv_aload_n hx hb dX12_isDayFor_40 rfl (lv_at hl 0 rfl) ?_
      refine lv_aload_n hx hb dX12_isDayFor_41 rfl (lv_at hl 0 rfl) ?_
      refine lv_iload_n hx hb dX12_isDayFor_42 rfl (lv_at hl 1 rfl) ?_
      refine lv_iconst (v := 1) hx hb dX12_isDayFor_43 (by decide) ?_
      refine tk_Vi hC hK hw hT hA hE hSR kM_at0 (by decide) rfl (k_X12_streetOf_3 l adK adV dC dI cy ad B (by omega) (by omega) qr s1   a1 (show 0 ≤ a1.toInt by omega) (show a1.toInt ≤ 11 by omega) w83 H.size hT ) (cwV 2 hC.2.2.2.2 gX12_isDayFor_X12_streetOf rfl rfl rfl (by decide +kernel) ⟨Nat.le_of_ble_eq_true rfl, Nat.le_of_ble_eq_true rfl⟩) rfl hl.1 rfl (Nat.le_of_ble_eq_true rfl) dX12_isDayFor_44 (fun r91 w93 H locs hp92 hw => ?_)
      obtain ⟨hT, k94, hg98⟩ := hp92
      have hF := hF.tr k94 (by decide)
      have c99 := k94.gi kM_at12 rfl c90
      obtain ⟨g95, g96, c97⟩ := hg98
      refine lv_iload_n hx hb dX12_isDayFor_47 rfl (lv_at hl 3 rfl) ?_
      refine lv_sipush (v := 360) hx hb dX12_isDayFor_48 (by decide) ?_
      refine lv_irem hx hb dX12_isDayFor_51 (by decide) ?_
      refine lv_topi (fun x100 ex100 => ?_)
      have ex100 : x100.toInt = a3.toInt % (360 : Int) := by rw [ex100]; exact wk_rem (show 0 ≤ a3.toInt by omega) (show 0 < (360 : Int) by decide)
      refine tk_Vi hC hK hw hT hA hE hSR kM_at0 (by decide) rfl (k_X12_isClosed_1 l adK adV dC dI cy ad B (by omega) (by omega) qr s1   r91 (show 0 ≤ r91.toInt by omega) (show r91.toInt ≤ 9 by omega) x100 (show 0 ≤ x100.toInt by omega) (show x100.toInt ≤ 359 by omega) w93 H.size hT ) (cwV 2 hC.2.2.2.2 gX12_isDayFor_X12_isClosed rfl rfl rfl (by decide +kernel) ⟨Nat.le_of_ble_eq_true rfl, Nat.le_of_ble_eq_true rfl⟩) rfl hl.1 rfl (Nat.le_of_ble_eq_true rfl) dX12_isDayFor_52 (fun r101 w103 H locs hp102 hw => ?_)
      obtain ⟨hT, k104, hg109⟩ := hp102
      have hF := hF.tr k104 (by decide)
      have c110 := k104.gi kM_at12 rfl c99
      have c111 := k104.gi kM_at12 rfl c97
      rcases hg109 with rfl | ⟨rfl, ⟨x105, c106, rx105, tx105⟩, ⟨x107, c108, rx107, tx107⟩⟩
      · refine lv_if_ne (tgt := 62) hx hb dX12_isDayFor_55 (by decide) (fun c => absurd (by decide) c) (fun _ => ?_)
        refine lv_iconst (v := 1) hx hb dX12_isDayFor_58 (by decide) ?_
        refine lv_goto (tgt := 63) hx hb dX12_isDayFor_59 (by decide) ?_
        exact tk_zret hC hr rfl hlocks hK ⟨hT, hF, (Or.inr (Or.inr (Or.inr ⟨rfl, c110⟩)))⟩ hw dX12_isDayFor_63
      · refine lv_if_ne (tgt := 62) hx hb dX12_isDayFor_55 (by decide) (fun _ => ?_) (fun c => absurd c (by decide))
        obtain rfl : x105 = 1 := wk_eq.mpr (show x105.toInt = 1 by omega)
        exact J62 a2 x107 H locs ls w103 (show 0 ≤ a1.toInt by omega) (show a1.toInt ≤ 11 by omega) (show 0 ≤ a2.toInt by omega) (show a2.toInt ≤ 9 by omega) (show 0 ≤ a3.toInt by omega) (show a3.toInt ≤ 4166 by omega) (show 0 ≤ a2.toInt by omega) (show a2.toInt ≤ 9 by omega) (show 1 ≤ x107.toInt by omega) (show x107.toInt ≤ 8 by omega)  hw hT hF c106 c110 c108 (lv_sub hl [0, 1, 2, 3] rfl)
    · refine lv_if_ne (tgt := 62) hx hb dX12_isDayFor_37 (by decide) (fun _ => ?_) (fun c => absurd c (by decide))
      obtain rfl : x85 = 1 := wk_eq.mpr (show x85.toInt = 1 by omega)
      exact J62 a2 x87 H locs ls w83 (show 0 ≤ a1.toInt by omega) (show a1.toInt ≤ 11 by omega) (show 0 ≤ a2.toInt by omega) (show a2.toInt ≤ 9 by omega) (show 0 ≤ a3.toInt by omega) (show a3.toInt ≤ 4166 by omega) (show 0 ≤ a2.toInt by omega) (show a2.toInt ≤ 9 by omega) (show 1 ≤ x87.toInt by omega) (show x87.toInt ≤ 8 by omega)  hw hT hF c86 c90 c88 (lv_sub hl [0, 1, 2, 3] rfl)
abbrev P_X12_isLifted_1 (ad : Nat → Nat) (cy : Nat → ClassId) (B : Int) (qr : Nat) (s1 : Int) (a1 : Int32) (a2 : Int32) (w0 : va_W) : Int32 → va_W → Prop := fun r u => TW ksM ad cy B qr 12 u ∧ FE ksM ([] : List (Nat × Nat × Nat)) w0 u ∧ ((r = 0) ∨ (r = 1 ∧ (∃ y : Int32, gi u 12 3 = y ∧ 1 ≤ y.toInt ∧ y.toInt ≤ 4)))
set_option maxHeartbeats 4000000 in
set_option maxRecDepth 100000 in
theorem k_X12_isLifted_1 (l : Launch) (adK adV : Nat → Nat) (dC : Nat → ClassId) (dI : Nat → Nat → Nat) (cy : Nat → ClassId) (ad : Nat → Nat) (B : Int) (hB0 : 100000 ≤ B) (hB1 : B ≤ 1073741824) (qr : Nat) (s1 : Int)  (a1 : Int32) (ra1 : 0 ≤ a1.toInt) (ta1 : a1.toInt ≤ 11) (a2 : Int32) (ra2 : 0 ≤ a2.toInt) (ta2 : a2.toInt ≤ 99999) (w0 : va_W) (sz : Nat) (hT : TW ksM ad cy B qr 12 w0)  : Met l yX12_isLifted wsX12_isLifted ({ frames := 1, cells := 0, slots := 0, locals := 12 }) (va_Pc [.ref (ad 0), .int a1, .int a2] (wpreS adK adV dC dI cy sz w0)) (va_Qi (P_X12_isLifted_1 ad cy B qr s1 a1 a2 w0) (fun u : va_W => wpost dC dI cy (va_A w0 sz) u) (va_A w0 sz)) 0 0 (va_A w0 sz) := by
  refine Met.ofW (cc := cX12_isLifted) (maxL := 5) (ret := (some .boolean)) (by decide) rfl ?_
  intro p e s m args below meth c s₁ Bk hml hv
  obtain ⟨rfl, ⟨hsz, hP, hK, hD0⟩, hE, hSR⟩ := hv
  have hx := Bk.exec
  have hb := Bk.bytes
  have hr := Bk.returns
  have hlocks := Bk.notSynchronized
  have hC : CallFix p m c cX12_isLifted 5 s _ wsX12_isLifted RX12 := ⟨hx, hb, hml, findClass_of_methodNamed Bk.named, atoms_spec (ws := wsX12_isLifted) Bk.pre⟩
  subst hsz
  have hD := hD0.self (sz := s.heap.size)
  generalize hAe : va_A w0 s.heap.size = A at hD hE ⊢
  have hA : ∀ q : Nat, s.heap.size ≤ q → A q := fun q h => by rw [← hAe]; exact Or.inr h
  have hw : Wd dC dI A s.heap s.heap [] w0 := ⟨hP, hD, va_S.rf⟩
  have hF : FE ksM ([] : List (Nat × Nat × Nat)) w0 w0 := FE.rf
  have hl := lv_entry ([.ref (ad 0), .int a1, .int a2]) (n := 5) (Nat.le_of_ble_eq_true rfl)
  rw [lg_entry_eq]
  generalize (lg_sl ([.ref (ad 0), .int a1, .int a2]) ++ List.replicate (5 - (lg_sl ([.ref (ad 0), .int a1, .int a2])).length) Slot.unset).toArray = ls at hl ⊢
  have hl : lv_has ls 5 [(0, .ref (ad 0)), (1, .int a1), (2, .int a2)] := hl
  generalize hloc : ([] : List Loc) = locs at hw ⊢
  have hinX12 : ∀ w ∈ u_ws RX12 TX12 42, w ∈ wsX12_isLifted := fun _ h => List.mem_cons_of_mem _ (List.mem_append_right _ (h))
  have L2 : ∀ (n2 : Nat) (v2_3 : Int32) (H : Heap) (locs : List Loc) (ls : Array Slot) (w1 : va_W), 0 ≤ a1.toInt → a1.toInt ≤ 11 → 0 ≤ a2.toInt → a2.toInt ≤ 99999 → 0 ≤ v2_3.toInt → v2_3.toInt ≤ 4 → (4 - v2_3.toInt).toNat < n2 → Wd dC dI A s.heap H locs w1 → TW ksM ad cy B qr 12 w1 → FE ksM ([] : List (Nat × Nat × Nat)) w0 w1 → lv_has ls 5 [(0, .ref (ad 0)), (1, .int a1), (2, .int a2), (3, .int v2_3)] → W p l e ({ frames := 1, cells := 0, slots := 0, locals := 12 }) s m (List.toArray [.ref (ad 0), .int a1, .int a2]) below meth c H locs 0 0 (MQ below (va_Qi (P_X12_isLifted_1 ad cy B qr s1 a1 a2 w0) (fun u : va_W => wpost dC dI cy A u) A) (List.toArray [.ref (ad 0), .int a1, .int a2]) s 0 0 A) (F0 m 2 ls []) := by
    intro n2
    induction n2 with
    | zero => intro v2_3 H locs ls w1 r2 t3 r4 t5 r6 t7 hm2 hw hT hF hl; omega
    | succ n2 ih2 =>
      intro v2_3 H locs ls w1 r2 t3 r4 t5 r6 t7 hm2 hw hT hF hl
      have J66 : ∀ (v66_4 : Int32) (f66_12__3_v2_3_toInt_156_toNat : Int32) (f66_12_3 : Int32) (H : Heap) (locs : List Loc) (ls : Array Slot) (w8 : va_W), 0 ≤ a1.toInt → a1.toInt ≤ 11 → 0 ≤ a2.toInt → a2.toInt ≤ 99999 → 0 ≤ v2_3.toInt → v2_3.toInt ≤ 3 → 156 ≤ v66_4.toInt → v66_4.toInt ≤ 165 → v66_4.toInt = 3 * v2_3.toInt + 156 → 1 ≤ f66_12_3.toInt → f66_12_3.toInt ≤ 4 → Wd dC dI A s.heap H locs w8 → TW ksM ad cy B qr 12 w8 → FE ksM ([] : List (Nat × Nat × Nat)) w0 w8 → gi w8 12 (3 * v2_3.toInt + 156).toNat = f66_12__3_v2_3_toInt_156_toNat → gi w8 12 3 = f66_12_3 → lv_has ls 5 [(0, .ref (ad 0)), (1, .int a1), (2, .int a2), (3, .int v2_3), (4, .int v66_4)] → W p l e ({ frames := 1, cells := 0, slots := 0, locals := 12 }) s m (List.toArray [.ref (ad 0), .int a1, .int a2]) below meth c H locs 0 0 (MQ below (va_Qi (P_X12_isLifted_1 ad cy B qr s1 a1 a2 w0) (fun u : va_W => wpost dC dI cy A u) A) (List.toArray [.ref (ad 0), .int a1, .int a2]) s 0 0 A) (F0 m 66 ls []) := by
        intro v66_4 f66_12__3_v2_3_toInt_156_toNat f66_12_3 H locs ls w8 r9 t10 r11 t12 r13 t14 r15 t16 l17 r19 t20 hw hT hF c18 c21 hl
        obtain ⟨x22, ex22⟩ : ∃ y : Int32, y = v2_3 + Int32.ofInt 1 := ⟨_, rfl⟩
        refine lv_iinc (v := x22) (lv' := [(3, .int x22), (0, .ref (ad 0)), (1, .int a1), (2, .int a2), (4, .int v66_4)]) hx hb dX12_isLifted_66 hl (k := 3) rfl ex22.symm (by decide) rfl (fun ls hl => ?_)
        have ex22 : x22.toInt = v2_3.toInt + 1 := by rw [ex22]; exact wk_add (y := 1) (show -2147483648 ≤ v2_3.toInt + 1 by omega) (show v2_3.toInt + 1 ≤ 2147483647 by omega)
        refine lv_goto (tgt := 2) hx hb dX12_isLifted_69 (by decide) ?_
        exact ih2 x22 H locs ls w8 (show 0 ≤ a1.toInt by omega) (show a1.toInt ≤ 11 by omega) (show 0 ≤ a2.toInt by omega) (show a2.toInt ≤ 99999 by omega) (show 0 ≤ x22.toInt by omega) (show x22.toInt ≤ 4 by omega) (show (4 - x22.toInt).toNat < n2 by omega) hw hT hF  (lv_sub hl [1, 2, 3, 0] rfl)
      refine lv_iload_n hx hb dX12_isLifted_2 rfl (lv_at hl 3 rfl) ?_
      refine lv_aload_n hx hb dX12_isLifted_3 rfl (lv_at hl 0 rfl) ?_
      refine tk_getA hC hK hw hT hinX12 kM_at0 (by decide) rfl 26 (by decide) (List.mem_of_getElem? (i := 1) rfl) rfl rfl dX12_isLifted_4 ?_
      refine lv_iconst (v := 3) hx hb dX12_isLifted_7 (by decide) ?_
      refine tk_ialdR hC hK hw hT kM_at12 rfl (by decide) (by decide) dX12_isLifted_8 (fun x23 c24 Ex23 => ?_)
      have bx23 := tk_rgI rfl 3 1 1 0 4 (by decide +kernel) ⟨0, by decide, by decide⟩ Ex23
      have c24 : gi w1 12 3 = x23 := c24
      refine lv_icmp_ge (tgt := 72) hx hb dX12_isLifted_9 (by decide) (fun c25 => ?_) (fun c25 => ?_)
      · have c25 : x23.toInt ≤ v2_3.toInt := wk_le.mp c25
        refine lv_iconst (v := 0) hx hb dX12_isLifted_72 (by decide) ?_
        exact tk_zret hC hr rfl hlocks hK ⟨hT, hF, (Or.inl rfl)⟩ hw dX12_isLifted_73
      · have c25 : v2_3.toInt < x23.toInt := wk_leF c25
        refine lv_sipush (v := 156) hx hb dX12_isLifted_12 (by decide) ?_
        refine lv_iconst (v := 3) hx hb dX12_isLifted_15 (by decide) ?_
        refine lv_iload_n hx hb dX12_isLifted_16 rfl (lv_at hl 3 rfl) ?_
        refine lv_imul hx hb dX12_isLifted_17 ?_
        refine lv_topi (fun x26 ex26 => ?_)
        have ex26 : x26.toInt = (3 : Int) * v2_3.toInt := by rw [ex26]; exact wk_mul (show (-2147483648) ≤ (3 : Int) * v2_3.toInt by omega) (show (3 : Int) * v2_3.toInt ≤ 2147483647 by omega)
        refine lv_iadd hx hb dX12_isLifted_18 ?_
        refine lv_topi (fun x27 ex27 => ?_)
        have ex27 : x27.toInt = (156 : Int) + x26.toInt := by rw [ex27]; exact wk_add (show (-2147483648) ≤ (156 : Int) + x26.toInt by omega) (show (156 : Int) + x26.toInt ≤ 2147483647 by omega)
        refine lv_istore (lv' := [(4, .int x27), (0, .ref (ad 0)), (1, .int a1), (2, .int a2), (3, .int v2_3)]) hx hb dX12_isLifted_19 hl (by decide) rfl (fun ls hl => ?_)
        refine lv_aload_n hx hb dX12_isLifted_21 rfl (lv_at hl 1 rfl) ?_
        refine tk_getA hC hK hw hT hinX12 kM_at0 (by decide) rfl 26 (by decide) (List.mem_of_getElem? (i := 1) rfl) rfl rfl dX12_isLifted_22 ?_
        refine lv_iload hx hb dX12_isLifted_25 (lv_at hl 0 rfl) ?_
        refine tk_ialdR hC hK hw hT kM_at12 rfl (show 0 ≤ x27.toInt by omega) (show x27.toInt < 296 by omega) dX12_isLifted_27 (fun x28 c29 Ex28 => ?_)
        have c29 : gi w1 12 (3 * v2_3.toInt + 156).toNat = x28 := (congrArg (gi w1 12) (congrArg Int.toNat (show 3 * v2_3.toInt + 156 = x27.toInt by omega))).trans c29
        refine lv_iload_n hx hb dX12_isLifted_28 rfl (lv_at hl 2 rfl) ?_
        refine lv_icmp_ne (tgt := 66) hx hb dX12_isLifted_29 (by decide) (fun c30 => ?_) (fun c30 => ?_)
        · have c30 : ¬ x28.toInt = a1.toInt := wk_eqF c30
          exact J66 x27 x28 x23 H locs ls w1 (show 0 ≤ a1.toInt by omega) (show a1.toInt ≤ 11 by omega) (show 0 ≤ a2.toInt by omega) (show a2.toInt ≤ 99999 by omega) (show 0 ≤ v2_3.toInt by omega) (show v2_3.toInt ≤ 3 by omega) (show 156 ≤ x27.toInt by omega) (show x27.toInt ≤ 165 by omega) (show x27.toInt = 3 * v2_3.toInt + 156 by omega) (show 1 ≤ x23.toInt by omega) (show x23.toInt ≤ 4 by omega)  hw hT hF c29 c24 (lv_sub hl [1, 2, 3, 4, 0] rfl)
        · have c30 : x28.toInt = a1.toInt := wk_eq.mp c30
          refine lv_iload_n hx hb dX12_isLifted_32 rfl (lv_at hl 3 rfl) ?_
          refine lv_bipush (v := 24) hx hb dX12_isLifted_33 (by decide) ?_
          refine lv_irem hx hb dX12_isLifted_35 (by decide) ?_
          refine lv_topi (fun x31 ex31 => ?_)
          have ex31 : x31.toInt = a2.toInt % (24 : Int) := by rw [ex31]; exact wk_rem (show 0 ≤ a2.toInt by omega) (show 0 < (24 : Int) by decide)
          refine lv_aload_n hx hb dX12_isLifted_36 rfl (lv_at hl 1 rfl) ?_
          refine tk_getA hC hK hw hT hinX12 kM_at0 (by decide) rfl 26 (by decide) (List.mem_of_getElem? (i := 1) rfl) rfl rfl dX12_isLifted_37 ?_
          refine lv_iload hx hb dX12_isLifted_40 (lv_at hl 0 rfl) ?_
          refine lv_iconst (v := 1) hx hb dX12_isLifted_42 (by decide) ?_
          refine lv_iadd hx hb dX12_isLifted_43 ?_
          refine lv_topi (fun x32 ex32 => ?_)
          have ex32 : x32.toInt = x27.toInt + (1 : Int) := by rw [ex32]; exact wk_add (show (-2147483648) ≤ x27.toInt + (1 : Int) by omega) (show x27.toInt + (1 : Int) ≤ 2147483647 by omega)
          refine tk_ialdR hC hK hw hT kM_at12 rfl (show 0 ≤ x32.toInt by omega) (show x32.toInt < 296 by omega) dX12_isLifted_44 (fun x33 c34 Ex33 => ?_)
          have c34 : gi w1 12 (3 * v2_3.toInt + 157).toNat = x33 := (congrArg (gi w1 12) (congrArg Int.toNat (show 3 * v2_3.toInt + 157 = x32.toInt by omega))).trans c34
          refine lv_icmp_lt (tgt := 66) hx hb dX12_isLifted_45 (by decide) (fun c35 => ?_) (fun c35 => ?_)
          · have c35 : x31.toInt < x33.toInt := wk_lt.mp c35
            exact J66 x27 x28 x23 H locs ls w1 (show 0 ≤ a1.toInt by omega) (show a1.toInt ≤ 11 by omega) (show 0 ≤ a2.toInt by omega) (show a2.toInt ≤ 99999 by omega) (show 0 ≤ v2_3.toInt by omega) (show v2_3.toInt ≤ 3 by omega) (show 156 ≤ x27.toInt by omega) (show x27.toInt ≤ 165 by omega) (show x27.toInt = 3 * v2_3.toInt + 156 by omega) (show 1 ≤ x23.toInt by omega) (show x23.toInt ≤ 4 by omega)  hw hT hF c29 c24 (lv_sub hl [1, 2, 3, 4, 0] rfl)
          · have c35 : x33.toInt ≤ x31.toInt := wk_ltF c35
            refine lv_iload_n hx hb dX12_isLifted_48 rfl (lv_at hl 3 rfl) ?_
            refine lv_bipush (v := 24) hx hb dX12_isLifted_49 (by decide) ?_
            refine lv_irem hx hb dX12_isLifted_51 (by decide) ?_
            refine lv_topi (fun x36 ex36 => ?_)
            have ex36 : x36.toInt = a2.toInt % (24 : Int) := by rw [ex36]; exact wk_rem (show 0 ≤ a2.toInt by omega) (show 0 < (24 : Int) by decide)
            refine lv_aload_n hx hb dX12_isLifted_52 rfl (lv_at hl 1 rfl) ?_
            refine tk_getA hC hK hw hT hinX12 kM_at0 (by decide) rfl 26 (by decide) (List.mem_of_getElem? (i := 1) rfl) rfl rfl dX12_isLifted_53 ?_
            refine lv_iload hx hb dX12_isLifted_56 (lv_at hl 0 rfl) ?_
            refine lv_iconst (v := 2) hx hb dX12_isLifted_58 (by decide) ?_
            refine lv_iadd hx hb dX12_isLifted_59 ?_
            refine lv_topi (fun x37 ex37 => ?_)
            have ex37 : x37.toInt = x27.toInt + (2 : Int) := by rw [ex37]; exact wk_add (show (-2147483648) ≤ x27.toInt + (2 : Int) by omega) (show x27.toInt + (2 : Int) ≤ 2147483647 by omega)
            refine tk_ialdR hC hK hw hT kM_at12 rfl (show 0 ≤ x37.toInt by omega) (show x37.toInt < 296 by omega) dX12_isLifted_60 (fun x38 c39 Ex38 => ?_)
            have c39 : gi w1 12 (3 * v2_3.toInt + 158).toNat = x38 := (congrArg (gi w1 12) (congrArg Int.toNat (show 3 * v2_3.toInt + 158 = x37.toInt by omega))).trans c39
            refine lv_icmp_ge (tgt := 66) hx hb dX12_isLifted_61 (by decide) (fun c40 => ?_) (fun c40 => ?_)
            · have c40 : x38.toInt ≤ x36.toInt := wk_le.mp c40
              exact J66 x27 x28 x23 H locs ls w1 (show 0 ≤ a1.toInt by omega) (show a1.toInt ≤ 11 by omega) (show 0 ≤ a2.toInt by omega) (show a2.toInt ≤ 99999 by omega) (show 0 ≤ v2_3.toInt by omega) (show v2_3.toInt ≤ 3 by omega) (show 156 ≤ x27.toInt by omega) (show x27.toInt ≤ 165 by omega) (show x27.toInt = 3 * v2_3.toInt + 156 by omega) (show 1 ≤ x23.toInt by omega) (show x23.toInt ≤ 4 by omega)  hw hT hF c29 c24 (lv_sub hl [1, 2, 3, 4, 0] rfl)
            · have c40 : x36.toInt < x38.toInt := wk_leF c40
              refine lv_iconst (v := 1) hx hb dX12_isLifted_64 (by decide) ?_
              exact tk_zret hC hr rfl hlocks hK ⟨hT, hF, (Or.inr ⟨rfl, ⟨x23, c24, (show 1 ≤ x23.toInt by omega), (show x23.toInt ≤ 4 by omega)⟩⟩)⟩ hw dX12_isLifted_65
  refine lv_iconst (v := 0) hx hb dX12_isLifted_0 (by decide) ?_
  refine lv_istore_n (lv' := [(3, .int 0), (0, .ref (ad 0)), (1, .int a1), (2, .int a2)]) hx hb dX12_isLifted_1 rfl hl (by decide) rfl (fun ls hl => ?_)
  exact L2 ((4 - (0 : Int)).toNat + 1) 0 s.heap locs ls w0 (show 0 ≤ a1.toInt by omega) (show a1.toInt ≤ 11 by omega) (show 0 ≤ a2.toInt by omega) (show a2.toInt ≤ 99999 by omega) (by decide) (by decide) (Nat.lt_succ_self _) hw hT hF  (lv_sub hl [1, 2, 3, 0] rfl)
abbrev P_X12_isOpen_1 (ad : Nat → Nat) (cy : Nat → ClassId) (B : Int) (qr : Nat) (s1 : Int) (a1 : Int32) (a2 : Int32) (a3 : Int32) (w0 : va_W) : Int32 → va_W → Prop := fun r u => TW ksM ad cy B qr 12 u ∧ FE ksM ([] : List (Nat × Nat × Nat)) w0 u ∧ ((r = 0) ∨ (r = 1) ∨ (r = 1 ∧ gi u 12 (10 * a1.toInt + 10).toNat = a2))
set_option maxHeartbeats 4000000 in
set_option maxRecDepth 100000 in
theorem k_X12_isOpen_1 (l : Launch) (adK adV : Nat → Nat) (dC : Nat → ClassId) (dI : Nat → Nat → Nat) (cy : Nat → ClassId) (ad : Nat → Nat) (B : Int) (hB0 : 100000 ≤ B) (hB1 : B ≤ 1073741824) (qr : Nat) (s1 : Int)  (a1 : Int32) (ra1 : 0 ≤ a1.toInt) (ta1 : a1.toInt ≤ 11) (a2 : Int32) (ra2 : 0 ≤ a2.toInt) (ta2 : a2.toInt ≤ 9) (a3 : Int32) (ra3 : 0 ≤ a3.toInt) (ta3 : a3.toInt ≤ 99999) (w0 : va_W) (sz : Nat) (hT : TW ksM ad cy B qr 12 w0)  : Met l yX12_isOpen wsX12_isOpen ({ frames := 4, cells := 0, slots := 0, locals := 80 }) (va_Pc [.ref (ad 0), .int a1, .int a2, .int a3] (wpreS adK adV dC dI cy sz w0)) (va_Qi (P_X12_isOpen_1 ad cy B qr s1 a1 a2 a3 w0) (fun u : va_W => wpost dC dI cy (va_A w0 sz) u) (va_A w0 sz)) 0 0 (va_A w0 sz) := by
  refine Met.ofW (cc := cX12_isOpen) (maxL := 4) (ret := (some .boolean)) (by decide) rfl ?_
  intro p e s m args below meth c s₁ Bk hml hv
  obtain ⟨rfl, ⟨hsz, hP, hK, hD0⟩, hE, hSR⟩ := hv
  have hx := Bk.exec
  have hb := Bk.bytes
  have hr := Bk.returns
  have hlocks := Bk.notSynchronized
  have hC : CallFix p m c cX12_isOpen 4 s _ wsX12_isOpen RX12 := ⟨hx, hb, hml, findClass_of_methodNamed Bk.named, atoms_spec (ws := wsX12_isOpen) Bk.pre⟩
  subst hsz
  have hD := hD0.self (sz := s.heap.size)
  generalize hAe : va_A w0 s.heap.size = A at hD hE ⊢
  have hA : ∀ q : Nat, s.heap.size ≤ q → A q := fun q h => by rw [← hAe]; exact Or.inr h
  have hw : Wd dC dI A s.heap s.heap [] w0 := ⟨hP, hD, va_S.rf⟩
  have hF : FE ksM ([] : List (Nat × Nat × Nat)) w0 w0 := FE.rf
  have hl := lv_entry ([.ref (ad 0), .int a1, .int a2, .int a3]) (n := 4) (Nat.le_of_ble_eq_true rfl)
  rw [lg_entry_eq]
  generalize (lg_sl ([.ref (ad 0), .int a1, .int a2, .int a3]) ++ List.replicate (4 - (lg_sl ([.ref (ad 0), .int a1, .int a2, .int a3])).length) Slot.unset).toArray = ls at hl ⊢
  have hl : lv_has ls 4 [(0, .ref (ad 0)), (1, .int a1), (2, .int a2), (3, .int a3)] := hl
  generalize hloc : ([] : List Loc) = locs at hw ⊢
  have J35 : ∀ (H : Heap) (locs : List Loc) (ls : Array Slot) (w1 : va_W), 0 ≤ a1.toInt → a1.toInt ≤ 11 → 0 ≤ a2.toInt → a2.toInt ≤ 9 → 0 ≤ a3.toInt → a3.toInt ≤ 99999 → Wd dC dI A s.heap H locs w1 → TW ksM ad cy B qr 12 w1 → FE ksM ([] : List (Nat × Nat × Nat)) w0 w1 → lv_has ls 4 [(0, .ref (ad 0)), (1, .int a1), (2, .int a2), (3, .int a3)] → W p l e ({ frames := 4, cells := 0, slots := 0, locals := 80 }) s m (List.toArray [.ref (ad 0), .int a1, .int a2, .int a3]) below meth c H locs 0 0 (MQ below (va_Qi (P_X12_isOpen_1 ad cy B qr s1 a1 a2 a3 w0) (fun u : va_W => wpost dC dI cy A u) A) (List.toArray [.ref (ad 0), .int a1, .int a2, .int a3]) s 0 0 A) (F0 m 35 ls []) := by
    intro H locs ls w1 r2 t3 r4 t5 r6 t7 hw hT hF hl
    refine lv_iconst (v := 0) hx hb dX12_isOpen_35 (by decide) ?_
    exact tk_zret hC hr rfl hlocks hK ⟨hT, hF, (Or.inl rfl)⟩ hw dX12_isOpen_36
  refine lv_aload_n hx hb dX12_isOpen_0 rfl (lv_at hl 0 rfl) ?_
  refine lv_iload_n hx hb dX12_isOpen_1 rfl (lv_at hl 1 rfl) ?_
  refine lv_iload_n hx hb dX12_isOpen_2 rfl (lv_at hl 2 rfl) ?_
  refine tk_Vi hC hK hw hT hA hE hSR kM_at0 (by decide) rfl (k_X12_isAt_1 l adK adV dC dI cy ad B (by omega) (by omega) qr s1   a1 (show 0 ≤ a1.toInt by omega) (show a1.toInt ≤ 11 by omega) a2 (show 0 ≤ a2.toInt by omega) (show a2.toInt ≤ 9 by omega) w0 s.heap.size hT ) (cwV 2 hC.2.2.2.2 gX12_isOpen_X12_isAt rfl rfl rfl (by decide +kernel) ⟨Nat.le_of_ble_eq_true rfl, Nat.le_of_ble_eq_true rfl⟩) rfl hl.1 rfl (Nat.le_of_ble_eq_true rfl) dX12_isOpen_3 (fun r8 w10 H locs hp9 hw => ?_)
  obtain ⟨hT, k11, hg12⟩ := hp9
  have hF := hF.tr k11 (by decide)
  rcases hg12 with rfl | rfl
  · refine lv_if_eq (tgt := 35) hx hb dX12_isOpen_6 (by decide) (fun _ => ?_) (fun c => absurd (by decide) c)
    exact J35  H locs ls w10 (show 0 ≤ a1.toInt by omega) (show a1.toInt ≤ 11 by omega) (show 0 ≤ a2.toInt by omega) (show a2.toInt ≤ 9 by omega) (show 0 ≤ a3.toInt by omega) (show a3.toInt ≤ 99999 by omega)  hw hT hF  (lv_sub hl [0, 1, 2, 3] rfl)
  · refine lv_if_eq (tgt := 35) hx hb dX12_isOpen_6 (by decide) (fun c => absurd c (by decide)) (fun _ => ?_)
    refine lv_aload_n hx hb dX12_isOpen_9 rfl (lv_at hl 0 rfl) ?_
    refine lv_iload_n hx hb dX12_isOpen_10 rfl (lv_at hl 1 rfl) ?_
    refine lv_iload_n hx hb dX12_isOpen_11 rfl (lv_at hl 2 rfl) ?_
    refine lv_iload_n hx hb dX12_isOpen_12 rfl (lv_at hl 3 rfl) ?_
    refine lv_bipush (v := 24) hx hb dX12_isOpen_13 (by decide) ?_
    refine lv_idiv hx hb dX12_isOpen_15 (by decide) ?_
    refine lv_topi (fun x13 ex13 => ?_)
    have ex13 : x13.toInt = a3.toInt / (24 : Int) := by rw [ex13]; exact wk_div (show 0 ≤ a3.toInt by omega) (show 0 < (24 : Int) by decide)
    refine tk_Vi hC hK hw hT hA hE hSR kM_at0 (by decide) rfl (k_X12_isDayFor_1 l adK adV dC dI cy ad B (by omega) (by omega) qr s1   a1 (show 0 ≤ a1.toInt by omega) (show a1.toInt ≤ 11 by omega) a2 (show 0 ≤ a2.toInt by omega) (show a2.toInt ≤ 9 by omega) x13 (show 0 ≤ x13.toInt by omega) (show x13.toInt ≤ 4166 by omega) w10 H.size hT ) (cwV 3 hC.2.2.2.2 gX12_isOpen_X12_isDayFor rfl rfl rfl (by decide +kernel) ⟨Nat.le_of_ble_eq_true rfl, Nat.le_of_ble_eq_true rfl⟩) rfl hl.1 rfl (Nat.le_of_ble_eq_true rfl) dX12_isOpen_16 (fun r14 w16 H locs hp15 hw => ?_)
    obtain ⟨hT, k17, hg20⟩ := hp15
    have hF := hF.tr k17 (by decide)
    rcases hg20 with rfl | ⟨rfl, c18⟩ | rfl | ⟨rfl, c19⟩
    · refine lv_if_eq (tgt := 35) hx hb dX12_isOpen_19 (by decide) (fun _ => ?_) (fun c => absurd (by decide) c)
      exact J35  H locs ls w16 (show 0 ≤ a1.toInt by omega) (show a1.toInt ≤ 11 by omega) (show 0 ≤ a2.toInt by omega) (show a2.toInt ≤ 9 by omega) (show 0 ≤ a3.toInt by omega) (show a3.toInt ≤ 99999 by omega)  hw hT hF  (lv_sub hl [0, 1, 2, 3] rfl)
    · refine lv_if_eq (tgt := 35) hx hb dX12_isOpen_19 (by decide) (fun _ => ?_) (fun c => absurd (by decide) c)
      exact J35  H locs ls w16 (show 0 ≤ a1.toInt by omega) (show a1.toInt ≤ 11 by omega) (show 0 ≤ a2.toInt by omega) (show a2.toInt ≤ 9 by omega) (show 0 ≤ a3.toInt by omega) (show a3.toInt ≤ 99999 by omega)  hw hT hF  (lv_sub hl [0, 1, 2, 3] rfl)
    · refine lv_if_eq (tgt := 35) hx hb dX12_isOpen_19 (by decide) (fun c => absurd c (by decide)) (fun _ => ?_)
      refine lv_aload_n hx hb dX12_isOpen_22 rfl (lv_at hl 0 rfl) ?_
      refine lv_iload_n hx hb dX12_isOpen_23 rfl (lv_at hl 1 rfl) ?_
      refine lv_iload_n hx hb dX12_isOpen_24 rfl (lv_at hl 3 rfl) ?_
      refine tk_Vi hC hK hw hT hA hE hSR kM_at0 (by decide) rfl (k_X12_isLifted_1 l adK adV dC dI cy ad B (by omega) (by omega) qr s1   a1 (show 0 ≤ a1.toInt by omega) (show a1.toInt ≤ 11 by omega) a3 (show 0 ≤ a3.toInt by omega) (show a3.toInt ≤ 99999 by omega) w16 H.size hT ) (cwV 2 hC.2.2.2.2 gX12_isOpen_X12_isLifted rfl rfl rfl (by decide +kernel) ⟨Nat.le_of_ble_eq_true rfl, Nat.le_of_ble_eq_true rfl⟩) rfl hl.1 rfl (Nat.le_of_ble_eq_true rfl) dX12_isOpen_25 (fun r21 w23 H locs hp22 hw => ?_)
      obtain ⟨hT, k24, hg27⟩ := hp22
      have hF := hF.tr k24 (by decide)
      rcases hg27 with rfl | ⟨rfl, ⟨x25, c26, rx25, tx25⟩⟩
      · refine lv_if_ne (tgt := 35) hx hb dX12_isOpen_28 (by decide) (fun c => absurd (by decide) c) (fun _ => ?_)
        refine lv_iconst (v := 1) hx hb dX12_isOpen_31 (by decide) ?_
        refine lv_goto (tgt := 36) hx hb dX12_isOpen_32 (by decide) ?_
        exact tk_zret hC hr rfl hlocks hK ⟨hT, hF, (Or.inr (Or.inl rfl))⟩ hw dX12_isOpen_36
      · refine lv_if_ne (tgt := 35) hx hb dX12_isOpen_28 (by decide) (fun _ => ?_) (fun c => absurd c (by decide))
        exact J35  H locs ls w23 (show 0 ≤ a1.toInt by omega) (show a1.toInt ≤ 11 by omega) (show 0 ≤ a2.toInt by omega) (show a2.toInt ≤ 9 by omega) (show 0 ≤ a3.toInt by omega) (show a3.toInt ≤ 99999 by omega)  hw hT hF  (lv_sub hl [0, 1, 2, 3] rfl)
    · refine lv_if_eq (tgt := 35) hx hb dX12_isOpen_19 (by decide) (fun c => absurd c (by decide)) (fun _ => ?_)
      refine lv_aload_n hx hb dX12_isOpen_22 rfl (lv_at hl 0 rfl) ?_
      refine lv_iload_n hx hb dX12_isOpen_23 rfl (lv_at hl 1 rfl) ?_
      refine lv_iload_n hx hb dX12_isOpen_24 rfl (lv_at hl 3 rfl) ?_
      refine tk_Vi hC hK hw hT hA hE hSR kM_at0 (by decide) rfl (k_X12_isLifted_1 l adK adV dC dI cy ad B (by omega) (by omega) qr s1   a1 (show 0 ≤ a1.toInt by omega) (show a1.toInt ≤ 11 by omega) a3 (show 0 ≤ a3.toInt by omega) (show a3.toInt ≤ 99999 by omega) w16 H.size hT ) (cwV 2 hC.2.2.2.2 gX12_isOpen_X12_isLifted rfl rfl rfl (by decide +kernel) ⟨Nat.le_of_ble_eq_true rfl, Nat.le_of_ble_eq_true rfl⟩) rfl hl.1 rfl (Nat.le_of_ble_eq_true rfl) dX12_isOpen_25 (fun r28 w30 H locs hp29 hw => ?_)
      obtain ⟨hT, k31, hg34⟩ := hp29
      have hF := hF.tr k31 (by decide)
      have c35 := k31.gi kM_at12 rfl c19
      rcases hg34 with rfl | ⟨rfl, ⟨x32, c33, rx32, tx32⟩⟩
      · refine lv_if_ne (tgt := 35) hx hb dX12_isOpen_28 (by decide) (fun c => absurd (by decide) c) (fun _ => ?_)
        refine lv_iconst (v := 1) hx hb dX12_isOpen_31 (by decide) ?_
        refine lv_goto (tgt := 36) hx hb dX12_isOpen_32 (by decide) ?_
        exact tk_zret hC hr rfl hlocks hK ⟨hT, hF, (Or.inr (Or.inr ⟨rfl, c35⟩))⟩ hw dX12_isOpen_36
      · refine lv_if_ne (tgt := 35) hx hb dX12_isOpen_28 (by decide) (fun _ => ?_) (fun c => absurd c (by decide))
        exact J35  H locs ls w30 (show 0 ≤ a1.toInt by omega) (show a1.toInt ≤ 11 by omega) (show 0 ≤ a2.toInt by omega) (show a2.toInt ≤ 9 by omega) (show 0 ≤ a3.toInt by omega) (show a3.toInt ≤ 99999 by omega)  hw hT hF  (lv_sub hl [0, 1, 2, 3] rfl)
abbrev P_X12_open_1 (ad : Nat → Nat) (cy : Nat → ClassId) (B : Int) (qr : Nat) (s1 : Int) (a1 : Int32) (a2 : Int32) (a3 : Int32) (w0 : va_W) : Int32 → va_W → Prop := fun r u => TW ksM ad cy B qr 12 u ∧ FE ksM ([] : List (Nat × Nat × Nat)) w0 u ∧ ((0 ≤ r.toInt ∧ r.toInt ≤ 1 ∧ 0 ≤ a1.toInt ∧ a1.toInt ≤ 11 ∧ 0 ≤ a2.toInt ∧ a2.toInt ≤ 9 ∧ 0 ≤ a3.toInt ∧ a3.toInt ≤ 99999 ∧ (∃ y : Int32, gi u 12 0 = y ∧ 1 ≤ y.toInt ∧ y.toInt ≤ 10) ∧ (∃ y : Int32, gi u 12 1 = y ∧ 1 ≤ y.toInt ∧ y.toInt ≤ 12)) ∨ (r = 1 ∧ 0 ≤ a1.toInt ∧ a1.toInt ≤ 11 ∧ 0 ≤ a2.toInt ∧ a2.toInt ≤ 9 ∧ 0 ≤ a3.toInt ∧ a3.toInt ≤ 99999 ∧ (∃ y : Int32, gi u 12 0 = y ∧ 1 ≤ y.toInt ∧ y.toInt ≤ 10) ∧ (∃ y : Int32, gi u 12 1 = y ∧ 1 ≤ y.toInt ∧ y.toInt ≤ 12) ∧ gi u 12 (10 * a1.toInt + 10).toNat = a2) ∨ (r = (-1)))
set_option maxHeartbeats 4000000 in
set_option maxRecDepth 100000 in
theorem k_X12_open_1 (l : Launch) (adK adV : Nat → Nat) (dC : Nat → ClassId) (dI : Nat → Nat → Nat) (cy : Nat → ClassId) (ad : Nat → Nat) (B : Int) (hB0 : 100000 ≤ B) (hB1 : B ≤ 1073741824) (qr : Nat) (s1 : Int)  (a1 : Int32) (a2 : Int32) (a3 : Int32) (w0 : va_W) (sz : Nat) (hT : TW ksM ad cy B qr 12 w0)  : Met l yX12_open wsX12_open ({ frames := 5, cells := 0, slots := 0, locals := 103 }) (va_Pc [.ref (ad 0), .int a1, .int a2, .int a3] (wpreS adK adV dC dI cy sz w0)) (va_Qi (P_X12_open_1 ad cy B qr s1 a1 a2 a3 w0) (fun u : va_W => wpost dC dI cy (va_A w0 sz) u) (va_A w0 sz)) 0 0 (va_A w0 sz) := by
  refine Met.ofW (cc := cX12_open) (maxL := 4) (ret := (some .int)) (by decide) rfl ?_
  intro p e s m args below meth c s₁ Bk hml hv
  obtain ⟨rfl, ⟨hsz, hP, hK, hD0⟩, hE, hSR⟩ := hv
  have hx := Bk.exec
  have hb := Bk.bytes
  have hr := Bk.returns
  have hlocks := Bk.notSynchronized
  have hC : CallFix p m c cX12_open 4 s _ wsX12_open RX12 := ⟨hx, hb, hml, findClass_of_methodNamed Bk.named, atoms_spec (ws := wsX12_open) Bk.pre⟩
  subst hsz
  have hD := hD0.self (sz := s.heap.size)
  generalize hAe : va_A w0 s.heap.size = A at hD hE ⊢
  have hA : ∀ q : Nat, s.heap.size ≤ q → A q := fun q h => by rw [← hAe]; exact Or.inr h
  have hw : Wd dC dI A s.heap s.heap [] w0 := ⟨hP, hD, va_S.rf⟩
  have hF : FE ksM ([] : List (Nat × Nat × Nat)) w0 w0 := FE.rf
  have hl := lv_entry ([.ref (ad 0), .int a1, .int a2, .int a3]) (n := 4) (Nat.le_of_ble_eq_true rfl)
  rw [lg_entry_eq]
  generalize (lg_sl ([.ref (ad 0), .int a1, .int a2, .int a3]) ++ List.replicate (4 - (lg_sl ([.ref (ad 0), .int a1, .int a2, .int a3])).length) Slot.unset).toArray = ls at hl ⊢
  have hl : lv_has ls 4 [(0, .ref (ad 0)), (1, .int a1), (2, .int a2), (3, .int a3)] := hl
  generalize hloc : ([] : List Loc) = locs at hw ⊢
  have J32 : ∀ (H : Heap) (locs : List Loc) (ls : Array Slot) (w1 : va_W), Wd dC dI A s.heap H locs w1 → TW ksM ad cy B qr 12 w1 → FE ksM ([] : List (Nat × Nat × Nat)) w0 w1 → lv_has ls 4 [(0, .ref (ad 0)), (1, .int a1), (2, .int a2), (3, .int a3)] → W p l e ({ frames := 5, cells := 0, slots := 0, locals := 103 }) s m (List.toArray [.ref (ad 0), .int a1, .int a2, .int a3]) below meth c H locs 0 0 (MQ below (va_Qi (P_X12_open_1 ad cy B qr s1 a1 a2 a3 w0) (fun u : va_W => wpost dC dI cy A u) A) (List.toArray [.ref (ad 0), .int a1, .int a2, .int a3]) s 0 0 A) (F0 m 32 ls []) := by
    intro H locs ls w1 hw hT hF hl
    refine lv_iconst (v := (-1)) hx hb dX12_open_32 (by decide) ?_
    exact tk_iret hC hr hlocks hK ⟨hT, hF, (Or.inr (Or.inr rfl))⟩ hw dX12_open_33
  refine lv_aload_n hx hb dX12_open_0 rfl (lv_at hl 0 rfl) ?_
  refine lv_iload_n hx hb dX12_open_1 rfl (lv_at hl 1 rfl) ?_
  refine tk_Vi hC hK hw hT hA hE hSR kM_at0 (by decide) rfl (k_X12_isStreet_1 l adK adV dC dI cy ad B (by omega) (by omega) qr s1   a1 w0 s.heap.size hT ) (cwV 1 hC.2.2.2.2 gX12_open_X12_isStreet rfl rfl rfl (by decide +kernel) ⟨Nat.le_of_ble_eq_true rfl, Nat.le_of_ble_eq_true rfl⟩) rfl hl.1 rfl (Nat.le_of_ble_eq_true rfl) dX12_open_2 (fun r2 w4 H locs hp3 hw => ?_)
  obtain ⟨hT, k5, hg10⟩ := hp3
  have hF := hF.tr k5 (by decide)
  rcases hg10 with rfl | ⟨rfl, g6, g7, ⟨x8, c9, rx8, tx8⟩⟩
  · refine lv_if_eq (tgt := 32) hx hb dX12_open_5 (by decide) (fun _ => ?_) (fun c => absurd (by decide) c)
    exact J32  H locs ls w4   hw hT hF  (lv_sub hl [0, 1, 2, 3] rfl)
  · refine lv_if_eq (tgt := 32) hx hb dX12_open_5 (by decide) (fun c => absurd c (by decide)) (fun _ => ?_)
    refine lv_aload_n hx hb dX12_open_8 rfl (lv_at hl 0 rfl) ?_
    refine lv_iload_n hx hb dX12_open_9 rfl (lv_at hl 2 rfl) ?_
    refine tk_Vi hC hK hw hT hA hE hSR kM_at0 (by decide) rfl (k_X12_isCorner_1 l adK adV dC dI cy ad B (by omega) (by omega) qr s1   a2 w4 H.size hT ) (cwV 1 hC.2.2.2.2 gX12_open_X12_isCorner rfl rfl rfl (by decide +kernel) ⟨Nat.le_of_ble_eq_true rfl, Nat.le_of_ble_eq_true rfl⟩) rfl hl.1 rfl (Nat.le_of_ble_eq_true rfl) dX12_open_10 (fun r11 w13 H locs hp12 hw => ?_)
    obtain ⟨hT, k14, hg19⟩ := hp12
    have hF := hF.tr k14 (by decide)
    have c20 := k14.gi kM_at12 (by decide) c9
    rcases hg19 with rfl | ⟨rfl, g15, g16, ⟨x17, c18, rx17, tx17⟩⟩
    · refine lv_if_eq (tgt := 32) hx hb dX12_open_13 (by decide) (fun _ => ?_) (fun c => absurd (by decide) c)
      exact J32  H locs ls w13   hw hT hF  (lv_sub hl [0, 1, 2, 3] rfl)
    · refine lv_if_eq (tgt := 32) hx hb dX12_open_13 (by decide) (fun c => absurd c (by decide)) (fun _ => ?_)
      refine lv_aload_n hx hb dX12_open_16 rfl (lv_at hl 0 rfl) ?_
      refine lv_iload_n hx hb dX12_open_17 rfl (lv_at hl 1 rfl) ?_
      refine lv_iload_n hx hb dX12_open_18 rfl (lv_at hl 2 rfl) ?_
      refine tk_Vi hC hK hw hT hA hE hSR kM_at0 (by decide) rfl (k_X12_isAt_1 l adK adV dC dI cy ad B (by omega) (by omega) qr s1   a1 (show 0 ≤ a1.toInt by omega) (show a1.toInt ≤ 11 by omega) a2 (show 0 ≤ a2.toInt by omega) (show a2.toInt ≤ 9 by omega) w13 H.size hT ) (cwV 2 hC.2.2.2.2 gX12_open_X12_isAt rfl rfl rfl (by decide +kernel) ⟨Nat.le_of_ble_eq_true rfl, Nat.le_of_ble_eq_true rfl⟩) rfl hl.1 rfl (Nat.le_of_ble_eq_true rfl) dX12_open_19 (fun r21 w23 H locs hp22 hw => ?_)
      obtain ⟨hT, k24, hg25⟩ := hp22
      have hF := hF.tr k24 (by decide)
      have c26 := k24.gi kM_at12 (by decide) c20
      have c27 := k24.gi kM_at12 (by decide) c18
      rcases hg25 with rfl | rfl
      · refine lv_if_eq (tgt := 32) hx hb dX12_open_22 (by decide) (fun _ => ?_) (fun c => absurd (by decide) c)
        exact J32  H locs ls w23   hw hT hF  (lv_sub hl [0, 1, 2, 3] rfl)
      · refine lv_if_eq (tgt := 32) hx hb dX12_open_22 (by decide) (fun c => absurd c (by decide)) (fun _ => ?_)
        refine lv_iload_n hx hb dX12_open_25 rfl (lv_at hl 3 rfl) ?_
        refine tk_Si hC hK hw hT hA hE hSR (k_X12_isHour_1 l adK adV dC dI cy ad B (by omega) (by omega) qr s1   a3 w23 H.size hT ) (va_cwS 1 hC.2.2.2.2 gX12_open_X12_isHour rfl rfl rfl (by decide +kernel) ⟨Nat.le_of_ble_eq_true rfl, Nat.le_of_ble_eq_true rfl⟩) rfl hl.1 rfl (Nat.le_of_ble_eq_true rfl) dX12_open_26 (fun r28 w30 H locs hp29 hw => ?_)
        obtain ⟨hT, k31, hg34⟩ := hp29
        have hF := hF.tr k31 (by decide)
        have c35 := k31.gi kM_at12 (by decide) c26
        have c36 := k31.gi kM_at12 (by decide) c27
        rcases hg34 with rfl | ⟨rfl, g32, g33⟩
        · refine lv_if_ne (tgt := 34) hx hb dX12_open_29 (by decide) (fun c => absurd (by decide) c) (fun _ => ?_)
          exact J32  H locs ls w30   hw hT hF  (lv_sub hl [0, 1, 2, 3] rfl)
        · refine lv_if_ne (tgt := 34) hx hb dX12_open_29 (by decide) (fun _ => ?_) (fun c => absurd c (by decide))
          refine lv_aload_n hx hb dX12_open_34 rfl (lv_at hl 0 rfl) ?_
          refine lv_iload_n hx hb dX12_open_35 rfl (lv_at hl 1 rfl) ?_
          refine lv_iload_n hx hb dX12_open_36 rfl (lv_at hl 2 rfl) ?_
          refine lv_iload_n hx hb dX12_open_37 rfl (lv_at hl 3 rfl) ?_
          refine tk_Vi hC hK hw hT hA hE hSR kM_at0 (by decide) rfl (k_X12_isOpen_1 l adK adV dC dI cy ad B (by omega) (by omega) qr s1   a1 (show 0 ≤ a1.toInt by omega) (show a1.toInt ≤ 11 by omega) a2 (show 0 ≤ a2.toInt by omega) (show a2.toInt ≤ 9 by omega) a3 (show 0 ≤ a3.toInt by omega) (show a3.toInt ≤ 99999 by omega) w30 H.size hT ) (cwV 3 hC.2.2.2.2 gX12_open_X12_isOpen rfl rfl rfl (by decide +kernel) ⟨Nat.le_of_ble_eq_true rfl, Nat.le_of_ble_eq_true rfl⟩) rfl hl.1 rfl (Nat.le_of_ble_eq_true rfl) dX12_open_38 (fun r37 w39 H locs hp38 hw => ?_)
          obtain ⟨hT, k40, hg42⟩ := hp38
          have hF := hF.tr k40 (by decide)
          have c43 := k40.gi kM_at12 (by decide) c35
          have c44 := k40.gi kM_at12 (by decide) c36
          rcases hg42 with rfl | rfl | ⟨rfl, c41⟩
          · refine lv_if_eq (tgt := 48) hx hb dX12_open_41 (by decide) (fun _ => ?_) (fun c => absurd (by decide) c)
            refine lv_iconst (v := 0) hx hb dX12_open_48 (by decide) ?_
            exact tk_iret hC hr hlocks hK ⟨hT, hF, (Or.inl ⟨(by decide), (by decide), (show 0 ≤ a1.toInt by omega), (show a1.toInt ≤ 11 by omega), (show 0 ≤ a2.toInt by omega), (show a2.toInt ≤ 9 by omega), (show 0 ≤ a3.toInt by omega), (show a3.toInt ≤ 99999 by omega), ⟨x17, c44, (show 1 ≤ x17.toInt by omega), (show x17.toInt ≤ 10 by omega)⟩, ⟨x8, c43, (show 1 ≤ x8.toInt by omega), (show x8.toInt ≤ 12 by omega)⟩⟩)⟩ hw dX12_open_49
          · refine lv_if_eq (tgt := 48) hx hb dX12_open_41 (by decide) (fun c => absurd c (by decide)) (fun _ => ?_)
            refine lv_iconst (v := 1) hx hb dX12_open_44 (by decide) ?_
            refine lv_goto (tgt := 49) hx hb dX12_open_45 (by decide) ?_
            exact tk_iret hC hr hlocks hK ⟨hT, hF, (Or.inl ⟨(by decide), (by decide), (show 0 ≤ a1.toInt by omega), (show a1.toInt ≤ 11 by omega), (show 0 ≤ a2.toInt by omega), (show a2.toInt ≤ 9 by omega), (show 0 ≤ a3.toInt by omega), (show a3.toInt ≤ 99999 by omega), ⟨x17, c44, (show 1 ≤ x17.toInt by omega), (show x17.toInt ≤ 10 by omega)⟩, ⟨x8, c43, (show 1 ≤ x8.toInt by omega), (show x8.toInt ≤ 12 by omega)⟩⟩)⟩ hw dX12_open_49
          · refine lv_if_eq (tgt := 48) hx hb dX12_open_41 (by decide) (fun c => absurd c (by decide)) (fun _ => ?_)
            refine lv_iconst (v := 1) hx hb dX12_open_44 (by decide) ?_
            refine lv_goto (tgt := 49) hx hb dX12_open_45 (by decide) ?_
            exact tk_iret hC hr hlocks hK ⟨hT, hF, (Or.inr (Or.inl ⟨rfl, (show 0 ≤ a1.toInt by omega), (show a1.toInt ≤ 11 by omega), (show 0 ≤ a2.toInt by omega), (show a2.toInt ≤ 9 by omega), (show 0 ≤ a3.toInt by omega), (show a3.toInt ≤ 99999 by omega), ⟨x17, c44, (show 1 ≤ x17.toInt by omega), (show x17.toInt ≤ 10 by omega)⟩, ⟨x8, c43, (show 1 ≤ x8.toInt by omega), (show x8.toInt ≤ 12 by omega)⟩, c41⟩))⟩ hw dX12_open_49
abbrev P_X12_isTown_1 (ad : Nat → Nat) (cy : Nat → ClassId) (B : Int) (qr : Nat) (s1 : Int)  (w0 : va_W) : Int32 → va_W → Prop := fun r u => TW ksM ad cy B qr 12 u ∧ FE ksM ([] : List (Nat × Nat × Nat)) w0 u ∧ ((r = 0 ∧ (∃ y : Int32, gi u 12 0 = y ∧ 0 ≤ y.toInt ∧ y.toInt ≤ 0)) ∨ (r = 1 ∧ (∃ y : Int32, gi u 12 0 = y ∧ 1 ≤ y.toInt ∧ y.toInt ≤ 10)))
set_option maxHeartbeats 4000000 in
set_option maxRecDepth 100000 in
theorem k_X12_isTown_1 (l : Launch) (adK adV : Nat → Nat) (dC : Nat → ClassId) (dI : Nat → Nat → Nat) (cy : Nat → ClassId) (ad : Nat → Nat) (B : Int) (hB0 : 100000 ≤ B) (hB1 : B ≤ 1073741824) (qr : Nat) (s1 : Int)   (w0 : va_W) (sz : Nat) (hT : TW ksM ad cy B qr 12 w0)  : Met l yX12_isTown wsX12_isTown ({ frames := 1, cells := 0, slots := 0, locals := 12 }) (va_Pc [.ref (ad 0)] (wpreS adK adV dC dI cy sz w0)) (va_Qi (P_X12_isTown_1 ad cy B qr s1  w0) (fun u : va_W => wpost dC dI cy (va_A w0 sz) u) (va_A w0 sz)) 0 0 (va_A w0 sz) := by
  refine Met.ofW (cc := cX12_isTown) (maxL := 1) (ret := (some .boolean)) (by decide) rfl ?_
  intro p e s m args below meth c s₁ Bk hml hv
  obtain ⟨rfl, ⟨hsz, hP, hK, hD0⟩, hE, hSR⟩ := hv
  have hx := Bk.exec
  have hb := Bk.bytes
  have hr := Bk.returns
  have hlocks := Bk.notSynchronized
  have hC : CallFix p m c cX12_isTown 1 s _ wsX12_isTown RX12 := ⟨hx, hb, hml, findClass_of_methodNamed Bk.named, atoms_spec (ws := wsX12_isTown) Bk.pre⟩
  subst hsz
  have hD := hD0.self (sz := s.heap.size)
  generalize hAe : va_A w0 s.heap.size = A at hD hE ⊢
  have hA : ∀ q : Nat, s.heap.size ≤ q → A q := fun q h => by rw [← hAe]; exact Or.inr h
  have hw : Wd dC dI A s.heap s.heap [] w0 := ⟨hP, hD, va_S.rf⟩
  have hF : FE ksM ([] : List (Nat × Nat × Nat)) w0 w0 := FE.rf
  have hl := lv_entry ([.ref (ad 0)]) (n := 1) (Nat.le_of_ble_eq_true rfl)
  rw [lg_entry_eq]
  generalize (lg_sl ([.ref (ad 0)]) ++ List.replicate (1 - (lg_sl ([.ref (ad 0)])).length) Slot.unset).toArray = ls at hl ⊢
  have hl : lv_has ls 1 [(0, .ref (ad 0))] := hl
  generalize hloc : ([] : List Loc) = locs at hw ⊢
  have hinX12 : ∀ w ∈ u_ws RX12 TX12 42, w ∈ wsX12_isTown := fun _ h => List.mem_cons_of_mem _ (List.mem_append_right _ (h))
  refine lv_aload_n hx hb dX12_isTown_0 rfl (lv_at hl 0 rfl) ?_
  refine tk_getA hC hK hw hT hinX12 kM_at0 (by decide) rfl 26 (by decide) (List.mem_of_getElem? (i := 1) rfl) rfl rfl dX12_isTown_1 ?_
  refine lv_iconst (v := 0) hx hb dX12_isTown_4 (by decide) ?_
  refine tk_ialdR hC hK hw hT kM_at12 rfl (by decide) (by decide) dX12_isTown_5 (fun x1 c2 Ex1 => ?_)
  have bx1 := tk_rgI rfl 0 1 1 0 10 (by decide +kernel) ⟨0, by decide, by decide⟩ Ex1
  have c2 : gi w0 12 0 = x1 := c2
  refine lv_if_le (tgt := 13) hx hb dX12_isTown_6 (by decide) (fun c3 => ?_) (fun c3 => ?_)
  · have c3 : x1.toInt ≤ (0 : Int) := wk_le.mp c3
    refine lv_iconst (v := 0) hx hb dX12_isTown_13 (by decide) ?_
    exact tk_zret hC hr rfl hlocks hK ⟨hT, hF, (Or.inl ⟨rfl, ⟨x1, c2, (show 0 ≤ x1.toInt by omega), (show x1.toInt ≤ 0 by omega)⟩⟩)⟩ hw dX12_isTown_14
  · have c3 : (0 : Int) < x1.toInt := wk_leF c3
    refine lv_iconst (v := 1) hx hb dX12_isTown_9 (by decide) ?_
    refine lv_goto (tgt := 14) hx hb dX12_isTown_10 (by decide) ?_
    exact tk_zret hC hr rfl hlocks hK ⟨hT, hF, (Or.inr ⟨rfl, ⟨x1, c2, (show 1 ≤ x1.toInt by omega), (show x1.toInt ≤ 10 by omega)⟩⟩)⟩ hw dX12_isTown_14
abbrev P_X12_in_10 (ad : Nat → Nat) (cy : Nat → ClassId) (B : Int) (qr : Nat) (s1 : Int) (a0 : Int64) (w0 : va_W) : Int32 → va_W → Prop := fun r u => TW ksM ad cy B qr 12 u ∧ FE ksM ([] : List (Nat × Nat × Nat)) w0 u ∧ ((r = 0) ∨ (r = 1 ∧ 0 ≤ a0.toInt ∧ a0.toInt ≤ 6))
set_option maxHeartbeats 4000000 in
set_option maxRecDepth 100000 in
theorem k_X12_in_10 (l : Launch) (adK adV : Nat → Nat) (dC : Nat → ClassId) (dI : Nat → Nat → Nat) (cy : Nat → ClassId) (ad : Nat → Nat) (B : Int) (hB0 : 100000 ≤ B) (hB1 : B ≤ 1073741824) (qr : Nat) (s1 : Int)  (a0 : Int64) (ra0 : (-2147483648) ≤ a0.toInt) (ta0 : a0.toInt ≤ 2147483647) (w0 : va_W) (sz : Nat) (hT : TW ksM ad cy B qr 12 w0)  : Met l yX12_in wsX12_in ({ frames := 1, cells := 0, slots := 0, locals := 12 }) (va_Pc [.long a0, .long 0, .long 6] (wpreS adK adV dC dI cy sz w0)) (va_Qi (P_X12_in_10 ad cy B qr s1 a0 w0) (fun u : va_W => wpost dC dI cy (va_A w0 sz) u) (va_A w0 sz)) 0 0 (va_A w0 sz) := by
  refine Met.ofW (cc := cX12_in) (maxL := 6) (ret := (some .boolean)) (by decide) rfl ?_
  intro p e s m args below meth c s₁ Bk hml hv
  obtain ⟨rfl, ⟨hsz, hP, hK, hD0⟩, hE, hSR⟩ := hv
  have hx := Bk.exec
  have hb := Bk.bytes
  have hr := Bk.returns
  have hlocks := Bk.notSynchronized
  have hC : CallFix p m c cX12_in 6 s _ wsX12_in RX12 := ⟨hx, hb, hml, findClass_of_methodNamed Bk.named, atoms_spec (ws := wsX12_in) Bk.pre⟩
  subst hsz
  have hD := hD0.self (sz := s.heap.size)
  generalize hAe : va_A w0 s.heap.size = A at hD hE ⊢
  have hA : ∀ q : Nat, s.heap.size ≤ q → A q := fun q h => by rw [← hAe]; exact Or.inr h
  have hw : Wd dC dI A s.heap s.heap [] w0 := ⟨hP, hD, va_S.rf⟩
  have hF : FE ksM ([] : List (Nat × Nat × Nat)) w0 w0 := FE.rf
  have hl := lv_entry ([.long a0, .long 0, .long 6]) (n := 6) (Nat.le_of_ble_eq_true rfl)
  rw [lg_entry_eq]
  generalize (lg_sl ([.long a0, .long 0, .long 6]) ++ List.replicate (6 - (lg_sl ([.long a0, .long 0, .long 6])).length) Slot.unset).toArray = ls at hl ⊢
  have hl : lv_has ls 6 [(0, .long a0), (2, .long 0), (4, .long 6)] := hl
  generalize hloc : ([] : List Loc) = locs at hw ⊢
  have J17 : ∀ (H : Heap) (locs : List Loc) (ls : Array Slot) (w1 : va_W), (-2147483648) ≤ a0.toInt → a0.toInt ≤ 2147483647 → Wd dC dI A s.heap H locs w1 → TW ksM ad cy B qr 12 w1 → FE ksM ([] : List (Nat × Nat × Nat)) w0 w1 → lv_has ls 6 [(0, .long a0), (2, .long 0), (4, .long 6)] → W p l e ({ frames := 1, cells := 0, slots := 0, locals := 12 }) s m (List.toArray [.long a0, .long 0, .long 6]) below meth c H locs 0 0 (MQ below (va_Qi (P_X12_in_10 ad cy B qr s1 a0 w0) (fun u : va_W => wpost dC dI cy A u) A) (List.toArray [.long a0, .long 0, .long 6]) s 0 0 A) (F0 m 17 ls []) := by
    intro H locs ls w1 r2 t3 hw hT hF hl
    refine lv_iconst (v := 0) hx hb dX12_in_17 (by decide) ?_
    exact tk_zret hC hr rfl hlocks hK ⟨hT, hF, (Or.inl rfl)⟩ hw dX12_in_18
  refine lv_lload_n hx hb dX12_in_0 rfl (lv_at hl 0 rfl) ?_
  refine lv_lload_n hx hb dX12_in_1 rfl (lv_at hl 1 rfl) ?_
  refine W.lcmp hx hb dX12_in_2 ?_
  refine lv_if_lt (tgt := 17) hx hb dX12_in_3 (by decide) (fun c4 => ?_) (fun c4 => ?_)
  · have c4 : a0.toInt < (0 : Int) := wk_cltT c4
    exact J17  s.heap locs ls w0 (show (-2147483648) ≤ a0.toInt by omega) (show a0.toInt ≤ 2147483647 by omega)  hw hT hF  (lv_sub hl [0, 1, 2] rfl)
  · have c4 : (0 : Int) ≤ a0.toInt := wk_cltF c4
    refine lv_lload_n hx hb dX12_in_6 rfl (lv_at hl 0 rfl) ?_
    refine lv_lload hx hb dX12_in_7 (lv_at hl 2 rfl) ?_
    refine W.lcmp hx hb dX12_in_9 ?_
    refine lv_if_gt (tgt := 17) hx hb dX12_in_10 (by decide) (fun c5 => ?_) (fun c5 => ?_)
    · have c5 : (6 : Int) < a0.toInt := wk_cgtT c5
      exact J17  s.heap locs ls w0 (show (-2147483648) ≤ a0.toInt by omega) (show a0.toInt ≤ 2147483647 by omega)  hw hT hF  (lv_sub hl [0, 1, 2] rfl)
    · have c5 : a0.toInt ≤ (6 : Int) := wk_cgtF c5
      refine lv_iconst (v := 1) hx hb dX12_in_13 (by decide) ?_
      refine lv_goto (tgt := 18) hx hb dX12_in_14 (by decide) ?_
      exact tk_zret hC hr rfl hlocks hK ⟨hT, hF, (Or.inr ⟨rfl, (show 0 ≤ a0.toInt by omega), (show a0.toInt ≤ 6 by omega)⟩)⟩ hw dX12_in_18
abbrev P_X12_print_1 (ad : Nat → Nat) (cy : Nat → ClassId) (B : Int) (qr : Nat) (s1 : Int) (a1 : Int32) (w0 : va_W) : Int32 → va_W → Prop := fun r u => TW ksM ad cy B qr 12 u ∧ FE ksM [(71, 4, 4), (71, 168, 215)] w0 u ∧ ((r = (-2)) ∨ (0 ≤ r.toInt ∧ r.toInt ≤ 3 ∧ 0 ≤ a1.toInt ∧ a1.toInt ≤ 6 ∧ (∃ y : Int32, gi u 12 0 = y ∧ 1 ≤ y.toInt ∧ y.toInt ≤ 10) ∧ (∃ y : Int32, gi u 12 4 = y ∧ 1 ≤ y.toInt ∧ y.toInt ≤ 4)))
set_option maxHeartbeats 4000000 in
set_option maxRecDepth 100000 in
theorem k_X12_print_1 (l : Launch) (adK adV : Nat → Nat) (dC : Nat → ClassId) (dI : Nat → Nat → Nat) (cy : Nat → ClassId) (ad : Nat → Nat) (B : Int) (hB0 : 100000 ≤ B) (hB1 : B ≤ 1073741824) (qr : Nat) (s1 : Int)  (a1 : Int32) (w0 : va_W) (sz : Nat) (hT : TW ksM ad cy B qr 12 w0)  : Met l yX12_print wsX12_print ({ frames := 2, cells := 0, slots := 0, locals := 37 }) (va_Pc [.ref (ad 0), .int a1] (wpreS adK adV dC dI cy sz w0)) (va_Qi (P_X12_print_1 ad cy B qr s1 a1 w0) (fun u : va_W => wpost dC dI cy (va_A w0 sz) u) (va_A w0 sz)) 0 0 (va_A w0 sz) := by
  refine Met.ofW (cc := cX12_print) (maxL := 3) (ret := (some .int)) (by decide) rfl ?_
  intro p e s m args below meth c s₁ Bk hml hv
  obtain ⟨rfl, ⟨hsz, hP, hK, hD0⟩, hE, hSR⟩ := hv
  have hx := Bk.exec
  have hb := Bk.bytes
  have hr := Bk.returns
  have hlocks := Bk.notSynchronized
  have hC : CallFix p m c cX12_print 3 s _ wsX12_print RX12 := ⟨hx, hb, hml, findClass_of_methodNamed Bk.named, atoms_spec (ws := wsX12_print) Bk.pre⟩
  subst hsz
  have hD := hD0.self (sz := s.heap.size)
  generalize hAe : va_A w0 s.heap.size = A at hD hE ⊢
  have hA : ∀ q : Nat, s.heap.size ≤ q → A q := fun q h => by rw [← hAe]; exact Or.inr h
  have hw : Wd dC dI A s.heap s.heap [] w0 := ⟨hP, hD, va_S.rf⟩
  have hF : FE ksM [(71, 4, 4), (71, 168, 215)] w0 w0 := FE.rf
  have hl := lv_entry ([.ref (ad 0), .int a1]) (n := 3) (Nat.le_of_ble_eq_true rfl)
  rw [lg_entry_eq]
  generalize (lg_sl ([.ref (ad 0), .int a1]) ++ List.replicate (3 - (lg_sl ([.ref (ad 0), .int a1])).length) Slot.unset).toArray = ls at hl ⊢
  have hl : lv_has ls 3 [(0, .ref (ad 0)), (1, .int a1)] := hl
  generalize hloc : ([] : List Loc) = locs at hw ⊢
  have hinX12 : ∀ w ∈ u_ws RX12 TX12 42, w ∈ wsX12_print := fun _ h => List.mem_cons_of_mem _ (List.mem_append_right _ (h))
  have J29 : ∀ (f29_12_0 : Int32) (H : Heap) (locs : List Loc) (ls : Array Slot) (w1 : va_W), 0 ≤ f29_12_0.toInt → f29_12_0.toInt ≤ 10 → Wd dC dI A s.heap H locs w1 → TW ksM ad cy B qr 12 w1 → FE ksM [(71, 4, 4), (71, 168, 215)] w0 w1 → gi w1 12 0 = f29_12_0 → lv_has ls 3 [(0, .ref (ad 0)), (1, .int a1)] → W p l e ({ frames := 2, cells := 0, slots := 0, locals := 37 }) s m (List.toArray [.ref (ad 0), .int a1]) below meth c H locs 0 0 (MQ below (va_Qi (P_X12_print_1 ad cy B qr s1 a1 w0) (fun u : va_W => wpost dC dI cy A u) A) (List.toArray [.ref (ad 0), .int a1]) s 0 0 A) (F0 m 29 ls []) := by
    intro f29_12_0 H locs ls w1 r2 t3 hw hT hF c4 hl
    refine lv_bipush (v := (-2)) hx hb dX12_print_29 (by decide) ?_
    exact tk_iret hC hr hlocks hK ⟨hT, hF, (Or.inl rfl)⟩ hw dX12_print_31
  have L34 : ∀ (n34 : Nat) (v34_2 : Int32) (f34_12_0 : Int32) (f34_12_4 : Int32) (H : Heap) (locs : List Loc) (ls : Array Slot) (w5 : va_W), 0 ≤ a1.toInt → a1.toInt ≤ 6 → 0 ≤ v34_2.toInt → v34_2.toInt ≤ 12 → 1 ≤ f34_12_0.toInt → f34_12_0.toInt ≤ 10 → 0 ≤ f34_12_4.toInt → f34_12_4.toInt ≤ 3 → (12 - v34_2.toInt).toNat < n34 → Wd dC dI A s.heap H locs w5 → TW ksM ad cy B qr 12 w5 → FE ksM [(71, 4, 4), (71, 168, 215)] w0 w5 → gi w5 12 0 = f34_12_0 → gi w5 12 4 = f34_12_4 → lv_has ls 3 [(0, .ref (ad 0)), (1, .int a1), (2, .int v34_2)] → W p l e ({ frames := 2, cells := 0, slots := 0, locals := 37 }) s m (List.toArray [.ref (ad 0), .int a1]) below meth c H locs 0 0 (MQ below (va_Qi (P_X12_print_1 ad cy B qr s1 a1 w0) (fun u : va_W => wpost dC dI cy A u) A) (List.toArray [.ref (ad 0), .int a1]) s 0 0 A) (F0 m 34 ls []) := by
    intro n34
    induction n34 with
    | zero => intro v34_2 f34_12_0 f34_12_4 H locs ls w5 r6 t7 r8 t9 r10 t11 r13 t14 hm34 hw hT hF c12 c15 hl; omega
    | succ n34 ih34 =>
      intro v34_2 f34_12_0 f34_12_4 H locs ls w5 r6 t7 r8 t9 r10 t11 r13 t14 hm34 hw hT hF c12 c15 hl
      refine lv_iload_n hx hb dX12_print_34 rfl (lv_at hl 2 rfl) ?_
      refine lv_aload_n hx hb dX12_print_35 rfl (lv_at hl 0 rfl) ?_
      refine tk_getA hC hK hw hT hinX12 kM_at0 (by decide) rfl 26 (by decide) (List.mem_of_getElem? (i := 2) rfl) rfl rfl dX12_print_36 ?_
      refine lv_iconst (v := 1) hx hb dX12_print_39 (by decide) ?_
      refine tk_ialdR hC hK hw hT kM_at12 rfl (by decide) (by decide) dX12_print_40 (fun x16 c17 Ex16 => ?_)
      have bx16 : 0 ≤ x16.toInt ∧ x16.toInt ≤ 12 := (tk_rg1 rfl).mp Ex16
      have c17 : gi w5 12 1 = x16 := c17
      refine lv_icmp_ge (tgt := 78) hx hb dX12_print_41 (by decide) (fun c18 => ?_) (fun c18 => ?_)
      · have c18 : x16.toInt ≤ v34_2.toInt := wk_le.mp c18
        refine lv_aload_n hx hb dX12_print_78 rfl (lv_at hl 0 rfl) ?_
        refine tk_getA hC hK hw hT hinX12 kM_at0 (by decide) rfl 26 (by decide) (List.mem_of_getElem? (i := 2) rfl) rfl rfl dX12_print_79 ?_
        refine lv_iconst (v := 4) hx hb dX12_print_82 (by decide) ?_
        refine lv_dup2_11 hx hb dX12_print_83 rfl rfl ?_
        refine tk_ialdR hC hK hw hT kM_at12 rfl (by decide) (by decide) dX12_print_84 (fun x19 c20 Ex19 => ?_)
        refine wk_top f34_12_4 (c20.symm.trans c15) ?_
        refine lv_iconst (v := 1) hx hb dX12_print_85 (by decide) ?_
        refine lv_iadd hx hb dX12_print_86 ?_
        refine lv_topi (fun x21 ex21 => ?_)
        have ex21 : x21.toInt = f34_12_4.toInt + (1 : Int) := by rw [ex21]; exact wk_add (show (-2147483648) ≤ f34_12_4.toInt + (1 : Int) by omega) (show f34_12_4.toInt + (1 : Int) ≤ 2147483647 by omega)
        refine tk_iastR hC hK hw hT kM_at12 (by decide) rfl (by decide) (by decide) (tk_rgS rfl 4 1 1 1 4 (by decide +kernel) ⟨0, by decide, by decide⟩ (show 1 ≤ x21.toInt by omega) (show x21.toInt ≤ 4 by omega)) dX12_print_87 (fun H locs w22 hw hT k24 c23 => ?_)
        have hF := hF.put kM_at12 (inE_of (a := 4) (b := 4) (by decide) (by decide) (by decide)) k24
        have c25 := k24.gi (Or.inr (by decide)) c12
        have c26 := k24.gi (Or.inr (by decide)) c17
        have c23 : gi w22 12 4 = x21 := c23
        refine lv_aload_n hx hb dX12_print_88 rfl (lv_at hl 0 rfl) ?_
        refine tk_getA hC hK hw hT hinX12 kM_at0 (by decide) rfl 26 (by decide) (List.mem_of_getElem? (i := 2) rfl) rfl rfl dX12_print_89 ?_
        refine lv_iconst (v := 4) hx hb dX12_print_92 (by decide) ?_
        refine tk_ialdR hC hK hw hT kM_at12 rfl (by decide) (by decide) dX12_print_93 (fun x27 c28 Ex27 => ?_)
        refine wk_top x21 (c28.symm.trans c23) ?_
        refine lv_iconst (v := 1) hx hb dX12_print_94 (by decide) ?_
        refine lv_isub hx hb dX12_print_95 ?_
        refine lv_topi (fun x29 ex29 => ?_)
        have ex29 : x29.toInt = x21.toInt - (1 : Int) := by rw [ex29]; exact wk_sub (show (-2147483648) ≤ x21.toInt - (1 : Int) by omega) (show x21.toInt - (1 : Int) ≤ 2147483647 by omega)
        exact tk_iret hC hr hlocks hK ⟨hT, hF, (Or.inr ⟨(show 0 ≤ x29.toInt by omega), (show x29.toInt ≤ 3 by omega), (show 0 ≤ a1.toInt by omega), (show a1.toInt ≤ 6 by omega), ⟨f34_12_0, c25, (show 1 ≤ f34_12_0.toInt by omega), (show f34_12_0.toInt ≤ 10 by omega)⟩, ⟨x21, c23, (show 1 ≤ x21.toInt by omega), (show x21.toInt ≤ 4 by omega)⟩⟩)⟩ hw dX12_print_96
      · have c18 : v34_2.toInt < x16.toInt := wk_leF c18
        refine lv_aload_n hx hb dX12_print_44 rfl (lv_at hl 0 rfl) ?_
        refine tk_getA hC hK hw hT hinX12 kM_at0 (by decide) rfl 26 (by decide) (List.mem_of_getElem? (i := 2) rfl) rfl rfl dX12_print_45 ?_
        refine lv_sipush (v := 168) hx hb dX12_print_48 (by decide) ?_
        refine lv_bipush (v := 12) hx hb dX12_print_51 (by decide) ?_
        refine lv_aload_n hx hb dX12_print_53 rfl (lv_at hl 0 rfl) ?_
        refine tk_getA hC hK hw hT hinX12 kM_at0 (by decide) rfl 26 (by decide) (List.mem_of_getElem? (i := 2) rfl) rfl rfl dX12_print_54 ?_
        refine lv_iconst (v := 4) hx hb dX12_print_57 (by decide) ?_
        refine tk_ialdR hC hK hw hT kM_at12 rfl (by decide) (by decide) dX12_print_58 (fun x30 c31 Ex30 => ?_)
        refine wk_top f34_12_4 (c31.symm.trans c15) ?_
        refine lv_imul hx hb dX12_print_59 ?_
        refine lv_topi (fun x32 ex32 => ?_)
        have ex32 : x32.toInt = (12 : Int) * f34_12_4.toInt := by rw [ex32]; exact wk_mul (show (-2147483648) ≤ (12 : Int) * f34_12_4.toInt by omega) (show (12 : Int) * f34_12_4.toInt ≤ 2147483647 by omega)
        refine lv_iadd hx hb dX12_print_60 ?_
        refine lv_topi (fun x33 ex33 => ?_)
        have ex33 : x33.toInt = (168 : Int) + x32.toInt := by rw [ex33]; exact wk_add (show (-2147483648) ≤ (168 : Int) + x32.toInt by omega) (show (168 : Int) + x32.toInt ≤ 2147483647 by omega)
        refine lv_iload_n hx hb dX12_print_61 rfl (lv_at hl 2 rfl) ?_
        refine lv_iadd hx hb dX12_print_62 ?_
        refine lv_topi (fun x34 ex34 => ?_)
        have ex34 : x34.toInt = x33.toInt + v34_2.toInt := by rw [ex34]; exact wk_add (show (-2147483648) ≤ x33.toInt + v34_2.toInt by omega) (show x33.toInt + v34_2.toInt ≤ 2147483647 by omega)
        refine lv_aload_n hx hb dX12_print_63 rfl (lv_at hl 0 rfl) ?_
        refine lv_iload_n hx hb dX12_print_64 rfl (lv_at hl 2 rfl) ?_
        refine lv_iconst (v := 3) hx hb dX12_print_65 (by decide) ?_
        refine lv_iload_n hx hb dX12_print_66 rfl (lv_at hl 1 rfl) ?_
        refine lv_iadd hx hb dX12_print_67 ?_
        refine lv_topi (fun x35 ex35 => ?_)
        have ex35 : x35.toInt = (3 : Int) + a1.toInt := by rw [ex35]; exact wk_add (show (-2147483648) ≤ (3 : Int) + a1.toInt by omega) (show (3 : Int) + a1.toInt ≤ 2147483647 by omega)
        refine tk_Vi hC hK hw hT hA hE hSR kM_at0 (by decide) rfl (k_X12_streetOf_4 l adK adV dC dI cy ad B (by omega) (by omega) qr s1   v34_2 (show 0 ≤ v34_2.toInt by omega) (show v34_2.toInt ≤ 11 by omega) x35 (show 3 ≤ x35.toInt by omega) (show x35.toInt ≤ 9 by omega) w5 H.size hT ) (cwV 2 hC.2.2.2.2 gX12_print_X12_streetOf rfl rfl rfl (by decide +kernel) ⟨Nat.le_of_ble_eq_true rfl, Nat.le_of_ble_eq_true rfl⟩) rfl hl.1 rfl (Nat.le_of_ble_eq_true rfl) dX12_print_68 (fun r36 w38 H locs hp37 hw => ?_)
        obtain ⟨hT, k39, hg42⟩ := hp37
        have hF := hF.tr k39 (by decide)
        have c43 := k39.gi kM_at12 (by decide) c12
        have c44 := k39.gi kM_at12 (by decide) c15
        have c45 := k39.gi kM_at12 (by decide) c17
        obtain ⟨g40, g41⟩ := hg42
        refine tk_iastR hC hK hw hT kM_at12 (by decide) rfl (show 0 ≤ x34.toInt by omega) (show x34.toInt < 296 by omega) (tk_rgS rfl 168 1 48 0 9 (by decide +kernel) ⟨(x34.toInt - 168).toNat, by omega, show x34.toInt.toNat = 168 + 1 * (x34.toInt - 168).toNat by omega⟩ (show 0 ≤ r36.toInt by omega) (show r36.toInt ≤ 9 by omega)) dX12_print_71 (fun H locs w46 hw hT k48 c47 => ?_)
        have hF := hF.put kM_at12 (inE_of (a := 168) (b := 215) (by decide) (show 168 ≤ x34.toInt.toNat by omega) (show x34.toInt.toNat ≤ 215 by omega)) k48
        have c49 := k48.gi (Or.inr (show 0 ≠ x34.toInt.toNat by omega)) c43
        have c50 := k48.gi (Or.inr (show 4 ≠ x34.toInt.toNat by omega)) c44
        have c51 := k48.gi (Or.inr (show 1 ≠ x34.toInt.toNat by omega)) c45
        obtain ⟨x52, ex52⟩ : ∃ y : Int32, y = v34_2 + Int32.ofInt 1 := ⟨_, rfl⟩
        refine lv_iinc (v := x52) (lv' := [(2, .int x52), (0, .ref (ad 0)), (1, .int a1)]) hx hb dX12_print_72 hl (k := 2) rfl ex52.symm (by decide) rfl (fun ls hl => ?_)
        have ex52 : x52.toInt = v34_2.toInt + 1 := by rw [ex52]; exact wk_add (y := 1) (show -2147483648 ≤ v34_2.toInt + 1 by omega) (show v34_2.toInt + 1 ≤ 2147483647 by omega)
        refine lv_goto (tgt := 34) hx hb dX12_print_75 (by decide) ?_
        exact ih34 x52 f34_12_0 f34_12_4 H locs ls w46 (show 0 ≤ a1.toInt by omega) (show a1.toInt ≤ 6 by omega) (show 0 ≤ x52.toInt by omega) (show x52.toInt ≤ 12 by omega) (show 1 ≤ f34_12_0.toInt by omega) (show f34_12_0.toInt ≤ 10 by omega) (show 0 ≤ f34_12_4.toInt by omega) (show f34_12_4.toInt ≤ 3 by omega) (show (12 - x52.toInt).toNat < n34 by omega) hw hT hF c49 c50 (lv_sub hl [1, 2, 0] rfl)
  refine lv_aload_n hx hb dX12_print_0 rfl (lv_at hl 0 rfl) ?_
  refine tk_Vi hC hK hw hT hA hE hSR kM_at0 (by decide) rfl (k_X12_isTown_1 l adK adV dC dI cy ad B (by omega) (by omega) qr s1    w0 s.heap.size hT ) (cwV 0 hC.2.2.2.2 gX12_print_X12_isTown rfl rfl rfl (by decide +kernel) ⟨Nat.le_of_ble_eq_true rfl, Nat.le_of_ble_eq_true rfl⟩) rfl hl.1 rfl (Nat.le_of_ble_eq_true rfl) dX12_print_1 (fun r53 w55 H locs hp54 hw => ?_)
  obtain ⟨hT, k56, hg61⟩ := hp54
  have hF := hF.tr k56 (by decide)
  rcases hg61 with ⟨rfl, ⟨x57, c58, rx57, tx57⟩⟩ | ⟨rfl, ⟨x59, c60, rx59, tx59⟩⟩
  · refine lv_if_eq (tgt := 29) hx hb dX12_print_4 (by decide) (fun _ => ?_) (fun c => absurd (by decide) c)
    exact J29 x57 H locs ls w55 (show 0 ≤ x57.toInt by omega) (show x57.toInt ≤ 10 by omega)  hw hT hF c58 (lv_sub hl [0, 1] rfl)
  · refine lv_if_eq (tgt := 29) hx hb dX12_print_4 (by decide) (fun c => absurd c (by decide)) (fun _ => ?_)
    refine lv_iload_n hx hb dX12_print_7 rfl (lv_at hl 1 rfl) ?_
    refine lv_i2l hx hb dX12_print_8 rfl ?_
    refine lv_topl (fun x62 ex62 => ?_)
    have ex62 : x62.toInt = a1.toInt := by rw [ex62]; exact wk_i2l _
    have bx62 := wk_i32 a1
    refine lv_lconst (v := 0) hx hb dX12_print_9 (by decide) ?_
    refine lv_ldc2 (v := 6) hx hb hC.2.2.2.1 (hC.2.2.2.2 _ (List.mem_of_getElem? (i := 1) rfl)) dX12_print_10 ?_
    refine tk_Si hC hK hw hT hA hE hSR (k_X12_in_10 l adK adV dC dI cy ad B (by omega) (by omega) qr s1   x62 (show (-2147483648) ≤ x62.toInt by omega) (show x62.toInt ≤ 2147483647 by omega) w55 H.size hT ) (va_cwS 3 hC.2.2.2.2 gX12_print_X12_in rfl rfl rfl (by decide +kernel) ⟨Nat.le_of_ble_eq_true rfl, Nat.le_of_ble_eq_true rfl⟩) rfl hl.1 rfl (Nat.le_of_ble_eq_true rfl) dX12_print_13 (fun r63 w65 H locs hp64 hw => ?_)
    obtain ⟨hT, k66, hg69⟩ := hp64
    have hF := hF.tr k66 (by decide)
    have c70 := k66.gi kM_at12 (by decide) c60
    rcases hg69 with rfl | ⟨rfl, g67, g68⟩
    · refine lv_if_eq (tgt := 29) hx hb dX12_print_16 (by decide) (fun _ => ?_) (fun c => absurd (by decide) c)
      exact J29 x59 H locs ls w65 (show 0 ≤ x59.toInt by omega) (show x59.toInt ≤ 10 by omega)  hw hT hF c70 (lv_sub hl [0, 1] rfl)
    · refine lv_if_eq (tgt := 29) hx hb dX12_print_16 (by decide) (fun c => absurd c (by decide)) (fun _ => ?_)
      refine lv_aload_n hx hb dX12_print_19 rfl (lv_at hl 0 rfl) ?_
      refine tk_getA hC hK hw hT hinX12 kM_at0 (by decide) rfl 26 (by decide) (List.mem_of_getElem? (i := 2) rfl) rfl rfl dX12_print_20 ?_
      refine lv_iconst (v := 4) hx hb dX12_print_23 (by decide) ?_
      refine tk_ialdR hC hK hw hT kM_at12 rfl (by decide) (by decide) dX12_print_24 (fun x71 c72 Ex71 => ?_)
      have bx71 := tk_rgI rfl 4 1 1 0 4 (by decide +kernel) ⟨0, by decide, by decide⟩ Ex71
      have c72 : gi w65 12 4 = x71 := c72
      refine lv_iconst (v := 4) hx hb dX12_print_25 (by decide) ?_
      refine lv_icmp_ne (tgt := 32) hx hb dX12_print_26 (by decide) (fun c73 => ?_) (fun c73 => ?_)
      · have c73 : ¬ x71.toInt = (4 : Int) := wk_eqF c73
        refine lv_iconst (v := 0) hx hb dX12_print_32 (by decide) ?_
        refine lv_istore_n (lv' := [(2, .int 0), (0, .ref (ad 0)), (1, .int a1)]) hx hb dX12_print_33 rfl hl (by decide) rfl (fun ls hl => ?_)
        exact L34 ((12 - (0 : Int)).toNat + 1) 0 x59 x71 H locs ls w65 (show 0 ≤ a1.toInt by omega) (show a1.toInt ≤ 6 by omega) (by decide) (by decide) (show 1 ≤ x59.toInt by omega) (show x59.toInt ≤ 10 by omega) (show 0 ≤ x71.toInt by omega) (show x71.toInt ≤ 3 by omega) (Nat.lt_succ_self _) hw hT hF c70 c72 (lv_sub hl [1, 2, 0] rfl)
      · have c73 : x71.toInt = (4 : Int) := wk_eq.mp c73
        exact J29 x59 H locs ls w65 (show 0 ≤ x59.toInt by omega) (show x59.toInt ≤ 10 by omega)  hw hT hF c70 (lv_sub hl [0, 1] rfl)
abbrev P_X12_isMap_1 (ad : Nat → Nat) (cy : Nat → ClassId) (B : Int) (qr : Nat) (s1 : Int) (a1 : Int32) (w0 : va_W) : Int32 → va_W → Prop := fun r u => TW ksM ad cy B qr 12 u ∧ FE ksM ([] : List (Nat × Nat × Nat)) w0 u ∧ ((r = 0) ∨ (r = 1 ∧ 0 ≤ a1.toInt ∧ a1.toInt ≤ 3 ∧ (∃ y : Int32, gi u 12 4 = y ∧ 1 ≤ y.toInt ∧ y.toInt ≤ 4)))
set_option maxHeartbeats 4000000 in
set_option maxRecDepth 100000 in
theorem k_X12_isMap_1 (l : Launch) (adK adV : Nat → Nat) (dC : Nat → ClassId) (dI : Nat → Nat → Nat) (cy : Nat → ClassId) (ad : Nat → Nat) (B : Int) (hB0 : 100000 ≤ B) (hB1 : B ≤ 1073741824) (qr : Nat) (s1 : Int)  (a1 : Int32) (w0 : va_W) (sz : Nat) (hT : TW ksM ad cy B qr 12 w0)  : Met l yX12_isMap wsX12_isMap ({ frames := 1, cells := 0, slots := 0, locals := 12 }) (va_Pc [.ref (ad 0), .int a1] (wpreS adK adV dC dI cy sz w0)) (va_Qi (P_X12_isMap_1 ad cy B qr s1 a1 w0) (fun u : va_W => wpost dC dI cy (va_A w0 sz) u) (va_A w0 sz)) 0 0 (va_A w0 sz) := by
  refine Met.ofW (cc := cX12_isMap) (maxL := 2) (ret := (some .boolean)) (by decide) rfl ?_
  intro p e s m args below meth c s₁ Bk hml hv
  obtain ⟨rfl, ⟨hsz, hP, hK, hD0⟩, hE, hSR⟩ := hv
  have hx := Bk.exec
  have hb := Bk.bytes
  have hr := Bk.returns
  have hlocks := Bk.notSynchronized
  have hC : CallFix p m c cX12_isMap 2 s _ wsX12_isMap RX12 := ⟨hx, hb, hml, findClass_of_methodNamed Bk.named, atoms_spec (ws := wsX12_isMap) Bk.pre⟩
  subst hsz
  have hD := hD0.self (sz := s.heap.size)
  generalize hAe : va_A w0 s.heap.size = A at hD hE ⊢
  have hA : ∀ q : Nat, s.heap.size ≤ q → A q := fun q h => by rw [← hAe]; exact Or.inr h
  have hw : Wd dC dI A s.heap s.heap [] w0 := ⟨hP, hD, va_S.rf⟩
  have hF : FE ksM ([] : List (Nat × Nat × Nat)) w0 w0 := FE.rf
  have hl := lv_entry ([.ref (ad 0), .int a1]) (n := 2) (Nat.le_of_ble_eq_true rfl)
  rw [lg_entry_eq]
  generalize (lg_sl ([.ref (ad 0), .int a1]) ++ List.replicate (2 - (lg_sl ([.ref (ad 0), .int a1])).length) Slot.unset).toArray = ls at hl ⊢
  have hl : lv_has ls 2 [(0, .ref (ad 0)), (1, .int a1)] := hl
  generalize hloc : ([] : List Loc) = locs at hw ⊢
  have hinX12 : ∀ w ∈ u_ws RX12 TX12 42, w ∈ wsX12_isMap := fun _ h => List.mem_cons_of_mem _ (List.mem_append_right _ (h))
  have J18 : ∀ (H : Heap) (locs : List Loc) (ls : Array Slot) (w1 : va_W), Wd dC dI A s.heap H locs w1 → TW ksM ad cy B qr 12 w1 → FE ksM ([] : List (Nat × Nat × Nat)) w0 w1 → lv_has ls 2 [(0, .ref (ad 0)), (1, .int a1)] → W p l e ({ frames := 1, cells := 0, slots := 0, locals := 12 }) s m (List.toArray [.ref (ad 0), .int a1]) below meth c H locs 0 0 (MQ below (va_Qi (P_X12_isMap_1 ad cy B qr s1 a1 w0) (fun u : va_W => wpost dC dI cy A u) A) (List.toArray [.ref (ad 0), .int a1]) s 0 0 A) (F0 m 18 ls []) := by
    intro H locs ls w1 hw hT hF hl
    refine lv_iconst (v := 0) hx hb dX12_isMap_18 (by decide) ?_
    exact tk_zret hC hr rfl hlocks hK ⟨hT, hF, (Or.inl rfl)⟩ hw dX12_isMap_19
  refine lv_iload_n hx hb dX12_isMap_0 rfl (lv_at hl 1 rfl) ?_
  refine lv_if_lt (tgt := 18) hx hb dX12_isMap_1 (by decide) (fun c2 => ?_) (fun c2 => ?_)
  · have c2 : a1.toInt < (0 : Int) := wk_lt.mp c2
    exact J18  s.heap locs ls w0   hw hT hF  (lv_sub hl [0, 1] rfl)
  · have c2 : (0 : Int) ≤ a1.toInt := wk_ltF c2
    refine lv_iload_n hx hb dX12_isMap_4 rfl (lv_at hl 1 rfl) ?_
    refine lv_aload_n hx hb dX12_isMap_5 rfl (lv_at hl 0 rfl) ?_
    refine tk_getA hC hK hw hT hinX12 kM_at0 (by decide) rfl 26 (by decide) (List.mem_of_getElem? (i := 1) rfl) rfl rfl dX12_isMap_6 ?_
    refine lv_iconst (v := 4) hx hb dX12_isMap_9 (by decide) ?_
    refine tk_ialdR hC hK hw hT kM_at12 rfl (by decide) (by decide) dX12_isMap_10 (fun x3 c4 Ex3 => ?_)
    have bx3 := tk_rgI rfl 4 1 1 0 4 (by decide +kernel) ⟨0, by decide, by decide⟩ Ex3
    have c4 : gi w0 12 4 = x3 := c4
    refine lv_icmp_ge (tgt := 18) hx hb dX12_isMap_11 (by decide) (fun c5 => ?_) (fun c5 => ?_)
    · have c5 : x3.toInt ≤ a1.toInt := wk_le.mp c5
      exact J18  s.heap locs ls w0   hw hT hF  (lv_sub hl [0, 1] rfl)
    · have c5 : a1.toInt < x3.toInt := wk_leF c5
      refine lv_iconst (v := 1) hx hb dX12_isMap_14 (by decide) ?_
      refine lv_goto (tgt := 19) hx hb dX12_isMap_15 (by decide) ?_
      exact tk_zret hC hr rfl hlocks hK ⟨hT, hF, (Or.inr ⟨rfl, (show 0 ≤ a1.toInt by omega), (show a1.toInt ≤ 3 by omega), ⟨x3, c4, (show 1 ≤ x3.toInt by omega), (show x3.toInt ≤ 4 by omega)⟩⟩)⟩ hw dX12_isMap_19
abbrev P_X12_in_11 (ad : Nat → Nat) (cy : Nat → ClassId) (B : Int) (qr : Nat) (s1 : Int) (a0 : Int64) (w0 : va_W) : Int32 → va_W → Prop := fun r u => TW ksM ad cy B qr 12 u ∧ FE ksM ([] : List (Nat × Nat × Nat)) w0 u ∧ ((r = 0) ∨ (r = 1 ∧ 0 ≤ a0.toInt ∧ a0.toInt ≤ 3))
set_option maxHeartbeats 4000000 in
set_option maxRecDepth 100000 in
theorem k_X12_in_11 (l : Launch) (adK adV : Nat → Nat) (dC : Nat → ClassId) (dI : Nat → Nat → Nat) (cy : Nat → ClassId) (ad : Nat → Nat) (B : Int) (hB0 : 100000 ≤ B) (hB1 : B ≤ 1073741824) (qr : Nat) (s1 : Int)  (a0 : Int64) (ra0 : (-2147483648) ≤ a0.toInt) (ta0 : a0.toInt ≤ 2147483647) (w0 : va_W) (sz : Nat) (hT : TW ksM ad cy B qr 12 w0)  : Met l yX12_in wsX12_in ({ frames := 1, cells := 0, slots := 0, locals := 12 }) (va_Pc [.long a0, .long 0, .long 3] (wpreS adK adV dC dI cy sz w0)) (va_Qi (P_X12_in_11 ad cy B qr s1 a0 w0) (fun u : va_W => wpost dC dI cy (va_A w0 sz) u) (va_A w0 sz)) 0 0 (va_A w0 sz) := by
  refine Met.ofW (cc := cX12_in) (maxL := 6) (ret := (some .boolean)) (by decide) rfl ?_
  intro p e s m args below meth c s₁ Bk hml hv
  obtain ⟨rfl, ⟨hsz, hP, hK, hD0⟩, hE, hSR⟩ := hv
  have hx := Bk.exec
  have hb := Bk.bytes
  have hr := Bk.returns
  have hlocks := Bk.notSynchronized
  have hC : CallFix p m c cX12_in 6 s _ wsX12_in RX12 := ⟨hx, hb, hml, findClass_of_methodNamed Bk.named, atoms_spec (ws := wsX12_in) Bk.pre⟩
  subst hsz
  have hD := hD0.self (sz := s.heap.size)
  generalize hAe : va_A w0 s.heap.size = A at hD hE ⊢
  have hA : ∀ q : Nat, s.heap.size ≤ q → A q := fun q h => by rw [← hAe]; exact Or.inr h
  have hw : Wd dC dI A s.heap s.heap [] w0 := ⟨hP, hD, va_S.rf⟩
  have hF : FE ksM ([] : List (Nat × Nat × Nat)) w0 w0 := FE.rf
  have hl := lv_entry ([.long a0, .long 0, .long 3]) (n := 6) (Nat.le_of_ble_eq_true rfl)
  rw [lg_entry_eq]
  generalize (lg_sl ([.long a0, .long 0, .long 3]) ++ List.replicate (6 - (lg_sl ([.long a0, .long 0, .long 3])).length) Slot.unset).toArray = ls at hl ⊢
  have hl : lv_has ls 6 [(0, .long a0), (2, .long 0), (4, .long 3)] := hl
  generalize hloc : ([] : List Loc) = locs at hw ⊢
  have J17 : ∀ (H : Heap) (locs : List Loc) (ls : Array Slot) (w1 : va_W), (-2147483648) ≤ a0.toInt → a0.toInt ≤ 2147483647 → Wd dC dI A s.heap H locs w1 → TW ksM ad cy B qr 12 w1 → FE ksM ([] : List (Nat × Nat × Nat)) w0 w1 → lv_has ls 6 [(0, .long a0), (2, .long 0), (4, .long 3)] → W p l e ({ frames := 1, cells := 0, slots := 0, locals := 12 }) s m (List.toArray [.long a0, .long 0, .long 3]) below meth c H locs 0 0 (MQ below (va_Qi (P_X12_in_11 ad cy B qr s1 a0 w0) (fun u : va_W => wpost dC dI cy A u) A) (List.toArray [.long a0, .long 0, .long 3]) s 0 0 A) (F0 m 17 ls []) := by
    intro H locs ls w1 r2 t3 hw hT hF hl
    refine lv_iconst (v := 0) hx hb dX12_in_17 (by decide) ?_
    exact tk_zret hC hr rfl hlocks hK ⟨hT, hF, (Or.inl rfl)⟩ hw dX12_in_18
  refine lv_lload_n hx hb dX12_in_0 rfl (lv_at hl 0 rfl) ?_
  refine lv_lload_n hx hb dX12_in_1 rfl (lv_at hl 1 rfl) ?_
  refine W.lcmp hx hb dX12_in_2 ?_
  refine lv_if_lt (tgt := 17) hx hb dX12_in_3 (by decide) (fun c4 => ?_) (fun c4 => ?_)
  · have c4 : a0.toInt < (0 : Int) := wk_cltT c4
    exact J17  s.heap locs ls w0 (show (-2147483648) ≤ a0.toInt by omega) (show a0.toInt ≤ 2147483647 by omega)  hw hT hF  (lv_sub hl [0, 1, 2] rfl)
  · have c4 : (0 : Int) ≤ a0.toInt := wk_cltF c4
    refine lv_lload_n hx hb dX12_in_6 rfl (lv_at hl 0 rfl) ?_
    refine lv_lload hx hb dX12_in_7 (lv_at hl 2 rfl) ?_
    refine W.lcmp hx hb dX12_in_9 ?_
    refine lv_if_gt (tgt := 17) hx hb dX12_in_10 (by decide) (fun c5 => ?_) (fun c5 => ?_)
    · have c5 : (3 : Int) < a0.toInt := wk_cgtT c5
      exact J17  s.heap locs ls w0 (show (-2147483648) ≤ a0.toInt by omega) (show a0.toInt ≤ 2147483647 by omega)  hw hT hF  (lv_sub hl [0, 1, 2] rfl)
    · have c5 : a0.toInt ≤ (3 : Int) := wk_cgtF c5
      refine lv_iconst (v := 1) hx hb dX12_in_13 (by decide) ?_
      refine lv_goto (tgt := 18) hx hb dX12_in_14 (by decide) ?_
      exact tk_zret hC hr rfl hlocks hK ⟨hT, hF, (Or.inr ⟨rfl, (show 0 ≤ a0.toInt by omega), (show a0.toInt ≤ 3 by omega)⟩)⟩ hw dX12_in_18
abbrev P_X12_misprint_1 (ad : Nat → Nat) (cy : Nat → ClassId) (B : Int) (qr : Nat) (s1 : Int) (a1 : Int32) (a2 : Int32) (a3 : Int32) (w0 : va_W) : Int32 → va_W → Prop := fun r u => TW ksM ad cy B qr 12 u ∧ FE ksM [(71, 168, 215)] w0 u ∧ ((0 ≤ a1.toInt ∧ a1.toInt ≤ 3 ∧ 0 ≤ a2.toInt ∧ a2.toInt ≤ 11 ∧ 0 ≤ a3.toInt ∧ a3.toInt ≤ 3 ∧ (∃ y : Int32, gi u 12 1 = y ∧ 1 ≤ y.toInt ∧ y.toInt ≤ 12) ∧ (∃ y : Int32, gi u 12 4 = y ∧ 1 ≤ y.toInt ∧ y.toInt ≤ 4)) ∨ (r = (-1)))
set_option maxHeartbeats 4000000 in
set_option maxRecDepth 100000 in
theorem k_X12_misprint_1 (l : Launch) (adK adV : Nat → Nat) (dC : Nat → ClassId) (dI : Nat → Nat → Nat) (cy : Nat → ClassId) (ad : Nat → Nat) (B : Int) (hB0 : 100000 ≤ B) (hB1 : B ≤ 1073741824) (qr : Nat) (s1 : Int)  (a1 : Int32) (a2 : Int32) (a3 : Int32) (w0 : va_W) (sz : Nat) (hT : TW ksM ad cy B qr 12 w0)  : Met l yX12_misprint wsX12_misprint ({ frames := 2, cells := 0, slots := 0, locals := 37 }) (va_Pc [.ref (ad 0), .int a1, .int a2, .int a3] (wpreS adK adV dC dI cy sz w0)) (va_Qi (P_X12_misprint_1 ad cy B qr s1 a1 a2 a3 w0) (fun u : va_W => wpost dC dI cy (va_A w0 sz) u) (va_A w0 sz)) 0 0 (va_A w0 sz) := by
  refine Met.ofW (cc := cX12_misprint) (maxL := 5) (ret := (some .int)) (by decide) rfl ?_
  intro p e s m args below meth c s₁ Bk hml hv
  obtain ⟨rfl, ⟨hsz, hP, hK, hD0⟩, hE, hSR⟩ := hv
  have hx := Bk.exec
  have hb := Bk.bytes
  have hr := Bk.returns
  have hlocks := Bk.notSynchronized
  have hC : CallFix p m c cX12_misprint 5 s _ wsX12_misprint RX12 := ⟨hx, hb, hml, findClass_of_methodNamed Bk.named, atoms_spec (ws := wsX12_misprint) Bk.pre⟩
  subst hsz
  have hD := hD0.self (sz := s.heap.size)
  generalize hAe : va_A w0 s.heap.size = A at hD hE ⊢
  have hA : ∀ q : Nat, s.heap.size ≤ q → A q := fun q h => by rw [← hAe]; exact Or.inr h
  have hw : Wd dC dI A s.heap s.heap [] w0 := ⟨hP, hD, va_S.rf⟩
  have hF : FE ksM [(71, 168, 215)] w0 w0 := FE.rf
  have hl := lv_entry ([.ref (ad 0), .int a1, .int a2, .int a3]) (n := 5) (Nat.le_of_ble_eq_true rfl)
  rw [lg_entry_eq]
  generalize (lg_sl ([.ref (ad 0), .int a1, .int a2, .int a3]) ++ List.replicate (5 - (lg_sl ([.ref (ad 0), .int a1, .int a2, .int a3])).length) Slot.unset).toArray = ls at hl ⊢
  have hl : lv_has ls 5 [(0, .ref (ad 0)), (1, .int a1), (2, .int a2), (3, .int a3)] := hl
  generalize hloc : ([] : List Loc) = locs at hw ⊢
  have hinX12 : ∀ w ∈ u_ws RX12 TX12 42, w ∈ wsX12_misprint := fun _ h => List.mem_cons_of_mem _ (List.mem_append_right _ (h))
  have J28 : ∀ (H : Heap) (locs : List Loc) (ls : Array Slot) (w1 : va_W), Wd dC dI A s.heap H locs w1 → TW ksM ad cy B qr 12 w1 → FE ksM [(71, 168, 215)] w0 w1 → lv_has ls 5 [(0, .ref (ad 0)), (1, .int a1), (2, .int a2), (3, .int a3)] → W p l e ({ frames := 2, cells := 0, slots := 0, locals := 37 }) s m (List.toArray [.ref (ad 0), .int a1, .int a2, .int a3]) below meth c H locs 0 0 (MQ below (va_Qi (P_X12_misprint_1 ad cy B qr s1 a1 a2 a3 w0) (fun u : va_W => wpost dC dI cy A u) A) (List.toArray [.ref (ad 0), .int a1, .int a2, .int a3]) s 0 0 A) (F0 m 28 ls []) := by
    intro H locs ls w1 hw hT hF hl
    refine lv_iconst (v := (-1)) hx hb dX12_misprint_28 (by decide) ?_
    exact tk_iret hC hr hlocks hK ⟨hT, hF, (Or.inr rfl)⟩ hw dX12_misprint_29
  refine lv_aload_n hx hb dX12_misprint_0 rfl (lv_at hl 0 rfl) ?_
  refine lv_iload_n hx hb dX12_misprint_1 rfl (lv_at hl 1 rfl) ?_
  refine tk_Vi hC hK hw hT hA hE hSR kM_at0 (by decide) rfl (k_X12_isMap_1 l adK adV dC dI cy ad B (by omega) (by omega) qr s1   a1 w0 s.heap.size hT ) (cwV 1 hC.2.2.2.2 gX12_misprint_X12_isMap rfl rfl rfl (by decide +kernel) ⟨Nat.le_of_ble_eq_true rfl, Nat.le_of_ble_eq_true rfl⟩) rfl hl.1 rfl (Nat.le_of_ble_eq_true rfl) dX12_misprint_2 (fun r2 w4 H locs hp3 hw => ?_)
  obtain ⟨hT, k5, hg10⟩ := hp3
  have hF := hF.tr k5 (by decide)
  rcases hg10 with rfl | ⟨rfl, g6, g7, ⟨x8, c9, rx8, tx8⟩⟩
  · refine lv_if_eq (tgt := 28) hx hb dX12_misprint_5 (by decide) (fun _ => ?_) (fun c => absurd (by decide) c)
    exact J28  H locs ls w4   hw hT hF  (lv_sub hl [0, 1, 2, 3] rfl)
  · refine lv_if_eq (tgt := 28) hx hb dX12_misprint_5 (by decide) (fun c => absurd c (by decide)) (fun _ => ?_)
    refine lv_aload_n hx hb dX12_misprint_8 rfl (lv_at hl 0 rfl) ?_
    refine lv_iload_n hx hb dX12_misprint_9 rfl (lv_at hl 2 rfl) ?_
    refine tk_Vi hC hK hw hT hA hE hSR kM_at0 (by decide) rfl (k_X12_isStreet_1 l adK adV dC dI cy ad B (by omega) (by omega) qr s1   a2 w4 H.size hT ) (cwV 1 hC.2.2.2.2 gX12_misprint_X12_isStreet rfl rfl rfl (by decide +kernel) ⟨Nat.le_of_ble_eq_true rfl, Nat.le_of_ble_eq_true rfl⟩) rfl hl.1 rfl (Nat.le_of_ble_eq_true rfl) dX12_misprint_10 (fun r11 w13 H locs hp12 hw => ?_)
    obtain ⟨hT, k14, hg19⟩ := hp12
    have hF := hF.tr k14 (by decide)
    have c20 := k14.gi kM_at12 (by decide) c9
    rcases hg19 with rfl | ⟨rfl, g15, g16, ⟨x17, c18, rx17, tx17⟩⟩
    · refine lv_if_eq (tgt := 28) hx hb dX12_misprint_13 (by decide) (fun _ => ?_) (fun c => absurd (by decide) c)
      exact J28  H locs ls w13   hw hT hF  (lv_sub hl [0, 1, 2, 3] rfl)
    · refine lv_if_eq (tgt := 28) hx hb dX12_misprint_13 (by decide) (fun c => absurd c (by decide)) (fun _ => ?_)
      refine lv_iload_n hx hb dX12_misprint_16 rfl (lv_at hl 3 rfl) ?_
      refine lv_i2l hx hb dX12_misprint_17 rfl ?_
      refine lv_topl (fun x21 ex21 => ?_)
      have ex21 : x21.toInt = a3.toInt := by rw [ex21]; exact wk_i2l _
      have bx21 := wk_i32 a3
      refine lv_lconst (v := 0) hx hb dX12_misprint_18 (by decide) ?_
      refine lv_ldc2 (v := 3) hx hb hC.2.2.2.1 (hC.2.2.2.2 _ (List.mem_of_getElem? (i := 1) rfl)) dX12_misprint_19 ?_
      refine tk_Si hC hK hw hT hA hE hSR (k_X12_in_11 l adK adV dC dI cy ad B (by omega) (by omega) qr s1   x21 (show (-2147483648) ≤ x21.toInt by omega) (show x21.toInt ≤ 2147483647 by omega) w13 H.size hT ) (va_cwS 3 hC.2.2.2.2 gX12_misprint_X12_in rfl rfl rfl (by decide +kernel) ⟨Nat.le_of_ble_eq_true rfl, Nat.le_of_ble_eq_true rfl⟩) rfl hl.1 rfl (Nat.le_of_ble_eq_true rfl) dX12_misprint_22 (fun r22 w24 H locs hp23 hw => ?_)
      obtain ⟨hT, k25, hg28⟩ := hp23
      have hF := hF.tr k25 (by decide)
      have c29 := k25.gi kM_at12 (by decide) c20
      have c30 := k25.gi kM_at12 (by decide) c18
      rcases hg28 with rfl | ⟨rfl, g26, g27⟩
      · refine lv_if_ne (tgt := 30) hx hb dX12_misprint_25 (by decide) (fun c => absurd (by decide) c) (fun _ => ?_)
        exact J28  H locs ls w24   hw hT hF  (lv_sub hl [0, 1, 2, 3] rfl)
      · refine lv_if_ne (tgt := 30) hx hb dX12_misprint_25 (by decide) (fun _ => ?_) (fun c => absurd c (by decide))
        refine lv_aload_n hx hb dX12_misprint_30 rfl (lv_at hl 0 rfl) ?_
        refine tk_getA hC hK hw hT hinX12 kM_at0 (by decide) rfl 26 (by decide) (List.mem_of_getElem? (i := 2) rfl) rfl rfl dX12_misprint_31 ?_
        refine lv_sipush (v := 168) hx hb dX12_misprint_34 (by decide) ?_
        refine lv_bipush (v := 12) hx hb dX12_misprint_37 (by decide) ?_
        refine lv_iload_n hx hb dX12_misprint_39 rfl (lv_at hl 1 rfl) ?_
        refine lv_imul hx hb dX12_misprint_40 ?_
        refine lv_topi (fun x31 ex31 => ?_)
        have ex31 : x31.toInt = (12 : Int) * a1.toInt := by rw [ex31]; exact wk_mul (show (-2147483648) ≤ (12 : Int) * a1.toInt by omega) (show (12 : Int) * a1.toInt ≤ 2147483647 by omega)
        refine lv_iadd hx hb dX12_misprint_41 ?_
        refine lv_topi (fun x32 ex32 => ?_)
        have ex32 : x32.toInt = (168 : Int) + x31.toInt := by rw [ex32]; exact wk_add (show (-2147483648) ≤ (168 : Int) + x31.toInt by omega) (show (168 : Int) + x31.toInt ≤ 2147483647 by omega)
        refine lv_iload_n hx hb dX12_misprint_42 rfl (lv_at hl 2 rfl) ?_
        refine lv_iadd hx hb dX12_misprint_43 ?_
        refine lv_topi (fun x33 ex33 => ?_)
        have ex33 : x33.toInt = x32.toInt + a2.toInt := by rw [ex33]; exact wk_add (show (-2147483648) ≤ x32.toInt + a2.toInt by omega) (show x32.toInt + a2.toInt ≤ 2147483647 by omega)
        refine tk_ialdR hC hK hw hT kM_at12 rfl (show 0 ≤ x33.toInt by omega) (show x33.toInt < 296 by omega) dX12_misprint_44 (fun x34 c35 Ex34 => ?_)
        have c35 : gi w24 12 (x33.toInt).toNat = x34 := (congrArg (gi w24 12) (congrArg Int.toNat (show x33.toInt = x33.toInt by omega))).trans c35
        refine lv_istore (lv' := [(4, .int x34), (0, .ref (ad 0)), (1, .int a1), (2, .int a2), (3, .int a3)]) hx hb dX12_misprint_45 hl (by decide) rfl (fun ls hl => ?_)
        refine lv_aload_n hx hb dX12_misprint_47 rfl (lv_at hl 1 rfl) ?_
        refine tk_getA hC hK hw hT hinX12 kM_at0 (by decide) rfl 26 (by decide) (List.mem_of_getElem? (i := 2) rfl) rfl rfl dX12_misprint_48 ?_
        refine lv_sipush (v := 168) hx hb dX12_misprint_51 (by decide) ?_
        refine lv_bipush (v := 12) hx hb dX12_misprint_54 (by decide) ?_
        refine lv_iload_n hx hb dX12_misprint_56 rfl (lv_at hl 2 rfl) ?_
        refine lv_imul hx hb dX12_misprint_57 ?_
        refine lv_topi (fun x36 ex36 => ?_)
        have ex36 : x36.toInt = (12 : Int) * a1.toInt := by rw [ex36]; exact wk_mul (show (-2147483648) ≤ (12 : Int) * a1.toInt by omega) (show (12 : Int) * a1.toInt ≤ 2147483647 by omega)
        refine lv_iadd hx hb dX12_misprint_58 ?_
        refine lv_topi (fun x37 ex37 => ?_)
        have ex37 : x37.toInt = (168 : Int) + x36.toInt := by rw [ex37]; exact wk_add (show (-2147483648) ≤ (168 : Int) + x36.toInt by omega) (show (168 : Int) + x36.toInt ≤ 2147483647 by omega)
        refine lv_iload_n hx hb dX12_misprint_59 rfl (lv_at hl 3 rfl) ?_
        refine lv_iadd hx hb dX12_misprint_60 ?_
        refine lv_topi (fun x38 ex38 => ?_)
        have ex38 : x38.toInt = x37.toInt + a2.toInt := by rw [ex38]; exact wk_add (show (-2147483648) ≤ x37.toInt + a2.toInt by omega) (show x37.toInt + a2.toInt ≤ 2147483647 by omega)
        refine lv_iload_n hx hb dX12_misprint_61 rfl (lv_at hl 4 rfl) ?_
        refine tk_iastR hC hK hw hT kM_at12 (by decide) rfl (show 0 ≤ x38.toInt by omega) (show x38.toInt < 296 by omega) (tk_rgS rfl 168 1 48 0 3 (by decide +kernel) ⟨(x38.toInt - 168).toNat, by omega, show x38.toInt.toNat = 168 + 1 * (x38.toInt - 168).toNat by omega⟩ (show 0 ≤ a3.toInt by omega) (show a3.toInt ≤ 3 by omega)) dX12_misprint_62 (fun H locs w39 hw hT k41 c40 => ?_)
        have hF := hF.put kM_at12 (inE_of (a := 168) (b := 215) (by decide) (show 168 ≤ x38.toInt.toNat by omega) (show x38.toInt.toNat ≤ 215 by omega)) k41
        have c42 := k41.gi (Or.inr (show 4 ≠ x38.toInt.toNat by omega)) c29
        have c43 := k41.gi (Or.inr (show 1 ≠ x38.toInt.toNat by omega)) c30
        refine lv_iload hx hb dX12_misprint_63 (lv_at hl 0 rfl) ?_
        exact tk_iret hC hr hlocks hK ⟨hT, hF, (Or.inl ⟨(show 0 ≤ a1.toInt by omega), (show a1.toInt ≤ 3 by omega), (show 0 ≤ a2.toInt by omega), (show a2.toInt ≤ 11 by omega), (show 0 ≤ a3.toInt by omega), (show a3.toInt ≤ 3 by omega), ⟨x17, c43, (show 1 ≤ x17.toInt by omega), (show x17.toInt ≤ 12 by omega)⟩, ⟨x8, c42, (show 1 ≤ x8.toInt by omega), (show x8.toInt ≤ 4 by omega)⟩⟩)⟩ hw dX12_misprint_65
abbrev P_X12_shown_1 (ad : Nat → Nat) (cy : Nat → ClassId) (B : Int) (qr : Nat) (s1 : Int) (a1 : Int32) (a2 : Int32) (w0 : va_W) : Int32 → va_W → Prop := fun r u => TW ksM ad cy B qr 12 u ∧ FE ksM ([] : List (Nat × Nat × Nat)) w0 u ∧ ((0 ≤ a1.toInt ∧ a1.toInt ≤ 3 ∧ 0 ≤ a2.toInt ∧ a2.toInt ≤ 11 ∧ (∃ y : Int32, gi u 12 1 = y ∧ 1 ≤ y.toInt ∧ y.toInt ≤ 12) ∧ (∃ y : Int32, gi u 12 4 = y ∧ 1 ≤ y.toInt ∧ y.toInt ≤ 4)) ∨ (r = (-1)))
set_option maxHeartbeats 4000000 in
set_option maxRecDepth 100000 in
theorem k_X12_shown_1 (l : Launch) (adK adV : Nat → Nat) (dC : Nat → ClassId) (dI : Nat → Nat → Nat) (cy : Nat → ClassId) (ad : Nat → Nat) (B : Int) (hB0 : 100000 ≤ B) (hB1 : B ≤ 1073741824) (qr : Nat) (s1 : Int)  (a1 : Int32) (a2 : Int32) (w0 : va_W) (sz : Nat) (hT : TW ksM ad cy B qr 12 w0)  : Met l yX12_shown wsX12_shown ({ frames := 2, cells := 0, slots := 0, locals := 33 }) (va_Pc [.ref (ad 0), .int a1, .int a2] (wpreS adK adV dC dI cy sz w0)) (va_Qi (P_X12_shown_1 ad cy B qr s1 a1 a2 w0) (fun u : va_W => wpost dC dI cy (va_A w0 sz) u) (va_A w0 sz)) 0 0 (va_A w0 sz) := by
  refine Met.ofW (cc := cX12_shown) (maxL := 3) (ret := (some .int)) (by decide) rfl ?_
  intro p e s m args below meth c s₁ Bk hml hv
  obtain ⟨rfl, ⟨hsz, hP, hK, hD0⟩, hE, hSR⟩ := hv
  have hx := Bk.exec
  have hb := Bk.bytes
  have hr := Bk.returns
  have hlocks := Bk.notSynchronized
  have hC : CallFix p m c cX12_shown 3 s _ wsX12_shown RX12 := ⟨hx, hb, hml, findClass_of_methodNamed Bk.named, atoms_spec (ws := wsX12_shown) Bk.pre⟩
  subst hsz
  have hD := hD0.self (sz := s.heap.size)
  generalize hAe : va_A w0 s.heap.size = A at hD hE ⊢
  have hA : ∀ q : Nat, s.heap.size ≤ q → A q := fun q h => by rw [← hAe]; exact Or.inr h
  have hw : Wd dC dI A s.heap s.heap [] w0 := ⟨hP, hD, va_S.rf⟩
  have hF : FE ksM ([] : List (Nat × Nat × Nat)) w0 w0 := FE.rf
  have hl := lv_entry ([.ref (ad 0), .int a1, .int a2]) (n := 3) (Nat.le_of_ble_eq_true rfl)
  rw [lg_entry_eq]
  generalize (lg_sl ([.ref (ad 0), .int a1, .int a2]) ++ List.replicate (3 - (lg_sl ([.ref (ad 0), .int a1, .int a2])).length) Slot.unset).toArray = ls at hl ⊢
  have hl : lv_has ls 3 [(0, .ref (ad 0)), (1, .int a1), (2, .int a2)] := hl
  generalize hloc : ([] : List Loc) = locs at hw ⊢
  have hinX12 : ∀ w ∈ u_ws RX12 TX12 42, w ∈ wsX12_shown := fun _ h => List.mem_cons_of_mem _ (List.mem_append_right _ (h))
  have J34 : ∀ (H : Heap) (locs : List Loc) (ls : Array Slot) (w1 : va_W), Wd dC dI A s.heap H locs w1 → TW ksM ad cy B qr 12 w1 → FE ksM ([] : List (Nat × Nat × Nat)) w0 w1 → lv_has ls 3 [(0, .ref (ad 0)), (1, .int a1), (2, .int a2)] → W p l e ({ frames := 2, cells := 0, slots := 0, locals := 33 }) s m (List.toArray [.ref (ad 0), .int a1, .int a2]) below meth c H locs 0 0 (MQ below (va_Qi (P_X12_shown_1 ad cy B qr s1 a1 a2 w0) (fun u : va_W => wpost dC dI cy A u) A) (List.toArray [.ref (ad 0), .int a1, .int a2]) s 0 0 A) (F0 m 34 ls []) := by
    intro H locs ls w1 hw hT hF hl
    refine lv_iconst (v := (-1)) hx hb dX12_shown_34 (by decide) ?_
    exact tk_iret hC hr hlocks hK ⟨hT, hF, (Or.inr rfl)⟩ hw dX12_shown_35
  refine lv_aload_n hx hb dX12_shown_0 rfl (lv_at hl 0 rfl) ?_
  refine lv_iload_n hx hb dX12_shown_1 rfl (lv_at hl 1 rfl) ?_
  refine tk_Vi hC hK hw hT hA hE hSR kM_at0 (by decide) rfl (k_X12_isMap_1 l adK adV dC dI cy ad B (by omega) (by omega) qr s1   a1 w0 s.heap.size hT ) (cwV 1 hC.2.2.2.2 gX12_shown_X12_isMap rfl rfl rfl (by decide +kernel) ⟨Nat.le_of_ble_eq_true rfl, Nat.le_of_ble_eq_true rfl⟩) rfl hl.1 rfl (Nat.le_of_ble_eq_true rfl) dX12_shown_2 (fun r2 w4 H locs hp3 hw => ?_)
  obtain ⟨hT, k5, hg10⟩ := hp3
  have hF := hF.tr k5 (by decide)
  rcases hg10 with rfl | ⟨rfl, g6, g7, ⟨x8, c9, rx8, tx8⟩⟩
  · refine lv_if_eq (tgt := 34) hx hb dX12_shown_5 (by decide) (fun _ => ?_) (fun c => absurd (by decide) c)
    exact J34  H locs ls w4   hw hT hF  (lv_sub hl [0, 1, 2] rfl)
  · refine lv_if_eq (tgt := 34) hx hb dX12_shown_5 (by decide) (fun c => absurd c (by decide)) (fun _ => ?_)
    refine lv_aload_n hx hb dX12_shown_8 rfl (lv_at hl 0 rfl) ?_
    refine lv_iload_n hx hb dX12_shown_9 rfl (lv_at hl 2 rfl) ?_
    refine tk_Vi hC hK hw hT hA hE hSR kM_at0 (by decide) rfl (k_X12_isStreet_1 l adK adV dC dI cy ad B (by omega) (by omega) qr s1   a2 w4 H.size hT ) (cwV 1 hC.2.2.2.2 gX12_shown_X12_isStreet rfl rfl rfl (by decide +kernel) ⟨Nat.le_of_ble_eq_true rfl, Nat.le_of_ble_eq_true rfl⟩) rfl hl.1 rfl (Nat.le_of_ble_eq_true rfl) dX12_shown_10 (fun r11 w13 H locs hp12 hw => ?_)
    obtain ⟨hT, k14, hg19⟩ := hp12
    have hF := hF.tr k14 (by decide)
    have c20 := k14.gi kM_at12 (by decide) c9
    rcases hg19 with rfl | ⟨rfl, g15, g16, ⟨x17, c18, rx17, tx17⟩⟩
    · refine lv_if_eq (tgt := 34) hx hb dX12_shown_13 (by decide) (fun _ => ?_) (fun c => absurd (by decide) c)
      exact J34  H locs ls w13   hw hT hF  (lv_sub hl [0, 1, 2] rfl)
    · refine lv_if_eq (tgt := 34) hx hb dX12_shown_13 (by decide) (fun c => absurd c (by decide)) (fun _ => ?_)
      refine lv_aload_n hx hb dX12_shown_16 rfl (lv_at hl 0 rfl) ?_
      refine tk_getA hC hK hw hT hinX12 kM_at0 (by decide) rfl 26 (by decide) (List.mem_of_getElem? (i := 1) rfl) rfl rfl dX12_shown_17 ?_
      refine lv_sipush (v := 168) hx hb dX12_shown_20 (by decide) ?_
      refine lv_bipush (v := 12) hx hb dX12_shown_23 (by decide) ?_
      refine lv_iload_n hx hb dX12_shown_25 rfl (lv_at hl 1 rfl) ?_
      refine lv_imul hx hb dX12_shown_26 ?_
      refine lv_topi (fun x21 ex21 => ?_)
      have ex21 : x21.toInt = (12 : Int) * a1.toInt := by rw [ex21]; exact wk_mul (show (-2147483648) ≤ (12 : Int) * a1.toInt by omega) (show (12 : Int) * a1.toInt ≤ 2147483647 by omega)
      refine lv_iadd hx hb dX12_shown_27 ?_
      refine lv_topi (fun x22 ex22 => ?_)
      have ex22 : x22.toInt = (168 : Int) + x21.toInt := by rw [ex22]; exact wk_add (show (-2147483648) ≤ (168 : Int) + x21.toInt by omega) (show (168 : Int) + x21.toInt ≤ 2147483647 by omega)
      refine lv_iload_n hx hb dX12_shown_28 rfl (lv_at hl 2 rfl) ?_
      refine lv_iadd hx hb dX12_shown_29 ?_
      refine lv_topi (fun x23 ex23 => ?_)
      have ex23 : x23.toInt = x22.toInt + a2.toInt := by rw [ex23]; exact wk_add (show (-2147483648) ≤ x22.toInt + a2.toInt by omega) (show x22.toInt + a2.toInt ≤ 2147483647 by omega)
      refine tk_ialdR hC hK hw hT kM_at12 rfl (show 0 ≤ x23.toInt by omega) (show x23.toInt < 296 by omega) dX12_shown_30 (fun x24 c25 Ex24 => ?_)
      have c25 : gi w13 12 (x23.toInt).toNat = x24 := (congrArg (gi w13 12) (congrArg Int.toNat (show x23.toInt = x23.toInt by omega))).trans c25
      refine lv_goto (tgt := 35) hx hb dX12_shown_31 (by decide) ?_
      exact tk_iret hC hr hlocks hK ⟨hT, hF, (Or.inl ⟨(show 0 ≤ a1.toInt by omega), (show a1.toInt ≤ 3 by omega), (show 0 ≤ a2.toInt by omega), (show a2.toInt ≤ 11 by omega), ⟨x17, c18, (show 1 ≤ x17.toInt by omega), (show x17.toInt ≤ 12 by omega)⟩, ⟨x8, c20, (show 1 ≤ x8.toInt by omega), (show x8.toInt ≤ 4 by omega)⟩⟩)⟩ hw dX12_shown_35
abbrev P_X12_in_12 (ad : Nat → Nat) (cy : Nat → ClassId) (B : Int) (qr : Nat) (s1 : Int) (a0 : Int64) (w0 : va_W) : Int32 → va_W → Prop := fun r u => TW ksM ad cy B qr 12 u ∧ FE ksM ([] : List (Nat × Nat × Nat)) w0 u ∧ ((r = 0) ∨ (r = 1 ∧ 0 ≤ a0.toInt ∧ a0.toInt ≤ 1))
set_option maxHeartbeats 4000000 in
set_option maxRecDepth 100000 in
theorem k_X12_in_12 (l : Launch) (adK adV : Nat → Nat) (dC : Nat → ClassId) (dI : Nat → Nat → Nat) (cy : Nat → ClassId) (ad : Nat → Nat) (B : Int) (hB0 : 100000 ≤ B) (hB1 : B ≤ 1073741824) (qr : Nat) (s1 : Int)  (a0 : Int64) (ra0 : (-2147483648) ≤ a0.toInt) (ta0 : a0.toInt ≤ 2147483647) (w0 : va_W) (sz : Nat) (hT : TW ksM ad cy B qr 12 w0)  : Met l yX12_in wsX12_in ({ frames := 1, cells := 0, slots := 0, locals := 12 }) (va_Pc [.long a0, .long 0, .long 1] (wpreS adK adV dC dI cy sz w0)) (va_Qi (P_X12_in_12 ad cy B qr s1 a0 w0) (fun u : va_W => wpost dC dI cy (va_A w0 sz) u) (va_A w0 sz)) 0 0 (va_A w0 sz) := by
  refine Met.ofW (cc := cX12_in) (maxL := 6) (ret := (some .boolean)) (by decide) rfl ?_
  intro p e s m args below meth c s₁ Bk hml hv
  obtain ⟨rfl, ⟨hsz, hP, hK, hD0⟩, hE, hSR⟩ := hv
  have hx := Bk.exec
  have hb := Bk.bytes
  have hr := Bk.returns
  have hlocks := Bk.notSynchronized
  have hC : CallFix p m c cX12_in 6 s _ wsX12_in RX12 := ⟨hx, hb, hml, findClass_of_methodNamed Bk.named, atoms_spec (ws := wsX12_in) Bk.pre⟩
  subst hsz
  have hD := hD0.self (sz := s.heap.size)
  generalize hAe : va_A w0 s.heap.size = A at hD hE ⊢
  have hA : ∀ q : Nat, s.heap.size ≤ q → A q := fun q h => by rw [← hAe]; exact Or.inr h
  have hw : Wd dC dI A s.heap s.heap [] w0 := ⟨hP, hD, va_S.rf⟩
  have hF : FE ksM ([] : List (Nat × Nat × Nat)) w0 w0 := FE.rf
  have hl := lv_entry ([.long a0, .long 0, .long 1]) (n := 6) (Nat.le_of_ble_eq_true rfl)
  rw [lg_entry_eq]
  generalize (lg_sl ([.long a0, .long 0, .long 1]) ++ List.replicate (6 - (lg_sl ([.long a0, .long 0, .long 1])).length) Slot.unset).toArray = ls at hl ⊢
  have hl : lv_has ls 6 [(0, .long a0), (2, .long 0), (4, .long 1)] := hl
  generalize hloc : ([] : List Loc) = locs at hw ⊢
  have J17 : ∀ (H : Heap) (locs : List Loc) (ls : Array Slot) (w1 : va_W), (-2147483648) ≤ a0.toInt → a0.toInt ≤ 2147483647 → Wd dC dI A s.heap H locs w1 → TW ksM ad cy B qr 12 w1 → FE ksM ([] : List (Nat × Nat × Nat)) w0 w1 → lv_has ls 6 [(0, .long a0), (2, .long 0), (4, .long 1)] → W p l e ({ frames := 1, cells := 0, slots := 0, locals := 12 }) s m (List.toArray [.long a0, .long 0, .long 1]) below meth c H locs 0 0 (MQ below (va_Qi (P_X12_in_12 ad cy B qr s1 a0 w0) (fun u : va_W => wpost dC dI cy A u) A) (List.toArray [.long a0, .long 0, .long 1]) s 0 0 A) (F0 m 17 ls []) := by
    intro H locs ls w1 r2 t3 hw hT hF hl
    refine lv_iconst (v := 0) hx hb dX12_in_17 (by decide) ?_
    exact tk_zret hC hr rfl hlocks hK ⟨hT, hF, (Or.inl rfl)⟩ hw dX12_in_18
  refine lv_lload_n hx hb dX12_in_0 rfl (lv_at hl 0 rfl) ?_
  refine lv_lload_n hx hb dX12_in_1 rfl (lv_at hl 1 rfl) ?_
  refine W.lcmp hx hb dX12_in_2 ?_
  refine lv_if_lt (tgt := 17) hx hb dX12_in_3 (by decide) (fun c4 => ?_) (fun c4 => ?_)
  · have c4 : a0.toInt < (0 : Int) := wk_cltT c4
    exact J17  s.heap locs ls w0 (show (-2147483648) ≤ a0.toInt by omega) (show a0.toInt ≤ 2147483647 by omega)  hw hT hF  (lv_sub hl [0, 1, 2] rfl)
  · have c4 : (0 : Int) ≤ a0.toInt := wk_cltF c4
    refine lv_lload_n hx hb dX12_in_6 rfl (lv_at hl 0 rfl) ?_
    refine lv_lload hx hb dX12_in_7 (lv_at hl 2 rfl) ?_
    refine W.lcmp hx hb dX12_in_9 ?_
    refine lv_if_gt (tgt := 17) hx hb dX12_in_10 (by decide) (fun c5 => ?_) (fun c5 => ?_)
    · have c5 : (1 : Int) < a0.toInt := wk_cgtT c5
      exact J17  s.heap locs ls w0 (show (-2147483648) ≤ a0.toInt by omega) (show a0.toInt ≤ 2147483647 by omega)  hw hT hF  (lv_sub hl [0, 1, 2] rfl)
    · have c5 : a0.toInt ≤ (1 : Int) := wk_cgtF c5
      refine lv_iconst (v := 1) hx hb dX12_in_13 (by decide) ?_
      refine lv_goto (tgt := 18) hx hb dX12_in_14 (by decide) ?_
      exact tk_zret hC hr rfl hlocks hK ⟨hT, hF, (Or.inr ⟨rfl, (show 0 ≤ a0.toInt by omega), (show a0.toInt ≤ 1 by omega)⟩)⟩ hw dX12_in_18
abbrev P_X12_takesMap_1 (ad : Nat → Nat) (cy : Nat → ClassId) (B : Int) (qr : Nat) (s1 : Int) (a1 : Int32) (w0 : va_W) : va_W → Prop := fun u => TW ksM ad cy B qr 12 u ∧ FE ksM [(72, 0, 12)] w0 u ∧ ((True))
set_option maxHeartbeats 4000000 in
set_option maxRecDepth 100000 in
theorem k_X12_takesMap_1 (l : Launch) (adK adV : Nat → Nat) (dC : Nat → ClassId) (dI : Nat → Nat → Nat) (cy : Nat → ClassId) (ad : Nat → Nat) (B : Int) (hB0 : 100000 ≤ B) (hB1 : B ≤ 1073741824) (qr : Nat) (s1 : Int)  (a1 : Int32) (ra1 : 0 ≤ a1.toInt) (ta1 : a1.toInt ≤ 3) (w0 : va_W) (sz : Nat) (hT : TW ksM ad cy B qr 12 w0)  : Met l yX12_takesMap wsX12_takesMap ({ frames := 1, cells := 0, slots := 0, locals := 12 }) (va_Pc [.ref (ad 0), .int a1] (wpreS adK adV dC dI cy sz w0)) (va_Qv (P_X12_takesMap_1 ad cy B qr s1 a1 w0) (fun u : va_W => wpost dC dI cy (va_A w0 sz) u) (va_A w0 sz)) 0 0 (va_A w0 sz) := by
  refine Met.ofW (cc := cX12_takesMap) (maxL := 3) (ret := none) (by decide) rfl ?_
  intro p e s m args below meth c s₁ Bk hml hv
  obtain ⟨rfl, ⟨hsz, hP, hK, hD0⟩, hE, hSR⟩ := hv
  have hx := Bk.exec
  have hb := Bk.bytes
  have hr := Bk.returns
  have hlocks := Bk.notSynchronized
  have hC : CallFix p m c cX12_takesMap 3 s _ wsX12_takesMap RX12 := ⟨hx, hb, hml, findClass_of_methodNamed Bk.named, atoms_spec (ws := wsX12_takesMap) Bk.pre⟩
  subst hsz
  have hD := hD0.self (sz := s.heap.size)
  generalize hAe : va_A w0 s.heap.size = A at hD hE ⊢
  have hA : ∀ q : Nat, s.heap.size ≤ q → A q := fun q h => by rw [← hAe]; exact Or.inr h
  have hw : Wd dC dI A s.heap s.heap [] w0 := ⟨hP, hD, va_S.rf⟩
  have hF : FE ksM [(72, 0, 12)] w0 w0 := FE.rf
  have hl := lv_entry ([.ref (ad 0), .int a1]) (n := 3) (Nat.le_of_ble_eq_true rfl)
  rw [lg_entry_eq]
  generalize (lg_sl ([.ref (ad 0), .int a1]) ++ List.replicate (3 - (lg_sl ([.ref (ad 0), .int a1])).length) Slot.unset).toArray = ls at hl ⊢
  have hl : lv_has ls 3 [(0, .ref (ad 0)), (1, .int a1)] := hl
  generalize hloc : ([] : List Loc) = locs at hw ⊢
  have hinX12 : ∀ w ∈ u_ws RX12 TX12 42, w ∈ wsX12_takesMap := fun _ h => List.mem_cons_of_mem _ (List.mem_append_right _ (h))
  have L2 : ∀ (n2 : Nat) (v2_2 : Int32) (H : Heap) (locs : List Loc) (ls : Array Slot) (w1 : va_W), 0 ≤ a1.toInt → a1.toInt ≤ 3 → 0 ≤ v2_2.toInt → v2_2.toInt ≤ 12 → (12 - v2_2.toInt).toNat < n2 → Wd dC dI A s.heap H locs w1 → TW ksM ad cy B qr 12 w1 → FE ksM [(72, 0, 12)] w0 w1 → lv_has ls 3 [(0, .ref (ad 0)), (1, .int a1), (2, .int v2_2)] → W p l e ({ frames := 1, cells := 0, slots := 0, locals := 12 }) s m (List.toArray [.ref (ad 0), .int a1]) below meth c H locs 0 0 (MQ below (va_Qv (P_X12_takesMap_1 ad cy B qr s1 a1 w0) (fun u : va_W => wpost dC dI cy A u) A) (List.toArray [.ref (ad 0), .int a1]) s 0 0 A) (F0 m 2 ls []) := by
    intro n2
    induction n2 with
    | zero => intro v2_2 H locs ls w1 r2 t3 r4 t5 hm2 hw hT hF hl; omega
    | succ n2 ih2 =>
      intro v2_2 H locs ls w1 r2 t3 r4 t5 hm2 hw hT hF hl
      refine lv_iload_n hx hb dX12_takesMap_2 rfl (lv_at hl 2 rfl) ?_
      refine lv_aload_n hx hb dX12_takesMap_3 rfl (lv_at hl 0 rfl) ?_
      refine tk_getA hC hK hw hT hinX12 kM_at0 (by decide) rfl 26 (by decide) (List.mem_of_getElem? (i := 1) rfl) rfl rfl dX12_takesMap_4 ?_
      refine lv_iconst (v := 1) hx hb dX12_takesMap_7 (by decide) ?_
      refine tk_ialdR hC hK hw hT kM_at12 rfl (by decide) (by decide) dX12_takesMap_8 (fun x6 c7 Ex6 => ?_)
      have bx6 : 0 ≤ x6.toInt ∧ x6.toInt ≤ 12 := (tk_rg1 rfl).mp Ex6
      have c7 : gi w1 12 1 = x6 := c7
      refine lv_icmp_ge (tgt := 39) hx hb dX12_takesMap_9 (by decide) (fun c8 => ?_) (fun c8 => ?_)
      · have c8 : x6.toInt ≤ v2_2.toInt := wk_le.mp c8
        exact tk_vret hC hr hlocks hK ⟨hT, hF, trivial⟩ hw dX12_takesMap_39
      · have c8 : v2_2.toInt < x6.toInt := wk_leF c8
        refine lv_aload_n hx hb dX12_takesMap_12 rfl (lv_at hl 0 rfl) ?_
        refine tk_getA hC hK hw hT hinX12 kM_at0 (by decide) rfl 28 (by decide) (List.mem_of_getElem? (i := 2) rfl) rfl rfl dX12_takesMap_13 ?_
        refine lv_iload_n hx hb dX12_takesMap_16 rfl (lv_at hl 2 rfl) ?_
        refine lv_aload_n hx hb dX12_takesMap_17 rfl (lv_at hl 0 rfl) ?_
        refine tk_getA hC hK hw hT hinX12 kM_at0 (by decide) rfl 26 (by decide) (List.mem_of_getElem? (i := 1) rfl) rfl rfl dX12_takesMap_18 ?_
        refine lv_sipush (v := 168) hx hb dX12_takesMap_21 (by decide) ?_
        refine lv_bipush (v := 12) hx hb dX12_takesMap_24 (by decide) ?_
        refine lv_iload_n hx hb dX12_takesMap_26 rfl (lv_at hl 1 rfl) ?_
        refine lv_imul hx hb dX12_takesMap_27 ?_
        refine lv_topi (fun x9 ex9 => ?_)
        have ex9 : x9.toInt = (12 : Int) * a1.toInt := by rw [ex9]; exact wk_mul (show (-2147483648) ≤ (12 : Int) * a1.toInt by omega) (show (12 : Int) * a1.toInt ≤ 2147483647 by omega)
        refine lv_iadd hx hb dX12_takesMap_28 ?_
        refine lv_topi (fun x10 ex10 => ?_)
        have ex10 : x10.toInt = (168 : Int) + x9.toInt := by rw [ex10]; exact wk_add (show (-2147483648) ≤ (168 : Int) + x9.toInt by omega) (show (168 : Int) + x9.toInt ≤ 2147483647 by omega)
        refine lv_iload_n hx hb dX12_takesMap_29 rfl (lv_at hl 2 rfl) ?_
        refine lv_iadd hx hb dX12_takesMap_30 ?_
        refine lv_topi (fun x11 ex11 => ?_)
        have ex11 : x11.toInt = x10.toInt + v2_2.toInt := by rw [ex11]; exact wk_add (show (-2147483648) ≤ x10.toInt + v2_2.toInt by omega) (show x10.toInt + v2_2.toInt ≤ 2147483647 by omega)
        refine tk_ialdR hC hK hw hT kM_at12 rfl (show 0 ≤ x11.toInt by omega) (show x11.toInt < 296 by omega) dX12_takesMap_31 (fun x12 c13 Ex12 => ?_)
        have c13 : gi w1 12 (x11.toInt).toNat = x12 := (congrArg (gi w1 12) (congrArg Int.toNat (show x11.toInt = x11.toInt by omega))).trans c13
        refine tk_iast hC hK hw hT kM_at13 (by decide) rfl rfl (show 0 ≤ v2_2.toInt by omega) (show v2_2.toInt < 12 by omega) (wk_i32 x12).1 (wk_i32 x12).2 dX12_takesMap_32 (fun H locs w14 hw hT k16 c15 => ?_)
        have hF := hF.put kM_at13 (inE_of (a := 0) (b := 12) (by decide) (show 0 ≤ v2_2.toInt.toNat by omega) (show v2_2.toInt.toNat ≤ 12 by omega)) k16
        have c17 := k16.gi (Or.inl (tk_ne kM_at12 kM_at13 (by decide))) c7
        have c18 := k16.gi (Or.inl (tk_ne kM_at12 kM_at13 (by decide))) c13
        obtain ⟨x19, ex19⟩ : ∃ y : Int32, y = v2_2 + Int32.ofInt 1 := ⟨_, rfl⟩
        refine lv_iinc (v := x19) (lv' := [(2, .int x19), (0, .ref (ad 0)), (1, .int a1)]) hx hb dX12_takesMap_33 hl (k := 2) rfl ex19.symm (by decide) rfl (fun ls hl => ?_)
        have ex19 : x19.toInt = v2_2.toInt + 1 := by rw [ex19]; exact wk_add (y := 1) (show -2147483648 ≤ v2_2.toInt + 1 by omega) (show v2_2.toInt + 1 ≤ 2147483647 by omega)
        refine lv_goto (tgt := 2) hx hb dX12_takesMap_36 (by decide) ?_
        exact ih2 x19 H locs ls w14 (show 0 ≤ a1.toInt by omega) (show a1.toInt ≤ 3 by omega) (show 0 ≤ x19.toInt by omega) (show x19.toInt ≤ 12 by omega) (show (12 - x19.toInt).toNat < n2 by omega) hw hT hF  (lv_sub hl [1, 2, 0] rfl)
  refine lv_iconst (v := 0) hx hb dX12_takesMap_0 (by decide) ?_
  refine lv_istore_n (lv' := [(2, .int 0), (0, .ref (ad 0)), (1, .int a1)]) hx hb dX12_takesMap_1 rfl hl (by decide) rfl (fun ls hl => ?_)
  exact L2 ((12 - (0 : Int)).toNat + 1) 0 s.heap locs ls w0 (show 0 ≤ a1.toInt by omega) (show a1.toInt ≤ 3 by omega) (by decide) (by decide) (Nat.lt_succ_self _) hw hT hF  (lv_sub hl [1, 2, 0] rfl)
abbrev P_X12_streetOf_5 (ad : Nat → Nat) (cy : Nat → ClassId) (B : Int) (qr : Nat) (s1 : Int) (a1 : Int32) (a2 : Int32) (w0 : va_W) : Int32 → va_W → Prop := fun r u => TW ksM ad cy B qr 12 u ∧ FE ksM ([] : List (Nat × Nat × Nat)) w0 u ∧ ((0 ≤ r.toInt ∧ r.toInt ≤ 9))
set_option maxHeartbeats 4000000 in
set_option maxRecDepth 100000 in
theorem k_X12_streetOf_5 (l : Launch) (adK adV : Nat → Nat) (dC : Nat → ClassId) (dI : Nat → Nat → Nat) (cy : Nat → ClassId) (ad : Nat → Nat) (B : Int) (hB0 : 100000 ≤ B) (hB1 : B ≤ 1073741824) (qr : Nat) (s1 : Int)  (a1 : Int32) (ra1 : 0 ≤ a1.toInt) (ta1 : a1.toInt ≤ 11) (a2 : Int32) (ra2 : 0 ≤ a2.toInt) (ta2 : a2.toInt ≤ 1) (w0 : va_W) (sz : Nat) (hT : TW ksM ad cy B qr 12 w0)  : Met l yX12_streetOf wsX12_streetOf ({ frames := 1, cells := 0, slots := 0, locals := 12 }) (va_Pc [.ref (ad 0), .int a1, .int a2] (wpreS adK adV dC dI cy sz w0)) (va_Qi (P_X12_streetOf_5 ad cy B qr s1 a1 a2 w0) (fun u : va_W => wpost dC dI cy (va_A w0 sz) u) (va_A w0 sz)) 0 0 (va_A w0 sz) := by
  refine Met.ofW (cc := cX12_streetOf) (maxL := 3) (ret := (some .int)) (by decide) rfl ?_
  intro p e s m args below meth c s₁ Bk hml hv
  obtain ⟨rfl, ⟨hsz, hP, hK, hD0⟩, hE, hSR⟩ := hv
  have hx := Bk.exec
  have hb := Bk.bytes
  have hr := Bk.returns
  have hlocks := Bk.notSynchronized
  have hC : CallFix p m c cX12_streetOf 3 s _ wsX12_streetOf RX12 := ⟨hx, hb, hml, findClass_of_methodNamed Bk.named, atoms_spec (ws := wsX12_streetOf) Bk.pre⟩
  subst hsz
  have hD := hD0.self (sz := s.heap.size)
  generalize hAe : va_A w0 s.heap.size = A at hD hE ⊢
  have hA : ∀ q : Nat, s.heap.size ≤ q → A q := fun q h => by rw [← hAe]; exact Or.inr h
  have hw : Wd dC dI A s.heap s.heap [] w0 := ⟨hP, hD, va_S.rf⟩
  have hF : FE ksM ([] : List (Nat × Nat × Nat)) w0 w0 := FE.rf
  have hl := lv_entry ([.ref (ad 0), .int a1, .int a2]) (n := 3) (Nat.le_of_ble_eq_true rfl)
  rw [lg_entry_eq]
  generalize (lg_sl ([.ref (ad 0), .int a1, .int a2]) ++ List.replicate (3 - (lg_sl ([.ref (ad 0), .int a1, .int a2])).length) Slot.unset).toArray = ls at hl ⊢
  have hl : lv_has ls 3 [(0, .ref (ad 0)), (1, .int a1), (2, .int a2)] := hl
  generalize hloc : ([] : List Loc) = locs at hw ⊢
  have hinX12 : ∀ w ∈ u_ws RX12 TX12 42, w ∈ wsX12_streetOf := fun _ h => List.mem_cons_of_mem _ (List.mem_append_right _ (h))
  refine lv_aload_n hx hb dX12_streetOf_0 rfl (lv_at hl 0 rfl) ?_
  refine tk_getA hC hK hw hT hinX12 kM_at0 (by decide) rfl 26 (by decide) (List.mem_of_getElem? (i := 1) rfl) rfl rfl dX12_streetOf_1 ?_
  refine lv_bipush (v := 10) hx hb dX12_streetOf_4 (by decide) ?_
  refine lv_bipush (v := 10) hx hb dX12_streetOf_6 (by decide) ?_
  refine lv_iload_n hx hb dX12_streetOf_8 rfl (lv_at hl 1 rfl) ?_
  refine lv_imul hx hb dX12_streetOf_9 ?_
  refine lv_topi (fun x1 ex1 => ?_)
  have ex1 : x1.toInt = (10 : Int) * a1.toInt := by rw [ex1]; exact wk_mul (show (-2147483648) ≤ (10 : Int) * a1.toInt by omega) (show (10 : Int) * a1.toInt ≤ 2147483647 by omega)
  refine lv_iadd hx hb dX12_streetOf_10 ?_
  refine lv_topi (fun x2 ex2 => ?_)
  have ex2 : x2.toInt = (10 : Int) + x1.toInt := by rw [ex2]; exact wk_add (show (-2147483648) ≤ (10 : Int) + x1.toInt by omega) (show (10 : Int) + x1.toInt ≤ 2147483647 by omega)
  refine lv_iload_n hx hb dX12_streetOf_11 rfl (lv_at hl 2 rfl) ?_
  refine lv_iadd hx hb dX12_streetOf_12 ?_
  refine lv_topi (fun x3 ex3 => ?_)
  have ex3 : x3.toInt = x2.toInt + a2.toInt := by rw [ex3]; exact wk_add (show (-2147483648) ≤ x2.toInt + a2.toInt by omega) (show x2.toInt + a2.toInt ≤ 2147483647 by omega)
  refine tk_ialdR hC hK hw hT kM_at12 rfl (show 0 ≤ x3.toInt by omega) (show x3.toInt < 296 by omega) dX12_streetOf_13 (fun x4 c5 Ex4 => ?_)
  have c5 : gi w0 12 (x3.toInt).toNat = x4 := (congrArg (gi w0 12) (congrArg Int.toNat (show x3.toInt = x3.toInt by omega))).trans c5
  have bx4 := tk_rgI rfl 10 1 112 0 9 (by decide +kernel) ⟨(x3.toInt - 10).toNat, by omega, show x3.toInt.toNat = 10 + 1 * (x3.toInt - 10).toNat by omega⟩ Ex4
  exact tk_iret hC hr hlocks hK ⟨hT, hF, ⟨(show 0 ≤ x4.toInt by omega), (show x4.toInt ≤ 9 by omega)⟩⟩ hw dX12_streetOf_14
abbrev P_X12_streetOf_6 (ad : Nat → Nat) (cy : Nat → ClassId) (B : Int) (qr : Nat) (s1 : Int) (a1 : Int32) (w0 : va_W) : Int32 → va_W → Prop := fun r u => TW ksM ad cy B qr 12 u ∧ FE ksM ([] : List (Nat × Nat × Nat)) w0 u ∧ ((0 ≤ r.toInt ∧ r.toInt ≤ 9 ∧ gi u 12 (10 * a1.toInt + 12).toNat = r))
set_option maxHeartbeats 4000000 in
set_option maxRecDepth 100000 in
theorem k_X12_streetOf_6 (l : Launch) (adK adV : Nat → Nat) (dC : Nat → ClassId) (dI : Nat → Nat → Nat) (cy : Nat → ClassId) (ad : Nat → Nat) (B : Int) (hB0 : 100000 ≤ B) (hB1 : B ≤ 1073741824) (qr : Nat) (s1 : Int)  (a1 : Int32) (ra1 : 0 ≤ a1.toInt) (ta1 : a1.toInt ≤ 11) (w0 : va_W) (sz : Nat) (hT : TW ksM ad cy B qr 12 w0)  : Met l yX12_streetOf wsX12_streetOf ({ frames := 1, cells := 0, slots := 0, locals := 12 }) (va_Pc [.ref (ad 0), .int a1, .int 2] (wpreS adK adV dC dI cy sz w0)) (va_Qi (P_X12_streetOf_6 ad cy B qr s1 a1 w0) (fun u : va_W => wpost dC dI cy (va_A w0 sz) u) (va_A w0 sz)) 0 0 (va_A w0 sz) := by
  refine Met.ofW (cc := cX12_streetOf) (maxL := 3) (ret := (some .int)) (by decide) rfl ?_
  intro p e s m args below meth c s₁ Bk hml hv
  obtain ⟨rfl, ⟨hsz, hP, hK, hD0⟩, hE, hSR⟩ := hv
  have hx := Bk.exec
  have hb := Bk.bytes
  have hr := Bk.returns
  have hlocks := Bk.notSynchronized
  have hC : CallFix p m c cX12_streetOf 3 s _ wsX12_streetOf RX12 := ⟨hx, hb, hml, findClass_of_methodNamed Bk.named, atoms_spec (ws := wsX12_streetOf) Bk.pre⟩
  subst hsz
  have hD := hD0.self (sz := s.heap.size)
  generalize hAe : va_A w0 s.heap.size = A at hD hE ⊢
  have hA : ∀ q : Nat, s.heap.size ≤ q → A q := fun q h => by rw [← hAe]; exact Or.inr h
  have hw : Wd dC dI A s.heap s.heap [] w0 := ⟨hP, hD, va_S.rf⟩
  have hF : FE ksM ([] : List (Nat × Nat × Nat)) w0 w0 := FE.rf
  have hl := lv_entry ([.ref (ad 0), .int a1, .int 2]) (n := 3) (Nat.le_of_ble_eq_true rfl)
  rw [lg_entry_eq]
  generalize (lg_sl ([.ref (ad 0), .int a1, .int 2]) ++ List.replicate (3 - (lg_sl ([.ref (ad 0), .int a1, .int 2])).length) Slot.unset).toArray = ls at hl ⊢
  have hl : lv_has ls 3 [(0, .ref (ad 0)), (1, .int a1), (2, .int 2)] := hl
  generalize hloc : ([] : List Loc) = locs at hw ⊢
  have hinX12 : ∀ w ∈ u_ws RX12 TX12 42, w ∈ wsX12_streetOf := fun _ h => List.mem_cons_of_mem _ (List.mem_append_right _ (h))
  refine lv_aload_n hx hb dX12_streetOf_0 rfl (lv_at hl 0 rfl) ?_
  refine tk_getA hC hK hw hT hinX12 kM_at0 (by decide) rfl 26 (by decide) (List.mem_of_getElem? (i := 1) rfl) rfl rfl dX12_streetOf_1 ?_
  refine lv_bipush (v := 10) hx hb dX12_streetOf_4 (by decide) ?_
  refine lv_bipush (v := 10) hx hb dX12_streetOf_6 (by decide) ?_
  refine lv_iload_n hx hb dX12_streetOf_8 rfl (lv_at hl 1 rfl) ?_
  refine lv_imul hx hb dX12_streetOf_9 ?_
  refine lv_topi (fun x1 ex1 => ?_)
  have ex1 : x1.toInt = (10 : Int) * a1.toInt := by rw [ex1]; exact wk_mul (show (-2147483648) ≤ (10 : Int) * a1.toInt by omega) (show (10 : Int) * a1.toInt ≤ 2147483647 by omega)
  refine lv_iadd hx hb dX12_streetOf_10 ?_
  refine lv_topi (fun x2 ex2 => ?_)
  have ex2 : x2.toInt = (10 : Int) + x1.toInt := by rw [ex2]; exact wk_add (show (-2147483648) ≤ (10 : Int) + x1.toInt by omega) (show (10 : Int) + x1.toInt ≤ 2147483647 by omega)
  refine lv_iload_n hx hb dX12_streetOf_11 rfl (lv_at hl 2 rfl) ?_
  refine lv_iadd hx hb dX12_streetOf_12 ?_
  refine lv_topi (fun x3 ex3 => ?_)
  have ex3 : x3.toInt = x2.toInt + (2 : Int) := by rw [ex3]; exact wk_add (show (-2147483648) ≤ x2.toInt + (2 : Int) by omega) (show x2.toInt + (2 : Int) ≤ 2147483647 by omega)
  refine tk_ialdR hC hK hw hT kM_at12 rfl (show 0 ≤ x3.toInt by omega) (show x3.toInt < 296 by omega) dX12_streetOf_13 (fun x4 c5 Ex4 => ?_)
  have c5 : gi w0 12 (10 * a1.toInt + 12).toNat = x4 := (congrArg (gi w0 12) (congrArg Int.toNat (show 10 * a1.toInt + 12 = x3.toInt by omega))).trans c5
  have bx4 := tk_rgI rfl 12 10 12 0 9 (by decide +kernel) ⟨(a1.toInt - 0).toNat, by omega, show x3.toInt.toNat = 12 + 10 * (a1.toInt - 0).toNat by omega⟩ Ex4
  exact tk_iret hC hr hlocks hK ⟨hT, hF, ⟨(show 0 ≤ x4.toInt by omega), (show x4.toInt ≤ 9 by omega), c5⟩⟩ hw dX12_streetOf_14
abbrev P_X12_isOf_3 (ad : Nat → Nat) (cy : Nat → ClassId) (B : Int) (qr : Nat) (s1 : Int) (a0 : Int32) (a1 : Int32) (w0 : va_W) : Int32 → va_W → Prop := fun r u => TW ksM ad cy B qr 12 u ∧ FE ksM ([] : List (Nat × Nat × Nat)) w0 u ∧ ((r = 0) ∨ (r = 1))
set_option maxHeartbeats 4000000 in
set_option maxRecDepth 100000 in
theorem k_X12_isOf_3 (l : Launch) (adK adV : Nat → Nat) (dC : Nat → ClassId) (dI : Nat → Nat → Nat) (cy : Nat → ClassId) (ad : Nat → Nat) (B : Int) (hB0 : 100000 ≤ B) (hB1 : B ≤ 1073741824) (qr : Nat) (s1 : Int)  (a0 : Int32) (a1 : Int32) (ra1 : 0 ≤ a1.toInt) (ta1 : a1.toInt ≤ 1) (w0 : va_W) (sz : Nat) (hT : TW ksM ad cy B qr 12 w0)  : Met l yX12_isOf wsX12_isOf ({ frames := 1, cells := 0, slots := 0, locals := 12 }) (va_Pc [.int a0, .int a1] (wpreS adK adV dC dI cy sz w0)) (va_Qi (P_X12_isOf_3 ad cy B qr s1 a0 a1 w0) (fun u : va_W => wpost dC dI cy (va_A w0 sz) u) (va_A w0 sz)) 0 0 (va_A w0 sz) := by
  refine Met.ofW (cc := cX12_isOf) (maxL := 2) (ret := (some .boolean)) (by decide) rfl ?_
  intro p e s m args below meth c s₁ Bk hml hv
  obtain ⟨rfl, ⟨hsz, hP, hK, hD0⟩, hE, hSR⟩ := hv
  have hx := Bk.exec
  have hb := Bk.bytes
  have hr := Bk.returns
  have hlocks := Bk.notSynchronized
  have hC : CallFix p m c cX12_isOf 2 s _ wsX12_isOf RX12 := ⟨hx, hb, hml, findClass_of_methodNamed Bk.named, atoms_spec (ws := wsX12_isOf) Bk.pre⟩
  subst hsz
  have hD := hD0.self (sz := s.heap.size)
  generalize hAe : va_A w0 s.heap.size = A at hD hE ⊢
  have hA : ∀ q : Nat, s.heap.size ≤ q → A q := fun q h => by rw [← hAe]; exact Or.inr h
  have hw : Wd dC dI A s.heap s.heap [] w0 := ⟨hP, hD, va_S.rf⟩
  have hF : FE ksM ([] : List (Nat × Nat × Nat)) w0 w0 := FE.rf
  have hl := lv_entry ([.int a0, .int a1]) (n := 2) (Nat.le_of_ble_eq_true rfl)
  rw [lg_entry_eq]
  generalize (lg_sl ([.int a0, .int a1]) ++ List.replicate (2 - (lg_sl ([.int a0, .int a1])).length) Slot.unset).toArray = ls at hl ⊢
  have hl : lv_has ls 2 [(0, .int a0), (1, .int a1)] := hl
  generalize hloc : ([] : List Loc) = locs at hw ⊢
  refine lv_iload_n hx hb dX12_isOf_0 rfl (lv_at hl 0 rfl) ?_
  refine lv_iload_n hx hb dX12_isOf_1 rfl (lv_at hl 1 rfl) ?_
  refine lv_ishr hx hb dX12_isOf_2 ?_
  refine lv_topi (fun x1 ex1 => ?_)
  refine lv_iconst (v := 1) hx hb dX12_isOf_3 (by decide) ?_
  refine lv_iand hx hb dX12_isOf_4 ?_
  refine lv_topi (fun x2 ex2 => ?_)
  have bx2 : 0 ≤ x2.toInt ∧ x2.toInt ≤ (1 : Int) := by rw [ex2]; exact wk_and (by decide)
  refine lv_iconst (v := 1) hx hb dX12_isOf_5 (by decide) ?_
  refine lv_icmp_ne (tgt := 13) hx hb dX12_isOf_6 (by decide) (fun c3 => ?_) (fun c3 => ?_)
  · have c3 : ¬ x2.toInt = (1 : Int) := wk_eqF c3
    refine lv_iconst (v := 0) hx hb dX12_isOf_13 (by decide) ?_
    exact tk_zret hC hr rfl hlocks hK ⟨hT, hF, (Or.inl rfl)⟩ hw dX12_isOf_14
  · have c3 : x2.toInt = (1 : Int) := wk_eq.mp c3
    refine lv_iconst (v := 1) hx hb dX12_isOf_9 (by decide) ?_
    refine lv_goto (tgt := 14) hx hb dX12_isOf_10 (by decide) ?_
    exact tk_zret hC hr rfl hlocks hK ⟨hT, hF, (Or.inr rfl)⟩ hw dX12_isOf_14
abbrev P_X12_spreads_1 (ad : Nat → Nat) (cy : Nat → ClassId) (B : Int) (qr : Nat) (s1 : Int) (a1 : Int32) (w0 : va_W) : va_W → Prop := fun u => TW ksM ad cy B qr 12 u ∧ FE ksM [(73, 0, 10)] w0 u ∧ ((True))
set_option maxHeartbeats 4000000 in
set_option maxRecDepth 100000 in
theorem k_X12_spreads_1 (l : Launch) (adK adV : Nat → Nat) (dC : Nat → ClassId) (dI : Nat → Nat → Nat) (cy : Nat → ClassId) (ad : Nat → Nat) (B : Int) (hB0 : 100000 ≤ B) (hB1 : B ≤ 1073741824) (qr : Nat) (s1 : Int)  (a1 : Int32) (ra1 : 0 ≤ a1.toInt) (ta1 : a1.toInt ≤ 9) (w0 : va_W) (sz : Nat) (hT : TW ksM ad cy B qr 12 w0)  : Met l yX12_spreads wsX12_spreads ({ frames := 2, cells := 0, slots := 0, locals := 34 }) (va_Pc [.ref (ad 0), .int a1] (wpreS adK adV dC dI cy sz w0)) (va_Qv (P_X12_spreads_1 ad cy B qr s1 a1 w0) (fun u : va_W => wpost dC dI cy (va_A w0 sz) u) (va_A w0 sz)) 0 0 (va_A w0 sz) := by
  refine Met.ofW (cc := cX12_spreads) (maxL := 7) (ret := none) (by decide) rfl ?_
  intro p e s m args below meth c s₁ Bk hml hv
  obtain ⟨rfl, ⟨hsz, hP, hK, hD0⟩, hE, hSR⟩ := hv
  have hx := Bk.exec
  have hb := Bk.bytes
  have hr := Bk.returns
  have hlocks := Bk.notSynchronized
  have hC : CallFix p m c cX12_spreads 7 s _ wsX12_spreads RX12 := ⟨hx, hb, hml, findClass_of_methodNamed Bk.named, atoms_spec (ws := wsX12_spreads) Bk.pre⟩
  subst hsz
  have hD := hD0.self (sz := s.heap.size)
  generalize hAe : va_A w0 s.heap.size = A at hD hE ⊢
  have hA : ∀ q : Nat, s.heap.size ≤ q → A q := fun q h => by rw [← hAe]; exact Or.inr h
  have hw : Wd dC dI A s.heap s.heap [] w0 := ⟨hP, hD, va_S.rf⟩
  have hF : FE ksM [(73, 0, 10)] w0 w0 := FE.rf
  have hl := lv_entry ([.ref (ad 0), .int a1]) (n := 7) (Nat.le_of_ble_eq_true rfl)
  rw [lg_entry_eq]
  generalize (lg_sl ([.ref (ad 0), .int a1]) ++ List.replicate (7 - (lg_sl ([.ref (ad 0), .int a1])).length) Slot.unset).toArray = ls at hl ⊢
  have hl : lv_has ls 7 [(0, .ref (ad 0)), (1, .int a1)] := hl
  generalize hloc : ([] : List Loc) = locs at hw ⊢
  have hinX12 : ∀ w ∈ u_ws RX12 TX12 42, w ∈ wsX12_spreads := fun _ h => List.mem_cons_of_mem _ (List.mem_append_right _ (h))
  have L34 : ∀ (n34 : Nat) (v34_2 : Int32) (H : Heap) (locs : List Loc) (ls : Array Slot) (w1 : va_W), 0 ≤ a1.toInt → a1.toInt ≤ 9 → 0 ≤ v34_2.toInt → v34_2.toInt ≤ 1 → 0 ≤ (sumG 14 10 w1) → (2 * (sumG 14 10 w1) + v34_2.toInt).toNat < n34 → Wd dC dI A s.heap H locs w1 → TW ksM ad cy B qr 12 w1 → FE ksM [(73, 0, 10)] w0 w1 → lv_has ls 7 [(0, .ref (ad 0)), (1, .int a1), (2, .int v34_2)] → W p l e ({ frames := 2, cells := 0, slots := 0, locals := 34 }) s m (List.toArray [.ref (ad 0), .int a1]) below meth c H locs 0 0 (MQ below (va_Qv (P_X12_spreads_1 ad cy B qr s1 a1 w0) (fun u : va_W => wpost dC dI cy A u) A) (List.toArray [.ref (ad 0), .int a1]) s 0 0 A) (F0 m 34 ls []) := by
    intro n34
    induction n34 with
    | zero => intro v34_2 H locs ls w1 r2 t3 r4 t5 g6 hm34 hw hT hF hl; omega
    | succ n34 ih34 =>
      intro v34_2 H locs ls w1 r2 t3 r4 t5 g6 hm34 hw hT hF hl
      have L42 : ∀ (n42 : Nat) (v42_2 : Int32) (v42_3 : Int32) (H : Heap) (locs : List Loc) (ls : Array Slot) (w7 : va_W), 0 ≤ a1.toInt → a1.toInt ≤ 9 → 0 ≤ v42_2.toInt → v42_2.toInt ≤ 1 → 0 ≤ v42_3.toInt → v42_3.toInt ≤ 12 → (sumG 14 10 w7) + v42_2.toInt ≤ (sumG 14 10 w1) → (12 - v42_3.toInt).toNat < n42 → Wd dC dI A s.heap H locs w7 → TW ksM ad cy B qr 12 w7 → FE ksM [(73, 0, 10)] w0 w7 → lv_has ls 7 [(0, .ref (ad 0)), (1, .int a1), (2, .int v42_2), (3, .int v42_3)] → W p l e ({ frames := 2, cells := 0, slots := 0, locals := 34 }) s m (List.toArray [.ref (ad 0), .int a1]) below meth c H locs 0 0 (MQ below (va_Qv (P_X12_spreads_1 ad cy B qr s1 a1 w0) (fun u : va_W => wpost dC dI cy A u) A) (List.toArray [.ref (ad 0), .int a1]) s 0 0 A) (F0 m 42 ls []) := by
        intro n42
        induction n42 with
        | zero => intro v42_2 v42_3 H locs ls w7 r8 t9 r10 t11 r12 t13 g14 hm42 hw hT hF hl; omega
        | succ n42 ih42 =>
          intro v42_2 v42_3 H locs ls w7 r8 t9 r10 t11 r12 t13 g14 hm42 hw hT hF hl
          have L55 : ∀ (n55 : Nat) (v55_2 : Int32) (v55_4 : Int32) (f55_12_1 : Int32) (H : Heap) (locs : List Loc) (ls : Array Slot) (w15 : va_W), 0 ≤ a1.toInt → a1.toInt ≤ 9 → 0 ≤ v55_2.toInt → v55_2.toInt ≤ 1 → 0 ≤ v42_3.toInt → v42_3.toInt ≤ 11 → 0 ≤ v55_4.toInt → v55_4.toInt ≤ 2 → 1 ≤ f55_12_1.toInt → f55_12_1.toInt ≤ 12 → (sumG 14 10 w15) + v55_2.toInt ≤ (sumG 14 10 w1) → (2 - v55_4.toInt).toNat < n55 → Wd dC dI A s.heap H locs w15 → TW ksM ad cy B qr 12 w15 → FE ksM [(73, 0, 10)] w0 w15 → gi w15 12 1 = f55_12_1 → lv_has ls 7 [(0, .ref (ad 0)), (1, .int a1), (2, .int v55_2), (3, .int v42_3), (4, .int v55_4)] → W p l e ({ frames := 2, cells := 0, slots := 0, locals := 34 }) s m (List.toArray [.ref (ad 0), .int a1]) below meth c H locs 0 0 (MQ below (va_Qv (P_X12_spreads_1 ad cy B qr s1 a1 w0) (fun u : va_W => wpost dC dI cy A u) A) (List.toArray [.ref (ad 0), .int a1]) s 0 0 A) (F0 m 55 ls []) := by
            intro n55
            induction n55 with
            | zero => intro v55_2 v55_4 f55_12_1 H locs ls w15 r16 t17 r18 t19 r20 t21 r22 t23 r24 t25 g27 hm55 hw hT hF c26 hl; omega
            | succ n55 ih55 =>
              intro v55_2 v55_4 f55_12_1 H locs ls w15 r16 t17 r18 t19 r20 t21 r22 t23 r24 t25 g27 hm55 hw hT hF c26 hl
              have J133 : ∀ (v133_2 : Int32) (v133_5 : Int32) (v133_6 : Int32) (f133_12__10_v42_3_toInt_12_toNat : Int32) (H : Heap) (locs : List Loc) (ls : Array Slot) (w28 : va_W), 0 ≤ a1.toInt → a1.toInt ≤ 9 → 0 ≤ v133_2.toInt → v133_2.toInt ≤ 1 → 0 ≤ v42_3.toInt → v42_3.toInt ≤ 11 → 0 ≤ v55_4.toInt → v55_4.toInt ≤ 1 → 0 ≤ v133_5.toInt → v133_5.toInt ≤ 9 → 0 ≤ v133_6.toInt → v133_6.toInt ≤ 100000109 → 0 ≤ f133_12__10_v42_3_toInt_12_toNat.toInt → f133_12__10_v42_3_toInt_12_toNat.toInt ≤ 9 → 1 ≤ f55_12_1.toInt → f55_12_1.toInt ≤ 12 → (sumG 14 10 w28) + v133_2.toInt ≤ (sumG 14 10 w1) → Wd dC dI A s.heap H locs w28 → TW ksM ad cy B qr 12 w28 → FE ksM [(73, 0, 10)] w0 w28 → gi w28 12 (10 * v42_3.toInt + 12).toNat = f133_12__10_v42_3_toInt_12_toNat → gi w28 12 1 = f55_12_1 → lv_has ls 7 [(0, .ref (ad 0)), (1, .int a1), (2, .int v133_2), (3, .int v42_3), (4, .int v55_4), (5, .int v133_5), (6, .int v133_6)] → W p l e ({ frames := 2, cells := 0, slots := 0, locals := 34 }) s m (List.toArray [.ref (ad 0), .int a1]) below meth c H locs 0 0 (MQ below (va_Qv (P_X12_spreads_1 ad cy B qr s1 a1 w0) (fun u : va_W => wpost dC dI cy A u) A) (List.toArray [.ref (ad 0), .int a1]) s 0 0 A) (F0 m 133 ls []) := by
                intro v133_2 v133_5 v133_6 f133_12__10_v42_3_toInt_12_toNat H locs ls w28 r29 t30 r31 t32 r33 t34 r35 t36 r37 t38 r39 t40 r41 t42 r44 t45 g47 hw hT hF c43 c46 hl
                obtain ⟨x48, ex48⟩ : ∃ y : Int32, y = v55_4 + Int32.ofInt 1 := ⟨_, rfl⟩
                refine lv_iinc (v := x48) (lv' := [(4, .int x48), (0, .ref (ad 0)), (1, .int a1), (2, .int v133_2), (3, .int v42_3), (5, .int v133_5), (6, .int v133_6)]) hx hb dX12_spreads_133 hl (k := 4) rfl ex48.symm (by decide) rfl (fun ls hl => ?_)
                have ex48 : x48.toInt = v55_4.toInt + 1 := by rw [ex48]; exact wk_add (y := 1) (show -2147483648 ≤ v55_4.toInt + 1 by omega) (show v55_4.toInt + 1 ≤ 2147483647 by omega)
                refine lv_goto (tgt := 55) hx hb dX12_spreads_136 (by decide) ?_
                have gb49 : 0 ≤ sumG 14 10 w28 ∧ sumG 14 10 w28 ≤ 1000001000 := hT.sum (lo := 0) (hi := 100000100) kM_at14 rfl (by decide) rfl
                exact ih55 v133_2 x48 f55_12_1 H locs ls w28 (show 0 ≤ a1.toInt by omega) (show a1.toInt ≤ 9 by omega) (show 0 ≤ v133_2.toInt by omega) (show v133_2.toInt ≤ 1 by omega) (show 0 ≤ v42_3.toInt by omega) (show v42_3.toInt ≤ 11 by omega) (show 0 ≤ x48.toInt by omega) (show x48.toInt ≤ 2 by omega) (show 1 ≤ f55_12_1.toInt by omega) (show f55_12_1.toInt ≤ 12 by omega) (show (sumG 14 10 w28) + v133_2.toInt ≤ (sumG 14 10 w1) by omega) (show (2 - x48.toInt).toNat < n55 by omega) hw hT hF c46 (lv_sub hl [1, 2, 3, 4, 0] rfl)
              refine lv_iload hx hb dX12_spreads_55 (lv_at hl 4 rfl) ?_
              refine lv_iconst (v := 2) hx hb dX12_spreads_57 (by decide) ?_
              refine lv_icmp_ge (tgt := 139) hx hb dX12_spreads_58 (by decide) (fun c50 => ?_) (fun c50 => ?_)
              · have c50 : (2 : Int) ≤ v55_4.toInt := wk_le.mp c50
                obtain ⟨x51, ex51⟩ : ∃ y : Int32, y = v42_3 + Int32.ofInt 1 := ⟨_, rfl⟩
                refine lv_iinc (v := x51) (lv' := [(3, .int x51), (0, .ref (ad 0)), (1, .int a1), (2, .int v55_2), (4, .int v55_4)]) hx hb dX12_spreads_139 hl (k := 3) rfl ex51.symm (by decide) rfl (fun ls hl => ?_)
                have ex51 : x51.toInt = v42_3.toInt + 1 := by rw [ex51]; exact wk_add (y := 1) (show -2147483648 ≤ v42_3.toInt + 1 by omega) (show v42_3.toInt + 1 ≤ 2147483647 by omega)
                refine lv_goto (tgt := 42) hx hb dX12_spreads_142 (by decide) ?_
                have gb52 : 0 ≤ sumG 14 10 w15 ∧ sumG 14 10 w15 ≤ 1000001000 := hT.sum (lo := 0) (hi := 100000100) kM_at14 rfl (by decide) rfl
                exact ih42 v55_2 x51 H locs ls w15 (show 0 ≤ a1.toInt by omega) (show a1.toInt ≤ 9 by omega) (show 0 ≤ v55_2.toInt by omega) (show v55_2.toInt ≤ 1 by omega) (show 0 ≤ x51.toInt by omega) (show x51.toInt ≤ 12 by omega) (show (sumG 14 10 w15) + v55_2.toInt ≤ (sumG 14 10 w1) by omega) (show (12 - x51.toInt).toNat < n42 by omega) hw hT hF  (lv_sub hl [1, 2, 3, 0] rfl)
              · have c50 : v55_4.toInt < (2 : Int) := wk_leF c50
                refine lv_aload_n hx hb dX12_spreads_61 rfl (lv_at hl 0 rfl) ?_
                refine lv_iload_n hx hb dX12_spreads_62 rfl (lv_at hl 3 rfl) ?_
                refine lv_iload hx hb dX12_spreads_63 (lv_at hl 4 rfl) ?_
                refine tk_Vi hC hK hw hT hA hE hSR kM_at0 (by decide) rfl (k_X12_streetOf_5 l adK adV dC dI cy ad B (by omega) (by omega) qr s1   v42_3 (show 0 ≤ v42_3.toInt by omega) (show v42_3.toInt ≤ 11 by omega) v55_4 (show 0 ≤ v55_4.toInt by omega) (show v55_4.toInt ≤ 1 by omega) w15 H.size hT ) (cwV 2 hC.2.2.2.2 gX12_spreads_X12_streetOf rfl rfl rfl (by decide +kernel) ⟨Nat.le_of_ble_eq_true rfl, Nat.le_of_ble_eq_true rfl⟩) rfl hl.1 rfl (Nat.le_of_ble_eq_true rfl) dX12_spreads_65 (fun r53 w55 H locs hp54 hw => ?_)
                obtain ⟨hT, k56, hg59⟩ := hp54
                have gs60 : sumG 14 10 w55 = sumG 14 10 w15 := sumG_FE 10 k56 kM_at14 (fun _ => rfl)
                have hF := hF.tr k56 (by decide)
                have c61 := k56.gi kM_at12 (by decide) c26
                obtain ⟨g57, g58⟩ := hg59
                refine lv_istore (lv' := [(5, .int r53), (0, .ref (ad 0)), (1, .int a1), (2, .int v55_2), (3, .int v42_3), (4, .int v55_4)]) hx hb dX12_spreads_68 hl (by decide) rfl (fun ls hl => ?_)
                refine lv_aload_n hx hb dX12_spreads_70 rfl (lv_at hl 1 rfl) ?_
                refine tk_getA hC hK hw hT hinX12 kM_at0 (by decide) rfl 29 (by decide) (List.mem_of_getElem? (i := 1) rfl) rfl rfl dX12_spreads_71 ?_
                refine lv_aload_n hx hb dX12_spreads_74 rfl (lv_at hl 1 rfl) ?_
                refine lv_iload_n hx hb dX12_spreads_75 rfl (lv_at hl 4 rfl) ?_
                refine lv_iconst (v := 1) hx hb dX12_spreads_76 (by decide) ?_
                refine lv_iload hx hb dX12_spreads_77 (lv_at hl 5 rfl) ?_
                refine lv_isub hx hb dX12_spreads_79 ?_
                refine lv_topi (fun x62 ex62 => ?_)
                have ex62 : x62.toInt = (1 : Int) - v55_4.toInt := by rw [ex62]; exact wk_sub (show (-2147483648) ≤ (1 : Int) - v55_4.toInt by omega) (show (1 : Int) - v55_4.toInt ≤ 2147483647 by omega)
                refine tk_Vi hC hK hw hT hA hE hSR kM_at0 (by decide) rfl (k_X12_streetOf_5 l adK adV dC dI cy ad B (by omega) (by omega) qr s1   v42_3 (show 0 ≤ v42_3.toInt by omega) (show v42_3.toInt ≤ 11 by omega) x62 (show 0 ≤ x62.toInt by omega) (show x62.toInt ≤ 1 by omega) w55 H.size hT ) (cwV 2 hC.2.2.2.2 gX12_spreads_X12_streetOf rfl rfl rfl (by decide +kernel) ⟨Nat.le_of_ble_eq_true rfl, Nat.le_of_ble_eq_true rfl⟩) rfl hl.1 rfl (Nat.le_of_ble_eq_true rfl) dX12_spreads_80 (fun r63 w65 H locs hp64 hw => ?_)
                obtain ⟨hT, k66, hg69⟩ := hp64
                have gs70 : sumG 14 10 w65 = sumG 14 10 w55 := sumG_FE 10 k66 kM_at14 (fun _ => rfl)
                have hF := hF.tr k66 (by decide)
                have c71 := k66.gi kM_at12 (by decide) c61
                obtain ⟨g67, g68⟩ := hg69
                refine tk_iald hC hK hw hT kM_at14 rfl rfl (show 0 ≤ r63.toInt by omega) (show r63.toInt < 10 by omega) dX12_spreads_83 (fun x72 c73 rx72 tx72 => ?_)
                have c73 : gi w65 14 (r63.toInt).toNat = x72 := (congrArg (gi w65 14) (congrArg Int.toNat (show r63.toInt = r63.toInt by omega))).trans c73
                refine lv_aload_n hx hb dX12_spreads_84 rfl (lv_at hl 1 rfl) ?_
                refine lv_iload_n hx hb dX12_spreads_85 rfl (lv_at hl 4 rfl) ?_
                refine lv_iconst (v := 2) hx hb dX12_spreads_86 (by decide) ?_
                refine tk_Vi hC hK hw hT hA hE hSR kM_at0 (by decide) rfl (k_X12_streetOf_6 l adK adV dC dI cy ad B (by omega) (by omega) qr s1   v42_3 (show 0 ≤ v42_3.toInt by omega) (show v42_3.toInt ≤ 11 by omega) w65 H.size hT ) (cwV 2 hC.2.2.2.2 gX12_spreads_X12_streetOf rfl rfl rfl (by decide +kernel) ⟨Nat.le_of_ble_eq_true rfl, Nat.le_of_ble_eq_true rfl⟩) rfl hl.1 rfl (Nat.le_of_ble_eq_true rfl) dX12_spreads_87 (fun r74 w76 H locs hp75 hw => ?_)
                obtain ⟨hT, k77, hg81⟩ := hp75
                have gs82 : sumG 14 10 w76 = sumG 14 10 w65 := sumG_FE 10 k77 kM_at14 (fun _ => rfl)
                have hF := hF.tr k77 (by decide)
                have c83 := k77.gi kM_at12 (by decide) c71
                have c84 := k77.gi kM_at14 rfl c73
                obtain ⟨g78, g79, c80⟩ := hg81
                refine lv_iadd hx hb dX12_spreads_90 ?_
                refine lv_topi (fun x85 ex85 => ?_)
                have ex85 : x85.toInt = x72.toInt + r74.toInt := by rw [ex85]; exact wk_add (show (-2147483648) ≤ x72.toInt + r74.toInt by omega) (show x72.toInt + r74.toInt ≤ 2147483647 by omega)
                refine lv_istore (lv' := [(6, .int x85), (5, .int r53), (0, .ref (ad 0)), (1, .int a1), (2, .int v55_2), (3, .int v42_3), (4, .int v55_4)]) hx hb dX12_spreads_91 hl (by decide) rfl (fun ls hl => ?_)
                refine lv_aload_n hx hb dX12_spreads_93 rfl (lv_at hl 2 rfl) ?_
                refine tk_getA hC hK hw hT hinX12 kM_at0 (by decide) rfl 28 (by decide) (List.mem_of_getElem? (i := 4) rfl) rfl rfl dX12_spreads_94 ?_
                refine lv_iload_n hx hb dX12_spreads_97 rfl (lv_at hl 5 rfl) ?_
                refine tk_iald hC hK hw hT kM_at13 rfl rfl (show 0 ≤ v42_3.toInt by omega) (show v42_3.toInt < 12 by omega) dX12_spreads_98 (fun x86 c87 rx86 tx86 => ?_)
                refine lv_iload hx hb dX12_spreads_99 (lv_at hl 6 rfl) ?_
                refine tk_Si hC hK hw hT hA hE hSR (k_X12_isOf_3 l adK adV dC dI cy ad B (by omega) (by omega) qr s1   x86 v55_4 (show 0 ≤ v55_4.toInt by omega) (show v55_4.toInt ≤ 1 by omega) w76 H.size hT ) (va_cwS 2 hC.2.2.2.2 gX12_spreads_X12_isOf rfl rfl rfl (by decide +kernel) ⟨Nat.le_of_ble_eq_true rfl, Nat.le_of_ble_eq_true rfl⟩) rfl hl.1 rfl (Nat.le_of_ble_eq_true rfl) dX12_spreads_101 (fun r88 w90 H locs hp89 hw => ?_)
                obtain ⟨hT, k91, hg92⟩ := hp89
                have gs93 : sumG 14 10 w90 = sumG 14 10 w76 := sumG_FE 10 k91 kM_at14 (fun _ => rfl)
                have hF := hF.tr k91 (by decide)
                have c94 := k91.gi kM_at12 (by decide) c83
                have c95 := k91.gi kM_at14 rfl c84
                have c96 := k91.gi kM_at12 rfl c80
                rcases hg92 with rfl | rfl
                · refine lv_if_eq (tgt := 133) hx hb dX12_spreads_104 (by decide) (fun _ => ?_) (fun c => absurd (by decide) c)
                  have gb97 : 0 ≤ sumG 14 10 w90 ∧ sumG 14 10 w90 ≤ 1000001000 := hT.sum (lo := 0) (hi := 100000100) kM_at14 rfl (by decide) rfl
                  exact J133 v55_2 r53 x85 r74 H locs ls w90 (show 0 ≤ a1.toInt by omega) (show a1.toInt ≤ 9 by omega) (show 0 ≤ v55_2.toInt by omega) (show v55_2.toInt ≤ 1 by omega) (show 0 ≤ v42_3.toInt by omega) (show v42_3.toInt ≤ 11 by omega) (show 0 ≤ v55_4.toInt by omega) (show v55_4.toInt ≤ 1 by omega) (show 0 ≤ r53.toInt by omega) (show r53.toInt ≤ 9 by omega) (show 0 ≤ x85.toInt by omega) (show x85.toInt ≤ 100000109 by omega) (show 0 ≤ r74.toInt by omega) (show r74.toInt ≤ 9 by omega) (show 1 ≤ f55_12_1.toInt by omega) (show f55_12_1.toInt ≤ 12 by omega) (show (sumG 14 10 w90) + v55_2.toInt ≤ (sumG 14 10 w1) by omega)  hw hT hF c96 c94 (lv_sub hl [2, 3, 4, 5, 6, 1, 0] rfl)
                · refine lv_if_eq (tgt := 133) hx hb dX12_spreads_104 (by decide) (fun c => absurd c (by decide)) (fun _ => ?_)
                  refine lv_iload hx hb dX12_spreads_107 (lv_at hl 0 rfl) ?_
                  refine lv_aload_n hx hb dX12_spreads_109 rfl (lv_at hl 2 rfl) ?_
                  refine tk_getA hC hK hw hT hinX12 kM_at0 (by decide) rfl 29 (by decide) (List.mem_of_getElem? (i := 1) rfl) rfl rfl dX12_spreads_110 ?_
                  refine lv_iload hx hb dX12_spreads_113 (lv_at hl 1 rfl) ?_
                  refine tk_iald hC hK hw hT kM_at14 rfl rfl (show 0 ≤ r53.toInt by omega) (show r53.toInt < 10 by omega) dX12_spreads_115 (fun x98 c99 rx98 tx98 => ?_)
                  have c99 : gi w90 14 (r53.toInt).toNat = x98 := (congrArg (gi w90 14) (congrArg Int.toNat (show r53.toInt = r53.toInt by omega))).trans c99
                  refine lv_icmp_lt (tgt := 122) hx hb dX12_spreads_116 (by decide) (fun c100 => ?_) (fun c100 => ?_)
                  · have c100 : x85.toInt < x98.toInt := wk_lt.mp c100
                    refine lv_aload_n hx hb dX12_spreads_122 rfl (lv_at hl 2 rfl) ?_
                    refine tk_getA hC hK hw hT hinX12 kM_at0 (by decide) rfl 29 (by decide) (List.mem_of_getElem? (i := 1) rfl) rfl rfl dX12_spreads_123 ?_
                    refine lv_iload hx hb dX12_spreads_126 (lv_at hl 1 rfl) ?_
                    refine lv_iload hx hb dX12_spreads_128 (lv_at hl 0 rfl) ?_
                    refine tk_iast hC hK hw hT kM_at14 (by decide) rfl rfl (show 0 ≤ r53.toInt by omega) (show r53.toInt < 10 by omega) (show 0 ≤ x85.toInt by omega) (show x85.toInt ≤ 100000100 by omega) dX12_spreads_130 (fun H locs w101 hw hT k103 c102 => ?_)
                    have gs104 : sumG 14 10 w101 = sumG 14 10 w90 - (gi w90 14 (r53.toInt.toNat)).toInt + (gi w101 14 (r53.toInt.toNat)).toInt := sumG_up (i := r53.toInt.toNat) k103 10 (show r53.toInt.toNat < 10 by omega)
                    rw [show gi w101 14 (r53.toInt.toNat) = x85 from c102] at gs104
                    rw [c99] at gs104
                    have hF := hF.put kM_at14 (inE_of (a := 0) (b := 10) (by decide) (show 0 ≤ r53.toInt.toNat by omega) (show r53.toInt.toNat ≤ 10 by omega)) k103
                    have c105 := k103.gi (Or.inl (tk_ne kM_at12 kM_at14 (by decide))) c94
                    have c106 := k103.gi (Or.inl (tk_ne kM_at12 kM_at14 (by decide))) c96
                    refine lv_iconst (v := 1) hx hb dX12_spreads_131 (by decide) ?_
                    refine lv_istore_n (lv' := [(2, .int 1), (6, .int x85), (5, .int r53), (0, .ref (ad 0)), (1, .int a1), (3, .int v42_3), (4, .int v55_4)]) hx hb dX12_spreads_132 rfl hl (by decide) rfl (fun ls hl => ?_)
                    have gb107 : 0 ≤ sumG 14 10 w101 ∧ sumG 14 10 w101 ≤ 1000001000 := hT.sum (lo := 0) (hi := 100000100) kM_at14 rfl (by decide) rfl
                    exact J133 1 r53 x85 r74 H locs ls w101 (show 0 ≤ a1.toInt by omega) (show a1.toInt ≤ 9 by omega) (by decide) (by decide) (show 0 ≤ v42_3.toInt by omega) (show v42_3.toInt ≤ 11 by omega) (show 0 ≤ v55_4.toInt by omega) (show v55_4.toInt ≤ 1 by omega) (show 0 ≤ r53.toInt by omega) (show r53.toInt ≤ 9 by omega) (show 0 ≤ x85.toInt by omega) (show x85.toInt ≤ 100000109 by omega) (show 0 ≤ r74.toInt by omega) (show r74.toInt ≤ 9 by omega) (show 1 ≤ f55_12_1.toInt by omega) (show f55_12_1.toInt ≤ 12 by omega) (show (sumG 14 10 w101) + (1 : Int) ≤ (sumG 14 10 w1) by omega)  hw hT hF c106 c105 (lv_sub hl [3, 4, 0, 5, 6, 2, 1] rfl)
                  · have c100 : x98.toInt ≤ x85.toInt := wk_ltF c100
                    refine lv_goto (tgt := 133) hx hb dX12_spreads_119 (by decide) ?_
                    have gb108 : 0 ≤ sumG 14 10 w90 ∧ sumG 14 10 w90 ≤ 1000001000 := hT.sum (lo := 0) (hi := 100000100) kM_at14 rfl (by decide) rfl
                    exact J133 v55_2 r53 x85 r74 H locs ls w90 (show 0 ≤ a1.toInt by omega) (show a1.toInt ≤ 9 by omega) (show 0 ≤ v55_2.toInt by omega) (show v55_2.toInt ≤ 1 by omega) (show 0 ≤ v42_3.toInt by omega) (show v42_3.toInt ≤ 11 by omega) (show 0 ≤ v55_4.toInt by omega) (show v55_4.toInt ≤ 1 by omega) (show 0 ≤ r53.toInt by omega) (show r53.toInt ≤ 9 by omega) (show 0 ≤ x85.toInt by omega) (show x85.toInt ≤ 100000109 by omega) (show 0 ≤ r74.toInt by omega) (show r74.toInt ≤ 9 by omega) (show 1 ≤ f55_12_1.toInt by omega) (show f55_12_1.toInt ≤ 12 by omega) (show (sumG 14 10 w90) + v55_2.toInt ≤ (sumG 14 10 w1) by omega)  hw hT hF c96 c94 (lv_sub hl [2, 3, 4, 5, 6, 1, 0] rfl)
          refine lv_iload_n hx hb dX12_spreads_42 rfl (lv_at hl 3 rfl) ?_
          refine lv_aload_n hx hb dX12_spreads_43 rfl (lv_at hl 0 rfl) ?_
          refine tk_getA hC hK hw hT hinX12 kM_at0 (by decide) rfl 26 (by decide) (List.mem_of_getElem? (i := 3) rfl) rfl rfl dX12_spreads_44 ?_
          refine lv_iconst (v := 1) hx hb dX12_spreads_47 (by decide) ?_
          refine tk_ialdR hC hK hw hT kM_at12 rfl (by decide) (by decide) dX12_spreads_48 (fun x109 c110 Ex109 => ?_)
          have bx109 : 0 ≤ x109.toInt ∧ x109.toInt ≤ 12 := (tk_rg1 rfl).mp Ex109
          have c110 : gi w7 12 1 = x109 := c110
          refine lv_icmp_ge (tgt := 145) hx hb dX12_spreads_49 (by decide) (fun c111 => ?_) (fun c111 => ?_)
          · have c111 : x109.toInt ≤ v42_3.toInt := wk_le.mp c111
            refine lv_goto (tgt := 34) hx hb dX12_spreads_145 (by decide) ?_
            have gb112 : 0 ≤ sumG 14 10 w7 ∧ sumG 14 10 w7 ≤ 1000001000 := hT.sum (lo := 0) (hi := 100000100) kM_at14 rfl (by decide) rfl
            exact ih34 v42_2 H locs ls w7 (show 0 ≤ a1.toInt by omega) (show a1.toInt ≤ 9 by omega) (show 0 ≤ v42_2.toInt by omega) (show v42_2.toInt ≤ 1 by omega) (show 0 ≤ (sumG 14 10 w7) by omega) (show (2 * (sumG 14 10 w7) + v42_2.toInt).toNat < n34 by omega) hw hT hF  (lv_sub hl [0, 1, 2] rfl)
          · have c111 : v42_3.toInt < x109.toInt := wk_leF c111
            refine lv_iconst (v := 0) hx hb dX12_spreads_52 (by decide) ?_
            refine lv_istore (lv' := [(4, .int 0), (0, .ref (ad 0)), (1, .int a1), (2, .int v42_2), (3, .int v42_3)]) hx hb dX12_spreads_53 hl (by decide) rfl (fun ls hl => ?_)
            have gb113 : 0 ≤ sumG 14 10 w7 ∧ sumG 14 10 w7 ≤ 1000001000 := hT.sum (lo := 0) (hi := 100000100) kM_at14 rfl (by decide) rfl
            exact L55 ((2 - (0 : Int)).toNat + 1) v42_2 0 x109 H locs ls w7 (show 0 ≤ a1.toInt by omega) (show a1.toInt ≤ 9 by omega) (show 0 ≤ v42_2.toInt by omega) (show v42_2.toInt ≤ 1 by omega) (show 0 ≤ v42_3.toInt by omega) (show v42_3.toInt ≤ 11 by omega) (by decide) (by decide) (show 1 ≤ x109.toInt by omega) (show x109.toInt ≤ 12 by omega) (show (sumG 14 10 w7) + v42_2.toInt ≤ (sumG 14 10 w1) by omega) (Nat.lt_succ_self _) hw hT hF c110 (lv_sub hl [1, 2, 3, 4, 0] rfl)
      refine lv_iload_n hx hb dX12_spreads_34 rfl (lv_at hl 2 rfl) ?_
      refine lv_if_eq (tgt := 148) hx hb dX12_spreads_35 (by decide) (fun c114 => ?_) (fun c114 => ?_)
      · have c114 : v34_2.toInt = (0 : Int) := wk_eq.mp c114
        exact tk_vret hC hr hlocks hK ⟨hT, hF, trivial⟩ hw dX12_spreads_148
      · have c114 : ¬ v34_2.toInt = (0 : Int) := wk_eqF c114
        refine lv_iconst (v := 0) hx hb dX12_spreads_38 (by decide) ?_
        refine lv_istore_n (lv' := [(2, .int 0), (0, .ref (ad 0)), (1, .int a1)]) hx hb dX12_spreads_39 rfl hl (by decide) rfl (fun ls hl => ?_)
        refine lv_iconst (v := 0) hx hb dX12_spreads_40 (by decide) ?_
        refine lv_istore_n (lv' := [(3, .int 0), (2, .int 0), (0, .ref (ad 0)), (1, .int a1)]) hx hb dX12_spreads_41 rfl hl (by decide) rfl (fun ls hl => ?_)
        have gb115 : 0 ≤ sumG 14 10 w1 ∧ sumG 14 10 w1 ≤ 1000001000 := hT.sum (lo := 0) (hi := 100000100) kM_at14 rfl (by decide) rfl
        exact L42 ((12 - (0 : Int)).toNat + 1) 0 0 H locs ls w1 (show 0 ≤ a1.toInt by omega) (show a1.toInt ≤ 9 by omega) (by decide) (by decide) (by decide) (by decide) (show (sumG 14 10 w1) + (0 : Int) ≤ (sumG 14 10 w1) by omega) (Nat.lt_succ_self _) hw hT hF  (lv_sub hl [2, 3, 1, 0] rfl)
  have L2 : ∀ (n2 : Nat) (v2_2 : Int32) (H : Heap) (locs : List Loc) (ls : Array Slot) (w116 : va_W), 0 ≤ a1.toInt → a1.toInt ≤ 9 → 0 ≤ v2_2.toInt → v2_2.toInt ≤ 10 → (10 - v2_2.toInt).toNat < n2 → Wd dC dI A s.heap H locs w116 → TW ksM ad cy B qr 12 w116 → FE ksM [(73, 0, 10)] w0 w116 → lv_has ls 7 [(0, .ref (ad 0)), (1, .int a1), (2, .int v2_2)] → W p l e ({ frames := 2, cells := 0, slots := 0, locals := 34 }) s m (List.toArray [.ref (ad 0), .int a1]) below meth c H locs 0 0 (MQ below (va_Qv (P_X12_spreads_1 ad cy B qr s1 a1 w0) (fun u : va_W => wpost dC dI cy A u) A) (List.toArray [.ref (ad 0), .int a1]) s 0 0 A) (F0 m 2 ls []) := by
    intro n2
    induction n2 with
    | zero => intro v2_2 H locs ls w116 r117 t118 r119 t120 hm2 hw hT hF hl; omega
    | succ n2 ih2 =>
      intro v2_2 H locs ls w116 r117 t118 r119 t120 hm2 hw hT hF hl
      refine lv_iload_n hx hb dX12_spreads_2 rfl (lv_at hl 2 rfl) ?_
      refine lv_bipush (v := 10) hx hb dX12_spreads_3 (by decide) ?_
      refine lv_icmp_ge (tgt := 32) hx hb dX12_spreads_5 (by decide) (fun c121 => ?_) (fun c121 => ?_)
      · have c121 : (10 : Int) ≤ v2_2.toInt := wk_le.mp c121
        refine lv_iconst (v := 1) hx hb dX12_spreads_32 (by decide) ?_
        refine lv_istore_n (lv' := [(2, .int 1), (0, .ref (ad 0)), (1, .int a1)]) hx hb dX12_spreads_33 rfl hl (by decide) rfl (fun ls hl => ?_)
        have gb122 : 0 ≤ sumG 14 10 w116 ∧ sumG 14 10 w116 ≤ 1000001000 := hT.sum (lo := 0) (hi := 100000100) kM_at14 rfl (by decide) rfl
        exact L34 ((2 * (sumG 14 10 w116) + (1 : Int)).toNat + 1) 1 H locs ls w116 (show 0 ≤ a1.toInt by omega) (show a1.toInt ≤ 9 by omega) (by decide) (by decide) (show 0 ≤ (sumG 14 10 w116) by omega) (Nat.lt_succ_self _) hw hT hF  (lv_sub hl [1, 2, 0] rfl)
      · have c121 : v2_2.toInt < (10 : Int) := wk_leF c121
        refine lv_aload_n hx hb dX12_spreads_8 rfl (lv_at hl 0 rfl) ?_
        refine tk_getA hC hK hw hT hinX12 kM_at0 (by decide) rfl 29 (by decide) (List.mem_of_getElem? (i := 1) rfl) rfl rfl dX12_spreads_9 ?_
        refine lv_iload_n hx hb dX12_spreads_12 rfl (lv_at hl 2 rfl) ?_
        refine lv_iload_n hx hb dX12_spreads_13 rfl (lv_at hl 2 rfl) ?_
        refine lv_iload_n hx hb dX12_spreads_14 rfl (lv_at hl 1 rfl) ?_
        refine lv_icmp_ne (tgt := 22) hx hb dX12_spreads_15 (by decide) (fun c123 => ?_) (fun c123 => ?_)
        · have c123 : ¬ v2_2.toInt = a1.toInt := wk_eqF c123
          refine lv_ldcw (v := 100000000) hx hb hC.2.2.2.1 (hC.2.2.2.2 _ (List.mem_of_getElem? (i := 2) rfl)) dX12_spreads_22 ?_
          refine tk_iast hC hK hw hT kM_at14 (by decide) rfl rfl (show 0 ≤ v2_2.toInt by omega) (show v2_2.toInt < 10 by omega) (by decide) (by decide) dX12_spreads_25 (fun H locs w124 hw hT k126 c125 => ?_)
          have gs127 : sumG 14 10 w124 = sumG 14 10 w116 - (gi w116 14 (v2_2.toInt.toNat)).toInt + (gi w124 14 (v2_2.toInt.toNat)).toInt := sumG_up (i := v2_2.toInt.toNat) k126 10 (show v2_2.toInt.toNat < 10 by omega)
          rw [show gi w124 14 (v2_2.toInt.toNat) = 100000000 from c125] at gs127
          rw [show (100000000 : Int32).toInt = 100000000 by decide] at gs127
          have hF := hF.put kM_at14 (inE_of (a := 0) (b := 10) (by decide) (show 0 ≤ v2_2.toInt.toNat by omega) (show v2_2.toInt.toNat ≤ 10 by omega)) k126
          obtain ⟨x128, ex128⟩ : ∃ y : Int32, y = v2_2 + Int32.ofInt 1 := ⟨_, rfl⟩
          refine lv_iinc (v := x128) (lv' := [(2, .int x128), (0, .ref (ad 0)), (1, .int a1)]) hx hb dX12_spreads_26 hl (k := 2) rfl ex128.symm (by decide) rfl (fun ls hl => ?_)
          have ex128 : x128.toInt = v2_2.toInt + 1 := by rw [ex128]; exact wk_add (y := 1) (show -2147483648 ≤ v2_2.toInt + 1 by omega) (show v2_2.toInt + 1 ≤ 2147483647 by omega)
          refine lv_goto (tgt := 2) hx hb dX12_spreads_29 (by decide) ?_
          exact ih2 x128 H locs ls w124 (show 0 ≤ a1.toInt by omega) (show a1.toInt ≤ 9 by omega) (show 0 ≤ x128.toInt by omega) (show x128.toInt ≤ 10 by omega) (show (10 - x128.toInt).toNat < n2 by omega) hw hT hF  (lv_sub hl [1, 2, 0] rfl)
        · have c123 : v2_2.toInt = a1.toInt := wk_eq.mp c123
          refine lv_iconst (v := 0) hx hb dX12_spreads_18 (by decide) ?_
          refine lv_goto (tgt := 25) hx hb dX12_spreads_19 (by decide) ?_
          refine tk_iast hC hK hw hT kM_at14 (by decide) rfl rfl (show 0 ≤ v2_2.toInt by omega) (show v2_2.toInt < 10 by omega) (by decide) (by decide) dX12_spreads_25 (fun H locs w129 hw hT k131 c130 => ?_)
          have gs132 : sumG 14 10 w129 = sumG 14 10 w116 - (gi w116 14 (v2_2.toInt.toNat)).toInt + (gi w129 14 (v2_2.toInt.toNat)).toInt := sumG_up (i := v2_2.toInt.toNat) k131 10 (show v2_2.toInt.toNat < 10 by omega)
          rw [show gi w129 14 (v2_2.toInt.toNat) = 0 from c130] at gs132
          rw [show (0 : Int32).toInt = 0 by decide] at gs132
          have hF := hF.put kM_at14 (inE_of (a := 0) (b := 10) (by decide) (show 0 ≤ v2_2.toInt.toNat by omega) (show v2_2.toInt.toNat ≤ 10 by omega)) k131
          obtain ⟨x133, ex133⟩ : ∃ y : Int32, y = v2_2 + Int32.ofInt 1 := ⟨_, rfl⟩
          refine lv_iinc (v := x133) (lv' := [(2, .int x133), (0, .ref (ad 0)), (1, .int a1)]) hx hb dX12_spreads_26 hl (k := 2) rfl ex133.symm (by decide) rfl (fun ls hl => ?_)
          have ex133 : x133.toInt = v2_2.toInt + 1 := by rw [ex133]; exact wk_add (y := 1) (show -2147483648 ≤ v2_2.toInt + 1 by omega) (show v2_2.toInt + 1 ≤ 2147483647 by omega)
          refine lv_goto (tgt := 2) hx hb dX12_spreads_29 (by decide) ?_
          exact ih2 x133 H locs ls w129 (show 0 ≤ a1.toInt by omega) (show a1.toInt ≤ 9 by omega) (show 0 ≤ x133.toInt by omega) (show x133.toInt ≤ 10 by omega) (show (10 - x133.toInt).toNat < n2 by omega) hw hT hF  (lv_sub hl [1, 2, 0] rfl)
  refine lv_iconst (v := 0) hx hb dX12_spreads_0 (by decide) ?_
  refine lv_istore_n (lv' := [(2, .int 0), (0, .ref (ad 0)), (1, .int a1)]) hx hb dX12_spreads_1 rfl hl (by decide) rfl (fun ls hl => ?_)
  exact L2 ((10 - (0 : Int)).toNat + 1) 0 s.heap locs ls w0 (show 0 ≤ a1.toInt by omega) (show a1.toInt ≤ 9 by omega) (by decide) (by decide) (Nat.lt_succ_self _) hw hT hF  (lv_sub hl [1, 2, 0] rfl)
abbrev P_X12_isOf_4 (ad : Nat → Nat) (cy : Nat → ClassId) (B : Int) (qr : Nat) (s1 : Int) (a0 : Int32) (w0 : va_W) : Int32 → va_W → Prop := fun r u => TW ksM ad cy B qr 12 u ∧ FE ksM ([] : List (Nat × Nat × Nat)) w0 u ∧ ((r = 0) ∨ (r = 1))
set_option maxHeartbeats 4000000 in
set_option maxRecDepth 100000 in
theorem k_X12_isOf_4 (l : Launch) (adK adV : Nat → Nat) (dC : Nat → ClassId) (dI : Nat → Nat → Nat) (cy : Nat → ClassId) (ad : Nat → Nat) (B : Int) (hB0 : 100000 ≤ B) (hB1 : B ≤ 1073741824) (qr : Nat) (s1 : Int)  (a0 : Int32) (w0 : va_W) (sz : Nat) (hT : TW ksM ad cy B qr 12 w0)  : Met l yX12_isOf wsX12_isOf ({ frames := 1, cells := 0, slots := 0, locals := 12 }) (va_Pc [.int a0, .int 1] (wpreS adK adV dC dI cy sz w0)) (va_Qi (P_X12_isOf_4 ad cy B qr s1 a0 w0) (fun u : va_W => wpost dC dI cy (va_A w0 sz) u) (va_A w0 sz)) 0 0 (va_A w0 sz) := by
  refine Met.ofW (cc := cX12_isOf) (maxL := 2) (ret := (some .boolean)) (by decide) rfl ?_
  intro p e s m args below meth c s₁ Bk hml hv
  obtain ⟨rfl, ⟨hsz, hP, hK, hD0⟩, hE, hSR⟩ := hv
  have hx := Bk.exec
  have hb := Bk.bytes
  have hr := Bk.returns
  have hlocks := Bk.notSynchronized
  have hC : CallFix p m c cX12_isOf 2 s _ wsX12_isOf RX12 := ⟨hx, hb, hml, findClass_of_methodNamed Bk.named, atoms_spec (ws := wsX12_isOf) Bk.pre⟩
  subst hsz
  have hD := hD0.self (sz := s.heap.size)
  generalize hAe : va_A w0 s.heap.size = A at hD hE ⊢
  have hA : ∀ q : Nat, s.heap.size ≤ q → A q := fun q h => by rw [← hAe]; exact Or.inr h
  have hw : Wd dC dI A s.heap s.heap [] w0 := ⟨hP, hD, va_S.rf⟩
  have hF : FE ksM ([] : List (Nat × Nat × Nat)) w0 w0 := FE.rf
  have hl := lv_entry ([.int a0, .int 1]) (n := 2) (Nat.le_of_ble_eq_true rfl)
  rw [lg_entry_eq]
  generalize (lg_sl ([.int a0, .int 1]) ++ List.replicate (2 - (lg_sl ([.int a0, .int 1])).length) Slot.unset).toArray = ls at hl ⊢
  have hl : lv_has ls 2 [(0, .int a0), (1, .int 1)] := hl
  generalize hloc : ([] : List Loc) = locs at hw ⊢
  refine lv_iload_n hx hb dX12_isOf_0 rfl (lv_at hl 0 rfl) ?_
  refine lv_iload_n hx hb dX12_isOf_1 rfl (lv_at hl 1 rfl) ?_
  refine lv_ishr hx hb dX12_isOf_2 ?_
  refine lv_topi (fun x1 ex1 => ?_)
  refine lv_iconst (v := 1) hx hb dX12_isOf_3 (by decide) ?_
  refine lv_iand hx hb dX12_isOf_4 ?_
  refine lv_topi (fun x2 ex2 => ?_)
  have bx2 : 0 ≤ x2.toInt ∧ x2.toInt ≤ (1 : Int) := by rw [ex2]; exact wk_and (by decide)
  refine lv_iconst (v := 1) hx hb dX12_isOf_5 (by decide) ?_
  refine lv_icmp_ne (tgt := 13) hx hb dX12_isOf_6 (by decide) (fun c3 => ?_) (fun c3 => ?_)
  · have c3 : ¬ x2.toInt = (1 : Int) := wk_eqF c3
    refine lv_iconst (v := 0) hx hb dX12_isOf_13 (by decide) ?_
    exact tk_zret hC hr rfl hlocks hK ⟨hT, hF, (Or.inl rfl)⟩ hw dX12_isOf_14
  · have c3 : x2.toInt = (1 : Int) := wk_eq.mp c3
    refine lv_iconst (v := 1) hx hb dX12_isOf_9 (by decide) ?_
    refine lv_goto (tgt := 14) hx hb dX12_isOf_10 (by decide) ?_
    exact tk_zret hC hr rfl hlocks hK ⟨hT, hF, (Or.inr rfl)⟩ hw dX12_isOf_14
abbrev P_X12_isOf_5 (ad : Nat → Nat) (cy : Nat → ClassId) (B : Int) (qr : Nat) (s1 : Int) (a0 : Int32) (w0 : va_W) : Int32 → va_W → Prop := fun r u => TW ksM ad cy B qr 12 u ∧ FE ksM ([] : List (Nat × Nat × Nat)) w0 u ∧ ((r = 0) ∨ (r = 1))
set_option maxHeartbeats 4000000 in
set_option maxRecDepth 100000 in
theorem k_X12_isOf_5 (l : Launch) (adK adV : Nat → Nat) (dC : Nat → ClassId) (dI : Nat → Nat → Nat) (cy : Nat → ClassId) (ad : Nat → Nat) (B : Int) (hB0 : 100000 ≤ B) (hB1 : B ≤ 1073741824) (qr : Nat) (s1 : Int)  (a0 : Int32) (w0 : va_W) (sz : Nat) (hT : TW ksM ad cy B qr 12 w0)  : Met l yX12_isOf wsX12_isOf ({ frames := 1, cells := 0, slots := 0, locals := 12 }) (va_Pc [.int a0, .int 0] (wpreS adK adV dC dI cy sz w0)) (va_Qi (P_X12_isOf_5 ad cy B qr s1 a0 w0) (fun u : va_W => wpost dC dI cy (va_A w0 sz) u) (va_A w0 sz)) 0 0 (va_A w0 sz) := by
  refine Met.ofW (cc := cX12_isOf) (maxL := 2) (ret := (some .boolean)) (by decide) rfl ?_
  intro p e s m args below meth c s₁ Bk hml hv
  obtain ⟨rfl, ⟨hsz, hP, hK, hD0⟩, hE, hSR⟩ := hv
  have hx := Bk.exec
  have hb := Bk.bytes
  have hr := Bk.returns
  have hlocks := Bk.notSynchronized
  have hC : CallFix p m c cX12_isOf 2 s _ wsX12_isOf RX12 := ⟨hx, hb, hml, findClass_of_methodNamed Bk.named, atoms_spec (ws := wsX12_isOf) Bk.pre⟩
  subst hsz
  have hD := hD0.self (sz := s.heap.size)
  generalize hAe : va_A w0 s.heap.size = A at hD hE ⊢
  have hA : ∀ q : Nat, s.heap.size ≤ q → A q := fun q h => by rw [← hAe]; exact Or.inr h
  have hw : Wd dC dI A s.heap s.heap [] w0 := ⟨hP, hD, va_S.rf⟩
  have hF : FE ksM ([] : List (Nat × Nat × Nat)) w0 w0 := FE.rf
  have hl := lv_entry ([.int a0, .int 0]) (n := 2) (Nat.le_of_ble_eq_true rfl)
  rw [lg_entry_eq]
  generalize (lg_sl ([.int a0, .int 0]) ++ List.replicate (2 - (lg_sl ([.int a0, .int 0])).length) Slot.unset).toArray = ls at hl ⊢
  have hl : lv_has ls 2 [(0, .int a0), (1, .int 0)] := hl
  generalize hloc : ([] : List Loc) = locs at hw ⊢
  refine lv_iload_n hx hb dX12_isOf_0 rfl (lv_at hl 0 rfl) ?_
  refine lv_iload_n hx hb dX12_isOf_1 rfl (lv_at hl 1 rfl) ?_
  refine lv_ishr hx hb dX12_isOf_2 ?_
  refine lv_topi (fun x1 ex1 => ?_)
  refine lv_iconst (v := 1) hx hb dX12_isOf_3 (by decide) ?_
  refine lv_iand hx hb dX12_isOf_4 ?_
  refine lv_topi (fun x2 ex2 => ?_)
  have bx2 : 0 ≤ x2.toInt ∧ x2.toInt ≤ (1 : Int) := by rw [ex2]; exact wk_and (by decide)
  refine lv_iconst (v := 1) hx hb dX12_isOf_5 (by decide) ?_
  refine lv_icmp_ne (tgt := 13) hx hb dX12_isOf_6 (by decide) (fun c3 => ?_) (fun c3 => ?_)
  · have c3 : ¬ x2.toInt = (1 : Int) := wk_eqF c3
    refine lv_iconst (v := 0) hx hb dX12_isOf_13 (by decide) ?_
    exact tk_zret hC hr rfl hlocks hK ⟨hT, hF, (Or.inl rfl)⟩ hw dX12_isOf_14
  · have c3 : x2.toInt = (1 : Int) := wk_eq.mp c3
    refine lv_iconst (v := 1) hx hb dX12_isOf_9 (by decide) ?_
    refine lv_goto (tgt := 14) hx hb dX12_isOf_10 (by decide) ?_
    exact tk_zret hC hr rfl hlocks hK ⟨hT, hF, (Or.inr rfl)⟩ hw dX12_isOf_14
abbrev P_X12_hasSign_2 (ad : Nat → Nat) (cy : Nat → ClassId) (B : Int) (qr : Nat) (s1 : Int) (a1 : Int32) (a2 : Int32) (a3 : Int32) (w0 : va_W) : Int32 → va_W → Prop := fun r u => TW ksM ad cy B qr 12 u ∧ FE ksM ([] : List (Nat × Nat × Nat)) w0 u ∧ ((r = 0) ∨ (r = 0 ∧ gi u 12 (10 * a2.toInt + 10).toNat = a3) ∨ (r = 1) ∨ (r = 1 ∧ gi u 12 (10 * a2.toInt + 10).toNat = a3))
set_option maxHeartbeats 4000000 in
set_option maxRecDepth 100000 in
theorem k_X12_hasSign_2 (l : Launch) (adK adV : Nat → Nat) (dC : Nat → ClassId) (dI : Nat → Nat → Nat) (cy : Nat → ClassId) (ad : Nat → Nat) (B : Int) (hB0 : 100000 ≤ B) (hB1 : B ≤ 1073741824) (qr : Nat) (s1 : Int)  (a1 : Int32) (a2 : Int32) (ra2 : 0 ≤ a2.toInt) (ta2 : a2.toInt ≤ 11) (a3 : Int32) (ra3 : 0 ≤ a3.toInt) (ta3 : a3.toInt ≤ 9) (w0 : va_W) (sz : Nat) (hT : TW ksM ad cy B qr 12 w0)  : Met l yX12_hasSign wsX12_hasSign ({ frames := 2, cells := 0, slots := 0, locals := 34 }) (va_Pc [.ref (ad 0), .int a1, .int a2, .int a3] (wpreS adK adV dC dI cy sz w0)) (va_Qi (P_X12_hasSign_2 ad cy B qr s1 a1 a2 a3 w0) (fun u : va_W => wpost dC dI cy (va_A w0 sz) u) (va_A w0 sz)) 0 0 (va_A w0 sz) := by
  refine Met.ofW (cc := cX12_hasSign) (maxL := 4) (ret := (some .boolean)) (by decide) rfl ?_
  intro p e s m args below meth c s₁ Bk hml hv
  obtain ⟨rfl, ⟨hsz, hP, hK, hD0⟩, hE, hSR⟩ := hv
  have hx := Bk.exec
  have hb := Bk.bytes
  have hr := Bk.returns
  have hlocks := Bk.notSynchronized
  have hC : CallFix p m c cX12_hasSign 4 s _ wsX12_hasSign RX12 := ⟨hx, hb, hml, findClass_of_methodNamed Bk.named, atoms_spec (ws := wsX12_hasSign) Bk.pre⟩
  subst hsz
  have hD := hD0.self (sz := s.heap.size)
  generalize hAe : va_A w0 s.heap.size = A at hD hE ⊢
  have hA : ∀ q : Nat, s.heap.size ≤ q → A q := fun q h => by rw [← hAe]; exact Or.inr h
  have hw : Wd dC dI A s.heap s.heap [] w0 := ⟨hP, hD, va_S.rf⟩
  have hF : FE ksM ([] : List (Nat × Nat × Nat)) w0 w0 := FE.rf
  have hl := lv_entry ([.ref (ad 0), .int a1, .int a2, .int a3]) (n := 4) (Nat.le_of_ble_eq_true rfl)
  rw [lg_entry_eq]
  generalize (lg_sl ([.ref (ad 0), .int a1, .int a2, .int a3]) ++ List.replicate (4 - (lg_sl ([.ref (ad 0), .int a1, .int a2, .int a3])).length) Slot.unset).toArray = ls at hl ⊢
  have hl : lv_has ls 4 [(0, .ref (ad 0)), (1, .int a1), (2, .int a2), (3, .int a3)] := hl
  generalize hloc : ([] : List Loc) = locs at hw ⊢
  refine lv_iload_n hx hb dX12_hasSign_0 rfl (lv_at hl 1 rfl) ?_
  refine lv_aload_n hx hb dX12_hasSign_1 rfl (lv_at hl 0 rfl) ?_
  refine lv_iload_n hx hb dX12_hasSign_2 rfl (lv_at hl 2 rfl) ?_
  refine lv_iconst (v := 0) hx hb dX12_hasSign_3 (by decide) ?_
  refine tk_Vi hC hK hw hT hA hE hSR kM_at0 (by decide) rfl (k_X12_streetOf_2 l adK adV dC dI cy ad B (by omega) (by omega) qr s1   a2 (show 0 ≤ a2.toInt by omega) (show a2.toInt ≤ 11 by omega) w0 s.heap.size hT ) (cwV 2 hC.2.2.2.2 gX12_hasSign_X12_streetOf rfl rfl rfl (by decide +kernel) ⟨Nat.le_of_ble_eq_true rfl, Nat.le_of_ble_eq_true rfl⟩) rfl hl.1 rfl (Nat.le_of_ble_eq_true rfl) dX12_hasSign_4 (fun r1 w3 H locs hp2 hw => ?_)
  obtain ⟨hT, k4, hg8⟩ := hp2
  have hF := hF.tr k4 (by decide)
  obtain ⟨g5, g6, c7⟩ := hg8
  refine lv_iload_n hx hb dX12_hasSign_7 rfl (lv_at hl 3 rfl) ?_
  refine lv_icmp_ne (tgt := 15) hx hb dX12_hasSign_8 (by decide) (fun c9 => ?_) (fun c9 => ?_)
  · have c9 : ¬ r1.toInt = a3.toInt := wk_eqF c9
    refine lv_iconst (v := 1) hx hb dX12_hasSign_15 (by decide) ?_
    refine tk_Si hC hK hw hT hA hE hSR (k_X12_isOf_4 l adK adV dC dI cy ad B (by omega) (by omega) qr s1   a1 w3 H.size hT ) (va_cwS 2 hC.2.2.2.2 gX12_hasSign_X12_isOf rfl rfl rfl (by decide +kernel) ⟨Nat.le_of_ble_eq_true rfl, Nat.le_of_ble_eq_true rfl⟩) rfl hl.1 rfl (Nat.le_of_ble_eq_true rfl) dX12_hasSign_16 (fun r10 w12 H locs hp11 hw => ?_)
    obtain ⟨hT, k13, hg14⟩ := hp11
    have hF := hF.tr k13 (by decide)
    have c15 := k13.gi kM_at12 rfl c7
    rcases hg14 with rfl | rfl
    · exact tk_zret hC hr rfl hlocks hK ⟨hT, hF, (Or.inl rfl)⟩ hw dX12_hasSign_19
    · exact tk_zret hC hr rfl hlocks hK ⟨hT, hF, (Or.inr (Or.inr (Or.inl rfl)))⟩ hw dX12_hasSign_19
  · have c9 : r1.toInt = a3.toInt := wk_eq.mp c9
    refine lv_iconst (v := 0) hx hb dX12_hasSign_11 (by decide) ?_
    refine lv_goto (tgt := 16) hx hb dX12_hasSign_12 (by decide) ?_
    refine tk_Si hC hK hw hT hA hE hSR (k_X12_isOf_5 l adK adV dC dI cy ad B (by omega) (by omega) qr s1   a1 w3 H.size hT ) (va_cwS 2 hC.2.2.2.2 gX12_hasSign_X12_isOf rfl rfl rfl (by decide +kernel) ⟨Nat.le_of_ble_eq_true rfl, Nat.le_of_ble_eq_true rfl⟩) rfl hl.1 rfl (Nat.le_of_ble_eq_true rfl) dX12_hasSign_16 (fun r16 w18 H locs hp17 hw => ?_)
    obtain ⟨hT, k19, hg20⟩ := hp17
    have hF := hF.tr k19 (by decide)
    have c21 := k19.gi kM_at12 rfl c7
    rcases hg20 with rfl | rfl
    · exact tk_zret hC hr rfl hlocks hK ⟨hT, hF, (Or.inr (Or.inl ⟨rfl, (c21.trans (wk_eq.mpr (show r1.toInt = a3.toInt by omega)))⟩))⟩ hw dX12_hasSign_19
    · exact tk_zret hC hr rfl hlocks hK ⟨hT, hF, (Or.inr (Or.inr (Or.inr ⟨rfl, (c21.trans (wk_eq.mpr (show r1.toInt = a3.toInt by omega)))⟩)))⟩ hw dX12_hasSign_19
abbrev P_X12_otherOf_1 (ad : Nat → Nat) (cy : Nat → ClassId) (B : Int) (qr : Nat) (s1 : Int) (a1 : Int32) (a2 : Int32) (w0 : va_W) : Int32 → va_W → Prop := fun r u => TW ksM ad cy B qr 12 u ∧ FE ksM ([] : List (Nat × Nat × Nat)) w0 u ∧ ((0 ≤ r.toInt ∧ r.toInt ≤ 9) ∨ (0 ≤ r.toInt ∧ r.toInt ≤ 9 ∧ gi u 12 (10 * a1.toInt + 10).toNat = a2))
set_option maxHeartbeats 4000000 in
set_option maxRecDepth 100000 in
theorem k_X12_otherOf_1 (l : Launch) (adK adV : Nat → Nat) (dC : Nat → ClassId) (dI : Nat → Nat → Nat) (cy : Nat → ClassId) (ad : Nat → Nat) (B : Int) (hB0 : 100000 ≤ B) (hB1 : B ≤ 1073741824) (qr : Nat) (s1 : Int)  (a1 : Int32) (ra1 : 0 ≤ a1.toInt) (ta1 : a1.toInt ≤ 11) (a2 : Int32) (ra2 : 0 ≤ a2.toInt) (ta2 : a2.toInt ≤ 9) (w0 : va_W) (sz : Nat) (hT : TW ksM ad cy B qr 12 w0)  : Met l yX12_otherOf wsX12_otherOf ({ frames := 2, cells := 0, slots := 0, locals := 34 }) (va_Pc [.ref (ad 0), .int a1, .int a2] (wpreS adK adV dC dI cy sz w0)) (va_Qi (P_X12_otherOf_1 ad cy B qr s1 a1 a2 w0) (fun u : va_W => wpost dC dI cy (va_A w0 sz) u) (va_A w0 sz)) 0 0 (va_A w0 sz) := by
  refine Met.ofW (cc := cX12_otherOf) (maxL := 3) (ret := (some .int)) (by decide) rfl ?_
  intro p e s m args below meth c s₁ Bk hml hv
  obtain ⟨rfl, ⟨hsz, hP, hK, hD0⟩, hE, hSR⟩ := hv
  have hx := Bk.exec
  have hb := Bk.bytes
  have hr := Bk.returns
  have hlocks := Bk.notSynchronized
  have hC : CallFix p m c cX12_otherOf 3 s _ wsX12_otherOf RX12 := ⟨hx, hb, hml, findClass_of_methodNamed Bk.named, atoms_spec (ws := wsX12_otherOf) Bk.pre⟩
  subst hsz
  have hD := hD0.self (sz := s.heap.size)
  generalize hAe : va_A w0 s.heap.size = A at hD hE ⊢
  have hA : ∀ q : Nat, s.heap.size ≤ q → A q := fun q h => by rw [← hAe]; exact Or.inr h
  have hw : Wd dC dI A s.heap s.heap [] w0 := ⟨hP, hD, va_S.rf⟩
  have hF : FE ksM ([] : List (Nat × Nat × Nat)) w0 w0 := FE.rf
  have hl := lv_entry ([.ref (ad 0), .int a1, .int a2]) (n := 3) (Nat.le_of_ble_eq_true rfl)
  rw [lg_entry_eq]
  generalize (lg_sl ([.ref (ad 0), .int a1, .int a2]) ++ List.replicate (3 - (lg_sl ([.ref (ad 0), .int a1, .int a2])).length) Slot.unset).toArray = ls at hl ⊢
  have hl : lv_has ls 3 [(0, .ref (ad 0)), (1, .int a1), (2, .int a2)] := hl
  generalize hloc : ([] : List Loc) = locs at hw ⊢
  refine lv_aload_n hx hb dX12_otherOf_0 rfl (lv_at hl 0 rfl) ?_
  refine lv_iload_n hx hb dX12_otherOf_1 rfl (lv_at hl 1 rfl) ?_
  refine lv_iconst (v := 0) hx hb dX12_otherOf_2 (by decide) ?_
  refine tk_Vi hC hK hw hT hA hE hSR kM_at0 (by decide) rfl (k_X12_streetOf_2 l adK adV dC dI cy ad B (by omega) (by omega) qr s1   a1 (show 0 ≤ a1.toInt by omega) (show a1.toInt ≤ 11 by omega) w0 s.heap.size hT ) (cwV 2 hC.2.2.2.2 gX12_otherOf_X12_streetOf rfl rfl rfl (by decide +kernel) ⟨Nat.le_of_ble_eq_true rfl, Nat.le_of_ble_eq_true rfl⟩) rfl hl.1 rfl (Nat.le_of_ble_eq_true rfl) dX12_otherOf_3 (fun r1 w3 H locs hp2 hw => ?_)
  obtain ⟨hT, k4, hg8⟩ := hp2
  have hF := hF.tr k4 (by decide)
  obtain ⟨g5, g6, c7⟩ := hg8
  refine lv_iload_n hx hb dX12_otherOf_6 rfl (lv_at hl 2 rfl) ?_
  refine lv_icmp_ne (tgt := 19) hx hb dX12_otherOf_7 (by decide) (fun c9 => ?_) (fun c9 => ?_)
  · have c9 : ¬ r1.toInt = a2.toInt := wk_eqF c9
    refine lv_aload_n hx hb dX12_otherOf_19 rfl (lv_at hl 0 rfl) ?_
    refine lv_iload_n hx hb dX12_otherOf_20 rfl (lv_at hl 1 rfl) ?_
    refine lv_iconst (v := 0) hx hb dX12_otherOf_21 (by decide) ?_
    refine tk_Vi hC hK hw hT hA hE hSR kM_at0 (by decide) rfl (k_X12_streetOf_2 l adK adV dC dI cy ad B (by omega) (by omega) qr s1   a1 (show 0 ≤ a1.toInt by omega) (show a1.toInt ≤ 11 by omega) w3 H.size hT ) (cwV 2 hC.2.2.2.2 gX12_otherOf_X12_streetOf rfl rfl rfl (by decide +kernel) ⟨Nat.le_of_ble_eq_true rfl, Nat.le_of_ble_eq_true rfl⟩) rfl hl.1 rfl (Nat.le_of_ble_eq_true rfl) dX12_otherOf_22 (fun r10 w12 H locs hp11 hw => ?_)
    obtain ⟨hT, k13, hg17⟩ := hp11
    have hF := hF.tr k13 (by decide)
    have c18 := k13.gi kM_at12 rfl c7
    obtain ⟨g14, g15, c16⟩ := hg17
    obtain rfl : r10 = r1 := c16.symm.trans c18
    exact tk_iret hC hr hlocks hK ⟨hT, hF, (Or.inl ⟨(show 0 ≤ r1.toInt by omega), (show r1.toInt ≤ 9 by omega)⟩)⟩ hw dX12_otherOf_25
  · have c9 : r1.toInt = a2.toInt := wk_eq.mp c9
    refine lv_aload_n hx hb dX12_otherOf_10 rfl (lv_at hl 0 rfl) ?_
    refine lv_iload_n hx hb dX12_otherOf_11 rfl (lv_at hl 1 rfl) ?_
    refine lv_iconst (v := 1) hx hb dX12_otherOf_12 (by decide) ?_
    refine tk_Vi hC hK hw hT hA hE hSR kM_at0 (by decide) rfl (k_X12_streetOf_3 l adK adV dC dI cy ad B (by omega) (by omega) qr s1   a1 (show 0 ≤ a1.toInt by omega) (show a1.toInt ≤ 11 by omega) w3 H.size hT ) (cwV 2 hC.2.2.2.2 gX12_otherOf_X12_streetOf rfl rfl rfl (by decide +kernel) ⟨Nat.le_of_ble_eq_true rfl, Nat.le_of_ble_eq_true rfl⟩) rfl hl.1 rfl (Nat.le_of_ble_eq_true rfl) dX12_otherOf_13 (fun r19 w21 H locs hp20 hw => ?_)
    obtain ⟨hT, k22, hg26⟩ := hp20
    have hF := hF.tr k22 (by decide)
    have c27 := k22.gi kM_at12 rfl c7
    obtain ⟨g23, g24, c25⟩ := hg26
    refine lv_goto (tgt := 25) hx hb dX12_otherOf_16 (by decide) ?_
    exact tk_iret hC hr hlocks hK ⟨hT, hF, (Or.inr ⟨(show 0 ≤ r19.toInt by omega), (show r19.toInt ≤ 9 by omega), (c27.trans (wk_eq.mpr (show r1.toInt = a2.toInt by omega)))⟩)⟩ hw dX12_otherOf_25
abbrev P_X12_streetFrom_1 (ad : Nat → Nat) (cy : Nat → ClassId) (B : Int) (qr : Nat) (s1 : Int) (a1 : Int32) (w0 : va_W) : Int32 → va_W → Prop := fun r u => TW ksM ad cy B qr 12 u ∧ FE ksM ([] : List (Nat × Nat × Nat)) w0 u ∧ ((0 ≤ r.toInt ∧ r.toInt ≤ 11 ∧ (∃ y : Int32, gi u 12 1 = y ∧ 1 ≤ y.toInt ∧ y.toInt ≤ 12)) ∨ (0 ≤ r.toInt ∧ r.toInt ≤ 11 ∧ (∃ y : Int32, gi u 12 1 = y ∧ 1 ≤ y.toInt ∧ y.toInt ≤ 12) ∧ gi u 12 (10 * r.toInt + 10).toNat = a1) ∨ (r = (-1)))
set_option maxHeartbeats 4000000 in
set_option maxRecDepth 100000 in
theorem k_X12_streetFrom_1 (l : Launch) (adK adV : Nat → Nat) (dC : Nat → ClassId) (dI : Nat → Nat → Nat) (cy : Nat → ClassId) (ad : Nat → Nat) (B : Int) (hB0 : 100000 ≤ B) (hB1 : B ≤ 1073741824) (qr : Nat) (s1 : Int)  (a1 : Int32) (ra1 : 0 ≤ a1.toInt) (ta1 : a1.toInt ≤ 9) (w0 : va_W) (sz : Nat) (hT : TW ksM ad cy B qr 12 w0)  : Met l yX12_streetFrom wsX12_streetFrom ({ frames := 3, cells := 0, slots := 0, locals := 57 }) (va_Pc [.ref (ad 0), .int a1] (wpreS adK adV dC dI cy sz w0)) (va_Qi (P_X12_streetFrom_1 ad cy B qr s1 a1 w0) (fun u : va_W => wpost dC dI cy (va_A w0 sz) u) (va_A w0 sz)) 0 0 (va_A w0 sz) := by
  refine Met.ofW (cc := cX12_streetFrom) (maxL := 3) (ret := (some .int)) (by decide) rfl ?_
  intro p e s m args below meth c s₁ Bk hml hv
  obtain ⟨rfl, ⟨hsz, hP, hK, hD0⟩, hE, hSR⟩ := hv
  have hx := Bk.exec
  have hb := Bk.bytes
  have hr := Bk.returns
  have hlocks := Bk.notSynchronized
  have hC : CallFix p m c cX12_streetFrom 3 s _ wsX12_streetFrom RX12 := ⟨hx, hb, hml, findClass_of_methodNamed Bk.named, atoms_spec (ws := wsX12_streetFrom) Bk.pre⟩
  subst hsz
  have hD := hD0.self (sz := s.heap.size)
  generalize hAe : va_A w0 s.heap.size = A at hD hE ⊢
  have hA : ∀ q : Nat, s.heap.size ≤ q → A q := fun q h => by rw [← hAe]; exact Or.inr h
  have hw : Wd dC dI A s.heap s.heap [] w0 := ⟨hP, hD, va_S.rf⟩
  have hF : FE ksM ([] : List (Nat × Nat × Nat)) w0 w0 := FE.rf
  have hl := lv_entry ([.ref (ad 0), .int a1]) (n := 3) (Nat.le_of_ble_eq_true rfl)
  rw [lg_entry_eq]
  generalize (lg_sl ([.ref (ad 0), .int a1]) ++ List.replicate (3 - (lg_sl ([.ref (ad 0), .int a1])).length) Slot.unset).toArray = ls at hl ⊢
  have hl : lv_has ls 3 [(0, .ref (ad 0)), (1, .int a1)] := hl
  generalize hloc : ([] : List Loc) = locs at hw ⊢
  have hinX12 : ∀ w ∈ u_ws RX12 TX12 42, w ∈ wsX12_streetFrom := fun _ h => List.mem_cons_of_mem _ (List.mem_append_right _ (h))
  have J21 : ∀ (f21_14__a1_toInt_toNat : Int32) (H : Heap) (locs : List Loc) (ls : Array Slot) (w1 : va_W), 0 ≤ a1.toInt → a1.toInt ≤ 9 → 0 ≤ f21_14__a1_toInt_toNat.toInt → f21_14__a1_toInt_toNat.toInt ≤ 100000000 → Wd dC dI A s.heap H locs w1 → TW ksM ad cy B qr 12 w1 → FE ksM ([] : List (Nat × Nat × Nat)) w0 w1 → gi w1 14 (a1.toInt).toNat = f21_14__a1_toInt_toNat → lv_has ls 3 [(0, .ref (ad 0)), (1, .int a1)] → W p l e ({ frames := 3, cells := 0, slots := 0, locals := 57 }) s m (List.toArray [.ref (ad 0), .int a1]) below meth c H locs 0 0 (MQ below (va_Qi (P_X12_streetFrom_1 ad cy B qr s1 a1 w0) (fun u : va_W => wpost dC dI cy A u) A) (List.toArray [.ref (ad 0), .int a1]) s 0 0 A) (F0 m 21 ls []) := by
    intro f21_14__a1_toInt_toNat H locs ls w1 r2 t3 r4 t5 hw hT hF c6 hl
    refine lv_iconst (v := (-1)) hx hb dX12_streetFrom_21 (by decide) ?_
    exact tk_iret hC hr hlocks hK ⟨hT, hF, (Or.inr (Or.inr rfl))⟩ hw dX12_streetFrom_22
  have L25 : ∀ (n25 : Nat) (v25_2 : Int32) (f25_14__a1_toInt_toNat : Int32) (H : Heap) (locs : List Loc) (ls : Array Slot) (w7 : va_W), 0 ≤ a1.toInt → a1.toInt ≤ 9 → 0 ≤ v25_2.toInt → v25_2.toInt ≤ 12 → 1 ≤ f25_14__a1_toInt_toNat.toInt → f25_14__a1_toInt_toNat.toInt ≤ 100000100 → (12 - v25_2.toInt).toNat < n25 → Wd dC dI A s.heap H locs w7 → TW ksM ad cy B qr 12 w7 → FE ksM ([] : List (Nat × Nat × Nat)) w0 w7 → gi w7 14 (a1.toInt).toNat = f25_14__a1_toInt_toNat → lv_has ls 3 [(0, .ref (ad 0)), (1, .int a1), (2, .int v25_2)] → W p l e ({ frames := 3, cells := 0, slots := 0, locals := 57 }) s m (List.toArray [.ref (ad 0), .int a1]) below meth c H locs 0 0 (MQ below (va_Qi (P_X12_streetFrom_1 ad cy B qr s1 a1 w0) (fun u : va_W => wpost dC dI cy A u) A) (List.toArray [.ref (ad 0), .int a1]) s 0 0 A) (F0 m 25 ls []) := by
    intro n25
    induction n25 with
    | zero => intro v25_2 f25_14__a1_toInt_toNat H locs ls w7 r8 t9 r10 t11 r12 t13 hm25 hw hT hF c14 hl; omega
    | succ n25 ih25 =>
      intro v25_2 f25_14__a1_toInt_toNat H locs ls w7 r8 t9 r10 t11 r12 t13 hm25 hw hT hF c14 hl
      have J88 : ∀ (f88_12_1 : Int32) (H : Heap) (locs : List Loc) (ls : Array Slot) (w15 : va_W), 0 ≤ a1.toInt → a1.toInt ≤ 9 → 0 ≤ v25_2.toInt → v25_2.toInt ≤ 11 → 1 ≤ f88_12_1.toInt → f88_12_1.toInt ≤ 12 → 1 ≤ f25_14__a1_toInt_toNat.toInt → f25_14__a1_toInt_toNat.toInt ≤ 100000100 → Wd dC dI A s.heap H locs w15 → TW ksM ad cy B qr 12 w15 → FE ksM ([] : List (Nat × Nat × Nat)) w0 w15 → gi w15 12 1 = f88_12_1 → gi w15 14 (a1.toInt).toNat = f25_14__a1_toInt_toNat → lv_has ls 3 [(0, .ref (ad 0)), (1, .int a1), (2, .int v25_2)] → W p l e ({ frames := 3, cells := 0, slots := 0, locals := 57 }) s m (List.toArray [.ref (ad 0), .int a1]) below meth c H locs 0 0 (MQ below (va_Qi (P_X12_streetFrom_1 ad cy B qr s1 a1 w0) (fun u : va_W => wpost dC dI cy A u) A) (List.toArray [.ref (ad 0), .int a1]) s 0 0 A) (F0 m 88 ls []) := by
        intro f88_12_1 H locs ls w15 r16 t17 r18 t19 r20 t21 r23 t24 hw hT hF c22 c25 hl
        obtain ⟨x26, ex26⟩ : ∃ y : Int32, y = v25_2 + Int32.ofInt 1 := ⟨_, rfl⟩
        refine lv_iinc (v := x26) (lv' := [(2, .int x26), (0, .ref (ad 0)), (1, .int a1)]) hx hb dX12_streetFrom_88 hl (k := 2) rfl ex26.symm (by decide) rfl (fun ls hl => ?_)
        have ex26 : x26.toInt = v25_2.toInt + 1 := by rw [ex26]; exact wk_add (y := 1) (show -2147483648 ≤ v25_2.toInt + 1 by omega) (show v25_2.toInt + 1 ≤ 2147483647 by omega)
        refine lv_goto (tgt := 25) hx hb dX12_streetFrom_91 (by decide) ?_
        exact ih25 x26 f25_14__a1_toInt_toNat H locs ls w15 (show 0 ≤ a1.toInt by omega) (show a1.toInt ≤ 9 by omega) (show 0 ≤ x26.toInt by omega) (show x26.toInt ≤ 12 by omega) (show 1 ≤ f25_14__a1_toInt_toNat.toInt by omega) (show f25_14__a1_toInt_toNat.toInt ≤ 100000100 by omega) (show (12 - x26.toInt).toNat < n25 by omega) hw hT hF c25 (lv_sub hl [1, 2, 0] rfl)
      refine lv_iload_n hx hb dX12_streetFrom_25 rfl (lv_at hl 2 rfl) ?_
      refine lv_aload_n hx hb dX12_streetFrom_26 rfl (lv_at hl 0 rfl) ?_
      refine tk_getA hC hK hw hT hinX12 kM_at0 (by decide) rfl 26 (by decide) (List.mem_of_getElem? (i := 3) rfl) rfl rfl dX12_streetFrom_27 ?_
      refine lv_iconst (v := 1) hx hb dX12_streetFrom_30 (by decide) ?_
      refine tk_ialdR hC hK hw hT kM_at12 rfl (by decide) (by decide) dX12_streetFrom_31 (fun x27 c28 Ex27 => ?_)
      have bx27 : 0 ≤ x27.toInt ∧ x27.toInt ≤ 12 := (tk_rg1 rfl).mp Ex27
      have c28 : gi w7 12 1 = x27 := c28
      refine lv_icmp_ge (tgt := 94) hx hb dX12_streetFrom_32 (by decide) (fun c29 => ?_) (fun c29 => ?_)
      · have c29 : x27.toInt ≤ v25_2.toInt := wk_le.mp c29
        refine lv_iconst (v := (-1)) hx hb dX12_streetFrom_94 (by decide) ?_
        exact tk_iret hC hr hlocks hK ⟨hT, hF, (Or.inr (Or.inr rfl))⟩ hw dX12_streetFrom_95
      · have c29 : v25_2.toInt < x27.toInt := wk_leF c29
        refine lv_aload_n hx hb dX12_streetFrom_35 rfl (lv_at hl 0 rfl) ?_
        refine lv_iload_n hx hb dX12_streetFrom_36 rfl (lv_at hl 2 rfl) ?_
        refine lv_iload_n hx hb dX12_streetFrom_37 rfl (lv_at hl 1 rfl) ?_
        refine tk_Vi hC hK hw hT hA hE hSR kM_at0 (by decide) rfl (k_X12_isAt_1 l adK adV dC dI cy ad B (by omega) (by omega) qr s1   v25_2 (show 0 ≤ v25_2.toInt by omega) (show v25_2.toInt ≤ 11 by omega) a1 (show 0 ≤ a1.toInt by omega) (show a1.toInt ≤ 9 by omega) w7 H.size hT ) (cwV 2 hC.2.2.2.2 gX12_streetFrom_X12_isAt rfl rfl rfl (by decide +kernel) ⟨Nat.le_of_ble_eq_true rfl, Nat.le_of_ble_eq_true rfl⟩) rfl hl.1 rfl (Nat.le_of_ble_eq_true rfl) dX12_streetFrom_38 (fun r30 w32 H locs hp31 hw => ?_)
        obtain ⟨hT, k33, hg34⟩ := hp31
        have hF := hF.tr k33 (by decide)
        have c35 := k33.gi kM_at14 rfl c14
        have c36 := k33.gi kM_at12 (by decide) c28
        rcases hg34 with rfl | rfl
        · refine lv_if_eq (tgt := 88) hx hb dX12_streetFrom_41 (by decide) (fun _ => ?_) (fun c => absurd (by decide) c)
          exact J88 x27 H locs ls w32 (show 0 ≤ a1.toInt by omega) (show a1.toInt ≤ 9 by omega) (show 0 ≤ v25_2.toInt by omega) (show v25_2.toInt ≤ 11 by omega) (show 1 ≤ x27.toInt by omega) (show x27.toInt ≤ 12 by omega) (show 1 ≤ f25_14__a1_toInt_toNat.toInt by omega) (show f25_14__a1_toInt_toNat.toInt ≤ 100000100 by omega)  hw hT hF c36 c35 (lv_sub hl [0, 1, 2] rfl)
        · refine lv_if_eq (tgt := 88) hx hb dX12_streetFrom_41 (by decide) (fun c => absurd c (by decide)) (fun _ => ?_)
          refine lv_aload_n hx hb dX12_streetFrom_44 rfl (lv_at hl 0 rfl) ?_
          refine lv_aload_n hx hb dX12_streetFrom_45 rfl (lv_at hl 0 rfl) ?_
          refine tk_getA hC hK hw hT hinX12 kM_at0 (by decide) rfl 28 (by decide) (List.mem_of_getElem? (i := 4) rfl) rfl rfl dX12_streetFrom_46 ?_
          refine lv_iload_n hx hb dX12_streetFrom_49 rfl (lv_at hl 2 rfl) ?_
          refine tk_iald hC hK hw hT kM_at13 rfl rfl (show 0 ≤ v25_2.toInt by omega) (show v25_2.toInt < 12 by omega) dX12_streetFrom_50 (fun x37 c38 rx37 tx37 => ?_)
          refine lv_iload_n hx hb dX12_streetFrom_51 rfl (lv_at hl 2 rfl) ?_
          refine lv_iload_n hx hb dX12_streetFrom_52 rfl (lv_at hl 1 rfl) ?_
          refine tk_Vi hC hK hw hT hA hE hSR kM_at0 (by decide) rfl (k_X12_hasSign_2 l adK adV dC dI cy ad B (by omega) (by omega) qr s1   x37 v25_2 (show 0 ≤ v25_2.toInt by omega) (show v25_2.toInt ≤ 11 by omega) a1 (show 0 ≤ a1.toInt by omega) (show a1.toInt ≤ 9 by omega) w32 H.size hT ) (cwV 3 hC.2.2.2.2 gX12_streetFrom_X12_hasSign rfl rfl rfl (by decide +kernel) ⟨Nat.le_of_ble_eq_true rfl, Nat.le_of_ble_eq_true rfl⟩) rfl hl.1 rfl (Nat.le_of_ble_eq_true rfl) dX12_streetFrom_53 (fun r39 w41 H locs hp40 hw => ?_)
          obtain ⟨hT, k42, hg45⟩ := hp40
          have hF := hF.tr k42 (by decide)
          have c46 := k42.gi kM_at14 rfl c35
          have c47 := k42.gi kM_at12 (by decide) c36
          rcases hg45 with rfl | ⟨rfl, c43⟩ | rfl | ⟨rfl, c44⟩
          · refine lv_if_eq (tgt := 88) hx hb dX12_streetFrom_56 (by decide) (fun _ => ?_) (fun c => absurd (by decide) c)
            exact J88 x27 H locs ls w41 (show 0 ≤ a1.toInt by omega) (show a1.toInt ≤ 9 by omega) (show 0 ≤ v25_2.toInt by omega) (show v25_2.toInt ≤ 11 by omega) (show 1 ≤ x27.toInt by omega) (show x27.toInt ≤ 12 by omega) (show 1 ≤ f25_14__a1_toInt_toNat.toInt by omega) (show f25_14__a1_toInt_toNat.toInt ≤ 100000100 by omega)  hw hT hF c47 c46 (lv_sub hl [0, 1, 2] rfl)
          · refine lv_if_eq (tgt := 88) hx hb dX12_streetFrom_56 (by decide) (fun _ => ?_) (fun c => absurd (by decide) c)
            exact J88 x27 H locs ls w41 (show 0 ≤ a1.toInt by omega) (show a1.toInt ≤ 9 by omega) (show 0 ≤ v25_2.toInt by omega) (show v25_2.toInt ≤ 11 by omega) (show 1 ≤ x27.toInt by omega) (show x27.toInt ≤ 12 by omega) (show 1 ≤ f25_14__a1_toInt_toNat.toInt by omega) (show f25_14__a1_toInt_toNat.toInt ≤ 100000100 by omega)  hw hT hF c47 c46 (lv_sub hl [0, 1, 2] rfl)
          · refine lv_if_eq (tgt := 88) hx hb dX12_streetFrom_56 (by decide) (fun c => absurd c (by decide)) (fun _ => ?_)
            refine lv_aload_n hx hb dX12_streetFrom_59 rfl (lv_at hl 0 rfl) ?_
            refine lv_iload_n hx hb dX12_streetFrom_60 rfl (lv_at hl 2 rfl) ?_
            refine lv_iconst (v := 2) hx hb dX12_streetFrom_61 (by decide) ?_
            refine tk_Vi hC hK hw hT hA hE hSR kM_at0 (by decide) rfl (k_X12_streetOf_6 l adK adV dC dI cy ad B (by omega) (by omega) qr s1   v25_2 (show 0 ≤ v25_2.toInt by omega) (show v25_2.toInt ≤ 11 by omega) w41 H.size hT ) (cwV 2 hC.2.2.2.2 gX12_streetFrom_X12_streetOf rfl rfl rfl (by decide +kernel) ⟨Nat.le_of_ble_eq_true rfl, Nat.le_of_ble_eq_true rfl⟩) rfl hl.1 rfl (Nat.le_of_ble_eq_true rfl) dX12_streetFrom_62 (fun r48 w50 H locs hp49 hw => ?_)
            obtain ⟨hT, k51, hg55⟩ := hp49
            have hF := hF.tr k51 (by decide)
            have c56 := k51.gi kM_at14 rfl c46
            have c57 := k51.gi kM_at12 (by decide) c47
            obtain ⟨g52, g53, c54⟩ := hg55
            refine lv_aload_n hx hb dX12_streetFrom_65 rfl (lv_at hl 0 rfl) ?_
            refine tk_getA hC hK hw hT hinX12 kM_at0 (by decide) rfl 29 (by decide) (List.mem_of_getElem? (i := 1) rfl) rfl rfl dX12_streetFrom_66 ?_
            refine lv_aload_n hx hb dX12_streetFrom_69 rfl (lv_at hl 0 rfl) ?_
            refine lv_iload_n hx hb dX12_streetFrom_70 rfl (lv_at hl 2 rfl) ?_
            refine lv_iload_n hx hb dX12_streetFrom_71 rfl (lv_at hl 1 rfl) ?_
            refine tk_Vi hC hK hw hT hA hE hSR kM_at0 (by decide) rfl (k_X12_otherOf_1 l adK adV dC dI cy ad B (by omega) (by omega) qr s1   v25_2 (show 0 ≤ v25_2.toInt by omega) (show v25_2.toInt ≤ 11 by omega) a1 (show 0 ≤ a1.toInt by omega) (show a1.toInt ≤ 9 by omega) w50 H.size hT ) (cwV 2 hC.2.2.2.2 gX12_streetFrom_X12_otherOf rfl rfl rfl (by decide +kernel) ⟨Nat.le_of_ble_eq_true rfl, Nat.le_of_ble_eq_true rfl⟩) rfl hl.1 rfl (Nat.le_of_ble_eq_true rfl) dX12_streetFrom_72 (fun r58 w60 H locs hp59 hw => ?_)
            obtain ⟨hT, k61, hg67⟩ := hp59
            have hF := hF.tr k61 (by decide)
            have c68 := k61.gi kM_at14 rfl c56
            have c69 := k61.gi kM_at12 (by decide) c57
            have c70 := k61.gi kM_at12 rfl c54
            rcases hg67 with ⟨g62, g63⟩ | ⟨g64, g65, c66⟩
            · refine tk_iald hC hK hw hT kM_at14 rfl rfl (show 0 ≤ r58.toInt by omega) (show r58.toInt < 10 by omega) dX12_streetFrom_75 (fun x71 c72 rx71 tx71 => ?_)
              have c72 : gi w60 14 (r58.toInt).toNat = x71 := (congrArg (gi w60 14) (congrArg Int.toNat (show r58.toInt = r58.toInt by omega))).trans c72
              refine lv_iadd hx hb dX12_streetFrom_76 ?_
              refine lv_topi (fun x73 ex73 => ?_)
              have ex73 : x73.toInt = r48.toInt + x71.toInt := by rw [ex73]; exact wk_add (show (-2147483648) ≤ r48.toInt + x71.toInt by omega) (show r48.toInt + x71.toInt ≤ 2147483647 by omega)
              refine lv_aload_n hx hb dX12_streetFrom_77 rfl (lv_at hl 0 rfl) ?_
              refine tk_getA hC hK hw hT hinX12 kM_at0 (by decide) rfl 29 (by decide) (List.mem_of_getElem? (i := 1) rfl) rfl rfl dX12_streetFrom_78 ?_
              refine lv_iload_n hx hb dX12_streetFrom_81 rfl (lv_at hl 1 rfl) ?_
              refine tk_iald hC hK hw hT kM_at14 rfl rfl (show 0 ≤ a1.toInt by omega) (show a1.toInt < 10 by omega) dX12_streetFrom_82 (fun x74 c75 rx74 tx74 => ?_)
              have c75 : gi w60 14 (a1.toInt).toNat = x74 := (congrArg (gi w60 14) (congrArg Int.toNat (show a1.toInt = a1.toInt by omega))).trans c75
              refine wk_top f25_14__a1_toInt_toNat (c75.symm.trans c68) ?_
              refine lv_icmp_ne (tgt := 88) hx hb dX12_streetFrom_83 (by decide) (fun c76 => ?_) (fun c76 => ?_)
              · have c76 : ¬ x73.toInt = f25_14__a1_toInt_toNat.toInt := wk_eqF c76
                exact J88 x27 H locs ls w60 (show 0 ≤ a1.toInt by omega) (show a1.toInt ≤ 9 by omega) (show 0 ≤ v25_2.toInt by omega) (show v25_2.toInt ≤ 11 by omega) (show 1 ≤ x27.toInt by omega) (show x27.toInt ≤ 12 by omega) (show 1 ≤ f25_14__a1_toInt_toNat.toInt by omega) (show f25_14__a1_toInt_toNat.toInt ≤ 100000100 by omega)  hw hT hF c69 c68 (lv_sub hl [0, 1, 2] rfl)
              · have c76 : x73.toInt = f25_14__a1_toInt_toNat.toInt := wk_eq.mp c76
                refine lv_iload_n hx hb dX12_streetFrom_86 rfl (lv_at hl 2 rfl) ?_
                exact tk_iret hC hr hlocks hK ⟨hT, hF, (Or.inl ⟨(show 0 ≤ v25_2.toInt by omega), (show v25_2.toInt ≤ 11 by omega), ⟨x27, c69, (show 1 ≤ x27.toInt by omega), (show x27.toInt ≤ 12 by omega)⟩⟩)⟩ hw dX12_streetFrom_87
            · refine tk_iald hC hK hw hT kM_at14 rfl rfl (show 0 ≤ r58.toInt by omega) (show r58.toInt < 10 by omega) dX12_streetFrom_75 (fun x77 c78 rx77 tx77 => ?_)
              have c78 : gi w60 14 (r58.toInt).toNat = x77 := (congrArg (gi w60 14) (congrArg Int.toNat (show r58.toInt = r58.toInt by omega))).trans c78
              refine lv_iadd hx hb dX12_streetFrom_76 ?_
              refine lv_topi (fun x79 ex79 => ?_)
              have ex79 : x79.toInt = r48.toInt + x77.toInt := by rw [ex79]; exact wk_add (show (-2147483648) ≤ r48.toInt + x77.toInt by omega) (show r48.toInt + x77.toInt ≤ 2147483647 by omega)
              refine lv_aload_n hx hb dX12_streetFrom_77 rfl (lv_at hl 0 rfl) ?_
              refine tk_getA hC hK hw hT hinX12 kM_at0 (by decide) rfl 29 (by decide) (List.mem_of_getElem? (i := 1) rfl) rfl rfl dX12_streetFrom_78 ?_
              refine lv_iload_n hx hb dX12_streetFrom_81 rfl (lv_at hl 1 rfl) ?_
              refine tk_iald hC hK hw hT kM_at14 rfl rfl (show 0 ≤ a1.toInt by omega) (show a1.toInt < 10 by omega) dX12_streetFrom_82 (fun x80 c81 rx80 tx80 => ?_)
              have c81 : gi w60 14 (a1.toInt).toNat = x80 := (congrArg (gi w60 14) (congrArg Int.toNat (show a1.toInt = a1.toInt by omega))).trans c81
              refine wk_top f25_14__a1_toInt_toNat (c81.symm.trans c68) ?_
              refine lv_icmp_ne (tgt := 88) hx hb dX12_streetFrom_83 (by decide) (fun c82 => ?_) (fun c82 => ?_)
              · have c82 : ¬ x79.toInt = f25_14__a1_toInt_toNat.toInt := wk_eqF c82
                exact J88 x27 H locs ls w60 (show 0 ≤ a1.toInt by omega) (show a1.toInt ≤ 9 by omega) (show 0 ≤ v25_2.toInt by omega) (show v25_2.toInt ≤ 11 by omega) (show 1 ≤ x27.toInt by omega) (show x27.toInt ≤ 12 by omega) (show 1 ≤ f25_14__a1_toInt_toNat.toInt by omega) (show f25_14__a1_toInt_toNat.toInt ≤ 100000100 by omega)  hw hT hF c69 c68 (lv_sub hl [0, 1, 2] rfl)
              · have c82 : x79.toInt = f25_14__a1_toInt_toNat.toInt := wk_eq.mp c82
                refine lv_iload_n hx hb dX12_streetFrom_86 rfl (lv_at hl 2 rfl) ?_
                exact tk_iret hC hr hlocks hK ⟨hT, hF, (Or.inr (Or.inl ⟨(show 0 ≤ v25_2.toInt by omega), (show v25_2.toInt ≤ 11 by omega), ⟨x27, c69, (show 1 ≤ x27.toInt by omega), (show x27.toInt ≤ 12 by omega)⟩, c66⟩))⟩ hw dX12_streetFrom_87
          · refine lv_if_eq (tgt := 88) hx hb dX12_streetFrom_56 (by decide) (fun c => absurd c (by decide)) (fun _ => ?_)
            refine lv_aload_n hx hb dX12_streetFrom_59 rfl (lv_at hl 0 rfl) ?_
            refine lv_iload_n hx hb dX12_streetFrom_60 rfl (lv_at hl 2 rfl) ?_
            refine lv_iconst (v := 2) hx hb dX12_streetFrom_61 (by decide) ?_
            refine tk_Vi hC hK hw hT hA hE hSR kM_at0 (by decide) rfl (k_X12_streetOf_6 l adK adV dC dI cy ad B (by omega) (by omega) qr s1   v25_2 (show 0 ≤ v25_2.toInt by omega) (show v25_2.toInt ≤ 11 by omega) w41 H.size hT ) (cwV 2 hC.2.2.2.2 gX12_streetFrom_X12_streetOf rfl rfl rfl (by decide +kernel) ⟨Nat.le_of_ble_eq_true rfl, Nat.le_of_ble_eq_true rfl⟩) rfl hl.1 rfl (Nat.le_of_ble_eq_true rfl) dX12_streetFrom_62 (fun r83 w85 H locs hp84 hw => ?_)
            obtain ⟨hT, k86, hg90⟩ := hp84
            have hF := hF.tr k86 (by decide)
            have c91 := k86.gi kM_at14 rfl c46
            have c92 := k86.gi kM_at12 (by decide) c47
            have c93 := k86.gi kM_at12 rfl c44
            obtain ⟨g87, g88, c89⟩ := hg90
            refine lv_aload_n hx hb dX12_streetFrom_65 rfl (lv_at hl 0 rfl) ?_
            refine tk_getA hC hK hw hT hinX12 kM_at0 (by decide) rfl 29 (by decide) (List.mem_of_getElem? (i := 1) rfl) rfl rfl dX12_streetFrom_66 ?_
            refine lv_aload_n hx hb dX12_streetFrom_69 rfl (lv_at hl 0 rfl) ?_
            refine lv_iload_n hx hb dX12_streetFrom_70 rfl (lv_at hl 2 rfl) ?_
            refine lv_iload_n hx hb dX12_streetFrom_71 rfl (lv_at hl 1 rfl) ?_
            refine tk_Vi hC hK hw hT hA hE hSR kM_at0 (by decide) rfl (k_X12_otherOf_1 l adK adV dC dI cy ad B (by omega) (by omega) qr s1   v25_2 (show 0 ≤ v25_2.toInt by omega) (show v25_2.toInt ≤ 11 by omega) a1 (show 0 ≤ a1.toInt by omega) (show a1.toInt ≤ 9 by omega) w85 H.size hT ) (cwV 2 hC.2.2.2.2 gX12_streetFrom_X12_otherOf rfl rfl rfl (by decide +kernel) ⟨Nat.le_of_ble_eq_true rfl, Nat.le_of_ble_eq_true rfl⟩) rfl hl.1 rfl (Nat.le_of_ble_eq_true rfl) dX12_streetFrom_72 (fun r94 w96 H locs hp95 hw => ?_)
            obtain ⟨hT, k97, hg103⟩ := hp95
            have hF := hF.tr k97 (by decide)
            have c104 := k97.gi kM_at14 rfl c91
            have c105 := k97.gi kM_at12 (by decide) c92
            have c106 := k97.gi kM_at12 rfl c93
            have c107 := k97.gi kM_at12 rfl c89
            rcases hg103 with ⟨g98, g99⟩ | ⟨g100, g101, c102⟩
            · refine tk_iald hC hK hw hT kM_at14 rfl rfl (show 0 ≤ r94.toInt by omega) (show r94.toInt < 10 by omega) dX12_streetFrom_75 (fun x108 c109 rx108 tx108 => ?_)
              have c109 : gi w96 14 (r94.toInt).toNat = x108 := (congrArg (gi w96 14) (congrArg Int.toNat (show r94.toInt = r94.toInt by omega))).trans c109
              refine lv_iadd hx hb dX12_streetFrom_76 ?_
              refine lv_topi (fun x110 ex110 => ?_)
              have ex110 : x110.toInt = r83.toInt + x108.toInt := by rw [ex110]; exact wk_add (show (-2147483648) ≤ r83.toInt + x108.toInt by omega) (show r83.toInt + x108.toInt ≤ 2147483647 by omega)
              refine lv_aload_n hx hb dX12_streetFrom_77 rfl (lv_at hl 0 rfl) ?_
              refine tk_getA hC hK hw hT hinX12 kM_at0 (by decide) rfl 29 (by decide) (List.mem_of_getElem? (i := 1) rfl) rfl rfl dX12_streetFrom_78 ?_
              refine lv_iload_n hx hb dX12_streetFrom_81 rfl (lv_at hl 1 rfl) ?_
              refine tk_iald hC hK hw hT kM_at14 rfl rfl (show 0 ≤ a1.toInt by omega) (show a1.toInt < 10 by omega) dX12_streetFrom_82 (fun x111 c112 rx111 tx111 => ?_)
              have c112 : gi w96 14 (a1.toInt).toNat = x111 := (congrArg (gi w96 14) (congrArg Int.toNat (show a1.toInt = a1.toInt by omega))).trans c112
              refine wk_top f25_14__a1_toInt_toNat (c112.symm.trans c104) ?_
              refine lv_icmp_ne (tgt := 88) hx hb dX12_streetFrom_83 (by decide) (fun c113 => ?_) (fun c113 => ?_)
              · have c113 : ¬ x110.toInt = f25_14__a1_toInt_toNat.toInt := wk_eqF c113
                exact J88 x27 H locs ls w96 (show 0 ≤ a1.toInt by omega) (show a1.toInt ≤ 9 by omega) (show 0 ≤ v25_2.toInt by omega) (show v25_2.toInt ≤ 11 by omega) (show 1 ≤ x27.toInt by omega) (show x27.toInt ≤ 12 by omega) (show 1 ≤ f25_14__a1_toInt_toNat.toInt by omega) (show f25_14__a1_toInt_toNat.toInt ≤ 100000100 by omega)  hw hT hF c105 c104 (lv_sub hl [0, 1, 2] rfl)
              · have c113 : x110.toInt = f25_14__a1_toInt_toNat.toInt := wk_eq.mp c113
                refine lv_iload_n hx hb dX12_streetFrom_86 rfl (lv_at hl 2 rfl) ?_
                exact tk_iret hC hr hlocks hK ⟨hT, hF, (Or.inr (Or.inl ⟨(show 0 ≤ v25_2.toInt by omega), (show v25_2.toInt ≤ 11 by omega), ⟨x27, c105, (show 1 ≤ x27.toInt by omega), (show x27.toInt ≤ 12 by omega)⟩, c106⟩))⟩ hw dX12_streetFrom_87
            · refine tk_iald hC hK hw hT kM_at14 rfl rfl (show 0 ≤ r94.toInt by omega) (show r94.toInt < 10 by omega) dX12_streetFrom_75 (fun x114 c115 rx114 tx114 => ?_)
              have c115 : gi w96 14 (r94.toInt).toNat = x114 := (congrArg (gi w96 14) (congrArg Int.toNat (show r94.toInt = r94.toInt by omega))).trans c115
              refine lv_iadd hx hb dX12_streetFrom_76 ?_
              refine lv_topi (fun x116 ex116 => ?_)
              have ex116 : x116.toInt = r83.toInt + x114.toInt := by rw [ex116]; exact wk_add (show (-2147483648) ≤ r83.toInt + x114.toInt by omega) (show r83.toInt + x114.toInt ≤ 2147483647 by omega)
              refine lv_aload_n hx hb dX12_streetFrom_77 rfl (lv_at hl 0 rfl) ?_
              refine tk_getA hC hK hw hT hinX12 kM_at0 (by decide) rfl 29 (by decide) (List.mem_of_getElem? (i := 1) rfl) rfl rfl dX12_streetFrom_78 ?_
              refine lv_iload_n hx hb dX12_streetFrom_81 rfl (lv_at hl 1 rfl) ?_
              refine tk_iald hC hK hw hT kM_at14 rfl rfl (show 0 ≤ a1.toInt by omega) (show a1.toInt < 10 by omega) dX12_streetFrom_82 (fun x117 c118 rx117 tx117 => ?_)
              have c118 : gi w96 14 (a1.toInt).toNat = x117 := (congrArg (gi w96 14) (congrArg Int.toNat (show a1.toInt = a1.toInt by omega))).trans c118
              refine wk_top f25_14__a1_toInt_toNat (c118.symm.trans c104) ?_
              refine lv_icmp_ne (tgt := 88) hx hb dX12_streetFrom_83 (by decide) (fun c119 => ?_) (fun c119 => ?_)
              · have c119 : ¬ x116.toInt = f25_14__a1_toInt_toNat.toInt := wk_eqF c119
                exact J88 x27 H locs ls w96 (show 0 ≤ a1.toInt by omega) (show a1.toInt ≤ 9 by omega) (show 0 ≤ v25_2.toInt by omega) (show v25_2.toInt ≤ 11 by omega) (show 1 ≤ x27.toInt by omega) (show x27.toInt ≤ 12 by omega) (show 1 ≤ f25_14__a1_toInt_toNat.toInt by omega) (show f25_14__a1_toInt_toNat.toInt ≤ 100000100 by omega)  hw hT hF c105 c104 (lv_sub hl [0, 1, 2] rfl)
              · have c119 : x116.toInt = f25_14__a1_toInt_toNat.toInt := wk_eq.mp c119
                refine lv_iload_n hx hb dX12_streetFrom_86 rfl (lv_at hl 2 rfl) ?_
                exact tk_iret hC hr hlocks hK ⟨hT, hF, (Or.inr (Or.inl ⟨(show 0 ≤ v25_2.toInt by omega), (show v25_2.toInt ≤ 11 by omega), ⟨x27, c105, (show 1 ≤ x27.toInt by omega), (show x27.toInt ≤ 12 by omega)⟩, c106⟩))⟩ hw dX12_streetFrom_87
  refine lv_aload_n hx hb dX12_streetFrom_0 rfl (lv_at hl 0 rfl) ?_
  refine tk_getA hC hK hw hT hinX12 kM_at0 (by decide) rfl 29 (by decide) (List.mem_of_getElem? (i := 1) rfl) rfl rfl dX12_streetFrom_1 ?_
  refine lv_iload_n hx hb dX12_streetFrom_4 rfl (lv_at hl 1 rfl) ?_
  refine tk_iald hC hK hw hT kM_at14 rfl rfl (show 0 ≤ a1.toInt by omega) (show a1.toInt < 10 by omega) dX12_streetFrom_5 (fun x120 c121 rx120 tx120 => ?_)
  have c121 : gi w0 14 (a1.toInt).toNat = x120 := (congrArg (gi w0 14) (congrArg Int.toNat (show a1.toInt = a1.toInt by omega))).trans c121
  refine lv_if_eq (tgt := 21) hx hb dX12_streetFrom_6 (by decide) (fun c122 => ?_) (fun c122 => ?_)
  · have c122 : x120.toInt = (0 : Int) := wk_eq.mp c122
    exact J21 x120 s.heap locs ls w0 (show 0 ≤ a1.toInt by omega) (show a1.toInt ≤ 9 by omega) (show 0 ≤ x120.toInt by omega) (show x120.toInt ≤ 100000000 by omega)  hw hT hF c121 (lv_sub hl [0, 1] rfl)
  · have c122 : ¬ x120.toInt = (0 : Int) := wk_eqF c122
    refine lv_aload_n hx hb dX12_streetFrom_9 rfl (lv_at hl 0 rfl) ?_
    refine tk_getA hC hK hw hT hinX12 kM_at0 (by decide) rfl 29 (by decide) (List.mem_of_getElem? (i := 1) rfl) rfl rfl dX12_streetFrom_10 ?_
    refine lv_iload_n hx hb dX12_streetFrom_13 rfl (lv_at hl 1 rfl) ?_
    refine tk_iald hC hK hw hT kM_at14 rfl rfl (show 0 ≤ a1.toInt by omega) (show a1.toInt < 10 by omega) dX12_streetFrom_14 (fun x123 c124 rx123 tx123 => ?_)
    have c124 : gi w0 14 (a1.toInt).toNat = x123 := (congrArg (gi w0 14) (congrArg Int.toNat (show a1.toInt = a1.toInt by omega))).trans c124
    refine wk_top x120 (c124.symm.trans c121) ?_
    refine lv_ldcw (v := 100000000) hx hb hC.2.2.2.1 (hC.2.2.2.2 _ (List.mem_of_getElem? (i := 2) rfl)) dX12_streetFrom_15 ?_
    refine lv_icmp_ne (tgt := 23) hx hb dX12_streetFrom_18 (by decide) (fun c125 => ?_) (fun c125 => ?_)
    · have c125 : ¬ x120.toInt = (100000000 : Int) := wk_eqF c125
      refine lv_iconst (v := 0) hx hb dX12_streetFrom_23 (by decide) ?_
      refine lv_istore_n (lv' := [(2, .int 0), (0, .ref (ad 0)), (1, .int a1)]) hx hb dX12_streetFrom_24 rfl hl (by decide) rfl (fun ls hl => ?_)
      exact L25 ((12 - (0 : Int)).toNat + 1) 0 x120 s.heap locs ls w0 (show 0 ≤ a1.toInt by omega) (show a1.toInt ≤ 9 by omega) (by decide) (by decide) (show 1 ≤ x120.toInt by omega) (show x120.toInt ≤ 100000100 by omega) (Nat.lt_succ_self _) hw hT hF c121 (lv_sub hl [1, 2, 0] rfl)
    · have c125 : x120.toInt = (100000000 : Int) := wk_eq.mp c125
      exact J21 x120 s.heap locs ls w0 (show 0 ≤ a1.toInt by omega) (show a1.toInt ≤ 9 by omega) (show 0 ≤ x120.toInt by omega) (show x120.toInt ≤ 100000000 by omega)  hw hT hF c121 (lv_sub hl [0, 1] rfl)
abbrev P_X12_by_1 (ad : Nat → Nat) (cy : Nat → ClassId) (B : Int) (qr : Nat) (s1 : Int) (a1 : Int32) (a2 : Int32) (a3 : Int32) (a4 : Int32) (w0 : va_W) : Int32 → va_W → Prop := fun r u => TW ksM ad cy B qr 12 u ∧ FE ksM [(72, 0, 12), (73, 0, 10)] w0 u ∧ ((r = (-2) ∧ 0 ≤ a1.toInt ∧ a1.toInt ≤ 3 ∧ 0 ≤ a2.toInt ∧ a2.toInt ≤ 9 ∧ 0 ≤ a3.toInt ∧ a3.toInt ≤ 9 ∧ 0 ≤ a4.toInt ∧ a4.toInt ≤ 1 ∧ (∃ y : Int32, gi u 12 0 = y ∧ 1 ≤ y.toInt ∧ y.toInt ≤ 10) ∧ (∃ y : Int32, gi u 12 4 = y ∧ 1 ≤ y.toInt ∧ y.toInt ≤ 4)) ∨ (0 ≤ r.toInt ∧ r.toInt ≤ 100000100 ∧ 0 ≤ a1.toInt ∧ a1.toInt ≤ 3 ∧ 0 ≤ a2.toInt ∧ a2.toInt ≤ 9 ∧ 0 ≤ a3.toInt ∧ a3.toInt ≤ 9 ∧ 0 ≤ a4.toInt ∧ a4.toInt ≤ 1 ∧ (∃ y : Int32, gi u 12 0 = y ∧ 1 ≤ y.toInt ∧ y.toInt ≤ 10) ∧ (∃ y : Int32, gi u 12 4 = y ∧ 1 ≤ y.toInt ∧ y.toInt ≤ 4)) ∨ (0 ≤ r.toInt ∧ r.toInt ≤ 11 ∧ 0 ≤ a1.toInt ∧ a1.toInt ≤ 3 ∧ 0 ≤ a2.toInt ∧ a2.toInt ≤ 9 ∧ 0 ≤ a3.toInt ∧ a3.toInt ≤ 9 ∧ 1 ≤ a4.toInt ∧ a4.toInt ≤ 1 ∧ (∃ y : Int32, gi u 12 0 = y ∧ 1 ≤ y.toInt ∧ y.toInt ≤ 10) ∧ (∃ y : Int32, gi u 12 1 = y ∧ 1 ≤ y.toInt ∧ y.toInt ≤ 12) ∧ (∃ y : Int32, gi u 12 4 = y ∧ 1 ≤ y.toInt ∧ y.toInt ≤ 4) ∧ gi u 12 (10 * r.toInt + 10).toNat = a2) ∨ (r = (-1)))
set_option maxHeartbeats 4000000 in
set_option maxRecDepth 100000 in
theorem k_X12_by_1 (l : Launch) (adK adV : Nat → Nat) (dC : Nat → ClassId) (dI : Nat → Nat → Nat) (cy : Nat → ClassId) (ad : Nat → Nat) (B : Int) (hB0 : 100000 ≤ B) (hB1 : B ≤ 1073741824) (qr : Nat) (s1 : Int)  (a1 : Int32) (a2 : Int32) (a3 : Int32) (a4 : Int32) (w0 : va_W) (sz : Nat) (hT : TW ksM ad cy B qr 12 w0)  : Met l yX12_by wsX12_by ({ frames := 4, cells := 0, slots := 0, locals := 79 }) (va_Pc [.ref (ad 0), .int a1, .int a2, .int a3, .int a4] (wpreS adK adV dC dI cy sz w0)) (va_Qi (P_X12_by_1 ad cy B qr s1 a1 a2 a3 a4 w0) (fun u : va_W => wpost dC dI cy (va_A w0 sz) u) (va_A w0 sz)) 0 0 (va_A w0 sz) := by
  refine Met.ofW (cc := cX12_by) (maxL := 6) (ret := (some .int)) (by decide) rfl ?_
  intro p e s m args below meth c s₁ Bk hml hv
  obtain ⟨rfl, ⟨hsz, hP, hK, hD0⟩, hE, hSR⟩ := hv
  have hx := Bk.exec
  have hb := Bk.bytes
  have hr := Bk.returns
  have hlocks := Bk.notSynchronized
  have hC : CallFix p m c cX12_by 6 s _ wsX12_by RX12 := ⟨hx, hb, hml, findClass_of_methodNamed Bk.named, atoms_spec (ws := wsX12_by) Bk.pre⟩
  subst hsz
  have hD := hD0.self (sz := s.heap.size)
  generalize hAe : va_A w0 s.heap.size = A at hD hE ⊢
  have hA : ∀ q : Nat, s.heap.size ≤ q → A q := fun q h => by rw [← hAe]; exact Or.inr h
  have hw : Wd dC dI A s.heap s.heap [] w0 := ⟨hP, hD, va_S.rf⟩
  have hF : FE ksM [(72, 0, 12), (73, 0, 10)] w0 w0 := FE.rf
  have hl := lv_entry ([.ref (ad 0), .int a1, .int a2, .int a3, .int a4]) (n := 6) (Nat.le_of_ble_eq_true rfl)
  rw [lg_entry_eq]
  generalize (lg_sl ([.ref (ad 0), .int a1, .int a2, .int a3, .int a4]) ++ List.replicate (6 - (lg_sl ([.ref (ad 0), .int a1, .int a2, .int a3, .int a4])).length) Slot.unset).toArray = ls at hl ⊢
  have hl : lv_has ls 6 [(0, .ref (ad 0)), (1, .int a1), (2, .int a2), (3, .int a3), (4, .int a4)] := hl
  generalize hloc : ([] : List Loc) = locs at hw ⊢
  have hinX12 : ∀ w ∈ u_ws RX12 TX12 42, w ∈ wsX12_by := fun _ h => List.mem_cons_of_mem _ (List.mem_append_right _ (h))
  have J35 : ∀ (H : Heap) (locs : List Loc) (ls : Array Slot) (w1 : va_W), Wd dC dI A s.heap H locs w1 → TW ksM ad cy B qr 12 w1 → FE ksM [(72, 0, 12), (73, 0, 10)] w0 w1 → lv_has ls 6 [(0, .ref (ad 0)), (1, .int a1), (2, .int a2), (3, .int a3), (4, .int a4)] → W p l e ({ frames := 4, cells := 0, slots := 0, locals := 79 }) s m (List.toArray [.ref (ad 0), .int a1, .int a2, .int a3, .int a4]) below meth c H locs 0 0 (MQ below (va_Qi (P_X12_by_1 ad cy B qr s1 a1 a2 a3 a4 w0) (fun u : va_W => wpost dC dI cy A u) A) (List.toArray [.ref (ad 0), .int a1, .int a2, .int a3, .int a4]) s 0 0 A) (F0 m 35 ls []) := by
    intro H locs ls w1 hw hT hF hl
    refine lv_iconst (v := (-1)) hx hb dX12_by_35 (by decide) ?_
    exact tk_iret hC hr hlocks hK ⟨hT, hF, (Or.inr (Or.inr (Or.inr rfl)))⟩ hw dX12_by_36
  refine lv_aload_n hx hb dX12_by_0 rfl (lv_at hl 0 rfl) ?_
  refine lv_iload_n hx hb dX12_by_1 rfl (lv_at hl 1 rfl) ?_
  refine tk_Vi hC hK hw hT hA hE hSR kM_at0 (by decide) rfl (k_X12_isMap_1 l adK adV dC dI cy ad B (by omega) (by omega) qr s1   a1 w0 s.heap.size hT ) (cwV 1 hC.2.2.2.2 gX12_by_X12_isMap rfl rfl rfl (by decide +kernel) ⟨Nat.le_of_ble_eq_true rfl, Nat.le_of_ble_eq_true rfl⟩) rfl hl.1 rfl (Nat.le_of_ble_eq_true rfl) dX12_by_2 (fun r2 w4 H locs hp3 hw => ?_)
  obtain ⟨hT, k5, hg10⟩ := hp3
  have hF := hF.tr k5 (by decide)
  rcases hg10 with rfl | ⟨rfl, g6, g7, ⟨x8, c9, rx8, tx8⟩⟩
  · refine lv_if_eq (tgt := 35) hx hb dX12_by_5 (by decide) (fun _ => ?_) (fun c => absurd (by decide) c)
    exact J35  H locs ls w4   hw hT hF  (lv_sub hl [0, 1, 2, 3, 4] rfl)
  · refine lv_if_eq (tgt := 35) hx hb dX12_by_5 (by decide) (fun c => absurd c (by decide)) (fun _ => ?_)
    refine lv_aload_n hx hb dX12_by_8 rfl (lv_at hl 0 rfl) ?_
    refine lv_iload_n hx hb dX12_by_9 rfl (lv_at hl 2 rfl) ?_
    refine tk_Vi hC hK hw hT hA hE hSR kM_at0 (by decide) rfl (k_X12_isCorner_1 l adK adV dC dI cy ad B (by omega) (by omega) qr s1   a2 w4 H.size hT ) (cwV 1 hC.2.2.2.2 gX12_by_X12_isCorner rfl rfl rfl (by decide +kernel) ⟨Nat.le_of_ble_eq_true rfl, Nat.le_of_ble_eq_true rfl⟩) rfl hl.1 rfl (Nat.le_of_ble_eq_true rfl) dX12_by_10 (fun r11 w13 H locs hp12 hw => ?_)
    obtain ⟨hT, k14, hg19⟩ := hp12
    have hF := hF.tr k14 (by decide)
    have c20 := k14.gi kM_at12 (by decide) c9
    rcases hg19 with rfl | ⟨rfl, g15, g16, ⟨x17, c18, rx17, tx17⟩⟩
    · refine lv_if_eq (tgt := 35) hx hb dX12_by_13 (by decide) (fun _ => ?_) (fun c => absurd (by decide) c)
      exact J35  H locs ls w13   hw hT hF  (lv_sub hl [0, 1, 2, 3, 4] rfl)
    · refine lv_if_eq (tgt := 35) hx hb dX12_by_13 (by decide) (fun c => absurd c (by decide)) (fun _ => ?_)
      refine lv_aload_n hx hb dX12_by_16 rfl (lv_at hl 0 rfl) ?_
      refine lv_iload_n hx hb dX12_by_17 rfl (lv_at hl 3 rfl) ?_
      refine tk_Vi hC hK hw hT hA hE hSR kM_at0 (by decide) rfl (k_X12_isCorner_1 l adK adV dC dI cy ad B (by omega) (by omega) qr s1   a3 w13 H.size hT ) (cwV 1 hC.2.2.2.2 gX12_by_X12_isCorner rfl rfl rfl (by decide +kernel) ⟨Nat.le_of_ble_eq_true rfl, Nat.le_of_ble_eq_true rfl⟩) rfl hl.1 rfl (Nat.le_of_ble_eq_true rfl) dX12_by_18 (fun r21 w23 H locs hp22 hw => ?_)
      obtain ⟨hT, k24, hg29⟩ := hp22
      have hF := hF.tr k24 (by decide)
      have c30 := k24.gi kM_at12 (by decide) c20
      have c31 := k24.gi kM_at12 (by decide) c18
      rcases hg29 with rfl | ⟨rfl, g25, g26, ⟨x27, c28, rx27, tx27⟩⟩
      · refine lv_if_eq (tgt := 35) hx hb dX12_by_21 (by decide) (fun _ => ?_) (fun c => absurd (by decide) c)
        exact J35  H locs ls w23   hw hT hF  (lv_sub hl [0, 1, 2, 3, 4] rfl)
      · have ex27 : x27.toInt = x17.toInt := by rw [← c31.symm.trans c28]
        refine lv_if_eq (tgt := 35) hx hb dX12_by_21 (by decide) (fun c => absurd c (by decide)) (fun _ => ?_)
        refine lv_iload hx hb dX12_by_24 (lv_at hl 4 rfl) ?_
        refine lv_i2l hx hb dX12_by_26 rfl ?_
        refine lv_topl (fun x32 ex32 => ?_)
        have ex32 : x32.toInt = a4.toInt := by rw [ex32]; exact wk_i2l _
        have bx32 := wk_i32 a4
        refine lv_lconst (v := 0) hx hb dX12_by_27 (by decide) ?_
        refine lv_lconst (v := 1) hx hb dX12_by_28 (by decide) ?_
        refine tk_Si hC hK hw hT hA hE hSR (k_X12_in_12 l adK adV dC dI cy ad B (by omega) (by omega) qr s1   x32 (show (-2147483648) ≤ x32.toInt by omega) (show x32.toInt ≤ 2147483647 by omega) w23 H.size hT ) (va_cwS 3 hC.2.2.2.2 gX12_by_X12_in rfl rfl rfl (by decide +kernel) ⟨Nat.le_of_ble_eq_true rfl, Nat.le_of_ble_eq_true rfl⟩) rfl hl.1 rfl (Nat.le_of_ble_eq_true rfl) dX12_by_29 (fun r33 w35 H locs hp34 hw => ?_)
        obtain ⟨hT, k36, hg39⟩ := hp34
        have hF := hF.tr k36 (by decide)
        have c40 := k36.gi kM_at12 (by decide) c30
        have c41 := k36.gi kM_at12 (by decide) c31
        rcases hg39 with rfl | ⟨rfl, g37, g38⟩
        · refine lv_if_ne (tgt := 37) hx hb dX12_by_32 (by decide) (fun c => absurd (by decide) c) (fun _ => ?_)
          exact J35  H locs ls w35   hw hT hF  (lv_sub hl [0, 1, 2, 3, 4] rfl)
        · refine lv_if_ne (tgt := 37) hx hb dX12_by_32 (by decide) (fun _ => ?_) (fun c => absurd c (by decide))
          refine lv_aload_n hx hb dX12_by_37 rfl (lv_at hl 0 rfl) ?_
          refine lv_iload_n hx hb dX12_by_38 rfl (lv_at hl 1 rfl) ?_
          refine tk_Vv hC hK hw hT hA hE hSR kM_at0 (by decide) rfl (k_X12_takesMap_1 l adK adV dC dI cy ad B (by omega) (by omega) qr s1   a1 (show 0 ≤ a1.toInt by omega) (show a1.toInt ≤ 3 by omega) w35 H.size hT ) (cwV 1 hC.2.2.2.2 gX12_by_X12_takesMap rfl rfl rfl (by decide +kernel) ⟨Nat.le_of_ble_eq_true rfl, Nat.le_of_ble_eq_true rfl⟩) rfl hl.1 rfl (Nat.le_of_ble_eq_true rfl) dX12_by_39 (fun w44 H locs hp43 hw => ?_)
          obtain ⟨hT, k45, hg46⟩ := hp43
          have hF := hF.tr k45 (by decide)
          have c47 := k45.gi kM_at12 (by decide) c40
          have c48 := k45.gi kM_at12 (by decide) c41
          clear hg46
          refine lv_aload_n hx hb dX12_by_42 rfl (lv_at hl 0 rfl) ?_
          refine lv_iload_n hx hb dX12_by_43 rfl (lv_at hl 3 rfl) ?_
          refine tk_Vv hC hK hw hT hA hE hSR kM_at0 (by decide) rfl (k_X12_spreads_1 l adK adV dC dI cy ad B (by omega) (by omega) qr s1   a3 (show 0 ≤ a3.toInt by omega) (show a3.toInt ≤ 9 by omega) w44 H.size hT ) (cwV 1 hC.2.2.2.2 gX12_by_X12_spreads rfl rfl rfl (by decide +kernel) ⟨Nat.le_of_ble_eq_true rfl, Nat.le_of_ble_eq_true rfl⟩) rfl hl.1 rfl (Nat.le_of_ble_eq_true rfl) dX12_by_44 (fun w51 H locs hp50 hw => ?_)
          obtain ⟨hT, k52, hg53⟩ := hp50
          have hF := hF.tr k52 (by decide)
          have c54 := k52.gi kM_at12 (by decide) c47
          have c55 := k52.gi kM_at12 (by decide) c48
          clear hg53
          refine lv_aload_n hx hb dX12_by_47 rfl (lv_at hl 0 rfl) ?_
          refine tk_getA hC hK hw hT hinX12 kM_at0 (by decide) rfl 29 (by decide) (List.mem_of_getElem? (i := 1) rfl) rfl rfl dX12_by_48 ?_
          refine lv_iload_n hx hb dX12_by_51 rfl (lv_at hl 2 rfl) ?_
          refine tk_iald hC hK hw hT kM_at14 rfl rfl (show 0 ≤ a2.toInt by omega) (show a2.toInt < 10 by omega) dX12_by_52 (fun x56 c57 rx56 tx56 => ?_)
          have c57 : gi w51 14 (a2.toInt).toNat = x56 := (congrArg (gi w51 14) (congrArg Int.toNat (show a2.toInt = a2.toInt by omega))).trans c57
          refine lv_ldcw (v := 100000000) hx hb hC.2.2.2.1 (hC.2.2.2.2 _ (List.mem_of_getElem? (i := 2) rfl)) dX12_by_53 ?_
          refine lv_icmp_ne (tgt := 62) hx hb dX12_by_56 (by decide) (fun c58 => ?_) (fun c58 => ?_)
          · have c58 : ¬ x56.toInt = (100000000 : Int) := wk_eqF c58
            refine lv_aload_n hx hb dX12_by_62 rfl (lv_at hl 0 rfl) ?_
            refine lv_iload_n hx hb dX12_by_63 rfl (lv_at hl 2 rfl) ?_
            refine tk_Vi hC hK hw hT hA hE hSR kM_at0 (by decide) rfl (k_X12_streetFrom_1 l adK adV dC dI cy ad B (by omega) (by omega) qr s1   a2 (show 0 ≤ a2.toInt by omega) (show a2.toInt ≤ 9 by omega) w51 H.size hT ) (cwV 1 hC.2.2.2.2 gX12_by_X12_streetFrom rfl rfl rfl (by decide +kernel) ⟨Nat.le_of_ble_eq_true rfl, Nat.le_of_ble_eq_true rfl⟩) rfl hl.1 rfl (Nat.le_of_ble_eq_true rfl) dX12_by_64 (fun r59 w61 H locs hp60 hw => ?_)
            obtain ⟨hT, k62, hg72⟩ := hp60
            have hF := hF.tr k62 (by decide)
            have c73 := k62.gi kM_at12 (by decide) c54
            have c74 := k62.gi kM_at12 (by decide) c55
            have c75 := k62.gi kM_at14 rfl c57
            rcases hg72 with ⟨g63, g64, ⟨x65, c66, rx65, tx65⟩⟩ | ⟨g67, g68, ⟨x69, c70, rx69, tx69⟩, c71⟩ | rfl
            · refine lv_istore (lv' := [(5, .int r59), (0, .ref (ad 0)), (1, .int a1), (2, .int a2), (3, .int a3), (4, .int a4)]) hx hb dX12_by_67 hl (by decide) rfl (fun ls hl => ?_)
              refine lv_iload hx hb dX12_by_69 (lv_at hl 5 rfl) ?_
              refine lv_if_ne (tgt := 83) hx hb dX12_by_71 (by decide) (fun c76 => ?_) (fun c76 => ?_)
              · have c76 : ¬ a4.toInt = (0 : Int) := wk_eqF c76
                refine lv_iload hx hb dX12_by_83 (lv_at hl 0 rfl) ?_
                refine lv_if_ge (tgt := 93) hx hb dX12_by_85 (by decide) (fun _ => ?_) (fun c => (c (wk_le.mpr (show (0 : Int) ≤ r59.toInt by omega))).elim)
                refine lv_iload hx hb dX12_by_93 (lv_at hl 0 rfl) ?_
                exact tk_iret hC hr hlocks hK ⟨hT, hF, (Or.inr (Or.inl ⟨(show 0 ≤ r59.toInt by omega), (show r59.toInt ≤ 100000100 by omega), (show 0 ≤ a1.toInt by omega), (show a1.toInt ≤ 3 by omega), (show 0 ≤ a2.toInt by omega), (show a2.toInt ≤ 9 by omega), (show 0 ≤ a3.toInt by omega), (show a3.toInt ≤ 9 by omega), (show 0 ≤ a4.toInt by omega), (show a4.toInt ≤ 1 by omega), ⟨x17, c74, (show 1 ≤ x17.toInt by omega), (show x17.toInt ≤ 10 by omega)⟩, ⟨x8, c73, (show 1 ≤ x8.toInt by omega), (show x8.toInt ≤ 4 by omega)⟩⟩))⟩ hw dX12_by_95
              · have c76 : a4.toInt = (0 : Int) := wk_eq.mp c76
                refine lv_aload_n hx hb dX12_by_74 rfl (lv_at hl 1 rfl) ?_
                refine tk_getA hC hK hw hT hinX12 kM_at0 (by decide) rfl 29 (by decide) (List.mem_of_getElem? (i := 1) rfl) rfl rfl dX12_by_75 ?_
                refine lv_iload_n hx hb dX12_by_78 rfl (lv_at hl 3 rfl) ?_
                refine tk_iald hC hK hw hT kM_at14 rfl rfl (show 0 ≤ a2.toInt by omega) (show a2.toInt < 10 by omega) dX12_by_79 (fun x77 c78 rx77 tx77 => ?_)
                have c78 : gi w61 14 (a2.toInt).toNat = x77 := (congrArg (gi w61 14) (congrArg Int.toNat (show a2.toInt = a2.toInt by omega))).trans c78
                refine wk_top x56 (c78.symm.trans c75) ?_
                refine lv_goto (tgt := 95) hx hb dX12_by_80 (by decide) ?_
                exact tk_iret hC hr hlocks hK ⟨hT, hF, (Or.inr (Or.inl ⟨(show 0 ≤ x56.toInt by omega), (show x56.toInt ≤ 100000100 by omega), (show 0 ≤ a1.toInt by omega), (show a1.toInt ≤ 3 by omega), (show 0 ≤ a2.toInt by omega), (show a2.toInt ≤ 9 by omega), (show 0 ≤ a3.toInt by omega), (show a3.toInt ≤ 9 by omega), (show 0 ≤ a4.toInt by omega), (show a4.toInt ≤ 1 by omega), ⟨x17, c74, (show 1 ≤ x17.toInt by omega), (show x17.toInt ≤ 10 by omega)⟩, ⟨x8, c73, (show 1 ≤ x8.toInt by omega), (show x8.toInt ≤ 4 by omega)⟩⟩))⟩ hw dX12_by_95
            · refine lv_istore (lv' := [(5, .int r59), (0, .ref (ad 0)), (1, .int a1), (2, .int a2), (3, .int a3), (4, .int a4)]) hx hb dX12_by_67 hl (by decide) rfl (fun ls hl => ?_)
              refine lv_iload hx hb dX12_by_69 (lv_at hl 5 rfl) ?_
              refine lv_if_ne (tgt := 83) hx hb dX12_by_71 (by decide) (fun c79 => ?_) (fun c79 => ?_)
              · have c79 : ¬ a4.toInt = (0 : Int) := wk_eqF c79
                refine lv_iload hx hb dX12_by_83 (lv_at hl 0 rfl) ?_
                refine lv_if_ge (tgt := 93) hx hb dX12_by_85 (by decide) (fun _ => ?_) (fun c => (c (wk_le.mpr (show (0 : Int) ≤ r59.toInt by omega))).elim)
                refine lv_iload hx hb dX12_by_93 (lv_at hl 0 rfl) ?_
                exact tk_iret hC hr hlocks hK ⟨hT, hF, (Or.inr (Or.inr (Or.inl ⟨(show 0 ≤ r59.toInt by omega), (show r59.toInt ≤ 11 by omega), (show 0 ≤ a1.toInt by omega), (show a1.toInt ≤ 3 by omega), (show 0 ≤ a2.toInt by omega), (show a2.toInt ≤ 9 by omega), (show 0 ≤ a3.toInt by omega), (show a3.toInt ≤ 9 by omega), (show 1 ≤ a4.toInt by omega), (show a4.toInt ≤ 1 by omega), ⟨x17, c74, (show 1 ≤ x17.toInt by omega), (show x17.toInt ≤ 10 by omega)⟩, ⟨x69, c70, (show 1 ≤ x69.toInt by omega), (show x69.toInt ≤ 12 by omega)⟩, ⟨x8, c73, (show 1 ≤ x8.toInt by omega), (show x8.toInt ≤ 4 by omega)⟩, c71⟩)))⟩ hw dX12_by_95
              · have c79 : a4.toInt = (0 : Int) := wk_eq.mp c79
                refine lv_aload_n hx hb dX12_by_74 rfl (lv_at hl 1 rfl) ?_
                refine tk_getA hC hK hw hT hinX12 kM_at0 (by decide) rfl 29 (by decide) (List.mem_of_getElem? (i := 1) rfl) rfl rfl dX12_by_75 ?_
                refine lv_iload_n hx hb dX12_by_78 rfl (lv_at hl 3 rfl) ?_
                refine tk_iald hC hK hw hT kM_at14 rfl rfl (show 0 ≤ a2.toInt by omega) (show a2.toInt < 10 by omega) dX12_by_79 (fun x80 c81 rx80 tx80 => ?_)
                have c81 : gi w61 14 (a2.toInt).toNat = x80 := (congrArg (gi w61 14) (congrArg Int.toNat (show a2.toInt = a2.toInt by omega))).trans c81
                refine wk_top x56 (c81.symm.trans c75) ?_
                refine lv_goto (tgt := 95) hx hb dX12_by_80 (by decide) ?_
                exact tk_iret hC hr hlocks hK ⟨hT, hF, (Or.inr (Or.inl ⟨(show 0 ≤ x56.toInt by omega), (show x56.toInt ≤ 100000100 by omega), (show 0 ≤ a1.toInt by omega), (show a1.toInt ≤ 3 by omega), (show 0 ≤ a2.toInt by omega), (show a2.toInt ≤ 9 by omega), (show 0 ≤ a3.toInt by omega), (show a3.toInt ≤ 9 by omega), (show 0 ≤ a4.toInt by omega), (show a4.toInt ≤ 1 by omega), ⟨x17, c74, (show 1 ≤ x17.toInt by omega), (show x17.toInt ≤ 10 by omega)⟩, ⟨x8, c73, (show 1 ≤ x8.toInt by omega), (show x8.toInt ≤ 4 by omega)⟩⟩))⟩ hw dX12_by_95
            · refine lv_istore (lv' := [(5, .int (-1)), (0, .ref (ad 0)), (1, .int a1), (2, .int a2), (3, .int a3), (4, .int a4)]) hx hb dX12_by_67 hl (by decide) rfl (fun ls hl => ?_)
              refine lv_iload hx hb dX12_by_69 (lv_at hl 5 rfl) ?_
              refine lv_if_ne (tgt := 83) hx hb dX12_by_71 (by decide) (fun c82 => ?_) (fun c82 => ?_)
              · have c82 : ¬ a4.toInt = (0 : Int) := wk_eqF c82
                refine lv_iload hx hb dX12_by_83 (lv_at hl 0 rfl) ?_
                refine lv_if_ge (tgt := 93) hx hb dX12_by_85 (by decide) (fun c => absurd c (by decide)) (fun _ => ?_)
                refine lv_bipush (v := (-2)) hx hb dX12_by_88 (by decide) ?_
                refine lv_goto (tgt := 95) hx hb dX12_by_90 (by decide) ?_
                exact tk_iret hC hr hlocks hK ⟨hT, hF, (Or.inl ⟨rfl, (show 0 ≤ a1.toInt by omega), (show a1.toInt ≤ 3 by omega), (show 0 ≤ a2.toInt by omega), (show a2.toInt ≤ 9 by omega), (show 0 ≤ a3.toInt by omega), (show a3.toInt ≤ 9 by omega), (show 0 ≤ a4.toInt by omega), (show a4.toInt ≤ 1 by omega), ⟨x17, c74, (show 1 ≤ x17.toInt by omega), (show x17.toInt ≤ 10 by omega)⟩, ⟨x8, c73, (show 1 ≤ x8.toInt by omega), (show x8.toInt ≤ 4 by omega)⟩⟩)⟩ hw dX12_by_95
              · have c82 : a4.toInt = (0 : Int) := wk_eq.mp c82
                refine lv_aload_n hx hb dX12_by_74 rfl (lv_at hl 1 rfl) ?_
                refine tk_getA hC hK hw hT hinX12 kM_at0 (by decide) rfl 29 (by decide) (List.mem_of_getElem? (i := 1) rfl) rfl rfl dX12_by_75 ?_
                refine lv_iload_n hx hb dX12_by_78 rfl (lv_at hl 3 rfl) ?_
                refine tk_iald hC hK hw hT kM_at14 rfl rfl (show 0 ≤ a2.toInt by omega) (show a2.toInt < 10 by omega) dX12_by_79 (fun x83 c84 rx83 tx83 => ?_)
                have c84 : gi w61 14 (a2.toInt).toNat = x83 := (congrArg (gi w61 14) (congrArg Int.toNat (show a2.toInt = a2.toInt by omega))).trans c84
                refine wk_top x56 (c84.symm.trans c75) ?_
                refine lv_goto (tgt := 95) hx hb dX12_by_80 (by decide) ?_
                exact tk_iret hC hr hlocks hK ⟨hT, hF, (Or.inr (Or.inl ⟨(show 0 ≤ x56.toInt by omega), (show x56.toInt ≤ 100000100 by omega), (show 0 ≤ a1.toInt by omega), (show a1.toInt ≤ 3 by omega), (show 0 ≤ a2.toInt by omega), (show a2.toInt ≤ 9 by omega), (show 0 ≤ a3.toInt by omega), (show a3.toInt ≤ 9 by omega), (show 0 ≤ a4.toInt by omega), (show a4.toInt ≤ 1 by omega), ⟨x17, c74, (show 1 ≤ x17.toInt by omega), (show x17.toInt ≤ 10 by omega)⟩, ⟨x8, c73, (show 1 ≤ x8.toInt by omega), (show x8.toInt ≤ 4 by omega)⟩⟩))⟩ hw dX12_by_95
          · have c58 : x56.toInt = (100000000 : Int) := wk_eq.mp c58
            refine lv_bipush (v := (-2)) hx hb dX12_by_59 (by decide) ?_
            exact tk_iret hC hr hlocks hK ⟨hT, hF, (Or.inl ⟨rfl, (show 0 ≤ a1.toInt by omega), (show a1.toInt ≤ 3 by omega), (show 0 ≤ a2.toInt by omega), (show a2.toInt ≤ 9 by omega), (show 0 ≤ a3.toInt by omega), (show a3.toInt ≤ 9 by omega), (show 0 ≤ a4.toInt by omega), (show a4.toInt ≤ 1 by omega), ⟨x17, c55, (show 1 ≤ x17.toInt by omega), (show x17.toInt ≤ 10 by omega)⟩, ⟨x8, c54, (show 1 ≤ x8.toInt by omega), (show x8.toInt ≤ 4 by omega)⟩⟩)⟩ hw dX12_by_61
abbrev P_X12_setsOut_1 (ad : Nat → Nat) (cy : Nat → ClassId) (B : Int) (qr : Nat) (s1 : Int) (a1 : Int32) (a2 : Int32) (a3 : Int32) (a4 : Int32) (a5 : Int32) (a6 : Int32) (w0 : va_W) : va_W → Prop := fun u => TW ksM ad cy B qr 12 u ∧ FE ksM [(71, 216, 243), (71, 217, 244), (71, 218, 245), (71, 219, 246), (71, 220, 247), (71, 221, 248), (71, 222, 249), (71, 223, 250), (71, 224, 251)] w0 u ∧ ((True))
set_option maxHeartbeats 4000000 in
set_option maxRecDepth 100000 in
theorem k_X12_setsOut_1 (l : Launch) (adK adV : Nat → Nat) (dC : Nat → ClassId) (dI : Nat → Nat → Nat) (cy : Nat → ClassId) (ad : Nat → Nat) (B : Int) (hB0 : 100000 ≤ B) (hB1 : B ≤ 1073741824) (qr : Nat) (s1 : Int)  (a1 : Int32) (ra1 : 0 ≤ a1.toInt) (ta1 : a1.toInt ≤ 3) (a2 : Int32) (ra2 : 0 ≤ a2.toInt) (ta2 : a2.toInt ≤ 9) (a3 : Int32) (ra3 : 0 ≤ a3.toInt) (ta3 : a3.toInt ≤ 9) (a4 : Int32) (ra4 : 0 ≤ a4.toInt) (ta4 : a4.toInt ≤ 3) (a5 : Int32) (ra5 : (-1) ≤ a5.toInt) (ta5 : a5.toInt ≤ 5) (a6 : Int32) (ra6 : 0 ≤ a6.toInt) (ta6 : a6.toInt ≤ 99999) (w0 : va_W) (sz : Nat) (hT : TW ksM ad cy B qr 12 w0)  : Met l yX12_setsOut wsX12_setsOut ({ frames := 1, cells := 0, slots := 0, locals := 12 }) (va_Pc [.ref (ad 0), .int a1, .int a2, .int a3, .int a4, .int a5, .int a6] (wpreS adK adV dC dI cy sz w0)) (va_Qv (P_X12_setsOut_1 ad cy B qr s1 a1 a2 a3 a4 a5 a6 w0) (fun u : va_W => wpost dC dI cy (va_A w0 sz) u) (va_A w0 sz)) 0 0 (va_A w0 sz) := by
  refine Met.ofW (cc := cX12_setsOut) (maxL := 8) (ret := none) (by decide) rfl ?_
  intro p e s m args below meth c s₁ Bk hml hv
  obtain ⟨rfl, ⟨hsz, hP, hK, hD0⟩, hE, hSR⟩ := hv
  have hx := Bk.exec
  have hb := Bk.bytes
  have hr := Bk.returns
  have hlocks := Bk.notSynchronized
  have hC : CallFix p m c cX12_setsOut 8 s _ wsX12_setsOut RX12 := ⟨hx, hb, hml, findClass_of_methodNamed Bk.named, atoms_spec (ws := wsX12_setsOut) Bk.pre⟩
  subst hsz
  have hD := hD0.self (sz := s.heap.size)
  generalize hAe : va_A w0 s.heap.size = A at hD hE ⊢
  have hA : ∀ q : Nat, s.heap.size ≤ q → A q := fun q h => by rw [← hAe]; exact Or.inr h
  have hw : Wd dC dI A s.heap s.heap [] w0 := ⟨hP, hD, va_S.rf⟩
  have hF : FE ksM [(71, 216, 243), (71, 217, 244), (71, 218, 245), (71, 219, 246), (71, 220, 247), (71, 221, 248), (71, 222, 249), (71, 223, 250), (71, 224, 251)] w0 w0 := FE.rf
  have hl := lv_entry ([.ref (ad 0), .int a1, .int a2, .int a3, .int a4, .int a5, .int a6]) (n := 8) (Nat.le_of_ble_eq_true rfl)
  rw [lg_entry_eq]
  generalize (lg_sl ([.ref (ad 0), .int a1, .int a2, .int a3, .int a4, .int a5, .int a6]) ++ List.replicate (8 - (lg_sl ([.ref (ad 0), .int a1, .int a2, .int a3, .int a4, .int a5, .int a6])).length) Slot.unset).toArray = ls at hl ⊢
  have hl : lv_has ls 8 [(0, .ref (ad 0)), (1, .int a1), (2, .int a2), (3, .int a3), (4, .int a4), (5, .int a5), (6, .int a6)] := hl
  generalize hloc : ([] : List Loc) = locs at hw ⊢
  have hinX12 : ∀ w ∈ u_ws RX12 TX12 42, w ∈ wsX12_setsOut := fun _ h => List.mem_cons_of_mem _ (List.mem_append_right _ (h))
  refine lv_sipush (v := 216) hx hb dX12_setsOut_0 (by decide) ?_
  refine lv_bipush (v := 9) hx hb dX12_setsOut_3 (by decide) ?_
  refine lv_iload_n hx hb dX12_setsOut_5 rfl (lv_at hl 1 rfl) ?_
  refine lv_imul hx hb dX12_setsOut_6 ?_
  refine lv_topi (fun x1 ex1 => ?_)
  have ex1 : x1.toInt = (9 : Int) * a1.toInt := by rw [ex1]; exact wk_mul (show (-2147483648) ≤ (9 : Int) * a1.toInt by omega) (show (9 : Int) * a1.toInt ≤ 2147483647 by omega)
  refine lv_iadd hx hb dX12_setsOut_7 ?_
  refine lv_topi (fun x2 ex2 => ?_)
  have ex2 : x2.toInt = (216 : Int) + x1.toInt := by rw [ex2]; exact wk_add (show (-2147483648) ≤ (216 : Int) + x1.toInt by omega) (show (216 : Int) + x1.toInt ≤ 2147483647 by omega)
  refine lv_istore (lv' := [(7, .int x2), (0, .ref (ad 0)), (1, .int a1), (2, .int a2), (3, .int a3), (4, .int a4), (5, .int a5), (6, .int a6)]) hx hb dX12_setsOut_8 hl (by decide) rfl (fun ls hl => ?_)
  refine lv_aload_n hx hb dX12_setsOut_10 rfl (lv_at hl 1 rfl) ?_
  refine tk_getA hC hK hw hT hinX12 kM_at0 (by decide) rfl 26 (by decide) (List.mem_of_getElem? (i := 1) rfl) rfl rfl dX12_setsOut_11 ?_
  refine lv_iload hx hb dX12_setsOut_14 (lv_at hl 0 rfl) ?_
  refine lv_iload_n hx hb dX12_setsOut_16 rfl (lv_at hl 3 rfl) ?_
  refine tk_iastR hC hK hw hT kM_at12 (by decide) rfl (show 0 ≤ x2.toInt by omega) (show x2.toInt < 296 by omega) (tk_rgS rfl 216 9 4 0 9 (by decide +kernel) ⟨(a1.toInt - 0).toNat, by omega, show x2.toInt.toNat = 216 + 9 * (a1.toInt - 0).toNat by omega⟩ (show 0 ≤ a2.toInt by omega) (show a2.toInt ≤ 9 by omega)) dX12_setsOut_17 (fun H locs w3 hw hT k5 c4 => ?_)
  have hF := hF.put kM_at12 (inE_of (a := 216) (b := 243) (by decide) (show 216 ≤ x2.toInt.toNat by omega) (show x2.toInt.toNat ≤ 243 by omega)) k5
  refine lv_aload_n hx hb dX12_setsOut_18 rfl (lv_at hl 1 rfl) ?_
  refine tk_getA hC hK hw hT hinX12 kM_at0 (by decide) rfl 26 (by decide) (List.mem_of_getElem? (i := 1) rfl) rfl rfl dX12_setsOut_19 ?_
  refine lv_iload hx hb dX12_setsOut_22 (lv_at hl 0 rfl) ?_
  refine lv_iconst (v := 1) hx hb dX12_setsOut_24 (by decide) ?_
  refine lv_iadd hx hb dX12_setsOut_25 ?_
  refine lv_topi (fun x6 ex6 => ?_)
  have ex6 : x6.toInt = x2.toInt + (1 : Int) := by rw [ex6]; exact wk_add (show (-2147483648) ≤ x2.toInt + (1 : Int) by omega) (show x2.toInt + (1 : Int) ≤ 2147483647 by omega)
  refine lv_iload_n hx hb dX12_setsOut_26 rfl (lv_at hl 4 rfl) ?_
  refine tk_iastR hC hK hw hT kM_at12 (by decide) rfl (show 0 ≤ x6.toInt by omega) (show x6.toInt < 296 by omega) (tk_rgS rfl 217 9 4 0 9 (by decide +kernel) ⟨(a1.toInt - 0).toNat, by omega, show x6.toInt.toNat = 217 + 9 * (a1.toInt - 0).toNat by omega⟩ (show 0 ≤ a3.toInt by omega) (show a3.toInt ≤ 9 by omega)) dX12_setsOut_27 (fun H locs w7 hw hT k9 c8 => ?_)
  have hF := hF.put kM_at12 (inE_of (a := 217) (b := 244) (by decide) (show 217 ≤ x6.toInt.toNat by omega) (show x6.toInt.toNat ≤ 244 by omega)) k9
  refine lv_aload_n hx hb dX12_setsOut_28 rfl (lv_at hl 1 rfl) ?_
  refine tk_getA hC hK hw hT hinX12 kM_at0 (by decide) rfl 26 (by decide) (List.mem_of_getElem? (i := 1) rfl) rfl rfl dX12_setsOut_29 ?_
  refine lv_iload hx hb dX12_setsOut_32 (lv_at hl 0 rfl) ?_
  refine lv_iconst (v := 2) hx hb dX12_setsOut_34 (by decide) ?_
  refine lv_iadd hx hb dX12_setsOut_35 ?_
  refine lv_topi (fun x10 ex10 => ?_)
  have ex10 : x10.toInt = x2.toInt + (2 : Int) := by rw [ex10]; exact wk_add (show (-2147483648) ≤ x2.toInt + (2 : Int) by omega) (show x2.toInt + (2 : Int) ≤ 2147483647 by omega)
  refine lv_iload hx hb dX12_setsOut_36 (lv_at hl 5 rfl) ?_
  refine tk_iastR hC hK hw hT kM_at12 (by decide) rfl (show 0 ≤ x10.toInt by omega) (show x10.toInt < 296 by omega) (tk_rgS rfl 218 9 4 0 3 (by decide +kernel) ⟨(a1.toInt - 0).toNat, by omega, show x10.toInt.toNat = 218 + 9 * (a1.toInt - 0).toNat by omega⟩ (show 0 ≤ a4.toInt by omega) (show a4.toInt ≤ 3 by omega)) dX12_setsOut_38 (fun H locs w11 hw hT k13 c12 => ?_)
  have hF := hF.put kM_at12 (inE_of (a := 218) (b := 245) (by decide) (show 218 ≤ x10.toInt.toNat by omega) (show x10.toInt.toNat ≤ 245 by omega)) k13
  refine lv_aload_n hx hb dX12_setsOut_39 rfl (lv_at hl 1 rfl) ?_
  refine tk_getA hC hK hw hT hinX12 kM_at0 (by decide) rfl 26 (by decide) (List.mem_of_getElem? (i := 1) rfl) rfl rfl dX12_setsOut_40 ?_
  refine lv_iload hx hb dX12_setsOut_43 (lv_at hl 0 rfl) ?_
  refine lv_iconst (v := 3) hx hb dX12_setsOut_45 (by decide) ?_
  refine lv_iadd hx hb dX12_setsOut_46 ?_
  refine lv_topi (fun x14 ex14 => ?_)
  have ex14 : x14.toInt = x2.toInt + (3 : Int) := by rw [ex14]; exact wk_add (show (-2147483648) ≤ x2.toInt + (3 : Int) by omega) (show x2.toInt + (3 : Int) ≤ 2147483647 by omega)
  refine lv_iload hx hb dX12_setsOut_47 (lv_at hl 6 rfl) ?_
  refine tk_iastR hC hK hw hT kM_at12 (by decide) rfl (show 0 ≤ x14.toInt by omega) (show x14.toInt < 296 by omega) (tk_rgS rfl 219 9 4 (-1) 5 (by decide +kernel) ⟨(a1.toInt - 0).toNat, by omega, show x14.toInt.toNat = 219 + 9 * (a1.toInt - 0).toNat by omega⟩ (show (-1) ≤ a5.toInt by omega) (show a5.toInt ≤ 5 by omega)) dX12_setsOut_49 (fun H locs w15 hw hT k17 c16 => ?_)
  have hF := hF.put kM_at12 (inE_of (a := 219) (b := 246) (by decide) (show 219 ≤ x14.toInt.toNat by omega) (show x14.toInt.toNat ≤ 246 by omega)) k17
  refine lv_aload_n hx hb dX12_setsOut_50 rfl (lv_at hl 1 rfl) ?_
  refine tk_getA hC hK hw hT hinX12 kM_at0 (by decide) rfl 26 (by decide) (List.mem_of_getElem? (i := 1) rfl) rfl rfl dX12_setsOut_51 ?_
  refine lv_iload hx hb dX12_setsOut_54 (lv_at hl 0 rfl) ?_
  refine lv_iconst (v := 4) hx hb dX12_setsOut_56 (by decide) ?_
  refine lv_iadd hx hb dX12_setsOut_57 ?_
  refine lv_topi (fun x18 ex18 => ?_)
  have ex18 : x18.toInt = x2.toInt + (4 : Int) := by rw [ex18]; exact wk_add (show (-2147483648) ≤ x2.toInt + (4 : Int) by omega) (show x2.toInt + (4 : Int) ≤ 2147483647 by omega)
  refine lv_iload hx hb dX12_setsOut_58 (lv_at hl 7 rfl) ?_
  refine tk_iastR hC hK hw hT kM_at12 (by decide) rfl (show 0 ≤ x18.toInt by omega) (show x18.toInt < 296 by omega) ((tk_rgB rfl 220 9 4 (by decide +kernel) ⟨(a1.toInt - 0).toNat, by omega, show x18.toInt.toNat = 220 + 9 * (a1.toInt - 0).toNat by omega⟩).mpr ⟨(show 0 ≤ a6.toInt by omega), (show a6.toInt ≤ B by omega)⟩) dX12_setsOut_60 (fun H locs w19 hw hT k21 c20 => ?_)
  have hF := hF.put kM_at12 (inE_of (a := 220) (b := 247) (by decide) (show 220 ≤ x18.toInt.toNat by omega) (show x18.toInt.toNat ≤ 247 by omega)) k21
  refine lv_aload_n hx hb dX12_setsOut_61 rfl (lv_at hl 1 rfl) ?_
  refine tk_getA hC hK hw hT hinX12 kM_at0 (by decide) rfl 26 (by decide) (List.mem_of_getElem? (i := 1) rfl) rfl rfl dX12_setsOut_62 ?_
  refine lv_iload hx hb dX12_setsOut_65 (lv_at hl 0 rfl) ?_
  refine lv_iconst (v := 5) hx hb dX12_setsOut_67 (by decide) ?_
  refine lv_iadd hx hb dX12_setsOut_68 ?_
  refine lv_topi (fun x22 ex22 => ?_)
  have ex22 : x22.toInt = x2.toInt + (5 : Int) := by rw [ex22]; exact wk_add (show (-2147483648) ≤ x2.toInt + (5 : Int) by omega) (show x2.toInt + (5 : Int) ≤ 2147483647 by omega)
  refine lv_iconst (v := 0) hx hb dX12_setsOut_69 (by decide) ?_
  refine tk_iastR hC hK hw hT kM_at12 (by decide) rfl (show 0 ≤ x22.toInt by omega) (show x22.toInt < 296 by omega) (tk_rg0 rfl (show 0 ≤ B by omega) (by decide)) dX12_setsOut_70 (fun H locs w23 hw hT k25 c24 => ?_)
  have hF := hF.put kM_at12 (inE_of (a := 221) (b := 248) (by decide) (show 221 ≤ x22.toInt.toNat by omega) (show x22.toInt.toNat ≤ 248 by omega)) k25
  refine lv_aload_n hx hb dX12_setsOut_71 rfl (lv_at hl 1 rfl) ?_
  refine tk_getA hC hK hw hT hinX12 kM_at0 (by decide) rfl 26 (by decide) (List.mem_of_getElem? (i := 1) rfl) rfl rfl dX12_setsOut_72 ?_
  refine lv_iload hx hb dX12_setsOut_75 (lv_at hl 0 rfl) ?_
  refine lv_bipush (v := 6) hx hb dX12_setsOut_77 (by decide) ?_
  refine lv_iadd hx hb dX12_setsOut_79 ?_
  refine lv_topi (fun x26 ex26 => ?_)
  have ex26 : x26.toInt = x2.toInt + (6 : Int) := by rw [ex26]; exact wk_add (show (-2147483648) ≤ x2.toInt + (6 : Int) by omega) (show x2.toInt + (6 : Int) ≤ 2147483647 by omega)
  refine lv_iconst (v := 0) hx hb dX12_setsOut_80 (by decide) ?_
  refine tk_iastR hC hK hw hT kM_at12 (by decide) rfl (show 0 ≤ x26.toInt by omega) (show x26.toInt < 296 by omega) (tk_rg0 rfl (show 0 ≤ B by omega) (by decide)) dX12_setsOut_81 (fun H locs w27 hw hT k29 c28 => ?_)
  have hF := hF.put kM_at12 (inE_of (a := 222) (b := 249) (by decide) (show 222 ≤ x26.toInt.toNat by omega) (show x26.toInt.toNat ≤ 249 by omega)) k29
  refine lv_aload_n hx hb dX12_setsOut_82 rfl (lv_at hl 1 rfl) ?_
  refine tk_getA hC hK hw hT hinX12 kM_at0 (by decide) rfl 26 (by decide) (List.mem_of_getElem? (i := 1) rfl) rfl rfl dX12_setsOut_83 ?_
  refine lv_iload hx hb dX12_setsOut_86 (lv_at hl 0 rfl) ?_
  refine lv_bipush (v := 7) hx hb dX12_setsOut_88 (by decide) ?_
  refine lv_iadd hx hb dX12_setsOut_90 ?_
  refine lv_topi (fun x30 ex30 => ?_)
  have ex30 : x30.toInt = x2.toInt + (7 : Int) := by rw [ex30]; exact wk_add (show (-2147483648) ≤ x2.toInt + (7 : Int) by omega) (show x2.toInt + (7 : Int) ≤ 2147483647 by omega)
  refine lv_iconst (v := (-1)) hx hb dX12_setsOut_91 (by decide) ?_
  refine tk_iastR hC hK hw hT kM_at12 (by decide) rfl (show 0 ≤ x30.toInt by omega) (show x30.toInt < 296 by omega) (tk_rgS rfl 223 9 4 (-1) (-1) (by decide +kernel) ⟨(a1.toInt - 0).toNat, by omega, show x30.toInt.toNat = 223 + 9 * (a1.toInt - 0).toNat by omega⟩ (by decide) (by decide)) dX12_setsOut_92 (fun H locs w31 hw hT k33 c32 => ?_)
  have hF := hF.put kM_at12 (inE_of (a := 223) (b := 250) (by decide) (show 223 ≤ x30.toInt.toNat by omega) (show x30.toInt.toNat ≤ 250 by omega)) k33
  refine lv_aload_n hx hb dX12_setsOut_93 rfl (lv_at hl 1 rfl) ?_
  refine tk_getA hC hK hw hT hinX12 kM_at0 (by decide) rfl 26 (by decide) (List.mem_of_getElem? (i := 1) rfl) rfl rfl dX12_setsOut_94 ?_
  refine lv_iload hx hb dX12_setsOut_97 (lv_at hl 0 rfl) ?_
  refine lv_bipush (v := 8) hx hb dX12_setsOut_99 (by decide) ?_
  refine lv_iadd hx hb dX12_setsOut_101 ?_
  refine lv_topi (fun x34 ex34 => ?_)
  have ex34 : x34.toInt = x2.toInt + (8 : Int) := by rw [ex34]; exact wk_add (show (-2147483648) ≤ x2.toInt + (8 : Int) by omega) (show x2.toInt + (8 : Int) ≤ 2147483647 by omega)
  refine lv_iconst (v := (-1)) hx hb dX12_setsOut_102 (by decide) ?_
  refine tk_iastR hC hK hw hT kM_at12 (by decide) rfl (show 0 ≤ x34.toInt by omega) (show x34.toInt < 296 by omega) (tk_rgS rfl 224 9 4 (-1) (-1) (by decide +kernel) ⟨(a1.toInt - 0).toNat, by omega, show x34.toInt.toNat = 224 + 9 * (a1.toInt - 0).toNat by omega⟩ (by decide) (by decide)) dX12_setsOut_103 (fun H locs w35 hw hT k37 c36 => ?_)
  have hF := hF.put kM_at12 (inE_of (a := 224) (b := 251) (by decide) (show 224 ≤ x34.toInt.toNat by omega) (show x34.toInt.toNat ≤ 251 by omega)) k37
  exact tk_vret hC hr hlocks hK ⟨hT, hF, trivial⟩ hw dX12_setsOut_104
abbrev P_X12_isRule_1 (ad : Nat → Nat) (cy : Nat → ClassId) (B : Int) (qr : Nat) (s1 : Int) (a1 : Int32) (w0 : va_W) : Int32 → va_W → Prop := fun r u => TW ksM ad cy B qr 12 u ∧ FE ksM ([] : List (Nat × Nat × Nat)) w0 u ∧ ((r = 0) ∨ (r = 1 ∧ 0 ≤ a1.toInt ∧ a1.toInt ≤ 5 ∧ (∃ y : Int32, gi u 0 2 = y ∧ 1 ≤ y.toInt ∧ y.toInt ≤ 6)))
set_option maxHeartbeats 4000000 in
set_option maxRecDepth 100000 in
theorem k_X12_isRule_1 (l : Launch) (adK adV : Nat → Nat) (dC : Nat → ClassId) (dI : Nat → Nat → Nat) (cy : Nat → ClassId) (ad : Nat → Nat) (B : Int) (hB0 : 100000 ≤ B) (hB1 : B ≤ 1073741824) (qr : Nat) (s1 : Int)  (a1 : Int32) (w0 : va_W) (sz : Nat) (hT : TW ksM ad cy B qr 12 w0)  : Met l yX12_isRule wsX12_isRule ({ frames := 1, cells := 0, slots := 0, locals := 12 }) (va_Pc [.ref (ad 0), .int a1] (wpreS adK adV dC dI cy sz w0)) (va_Qi (P_X12_isRule_1 ad cy B qr s1 a1 w0) (fun u : va_W => wpost dC dI cy (va_A w0 sz) u) (va_A w0 sz)) 0 0 (va_A w0 sz) := by
  refine Met.ofW (cc := cX12_isRule) (maxL := 2) (ret := (some .boolean)) (by decide) rfl ?_
  intro p e s m args below meth c s₁ Bk hml hv
  obtain ⟨rfl, ⟨hsz, hP, hK, hD0⟩, hE, hSR⟩ := hv
  have hx := Bk.exec
  have hb := Bk.bytes
  have hr := Bk.returns
  have hlocks := Bk.notSynchronized
  have hC : CallFix p m c cX12_isRule 2 s _ wsX12_isRule RX12 := ⟨hx, hb, hml, findClass_of_methodNamed Bk.named, atoms_spec (ws := wsX12_isRule) Bk.pre⟩
  subst hsz
  have hD := hD0.self (sz := s.heap.size)
  generalize hAe : va_A w0 s.heap.size = A at hD hE ⊢
  have hA : ∀ q : Nat, s.heap.size ≤ q → A q := fun q h => by rw [← hAe]; exact Or.inr h
  have hw : Wd dC dI A s.heap s.heap [] w0 := ⟨hP, hD, va_S.rf⟩
  have hF : FE ksM ([] : List (Nat × Nat × Nat)) w0 w0 := FE.rf
  have hl := lv_entry ([.ref (ad 0), .int a1]) (n := 2) (Nat.le_of_ble_eq_true rfl)
  rw [lg_entry_eq]
  generalize (lg_sl ([.ref (ad 0), .int a1]) ++ List.replicate (2 - (lg_sl ([.ref (ad 0), .int a1])).length) Slot.unset).toArray = ls at hl ⊢
  have hl : lv_has ls 2 [(0, .ref (ad 0)), (1, .int a1)] := hl
  generalize hloc : ([] : List Loc) = locs at hw ⊢
  have hinX12 : ∀ w ∈ u_ws RX12 TX12 42, w ∈ wsX12_isRule := fun _ h => List.mem_cons_of_mem _ (List.mem_append_right _ (h))
  have J16 : ∀ (H : Heap) (locs : List Loc) (ls : Array Slot) (w1 : va_W), Wd dC dI A s.heap H locs w1 → TW ksM ad cy B qr 12 w1 → FE ksM ([] : List (Nat × Nat × Nat)) w0 w1 → lv_has ls 2 [(0, .ref (ad 0)), (1, .int a1)] → W p l e ({ frames := 1, cells := 0, slots := 0, locals := 12 }) s m (List.toArray [.ref (ad 0), .int a1]) below meth c H locs 0 0 (MQ below (va_Qi (P_X12_isRule_1 ad cy B qr s1 a1 w0) (fun u : va_W => wpost dC dI cy A u) A) (List.toArray [.ref (ad 0), .int a1]) s 0 0 A) (F0 m 16 ls []) := by
    intro H locs ls w1 hw hT hF hl
    refine lv_iconst (v := 0) hx hb dX12_isRule_16 (by decide) ?_
    exact tk_zret hC hr rfl hlocks hK ⟨hT, hF, (Or.inl rfl)⟩ hw dX12_isRule_17
  refine lv_iload_n hx hb dX12_isRule_0 rfl (lv_at hl 1 rfl) ?_
  refine lv_if_lt (tgt := 16) hx hb dX12_isRule_1 (by decide) (fun c2 => ?_) (fun c2 => ?_)
  · have c2 : a1.toInt < (0 : Int) := wk_lt.mp c2
    exact J16  s.heap locs ls w0   hw hT hF  (lv_sub hl [0, 1] rfl)
  · have c2 : (0 : Int) ≤ a1.toInt := wk_ltF c2
    refine lv_iload_n hx hb dX12_isRule_4 rfl (lv_at hl 1 rfl) ?_
    refine lv_aload_n hx hb dX12_isRule_5 rfl (lv_at hl 0 rfl) ?_
    refine tk_geti hC hK hw hT hinX12 kM_at0 (by decide) rfl 2 (by decide) (List.mem_of_getElem? (i := 1) rfl) rfl rfl dX12_isRule_6 (fun x3 c4 rx3 tx3 => ?_)
    refine lv_icmp_ge (tgt := 16) hx hb dX12_isRule_9 (by decide) (fun c5 => ?_) (fun c5 => ?_)
    · have c5 : x3.toInt ≤ a1.toInt := wk_le.mp c5
      exact J16  s.heap locs ls w0   hw hT hF  (lv_sub hl [0, 1] rfl)
    · have c5 : a1.toInt < x3.toInt := wk_leF c5
      refine lv_iconst (v := 1) hx hb dX12_isRule_12 (by decide) ?_
      refine lv_goto (tgt := 17) hx hb dX12_isRule_13 (by decide) ?_
      exact tk_zret hC hr rfl hlocks hK ⟨hT, hF, (Or.inr ⟨rfl, (show 0 ≤ a1.toInt by omega), (show a1.toInt ≤ 5 by omega), ⟨x3, c4, (show 1 ≤ x3.toInt by omega), (show x3.toInt ≤ 6 by omega)⟩⟩)⟩ hw dX12_isRule_17
abbrev P_X12_walker_1 (ad : Nat → Nat) (cy : Nat → ClassId) (B : Int) (qr : Nat) (s1 : Int) (a1 : Int32) (a2 : Int32) (a3 : Int32) (a4 : Int32) (a5 : Int32) (w0 : va_W) : Int32 → va_W → Prop := fun r u => TW ksM ad cy B qr 12 u ∧ FE ksM [(71, 5, 5), (71, 216, 243), (71, 217, 244), (71, 218, 245), (71, 219, 246), (71, 220, 247), (71, 221, 248), (71, 222, 249), (71, 223, 250), (71, 224, 251)] w0 u ∧ ((r = (-2)) ∨ (0 ≤ r.toInt ∧ r.toInt ≤ 3 ∧ 0 ≤ a1.toInt ∧ a1.toInt ≤ 9 ∧ 0 ≤ a2.toInt ∧ a2.toInt ≤ 9 ∧ 0 ≤ a3.toInt ∧ a3.toInt ≤ 3 ∧ (-1) ≤ a4.toInt ∧ a4.toInt ≤ 5 ∧ 0 ≤ a5.toInt ∧ a5.toInt ≤ 99999 ∧ (∃ y : Int32, gi u 12 0 = y ∧ 1 ≤ y.toInt ∧ y.toInt ≤ 10) ∧ (∃ y : Int32, gi u 12 4 = y ∧ 1 ≤ y.toInt ∧ y.toInt ≤ 4) ∧ (∃ y : Int32, gi u 12 5 = y ∧ 1 ≤ y.toInt ∧ y.toInt ≤ 4)))
set_option maxHeartbeats 4000000 in
set_option maxRecDepth 100000 in
theorem k_X12_walker_1 (l : Launch) (adK adV : Nat → Nat) (dC : Nat → ClassId) (dI : Nat → Nat → Nat) (cy : Nat → ClassId) (ad : Nat → Nat) (B : Int) (hB0 : 100000 ≤ B) (hB1 : B ≤ 1073741824) (qr : Nat) (s1 : Int)  (a1 : Int32) (a2 : Int32) (a3 : Int32) (a4 : Int32) (a5 : Int32) (w0 : va_W) (sz : Nat) (hT : TW ksM ad cy B qr 12 w0)  : Met l yX12_walker wsX12_walker ({ frames := 2, cells := 0, slots := 0, locals := 39 }) (va_Pc [.ref (ad 0), .int a1, .int a2, .int a3, .int a4, .int a5] (wpreS adK adV dC dI cy sz w0)) (va_Qi (P_X12_walker_1 ad cy B qr s1 a1 a2 a3 a4 a5 w0) (fun u : va_W => wpost dC dI cy (va_A w0 sz) u) (va_A w0 sz)) 0 0 (va_A w0 sz) := by
  refine Met.ofW (cc := cX12_walker) (maxL := 6) (ret := (some .int)) (by decide) rfl ?_
  intro p e s m args below meth c s₁ Bk hml hv
  obtain ⟨rfl, ⟨hsz, hP, hK, hD0⟩, hE, hSR⟩ := hv
  have hx := Bk.exec
  have hb := Bk.bytes
  have hr := Bk.returns
  have hlocks := Bk.notSynchronized
  have hC : CallFix p m c cX12_walker 6 s _ wsX12_walker RX12 := ⟨hx, hb, hml, findClass_of_methodNamed Bk.named, atoms_spec (ws := wsX12_walker) Bk.pre⟩
  subst hsz
  have hD := hD0.self (sz := s.heap.size)
  generalize hAe : va_A w0 s.heap.size = A at hD hE ⊢
  have hA : ∀ q : Nat, s.heap.size ≤ q → A q := fun q h => by rw [← hAe]; exact Or.inr h
  have hw : Wd dC dI A s.heap s.heap [] w0 := ⟨hP, hD, va_S.rf⟩
  have hF : FE ksM [(71, 5, 5), (71, 216, 243), (71, 217, 244), (71, 218, 245), (71, 219, 246), (71, 220, 247), (71, 221, 248), (71, 222, 249), (71, 223, 250), (71, 224, 251)] w0 w0 := FE.rf
  have hl := lv_entry ([.ref (ad 0), .int a1, .int a2, .int a3, .int a4, .int a5]) (n := 6) (Nat.le_of_ble_eq_true rfl)
  rw [lg_entry_eq]
  generalize (lg_sl ([.ref (ad 0), .int a1, .int a2, .int a3, .int a4, .int a5]) ++ List.replicate (6 - (lg_sl ([.ref (ad 0), .int a1, .int a2, .int a3, .int a4, .int a5])).length) Slot.unset).toArray = ls at hl ⊢
  have hl : lv_has ls 6 [(0, .ref (ad 0)), (1, .int a1), (2, .int a2), (3, .int a3), (4, .int a4), (5, .int a5)] := hl
  generalize hloc : ([] : List Loc) = locs at hw ⊢
  have hinX12 : ∀ w ∈ u_ws RX12 TX12 42, w ∈ wsX12_walker := fun _ h => List.mem_cons_of_mem _ (List.mem_append_right _ (h))
  have J57 : ∀ (H : Heap) (locs : List Loc) (ls : Array Slot) (w1 : va_W), Wd dC dI A s.heap H locs w1 → TW ksM ad cy B qr 12 w1 → FE ksM [(71, 5, 5), (71, 216, 243), (71, 217, 244), (71, 218, 245), (71, 219, 246), (71, 220, 247), (71, 221, 248), (71, 222, 249), (71, 223, 250), (71, 224, 251)] w0 w1 → lv_has ls 6 [(0, .ref (ad 0)), (1, .int a1), (2, .int a2), (3, .int a3), (4, .int a4), (5, .int a5)] → W p l e ({ frames := 2, cells := 0, slots := 0, locals := 39 }) s m (List.toArray [.ref (ad 0), .int a1, .int a2, .int a3, .int a4, .int a5]) below meth c H locs 0 0 (MQ below (va_Qi (P_X12_walker_1 ad cy B qr s1 a1 a2 a3 a4 a5 w0) (fun u : va_W => wpost dC dI cy A u) A) (List.toArray [.ref (ad 0), .int a1, .int a2, .int a3, .int a4, .int a5]) s 0 0 A) (F0 m 57 ls []) := by
    intro H locs ls w1 hw hT hF hl
    refine lv_bipush (v := (-2)) hx hb dX12_walker_57 (by decide) ?_
    exact tk_iret hC hr hlocks hK ⟨hT, hF, (Or.inl rfl)⟩ hw dX12_walker_59
  have J39 : ∀ (f39_12_0 : Int32) (f39_12_4 : Int32) (H : Heap) (locs : List Loc) (ls : Array Slot) (w2 : va_W), 0 ≤ a1.toInt → a1.toInt ≤ 9 → 0 ≤ a2.toInt → a2.toInt ≤ 9 → 0 ≤ a3.toInt → a3.toInt ≤ 3 → (-1) ≤ a4.toInt → a4.toInt ≤ 5 → 1 ≤ f39_12_0.toInt → f39_12_0.toInt ≤ 10 → 1 ≤ f39_12_4.toInt → f39_12_4.toInt ≤ 4 → Wd dC dI A s.heap H locs w2 → TW ksM ad cy B qr 12 w2 → FE ksM [(71, 5, 5), (71, 216, 243), (71, 217, 244), (71, 218, 245), (71, 219, 246), (71, 220, 247), (71, 221, 248), (71, 222, 249), (71, 223, 250), (71, 224, 251)] w0 w2 → gi w2 12 0 = f39_12_0 → gi w2 12 4 = f39_12_4 → lv_has ls 6 [(0, .ref (ad 0)), (1, .int a1), (2, .int a2), (3, .int a3), (4, .int a4), (5, .int a5)] → W p l e ({ frames := 2, cells := 0, slots := 0, locals := 39 }) s m (List.toArray [.ref (ad 0), .int a1, .int a2, .int a3, .int a4, .int a5]) below meth c H locs 0 0 (MQ below (va_Qi (P_X12_walker_1 ad cy B qr s1 a1 a2 a3 a4 a5 w0) (fun u : va_W => wpost dC dI cy A u) A) (List.toArray [.ref (ad 0), .int a1, .int a2, .int a3, .int a4, .int a5]) s 0 0 A) (F0 m 39 ls []) := by
    intro f39_12_0 f39_12_4 H locs ls w2 r3 t4 r5 t6 r7 t8 r9 t10 r11 t12 r14 t15 hw hT hF c13 c16 hl
    refine lv_iload hx hb dX12_walker_39 (lv_at hl 5 rfl) ?_
    refine tk_Si hC hK hw hT hA hE hSR (k_X12_isHour_1 l adK adV dC dI cy ad B (by omega) (by omega) qr s1   a5 w2 H.size hT ) (va_cwS 1 hC.2.2.2.2 gX12_walker_X12_isHour rfl rfl rfl (by decide +kernel) ⟨Nat.le_of_ble_eq_true rfl, Nat.le_of_ble_eq_true rfl⟩) rfl hl.1 rfl (Nat.le_of_ble_eq_true rfl) dX12_walker_41 (fun r17 w19 H locs hp18 hw => ?_)
    obtain ⟨hT, k20, hg23⟩ := hp18
    have hF := hF.tr k20 (by decide)
    have c24 := k20.gi kM_at12 (by decide) c13
    have c25 := k20.gi kM_at12 (by decide) c16
    rcases hg23 with rfl | ⟨rfl, g21, g22⟩
    · refine lv_if_eq (tgt := 57) hx hb dX12_walker_44 (by decide) (fun _ => ?_) (fun c => absurd (by decide) c)
      exact J57  H locs ls w19   hw hT hF  (lv_sub hl [0, 1, 2, 3, 4, 5] rfl)
    · refine lv_if_eq (tgt := 57) hx hb dX12_walker_44 (by decide) (fun c => absurd c (by decide)) (fun _ => ?_)
      refine lv_aload_n hx hb dX12_walker_47 rfl (lv_at hl 0 rfl) ?_
      refine tk_getA hC hK hw hT hinX12 kM_at0 (by decide) rfl 26 (by decide) (List.mem_of_getElem? (i := 1) rfl) rfl rfl dX12_walker_48 ?_
      refine lv_iconst (v := 5) hx hb dX12_walker_51 (by decide) ?_
      refine tk_ialdR hC hK hw hT kM_at12 rfl (by decide) (by decide) dX12_walker_52 (fun x26 c27 Ex26 => ?_)
      have bx26 := tk_rgI rfl 5 1 1 0 4 (by decide +kernel) ⟨0, by decide, by decide⟩ Ex26
      have c27 : gi w19 12 5 = x26 := c27
      refine lv_iconst (v := 4) hx hb dX12_walker_53 (by decide) ?_
      refine lv_icmp_ne (tgt := 60) hx hb dX12_walker_54 (by decide) (fun c28 => ?_) (fun c28 => ?_)
      · have c28 : ¬ x26.toInt = (4 : Int) := wk_eqF c28
        refine lv_aload_n hx hb dX12_walker_60 rfl (lv_at hl 0 rfl) ?_
        refine lv_aload_n hx hb dX12_walker_61 rfl (lv_at hl 0 rfl) ?_
        refine tk_getA hC hK hw hT hinX12 kM_at0 (by decide) rfl 26 (by decide) (List.mem_of_getElem? (i := 1) rfl) rfl rfl dX12_walker_62 ?_
        refine lv_iconst (v := 5) hx hb dX12_walker_65 (by decide) ?_
        refine tk_ialdR hC hK hw hT kM_at12 rfl (by decide) (by decide) dX12_walker_66 (fun x29 c30 Ex29 => ?_)
        refine wk_top x26 (c30.symm.trans c27) ?_
        refine lv_iload_n hx hb dX12_walker_67 rfl (lv_at hl 1 rfl) ?_
        refine lv_iload_n hx hb dX12_walker_68 rfl (lv_at hl 2 rfl) ?_
        refine lv_iload_n hx hb dX12_walker_69 rfl (lv_at hl 3 rfl) ?_
        refine lv_iload hx hb dX12_walker_70 (lv_at hl 4 rfl) ?_
        refine lv_iload hx hb dX12_walker_72 (lv_at hl 5 rfl) ?_
        refine tk_Vv hC hK hw hT hA hE hSR kM_at0 (by decide) rfl (k_X12_setsOut_1 l adK adV dC dI cy ad B (by omega) (by omega) qr s1   x26 (show 0 ≤ x26.toInt by omega) (show x26.toInt ≤ 3 by omega) a1 (show 0 ≤ a1.toInt by omega) (show a1.toInt ≤ 9 by omega) a2 (show 0 ≤ a2.toInt by omega) (show a2.toInt ≤ 9 by omega) a3 (show 0 ≤ a3.toInt by omega) (show a3.toInt ≤ 3 by omega) a4 (show (-1) ≤ a4.toInt by omega) (show a4.toInt ≤ 5 by omega) a5 (show 0 ≤ a5.toInt by omega) (show a5.toInt ≤ 99999 by omega) w19 H.size hT ) (cwV 6 hC.2.2.2.2 gX12_walker_X12_setsOut rfl rfl rfl (by decide +kernel) ⟨Nat.le_of_ble_eq_true rfl, Nat.le_of_ble_eq_true rfl⟩) rfl hl.1 rfl (Nat.le_of_ble_eq_true rfl) dX12_walker_74 (fun w33 H locs hp32 hw => ?_)
        obtain ⟨hT, k34, hg35⟩ := hp32
        have hF := hF.tr k34 (by decide)
        have c36 := k34.gi kM_at12 (by decide) c24
        have c37 := k34.gi kM_at12 (by decide) c25
        have c38 := k34.gi kM_at12 (by decide) c27
        clear hg35
        refine lv_aload_n hx hb dX12_walker_77 rfl (lv_at hl 0 rfl) ?_
        refine tk_getA hC hK hw hT hinX12 kM_at0 (by decide) rfl 26 (by decide) (List.mem_of_getElem? (i := 1) rfl) rfl rfl dX12_walker_78 ?_
        refine lv_iconst (v := 5) hx hb dX12_walker_81 (by decide) ?_
        refine lv_dup2_11 hx hb dX12_walker_82 rfl rfl ?_
        refine tk_ialdR hC hK hw hT kM_at12 rfl (by decide) (by decide) dX12_walker_83 (fun x39 c40 Ex39 => ?_)
        refine wk_top x26 (c40.symm.trans c38) ?_
        refine lv_iconst (v := 1) hx hb dX12_walker_84 (by decide) ?_
        refine lv_iadd hx hb dX12_walker_85 ?_
        refine lv_topi (fun x41 ex41 => ?_)
        have ex41 : x41.toInt = x26.toInt + (1 : Int) := by rw [ex41]; exact wk_add (show (-2147483648) ≤ x26.toInt + (1 : Int) by omega) (show x26.toInt + (1 : Int) ≤ 2147483647 by omega)
        refine tk_iastR hC hK hw hT kM_at12 (by decide) rfl (by decide) (by decide) (tk_rgS rfl 5 1 1 1 4 (by decide +kernel) ⟨0, by decide, by decide⟩ (show 1 ≤ x41.toInt by omega) (show x41.toInt ≤ 4 by omega)) dX12_walker_86 (fun H locs w42 hw hT k44 c43 => ?_)
        have hF := hF.put kM_at12 (inE_of (a := 5) (b := 5) (by decide) (by decide) (by decide)) k44
        have c45 := k44.gi (Or.inr (by decide)) c36
        have c46 := k44.gi (Or.inr (by decide)) c37
        have c43 : gi w42 12 5 = x41 := c43
        refine lv_aload_n hx hb dX12_walker_87 rfl (lv_at hl 0 rfl) ?_
        refine tk_getA hC hK hw hT hinX12 kM_at0 (by decide) rfl 26 (by decide) (List.mem_of_getElem? (i := 1) rfl) rfl rfl dX12_walker_88 ?_
        refine lv_iconst (v := 5) hx hb dX12_walker_91 (by decide) ?_
        refine tk_ialdR hC hK hw hT kM_at12 rfl (by decide) (by decide) dX12_walker_92 (fun x47 c48 Ex47 => ?_)
        refine wk_top x41 (c48.symm.trans c43) ?_
        refine lv_iconst (v := 1) hx hb dX12_walker_93 (by decide) ?_
        refine lv_isub hx hb dX12_walker_94 ?_
        refine lv_topi (fun x49 ex49 => ?_)
        have ex49 : x49.toInt = x41.toInt - (1 : Int) := by rw [ex49]; exact wk_sub (show (-2147483648) ≤ x41.toInt - (1 : Int) by omega) (show x41.toInt - (1 : Int) ≤ 2147483647 by omega)
        exact tk_iret hC hr hlocks hK ⟨hT, hF, (Or.inr ⟨(show 0 ≤ x49.toInt by omega), (show x49.toInt ≤ 3 by omega), (show 0 ≤ a1.toInt by omega), (show a1.toInt ≤ 9 by omega), (show 0 ≤ a2.toInt by omega), (show a2.toInt ≤ 9 by omega), (show 0 ≤ a3.toInt by omega), (show a3.toInt ≤ 3 by omega), (show (-1) ≤ a4.toInt by omega), (show a4.toInt ≤ 5 by omega), (show 0 ≤ a5.toInt by omega), (show a5.toInt ≤ 99999 by omega), ⟨f39_12_0, c45, (show 1 ≤ f39_12_0.toInt by omega), (show f39_12_0.toInt ≤ 10 by omega)⟩, ⟨f39_12_4, c46, (show 1 ≤ f39_12_4.toInt by omega), (show f39_12_4.toInt ≤ 4 by omega)⟩, ⟨x41, c43, (show 1 ≤ x41.toInt by omega), (show x41.toInt ≤ 4 by omega)⟩⟩)⟩ hw dX12_walker_95
      · have c28 : x26.toInt = (4 : Int) := wk_eq.mp c28
        exact J57  H locs ls w19   hw hT hF  (lv_sub hl [0, 1, 2, 3, 4, 5] rfl)
  refine lv_aload_n hx hb dX12_walker_0 rfl (lv_at hl 0 rfl) ?_
  refine lv_iload_n hx hb dX12_walker_1 rfl (lv_at hl 1 rfl) ?_
  refine tk_Vi hC hK hw hT hA hE hSR kM_at0 (by decide) rfl (k_X12_isCorner_1 l adK adV dC dI cy ad B (by omega) (by omega) qr s1   a1 w0 s.heap.size hT ) (cwV 1 hC.2.2.2.2 gX12_walker_X12_isCorner rfl rfl rfl (by decide +kernel) ⟨Nat.le_of_ble_eq_true rfl, Nat.le_of_ble_eq_true rfl⟩) rfl hl.1 rfl (Nat.le_of_ble_eq_true rfl) dX12_walker_2 (fun r50 w52 H locs hp51 hw => ?_)
  obtain ⟨hT, k53, hg58⟩ := hp51
  have hF := hF.tr k53 (by decide)
  rcases hg58 with rfl | ⟨rfl, g54, g55, ⟨x56, c57, rx56, tx56⟩⟩
  · refine lv_if_eq (tgt := 57) hx hb dX12_walker_5 (by decide) (fun _ => ?_) (fun c => absurd (by decide) c)
    exact J57  H locs ls w52   hw hT hF  (lv_sub hl [0, 1, 2, 3, 4, 5] rfl)
  · refine lv_if_eq (tgt := 57) hx hb dX12_walker_5 (by decide) (fun c => absurd c (by decide)) (fun _ => ?_)
    refine lv_aload_n hx hb dX12_walker_8 rfl (lv_at hl 0 rfl) ?_
    refine lv_iload_n hx hb dX12_walker_9 rfl (lv_at hl 2 rfl) ?_
    refine tk_Vi hC hK hw hT hA hE hSR kM_at0 (by decide) rfl (k_X12_isCorner_1 l adK adV dC dI cy ad B (by omega) (by omega) qr s1   a2 w52 H.size hT ) (cwV 1 hC.2.2.2.2 gX12_walker_X12_isCorner rfl rfl rfl (by decide +kernel) ⟨Nat.le_of_ble_eq_true rfl, Nat.le_of_ble_eq_true rfl⟩) rfl hl.1 rfl (Nat.le_of_ble_eq_true rfl) dX12_walker_10 (fun r59 w61 H locs hp60 hw => ?_)
    obtain ⟨hT, k62, hg67⟩ := hp60
    have hF := hF.tr k62 (by decide)
    have c68 := k62.gi kM_at12 (by decide) c57
    rcases hg67 with rfl | ⟨rfl, g63, g64, ⟨x65, c66, rx65, tx65⟩⟩
    · refine lv_if_eq (tgt := 57) hx hb dX12_walker_13 (by decide) (fun _ => ?_) (fun c => absurd (by decide) c)
      exact J57  H locs ls w61   hw hT hF  (lv_sub hl [0, 1, 2, 3, 4, 5] rfl)
    · have ex65 : x65.toInt = x56.toInt := by rw [← c68.symm.trans c66]
      refine lv_if_eq (tgt := 57) hx hb dX12_walker_13 (by decide) (fun c => absurd c (by decide)) (fun _ => ?_)
      refine lv_aload_n hx hb dX12_walker_16 rfl (lv_at hl 0 rfl) ?_
      refine lv_iload_n hx hb dX12_walker_17 rfl (lv_at hl 3 rfl) ?_
      refine tk_Vi hC hK hw hT hA hE hSR kM_at0 (by decide) rfl (k_X12_isMap_1 l adK adV dC dI cy ad B (by omega) (by omega) qr s1   a3 w61 H.size hT ) (cwV 1 hC.2.2.2.2 gX12_walker_X12_isMap rfl rfl rfl (by decide +kernel) ⟨Nat.le_of_ble_eq_true rfl, Nat.le_of_ble_eq_true rfl⟩) rfl hl.1 rfl (Nat.le_of_ble_eq_true rfl) dX12_walker_18 (fun r69 w71 H locs hp70 hw => ?_)
      obtain ⟨hT, k72, hg77⟩ := hp70
      have hF := hF.tr k72 (by decide)
      have c78 := k72.gi kM_at12 (by decide) c68
      rcases hg77 with rfl | ⟨rfl, g73, g74, ⟨x75, c76, rx75, tx75⟩⟩
      · refine lv_if_eq (tgt := 57) hx hb dX12_walker_21 (by decide) (fun _ => ?_) (fun c => absurd (by decide) c)
        exact J57  H locs ls w71   hw hT hF  (lv_sub hl [0, 1, 2, 3, 4, 5] rfl)
      · refine lv_if_eq (tgt := 57) hx hb dX12_walker_21 (by decide) (fun c => absurd c (by decide)) (fun _ => ?_)
        refine lv_iload hx hb dX12_walker_24 (lv_at hl 4 rfl) ?_
        refine lv_iconst (v := (-1)) hx hb dX12_walker_26 (by decide) ?_
        refine lv_icmp_eq (tgt := 39) hx hb dX12_walker_27 (by decide) (fun c79 => ?_) (fun c79 => ?_)
        · have c79 : a4.toInt = (-1 : Int) := wk_eq.mp c79
          exact J39 x56 x75 H locs ls w71 (show 0 ≤ a1.toInt by omega) (show a1.toInt ≤ 9 by omega) (show 0 ≤ a2.toInt by omega) (show a2.toInt ≤ 9 by omega) (show 0 ≤ a3.toInt by omega) (show a3.toInt ≤ 3 by omega) (show (-1) ≤ a4.toInt by omega) (show a4.toInt ≤ 5 by omega) (show 1 ≤ x56.toInt by omega) (show x56.toInt ≤ 10 by omega) (show 1 ≤ x75.toInt by omega) (show x75.toInt ≤ 4 by omega)  hw hT hF c78 c76 (lv_sub hl [0, 1, 2, 3, 4, 5] rfl)
        · have c79 : ¬ a4.toInt = (-1 : Int) := wk_eqF c79
          refine lv_aload_n hx hb dX12_walker_30 rfl (lv_at hl 0 rfl) ?_
          refine lv_iload hx hb dX12_walker_31 (lv_at hl 4 rfl) ?_
          refine tk_Vi hC hK hw hT hA hE hSR kM_at0 (by decide) rfl (k_X12_isRule_1 l adK adV dC dI cy ad B (by omega) (by omega) qr s1   a4 w71 H.size hT ) (cwV 1 hC.2.2.2.2 gX12_walker_X12_isRule rfl rfl rfl (by decide +kernel) ⟨Nat.le_of_ble_eq_true rfl, Nat.le_of_ble_eq_true rfl⟩) rfl hl.1 rfl (Nat.le_of_ble_eq_true rfl) dX12_walker_33 (fun r80 w82 H locs hp81 hw => ?_)
          obtain ⟨hT, k83, hg88⟩ := hp81
          have hF := hF.tr k83 (by decide)
          have c89 := k83.gi kM_at12 (by decide) c78
          have c90 := k83.gi kM_at12 (by decide) c76
          rcases hg88 with rfl | ⟨rfl, g84, g85, ⟨x86, c87, rx86, tx86⟩⟩
          · refine lv_if_eq (tgt := 57) hx hb dX12_walker_36 (by decide) (fun _ => ?_) (fun c => absurd (by decide) c)
            exact J57  H locs ls w82   hw hT hF  (lv_sub hl [0, 1, 2, 3, 4, 5] rfl)
          · refine lv_if_eq (tgt := 57) hx hb dX12_walker_36 (by decide) (fun c => absurd c (by decide)) (fun _ => ?_)
            exact J39 x56 x75 H locs ls w82 (show 0 ≤ a1.toInt by omega) (show a1.toInt ≤ 9 by omega) (show 0 ≤ a2.toInt by omega) (show a2.toInt ≤ 9 by omega) (show 0 ≤ a3.toInt by omega) (show a3.toInt ≤ 3 by omega) (show (-1) ≤ a4.toInt by omega) (show a4.toInt ≤ 5 by omega) (show 1 ≤ x56.toInt by omega) (show x56.toInt ≤ 10 by omega) (show 1 ≤ x75.toInt by omega) (show x75.toInt ≤ 4 by omega)  hw hT hF c89 c90 (lv_sub hl [0, 1, 2, 3, 4, 5] rfl)
abbrev P_X12_isWalker_1 (ad : Nat → Nat) (cy : Nat → ClassId) (B : Int) (qr : Nat) (s1 : Int) (a1 : Int32) (w0 : va_W) : Int32 → va_W → Prop := fun r u => TW ksM ad cy B qr 12 u ∧ FE ksM ([] : List (Nat × Nat × Nat)) w0 u ∧ ((r = 0) ∨ (r = 1 ∧ 0 ≤ a1.toInt ∧ a1.toInt ≤ 3 ∧ (∃ y : Int32, gi u 12 5 = y ∧ 1 ≤ y.toInt ∧ y.toInt ≤ 4)))
set_option maxHeartbeats 4000000 in
set_option maxRecDepth 100000 in
theorem k_X12_isWalker_1 (l : Launch) (adK adV : Nat → Nat) (dC : Nat → ClassId) (dI : Nat → Nat → Nat) (cy : Nat → ClassId) (ad : Nat → Nat) (B : Int) (hB0 : 100000 ≤ B) (hB1 : B ≤ 1073741824) (qr : Nat) (s1 : Int)  (a1 : Int32) (w0 : va_W) (sz : Nat) (hT : TW ksM ad cy B qr 12 w0)  : Met l yX12_isWalker wsX12_isWalker ({ frames := 1, cells := 0, slots := 0, locals := 12 }) (va_Pc [.ref (ad 0), .int a1] (wpreS adK adV dC dI cy sz w0)) (va_Qi (P_X12_isWalker_1 ad cy B qr s1 a1 w0) (fun u : va_W => wpost dC dI cy (va_A w0 sz) u) (va_A w0 sz)) 0 0 (va_A w0 sz) := by
  refine Met.ofW (cc := cX12_isWalker) (maxL := 2) (ret := (some .boolean)) (by decide) rfl ?_
  intro p e s m args below meth c s₁ Bk hml hv
  obtain ⟨rfl, ⟨hsz, hP, hK, hD0⟩, hE, hSR⟩ := hv
  have hx := Bk.exec
  have hb := Bk.bytes
  have hr := Bk.returns
  have hlocks := Bk.notSynchronized
  have hC : CallFix p m c cX12_isWalker 2 s _ wsX12_isWalker RX12 := ⟨hx, hb, hml, findClass_of_methodNamed Bk.named, atoms_spec (ws := wsX12_isWalker) Bk.pre⟩
  subst hsz
  have hD := hD0.self (sz := s.heap.size)
  generalize hAe : va_A w0 s.heap.size = A at hD hE ⊢
  have hA : ∀ q : Nat, s.heap.size ≤ q → A q := fun q h => by rw [← hAe]; exact Or.inr h
  have hw : Wd dC dI A s.heap s.heap [] w0 := ⟨hP, hD, va_S.rf⟩
  have hF : FE ksM ([] : List (Nat × Nat × Nat)) w0 w0 := FE.rf
  have hl := lv_entry ([.ref (ad 0), .int a1]) (n := 2) (Nat.le_of_ble_eq_true rfl)
  rw [lg_entry_eq]
  generalize (lg_sl ([.ref (ad 0), .int a1]) ++ List.replicate (2 - (lg_sl ([.ref (ad 0), .int a1])).length) Slot.unset).toArray = ls at hl ⊢
  have hl : lv_has ls 2 [(0, .ref (ad 0)), (1, .int a1)] := hl
  generalize hloc : ([] : List Loc) = locs at hw ⊢
  have hinX12 : ∀ w ∈ u_ws RX12 TX12 42, w ∈ wsX12_isWalker := fun _ h => List.mem_cons_of_mem _ (List.mem_append_right _ (h))
  have J18 : ∀ (H : Heap) (locs : List Loc) (ls : Array Slot) (w1 : va_W), Wd dC dI A s.heap H locs w1 → TW ksM ad cy B qr 12 w1 → FE ksM ([] : List (Nat × Nat × Nat)) w0 w1 → lv_has ls 2 [(0, .ref (ad 0)), (1, .int a1)] → W p l e ({ frames := 1, cells := 0, slots := 0, locals := 12 }) s m (List.toArray [.ref (ad 0), .int a1]) below meth c H locs 0 0 (MQ below (va_Qi (P_X12_isWalker_1 ad cy B qr s1 a1 w0) (fun u : va_W => wpost dC dI cy A u) A) (List.toArray [.ref (ad 0), .int a1]) s 0 0 A) (F0 m 18 ls []) := by
    intro H locs ls w1 hw hT hF hl
    refine lv_iconst (v := 0) hx hb dX12_isWalker_18 (by decide) ?_
    exact tk_zret hC hr rfl hlocks hK ⟨hT, hF, (Or.inl rfl)⟩ hw dX12_isWalker_19
  refine lv_iload_n hx hb dX12_isWalker_0 rfl (lv_at hl 1 rfl) ?_
  refine lv_if_lt (tgt := 18) hx hb dX12_isWalker_1 (by decide) (fun c2 => ?_) (fun c2 => ?_)
  · have c2 : a1.toInt < (0 : Int) := wk_lt.mp c2
    exact J18  s.heap locs ls w0   hw hT hF  (lv_sub hl [0, 1] rfl)
  · have c2 : (0 : Int) ≤ a1.toInt := wk_ltF c2
    refine lv_iload_n hx hb dX12_isWalker_4 rfl (lv_at hl 1 rfl) ?_
    refine lv_aload_n hx hb dX12_isWalker_5 rfl (lv_at hl 0 rfl) ?_
    refine tk_getA hC hK hw hT hinX12 kM_at0 (by decide) rfl 26 (by decide) (List.mem_of_getElem? (i := 1) rfl) rfl rfl dX12_isWalker_6 ?_
    refine lv_iconst (v := 5) hx hb dX12_isWalker_9 (by decide) ?_
    refine tk_ialdR hC hK hw hT kM_at12 rfl (by decide) (by decide) dX12_isWalker_10 (fun x3 c4 Ex3 => ?_)
    have bx3 := tk_rgI rfl 5 1 1 0 4 (by decide +kernel) ⟨0, by decide, by decide⟩ Ex3
    have c4 : gi w0 12 5 = x3 := c4
    refine lv_icmp_ge (tgt := 18) hx hb dX12_isWalker_11 (by decide) (fun c5 => ?_) (fun c5 => ?_)
    · have c5 : x3.toInt ≤ a1.toInt := wk_le.mp c5
      exact J18  s.heap locs ls w0   hw hT hF  (lv_sub hl [0, 1] rfl)
    · have c5 : a1.toInt < x3.toInt := wk_leF c5
      refine lv_iconst (v := 1) hx hb dX12_isWalker_14 (by decide) ?_
      refine lv_goto (tgt := 19) hx hb dX12_isWalker_15 (by decide) ?_
      exact tk_zret hC hr rfl hlocks hK ⟨hT, hF, (Or.inr ⟨rfl, (show 0 ≤ a1.toInt by omega), (show a1.toInt ≤ 3 by omega), ⟨x3, c4, (show 1 ≤ x3.toInt by omega), (show x3.toInt ≤ 4 by omega)⟩⟩)⟩ hw dX12_isWalker_19
abbrev P_X12_in_13 (ad : Nat → Nat) (cy : Nat → ClassId) (B : Int) (qr : Nat) (s1 : Int) (a0 : Int64) (w0 : va_W) : Int32 → va_W → Prop := fun r u => TW ksM ad cy B qr 12 u ∧ FE ksM ([] : List (Nat × Nat × Nat)) w0 u ∧ ((r = 0) ∨ (r = 1 ∧ 0 ≤ a0.toInt ∧ a0.toInt ≤ 7))
set_option maxHeartbeats 4000000 in
set_option maxRecDepth 100000 in
theorem k_X12_in_13 (l : Launch) (adK adV : Nat → Nat) (dC : Nat → ClassId) (dI : Nat → Nat → Nat) (cy : Nat → ClassId) (ad : Nat → Nat) (B : Int) (hB0 : 100000 ≤ B) (hB1 : B ≤ 1073741824) (qr : Nat) (s1 : Int)  (a0 : Int64) (ra0 : (-2147483648) ≤ a0.toInt) (ta0 : a0.toInt ≤ 2147483647) (w0 : va_W) (sz : Nat) (hT : TW ksM ad cy B qr 12 w0)  : Met l yX12_in wsX12_in ({ frames := 1, cells := 0, slots := 0, locals := 12 }) (va_Pc [.long a0, .long 0, .long 7] (wpreS adK adV dC dI cy sz w0)) (va_Qi (P_X12_in_13 ad cy B qr s1 a0 w0) (fun u : va_W => wpost dC dI cy (va_A w0 sz) u) (va_A w0 sz)) 0 0 (va_A w0 sz) := by
  refine Met.ofW (cc := cX12_in) (maxL := 6) (ret := (some .boolean)) (by decide) rfl ?_
  intro p e s m args below meth c s₁ Bk hml hv
  obtain ⟨rfl, ⟨hsz, hP, hK, hD0⟩, hE, hSR⟩ := hv
  have hx := Bk.exec
  have hb := Bk.bytes
  have hr := Bk.returns
  have hlocks := Bk.notSynchronized
  have hC : CallFix p m c cX12_in 6 s _ wsX12_in RX12 := ⟨hx, hb, hml, findClass_of_methodNamed Bk.named, atoms_spec (ws := wsX12_in) Bk.pre⟩
  subst hsz
  have hD := hD0.self (sz := s.heap.size)
  generalize hAe : va_A w0 s.heap.size = A at hD hE ⊢
  have hA : ∀ q : Nat, s.heap.size ≤ q → A q := fun q h => by rw [← hAe]; exact Or.inr h
  have hw : Wd dC dI A s.heap s.heap [] w0 := ⟨hP, hD, va_S.rf⟩
  have hF : FE ksM ([] : List (Nat × Nat × Nat)) w0 w0 := FE.rf
  have hl := lv_entry ([.long a0, .long 0, .long 7]) (n := 6) (Nat.le_of_ble_eq_true rfl)
  rw [lg_entry_eq]
  generalize (lg_sl ([.long a0, .long 0, .long 7]) ++ List.replicate (6 - (lg_sl ([.long a0, .long 0, .long 7])).length) Slot.unset).toArray = ls at hl ⊢
  have hl : lv_has ls 6 [(0, .long a0), (2, .long 0), (4, .long 7)] := hl
  generalize hloc : ([] : List Loc) = locs at hw ⊢
  have J17 : ∀ (H : Heap) (locs : List Loc) (ls : Array Slot) (w1 : va_W), (-2147483648) ≤ a0.toInt → a0.toInt ≤ 2147483647 → Wd dC dI A s.heap H locs w1 → TW ksM ad cy B qr 12 w1 → FE ksM ([] : List (Nat × Nat × Nat)) w0 w1 → lv_has ls 6 [(0, .long a0), (2, .long 0), (4, .long 7)] → W p l e ({ frames := 1, cells := 0, slots := 0, locals := 12 }) s m (List.toArray [.long a0, .long 0, .long 7]) below meth c H locs 0 0 (MQ below (va_Qi (P_X12_in_13 ad cy B qr s1 a0 w0) (fun u : va_W => wpost dC dI cy A u) A) (List.toArray [.long a0, .long 0, .long 7]) s 0 0 A) (F0 m 17 ls []) := by
    intro H locs ls w1 r2 t3 hw hT hF hl
    refine lv_iconst (v := 0) hx hb dX12_in_17 (by decide) ?_
    exact tk_zret hC hr rfl hlocks hK ⟨hT, hF, (Or.inl rfl)⟩ hw dX12_in_18
  refine lv_lload_n hx hb dX12_in_0 rfl (lv_at hl 0 rfl) ?_
  refine lv_lload_n hx hb dX12_in_1 rfl (lv_at hl 1 rfl) ?_
  refine W.lcmp hx hb dX12_in_2 ?_
  refine lv_if_lt (tgt := 17) hx hb dX12_in_3 (by decide) (fun c4 => ?_) (fun c4 => ?_)
  · have c4 : a0.toInt < (0 : Int) := wk_cltT c4
    exact J17  s.heap locs ls w0 (show (-2147483648) ≤ a0.toInt by omega) (show a0.toInt ≤ 2147483647 by omega)  hw hT hF  (lv_sub hl [0, 1, 2] rfl)
  · have c4 : (0 : Int) ≤ a0.toInt := wk_cltF c4
    refine lv_lload_n hx hb dX12_in_6 rfl (lv_at hl 0 rfl) ?_
    refine lv_lload hx hb dX12_in_7 (lv_at hl 2 rfl) ?_
    refine W.lcmp hx hb dX12_in_9 ?_
    refine lv_if_gt (tgt := 17) hx hb dX12_in_10 (by decide) (fun c5 => ?_) (fun c5 => ?_)
    · have c5 : (7 : Int) < a0.toInt := wk_cgtT c5
      exact J17  s.heap locs ls w0 (show (-2147483648) ≤ a0.toInt by omega) (show a0.toInt ≤ 2147483647 by omega)  hw hT hF  (lv_sub hl [0, 1, 2] rfl)
    · have c5 : a0.toInt ≤ (7 : Int) := wk_cgtF c5
      refine lv_iconst (v := 1) hx hb dX12_in_13 (by decide) ?_
      refine lv_goto (tgt := 18) hx hb dX12_in_14 (by decide) ?_
      exact tk_zret hC hr rfl hlocks hK ⟨hT, hF, (Or.inr ⟨rfl, (show 0 ≤ a0.toInt by omega), (show a0.toInt ≤ 7 by omega)⟩)⟩ hw dX12_in_18
abbrev P_X12_walkerOf_1 (ad : Nat → Nat) (cy : Nat → ClassId) (B : Int) (qr : Nat) (s1 : Int) (a1 : Int32) (a2 : Int32) (w0 : va_W) : Int32 → va_W → Prop := fun r u => TW ksM ad cy B qr 12 u ∧ FE ksM ([] : List (Nat × Nat × Nat)) w0 u ∧ ((True))
set_option maxHeartbeats 4000000 in
set_option maxRecDepth 100000 in
theorem k_X12_walkerOf_1 (l : Launch) (adK adV : Nat → Nat) (dC : Nat → ClassId) (dI : Nat → Nat → Nat) (cy : Nat → ClassId) (ad : Nat → Nat) (B : Int) (hB0 : 100000 ≤ B) (hB1 : B ≤ 1073741824) (qr : Nat) (s1 : Int)  (a1 : Int32) (ra1 : 0 ≤ a1.toInt) (ta1 : a1.toInt ≤ 3) (a2 : Int32) (ra2 : 0 ≤ a2.toInt) (ta2 : a2.toInt ≤ 7) (w0 : va_W) (sz : Nat) (hT : TW ksM ad cy B qr 12 w0)  : Met l yX12_walkerOf wsX12_walkerOf ({ frames := 1, cells := 0, slots := 0, locals := 12 }) (va_Pc [.ref (ad 0), .int a1, .int a2] (wpreS adK adV dC dI cy sz w0)) (va_Qi (P_X12_walkerOf_1 ad cy B qr s1 a1 a2 w0) (fun u : va_W => wpost dC dI cy (va_A w0 sz) u) (va_A w0 sz)) 0 0 (va_A w0 sz) := by
  refine Met.ofW (cc := cX12_walkerOf) (maxL := 3) (ret := (some .int)) (by decide) rfl ?_
  intro p e s m args below meth c s₁ Bk hml hv
  obtain ⟨rfl, ⟨hsz, hP, hK, hD0⟩, hE, hSR⟩ := hv
  have hx := Bk.exec
  have hb := Bk.bytes
  have hr := Bk.returns
  have hlocks := Bk.notSynchronized
  have hC : CallFix p m c cX12_walkerOf 3 s _ wsX12_walkerOf RX12 := ⟨hx, hb, hml, findClass_of_methodNamed Bk.named, atoms_spec (ws := wsX12_walkerOf) Bk.pre⟩
  subst hsz
  have hD := hD0.self (sz := s.heap.size)
  generalize hAe : va_A w0 s.heap.size = A at hD hE ⊢
  have hA : ∀ q : Nat, s.heap.size ≤ q → A q := fun q h => by rw [← hAe]; exact Or.inr h
  have hw : Wd dC dI A s.heap s.heap [] w0 := ⟨hP, hD, va_S.rf⟩
  have hF : FE ksM ([] : List (Nat × Nat × Nat)) w0 w0 := FE.rf
  have hl := lv_entry ([.ref (ad 0), .int a1, .int a2]) (n := 3) (Nat.le_of_ble_eq_true rfl)
  rw [lg_entry_eq]
  generalize (lg_sl ([.ref (ad 0), .int a1, .int a2]) ++ List.replicate (3 - (lg_sl ([.ref (ad 0), .int a1, .int a2])).length) Slot.unset).toArray = ls at hl ⊢
  have hl : lv_has ls 3 [(0, .ref (ad 0)), (1, .int a1), (2, .int a2)] := hl
  generalize hloc : ([] : List Loc) = locs at hw ⊢
  have hinX12 : ∀ w ∈ u_ws RX12 TX12 42, w ∈ wsX12_walkerOf := fun _ h => List.mem_cons_of_mem _ (List.mem_append_right _ (h))
  refine lv_aload_n hx hb dX12_walkerOf_0 rfl (lv_at hl 0 rfl) ?_
  refine tk_getA hC hK hw hT hinX12 kM_at0 (by decide) rfl 26 (by decide) (List.mem_of_getElem? (i := 1) rfl) rfl rfl dX12_walkerOf_1 ?_
  refine lv_sipush (v := 216) hx hb dX12_walkerOf_4 (by decide) ?_
  refine lv_bipush (v := 9) hx hb dX12_walkerOf_7 (by decide) ?_
  refine lv_iload_n hx hb dX12_walkerOf_9 rfl (lv_at hl 1 rfl) ?_
  refine lv_imul hx hb dX12_walkerOf_10 ?_
  refine lv_topi (fun x1 ex1 => ?_)
  have ex1 : x1.toInt = (9 : Int) * a1.toInt := by rw [ex1]; exact wk_mul (show (-2147483648) ≤ (9 : Int) * a1.toInt by omega) (show (9 : Int) * a1.toInt ≤ 2147483647 by omega)
  refine lv_iadd hx hb dX12_walkerOf_11 ?_
  refine lv_topi (fun x2 ex2 => ?_)
  have ex2 : x2.toInt = (216 : Int) + x1.toInt := by rw [ex2]; exact wk_add (show (-2147483648) ≤ (216 : Int) + x1.toInt by omega) (show (216 : Int) + x1.toInt ≤ 2147483647 by omega)
  refine lv_iload_n hx hb dX12_walkerOf_12 rfl (lv_at hl 2 rfl) ?_
  refine lv_iadd hx hb dX12_walkerOf_13 ?_
  refine lv_topi (fun x3 ex3 => ?_)
  have ex3 : x3.toInt = x2.toInt + a2.toInt := by rw [ex3]; exact wk_add (show (-2147483648) ≤ x2.toInt + a2.toInt by omega) (show x2.toInt + a2.toInt ≤ 2147483647 by omega)
  refine tk_ialdR hC hK hw hT kM_at12 rfl (show 0 ≤ x3.toInt by omega) (show x3.toInt < 296 by omega) dX12_walkerOf_14 (fun x4 c5 Ex4 => ?_)
  have c5 : gi w0 12 (x3.toInt).toNat = x4 := (congrArg (gi w0 12) (congrArg Int.toNat (show x3.toInt = x3.toInt by omega))).trans c5
  exact tk_iret hC hr hlocks hK ⟨hT, hF, trivial⟩ hw dX12_walkerOf_15
abbrev P_X12_about_1 (ad : Nat → Nat) (cy : Nat → ClassId) (B : Int) (qr : Nat) (s1 : Int) (a1 : Int32) (a2 : Int32) (w0 : va_W) : Int32 → va_W → Prop := fun r u => TW ksM ad cy B qr 12 u ∧ FE ksM ([] : List (Nat × Nat × Nat)) w0 u ∧ ((0 ≤ a1.toInt ∧ a1.toInt ≤ 3 ∧ 0 ≤ a2.toInt ∧ a2.toInt ≤ 7 ∧ (∃ y : Int32, gi u 12 5 = y ∧ 1 ≤ y.toInt ∧ y.toInt ≤ 4)) ∨ (r = (-1)))
set_option maxHeartbeats 4000000 in
set_option maxRecDepth 100000 in
theorem k_X12_about_1 (l : Launch) (adK adV : Nat → Nat) (dC : Nat → ClassId) (dI : Nat → Nat → Nat) (cy : Nat → ClassId) (ad : Nat → Nat) (B : Int) (hB0 : 100000 ≤ B) (hB1 : B ≤ 1073741824) (qr : Nat) (s1 : Int)  (a1 : Int32) (a2 : Int32) (w0 : va_W) (sz : Nat) (hT : TW ksM ad cy B qr 12 w0)  : Met l yX12_about wsX12_about ({ frames := 2, cells := 0, slots := 0, locals := 37 }) (va_Pc [.ref (ad 0), .int a1, .int a2] (wpreS adK adV dC dI cy sz w0)) (va_Qi (P_X12_about_1 ad cy B qr s1 a1 a2 w0) (fun u : va_W => wpost dC dI cy (va_A w0 sz) u) (va_A w0 sz)) 0 0 (va_A w0 sz) := by
  refine Met.ofW (cc := cX12_about) (maxL := 3) (ret := (some .int)) (by decide) rfl ?_
  intro p e s m args below meth c s₁ Bk hml hv
  obtain ⟨rfl, ⟨hsz, hP, hK, hD0⟩, hE, hSR⟩ := hv
  have hx := Bk.exec
  have hb := Bk.bytes
  have hr := Bk.returns
  have hlocks := Bk.notSynchronized
  have hC : CallFix p m c cX12_about 3 s _ wsX12_about RX12 := ⟨hx, hb, hml, findClass_of_methodNamed Bk.named, atoms_spec (ws := wsX12_about) Bk.pre⟩
  subst hsz
  have hD := hD0.self (sz := s.heap.size)
  generalize hAe : va_A w0 s.heap.size = A at hD hE ⊢
  have hA : ∀ q : Nat, s.heap.size ≤ q → A q := fun q h => by rw [← hAe]; exact Or.inr h
  have hw : Wd dC dI A s.heap s.heap [] w0 := ⟨hP, hD, va_S.rf⟩
  have hF : FE ksM ([] : List (Nat × Nat × Nat)) w0 w0 := FE.rf
  have hl := lv_entry ([.ref (ad 0), .int a1, .int a2]) (n := 3) (Nat.le_of_ble_eq_true rfl)
  rw [lg_entry_eq]
  generalize (lg_sl ([.ref (ad 0), .int a1, .int a2]) ++ List.replicate (3 - (lg_sl ([.ref (ad 0), .int a1, .int a2])).length) Slot.unset).toArray = ls at hl ⊢
  have hl : lv_has ls 3 [(0, .ref (ad 0)), (1, .int a1), (2, .int a2)] := hl
  generalize hloc : ([] : List Loc) = locs at hw ⊢
  have J29 : ∀ (H : Heap) (locs : List Loc) (ls : Array Slot) (w1 : va_W), Wd dC dI A s.heap H locs w1 → TW ksM ad cy B qr 12 w1 → FE ksM ([] : List (Nat × Nat × Nat)) w0 w1 → lv_has ls 3 [(0, .ref (ad 0)), (1, .int a1), (2, .int a2)] → W p l e ({ frames := 2, cells := 0, slots := 0, locals := 37 }) s m (List.toArray [.ref (ad 0), .int a1, .int a2]) below meth c H locs 0 0 (MQ below (va_Qi (P_X12_about_1 ad cy B qr s1 a1 a2 w0) (fun u : va_W => wpost dC dI cy A u) A) (List.toArray [.ref (ad 0), .int a1, .int a2]) s 0 0 A) (F0 m 29 ls []) := by
    intro H locs ls w1 hw hT hF hl
    refine lv_iconst (v := (-1)) hx hb dX12_about_29 (by decide) ?_
    exact tk_iret hC hr hlocks hK ⟨hT, hF, (Or.inr rfl)⟩ hw dX12_about_30
  refine lv_aload_n hx hb dX12_about_0 rfl (lv_at hl 0 rfl) ?_
  refine lv_iload_n hx hb dX12_about_1 rfl (lv_at hl 1 rfl) ?_
  refine tk_Vi hC hK hw hT hA hE hSR kM_at0 (by decide) rfl (k_X12_isWalker_1 l adK adV dC dI cy ad B (by omega) (by omega) qr s1   a1 w0 s.heap.size hT ) (cwV 1 hC.2.2.2.2 gX12_about_X12_isWalker rfl rfl rfl (by decide +kernel) ⟨Nat.le_of_ble_eq_true rfl, Nat.le_of_ble_eq_true rfl⟩) rfl hl.1 rfl (Nat.le_of_ble_eq_true rfl) dX12_about_2 (fun r2 w4 H locs hp3 hw => ?_)
  obtain ⟨hT, k5, hg10⟩ := hp3
  have hF := hF.tr k5 (by decide)
  rcases hg10 with rfl | ⟨rfl, g6, g7, ⟨x8, c9, rx8, tx8⟩⟩
  · refine lv_if_eq (tgt := 29) hx hb dX12_about_5 (by decide) (fun _ => ?_) (fun c => absurd (by decide) c)
    exact J29  H locs ls w4   hw hT hF  (lv_sub hl [0, 1, 2] rfl)
  · refine lv_if_eq (tgt := 29) hx hb dX12_about_5 (by decide) (fun c => absurd c (by decide)) (fun _ => ?_)
    refine lv_iload_n hx hb dX12_about_8 rfl (lv_at hl 2 rfl) ?_
    refine lv_i2l hx hb dX12_about_9 rfl ?_
    refine lv_topl (fun x11 ex11 => ?_)
    have ex11 : x11.toInt = a2.toInt := by rw [ex11]; exact wk_i2l _
    have bx11 := wk_i32 a2
    refine lv_lconst (v := 0) hx hb dX12_about_10 (by decide) ?_
    refine lv_ldc2 (v := 7) hx hb hC.2.2.2.1 (hC.2.2.2.2 _ (List.mem_of_getElem? (i := 1) rfl)) dX12_about_11 ?_
    refine tk_Si hC hK hw hT hA hE hSR (k_X12_in_13 l adK adV dC dI cy ad B (by omega) (by omega) qr s1   x11 (show (-2147483648) ≤ x11.toInt by omega) (show x11.toInt ≤ 2147483647 by omega) w4 H.size hT ) (va_cwS 3 hC.2.2.2.2 gX12_about_X12_in rfl rfl rfl (by decide +kernel) ⟨Nat.le_of_ble_eq_true rfl, Nat.le_of_ble_eq_true rfl⟩) rfl hl.1 rfl (Nat.le_of_ble_eq_true rfl) dX12_about_14 (fun r12 w14 H locs hp13 hw => ?_)
    obtain ⟨hT, k15, hg18⟩ := hp13
    have hF := hF.tr k15 (by decide)
    have c19 := k15.gi kM_at12 (by decide) c9
    rcases hg18 with rfl | ⟨rfl, g16, g17⟩
    · refine lv_if_eq (tgt := 29) hx hb dX12_about_17 (by decide) (fun _ => ?_) (fun c => absurd (by decide) c)
      exact J29  H locs ls w14   hw hT hF  (lv_sub hl [0, 1, 2] rfl)
    · refine lv_if_eq (tgt := 29) hx hb dX12_about_17 (by decide) (fun c => absurd c (by decide)) (fun _ => ?_)
      refine lv_aload_n hx hb dX12_about_20 rfl (lv_at hl 0 rfl) ?_
      refine lv_iload_n hx hb dX12_about_21 rfl (lv_at hl 1 rfl) ?_
      refine lv_iload_n hx hb dX12_about_22 rfl (lv_at hl 2 rfl) ?_
      refine tk_Vi hC hK hw hT hA hE hSR kM_at0 (by decide) rfl (k_X12_walkerOf_1 l adK adV dC dI cy ad B (by omega) (by omega) qr s1   a1 (show 0 ≤ a1.toInt by omega) (show a1.toInt ≤ 3 by omega) a2 (show 0 ≤ a2.toInt by omega) (show a2.toInt ≤ 7 by omega) w14 H.size hT ) (cwV 2 hC.2.2.2.2 gX12_about_X12_walkerOf rfl rfl rfl (by decide +kernel) ⟨Nat.le_of_ble_eq_true rfl, Nat.le_of_ble_eq_true rfl⟩) rfl hl.1 rfl (Nat.le_of_ble_eq_true rfl) dX12_about_23 (fun r20 w22 H locs hp21 hw => ?_)
      obtain ⟨hT, k23, hg24⟩ := hp21
      have hF := hF.tr k23 (by decide)
      have c25 := k23.gi kM_at12 (by decide) c19
      clear hg24
      refine lv_goto (tgt := 30) hx hb dX12_about_26 (by decide) ?_
      exact tk_iret hC hr hlocks hK ⟨hT, hF, (Or.inl ⟨(show 0 ≤ a1.toInt by omega), (show a1.toInt ≤ 3 by omega), (show 0 ≤ a2.toInt by omega), (show a2.toInt ≤ 7 by omega), ⟨x8, c25, (show 1 ≤ x8.toInt by omega), (show x8.toInt ≤ 4 by omega)⟩⟩)⟩ hw dX12_about_30
abbrev P_X12_canLook_1 (ad : Nat → Nat) (cy : Nat → ClassId) (B : Int) (qr : Nat) (s1 : Int) (a1 : Int32) (a2 : Int32) (a3 : Int32) (w0 : va_W) : Int32 → va_W → Prop := fun r u => TW ksM ad cy B qr 12 u ∧ FE ksM ([] : List (Nat × Nat × Nat)) w0 u ∧ ((r = 0) ∨ (r = 1 ∧ 0 ≤ a1.toInt ∧ a1.toInt ≤ 9 ∧ 0 ≤ a2.toInt ∧ a2.toInt ≤ 9 ∧ 0 ≤ a3.toInt ∧ a3.toInt ≤ 99999 ∧ (∃ y : Int32, gi u 12 0 = y ∧ 1 ≤ y.toInt ∧ y.toInt ≤ 10)))
set_option maxHeartbeats 4000000 in
set_option maxRecDepth 100000 in
theorem k_X12_canLook_1 (l : Launch) (adK adV : Nat → Nat) (dC : Nat → ClassId) (dI : Nat → Nat → Nat) (cy : Nat → ClassId) (ad : Nat → Nat) (B : Int) (hB0 : 100000 ≤ B) (hB1 : B ≤ 1073741824) (qr : Nat) (s1 : Int)  (a1 : Int32) (a2 : Int32) (a3 : Int32) (w0 : va_W) (sz : Nat) (hT : TW ksM ad cy B qr 12 w0)  : Met l yX12_canLook wsX12_canLook ({ frames := 2, cells := 0, slots := 0, locals := 33 }) (va_Pc [.ref (ad 0), .int a1, .int a2, .int a3] (wpreS adK adV dC dI cy sz w0)) (va_Qi (P_X12_canLook_1 ad cy B qr s1 a1 a2 a3 w0) (fun u : va_W => wpost dC dI cy (va_A w0 sz) u) (va_A w0 sz)) 0 0 (va_A w0 sz) := by
  refine Met.ofW (cc := cX12_canLook) (maxL := 4) (ret := (some .boolean)) (by decide) rfl ?_
  intro p e s m args below meth c s₁ Bk hml hv
  obtain ⟨rfl, ⟨hsz, hP, hK, hD0⟩, hE, hSR⟩ := hv
  have hx := Bk.exec
  have hb := Bk.bytes
  have hr := Bk.returns
  have hlocks := Bk.notSynchronized
  have hC : CallFix p m c cX12_canLook 4 s _ wsX12_canLook RX12 := ⟨hx, hb, hml, findClass_of_methodNamed Bk.named, atoms_spec (ws := wsX12_canLook) Bk.pre⟩
  subst hsz
  have hD := hD0.self (sz := s.heap.size)
  generalize hAe : va_A w0 s.heap.size = A at hD hE ⊢
  have hA : ∀ q : Nat, s.heap.size ≤ q → A q := fun q h => by rw [← hAe]; exact Or.inr h
  have hw : Wd dC dI A s.heap s.heap [] w0 := ⟨hP, hD, va_S.rf⟩
  have hF : FE ksM ([] : List (Nat × Nat × Nat)) w0 w0 := FE.rf
  have hl := lv_entry ([.ref (ad 0), .int a1, .int a2, .int a3]) (n := 4) (Nat.le_of_ble_eq_true rfl)
  rw [lg_entry_eq]
  generalize (lg_sl ([.ref (ad 0), .int a1, .int a2, .int a3]) ++ List.replicate (4 - (lg_sl ([.ref (ad 0), .int a1, .int a2, .int a3])).length) Slot.unset).toArray = ls at hl ⊢
  have hl : lv_has ls 4 [(0, .ref (ad 0)), (1, .int a1), (2, .int a2), (3, .int a3)] := hl
  generalize hloc : ([] : List Loc) = locs at hw ⊢
  have J27 : ∀ (H : Heap) (locs : List Loc) (ls : Array Slot) (w1 : va_W), Wd dC dI A s.heap H locs w1 → TW ksM ad cy B qr 12 w1 → FE ksM ([] : List (Nat × Nat × Nat)) w0 w1 → lv_has ls 4 [(0, .ref (ad 0)), (1, .int a1), (2, .int a2), (3, .int a3)] → W p l e ({ frames := 2, cells := 0, slots := 0, locals := 33 }) s m (List.toArray [.ref (ad 0), .int a1, .int a2, .int a3]) below meth c H locs 0 0 (MQ below (va_Qi (P_X12_canLook_1 ad cy B qr s1 a1 a2 a3 w0) (fun u : va_W => wpost dC dI cy A u) A) (List.toArray [.ref (ad 0), .int a1, .int a2, .int a3]) s 0 0 A) (F0 m 27 ls []) := by
    intro H locs ls w1 hw hT hF hl
    refine lv_iconst (v := 0) hx hb dX12_canLook_27 (by decide) ?_
    exact tk_zret hC hr rfl hlocks hK ⟨hT, hF, (Or.inl rfl)⟩ hw dX12_canLook_28
  refine lv_aload_n hx hb dX12_canLook_0 rfl (lv_at hl 0 rfl) ?_
  refine lv_iload_n hx hb dX12_canLook_1 rfl (lv_at hl 1 rfl) ?_
  refine tk_Vi hC hK hw hT hA hE hSR kM_at0 (by decide) rfl (k_X12_isCorner_1 l adK adV dC dI cy ad B (by omega) (by omega) qr s1   a1 w0 s.heap.size hT ) (cwV 1 hC.2.2.2.2 gX12_canLook_X12_isCorner rfl rfl rfl (by decide +kernel) ⟨Nat.le_of_ble_eq_true rfl, Nat.le_of_ble_eq_true rfl⟩) rfl hl.1 rfl (Nat.le_of_ble_eq_true rfl) dX12_canLook_2 (fun r2 w4 H locs hp3 hw => ?_)
  obtain ⟨hT, k5, hg10⟩ := hp3
  have hF := hF.tr k5 (by decide)
  rcases hg10 with rfl | ⟨rfl, g6, g7, ⟨x8, c9, rx8, tx8⟩⟩
  · refine lv_if_eq (tgt := 27) hx hb dX12_canLook_5 (by decide) (fun _ => ?_) (fun c => absurd (by decide) c)
    exact J27  H locs ls w4   hw hT hF  (lv_sub hl [0, 1, 2, 3] rfl)
  · refine lv_if_eq (tgt := 27) hx hb dX12_canLook_5 (by decide) (fun c => absurd c (by decide)) (fun _ => ?_)
    refine lv_aload_n hx hb dX12_canLook_8 rfl (lv_at hl 0 rfl) ?_
    refine lv_iload_n hx hb dX12_canLook_9 rfl (lv_at hl 2 rfl) ?_
    refine tk_Vi hC hK hw hT hA hE hSR kM_at0 (by decide) rfl (k_X12_isCorner_1 l adK adV dC dI cy ad B (by omega) (by omega) qr s1   a2 w4 H.size hT ) (cwV 1 hC.2.2.2.2 gX12_canLook_X12_isCorner rfl rfl rfl (by decide +kernel) ⟨Nat.le_of_ble_eq_true rfl, Nat.le_of_ble_eq_true rfl⟩) rfl hl.1 rfl (Nat.le_of_ble_eq_true rfl) dX12_canLook_10 (fun r11 w13 H locs hp12 hw => ?_)
    obtain ⟨hT, k14, hg19⟩ := hp12
    have hF := hF.tr k14 (by decide)
    have c20 := k14.gi kM_at12 (by decide) c9
    rcases hg19 with rfl | ⟨rfl, g15, g16, ⟨x17, c18, rx17, tx17⟩⟩
    · refine lv_if_eq (tgt := 27) hx hb dX12_canLook_13 (by decide) (fun _ => ?_) (fun c => absurd (by decide) c)
      exact J27  H locs ls w13   hw hT hF  (lv_sub hl [0, 1, 2, 3] rfl)
    · have ex17 : x17.toInt = x8.toInt := by rw [← c20.symm.trans c18]
      refine lv_if_eq (tgt := 27) hx hb dX12_canLook_13 (by decide) (fun c => absurd c (by decide)) (fun _ => ?_)
      refine lv_iload_n hx hb dX12_canLook_16 rfl (lv_at hl 3 rfl) ?_
      refine tk_Si hC hK hw hT hA hE hSR (k_X12_isHour_1 l adK adV dC dI cy ad B (by omega) (by omega) qr s1   a3 w13 H.size hT ) (va_cwS 1 hC.2.2.2.2 gX12_canLook_X12_isHour rfl rfl rfl (by decide +kernel) ⟨Nat.le_of_ble_eq_true rfl, Nat.le_of_ble_eq_true rfl⟩) rfl hl.1 rfl (Nat.le_of_ble_eq_true rfl) dX12_canLook_17 (fun r21 w23 H locs hp22 hw => ?_)
      obtain ⟨hT, k24, hg27⟩ := hp22
      have hF := hF.tr k24 (by decide)
      have c28 := k24.gi kM_at12 (by decide) c20
      rcases hg27 with rfl | ⟨rfl, g25, g26⟩
      · refine lv_if_eq (tgt := 27) hx hb dX12_canLook_20 (by decide) (fun _ => ?_) (fun c => absurd (by decide) c)
        exact J27  H locs ls w23   hw hT hF  (lv_sub hl [0, 1, 2, 3] rfl)
      · refine lv_if_eq (tgt := 27) hx hb dX12_canLook_20 (by decide) (fun c => absurd c (by decide)) (fun _ => ?_)
        refine lv_iconst (v := 1) hx hb dX12_canLook_23 (by decide) ?_
        refine lv_goto (tgt := 28) hx hb dX12_canLook_24 (by decide) ?_
        exact tk_zret hC hr rfl hlocks hK ⟨hT, hF, (Or.inr ⟨rfl, (show 0 ≤ a1.toInt by omega), (show a1.toInt ≤ 9 by omega), (show 0 ≤ a2.toInt by omega), (show a2.toInt ≤ 9 by omega), (show 0 ≤ a3.toInt by omega), (show a3.toInt ≤ 99999 by omega), ⟨x8, c28, (show 1 ≤ x8.toInt by omega), (show x8.toInt ≤ 10 by omega)⟩⟩)⟩ hw dX12_canLook_28
abbrev P_X12_isDayFor_2 (ad : Nat → Nat) (cy : Nat → ClassId) (B : Int) (qr : Nat) (s1 : Int) (a1 : Int32) (a2 : Int32) (a3 : Int32) (w0 : va_W) : Int32 → va_W → Prop := fun r u => TW ksM ad cy B qr 12 u ∧ FE ksM ([] : List (Nat × Nat × Nat)) w0 u ∧ ((r = 0) ∨ (r = 0 ∧ gi u 12 (10 * a1.toInt + 10).toNat = a2) ∨ (r = 1) ∨ (r = 1 ∧ gi u 12 (10 * a1.toInt + 10).toNat = a2))
set_option maxHeartbeats 4000000 in
set_option maxRecDepth 100000 in
theorem k_X12_isDayFor_2 (l : Launch) (adK adV : Nat → Nat) (dC : Nat → ClassId) (dI : Nat → Nat → Nat) (cy : Nat → ClassId) (ad : Nat → Nat) (B : Int) (hB0 : 100000 ≤ B) (hB1 : B ≤ 1073741824) (qr : Nat) (s1 : Int)  (a1 : Int32) (ra1 : 0 ≤ a1.toInt) (ta1 : a1.toInt ≤ 11) (a2 : Int32) (ra2 : 0 ≤ a2.toInt) (ta2 : a2.toInt ≤ 9) (a3 : Int32) (ra3 : 0 ≤ a3.toInt) (ta3 : a3.toInt ≤ 4249) (w0 : va_W) (sz : Nat) (hT : TW ksM ad cy B qr 12 w0)  : Met l yX12_isDayFor wsX12_isDayFor ({ frames := 3, cells := 0, slots := 0, locals := 57 }) (va_Pc [.ref (ad 0), .int a1, .int a2, .int a3] (wpreS adK adV dC dI cy sz w0)) (va_Qi (P_X12_isDayFor_2 ad cy B qr s1 a1 a2 a3 w0) (fun u : va_W => wpost dC dI cy (va_A w0 sz) u) (va_A w0 sz)) 0 0 (va_A w0 sz) := by
  refine Met.ofW (cc := cX12_isDayFor) (maxL := 4) (ret := (some .boolean)) (by decide) rfl ?_
  intro p e s m args below meth c s₁ Bk hml hv
  obtain ⟨rfl, ⟨hsz, hP, hK, hD0⟩, hE, hSR⟩ := hv
  have hx := Bk.exec
  have hb := Bk.bytes
  have hr := Bk.returns
  have hlocks := Bk.notSynchronized
  have hC : CallFix p m c cX12_isDayFor 4 s _ wsX12_isDayFor RX12 := ⟨hx, hb, hml, findClass_of_methodNamed Bk.named, atoms_spec (ws := wsX12_isDayFor) Bk.pre⟩
  subst hsz
  have hD := hD0.self (sz := s.heap.size)
  generalize hAe : va_A w0 s.heap.size = A at hD hE ⊢
  have hA : ∀ q : Nat, s.heap.size ≤ q → A q := fun q h => by rw [← hAe]; exact Or.inr h
  have hw : Wd dC dI A s.heap s.heap [] w0 := ⟨hP, hD, va_S.rf⟩
  have hF : FE ksM ([] : List (Nat × Nat × Nat)) w0 w0 := FE.rf
  have hl := lv_entry ([.ref (ad 0), .int a1, .int a2, .int a3]) (n := 4) (Nat.le_of_ble_eq_true rfl)
  rw [lg_entry_eq]
  generalize (lg_sl ([.ref (ad 0), .int a1, .int a2, .int a3]) ++ List.replicate (4 - (lg_sl ([.ref (ad 0), .int a1, .int a2, .int a3])).length) Slot.unset).toArray = ls at hl ⊢
  have hl : lv_has ls 4 [(0, .ref (ad 0)), (1, .int a1), (2, .int a2), (3, .int a3)] := hl
  generalize hloc : ([] : List Loc) = locs at hw ⊢
  have J62 : ∀ (f62_12__10_a1_toInt_10_toNat : Int32) (f62_12_2 : Int32) (H : Heap) (locs : List Loc) (ls : Array Slot) (w1 : va_W), 0 ≤ a1.toInt → a1.toInt ≤ 11 → 0 ≤ a2.toInt → a2.toInt ≤ 9 → 0 ≤ a3.toInt → a3.toInt ≤ 4249 → 0 ≤ f62_12__10_a1_toInt_10_toNat.toInt → f62_12__10_a1_toInt_10_toNat.toInt ≤ 9 → 1 ≤ f62_12_2.toInt → f62_12_2.toInt ≤ 8 → Wd dC dI A s.heap H locs w1 → TW ksM ad cy B qr 12 w1 → FE ksM ([] : List (Nat × Nat × Nat)) w0 w1 → gi w1 0 27 = 1 → gi w1 12 (10 * a1.toInt + 10).toNat = f62_12__10_a1_toInt_10_toNat → gi w1 12 2 = f62_12_2 → lv_has ls 4 [(0, .ref (ad 0)), (1, .int a1), (2, .int a2), (3, .int a3)] → W p l e ({ frames := 3, cells := 0, slots := 0, locals := 57 }) s m (List.toArray [.ref (ad 0), .int a1, .int a2, .int a3]) below meth c H locs 0 0 (MQ below (va_Qi (P_X12_isDayFor_2 ad cy B qr s1 a1 a2 a3 w0) (fun u : va_W => wpost dC dI cy A u) A) (List.toArray [.ref (ad 0), .int a1, .int a2, .int a3]) s 0 0 A) (F0 m 62 ls []) := by
    intro f62_12__10_a1_toInt_10_toNat f62_12_2 H locs ls w1 r2 t3 r4 t5 r6 t7 r9 t10 r12 t13 hw hT hF c8 c11 c14 hl
    refine lv_iconst (v := 0) hx hb dX12_isDayFor_62 (by decide) ?_
    exact tk_zret hC hr rfl hlocks hK ⟨hT, hF, (Or.inl rfl)⟩ hw dX12_isDayFor_63
  refine lv_aload_n hx hb dX12_isDayFor_0 rfl (lv_at hl 0 rfl) ?_
  refine lv_aload_n hx hb dX12_isDayFor_1 rfl (lv_at hl 0 rfl) ?_
  refine lv_iload_n hx hb dX12_isDayFor_2 rfl (lv_at hl 1 rfl) ?_
  refine lv_iconst (v := 3) hx hb dX12_isDayFor_3 (by decide) ?_
  refine lv_iload_n hx hb dX12_isDayFor_4 rfl (lv_at hl 3 rfl) ?_
  refine lv_bipush (v := 7) hx hb dX12_isDayFor_5 (by decide) ?_
  refine lv_irem hx hb dX12_isDayFor_7 (by decide) ?_
  refine lv_topi (fun x15 ex15 => ?_)
  have ex15 : x15.toInt = a3.toInt % (7 : Int) := by rw [ex15]; exact wk_rem (show 0 ≤ a3.toInt by omega) (show 0 < (7 : Int) by decide)
  refine lv_iadd hx hb dX12_isDayFor_8 ?_
  refine lv_topi (fun x16 ex16 => ?_)
  have ex16 : x16.toInt = (3 : Int) + x15.toInt := by rw [ex16]; exact wk_add (show (-2147483648) ≤ (3 : Int) + x15.toInt by omega) (show (3 : Int) + x15.toInt ≤ 2147483647 by omega)
  refine tk_Vi hC hK hw hT hA hE hSR kM_at0 (by decide) rfl (k_X12_streetOf_4 l adK adV dC dI cy ad B (by omega) (by omega) qr s1   a1 (show 0 ≤ a1.toInt by omega) (show a1.toInt ≤ 11 by omega) x16 (show 3 ≤ x16.toInt by omega) (show x16.toInt ≤ 9 by omega) w0 s.heap.size hT ) (cwV 2 hC.2.2.2.2 gX12_isDayFor_X12_streetOf rfl rfl rfl (by decide +kernel) ⟨Nat.le_of_ble_eq_true rfl, Nat.le_of_ble_eq_true rfl⟩) rfl hl.1 rfl (Nat.le_of_ble_eq_true rfl) dX12_isDayFor_9 (fun r17 w19 H locs hp18 hw => ?_)
  obtain ⟨hT, k20, hg23⟩ := hp18
  have hF := hF.tr k20 (by decide)
  obtain ⟨g21, g22⟩ := hg23
  refine lv_iload_n hx hb dX12_isDayFor_12 rfl (lv_at hl 1 rfl) ?_
  refine lv_iload_n hx hb dX12_isDayFor_13 rfl (lv_at hl 2 rfl) ?_
  refine tk_Vi hC hK hw hT hA hE hSR kM_at0 (by decide) rfl (k_X12_hasSign_1 l adK adV dC dI cy ad B (by omega) (by omega) qr s1   r17 (show 0 ≤ r17.toInt by omega) (show r17.toInt ≤ 9 by omega) a1 (show 0 ≤ a1.toInt by omega) (show a1.toInt ≤ 11 by omega) a2 (show 0 ≤ a2.toInt by omega) (show a2.toInt ≤ 9 by omega) w19 H.size hT ) (cwV 3 hC.2.2.2.2 gX12_isDayFor_X12_hasSign rfl rfl rfl (by decide +kernel) ⟨Nat.le_of_ble_eq_true rfl, Nat.le_of_ble_eq_true rfl⟩) rfl hl.1 rfl (Nat.le_of_ble_eq_true rfl) dX12_isDayFor_14 (fun r24 w26 H locs hp25 hw => ?_)
  obtain ⟨hT, k27, hg30⟩ := hp25
  have hF := hF.tr k27 (by decide)
  rcases hg30 with rfl | ⟨rfl, c28⟩ | rfl | ⟨rfl, c29⟩
  · refine lv_if_ne (tgt := 22) hx hb dX12_isDayFor_17 (by decide) (fun c => absurd (by decide) c) (fun _ => ?_)
    refine lv_iconst (v := 0) hx hb dX12_isDayFor_20 (by decide) ?_
    exact tk_zret hC hr rfl hlocks hK ⟨hT, hF, (Or.inl rfl)⟩ hw dX12_isDayFor_21
  · refine lv_if_ne (tgt := 22) hx hb dX12_isDayFor_17 (by decide) (fun c => absurd (by decide) c) (fun _ => ?_)
    refine lv_iconst (v := 0) hx hb dX12_isDayFor_20 (by decide) ?_
    exact tk_zret hC hr rfl hlocks hK ⟨hT, hF, (Or.inr (Or.inl ⟨rfl, c28⟩))⟩ hw dX12_isDayFor_21
  · refine lv_if_ne (tgt := 22) hx hb dX12_isDayFor_17 (by decide) (fun _ => ?_) (fun c => absurd c (by decide))
    refine lv_aload_n hx hb dX12_isDayFor_22 rfl (lv_at hl 0 rfl) ?_
    refine lv_aload_n hx hb dX12_isDayFor_23 rfl (lv_at hl 0 rfl) ?_
    refine lv_iload_n hx hb dX12_isDayFor_24 rfl (lv_at hl 1 rfl) ?_
    refine lv_iconst (v := 0) hx hb dX12_isDayFor_25 (by decide) ?_
    refine tk_Vi hC hK hw hT hA hE hSR kM_at0 (by decide) rfl (k_X12_streetOf_2 l adK adV dC dI cy ad B (by omega) (by omega) qr s1   a1 (show 0 ≤ a1.toInt by omega) (show a1.toInt ≤ 11 by omega) w26 H.size hT ) (cwV 2 hC.2.2.2.2 gX12_isDayFor_X12_streetOf rfl rfl rfl (by decide +kernel) ⟨Nat.le_of_ble_eq_true rfl, Nat.le_of_ble_eq_true rfl⟩) rfl hl.1 rfl (Nat.le_of_ble_eq_true rfl) dX12_isDayFor_26 (fun r31 w33 H locs hp32 hw => ?_)
    obtain ⟨hT, k34, hg38⟩ := hp32
    have hF := hF.tr k34 (by decide)
    obtain ⟨g35, g36, c37⟩ := hg38
    refine lv_iload_n hx hb dX12_isDayFor_29 rfl (lv_at hl 3 rfl) ?_
    refine lv_sipush (v := 360) hx hb dX12_isDayFor_30 (by decide) ?_
    refine lv_irem hx hb dX12_isDayFor_33 (by decide) ?_
    refine lv_topi (fun x39 ex39 => ?_)
    have ex39 : x39.toInt = a3.toInt % (360 : Int) := by rw [ex39]; exact wk_rem (show 0 ≤ a3.toInt by omega) (show 0 < (360 : Int) by decide)
    refine tk_Vi hC hK hw hT hA hE hSR kM_at0 (by decide) rfl (k_X12_isClosed_1 l adK adV dC dI cy ad B (by omega) (by omega) qr s1   r31 (show 0 ≤ r31.toInt by omega) (show r31.toInt ≤ 9 by omega) x39 (show 0 ≤ x39.toInt by omega) (show x39.toInt ≤ 359 by omega) w33 H.size hT ) (cwV 2 hC.2.2.2.2 gX12_isDayFor_X12_isClosed rfl rfl rfl (by decide +kernel) ⟨Nat.le_of_ble_eq_true rfl, Nat.le_of_ble_eq_true rfl⟩) rfl hl.1 rfl (Nat.le_of_ble_eq_true rfl) dX12_isDayFor_34 (fun r40 w42 H locs hp41 hw => ?_)
    obtain ⟨hT, k43, hg48⟩ := hp41
    have hF := hF.tr k43 (by decide)
    have c49 := k43.gi kM_at12 rfl c37
    rcases hg48 with rfl | ⟨rfl, ⟨x44, c45, rx44, tx44⟩, ⟨x46, c47, rx46, tx46⟩⟩
    · refine lv_if_ne (tgt := 62) hx hb dX12_isDayFor_37 (by decide) (fun c => absurd (by decide) c) (fun _ => ?_)
      refine lv_aload_n hx hb dX12_isDayFor_40 rfl (lv_at hl 0 rfl) ?_
      refine lv_aload_n hx hb dX12_isDayFor_41 rfl (lv_at hl 0 rfl) ?_
      refine lv_iload_n hx hb dX12_isDayFor_42 rfl (lv_at hl 1 rfl) ?_
      refine lv_iconst (v := 1) hx hb dX12_isDayFor_43 (by decide) ?_
      refine tk_Vi hC hK hw hT hA hE hSR kM_at0 (by decide) rfl (k_X12_streetOf_3 l adK adV dC dI cy ad B (by omega) (by omega) qr s1   a1 (show 0 ≤ a1.toInt by omega) (show a1.toInt ≤ 11 by omega) w42 H.size hT ) (cwV 2 hC.2.2.2.2 gX12_isDayFor_X12_streetOf rfl rfl rfl (by decide +kernel) ⟨Nat.le_of_ble_eq_true rfl, Nat.le_of_ble_eq_true rfl⟩) rfl hl.1 rfl (Nat.le_of_ble_eq_true rfl) dX12_isDayFor_44 (fun r50 w52 H locs hp51 hw => ?_)
      obtain ⟨hT, k53, hg57⟩ := hp51
      have hF := hF.tr k53 (by decide)
      have c58 := k53.gi kM_at12 rfl c49
      obtain ⟨g54, g55, c56⟩ := hg57
      refine lv_iload_n hx hb dX12_isDayFor_47 rfl (lv_at hl 3 rfl) ?_
      refine lv_sipush (v := 360) hx hb dX12_isDayFor_48 (by decide) ?_
      refine lv_irem hx hb dX12_isDayFor_51 (by decide) ?_
      refine lv_topi (fun x59 ex59 => ?_)
      have ex59 : x59.toInt = a3.toInt % (360 : Int) := by rw [ex59]; exact wk_rem (show 0 ≤ a3.toInt by omega) (show 0 < (360 : Int) by decide)
      refine tk_Vi hC hK hw hT hA hE hSR kM_at0 (by decide) rfl (k_X12_isClosed_1 l adK adV dC dI cy ad B (by omega) (by omega) qr s1   r50 (show 0 ≤ r50.toInt by omega) (show r50.toInt ≤ 9 by omega) x59 (show 0 ≤ x59.toInt by omega) (show x59.toInt ≤ 359 by omega) w52 H.size hT ) (cwV 2 hC.2.2.2.2 gX12_isDayFor_X12_isClosed rfl rfl rfl (by decide +kernel) ⟨Nat.le_of_ble_eq_true rfl, Nat.le_of_ble_eq_true rfl⟩) rfl hl.1 rfl (Nat.le_of_ble_eq_true rfl) dX12_isDayFor_52 (fun r60 w62 H locs hp61 hw => ?_)
      obtain ⟨hT, k63, hg68⟩ := hp61
      have hF := hF.tr k63 (by decide)
      have c69 := k63.gi kM_at12 rfl c58
      have c70 := k63.gi kM_at12 rfl c56
      rcases hg68 with rfl | ⟨rfl, ⟨x64, c65, rx64, tx64⟩, ⟨x66, c67, rx66, tx66⟩⟩
      · refine lv_if_ne (tgt := 62) hx hb dX12_isDayFor_55 (by decide) (fun c => absurd (by decide) c) (fun _ => ?_)
        refine lv_iconst (v := 1) hx hb dX12_isDayFor_58 (by decide) ?_
        refine lv_goto (tgt := 63) hx hb dX12_isDayFor_59 (by decide) ?_
        exact tk_zret hC hr rfl hlocks hK ⟨hT, hF, (Or.inr (Or.inr (Or.inl rfl)))⟩ hw dX12_isDayFor_63
      · refine lv_if_ne (tgt := 62) hx hb dX12_isDayFor_55 (by decide) (fun _ => ?_) (fun c => absurd c (by decide))
        obtain rfl : x64 = 1 := wk_eq.mpr (show x64.toInt = 1 by omega)
        exact J62 r31 x66 H locs ls w62 (show 0 ≤ a1.toInt by omega) (show a1.toInt ≤ 11 by omega) (show 0 ≤ a2.toInt by omega) (show a2.toInt ≤ 9 by omega) (show 0 ≤ a3.toInt by omega) (show a3.toInt ≤ 4249 by omega) (show 0 ≤ r31.toInt by omega) (show r31.toInt ≤ 9 by omega) (show 1 ≤ x66.toInt by omega) (show x66.toInt ≤ 8 by omega)  hw hT hF c65 c69 c67 (lv_sub hl [0, 1, 2, 3] rfl)
    · refine lv_if_ne (tgt := 62) hx hb dX12_isDayFor_37 (by decide) (fun _ => ?_) (fun c => absurd c (by decide))
      obtain rfl : x44 = 1 := wk_eq.mpr (show x44.toInt = 1 by omega)
      exact J62 r31 x46 H locs ls w42 (show 0 ≤ a1.toInt by omega) (show a1.toInt ≤ 11 by omega) (show 0 ≤ a2.toInt by omega) (show a2.toInt ≤ 9 by omega) (show 0 ≤ a3.toInt by omega) (show a3.toInt ≤ 4249 by omega) (show 0 ≤ r31.toInt by omega) (show r31.toInt ≤ 9 by omega) (show 1 ≤ x46.toInt by omega) (show x46.toInt ≤ 8 by omega)  hw hT hF c45 c49 c47 (lv_sub hl [0, 1, 2, 3] rfl)
  · refine lv_if_ne (tgt := 22) hx hb dX12_isDayFor_17 (by decide) (fun _ => ?_) (fun c => absurd c (by decide))
    refine lv_aload_n hx hb dX12_isDayFor_22 rfl (lv_at hl 0 rfl) ?_
    refine lv_aload_n hx hb dX12_isDayFor_23 rfl (lv_at hl 0 rfl) ?_
    refine lv_iload_n hx hb dX12_isDayFor_24 rfl (lv_at hl 1 rfl) ?_
    refine lv_iconst (v := 0) hx hb dX12_isDayFor_25 (by decide) ?_
    refine tk_Vi hC hK hw hT hA hE hSR kM_at0 (by decide) rfl (k_X12_streetOf_2 l adK adV dC dI cy ad B (by omega) (by omega) qr s1   a1 (show 0 ≤ a1.toInt by omega) (show a1.toInt ≤ 11 by omega) w26 H.size hT ) (cwV 2 hC.2.2.2.2 gX12_isDayFor_X12_streetOf rfl rfl rfl (by decide +kernel) ⟨Nat.le_of_ble_eq_true rfl, Nat.le_of_ble_eq_true rfl⟩) rfl hl.1 rfl (Nat.le_of_ble_eq_true rfl) dX12_isDayFor_26 (fun r71 w73 H locs hp72 hw => ?_)
    obtain ⟨hT, k74, hg78⟩ := hp72
    have hF := hF.tr k74 (by decide)
    have c79 := k74.gi kM_at12 rfl c29
    obtain ⟨g75, g76, c77⟩ := hg78
    obtain rfl : r71 = a2 := c77.symm.trans c79
    refine lv_iload_n hx hb dX12_isDayFor_29 rfl (lv_at hl 3 rfl) ?_
    refine lv_sipush (v := 360) hx hb dX12_isDayFor_30 (by decide) ?_
    refine lv_irem hx hb dX12_isDayFor_33 (by decide) ?_
    refine lv_topi (fun x80 ex80 => ?_)
    have ex80 : x80.toInt = a3.toInt % (360 : Int) := by rw [ex80]; exact wk_rem (show 0 ≤ a3.toInt by omega) (show 0 < (360 : Int) by decide)
    refine tk_Vi hC hK hw hT hA hE hSR kM_at0 (by decide) rfl (k_X12_isClosed_1 l adK adV dC dI cy ad B (by omega) (by omega) qr s1   a2 (show 0 ≤ a2.toInt by omega) (show a2.toInt ≤ 9 by omega) x80 (show 0 ≤ x80.toInt by omega) (show x80.toInt ≤ 359 by omega) w73 H.size hT ) (cwV 2 hC.2.2.2.2 gX12_isDayFor_X12_isClosed rfl rfl rfl (by decide +kernel) ⟨Nat.le_of_ble_eq_true rfl, Nat.le_of_ble_eq_true rfl⟩) rfl hl.1 rfl (Nat.le_of_ble_eq_true rfl) dX12_isDayFor_34 (fun r81 w83 H locs hp82 hw => ?_)
    obtain ⟨hT, k84, hg89⟩ := hp82
    have hF := hF.tr k84 (by decide)
    have c90 := k84.gi kM_at12 rfl c79
    rcases hg89 with rfl | ⟨rfl, ⟨x85, c86, rx85, tx85⟩, ⟨x87, c88, rx87, tx87⟩⟩
    · refine lv_if_ne (tgt := 62) hx hb dX12_isDayFor_37 (by decide) (fun c => absurd (by decide) c) (fun _ => ?_)
      refine lv_aload_n hx hb dX12_isDayFor_40 rfl (lv_at hl 0 rfl) ?_
      refine lv_aload_n hx hb dX12_isDayFor_41 rfl (lv_at hl 0 rfl) ?_
      refine lv_iload_n hx hb dX12_isDayFor_42 rfl (lv_at hl 1 rfl) ?_
      refine lv_iconst (v := 1) hx hb dX12_isDayFor_43 (by decide) ?_
      refine tk_Vi hC hK hw hT hA hE hSR kM_at0 (by decide) rfl (k_X12_streetOf_3 l adK adV dC dI cy ad B (by omega) (by omega) qr s1   a1 (show 0 ≤ a1.toInt by omega) (show a1.toInt ≤ 11 by omega) w83 H.size hT ) (cwV 2 hC.2.2.2.2 gX12_isDayFor_X12_streetOf rfl rfl rfl (by decide +kernel) ⟨Nat.le_of_ble_eq_true rfl, Nat.le_of_ble_eq_true rfl⟩) rfl hl.1 rfl (Nat.le_of_ble_eq_true rfl) dX12_isDayFor_44 (fun r91 w93 H locs hp92 hw => ?_)
      obtain ⟨hT, k94, hg98⟩ := hp92
      have hF := hF.tr k94 (by decide)
      have c99 := k94.gi kM_at12 rfl c90
      obtain ⟨g95, g96, c97⟩ := hg98
      refine lv_iload_n hx hb dX12_isDayFor_47 rfl (lv_at hl 3 rfl) ?_
      refine lv_sipush (v := 360) hx hb dX12_isDayFor_48 (by decide) ?_
      refine lv_irem hx hb dX12_isDayFor_51 (by decide) ?_
      refine lv_topi (fun x100 ex100 => ?_)
      have ex100 : x100.toInt = a3.toInt % (360 : Int) := by rw [ex100]; exact wk_rem (show 0 ≤ a3.toInt by omega) (show 0 < (360 : Int) by decide)
      refine tk_Vi hC hK hw hT hA hE hSR kM_at0 (by decide) rfl (k_X12_isClosed_1 l adK adV dC dI cy ad B (by omega) (by omega) qr s1   r91 (show 0 ≤ r91.toInt by omega) (show r91.toInt ≤ 9 by omega) x100 (show 0 ≤ x100.toInt by omega) (show x100.toInt ≤ 359 by omega) w93 H.size hT ) (cwV 2 hC.2.2.2.2 gX12_isDayFor_X12_isClosed rfl rfl rfl (by decide +kernel) ⟨Nat.le_of_ble_eq_true rfl, Nat.le_of_ble_eq_true rfl⟩) rfl hl.1 rfl (Nat.le_of_ble_eq_true rfl) dX12_isDayFor_52 (fun r101 w103 H locs hp102 hw => ?_)
      obtain ⟨hT, k104, hg109⟩ := hp102
      have hF := hF.tr k104 (by decide)
      have c110 := k104.gi kM_at12 rfl c99
      have c111 := k104.gi kM_at12 rfl c97
      rcases hg109 with rfl | ⟨rfl, ⟨x105, c106, rx105, tx105⟩, ⟨x107, c108, rx107, tx107⟩⟩
      · refine lv_if_ne (tgt := 62) hx hb dX12_isDayFor_55 (by decide) (fun c => absurd (by decide) c) (fun _ => ?_)
        refine lv_iconst (v := 1) hx hb dX12_isDayFor_58 (by decide) ?_
        refine lv_goto (tgt := 63) hx hb dX12_isDayFor_59 (by decide) ?_
        exact tk_zret hC hr rfl hlocks hK ⟨hT, hF, (Or.inr (Or.inr (Or.inr ⟨rfl, c110⟩)))⟩ hw dX12_isDayFor_63
      · refine lv_if_ne (tgt := 62) hx hb dX12_isDayFor_55 (by decide) (fun _ => ?_) (fun c => absurd c (by decide))
        obtain rfl : x105 = 1 := wk_eq.mpr (show x105.toInt = 1 by omega)
        exact J62 a2 x107 H locs ls w103 (show 0 ≤ a1.toInt by omega) (show a1.toInt ≤ 11 by omega) (show 0 ≤ a2.toInt by omega) (show a2.toInt ≤ 9 by omega) (show 0 ≤ a3.toInt by omega) (show a3.toInt ≤ 4249 by omega) (show 0 ≤ a2.toInt by omega) (show a2.toInt ≤ 9 by omega) (show 1 ≤ x107.toInt by omega) (show x107.toInt ≤ 8 by omega)  hw hT hF c106 c110 c108 (lv_sub hl [0, 1, 2, 3] rfl)
    · refine lv_if_ne (tgt := 62) hx hb dX12_isDayFor_37 (by decide) (fun _ => ?_) (fun c => absurd c (by decide))
      obtain rfl : x85 = 1 := wk_eq.mpr (show x85.toInt = 1 by omega)
      exact J62 a2 x87 H locs ls w83 (show 0 ≤ a1.toInt by omega) (show a1.toInt ≤ 11 by omega) (show 0 ≤ a2.toInt by omega) (show a2.toInt ≤ 9 by omega) (show 0 ≤ a3.toInt by omega) (show a3.toInt ≤ 4249 by omega) (show 0 ≤ a2.toInt by omega) (show a2.toInt ≤ 9 by omega) (show 1 ≤ x87.toInt by omega) (show x87.toInt ≤ 8 by omega)  hw hT hF c86 c90 c88 (lv_sub hl [0, 1, 2, 3] rfl)
abbrev P_X12_isLifted_2 (ad : Nat → Nat) (cy : Nat → ClassId) (B : Int) (qr : Nat) (s1 : Int) (a1 : Int32) (a2 : Int32) (w0 : va_W) : Int32 → va_W → Prop := fun r u => TW ksM ad cy B qr 12 u ∧ FE ksM ([] : List (Nat × Nat × Nat)) w0 u ∧ ((r = 0) ∨ (r = 1 ∧ (∃ y : Int32, gi u 12 3 = y ∧ 1 ≤ y.toInt ∧ y.toInt ≤ 4)))
set_option maxHeartbeats 4000000 in
set_option maxRecDepth 100000 in
theorem k_X12_isLifted_2 (l : Launch) (adK adV : Nat → Nat) (dC : Nat → ClassId) (dI : Nat → Nat → Nat) (cy : Nat → ClassId) (ad : Nat → Nat) (B : Int) (hB0 : 100000 ≤ B) (hB1 : B ≤ 1073741824) (qr : Nat) (s1 : Int)  (a1 : Int32) (ra1 : 0 ≤ a1.toInt) (ta1 : a1.toInt ≤ 11) (a2 : Int32) (ra2 : 0 ≤ a2.toInt) (ta2 : a2.toInt ≤ 101999) (w0 : va_W) (sz : Nat) (hT : TW ksM ad cy B qr 12 w0)  : Met l yX12_isLifted wsX12_isLifted ({ frames := 1, cells := 0, slots := 0, locals := 12 }) (va_Pc [.ref (ad 0), .int a1, .int a2] (wpreS adK adV dC dI cy sz w0)) (va_Qi (P_X12_isLifted_2 ad cy B qr s1 a1 a2 w0) (fun u : va_W => wpost dC dI cy (va_A w0 sz) u) (va_A w0 sz)) 0 0 (va_A w0 sz) := by
  refine Met.ofW (cc := cX12_isLifted) (maxL := 5) (ret := (some .boolean)) (by decide) rfl ?_
  intro p e s m args below meth c s₁ Bk hml hv
  obtain ⟨rfl, ⟨hsz, hP, hK, hD0⟩, hE, hSR⟩ := hv
  have hx := Bk.exec
  have hb := Bk.bytes
  have hr := Bk.returns
  have hlocks := Bk.notSynchronized
  have hC : CallFix p m c cX12_isLifted 5 s _ wsX12_isLifted RX12 := ⟨hx, hb, hml, findClass_of_methodNamed Bk.named, atoms_spec (ws := wsX12_isLifted) Bk.pre⟩
  subst hsz
  have hD := hD0.self (sz := s.heap.size)
  generalize hAe : va_A w0 s.heap.size = A at hD hE ⊢
  have hA : ∀ q : Nat, s.heap.size ≤ q → A q := fun q h => by rw [← hAe]; exact Or.inr h
  have hw : Wd dC dI A s.heap s.heap [] w0 := ⟨hP, hD, va_S.rf⟩
  have hF : FE ksM ([] : List (Nat × Nat × Nat)) w0 w0 := FE.rf
  have hl := lv_entry ([.ref (ad 0), .int a1, .int a2]) (n := 5) (Nat.le_of_ble_eq_true rfl)
  rw [lg_entry_eq]
  generalize (lg_sl ([.ref (ad 0), .int a1, .int a2]) ++ List.replicate (5 - (lg_sl ([.ref (ad 0), .int a1, .int a2])).length) Slot.unset).toArray = ls at hl ⊢
  have hl : lv_has ls 5 [(0, .ref (ad 0)), (1, .int a1), (2, .int a2)] := hl
  generalize hloc : ([] : List Loc) = locs at hw ⊢
  have hinX12 : ∀ w ∈ u_ws RX12 TX12 42, w ∈ wsX12_isLifted := fun _ h => List.mem_cons_of_mem _ (List.mem_append_right _ (h))
  have L2 : ∀ (n2 : Nat) (v2_3 : Int32) (H : Heap) (locs : List Loc) (ls : Array Slot) (w1 : va_W), 0 ≤ a1.toInt → a1.toInt ≤ 11 → 0 ≤ a2.toInt → a2.toInt ≤ 101999 → 0 ≤ v2_3.toInt → v2_3.toInt ≤ 4 → (4 - v2_3.toInt).toNat < n2 → Wd dC dI A s.heap H locs w1 → TW ksM ad cy B qr 12 w1 → FE ksM ([] : List (Nat × Nat × Nat)) w0 w1 → lv_has ls 5 [(0, .ref (ad 0)), (1, .int a1), (2, .int a2), (3, .int v2_3)] → W p l e ({ frames := 1, cells := 0, slots := 0, locals := 12 }) s m (List.toArray [.ref (ad 0), .int a1, .int a2]) below meth c H locs 0 0 (MQ below (va_Qi (P_X12_isLifted_2 ad cy B qr s1 a1 a2 w0) (fun u : va_W => wpost dC dI cy A u) A) (List.toArray [.ref (ad 0), .int a1, .int a2]) s 0 0 A) (F0 m 2 ls []) := by
    intro n2
    induction n2 with
    | zero => intro v2_3 H locs ls w1 r2 t3 r4 t5 r6 t7 hm2 hw hT hF hl; omega
    | succ n2 ih2 =>
      intro v2_3 H locs ls w1 r2 t3 r4 t5 r6 t7 hm2 hw hT hF hl
      have J66 : ∀ (v66_4 : Int32) (f66_12__3_v2_3_toInt_156_toNat : Int32) (f66_12_3 : Int32) (H : Heap) (locs : List Loc) (ls : Array Slot) (w8 : va_W), 0 ≤ a1.toInt → a1.toInt ≤ 11 → 0 ≤ a2.toInt → a2.toInt ≤ 101999 → 0 ≤ v2_3.toInt → v2_3.toInt ≤ 3 → 156 ≤ v66_4.toInt → v66_4.toInt ≤ 165 → v66_4.toInt = 3 * v2_3.toInt + 156 → 1 ≤ f66_12_3.toInt → f66_12_3.toInt ≤ 4 → Wd dC dI A s.heap H locs w8 → TW ksM ad cy B qr 12 w8 → FE ksM ([] : List (Nat × Nat × Nat)) w0 w8 → gi w8 12 (3 * v2_3.toInt + 156).toNat = f66_12__3_v2_3_toInt_156_toNat → gi w8 12 3 = f66_12_3 → lv_has ls 5 [(0, .ref (ad 0)), (1, .int a1), (2, .int a2), (3, .int v2_3), (4, .int v66_4)] → W p l e ({ frames := 1, cells := 0, slots := 0, locals := 12 }) s m (List.toArray [.ref (ad 0), .int a1, .int a2]) below meth c H locs 0 0 (MQ below (va_Qi (P_X12_isLifted_2 ad cy B qr s1 a1 a2 w0) (fun u : va_W => wpost dC dI cy A u) A) (List.toArray [.ref (ad 0), .int a1, .int a2]) s 0 0 A) (F0 m 66 ls []) := by
        intro v66_4 f66_12__3_v2_3_toInt_156_toNat f66_12_3 H locs ls w8 r9 t10 r11 t12 r13 t14 r15 t16 l17 r19 t20 hw hT hF c18 c21 hl
        obtain ⟨x22, ex22⟩ : ∃ y : Int32, y = v2_3 + Int32.ofInt 1 := ⟨_, rfl⟩
        refine lv_iinc (v := x22) (lv' := [(3, .int x22), (0, .ref (ad 0)), (1, .int a1), (2, .int a2), (4, .int v66_4)]) hx hb dX12_isLifted_66 hl (k := 3) rfl ex22.symm (by decide) rfl (fun ls hl => ?_)
        have ex22 : x22.toInt = v2_3.toInt + 1 := by rw [ex22]; exact wk_add (y := 1) (show -2147483648 ≤ v2_3.toInt + 1 by omega) (show v2_3.toInt + 1 ≤ 2147483647 by omega)
        refine lv_goto (tgt := 2) hx hb dX12_isLifted_69 (by decide) ?_
        exact ih2 x22 H locs ls w8 (show 0 ≤ a1.toInt by omega) (show a1.toInt ≤ 11 by omega) (show 0 ≤ a2.toInt by omega) (show a2.toInt ≤ 101999 by omega) (show 0 ≤ x22.toInt by omega) (show x22.toInt ≤ 4 by omega) (show (4 - x22.toInt).toNat < n2 by omega) hw hT hF  (lv_sub hl [1, 2, 3, 0] rfl)
      refine lv_iload_n hx hb dX12_isLifted_2 rfl (lv_at hl 3 rfl) ?_
      refine lv_aload_n hx hb dX12_isLifted_3 rfl (lv_at hl 0 rfl) ?_
      refine tk_getA hC hK hw hT hinX12 kM_at0 (by decide) rfl 26 (by decide) (List.mem_of_getElem? (i := 1) rfl) rfl rfl dX12_isLifted_4 ?_
      refine lv_iconst (v := 3) hx hb dX12_isLifted_7 (by decide) ?_
      refine tk_ialdR hC hK hw hT kM_at12 rfl (by decide) (by decide) dX12_isLifted_8 (fun x23 c24 Ex23 => ?_)
      have bx23 := tk_rgI rfl 3 1 1 0 4 (by decide +kernel) ⟨0, by decide, by decide⟩ Ex23
      have c24 : gi w1 12 3 = x23 := c24
      refine lv_icmp_ge (tgt := 72) hx hb dX12_isLifted_9 (by decide) (fun c25 => ?_) (fun c25 => ?_)
      · have c25 : x23.toInt ≤ v2_3.toInt := wk_le.mp c25
        refine lv_iconst (v := 0) hx hb dX12_isLifted_72 (by decide) ?_
        exact tk_zret hC hr rfl hlocks hK ⟨hT, hF, (Or.inl rfl)⟩ hw dX12_isLifted_73
      · have c25 : v2_3.toInt < x23.toInt := wk_leF c25
        refine lv_sipush (v := 156) hx hb dX12_isLifted_12 (by decide) ?_
        refine lv_iconst (v := 3) hx hb dX12_isLifted_15 (by decide) ?_
        refine lv_iload_n hx hb dX12_isLifted_16 rfl (lv_at hl 3 rfl) ?_
        refine lv_imul hx hb dX12_isLifted_17 ?_
        refine lv_topi (fun x26 ex26 => ?_)
        have ex26 : x26.toInt = (3 : Int) * v2_3.toInt := by rw [ex26]; exact wk_mul (show (-2147483648) ≤ (3 : Int) * v2_3.toInt by omega) (show (3 : Int) * v2_3.toInt ≤ 2147483647 by omega)
        refine lv_iadd hx hb dX12_isLifted_18 ?_
        refine lv_topi (fun x27 ex27 => ?_)
        have ex27 : x27.toInt = (156 : Int) + x26.toInt := by rw [ex27]; exact wk_add (show (-2147483648) ≤ (156 : Int) + x26.toInt by omega) (show (156 : Int) + x26.toInt ≤ 2147483647 by omega)
        refine lv_istore (lv' := [(4, .int x27), (0, .ref (ad 0)), (1, .int a1), (2, .int a2), (3, .int v2_3)]) hx hb dX12_isLifted_19 hl (by decide) rfl (fun ls hl => ?_)
        refine lv_aload_n hx hb dX12_isLifted_21 rfl (lv_at hl 1 rfl) ?_
        refine tk_getA hC hK hw hT hinX12 kM_at0 (by decide) rfl 26 (by decide) (List.mem_of_getElem? (i := 1) rfl) rfl rfl dX12_isLifted_22 ?_
        refine lv_iload hx hb dX12_isLifted_25 (lv_at hl 0 rfl) ?_
        refine tk_ialdR hC hK hw hT kM_at12 rfl (show 0 ≤ x27.toInt by omega) (show x27.toInt < 296 by omega) dX12_isLifted_27 (fun x28 c29 Ex28 => ?_)
        have c29 : gi w1 12 (3 * v2_3.toInt + 156).toNat = x28 := (congrArg (gi w1 12) (congrArg Int.toNat (show 3 * v2_3.toInt + 156 = x27.toInt by omega))).trans c29
        refine lv_iload_n hx hb dX12_isLifted_28 rfl (lv_at hl 2 rfl) ?_
        refine lv_icmp_ne (tgt := 66) hx hb dX12_isLifted_29 (by decide) (fun c30 => ?_) (fun c30 => ?_)
        · have c30 : ¬ x28.toInt = a1.toInt := wk_eqF c30
          exact J66 x27 x28 x23 H locs ls w1 (show 0 ≤ a1.toInt by omega) (show a1.toInt ≤ 11 by omega) (show 0 ≤ a2.toInt by omega) (show a2.toInt ≤ 101999 by omega) (show 0 ≤ v2_3.toInt by omega) (show v2_3.toInt ≤ 3 by omega) (show 156 ≤ x27.toInt by omega) (show x27.toInt ≤ 165 by omega) (show x27.toInt = 3 * v2_3.toInt + 156 by omega) (show 1 ≤ x23.toInt by omega) (show x23.toInt ≤ 4 by omega)  hw hT hF c29 c24 (lv_sub hl [1, 2, 3, 4, 0] rfl)
        · have c30 : x28.toInt = a1.toInt := wk_eq.mp c30
          refine lv_iload_n hx hb dX12_isLifted_32 rfl (lv_at hl 3 rfl) ?_
          refine lv_bipush (v := 24) hx hb dX12_isLifted_33 (by decide) ?_
          refine lv_irem hx hb dX12_isLifted_35 (by decide) ?_
          refine lv_topi (fun x31 ex31 => ?_)
          have ex31 : x31.toInt = a2.toInt % (24 : Int) := by rw [ex31]; exact wk_rem (show 0 ≤ a2.toInt by omega) (show 0 < (24 : Int) by decide)
          refine lv_aload_n hx hb dX12_isLifted_36 rfl (lv_at hl 1 rfl) ?_
          refine tk_getA hC hK hw hT hinX12 kM_at0 (by decide) rfl 26 (by decide) (List.mem_of_getElem? (i := 1) rfl) rfl rfl dX12_isLifted_37 ?_
          refine lv_iload hx hb dX12_isLifted_40 (lv_at hl 0 rfl) ?_
          refine lv_iconst (v := 1) hx hb dX12_isLifted_42 (by decide) ?_
          refine lv_iadd hx hb dX12_isLifted_43 ?_
          refine lv_topi (fun x32 ex32 => ?_)
          have ex32 : x32.toInt = x27.toInt + (1 : Int) := by rw [ex32]; exact wk_add (show (-2147483648) ≤ x27.toInt + (1 : Int) by omega) (show x27.toInt + (1 : Int) ≤ 2147483647 by omega)
          refine tk_ialdR hC hK hw hT kM_at12 rfl (show 0 ≤ x32.toInt by omega) (show x32.toInt < 296 by omega) dX12_isLifted_44 (fun x33 c34 Ex33 => ?_)
          have c34 : gi w1 12 (3 * v2_3.toInt + 157).toNat = x33 := (congrArg (gi w1 12) (congrArg Int.toNat (show 3 * v2_3.toInt + 157 = x32.toInt by omega))).trans c34
          refine lv_icmp_lt (tgt := 66) hx hb dX12_isLifted_45 (by decide) (fun c35 => ?_) (fun c35 => ?_)
          · have c35 : x31.toInt < x33.toInt := wk_lt.mp c35
            exact J66 x27 x28 x23 H locs ls w1 (show 0 ≤ a1.toInt by omega) (show a1.toInt ≤ 11 by omega) (show 0 ≤ a2.toInt by omega) (show a2.toInt ≤ 101999 by omega) (show 0 ≤ v2_3.toInt by omega) (show v2_3.toInt ≤ 3 by omega) (show 156 ≤ x27.toInt by omega) (show x27.toInt ≤ 165 by omega) (show x27.toInt = 3 * v2_3.toInt + 156 by omega) (show 1 ≤ x23.toInt by omega) (show x23.toInt ≤ 4 by omega)  hw hT hF c29 c24 (lv_sub hl [1, 2, 3, 4, 0] rfl)
          · have c35 : x33.toInt ≤ x31.toInt := wk_ltF c35
            refine lv_iload_n hx hb dX12_isLifted_48 rfl (lv_at hl 3 rfl) ?_
            refine lv_bipush (v := 24) hx hb dX12_isLifted_49 (by decide) ?_
            refine lv_irem hx hb dX12_isLifted_51 (by decide) ?_
            refine lv_topi (fun x36 ex36 => ?_)
            have ex36 : x36.toInt = a2.toInt % (24 : Int) := by rw [ex36]; exact wk_rem (show 0 ≤ a2.toInt by omega) (show 0 < (24 : Int) by decide)
            refine lv_aload_n hx hb dX12_isLifted_52 rfl (lv_at hl 1 rfl) ?_
            refine tk_getA hC hK hw hT hinX12 kM_at0 (by decide) rfl 26 (by decide) (List.mem_of_getElem? (i := 1) rfl) rfl rfl dX12_isLifted_53 ?_
            refine lv_iload hx hb dX12_isLifted_56 (lv_at hl 0 rfl) ?_
            refine lv_iconst (v := 2) hx hb dX12_isLifted_58 (by decide) ?_
            refine lv_iadd hx hb dX12_isLifted_59 ?_
            refine lv_topi (fun x37 ex37 => ?_)
            have ex37 : x37.toInt = x27.toInt + (2 : Int) := by rw [ex37]; exact wk_add (show (-2147483648) ≤ x27.toInt + (2 : Int) by omega) (show x27.toInt + (2 : Int) ≤ 2147483647 by omega)
            refine tk_ialdR hC hK hw hT kM_at12 rfl (show 0 ≤ x37.toInt by omega) (show x37.toInt < 296 by omega) dX12_isLifted_60 (fun x38 c39 Ex38 => ?_)
            have c39 : gi w1 12 (3 * v2_3.toInt + 158).toNat = x38 := (congrArg (gi w1 12) (congrArg Int.toNat (show 3 * v2_3.toInt + 158 = x37.toInt by omega))).trans c39
            refine lv_icmp_ge (tgt := 66) hx hb dX12_isLifted_61 (by decide) (fun c40 => ?_) (fun c40 => ?_)
            · have c40 : x38.toInt ≤ x36.toInt := wk_le.mp c40
              exact J66 x27 x28 x23 H locs ls w1 (show 0 ≤ a1.toInt by omega) (show a1.toInt ≤ 11 by omega) (show 0 ≤ a2.toInt by omega) (show a2.toInt ≤ 101999 by omega) (show 0 ≤ v2_3.toInt by omega) (show v2_3.toInt ≤ 3 by omega) (show 156 ≤ x27.toInt by omega) (show x27.toInt ≤ 165 by omega) (show x27.toInt = 3 * v2_3.toInt + 156 by omega) (show 1 ≤ x23.toInt by omega) (show x23.toInt ≤ 4 by omega)  hw hT hF c29 c24 (lv_sub hl [1, 2, 3, 4, 0] rfl)
            · have c40 : x36.toInt < x38.toInt := wk_leF c40
              refine lv_iconst (v := 1) hx hb dX12_isLifted_64 (by decide) ?_
              exact tk_zret hC hr rfl hlocks hK ⟨hT, hF, (Or.inr ⟨rfl, ⟨x23, c24, (show 1 ≤ x23.toInt by omega), (show x23.toInt ≤ 4 by omega)⟩⟩)⟩ hw dX12_isLifted_65
  refine lv_iconst (v := 0) hx hb dX12_isLifted_0 (by decide) ?_
  refine lv_istore_n (lv' := [(3, .int 0), (0, .ref (ad 0)), (1, .int a1), (2, .int a2)]) hx hb dX12_isLifted_1 rfl hl (by decide) rfl (fun ls hl => ?_)
  exact L2 ((4 - (0 : Int)).toNat + 1) 0 s.heap locs ls w0 (show 0 ≤ a1.toInt by omega) (show a1.toInt ≤ 11 by omega) (show 0 ≤ a2.toInt by omega) (show a2.toInt ≤ 101999 by omega) (by decide) (by decide) (Nat.lt_succ_self _) hw hT hF  (lv_sub hl [1, 2, 3, 0] rfl)
abbrev P_X12_firstOpen_1 (ad : Nat → Nat) (cy : Nat → ClassId) (B : Int) (qr : Nat) (s1 : Int) (a1 : Int32) (a2 : Int32) (a3 : Int32) (a4 : Int32) (w0 : va_W) : Int32 → va_W → Prop := fun r u => TW ksM ad cy B qr 12 u ∧ FE ksM ([] : List (Nat × Nat × Nat)) w0 u ∧ ((0 ≤ r.toInt ∧ r.toInt ≤ 100000000) ∨ (0 ≤ r.toInt ∧ r.toInt ≤ 101999 ∧ gi u 12 (10 * a1.toInt + 10).toNat = a2))
set_option maxHeartbeats 4000000 in
set_option maxRecDepth 100000 in
theorem k_X12_firstOpen_1 (l : Launch) (adK adV : Nat → Nat) (dC : Nat → ClassId) (dI : Nat → Nat → Nat) (cy : Nat → ClassId) (ad : Nat → Nat) (B : Int) (hB0 : 100000 ≤ B) (hB1 : B ≤ 1073741824) (qr : Nat) (s1 : Int)  (a1 : Int32) (ra1 : 0 ≤ a1.toInt) (ta1 : a1.toInt ≤ 11) (a2 : Int32) (ra2 : 0 ≤ a2.toInt) (ta2 : a2.toInt ≤ 9) (a3 : Int32) (ra3 : 0 ≤ a3.toInt) (ta3 : a3.toInt ≤ 100000100) (a4 : Int32) (ra4 : 2000 ≤ a4.toInt) (ta4 : a4.toInt ≤ 101999) (w0 : va_W) (sz : Nat) (hT : TW ksM ad cy B qr 12 w0)  : Met l yX12_firstOpen wsX12_firstOpen ({ frames := 4, cells := 0, slots := 0, locals := 80 }) (va_Pc [.ref (ad 0), .int a1, .int a2, .int a3, .int a4] (wpreS adK adV dC dI cy sz w0)) (va_Qi (P_X12_firstOpen_1 ad cy B qr s1 a1 a2 a3 a4 w0) (fun u : va_W => wpost dC dI cy (va_A w0 sz) u) (va_A w0 sz)) 0 0 (va_A w0 sz) := by
  refine Met.ofW (cc := cX12_firstOpen) (maxL := 6) (ret := (some .int)) (by decide) rfl ?_
  intro p e s m args below meth c s₁ Bk hml hv
  obtain ⟨rfl, ⟨hsz, hP, hK, hD0⟩, hE, hSR⟩ := hv
  have hx := Bk.exec
  have hb := Bk.bytes
  have hr := Bk.returns
  have hlocks := Bk.notSynchronized
  have hC : CallFix p m c cX12_firstOpen 6 s _ wsX12_firstOpen RX12 := ⟨hx, hb, hml, findClass_of_methodNamed Bk.named, atoms_spec (ws := wsX12_firstOpen) Bk.pre⟩
  subst hsz
  have hD := hD0.self (sz := s.heap.size)
  generalize hAe : va_A w0 s.heap.size = A at hD hE ⊢
  have hA : ∀ q : Nat, s.heap.size ≤ q → A q := fun q h => by rw [← hAe]; exact Or.inr h
  have hw : Wd dC dI A s.heap s.heap [] w0 := ⟨hP, hD, va_S.rf⟩
  have hF : FE ksM ([] : List (Nat × Nat × Nat)) w0 w0 := FE.rf
  have hl := lv_entry ([.ref (ad 0), .int a1, .int a2, .int a3, .int a4]) (n := 6) (Nat.le_of_ble_eq_true rfl)
  rw [lg_entry_eq]
  generalize (lg_sl ([.ref (ad 0), .int a1, .int a2, .int a3, .int a4]) ++ List.replicate (6 - (lg_sl ([.ref (ad 0), .int a1, .int a2, .int a3, .int a4])).length) Slot.unset).toArray = ls at hl ⊢
  have hl : lv_has ls 6 [(0, .ref (ad 0)), (1, .int a1), (2, .int a2), (3, .int a3), (4, .int a4)] := hl
  generalize hloc : ([] : List Loc) = locs at hw ⊢
  have L3 : ∀ (n3 : Nat) (v3_5 : Int32) (H : Heap) (locs : List Loc) (ls : Array Slot) (w1 : va_W), 0 ≤ a1.toInt → a1.toInt ≤ 11 → 0 ≤ a2.toInt → a2.toInt ≤ 9 → 0 ≤ a3.toInt → a3.toInt ≤ 100000100 → 2000 ≤ a4.toInt → a4.toInt ≤ 101999 → 0 ≤ v3_5.toInt → v3_5.toInt ≤ 100000100 → (100000100 - v3_5.toInt).toNat < n3 → Wd dC dI A s.heap H locs w1 → TW ksM ad cy B qr 12 w1 → FE ksM ([] : List (Nat × Nat × Nat)) w0 w1 → lv_has ls 6 [(0, .ref (ad 0)), (1, .int a1), (2, .int a2), (3, .int a3), (4, .int a4), (5, .int v3_5)] → W p l e ({ frames := 4, cells := 0, slots := 0, locals := 80 }) s m (List.toArray [.ref (ad 0), .int a1, .int a2, .int a3, .int a4]) below meth c H locs 0 0 (MQ below (va_Qi (P_X12_firstOpen_1 ad cy B qr s1 a1 a2 a3 a4 w0) (fun u : va_W => wpost dC dI cy A u) A) (List.toArray [.ref (ad 0), .int a1, .int a2, .int a3, .int a4]) s 0 0 A) (F0 m 3 ls []) := by
    intro n3
    induction n3 with
    | zero => intro v3_5 H locs ls w1 r2 t3 r4 t5 r6 t7 r8 t9 r10 t11 hm3 hw hT hF hl; omega
    | succ n3 ih3 =>
      intro v3_5 H locs ls w1 r2 t3 r4 t5 r6 t7 r8 t9 r10 t11 hm3 hw hT hF hl
      refine lv_iload hx hb dX12_firstOpen_3 (lv_at hl 5 rfl) ?_
      refine lv_iload hx hb dX12_firstOpen_5 (lv_at hl 4 rfl) ?_
      refine lv_icmp_gt (tgt := 58) hx hb dX12_firstOpen_7 (by decide) (fun c12 => ?_) (fun c12 => ?_)
      · have c12 : a4.toInt < v3_5.toInt := wk_lt.mp c12
        refine lv_ldcw (v := 100000000) hx hb hC.2.2.2.1 (hC.2.2.2.2 _ (List.mem_of_getElem? (i := 1) rfl)) dX12_firstOpen_58 ?_
        exact tk_iret hC hr hlocks hK ⟨hT, hF, (Or.inl ⟨(by decide), (by decide)⟩)⟩ hw dX12_firstOpen_61
      · have c12 : v3_5.toInt ≤ a4.toInt := wk_ltF c12
        refine lv_aload_n hx hb dX12_firstOpen_10 rfl (lv_at hl 0 rfl) ?_
        refine lv_iload_n hx hb dX12_firstOpen_11 rfl (lv_at hl 1 rfl) ?_
        refine lv_iload_n hx hb dX12_firstOpen_12 rfl (lv_at hl 2 rfl) ?_
        refine lv_iload hx hb dX12_firstOpen_13 (lv_at hl 5 rfl) ?_
        refine lv_bipush (v := 24) hx hb dX12_firstOpen_15 (by decide) ?_
        refine lv_idiv hx hb dX12_firstOpen_17 (by decide) ?_
        refine lv_topi (fun x13 ex13 => ?_)
        have ex13 : x13.toInt = v3_5.toInt / (24 : Int) := by rw [ex13]; exact wk_div (show 0 ≤ v3_5.toInt by omega) (show 0 < (24 : Int) by decide)
        refine tk_Vi hC hK hw hT hA hE hSR kM_at0 (by decide) rfl (k_X12_isDayFor_2 l adK adV dC dI cy ad B (by omega) (by omega) qr s1   a1 (show 0 ≤ a1.toInt by omega) (show a1.toInt ≤ 11 by omega) a2 (show 0 ≤ a2.toInt by omega) (show a2.toInt ≤ 9 by omega) x13 (show 0 ≤ x13.toInt by omega) (show x13.toInt ≤ 4249 by omega) w1 H.size hT ) (cwV 3 hC.2.2.2.2 gX12_firstOpen_X12_isDayFor rfl rfl rfl (by decide +kernel) ⟨Nat.le_of_ble_eq_true rfl, Nat.le_of_ble_eq_true rfl⟩) rfl hl.1 rfl (Nat.le_of_ble_eq_true rfl) dX12_firstOpen_18 (fun r14 w16 H locs hp15 hw => ?_)
        obtain ⟨hT, k17, hg20⟩ := hp15
        have hF := hF.tr k17 (by decide)
        rcases hg20 with rfl | ⟨rfl, c18⟩ | rfl | ⟨rfl, c19⟩
        · refine lv_if_ne (tgt := 39) hx hb dX12_firstOpen_21 (by decide) (fun c => absurd (by decide) c) (fun _ => ?_)
          refine lv_iload hx hb dX12_firstOpen_24 (lv_at hl 5 rfl) ?_
          refine lv_bipush (v := 24) hx hb dX12_firstOpen_26 (by decide) ?_
          refine lv_idiv hx hb dX12_firstOpen_28 (by decide) ?_
          refine lv_topi (fun x21 ex21 => ?_)
          have ex21 : x21.toInt = v3_5.toInt / (24 : Int) := by rw [ex21]; exact wk_div (show 0 ≤ v3_5.toInt by omega) (show 0 < (24 : Int) by decide)
          refine lv_iconst (v := 1) hx hb dX12_firstOpen_29 (by decide) ?_
          refine lv_iadd hx hb dX12_firstOpen_30 ?_
          refine lv_topi (fun x22 ex22 => ?_)
          have ex22 : x22.toInt = x21.toInt + (1 : Int) := by rw [ex22]; exact wk_add (show (-2147483648) ≤ x21.toInt + (1 : Int) by omega) (show x21.toInt + (1 : Int) ≤ 2147483647 by omega)
          refine lv_bipush (v := 24) hx hb dX12_firstOpen_31 (by decide) ?_
          refine lv_imul hx hb dX12_firstOpen_33 ?_
          refine lv_topi (fun x23 ex23 => ?_)
          have ex23 : x23.toInt = x22.toInt * (24 : Int) := by rw [ex23]; exact wk_mul (show (-2147483648) ≤ x22.toInt * (24 : Int) by omega) (show x22.toInt * (24 : Int) ≤ 2147483647 by omega)
          refine lv_istore (lv' := [(5, .int x23), (0, .ref (ad 0)), (1, .int a1), (2, .int a2), (3, .int a3), (4, .int a4)]) hx hb dX12_firstOpen_34 hl (by decide) rfl (fun ls hl => ?_)
          refine lv_goto (tgt := 3) hx hb dX12_firstOpen_36 (by decide) ?_
          exact ih3 x23 H locs ls w16 (show 0 ≤ a1.toInt by omega) (show a1.toInt ≤ 11 by omega) (show 0 ≤ a2.toInt by omega) (show a2.toInt ≤ 9 by omega) (show 0 ≤ a3.toInt by omega) (show a3.toInt ≤ 100000100 by omega) (show 2000 ≤ a4.toInt by omega) (show a4.toInt ≤ 101999 by omega) (show 0 ≤ x23.toInt by omega) (show x23.toInt ≤ 100000100 by omega) (show (100000100 - x23.toInt).toNat < n3 by omega) hw hT hF  (lv_sub hl [1, 2, 3, 4, 5, 0] rfl)
        · refine lv_if_ne (tgt := 39) hx hb dX12_firstOpen_21 (by decide) (fun c => absurd (by decide) c) (fun _ => ?_)
          refine lv_iload hx hb dX12_firstOpen_24 (lv_at hl 5 rfl) ?_
          refine lv_bipush (v := 24) hx hb dX12_firstOpen_26 (by decide) ?_
          refine lv_idiv hx hb dX12_firstOpen_28 (by decide) ?_
          refine lv_topi (fun x24 ex24 => ?_)
          have ex24 : x24.toInt = v3_5.toInt / (24 : Int) := by rw [ex24]; exact wk_div (show 0 ≤ v3_5.toInt by omega) (show 0 < (24 : Int) by decide)
          refine lv_iconst (v := 1) hx hb dX12_firstOpen_29 (by decide) ?_
          refine lv_iadd hx hb dX12_firstOpen_30 ?_
          refine lv_topi (fun x25 ex25 => ?_)
          have ex25 : x25.toInt = x24.toInt + (1 : Int) := by rw [ex25]; exact wk_add (show (-2147483648) ≤ x24.toInt + (1 : Int) by omega) (show x24.toInt + (1 : Int) ≤ 2147483647 by omega)
          refine lv_bipush (v := 24) hx hb dX12_firstOpen_31 (by decide) ?_
          refine lv_imul hx hb dX12_firstOpen_33 ?_
          refine lv_topi (fun x26 ex26 => ?_)
          have ex26 : x26.toInt = x25.toInt * (24 : Int) := by rw [ex26]; exact wk_mul (show (-2147483648) ≤ x25.toInt * (24 : Int) by omega) (show x25.toInt * (24 : Int) ≤ 2147483647 by omega)
          refine lv_istore (lv' := [(5, .int x26), (0, .ref (ad 0)), (1, .int a1), (2, .int a2), (3, .int a3), (4, .int a4)]) hx hb dX12_firstOpen_34 hl (by decide) rfl (fun ls hl => ?_)
          refine lv_goto (tgt := 3) hx hb dX12_firstOpen_36 (by decide) ?_
          exact ih3 x26 H locs ls w16 (show 0 ≤ a1.toInt by omega) (show a1.toInt ≤ 11 by omega) (show 0 ≤ a2.toInt by omega) (show a2.toInt ≤ 9 by omega) (show 0 ≤ a3.toInt by omega) (show a3.toInt ≤ 100000100 by omega) (show 2000 ≤ a4.toInt by omega) (show a4.toInt ≤ 101999 by omega) (show 0 ≤ x26.toInt by omega) (show x26.toInt ≤ 100000100 by omega) (show (100000100 - x26.toInt).toNat < n3 by omega) hw hT hF  (lv_sub hl [1, 2, 3, 4, 5, 0] rfl)
        · refine lv_if_ne (tgt := 39) hx hb dX12_firstOpen_21 (by decide) (fun _ => ?_) (fun c => absurd c (by decide))
          refine lv_aload_n hx hb dX12_firstOpen_39 rfl (lv_at hl 0 rfl) ?_
          refine lv_iload_n hx hb dX12_firstOpen_40 rfl (lv_at hl 1 rfl) ?_
          refine lv_iload hx hb dX12_firstOpen_41 (lv_at hl 5 rfl) ?_
          refine tk_Vi hC hK hw hT hA hE hSR kM_at0 (by decide) rfl (k_X12_isLifted_2 l adK adV dC dI cy ad B (by omega) (by omega) qr s1   a1 (show 0 ≤ a1.toInt by omega) (show a1.toInt ≤ 11 by omega) v3_5 (show 0 ≤ v3_5.toInt by omega) (show v3_5.toInt ≤ 101999 by omega) w16 H.size hT ) (cwV 2 hC.2.2.2.2 gX12_firstOpen_X12_isLifted rfl rfl rfl (by decide +kernel) ⟨Nat.le_of_ble_eq_true rfl, Nat.le_of_ble_eq_true rfl⟩) rfl hl.1 rfl (Nat.le_of_ble_eq_true rfl) dX12_firstOpen_43 (fun r27 w29 H locs hp28 hw => ?_)
          obtain ⟨hT, k30, hg33⟩ := hp28
          have hF := hF.tr k30 (by decide)
          rcases hg33 with rfl | ⟨rfl, ⟨x31, c32, rx31, tx31⟩⟩
          · refine lv_if_eq (tgt := 55) hx hb dX12_firstOpen_46 (by decide) (fun _ => ?_) (fun c => absurd (by decide) c)
            refine lv_iload hx hb dX12_firstOpen_55 (lv_at hl 5 rfl) ?_
            exact tk_iret hC hr hlocks hK ⟨hT, hF, (Or.inl ⟨(show 0 ≤ v3_5.toInt by omega), (show v3_5.toInt ≤ 100000000 by omega)⟩)⟩ hw dX12_firstOpen_57
          · refine lv_if_eq (tgt := 55) hx hb dX12_firstOpen_46 (by decide) (fun c => absurd c (by decide)) (fun _ => ?_)
            obtain ⟨x34, ex34⟩ : ∃ y : Int32, y = v3_5 + Int32.ofInt 1 := ⟨_, rfl⟩
            refine lv_iinc (v := x34) (lv' := [(5, .int x34), (0, .ref (ad 0)), (1, .int a1), (2, .int a2), (3, .int a3), (4, .int a4)]) hx hb dX12_firstOpen_49 hl (k := 5) rfl ex34.symm (by decide) rfl (fun ls hl => ?_)
            have ex34 : x34.toInt = v3_5.toInt + 1 := by rw [ex34]; exact wk_add (y := 1) (show -2147483648 ≤ v3_5.toInt + 1 by omega) (show v3_5.toInt + 1 ≤ 2147483647 by omega)
            refine lv_goto (tgt := 3) hx hb dX12_firstOpen_52 (by decide) ?_
            exact ih3 x34 H locs ls w29 (show 0 ≤ a1.toInt by omega) (show a1.toInt ≤ 11 by omega) (show 0 ≤ a2.toInt by omega) (show a2.toInt ≤ 9 by omega) (show 0 ≤ a3.toInt by omega) (show a3.toInt ≤ 100000100 by omega) (show 2000 ≤ a4.toInt by omega) (show a4.toInt ≤ 101999 by omega) (show 0 ≤ x34.toInt by omega) (show x34.toInt ≤ 100000100 by omega) (show (100000100 - x34.toInt).toNat < n3 by omega) hw hT hF  (lv_sub hl [1, 2, 3, 4, 5, 0] rfl)
        · refine lv_if_ne (tgt := 39) hx hb dX12_firstOpen_21 (by decide) (fun _ => ?_) (fun c => absurd c (by decide))
          refine lv_aload_n hx hb dX12_firstOpen_39 rfl (lv_at hl 0 rfl) ?_
          refine lv_iload_n hx hb dX12_firstOpen_40 rfl (lv_at hl 1 rfl) ?_
          refine lv_iload hx hb dX12_firstOpen_41 (lv_at hl 5 rfl) ?_
          refine tk_Vi hC hK hw hT hA hE hSR kM_at0 (by decide) rfl (k_X12_isLifted_2 l adK adV dC dI cy ad B (by omega) (by omega) qr s1   a1 (show 0 ≤ a1.toInt by omega) (show a1.toInt ≤ 11 by omega) v3_5 (show 0 ≤ v3_5.toInt by omega) (show v3_5.toInt ≤ 101999 by omega) w16 H.size hT ) (cwV 2 hC.2.2.2.2 gX12_firstOpen_X12_isLifted rfl rfl rfl (by decide +kernel) ⟨Nat.le_of_ble_eq_true rfl, Nat.le_of_ble_eq_true rfl⟩) rfl hl.1 rfl (Nat.le_of_ble_eq_true rfl) dX12_firstOpen_43 (fun r35 w37 H locs hp36 hw => ?_)
          obtain ⟨hT, k38, hg41⟩ := hp36
          have hF := hF.tr k38 (by decide)
          have c42 := k38.gi kM_at12 rfl c19
          rcases hg41 with rfl | ⟨rfl, ⟨x39, c40, rx39, tx39⟩⟩
          · refine lv_if_eq (tgt := 55) hx hb dX12_firstOpen_46 (by decide) (fun _ => ?_) (fun c => absurd (by decide) c)
            refine lv_iload hx hb dX12_firstOpen_55 (lv_at hl 5 rfl) ?_
            exact tk_iret hC hr hlocks hK ⟨hT, hF, (Or.inr ⟨(show 0 ≤ v3_5.toInt by omega), (show v3_5.toInt ≤ 101999 by omega), c42⟩)⟩ hw dX12_firstOpen_57
          · refine lv_if_eq (tgt := 55) hx hb dX12_firstOpen_46 (by decide) (fun c => absurd c (by decide)) (fun _ => ?_)
            obtain ⟨x43, ex43⟩ : ∃ y : Int32, y = v3_5 + Int32.ofInt 1 := ⟨_, rfl⟩
            refine lv_iinc (v := x43) (lv' := [(5, .int x43), (0, .ref (ad 0)), (1, .int a1), (2, .int a2), (3, .int a3), (4, .int a4)]) hx hb dX12_firstOpen_49 hl (k := 5) rfl ex43.symm (by decide) rfl (fun ls hl => ?_)
            have ex43 : x43.toInt = v3_5.toInt + 1 := by rw [ex43]; exact wk_add (y := 1) (show -2147483648 ≤ v3_5.toInt + 1 by omega) (show v3_5.toInt + 1 ≤ 2147483647 by omega)
            refine lv_goto (tgt := 3) hx hb dX12_firstOpen_52 (by decide) ?_
            exact ih3 x43 H locs ls w37 (show 0 ≤ a1.toInt by omega) (show a1.toInt ≤ 11 by omega) (show 0 ≤ a2.toInt by omega) (show a2.toInt ≤ 9 by omega) (show 0 ≤ a3.toInt by omega) (show a3.toInt ≤ 100000100 by omega) (show 2000 ≤ a4.toInt by omega) (show a4.toInt ≤ 101999 by omega) (show 0 ≤ x43.toInt by omega) (show x43.toInt ≤ 100000100 by omega) (show (100000100 - x43.toInt).toNat < n3 by omega) hw hT hF  (lv_sub hl [1, 2, 3, 4, 5, 0] rfl)
  refine lv_iload_n hx hb dX12_firstOpen_0 rfl (lv_at hl 3 rfl) ?_
  refine lv_istore (lv' := [(5, .int a3), (0, .ref (ad 0)), (1, .int a1), (2, .int a2), (3, .int a3), (4, .int a4)]) hx hb dX12_firstOpen_1 hl (by decide) rfl (fun ls hl => ?_)
  exact L3 ((100000100 - a3.toInt).toNat + 1) a3 s.heap locs ls w0 (show 0 ≤ a1.toInt by omega) (show a1.toInt ≤ 11 by omega) (show 0 ≤ a2.toInt by omega) (show a2.toInt ≤ 9 by omega) (show 0 ≤ a3.toInt by omega) (show a3.toInt ≤ 100000100 by omega) (show 2000 ≤ a4.toInt by omega) (show a4.toInt ≤ 101999 by omega) (show 0 ≤ a3.toInt by omega) (show a3.toInt ≤ 100000100 by omega) (Nat.lt_succ_self _) hw hT hF  (lv_sub hl [1, 2, 3, 4, 5, 0] rfl)
abbrev P_X12_reaches_1 (ad : Nat → Nat) (cy : Nat → ClassId) (B : Int) (qr : Nat) (s1 : Int) (a1 : Int32) (a2 : Int32) (a3 : Int32) (a4 : Int32) (w0 : va_W) : Int32 → va_W → Prop := fun r u => TW ksM ad cy B qr 12 u ∧ FE ksM [(77, 0, 10), (78, 0, 10)] w0 u ∧ ((0 ≤ r.toInt ∧ r.toInt ≤ 100000100))
set_option maxHeartbeats 4000000 in
set_option maxRecDepth 100000 in
theorem k_X12_reaches_1 (l : Launch) (adK adV : Nat → Nat) (dC : Nat → ClassId) (dI : Nat → Nat → Nat) (cy : Nat → ClassId) (ad : Nat → Nat) (B : Int) (hB0 : 100000 ≤ B) (hB1 : B ≤ 1073741824) (qr : Nat) (s1 : Int)  (a1 : Int32) (ra1 : 0 ≤ a1.toInt) (ta1 : a1.toInt ≤ 9) (a2 : Int32) (ra2 : 0 ≤ a2.toInt) (ta2 : a2.toInt ≤ 9) (a3 : Int32) (ra3 : 0 ≤ a3.toInt) (ta3 : a3.toInt ≤ 99999) (a4 : Int32) (ra4 : 2000 ≤ a4.toInt) (ta4 : a4.toInt ≤ 101999) (w0 : va_W) (sz : Nat) (hT : TW ksM ad cy B qr 12 w0)  : Met l yX12_reaches wsX12_reaches ({ frames := 5, cells := 0, slots := 0, locals := 105 }) (va_Pc [.ref (ad 0), .int a1, .int a2, .int a3, .int a4] (wpreS adK adV dC dI cy sz w0)) (va_Qi (P_X12_reaches_1 ad cy B qr s1 a1 a2 a3 a4 w0) (fun u : va_W => wpost dC dI cy (va_A w0 sz) u) (va_A w0 sz)) 0 0 (va_A w0 sz) := by
  refine Met.ofW (cc := cX12_reaches) (maxL := 9) (ret := (some .int)) (by decide) rfl ?_
  intro p e s m args below meth c s₁ Bk hml hv
  obtain ⟨rfl, ⟨hsz, hP, hK, hD0⟩, hE, hSR⟩ := hv
  have hx := Bk.exec
  have hb := Bk.bytes
  have hr := Bk.returns
  have hlocks := Bk.notSynchronized
  have hC : CallFix p m c cX12_reaches 9 s _ wsX12_reaches RX12 := ⟨hx, hb, hml, findClass_of_methodNamed Bk.named, atoms_spec (ws := wsX12_reaches) Bk.pre⟩
  subst hsz
  have hD := hD0.self (sz := s.heap.size)
  generalize hAe : va_A w0 s.heap.size = A at hD hE ⊢
  have hA : ∀ q : Nat, s.heap.size ≤ q → A q := fun q h => by rw [← hAe]; exact Or.inr h
  have hw : Wd dC dI A s.heap s.heap [] w0 := ⟨hP, hD, va_S.rf⟩
  have hF : FE ksM [(77, 0, 10), (78, 0, 10)] w0 w0 := FE.rf
  have hl := lv_entry ([.ref (ad 0), .int a1, .int a2, .int a3, .int a4]) (n := 9) (Nat.le_of_ble_eq_true rfl)
  rw [lg_entry_eq]
  generalize (lg_sl ([.ref (ad 0), .int a1, .int a2, .int a3, .int a4]) ++ List.replicate (9 - (lg_sl ([.ref (ad 0), .int a1, .int a2, .int a3, .int a4])).length) Slot.unset).toArray = ls at hl ⊢
  have hl : lv_has ls 9 [(0, .ref (ad 0)), (1, .int a1), (2, .int a2), (3, .int a3), (4, .int a4)] := hl
  generalize hloc : ([] : List Loc) = locs at hw ⊢
  have hinX12 : ∀ w ∈ u_ws RX12 TX12 42, w ∈ wsX12_reaches := fun _ h => List.mem_cons_of_mem _ (List.mem_append_right _ (h))
  have L44 : ∀ (n44 : Nat) (v44_5 : Int32) (H : Heap) (locs : List Loc) (ls : Array Slot) (w1 : va_W), 0 ≤ a1.toInt → a1.toInt ≤ 9 → 0 ≤ a2.toInt → a2.toInt ≤ 9 → 0 ≤ a3.toInt → a3.toInt ≤ 99999 → 2000 ≤ a4.toInt → a4.toInt ≤ 101999 → 0 ≤ v44_5.toInt → v44_5.toInt ≤ 10 → 0 ≤ (sumG 19 10 w1) → (10 - (sumG 19 10 w1)).toNat < n44 → Wd dC dI A s.heap H locs w1 → TW ksM ad cy B qr 12 w1 → FE ksM [(77, 0, 10), (78, 0, 10)] w0 w1 → lv_has ls 9 [(0, .ref (ad 0)), (1, .int a1), (2, .int a2), (3, .int a3), (4, .int a4), (5, .int v44_5)] → W p l e ({ frames := 5, cells := 0, slots := 0, locals := 105 }) s m (List.toArray [.ref (ad 0), .int a1, .int a2, .int a3, .int a4]) below meth c H locs 0 0 (MQ below (va_Qi (P_X12_reaches_1 ad cy B qr s1 a1 a2 a3 a4 w0) (fun u : va_W => wpost dC dI cy A u) A) (List.toArray [.ref (ad 0), .int a1, .int a2, .int a3, .int a4]) s 0 0 A) (F0 m 44 ls []) := by
    intro n44
    induction n44 with
    | zero => intro v44_5 H locs ls w1 r2 t3 r4 t5 r6 t7 r8 t9 r10 t11 g12 hm44 hw hT hF hl; omega
    | succ n44 ih44 =>
      intro v44_5 H locs ls w1 r2 t3 r4 t5 r6 t7 r8 t9 r10 t11 g12 hm44 hw hT hF hl
      have L145 : ∀ (n145 : Nat) (v145_5 : Int32) (v145_6 : Int32) (f145_12_0 : Int32) (H : Heap) (locs : List Loc) (ls : Array Slot) (w13 : va_W), 0 ≤ a1.toInt → a1.toInt ≤ 9 → 0 ≤ a2.toInt → a2.toInt ≤ 9 → 0 ≤ a3.toInt → a3.toInt ≤ 99999 → 2000 ≤ a4.toInt → a4.toInt ≤ 101999 → 0 ≤ v145_5.toInt → v145_5.toInt ≤ 9 → 0 ≤ v145_6.toInt → v145_6.toInt ≤ 12 → 0 ≤ f145_12_0.toInt → f145_12_0.toInt ≤ 10 → (sumG 19 10 w1) + 1 ≤ (sumG 19 10 w13) → (12 - v145_6.toInt).toNat < n145 → Wd dC dI A s.heap H locs w13 → TW ksM ad cy B qr 12 w13 → FE ksM [(77, 0, 10), (78, 0, 10)] w0 w13 → gi w13 12 0 = f145_12_0 → lv_has ls 9 [(0, .ref (ad 0)), (1, .int a1), (2, .int a2), (3, .int a3), (4, .int a4), (5, .int v145_5), (6, .int v145_6)] → W p l e ({ frames := 5, cells := 0, slots := 0, locals := 105 }) s m (List.toArray [.ref (ad 0), .int a1, .int a2, .int a3, .int a4]) below meth c H locs 0 0 (MQ below (va_Qi (P_X12_reaches_1 ad cy B qr s1 a1 a2 a3 a4 w0) (fun u : va_W => wpost dC dI cy A u) A) (List.toArray [.ref (ad 0), .int a1, .int a2, .int a3, .int a4]) s 0 0 A) (F0 m 145 ls []) := by
        intro n145
        induction n145 with
        | zero => intro v145_5 v145_6 f145_12_0 H locs ls w13 r14 t15 r16 t17 r18 t19 r20 t21 r22 t23 r24 t25 r26 t27 g29 hm145 hw hT hF c28 hl; omega
        | succ n145 ih145 =>
          intro v145_5 v145_6 f145_12_0 H locs ls w13 r14 t15 r16 t17 r18 t19 r20 t21 r22 t23 r24 t25 r26 t27 g29 hm145 hw hT hF c28 hl
          have J259 : ∀ (f259_12_1 : Int32) (H : Heap) (locs : List Loc) (ls : Array Slot) (w30 : va_W), 0 ≤ a1.toInt → a1.toInt ≤ 9 → 0 ≤ a2.toInt → a2.toInt ≤ 9 → 0 ≤ a3.toInt → a3.toInt ≤ 99999 → 2000 ≤ a4.toInt → a4.toInt ≤ 101999 → 0 ≤ v145_5.toInt → v145_5.toInt ≤ 9 → 0 ≤ v145_6.toInt → v145_6.toInt ≤ 11 → 0 ≤ f145_12_0.toInt → f145_12_0.toInt ≤ 10 → 1 ≤ f259_12_1.toInt → f259_12_1.toInt ≤ 12 → (sumG 19 10 w1) + 1 ≤ (sumG 19 10 w30) → Wd dC dI A s.heap H locs w30 → TW ksM ad cy B qr 12 w30 → FE ksM [(77, 0, 10), (78, 0, 10)] w0 w30 → gi w30 12 0 = f145_12_0 → gi w30 12 1 = f259_12_1 → lv_has ls 9 [(0, .ref (ad 0)), (1, .int a1), (2, .int a2), (3, .int a3), (4, .int a4), (5, .int v145_5), (6, .int v145_6)] → W p l e ({ frames := 5, cells := 0, slots := 0, locals := 105 }) s m (List.toArray [.ref (ad 0), .int a1, .int a2, .int a3, .int a4]) below meth c H locs 0 0 (MQ below (va_Qi (P_X12_reaches_1 ad cy B qr s1 a1 a2 a3 a4 w0) (fun u : va_W => wpost dC dI cy A u) A) (List.toArray [.ref (ad 0), .int a1, .int a2, .int a3, .int a4]) s 0 0 A) (F0 m 259 ls []) := by
            intro f259_12_1 H locs ls w30 r31 t32 r33 t34 r35 t36 r37 t38 r39 t40 r41 t42 r43 t44 r46 t47 g49 hw hT hF c45 c48 hl
            obtain ⟨x50, ex50⟩ : ∃ y : Int32, y = v145_6 + Int32.ofInt 1 := ⟨_, rfl⟩
            refine lv_iinc (v := x50) (lv' := [(6, .int x50), (0, .ref (ad 0)), (1, .int a1), (2, .int a2), (3, .int a3), (4, .int a4), (5, .int v145_5)]) hx hb dX12_reaches_259 hl (k := 6) rfl ex50.symm (by decide) rfl (fun ls hl => ?_)
            have ex50 : x50.toInt = v145_6.toInt + 1 := by rw [ex50]; exact wk_add (y := 1) (show -2147483648 ≤ v145_6.toInt + 1 by omega) (show v145_6.toInt + 1 ≤ 2147483647 by omega)
            refine lv_goto (tgt := 145) hx hb dX12_reaches_262 (by decide) ?_
            have gb51 : 0 ≤ sumG 19 10 w30 ∧ sumG 19 10 w30 ≤ 10 := hT.sum (lo := 0) (hi := 1) kM_at19 rfl (by decide) rfl
            exact ih145 v145_5 x50 f145_12_0 H locs ls w30 (show 0 ≤ a1.toInt by omega) (show a1.toInt ≤ 9 by omega) (show 0 ≤ a2.toInt by omega) (show a2.toInt ≤ 9 by omega) (show 0 ≤ a3.toInt by omega) (show a3.toInt ≤ 99999 by omega) (show 2000 ≤ a4.toInt by omega) (show a4.toInt ≤ 101999 by omega) (show 0 ≤ v145_5.toInt by omega) (show v145_5.toInt ≤ 9 by omega) (show 0 ≤ x50.toInt by omega) (show x50.toInt ≤ 12 by omega) (show 0 ≤ f145_12_0.toInt by omega) (show f145_12_0.toInt ≤ 10 by omega) (show (sumG 19 10 w1) + 1 ≤ (sumG 19 10 w30) by omega) (show (12 - x50.toInt).toNat < n145 by omega) hw hT hF c45 (lv_sub hl [1, 2, 3, 4, 5, 6, 0] rfl)
          refine lv_iload hx hb dX12_reaches_145 (lv_at hl 6 rfl) ?_
          refine lv_aload_n hx hb dX12_reaches_147 rfl (lv_at hl 0 rfl) ?_
          refine tk_getA hC hK hw hT hinX12 kM_at0 (by decide) rfl 26 (by decide) (List.mem_of_getElem? (i := 4) rfl) rfl rfl dX12_reaches_148 ?_
          refine lv_iconst (v := 1) hx hb dX12_reaches_151 (by decide) ?_
          refine tk_ialdR hC hK hw hT kM_at12 rfl (by decide) (by decide) dX12_reaches_152 (fun x52 c53 Ex52 => ?_)
          have bx52 : 0 ≤ x52.toInt ∧ x52.toInt ≤ 12 := (tk_rg1 rfl).mp Ex52
          have c53 : gi w13 12 1 = x52 := c53
          refine lv_icmp_ge (tgt := 265) hx hb dX12_reaches_153 (by decide) (fun c54 => ?_) (fun c54 => ?_)
          · have c54 : x52.toInt ≤ v145_6.toInt := wk_le.mp c54
            refine lv_goto (tgt := 44) hx hb dX12_reaches_265 (by decide) ?_
            have gb55 : 0 ≤ sumG 19 10 w13 ∧ sumG 19 10 w13 ≤ 10 := hT.sum (lo := 0) (hi := 1) kM_at19 rfl (by decide) rfl
            exact ih44 v145_5 H locs ls w13 (show 0 ≤ a1.toInt by omega) (show a1.toInt ≤ 9 by omega) (show 0 ≤ a2.toInt by omega) (show a2.toInt ≤ 9 by omega) (show 0 ≤ a3.toInt by omega) (show a3.toInt ≤ 99999 by omega) (show 2000 ≤ a4.toInt by omega) (show a4.toInt ≤ 101999 by omega) (show 0 ≤ v145_5.toInt by omega) (show v145_5.toInt ≤ 10 by omega) (show 0 ≤ (sumG 19 10 w13) by omega) (show (10 - (sumG 19 10 w13)).toNat < n44 by omega) hw hT hF  (lv_sub hl [0, 1, 2, 3, 4, 5] rfl)
          · have c54 : v145_6.toInt < x52.toInt := wk_leF c54
            refine lv_aload_n hx hb dX12_reaches_156 rfl (lv_at hl 0 rfl) ?_
            refine lv_iload hx hb dX12_reaches_157 (lv_at hl 6 rfl) ?_
            refine lv_iload hx hb dX12_reaches_159 (lv_at hl 5 rfl) ?_
            refine tk_Vi hC hK hw hT hA hE hSR kM_at0 (by decide) rfl (k_X12_isAt_1 l adK adV dC dI cy ad B (by omega) (by omega) qr s1   v145_6 (show 0 ≤ v145_6.toInt by omega) (show v145_6.toInt ≤ 11 by omega) v145_5 (show 0 ≤ v145_5.toInt by omega) (show v145_5.toInt ≤ 9 by omega) w13 H.size hT ) (cwV 2 hC.2.2.2.2 gX12_reaches_X12_isAt rfl rfl rfl (by decide +kernel) ⟨Nat.le_of_ble_eq_true rfl, Nat.le_of_ble_eq_true rfl⟩) rfl hl.1 rfl (Nat.le_of_ble_eq_true rfl) dX12_reaches_161 (fun r56 w58 H locs hp57 hw => ?_)
            obtain ⟨hT, k59, hg60⟩ := hp57
            have gs61 : sumG 19 10 w58 = sumG 19 10 w13 := sumG_FE 10 k59 kM_at19 (fun _ => rfl)
            have hF := hF.tr k59 (by decide)
            have c62 := k59.gi kM_at12 (by decide) c28
            have c63 := k59.gi kM_at12 (by decide) c53
            rcases hg60 with rfl | rfl
            · refine lv_if_ne (tgt := 170) hx hb dX12_reaches_164 (by decide) (fun c => absurd (by decide) c) (fun _ => ?_)
              refine lv_goto (tgt := 259) hx hb dX12_reaches_167 (by decide) ?_
              have gb64 : 0 ≤ sumG 19 10 w58 ∧ sumG 19 10 w58 ≤ 10 := hT.sum (lo := 0) (hi := 1) kM_at19 rfl (by decide) rfl
              exact J259 x52 H locs ls w58 (show 0 ≤ a1.toInt by omega) (show a1.toInt ≤ 9 by omega) (show 0 ≤ a2.toInt by omega) (show a2.toInt ≤ 9 by omega) (show 0 ≤ a3.toInt by omega) (show a3.toInt ≤ 99999 by omega) (show 2000 ≤ a4.toInt by omega) (show a4.toInt ≤ 101999 by omega) (show 0 ≤ v145_5.toInt by omega) (show v145_5.toInt ≤ 9 by omega) (show 0 ≤ v145_6.toInt by omega) (show v145_6.toInt ≤ 11 by omega) (show 0 ≤ f145_12_0.toInt by omega) (show f145_12_0.toInt ≤ 10 by omega) (show 1 ≤ x52.toInt by omega) (show x52.toInt ≤ 12 by omega) (show (sumG 19 10 w1) + 1 ≤ (sumG 19 10 w58) by omega)  hw hT hF c62 c63 (lv_sub hl [0, 1, 2, 3, 4, 5, 6] rfl)
            · refine lv_if_ne (tgt := 170) hx hb dX12_reaches_164 (by decide) (fun _ => ?_) (fun c => absurd c (by decide))
              refine lv_aload_n hx hb dX12_reaches_170 rfl (lv_at hl 0 rfl) ?_
              refine lv_iload hx hb dX12_reaches_171 (lv_at hl 6 rfl) ?_
              refine lv_iload hx hb dX12_reaches_173 (lv_at hl 5 rfl) ?_
              refine lv_aload_n hx hb dX12_reaches_175 rfl (lv_at hl 0 rfl) ?_
              refine tk_getA hC hK hw hT hinX12 kM_at0 (by decide) rfl 35 (by decide) (List.mem_of_getElem? (i := 1) rfl) rfl rfl dX12_reaches_176 ?_
              refine lv_iload hx hb dX12_reaches_179 (lv_at hl 5 rfl) ?_
              refine tk_iald hC hK hw hT kM_at18 rfl rfl (show 0 ≤ v145_5.toInt by omega) (show v145_5.toInt < 10 by omega) dX12_reaches_181 (fun x65 c66 rx65 tx65 => ?_)
              refine lv_iload hx hb dX12_reaches_182 (lv_at hl 4 rfl) ?_
              refine tk_Vi hC hK hw hT hA hE hSR kM_at0 (by decide) rfl (k_X12_firstOpen_1 l adK adV dC dI cy ad B (by omega) (by omega) qr s1   v145_6 (show 0 ≤ v145_6.toInt by omega) (show v145_6.toInt ≤ 11 by omega) v145_5 (show 0 ≤ v145_5.toInt by omega) (show v145_5.toInt ≤ 9 by omega) x65 (show 0 ≤ x65.toInt by omega) (show x65.toInt ≤ 100000100 by omega) a4 (show 2000 ≤ a4.toInt by omega) (show a4.toInt ≤ 101999 by omega) w58 H.size hT ) (cwV 4 hC.2.2.2.2 gX12_reaches_X12_firstOpen rfl rfl rfl (by decide +kernel) ⟨Nat.le_of_ble_eq_true rfl, Nat.le_of_ble_eq_true rfl⟩) rfl hl.1 rfl (Nat.le_of_ble_eq_true rfl) dX12_reaches_184 (fun r67 w69 H locs hp68 hw => ?_)
              obtain ⟨hT, k70, hg76⟩ := hp68
              have gs77 : sumG 19 10 w69 = sumG 19 10 w58 := sumG_FE 10 k70 kM_at19 (fun _ => rfl)
              have hF := hF.tr k70 (by decide)
              have c78 := k70.gi kM_at12 (by decide) c62
              have c79 := k70.gi kM_at12 (by decide) c63
              rcases hg76 with ⟨g71, g72⟩ | ⟨g73, g74, c75⟩
              · refine lv_istore (lv' := [(7, .int r67), (0, .ref (ad 0)), (1, .int a1), (2, .int a2), (3, .int a3), (4, .int a4), (5, .int v145_5), (6, .int v145_6)]) hx hb dX12_reaches_187 hl (by decide) rfl (fun ls hl => ?_)
                refine lv_aload_n hx hb dX12_reaches_189 rfl (lv_at hl 1 rfl) ?_
                refine lv_iload hx hb dX12_reaches_190 (lv_at hl 7 rfl) ?_
                refine lv_iload hx hb dX12_reaches_192 (lv_at hl 6 rfl) ?_
                refine tk_Vi hC hK hw hT hA hE hSR kM_at0 (by decide) rfl (k_X12_otherOf_1 l adK adV dC dI cy ad B (by omega) (by omega) qr s1   v145_6 (show 0 ≤ v145_6.toInt by omega) (show v145_6.toInt ≤ 11 by omega) v145_5 (show 0 ≤ v145_5.toInt by omega) (show v145_5.toInt ≤ 9 by omega) w69 H.size hT ) (cwV 2 hC.2.2.2.2 gX12_reaches_X12_otherOf rfl rfl rfl (by decide +kernel) ⟨Nat.le_of_ble_eq_true rfl, Nat.le_of_ble_eq_true rfl⟩) rfl hl.1 rfl (Nat.le_of_ble_eq_true rfl) dX12_reaches_194 (fun r80 w82 H locs hp81 hw => ?_)
                obtain ⟨hT, k83, hg89⟩ := hp81
                have gs90 : sumG 19 10 w82 = sumG 19 10 w69 := sumG_FE 10 k83 kM_at19 (fun _ => rfl)
                have hF := hF.tr k83 (by decide)
                have c91 := k83.gi kM_at12 (by decide) c78
                have c92 := k83.gi kM_at12 (by decide) c79
                rcases hg89 with ⟨g84, g85⟩ | ⟨g86, g87, c88⟩
                · refine lv_istore (lv' := [(8, .int r80), (7, .int r67), (0, .ref (ad 0)), (1, .int a1), (2, .int a2), (3, .int a3), (4, .int a4), (5, .int v145_5), (6, .int v145_6)]) hx hb dX12_reaches_197 hl (by decide) rfl (fun ls hl => ?_)
                  refine lv_iload hx hb dX12_reaches_199 (lv_at hl 1 rfl) ?_
                  refine lv_ldcw (v := 100000000) hx hb hC.2.2.2.1 (hC.2.2.2.2 _ (List.mem_of_getElem? (i := 2) rfl)) dX12_reaches_201 ?_
                  refine lv_icmp_ge (tgt := 259) hx hb dX12_reaches_204 (by decide) (fun c93 => ?_) (fun c93 => ?_)
                  · have c93 : (100000000 : Int) ≤ r67.toInt := wk_le.mp c93
                    have gb94 : 0 ≤ sumG 19 10 w82 ∧ sumG 19 10 w82 ≤ 10 := hT.sum (lo := 0) (hi := 1) kM_at19 rfl (by decide) rfl
                    exact J259 x52 H locs ls w82 (show 0 ≤ a1.toInt by omega) (show a1.toInt ≤ 9 by omega) (show 0 ≤ a2.toInt by omega) (show a2.toInt ≤ 9 by omega) (show 0 ≤ a3.toInt by omega) (show a3.toInt ≤ 99999 by omega) (show 2000 ≤ a4.toInt by omega) (show a4.toInt ≤ 101999 by omega) (show 0 ≤ v145_5.toInt by omega) (show v145_5.toInt ≤ 9 by omega) (show 0 ≤ v145_6.toInt by omega) (show v145_6.toInt ≤ 11 by omega) (show 0 ≤ f145_12_0.toInt by omega) (show f145_12_0.toInt ≤ 10 by omega) (show 1 ≤ x52.toInt by omega) (show x52.toInt ≤ 12 by omega) (show (sumG 19 10 w1) + 1 ≤ (sumG 19 10 w82) by omega)  hw hT hF c91 c92 (lv_sub hl [2, 3, 4, 5, 6, 7, 8] rfl)
                  · have c93 : r67.toInt < (100000000 : Int) := wk_leF c93
                    refine lv_iload hx hb dX12_reaches_207 (lv_at hl 1 rfl) ?_
                    refine lv_aload_n hx hb dX12_reaches_209 rfl (lv_at hl 2 rfl) ?_
                    refine lv_iload hx hb dX12_reaches_210 (lv_at hl 8 rfl) ?_
                    refine lv_iconst (v := 2) hx hb dX12_reaches_212 (by decide) ?_
                    refine tk_Vi hC hK hw hT hA hE hSR kM_at0 (by decide) rfl (k_X12_streetOf_6 l adK adV dC dI cy ad B (by omega) (by omega) qr s1   v145_6 (show 0 ≤ v145_6.toInt by omega) (show v145_6.toInt ≤ 11 by omega) w82 H.size hT ) (cwV 2 hC.2.2.2.2 gX12_reaches_X12_streetOf rfl rfl rfl (by decide +kernel) ⟨Nat.le_of_ble_eq_true rfl, Nat.le_of_ble_eq_true rfl⟩) rfl hl.1 rfl (Nat.le_of_ble_eq_true rfl) dX12_reaches_213 (fun r95 w97 H locs hp96 hw => ?_)
                    obtain ⟨hT, k98, hg102⟩ := hp96
                    have gs103 : sumG 19 10 w97 = sumG 19 10 w82 := sumG_FE 10 k98 kM_at19 (fun _ => rfl)
                    have hF := hF.tr k98 (by decide)
                    have c104 := k98.gi kM_at12 (by decide) c91
                    have c105 := k98.gi kM_at12 (by decide) c92
                    obtain ⟨g99, g100, c101⟩ := hg102
                    refine lv_iadd hx hb dX12_reaches_216 ?_
                    refine lv_topi (fun x106 ex106 => ?_)
                    have ex106 : x106.toInt = r67.toInt + r95.toInt := by rw [ex106]; exact wk_add (show (-2147483648) ≤ r67.toInt + r95.toInt by omega) (show r67.toInt + r95.toInt ≤ 2147483647 by omega)
                    refine lv_iload hx hb dX12_reaches_217 (lv_at hl 6 rfl) ?_
                    refine lv_icmp_gt (tgt := 259) hx hb dX12_reaches_219 (by decide) (fun c107 => ?_) (fun c107 => ?_)
                    · have c107 : a4.toInt < x106.toInt := wk_lt.mp c107
                      have gb108 : 0 ≤ sumG 19 10 w97 ∧ sumG 19 10 w97 ≤ 10 := hT.sum (lo := 0) (hi := 1) kM_at19 rfl (by decide) rfl
                      exact J259 x52 H locs ls w97 (show 0 ≤ a1.toInt by omega) (show a1.toInt ≤ 9 by omega) (show 0 ≤ a2.toInt by omega) (show a2.toInt ≤ 9 by omega) (show 0 ≤ a3.toInt by omega) (show a3.toInt ≤ 99999 by omega) (show 2000 ≤ a4.toInt by omega) (show a4.toInt ≤ 101999 by omega) (show 0 ≤ v145_5.toInt by omega) (show v145_5.toInt ≤ 9 by omega) (show 0 ≤ v145_6.toInt by omega) (show v145_6.toInt ≤ 11 by omega) (show 0 ≤ f145_12_0.toInt by omega) (show f145_12_0.toInt ≤ 10 by omega) (show 1 ≤ x52.toInt by omega) (show x52.toInt ≤ 12 by omega) (show (sumG 19 10 w1) + 1 ≤ (sumG 19 10 w97) by omega)  hw hT hF c104 c105 (lv_sub hl [2, 3, 4, 5, 6, 7, 8] rfl)
                    · have c107 : x106.toInt ≤ a4.toInt := wk_ltF c107
                      refine lv_iload hx hb dX12_reaches_222 (lv_at hl 1 rfl) ?_
                      refine lv_aload_n hx hb dX12_reaches_224 rfl (lv_at hl 2 rfl) ?_
                      refine lv_iload hx hb dX12_reaches_225 (lv_at hl 8 rfl) ?_
                      refine lv_iconst (v := 2) hx hb dX12_reaches_227 (by decide) ?_
                      refine tk_Vi hC hK hw hT hA hE hSR kM_at0 (by decide) rfl (k_X12_streetOf_6 l adK adV dC dI cy ad B (by omega) (by omega) qr s1   v145_6 (show 0 ≤ v145_6.toInt by omega) (show v145_6.toInt ≤ 11 by omega) w97 H.size hT ) (cwV 2 hC.2.2.2.2 gX12_reaches_X12_streetOf rfl rfl rfl (by decide +kernel) ⟨Nat.le_of_ble_eq_true rfl, Nat.le_of_ble_eq_true rfl⟩) rfl hl.1 rfl (Nat.le_of_ble_eq_true rfl) dX12_reaches_228 (fun r109 w111 H locs hp110 hw => ?_)
                      obtain ⟨hT, k112, hg116⟩ := hp110
                      have gs117 : sumG 19 10 w111 = sumG 19 10 w97 := sumG_FE 10 k112 kM_at19 (fun _ => rfl)
                      have hF := hF.tr k112 (by decide)
                      have c118 := k112.gi kM_at12 (by decide) c104
                      have c119 := k112.gi kM_at12 (by decide) c105
                      have c120 := k112.gi kM_at12 rfl c101
                      obtain ⟨g113, g114, c115⟩ := hg116
                      obtain rfl : r109 = r95 := c115.symm.trans c120
                      refine lv_iadd hx hb dX12_reaches_231 ?_
                      refine lv_topi (fun x121 ex121 => ?_)
                      have ex121 : x121.toInt = r67.toInt + r95.toInt := by rw [ex121]; exact wk_add (show (-2147483648) ≤ r67.toInt + r95.toInt by omega) (show r67.toInt + r95.toInt ≤ 2147483647 by omega)
                      refine lv_aload_n hx hb dX12_reaches_232 rfl (lv_at hl 2 rfl) ?_
                      refine tk_getA hC hK hw hT hinX12 kM_at0 (by decide) rfl 35 (by decide) (List.mem_of_getElem? (i := 1) rfl) rfl rfl dX12_reaches_233 ?_
                      refine lv_iload hx hb dX12_reaches_236 (lv_at hl 0 rfl) ?_
                      refine tk_iald hC hK hw hT kM_at18 rfl rfl (show 0 ≤ r80.toInt by omega) (show r80.toInt < 10 by omega) dX12_reaches_238 (fun x122 c123 rx122 tx122 => ?_)
                      refine lv_icmp_ge (tgt := 259) hx hb dX12_reaches_239 (by decide) (fun c124 => ?_) (fun c124 => ?_)
                      · have c124 : x122.toInt ≤ x121.toInt := wk_le.mp c124
                        have gb125 : 0 ≤ sumG 19 10 w111 ∧ sumG 19 10 w111 ≤ 10 := hT.sum (lo := 0) (hi := 1) kM_at19 rfl (by decide) rfl
                        exact J259 x52 H locs ls w111 (show 0 ≤ a1.toInt by omega) (show a1.toInt ≤ 9 by omega) (show 0 ≤ a2.toInt by omega) (show a2.toInt ≤ 9 by omega) (show 0 ≤ a3.toInt by omega) (show a3.toInt ≤ 99999 by omega) (show 2000 ≤ a4.toInt by omega) (show a4.toInt ≤ 101999 by omega) (show 0 ≤ v145_5.toInt by omega) (show v145_5.toInt ≤ 9 by omega) (show 0 ≤ v145_6.toInt by omega) (show v145_6.toInt ≤ 11 by omega) (show 0 ≤ f145_12_0.toInt by omega) (show f145_12_0.toInt ≤ 10 by omega) (show 1 ≤ x52.toInt by omega) (show x52.toInt ≤ 12 by omega) (show (sumG 19 10 w1) + 1 ≤ (sumG 19 10 w111) by omega)  hw hT hF c118 c119 (lv_sub hl [2, 3, 4, 5, 6, 7, 8] rfl)
                      · have c124 : x121.toInt < x122.toInt := wk_leF c124
                        refine lv_aload_n hx hb dX12_reaches_242 rfl (lv_at hl 2 rfl) ?_
                        refine tk_getA hC hK hw hT hinX12 kM_at0 (by decide) rfl 35 (by decide) (List.mem_of_getElem? (i := 1) rfl) rfl rfl dX12_reaches_243 ?_
                        refine lv_iload hx hb dX12_reaches_246 (lv_at hl 0 rfl) ?_
                        refine lv_iload hx hb dX12_reaches_248 (lv_at hl 1 rfl) ?_
                        refine lv_aload_n hx hb dX12_reaches_250 rfl (lv_at hl 2 rfl) ?_
                        refine lv_iload hx hb dX12_reaches_251 (lv_at hl 8 rfl) ?_
                        refine lv_iconst (v := 2) hx hb dX12_reaches_253 (by decide) ?_
                        refine tk_Vi hC hK hw hT hA hE hSR kM_at0 (by decide) rfl (k_X12_streetOf_6 l adK adV dC dI cy ad B (by omega) (by omega) qr s1   v145_6 (show 0 ≤ v145_6.toInt by omega) (show v145_6.toInt ≤ 11 by omega) w111 H.size hT ) (cwV 2 hC.2.2.2.2 gX12_reaches_X12_streetOf rfl rfl rfl (by decide +kernel) ⟨Nat.le_of_ble_eq_true rfl, Nat.le_of_ble_eq_true rfl⟩) rfl hl.1 rfl (Nat.le_of_ble_eq_true rfl) dX12_reaches_254 (fun r126 w128 H locs hp127 hw => ?_)
                        obtain ⟨hT, k129, hg133⟩ := hp127
                        have gs134 : sumG 19 10 w128 = sumG 19 10 w111 := sumG_FE 10 k129 kM_at19 (fun _ => rfl)
                        have hF := hF.tr k129 (by decide)
                        have c135 := k129.gi kM_at12 (by decide) c118
                        have c136 := k129.gi kM_at12 (by decide) c119
                        have c137 := k129.gi kM_at12 rfl c120
                        obtain ⟨g130, g131, c132⟩ := hg133
                        obtain rfl : r126 = r95 := c132.symm.trans c137
                        refine lv_iadd hx hb dX12_reaches_257 ?_
                        refine lv_topi (fun x138 ex138 => ?_)
                        have ex138 : x138.toInt = r67.toInt + r95.toInt := by rw [ex138]; exact wk_add (show (-2147483648) ≤ r67.toInt + r95.toInt by omega) (show r67.toInt + r95.toInt ≤ 2147483647 by omega)
                        refine tk_iast hC hK hw hT kM_at18 (by decide) rfl rfl (show 0 ≤ r80.toInt by omega) (show r80.toInt < 10 by omega) (show 0 ≤ x138.toInt by omega) (show x138.toInt ≤ 100000100 by omega) dX12_reaches_258 (fun H locs w139 hw hT k141 c140 => ?_)
                        have gs142 : sumG 19 10 w139 = sumG 19 10 w128 := sumG_ne 10 k141 (tk_ne kM_at19 kM_at18 (by decide))
                        have hF := hF.put kM_at18 (inE_of (a := 0) (b := 10) (by decide) (show 0 ≤ r80.toInt.toNat by omega) (show r80.toInt.toNat ≤ 10 by omega)) k141
                        have c143 := k141.gi (Or.inl (tk_ne kM_at12 kM_at18 (by decide))) c135
                        have c144 := k141.gi (Or.inl (tk_ne kM_at12 kM_at18 (by decide))) c136
                        have c145 := k141.gi (Or.inl (tk_ne kM_at12 kM_at18 (by decide))) c137
                        have gb146 : 0 ≤ sumG 19 10 w139 ∧ sumG 19 10 w139 ≤ 10 := hT.sum (lo := 0) (hi := 1) kM_at19 rfl (by decide) rfl
                        exact J259 x52 H locs ls w139 (show 0 ≤ a1.toInt by omega) (show a1.toInt ≤ 9 by omega) (show 0 ≤ a2.toInt by omega) (show a2.toInt ≤ 9 by omega) (show 0 ≤ a3.toInt by omega) (show a3.toInt ≤ 99999 by omega) (show 2000 ≤ a4.toInt by omega) (show a4.toInt ≤ 101999 by omega) (show 0 ≤ v145_5.toInt by omega) (show v145_5.toInt ≤ 9 by omega) (show 0 ≤ v145_6.toInt by omega) (show v145_6.toInt ≤ 11 by omega) (show 0 ≤ f145_12_0.toInt by omega) (show f145_12_0.toInt ≤ 10 by omega) (show 1 ≤ x52.toInt by omega) (show x52.toInt ≤ 12 by omega) (show (sumG 19 10 w1) + 1 ≤ (sumG 19 10 w139) by omega)  hw hT hF c143 c144 (lv_sub hl [2, 3, 4, 5, 6, 7, 8] rfl)
                · refine lv_istore (lv' := [(8, .int r80), (7, .int r67), (0, .ref (ad 0)), (1, .int a1), (2, .int a2), (3, .int a3), (4, .int a4), (5, .int v145_5), (6, .int v145_6)]) hx hb dX12_reaches_197 hl (by decide) rfl (fun ls hl => ?_)
                  refine lv_iload hx hb dX12_reaches_199 (lv_at hl 1 rfl) ?_
                  refine lv_ldcw (v := 100000000) hx hb hC.2.2.2.1 (hC.2.2.2.2 _ (List.mem_of_getElem? (i := 2) rfl)) dX12_reaches_201 ?_
                  refine lv_icmp_ge (tgt := 259) hx hb dX12_reaches_204 (by decide) (fun c147 => ?_) (fun c147 => ?_)
                  · have c147 : (100000000 : Int) ≤ r67.toInt := wk_le.mp c147
                    have gb148 : 0 ≤ sumG 19 10 w82 ∧ sumG 19 10 w82 ≤ 10 := hT.sum (lo := 0) (hi := 1) kM_at19 rfl (by decide) rfl
                    exact J259 x52 H locs ls w82 (show 0 ≤ a1.toInt by omega) (show a1.toInt ≤ 9 by omega) (show 0 ≤ a2.toInt by omega) (show a2.toInt ≤ 9 by omega) (show 0 ≤ a3.toInt by omega) (show a3.toInt ≤ 99999 by omega) (show 2000 ≤ a4.toInt by omega) (show a4.toInt ≤ 101999 by omega) (show 0 ≤ v145_5.toInt by omega) (show v145_5.toInt ≤ 9 by omega) (show 0 ≤ v145_6.toInt by omega) (show v145_6.toInt ≤ 11 by omega) (show 0 ≤ f145_12_0.toInt by omega) (show f145_12_0.toInt ≤ 10 by omega) (show 1 ≤ x52.toInt by omega) (show x52.toInt ≤ 12 by omega) (show (sumG 19 10 w1) + 1 ≤ (sumG 19 10 w82) by omega)  hw hT hF c91 c92 (lv_sub hl [2, 3, 4, 5, 6, 7, 8] rfl)
                  · have c147 : r67.toInt < (100000000 : Int) := wk_leF c147
                    refine lv_iload hx hb dX12_reaches_207 (lv_at hl 1 rfl) ?_
                    refine lv_aload_n hx hb dX12_reaches_209 rfl (lv_at hl 2 rfl) ?_
                    refine lv_iload hx hb dX12_reaches_210 (lv_at hl 8 rfl) ?_
                    refine lv_iconst (v := 2) hx hb dX12_reaches_212 (by decide) ?_
                    refine tk_Vi hC hK hw hT hA hE hSR kM_at0 (by decide) rfl (k_X12_streetOf_6 l adK adV dC dI cy ad B (by omega) (by omega) qr s1   v145_6 (show 0 ≤ v145_6.toInt by omega) (show v145_6.toInt ≤ 11 by omega) w82 H.size hT ) (cwV 2 hC.2.2.2.2 gX12_reaches_X12_streetOf rfl rfl rfl (by decide +kernel) ⟨Nat.le_of_ble_eq_true rfl, Nat.le_of_ble_eq_true rfl⟩) rfl hl.1 rfl (Nat.le_of_ble_eq_true rfl) dX12_reaches_213 (fun r149 w151 H locs hp150 hw => ?_)
                    obtain ⟨hT, k152, hg156⟩ := hp150
                    have gs157 : sumG 19 10 w151 = sumG 19 10 w82 := sumG_FE 10 k152 kM_at19 (fun _ => rfl)
                    have hF := hF.tr k152 (by decide)
                    have c158 := k152.gi kM_at12 (by decide) c91
                    have c159 := k152.gi kM_at12 (by decide) c92
                    have c160 := k152.gi kM_at12 rfl c88
                    obtain ⟨g153, g154, c155⟩ := hg156
                    refine lv_iadd hx hb dX12_reaches_216 ?_
                    refine lv_topi (fun x161 ex161 => ?_)
                    have ex161 : x161.toInt = r67.toInt + r149.toInt := by rw [ex161]; exact wk_add (show (-2147483648) ≤ r67.toInt + r149.toInt by omega) (show r67.toInt + r149.toInt ≤ 2147483647 by omega)
                    refine lv_iload hx hb dX12_reaches_217 (lv_at hl 6 rfl) ?_
                    refine lv_icmp_gt (tgt := 259) hx hb dX12_reaches_219 (by decide) (fun c162 => ?_) (fun c162 => ?_)
                    · have c162 : a4.toInt < x161.toInt := wk_lt.mp c162
                      have gb163 : 0 ≤ sumG 19 10 w151 ∧ sumG 19 10 w151 ≤ 10 := hT.sum (lo := 0) (hi := 1) kM_at19 rfl (by decide) rfl
                      exact J259 x52 H locs ls w151 (show 0 ≤ a1.toInt by omega) (show a1.toInt ≤ 9 by omega) (show 0 ≤ a2.toInt by omega) (show a2.toInt ≤ 9 by omega) (show 0 ≤ a3.toInt by omega) (show a3.toInt ≤ 99999 by omega) (show 2000 ≤ a4.toInt by omega) (show a4.toInt ≤ 101999 by omega) (show 0 ≤ v145_5.toInt by omega) (show v145_5.toInt ≤ 9 by omega) (show 0 ≤ v145_6.toInt by omega) (show v145_6.toInt ≤ 11 by omega) (show 0 ≤ f145_12_0.toInt by omega) (show f145_12_0.toInt ≤ 10 by omega) (show 1 ≤ x52.toInt by omega) (show x52.toInt ≤ 12 by omega) (show (sumG 19 10 w1) + 1 ≤ (sumG 19 10 w151) by omega)  hw hT hF c158 c159 (lv_sub hl [2, 3, 4, 5, 6, 7, 8] rfl)
                    · have c162 : x161.toInt ≤ a4.toInt := wk_ltF c162
                      refine lv_iload hx hb dX12_reaches_222 (lv_at hl 1 rfl) ?_
                      refine lv_aload_n hx hb dX12_reaches_224 rfl (lv_at hl 2 rfl) ?_
                      refine lv_iload hx hb dX12_reaches_225 (lv_at hl 8 rfl) ?_
                      refine lv_iconst (v := 2) hx hb dX12_reaches_227 (by decide) ?_
                      refine tk_Vi hC hK hw hT hA hE hSR kM_at0 (by decide) rfl (k_X12_streetOf_6 l adK adV dC dI cy ad B (by omega) (by omega) qr s1   v145_6 (show 0 ≤ v145_6.toInt by omega) (show v145_6.toInt ≤ 11 by omega) w151 H.size hT ) (cwV 2 hC.2.2.2.2 gX12_reaches_X12_streetOf rfl rfl rfl (by decide +kernel) ⟨Nat.le_of_ble_eq_true rfl, Nat.le_of_ble_eq_true rfl⟩) rfl hl.1 rfl (Nat.le_of_ble_eq_true rfl) dX12_reaches_228 (fun r164 w166 H locs hp165 hw => ?_)
                      obtain ⟨hT, k167, hg171⟩ := hp165
                      have gs172 : sumG 19 10 w166 = sumG 19 10 w151 := sumG_FE 10 k167 kM_at19 (fun _ => rfl)
                      have hF := hF.tr k167 (by decide)
                      have c173 := k167.gi kM_at12 (by decide) c158
                      have c174 := k167.gi kM_at12 (by decide) c159
                      have c175 := k167.gi kM_at12 rfl c160
                      have c176 := k167.gi kM_at12 rfl c155
                      obtain ⟨g168, g169, c170⟩ := hg171
                      obtain rfl : r164 = r149 := c170.symm.trans c176
                      refine lv_iadd hx hb dX12_reaches_231 ?_
                      refine lv_topi (fun x177 ex177 => ?_)
                      have ex177 : x177.toInt = r67.toInt + r149.toInt := by rw [ex177]; exact wk_add (show (-2147483648) ≤ r67.toInt + r149.toInt by omega) (show r67.toInt + r149.toInt ≤ 2147483647 by omega)
                      refine lv_aload_n hx hb dX12_reaches_232 rfl (lv_at hl 2 rfl) ?_
                      refine tk_getA hC hK hw hT hinX12 kM_at0 (by decide) rfl 35 (by decide) (List.mem_of_getElem? (i := 1) rfl) rfl rfl dX12_reaches_233 ?_
                      refine lv_iload hx hb dX12_reaches_236 (lv_at hl 0 rfl) ?_
                      refine tk_iald hC hK hw hT kM_at18 rfl rfl (show 0 ≤ r80.toInt by omega) (show r80.toInt < 10 by omega) dX12_reaches_238 (fun x178 c179 rx178 tx178 => ?_)
                      refine lv_icmp_ge (tgt := 259) hx hb dX12_reaches_239 (by decide) (fun c180 => ?_) (fun c180 => ?_)
                      · have c180 : x178.toInt ≤ x177.toInt := wk_le.mp c180
                        have gb181 : 0 ≤ sumG 19 10 w166 ∧ sumG 19 10 w166 ≤ 10 := hT.sum (lo := 0) (hi := 1) kM_at19 rfl (by decide) rfl
                        exact J259 x52 H locs ls w166 (show 0 ≤ a1.toInt by omega) (show a1.toInt ≤ 9 by omega) (show 0 ≤ a2.toInt by omega) (show a2.toInt ≤ 9 by omega) (show 0 ≤ a3.toInt by omega) (show a3.toInt ≤ 99999 by omega) (show 2000 ≤ a4.toInt by omega) (show a4.toInt ≤ 101999 by omega) (show 0 ≤ v145_5.toInt by omega) (show v145_5.toInt ≤ 9 by omega) (show 0 ≤ v145_6.toInt by omega) (show v145_6.toInt ≤ 11 by omega) (show 0 ≤ f145_12_0.toInt by omega) (show f145_12_0.toInt ≤ 10 by omega) (show 1 ≤ x52.toInt by omega) (show x52.toInt ≤ 12 by omega) (show (sumG 19 10 w1) + 1 ≤ (sumG 19 10 w166) by omega)  hw hT hF c173 c174 (lv_sub hl [2, 3, 4, 5, 6, 7, 8] rfl)
                      · have c180 : x177.toInt < x178.toInt := wk_leF c180
                        refine lv_aload_n hx hb dX12_reaches_242 rfl (lv_at hl 2 rfl) ?_
                        refine tk_getA hC hK hw hT hinX12 kM_at0 (by decide) rfl 35 (by decide) (List.mem_of_getElem? (i := 1) rfl) rfl rfl dX12_reaches_243 ?_
                        refine lv_iload hx hb dX12_reaches_246 (lv_at hl 0 rfl) ?_
                        refine lv_iload hx hb dX12_reaches_248 (lv_at hl 1 rfl) ?_
                        refine lv_aload_n hx hb dX12_reaches_250 rfl (lv_at hl 2 rfl) ?_
                        refine lv_iload hx hb dX12_reaches_251 (lv_at hl 8 rfl) ?_
                        refine lv_iconst (v := 2) hx hb dX12_reaches_253 (by decide) ?_
                        refine tk_Vi hC hK hw hT hA hE hSR kM_at0 (by decide) rfl (k_X12_streetOf_6 l adK adV dC dI cy ad B (by omega) (by omega) qr s1   v145_6 (show 0 ≤ v145_6.toInt by omega) (show v145_6.toInt ≤ 11 by omega) w166 H.size hT ) (cwV 2 hC.2.2.2.2 gX12_reaches_X12_streetOf rfl rfl rfl (by decide +kernel) ⟨Nat.le_of_ble_eq_true rfl, Nat.le_of_ble_eq_true rfl⟩) rfl hl.1 rfl (Nat.le_of_ble_eq_true rfl) dX12_reaches_254 (fun r182 w184 H locs hp183 hw => ?_)
                        obtain ⟨hT, k185, hg189⟩ := hp183
                        have gs190 : sumG 19 10 w184 = sumG 19 10 w166 := sumG_FE 10 k185 kM_at19 (fun _ => rfl)
                        have hF := hF.tr k185 (by decide)
                        have c191 := k185.gi kM_at12 (by decide) c173
                        have c192 := k185.gi kM_at12 (by decide) c174
                        have c193 := k185.gi kM_at12 rfl c175
                        have c194 := k185.gi kM_at12 rfl c176
                        obtain ⟨g186, g187, c188⟩ := hg189
                        obtain rfl : r182 = r149 := c188.symm.trans c194
                        refine lv_iadd hx hb dX12_reaches_257 ?_
                        refine lv_topi (fun x195 ex195 => ?_)
                        have ex195 : x195.toInt = r67.toInt + r149.toInt := by rw [ex195]; exact wk_add (show (-2147483648) ≤ r67.toInt + r149.toInt by omega) (show r67.toInt + r149.toInt ≤ 2147483647 by omega)
                        refine tk_iast hC hK hw hT kM_at18 (by decide) rfl rfl (show 0 ≤ r80.toInt by omega) (show r80.toInt < 10 by omega) (show 0 ≤ x195.toInt by omega) (show x195.toInt ≤ 100000100 by omega) dX12_reaches_258 (fun H locs w196 hw hT k198 c197 => ?_)
                        have gs199 : sumG 19 10 w196 = sumG 19 10 w184 := sumG_ne 10 k198 (tk_ne kM_at19 kM_at18 (by decide))
                        have hF := hF.put kM_at18 (inE_of (a := 0) (b := 10) (by decide) (show 0 ≤ r80.toInt.toNat by omega) (show r80.toInt.toNat ≤ 10 by omega)) k198
                        have c200 := k198.gi (Or.inl (tk_ne kM_at12 kM_at18 (by decide))) c191
                        have c201 := k198.gi (Or.inl (tk_ne kM_at12 kM_at18 (by decide))) c192
                        have c202 := k198.gi (Or.inl (tk_ne kM_at12 kM_at18 (by decide))) c193
                        have c203 := k198.gi (Or.inl (tk_ne kM_at12 kM_at18 (by decide))) c194
                        have gb204 : 0 ≤ sumG 19 10 w196 ∧ sumG 19 10 w196 ≤ 10 := hT.sum (lo := 0) (hi := 1) kM_at19 rfl (by decide) rfl
                        exact J259 x52 H locs ls w196 (show 0 ≤ a1.toInt by omega) (show a1.toInt ≤ 9 by omega) (show 0 ≤ a2.toInt by omega) (show a2.toInt ≤ 9 by omega) (show 0 ≤ a3.toInt by omega) (show a3.toInt ≤ 99999 by omega) (show 2000 ≤ a4.toInt by omega) (show a4.toInt ≤ 101999 by omega) (show 0 ≤ v145_5.toInt by omega) (show v145_5.toInt ≤ 9 by omega) (show 0 ≤ v145_6.toInt by omega) (show v145_6.toInt ≤ 11 by omega) (show 0 ≤ f145_12_0.toInt by omega) (show f145_12_0.toInt ≤ 10 by omega) (show 1 ≤ x52.toInt by omega) (show x52.toInt ≤ 12 by omega) (show (sumG 19 10 w1) + 1 ≤ (sumG 19 10 w196) by omega)  hw hT hF c200 c201 (lv_sub hl [2, 3, 4, 5, 6, 7, 8] rfl)
              · refine lv_istore (lv' := [(7, .int r67), (0, .ref (ad 0)), (1, .int a1), (2, .int a2), (3, .int a3), (4, .int a4), (5, .int v145_5), (6, .int v145_6)]) hx hb dX12_reaches_187 hl (by decide) rfl (fun ls hl => ?_)
                refine lv_aload_n hx hb dX12_reaches_189 rfl (lv_at hl 1 rfl) ?_
                refine lv_iload hx hb dX12_reaches_190 (lv_at hl 7 rfl) ?_
                refine lv_iload hx hb dX12_reaches_192 (lv_at hl 6 rfl) ?_
                refine tk_Vi hC hK hw hT hA hE hSR kM_at0 (by decide) rfl (k_X12_otherOf_1 l adK adV dC dI cy ad B (by omega) (by omega) qr s1   v145_6 (show 0 ≤ v145_6.toInt by omega) (show v145_6.toInt ≤ 11 by omega) v145_5 (show 0 ≤ v145_5.toInt by omega) (show v145_5.toInt ≤ 9 by omega) w69 H.size hT ) (cwV 2 hC.2.2.2.2 gX12_reaches_X12_otherOf rfl rfl rfl (by decide +kernel) ⟨Nat.le_of_ble_eq_true rfl, Nat.le_of_ble_eq_true rfl⟩) rfl hl.1 rfl (Nat.le_of_ble_eq_true rfl) dX12_reaches_194 (fun r205 w207 H locs hp206 hw => ?_)
                obtain ⟨hT, k208, hg214⟩ := hp206
                have gs215 : sumG 19 10 w207 = sumG 19 10 w69 := sumG_FE 10 k208 kM_at19 (fun _ => rfl)
                have hF := hF.tr k208 (by decide)
                have c216 := k208.gi kM_at12 (by decide) c78
                have c217 := k208.gi kM_at12 (by decide) c79
                have c218 := k208.gi kM_at12 rfl c75
                rcases hg214 with ⟨g209, g210⟩ | ⟨g211, g212, c213⟩
                · refine lv_istore (lv' := [(8, .int r205), (7, .int r67), (0, .ref (ad 0)), (1, .int a1), (2, .int a2), (3, .int a3), (4, .int a4), (5, .int v145_5), (6, .int v145_6)]) hx hb dX12_reaches_197 hl (by decide) rfl (fun ls hl => ?_)
                  refine lv_iload hx hb dX12_reaches_199 (lv_at hl 1 rfl) ?_
                  refine lv_ldcw (v := 100000000) hx hb hC.2.2.2.1 (hC.2.2.2.2 _ (List.mem_of_getElem? (i := 2) rfl)) dX12_reaches_201 ?_
                  refine lv_icmp_ge (tgt := 259) hx hb dX12_reaches_204 (by decide) (fun c => absurd c (fun h => absurd (show (100000000 : Int) ≤ r67.toInt from wk_le.mp h) (by omega))) (fun _ => ?_)
                  refine lv_iload hx hb dX12_reaches_207 (lv_at hl 1 rfl) ?_
                  refine lv_aload_n hx hb dX12_reaches_209 rfl (lv_at hl 2 rfl) ?_
                  refine lv_iload hx hb dX12_reaches_210 (lv_at hl 8 rfl) ?_
                  refine lv_iconst (v := 2) hx hb dX12_reaches_212 (by decide) ?_
                  refine tk_Vi hC hK hw hT hA hE hSR kM_at0 (by decide) rfl (k_X12_streetOf_6 l adK adV dC dI cy ad B (by omega) (by omega) qr s1   v145_6 (show 0 ≤ v145_6.toInt by omega) (show v145_6.toInt ≤ 11 by omega) w207 H.size hT ) (cwV 2 hC.2.2.2.2 gX12_reaches_X12_streetOf rfl rfl rfl (by decide +kernel) ⟨Nat.le_of_ble_eq_true rfl, Nat.le_of_ble_eq_true rfl⟩) rfl hl.1 rfl (Nat.le_of_ble_eq_true rfl) dX12_reaches_213 (fun r219 w221 H locs hp220 hw => ?_)
                  obtain ⟨hT, k222, hg226⟩ := hp220
                  have gs227 : sumG 19 10 w221 = sumG 19 10 w207 := sumG_FE 10 k222 kM_at19 (fun _ => rfl)
                  have hF := hF.tr k222 (by decide)
                  have c228 := k222.gi kM_at12 (by decide) c216
                  have c229 := k222.gi kM_at12 (by decide) c217
                  have c230 := k222.gi kM_at12 rfl c218
                  obtain ⟨g223, g224, c225⟩ := hg226
                  refine lv_iadd hx hb dX12_reaches_216 ?_
                  refine lv_topi (fun x231 ex231 => ?_)
                  have ex231 : x231.toInt = r67.toInt + r219.toInt := by rw [ex231]; exact wk_add (show (-2147483648) ≤ r67.toInt + r219.toInt by omega) (show r67.toInt + r219.toInt ≤ 2147483647 by omega)
                  refine lv_iload hx hb dX12_reaches_217 (lv_at hl 6 rfl) ?_
                  refine lv_icmp_gt (tgt := 259) hx hb dX12_reaches_219 (by decide) (fun c232 => ?_) (fun c232 => ?_)
                  · have c232 : a4.toInt < x231.toInt := wk_lt.mp c232
                    have gb233 : 0 ≤ sumG 19 10 w221 ∧ sumG 19 10 w221 ≤ 10 := hT.sum (lo := 0) (hi := 1) kM_at19 rfl (by decide) rfl
                    exact J259 x52 H locs ls w221 (show 0 ≤ a1.toInt by omega) (show a1.toInt ≤ 9 by omega) (show 0 ≤ a2.toInt by omega) (show a2.toInt ≤ 9 by omega) (show 0 ≤ a3.toInt by omega) (show a3.toInt ≤ 99999 by omega) (show 2000 ≤ a4.toInt by omega) (show a4.toInt ≤ 101999 by omega) (show 0 ≤ v145_5.toInt by omega) (show v145_5.toInt ≤ 9 by omega) (show 0 ≤ v145_6.toInt by omega) (show v145_6.toInt ≤ 11 by omega) (show 0 ≤ f145_12_0.toInt by omega) (show f145_12_0.toInt ≤ 10 by omega) (show 1 ≤ x52.toInt by omega) (show x52.toInt ≤ 12 by omega) (show (sumG 19 10 w1) + 1 ≤ (sumG 19 10 w221) by omega)  hw hT hF c228 c229 (lv_sub hl [2, 3, 4, 5, 6, 7, 8] rfl)
                  · have c232 : x231.toInt ≤ a4.toInt := wk_ltF c232
                    refine lv_iload hx hb dX12_reaches_222 (lv_at hl 1 rfl) ?_
                    refine lv_aload_n hx hb dX12_reaches_224 rfl (lv_at hl 2 rfl) ?_
                    refine lv_iload hx hb dX12_reaches_225 (lv_at hl 8 rfl) ?_
                    refine lv_iconst (v := 2) hx hb dX12_reaches_227 (by decide) ?_
                    refine tk_Vi hC hK hw hT hA hE hSR kM_at0 (by decide) rfl (k_X12_streetOf_6 l adK adV dC dI cy ad B (by omega) (by omega) qr s1   v145_6 (show 0 ≤ v145_6.toInt by omega) (show v145_6.toInt ≤ 11 by omega) w221 H.size hT ) (cwV 2 hC.2.2.2.2 gX12_reaches_X12_streetOf rfl rfl rfl (by decide +kernel) ⟨Nat.le_of_ble_eq_true rfl, Nat.le_of_ble_eq_true rfl⟩) rfl hl.1 rfl (Nat.le_of_ble_eq_true rfl) dX12_reaches_228 (fun r234 w236 H locs hp235 hw => ?_)
                    obtain ⟨hT, k237, hg241⟩ := hp235
                    have gs242 : sumG 19 10 w236 = sumG 19 10 w221 := sumG_FE 10 k237 kM_at19 (fun _ => rfl)
                    have hF := hF.tr k237 (by decide)
                    have c243 := k237.gi kM_at12 (by decide) c228
                    have c244 := k237.gi kM_at12 (by decide) c229
                    have c245 := k237.gi kM_at12 rfl c230
                    have c246 := k237.gi kM_at12 rfl c225
                    obtain ⟨g238, g239, c240⟩ := hg241
                    obtain rfl : r234 = r219 := c240.symm.trans c246
                    refine lv_iadd hx hb dX12_reaches_231 ?_
                    refine lv_topi (fun x247 ex247 => ?_)
                    have ex247 : x247.toInt = r67.toInt + r219.toInt := by rw [ex247]; exact wk_add (show (-2147483648) ≤ r67.toInt + r219.toInt by omega) (show r67.toInt + r219.toInt ≤ 2147483647 by omega)
                    refine lv_aload_n hx hb dX12_reaches_232 rfl (lv_at hl 2 rfl) ?_
                    refine tk_getA hC hK hw hT hinX12 kM_at0 (by decide) rfl 35 (by decide) (List.mem_of_getElem? (i := 1) rfl) rfl rfl dX12_reaches_233 ?_
                    refine lv_iload hx hb dX12_reaches_236 (lv_at hl 0 rfl) ?_
                    refine tk_iald hC hK hw hT kM_at18 rfl rfl (show 0 ≤ r205.toInt by omega) (show r205.toInt < 10 by omega) dX12_reaches_238 (fun x248 c249 rx248 tx248 => ?_)
                    refine lv_icmp_ge (tgt := 259) hx hb dX12_reaches_239 (by decide) (fun c250 => ?_) (fun c250 => ?_)
                    · have c250 : x248.toInt ≤ x247.toInt := wk_le.mp c250
                      have gb251 : 0 ≤ sumG 19 10 w236 ∧ sumG 19 10 w236 ≤ 10 := hT.sum (lo := 0) (hi := 1) kM_at19 rfl (by decide) rfl
                      exact J259 x52 H locs ls w236 (show 0 ≤ a1.toInt by omega) (show a1.toInt ≤ 9 by omega) (show 0 ≤ a2.toInt by omega) (show a2.toInt ≤ 9 by omega) (show 0 ≤ a3.toInt by omega) (show a3.toInt ≤ 99999 by omega) (show 2000 ≤ a4.toInt by omega) (show a4.toInt ≤ 101999 by omega) (show 0 ≤ v145_5.toInt by omega) (show v145_5.toInt ≤ 9 by omega) (show 0 ≤ v145_6.toInt by omega) (show v145_6.toInt ≤ 11 by omega) (show 0 ≤ f145_12_0.toInt by omega) (show f145_12_0.toInt ≤ 10 by omega) (show 1 ≤ x52.toInt by omega) (show x52.toInt ≤ 12 by omega) (show (sumG 19 10 w1) + 1 ≤ (sumG 19 10 w236) by omega)  hw hT hF c243 c244 (lv_sub hl [2, 3, 4, 5, 6, 7, 8] rfl)
                    · have c250 : x247.toInt < x248.toInt := wk_leF c250
                      refine lv_aload_n hx hb dX12_reaches_242 rfl (lv_at hl 2 rfl) ?_
                      refine tk_getA hC hK hw hT hinX12 kM_at0 (by decide) rfl 35 (by decide) (List.mem_of_getElem? (i := 1) rfl) rfl rfl dX12_reaches_243 ?_
                      refine lv_iload hx hb dX12_reaches_246 (lv_at hl 0 rfl) ?_
                      refine lv_iload hx hb dX12_reaches_248 (lv_at hl 1 rfl) ?_
                      refine lv_aload_n hx hb dX12_reaches_250 rfl (lv_at hl 2 rfl) ?_
                      refine lv_iload hx hb dX12_reaches_251 (lv_at hl 8 rfl) ?_
                      refine lv_iconst (v := 2) hx hb dX12_reaches_253 (by decide) ?_
                      refine tk_Vi hC hK hw hT hA hE hSR kM_at0 (by decide) rfl (k_X12_streetOf_6 l adK adV dC dI cy ad B (by omega) (by omega) qr s1   v145_6 (show 0 ≤ v145_6.toInt by omega) (show v145_6.toInt ≤ 11 by omega) w236 H.size hT ) (cwV 2 hC.2.2.2.2 gX12_reaches_X12_streetOf rfl rfl rfl (by decide +kernel) ⟨Nat.le_of_ble_eq_true rfl, Nat.le_of_ble_eq_true rfl⟩) rfl hl.1 rfl (Nat.le_of_ble_eq_true rfl) dX12_reaches_254 (fun r252 w254 H locs hp253 hw => ?_)
                      obtain ⟨hT, k255, hg259⟩ := hp253
                      have gs260 : sumG 19 10 w254 = sumG 19 10 w236 := sumG_FE 10 k255 kM_at19 (fun _ => rfl)
                      have hF := hF.tr k255 (by decide)
                      have c261 := k255.gi kM_at12 (by decide) c243
                      have c262 := k255.gi kM_at12 (by decide) c244
                      have c263 := k255.gi kM_at12 rfl c245
                      have c264 := k255.gi kM_at12 rfl c246
                      obtain ⟨g256, g257, c258⟩ := hg259
                      obtain rfl : r252 = r219 := c258.symm.trans c264
                      refine lv_iadd hx hb dX12_reaches_257 ?_
                      refine lv_topi (fun x265 ex265 => ?_)
                      have ex265 : x265.toInt = r67.toInt + r219.toInt := by rw [ex265]; exact wk_add (show (-2147483648) ≤ r67.toInt + r219.toInt by omega) (show r67.toInt + r219.toInt ≤ 2147483647 by omega)
                      refine tk_iast hC hK hw hT kM_at18 (by decide) rfl rfl (show 0 ≤ r205.toInt by omega) (show r205.toInt < 10 by omega) (show 0 ≤ x265.toInt by omega) (show x265.toInt ≤ 100000100 by omega) dX12_reaches_258 (fun H locs w266 hw hT k268 c267 => ?_)
                      have gs269 : sumG 19 10 w266 = sumG 19 10 w254 := sumG_ne 10 k268 (tk_ne kM_at19 kM_at18 (by decide))
                      have hF := hF.put kM_at18 (inE_of (a := 0) (b := 10) (by decide) (show 0 ≤ r205.toInt.toNat by omega) (show r205.toInt.toNat ≤ 10 by omega)) k268
                      have c270 := k268.gi (Or.inl (tk_ne kM_at12 kM_at18 (by decide))) c261
                      have c271 := k268.gi (Or.inl (tk_ne kM_at12 kM_at18 (by decide))) c262
                      have c272 := k268.gi (Or.inl (tk_ne kM_at12 kM_at18 (by decide))) c263
                      have c273 := k268.gi (Or.inl (tk_ne kM_at12 kM_at18 (by decide))) c264
                      have gb274 : 0 ≤ sumG 19 10 w266 ∧ sumG 19 10 w266 ≤ 10 := hT.sum (lo := 0) (hi := 1) kM_at19 rfl (by decide) rfl
                      exact J259 x52 H locs ls w266 (show 0 ≤ a1.toInt by omega) (show a1.toInt ≤ 9 by omega) (show 0 ≤ a2.toInt by omega) (show a2.toInt ≤ 9 by omega) (show 0 ≤ a3.toInt by omega) (show a3.toInt ≤ 99999 by omega) (show 2000 ≤ a4.toInt by omega) (show a4.toInt ≤ 101999 by omega) (show 0 ≤ v145_5.toInt by omega) (show v145_5.toInt ≤ 9 by omega) (show 0 ≤ v145_6.toInt by omega) (show v145_6.toInt ≤ 11 by omega) (show 0 ≤ f145_12_0.toInt by omega) (show f145_12_0.toInt ≤ 10 by omega) (show 1 ≤ x52.toInt by omega) (show x52.toInt ≤ 12 by omega) (show (sumG 19 10 w1) + 1 ≤ (sumG 19 10 w266) by omega)  hw hT hF c270 c271 (lv_sub hl [2, 3, 4, 5, 6, 7, 8] rfl)
                · refine lv_istore (lv' := [(8, .int r205), (7, .int r67), (0, .ref (ad 0)), (1, .int a1), (2, .int a2), (3, .int a3), (4, .int a4), (5, .int v145_5), (6, .int v145_6)]) hx hb dX12_reaches_197 hl (by decide) rfl (fun ls hl => ?_)
                  refine lv_iload hx hb dX12_reaches_199 (lv_at hl 1 rfl) ?_
                  refine lv_ldcw (v := 100000000) hx hb hC.2.2.2.1 (hC.2.2.2.2 _ (List.mem_of_getElem? (i := 2) rfl)) dX12_reaches_201 ?_
                  refine lv_icmp_ge (tgt := 259) hx hb dX12_reaches_204 (by decide) (fun c => absurd c (fun h => absurd (show (100000000 : Int) ≤ r67.toInt from wk_le.mp h) (by omega))) (fun _ => ?_)
                  refine lv_iload hx hb dX12_reaches_207 (lv_at hl 1 rfl) ?_
                  refine lv_aload_n hx hb dX12_reaches_209 rfl (lv_at hl 2 rfl) ?_
                  refine lv_iload hx hb dX12_reaches_210 (lv_at hl 8 rfl) ?_
                  refine lv_iconst (v := 2) hx hb dX12_reaches_212 (by decide) ?_
                  refine tk_Vi hC hK hw hT hA hE hSR kM_at0 (by decide) rfl (k_X12_streetOf_6 l adK adV dC dI cy ad B (by omega) (by omega) qr s1   v145_6 (show 0 ≤ v145_6.toInt by omega) (show v145_6.toInt ≤ 11 by omega) w207 H.size hT ) (cwV 2 hC.2.2.2.2 gX12_reaches_X12_streetOf rfl rfl rfl (by decide +kernel) ⟨Nat.le_of_ble_eq_true rfl, Nat.le_of_ble_eq_true rfl⟩) rfl hl.1 rfl (Nat.le_of_ble_eq_true rfl) dX12_reaches_213 (fun r275 w277 H locs hp276 hw => ?_)
                  obtain ⟨hT, k278, hg282⟩ := hp276
                  have gs283 : sumG 19 10 w277 = sumG 19 10 w207 := sumG_FE 10 k278 kM_at19 (fun _ => rfl)
                  have hF := hF.tr k278 (by decide)
                  have c284 := k278.gi kM_at12 (by decide) c216
                  have c285 := k278.gi kM_at12 (by decide) c217
                  have c286 := k278.gi kM_at12 rfl c218
                  obtain ⟨g279, g280, c281⟩ := hg282
                  refine lv_iadd hx hb dX12_reaches_216 ?_
                  refine lv_topi (fun x287 ex287 => ?_)
                  have ex287 : x287.toInt = r67.toInt + r275.toInt := by rw [ex287]; exact wk_add (show (-2147483648) ≤ r67.toInt + r275.toInt by omega) (show r67.toInt + r275.toInt ≤ 2147483647 by omega)
                  refine lv_iload hx hb dX12_reaches_217 (lv_at hl 6 rfl) ?_
                  refine lv_icmp_gt (tgt := 259) hx hb dX12_reaches_219 (by decide) (fun c288 => ?_) (fun c288 => ?_)
                  · have c288 : a4.toInt < x287.toInt := wk_lt.mp c288
                    have gb289 : 0 ≤ sumG 19 10 w277 ∧ sumG 19 10 w277 ≤ 10 := hT.sum (lo := 0) (hi := 1) kM_at19 rfl (by decide) rfl
                    exact J259 x52 H locs ls w277 (show 0 ≤ a1.toInt by omega) (show a1.toInt ≤ 9 by omega) (show 0 ≤ a2.toInt by omega) (show a2.toInt ≤ 9 by omega) (show 0 ≤ a3.toInt by omega) (show a3.toInt ≤ 99999 by omega) (show 2000 ≤ a4.toInt by omega) (show a4.toInt ≤ 101999 by omega) (show 0 ≤ v145_5.toInt by omega) (show v145_5.toInt ≤ 9 by omega) (show 0 ≤ v145_6.toInt by omega) (show v145_6.toInt ≤ 11 by omega) (show 0 ≤ f145_12_0.toInt by omega) (show f145_12_0.toInt ≤ 10 by omega) (show 1 ≤ x52.toInt by omega) (show x52.toInt ≤ 12 by omega) (show (sumG 19 10 w1) + 1 ≤ (sumG 19 10 w277) by omega)  hw hT hF c284 c285 (lv_sub hl [2, 3, 4, 5, 6, 7, 8] rfl)
                  · have c288 : x287.toInt ≤ a4.toInt := wk_ltF c288
                    refine lv_iload hx hb dX12_reaches_222 (lv_at hl 1 rfl) ?_
                    refine lv_aload_n hx hb dX12_reaches_224 rfl (lv_at hl 2 rfl) ?_
                    refine lv_iload hx hb dX12_reaches_225 (lv_at hl 8 rfl) ?_
                    refine lv_iconst (v := 2) hx hb dX12_reaches_227 (by decide) ?_
                    refine tk_Vi hC hK hw hT hA hE hSR kM_at0 (by decide) rfl (k_X12_streetOf_6 l adK adV dC dI cy ad B (by omega) (by omega) qr s1   v145_6 (show 0 ≤ v145_6.toInt by omega) (show v145_6.toInt ≤ 11 by omega) w277 H.size hT ) (cwV 2 hC.2.2.2.2 gX12_reaches_X12_streetOf rfl rfl rfl (by decide +kernel) ⟨Nat.le_of_ble_eq_true rfl, Nat.le_of_ble_eq_true rfl⟩) rfl hl.1 rfl (Nat.le_of_ble_eq_true rfl) dX12_reaches_228 (fun r290 w292 H locs hp291 hw => ?_)
                    obtain ⟨hT, k293, hg297⟩ := hp291
                    have gs298 : sumG 19 10 w292 = sumG 19 10 w277 := sumG_FE 10 k293 kM_at19 (fun _ => rfl)
                    have hF := hF.tr k293 (by decide)
                    have c299 := k293.gi kM_at12 (by decide) c284
                    have c300 := k293.gi kM_at12 (by decide) c285
                    have c301 := k293.gi kM_at12 rfl c286
                    have c302 := k293.gi kM_at12 rfl c281
                    obtain ⟨g294, g295, c296⟩ := hg297
                    obtain rfl : r290 = r275 := c296.symm.trans c302
                    refine lv_iadd hx hb dX12_reaches_231 ?_
                    refine lv_topi (fun x303 ex303 => ?_)
                    have ex303 : x303.toInt = r67.toInt + r275.toInt := by rw [ex303]; exact wk_add (show (-2147483648) ≤ r67.toInt + r275.toInt by omega) (show r67.toInt + r275.toInt ≤ 2147483647 by omega)
                    refine lv_aload_n hx hb dX12_reaches_232 rfl (lv_at hl 2 rfl) ?_
                    refine tk_getA hC hK hw hT hinX12 kM_at0 (by decide) rfl 35 (by decide) (List.mem_of_getElem? (i := 1) rfl) rfl rfl dX12_reaches_233 ?_
                    refine lv_iload hx hb dX12_reaches_236 (lv_at hl 0 rfl) ?_
                    refine tk_iald hC hK hw hT kM_at18 rfl rfl (show 0 ≤ r205.toInt by omega) (show r205.toInt < 10 by omega) dX12_reaches_238 (fun x304 c305 rx304 tx304 => ?_)
                    refine lv_icmp_ge (tgt := 259) hx hb dX12_reaches_239 (by decide) (fun c306 => ?_) (fun c306 => ?_)
                    · have c306 : x304.toInt ≤ x303.toInt := wk_le.mp c306
                      have gb307 : 0 ≤ sumG 19 10 w292 ∧ sumG 19 10 w292 ≤ 10 := hT.sum (lo := 0) (hi := 1) kM_at19 rfl (by decide) rfl
                      exact J259 x52 H locs ls w292 (show 0 ≤ a1.toInt by omega) (show a1.toInt ≤ 9 by omega) (show 0 ≤ a2.toInt by omega) (show a2.toInt ≤ 9 by omega) (show 0 ≤ a3.toInt by omega) (show a3.toInt ≤ 99999 by omega) (show 2000 ≤ a4.toInt by omega) (show a4.toInt ≤ 101999 by omega) (show 0 ≤ v145_5.toInt by omega) (show v145_5.toInt ≤ 9 by omega) (show 0 ≤ v145_6.toInt by omega) (show v145_6.toInt ≤ 11 by omega) (show 0 ≤ f145_12_0.toInt by omega) (show f145_12_0.toInt ≤ 10 by omega) (show 1 ≤ x52.toInt by omega) (show x52.toInt ≤ 12 by omega) (show (sumG 19 10 w1) + 1 ≤ (sumG 19 10 w292) by omega)  hw hT hF c299 c300 (lv_sub hl [2, 3, 4, 5, 6, 7, 8] rfl)
                    · have c306 : x303.toInt < x304.toInt := wk_leF c306
                      refine lv_aload_n hx hb dX12_reaches_242 rfl (lv_at hl 2 rfl) ?_
                      refine tk_getA hC hK hw hT hinX12 kM_at0 (by decide) rfl 35 (by decide) (List.mem_of_getElem? (i := 1) rfl) rfl rfl dX12_reaches_243 ?_
                      refine lv_iload hx hb dX12_reaches_246 (lv_at hl 0 rfl) ?_
                      refine lv_iload hx hb dX12_reaches_248 (lv_at hl 1 rfl) ?_
                      refine lv_aload_n hx hb dX12_reaches_250 rfl (lv_at hl 2 rfl) ?_
                      refine lv_iload hx hb dX12_reaches_251 (lv_at hl 8 rfl) ?_
                      refine lv_iconst (v := 2) hx hb dX12_reaches_253 (by decide) ?_
                      refine tk_Vi hC hK hw hT hA hE hSR kM_at0 (by decide) rfl (k_X12_streetOf_6 l adK adV dC dI cy ad B (by omega) (by omega) qr s1   v145_6 (show 0 ≤ v145_6.toInt by omega) (show v145_6.toInt ≤ 11 by omega) w292 H.size hT ) (cwV 2 hC.2.2.2.2 gX12_reaches_X12_streetOf rfl rfl rfl (by decide +kernel) ⟨Nat.le_of_ble_eq_true rfl, Nat.le_of_ble_eq_true rfl⟩) rfl hl.1 rfl (Nat.le_of_ble_eq_true rfl) dX12_reaches_254 (fun r308 w310 H locs hp309 hw => ?_)
                      obtain ⟨hT, k311, hg315⟩ := hp309
                      have gs316 : sumG 19 10 w310 = sumG 19 10 w292 := sumG_FE 10 k311 kM_at19 (fun _ => rfl)
                      have hF := hF.tr k311 (by decide)
                      have c317 := k311.gi kM_at12 (by decide) c299
                      have c318 := k311.gi kM_at12 (by decide) c300
                      have c319 := k311.gi kM_at12 rfl c301
                      have c320 := k311.gi kM_at12 rfl c302
                      obtain ⟨g312, g313, c314⟩ := hg315
                      obtain rfl : r308 = r275 := c314.symm.trans c320
                      refine lv_iadd hx hb dX12_reaches_257 ?_
                      refine lv_topi (fun x321 ex321 => ?_)
                      have ex321 : x321.toInt = r67.toInt + r275.toInt := by rw [ex321]; exact wk_add (show (-2147483648) ≤ r67.toInt + r275.toInt by omega) (show r67.toInt + r275.toInt ≤ 2147483647 by omega)
                      refine tk_iast hC hK hw hT kM_at18 (by decide) rfl rfl (show 0 ≤ r205.toInt by omega) (show r205.toInt < 10 by omega) (show 0 ≤ x321.toInt by omega) (show x321.toInt ≤ 100000100 by omega) dX12_reaches_258 (fun H locs w322 hw hT k324 c323 => ?_)
                      have gs325 : sumG 19 10 w322 = sumG 19 10 w310 := sumG_ne 10 k324 (tk_ne kM_at19 kM_at18 (by decide))
                      have hF := hF.put kM_at18 (inE_of (a := 0) (b := 10) (by decide) (show 0 ≤ r205.toInt.toNat by omega) (show r205.toInt.toNat ≤ 10 by omega)) k324
                      have c326 := k324.gi (Or.inl (tk_ne kM_at12 kM_at18 (by decide))) c317
                      have c327 := k324.gi (Or.inl (tk_ne kM_at12 kM_at18 (by decide))) c318
                      have c328 := k324.gi (Or.inl (tk_ne kM_at12 kM_at18 (by decide))) c319
                      have c329 := k324.gi (Or.inl (tk_ne kM_at12 kM_at18 (by decide))) c320
                      have gb330 : 0 ≤ sumG 19 10 w322 ∧ sumG 19 10 w322 ≤ 10 := hT.sum (lo := 0) (hi := 1) kM_at19 rfl (by decide) rfl
                      exact J259 x52 H locs ls w322 (show 0 ≤ a1.toInt by omega) (show a1.toInt ≤ 9 by omega) (show 0 ≤ a2.toInt by omega) (show a2.toInt ≤ 9 by omega) (show 0 ≤ a3.toInt by omega) (show a3.toInt ≤ 99999 by omega) (show 2000 ≤ a4.toInt by omega) (show a4.toInt ≤ 101999 by omega) (show 0 ≤ v145_5.toInt by omega) (show v145_5.toInt ≤ 9 by omega) (show 0 ≤ v145_6.toInt by omega) (show v145_6.toInt ≤ 11 by omega) (show 0 ≤ f145_12_0.toInt by omega) (show f145_12_0.toInt ≤ 10 by omega) (show 1 ≤ x52.toInt by omega) (show x52.toInt ≤ 12 by omega) (show (sumG 19 10 w1) + 1 ≤ (sumG 19 10 w322) by omega)  hw hT hF c326 c327 (lv_sub hl [2, 3, 4, 5, 6, 7, 8] rfl)
      have L59 : ∀ (n59 : Nat) (v59_5 : Int32) (v59_6 : Int32) (H : Heap) (locs : List Loc) (ls : Array Slot) (w331 : va_W), 0 ≤ a1.toInt → a1.toInt ≤ 9 → 0 ≤ a2.toInt → a2.toInt ≤ 9 → 0 ≤ a3.toInt → a3.toInt ≤ 99999 → 2000 ≤ a4.toInt → a4.toInt ≤ 101999 → (-1) ≤ v59_5.toInt → v59_5.toInt ≤ 9 → 0 ≤ v59_6.toInt → v59_6.toInt ≤ 10 → (sumG 19 10 w331) ≤ (sumG 19 10 w1) → (sumG 19 10 w1) ≤ (sumG 19 10 w331) → (v59_5.toInt = -1 ∨ (gi w331 19 (v59_5.toInt).toNat).toInt = 0) → (10 - v59_6.toInt).toNat < n59 → Wd dC dI A s.heap H locs w331 → TW ksM ad cy B qr 12 w331 → FE ksM [(77, 0, 10), (78, 0, 10)] w0 w331 → gi w331 19 (a2.toInt).toNat = 0 → lv_has ls 9 [(0, .ref (ad 0)), (1, .int a1), (2, .int a2), (3, .int a3), (4, .int a4), (5, .int v59_5), (6, .int v59_6)] → W p l e ({ frames := 5, cells := 0, slots := 0, locals := 105 }) s m (List.toArray [.ref (ad 0), .int a1, .int a2, .int a3, .int a4]) below meth c H locs 0 0 (MQ below (va_Qi (P_X12_reaches_1 ad cy B qr s1 a1 a2 a3 a4 w0) (fun u : va_W => wpost dC dI cy A u) A) (List.toArray [.ref (ad 0), .int a1, .int a2, .int a3, .int a4]) s 0 0 A) (F0 m 59 ls []) := by
        intro n59
        induction n59 with
        | zero => intro v59_5 v59_6 H locs ls w331 r332 t333 r334 t335 r336 t337 r338 t339 r340 t341 r342 t343 g345 g346 g347 hm59 hw hT hF c344 hl; omega
        | succ n59 ih59 =>
          intro v59_5 v59_6 H locs ls w331 r332 t333 r334 t335 r336 t337 r338 t339 r340 t341 r342 t343 g345 g346 g347 hm59 hw hT hF c344 hl
          have J119 : ∀ (v119_5 : Int32) (f119_12_0 : Int32) (f119_19__v59_6_toInt_toNat : Int32) (H : Heap) (locs : List Loc) (ls : Array Slot) (w348 : va_W), 0 ≤ a1.toInt → a1.toInt ≤ 9 → 0 ≤ a2.toInt → a2.toInt ≤ 9 → 0 ≤ a3.toInt → a3.toInt ≤ 99999 → 2000 ≤ a4.toInt → a4.toInt ≤ 101999 → (-1) ≤ v119_5.toInt → v119_5.toInt ≤ 9 → 0 ≤ v59_6.toInt → v59_6.toInt ≤ 9 → 1 ≤ f119_12_0.toInt → f119_12_0.toInt ≤ 10 → 0 ≤ f119_19__v59_6_toInt_toNat.toInt → f119_19__v59_6_toInt_toNat.toInt ≤ 1 → (sumG 19 10 w348) ≤ (sumG 19 10 w1) → (sumG 19 10 w1) ≤ (sumG 19 10 w348) → (v119_5.toInt = -1 ∨ (gi w348 19 (v119_5.toInt).toNat).toInt = 0) → Wd dC dI A s.heap H locs w348 → TW ksM ad cy B qr 12 w348 → FE ksM [(77, 0, 10), (78, 0, 10)] w0 w348 → gi w348 12 0 = f119_12_0 → gi w348 19 (a2.toInt).toNat = 0 → gi w348 19 (v59_6.toInt).toNat = f119_19__v59_6_toInt_toNat → lv_has ls 9 [(0, .ref (ad 0)), (1, .int a1), (2, .int a2), (3, .int a3), (4, .int a4), (5, .int v119_5), (6, .int v59_6)] → W p l e ({ frames := 5, cells := 0, slots := 0, locals := 105 }) s m (List.toArray [.ref (ad 0), .int a1, .int a2, .int a3, .int a4]) below meth c H locs 0 0 (MQ below (va_Qi (P_X12_reaches_1 ad cy B qr s1 a1 a2 a3 a4 w0) (fun u : va_W => wpost dC dI cy A u) A) (List.toArray [.ref (ad 0), .int a1, .int a2, .int a3, .int a4]) s 0 0 A) (F0 m 119 ls []) := by
            intro v119_5 f119_12_0 f119_19__v59_6_toInt_toNat H locs ls w348 r349 t350 r351 t352 r353 t354 r355 t356 r357 t358 r359 t360 r361 t362 r365 t366 g368 g369 g370 hw hT hF c363 c364 c367 hl
            obtain ⟨x371, ex371⟩ : ∃ y : Int32, y = v59_6 + Int32.ofInt 1 := ⟨_, rfl⟩
            refine lv_iinc (v := x371) (lv' := [(6, .int x371), (0, .ref (ad 0)), (1, .int a1), (2, .int a2), (3, .int a3), (4, .int a4), (5, .int v119_5)]) hx hb dX12_reaches_119 hl (k := 6) rfl ex371.symm (by decide) rfl (fun ls hl => ?_)
            have ex371 : x371.toInt = v59_6.toInt + 1 := by rw [ex371]; exact wk_add (y := 1) (show -2147483648 ≤ v59_6.toInt + 1 by omega) (show v59_6.toInt + 1 ≤ 2147483647 by omega)
            refine lv_goto (tgt := 59) hx hb dX12_reaches_122 (by decide) ?_
            have gb372 : 0 ≤ sumG 19 10 w348 ∧ sumG 19 10 w348 ≤ 10 := hT.sum (lo := 0) (hi := 1) kM_at19 rfl (by decide) rfl
            exact ih59 v119_5 x371 H locs ls w348 (show 0 ≤ a1.toInt by omega) (show a1.toInt ≤ 9 by omega) (show 0 ≤ a2.toInt by omega) (show a2.toInt ≤ 9 by omega) (show 0 ≤ a3.toInt by omega) (show a3.toInt ≤ 99999 by omega) (show 2000 ≤ a4.toInt by omega) (show a4.toInt ≤ 101999 by omega) (show (-1) ≤ v119_5.toInt by omega) (show v119_5.toInt ≤ 9 by omega) (show 0 ≤ x371.toInt by omega) (show x371.toInt ≤ 10 by omega) (show (sumG 19 10 w348) ≤ (sumG 19 10 w1) by omega) (show (sumG 19 10 w1) ≤ (sumG 19 10 w348) by omega) (show (v119_5.toInt = -1 ∨ (gi w348 19 (v119_5.toInt).toNat).toInt = 0) by first | omega | assumption | (left; omega) | (left; decide) | (right; assumption) | (right; rw [c364]; omega) | (right; rw [c364]; decide) | (right; rw [c367]; omega) | (right; rw [c367]; decide)) (show (10 - x371.toInt).toNat < n59 by omega) hw hT hF c364 (lv_sub hl [1, 2, 3, 4, 5, 6, 0] rfl)
          have J115 : ∀ (f115_12_0 : Int32) (H : Heap) (locs : List Loc) (ls : Array Slot) (w373 : va_W), 0 ≤ a1.toInt → a1.toInt ≤ 9 → 0 ≤ a2.toInt → a2.toInt ≤ 9 → 0 ≤ a3.toInt → a3.toInt ≤ 99999 → 2000 ≤ a4.toInt → a4.toInt ≤ 101999 → (-1) ≤ v59_5.toInt → v59_5.toInt ≤ 9 → 0 ≤ v59_6.toInt → v59_6.toInt ≤ 9 → 1 ≤ f115_12_0.toInt → f115_12_0.toInt ≤ 10 → (sumG 19 10 w373) ≤ (sumG 19 10 w1) → (sumG 19 10 w1) ≤ (sumG 19 10 w373) → (v59_5.toInt = -1 ∨ (gi w373 19 (v59_5.toInt).toNat).toInt = 0) → Wd dC dI A s.heap H locs w373 → TW ksM ad cy B qr 12 w373 → FE ksM [(77, 0, 10), (78, 0, 10)] w0 w373 → gi w373 12 0 = f115_12_0 → gi w373 19 (a2.toInt).toNat = 0 → gi w373 19 (v59_6.toInt).toNat = 0 → lv_has ls 9 [(0, .ref (ad 0)), (1, .int a1), (2, .int a2), (3, .int a3), (4, .int a4), (5, .int v59_5), (6, .int v59_6)] → W p l e ({ frames := 5, cells := 0, slots := 0, locals := 105 }) s m (List.toArray [.ref (ad 0), .int a1, .int a2, .int a3, .int a4]) below meth c H locs 0 0 (MQ below (va_Qi (P_X12_reaches_1 ad cy B qr s1 a1 a2 a3 a4 w0) (fun u : va_W => wpost dC dI cy A u) A) (List.toArray [.ref (ad 0), .int a1, .int a2, .int a3, .int a4]) s 0 0 A) (F0 m 115 ls []) := by
            intro f115_12_0 H locs ls w373 r374 t375 r376 t377 r378 t379 r380 t381 r382 t383 r384 t385 r386 t387 g391 g392 g393 hw hT hF c388 c389 c390 hl
            refine lv_iload hx hb dX12_reaches_115 (lv_at hl 6 rfl) ?_
            refine lv_istore (lv' := [(5, .int v59_6), (0, .ref (ad 0)), (1, .int a1), (2, .int a2), (3, .int a3), (4, .int a4), (6, .int v59_6)]) hx hb dX12_reaches_117 hl (by decide) rfl (fun ls hl => ?_)
            have gb394 : 0 ≤ sumG 19 10 w373 ∧ sumG 19 10 w373 ≤ 10 := hT.sum (lo := 0) (hi := 1) kM_at19 rfl (by decide) rfl
            exact J119 v59_6 f115_12_0 0 H locs ls w373 (show 0 ≤ a1.toInt by omega) (show a1.toInt ≤ 9 by omega) (show 0 ≤ a2.toInt by omega) (show a2.toInt ≤ 9 by omega) (show 0 ≤ a3.toInt by omega) (show a3.toInt ≤ 99999 by omega) (show 2000 ≤ a4.toInt by omega) (show a4.toInt ≤ 101999 by omega) (show (-1) ≤ v59_6.toInt by omega) (show v59_6.toInt ≤ 9 by omega) (show 0 ≤ v59_6.toInt by omega) (show v59_6.toInt ≤ 9 by omega) (show 1 ≤ f115_12_0.toInt by omega) (show f115_12_0.toInt ≤ 10 by omega) (by decide) (by decide) (show (sumG 19 10 w373) ≤ (sumG 19 10 w1) by omega) (show (sumG 19 10 w1) ≤ (sumG 19 10 w373) by omega) (show (v59_6.toInt = -1 ∨ (gi w373 19 (v59_6.toInt).toNat).toInt = 0) by first | omega | assumption | (left; omega) | (left; decide) | (right; assumption) | (right; rw [c389]; omega) | (right; rw [c389]; decide) | (right; rw [c390]; omega) | (right; rw [c390]; decide))  hw hT hF c388 c389 c390 (lv_sub hl [1, 2, 3, 4, 5, 0, 6] rfl)
          refine lv_iload hx hb dX12_reaches_59 (lv_at hl 6 rfl) ?_
          refine lv_aload_n hx hb dX12_reaches_61 rfl (lv_at hl 0 rfl) ?_
          refine tk_getA hC hK hw hT hinX12 kM_at0 (by decide) rfl 26 (by decide) (List.mem_of_getElem? (i := 4) rfl) rfl rfl dX12_reaches_62 ?_
          refine lv_iconst (v := 0) hx hb dX12_reaches_65 (by decide) ?_
          refine tk_ialdR hC hK hw hT kM_at12 rfl (by decide) (by decide) dX12_reaches_66 (fun x395 c396 Ex395 => ?_)
          have bx395 := tk_rgI rfl 0 1 1 0 10 (by decide +kernel) ⟨0, by decide, by decide⟩ Ex395
          have c396 : gi w331 12 0 = x395 := c396
          refine lv_icmp_ge (tgt := 125) hx hb dX12_reaches_67 (by decide) (fun c397 => ?_) (fun c397 => ?_)
          · have c397 : x395.toInt ≤ v59_6.toInt := wk_le.mp c397
            refine lv_iload hx hb dX12_reaches_125 (lv_at hl 5 rfl) ?_
            refine lv_if_ge (tgt := 134) hx hb dX12_reaches_127 (by decide) (fun c398 => ?_) (fun c398 => ?_)
            · have c398 : (0 : Int) ≤ v59_5.toInt := wk_le.mp c398
              refine lv_aload_n hx hb dX12_reaches_134 rfl (lv_at hl 0 rfl) ?_
              refine tk_getA hC hK hw hT hinX12 kM_at0 (by decide) rfl 36 (by decide) (List.mem_of_getElem? (i := 3) rfl) rfl rfl dX12_reaches_135 ?_
              refine lv_iload hx hb dX12_reaches_138 (lv_at hl 5 rfl) ?_
              refine lv_iconst (v := 1) hx hb dX12_reaches_140 (by decide) ?_
              refine tk_zast hC hK hw hT kM_at19 (by decide) rfl rfl (show 0 ≤ v59_5.toInt by omega) (show v59_5.toInt < 10 by omega) (by decide) (by decide) dX12_reaches_141 (fun H locs w399 hw hT k401 c400 => ?_)
              have gs402 : sumG 19 10 w399 = sumG 19 10 w331 - (gi w331 19 (v59_5.toInt.toNat)).toInt + (gi w399 19 (v59_5.toInt.toNat)).toInt := sumG_up (i := v59_5.toInt.toNat) k401 10 (show v59_5.toInt.toNat < 10 by omega)
              rw [show gi w399 19 (v59_5.toInt.toNat) = 1 from c400] at gs402
              rw [show (1 : Int32).toInt = 1 by decide] at gs402
              have hF := hF.put kM_at19 (inE_of (a := 0) (b := 10) (by decide) (show 0 ≤ v59_5.toInt.toNat by omega) (show v59_5.toInt.toNat ≤ 10 by omega)) k401
              have c403 := k401.gi (Or.inl (tk_ne kM_at12 kM_at19 (by decide))) c396
              refine lv_iconst (v := 0) hx hb dX12_reaches_142 (by decide) ?_
              refine lv_istore (lv' := [(6, .int 0), (0, .ref (ad 0)), (1, .int a1), (2, .int a2), (3, .int a3), (4, .int a4), (5, .int v59_5)]) hx hb dX12_reaches_143 hl (by decide) rfl (fun ls hl => ?_)
              have gb404 : 0 ≤ sumG 19 10 w399 ∧ sumG 19 10 w399 ≤ 10 := hT.sum (lo := 0) (hi := 1) kM_at19 rfl (by decide) rfl
              exact L145 ((12 - (0 : Int)).toNat + 1) v59_5 0 x395 H locs ls w399 (show 0 ≤ a1.toInt by omega) (show a1.toInt ≤ 9 by omega) (show 0 ≤ a2.toInt by omega) (show a2.toInt ≤ 9 by omega) (show 0 ≤ a3.toInt by omega) (show a3.toInt ≤ 99999 by omega) (show 2000 ≤ a4.toInt by omega) (show a4.toInt ≤ 101999 by omega) (show 0 ≤ v59_5.toInt by omega) (show v59_5.toInt ≤ 9 by omega) (by decide) (by decide) (show 0 ≤ x395.toInt by omega) (show x395.toInt ≤ 10 by omega) (show (sumG 19 10 w1) + 1 ≤ (sumG 19 10 w399) by omega) (Nat.lt_succ_self _) hw hT hF c403 (lv_sub hl [1, 2, 3, 4, 5, 6, 0] rfl)
            · have c398 : v59_5.toInt < (0 : Int) := wk_leF c398
              refine lv_ldcw (v := 100000000) hx hb hC.2.2.2.1 (hC.2.2.2.2 _ (List.mem_of_getElem? (i := 2) rfl)) dX12_reaches_130 ?_
              exact tk_iret hC hr hlocks hK ⟨hT, hF, ⟨(by decide), (by decide)⟩⟩ hw dX12_reaches_133
          · have c397 : v59_6.toInt < x395.toInt := wk_leF c397
            refine lv_aload_n hx hb dX12_reaches_70 rfl (lv_at hl 0 rfl) ?_
            refine tk_getA hC hK hw hT hinX12 kM_at0 (by decide) rfl 36 (by decide) (List.mem_of_getElem? (i := 3) rfl) rfl rfl dX12_reaches_71 ?_
            refine lv_iload hx hb dX12_reaches_74 (lv_at hl 6 rfl) ?_
            refine tk_zald hC hK hw hT kM_at19 rfl rfl (show 0 ≤ v59_6.toInt by omega) (show v59_6.toInt < 10 by omega) dX12_reaches_76 (fun x405 c406 rx405 tx405 => ?_)
            have c406 : gi w331 19 (v59_6.toInt).toNat = x405 := (congrArg (gi w331 19) (congrArg Int.toNat (show v59_6.toInt = v59_6.toInt by omega))).trans c406
            refine lv_if_ne (tgt := 119) hx hb dX12_reaches_77 (by decide) (fun c407 => ?_) (fun c407 => ?_)
            · have c407 : ¬ x405.toInt = (0 : Int) := wk_eqF c407
              have gb408 : 0 ≤ sumG 19 10 w331 ∧ sumG 19 10 w331 ≤ 10 := hT.sum (lo := 0) (hi := 1) kM_at19 rfl (by decide) rfl
              exact J119 v59_5 x395 x405 H locs ls w331 (show 0 ≤ a1.toInt by omega) (show a1.toInt ≤ 9 by omega) (show 0 ≤ a2.toInt by omega) (show a2.toInt ≤ 9 by omega) (show 0 ≤ a3.toInt by omega) (show a3.toInt ≤ 99999 by omega) (show 2000 ≤ a4.toInt by omega) (show a4.toInt ≤ 101999 by omega) (show (-1) ≤ v59_5.toInt by omega) (show v59_5.toInt ≤ 9 by omega) (show 0 ≤ v59_6.toInt by omega) (show v59_6.toInt ≤ 9 by omega) (show 1 ≤ x395.toInt by omega) (show x395.toInt ≤ 10 by omega) (show 0 ≤ x405.toInt by omega) (show x405.toInt ≤ 1 by omega) (show (sumG 19 10 w331) ≤ (sumG 19 10 w1) by omega) (show (sumG 19 10 w1) ≤ (sumG 19 10 w331) by omega) (show (v59_5.toInt = -1 ∨ (gi w331 19 (v59_5.toInt).toNat).toInt = 0) by first | omega | assumption | (left; omega) | (left; decide) | (right; assumption) | (right; rw [c344]; omega) | (right; rw [c344]; decide) | (right; rw [c406]; omega) | (right; rw [c406]; decide))  hw hT hF c396 c344 c406 (lv_sub hl [0, 1, 2, 3, 4, 5, 6] rfl)
            · have c407 : x405.toInt = (0 : Int) := wk_eq.mp c407
              refine lv_aload_n hx hb dX12_reaches_80 rfl (lv_at hl 0 rfl) ?_
              refine tk_getA hC hK hw hT hinX12 kM_at0 (by decide) rfl 35 (by decide) (List.mem_of_getElem? (i := 1) rfl) rfl rfl dX12_reaches_81 ?_
              refine lv_iload hx hb dX12_reaches_84 (lv_at hl 6 rfl) ?_
              refine tk_iald hC hK hw hT kM_at18 rfl rfl (show 0 ≤ v59_6.toInt by omega) (show v59_6.toInt < 10 by omega) dX12_reaches_86 (fun x409 c410 rx409 tx409 => ?_)
              refine lv_ldcw (v := 100000000) hx hb hC.2.2.2.1 (hC.2.2.2.2 _ (List.mem_of_getElem? (i := 2) rfl)) dX12_reaches_87 ?_
              refine lv_icmp_ge (tgt := 119) hx hb dX12_reaches_90 (by decide) (fun c411 => ?_) (fun c411 => ?_)
              · have c411 : (100000000 : Int) ≤ x409.toInt := wk_le.mp c411
                have gb412 : 0 ≤ sumG 19 10 w331 ∧ sumG 19 10 w331 ≤ 10 := hT.sum (lo := 0) (hi := 1) kM_at19 rfl (by decide) rfl
                exact J119 v59_5 x395 x405 H locs ls w331 (show 0 ≤ a1.toInt by omega) (show a1.toInt ≤ 9 by omega) (show 0 ≤ a2.toInt by omega) (show a2.toInt ≤ 9 by omega) (show 0 ≤ a3.toInt by omega) (show a3.toInt ≤ 99999 by omega) (show 2000 ≤ a4.toInt by omega) (show a4.toInt ≤ 101999 by omega) (show (-1) ≤ v59_5.toInt by omega) (show v59_5.toInt ≤ 9 by omega) (show 0 ≤ v59_6.toInt by omega) (show v59_6.toInt ≤ 9 by omega) (show 1 ≤ x395.toInt by omega) (show x395.toInt ≤ 10 by omega) (show 0 ≤ x405.toInt by omega) (show x405.toInt ≤ 1 by omega) (show (sumG 19 10 w331) ≤ (sumG 19 10 w1) by omega) (show (sumG 19 10 w1) ≤ (sumG 19 10 w331) by omega) (show (v59_5.toInt = -1 ∨ (gi w331 19 (v59_5.toInt).toNat).toInt = 0) by first | omega | assumption | (left; omega) | (left; decide) | (right; assumption) | (right; rw [c344]; omega) | (right; rw [c344]; decide) | (right; rw [c406]; omega) | (right; rw [c406]; decide))  hw hT hF c396 c344 c406 (lv_sub hl [0, 1, 2, 3, 4, 5, 6] rfl)
              · have c411 : x409.toInt < (100000000 : Int) := wk_leF c411
                refine lv_iload hx hb dX12_reaches_93 (lv_at hl 5 rfl) ?_
                refine lv_if_lt (tgt := 115) hx hb dX12_reaches_95 (by decide) (fun c413 => ?_) (fun c413 => ?_)
                · have c413 : v59_5.toInt < (0 : Int) := wk_lt.mp c413
                  have gb414 : 0 ≤ sumG 19 10 w331 ∧ sumG 19 10 w331 ≤ 10 := hT.sum (lo := 0) (hi := 1) kM_at19 rfl (by decide) rfl
                  obtain rfl : x405 = 0 := wk_eq.mpr (show x405.toInt = 0 by omega)
                  exact J115 x395 H locs ls w331 (show 0 ≤ a1.toInt by omega) (show a1.toInt ≤ 9 by omega) (show 0 ≤ a2.toInt by omega) (show a2.toInt ≤ 9 by omega) (show 0 ≤ a3.toInt by omega) (show a3.toInt ≤ 99999 by omega) (show 2000 ≤ a4.toInt by omega) (show a4.toInt ≤ 101999 by omega) (show (-1) ≤ v59_5.toInt by omega) (show v59_5.toInt ≤ 9 by omega) (show 0 ≤ v59_6.toInt by omega) (show v59_6.toInt ≤ 9 by omega) (show 1 ≤ x395.toInt by omega) (show x395.toInt ≤ 10 by omega) (show (sumG 19 10 w331) ≤ (sumG 19 10 w1) by omega) (show (sumG 19 10 w1) ≤ (sumG 19 10 w331) by omega) (show (v59_5.toInt = -1 ∨ (gi w331 19 (v59_5.toInt).toNat).toInt = 0) by first | omega | assumption | (left; omega) | (left; decide) | (right; assumption) | (right; rw [c344]; omega) | (right; rw [c344]; decide) | (right; rw [c406]; omega) | (right; rw [c406]; decide))  hw hT hF c396 c344 c406 (lv_sub hl [0, 1, 2, 3, 4, 5, 6] rfl)
                · have c413 : (0 : Int) ≤ v59_5.toInt := wk_ltF c413
                  refine lv_aload_n hx hb dX12_reaches_98 rfl (lv_at hl 0 rfl) ?_
                  refine tk_getA hC hK hw hT hinX12 kM_at0 (by decide) rfl 35 (by decide) (List.mem_of_getElem? (i := 1) rfl) rfl rfl dX12_reaches_99 ?_
                  refine lv_iload hx hb dX12_reaches_102 (lv_at hl 6 rfl) ?_
                  refine tk_iald hC hK hw hT kM_at18 rfl rfl (show 0 ≤ v59_6.toInt by omega) (show v59_6.toInt < 10 by omega) dX12_reaches_104 (fun x415 c416 rx415 tx415 => ?_)
                  refine lv_aload_n hx hb dX12_reaches_105 rfl (lv_at hl 0 rfl) ?_
                  refine tk_getA hC hK hw hT hinX12 kM_at0 (by decide) rfl 35 (by decide) (List.mem_of_getElem? (i := 1) rfl) rfl rfl dX12_reaches_106 ?_
                  refine lv_iload hx hb dX12_reaches_109 (lv_at hl 5 rfl) ?_
                  refine tk_iald hC hK hw hT kM_at18 rfl rfl (show 0 ≤ v59_5.toInt by omega) (show v59_5.toInt < 10 by omega) dX12_reaches_111 (fun x417 c418 rx417 tx417 => ?_)
                  refine lv_icmp_ge (tgt := 119) hx hb dX12_reaches_112 (by decide) (fun c419 => ?_) (fun c419 => ?_)
                  · have c419 : x417.toInt ≤ x415.toInt := wk_le.mp c419
                    have gb420 : 0 ≤ sumG 19 10 w331 ∧ sumG 19 10 w331 ≤ 10 := hT.sum (lo := 0) (hi := 1) kM_at19 rfl (by decide) rfl
                    exact J119 v59_5 x395 x405 H locs ls w331 (show 0 ≤ a1.toInt by omega) (show a1.toInt ≤ 9 by omega) (show 0 ≤ a2.toInt by omega) (show a2.toInt ≤ 9 by omega) (show 0 ≤ a3.toInt by omega) (show a3.toInt ≤ 99999 by omega) (show 2000 ≤ a4.toInt by omega) (show a4.toInt ≤ 101999 by omega) (show (-1) ≤ v59_5.toInt by omega) (show v59_5.toInt ≤ 9 by omega) (show 0 ≤ v59_6.toInt by omega) (show v59_6.toInt ≤ 9 by omega) (show 1 ≤ x395.toInt by omega) (show x395.toInt ≤ 10 by omega) (show 0 ≤ x405.toInt by omega) (show x405.toInt ≤ 1 by omega) (show (sumG 19 10 w331) ≤ (sumG 19 10 w1) by omega) (show (sumG 19 10 w1) ≤ (sumG 19 10 w331) by omega) (show (v59_5.toInt = -1 ∨ (gi w331 19 (v59_5.toInt).toNat).toInt = 0) by first | omega | assumption | (left; omega) | (left; decide) | (right; assumption) | (right; rw [c344]; omega) | (right; rw [c344]; decide) | (right; rw [c406]; omega) | (right; rw [c406]; decide))  hw hT hF c396 c344 c406 (lv_sub hl [0, 1, 2, 3, 4, 5, 6] rfl)
                  · have c419 : x415.toInt < x417.toInt := wk_leF c419
                    have gb421 : 0 ≤ sumG 19 10 w331 ∧ sumG 19 10 w331 ≤ 10 := hT.sum (lo := 0) (hi := 1) kM_at19 rfl (by decide) rfl
                    obtain rfl : x405 = 0 := wk_eq.mpr (show x405.toInt = 0 by omega)
                    exact J115 x395 H locs ls w331 (show 0 ≤ a1.toInt by omega) (show a1.toInt ≤ 9 by omega) (show 0 ≤ a2.toInt by omega) (show a2.toInt ≤ 9 by omega) (show 0 ≤ a3.toInt by omega) (show a3.toInt ≤ 99999 by omega) (show 2000 ≤ a4.toInt by omega) (show a4.toInt ≤ 101999 by omega) (show (-1) ≤ v59_5.toInt by omega) (show v59_5.toInt ≤ 9 by omega) (show 0 ≤ v59_6.toInt by omega) (show v59_6.toInt ≤ 9 by omega) (show 1 ≤ x395.toInt by omega) (show x395.toInt ≤ 10 by omega) (show (sumG 19 10 w331) ≤ (sumG 19 10 w1) by omega) (show (sumG 19 10 w1) ≤ (sumG 19 10 w331) by omega) (show (v59_5.toInt = -1 ∨ (gi w331 19 (v59_5.toInt).toNat).toInt = 0) by first | omega | assumption | (left; omega) | (left; decide) | (right; assumption) | (right; rw [c344]; omega) | (right; rw [c344]; decide) | (right; rw [c406]; omega) | (right; rw [c406]; decide))  hw hT hF c396 c344 c406 (lv_sub hl [0, 1, 2, 3, 4, 5, 6] rfl)
      refine lv_aload_n hx hb dX12_reaches_44 rfl (lv_at hl 0 rfl) ?_
      refine tk_getA hC hK hw hT hinX12 kM_at0 (by decide) rfl 36 (by decide) (List.mem_of_getElem? (i := 3) rfl) rfl rfl dX12_reaches_45 ?_
      refine lv_iload_n hx hb dX12_reaches_48 rfl (lv_at hl 2 rfl) ?_
      refine tk_zald hC hK hw hT kM_at19 rfl rfl (show 0 ≤ a2.toInt by omega) (show a2.toInt < 10 by omega) dX12_reaches_49 (fun x422 c423 rx422 tx422 => ?_)
      have c423 : gi w1 19 (a2.toInt).toNat = x422 := (congrArg (gi w1 19) (congrArg Int.toNat (show a2.toInt = a2.toInt by omega))).trans c423
      refine lv_if_ne (tgt := 268) hx hb dX12_reaches_50 (by decide) (fun c424 => ?_) (fun c424 => ?_)
      · have c424 : ¬ x422.toInt = (0 : Int) := wk_eqF c424
        refine lv_aload_n hx hb dX12_reaches_268 rfl (lv_at hl 0 rfl) ?_
        refine tk_getA hC hK hw hT hinX12 kM_at0 (by decide) rfl 35 (by decide) (List.mem_of_getElem? (i := 1) rfl) rfl rfl dX12_reaches_269 ?_
        refine lv_iload_n hx hb dX12_reaches_272 rfl (lv_at hl 2 rfl) ?_
        refine tk_iald hC hK hw hT kM_at18 rfl rfl (show 0 ≤ a2.toInt by omega) (show a2.toInt < 10 by omega) dX12_reaches_273 (fun x425 c426 rx425 tx425 => ?_)
        exact tk_iret hC hr hlocks hK ⟨hT, hF, ⟨(show 0 ≤ x425.toInt by omega), (show x425.toInt ≤ 100000100 by omega)⟩⟩ hw dX12_reaches_274
      · have c424 : x422.toInt = (0 : Int) := wk_eq.mp c424
        refine lv_iconst (v := (-1)) hx hb dX12_reaches_53 (by decide) ?_
        refine lv_istore (lv' := [(5, .int (-1)), (0, .ref (ad 0)), (1, .int a1), (2, .int a2), (3, .int a3), (4, .int a4)]) hx hb dX12_reaches_54 hl (by decide) rfl (fun ls hl => ?_)
        refine lv_iconst (v := 0) hx hb dX12_reaches_56 (by decide) ?_
        refine lv_istore (lv' := [(6, .int 0), (5, .int (-1)), (0, .ref (ad 0)), (1, .int a1), (2, .int a2), (3, .int a3), (4, .int a4)]) hx hb dX12_reaches_57 hl (by decide) rfl (fun ls hl => ?_)
        have gb427 : 0 ≤ sumG 19 10 w1 ∧ sumG 19 10 w1 ≤ 10 := hT.sum (lo := 0) (hi := 1) kM_at19 rfl (by decide) rfl
        obtain rfl : x422 = 0 := wk_eq.mpr (show x422.toInt = 0 by omega)
        exact L59 ((10 - (0 : Int)).toNat + 1) (-1) 0 H locs ls w1 (show 0 ≤ a1.toInt by omega) (show a1.toInt ≤ 9 by omega) (show 0 ≤ a2.toInt by omega) (show a2.toInt ≤ 9 by omega) (show 0 ≤ a3.toInt by omega) (show a3.toInt ≤ 99999 by omega) (show 2000 ≤ a4.toInt by omega) (show a4.toInt ≤ 101999 by omega) (by decide) (by decide) (by decide) (by decide) (show (sumG 19 10 w1) ≤ (sumG 19 10 w1) by omega) (show (sumG 19 10 w1) ≤ (sumG 19 10 w1) by omega) (show ((-1 : Int) = -1 ∨ (gi w1 19 ((-1 : Int)).toNat).toInt = 0) by first | omega | assumption | (left; omega) | (left; decide) | (right; assumption) | (right; rw [c423]; omega) | (right; rw [c423]; decide)) (Nat.lt_succ_self _) hw hT hF c423 (lv_sub hl [2, 3, 4, 5, 6, 1, 0] rfl)
  have L3 : ∀ (n3 : Nat) (v3_5 : Int32) (H : Heap) (locs : List Loc) (ls : Array Slot) (w428 : va_W), 0 ≤ a1.toInt → a1.toInt ≤ 9 → 0 ≤ a2.toInt → a2.toInt ≤ 9 → 0 ≤ a3.toInt → a3.toInt ≤ 99999 → 2000 ≤ a4.toInt → a4.toInt ≤ 101999 → 0 ≤ v3_5.toInt → v3_5.toInt ≤ 10 → (10 - v3_5.toInt).toNat < n3 → Wd dC dI A s.heap H locs w428 → TW ksM ad cy B qr 12 w428 → FE ksM [(77, 0, 10), (78, 0, 10)] w0 w428 → lv_has ls 9 [(0, .ref (ad 0)), (1, .int a1), (2, .int a2), (3, .int a3), (4, .int a4), (5, .int v3_5)] → W p l e ({ frames := 5, cells := 0, slots := 0, locals := 105 }) s m (List.toArray [.ref (ad 0), .int a1, .int a2, .int a3, .int a4]) below meth c H locs 0 0 (MQ below (va_Qi (P_X12_reaches_1 ad cy B qr s1 a1 a2 a3 a4 w0) (fun u : va_W => wpost dC dI cy A u) A) (List.toArray [.ref (ad 0), .int a1, .int a2, .int a3, .int a4]) s 0 0 A) (F0 m 3 ls []) := by
    intro n3
    induction n3 with
    | zero => intro v3_5 H locs ls w428 r429 t430 r431 t432 r433 t434 r435 t436 r437 t438 hm3 hw hT hF hl; omega
    | succ n3 ih3 =>
      intro v3_5 H locs ls w428 r429 t430 r431 t432 r433 t434 r435 t436 r437 t438 hm3 hw hT hF hl
      refine lv_iload hx hb dX12_reaches_3 (lv_at hl 5 rfl) ?_
      refine lv_bipush (v := 10) hx hb dX12_reaches_5 (by decide) ?_
      refine lv_icmp_ge (tgt := 44) hx hb dX12_reaches_7 (by decide) (fun c439 => ?_) (fun c439 => ?_)
      · have c439 : (10 : Int) ≤ v3_5.toInt := wk_le.mp c439
        have gb440 : 0 ≤ sumG 19 10 w428 ∧ sumG 19 10 w428 ≤ 10 := hT.sum (lo := 0) (hi := 1) kM_at19 rfl (by decide) rfl
        exact L44 ((10 - (sumG 19 10 w428)).toNat + 1) v3_5 H locs ls w428 (show 0 ≤ a1.toInt by omega) (show a1.toInt ≤ 9 by omega) (show 0 ≤ a2.toInt by omega) (show a2.toInt ≤ 9 by omega) (show 0 ≤ a3.toInt by omega) (show a3.toInt ≤ 99999 by omega) (show 2000 ≤ a4.toInt by omega) (show a4.toInt ≤ 101999 by omega) (show 0 ≤ v3_5.toInt by omega) (show v3_5.toInt ≤ 10 by omega) (show 0 ≤ (sumG 19 10 w428) by omega) (Nat.lt_succ_self _) hw hT hF  (lv_sub hl [0, 1, 2, 3, 4, 5] rfl)
      · have c439 : v3_5.toInt < (10 : Int) := wk_leF c439
        refine lv_aload_n hx hb dX12_reaches_10 rfl (lv_at hl 0 rfl) ?_
        refine tk_getA hC hK hw hT hinX12 kM_at0 (by decide) rfl 35 (by decide) (List.mem_of_getElem? (i := 1) rfl) rfl rfl dX12_reaches_11 ?_
        refine lv_iload hx hb dX12_reaches_14 (lv_at hl 5 rfl) ?_
        refine lv_iload hx hb dX12_reaches_16 (lv_at hl 5 rfl) ?_
        refine lv_iload_n hx hb dX12_reaches_18 rfl (lv_at hl 1 rfl) ?_
        refine lv_icmp_ne (tgt := 26) hx hb dX12_reaches_19 (by decide) (fun c441 => ?_) (fun c441 => ?_)
        · have c441 : ¬ v3_5.toInt = a1.toInt := wk_eqF c441
          refine lv_ldcw (v := 100000000) hx hb hC.2.2.2.1 (hC.2.2.2.2 _ (List.mem_of_getElem? (i := 2) rfl)) dX12_reaches_26 ?_
          refine tk_iast hC hK hw hT kM_at18 (by decide) rfl rfl (show 0 ≤ v3_5.toInt by omega) (show v3_5.toInt < 10 by omega) (by decide) (by decide) dX12_reaches_29 (fun H locs w442 hw hT k444 c443 => ?_)
          have gs445 : sumG 19 10 w442 = sumG 19 10 w428 := sumG_ne 10 k444 (tk_ne kM_at19 kM_at18 (by decide))
          have hF := hF.put kM_at18 (inE_of (a := 0) (b := 10) (by decide) (show 0 ≤ v3_5.toInt.toNat by omega) (show v3_5.toInt.toNat ≤ 10 by omega)) k444
          refine lv_aload_n hx hb dX12_reaches_30 rfl (lv_at hl 0 rfl) ?_
          refine tk_getA hC hK hw hT hinX12 kM_at0 (by decide) rfl 36 (by decide) (List.mem_of_getElem? (i := 3) rfl) rfl rfl dX12_reaches_31 ?_
          refine lv_iload hx hb dX12_reaches_34 (lv_at hl 5 rfl) ?_
          refine lv_iconst (v := 0) hx hb dX12_reaches_36 (by decide) ?_
          refine tk_zast hC hK hw hT kM_at19 (by decide) rfl rfl (show 0 ≤ v3_5.toInt by omega) (show v3_5.toInt < 10 by omega) (by decide) (by decide) dX12_reaches_37 (fun H locs w446 hw hT k448 c447 => ?_)
          have gs449 : sumG 19 10 w446 = sumG 19 10 w442 - (gi w442 19 (v3_5.toInt.toNat)).toInt + (gi w446 19 (v3_5.toInt.toNat)).toInt := sumG_up (i := v3_5.toInt.toNat) k448 10 (show v3_5.toInt.toNat < 10 by omega)
          rw [show gi w446 19 (v3_5.toInt.toNat) = 0 from c447] at gs449
          rw [show (0 : Int32).toInt = 0 by decide] at gs449
          have hF := hF.put kM_at19 (inE_of (a := 0) (b := 10) (by decide) (show 0 ≤ v3_5.toInt.toNat by omega) (show v3_5.toInt.toNat ≤ 10 by omega)) k448
          obtain ⟨x450, ex450⟩ : ∃ y : Int32, y = v3_5 + Int32.ofInt 1 := ⟨_, rfl⟩
          refine lv_iinc (v := x450) (lv' := [(5, .int x450), (0, .ref (ad 0)), (1, .int a1), (2, .int a2), (3, .int a3), (4, .int a4)]) hx hb dX12_reaches_38 hl (k := 5) rfl ex450.symm (by decide) rfl (fun ls hl => ?_)
          have ex450 : x450.toInt = v3_5.toInt + 1 := by rw [ex450]; exact wk_add (y := 1) (show -2147483648 ≤ v3_5.toInt + 1 by omega) (show v3_5.toInt + 1 ≤ 2147483647 by omega)
          refine lv_goto (tgt := 3) hx hb dX12_reaches_41 (by decide) ?_
          exact ih3 x450 H locs ls w446 (show 0 ≤ a1.toInt by omega) (show a1.toInt ≤ 9 by omega) (show 0 ≤ a2.toInt by omega) (show a2.toInt ≤ 9 by omega) (show 0 ≤ a3.toInt by omega) (show a3.toInt ≤ 99999 by omega) (show 2000 ≤ a4.toInt by omega) (show a4.toInt ≤ 101999 by omega) (show 0 ≤ x450.toInt by omega) (show x450.toInt ≤ 10 by omega) (show (10 - x450.toInt).toNat < n3 by omega) hw hT hF  (lv_sub hl [1, 2, 3, 4, 5, 0] rfl)
        · have c441 : v3_5.toInt = a1.toInt := wk_eq.mp c441
          refine lv_iload_n hx hb dX12_reaches_22 rfl (lv_at hl 3 rfl) ?_
          refine lv_goto (tgt := 29) hx hb dX12_reaches_23 (by decide) ?_
          refine tk_iast hC hK hw hT kM_at18 (by decide) rfl rfl (show 0 ≤ v3_5.toInt by omega) (show v3_5.toInt < 10 by omega) (show 0 ≤ a3.toInt by omega) (show a3.toInt ≤ 100000100 by omega) dX12_reaches_29 (fun H locs w451 hw hT k453 c452 => ?_)
          have gs454 : sumG 19 10 w451 = sumG 19 10 w428 := sumG_ne 10 k453 (tk_ne kM_at19 kM_at18 (by decide))
          have hF := hF.put kM_at18 (inE_of (a := 0) (b := 10) (by decide) (show 0 ≤ v3_5.toInt.toNat by omega) (show v3_5.toInt.toNat ≤ 10 by omega)) k453
          refine lv_aload_n hx hb dX12_reaches_30 rfl (lv_at hl 0 rfl) ?_
          refine tk_getA hC hK hw hT hinX12 kM_at0 (by decide) rfl 36 (by decide) (List.mem_of_getElem? (i := 3) rfl) rfl rfl dX12_reaches_31 ?_
          refine lv_iload hx hb dX12_reaches_34 (lv_at hl 5 rfl) ?_
          refine lv_iconst (v := 0) hx hb dX12_reaches_36 (by decide) ?_
          refine tk_zast hC hK hw hT kM_at19 (by decide) rfl rfl (show 0 ≤ v3_5.toInt by omega) (show v3_5.toInt < 10 by omega) (by decide) (by decide) dX12_reaches_37 (fun H locs w455 hw hT k457 c456 => ?_)
          have gs458 : sumG 19 10 w455 = sumG 19 10 w451 - (gi w451 19 (v3_5.toInt.toNat)).toInt + (gi w455 19 (v3_5.toInt.toNat)).toInt := sumG_up (i := v3_5.toInt.toNat) k457 10 (show v3_5.toInt.toNat < 10 by omega)
          rw [show gi w455 19 (v3_5.toInt.toNat) = 0 from c456] at gs458
          rw [show (0 : Int32).toInt = 0 by decide] at gs458
          have hF := hF.put kM_at19 (inE_of (a := 0) (b := 10) (by decide) (show 0 ≤ v3_5.toInt.toNat by omega) (show v3_5.toInt.toNat ≤ 10 by omega)) k457
          obtain ⟨x459, ex459⟩ : ∃ y : Int32, y = v3_5 + Int32.ofInt 1 := ⟨_, rfl⟩
          refine lv_iinc (v := x459) (lv' := [(5, .int x459), (0, .ref (ad 0)), (1, .int a1), (2, .int a2), (3, .int a3), (4, .int a4)]) hx hb dX12_reaches_38 hl (k := 5) rfl ex459.symm (by decide) rfl (fun ls hl => ?_)
          have ex459 : x459.toInt = v3_5.toInt + 1 := by rw [ex459]; exact wk_add (y := 1) (show -2147483648 ≤ v3_5.toInt + 1 by omega) (show v3_5.toInt + 1 ≤ 2147483647 by omega)
          refine lv_goto (tgt := 3) hx hb dX12_reaches_41 (by decide) ?_
          exact ih3 x459 H locs ls w455 (show 0 ≤ a1.toInt by omega) (show a1.toInt ≤ 9 by omega) (show 0 ≤ a2.toInt by omega) (show a2.toInt ≤ 9 by omega) (show 0 ≤ a3.toInt by omega) (show a3.toInt ≤ 99999 by omega) (show 2000 ≤ a4.toInt by omega) (show a4.toInt ≤ 101999 by omega) (show 0 ≤ x459.toInt by omega) (show x459.toInt ≤ 10 by omega) (show (10 - x459.toInt).toNat < n3 by omega) hw hT hF  (lv_sub hl [1, 2, 3, 4, 5, 0] rfl)
  refine lv_iconst (v := 0) hx hb dX12_reaches_0 (by decide) ?_
  refine lv_istore (lv' := [(5, .int 0), (0, .ref (ad 0)), (1, .int a1), (2, .int a2), (3, .int a3), (4, .int a4)]) hx hb dX12_reaches_1 hl (by decide) rfl (fun ls hl => ?_)
  exact L3 ((10 - (0 : Int)).toNat + 1) 0 s.heap locs ls w0 (show 0 ≤ a1.toInt by omega) (show a1.toInt ≤ 9 by omega) (show 0 ≤ a2.toInt by omega) (show a2.toInt ≤ 9 by omega) (show 0 ≤ a3.toInt by omega) (show a3.toInt ≤ 99999 by omega) (show 2000 ≤ a4.toInt by omega) (show a4.toInt ≤ 101999 by omega) (by decide) (by decide) (Nat.lt_succ_self _) hw hT hF  (lv_sub hl [1, 2, 3, 4, 5, 0] rfl)
