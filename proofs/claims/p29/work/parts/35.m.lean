abbrev P_X12_streetOf_4 (ad : Nat → Nat) (cy : Nat → ClassId) (B : Int) (qr : Nat) (s1 : Int) (a1 : Int32) (a2 : Int32) (w0 : va_W) : Int32 → va_W → Prop := fun r u => TW ksM ad cy B qr 12 u ∧ FE ksM ([] : List (Nat × Nat × Nat)) w0 u ∧ ((0 ≤ r.toInt ∧ r.toInt ≤ 9))
set_option maxHeartbeats 4000000 in
set_option maxRecDepth 100000 in
theorem k_X12_streetOf_4 (l : Launch) (adK adV : Nat → Nat) (dC : Nat → ClassId) (dI : Nat → Nat → Nat) (cy : Nat → ClassId) (ad : Nat → Nat) (B : Int) (hB0 : 100000 ≤ B) (hB1 : B ≤ 1073741824) (qr : Nat) (s1 : Int)  (a1 : Int32) (ra1 : 0 ≤ a1.toInt) (ta1 : a1.toInt ≤ 11) (a2 : Int32) (ra2 : 3 ≤ a2.toInt) (ta2 : a2.toInt ≤ 9) (w0 : va_W) (sz : Nat) (hT : TW ksM ad cy B qr 12 w0)  : Met l yX12_streetOf wsX12_streetOf ({ frames := 1, cells := 0, slots := 0, locals := 12 }) (va_Pc [.ref (ad 0), .int a1, .int a2] (wpreS adK adV dC dI cy sz w0)) (va_Qi (P_X12_streetOf_4 ad cy B qr s1 a1 a2 w0) (fun u : va_W => wpost dC dI cy (va_A w0 sz) u) (va_A w0 sz)) 0 0 (va_A w0 sz) := by
  refine Met.ofW (cc := cX12_streetOf) (maxL := 3) (ret := (some .int)) (by decide) rfl ?_
  intro p e s m args below meth c s₁ Bk hml hv
  obtain ⟨rfl, ⟨hsz, hP, hK, hD0⟩, hE, hSR⟩ := hv
  have hx := Bk.exec
  have hb := Bk.bytes
  have hr := Bk.returns
  have hlocks := Bk.notSynchronized
  have hC : CallFix p m c cX12_streetOf 3 s _ wsX12_streetOf RX12 := ⟨hx, hb, hml, findClass_of_methodNamed Bk.named, atoms_spec (ws := wsX12_streetOf) Bk.pre⟩
  subst hsz
  have hD := hD0.self (sz := s.heap.size)
  generalize hAe : va_A w0 s.heap.size = A at hD hE ⊢
  have hA : ∀ q : Nat, s.heap.size ≤ q → A q := fun q h => by rw [← hAe]; exact Or.inr h
  have hw : Wd dC dI A s.heap s.heap [] w0 := ⟨hP, hD, va_S.rf⟩
  have hF : FE ksM ([] : List (Nat × Nat × Nat)) w0 w0 := FE.rf
  have hl := lv_entry ([.ref (ad 0), .int a1, .int a2]) (n := 3) (Nat.le_of_ble_eq_true rfl)
  rw [lg_entry_eq]
  generalize (lg_sl ([.ref (ad 0), .int a1, .int a2]) ++ List.replicate (3 - (lg_sl ([.ref (ad 0), .int a1, .int a2])).length) Slot.unset).toArray = ls at hl ⊢
  have hl : lv_has ls 3 [(0, .ref (ad 0)), (1, .int a1), (2, .int a2)] := hl
  generalize hloc : ([] : List Loc) = locs at hw ⊢
  have hinX12 : ∀ w ∈ u_ws RX12 TX12 42, w ∈ wsX12_streetOf := fun _ h => List.mem_cons_of_mem _ (List.mem_append_right _ (h))
  refine lv_aload_n hx hb dX12_streetOf_0 rfl (lv_at hl 0 rfl) ?_
  refine tk_getA hC hK hw hT hinX12 kM_at0 (by decide) rfl 26 (by decide) (List.mem_of_getElem? (i := 1) rfl) rfl rfl dX12_streetOf_1 ?_
  refine lv_bipush (v := 10) hx hb dX12_streetOf_4 (by decide) ?_
  refine lv_bipush (v := 10) hx hb dX12_streetOf_6 (by decide) ?_
  refine lv_iload_n hx hb dX12_streetOf_8 rfl (lv_at hl 1 rfl) ?_
  refine lv_imul hx hb dX12_streetOf_9 ?_
  refine lv_topi (fun x1 ex1 => ?_)
  have ex1 : x1.toInt = (10 : Int) * a1.toInt := by rw [ex1]; exact wk_mul (show (-2147483648) ≤ (10 : Int) * a1.toInt by omega) (show (10 : Int) * a1.toInt ≤ 2147483647 by omega)
  refine lv_iadd hx hb dX12_streetOf_10 ?_
  refine lv_topi (fun x2 ex2 => ?_)
  have ex2 : x2.toInt = (10 : Int) + x1.toInt := by rw [ex2]; exact wk_add (show (-2147483648) ≤ (10 : Int) + x1.toInt by omega) (show (10 : Int) + x1.toInt ≤ 2147483647 by omega)
  refine lv_iload_n hx hb dX12_streetOf_11 rfl (lv_at hl 2 rfl) ?_
  refine lv_iadd hx hb dX12_streetOf_12 ?_
  refine lv_topi (fun x3 ex3 => ?_)
  have ex3 : x3.toInt = x2.toInt + a2.toInt := by rw [ex3]; exact wk_add (show (-2147483648) ≤ x2.toInt + a2.toInt by omega) (show x2.toInt + a2.toInt ≤ 2147483647 by omega)
  refine tk_ialdR hC hK hw hT kM_at12 rfl (show 0 ≤ x3.toInt by omega) (show x3.toInt < 296 by omega) dX12_streetOf_13 (fun x4 c5 Ex4 => ?_)
  have bx4 := tk_rgI rfl 13 1 117 0 9 (by decide +kernel) ⟨(x3.toInt - 13).toNat, by omega, show x3.toInt.toNat = 13 + 1 * (x3.toInt - 13).toNat by omega⟩ Ex4
  exact tk_iret hC hr hlocks hK ⟨hT, hF, ⟨(show 0 ≤ x4.toInt by omega), (show x4.toInt ≤ 9 by omega)⟩⟩ hw dX12_streetOf_14
abbrev P_X12_isOf_1 (ad : Nat → Nat) (cy : Nat → ClassId) (B : Int) (qr : Nat) (s1 : Int) (a0 : Int32) (w0 : va_W) : Int32 → va_W → Prop := fun r u => TW ksM ad cy B qr 12 u ∧ FE ksM ([] : List (Nat × Nat × Nat)) w0 u ∧ ((r = 0) ∨ (r = 1))
set_option maxHeartbeats 4000000 in
set_option maxRecDepth 100000 in
theorem k_X12_isOf_1 (l : Launch) (adK adV : Nat → Nat) (dC : Nat → ClassId) (dI : Nat → Nat → Nat) (cy : Nat → ClassId) (ad : Nat → Nat) (B : Int) (hB0 : 100000 ≤ B) (hB1 : B ≤ 1073741824) (qr : Nat) (s1 : Int)  (a0 : Int32) (ra0 : 0 ≤ a0.toInt) (ta0 : a0.toInt ≤ 9) (w0 : va_W) (sz : Nat) (hT : TW ksM ad cy B qr 12 w0)  : Met l yX12_isOf wsX12_isOf ({ frames := 1, cells := 0, slots := 0, locals := 12 }) (va_Pc [.int a0, .int 1] (wpreS adK adV dC dI cy sz w0)) (va_Qi (P_X12_isOf_1 ad cy B qr s1 a0 w0) (fun u : va_W => wpost dC dI cy (va_A w0 sz) u) (va_A w0 sz)) 0 0 (va_A w0 sz) := by
  refine Met.ofW (cc := cX12_isOf) (maxL := 2) (ret := (some .boolean)) (by decide) rfl ?_
  intro p e s m args below meth c s₁ Bk hml hv
  obtain ⟨rfl, ⟨hsz, hP, hK, hD0⟩, hE, hSR⟩ := hv
  have hx := Bk.exec
  have hb := Bk.bytes
  have hr := Bk.returns
  have hlocks := Bk.notSynchronized
  have hC : CallFix p m c cX12_isOf 2 s _ wsX12_isOf RX12 := ⟨hx, hb, hml, findClass_of_methodNamed Bk.named, atoms_spec (ws := wsX12_isOf) Bk.pre⟩
  subst hsz
  have hD := hD0.self (sz := s.heap.size)
  generalize hAe : va_A w0 s.heap.size = A at hD hE ⊢
  have hA : ∀ q : Nat, s.heap.size ≤ q → A q := fun q h => by rw [← hAe]; exact Or.inr h
  have hw : Wd dC dI A s.heap s.heap [] w0 := ⟨hP, hD, va_S.rf⟩
  have hF : FE ksM ([] : List (Nat × Nat × Nat)) w0 w0 := FE.rf
  have hl := lv_entry ([.int a0, .int 1]) (n := 2) (Nat.le_of_ble_eq_true rfl)
  rw [lg_entry_eq]
  generalize (lg_sl ([.int a0, .int 1]) ++ List.replicate (2 - (lg_sl ([.int a0, .int 1])).length) Slot.unset).toArray = ls at hl ⊢
  have hl : lv_has ls 2 [(0, .int a0), (1, .int 1)] := hl
  generalize hloc : ([] : List Loc) = locs at hw ⊢
  refine lv_iload_n hx hb dX12_isOf_0 rfl (lv_at hl 0 rfl) ?_
  refine lv_iload_n hx hb dX12_isOf_1 rfl (lv_at hl 1 rfl) ?_
  refine lv_ishr hx hb dX12_isOf_2 ?_
  refine lv_topi (fun x1 ex1 => ?_)
  have bx1 : 0 ≤ x1.toInt ∧ x1.toInt ≤ a0.toInt := by rw [ex1]; exact wk_shr (by omega)
  refine lv_iconst (v := 1) hx hb dX12_isOf_3 (by decide) ?_
  refine lv_iand hx hb dX12_isOf_4 ?_
  refine lv_topi (fun x2 ex2 => ?_)
  have bx2 : 0 ≤ x2.toInt ∧ x2.toInt ≤ (1 : Int) := by rw [ex2]; exact wk_and (by decide)
  refine lv_iconst (v := 1) hx hb dX12_isOf_5 (by decide) ?_
  refine lv_icmp_ne (tgt := 13) hx hb dX12_isOf_6 (by decide) (fun c3 => ?_) (fun c3 => ?_)
  · have c3 : ¬ x2.toInt = (1 : Int) := wk_eqF c3
    refine lv_iconst (v := 0) hx hb dX12_isOf_13 (by decide) ?_
    exact tk_zret hC hr rfl hlocks hK ⟨hT, hF, (Or.inl rfl)⟩ hw dX12_isOf_14
  · have c3 : x2.toInt = (1 : Int) := wk_eq.mp c3
    refine lv_iconst (v := 1) hx hb dX12_isOf_9 (by decide) ?_
    refine lv_goto (tgt := 14) hx hb dX12_isOf_10 (by decide) ?_
    exact tk_zret hC hr rfl hlocks hK ⟨hT, hF, (Or.inr rfl)⟩ hw dX12_isOf_14
abbrev P_X12_isOf_2 (ad : Nat → Nat) (cy : Nat → ClassId) (B : Int) (qr : Nat) (s1 : Int) (a0 : Int32) (w0 : va_W) : Int32 → va_W → Prop := fun r u => TW ksM ad cy B qr 12 u ∧ FE ksM ([] : List (Nat × Nat × Nat)) w0 u ∧ ((r = 0) ∨ (r = 1))
set_option maxHeartbeats 4000000 in
set_option maxRecDepth 100000 in
theorem k_X12_isOf_2 (l : Launch) (adK adV : Nat → Nat) (dC : Nat → ClassId) (dI : Nat → Nat → Nat) (cy : Nat → ClassId) (ad : Nat → Nat) (B : Int) (hB0 : 100000 ≤ B) (hB1 : B ≤ 1073741824) (qr : Nat) (s1 : Int)  (a0 : Int32) (ra0 : 0 ≤ a0.toInt) (ta0 : a0.toInt ≤ 9) (w0 : va_W) (sz : Nat) (hT : TW ksM ad cy B qr 12 w0)  : Met l yX12_isOf wsX12_isOf ({ frames := 1, cells := 0, slots := 0, locals := 12 }) (va_Pc [.int a0, .int 0] (wpreS adK adV dC dI cy sz w0)) (va_Qi (P_X12_isOf_2 ad cy B qr s1 a0 w0) (fun u : va_W => wpost dC dI cy (va_A w0 sz) u) (va_A w0 sz)) 0 0 (va_A w0 sz) := by
  refine Met.ofW (cc := cX12_isOf) (maxL := 2) (ret := (some .boolean)) (by decide) rfl ?_
  intro p e s m args below meth c s₁ Bk hml hv
  obtain ⟨rfl, ⟨hsz, hP, hK, hD0⟩, hE, hSR⟩ := hv
  have hx := Bk.exec
  have hb := Bk.bytes
  have hr := Bk.returns
  have hlocks := Bk.notSynchronized
  have hC : CallFix p m c cX12_isOf 2 s _ wsX12_isOf RX12 := ⟨hx, hb, hml, findClass_of_methodNamed Bk.named, atoms_spec (ws := wsX12_isOf) Bk.pre⟩
  subst hsz
  have hD := hD0.self (sz := s.heap.size)
  generalize hAe : va_A w0 s.heap.size = A at hD hE ⊢
  have hA : ∀ q : Nat, s.heap.size ≤ q → A q := fun q h => by rw [← hAe]; exact Or.inr h
  have hw : Wd dC dI A s.heap s.heap [] w0 := ⟨hP, hD, va_S.rf⟩
  have hF : FE ksM ([] : List (Nat × Nat × Nat)) w0 w0 := FE.rf
  have hl := lv_entry ([.int a0, .int 0]) (n := 2) (Nat.le_of_ble_eq_true rfl)
  rw [lg_entry_eq]
  generalize (lg_sl ([.int a0, .int 0]) ++ List.replicate (2 - (lg_sl ([.int a0, .int 0])).length) Slot.unset).toArray = ls at hl ⊢
  have hl : lv_has ls 2 [(0, .int a0), (1, .int 0)] := hl
  generalize hloc : ([] : List Loc) = locs at hw ⊢
  refine lv_iload_n hx hb dX12_isOf_0 rfl (lv_at hl 0 rfl) ?_
  refine lv_iload_n hx hb dX12_isOf_1 rfl (lv_at hl 1 rfl) ?_
  refine lv_ishr hx hb dX12_isOf_2 ?_
  refine lv_topi (fun x1 ex1 => ?_)
  have bx1 : 0 ≤ x1.toInt ∧ x1.toInt ≤ a0.toInt := by rw [ex1]; exact wk_shr (by omega)
  refine lv_iconst (v := 1) hx hb dX12_isOf_3 (by decide) ?_
  refine lv_iand hx hb dX12_isOf_4 ?_
  refine lv_topi (fun x2 ex2 => ?_)
  have bx2 : 0 ≤ x2.toInt ∧ x2.toInt ≤ (1 : Int) := by rw [ex2]; exact wk_and (by decide)
  refine lv_iconst (v := 1) hx hb dX12_isOf_5 (by decide) ?_
  refine lv_icmp_ne (tgt := 13) hx hb dX12_isOf_6 (by decide) (fun c3 => ?_) (fun c3 => ?_)
  · have c3 : ¬ x2.toInt = (1 : Int) := wk_eqF c3
    refine lv_iconst (v := 0) hx hb dX12_isOf_13 (by decide) ?_
    exact tk_zret hC hr rfl hlocks hK ⟨hT, hF, (Or.inl rfl)⟩ hw dX12_isOf_14
  · have c3 : x2.toInt = (1 : Int) := wk_eq.mp c3
    refine lv_iconst (v := 1) hx hb dX12_isOf_9 (by decide) ?_
    refine lv_goto (tgt := 14) hx hb dX12_isOf_10 (by decide) ?_
    exact tk_zret hC hr rfl hlocks hK ⟨hT, hF, (Or.inr rfl)⟩ hw dX12_isOf_14
abbrev P_X12_hasSign_1 (ad : Nat → Nat) (cy : Nat → ClassId) (B : Int) (qr : Nat) (s1 : Int) (a1 : Int32) (a2 : Int32) (a3 : Int32) (w0 : va_W) : Int32 → va_W → Prop := fun r u => TW ksM ad cy B qr 12 u ∧ FE ksM ([] : List (Nat × Nat × Nat)) w0 u ∧ ((r = 0) ∨ (r = 1))
set_option maxHeartbeats 4000000 in
set_option maxRecDepth 100000 in
theorem k_X12_hasSign_1 (l : Launch) (adK adV : Nat → Nat) (dC : Nat → ClassId) (dI : Nat → Nat → Nat) (cy : Nat → ClassId) (ad : Nat → Nat) (B : Int) (hB0 : 100000 ≤ B) (hB1 : B ≤ 1073741824) (qr : Nat) (s1 : Int)  (a1 : Int32) (ra1 : 0 ≤ a1.toInt) (ta1 : a1.toInt ≤ 9) (a2 : Int32) (ra2 : 0 ≤ a2.toInt) (ta2 : a2.toInt ≤ 11) (a3 : Int32) (ra3 : 0 ≤ a3.toInt) (ta3 : a3.toInt ≤ 9) (w0 : va_W) (sz : Nat) (hT : TW ksM ad cy B qr 12 w0)  : Met l yX12_hasSign wsX12_hasSign ({ frames := 2, cells := 0, slots := 0, locals := 34 }) (va_Pc [.ref (ad 0), .int a1, .int a2, .int a3] (wpreS adK adV dC dI cy sz w0)) (va_Qi (P_X12_hasSign_1 ad cy B qr s1 a1 a2 a3 w0) (fun u : va_W => wpost dC dI cy (va_A w0 sz) u) (va_A w0 sz)) 0 0 (va_A w0 sz) := by
  refine Met.ofW (cc := cX12_hasSign) (maxL := 4) (ret := (some .boolean)) (by decide) rfl ?_
  intro p e s m args below meth c s₁ Bk hml hv
  obtain ⟨rfl, ⟨hsz, hP, hK, hD0⟩, hE, hSR⟩ := hv
  have hx := Bk.exec
  have hb := Bk.bytes
  have hr := Bk.returns
  have hlocks := Bk.notSynchronized
  have hC : CallFix p m c cX12_hasSign 4 s _ wsX12_hasSign RX12 := ⟨hx, hb, hml, findClass_of_methodNamed Bk.named, atoms_spec (ws := wsX12_hasSign) Bk.pre⟩
  subst hsz
  have hD := hD0.self (sz := s.heap.size)
  generalize hAe : va_A w0 s.heap.size = A at hD hE ⊢
  have hA : ∀ q : Nat, s.heap.size ≤ q → A q := fun q h => by rw [← hAe]; exact Or.inr h
  have hw : Wd dC dI A s.heap s.heap [] w0 := ⟨hP, hD, va_S.rf⟩
  have hF : FE ksM ([] : List (Nat × Nat × Nat)) w0 w0 := FE.rf
  have hl := lv_entry ([.ref (ad 0), .int a1, .int a2, .int a3]) (n := 4) (Nat.le_of_ble_eq_true rfl)
  rw [lg_entry_eq]
  generalize (lg_sl ([.ref (ad 0), .int a1, .int a2, .int a3]) ++ List.replicate (4 - (lg_sl ([.ref (ad 0), .int a1, .int a2, .int a3])).length) Slot.unset).toArray = ls at hl ⊢
  have hl : lv_has ls 4 [(0, .ref (ad 0)), (1, .int a1), (2, .int a2), (3, .int a3)] := hl
  generalize hloc : ([] : List Loc) = locs at hw ⊢
  refine lv_iload_n hx hb dX12_hasSign_0 rfl (lv_at hl 1 rfl) ?_
  refine lv_aload_n hx hb dX12_hasSign_1 rfl (lv_at hl 0 rfl) ?_
  refine lv_iload_n hx hb dX12_hasSign_2 rfl (lv_at hl 2 rfl) ?_
  refine lv_iconst (v := 0) hx hb dX12_hasSign_3 (by decide) ?_
  refine tk_Vi hC hK hw hT hA hE hSR kM_at0 (by decide) rfl (k_X12_streetOf_2 l adK adV dC dI cy ad B (by omega) (by omega) qr s1   a2 (show 0 ≤ a2.toInt by omega) (show a2.toInt ≤ 11 by omega) w0 s.heap.size hT ) (cwV 2 hC.2.2.2.2 gX12_hasSign_X12_streetOf rfl rfl rfl (by decide +kernel) ⟨Nat.le_of_ble_eq_true rfl, Nat.le_of_ble_eq_true rfl⟩) rfl hl.1 rfl (Nat.le_of_ble_eq_true rfl) dX12_hasSign_4 (fun r1 w3 H locs hp2 hw => ?_)
  obtain ⟨hT, k4, hg7⟩ := hp2
  have hF := hF.tr k4 (by decide)
  obtain ⟨g5, g6⟩ := hg7
  refine lv_iload_n hx hb dX12_hasSign_7 rfl (lv_at hl 3 rfl) ?_
  refine lv_icmp_ne (tgt := 15) hx hb dX12_hasSign_8 (by decide) (fun c8 => ?_) (fun c8 => ?_)
  · have c8 : ¬ r1.toInt = a3.toInt := wk_eqF c8
    refine lv_iconst (v := 1) hx hb dX12_hasSign_15 (by decide) ?_
    refine tk_Si hC hK hw hT hA hE hSR (k_X12_isOf_1 l adK adV dC dI cy ad B (by omega) (by omega) qr s1   a1 (show 0 ≤ a1.toInt by omega) (show a1.toInt ≤ 9 by omega) w3 H.size hT ) (va_cwS 2 hC.2.2.2.2 gX12_hasSign_X12_isOf rfl rfl rfl (by decide +kernel) ⟨Nat.le_of_ble_eq_true rfl, Nat.le_of_ble_eq_true rfl⟩) rfl hl.1 rfl (Nat.le_of_ble_eq_true rfl) dX12_hasSign_16 (fun r9 w11 H locs hp10 hw => ?_)
    obtain ⟨hT, k12, hg13⟩ := hp10
    have hF := hF.tr k12 (by decide)
    rcases hg13 with rfl | rfl
    · exact tk_zret hC hr rfl hlocks hK ⟨hT, hF, (Or.inl rfl)⟩ hw dX12_hasSign_19
    · exact tk_zret hC hr rfl hlocks hK ⟨hT, hF, (Or.inr rfl)⟩ hw dX12_hasSign_19
  · have c8 : r1.toInt = a3.toInt := wk_eq.mp c8
    refine lv_iconst (v := 0) hx hb dX12_hasSign_11 (by decide) ?_
    refine lv_goto (tgt := 16) hx hb dX12_hasSign_12 (by decide) ?_
    refine tk_Si hC hK hw hT hA hE hSR (k_X12_isOf_2 l adK adV dC dI cy ad B (by omega) (by omega) qr s1   a1 (show 0 ≤ a1.toInt by omega) (show a1.toInt ≤ 9 by omega) w3 H.size hT ) (va_cwS 2 hC.2.2.2.2 gX12_hasSign_X12_isOf rfl rfl rfl (by decide +kernel) ⟨Nat.le_of_ble_eq_true rfl, Nat.le_of_ble_eq_true rfl⟩) rfl hl.1 rfl (Nat.le_of_ble_eq_true rfl) dX12_hasSign_16 (fun r14 w16 H locs hp15 hw => ?_)
    obtain ⟨hT, k17, hg18⟩ := hp15
    have hF := hF.tr k17 (by decide)
    rcases hg18 with rfl | rfl
    · exact tk_zret hC hr rfl hlocks hK ⟨hT, hF, (Or.inl rfl)⟩ hw dX12_hasSign_19
    · exact tk_zret hC hr rfl hlocks hK ⟨hT, hF, (Or.inr rfl)⟩ hw dX12_hasSign_19
abbrev P_X12_isClosed_1 (ad : Nat → Nat) (cy : Nat → ClassId) (B : Int) (qr : Nat) (s1 : Int) (a1 : Int32) (a2 : Int32) (w0 : va_W) : Int32 → va_W → Prop := fun r u => TW ksM ad cy B qr 12 u ∧ FE ksM ([] : List (Nat × Nat × Nat)) w0 u ∧ ((r = 0) ∨ (r = 1 ∧ (∃ y : Int32, gi u 0 27 = y ∧ 1 ≤ y.toInt ∧ y.toInt ≤ 1) ∧ (∃ y : Int32, gi u 12 2 = y ∧ 1 ≤ y.toInt ∧ y.toInt ≤ 8)))
set_option maxHeartbeats 4000000 in
set_option maxRecDepth 100000 in
theorem k_X12_isClosed_1 (l : Launch) (adK adV : Nat → Nat) (dC : Nat → ClassId) (dI : Nat → Nat → Nat) (cy : Nat → ClassId) (ad : Nat → Nat) (B : Int) (hB0 : 100000 ≤ B) (hB1 : B ≤ 1073741824) (qr : Nat) (s1 : Int)  (a1 : Int32) (ra1 : 0 ≤ a1.toInt) (ta1 : a1.toInt ≤ 9) (a2 : Int32) (ra2 : 0 ≤ a2.toInt) (ta2 : a2.toInt ≤ 359) (w0 : va_W) (sz : Nat) (hT : TW ksM ad cy B qr 12 w0)  : Met l yX12_isClosed wsX12_isClosed ({ frames := 1, cells := 0, slots := 0, locals := 12 }) (va_Pc [.ref (ad 0), .int a1, .int a2] (wpreS adK adV dC dI cy sz w0)) (va_Qi (P_X12_isClosed_1 ad cy B qr s1 a1 a2 w0) (fun u : va_W => wpost dC dI cy (va_A w0 sz) u) (va_A w0 sz)) 0 0 (va_A w0 sz) := by
  refine Met.ofW (cc := cX12_isClosed) (maxL := 4) (ret := (some .boolean)) (by decide) rfl ?_
  intro p e s m args below meth c s₁ Bk hml hv
  obtain ⟨rfl, ⟨hsz, hP, hK, hD0⟩, hE, hSR⟩ := hv
  have hx := Bk.exec
  have hb := Bk.bytes
  have hr := Bk.returns
  have hlocks := Bk.notSynchronized
  have hC : CallFix p m c cX12_isClosed 4 s _ wsX12_isClosed RX12 := ⟨hx, hb, hml, findClass_of_methodNamed Bk.named, atoms_spec (ws := wsX12_isClosed) Bk.pre⟩
  subst hsz
  have hD := hD0.self (sz := s.heap.size)
  generalize hAe : va_A w0 s.heap.size = A at hD hE ⊢
  have hA : ∀ q : Nat, s.heap.size ≤ q → A q := fun q h => by rw [← hAe]; exact Or.inr h
  have hw : Wd dC dI A s.heap s.heap [] w0 := ⟨hP, hD, va_S.rf⟩
  have hF : FE ksM ([] : List (Nat × Nat × Nat)) w0 w0 := FE.rf
  have hl := lv_entry ([.ref (ad 0), .int a1, .int a2]) (n := 4) (Nat.le_of_ble_eq_true rfl)
  rw [lg_entry_eq]
  generalize (lg_sl ([.ref (ad 0), .int a1, .int a2]) ++ List.replicate (4 - (lg_sl ([.ref (ad 0), .int a1, .int a2])).length) Slot.unset).toArray = ls at hl ⊢
  have hl : lv_has ls 4 [(0, .ref (ad 0)), (1, .int a1), (2, .int a2)] := hl
  generalize hloc : ([] : List Loc) = locs at hw ⊢
  have hinX12 : ∀ w ∈ u_ws RX12 TX12 42, w ∈ wsX12_isClosed := fun _ h => List.mem_cons_of_mem _ (List.mem_append_right _ (h))
  have J61 : ∀ (v61_3 : Int32) (f61_12_2 : Int32) (H : Heap) (locs : List Loc) (ls : Array Slot) (w1 : va_W), 0 ≤ a1.toInt → a1.toInt ≤ 9 → 0 ≤ a2.toInt → a2.toInt ≤ 359 → 0 ≤ v61_3.toInt → v61_3.toInt ≤ 8 → 0 ≤ f61_12_2.toInt → f61_12_2.toInt ≤ 8 → Wd dC dI A s.heap H locs w1 → TW ksM ad cy B qr 12 w1 → FE ksM ([] : List (Nat × Nat × Nat)) w0 w1 → gi w1 12 2 = f61_12_2 → lv_has ls 4 [(0, .ref (ad 0)), (1, .int a1), (2, .int a2), (3, .int v61_3)] → W p l e ({ frames := 1, cells := 0, slots := 0, locals := 12 }) s m (List.toArray [.ref (ad 0), .int a1, .int a2]) below meth c H locs 0 0 (MQ below (va_Qi (P_X12_isClosed_1 ad cy B qr s1 a1 a2 w0) (fun u : va_W => wpost dC dI cy A u) A) (List.toArray [.ref (ad 0), .int a1, .int a2]) s 0 0 A) (F0 m 61 ls []) := by
    intro v61_3 f61_12_2 H locs ls w1 r2 t3 r4 t5 r6 t7 r8 t9 hw hT hF c10 hl
    refine lv_iconst (v := 0) hx hb dX12_isClosed_61 (by decide) ?_
    exact tk_zret hC hr rfl hlocks hK ⟨hT, hF, (Or.inl rfl)⟩ hw dX12_isClosed_62
  have L2 : ∀ (n2 : Nat) (v2_3 : Int32) (H : Heap) (locs : List Loc) (ls : Array Slot) (w11 : va_W), 0 ≤ a1.toInt → a1.toInt ≤ 9 → 0 ≤ a2.toInt → a2.toInt ≤ 359 → 0 ≤ v2_3.toInt → v2_3.toInt ≤ 8 → (8 - v2_3.toInt).toNat < n2 → Wd dC dI A s.heap H locs w11 → TW ksM ad cy B qr 12 w11 → FE ksM ([] : List (Nat × Nat × Nat)) w0 w11 → lv_has ls 4 [(0, .ref (ad 0)), (1, .int a1), (2, .int a2), (3, .int v2_3)] → W p l e ({ frames := 1, cells := 0, slots := 0, locals := 12 }) s m (List.toArray [.ref (ad 0), .int a1, .int a2]) below meth c H locs 0 0 (MQ below (va_Qi (P_X12_isClosed_1 ad cy B qr s1 a1 a2 w0) (fun u : va_W => wpost dC dI cy A u) A) (List.toArray [.ref (ad 0), .int a1, .int a2]) s 0 0 A) (F0 m 2 ls []) := by
    intro n2
    induction n2 with
    | zero => intro v2_3 H locs ls w11 r12 t13 r14 t15 r16 t17 hm2 hw hT hF hl; omega
    | succ n2 ih2 =>
      intro v2_3 H locs ls w11 r12 t13 r14 t15 r16 t17 hm2 hw hT hF hl
      have J55 : ∀ (f55_12_2 : Int32) (H : Heap) (locs : List Loc) (ls : Array Slot) (w18 : va_W), 0 ≤ a1.toInt → a1.toInt ≤ 9 → 0 ≤ a2.toInt → a2.toInt ≤ 359 → 0 ≤ v2_3.toInt → v2_3.toInt ≤ 7 → 1 ≤ f55_12_2.toInt → f55_12_2.toInt ≤ 8 → Wd dC dI A s.heap H locs w18 → TW ksM ad cy B qr 12 w18 → FE ksM ([] : List (Nat × Nat × Nat)) w0 w18 → gi w18 0 27 = 1 → gi w18 12 2 = f55_12_2 → lv_has ls 4 [(0, .ref (ad 0)), (1, .int a1), (2, .int a2), (3, .int v2_3)] → W p l e ({ frames := 1, cells := 0, slots := 0, locals := 12 }) s m (List.toArray [.ref (ad 0), .int a1, .int a2]) below meth c H locs 0 0 (MQ below (va_Qi (P_X12_isClosed_1 ad cy B qr s1 a1 a2 w0) (fun u : va_W => wpost dC dI cy A u) A) (List.toArray [.ref (ad 0), .int a1, .int a2]) s 0 0 A) (F0 m 55 ls []) := by
        intro f55_12_2 H locs ls w18 r19 t20 r21 t22 r23 t24 r26 t27 hw hT hF c25 c28 hl
        obtain ⟨x29, ex29⟩ : ∃ y : Int32, y = v2_3 + Int32.ofInt 1 := ⟨_, rfl⟩
        refine lv_iinc (v := x29) (lv' := [(3, .int x29), (0, .ref (ad 0)), (1, .int a1), (2, .int a2)]) hx hb dX12_isClosed_55 hl (k := 3) rfl ex29.symm (by decide) rfl (fun ls hl => ?_)
        have ex29 : x29.toInt = v2_3.toInt + 1 := by rw [ex29]; exact wk_add (y := 1) (show -2147483648 ≤ v2_3.toInt + 1 by omega) (show v2_3.toInt + 1 ≤ 2147483647 by omega)
        refine lv_goto (tgt := 2) hx hb dX12_isClosed_58 (by decide) ?_
        exact ih2 x29 H locs ls w18 (show 0 ≤ a1.toInt by omega) (show a1.toInt ≤ 9 by omega) (show 0 ≤ a2.toInt by omega) (show a2.toInt ≤ 359 by omega) (show 0 ≤ x29.toInt by omega) (show x29.toInt ≤ 8 by omega) (show (8 - x29.toInt).toNat < n2 by omega) hw hT hF  (lv_sub hl [1, 2, 3, 0] rfl)
      refine lv_iload_n hx hb dX12_isClosed_2 rfl (lv_at hl 3 rfl) ?_
      refine lv_aload_n hx hb dX12_isClosed_3 rfl (lv_at hl 0 rfl) ?_
      refine tk_getA hC hK hw hT hinX12 kM_at0 (by decide) rfl 26 (by decide) (List.mem_of_getElem? (i := 1) rfl) rfl rfl dX12_isClosed_4 ?_
      refine lv_iconst (v := 2) hx hb dX12_isClosed_7 (by decide) ?_
      refine tk_ialdR hC hK hw hT kM_at12 rfl (by decide) (by decide) dX12_isClosed_8 (fun x30 c31 Ex30 => ?_)
      have bx30 := tk_rgI rfl 2 1 1 0 8 (by decide +kernel) ⟨0, by decide, by decide⟩ Ex30
      have c31 : gi w11 12 2 = x30 := c31
      refine lv_icmp_ge (tgt := 61) hx hb dX12_isClosed_9 (by decide) (fun c32 => ?_) (fun c32 => ?_)
      · have c32 : x30.toInt ≤ v2_3.toInt := wk_le.mp c32
        exact J61 v2_3 x30 H locs ls w11 (show 0 ≤ a1.toInt by omega) (show a1.toInt ≤ 9 by omega) (show 0 ≤ a2.toInt by omega) (show a2.toInt ≤ 359 by omega) (show 0 ≤ v2_3.toInt by omega) (show v2_3.toInt ≤ 8 by omega) (show 0 ≤ x30.toInt by omega) (show x30.toInt ≤ 8 by omega)  hw hT hF c31 (lv_sub hl [0, 1, 2, 3] rfl)
      · have c32 : v2_3.toInt < x30.toInt := wk_leF c32
        refine lv_aload_n hx hb dX12_isClosed_12 rfl (lv_at hl 0 rfl) ?_
        refine tk_geti hC hK hw hT hinX12 kM_at0 (by decide) rfl 27 (by decide) (List.mem_of_getElem? (i := 2) rfl) rfl rfl dX12_isClosed_13 (fun x33 c34 rx33 tx33 => ?_)
        refine lv_if_eq (tgt := 61) hx hb dX12_isClosed_16 (by decide) (fun c35 => ?_) (fun c35 => ?_)
        · have c35 : x33.toInt = (0 : Int) := wk_eq.mp c35
          exact J61 v2_3 x30 H locs ls w11 (show 0 ≤ a1.toInt by omega) (show a1.toInt ≤ 9 by omega) (show 0 ≤ a2.toInt by omega) (show a2.toInt ≤ 359 by omega) (show 0 ≤ v2_3.toInt by omega) (show v2_3.toInt ≤ 8 by omega) (show 0 ≤ x30.toInt by omega) (show x30.toInt ≤ 8 by omega)  hw hT hF c31 (lv_sub hl [0, 1, 2, 3] rfl)
        · have c35 : ¬ x33.toInt = (0 : Int) := wk_eqF c35
          refine lv_aload_n hx hb dX12_isClosed_19 rfl (lv_at hl 0 rfl) ?_
          refine tk_getA hC hK hw hT hinX12 kM_at0 (by decide) rfl 26 (by decide) (List.mem_of_getElem? (i := 1) rfl) rfl rfl dX12_isClosed_20 ?_
          refine lv_sipush (v := 140) hx hb dX12_isClosed_23 (by decide) ?_
          refine lv_iconst (v := 2) hx hb dX12_isClosed_26 (by decide) ?_
          refine lv_iload_n hx hb dX12_isClosed_27 rfl (lv_at hl 3 rfl) ?_
          refine lv_imul hx hb dX12_isClosed_28 ?_
          refine lv_topi (fun x36 ex36 => ?_)
          have ex36 : x36.toInt = (2 : Int) * v2_3.toInt := by rw [ex36]; exact wk_mul (show (-2147483648) ≤ (2 : Int) * v2_3.toInt by omega) (show (2 : Int) * v2_3.toInt ≤ 2147483647 by omega)
          refine lv_iadd hx hb dX12_isClosed_29 ?_
          refine lv_topi (fun x37 ex37 => ?_)
          have ex37 : x37.toInt = (140 : Int) + x36.toInt := by rw [ex37]; exact wk_add (show (-2147483648) ≤ (140 : Int) + x36.toInt by omega) (show (140 : Int) + x36.toInt ≤ 2147483647 by omega)
          refine tk_ialdR hC hK hw hT kM_at12 rfl (show 0 ≤ x37.toInt by omega) (show x37.toInt < 296 by omega) dX12_isClosed_30 (fun x38 c39 Ex38 => ?_)
          refine lv_iload_n hx hb dX12_isClosed_31 rfl (lv_at hl 1 rfl) ?_
          refine lv_icmp_ne (tgt := 55) hx hb dX12_isClosed_32 (by decide) (fun c40 => ?_) (fun c40 => ?_)
          · have c40 : ¬ x38.toInt = a1.toInt := wk_eqF c40
            obtain rfl : x33 = 1 := wk_eq.mpr (show x33.toInt = 1 by omega)
            exact J55 x30 H locs ls w11 (show 0 ≤ a1.toInt by omega) (show a1.toInt ≤ 9 by omega) (show 0 ≤ a2.toInt by omega) (show a2.toInt ≤ 359 by omega) (show 0 ≤ v2_3.toInt by omega) (show v2_3.toInt ≤ 7 by omega) (show 1 ≤ x30.toInt by omega) (show x30.toInt ≤ 8 by omega)  hw hT hF c34 c31 (lv_sub hl [0, 1, 2, 3] rfl)
          · have c40 : x38.toInt = a1.toInt := wk_eq.mp c40
            refine lv_aload_n hx hb dX12_isClosed_35 rfl (lv_at hl 0 rfl) ?_
            refine tk_getA hC hK hw hT hinX12 kM_at0 (by decide) rfl 26 (by decide) (List.mem_of_getElem? (i := 1) rfl) rfl rfl dX12_isClosed_36 ?_
            refine lv_sipush (v := 140) hx hb dX12_isClosed_39 (by decide) ?_
            refine lv_iconst (v := 2) hx hb dX12_isClosed_42 (by decide) ?_
            refine lv_iload_n hx hb dX12_isClosed_43 rfl (lv_at hl 3 rfl) ?_
            refine lv_imul hx hb dX12_isClosed_44 ?_
            refine lv_topi (fun x41 ex41 => ?_)
            have ex41 : x41.toInt = (2 : Int) * v2_3.toInt := by rw [ex41]; exact wk_mul (show (-2147483648) ≤ (2 : Int) * v2_3.toInt by omega) (show (2 : Int) * v2_3.toInt ≤ 2147483647 by omega)
            refine lv_iadd hx hb dX12_isClosed_45 ?_
            refine lv_topi (fun x42 ex42 => ?_)
            have ex42 : x42.toInt = (140 : Int) + x41.toInt := by rw [ex42]; exact wk_add (show (-2147483648) ≤ (140 : Int) + x41.toInt by omega) (show (140 : Int) + x41.toInt ≤ 2147483647 by omega)
            refine lv_iconst (v := 1) hx hb dX12_isClosed_46 (by decide) ?_
            refine lv_iadd hx hb dX12_isClosed_47 ?_
            refine lv_topi (fun x43 ex43 => ?_)
            have ex43 : x43.toInt = x42.toInt + (1 : Int) := by rw [ex43]; exact wk_add (show (-2147483648) ≤ x42.toInt + (1 : Int) by omega) (show x42.toInt + (1 : Int) ≤ 2147483647 by omega)
            refine tk_ialdR hC hK hw hT kM_at12 rfl (show 0 ≤ x43.toInt by omega) (show x43.toInt < 296 by omega) dX12_isClosed_48 (fun x44 c45 Ex44 => ?_)
            refine lv_iload_n hx hb dX12_isClosed_49 rfl (lv_at hl 2 rfl) ?_
            refine lv_icmp_ne (tgt := 55) hx hb dX12_isClosed_50 (by decide) (fun c46 => ?_) (fun c46 => ?_)
            · have c46 : ¬ x44.toInt = a2.toInt := wk_eqF c46
              obtain rfl : x33 = 1 := wk_eq.mpr (show x33.toInt = 1 by omega)
              exact J55 x30 H locs ls w11 (show 0 ≤ a1.toInt by omega) (show a1.toInt ≤ 9 by omega) (show 0 ≤ a2.toInt by omega) (show a2.toInt ≤ 359 by omega) (show 0 ≤ v2_3.toInt by omega) (show v2_3.toInt ≤ 7 by omega) (show 1 ≤ x30.toInt by omega) (show x30.toInt ≤ 8 by omega)  hw hT hF c34 c31 (lv_sub hl [0, 1, 2, 3] rfl)
            · have c46 : x44.toInt = a2.toInt := wk_eq.mp c46
              refine lv_iconst (v := 1) hx hb dX12_isClosed_53 (by decide) ?_
              exact tk_zret hC hr rfl hlocks hK ⟨hT, hF, (Or.inr ⟨rfl, ⟨x33, c34, (show 1 ≤ x33.toInt by omega), (show x33.toInt ≤ 1 by omega)⟩, ⟨x30, c31, (show 1 ≤ x30.toInt by omega), (show x30.toInt ≤ 8 by omega)⟩⟩)⟩ hw dX12_isClosed_54
  refine lv_iconst (v := 0) hx hb dX12_isClosed_0 (by decide) ?_
  refine lv_istore_n (lv' := [(3, .int 0), (0, .ref (ad 0)), (1, .int a1), (2, .int a2)]) hx hb dX12_isClosed_1 rfl hl (by decide) rfl (fun ls hl => ?_)
  exact L2 ((8 - (0 : Int)).toNat + 1) 0 s.heap locs ls w0 (show 0 ≤ a1.toInt by omega) (show a1.toInt ≤ 9 by omega) (show 0 ≤ a2.toInt by omega) (show a2.toInt ≤ 359 by omega) (by decide) (by decide) (Nat.lt_succ_self _) hw hT hF  (lv_sub hl [1, 2, 3, 0] rfl)
abbrev P_X12_isDayFor_1 (ad : Nat → Nat) (cy : Nat → ClassId) (B : Int) (qr : Nat) (s1 : Int) (a1 : Int32) (a2 : Int32) (a3 : Int32) (w0 : va_W) : Int32 → va_W → Prop := fun r u => TW ksM ad cy B qr 12 u ∧ FE ksM ([] : List (Nat × Nat × Nat)) w0 u ∧ ((r = 0) ∨ (r = 1))
set_option maxHeartbeats 4000000 in
set_option maxRecDepth 100000 in
theorem k_X12_isDayFor_1 (l : Launch) (adK adV : Nat → Nat) (dC : Nat → ClassId) (dI : Nat → Nat → Nat) (cy : Nat → ClassId) (ad : Nat → Nat) (B : Int) (hB0 : 100000 ≤ B) (hB1 : B ≤ 1073741824) (qr : Nat) (s1 : Int)  (a1 : Int32) (ra1 : 0 ≤ a1.toInt) (ta1 : a1.toInt ≤ 11) (a2 : Int32) (ra2 : 0 ≤ a2.toInt) (ta2 : a2.toInt ≤ 9) (a3 : Int32) (ra3 : 0 ≤ a3.toInt) (ta3 : a3.toInt ≤ 4166) (w0 : va_W) (sz : Nat) (hT : TW ksM ad cy B qr 12 w0)  : Met l yX12_isDayFor wsX12_isDayFor ({ frames := 3, cells := 0, slots := 0, locals := 57 }) (va_Pc [.ref (ad 0), .int a1, .int a2, .int a3] (wpreS adK adV dC dI cy sz w0)) (va_Qi (P_X12_isDayFor_1 ad cy B qr s1 a1 a2 a3 w0) (fun u : va_W => wpost dC dI cy (va_A w0 sz) u) (va_A w0 sz)) 0 0 (va_A w0 sz) := by
  refine Met.ofW (cc := cX12_isDayFor) (maxL := 4) (ret := (some .boolean)) (by decide) rfl ?_
  intro p e s m args below meth c s₁ Bk hml hv
  obtain ⟨rfl, ⟨hsz, hP, hK, hD0⟩, hE, hSR⟩ := hv
  have hx := Bk.exec
  have hb := Bk.bytes
  have hr := Bk.returns
  have hlocks := Bk.notSynchronized
  have hC : CallFix p m c cX12_isDayFor 4 s _ wsX12_isDayFor RX12 := ⟨hx, hb, hml, findClass_of_methodNamed Bk.named, atoms_spec (ws := wsX12_isDayFor) Bk.pre⟩
  subst hsz
  have hD := hD0.self (sz := s.heap.size)
  generalize hAe : va_A w0 s.heap.size = A at hD hE ⊢
  have hA : ∀ q : Nat, s.heap.size ≤ q → A q := fun q h => by rw [← hAe]; exact Or.inr h
  have hw : Wd dC dI A s.heap s.heap [] w0 := ⟨hP, hD, va_S.rf⟩
  have hF : FE ksM ([] : List (Nat × Nat × Nat)) w0 w0 := FE.rf
  have hl := lv_entry ([.ref (ad 0), .int a1, .int a2, .int a3]) (n := 4) (Nat.le_of_ble_eq_true rfl)
  rw [lg_entry_eq]
  generalize (lg_sl ([.ref (ad 0), .int a1, .int a2, .int a3]) ++ List.replicate (4 - (lg_sl ([.ref (ad 0), .int a1, .int a2, .int a3])).length) Slot.unset).toArray = ls at hl ⊢
  have hl : lv_has ls 4 [(0, .ref (ad 0)), (1, .int a1), (2, .int a2), (3, .int a3)] := hl
  generalize hloc : ([] : List Loc) = locs at hw ⊢
  have J62 : ∀ (f62_12_2 : Int32) (H : Heap) (locs : List Loc) (ls : Array Slot) (w1 : va_W), 0 ≤ a1.toInt → a1.toInt ≤ 11 → 0 ≤ a2.toInt → a2.toInt ≤ 9 → 0 ≤ a3.toInt → a3.toInt ≤ 4166 → 1 ≤ f62_12_2.toInt → f62_12_2.toInt ≤ 8 → Wd dC dI A s.heap H locs w1 → TW ksM ad cy B qr 12 w1 → FE ksM ([] : List (Nat × Nat × Nat)) w0 w1 → gi w1 0 27 = 1 → gi w1 12 2 = f62_12_2 → lv_has ls 4 [(0, .ref (ad 0)), (1, .int a1), (2, .int a2), (3, .int a3)] → W p l e ({ frames := 3, cells := 0, slots := 0, locals := 57 }) s m (List.toArray [.ref (ad 0), .int a1, .int a2, .int a3]) below meth c H locs 0 0 (MQ below (va_Qi (P_X12_isDayFor_1 ad cy B qr s1 a1 a2 a3 w0) (fun u : va_W => wpost dC dI cy A u) A) (List.toArray [.ref (ad 0), .int a1, .int a2, .int a3]) s 0 0 A) (F0 m 62 ls []) := by
    intro f62_12_2 H locs ls w1 r2 t3 r4 t5 r6 t7 r9 t10 hw hT hF c8 c11 hl
    refine lv_iconst (v := 0) hx hb dX12_isDayFor_62 (by decide) ?_
    exact tk_zret hC hr rfl hlocks hK ⟨hT, hF, (Or.inl rfl)⟩ hw dX12_isDayFor_63
  refine lv_aload_n hx hb dX12_isDayFor_0 rfl (lv_at hl 0 rfl) ?_
  refine lv_aload_n hx hb dX12_isDayFor_1 rfl (lv_at hl 0 rfl) ?_
  refine lv_iload_n hx hb dX12_isDayFor_2 rfl (lv_at hl 1 rfl) ?_
  refine lv_iconst (v := 3) hx hb dX12_isDayFor_3 (by decide) ?_
  refine lv_iload_n hx hb dX12_isDayFor_4 rfl (lv_at hl 3 rfl) ?_
  refine lv_bipush (v := 7) hx hb dX12_isDayFor_5 (by decide) ?_
  refine lv_irem hx hb dX12_isDayFor_7 (by decide) ?_
  refine lv_topi (fun x12 ex12 => ?_)
  have ex12 : x12.toInt = a3.toInt % (7 : Int) := by rw [ex12]; exact wk_rem (show 0 ≤ a3.toInt by omega) (show 0 < (7 : Int) by decide)
  refine lv_iadd hx hb dX12_isDayFor_8 ?_
  refine lv_topi (fun x13 ex13 => ?_)
  have ex13 : x13.toInt = (3 : Int) + x12.toInt := by rw [ex13]; exact wk_add (show (-2147483648) ≤ (3 : Int) + x12.toInt by omega) (show (3 : Int) + x12.toInt ≤ 2147483647 by omega)
  refine tk_Vi hC hK hw hT hA hE hSR kM_at0 (by decide) rfl (k_X12_streetOf_4 l adK adV dC dI cy ad B (by omega) (by omega) qr s1   a1 (show 0 ≤ a1.toInt by omega) (show a1.toInt ≤ 11 by omega) x13 (show 3 ≤ x13.toInt by omega) (show x13.toInt ≤ 9 by omega) w0 s.heap.size hT ) (cwV 2 hC.2.2.2.2 gX12_isDayFor_X12_streetOf rfl rfl rfl (by decide +kernel) ⟨Nat.le_of_ble_eq_true rfl, Nat.le_of_ble_eq_true rfl⟩) rfl hl.1 rfl (Nat.le_of_ble_eq_true rfl) dX12_isDayFor_9 (fun r14 w16 H locs hp15 hw => ?_)
  obtain ⟨hT, k17, hg20⟩ := hp15
  have hF := hF.tr k17 (by decide)
  obtain ⟨g18, g19⟩ := hg20
  refine lv_iload_n hx hb dX12_isDayFor_12 rfl (lv_at hl 1 rfl) ?_
  refine lv_iload_n hx hb dX12_isDayFor_13 rfl (lv_at hl 2 rfl) ?_
  refine tk_Vi hC hK hw hT hA hE hSR kM_at0 (by decide) rfl (k_X12_hasSign_1 l adK adV dC dI cy ad B (by omega) (by omega) qr s1   r14 (show 0 ≤ r14.toInt by omega) (show r14.toInt ≤ 9 by omega) a1 (show 0 ≤ a1.toInt by omega) (show a1.toInt ≤ 11 by omega) a2 (show 0 ≤ a2.toInt by omega) (show a2.toInt ≤ 9 by omega) w16 H.size hT ) (cwV 3 hC.2.2.2.2 gX12_isDayFor_X12_hasSign rfl rfl rfl (by decide +kernel) ⟨Nat.le_of_ble_eq_true rfl, Nat.le_of_ble_eq_true rfl⟩) rfl hl.1 rfl (Nat.le_of_ble_eq_true rfl) dX12_isDayFor_14 (fun r21 w23 H locs hp22 hw => ?_)
  obtain ⟨hT, k24, hg25⟩ := hp22
  have hF := hF.tr k24 (by decide)
  rcases hg25 with rfl | rfl
  · refine lv_if_ne (tgt := 22) hx hb dX12_isDayFor_17 (by decide) (fun c => absurd (by decide) c) (fun _ => ?_)
    refine lv_iconst (v := 0) hx hb dX12_isDayFor_20 (by decide) ?_
    exact tk_zret hC hr rfl hlocks hK ⟨hT, hF, (Or.inl rfl)⟩ hw dX12_isDayFor_21
  · refine lv_if_ne (tgt := 22) hx hb dX12_isDayFor_17 (by decide) (fun _ => ?_) (fun c => absurd c (by decide))
    refine lv_aload_n hx hb dX12_isDayFor_22 rfl (lv_at hl 0 rfl) ?_
    refine lv_aload_n hx hb dX12_isDayFor_23 rfl (lv_at hl 0 rfl) ?_
    refine lv_iload_n hx hb dX12_isDayFor_24 rfl (lv_at hl 1 rfl) ?_
    refine lv_iconst (v := 0) hx hb dX12_isDayFor_25 (by decide) ?_
    refine tk_Vi hC hK hw hT hA hE hSR kM_at0 (by decide) rfl (k_X12_streetOf_2 l adK adV dC dI cy ad B (by omega) (by omega) qr s1   a1 (show 0 ≤ a1.toInt by omega) (show a1.toInt ≤ 11 by omega) w23 H.size hT ) (cwV 2 hC.2.2.2.2 gX12_isDayFor_X12_streetOf rfl rfl rfl (by decide +kernel) ⟨Nat.le_of_ble_eq_true rfl, Nat.le_of_ble_eq_true rfl⟩) rfl hl.1 rfl (Nat.le_of_ble_eq_true rfl) dX12_isDayFor_26 (fun r26 w28 H locs hp27 hw => ?_)
    obtain ⟨hT, k29, hg32⟩ := hp27
    have hF := hF.tr k29 (by decide)
    obtain ⟨g30, g31⟩ := hg32
    refine lv_iload_n hx hb dX12_isDayFor_29 rfl (lv_at hl 3 rfl) ?_
    refine lv_sipush (v := 360) hx hb dX12_isDayFor_30 (by decide) ?_
    refine lv_irem hx hb dX12_isDayFor_33 (by decide) ?_
    refine lv_topi (fun x33 ex33 => ?_)
    have ex33 : x33.toInt = a3.toInt % (360 : Int) := by rw [ex33]; exact wk_rem (show 0 ≤ a3.toInt by omega) (show 0 < (360 : Int) by decide)
    refine tk_Vi hC hK hw hT hA hE hSR kM_at0 (by decide) rfl (k_X12_isClosed_1 l adK adV dC dI cy ad B (by omega) (by omega) qr s1   r26 (show 0 ≤ r26.toInt by omega) (show r26.toInt ≤ 9 by omega) x33 (show 0 ≤ x33.toInt by omega) (show x33.toInt ≤ 359 by omega) w28 H.size hT ) (cwV 2 hC.2.2.2.2 gX12_isDayFor_X12_isClosed rfl rfl rfl (by decide +kernel) ⟨Nat.le_of_ble_eq_true rfl, Nat.le_of_ble_eq_true rfl⟩) rfl hl.1 rfl (Nat.le_of_ble_eq_true rfl) dX12_isDayFor_34 (fun r34 w36 H locs hp35 hw => ?_)
    obtain ⟨hT, k37, hg42⟩ := hp35
    have hF := hF.tr k37 (by decide)
    rcases hg42 with rfl | ⟨rfl, ⟨x38, c39, rx38, tx38⟩, ⟨x40, c41, rx40, tx40⟩⟩
    · refine lv_if_ne (tgt := 62) hx hb dX12_isDayFor_37 (by decide) (fun c => absurd (by decide) c) (fun _ => ?_)
      refine lv_aload_n hx hb dX12_isDayFor_40 rfl (lv_at hl 0 rfl) ?_
      refine lv_aload_n hx hb dX12_isDayFor_41 rfl (lv_at hl 0 rfl) ?_
      refine lv_iload_n hx hb dX12_isDayFor_42 rfl (lv_at hl 1 rfl) ?_
      refine lv_iconst (v := 1) hx hb dX12_isDayFor_43 (by decide) ?_
      refine tk_Vi hC hK hw hT hA hE hSR kM_at0 (by decide) rfl (k_X12_streetOf_3 l adK adV dC dI cy ad B (by omega) (by omega) qr s1   a1 (show 0 ≤ a1.toInt by omega) (show a1.toInt ≤ 11 by omega) w36 H.size hT ) (cwV 2 hC.2.2.2.2 gX12_isDayFor_X12_streetOf rfl rfl rfl (by decide +kernel) ⟨Nat.le_of_ble_eq_true rfl, Nat.le_of_ble_eq_true rfl⟩) rfl hl.1 rfl (Nat.le_of_ble_eq_true rfl) dX12_isDayFor_44 (fun r43 w45 H locs hp44 hw => ?_)
      obtain ⟨hT, k46, hg49⟩ := hp44
      have hF := hF.tr k46 (by decide)
      obtain ⟨g47, g48⟩ := hg49
      refine lv_iload_n hx hb dX12_isDayFor_47 rfl (lv_at hl 3 rfl) ?_
      refine lv_sipush (v := 360) hx hb dX12_isDayFor_48 (by decide) ?_
      refine lv_irem hx hb dX12_isDayFor_51 (by decide) ?_
      refine lv_topi (fun x50 ex50 => ?_)
      have ex50 : x50.toInt = a3.toInt % (360 : Int) := by rw [ex50]; exact wk_rem (show 0 ≤ a3.toInt by omega) (show 0 < (360 : Int) by decide)
      refine tk_Vi hC hK hw hT hA hE hSR kM_at0 (by decide) rfl (k_X12_isClosed_1 l adK adV dC dI cy ad B (by omega) (by omega) qr s1   r43 (show 0 ≤ r43.toInt by omega) (show r43.toInt ≤ 9 by omega) x50 (show 0 ≤ x50.toInt by omega) (show x50.toInt ≤ 359 by omega) w45 H.size hT ) (cwV 2 hC.2.2.2.2 gX12_isDayFor_X12_isClosed rfl rfl rfl (by decide +kernel) ⟨Nat.le_of_ble_eq_true rfl, Nat.le_of_ble_eq_true rfl⟩) rfl hl.1 rfl (Nat.le_of_ble_eq_true rfl) dX12_isDayFor_52 (fun r51 w53 H locs hp52 hw => ?_)
      obtain ⟨hT, k54, hg59⟩ := hp52
      have hF := hF.tr k54 (by decide)
      rcases hg59 with rfl | ⟨rfl, ⟨x55, c56, rx55, tx55⟩, ⟨x57, c58, rx57, tx57⟩⟩
      · refine lv_if_ne (tgt := 62) hx hb dX12_isDayFor_55 (by decide) (fun c => absurd (by decide) c) (fun _ => ?_)
        refine lv_iconst (v := 1) hx hb dX12_isDayFor_58 (by decide) ?_
        refine lv_goto (tgt := 63) hx hb dX12_isDayFor_59 (by decide) ?_
        exact tk_zret hC hr rfl hlocks hK ⟨hT, hF, (Or.inr rfl)⟩ hw dX12_isDayFor_63
      · refine lv_if_ne (tgt := 62) hx hb dX12_isDayFor_55 (by decide) (fun _ => ?_) (fun c => absurd c (by decide))
        obtain rfl : x55 = 1 := wk_eq.mpr (show x55.toInt = 1 by omega)
        exact J62 x57 H locs ls w53 (show 0 ≤ a1.toInt by omega) (show a1.toInt ≤ 11 by omega) (show 0 ≤ a2.toInt by omega) (show a2.toInt ≤ 9 by omega) (show 0 ≤ a3.toInt by omega) (show a3.toInt ≤ 4166 by omega) (show 1 ≤ x57.toInt by omega) (show x57.toInt ≤ 8 by omega)  hw hT hF c56 c58 (lv_sub hl [0, 1, 2, 3] rfl)
    · refine lv_if_ne (tgt := 62) hx hb dX12_isDayFor_37 (by decide) (fun _ => ?_) (fun c => absurd c (by decide))
      obtain rfl : x38 = 1 := wk_eq.mpr (show x38.toInt = 1 by omega)
      exact J62 x40 H locs ls w36 (show 0 ≤ a1.toInt by omega) (show a1.toInt ≤ 11 by omega) (show 0 ≤ a2.toInt by omega) (show a2.toInt ≤ 9 by omega) (show 0 ≤ a3.toInt by omega) (show a3.toInt ≤ 4166 by omega) (show 1 ≤ x40.toInt by omega) (show x40.toInt ≤ 8 by omega)  hw hT hF c39 c41 (lv_sub hl [0, 1, 2, 3] rfl)
abbrev P_X12_isLifted_1 (ad : Nat → Nat) (cy : Nat → ClassId) (B : Int) (qr : Nat) (s1 : Int) (a1 : Int32) (a2 : Int32) (w0 : va_W) : Int32 → va_W → Prop := fun r u => TW ksM ad cy B qr 12 u ∧ FE ksM ([] : List (Nat × Nat × Nat)) w0 u ∧ ((r = 0) ∨ (r = 1 ∧ (∃ y : Int32, gi u 12 3 = y ∧ 1 ≤ y.toInt ∧ y.toInt ≤ 4)))
set_option maxHeartbeats 4000000 in
set_option maxRecDepth 100000 in
theorem k_X12_isLifted_1 (l : Launch) (adK adV : Nat → Nat) (dC : Nat → ClassId) (dI : Nat → Nat → Nat) (cy : Nat → ClassId) (ad : Nat → Nat) (B : Int) (hB0 : 100000 ≤ B) (hB1 : B ≤ 1073741824) (qr : Nat) (s1 : Int)  (a1 : Int32) (ra1 : 0 ≤ a1.toInt) (ta1 : a1.toInt ≤ 11) (a2 : Int32) (ra2 : 0 ≤ a2.toInt) (ta2 : a2.toInt ≤ 99999) (w0 : va_W) (sz : Nat) (hT : TW ksM ad cy B qr 12 w0)  : Met l yX12_isLifted wsX12_isLifted ({ frames := 1, cells := 0, slots := 0, locals := 12 }) (va_Pc [.ref (ad 0), .int a1, .int a2] (wpreS adK adV dC dI cy sz w0)) (va_Qi (P_X12_isLifted_1 ad cy B qr s1 a1 a2 w0) (fun u : va_W => wpost dC dI cy (va_A w0 sz) u) (va_A w0 sz)) 0 0 (va_A w0 sz) := by
  refine Met.ofW (cc := cX12_isLifted) (maxL := 5) (ret := (some .boolean)) (by decide) rfl ?_
  intro p e s m args below meth c s₁ Bk hml hv
  obtain ⟨rfl, ⟨hsz, hP, hK, hD0⟩, hE, hSR⟩ := hv
  have hx := Bk.exec
  have hb := Bk.bytes
  have hr := Bk.returns
  have hlocks := Bk.notSynchronized
  have hC : CallFix p m c cX12_isLifted 5 s _ wsX12_isLifted RX12 := ⟨hx, hb, hml, findClass_of_methodNamed Bk.named, atoms_spec (ws := wsX12_isLifted) Bk.pre⟩
  subst hsz
  have hD := hD0.self (sz := s.heap.size)
  generalize hAe : va_A w0 s.heap.size = A at hD hE ⊢
  have hA : ∀ q : Nat, s.heap.size ≤ q → A q := fun q h => by rw [← hAe]; exact Or.inr h
  have hw : Wd dC dI A s.heap s.heap [] w0 := ⟨hP, hD, va_S.rf⟩
  have hF : FE ksM ([] : List (Nat × Nat × Nat)) w0 w0 := FE.rf
  have hl := lv_entry ([.ref (ad 0), .int a1, .int a2]) (n := 5) (Nat.le_of_ble_eq_true rfl)
  rw [lg_entry_eq]
  generalize (lg_sl ([.ref (ad 0), .int a1, .int a2]) ++ List.replicate (5 - (lg_sl ([.ref (ad 0), .int a1, .int a2])).length) Slot.unset).toArray = ls at hl ⊢
  have hl : lv_has ls 5 [(0, .ref (ad 0)), (1, .int a1), (2, .int a2)] := hl
  generalize hloc : ([] : List Loc) = locs at hw ⊢
  have hinX12 : ∀ w ∈ u_ws RX12 TX12 42, w ∈ wsX12_isLifted := fun _ h => List.mem_cons_of_mem _ (List.mem_append_right _ (h))
  have L2 : ∀ (n2 : Nat) (v2_3 : Int32) (H : Heap) (locs : List Loc) (ls : Array Slot) (w1 : va_W), 0 ≤ a1.toInt → a1.toInt ≤ 11 → 0 ≤ a2.toInt → a2.toInt ≤ 99999 → 0 ≤ v2_3.toInt → v2_3.toInt ≤ 4 → (4 - v2_3.toInt).toNat < n2 → Wd dC dI A s.heap H locs w1 → TW ksM ad cy B qr 12 w1 → FE ksM ([] : List (Nat × Nat × Nat)) w0 w1 → lv_has ls 5 [(0, .ref (ad 0)), (1, .int a1), (2, .int a2), (3, .int v2_3)] → W p l e ({ frames := 1, cells := 0, slots := 0, locals := 12 }) s m (List.toArray [.ref (ad 0), .int a1, .int a2]) below meth c H locs 0 0 (MQ below (va_Qi (P_X12_isLifted_1 ad cy B qr s1 a1 a2 w0) (fun u : va_W => wpost dC dI cy A u) A) (List.toArray [.ref (ad 0), .int a1, .int a2]) s 0 0 A) (F0 m 2 ls []) := by
    intro n2
    induction n2 with
    | zero => intro v2_3 H locs ls w1 r2 t3 r4 t5 r6 t7 hm2 hw hT hF hl; omega
    | succ n2 ih2 =>
      intro v2_3 H locs ls w1 r2 t3 r4 t5 r6 t7 hm2 hw hT hF hl
      have J66 : ∀ (v66_4 : Int32) (f66_12_3 : Int32) (H : Heap) (locs : List Loc) (ls : Array Slot) (w8 : va_W), 0 ≤ a1.toInt → a1.toInt ≤ 11 → 0 ≤ a2.toInt → a2.toInt ≤ 99999 → 0 ≤ v2_3.toInt → v2_3.toInt ≤ 3 → 156 ≤ v66_4.toInt → v66_4.toInt ≤ 165 → v66_4.toInt = 3 * v2_3.toInt + 156 → 1 ≤ f66_12_3.toInt → f66_12_3.toInt ≤ 4 → Wd dC dI A s.heap H locs w8 → TW ksM ad cy B qr 12 w8 → FE ksM ([] : List (Nat × Nat × Nat)) w0 w8 → gi w8 12 3 = f66_12_3 → lv_has ls 5 [(0, .ref (ad 0)), (1, .int a1), (2, .int a2), (3, .int v2_3), (4, .int v66_4)] → W p l e ({ frames := 1, cells := 0, slots := 0, locals := 12 }) s m (List.toArray [.ref (ad 0), .int a1, .int a2]) below meth c H locs 0 0 (MQ below (va_Qi (P_X12_isLifted_1 ad cy B qr s1 a1 a2 w0) (fun u : va_W => wpost dC dI cy A u) A) (List.toArray [.ref (ad 0), .int a1, .int a2]) s 0 0 A) (F0 m 66 ls []) := by
        intro v66_4 f66_12_3 H locs ls w8 r9 t10 r11 t12 r13 t14 r15 t16 l17 r18 t19 hw hT hF c20 hl
        obtain ⟨x21, ex21⟩ : ∃ y : Int32, y = v2_3 + Int32.ofInt 1 := ⟨_, rfl⟩
        refine lv_iinc (v := x21) (lv' := [(3, .int x21), (0, .ref (ad 0)), (1, .int a1), (2, .int a2), (4, .int v66_4)]) hx hb dX12_isLifted_66 hl (k := 3) rfl ex21.symm (by decide) rfl (fun ls hl => ?_)
        have ex21 : x21.toInt = v2_3.toInt + 1 := by rw [ex21]; exact wk_add (y := 1) (show -2147483648 ≤ v2_3.toInt + 1 by omega) (show v2_3.toInt + 1 ≤ 2147483647 by omega)
        refine lv_goto (tgt := 2) hx hb dX12_isLifted_69 (by decide) ?_
        exact ih2 x21 H locs ls w8 (show 0 ≤ a1.toInt by omega) (show a1.toInt ≤ 11 by omega) (show 0 ≤ a2.toInt by omega) (show a2.toInt ≤ 99999 by omega) (show 0 ≤ x21.toInt by omega) (show x21.toInt ≤ 4 by omega) (show (4 - x21.toInt).toNat < n2 by omega) hw hT hF  (lv_sub hl [1, 2, 3, 0] rfl)
      refine lv_iload_n hx hb dX12_isLifted_2 rfl (lv_at hl 3 rfl) ?_
      refine lv_aload_n hx hb dX12_isLifted_3 rfl (lv_at hl 0 rfl) ?_
      refine tk_getA hC hK hw hT hinX12 kM_at0 (by decide) rfl 26 (by decide) (List.mem_of_getElem? (i := 1) rfl) rfl rfl dX12_isLifted_4 ?_
      refine lv_iconst (v := 3) hx hb dX12_isLifted_7 (by decide) ?_
      refine tk_ialdR hC hK hw hT kM_at12 rfl (by decide) (by decide) dX12_isLifted_8 (fun x22 c23 Ex22 => ?_)
      have bx22 := tk_rgI rfl 3 1 1 0 4 (by decide +kernel) ⟨0, by decide, by decide⟩ Ex22
      have c23 : gi w1 12 3 = x22 := c23
      refine lv_icmp_ge (tgt := 72) hx hb dX12_isLifted_9 (by decide) (fun c24 => ?_) (fun c24 => ?_)
      · have c24 : x22.toInt ≤ v2_3.toInt := wk_le.mp c24
        refine lv_iconst (v := 0) hx hb dX12_isLifted_72 (by decide) ?_
        exact tk_zret hC hr rfl hlocks hK ⟨hT, hF, (Or.inl rfl)⟩ hw dX12_isLifted_73
      · have c24 : v2_3.toInt < x22.toInt := wk_leF c24
        refine lv_sipush (v := 156) hx hb dX12_isLifted_12 (by decide) ?_
        refine lv_iconst (v := 3) hx hb dX12_isLifted_15 (by decide) ?_
        refine lv_iload_n hx hb dX12_isLifted_16 rfl (lv_at hl 3 rfl) ?_
        refine lv_imul hx hb dX12_isLifted_17 ?_
        refine lv_topi (fun x25 ex25 => ?_)
        have ex25 : x25.toInt = (3 : Int) * v2_3.toInt := by rw [ex25]; exact wk_mul (show (-2147483648) ≤ (3 : Int) * v2_3.toInt by omega) (show (3 : Int) * v2_3.toInt ≤ 2147483647 by omega)
        refine lv_iadd hx hb dX12_isLifted_18 ?_
        refine lv_topi (fun x26 ex26 => ?_)
        have ex26 : x26.toInt = (156 : Int) + x25.toInt := by rw [ex26]; exact wk_add (show (-2147483648) ≤ (156 : Int) + x25.toInt by omega) (show (156 : Int) + x25.toInt ≤ 2147483647 by omega)
        refine lv_istore (lv' := [(4, .int x26), (0, .ref (ad 0)), (1, .int a1), (2, .int a2), (3, .int v2_3)]) hx hb dX12_isLifted_19 hl (by decide) rfl (fun ls hl => ?_)
        refine lv_aload_n hx hb dX12_isLifted_21 rfl (lv_at hl 1 rfl) ?_
        refine tk_getA hC hK hw hT hinX12 kM_at0 (by decide) rfl 26 (by decide) (List.mem_of_getElem? (i := 1) rfl) rfl rfl dX12_isLifted_22 ?_
        refine lv_iload hx hb dX12_isLifted_25 (lv_at hl 0 rfl) ?_
        refine tk_ialdR hC hK hw hT kM_at12 rfl (show 0 ≤ x26.toInt by omega) (show x26.toInt < 296 by omega) dX12_isLifted_27 (fun x27 c28 Ex27 => ?_)
        refine lv_iload_n hx hb dX12_isLifted_28 rfl (lv_at hl 2 rfl) ?_
        refine lv_icmp_ne (tgt := 66) hx hb dX12_isLifted_29 (by decide) (fun c29 => ?_) (fun c29 => ?_)
        · have c29 : ¬ x27.toInt = a1.toInt := wk_eqF c29
          exact J66 x26 x22 H locs ls w1 (show 0 ≤ a1.toInt by omega) (show a1.toInt ≤ 11 by omega) (show 0 ≤ a2.toInt by omega) (show a2.toInt ≤ 99999 by omega) (show 0 ≤ v2_3.toInt by omega) (show v2_3.toInt ≤ 3 by omega) (show 156 ≤ x26.toInt by omega) (show x26.toInt ≤ 165 by omega) (show x26.toInt = 3 * v2_3.toInt + 156 by omega) (show 1 ≤ x22.toInt by omega) (show x22.toInt ≤ 4 by omega)  hw hT hF c23 (lv_sub hl [1, 2, 3, 4, 0] rfl)
        · have c29 : x27.toInt = a1.toInt := wk_eq.mp c29
          refine lv_iload_n hx hb dX12_isLifted_32 rfl (lv_at hl 3 rfl) ?_
          refine lv_bipush (v := 24) hx hb dX12_isLifted_33 (by decide) ?_
          refine lv_irem hx hb dX12_isLifted_35 (by decide) ?_
          refine lv_topi (fun x30 ex30 => ?_)
          have ex30 : x30.toInt = a2.toInt % (24 : Int) := by rw [ex30]; exact wk_rem (show 0 ≤ a2.toInt by omega) (show 0 < (24 : Int) by decide)
          refine lv_aload_n hx hb dX12_isLifted_36 rfl (lv_at hl 1 rfl) ?_
          refine tk_getA hC hK hw hT hinX12 kM_at0 (by decide) rfl 26 (by decide) (List.mem_of_getElem? (i := 1) rfl) rfl rfl dX12_isLifted_37 ?_
          refine lv_iload hx hb dX12_isLifted_40 (lv_at hl 0 rfl) ?_
          refine lv_iconst (v := 1) hx hb dX12_isLifted_42 (by decide) ?_
          refine lv_iadd hx hb dX12_isLifted_43 ?_
          refine lv_topi (fun x31 ex31 => ?_)
          have ex31 : x31.toInt = x26.toInt + (1 : Int) := by rw [ex31]; exact wk_add (show (-2147483648) ≤ x26.toInt + (1 : Int) by omega) (show x26.toInt + (1 : Int) ≤ 2147483647 by omega)
          refine tk_ialdR hC hK hw hT kM_at12 rfl (show 0 ≤ x31.toInt by omega) (show x31.toInt < 296 by omega) dX12_isLifted_44 (fun x32 c33 Ex32 => ?_)
          refine lv_icmp_lt (tgt := 66) hx hb dX12_isLifted_45 (by decide) (fun c34 => ?_) (fun c34 => ?_)
          · have c34 : x30.toInt < x32.toInt := wk_lt.mp c34
            exact J66 x26 x22 H locs ls w1 (show 0 ≤ a1.toInt by omega) (show a1.toInt ≤ 11 by omega) (show 0 ≤ a2.toInt by omega) (show a2.toInt ≤ 99999 by omega) (show 0 ≤ v2_3.toInt by omega) (show v2_3.toInt ≤ 3 by omega) (show 156 ≤ x26.toInt by omega) (show x26.toInt ≤ 165 by omega) (show x26.toInt = 3 * v2_3.toInt + 156 by omega) (show 1 ≤ x22.toInt by omega) (show x22.toInt ≤ 4 by omega)  hw hT hF c23 (lv_sub hl [1, 2, 3, 4, 0] rfl)
          · have c34 : x32.toInt ≤ x30.toInt := wk_ltF c34
            refine lv_iload_n hx hb dX12_isLifted_48 rfl (lv_at hl 3 rfl) ?_
            refine lv_bipush (v := 24) hx hb dX12_isLifted_49 (by decide) ?_
            refine lv_irem hx hb dX12_isLifted_51 (by decide) ?_
            refine lv_topi (fun x35 ex35 => ?_)
            have ex35 : x35.toInt = a2.toInt % (24 : Int) := by rw [ex35]; exact wk_rem (show 0 ≤ a2.toInt by omega) (show 0 < (24 : Int) by decide)
            refine lv_aload_n hx hb dX12_isLifted_52 rfl (lv_at hl 1 rfl) ?_
            refine tk_getA hC hK hw hT hinX12 kM_at0 (by decide) rfl 26 (by decide) (List.mem_of_getElem? (i := 1) rfl) rfl rfl dX12_isLifted_53 ?_
            refine lv_iload hx hb dX12_isLifted_56 (lv_at hl 0 rfl) ?_
            refine lv_iconst (v := 2) hx hb dX12_isLifted_58 (by decide) ?_
            refine lv_iadd hx hb dX12_isLifted_59 ?_
            refine lv_topi (fun x36 ex36 => ?_)
            have ex36 : x36.toInt = x26.toInt + (2 : Int) := by rw [ex36]; exact wk_add (show (-2147483648) ≤ x26.toInt + (2 : Int) by omega) (show x26.toInt + (2 : Int) ≤ 2147483647 by omega)
            refine tk_ialdR hC hK hw hT kM_at12 rfl (show 0 ≤ x36.toInt by omega) (show x36.toInt < 296 by omega) dX12_isLifted_60 (fun x37 c38 Ex37 => ?_)
            refine lv_icmp_ge (tgt := 66) hx hb dX12_isLifted_61 (by decide) (fun c39 => ?_) (fun c39 => ?_)
            · have c39 : x37.toInt ≤ x35.toInt := wk_le.mp c39
              exact J66 x26 x22 H locs ls w1 (show 0 ≤ a1.toInt by omega) (show a1.toInt ≤ 11 by omega) (show 0 ≤ a2.toInt by omega) (show a2.toInt ≤ 99999 by omega) (show 0 ≤ v2_3.toInt by omega) (show v2_3.toInt ≤ 3 by omega) (show 156 ≤ x26.toInt by omega) (show x26.toInt ≤ 165 by omega) (show x26.toInt = 3 * v2_3.toInt + 156 by omega) (show 1 ≤ x22.toInt by omega) (show x22.toInt ≤ 4 by omega)  hw hT hF c23 (lv_sub hl [1, 2, 3, 4, 0] rfl)
            · have c39 : x35.toInt < x37.toInt := wk_leF c39
              refine lv_iconst (v := 1) hx hb dX12_isLifted_64 (by decide) ?_
              exact tk_zret hC hr rfl hlocks hK ⟨hT, hF, (Or.inr ⟨rfl, ⟨x22, c23, (show 1 ≤ x22.toInt by omega), (show x22.toInt ≤ 4 by omega)⟩⟩)⟩ hw dX12_isLifted_65
  refine lv_iconst (v := 0) hx hb dX12_isLifted_0 (by decide) ?_
  refine lv_istore_n (lv' := [(3, .int 0), (0, .ref (ad 0)), (1, .int a1), (2, .int a2)]) hx hb dX12_isLifted_1 rfl hl (by decide) rfl (fun ls hl => ?_)
  exact L2 ((4 - (0 : Int)).toNat + 1) 0 s.heap locs ls w0 (show 0 ≤ a1.toInt by omega) (show a1.toInt ≤ 11 by omega) (show 0 ≤ a2.toInt by omega) (show a2.toInt ≤ 99999 by omega) (by decide) (by decide) (Nat.lt_succ_self _) hw hT hF  (lv_sub hl [1, 2, 3, 0] rfl)
abbrev P_X12_isOpen_1 (ad : Nat → Nat) (cy : Nat → ClassId) (B : Int) (qr : Nat) (s1 : Int) (a1 : Int32) (a2 : Int32) (a3 : Int32) (w0 : va_W) : Int32 → va_W → Prop := fun r u => TW ksM ad cy B qr 12 u ∧ FE ksM ([] : List (Nat × Nat × Nat)) w0 u ∧ ((r = 0) ∨ (r = 1))
set_option maxHeartbeats 4000000 in
set_option maxRecDepth 100000 in
theorem k_X12_isOpen_1 (l : Launch) (adK adV : Nat → Nat) (dC : Nat → ClassId) (dI : Nat → Nat → Nat) (cy : Nat → ClassId) (ad : Nat → Nat) (B : Int) (hB0 : 100000 ≤ B) (hB1 : B ≤ 1073741824) (qr : Nat) (s1 : Int)  (a1 : Int32) (ra1 : 0 ≤ a1.toInt) (ta1 : a1.toInt ≤ 11) (a2 : Int32) (ra2 : 0 ≤ a2.toInt) (ta2 : a2.toInt ≤ 9) (a3 : Int32) (ra3 : 0 ≤ a3.toInt) (ta3 : a3.toInt ≤ 99999) (w0 : va_W) (sz : Nat) (hT : TW ksM ad cy B qr 12 w0)  : Met l yX12_isOpen wsX12_isOpen ({ frames := 4, cells := 0, slots := 0, locals := 80 }) (va_Pc [.ref (ad 0), .int a1, .int a2, .int a3] (wpreS adK adV dC dI cy sz w0)) (va_Qi (P_X12_isOpen_1 ad cy B qr s1 a1 a2 a3 w0) (fun u : va_W => wpost dC dI cy (va_A w0 sz) u) (va_A w0 sz)) 0 0 (va_A w0 sz) := by
  refine Met.ofW (cc := cX12_isOpen) (maxL := 4) (ret := (some .boolean)) (by decide) rfl ?_
  intro p e s m args below meth c s₁ Bk hml hv
  obtain ⟨rfl, ⟨hsz, hP, hK, hD0⟩, hE, hSR⟩ := hv
  have hx := Bk.exec
  have hb := Bk.bytes
  have hr := Bk.returns
  have hlocks := Bk.notSynchronized
  have hC : CallFix p m c cX12_isOpen 4 s _ wsX12_isOpen RX12 := ⟨hx, hb, hml, findClass_of_methodNamed Bk.named, atoms_spec (ws := wsX12_isOpen) Bk.pre⟩
  subst hsz
  have hD := hD0.self (sz := s.heap.size)
  generalize hAe : va_A w0 s.heap.size = A at hD hE ⊢
  have hA : ∀ q : Nat, s.heap.size ≤ q → A q := fun q h => by rw [← hAe]; exact Or.inr h
  have hw : Wd dC dI A s.heap s.heap [] w0 := ⟨hP, hD, va_S.rf⟩
  have hF : FE ksM ([] : List (Nat × Nat × Nat)) w0 w0 := FE.rf
  have hl := lv_entry ([.ref (ad 0), .int a1, .int a2, .int a3]) (n := 4) (Nat.le_of_ble_eq_true rfl)
  rw [lg_entry_eq]
  generalize (lg_sl ([.ref (ad 0), .int a1, .int a2, .int a3]) ++ List.replicate (4 - (lg_sl ([.ref (ad 0), .int a1, .int a2, .int a3])).length) Slot.unset).toArray = ls at hl ⊢
  have hl : lv_has ls 4 [(0, .ref (ad 0)), (1, .int a1), (2, .int a2), (3, .int a3)] := hl
  generalize hloc : ([] : List Loc) = locs at hw ⊢
  have J35 : ∀ (H : Heap) (locs : List Loc) (ls : Array Slot) (w1 : va_W), 0 ≤ a1.toInt → a1.toInt ≤ 11 → 0 ≤ a2.toInt → a2.toInt ≤ 9 → 0 ≤ a3.toInt → a3.toInt ≤ 99999 → Wd dC dI A s.heap H locs w1 → TW ksM ad cy B qr 12 w1 → FE ksM ([] : List (Nat × Nat × Nat)) w0 w1 → lv_has ls 4 [(0, .ref (ad 0)), (1, .int a1), (2, .int a2), (3, .int a3)] → W p l e ({ frames := 4, cells := 0, slots := 0, locals := 80 }) s m (List.toArray [.ref (ad 0), .int a1, .int a2, .int a3]) below meth c H locs 0 0 (MQ below (va_Qi (P_X12_isOpen_1 ad cy B qr s1 a1 a2 a3 w0) (fun u : va_W => wpost dC dI cy A u) A) (List.toArray [.ref (ad 0), .int a1, .int a2, .int a3]) s 0 0 A) (F0 m 35 ls []) := by
    intro H locs ls w1 r2 t3 r4 t5 r6 t7 hw hT hF hl
    refine lv_iconst (v := 0) hx hb dX12_isOpen_35 (by decide) ?_
    exact tk_zret hC hr rfl hlocks hK ⟨hT, hF, (Or.inl rfl)⟩ hw dX12_isOpen_36
  refine lv_aload_n hx hb dX12_isOpen_0 rfl (lv_at hl 0 rfl) ?_
  refine lv_iload_n hx hb dX12_isOpen_1 rfl (lv_at hl 1 rfl) ?_
  refine lv_iload_n hx hb dX12_isOpen_2 rfl (lv_at hl 2 rfl) ?_
  refine tk_Vi hC hK hw hT hA hE hSR kM_at0 (by decide) rfl (k_X12_isAt_1 l adK adV dC dI cy ad B (by omega) (by omega) qr s1   a1 (show 0 ≤ a1.toInt by omega) (show a1.toInt ≤ 11 by omega) a2 (show 0 ≤ a2.toInt by omega) (show a2.toInt ≤ 9 by omega) w0 s.heap.size hT ) (cwV 2 hC.2.2.2.2 gX12_isOpen_X12_isAt rfl rfl rfl (by decide +kernel) ⟨Nat.le_of_ble_eq_true rfl, Nat.le_of_ble_eq_true rfl⟩) rfl hl.1 rfl (Nat.le_of_ble_eq_true rfl) dX12_isOpen_3 (fun r8 w10 H locs hp9 hw => ?_)
  obtain ⟨hT, k11, hg12⟩ := hp9
  have hF := hF.tr k11 (by decide)
  rcases hg12 with rfl | rfl
  · refine lv_if_eq (tgt := 35) hx hb dX12_isOpen_6 (by decide) (fun _ => ?_) (fun c => absurd (by decide) c)
    exact J35  H locs ls w10 (show 0 ≤ a1.toInt by omega) (show a1.toInt ≤ 11 by omega) (show 0 ≤ a2.toInt by omega) (show a2.toInt ≤ 9 by omega) (show 0 ≤ a3.toInt by omega) (show a3.toInt ≤ 99999 by omega)  hw hT hF  (lv_sub hl [0, 1, 2, 3] rfl)
  · refine lv_if_eq (tgt := 35) hx hb dX12_isOpen_6 (by decide) (fun c => absurd c (by decide)) (fun _ => ?_)
    refine lv_aload_n hx hb dX12_isOpen_9 rfl (lv_at hl 0 rfl) ?_
    refine lv_iload_n hx hb dX12_isOpen_10 rfl (lv_at hl 1 rfl) ?_
    refine lv_iload_n hx hb dX12_isOpen_11 rfl (lv_at hl 2 rfl) ?_
    refine lv_iload_n hx hb dX12_isOpen_12 rfl (lv_at hl 3 rfl) ?_
    refine lv_bipush (v := 24) hx hb dX12_isOpen_13 (by decide) ?_
    refine lv_idiv hx hb dX12_isOpen_15 (by decide) ?_
    refine lv_topi (fun x13 ex13 => ?_)
    have ex13 : x13.toInt = a3.toInt / (24 : Int) := by rw [ex13]; exact wk_div (show 0 ≤ a3.toInt by omega) (show 0 < (24 : Int) by decide)
    refine tk_Vi hC hK hw hT hA hE hSR kM_at0 (by decide) rfl (k_X12_isDayFor_1 l adK adV dC dI cy ad B (by omega) (by omega) qr s1   a1 (show 0 ≤ a1.toInt by omega) (show a1.toInt ≤ 11 by omega) a2 (show 0 ≤ a2.toInt by omega) (show a2.toInt ≤ 9 by omega) x13 (show 0 ≤ x13.toInt by omega) (show x13.toInt ≤ 4166 by omega) w10 H.size hT ) (cwV 3 hC.2.2.2.2 gX12_isOpen_X12_isDayFor rfl rfl rfl (by decide +kernel) ⟨Nat.le_of_ble_eq_true rfl, Nat.le_of_ble_eq_true rfl⟩) rfl hl.1 rfl (Nat.le_of_ble_eq_true rfl) dX12_isOpen_16 (fun r14 w16 H locs hp15 hw => ?_)
    obtain ⟨hT, k17, hg18⟩ := hp15
    have hF := hF.tr k17 (by decide)
    rcases hg18 with rfl | rfl
    · refine lv_if_eq (tgt := 35) hx hb dX12_isOpen_19 (by decide) (fun _ => ?_) (fun c => absurd (by decide) c)
      exact J35  H locs ls w16 (show 0 ≤ a1.toInt by omega) (show a1.toInt ≤ 11 by omega) (show 0 ≤ a2.toInt by omega) (show a2.toInt ≤ 9 by omega) (show 0 ≤ a3.toInt by omega) (show a3.toInt ≤ 99999 by omega)  hw hT hF  (lv_sub hl [0, 1, 2, 3] rfl)
    · refine lv_if_eq (tgt := 35) hx hb dX12_isOpen_19 (by decide) (fun c => absurd c (by decide)) (fun _ => ?_)
      refine lv_aload_n hx hb dX12_isOpen_22 rfl (lv_at hl 0 rfl) ?_
      refine lv_iload_n hx hb dX12_isOpen_23 rfl (lv_at hl 1 rfl) ?_
      refine lv_iload_n hx hb dX12_isOpen_24 rfl (lv_at hl 3 rfl) ?_
      refine tk_Vi hC hK hw hT hA hE hSR kM_at0 (by decide) rfl (k_X12_isLifted_1 l adK adV dC dI cy ad B (by omega) (by omega) qr s1   a1 (show 0 ≤ a1.toInt by omega) (show a1.toInt ≤ 11 by omega) a3 (show 0 ≤ a3.toInt by omega) (show a3.toInt ≤ 99999 by omega) w16 H.size hT ) (cwV 2 hC.2.2.2.2 gX12_isOpen_X12_isLifted rfl rfl rfl (by decide +kernel) ⟨Nat.le_of_ble_eq_true rfl, Nat.le_of_ble_eq_true rfl⟩) rfl hl.1 rfl (Nat.le_of_ble_eq_true rfl) dX12_isOpen_25 (fun r19 w21 H locs hp20 hw => ?_)
      obtain ⟨hT, k22, hg25⟩ := hp20
      have hF := hF.tr k22 (by decide)
      rcases hg25 with rfl | ⟨rfl, ⟨x23, c24, rx23, tx23⟩⟩
      · refine lv_if_ne (tgt := 35) hx hb dX12_isOpen_28 (by decide) (fun c => absurd (by decide) c) (fun _ => ?_)
        refine lv_iconst (v := 1) hx hb dX12_isOpen_31 (by decide) ?_
        refine lv_goto (tgt := 36) hx hb dX12_isOpen_32 (by decide) ?_
        exact tk_zret hC hr rfl hlocks hK ⟨hT, hF, (Or.inr rfl)⟩ hw dX12_isOpen_36
      · refine lv_if_ne (tgt := 35) hx hb dX12_isOpen_28 (by decide) (fun _ => ?_) (fun c => absurd c (by decide))
        exact J35  H locs ls w21 (show 0 ≤ a1.toInt by omega) (show a1.toInt ≤ 11 by omega) (show 0 ≤ a2.toInt by omega) (show a2.toInt ≤ 9 by omega) (show 0 ≤ a3.toInt by omega) (show a3.toInt ≤ 99999 by omega)  hw hT hF  (lv_sub hl [0, 1, 2, 3] rfl)
abbrev P_X12_open_1 (ad : Nat → Nat) (cy : Nat → ClassId) (B : Int) (qr : Nat) (s1 : Int) (a1 : Int32) (a2 : Int32) (a3 : Int32) (w0 : va_W) : Int32 → va_W → Prop := fun r u => TW ksM ad cy B qr 12 u ∧ FE ksM ([] : List (Nat × Nat × Nat)) w0 u ∧ ((0 ≤ r.toInt ∧ r.toInt ≤ 1 ∧ 0 ≤ a1.toInt ∧ a1.toInt ≤ 11 ∧ 0 ≤ a2.toInt ∧ a2.toInt ≤ 9 ∧ 0 ≤ a3.toInt ∧ a3.toInt ≤ 99999 ∧ (∃ y : Int32, gi u 12 0 = y ∧ 1 ≤ y.toInt ∧ y.toInt ≤ 10) ∧ (∃ y : Int32, gi u 12 1 = y ∧ 1 ≤ y.toInt ∧ y.toInt ≤ 12)) ∨ (r = (-1)))
set_option maxHeartbeats 4000000 in
set_option maxRecDepth 100000 in
theorem k_X12_open_1 (l : Launch) (adK adV : Nat → Nat) (dC : Nat → ClassId) (dI : Nat → Nat → Nat) (cy : Nat → ClassId) (ad : Nat → Nat) (B : Int) (hB0 : 100000 ≤ B) (hB1 : B ≤ 1073741824) (qr : Nat) (s1 : Int)  (a1 : Int32) (a2 : Int32) (a3 : Int32) (w0 : va_W) (sz : Nat) (hT : TW ksM ad cy B qr 12 w0)  : Met l yX12_open wsX12_open ({ frames := 5, cells := 0, slots := 0, locals := 103 }) (va_Pc [.ref (ad 0), .int a1, .int a2, .int a3] (wpreS adK adV dC dI cy sz w0)) (va_Qi (P_X12_open_1 ad cy B qr s1 a1 a2 a3 w0) (fun u : va_W => wpost dC dI cy (va_A w0 sz) u) (va_A w0 sz)) 0 0 (va_A w0 sz) := by
  refine Met.ofW (cc := cX12_open) (maxL := 4) (ret := (some .int)) (by decide) rfl ?_
  intro p e s m args below meth c s₁ Bk hml hv
  obtain ⟨rfl, ⟨hsz, hP, hK, hD0⟩, hE, hSR⟩ := hv
  have hx := Bk.exec
  have hb := Bk.bytes
  have hr := Bk.returns
  have hlocks := Bk.notSynchronized
  have hC : CallFix p m c cX12_open 4 s _ wsX12_open RX12 := ⟨hx, hb, hml, findClass_of_methodNamed Bk.named, atoms_spec (ws := wsX12_open) Bk.pre⟩
  subst hsz
  have hD := hD0.self (sz := s.heap.size)
  generalize hAe : va_A w0 s.heap.size = A at hD hE ⊢
  have hA : ∀ q : Nat, s.heap.size ≤ q → A q := fun q h => by rw [← hAe]; exact Or.inr h
  have hw : Wd dC dI A s.heap s.heap [] w0 := ⟨hP, hD, va_S.rf⟩
  have hF : FE ksM ([] : List (Nat × Nat × Nat)) w0 w0 := FE.rf
  have hl := lv_entry ([.ref (ad 0), .int a1, .int a2, .int a3]) (n := 4) (Nat.le_of_ble_eq_true rfl)
  rw [lg_entry_eq]
  generalize (lg_sl ([.ref (ad 0), .int a1, .int a2, .int a3]) ++ List.replicate (4 - (lg_sl ([.ref (ad 0), .int a1, .int a2, .int a3])).length) Slot.unset).toArray = ls at hl ⊢
  have hl : lv_has ls 4 [(0, .ref (ad 0)), (1, .int a1), (2, .int a2), (3, .int a3)] := hl
  generalize hloc : ([] : List Loc) = locs at hw ⊢
  have J32 : ∀ (H : Heap) (locs : List Loc) (ls : Array Slot) (w1 : va_W), Wd dC dI A s.heap H locs w1 → TW ksM ad cy B qr 12 w1 → FE ksM ([] : List (Nat × Nat × Nat)) w0 w1 → lv_has ls 4 [(0, .ref (ad 0)), (1, .int a1), (2, .int a2), (3, .int a3)] → W p l e ({ frames := 5, cells := 0, slots := 0, locals := 103 }) s m (List.toArray [.ref (ad 0), .int a1, .int a2, .int a3]) below meth c H locs 0 0 (MQ below (va_Qi (P_X12_open_1 ad cy B qr s1 a1 a2 a3 w0) (fun u : va_W => wpost dC dI cy A u) A) (List.toArray [.ref (ad 0), .int a1, .int a2, .int a3]) s 0 0 A) (F0 m 32 ls []) := by
    intro H locs ls w1 hw hT hF hl
    refine lv_iconst (v := (-1)) hx hb dX12_open_32 (by decide) ?_
    exact tk_iret hC hr hlocks hK ⟨hT, hF, (Or.inr rfl)⟩ hw dX12_open_33
  refine lv_aload_n hx hb dX12_open_0 rfl (lv_at hl 0 rfl) ?_
  refine lv_iload_n hx hb dX12_open_1 rfl (lv_at hl 1 rfl) ?_
  refine tk_Vi hC hK hw hT hA hE hSR kM_at0 (by decide) rfl (k_X12_isStreet_1 l adK adV dC dI cy ad B (by omega) (by omega) qr s1   a1 w0 s.heap.size hT ) (cwV 1 hC.2.2.2.2 gX12_open_X12_isStreet rfl rfl rfl (by decide +kernel) ⟨Nat.le_of_ble_eq_true rfl, Nat.le_of_ble_eq_true rfl⟩) rfl hl.1 rfl (Nat.le_of_ble_eq_true rfl) dX12_open_2 (fun r2 w4 H locs hp3 hw => ?_)
  obtain ⟨hT, k5, hg10⟩ := hp3
  have hF := hF.tr k5 (by decide)
  rcases hg10 with rfl | ⟨rfl, g6, g7, ⟨x8, c9, rx8, tx8⟩⟩
  · refine lv_if_eq (tgt := 32) hx hb dX12_open_5 (by decide) (fun _ => ?_) (fun c => absurd (by decide) c)
    exact J32  H locs ls w4   hw hT hF  (lv_sub hl [0, 1, 2, 3] rfl)
  · refine lv_if_eq (tgt := 32) hx hb dX12_open_5 (by decide) (fun c => absurd c (by decide)) (fun _ => ?_)
    refine lv_aload_n hx hb dX12_open_8 rfl (lv_at hl 0 rfl) ?_
    refine lv_iload_n hx hb dX12_open_9 rfl (lv_at hl 2 rfl) ?_
    refine tk_Vi hC hK hw hT hA hE hSR kM_at0 (by decide) rfl (k_X12_isCorner_1 l adK adV dC dI cy ad B (by omega) (by omega) qr s1   a2 w4 H.size hT ) (cwV 1 hC.2.2.2.2 gX12_open_X12_isCorner rfl rfl rfl (by decide +kernel) ⟨Nat.le_of_ble_eq_true rfl, Nat.le_of_ble_eq_true rfl⟩) rfl hl.1 rfl (Nat.le_of_ble_eq_true rfl) dX12_open_10 (fun r11 w13 H locs hp12 hw => ?_)
    obtain ⟨hT, k14, hg19⟩ := hp12
    have hF := hF.tr k14 (by decide)
    have c20 := k14.gi kM_at12 (by decide) c9
    rcases hg19 with rfl | ⟨rfl, g15, g16, ⟨x17, c18, rx17, tx17⟩⟩
    · refine lv_if_eq (tgt := 32) hx hb dX12_open_13 (by decide) (fun _ => ?_) (fun c => absurd (by decide) c)
      exact J32  H locs ls w13   hw hT hF  (lv_sub hl [0, 1, 2, 3] rfl)
    · refine lv_if_eq (tgt := 32) hx hb dX12_open_13 (by decide) (fun c => absurd c (by decide)) (fun _ => ?_)
      refine lv_aload_n hx hb dX12_open_16 rfl (lv_at hl 0 rfl) ?_
      refine lv_iload_n hx hb dX12_open_17 rfl (lv_at hl 1 rfl) ?_
      refine lv_iload_n hx hb dX12_open_18 rfl (lv_at hl 2 rfl) ?_
      refine tk_Vi hC hK hw hT hA hE hSR kM_at0 (by decide) rfl (k_X12_isAt_1 l adK adV dC dI cy ad B (by omega) (by omega) qr s1   a1 (show 0 ≤ a1.toInt by omega) (show a1.toInt ≤ 11 by omega) a2 (show 0 ≤ a2.toInt by omega) (show a2.toInt ≤ 9 by omega) w13 H.size hT ) (cwV 2 hC.2.2.2.2 gX12_open_X12_isAt rfl rfl rfl (by decide +kernel) ⟨Nat.le_of_ble_eq_true rfl, Nat.le_of_ble_eq_true rfl⟩) rfl hl.1 rfl (Nat.le_of_ble_eq_true rfl) dX12_open_19 (fun r21 w23 H locs hp22 hw => ?_)
      obtain ⟨hT, k24, hg25⟩ := hp22
      have hF := hF.tr k24 (by decide)
      have c26 := k24.gi kM_at12 (by decide) c20
      have c27 := k24.gi kM_at12 (by decide) c18
      rcases hg25 with rfl | rfl
      · refine lv_if_eq (tgt := 32) hx hb dX12_open_22 (by decide) (fun _ => ?_) (fun c => absurd (by decide) c)
        exact J32  H locs ls w23   hw hT hF  (lv_sub hl [0, 1, 2, 3] rfl)
      · refine lv_if_eq (tgt := 32) hx hb dX12_open_22 (by decide) (fun c => absurd c (by decide)) (fun _ => ?_)
        refine lv_iload_n hx hb dX12_open_25 rfl (lv_at hl 3 rfl) ?_
        refine tk_Si hC hK hw hT hA hE hSR (k_X12_isHour_1 l adK adV dC dI cy ad B (by omega) (by omega) qr s1   a3 w23 H.size hT ) (va_cwS 1 hC.2.2.2.2 gX12_open_X12_isHour rfl rfl rfl (by decide +kernel) ⟨Nat.le_of_ble_eq_true rfl, Nat.le_of_ble_eq_true rfl⟩) rfl hl.1 rfl (Nat.le_of_ble_eq_true rfl) dX12_open_26 (fun r28 w30 H locs hp29 hw => ?_)
        obtain ⟨hT, k31, hg34⟩ := hp29
        have hF := hF.tr k31 (by decide)
        have c35 := k31.gi kM_at12 (by decide) c26
        have c36 := k31.gi kM_at12 (by decide) c27
        rcases hg34 with rfl | ⟨rfl, g32, g33⟩
        · refine lv_if_ne (tgt := 34) hx hb dX12_open_29 (by decide) (fun c => absurd (by decide) c) (fun _ => ?_)
          exact J32  H locs ls w30   hw hT hF  (lv_sub hl [0, 1, 2, 3] rfl)
        · refine lv_if_ne (tgt := 34) hx hb dX12_open_29 (by decide) (fun _ => ?_) (fun c => absurd c (by decide))
          refine lv_aload_n hx hb dX12_open_34 rfl (lv_at hl 0 rfl) ?_
          refine lv_iload_n hx hb dX12_open_35 rfl (lv_at hl 1 rfl) ?_
          refine lv_iload_n hx hb dX12_open_36 rfl (lv_at hl 2 rfl) ?_
          refine lv_iload_n hx hb dX12_open_37 rfl (lv_at hl 3 rfl) ?_
          refine tk_Vi hC hK hw hT hA hE hSR kM_at0 (by decide) rfl (k_X12_isOpen_1 l adK adV dC dI cy ad B (by omega) (by omega) qr s1   a1 (show 0 ≤ a1.toInt by omega) (show a1.toInt ≤ 11 by omega) a2 (show 0 ≤ a2.toInt by omega) (show a2.toInt ≤ 9 by omega) a3 (show 0 ≤ a3.toInt by omega) (show a3.toInt ≤ 99999 by omega) w30 H.size hT ) (cwV 3 hC.2.2.2.2 gX12_open_X12_isOpen rfl rfl rfl (by decide +kernel) ⟨Nat.le_of_ble_eq_true rfl, Nat.le_of_ble_eq_true rfl⟩) rfl hl.1 rfl (Nat.le_of_ble_eq_true rfl) dX12_open_38 (fun r37 w39 H locs hp38 hw => ?_)
          obtain ⟨hT, k40, hg41⟩ := hp38
          have hF := hF.tr k40 (by decide)
          have c42 := k40.gi kM_at12 (by decide) c35
          have c43 := k40.gi kM_at12 (by decide) c36
          rcases hg41 with rfl | rfl
          · refine lv_if_eq (tgt := 48) hx hb dX12_open_41 (by decide) (fun _ => ?_) (fun c => absurd (by decide) c)
            refine lv_iconst (v := 0) hx hb dX12_open_48 (by decide) ?_
            exact tk_iret hC hr hlocks hK ⟨hT, hF, (Or.inl ⟨(by decide), (by decide), (show 0 ≤ a1.toInt by omega), (show a1.toInt ≤ 11 by omega), (show 0 ≤ a2.toInt by omega), (show a2.toInt ≤ 9 by omega), (show 0 ≤ a3.toInt by omega), (show a3.toInt ≤ 99999 by omega), ⟨x17, c43, (show 1 ≤ x17.toInt by omega), (show x17.toInt ≤ 10 by omega)⟩, ⟨x8, c42, (show 1 ≤ x8.toInt by omega), (show x8.toInt ≤ 12 by omega)⟩⟩)⟩ hw dX12_open_49
          · refine lv_if_eq (tgt := 48) hx hb dX12_open_41 (by decide) (fun c => absurd c (by decide)) (fun _ => ?_)
            refine lv_iconst (v := 1) hx hb dX12_open_44 (by decide) ?_
            refine lv_goto (tgt := 49) hx hb dX12_open_45 (by decide) ?_
            exact tk_iret hC hr hlocks hK ⟨hT, hF, (Or.inl ⟨(by decide), (by decide), (show 0 ≤ a1.toInt by omega), (show a1.toInt ≤ 11 by omega), (show 0 ≤ a2.toInt by omega), (show a2.toInt ≤ 9 by omega), (show 0 ≤ a3.toInt by omega), (show a3.toInt ≤ 99999 by omega), ⟨x17, c43, (show 1 ≤ x17.toInt by omega), (show x17.toInt ≤ 10 by omega)⟩, ⟨x8, c42, (show 1 ≤ x8.toInt by omega), (show x8.toInt ≤ 12 by omega)⟩⟩)⟩ hw dX12_open_49
abbrev P_X12_isTown_1 (ad : Nat → Nat) (cy : Nat → ClassId) (B : Int) (qr : Nat) (s1 : Int)  (w0 : va_W) : Int32 → va_W → Prop := fun r u => TW ksM ad cy B qr 12 u ∧ FE ksM ([] : List (Nat × Nat × Nat)) w0 u ∧ ((r = 0 ∧ (∃ y : Int32, gi u 12 0 = y ∧ 0 ≤ y.toInt ∧ y.toInt ≤ 0)) ∨ (r = 1 ∧ (∃ y : Int32, gi u 12 0 = y ∧ 1 ≤ y.toInt ∧ y.toInt ≤ 10)))
set_option maxHeartbeats 4000000 in
set_option maxRecDepth 100000 in
theorem k_X12_isTown_1 (l : Launch) (adK adV : Nat → Nat) (dC : Nat → ClassId) (dI : Nat → Nat → Nat) (cy : Nat → ClassId) (ad : Nat → Nat) (B : Int) (hB0 : 100000 ≤ B) (hB1 : B ≤ 1073741824) (qr : Nat) (s1 : Int)   (w0 : va_W) (sz : Nat) (hT : TW ksM ad cy B qr 12 w0)  : Met l yX12_isTown wsX12_isTown ({ frames := 1, cells := 0, slots := 0, locals := 12 }) (va_Pc [.ref (ad 0)] (wpreS adK adV dC dI cy sz w0)) (va_Qi (P_X12_isTown_1 ad cy B qr s1  w0) (fun u : va_W => wpost dC dI cy (va_A w0 sz) u) (va_A w0 sz)) 0 0 (va_A w0 sz) := by
  refine Met.ofW (cc := cX12_isTown) (maxL := 1) (ret := (some .boolean)) (by decide) rfl ?_
  intro p e s m args below meth c s₁ Bk hml hv
  obtain ⟨rfl, ⟨hsz, hP, hK, hD0⟩, hE, hSR⟩ := hv
  have hx := Bk.exec
  have hb := Bk.bytes
  have hr := Bk.returns
  have hlocks := Bk.notSynchronized
  have hC : CallFix p m c cX12_isTown 1 s _ wsX12_isTown RX12 := ⟨hx, hb, hml, findClass_of_methodNamed Bk.named, atoms_spec (ws := wsX12_isTown) Bk.pre⟩
  subst hsz
  have hD := hD0.self (sz := s.heap.size)
  generalize hAe : va_A w0 s.heap.size = A at hD hE ⊢
  have hA : ∀ q : Nat, s.heap.size ≤ q → A q := fun q h => by rw [← hAe]; exact Or.inr h
  have hw : Wd dC dI A s.heap s.heap [] w0 := ⟨hP, hD, va_S.rf⟩
  have hF : FE ksM ([] : List (Nat × Nat × Nat)) w0 w0 := FE.rf
  have hl := lv_entry ([.ref (ad 0)]) (n := 1) (Nat.le_of_ble_eq_true rfl)
  rw [lg_entry_eq]
  generalize (lg_sl ([.ref (ad 0)]) ++ List.replicate (1 - (lg_sl ([.ref (ad 0)])).length) Slot.unset).toArray = ls at hl ⊢
  have hl : lv_has ls 1 [(0, .ref (ad 0))] := hl
  generalize hloc : ([] : List Loc) = locs at hw ⊢
  have hinX12 : ∀ w ∈ u_ws RX12 TX12 42, w ∈ wsX12_isTown := fun _ h => List.mem_cons_of_mem _ (List.mem_append_right _ (h))
  refine lv_aload_n hx hb dX12_isTown_0 rfl (lv_at hl 0 rfl) ?_
  refine tk_getA hC hK hw hT hinX12 kM_at0 (by decide) rfl 26 (by decide) (List.mem_of_getElem? (i := 1) rfl) rfl rfl dX12_isTown_1 ?_
  refine lv_iconst (v := 0) hx hb dX12_isTown_4 (by decide) ?_
  refine tk_ialdR hC hK hw hT kM_at12 rfl (by decide) (by decide) dX12_isTown_5 (fun x1 c2 Ex1 => ?_)
  have bx1 := tk_rgI rfl 0 1 1 0 10 (by decide +kernel) ⟨0, by decide, by decide⟩ Ex1
  have c2 : gi w0 12 0 = x1 := c2
  refine lv_if_le (tgt := 13) hx hb dX12_isTown_6 (by decide) (fun c3 => ?_) (fun c3 => ?_)
  · have c3 : x1.toInt ≤ (0 : Int) := wk_le.mp c3
    refine lv_iconst (v := 0) hx hb dX12_isTown_13 (by decide) ?_
    exact tk_zret hC hr rfl hlocks hK ⟨hT, hF, (Or.inl ⟨rfl, ⟨x1, c2, (show 0 ≤ x1.toInt by omega), (show x1.toInt ≤ 0 by omega)⟩⟩)⟩ hw dX12_isTown_14
  · have c3 : (0 : Int) < x1.toInt := wk_leF c3
    refine lv_iconst (v := 1) hx hb dX12_isTown_9 (by decide) ?_
    refine lv_goto (tgt := 14) hx hb dX12_isTown_10 (by decide) ?_
    exact tk_zret hC hr rfl hlocks hK ⟨hT, hF, (Or.inr ⟨rfl, ⟨x1, c2, (show 1 ≤ x1.toInt by omega), (show x1.toInt ≤ 10 by omega)⟩⟩)⟩ hw dX12_isTown_14
abbrev P_X12_in_10 (ad : Nat → Nat) (cy : Nat → ClassId) (B : Int) (qr : Nat) (s1 : Int) (a0 : Int64) (w0 : va_W) : Int32 → va_W → Prop := fun r u => TW ksM ad cy B qr 12 u ∧ FE ksM ([] : List (Nat × Nat × Nat)) w0 u ∧ ((r = 0) ∨ (r = 1 ∧ 0 ≤ a0.toInt ∧ a0.toInt ≤ 6))
set_option maxHeartbeats 4000000 in
set_option maxRecDepth 100000 in
theorem k_X12_in_10 (l : Launch) (adK adV : Nat → Nat) (dC : Nat → ClassId) (dI : Nat → Nat → Nat) (cy : Nat → ClassId) (ad : Nat → Nat) (B : Int) (hB0 : 100000 ≤ B) (hB1 : B ≤ 1073741824) (qr : Nat) (s1 : Int)  (a0 : Int64) (ra0 : (-2147483648) ≤ a0.toInt) (ta0 : a0.toInt ≤ 2147483647) (w0 : va_W) (sz : Nat) (hT : TW ksM ad cy B qr 12 w0)  : Met l yX12_in wsX12_in ({ frames := 1, cells := 0, slots := 0, locals := 12 }) (va_Pc [.long a0, .long 0, .long 6] (wpreS adK adV dC dI cy sz w0)) (va_Qi (P_X12_in_10 ad cy B qr s1 a0 w0) (fun u : va_W => wpost dC dI cy (va_A w0 sz) u) (va_A w0 sz)) 0 0 (va_A w0 sz) := by
  refine Met.ofW (cc := cX12_in) (maxL := 6) (ret := (some .boolean)) (by decide) rfl ?_
  intro p e s m args below meth c s₁ Bk hml hv
  obtain ⟨rfl, ⟨hsz, hP, hK, hD0⟩, hE, hSR⟩ := hv
  have hx := Bk.exec
  have hb := Bk.bytes
  have hr := Bk.returns
  have hlocks := Bk.notSynchronized
  have hC : CallFix p m c cX12_in 6 s _ wsX12_in RX12 := ⟨hx, hb, hml, findClass_of_methodNamed Bk.named, atoms_spec (ws := wsX12_in) Bk.pre⟩
  subst hsz
  have hD := hD0.self (sz := s.heap.size)
  generalize hAe : va_A w0 s.heap.size = A at hD hE ⊢
  have hA : ∀ q : Nat, s.heap.size ≤ q → A q := fun q h => by rw [← hAe]; exact Or.inr h
  have hw : Wd dC dI A s.heap s.heap [] w0 := ⟨hP, hD, va_S.rf⟩
  have hF : FE ksM ([] : List (Nat × Nat × Nat)) w0 w0 := FE.rf
  have hl := lv_entry ([.long a0, .long 0, .long 6]) (n := 6) (Nat.le_of_ble_eq_true rfl)
  rw [lg_entry_eq]
  generalize (lg_sl ([.long a0, .long 0, .long 6]) ++ List.replicate (6 - (lg_sl ([.long a0, .long 0, .long 6])).length) Slot.unset).toArray = ls at hl ⊢
  have hl : lv_has ls 6 [(0, .long a0), (2, .long 0), (4, .long 6)] := hl
  generalize hloc : ([] : List Loc) = locs at hw ⊢
  have J17 : ∀ (H : Heap) (locs : List Loc) (ls : Array Slot) (w1 : va_W), (-2147483648) ≤ a0.toInt → a0.toInt ≤ 2147483647 → Wd dC dI A s.heap H locs w1 → TW ksM ad cy B qr 12 w1 → FE ksM ([] : List (Nat × Nat × Nat)) w0 w1 → lv_has ls 6 [(0, .long a0), (2, .long 0), (4, .long 6)] → W p l e ({ frames := 1, cells := 0, slots := 0, locals := 12 }) s m (List.toArray [.long a0, .long 0, .long 6]) below meth c H locs 0 0 (MQ below (va_Qi (P_X12_in_10 ad cy B qr s1 a0 w0) (fun u : va_W => wpost dC dI cy A u) A) (List.toArray [.long a0, .long 0, .long 6]) s 0 0 A) (F0 m 17 ls []) := by
    intro H locs ls w1 r2 t3 hw hT hF hl
    refine lv_iconst (v := 0) hx hb dX12_in_17 (by decide) ?_
    exact tk_zret hC hr rfl hlocks hK ⟨hT, hF, (Or.inl rfl)⟩ hw dX12_in_18
  refine lv_lload_n hx hb dX12_in_0 rfl (lv_at hl 0 rfl) ?_
  refine lv_lload_n hx hb dX12_in_1 rfl (lv_at hl 1 rfl) ?_
  refine W.lcmp hx hb dX12_in_2 ?_
  refine lv_if_lt (tgt := 17) hx hb dX12_in_3 (by decide) (fun c4 => ?_) (fun c4 => ?_)
  · have c4 : a0.toInt < (0 : Int) := wk_cltT c4
    exact J17  s.heap locs ls w0 (show (-2147483648) ≤ a0.toInt by omega) (show a0.toInt ≤ 2147483647 by omega)  hw hT hF  (lv_sub hl [0, 1, 2] rfl)
  · have c4 : (0 : Int) ≤ a0.toInt := wk_cltF c4
    refine lv_lload_n hx hb dX12_in_6 rfl (lv_at hl 0 rfl) ?_
    refine lv_lload hx hb dX12_in_7 (lv_at hl 2 rfl) ?_
    refine W.lcmp hx hb dX12_in_9 ?_
    refine lv_if_gt (tgt := 17) hx hb dX12_in_10 (by decide) (fun c5 => ?_) (fun c5 => ?_)
    · have c5 : (6 : Int) < a0.toInt := wk_cgtT c5
      exact J17  s.heap locs ls w0 (show (-2147483648) ≤ a0.toInt by omega) (show a0.toInt ≤ 2147483647 by omega)  hw hT hF  (lv_sub hl [0, 1, 2] rfl)
    · have c5 : a0.toInt ≤ (6 : Int) := wk_cgtF c5
      refine lv_iconst (v := 1) hx hb dX12_in_13 (by decide) ?_
      refine lv_goto (tgt := 18) hx hb dX12_in_14 (by decide) ?_
      exact tk_zret hC hr rfl hlocks hK ⟨hT, hF, (Or.inr ⟨rfl, (show 0 ≤ a0.toInt by omega), (show a0.toInt ≤ 6 by omega)⟩)⟩ hw dX12_in_18
abbrev P_X12_print_1 (ad : Nat → Nat) (cy : Nat → ClassId) (B : Int) (qr : Nat) (s1 : Int) (a1 : Int32) (w0 : va_W) : Int32 → va_W → Prop := fun r u => TW ksM ad cy B qr 12 u ∧ FE ksM [(71, 4, 4), (71, 168, 215)] w0 u ∧ ((r = (-2)) ∨ (0 ≤ r.toInt ∧ r.toInt ≤ 3 ∧ 0 ≤ a1.toInt ∧ a1.toInt ≤ 6 ∧ (∃ y : Int32, gi u 12 0 = y ∧ 1 ≤ y.toInt ∧ y.toInt ≤ 10) ∧ (∃ y : Int32, gi u 12 4 = y ∧ 1 ≤ y.toInt ∧ y.toInt ≤ 4)))
set_option maxHeartbeats 4000000 in
set_option maxRecDepth 100000 in
theorem k_X12_print_1 (l : Launch) (adK adV : Nat → Nat) (dC : Nat → ClassId) (dI : Nat → Nat → Nat) (cy : Nat → ClassId) (ad : Nat → Nat) (B : Int) (hB0 : 100000 ≤ B) (hB1 : B ≤ 1073741824) (qr : Nat) (s1 : Int)  (a1 : Int32) (w0 : va_W) (sz : Nat) (hT : TW ksM ad cy B qr 12 w0)  : Met l yX12_print wsX12_print ({ frames := 2, cells := 0, slots := 0, locals := 37 }) (va_Pc [.ref (ad 0), .int a1] (wpreS adK adV dC dI cy sz w0)) (va_Qi (P_X12_print_1 ad cy B qr s1 a1 w0) (fun u : va_W => wpost dC dI cy (va_A w0 sz) u) (va_A w0 sz)) 0 0 (va_A w0 sz) := by
  refine Met.ofW (cc := cX12_print) (maxL := 3) (ret := (some .int)) (by decide) rfl ?_
  intro p e s m args below meth c s₁ Bk hml hv
  obtain ⟨rfl, ⟨hsz, hP, hK, hD0⟩, hE, hSR⟩ := hv
  have hx := Bk.exec
  have hb := Bk.bytes
  have hr := Bk.returns
  have hlocks := Bk.notSynchronized
  have hC : CallFix p m c cX12_print 3 s _ wsX12_print RX12 := ⟨hx, hb, hml, findClass_of_methodNamed Bk.named, atoms_spec (ws := wsX12_print) Bk.pre⟩
  subst hsz
  have hD := hD0.self (sz := s.heap.size)
  generalize hAe : va_A w0 s.heap.size = A at hD hE ⊢
  have hA : ∀ q : Nat, s.heap.size ≤ q → A q := fun q h => by rw [← hAe]; exact Or.inr h
  have hw : Wd dC dI A s.heap s.heap [] w0 := ⟨hP, hD, va_S.rf⟩
  have hF : FE ksM [(71, 4, 4), (71, 168, 215)] w0 w0 := FE.rf
  have hl := lv_entry ([.ref (ad 0), .int a1]) (n := 3) (Nat.le_of_ble_eq_true rfl)
  rw [lg_entry_eq]
  generalize (lg_sl ([.ref (ad 0), .int a1]) ++ List.replicate (3 - (lg_sl ([.ref (ad 0), .int a1])).length) Slot.unset).toArray = ls at hl ⊢
  have hl : lv_has ls 3 [(0, .ref (ad 0)), (1, .int a1)] := hl
  generalize hloc : ([] : List Loc) = locs at hw ⊢
  have hinX12 : ∀ w ∈ u_ws RX12 TX12 42, w ∈ wsX12_print := fun _ h => List.mem_cons_of_mem _ (List.mem_append_right _ (h))
  have J29 : ∀ (f29_12_0 : Int32) (H : Heap) (locs : List Loc) (ls : Array Slot) (w1 : va_W), 0 ≤ f29_12_0.toInt → f29_12_0.toInt ≤ 10 → Wd dC dI A s.heap H locs w1 → TW ksM ad cy B qr 12 w1 → FE ksM [(71, 4, 4), (71, 168, 215)] w0 w1 → gi w1 12 0 = f29_12_0 → lv_has ls 3 [(0, .ref (ad 0)), (1, .int a1)] → W p l e ({ frames := 2, cells := 0, slots := 0, locals := 37 }) s m (List.toArray [.ref (ad 0), .int a1]) below meth c H locs 0 0 (MQ below (va_Qi (P_X12_print_1 ad cy B qr s1 a1 w0) (fun u : va_W => wpost dC dI cy A u) A) (List.toArray [.ref (ad 0), .int a1]) s 0 0 A) (F0 m 29 ls []) := by
    intro f29_12_0 H locs ls w1 r2 t3 hw hT hF c4 hl
    refine lv_bipush (v := (-2)) hx hb dX12_print_29 (by decide) ?_
    exact tk_iret hC hr hlocks hK ⟨hT, hF, (Or.inl rfl)⟩ hw dX12_print_31
  have L34 : ∀ (n34 : Nat) (v34_2 : Int32) (f34_12_0 : Int32) (f34_12_4 : Int32) (H : Heap) (locs : List Loc) (ls : Array Slot) (w5 : va_W), 0 ≤ a1.toInt → a1.toInt ≤ 6 → 0 ≤ v34_2.toInt → v34_2.toInt ≤ 12 → 1 ≤ f34_12_0.toInt → f34_12_0.toInt ≤ 10 → 0 ≤ f34_12_4.toInt → f34_12_4.toInt ≤ 3 → (12 - v34_2.toInt).toNat < n34 → Wd dC dI A s.heap H locs w5 → TW ksM ad cy B qr 12 w5 → FE ksM [(71, 4, 4), (71, 168, 215)] w0 w5 → gi w5 12 0 = f34_12_0 → gi w5 12 4 = f34_12_4 → lv_has ls 3 [(0, .ref (ad 0)), (1, .int a1), (2, .int v34_2)] → W p l e ({ frames := 2, cells := 0, slots := 0, locals := 37 }) s m (List.toArray [.ref (ad 0), .int a1]) below meth c H locs 0 0 (MQ below (va_Qi (P_X12_print_1 ad cy B qr s1 a1 w0) (fun u : va_W => wpost dC dI cy A u) A) (List.toArray [.ref (ad 0), .int a1]) s 0 0 A) (F0 m 34 ls []) := by
    intro n34
    induction n34 with
    | zero => intro v34_2 f34_12_0 f34_12_4 H locs ls w5 r6 t7 r8 t9 r10 t11 r13 t14 hm34 hw hT hF c12 c15 hl; omega
    | succ n34 ih34 =>
      intro v34_2 f34_12_0 f34_12_4 H locs ls w5 r6 t7 r8 t9 r10 t11 r13 t14 hm34 hw hT hF c12 c15 hl
      refine lv_iload_n hx hb dX12_print_34 rfl (lv_at hl 2 rfl) ?_
      refine lv_aload_n hx hb dX12_print_35 rfl (lv_at hl 0 rfl) ?_
      refine tk_getA hC hK hw hT hinX12 kM_at0 (by decide) rfl 26 (by decide) (List.mem_of_getElem? (i := 2) rfl) rfl rfl dX12_print_36 ?_
      refine lv_iconst (v := 1) hx hb dX12_print_39 (by decide) ?_
      refine tk_ialdR hC hK hw hT kM_at12 rfl (by decide) (by decide) dX12_print_40 (fun x16 c17 Ex16 => ?_)
      have bx16 : 0 ≤ x16.toInt ∧ x16.toInt ≤ 12 := (tk_rg1 rfl).mp Ex16
      have c17 : gi w5 12 1 = x16 := c17
      refine lv_icmp_ge (tgt := 78) hx hb dX12_print_41 (by decide) (fun c18 => ?_) (fun c18 => ?_)
      · have c18 : x16.toInt ≤ v34_2.toInt := wk_le.mp c18
        refine lv_aload_n hx hb dX12_print_78 rfl (lv_at hl 0 rfl) ?_
        refine tk_getA hC hK hw hT hinX12 kM_at0 (by decide) rfl 26 (by decide) (List.mem_of_getElem? (i := 2) rfl) rfl rfl dX12_print_79 ?_
        refine lv_iconst (v := 4) hx hb dX12_print_82 (by decide) ?_
        refine lv_dup2_11 hx hb dX12_print_83 rfl rfl ?_
        refine tk_ialdR hC hK hw hT kM_at12 rfl (by decide) (by decide) dX12_print_84 (fun x19 c20 Ex19 => ?_)
        refine wk_top f34_12_4 (c20.symm.trans c15) ?_
        refine lv_iconst (v := 1) hx hb dX12_print_85 (by decide) ?_
        refine lv_iadd hx hb dX12_print_86 ?_
        refine lv_topi (fun x21 ex21 => ?_)
        have ex21 : x21.toInt = f34_12_4.toInt + (1 : Int) := by rw [ex21]; exact wk_add (show (-2147483648) ≤ f34_12_4.toInt + (1 : Int) by omega) (show f34_12_4.toInt + (1 : Int) ≤ 2147483647 by omega)
        refine tk_iastR hC hK hw hT kM_at12 (by decide) rfl (by decide) (by decide) (tk_rgS rfl 4 1 1 1 4 (by decide +kernel) ⟨0, by decide, by decide⟩ (show 1 ≤ x21.toInt by omega) (show x21.toInt ≤ 4 by omega)) dX12_print_87 (fun H locs w22 hw hT k24 c23 => ?_)
        have hF := hF.put kM_at12 (inE_of (a := 4) (b := 4) (by decide) (by decide) (by decide)) k24
        have c25 := k24.gi (Or.inr (by decide)) c12
        have c26 := k24.gi (Or.inr (by decide)) c17
        have c23 : gi w22 12 4 = x21 := c23
        refine lv_aload_n hx hb dX12_print_88 rfl (lv_at hl 0 rfl) ?_
        refine tk_getA hC hK hw hT hinX12 kM_at0 (by decide) rfl 26 (by decide) (List.mem_of_getElem? (i := 2) rfl) rfl rfl dX12_print_89 ?_
        refine lv_iconst (v := 4) hx hb dX12_print_92 (by decide) ?_
        refine tk_ialdR hC hK hw hT kM_at12 rfl (by decide) (by decide) dX12_print_93 (fun x27 c28 Ex27 => ?_)
        refine wk_top x21 (c28.symm.trans c23) ?_
        refine lv_iconst (v := 1) hx hb dX12_print_94 (by decide) ?_
        refine lv_isub hx hb dX12_print_95 ?_
        refine lv_topi (fun x29 ex29 => ?_)
        have ex29 : x29.toInt = x21.toInt - (1 : Int) := by rw [ex29]; exact wk_sub (show (-2147483648) ≤ x21.toInt - (1 : Int) by omega) (show x21.toInt - (1 : Int) ≤ 2147483647 by omega)
        exact tk_iret hC hr hlocks hK ⟨hT, hF, (Or.inr ⟨(show 0 ≤ x29.toInt by omega), (show x29.toInt ≤ 3 by omega), (show 0 ≤ a1.toInt by omega), (show a1.toInt ≤ 6 by omega), ⟨f34_12_0, c25, (show 1 ≤ f34_12_0.toInt by omega), (show f34_12_0.toInt ≤ 10 by omega)⟩, ⟨x21, c23, (show 1 ≤ x21.toInt by omega), (show x21.toInt ≤ 4 by omega)⟩⟩)⟩ hw dX12_print_96
      · have c18 : v34_2.toInt < x16.toInt := wk_leF c18
        refine lv_aload_n hx hb dX12_print_44 rfl (lv_at hl 0 rfl) ?_
        refine tk_getA hC hK hw hT hinX12 kM_at0 (by decide) rfl 26 (by decide) (List.mem_of_getElem? (i := 2) rfl) rfl rfl dX12_print_45 ?_
        refine lv_sipush (v := 168) hx hb dX12_print_48 (by decide) ?_
        refine lv_bipush (v := 12) hx hb dX12_print_51 (by decide) ?_
        refine lv_aload_n hx hb dX12_print_53 rfl (lv_at hl 0 rfl) ?_
        refine tk_getA hC hK hw hT hinX12 kM_at0 (by decide) rfl 26 (by decide) (List.mem_of_getElem? (i := 2) rfl) rfl rfl dX12_print_54 ?_
        refine lv_iconst (v := 4) hx hb dX12_print_57 (by decide) ?_
        refine tk_ialdR hC hK hw hT kM_at12 rfl (by decide) (by decide) dX12_print_58 (fun x30 c31 Ex30 => ?_)
        refine wk_top f34_12_4 (c31.symm.trans c15) ?_
        refine lv_imul hx hb dX12_print_59 ?_
        refine lv_topi (fun x32 ex32 => ?_)
        have ex32 : x32.toInt = (12 : Int) * f34_12_4.toInt := by rw [ex32]; exact wk_mul (show (-2147483648) ≤ (12 : Int) * f34_12_4.toInt by omega) (show (12 : Int) * f34_12_4.toInt ≤ 2147483647 by omega)
        refine lv_iadd hx hb dX12_print_60 ?_
        refine lv_topi (fun x33 ex33 => ?_)
        have ex33 : x33.toInt = (168 : Int) + x32.toInt := by rw [ex33]; exact wk_add (show (-2147483648) ≤ (168 : Int) + x32.toInt by omega) (show (168 : Int) + x32.toInt ≤ 2147483647 by omega)
        refine lv_iload_n hx hb dX12_print_61 rfl (lv_at hl 2 rfl) ?_
        refine lv_iadd hx hb dX12_print_62 ?_
        refine lv_topi (fun x34 ex34 => ?_)
        have ex34 : x34.toInt = x33.toInt + v34_2.toInt := by rw [ex34]; exact wk_add (show (-2147483648) ≤ x33.toInt + v34_2.toInt by omega) (show x33.toInt + v34_2.toInt ≤ 2147483647 by omega)
        refine lv_aload_n hx hb dX12_print_63 rfl (lv_at hl 0 rfl) ?_
        refine lv_iload_n hx hb dX12_print_64 rfl (lv_at hl 2 rfl) ?_
        refine lv_iconst (v := 3) hx hb dX12_print_65 (by decide) ?_
        refine lv_iload_n hx hb dX12_print_66 rfl (lv_at hl 1 rfl) ?_
        refine lv_iadd hx hb dX12_print_67 ?_
        refine lv_topi (fun x35 ex35 => ?_)
        have ex35 : x35.toInt = (3 : Int) + a1.toInt := by rw [ex35]; exact wk_add (show (-2147483648) ≤ (3 : Int) + a1.toInt by omega) (show (3 : Int) + a1.toInt ≤ 2147483647 by omega)
        refine tk_Vi hC hK hw hT hA hE hSR kM_at0 (by decide) rfl (k_X12_streetOf_4 l adK adV dC dI cy ad B (by omega) (by omega) qr s1   v34_2 (show 0 ≤ v34_2.toInt by omega) (show v34_2.toInt ≤ 11 by omega) x35 (show 3 ≤ x35.toInt by omega) (show x35.toInt ≤ 9 by omega) w5 H.size hT ) (cwV 2 hC.2.2.2.2 gX12_print_X12_streetOf rfl rfl rfl (by decide +kernel) ⟨Nat.le_of_ble_eq_true rfl, Nat.le_of_ble_eq_true rfl⟩) rfl hl.1 rfl (Nat.le_of_ble_eq_true rfl) dX12_print_68 (fun r36 w38 H locs hp37 hw => ?_)
        obtain ⟨hT, k39, hg42⟩ := hp37
        have hF := hF.tr k39 (by decide)
        have c43 := k39.gi kM_at12 (by decide) c12
        have c44 := k39.gi kM_at12 (by decide) c15
        have c45 := k39.gi kM_at12 (by decide) c17
        obtain ⟨g40, g41⟩ := hg42
        refine tk_iastR hC hK hw hT kM_at12 (by decide) rfl (show 0 ≤ x34.toInt by omega) (show x34.toInt < 296 by omega) (tk_rgS rfl 168 1 48 0 9 (by decide +kernel) ⟨(x34.toInt - 168).toNat, by omega, show x34.toInt.toNat = 168 + 1 * (x34.toInt - 168).toNat by omega⟩ (show 0 ≤ r36.toInt by omega) (show r36.toInt ≤ 9 by omega)) dX12_print_71 (fun H locs w46 hw hT k48 c47 => ?_)
        have hF := hF.put kM_at12 (inE_of (a := 168) (b := 215) (by decide) (show 168 ≤ x34.toInt.toNat by omega) (show x34.toInt.toNat ≤ 215 by omega)) k48
        have c49 := k48.gi (Or.inr (show 0 ≠ x34.toInt.toNat by omega)) c43
        have c50 := k48.gi (Or.inr (show 4 ≠ x34.toInt.toNat by omega)) c44
        have c51 := k48.gi (Or.inr (show 1 ≠ x34.toInt.toNat by omega)) c45
        obtain ⟨x52, ex52⟩ : ∃ y : Int32, y = v34_2 + Int32.ofInt 1 := ⟨_, rfl⟩
        refine lv_iinc (v := x52) (lv' := [(2, .int x52), (0, .ref (ad 0)), (1, .int a1)]) hx hb dX12_print_72 hl (k := 2) rfl ex52.symm (by decide) rfl (fun ls hl => ?_)
        have ex52 : x52.toInt = v34_2.toInt + 1 := by rw [ex52]; exact wk_add (y := 1) (show -2147483648 ≤ v34_2.toInt + 1 by omega) (show v34_2.toInt + 1 ≤ 2147483647 by omega)
        refine lv_goto (tgt := 34) hx hb dX12_print_75 (by decide) ?_
        exact ih34 x52 f34_12_0 f34_12_4 H locs ls w46 (show 0 ≤ a1.toInt by omega) (show a1.toInt ≤ 6 by omega) (show 0 ≤ x52.toInt by omega) (show x52.toInt ≤ 12 by omega) (show 1 ≤ f34_12_0.toInt by omega) (show f34_12_0.toInt ≤ 10 by omega) (show 0 ≤ f34_12_4.toInt by omega) (show f34_12_4.toInt ≤ 3 by omega) (show (12 - x52.toInt).toNat < n34 by omega) hw hT hF c49 c50 (lv_sub hl [1, 2, 0] rfl)
  refine lv_aload_n hx hb dX12_print_0 rfl (lv_at hl 0 rfl) ?_
  refine tk_Vi hC hK hw hT hA hE hSR kM_at0 (by decide) rfl (k_X12_isTown_1 l adK adV dC dI cy ad B (by omega) (by omega) qr s1    w0 s.heap.size hT ) (cwV 0 hC.2.2.2.2 gX12_print_X12_isTown rfl rfl rfl (by decide +kernel) ⟨Nat.le_of_ble_eq_true rfl, Nat.le_of_ble_eq_true rfl⟩) rfl hl.1 rfl (Nat.le_of_ble_eq_true rfl) dX12_print_1 (fun r53 w55 H locs hp54 hw => ?_)
  obtain ⟨hT, k56, hg61⟩ := hp54
  have hF := hF.tr k56 (by decide)
  rcases hg61 with ⟨rfl, ⟨x57, c58, rx57, tx57⟩⟩ | ⟨rfl, ⟨x59, c60, rx59, tx59⟩⟩
  · refine lv_if_eq (tgt := 29) hx hb dX12_print_4 (by decide) (fun _ => ?_) (fun c => absurd (by decide) c)
    exact J29 x57 H locs ls w55 (show 0 ≤ x57.toInt by omega) (show x57.toInt ≤ 10 by omega)  hw hT hF c58 (lv_sub hl [0, 1] rfl)
  · refine lv_if_eq (tgt := 29) hx hb dX12_print_4 (by decide) (fun c => absurd c (by decide)) (fun _ => ?_)
    refine lv_iload_n hx hb dX12_print_7 rfl (lv_at hl 1 rfl) ?_
    refine lv_i2l hx hb dX12_print_8 rfl ?_
    refine lv_topl (fun x62 ex62 => ?_)
    have ex62 : x62.toInt = a1.toInt := by rw [ex62]; exact wk_i2l _
    have bx62 := wk_i32 a1
    refine lv_lconst (v := 0) hx hb dX12_print_9 (by decide) ?_
    refine lv_ldc2 (v := 6) hx hb hC.2.2.2.1 (hC.2.2.2.2 _ (List.mem_of_getElem? (i := 1) rfl)) dX12_print_10 ?_
    refine tk_Si hC hK hw hT hA hE hSR (k_X12_in_10 l adK adV dC dI cy ad B (by omega) (by omega) qr s1   x62 (show (-2147483648) ≤ x62.toInt by omega) (show x62.toInt ≤ 2147483647 by omega) w55 H.size hT ) (va_cwS 3 hC.2.2.2.2 gX12_print_X12_in rfl rfl rfl (by decide +kernel) ⟨Nat.le_of_ble_eq_true rfl, Nat.le_of_ble_eq_true rfl⟩) rfl hl.1 rfl (Nat.le_of_ble_eq_true rfl) dX12_print_13 (fun r63 w65 H locs hp64 hw => ?_)
    obtain ⟨hT, k66, hg69⟩ := hp64
    have hF := hF.tr k66 (by decide)
    have c70 := k66.gi kM_at12 (by decide) c60
    rcases hg69 with rfl | ⟨rfl, g67, g68⟩
    · refine lv_if_eq (tgt := 29) hx hb dX12_print_16 (by decide) (fun _ => ?_) (fun c => absurd (by decide) c)
      exact J29 x59 H locs ls w65 (show 0 ≤ x59.toInt by omega) (show x59.toInt ≤ 10 by omega)  hw hT hF c70 (lv_sub hl [0, 1] rfl)
    · refine lv_if_eq (tgt := 29) hx hb dX12_print_16 (by decide) (fun c => absurd c (by decide)) (fun _ => ?_)
      refine lv_aload_n hx hb dX12_print_19 rfl (lv_at hl 0 rfl) ?_
      refine tk_getA hC hK hw hT hinX12 kM_at0 (by decide) rfl 26 (by decide) (List.mem_of_getElem? (i := 2) rfl) rfl rfl dX12_print_20 ?_
      refine lv_iconst (v := 4) hx hb dX12_print_23 (by decide) ?_
      refine tk_ialdR hC hK hw hT kM_at12 rfl (by decide) (by decide) dX12_print_24 (fun x71 c72 Ex71 => ?_)
      have bx71 := tk_rgI rfl 4 1 1 0 4 (by decide +kernel) ⟨0, by decide, by decide⟩ Ex71
      have c72 : gi w65 12 4 = x71 := c72
      refine lv_iconst (v := 4) hx hb dX12_print_25 (by decide) ?_
      refine lv_icmp_ne (tgt := 32) hx hb dX12_print_26 (by decide) (fun c73 => ?_) (fun c73 => ?_)
      · have c73 : ¬ x71.toInt = (4 : Int) := wk_eqF c73
        refine lv_iconst (v := 0) hx hb dX12_print_32 (by decide) ?_
        refine lv_istore_n (lv' := [(2, .int 0), (0, .ref (ad 0)), (1, .int a1)]) hx hb dX12_print_33 rfl hl (by decide) rfl (fun ls hl => ?_)
        exact L34 ((12 - (0 : Int)).toNat + 1) 0 x59 x71 H locs ls w65 (show 0 ≤ a1.toInt by omega) (show a1.toInt ≤ 6 by omega) (by decide) (by decide) (show 1 ≤ x59.toInt by omega) (show x59.toInt ≤ 10 by omega) (show 0 ≤ x71.toInt by omega) (show x71.toInt ≤ 3 by omega) (Nat.lt_succ_self _) hw hT hF c70 c72 (lv_sub hl [1, 2, 0] rfl)
      · have c73 : x71.toInt = (4 : Int) := wk_eq.mp c73
        exact J29 x59 H locs ls w65 (show 0 ≤ x59.toInt by omega) (show x59.toInt ≤ 10 by omega)  hw hT hF c70 (lv_sub hl [0, 1] rfl)
abbrev P_X12_isMap_1 (ad : Nat → Nat) (cy : Nat → ClassId) (B : Int) (qr : Nat) (s1 : Int) (a1 : Int32) (w0 : va_W) : Int32 → va_W → Prop := fun r u => TW ksM ad cy B qr 12 u ∧ FE ksM ([] : List (Nat × Nat × Nat)) w0 u ∧ ((r = 0) ∨ (r = 1 ∧ 0 ≤ a1.toInt ∧ a1.toInt ≤ 3 ∧ (∃ y : Int32, gi u 12 4 = y ∧ 1 ≤ y.toInt ∧ y.toInt ≤ 4)))
set_option maxHeartbeats 4000000 in
set_option maxRecDepth 100000 in
theorem k_X12_isMap_1 (l : Launch) (adK adV : Nat → Nat) (dC : Nat → ClassId) (dI : Nat → Nat → Nat) (cy : Nat → ClassId) (ad : Nat → Nat) (B : Int) (hB0 : 100000 ≤ B) (hB1 : B ≤ 1073741824) (qr : Nat) (s1 : Int)  (a1 : Int32) (w0 : va_W) (sz : Nat) (hT : TW ksM ad cy B qr 12 w0)  : Met l yX12_isMap wsX12_isMap ({ frames := 1, cells := 0, slots := 0, locals := 12 }) (va_Pc [.ref (ad 0), .int a1] (wpreS adK adV dC dI cy sz w0)) (va_Qi (P_X12_isMap_1 ad cy B qr s1 a1 w0) (fun u : va_W => wpost dC dI cy (va_A w0 sz) u) (va_A w0 sz)) 0 0 (va_A w0 sz) := by
  refine Met.ofW (cc := cX12_isMap) (maxL := 2) (ret := (some .boolean)) (by decide) rfl ?_
  intro p e s m args below meth c s₁ Bk hml hv
  obtain ⟨rfl, ⟨hsz, hP, hK, hD0⟩, hE, hSR⟩ := hv
  have hx := Bk.exec
  have hb := Bk.bytes
  have hr := Bk.returns
  have hlocks := Bk.notSynchronized
  have hC : CallFix p m c cX12_isMap 2 s _ wsX12_isMap RX12 := ⟨hx, hb, hml, findClass_of_methodNamed Bk.named, atoms_spec (ws := wsX12_isMap) Bk.pre⟩
  subst hsz
  have hD := hD0.self (sz := s.heap.size)
  generalize hAe : va_A w0 s.heap.size = A at hD hE ⊢
  have hA : ∀ q : Nat, s.heap.size ≤ q → A q := fun q h => by rw [← hAe]; exact Or.inr h
  have hw : Wd dC dI A s.heap s.heap [] w0 := ⟨hP, hD, va_S.rf⟩
  have hF : FE ksM ([] : List (Nat × Nat × Nat)) w0 w0 := FE.rf
  have hl := lv_entry ([.ref (ad 0), .int a1]) (n := 2) (Nat.le_of_ble_eq_true rfl)
  rw [lg_entry_eq]
  generalize (lg_sl ([.ref (ad 0), .int a1]) ++ List.replicate (2 - (lg_sl ([.ref (ad 0), .int a1])).length) Slot.unset).toArray = ls at hl ⊢
  have hl : lv_has ls 2 [(0, .ref (ad 0)), (1, .int a1)] := hl
  generalize hloc : ([] : List Loc) = locs at hw ⊢
  have hinX12 : ∀ w ∈ u_ws RX12 TX12 42, w ∈ wsX12_isMap := fun _ h => List.mem_cons_of_mem _ (List.mem_append_right _ (h))
  have J18 : ∀ (H : Heap) (locs : List Loc) (ls : Array Slot) (w1 : va_W), Wd dC dI A s.heap H locs w1 → TW ksM ad cy B qr 12 w1 → FE ksM ([] : List (Nat × Nat × Nat)) w0 w1 → lv_has ls 2 [(0, .ref (ad 0)), (1, .int a1)] → W p l e ({ frames := 1, cells := 0, slots := 0, locals := 12 }) s m (List.toArray [.ref (ad 0), .int a1]) below meth c H locs 0 0 (MQ below (va_Qi (P_X12_isMap_1 ad cy B qr s1 a1 w0) (fun u : va_W => wpost dC dI cy A u) A) (List.toArray [.ref (ad 0), .int a1]) s 0 0 A) (F0 m 18 ls []) := by
    intro H locs ls w1 hw hT hF hl
    refine lv_iconst (v := 0) hx hb dX12_isMap_18 (by decide) ?_
    exact tk_zret hC hr rfl hlocks hK ⟨hT, hF, (Or.inl rfl)⟩ hw dX12_isMap_19
  refine lv_iload_n hx hb dX12_isMap_0 rfl (lv_at hl 1 rfl) ?_
  refine lv_if_lt (tgt := 18) hx hb dX12_isMap_1 (by decide) (fun c2 => ?_) (fun c2 => ?_)
  · have c2 : a1.toInt < (0 : Int) := wk_lt.mp c2
    exact J18  s.heap locs ls w0   hw hT hF  (lv_sub hl [0, 1] rfl)
  · have c2 : (0 : Int) ≤ a1.toInt := wk_ltF c2
    refine lv_iload_n hx hb dX12_isMap_4 rfl (lv_at hl 1 rfl) ?_
    refine lv_aload_n hx hb dX12_isMap_5 rfl (lv_at hl 0 rfl) ?_
    refine tk_getA hC hK hw hT hinX12 kM_at0 (by decide) rfl 26 (by decide) (List.mem_of_getElem? (i := 1) rfl) rfl rfl dX12_isMap_6 ?_
    refine lv_iconst (v := 4) hx hb dX12_isMap_9 (by decide) ?_
    refine tk_ialdR hC hK hw hT kM_at12 rfl (by decide) (by decide) dX12_isMap_10 (fun x3 c4 Ex3 => ?_)
    have bx3 := tk_rgI rfl 4 1 1 0 4 (by decide +kernel) ⟨0, by decide, by decide⟩ Ex3
    have c4 : gi w0 12 4 = x3 := c4
    refine lv_icmp_ge (tgt := 18) hx hb dX12_isMap_11 (by decide) (fun c5 => ?_) (fun c5 => ?_)
    · have c5 : x3.toInt ≤ a1.toInt := wk_le.mp c5
      exact J18  s.heap locs ls w0   hw hT hF  (lv_sub hl [0, 1] rfl)
    · have c5 : a1.toInt < x3.toInt := wk_leF c5
      refine lv_iconst (v := 1) hx hb dX12_isMap_14 (by decide) ?_
      refine lv_goto (tgt := 19) hx hb dX12_isMap_15 (by decide) ?_
      exact tk_zret hC hr rfl hlocks hK ⟨hT, hF, (Or.inr ⟨rfl, (show 0 ≤ a1.toInt by omega), (show a1.toInt ≤ 3 by omega), ⟨x3, c4, (show 1 ≤ x3.toInt by omega), (show x3.toInt ≤ 4 by omega)⟩⟩)⟩ hw dX12_isMap_19
abbrev P_X12_in_11 (ad : Nat → Nat) (cy : Nat → ClassId) (B : Int) (qr : Nat) (s1 : Int) (a0 : Int64) (w0 : va_W) : Int32 → va_W → Prop := fun r u => TW ksM ad cy B qr 12 u ∧ FE ksM ([] : List (Nat × Nat × Nat)) w0 u ∧ ((r = 0) ∨ (r = 1 ∧ 0 ≤ a0.toInt ∧ a0.toInt ≤ 3))
set_option maxHeartbeats 4000000 in
set_option maxRecDepth 100000 in
theorem k_X12_in_11 (l : Launch) (adK adV : Nat → Nat) (dC : Nat → ClassId) (dI : Nat → Nat → Nat) (cy : Nat → ClassId) (ad : Nat → Nat) (B : Int) (hB0 : 100000 ≤ B) (hB1 : B ≤ 1073741824) (qr : Nat) (s1 : Int)  (a0 : Int64) (ra0 : (-2147483648) ≤ a0.toInt) (ta0 : a0.toInt ≤ 2147483647) (w0 : va_W) (sz : Nat) (hT : TW ksM ad cy B qr 12 w0)  : Met l yX12_in wsX12_in ({ frames := 1, cells := 0, slots := 0, locals := 12 }) (va_Pc [.long a0, .long 0, .long 3] (wpreS adK adV dC dI cy sz w0)) (va_Qi (P_X12_in_11 ad cy B qr s1 a0 w0) (fun u : va_W => wpost dC dI cy (va_A w0 sz) u) (va_A w0 sz)) 0 0 (va_A w0 sz) := by
  refine Met.ofW (cc := cX12_in) (maxL := 6) (ret := (some .boolean)) (by decide) rfl ?_
  intro p e s m args below meth c s₁ Bk hml hv
  obtain ⟨rfl, ⟨hsz, hP, hK, hD0⟩, hE, hSR⟩ := hv
  have hx := Bk.exec
  have hb := Bk.bytes
  have hr := Bk.returns
  have hlocks := Bk.notSynchronized
  have hC : CallFix p m c cX12_in 6 s _ wsX12_in RX12 := ⟨hx, hb, hml, findClass_of_methodNamed Bk.named, atoms_spec (ws := wsX12_in) Bk.pre⟩
  subst hsz
  have hD := hD0.self (sz := s.heap.size)
  generalize hAe : va_A w0 s.heap.size = A at hD hE ⊢
  have hA : ∀ q : Nat, s.heap.size ≤ q → A q := fun q h => by rw [← hAe]; exact Or.inr h
  have hw : Wd dC dI A s.heap s.heap [] w0 := ⟨hP, hD, va_S.rf⟩
  have hF : FE ksM ([] : List (Nat × Nat × Nat)) w0 w0 := FE.rf
  have hl := lv_entry ([.long a0, .long 0, .long 3]) (n := 6) (Nat.le_of_ble_eq_true rfl)
  rw [lg_entry_eq]
  generalize (lg_sl ([.long a0, .long 0, .long 3]) ++ List.replicate (6 - (lg_sl ([.long a0, .long 0, .long 3])).length) Slot.unset).toArray = ls at hl ⊢
  have hl : lv_has ls 6 [(0, .long a0), (2, .long 0), (4, .long 3)] := hl
  generalize hloc : ([] : List Loc) = locs at hw ⊢
  have J17 : ∀ (H : Heap) (locs : List Loc) (ls : Array Slot) (w1 : va_W), (-2147483648) ≤ a0.toInt → a0.toInt ≤ 2147483647 → Wd dC dI A s.heap H locs w1 → TW ksM ad cy B qr 12 w1 → FE ksM ([] : List (Nat × Nat × Nat)) w0 w1 → lv_has ls 6 [(0, .long a0), (2, .long 0), (4, .long 3)] → W p l e ({ frames := 1, cells := 0, slots := 0, locals := 12 }) s m (List.toArray [.long a0, .long 0, .long 3]) below meth c H locs 0 0 (MQ below (va_Qi (P_X12_in_11 ad cy B qr s1 a0 w0) (fun u : va_W => wpost dC dI cy A u) A) (List.toArray [.long a0, .long 0, .long 3]) s 0 0 A) (F0 m 17 ls []) := by
    intro H locs ls w1 r2 t3 hw hT hF hl
    refine lv_iconst (v := 0) hx hb dX12_in_17 (by decide) ?_
    exact tk_zret hC hr rfl hlocks hK ⟨hT, hF, (Or.inl rfl)⟩ hw dX12_in_18
  refine lv_lload_n hx hb dX12_in_0 rfl (lv_at hl 0 rfl) ?_
  refine lv_lload_n hx hb dX12_in_1 rfl (lv_at hl 1 rfl) ?_
  refine W.lcmp hx hb dX12_in_2 ?_
  refine lv_if_lt (tgt := 17) hx hb dX12_in_3 (by decide) (fun c4 => ?_) (fun c4 => ?_)
  · have c4 : a0.toInt < (0 : Int) := wk_cltT c4
    exact J17  s.heap locs ls w0 (show (-2147483648) ≤ a0.toInt by omega) (show a0.toInt ≤ 2147483647 by omega)  hw hT hF  (lv_sub hl [0, 1, 2] rfl)
  · have c4 : (0 : Int) ≤ a0.toInt := wk_cltF c4
    refine lv_lload_n hx hb dX12_in_6 rfl (lv_at hl 0 rfl) ?_
    refine lv_lload hx hb dX12_in_7 (lv_at hl 2 rfl) ?_
    refine W.lcmp hx hb dX12_in_9 ?_
    refine lv_if_gt (tgt := 17) hx hb dX12_in_10 (by decide) (fun c5 => ?_) (fun c5 => ?_)
    · have c5 : (3 : Int) < a0.toInt := wk_cgtT c5
      exact J17  s.heap locs ls w0 (show (-2147483648) ≤ a0.toInt by omega) (show a0.toInt ≤ 2147483647 by omega)  hw hT hF  (lv_sub hl [0, 1, 2] rfl)
    · have c5 : a0.toInt ≤ (3 : Int) := wk_cgtF c5
      refine lv_iconst (v := 1) hx hb dX12_in_13 (by decide) ?_
      refine lv_goto (tgt := 18) hx hb dX12_in_14 (by decide) ?_
      exact tk_zret hC hr rfl hlocks hK ⟨hT, hF, (Or.inr ⟨rfl, (show 0 ≤ a0.toInt by omega), (show a0.toInt ≤ 3 by omega)⟩)⟩ hw dX12_in_18
abbrev P_X12_misprint_1 (ad : Nat → Nat) (cy : Nat → ClassId) (B : Int) (qr : Nat) (s1 : Int) (a1 : Int32) (a2 : Int32) (a3 : Int32) (w0 : va_W) : Int32 → va_W → Prop := fun r u => TW ksM ad cy B qr 12 u ∧ FE ksM [(71, 168, 215)] w0 u ∧ ((0 ≤ a1.toInt ∧ a1.toInt ≤ 3 ∧ 0 ≤ a2.toInt ∧ a2.toInt ≤ 11 ∧ 0 ≤ a3.toInt ∧ a3.toInt ≤ 3 ∧ (∃ y : Int32, gi u 12 1 = y ∧ 1 ≤ y.toInt ∧ y.toInt ≤ 12) ∧ (∃ y : Int32, gi u 12 4 = y ∧ 1 ≤ y.toInt ∧ y.toInt ≤ 4)) ∨ (r = (-1)))
set_option maxHeartbeats 4000000 in
set_option maxRecDepth 100000 in
theorem k_X12_misprint_1 (l : Launch) (adK adV : Nat → Nat) (dC : Nat → ClassId) (dI : Nat → Nat → Nat) (cy : Nat → ClassId) (ad : Nat → Nat) (B : Int) (hB0 : 100000 ≤ B) (hB1 : B ≤ 1073741824) (qr : Nat) (s1 : Int)  (a1 : Int32) (a2 : Int32) (a3 : Int32) (w0 : va_W) (sz : Nat) (hT : TW ksM ad cy B qr 12 w0)  : Met l yX12_misprint wsX12_misprint ({ frames := 2, cells := 0, slots := 0, locals := 37 }) (va_Pc [.ref (ad 0), .int a1, .int a2, .int a3] (wpreS adK adV dC dI cy sz w0)) (va_Qi (P_X12_misprint_1 ad cy B qr s1 a1 a2 a3 w0) (fun u : va_W => wpost dC dI cy (va_A w0 sz) u) (va_A w0 sz)) 0 0 (va_A w0 sz) := by
  refine Met.ofW (cc := cX12_misprint) (maxL := 5) (ret := (some .int)) (by decide) rfl ?_
  intro p e s m args below meth c s₁ Bk hml hv
  obtain ⟨rfl, ⟨hsz, hP, hK, hD0⟩, hE, hSR⟩ := hv
  have hx := Bk.exec
  have hb := Bk.bytes
  have hr := Bk.returns
  have hlocks := Bk.notSynchronized
  have hC : CallFix p m c cX12_misprint 5 s _ wsX12_misprint RX12 := ⟨hx, hb, hml, findClass_of_methodNamed Bk.named, atoms_spec (ws := wsX12_misprint) Bk.pre⟩
  subst hsz
  have hD := hD0.self (sz := s.heap.size)
  generalize hAe : va_A w0 s.heap.size = A at hD hE ⊢
  have hA : ∀ q : Nat, s.heap.size ≤ q → A q := fun q h => by rw [← hAe]; exact Or.inr h
  have hw : Wd dC dI A s.heap s.heap [] w0 := ⟨hP, hD, va_S.rf⟩
  have hF : FE ksM [(71, 168, 215)] w0 w0 := FE.rf
  have hl := lv_entry ([.ref (ad 0), .int a1, .int a2, .int a3]) (n := 5) (Nat.le_of_ble_eq_true rfl)
  rw [lg_entry_eq]
  generalize (lg_sl ([.ref (ad 0), .int a1, .int a2, .int a3]) ++ List.replicate (5 - (lg_sl ([.ref (ad 0), .int a1, .int a2, .int a3])).length) Slot.unset).toArray = ls at hl ⊢
  have hl : lv_has ls 5 [(0, .ref (ad 0)), (1, .int a1), (2, .int a2), (3, .int a3)] := hl
  generalize hloc : ([] : List Loc) = locs at hw ⊢
  have hinX12 : ∀ w ∈ u_ws RX12 TX12 42, w ∈ wsX12_misprint := fun _ h => List.mem_cons_of_mem _ (List.mem_append_right _ (h))
  have J28 : ∀ (H : Heap) (locs : List Loc) (ls : Array Slot) (w1 : va_W), Wd dC dI A s.heap H locs w1 → TW ksM ad cy B qr 12 w1 → FE ksM [(71, 168, 215)] w0 w1 → lv_has ls 5 [(0, .ref (ad 0)), (1, .int a1), (2, .int a2), (3, .int a3)] → W p l e ({ frames := 2, cells := 0, slots := 0, locals := 37 }) s m (List.toArray [.ref (ad 0), .int a1, .int a2, .int a3]) below meth c H locs 0 0 (MQ below (va_Qi (P_X12_misprint_1 ad cy B qr s1 a1 a2 a3 w0) (fun u : va_W => wpost dC dI cy A u) A) (List.toArray [.ref (ad 0), .int a1, .int a2, .int a3]) s 0 0 A) (F0 m 28 ls []) := by
    intro H locs ls w1 hw hT hF hl
    refine lv_iconst (v := (-1)) hx hb dX12_misprint_28 (by decide) ?_
    exact tk_iret hC hr hlocks hK ⟨hT, hF, (Or.inr rfl)⟩ hw dX12_misprint_29
  refine lv_aload_n hx hb dX12_misprint_0 rfl (lv_at hl 0 rfl) ?_
  refine lv_iload_n hx hb dX12_misprint_1 rfl (lv_at hl 1 rfl) ?_
  refine tk_Vi hC hK hw hT hA hE hSR kM_at0 (by decide) rfl (k_X12_isMap_1 l adK adV dC dI cy ad B (by omega) (by omega) qr s1   a1 w0 s.heap.size hT ) (cwV 1 hC.2.2.2.2 gX12_misprint_X12_isMap rfl rfl rfl (by decide +kernel) ⟨Nat.le_of_ble_eq_true rfl, Nat.le_of_ble_eq_true rfl⟩) rfl hl.1 rfl (Nat.le_of_ble_eq_true rfl) dX12_misprint_2 (fun r2 w4 H locs hp3 hw => ?_)
  obtain ⟨hT, k5, hg10⟩ := hp3
  have hF := hF.tr k5 (by decide)
  rcases hg10 with rfl | ⟨rfl, g6, g7, ⟨x8, c9, rx8, tx8⟩⟩
  · refine lv_if_eq (tgt := 28) hx hb dX12_misprint_5 (by decide) (fun _ => ?_) (fun c => absurd (by decide) c)
    exact J28  H locs ls w4   hw hT hF  (lv_sub hl [0, 1, 2, 3] rfl)
  · refine lv_if_eq (tgt := 28) hx hb dX12_misprint_5 (by decide) (fun c => absurd c (by decide)) (fun _ => ?_)
    refine lv_aload_n hx hb dX12_misprint_8 rfl (lv_at hl 0 rfl) ?_
    refine lv_iload_n hx hb dX12_misprint_9 rfl (lv_at hl 2 rfl) ?_
    refine tk_Vi hC hK hw hT hA hE hSR kM_at0 (by decide) rfl (k_X12_isStreet_1 l adK adV dC dI cy ad B (by omega) (by omega) qr s1   a2 w4 H.size hT ) (cwV 1 hC.2.2.2.2 gX12_misprint_X12_isStreet rfl rfl rfl (by decide +kernel) ⟨Nat.le_of_ble_eq_true rfl, Nat.le_of_ble_eq_true rfl⟩) rfl hl.1 rfl (Nat.le_of_ble_eq_true rfl) dX12_misprint_10 (fun r11 w13 H locs hp12 hw => ?_)
    obtain ⟨hT, k14, hg19⟩ := hp12
    have hF := hF.tr k14 (by decide)
    have c20 := k14.gi kM_at12 (by decide) c9
    rcases hg19 with rfl | ⟨rfl, g15, g16, ⟨x17, c18, rx17, tx17⟩⟩
    · refine lv_if_eq (tgt := 28) hx hb dX12_misprint_13 (by decide) (fun _ => ?_) (fun c => absurd (by decide) c)
      exact J28  H locs ls w13   hw hT hF  (lv_sub hl [0, 1, 2, 3] rfl)
    · refine lv_if_eq (tgt := 28) hx hb dX12_misprint_13 (by decide) (fun c => absurd c (by decide)) (fun _ => ?_)
      refine lv_iload_n hx hb dX12_misprint_16 rfl (lv_at hl 3 rfl) ?_
      refine lv_i2l hx hb dX12_misprint_17 rfl ?_
      refine lv_topl (fun x21 ex21 => ?_)
      have ex21 : x21.toInt = a3.toInt := by rw [ex21]; exact wk_i2l _
      have bx21 := wk_i32 a3
      refine lv_lconst (v := 0) hx hb dX12_misprint_18 (by decide) ?_
      refine lv_ldc2 (v := 3) hx hb hC.2.2.2.1 (hC.2.2.2.2 _ (List.mem_of_getElem? (i := 1) rfl)) dX12_misprint_19 ?_
      refine tk_Si hC hK hw hT hA hE hSR (k_X12_in_11 l adK adV dC dI cy ad B (by omega) (by omega) qr s1   x21 (show (-2147483648) ≤ x21.toInt by omega) (show x21.toInt ≤ 2147483647 by omega) w13 H.size hT ) (va_cwS 3 hC.2.2.2.2 gX12_misprint_X12_in rfl rfl rfl (by decide +kernel) ⟨Nat.le_of_ble_eq_true rfl, Nat.le_of_ble_eq_true rfl⟩) rfl hl.1 rfl (Nat.le_of_ble_eq_true rfl) dX12_misprint_22 (fun r22 w24 H locs hp23 hw => ?_)
      obtain ⟨hT, k25, hg28⟩ := hp23
      have hF := hF.tr k25 (by decide)
      have c29 := k25.gi kM_at12 (by decide) c20
      have c30 := k25.gi kM_at12 (by decide) c18
      rcases hg28 with rfl | ⟨rfl, g26, g27⟩
      · refine lv_if_ne (tgt := 30) hx hb dX12_misprint_25 (by decide) (fun c => absurd (by decide) c) (fun _ => ?_)
        exact J28  H locs ls w24   hw hT hF  (lv_sub hl [0, 1, 2, 3] rfl)
      · refine lv_if_ne (tgt := 30) hx hb dX12_misprint_25 (by decide) (fun _ => ?_) (fun c => absurd c (by decide))
        refine lv_aload_n hx hb dX12_misprint_30 rfl (lv_at hl 0 rfl) ?_
        refine tk_getA hC hK hw hT hinX12 kM_at0 (by decide) rfl 26 (by decide) (List.mem_of_getElem? (i := 2) rfl) rfl rfl dX12_misprint_31 ?_
        refine lv_sipush (v := 168) hx hb dX12_misprint_34 (by decide) ?_
        refine lv_bipush (v := 12) hx hb dX12_misprint_37 (by decide) ?_
        refine lv_iload_n hx hb dX12_misprint_39 rfl (lv_at hl 1 rfl) ?_
        refine lv_imul hx hb dX12_misprint_40 ?_
        refine lv_topi (fun x31 ex31 => ?_)
        have ex31 : x31.toInt = (12 : Int) * a1.toInt := by rw [ex31]; exact wk_mul (show (-2147483648) ≤ (12 : Int) * a1.toInt by omega) (show (12 : Int) * a1.toInt ≤ 2147483647 by omega)
        refine lv_iadd hx hb dX12_misprint_41 ?_
        refine lv_topi (fun x32 ex32 => ?_)
        have ex32 : x32.toInt = (168 : Int) + x31.toInt := by rw [ex32]; exact wk_add (show (-2147483648) ≤ (168 : Int) + x31.toInt by omega) (show (168 : Int) + x31.toInt ≤ 2147483647 by omega)
        refine lv_iload_n hx hb dX12_misprint_42 rfl (lv_at hl 2 rfl) ?_
        refine lv_iadd hx hb dX12_misprint_43 ?_
        refine lv_topi (fun x33 ex33 => ?_)
        have ex33 : x33.toInt = x32.toInt + a2.toInt := by rw [ex33]; exact wk_add (show (-2147483648) ≤ x32.toInt + a2.toInt by omega) (show x32.toInt + a2.toInt ≤ 2147483647 by omega)
        refine tk_ialdR hC hK hw hT kM_at12 rfl (show 0 ≤ x33.toInt by omega) (show x33.toInt < 296 by omega) dX12_misprint_44 (fun x34 c35 Ex34 => ?_)
        refine lv_istore (lv' := [(4, .int x34), (0, .ref (ad 0)), (1, .int a1), (2, .int a2), (3, .int a3)]) hx hb dX12_misprint_45 hl (by decide) rfl (fun ls hl => ?_)
        refine lv_aload_n hx hb dX12_misprint_47 rfl (lv_at hl 1 rfl) ?_
        refine tk_getA hC hK hw hT hinX12 kM_at0 (by decide) rfl 26 (by decide) (List.mem_of_getElem? (i := 2) rfl) rfl rfl dX12_misprint_48 ?_
        refine lv_sipush (v := 168) hx hb dX12_misprint_51 (by decide) ?_
        refine lv_bipush (v := 12) hx hb dX12_misprint_54 (by decide) ?_
        refine lv_iload_n hx hb dX12_misprint_56 rfl (lv_at hl 2 rfl) ?_
        refine lv_imul hx hb dX12_misprint_57 ?_
        refine lv_topi (fun x36 ex36 => ?_)
        have ex36 : x36.toInt = (12 : Int) * a1.toInt := by rw [ex36]; exact wk_mul (show (-2147483648) ≤ (12 : Int) * a1.toInt by omega) (show (12 : Int) * a1.toInt ≤ 2147483647 by omega)
        refine lv_iadd hx hb dX12_misprint_58 ?_
        refine lv_topi (fun x37 ex37 => ?_)
        have ex37 : x37.toInt = (168 : Int) + x36.toInt := by rw [ex37]; exact wk_add (show (-2147483648) ≤ (168 : Int) + x36.toInt by omega) (show (168 : Int) + x36.toInt ≤ 2147483647 by omega)
        refine lv_iload_n hx hb dX12_misprint_59 rfl (lv_at hl 3 rfl) ?_
        refine lv_iadd hx hb dX12_misprint_60 ?_
        refine lv_topi (fun x38 ex38 => ?_)
        have ex38 : x38.toInt = x37.toInt + a2.toInt := by rw [ex38]; exact wk_add (show (-2147483648) ≤ x37.toInt + a2.toInt by omega) (show x37.toInt + a2.toInt ≤ 2147483647 by omega)
        refine lv_iload_n hx hb dX12_misprint_61 rfl (lv_at hl 4 rfl) ?_
        refine tk_iastR hC hK hw hT kM_at12 (by decide) rfl (show 0 ≤ x38.toInt by omega) (show x38.toInt < 296 by omega) (tk_rgS rfl 168 1 48 0 3 (by decide +kernel) ⟨(x38.toInt - 168).toNat, by omega, show x38.toInt.toNat = 168 + 1 * (x38.toInt - 168).toNat by omega⟩ (show 0 ≤ a3.toInt by omega) (show a3.toInt ≤ 3 by omega)) dX12_misprint_62 (fun H locs w39 hw hT k41 c40 => ?_)
        have hF := hF.put kM_at12 (inE_of (a := 168) (b := 215) (by decide) (show 168 ≤ x38.toInt.toNat by omega) (show x38.toInt.toNat ≤ 215 by omega)) k41
        have c42 := k41.gi (Or.inr (show 4 ≠ x38.toInt.toNat by omega)) c29
        have c43 := k41.gi (Or.inr (show 1 ≠ x38.toInt.toNat by omega)) c30
        refine lv_iload hx hb dX12_misprint_63 (lv_at hl 0 rfl) ?_
        exact tk_iret hC hr hlocks hK ⟨hT, hF, (Or.inl ⟨(show 0 ≤ a1.toInt by omega), (show a1.toInt ≤ 3 by omega), (show 0 ≤ a2.toInt by omega), (show a2.toInt ≤ 11 by omega), (show 0 ≤ a3.toInt by omega), (show a3.toInt ≤ 3 by omega), ⟨x17, c43, (show 1 ≤ x17.toInt by omega), (show x17.toInt ≤ 12 by omega)⟩, ⟨x8, c42, (show 1 ≤ x8.toInt by omega), (show x8.toInt ≤ 4 by omega)⟩⟩)⟩ hw dX12_misprint_65
abbrev P_X12_shown_1 (ad : Nat → Nat) (cy : Nat → ClassId) (B : Int) (qr : Nat) (s1 : Int) (a1 : Int32) (a2 : Int32) (w0 : va_W) : Int32 → va_W → Prop := fun r u => TW ksM ad cy B qr 12 u ∧ FE ksM ([] : List (Nat × Nat × Nat)) w0 u ∧ ((0 ≤ a1.toInt ∧ a1.toInt ≤ 3 ∧ 0 ≤ a2.toInt ∧ a2.toInt ≤ 11 ∧ (∃ y : Int32, gi u 12 1 = y ∧ 1 ≤ y.toInt ∧ y.toInt ≤ 12) ∧ (∃ y : Int32, gi u 12 4 = y ∧ 1 ≤ y.toInt ∧ y.toInt ≤ 4)) ∨ (r = (-1)))
set_option maxHeartbeats 4000000 in
set_option maxRecDepth 100000 in
theorem k_X12_shown_1 (l : Launch) (adK adV : Nat → Nat) (dC : Nat → ClassId) (dI : Nat → Nat → Nat) (cy : Nat → ClassId) (ad : Nat → Nat) (B : Int) (hB0 : 100000 ≤ B) (hB1 : B ≤ 1073741824) (qr : Nat) (s1 : Int)  (a1 : Int32) (a2 : Int32) (w0 : va_W) (sz : Nat) (hT : TW ksM ad cy B qr 12 w0)  : Met l yX12_shown wsX12_shown ({ frames := 2, cells := 0, slots := 0, locals := 33 }) (va_Pc [.ref (ad 0), .int a1, .int a2] (wpreS adK adV dC dI cy sz w0)) (va_Qi (P_X12_shown_1 ad cy B qr s1 a1 a2 w0) (fun u : va_W => wpost dC dI cy (va_A w0 sz) u) (va_A w0 sz)) 0 0 (va_A w0 sz) := by
  refine Met.ofW (cc := cX12_shown) (maxL := 3) (ret := (some .int)) (by decide) rfl ?_
  intro p e s m args below meth c s₁ Bk hml hv
  obtain ⟨rfl, ⟨hsz, hP, hK, hD0⟩, hE, hSR⟩ := hv
  have hx := Bk.exec
  have hb := Bk.bytes
  have hr := Bk.returns
  have hlocks := Bk.notSynchronized
  have hC : CallFix p m c cX12_shown 3 s _ wsX12_shown RX12 := ⟨hx, hb, hml, findClass_of_methodNamed Bk.named, atoms_spec (ws := wsX12_shown) Bk.pre⟩
  subst hsz
  have hD := hD0.self (sz := s.heap.size)
  generalize hAe : va_A w0 s.heap.size = A at hD hE ⊢
  have hA : ∀ q : Nat, s.heap.size ≤ q → A q := fun q h => by rw [← hAe]; exact Or.inr h
  have hw : Wd dC dI A s.heap s.heap [] w0 := ⟨hP, hD, va_S.rf⟩
  have hF : FE ksM ([] : List (Nat × Nat × Nat)) w0 w0 := FE.rf
  have hl := lv_entry ([.ref (ad 0), .int a1, .int a2]) (n := 3) (Nat.le_of_ble_eq_true rfl)
  rw [lg_entry_eq]
  generalize (lg_sl ([.ref (ad 0), .int a1, .int a2]) ++ List.replicate (3 - (lg_sl ([.ref (ad 0), .int a1, .int a2])).length) Slot.unset).toArray = ls at hl ⊢
  have hl : lv_has ls 3 [(0, .ref (ad 0)), (1, .int a1), (2, .int a2)] := hl
  generalize hloc : ([] : List Loc) = locs at hw ⊢
  have hinX12 : ∀ w ∈ u_ws RX12 TX12 42, w ∈ wsX12_shown := fun _ h => List.mem_cons_of_mem _ (List.mem_append_right _ (h))
  have J34 : ∀ (H : Heap) (locs : List Loc) (ls : Array Slot) (w1 : va_W), Wd dC dI A s.heap H locs w1 → TW ksM ad cy B qr 12 w1 → FE ksM ([] : List (Nat × Nat × Nat)) w0 w1 → lv_has ls 3 [(0, .ref (ad 0)), (1, .int a1), (2, .int a2)] → W p l e ({ frames := 2, cells := 0, slots := 0, locals := 33 }) s m (List.toArray [.ref (ad 0), .int a1, .int a2]) below meth c H locs 0 0 (MQ below (va_Qi (P_X12_shown_1 ad cy B qr s1 a1 a2 w0) (fun u : va_W => wpost dC dI cy A u) A) (List.toArray [.ref (ad 0), .int a1, .int a2]) s 0 0 A) (F0 m 34 ls []) := by
    intro H locs ls w1 hw hT hF hl
    refine lv_iconst (v := (-1)) hx hb dX12_shown_34 (by decide) ?_
    exact tk_iret hC hr hlocks hK ⟨hT, hF, (Or.inr rfl)⟩ hw dX12_shown_35
  refine lv_aload_n hx hb dX12_shown_0 rfl (lv_at hl 0 rfl) ?_
  refine lv_iload_n hx hb dX12_shown_1 rfl (lv_at hl 1 rfl) ?_
  refine tk_Vi hC hK hw hT hA hE hSR kM_at0 (by decide) rfl (k_X12_isMap_1 l adK adV dC dI cy ad B (by omega) (by omega) qr s1   a1 w0 s.heap.size hT ) (cwV 1 hC.2.2.2.2 gX12_shown_X12_isMap rfl rfl rfl (by decide +kernel) ⟨Nat.le_of_ble_eq_true rfl, Nat.le_of_ble_eq_true rfl⟩) rfl hl.1 rfl (Nat.le_of_ble_eq_true rfl) dX12_shown_2 (fun r2 w4 H locs hp3 hw => ?_)
  obtain ⟨hT, k5, hg10⟩ := hp3
  have hF := hF.tr k5 (by decide)
  rcases hg10 with rfl | ⟨rfl, g6, g7, ⟨x8, c9, rx8, tx8⟩⟩
  · refine lv_if_eq (tgt := 34) hx hb dX12_shown_5 (by decide) (fun _ => ?_) (fun c => absurd (by decide) c)
    exact J34  H locs ls w4   hw hT hF  (lv_sub hl [0, 1, 2] rfl)
  · refine lv_if_eq (tgt := 34) hx hb dX12_shown_5 (by decide) (fun c => absurd c (by decide)) (fun _ => ?_)
    refine lv_aload_n hx hb dX12_shown_8 rfl (lv_at hl 0 rfl) ?_
    refine lv_iload_n hx hb dX12_shown_9 rfl (lv_at hl 2 rfl) ?_
    refine tk_Vi hC hK hw hT hA hE hSR kM_at0 (by decide) rfl (k_X12_isStreet_1 l adK adV dC dI cy ad B (by omega) (by omega) qr s1   a2 w4 H.size hT ) (cwV 1 hC.2.2.2.2 gX12_shown_X12_isStreet rfl rfl rfl (by decide +kernel) ⟨Nat.le_of_ble_eq_true rfl, Nat.le_of_ble_eq_true rfl⟩) rfl hl.1 rfl (Nat.le_of_ble_eq_true rfl) dX12_shown_10 (fun r11 w13 H locs hp12 hw => ?_)
    obtain ⟨hT, k14, hg19⟩ := hp12
    have hF := hF.tr k14 (by decide)
    have c20 := k14.gi kM_at12 (by decide) c9
    rcases hg19 with rfl | ⟨rfl, g15, g16, ⟨x17, c18, rx17, tx17⟩⟩
    · refine lv_if_eq (tgt := 34) hx hb dX12_shown_13 (by decide) (fun _ => ?_) (fun c => absurd (by decide) c)
      exact J34  H locs ls w13   hw hT hF  (lv_sub hl [0, 1, 2] rfl)
    · refine lv_if_eq (tgt := 34) hx hb dX12_shown_13 (by decide) (fun c => absurd c (by decide)) (fun _ => ?_)
      refine lv_aload_n hx hb dX12_shown_16 rfl (lv_at hl 0 rfl) ?_
      refine tk_getA hC hK hw hT hinX12 kM_at0 (by decide) rfl 26 (by decide) (List.mem_of_getElem? (i := 1) rfl) rfl rfl dX12_shown_17 ?_
      refine lv_sipush (v := 168) hx hb dX12_shown_20 (by decide) ?_
      refine lv_bipush (v := 12) hx hb dX12_shown_23 (by decide) ?_
      refine lv_iload_n hx hb dX12_shown_25 rfl (lv_at hl 1 rfl) ?_
      refine lv_imul hx hb dX12_shown_26 ?_
      refine lv_topi (fun x21 ex21 => ?_)
      have ex21 : x21.toInt = (12 : Int) * a1.toInt := by rw [ex21]; exact wk_mul (show (-2147483648) ≤ (12 : Int) * a1.toInt by omega) (show (12 : Int) * a1.toInt ≤ 2147483647 by omega)
      refine lv_iadd hx hb dX12_shown_27 ?_
      refine lv_topi (fun x22 ex22 => ?_)
      have ex22 : x22.toInt = (168 : Int) + x21.toInt := by rw [ex22]; exact wk_add (show (-2147483648) ≤ (168 : Int) + x21.toInt by omega) (show (168 : Int) + x21.toInt ≤ 2147483647 by omega)
      refine lv_iload_n hx hb dX12_shown_28 rfl (lv_at hl 2 rfl) ?_
      refine lv_iadd hx hb dX12_shown_29 ?_
      refine lv_topi (fun x23 ex23 => ?_)
      have ex23 : x23.toInt = x22.toInt + a2.toInt := by rw [ex23]; exact wk_add (show (-2147483648) ≤ x22.toInt + a2.toInt by omega) (show x22.toInt + a2.toInt ≤ 2147483647 by omega)
      refine tk_ialdR hC hK hw hT kM_at12 rfl (show 0 ≤ x23.toInt by omega) (show x23.toInt < 296 by omega) dX12_shown_30 (fun x24 c25 Ex24 => ?_)
      refine lv_goto (tgt := 35) hx hb dX12_shown_31 (by decide) ?_
      exact tk_iret hC hr hlocks hK ⟨hT, hF, (Or.inl ⟨(show 0 ≤ a1.toInt by omega), (show a1.toInt ≤ 3 by omega), (show 0 ≤ a2.toInt by omega), (show a2.toInt ≤ 11 by omega), ⟨x17, c18, (show 1 ≤ x17.toInt by omega), (show x17.toInt ≤ 12 by omega)⟩, ⟨x8, c20, (show 1 ≤ x8.toInt by omega), (show x8.toInt ≤ 4 by omega)⟩⟩)⟩ hw dX12_shown_35
abbrev P_X12_setsOut_1 (ad : Nat → Nat) (cy : Nat → ClassId) (B : Int) (qr : Nat) (s1 : Int) (a1 : Int32) (a2 : Int32) (a3 : Int32) (a4 : Int32) (a5 : Int32) (a6 : Int32) (w0 : va_W) : va_W → Prop := fun u => TW ksM ad cy B qr 12 u ∧ FE ksM [(71, 216, 243), (71, 217, 244), (71, 218, 245), (71, 219, 246), (71, 220, 247), (71, 221, 248), (71, 222, 249), (71, 223, 250), (71, 224, 251)] w0 u ∧ ((True))
set_option maxHeartbeats 4000000 in
set_option maxRecDepth 100000 in
theorem k_X12_setsOut_1 (l : Launch) (adK adV : Nat → Nat) (dC : Nat → ClassId) (dI : Nat → Nat → Nat) (cy : Nat → ClassId) (ad : Nat → Nat) (B : Int) (hB0 : 100000 ≤ B) (hB1 : B ≤ 1073741824) (qr : Nat) (s1 : Int)  (a1 : Int32) (ra1 : 0 ≤ a1.toInt) (ta1 : a1.toInt ≤ 3) (a2 : Int32) (ra2 : 0 ≤ a2.toInt) (ta2 : a2.toInt ≤ 9) (a3 : Int32) (ra3 : 0 ≤ a3.toInt) (ta3 : a3.toInt ≤ 9) (a4 : Int32) (ra4 : 0 ≤ a4.toInt) (ta4 : a4.toInt ≤ 3) (a5 : Int32) (ra5 : (-1) ≤ a5.toInt) (ta5 : a5.toInt ≤ 5) (a6 : Int32) (ra6 : 0 ≤ a6.toInt) (ta6 : a6.toInt ≤ 99999) (w0 : va_W) (sz : Nat) (hT : TW ksM ad cy B qr 12 w0)  : Met l yX12_setsOut wsX12_setsOut ({ frames := 1, cells := 0, slots := 0, locals := 12 }) (va_Pc [.ref (ad 0), .int a1, .int a2, .int a3, .int a4, .int a5, .int a6] (wpreS adK adV dC dI cy sz w0)) (va_Qv (P_X12_setsOut_1 ad cy B qr s1 a1 a2 a3 a4 a5 a6 w0) (fun u : va_W => wpost dC dI cy (va_A w0 sz) u) (va_A w0 sz)) 0 0 (va_A w0 sz) := by
  refine Met.ofW (cc := cX12_setsOut) (maxL := 8) (ret := none) (by decide) rfl ?_
  intro p e s m args below meth c s₁ Bk hml hv
  obtain ⟨rfl, ⟨hsz, hP, hK, hD0⟩, hE, hSR⟩ := hv
  have hx := Bk.exec
  have hb := Bk.bytes
  have hr := Bk.returns
  have hlocks := Bk.notSynchronized
  have hC : CallFix p m c cX12_setsOut 8 s _ wsX12_setsOut RX12 := ⟨hx, hb, hml, findClass_of_methodNamed Bk.named, atoms_spec (ws := wsX12_setsOut) Bk.pre⟩
  subst hsz
  have hD := hD0.self (sz := s.heap.size)
  generalize hAe : va_A w0 s.heap.size = A at hD hE ⊢
  have hA : ∀ q : Nat, s.heap.size ≤ q → A q := fun q h => by rw [← hAe]; exact Or.inr h
  have hw : Wd dC dI A s.heap s.heap [] w0 := ⟨hP, hD, va_S.rf⟩
  have hF : FE ksM [(71, 216, 243), (71, 217, 244), (71, 218, 245), (71, 219, 246), (71, 220, 247), (71, 221, 248), (71, 222, 249), (71, 223, 250), (71, 224, 251)] w0 w0 := FE.rf
  have hl := lv_entry ([.ref (ad 0), .int a1, .int a2, .int a3, .int a4, .int a5, .int a6]) (n := 8) (Nat.le_of_ble_eq_true rfl)
  rw [lg_entry_eq]
  generalize (lg_sl ([.ref (ad 0), .int a1, .int a2, .int a3, .int a4, .int a5, .int a6]) ++ List.replicate (8 - (lg_sl ([.ref (ad 0), .int a1, .int a2, .int a3, .int a4, .int a5, .int a6])).length) Slot.unset).toArray = ls at hl ⊢
  have hl : lv_has ls 8 [(0, .ref (ad 0)), (1, .int a1), (2, .int a2), (3, .int a3), (4, .int a4), (5, .int a5), (6, .int a6)] := hl
  generalize hloc : ([] : List Loc) = locs at hw ⊢
  have hinX12 : ∀ w ∈ u_ws RX12 TX12 42, w ∈ wsX12_setsOut := fun _ h => List.mem_cons_of_mem _ (List.mem_append_right _ (h))
  refine lv_sipush (v := 216) hx hb dX12_setsOut_0 (by decide) ?_
  refine lv_bipush (v := 9) hx hb dX12_setsOut_3 (by decide) ?_
  refine lv_iload_n hx hb dX12_setsOut_5 rfl (lv_at hl 1 rfl) ?_
  refine lv_imul hx hb dX12_setsOut_6 ?_
  refine lv_topi (fun x1 ex1 => ?_)
  have ex1 : x1.toInt = (9 : Int) * a1.toInt := by rw [ex1]; exact wk_mul (show (-2147483648) ≤ (9 : Int) * a1.toInt by omega) (show (9 : Int) * a1.toInt ≤ 2147483647 by omega)
  refine lv_iadd hx hb dX12_setsOut_7 ?_
  refine lv_topi (fun x2 ex2 => ?_)
  have ex2 : x2.toInt = (216 : Int) + x1.toInt := by rw [ex2]; exact wk_add (show (-2147483648) ≤ (216 : Int) + x1.toInt by omega) (show (216 : Int) + x1.toInt ≤ 2147483647 by omega)
  refine lv_istore (lv' := [(7, .int x2), (0, .ref (ad 0)), (1, .int a1), (2, .int a2), (3, .int a3), (4, .int a4), (5, .int a5), (6, .int a6)]) hx hb dX12_setsOut_8 hl (by decide) rfl (fun ls hl => ?_)
  refine lv_aload_n hx hb dX12_setsOut_10 rfl (lv_at hl 1 rfl) ?_
  refine tk_getA hC hK hw hT hinX12 kM_at0 (by decide) rfl 26 (by decide) (List.mem_of_getElem? (i := 1) rfl) rfl rfl dX12_setsOut_11 ?_
  refine lv_iload hx hb dX12_setsOut_14 (lv_at hl 0 rfl) ?_
  refine lv_iload_n hx hb dX12_setsOut_16 rfl (lv_at hl 3 rfl) ?_
  refine tk_iastR hC hK hw hT kM_at12 (by decide) rfl (show 0 ≤ x2.toInt by omega) (show x2.toInt < 296 by omega) (tk_rgS rfl 216 9 4 0 9 (by decide +kernel) ⟨(a1.toInt - 0).toNat, by omega, show x2.toInt.toNat = 216 + 9 * (a1.toInt - 0).toNat by omega⟩ (show 0 ≤ a2.toInt by omega) (show a2.toInt ≤ 9 by omega)) dX12_setsOut_17 (fun H locs w3 hw hT k5 c4 => ?_)
  have hF := hF.put kM_at12 (inE_of (a := 216) (b := 243) (by decide) (show 216 ≤ x2.toInt.toNat by omega) (show x2.toInt.toNat ≤ 243 by omega)) k5
  refine lv_aload_n hx hb dX12_setsOut_18 rfl (lv_at hl 1 rfl) ?_
  refine tk_getA hC hK hw hT hinX12 kM_at0 (by decide) rfl 26 (by decide) (List.mem_of_getElem? (i := 1) rfl) rfl rfl dX12_setsOut_19 ?_
  refine lv_iload hx hb dX12_setsOut_22 (lv_at hl 0 rfl) ?_
  refine lv_iconst (v := 1) hx hb dX12_setsOut_24 (by decide) ?_
  refine lv_iadd hx hb dX12_setsOut_25 ?_
  refine lv_topi (fun x6 ex6 => ?_)
  have ex6 : x6.toInt = x2.toInt + (1 : Int) := by rw [ex6]; exact wk_add (show (-2147483648) ≤ x2.toInt + (1 : Int) by omega) (show x2.toInt + (1 : Int) ≤ 2147483647 by omega)
  refine lv_iload_n hx hb dX12_setsOut_26 rfl (lv_at hl 4 rfl) ?_
  refine tk_iastR hC hK hw hT kM_at12 (by decide) rfl (show 0 ≤ x6.toInt by omega) (show x6.toInt < 296 by omega) (tk_rgS rfl 217 9 4 0 9 (by decide +kernel) ⟨(a1.toInt - 0).toNat, by omega, show x6.toInt.toNat = 217 + 9 * (a1.toInt - 0).toNat by omega⟩ (show 0 ≤ a3.toInt by omega) (show a3.toInt ≤ 9 by omega)) dX12_setsOut_27 (fun H locs w7 hw hT k9 c8 => ?_)
  have hF := hF.put kM_at12 (inE_of (a := 217) (b := 244) (by decide) (show 217 ≤ x6.toInt.toNat by omega) (show x6.toInt.toNat ≤ 244 by omega)) k9
  refine lv_aload_n hx hb dX12_setsOut_28 rfl (lv_at hl 1 rfl) ?_
  refine tk_getA hC hK hw hT hinX12 kM_at0 (by decide) rfl 26 (by decide) (List.mem_of_getElem? (i := 1) rfl) rfl rfl dX12_setsOut_29 ?_
  refine lv_iload hx hb dX12_setsOut_32 (lv_at hl 0 rfl) ?_
  refine lv_iconst (v := 2) hx hb dX12_setsOut_34 (by decide) ?_
  refine lv_iadd hx hb dX12_setsOut_35 ?_
  refine lv_topi (fun x10 ex10 => ?_)
  have ex10 : x10.toInt = x2.toInt + (2 : Int) := by rw [ex10]; exact wk_add (show (-2147483648) ≤ x2.toInt + (2 : Int) by omega) (show x2.toInt + (2 : Int) ≤ 2147483647 by omega)
  refine lv_iload hx hb dX12_setsOut_36 (lv_at hl 5 rfl) ?_
  refine tk_iastR hC hK hw hT kM_at12 (by decide) rfl (show 0 ≤ x10.toInt by omega) (show x10.toInt < 296 by omega) (tk_rgS rfl 218 9 4 0 3 (by decide +kernel) ⟨(a1.toInt - 0).toNat, by omega, show x10.toInt.toNat = 218 + 9 * (a1.toInt - 0).toNat by omega⟩ (show 0 ≤ a4.toInt by omega) (show a4.toInt ≤ 3 by omega)) dX12_setsOut_38 (fun H locs w11 hw hT k13 c12 => ?_)
  have hF := hF.put kM_at12 (inE_of (a := 218) (b := 245) (by decide) (show 218 ≤ x10.toInt.toNat by omega) (show x10.toInt.toNat ≤ 245 by omega)) k13
  refine lv_aload_n hx hb dX12_setsOut_39 rfl (lv_at hl 1 rfl) ?_
  refine tk_getA hC hK hw hT hinX12 kM_at0 (by decide) rfl 26 (by decide) (List.mem_of_getElem? (i := 1) rfl) rfl rfl dX12_setsOut_40 ?_
  refine lv_iload hx hb dX12_setsOut_43 (lv_at hl 0 rfl) ?_
  refine lv_iconst (v := 3) hx hb dX12_setsOut_45 (by decide) ?_
  refine lv_iadd hx hb dX12_setsOut_46 ?_
  refine lv_topi (fun x14 ex14 => ?_)
  have ex14 : x14.toInt = x2.toInt + (3 : Int) := by rw [ex14]; exact wk_add (show (-2147483648) ≤ x2.toInt + (3 : Int) by omega) (show x2.toInt + (3 : Int) ≤ 2147483647 by omega)
  refine lv_iload hx hb dX12_setsOut_47 (lv_at hl 6 rfl) ?_
  refine tk_iastR hC hK hw hT kM_at12 (by decide) rfl (show 0 ≤ x14.toInt by omega) (show x14.toInt < 296 by omega) (tk_rgS rfl 219 9 4 (-1) 5 (by decide +kernel) ⟨(a1.toInt - 0).toNat, by omega, show x14.toInt.toNat = 219 + 9 * (a1.toInt - 0).toNat by omega⟩ (show (-1) ≤ a5.toInt by omega) (show a5.toInt ≤ 5 by omega)) dX12_setsOut_49 (fun H locs w15 hw hT k17 c16 => ?_)
  have hF := hF.put kM_at12 (inE_of (a := 219) (b := 246) (by decide) (show 219 ≤ x14.toInt.toNat by omega) (show x14.toInt.toNat ≤ 246 by omega)) k17
  refine lv_aload_n hx hb dX12_setsOut_50 rfl (lv_at hl 1 rfl) ?_
  refine tk_getA hC hK hw hT hinX12 kM_at0 (by decide) rfl 26 (by decide) (List.mem_of_getElem? (i := 1) rfl) rfl rfl dX12_setsOut_51 ?_
  refine lv_iload hx hb dX12_setsOut_54 (lv_at hl 0 rfl) ?_
  refine lv_iconst (v := 4) hx hb dX12_setsOut_56 (by decide) ?_
  refine lv_iadd hx hb dX12_setsOut_57 ?_
  refine lv_topi (fun x18 ex18 => ?_)
  have ex18 : x18.toInt = x2.toInt + (4 : Int) := by rw [ex18]; exact wk_add (show (-2147483648) ≤ x2.toInt + (4 : Int) by omega) (show x2.toInt + (4 : Int) ≤ 2147483647 by omega)
  refine lv_iload hx hb dX12_setsOut_58 (lv_at hl 7 rfl) ?_
  refine tk_iastR hC hK hw hT kM_at12 (by decide) rfl (show 0 ≤ x18.toInt by omega) (show x18.toInt < 296 by omega) ((tk_rgB rfl 220 9 4 (by decide +kernel) ⟨(a1.toInt - 0).toNat, by omega, show x18.toInt.toNat = 220 + 9 * (a1.toInt - 0).toNat by omega⟩).mpr ⟨(show 0 ≤ a6.toInt by omega), (show a6.toInt ≤ B by omega)⟩) dX12_setsOut_60 (fun H locs w19 hw hT k21 c20 => ?_)
  have hF := hF.put kM_at12 (inE_of (a := 220) (b := 247) (by decide) (show 220 ≤ x18.toInt.toNat by omega) (show x18.toInt.toNat ≤ 247 by omega)) k21
  refine lv_aload_n hx hb dX12_setsOut_61 rfl (lv_at hl 1 rfl) ?_
  refine tk_getA hC hK hw hT hinX12 kM_at0 (by decide) rfl 26 (by decide) (List.mem_of_getElem? (i := 1) rfl) rfl rfl dX12_setsOut_62 ?_
  refine lv_iload hx hb dX12_setsOut_65 (lv_at hl 0 rfl) ?_
  refine lv_iconst (v := 5) hx hb dX12_setsOut_67 (by decide) ?_
  refine lv_iadd hx hb dX12_setsOut_68 ?_
  refine lv_topi (fun x22 ex22 => ?_)
  have ex22 : x22.toInt = x2.toInt + (5 : Int) := by rw [ex22]; exact wk_add (show (-2147483648) ≤ x2.toInt + (5 : Int) by omega) (show x2.toInt + (5 : Int) ≤ 2147483647 by omega)
  refine lv_iconst (v := 0) hx hb dX12_setsOut_69 (by decide) ?_
  refine tk_iastR hC hK hw hT kM_at12 (by decide) rfl (show 0 ≤ x22.toInt by omega) (show x22.toInt < 296 by omega) (tk_rg0 rfl (show 0 ≤ B by omega) (by decide)) dX12_setsOut_70 (fun H locs w23 hw hT k25 c24 => ?_)
  have hF := hF.put kM_at12 (inE_of (a := 221) (b := 248) (by decide) (show 221 ≤ x22.toInt.toNat by omega) (show x22.toInt.toNat ≤ 248 by omega)) k25
  refine lv_aload_n hx hb dX12_setsOut_71 rfl (lv_at hl 1 rfl) ?_
  refine tk_getA hC hK hw hT hinX12 kM_at0 (by decide) rfl 26 (by decide) (List.mem_of_getElem? (i := 1) rfl) rfl rfl dX12_setsOut_72 ?_
  refine lv_iload hx hb dX12_setsOut_75 (lv_at hl 0 rfl) ?_
  refine lv_bipush (v := 6) hx hb dX12_setsOut_77 (by decide) ?_
  refine lv_iadd hx hb dX12_setsOut_79 ?_
  refine lv_topi (fun x26 ex26 => ?_)
  have ex26 : x26.toInt = x2.toInt + (6 : Int) := by rw [ex26]; exact wk_add (show (-2147483648) ≤ x2.toInt + (6 : Int) by omega) (show x2.toInt + (6 : Int) ≤ 2147483647 by omega)
  refine lv_iconst (v := 0) hx hb dX12_setsOut_80 (by decide) ?_
  refine tk_iastR hC hK hw hT kM_at12 (by decide) rfl (show 0 ≤ x26.toInt by omega) (show x26.toInt < 296 by omega) (tk_rg0 rfl (show 0 ≤ B by omega) (by decide)) dX12_setsOut_81 (fun H locs w27 hw hT k29 c28 => ?_)
  have hF := hF.put kM_at12 (inE_of (a := 222) (b := 249) (by decide) (show 222 ≤ x26.toInt.toNat by omega) (show x26.toInt.toNat ≤ 249 by omega)) k29
  refine lv_aload_n hx hb dX12_setsOut_82 rfl (lv_at hl 1 rfl) ?_
  refine tk_getA hC hK hw hT hinX12 kM_at0 (by decide) rfl 26 (by decide) (List.mem_of_getElem? (i := 1) rfl) rfl rfl dX12_setsOut_83 ?_
  refine lv_iload hx hb dX12_setsOut_86 (lv_at hl 0 rfl) ?_
  refine lv_bipush (v := 7) hx hb dX12_setsOut_88 (by decide) ?_
  refine lv_iadd hx hb dX12_setsOut_90 ?_
  refine lv_topi (fun x30 ex30 => ?_)
  have ex30 : x30.toInt = x2.toInt + (7 : Int) := by rw [ex30]; exact wk_add (show (-2147483648) ≤ x2.toInt + (7 : Int) by omega) (show x2.toInt + (7 : Int) ≤ 2147483647 by omega)
  refine lv_iconst (v := (-1)) hx hb dX12_setsOut_91 (by decide) ?_
  refine tk_iastR hC hK hw hT kM_at12 (by decide) rfl (show 0 ≤ x30.toInt by omega) (show x30.toInt < 296 by omega) (tk_rgS rfl 223 9 4 (-1) (-1) (by decide +kernel) ⟨(a1.toInt - 0).toNat, by omega, show x30.toInt.toNat = 223 + 9 * (a1.toInt - 0).toNat by omega⟩ (by decide) (by decide)) dX12_setsOut_92 (fun H locs w31 hw hT k33 c32 => ?_)
  have hF := hF.put kM_at12 (inE_of (a := 223) (b := 250) (by decide) (show 223 ≤ x30.toInt.toNat by omega) (show x30.toInt.toNat ≤ 250 by omega)) k33
  refine lv_aload_n hx hb dX12_setsOut_93 rfl (lv_at hl 1 rfl) ?_
  refine tk_getA hC hK hw hT hinX12 kM_at0 (by decide) rfl 26 (by decide) (List.mem_of_getElem? (i := 1) rfl) rfl rfl dX12_setsOut_94 ?_
  refine lv_iload hx hb dX12_setsOut_97 (lv_at hl 0 rfl) ?_
  refine lv_bipush (v := 8) hx hb dX12_setsOut_99 (by decide) ?_
  refine lv_iadd hx hb dX12_setsOut_101 ?_
  refine lv_topi (fun x34 ex34 => ?_)
  have ex34 : x34.toInt = x2.toInt + (8 : Int) := by rw [ex34]; exact wk_add (show (-2147483648) ≤ x2.toInt + (8 : Int) by omega) (show x2.toInt + (8 : Int) ≤ 2147483647 by omega)
  refine lv_iconst (v := (-1)) hx hb dX12_setsOut_102 (by decide) ?_
  refine tk_iastR hC hK hw hT kM_at12 (by decide) rfl (show 0 ≤ x34.toInt by omega) (show x34.toInt < 296 by omega) (tk_rgS rfl 224 9 4 (-1) (-1) (by decide +kernel) ⟨(a1.toInt - 0).toNat, by omega, show x34.toInt.toNat = 224 + 9 * (a1.toInt - 0).toNat by omega⟩ (by decide) (by decide)) dX12_setsOut_103 (fun H locs w35 hw hT k37 c36 => ?_)
  have hF := hF.put kM_at12 (inE_of (a := 224) (b := 251) (by decide) (show 224 ≤ x34.toInt.toNat by omega) (show x34.toInt.toNat ≤ 251 by omega)) k37
  exact tk_vret hC hr hlocks hK ⟨hT, hF, trivial⟩ hw dX12_setsOut_104
abbrev P_X12_isRule_1 (ad : Nat → Nat) (cy : Nat → ClassId) (B : Int) (qr : Nat) (s1 : Int) (a1 : Int32) (w0 : va_W) : Int32 → va_W → Prop := fun r u => TW ksM ad cy B qr 12 u ∧ FE ksM ([] : List (Nat × Nat × Nat)) w0 u ∧ ((r = 0) ∨ (r = 1 ∧ 0 ≤ a1.toInt ∧ a1.toInt ≤ 5 ∧ (∃ y : Int32, gi u 0 2 = y ∧ 1 ≤ y.toInt ∧ y.toInt ≤ 6)))
set_option maxHeartbeats 4000000 in
set_option maxRecDepth 100000 in
theorem k_X12_isRule_1 (l : Launch) (adK adV : Nat → Nat) (dC : Nat → ClassId) (dI : Nat → Nat → Nat) (cy : Nat → ClassId) (ad : Nat → Nat) (B : Int) (hB0 : 100000 ≤ B) (hB1 : B ≤ 1073741824) (qr : Nat) (s1 : Int)  (a1 : Int32) (w0 : va_W) (sz : Nat) (hT : TW ksM ad cy B qr 12 w0)  : Met l yX12_isRule wsX12_isRule ({ frames := 1, cells := 0, slots := 0, locals := 12 }) (va_Pc [.ref (ad 0), .int a1] (wpreS adK adV dC dI cy sz w0)) (va_Qi (P_X12_isRule_1 ad cy B qr s1 a1 w0) (fun u : va_W => wpost dC dI cy (va_A w0 sz) u) (va_A w0 sz)) 0 0 (va_A w0 sz) := by
  refine Met.ofW (cc := cX12_isRule) (maxL := 2) (ret := (some .boolean)) (by decide) rfl ?_
  intro p e s m args below meth c s₁ Bk hml hv
  obtain ⟨rfl, ⟨hsz, hP, hK, hD0⟩, hE, hSR⟩ := hv
  have hx := Bk.exec
  have hb := Bk.bytes
  have hr := Bk.returns
  have hlocks := Bk.notSynchronized
  have hC : CallFix p m c cX12_isRule 2 s _ wsX12_isRule RX12 := ⟨hx, hb, hml, findClass_of_methodNamed Bk.named, atoms_spec (ws := wsX12_isRule) Bk.pre⟩
  subst hsz
  have hD := hD0.self (sz := s.heap.size)
  generalize hAe : va_A w0 s.heap.size = A at hD hE ⊢
  have hA : ∀ q : Nat, s.heap.size ≤ q → A q := fun q h => by rw [← hAe]; exact Or.inr h
  have hw : Wd dC dI A s.heap s.heap [] w0 := ⟨hP, hD, va_S.rf⟩
  have hF : FE ksM ([] : List (Nat × Nat × Nat)) w0 w0 := FE.rf
  have hl := lv_entry ([.ref (ad 0), .int a1]) (n := 2) (Nat.le_of_ble_eq_true rfl)
  rw [lg_entry_eq]
  generalize (lg_sl ([.ref (ad 0), .int a1]) ++ List.replicate (2 - (lg_sl ([.ref (ad 0), .int a1])).length) Slot.unset).toArray = ls at hl ⊢
  have hl : lv_has ls 2 [(0, .ref (ad 0)), (1, .int a1)] := hl
  generalize hloc : ([] : List Loc) = locs at hw ⊢
  have hinX12 : ∀ w ∈ u_ws RX12 TX12 42, w ∈ wsX12_isRule := fun _ h => List.mem_cons_of_mem _ (List.mem_append_right _ (h))
  have J16 : ∀ (H : Heap) (locs : List Loc) (ls : Array Slot) (w1 : va_W), Wd dC dI A s.heap H locs w1 → TW ksM ad cy B qr 12 w1 → FE ksM ([] : List (Nat × Nat × Nat)) w0 w1 → lv_has ls 2 [(0, .ref (ad 0)), (1, .int a1)] → W p l e ({ frames := 1, cells := 0, slots := 0, locals := 12 }) s m (List.toArray [.ref (ad 0), .int a1]) below meth c H locs 0 0 (MQ below (va_Qi (P_X12_isRule_1 ad cy B qr s1 a1 w0) (fun u : va_W => wpost dC dI cy A u) A) (List.toArray [.ref (ad 0), .int a1]) s 0 0 A) (F0 m 16 ls []) := by
    intro H locs ls w1 hw hT hF hl
    refine lv_iconst (v := 0) hx hb dX12_isRule_16 (by decide) ?_
    exact tk_zret hC hr rfl hlocks hK ⟨hT, hF, (Or.inl rfl)⟩ hw dX12_isRule_17
  refine lv_iload_n hx hb dX12_isRule_0 rfl (lv_at hl 1 rfl) ?_
  refine lv_if_lt (tgt := 16) hx hb dX12_isRule_1 (by decide) (fun c2 => ?_) (fun c2 => ?_)
  · have c2 : a1.toInt < (0 : Int) := wk_lt.mp c2
    exact J16  s.heap locs ls w0   hw hT hF  (lv_sub hl [0, 1] rfl)
  · have c2 : (0 : Int) ≤ a1.toInt := wk_ltF c2
    refine lv_iload_n hx hb dX12_isRule_4 rfl (lv_at hl 1 rfl) ?_
    refine lv_aload_n hx hb dX12_isRule_5 rfl (lv_at hl 0 rfl) ?_
    refine tk_geti hC hK hw hT hinX12 kM_at0 (by decide) rfl 2 (by decide) (List.mem_of_getElem? (i := 1) rfl) rfl rfl dX12_isRule_6 (fun x3 c4 rx3 tx3 => ?_)
    refine lv_icmp_ge (tgt := 16) hx hb dX12_isRule_9 (by decide) (fun c5 => ?_) (fun c5 => ?_)
    · have c5 : x3.toInt ≤ a1.toInt := wk_le.mp c5
      exact J16  s.heap locs ls w0   hw hT hF  (lv_sub hl [0, 1] rfl)
    · have c5 : a1.toInt < x3.toInt := wk_leF c5
      refine lv_iconst (v := 1) hx hb dX12_isRule_12 (by decide) ?_
      refine lv_goto (tgt := 17) hx hb dX12_isRule_13 (by decide) ?_
      exact tk_zret hC hr rfl hlocks hK ⟨hT, hF, (Or.inr ⟨rfl, (show 0 ≤ a1.toInt by omega), (show a1.toInt ≤ 5 by omega), ⟨x3, c4, (show 1 ≤ x3.toInt by omega), (show x3.toInt ≤ 6 by omega)⟩⟩)⟩ hw dX12_isRule_17
abbrev P_X12_walker_1 (ad : Nat → Nat) (cy : Nat → ClassId) (B : Int) (qr : Nat) (s1 : Int) (a1 : Int32) (a2 : Int32) (a3 : Int32) (a4 : Int32) (a5 : Int32) (w0 : va_W) : Int32 → va_W → Prop := fun r u => TW ksM ad cy B qr 12 u ∧ FE ksM [(71, 5, 5), (71, 216, 243), (71, 217, 244), (71, 218, 245), (71, 219, 246), (71, 220, 247), (71, 221, 248), (71, 222, 249), (71, 223, 250), (71, 224, 251)] w0 u ∧ ((r = (-2)) ∨ (0 ≤ r.toInt ∧ r.toInt ≤ 3 ∧ 0 ≤ a1.toInt ∧ a1.toInt ≤ 9 ∧ 0 ≤ a2.toInt ∧ a2.toInt ≤ 9 ∧ 0 ≤ a3.toInt ∧ a3.toInt ≤ 3 ∧ (-1) ≤ a4.toInt ∧ a4.toInt ≤ 5 ∧ 0 ≤ a5.toInt ∧ a5.toInt ≤ 99999 ∧ (∃ y : Int32, gi u 12 0 = y ∧ 1 ≤ y.toInt ∧ y.toInt ≤ 10) ∧ (∃ y : Int32, gi u 12 4 = y ∧ 1 ≤ y.toInt ∧ y.toInt ≤ 4) ∧ (∃ y : Int32, gi u 12 5 = y ∧ 1 ≤ y.toInt ∧ y.toInt ≤ 4)))
set_option maxHeartbeats 4000000 in
set_option maxRecDepth 100000 in
theorem k_X12_walker_1 (l : Launch) (adK adV : Nat → Nat) (dC : Nat → ClassId) (dI : Nat → Nat → Nat) (cy : Nat → ClassId) (ad : Nat → Nat) (B : Int) (hB0 : 100000 ≤ B) (hB1 : B ≤ 1073741824) (qr : Nat) (s1 : Int)  (a1 : Int32) (a2 : Int32) (a3 : Int32) (a4 : Int32) (a5 : Int32) (w0 : va_W) (sz : Nat) (hT : TW ksM ad cy B qr 12 w0)  : Met l yX12_walker wsX12_walker ({ frames := 2, cells := 0, slots := 0, locals := 39 }) (va_Pc [.ref (ad 0), .int a1, .int a2, .int a3, .int a4, .int a5] (wpreS adK adV dC dI cy sz w0)) (va_Qi (P_X12_walker_1 ad cy B qr s1 a1 a2 a3 a4 a5 w0) (fun u : va_W => wpost dC dI cy (va_A w0 sz) u) (va_A w0 sz)) 0 0 (va_A w0 sz) := by
  refine Met.ofW (cc := cX12_walker) (maxL := 6) (ret := (some .int)) (by decide) rfl ?_
  intro p e s m args below meth c s₁ Bk hml hv
  obtain ⟨rfl, ⟨hsz, hP, hK, hD0⟩, hE, hSR⟩ := hv
  have hx := Bk.exec
  have hb := Bk.bytes
  have hr := Bk.returns
  have hlocks := Bk.notSynchronized
  have hC : CallFix p m c cX12_walker 6 s _ wsX12_walker RX12 := ⟨hx, hb, hml, findClass_of_methodNamed Bk.named, atoms_spec (ws := wsX12_walker) Bk.pre⟩
  subst hsz
  have hD := hD0.self (sz := s.heap.size)
  generalize hAe : va_A w0 s.heap.size = A at hD hE ⊢
  have hA : ∀ q : Nat, s.heap.size ≤ q → A q := fun q h => by rw [← hAe]; exact Or.inr h
  have hw : Wd dC dI A s.heap s.heap [] w0 := ⟨hP, hD, va_S.rf⟩
  have hF : FE ksM [(71, 5, 5), (71, 216, 243), (71, 217, 244), (71, 218, 245), (71, 219, 246), (71, 220, 247), (71, 221, 248), (71, 222, 249), (71, 223, 250), (71, 224, 251)] w0 w0 := FE.rf
  have hl := lv_entry ([.ref (ad 0), .int a1, .int a2, .int a3, .int a4, .int a5]) (n := 6) (Nat.le_of_ble_eq_true rfl)
  rw [lg_entry_eq]
  generalize (lg_sl ([.ref (ad 0), .int a1, .int a2, .int a3, .int a4, .int a5]) ++ List.replicate (6 - (lg_sl ([.ref (ad 0), .int a1, .int a2, .int a3, .int a4, .int a5])).length) Slot.unset).toArray = ls at hl ⊢
  have hl : lv_has ls 6 [(0, .ref (ad 0)), (1, .int a1), (2, .int a2), (3, .int a3), (4, .int a4), (5, .int a5)] := hl
  generalize hloc : ([] : List Loc) = locs at hw ⊢
  have hinX12 : ∀ w ∈ u_ws RX12 TX12 42, w ∈ wsX12_walker := fun _ h => List.mem_cons_of_mem _ (List.mem_append_right _ (h))
  have J57 : ∀ (H : Heap) (locs : List Loc) (ls : Array Slot) (w1 : va_W), Wd dC dI A s.heap H locs w1 → TW ksM ad cy B qr 12 w1 → FE ksM [(71, 5, 5), (71, 216, 243), (71, 217, 244), (71, 218, 245), (71, 219, 246), (71, 220, 247), (71, 221, 248), (71, 222, 249), (71, 223, 250), (71, 224, 251)] w0 w1 → lv_has ls 6 [(0, .ref (ad 0)), (1, .int a1), (2, .int a2), (3, .int a3), (4, .int a4), (5, .int a5)] → W p l e ({ frames := 2, cells := 0, slots := 0, locals := 39 }) s m (List.toArray [.ref (ad 0), .int a1, .int a2, .int a3, .int a4, .int a5]) below meth c H locs 0 0 (MQ below (va_Qi (P_X12_walker_1 ad cy B qr s1 a1 a2 a3 a4 a5 w0) (fun u : va_W => wpost dC dI cy A u) A) (List.toArray [.ref (ad 0), .int a1, .int a2, .int a3, .int a4, .int a5]) s 0 0 A) (F0 m 57 ls []) := by
    intro H locs ls w1 hw hT hF hl
    refine lv_bipush (v := (-2)) hx hb dX12_walker_57 (by decide) ?_
    exact tk_iret hC hr hlocks hK ⟨hT, hF, (Or.inl rfl)⟩ hw dX12_walker_59
  have J39 : ∀ (f39_12_0 : Int32) (f39_12_4 : Int32) (H : Heap) (locs : List Loc) (ls : Array Slot) (w2 : va_W), 0 ≤ a1.toInt → a1.toInt ≤ 9 → 0 ≤ a2.toInt → a2.toInt ≤ 9 → 0 ≤ a3.toInt → a3.toInt ≤ 3 → (-1) ≤ a4.toInt → a4.toInt ≤ 5 → 1 ≤ f39_12_0.toInt → f39_12_0.toInt ≤ 10 → 1 ≤ f39_12_4.toInt → f39_12_4.toInt ≤ 4 → Wd dC dI A s.heap H locs w2 → TW ksM ad cy B qr 12 w2 → FE ksM [(71, 5, 5), (71, 216, 243), (71, 217, 244), (71, 218, 245), (71, 219, 246), (71, 220, 247), (71, 221, 248), (71, 222, 249), (71, 223, 250), (71, 224, 251)] w0 w2 → gi w2 12 0 = f39_12_0 → gi w2 12 4 = f39_12_4 → lv_has ls 6 [(0, .ref (ad 0)), (1, .int a1), (2, .int a2), (3, .int a3), (4, .int a4), (5, .int a5)] → W p l e ({ frames := 2, cells := 0, slots := 0, locals := 39 }) s m (List.toArray [.ref (ad 0), .int a1, .int a2, .int a3, .int a4, .int a5]) below meth c H locs 0 0 (MQ below (va_Qi (P_X12_walker_1 ad cy B qr s1 a1 a2 a3 a4 a5 w0) (fun u : va_W => wpost dC dI cy A u) A) (List.toArray [.ref (ad 0), .int a1, .int a2, .int a3, .int a4, .int a5]) s 0 0 A) (F0 m 39 ls []) := by
    intro f39_12_0 f39_12_4 H locs ls w2 r3 t4 r5 t6 r7 t8 r9 t10 r11 t12 r14 t15 hw hT hF c13 c16 hl
    refine lv_iload hx hb dX12_walker_39 (lv_at hl 5 rfl) ?_
    refine tk_Si hC hK hw hT hA hE hSR (k_X12_isHour_1 l adK adV dC dI cy ad B (by omega) (by omega) qr s1   a5 w2 H.size hT ) (va_cwS 1 hC.2.2.2.2 gX12_walker_X12_isHour rfl rfl rfl (by decide +kernel) ⟨Nat.le_of_ble_eq_true rfl, Nat.le_of_ble_eq_true rfl⟩) rfl hl.1 rfl (Nat.le_of_ble_eq_true rfl) dX12_walker_41 (fun r17 w19 H locs hp18 hw => ?_)
    obtain ⟨hT, k20, hg23⟩ := hp18
    have hF := hF.tr k20 (by decide)
    have c24 := k20.gi kM_at12 (by decide) c13
    have c25 := k20.gi kM_at12 (by decide) c16
    rcases hg23 with rfl | ⟨rfl, g21, g22⟩
    · refine lv_if_eq (tgt := 57) hx hb dX12_walker_44 (by decide) (fun _ => ?_) (fun c => absurd (by decide) c)
      exact J57  H locs ls w19   hw hT hF  (lv_sub hl [0, 1, 2, 3, 4, 5] rfl)
    · refine lv_if_eq (tgt := 57) hx hb dX12_walker_44 (by decide) (fun c => absurd c (by decide)) (fun _ => ?_)
      refine lv_aload_n hx hb dX12_walker_47 rfl (lv_at hl 0 rfl) ?_
      refine tk_getA hC hK hw hT hinX12 kM_at0 (by decide) rfl 26 (by decide) (List.mem_of_getElem? (i := 1) rfl) rfl rfl dX12_walker_48 ?_
      refine lv_iconst (v := 5) hx hb dX12_walker_51 (by decide) ?_
      refine tk_ialdR hC hK hw hT kM_at12 rfl (by decide) (by decide) dX12_walker_52 (fun x26 c27 Ex26 => ?_)
      have bx26 := tk_rgI rfl 5 1 1 0 4 (by decide +kernel) ⟨0, by decide, by decide⟩ Ex26
      have c27 : gi w19 12 5 = x26 := c27
      refine lv_iconst (v := 4) hx hb dX12_walker_53 (by decide) ?_
      refine lv_icmp_ne (tgt := 60) hx hb dX12_walker_54 (by decide) (fun c28 => ?_) (fun c28 => ?_)
      · have c28 : ¬ x26.toInt = (4 : Int) := wk_eqF c28
        refine lv_aload_n hx hb dX12_walker_60 rfl (lv_at hl 0 rfl) ?_
        refine lv_aload_n hx hb dX12_walker_61 rfl (lv_at hl 0 rfl) ?_
        refine tk_getA hC hK hw hT hinX12 kM_at0 (by decide) rfl 26 (by decide) (List.mem_of_getElem? (i := 1) rfl) rfl rfl dX12_walker_62 ?_
        refine lv_iconst (v := 5) hx hb dX12_walker_65 (by decide) ?_
        refine tk_ialdR hC hK hw hT kM_at12 rfl (by decide) (by decide) dX12_walker_66 (fun x29 c30 Ex29 => ?_)
        refine wk_top x26 (c30.symm.trans c27) ?_
        refine lv_iload_n hx hb dX12_walker_67 rfl (lv_at hl 1 rfl) ?_
        refine lv_iload_n hx hb dX12_walker_68 rfl (lv_at hl 2 rfl) ?_
        refine lv_iload_n hx hb dX12_walker_69 rfl (lv_at hl 3 rfl) ?_
        refine lv_iload hx hb dX12_walker_70 (lv_at hl 4 rfl) ?_
        refine lv_iload hx hb dX12_walker_72 (lv_at hl 5 rfl) ?_
        refine tk_Vv hC hK hw hT hA hE hSR kM_at0 (by decide) rfl (k_X12_setsOut_1 l adK adV dC dI cy ad B (by omega) (by omega) qr s1   x26 (show 0 ≤ x26.toInt by omega) (show x26.toInt ≤ 3 by omega) a1 (show 0 ≤ a1.toInt by omega) (show a1.toInt ≤ 9 by omega) a2 (show 0 ≤ a2.toInt by omega) (show a2.toInt ≤ 9 by omega) a3 (show 0 ≤ a3.toInt by omega) (show a3.toInt ≤ 3 by omega) a4 (show (-1) ≤ a4.toInt by omega) (show a4.toInt ≤ 5 by omega) a5 (show 0 ≤ a5.toInt by omega) (show a5.toInt ≤ 99999 by omega) w19 H.size hT ) (cwV 6 hC.2.2.2.2 gX12_walker_X12_setsOut rfl rfl rfl (by decide +kernel) ⟨Nat.le_of_ble_eq_true rfl, Nat.le_of_ble_eq_true rfl⟩) rfl hl.1 rfl (Nat.le_of_ble_eq_true rfl) dX12_walker_74 (fun w33 H locs hp32 hw => ?_)
        obtain ⟨hT, k34, hg35⟩ := hp32
        have hF := hF.tr k34 (by decide)
        have c36 := k34.gi kM_at12 (by decide) c24
        have c37 := k34.gi kM_at12 (by decide) c25
        have c38 := k34.gi kM_at12 (by decide) c27
        clear hg35
        refine lv_aload_n hx hb dX12_walker_77 rfl (lv_at hl 0 rfl) ?_
        refine tk_getA hC hK hw hT hinX12 kM_at0 (by decide) rfl 26 (by decide) (List.mem_of_getElem? (i := 1) rfl) rfl rfl dX12_walker_78 ?_
        refine lv_iconst (v := 5) hx hb dX12_walker_81 (by decide) ?_
        refine lv_dup2_11 hx hb dX12_walker_82 rfl rfl ?_
        refine tk_ialdR hC hK hw hT kM_at12 rfl (by decide) (by decide) dX12_walker_83 (fun x39 c40 Ex39 => ?_)
        refine wk_top x26 (c40.symm.trans c38) ?_
        refine lv_iconst (v := 1) hx hb dX12_walker_84 (by decide) ?_
        refine lv_iadd hx hb dX12_walker_85 ?_
        refine lv_topi (fun x41 ex41 => ?_)
        have ex41 : x41.toInt = x26.toInt + (1 : Int) := by rw [ex41]; exact wk_add (show (-2147483648) ≤ x26.toInt + (1 : Int) by omega) (show x26.toInt + (1 : Int) ≤ 2147483647 by omega)
        refine tk_iastR hC hK hw hT kM_at12 (by decide) rfl (by decide) (by decide) (tk_rgS rfl 5 1 1 1 4 (by decide +kernel) ⟨0, by decide, by decide⟩ (show 1 ≤ x41.toInt by omega) (show x41.toInt ≤ 4 by omega)) dX12_walker_86 (fun H locs w42 hw hT k44 c43 => ?_)
        have hF := hF.put kM_at12 (inE_of (a := 5) (b := 5) (by decide) (by decide) (by decide)) k44
        have c45 := k44.gi (Or.inr (by decide)) c36
        have c46 := k44.gi (Or.inr (by decide)) c37
        have c43 : gi w42 12 5 = x41 := c43
        refine lv_aload_n hx hb dX12_walker_87 rfl (lv_at hl 0 rfl) ?_
        refine tk_getA hC hK hw hT hinX12 kM_at0 (by decide) rfl 26 (by decide) (List.mem_of_getElem? (i := 1) rfl) rfl rfl dX12_walker_88 ?_
        refine lv_iconst (v := 5) hx hb dX12_walker_91 (by decide) ?_
        refine tk_ialdR hC hK hw hT kM_at12 rfl (by decide) (by decide) dX12_walker_92 (fun x47 c48 Ex47 => ?_)
        refine wk_top x41 (c48.symm.trans c43) ?_
        refine lv_iconst (v := 1) hx hb dX12_walker_93 (by decide) ?_
        refine lv_isub hx hb dX12_walker_94 ?_
        refine lv_topi (fun x49 ex49 => ?_)
        have ex49 : x49.toInt = x41.toInt - (1 : Int) := by rw [ex49]; exact wk_sub (show (-2147483648) ≤ x41.toInt - (1 : Int) by omega) (show x41.toInt - (1 : Int) ≤ 2147483647 by omega)
        exact tk_iret hC hr hlocks hK ⟨hT, hF, (Or.inr ⟨(show 0 ≤ x49.toInt by omega), (show x49.toInt ≤ 3 by omega), (show 0 ≤ a1.toInt by omega), (show a1.toInt ≤ 9 by omega), (show 0 ≤ a2.toInt by omega), (show a2.toInt ≤ 9 by omega), (show 0 ≤ a3.toInt by omega), (show a3.toInt ≤ 3 by omega), (show (-1) ≤ a4.toInt by omega), (show a4.toInt ≤ 5 by omega), (show 0 ≤ a5.toInt by omega), (show a5.toInt ≤ 99999 by omega), ⟨f39_12_0, c45, (show 1 ≤ f39_12_0.toInt by omega), (show f39_12_0.toInt ≤ 10 by omega)⟩, ⟨f39_12_4, c46, (show 1 ≤ f39_12_4.toInt by omega), (show f39_12_4.toInt ≤ 4 by omega)⟩, ⟨x41, c43, (show 1 ≤ x41.toInt by omega), (show x41.toInt ≤ 4 by omega)⟩⟩)⟩ hw dX12_walker_95
      · have c28 : x26.toInt = (4 : Int) := wk_eq.mp c28
        exact J57  H locs ls w19   hw hT hF  (lv_sub hl [0, 1, 2, 3, 4, 5] rfl)
  refine lv_aload_n hx hb dX12_walker_0 rfl (lv_at hl 0 rfl) ?_
  refine lv_iload_n hx hb dX12_walker_1 rfl (lv_at hl 1 rfl) ?_
  refine tk_Vi hC hK hw hT hA hE hSR kM_at0 (by decide) rfl (k_X12_isCorner_1 l adK adV dC dI cy ad B (by omega) (by omega) qr s1   a1 w0 s.heap.size hT ) (cwV 1 hC.2.2.2.2 gX12_walker_X12_isCorner rfl rfl rfl (by decide +kernel) ⟨Nat.le_of_ble_eq_true rfl, Nat.le_of_ble_eq_true rfl⟩) rfl hl.1 rfl (Nat.le_of_ble_eq_true rfl) dX12_walker_2 (fun r50 w52 H locs hp51 hw => ?_)
  obtain ⟨hT, k53, hg58⟩ := hp51
  have hF := hF.tr k53 (by decide)
  rcases hg58 with rfl | ⟨rfl, g54, g55, ⟨x56, c57, rx56, tx56⟩⟩
  · refine lv_if_eq (tgt := 57) hx hb dX12_walker_5 (by decide) (fun _ => ?_) (fun c => absurd (by decide) c)
    exact J57  H locs ls w52   hw hT hF  (lv_sub hl [0, 1, 2, 3, 4, 5] rfl)
  · refine lv_if_eq (tgt := 57) hx hb dX12_walker_5 (by decide) (fun c => absurd c (by decide)) (fun _ => ?_)
    refine lv_aload_n hx hb dX12_walker_8 rfl (lv_at hl 0 rfl) ?_
    refine lv_iload_n hx hb dX12_walker_9 rfl (lv_at hl 2 rfl) ?_
    refine tk_Vi hC hK hw hT hA hE hSR kM_at0 (by decide) rfl (k_X12_isCorner_1 l adK adV dC dI cy ad B (by omega) (by omega) qr s1   a2 w52 H.size hT ) (cwV 1 hC.2.2.2.2 gX12_walker_X12_isCorner rfl rfl rfl (by decide +kernel) ⟨Nat.le_of_ble_eq_true rfl, Nat.le_of_ble_eq_true rfl⟩) rfl hl.1 rfl (Nat.le_of_ble_eq_true rfl) dX12_walker_10 (fun r59 w61 H locs hp60 hw => ?_)
    obtain ⟨hT, k62, hg67⟩ := hp60
    have hF := hF.tr k62 (by decide)
    have c68 := k62.gi kM_at12 (by decide) c57
    rcases hg67 with rfl | ⟨rfl, g63, g64, ⟨x65, c66, rx65, tx65⟩⟩
    · refine lv_if_eq (tgt := 57) hx hb dX12_walker_13 (by decide) (fun _ => ?_) (fun c => absurd (by decide) c)
      exact J57  H locs ls w61   hw hT hF  (lv_sub hl [0, 1, 2, 3, 4, 5] rfl)
    · have ex65 : x65.toInt = x56.toInt := by rw [← c68.symm.trans c66]
      refine lv_if_eq (tgt := 57) hx hb dX12_walker_13 (by decide) (fun c => absurd c (by decide)) (fun _ => ?_)
      refine lv_aload_n hx hb dX12_walker_16 rfl (lv_at hl 0 rfl) ?_
      refine lv_iload_n hx hb dX12_walker_17 rfl (lv_at hl 3 rfl) ?_
      refine tk_Vi hC hK hw hT hA hE hSR kM_at0 (by decide) rfl (k_X12_isMap_1 l adK adV dC dI cy ad B (by omega) (by omega) qr s1   a3 w61 H.size hT ) (cwV 1 hC.2.2.2.2 gX12_walker_X12_isMap rfl rfl rfl (by decide +kernel) ⟨Nat.le_of_ble_eq_true rfl, Nat.le_of_ble_eq_true rfl⟩) rfl hl.1 rfl (Nat.le_of_ble_eq_true rfl) dX12_walker_18 (fun r69 w71 H locs hp70 hw => ?_)
      obtain ⟨hT, k72, hg77⟩ := hp70
      have hF := hF.tr k72 (by decide)
      have c78 := k72.gi kM_at12 (by decide) c68
      rcases hg77 with rfl | ⟨rfl, g73, g74, ⟨x75, c76, rx75, tx75⟩⟩
      · refine lv_if_eq (tgt := 57) hx hb dX12_walker_21 (by decide) (fun _ => ?_) (fun c => absurd (by decide) c)
        exact J57  H locs ls w71   hw hT hF  (lv_sub hl [0, 1, 2, 3, 4, 5] rfl)
      · refine lv_if_eq (tgt := 57) hx hb dX12_walker_21 (by decide) (fun c => absurd c (by decide)) (fun _ => ?_)
        refine lv_iload hx hb dX12_walker_24 (lv_at hl 4 rfl) ?_
        refine lv_iconst (v := (-1)) hx hb dX12_walker_26 (by decide) ?_
        refine lv_icmp_eq (tgt := 39) hx hb dX12_walker_27 (by decide) (fun c79 => ?_) (fun c79 => ?_)
        · have c79 : a4.toInt = (-1 : Int) := wk_eq.mp c79
          exact J39 x56 x75 H locs ls w71 (show 0 ≤ a1.toInt by omega) (show a1.toInt ≤ 9 by omega) (show 0 ≤ a2.toInt by omega) (show a2.toInt ≤ 9 by omega) (show 0 ≤ a3.toInt by omega) (show a3.toInt ≤ 3 by omega) (show (-1) ≤ a4.toInt by omega) (show a4.toInt ≤ 5 by omega) (show 1 ≤ x56.toInt by omega) (show x56.toInt ≤ 10 by omega) (show 1 ≤ x75.toInt by omega) (show x75.toInt ≤ 4 by omega)  hw hT hF c78 c76 (lv_sub hl [0, 1, 2, 3, 4, 5] rfl)
        · have c79 : ¬ a4.toInt = (-1 : Int) := wk_eqF c79
          refine lv_aload_n hx hb dX12_walker_30 rfl (lv_at hl 0 rfl) ?_
          refine lv_iload hx hb dX12_walker_31 (lv_at hl 4 rfl) ?_
          refine tk_Vi hC hK hw hT hA hE hSR kM_at0 (by decide) rfl (k_X12_isRule_1 l adK adV dC dI cy ad B (by omega) (by omega) qr s1   a4 w71 H.size hT ) (cwV 1 hC.2.2.2.2 gX12_walker_X12_isRule rfl rfl rfl (by decide +kernel) ⟨Nat.le_of_ble_eq_true rfl, Nat.le_of_ble_eq_true rfl⟩) rfl hl.1 rfl (Nat.le_of_ble_eq_true rfl) dX12_walker_33 (fun r80 w82 H locs hp81 hw => ?_)
          obtain ⟨hT, k83, hg88⟩ := hp81
          have hF := hF.tr k83 (by decide)
          have c89 := k83.gi kM_at12 (by decide) c78
          have c90 := k83.gi kM_at12 (by decide) c76
          rcases hg88 with rfl | ⟨rfl, g84, g85, ⟨x86, c87, rx86, tx86⟩⟩
          · refine lv_if_eq (tgt := 57) hx hb dX12_walker_36 (by decide) (fun _ => ?_) (fun c => absurd (by decide) c)
            exact J57  H locs ls w82   hw hT hF  (lv_sub hl [0, 1, 2, 3, 4, 5] rfl)
          · refine lv_if_eq (tgt := 57) hx hb dX12_walker_36 (by decide) (fun c => absurd c (by decide)) (fun _ => ?_)
            exact J39 x56 x75 H locs ls w82 (show 0 ≤ a1.toInt by omega) (show a1.toInt ≤ 9 by omega) (show 0 ≤ a2.toInt by omega) (show a2.toInt ≤ 9 by omega) (show 0 ≤ a3.toInt by omega) (show a3.toInt ≤ 3 by omega) (show (-1) ≤ a4.toInt by omega) (show a4.toInt ≤ 5 by omega) (show 1 ≤ x56.toInt by omega) (show x56.toInt ≤ 10 by omega) (show 1 ≤ x75.toInt by omega) (show x75.toInt ≤ 4 by omega)  hw hT hF c89 c90 (lv_sub hl [0, 1, 2, 3, 4, 5] rfl)
abbrev P_X12_isWalker_1 (ad : Nat → Nat) (cy : Nat → ClassId) (B : Int) (qr : Nat) (s1 : Int) (a1 : Int32) (w0 : va_W) : Int32 → va_W → Prop := fun r u => TW ksM ad cy B qr 12 u ∧ FE ksM ([] : List (Nat × Nat × Nat)) w0 u ∧ ((r = 0) ∨ (r = 1 ∧ 0 ≤ a1.toInt ∧ a1.toInt ≤ 3 ∧ (∃ y : Int32, gi u 12 5 = y ∧ 1 ≤ y.toInt ∧ y.toInt ≤ 4)))
set_option maxHeartbeats 4000000 in
set_option maxRecDepth 100000 in
theorem k_X12_isWalker_1 (l : Launch) (adK adV : Nat → Nat) (dC : Nat → ClassId) (dI : Nat → Nat → Nat) (cy : Nat → ClassId) (ad : Nat → Nat) (B : Int) (hB0 : 100000 ≤ B) (hB1 : B ≤ 1073741824) (qr : Nat) (s1 : Int)  (a1 : Int32) (w0 : va_W) (sz : Nat) (hT : TW ksM ad cy B qr 12 w0)  : Met l yX12_isWalker wsX12_isWalker ({ frames := 1, cells := 0, slots := 0, locals := 12 }) (va_Pc [.ref (ad 0), .int a1] (wpreS adK adV dC dI cy sz w0)) (va_Qi (P_X12_isWalker_1 ad cy B qr s1 a1 w0) (fun u : va_W => wpost dC dI cy (va_A w0 sz) u) (va_A w0 sz)) 0 0 (va_A w0 sz) := by
  refine Met.ofW (cc := cX12_isWalker) (maxL := 2) (ret := (some .boolean)) (by decide) rfl ?_
  intro p e s m args below meth c s₁ Bk hml hv
  obtain ⟨rfl, ⟨hsz, hP, hK, hD0⟩, hE, hSR⟩ := hv
  have hx := Bk.exec
  have hb := Bk.bytes
  have hr := Bk.returns
  have hlocks := Bk.notSynchronized
  have hC : CallFix p m c cX12_isWalker 2 s _ wsX12_isWalker RX12 := ⟨hx, hb, hml, findClass_of_methodNamed Bk.named, atoms_spec (ws := wsX12_isWalker) Bk.pre⟩
  subst hsz
  have hD := hD0.self (sz := s.heap.size)
  generalize hAe : va_A w0 s.heap.size = A at hD hE ⊢
  have hA : ∀ q : Nat, s.heap.size ≤ q → A q := fun q h => by rw [← hAe]; exact Or.inr h
  have hw : Wd dC dI A s.heap s.heap [] w0 := ⟨hP, hD, va_S.rf⟩
  have hF : FE ksM ([] : List (Nat × Nat × Nat)) w0 w0 := FE.rf
  have hl := lv_entry ([.ref (ad 0), .int a1]) (n := 2) (Nat.le_of_ble_eq_true rfl)
  rw [lg_entry_eq]
  generalize (lg_sl ([.ref (ad 0), .int a1]) ++ List.replicate (2 - (lg_sl ([.ref (ad 0), .int a1])).length) Slot.unset).toArray = ls at hl ⊢
  have hl : lv_has ls 2 [(0, .ref (ad 0)), (1, .int a1)] := hl
  generalize hloc : ([] : List Loc) = locs at hw ⊢
  have hinX12 : ∀ w ∈ u_ws RX12 TX12 42, w ∈ wsX12_isWalker := fun _ h => List.mem_cons_of_mem _ (List.mem_append_right _ (h))
  have J18 : ∀ (H : Heap) (locs : List Loc) (ls : Array Slot) (w1 : va_W), Wd dC dI A s.heap H locs w1 → TW ksM ad cy B qr 12 w1 → FE ksM ([] : List (Nat × Nat × Nat)) w0 w1 → lv_has ls 2 [(0, .ref (ad 0)), (1, .int a1)] → W p l e ({ frames := 1, cells := 0, slots := 0, locals := 12 }) s m (List.toArray [.ref (ad 0), .int a1]) below meth c H locs 0 0 (MQ below (va_Qi (P_X12_isWalker_1 ad cy B qr s1 a1 w0) (fun u : va_W => wpost dC dI cy A u) A) (List.toArray [.ref (ad 0), .int a1]) s 0 0 A) (F0 m 18 ls []) := by
    intro H locs ls w1 hw hT hF hl
    refine lv_iconst (v := 0) hx hb dX12_isWalker_18 (by decide) ?_
    exact tk_zret hC hr rfl hlocks hK ⟨hT, hF, (Or.inl rfl)⟩ hw dX12_isWalker_19
  refine lv_iload_n hx hb dX12_isWalker_0 rfl (lv_at hl 1 rfl) ?_
  refine lv_if_lt (tgt := 18) hx hb dX12_isWalker_1 (by decide) (fun c2 => ?_) (fun c2 => ?_)
  · have c2 : a1.toInt < (0 : Int) := wk_lt.mp c2
    exact J18  s.heap locs ls w0   hw hT hF  (lv_sub hl [0, 1] rfl)
  · have c2 : (0 : Int) ≤ a1.toInt := wk_ltF c2
    refine lv_iload_n hx hb dX12_isWalker_4 rfl (lv_at hl 1 rfl) ?_
    refine lv_aload_n hx hb dX12_isWalker_5 rfl (lv_at hl 0 rfl) ?_
    refine tk_getA hC hK hw hT hinX12 kM_at0 (by decide) rfl 26 (by decide) (List.mem_of_getElem? (i := 1) rfl) rfl rfl dX12_isWalker_6 ?_
    refine lv_iconst (v := 5) hx hb dX12_isWalker_9 (by decide) ?_
    refine tk_ialdR hC hK hw hT kM_at12 rfl (by decide) (by decide) dX12_isWalker_10 (fun x3 c4 Ex3 => ?_)
    have bx3 := tk_rgI rfl 5 1 1 0 4 (by decide +kernel) ⟨0, by decide, by decide⟩ Ex3
    have c4 : gi w0 12 5 = x3 := c4
    refine lv_icmp_ge (tgt := 18) hx hb dX12_isWalker_11 (by decide) (fun c5 => ?_) (fun c5 => ?_)
    · have c5 : x3.toInt ≤ a1.toInt := wk_le.mp c5
      exact J18  s.heap locs ls w0   hw hT hF  (lv_sub hl [0, 1] rfl)
    · have c5 : a1.toInt < x3.toInt := wk_leF c5
      refine lv_iconst (v := 1) hx hb dX12_isWalker_14 (by decide) ?_
      refine lv_goto (tgt := 19) hx hb dX12_isWalker_15 (by decide) ?_
      exact tk_zret hC hr rfl hlocks hK ⟨hT, hF, (Or.inr ⟨rfl, (show 0 ≤ a1.toInt by omega), (show a1.toInt ≤ 3 by omega), ⟨x3, c4, (show 1 ≤ x3.toInt by omega), (show x3.toInt ≤ 4 by omega)⟩⟩)⟩ hw dX12_isWalker_19
abbrev P_X12_in_12 (ad : Nat → Nat) (cy : Nat → ClassId) (B : Int) (qr : Nat) (s1 : Int) (a0 : Int64) (w0 : va_W) : Int32 → va_W → Prop := fun r u => TW ksM ad cy B qr 12 u ∧ FE ksM ([] : List (Nat × Nat × Nat)) w0 u ∧ ((r = 0) ∨ (r = 1 ∧ 0 ≤ a0.toInt ∧ a0.toInt ≤ 7))
set_option maxHeartbeats 4000000 in
set_option maxRecDepth 100000 in
theorem k_X12_in_12 (l : Launch) (adK adV : Nat → Nat) (dC : Nat → ClassId) (dI : Nat → Nat → Nat) (cy : Nat → ClassId) (ad : Nat → Nat) (B : Int) (hB0 : 100000 ≤ B) (hB1 : B ≤ 1073741824) (qr : Nat) (s1 : Int)  (a0 : Int64) (ra0 : (-2147483648) ≤ a0.toInt) (ta0 : a0.toInt ≤ 2147483647) (w0 : va_W) (sz : Nat) (hT : TW ksM ad cy B qr 12 w0)  : Met l yX12_in wsX12_in ({ frames := 1, cells := 0, slots := 0, locals := 12 }) (va_Pc [.long a0, .long 0, .long 7] (wpreS adK adV dC dI cy sz w0)) (va_Qi (P_X12_in_12 ad cy B qr s1 a0 w0) (fun u : va_W => wpost dC dI cy (va_A w0 sz) u) (va_A w0 sz)) 0 0 (va_A w0 sz) := by
  refine Met.ofW (cc := cX12_in) (maxL := 6) (ret := (some .boolean)) (by decide) rfl ?_
  intro p e s m args below meth c s₁ Bk hml hv
  obtain ⟨rfl, ⟨hsz, hP, hK, hD0⟩, hE, hSR⟩ := hv
  have hx := Bk.exec
  have hb := Bk.bytes
  have hr := Bk.returns
  have hlocks := Bk.notSynchronized
  have hC : CallFix p m c cX12_in 6 s _ wsX12_in RX12 := ⟨hx, hb, hml, findClass_of_methodNamed Bk.named, atoms_spec (ws := wsX12_in) Bk.pre⟩
  subst hsz
  have hD := hD0.self (sz := s.heap.size)
  generalize hAe : va_A w0 s.heap.size = A at hD hE ⊢
  have hA : ∀ q : Nat, s.heap.size ≤ q → A q := fun q h => by rw [← hAe]; exact Or.inr h
  have hw : Wd dC dI A s.heap s.heap [] w0 := ⟨hP, hD, va_S.rf⟩
  have hF : FE ksM ([] : List (Nat × Nat × Nat)) w0 w0 := FE.rf
  have hl := lv_entry ([.long a0, .long 0, .long 7]) (n := 6) (Nat.le_of_ble_eq_true rfl)
  rw [lg_entry_eq]
  generalize (lg_sl ([.long a0, .long 0, .long 7]) ++ List.replicate (6 - (lg_sl ([.long a0, .long 0, .long 7])).length) Slot.unset).toArray = ls at hl ⊢
  have hl : lv_has ls 6 [(0, .long a0), (2, .long 0), (4, .long 7)] := hl
  generalize hloc : ([] : List Loc) = locs at hw ⊢
  have J17 : ∀ (H : Heap) (locs : List Loc) (ls : Array Slot) (w1 : va_W), (-2147483648) ≤ a0.toInt → a0.toInt ≤ 2147483647 → Wd dC dI A s.heap H locs w1 → TW ksM ad cy B qr 12 w1 → FE ksM ([] : List (Nat × Nat × Nat)) w0 w1 → lv_has ls 6 [(0, .long a0), (2, .long 0), (4, .long 7)] → W p l e ({ frames := 1, cells := 0, slots := 0, locals := 12 }) s m (List.toArray [.long a0, .long 0, .long 7]) below meth c H locs 0 0 (MQ below (va_Qi (P_X12_in_12 ad cy B qr s1 a0 w0) (fun u : va_W => wpost dC dI cy A u) A) (List.toArray [.long a0, .long 0, .long 7]) s 0 0 A) (F0 m 17 ls []) := by
    intro H locs ls w1 r2 t3 hw hT hF hl
    refine lv_iconst (v := 0) hx hb dX12_in_17 (by decide) ?_
    exact tk_zret hC hr rfl hlocks hK ⟨hT, hF, (Or.inl rfl)⟩ hw dX12_in_18
  refine lv_lload_n hx hb dX12_in_0 rfl (lv_at hl 0 rfl) ?_
  refine lv_lload_n hx hb dX12_in_1 rfl (lv_at hl 1 rfl) ?_
  refine W.lcmp hx hb dX12_in_2 ?_
  refine lv_if_lt (tgt := 17) hx hb dX12_in_3 (by decide) (fun c4 => ?_) (fun c4 => ?_)
  · have c4 : a0.toInt < (0 : Int) := wk_cltT c4
    exact J17  s.heap locs ls w0 (show (-2147483648) ≤ a0.toInt by omega) (show a0.toInt ≤ 2147483647 by omega)  hw hT hF  (lv_sub hl [0, 1, 2] rfl)
  · have c4 : (0 : Int) ≤ a0.toInt := wk_cltF c4
    refine lv_lload_n hx hb dX12_in_6 rfl (lv_at hl 0 rfl) ?_
    refine lv_lload hx hb dX12_in_7 (lv_at hl 2 rfl) ?_
    refine W.lcmp hx hb dX12_in_9 ?_
    refine lv_if_gt (tgt := 17) hx hb dX12_in_10 (by decide) (fun c5 => ?_) (fun c5 => ?_)
    · have c5 : (7 : Int) < a0.toInt := wk_cgtT c5
      exact J17  s.heap locs ls w0 (show (-2147483648) ≤ a0.toInt by omega) (show a0.toInt ≤ 2147483647 by omega)  hw hT hF  (lv_sub hl [0, 1, 2] rfl)
    · have c5 : a0.toInt ≤ (7 : Int) := wk_cgtF c5
      refine lv_iconst (v := 1) hx hb dX12_in_13 (by decide) ?_
      refine lv_goto (tgt := 18) hx hb dX12_in_14 (by decide) ?_
      exact tk_zret hC hr rfl hlocks hK ⟨hT, hF, (Or.inr ⟨rfl, (show 0 ≤ a0.toInt by omega), (show a0.toInt ≤ 7 by omega)⟩)⟩ hw dX12_in_18
abbrev P_X12_walkerOf_1 (ad : Nat → Nat) (cy : Nat → ClassId) (B : Int) (qr : Nat) (s1 : Int) (a1 : Int32) (a2 : Int32) (w0 : va_W) : Int32 → va_W → Prop := fun r u => TW ksM ad cy B qr 12 u ∧ FE ksM ([] : List (Nat × Nat × Nat)) w0 u ∧ ((True))
set_option maxHeartbeats 4000000 in
set_option maxRecDepth 100000 in
theorem k_X12_walkerOf_1 (l : Launch) (adK adV : Nat → Nat) (dC : Nat → ClassId) (dI : Nat → Nat → Nat) (cy : Nat → ClassId) (ad : Nat → Nat) (B : Int) (hB0 : 100000 ≤ B) (hB1 : B ≤ 1073741824) (qr : Nat) (s1 : Int)  (a1 : Int32) (ra1 : 0 ≤ a1.toInt) (ta1 : a1.toInt ≤ 3) (a2 : Int32) (ra2 : 0 ≤ a2.toInt) (ta2 : a2.toInt ≤ 7) (w0 : va_W) (sz : Nat) (hT : TW ksM ad cy B qr 12 w0)  : Met l yX12_walkerOf wsX12_walkerOf ({ frames := 1, cells := 0, slots := 0, locals := 12 }) (va_Pc [.ref (ad 0), .int a1, .int a2] (wpreS adK adV dC dI cy sz w0)) (va_Qi (P_X12_walkerOf_1 ad cy B qr s1 a1 a2 w0) (fun u : va_W => wpost dC dI cy (va_A w0 sz) u) (va_A w0 sz)) 0 0 (va_A w0 sz) := by
  refine Met.ofW (cc := cX12_walkerOf) (maxL := 3) (ret := (some .int)) (by decide) rfl ?_
  intro p e s m args below meth c s₁ Bk hml hv
  obtain ⟨rfl, ⟨hsz, hP, hK, hD0⟩, hE, hSR⟩ := hv
  have hx := Bk.exec
  have hb := Bk.bytes
  have hr := Bk.returns
  have hlocks := Bk.notSynchronized
  have hC : CallFix p m c cX12_walkerOf 3 s _ wsX12_walkerOf RX12 := ⟨hx, hb, hml, findClass_of_methodNamed Bk.named, atoms_spec (ws := wsX12_walkerOf) Bk.pre⟩
  subst hsz
  have hD := hD0.self (sz := s.heap.size)
  generalize hAe : va_A w0 s.heap.size = A at hD hE ⊢
  have hA : ∀ q : Nat, s.heap.size ≤ q → A q := fun q h => by rw [← hAe]; exact Or.inr h
  have hw : Wd dC dI A s.heap s.heap [] w0 := ⟨hP, hD, va_S.rf⟩
  have hF : FE ksM ([] : List (Nat × Nat × Nat)) w0 w0 := FE.rf
  have hl := lv_entry ([.ref (ad 0), .int a1, .int a2]) (n := 3) (Nat.le_of_ble_eq_true rfl)
  rw [lg_entry_eq]
  generalize (lg_sl ([.ref (ad 0), .int a1, .int a2]) ++ List.replicate (3 - (lg_sl ([.ref (ad 0), .int a1, .int a2])).length) Slot.unset).toArray = ls at hl ⊢
  have hl : lv_has ls 3 [(0, .ref (ad 0)), (1, .int a1), (2, .int a2)] := hl
  generalize hloc : ([] : List Loc) = locs at hw ⊢
  have hinX12 : ∀ w ∈ u_ws RX12 TX12 42, w ∈ wsX12_walkerOf := fun _ h => List.mem_cons_of_mem _ (List.mem_append_right _ (h))
  refine lv_aload_n hx hb dX12_walkerOf_0 rfl (lv_at hl 0 rfl) ?_
  refine tk_getA hC hK hw hT hinX12 kM_at0 (by decide) rfl 26 (by decide) (List.mem_of_getElem? (i := 1) rfl) rfl rfl dX12_walkerOf_1 ?_
  refine lv_sipush (v := 216) hx hb dX12_walkerOf_4 (by decide) ?_
  refine lv_bipush (v := 9) hx hb dX12_walkerOf_7 (by decide) ?_
  refine lv_iload_n hx hb dX12_walkerOf_9 rfl (lv_at hl 1 rfl) ?_
  refine lv_imul hx hb dX12_walkerOf_10 ?_
  refine lv_topi (fun x1 ex1 => ?_)
  have ex1 : x1.toInt = (9 : Int) * a1.toInt := by rw [ex1]; exact wk_mul (show (-2147483648) ≤ (9 : Int) * a1.toInt by omega) (show (9 : Int) * a1.toInt ≤ 2147483647 by omega)
  refine lv_iadd hx hb dX12_walkerOf_11 ?_
  refine lv_topi (fun x2 ex2 => ?_)
  have ex2 : x2.toInt = (216 : Int) + x1.toInt := by rw [ex2]; exact wk_add (show (-2147483648) ≤ (216 : Int) + x1.toInt by omega) (show (216 : Int) + x1.toInt ≤ 2147483647 by omega)
  refine lv_iload_n hx hb dX12_walkerOf_12 rfl (lv_at hl 2 rfl) ?_
  refine lv_iadd hx hb dX12_walkerOf_13 ?_
  refine lv_topi (fun x3 ex3 => ?_)
  have ex3 : x3.toInt = x2.toInt + a2.toInt := by rw [ex3]; exact wk_add (show (-2147483648) ≤ x2.toInt + a2.toInt by omega) (show x2.toInt + a2.toInt ≤ 2147483647 by omega)
  refine tk_ialdR hC hK hw hT kM_at12 rfl (show 0 ≤ x3.toInt by omega) (show x3.toInt < 296 by omega) dX12_walkerOf_14 (fun x4 c5 Ex4 => ?_)
  exact tk_iret hC hr hlocks hK ⟨hT, hF, trivial⟩ hw dX12_walkerOf_15
abbrev P_X12_about_1 (ad : Nat → Nat) (cy : Nat → ClassId) (B : Int) (qr : Nat) (s1 : Int) (a1 : Int32) (a2 : Int32) (w0 : va_W) : Int32 → va_W → Prop := fun r u => TW ksM ad cy B qr 12 u ∧ FE ksM ([] : List (Nat × Nat × Nat)) w0 u ∧ ((0 ≤ a1.toInt ∧ a1.toInt ≤ 3 ∧ 0 ≤ a2.toInt ∧ a2.toInt ≤ 7 ∧ (∃ y : Int32, gi u 12 5 = y ∧ 1 ≤ y.toInt ∧ y.toInt ≤ 4)) ∨ (r = (-1)))
set_option maxHeartbeats 4000000 in
set_option maxRecDepth 100000 in
theorem k_X12_about_1 (l : Launch) (adK adV : Nat → Nat) (dC : Nat → ClassId) (dI : Nat → Nat → Nat) (cy : Nat → ClassId) (ad : Nat → Nat) (B : Int) (hB0 : 100000 ≤ B) (hB1 : B ≤ 1073741824) (qr : Nat) (s1 : Int)  (a1 : Int32) (a2 : Int32) (w0 : va_W) (sz : Nat) (hT : TW ksM ad cy B qr 12 w0)  : Met l yX12_about wsX12_about ({ frames := 2, cells := 0, slots := 0, locals := 37 }) (va_Pc [.ref (ad 0), .int a1, .int a2] (wpreS adK adV dC dI cy sz w0)) (va_Qi (P_X12_about_1 ad cy B qr s1 a1 a2 w0) (fun u : va_W => wpost dC dI cy (va_A w0 sz) u) (va_A w0 sz)) 0 0 (va_A w0 sz) := by
  refine Met.ofW (cc := cX12_about) (maxL := 3) (ret := (some .int)) (by decide) rfl ?_
  intro p e s m args below meth c s₁ Bk hml hv
  obtain ⟨rfl, ⟨hsz, hP, hK, hD0⟩, hE, hSR⟩ := hv
  have hx := Bk.exec
  have hb := Bk.bytes
  have hr := Bk.returns
  have hlocks := Bk.notSynchronized
  have hC : CallFix p m c cX12_about 3 s _ wsX12_about RX12 := ⟨hx, hb, hml, findClass_of_methodNamed Bk.named, atoms_spec (ws := wsX12_about) Bk.pre⟩
  subst hsz
  have hD := hD0.self (sz := s.heap.size)
  generalize hAe : va_A w0 s.heap.size = A at hD hE ⊢
  have hA : ∀ q : Nat, s.heap.size ≤ q → A q := fun q h => by rw [← hAe]; exact Or.inr h
  have hw : Wd dC dI A s.heap s.heap [] w0 := ⟨hP, hD, va_S.rf⟩
  have hF : FE ksM ([] : List (Nat × Nat × Nat)) w0 w0 := FE.rf
  have hl := lv_entry ([.ref (ad 0), .int a1, .int a2]) (n := 3) (Nat.le_of_ble_eq_true rfl)
  rw [lg_entry_eq]
  generalize (lg_sl ([.ref (ad 0), .int a1, .int a2]) ++ List.replicate (3 - (lg_sl ([.ref (ad 0), .int a1, .int a2])).length) Slot.unset).toArray = ls at hl ⊢
  have hl : lv_has ls 3 [(0, .ref (ad 0)), (1, .int a1), (2, .int a2)] := hl
  generalize hloc : ([] : List Loc) = locs at hw ⊢
  have J29 : ∀ (H : Heap) (locs : List Loc) (ls : Array Slot) (w1 : va_W), Wd dC dI A s.heap H locs w1 → TW ksM ad cy B qr 12 w1 → FE ksM ([] : List (Nat × Nat × Nat)) w0 w1 → lv_has ls 3 [(0, .ref (ad 0)), (1, .int a1), (2, .int a2)] → W p l e ({ frames := 2, cells := 0, slots := 0, locals := 37 }) s m (List.toArray [.ref (ad 0), .int a1, .int a2]) below meth c H locs 0 0 (MQ below (va_Qi (P_X12_about_1 ad cy B qr s1 a1 a2 w0) (fun u : va_W => wpost dC dI cy A u) A) (List.toArray [.ref (ad 0), .int a1, .int a2]) s 0 0 A) (F0 m 29 ls []) := by
    intro H locs ls w1 hw hT hF hl
    refine lv_iconst (v := (-1)) hx hb dX12_about_29 (by decide) ?_
    exact tk_iret hC hr hlocks hK ⟨hT, hF, (Or.inr rfl)⟩ hw dX12_about_30
  refine lv_aload_n hx hb dX12_about_0 rfl (lv_at hl 0 rfl) ?_
  refine lv_iload_n hx hb dX12_about_1 rfl (lv_at hl 1 rfl) ?_
  refine tk_Vi hC hK hw hT hA hE hSR kM_at0 (by decide) rfl (k_X12_isWalker_1 l adK adV dC dI cy ad B (by omega) (by omega) qr s1   a1 w0 s.heap.size hT ) (cwV 1 hC.2.2.2.2 gX12_about_X12_isWalker rfl rfl rfl (by decide +kernel) ⟨Nat.le_of_ble_eq_true rfl, Nat.le_of_ble_eq_true rfl⟩) rfl hl.1 rfl (Nat.le_of_ble_eq_true rfl) dX12_about_2 (fun r2 w4 H locs hp3 hw => ?_)
  obtain ⟨hT, k5, hg10⟩ := hp3
  have hF := hF.tr k5 (by decide)
  rcases hg10 with rfl | ⟨rfl, g6, g7, ⟨x8, c9, rx8, tx8⟩⟩
  · refine lv_if_eq (tgt := 29) hx hb dX12_about_5 (by decide) (fun _ => ?_) (fun c => absurd (by decide) c)
    exact J29  H locs ls w4   hw hT hF  (lv_sub hl [0, 1, 2] rfl)
  · refine lv_if_eq (tgt := 29) hx hb dX12_about_5 (by decide) (fun c => absurd c (by decide)) (fun _ => ?_)
    refine lv_iload_n hx hb dX12_about_8 rfl (lv_at hl 2 rfl) ?_
    refine lv_i2l hx hb dX12_about_9 rfl ?_
    refine lv_topl (fun x11 ex11 => ?_)
    have ex11 : x11.toInt = a2.toInt := by rw [ex11]; exact wk_i2l _
    have bx11 := wk_i32 a2
    refine lv_lconst (v := 0) hx hb dX12_about_10 (by decide) ?_
    refine lv_ldc2 (v := 7) hx hb hC.2.2.2.1 (hC.2.2.2.2 _ (List.mem_of_getElem? (i := 1) rfl)) dX12_about_11 ?_
    refine tk_Si hC hK hw hT hA hE hSR (k_X12_in_12 l adK adV dC dI cy ad B (by omega) (by omega) qr s1   x11 (show (-2147483648) ≤ x11.toInt by omega) (show x11.toInt ≤ 2147483647 by omega) w4 H.size hT ) (va_cwS 3 hC.2.2.2.2 gX12_about_X12_in rfl rfl rfl (by decide +kernel) ⟨Nat.le_of_ble_eq_true rfl, Nat.le_of_ble_eq_true rfl⟩) rfl hl.1 rfl (Nat.le_of_ble_eq_true rfl) dX12_about_14 (fun r12 w14 H locs hp13 hw => ?_)
    obtain ⟨hT, k15, hg18⟩ := hp13
    have hF := hF.tr k15 (by decide)
    have c19 := k15.gi kM_at12 (by decide) c9
    rcases hg18 with rfl | ⟨rfl, g16, g17⟩
    · refine lv_if_eq (tgt := 29) hx hb dX12_about_17 (by decide) (fun _ => ?_) (fun c => absurd (by decide) c)
      exact J29  H locs ls w14   hw hT hF  (lv_sub hl [0, 1, 2] rfl)
    · refine lv_if_eq (tgt := 29) hx hb dX12_about_17 (by decide) (fun c => absurd c (by decide)) (fun _ => ?_)
      refine lv_aload_n hx hb dX12_about_20 rfl (lv_at hl 0 rfl) ?_
      refine lv_iload_n hx hb dX12_about_21 rfl (lv_at hl 1 rfl) ?_
      refine lv_iload_n hx hb dX12_about_22 rfl (lv_at hl 2 rfl) ?_
      refine tk_Vi hC hK hw hT hA hE hSR kM_at0 (by decide) rfl (k_X12_walkerOf_1 l adK adV dC dI cy ad B (by omega) (by omega) qr s1   a1 (show 0 ≤ a1.toInt by omega) (show a1.toInt ≤ 3 by omega) a2 (show 0 ≤ a2.toInt by omega) (show a2.toInt ≤ 7 by omega) w14 H.size hT ) (cwV 2 hC.2.2.2.2 gX12_about_X12_walkerOf rfl rfl rfl (by decide +kernel) ⟨Nat.le_of_ble_eq_true rfl, Nat.le_of_ble_eq_true rfl⟩) rfl hl.1 rfl (Nat.le_of_ble_eq_true rfl) dX12_about_23 (fun r20 w22 H locs hp21 hw => ?_)
      obtain ⟨hT, k23, hg24⟩ := hp21
      have hF := hF.tr k23 (by decide)
      have c25 := k23.gi kM_at12 (by decide) c19
      clear hg24
      refine lv_goto (tgt := 30) hx hb dX12_about_26 (by decide) ?_
      exact tk_iret hC hr hlocks hK ⟨hT, hF, (Or.inl ⟨(show 0 ≤ a1.toInt by omega), (show a1.toInt ≤ 3 by omega), (show 0 ≤ a2.toInt by omega), (show a2.toInt ≤ 7 by omega), ⟨x8, c25, (show 1 ≤ x8.toInt by omega), (show x8.toInt ≤ 4 by omega)⟩⟩)⟩ hw dX12_about_30
abbrev P_X12_cheapOf_1 (ad : Nat → Nat) (cy : Nat → ClassId) (B : Int) (qr : Nat) (s1 : Int) (a1 : Int32) (w0 : va_W) : Int32 → va_W → Prop := fun r u => TW ksM ad cy B qr 12 u ∧ FE ksM ([] : List (Nat × Nat × Nat)) w0 u ∧ ((0 ≤ r.toInt ∧ r.toInt ≤ 3))
set_option maxHeartbeats 4000000 in
set_option maxRecDepth 100000 in
theorem k_X12_cheapOf_1 (l : Launch) (adK adV : Nat → Nat) (dC : Nat → ClassId) (dI : Nat → Nat → Nat) (cy : Nat → ClassId) (ad : Nat → Nat) (B : Int) (hB0 : 100000 ≤ B) (hB1 : B ≤ 1073741824) (qr : Nat) (s1 : Int)  (a1 : Int32) (ra1 : 0 ≤ a1.toInt) (ta1 : a1.toInt ≤ 11) (w0 : va_W) (sz : Nat) (hT : TW ksM ad cy B qr 12 w0)  : Met l yX12_cheapOf wsX12_cheapOf ({ frames := 2, cells := 0, slots := 0, locals := 34 }) (va_Pc [.ref (ad 0), .int a1] (wpreS adK adV dC dI cy sz w0)) (va_Qi (P_X12_cheapOf_1 ad cy B qr s1 a1 w0) (fun u : va_W => wpost dC dI cy (va_A w0 sz) u) (va_A w0 sz)) 0 0 (va_A w0 sz) := by
  refine Met.ofW (cc := cX12_cheapOf) (maxL := 7) (ret := (some .int)) (by decide) rfl ?_
  intro p e s m args below meth c s₁ Bk hml hv
  obtain ⟨rfl, ⟨hsz, hP, hK, hD0⟩, hE, hSR⟩ := hv
  have hx := Bk.exec
  have hb := Bk.bytes
  have hr := Bk.returns
  have hlocks := Bk.notSynchronized
  have hC : CallFix p m c cX12_cheapOf 7 s _ wsX12_cheapOf RX12 := ⟨hx, hb, hml, findClass_of_methodNamed Bk.named, atoms_spec (ws := wsX12_cheapOf) Bk.pre⟩
  subst hsz
  have hD := hD0.self (sz := s.heap.size)
  generalize hAe : va_A w0 s.heap.size = A at hD hE ⊢
  have hA : ∀ q : Nat, s.heap.size ≤ q → A q := fun q h => by rw [← hAe]; exact Or.inr h
  have hw : Wd dC dI A s.heap s.heap [] w0 := ⟨hP, hD, va_S.rf⟩
  have hF : FE ksM ([] : List (Nat × Nat × Nat)) w0 w0 := FE.rf
  have hl := lv_entry ([.ref (ad 0), .int a1]) (n := 7) (Nat.le_of_ble_eq_true rfl)
  rw [lg_entry_eq]
  generalize (lg_sl ([.ref (ad 0), .int a1]) ++ List.replicate (7 - (lg_sl ([.ref (ad 0), .int a1])).length) Slot.unset).toArray = ls at hl ⊢
  have hl : lv_has ls 7 [(0, .ref (ad 0)), (1, .int a1)] := hl
  generalize hloc : ([] : List Loc) = locs at hw ⊢
  have L7 : ∀ (n7 : Nat) (v7_2 : Int32) (v7_3 : Int32) (v7_4 : Int32) (H : Heap) (locs : List Loc) (ls : Array Slot) (w1 : va_W), 0 ≤ a1.toInt → a1.toInt ≤ 11 → 0 ≤ v7_2.toInt → v7_2.toInt ≤ 3 → (-1) ≤ v7_3.toInt → 0 ≤ v7_4.toInt → v7_4.toInt ≤ 4 → (4 - v7_4.toInt).toNat < n7 → Wd dC dI A s.heap H locs w1 → TW ksM ad cy B qr 12 w1 → FE ksM ([] : List (Nat × Nat × Nat)) w0 w1 → lv_has ls 7 [(0, .ref (ad 0)), (1, .int a1), (2, .int v7_2), (3, .int v7_3), (4, .int v7_4)] → W p l e ({ frames := 2, cells := 0, slots := 0, locals := 34 }) s m (List.toArray [.ref (ad 0), .int a1]) below meth c H locs 0 0 (MQ below (va_Qi (P_X12_cheapOf_1 ad cy B qr s1 a1 w0) (fun u : va_W => wpost dC dI cy A u) A) (List.toArray [.ref (ad 0), .int a1]) s 0 0 A) (F0 m 7 ls []) := by
    intro n7
    induction n7 with
    | zero => intro v7_2 v7_3 v7_4 H locs ls w1 r2 t3 r4 t5 r6 r7 t8 hm7 hw hT hF hl; omega
    | succ n7 ih7 =>
      intro v7_2 v7_3 v7_4 H locs ls w1 r2 t3 r4 t5 r6 r7 t8 hm7 hw hT hF hl
      have L19 : ∀ (n19 : Nat) (v19_5 : Int32) (v19_6 : Int32) (H : Heap) (locs : List Loc) (ls : Array Slot) (w9 : va_W), 0 ≤ a1.toInt → a1.toInt ≤ 11 → 0 ≤ v7_2.toInt → v7_2.toInt ≤ 3 → (-1) ≤ v7_3.toInt → 0 ≤ v7_4.toInt → v7_4.toInt ≤ 3 → 0 ≤ v19_6.toInt → v19_6.toInt ≤ 7 → (7 - v19_6.toInt).toNat < n19 → Wd dC dI A s.heap H locs w9 → TW ksM ad cy B qr 12 w9 → FE ksM ([] : List (Nat × Nat × Nat)) w0 w9 → lv_has ls 7 [(0, .ref (ad 0)), (1, .int a1), (2, .int v7_2), (3, .int v7_3), (4, .int v7_4), (5, .int v19_5), (6, .int v19_6)] → W p l e ({ frames := 2, cells := 0, slots := 0, locals := 34 }) s m (List.toArray [.ref (ad 0), .int a1]) below meth c H locs 0 0 (MQ below (va_Qi (P_X12_cheapOf_1 ad cy B qr s1 a1 w0) (fun u : va_W => wpost dC dI cy A u) A) (List.toArray [.ref (ad 0), .int a1]) s 0 0 A) (F0 m 19 ls []) := by
        intro n19
        induction n19 with
        | zero => intro v19_5 v19_6 H locs ls w9 r10 t11 r12 t13 r14 r15 t16 r17 t18 hm19 hw hT hF hl; omega
        | succ n19 ih19 =>
          intro v19_5 v19_6 H locs ls w9 r10 t11 r12 t13 r14 r15 t16 r17 t18 hm19 hw hT hF hl
          refine lv_iload hx hb dX12_cheapOf_19 (lv_at hl 6 rfl) ?_
          refine lv_bipush (v := 7) hx hb dX12_cheapOf_21 (by decide) ?_
          refine lv_icmp_ge (tgt := 56) hx hb dX12_cheapOf_23 (by decide) (fun c19 => ?_) (fun c19 => ?_)
          · have c19 : (7 : Int) ≤ v19_6.toInt := wk_le.mp c19
            refine lv_iload hx hb dX12_cheapOf_56 (lv_at hl 5 rfl) ?_
            refine lv_iload_n hx hb dX12_cheapOf_58 rfl (lv_at hl 3 rfl) ?_
            refine lv_icmp_le (tgt := 67) hx hb dX12_cheapOf_59 (by decide) (fun c20 => ?_) (fun c20 => ?_)
            · have c20 : v19_5.toInt ≤ v7_3.toInt := wk_le.mp c20
              refine lv_iload_n hx hb dX12_cheapOf_67 rfl (lv_at hl 2 rfl) ?_
              refine lv_istore_n (lv' := [(2, .int v7_2), (0, .ref (ad 0)), (1, .int a1), (3, .int v7_3), (4, .int v7_4), (5, .int v19_5), (6, .int v19_6)]) hx hb dX12_cheapOf_68 rfl hl (by decide) rfl (fun ls hl => ?_)
              refine lv_iload hx hb dX12_cheapOf_69 (lv_at hl 5 rfl) ?_
              refine lv_iload_n hx hb dX12_cheapOf_71 rfl (lv_at hl 3 rfl) ?_
              refine lv_icmp_le (tgt := 80) hx hb dX12_cheapOf_72 (by decide) (fun c21 => ?_) (fun c21 => ?_)
              · have c21 : v19_5.toInt ≤ v7_3.toInt := wk_le.mp c21
                refine lv_iload_n hx hb dX12_cheapOf_80 rfl (lv_at hl 3 rfl) ?_
                refine lv_istore_n (lv' := [(3, .int v7_3), (2, .int v7_2), (0, .ref (ad 0)), (1, .int a1), (4, .int v7_4), (5, .int v19_5), (6, .int v19_6)]) hx hb dX12_cheapOf_81 rfl hl (by decide) rfl (fun ls hl => ?_)
                obtain ⟨x22, ex22⟩ : ∃ y : Int32, y = v7_4 + Int32.ofInt 1 := ⟨_, rfl⟩
                refine lv_iinc (v := x22) (lv' := [(4, .int x22), (3, .int v7_3), (2, .int v7_2), (0, .ref (ad 0)), (1, .int a1), (5, .int v19_5), (6, .int v19_6)]) hx hb dX12_cheapOf_82 hl (k := 4) rfl ex22.symm (by decide) rfl (fun ls hl => ?_)
                have ex22 : x22.toInt = v7_4.toInt + 1 := by rw [ex22]; exact wk_add (y := 1) (show -2147483648 ≤ v7_4.toInt + 1 by omega) (show v7_4.toInt + 1 ≤ 2147483647 by omega)
                refine lv_goto (tgt := 7) hx hb dX12_cheapOf_85 (by decide) ?_
                exact ih7 v7_2 v7_3 x22 H locs ls w9 (show 0 ≤ a1.toInt by omega) (show a1.toInt ≤ 11 by omega) (show 0 ≤ v7_2.toInt by omega) (show v7_2.toInt ≤ 3 by omega) (show (-1) ≤ v7_3.toInt by omega) (show 0 ≤ x22.toInt by omega) (show x22.toInt ≤ 4 by omega) (show (4 - x22.toInt).toNat < n7 by omega) hw hT hF  (lv_sub hl [3, 4, 2, 1, 0] rfl)
              · have c21 : v7_3.toInt < v19_5.toInt := wk_leF c21
                refine lv_iload hx hb dX12_cheapOf_75 (lv_at hl 5 rfl) ?_
                refine lv_goto (tgt := 81) hx hb dX12_cheapOf_77 (by decide) ?_
                refine lv_istore_n (lv' := [(3, .int v19_5), (2, .int v7_2), (0, .ref (ad 0)), (1, .int a1), (4, .int v7_4), (5, .int v19_5), (6, .int v19_6)]) hx hb dX12_cheapOf_81 rfl hl (by decide) rfl (fun ls hl => ?_)
                obtain ⟨x23, ex23⟩ : ∃ y : Int32, y = v7_4 + Int32.ofInt 1 := ⟨_, rfl⟩
                refine lv_iinc (v := x23) (lv' := [(4, .int x23), (3, .int v19_5), (2, .int v7_2), (0, .ref (ad 0)), (1, .int a1), (5, .int v19_5), (6, .int v19_6)]) hx hb dX12_cheapOf_82 hl (k := 4) rfl ex23.symm (by decide) rfl (fun ls hl => ?_)
                have ex23 : x23.toInt = v7_4.toInt + 1 := by rw [ex23]; exact wk_add (y := 1) (show -2147483648 ≤ v7_4.toInt + 1 by omega) (show v7_4.toInt + 1 ≤ 2147483647 by omega)
                refine lv_goto (tgt := 7) hx hb dX12_cheapOf_85 (by decide) ?_
                exact ih7 v7_2 v19_5 x23 H locs ls w9 (show 0 ≤ a1.toInt by omega) (show a1.toInt ≤ 11 by omega) (show 0 ≤ v7_2.toInt by omega) (show v7_2.toInt ≤ 3 by omega) (show (-1) ≤ v19_5.toInt by omega) (show 0 ≤ x23.toInt by omega) (show x23.toInt ≤ 4 by omega) (show (4 - x23.toInt).toNat < n7 by omega) hw hT hF  (lv_sub hl [3, 4, 2, 1, 0] rfl)
            · have c20 : v7_3.toInt < v19_5.toInt := wk_leF c20
              refine lv_iload hx hb dX12_cheapOf_62 (lv_at hl 4 rfl) ?_
              refine lv_goto (tgt := 68) hx hb dX12_cheapOf_64 (by decide) ?_
              refine lv_istore_n (lv' := [(2, .int v7_4), (0, .ref (ad 0)), (1, .int a1), (3, .int v7_3), (4, .int v7_4), (5, .int v19_5), (6, .int v19_6)]) hx hb dX12_cheapOf_68 rfl hl (by decide) rfl (fun ls hl => ?_)
              refine lv_iload hx hb dX12_cheapOf_69 (lv_at hl 5 rfl) ?_
              refine lv_iload_n hx hb dX12_cheapOf_71 rfl (lv_at hl 3 rfl) ?_
              refine lv_icmp_le (tgt := 80) hx hb dX12_cheapOf_72 (by decide) (fun c24 => ?_) (fun c24 => ?_)
              · have c24 : v19_5.toInt ≤ v7_3.toInt := wk_le.mp c24
                refine lv_iload_n hx hb dX12_cheapOf_80 rfl (lv_at hl 3 rfl) ?_
                refine lv_istore_n (lv' := [(3, .int v7_3), (2, .int v7_4), (0, .ref (ad 0)), (1, .int a1), (4, .int v7_4), (5, .int v19_5), (6, .int v19_6)]) hx hb dX12_cheapOf_81 rfl hl (by decide) rfl (fun ls hl => ?_)
                obtain ⟨x25, ex25⟩ : ∃ y : Int32, y = v7_4 + Int32.ofInt 1 := ⟨_, rfl⟩
                refine lv_iinc (v := x25) (lv' := [(4, .int x25), (3, .int v7_3), (2, .int v7_4), (0, .ref (ad 0)), (1, .int a1), (5, .int v19_5), (6, .int v19_6)]) hx hb dX12_cheapOf_82 hl (k := 4) rfl ex25.symm (by decide) rfl (fun ls hl => ?_)
                have ex25 : x25.toInt = v7_4.toInt + 1 := by rw [ex25]; exact wk_add (y := 1) (show -2147483648 ≤ v7_4.toInt + 1 by omega) (show v7_4.toInt + 1 ≤ 2147483647 by omega)
                refine lv_goto (tgt := 7) hx hb dX12_cheapOf_85 (by decide) ?_
                exact ih7 v7_4 v7_3 x25 H locs ls w9 (show 0 ≤ a1.toInt by omega) (show a1.toInt ≤ 11 by omega) (show 0 ≤ v7_4.toInt by omega) (show v7_4.toInt ≤ 3 by omega) (show (-1) ≤ v7_3.toInt by omega) (show 0 ≤ x25.toInt by omega) (show x25.toInt ≤ 4 by omega) (show (4 - x25.toInt).toNat < n7 by omega) hw hT hF  (lv_sub hl [3, 4, 2, 1, 0] rfl)
              · have c24 : v7_3.toInt < v19_5.toInt := wk_leF c24
                refine lv_iload hx hb dX12_cheapOf_75 (lv_at hl 5 rfl) ?_
                refine lv_goto (tgt := 81) hx hb dX12_cheapOf_77 (by decide) ?_
                refine lv_istore_n (lv' := [(3, .int v19_5), (2, .int v7_4), (0, .ref (ad 0)), (1, .int a1), (4, .int v7_4), (5, .int v19_5), (6, .int v19_6)]) hx hb dX12_cheapOf_81 rfl hl (by decide) rfl (fun ls hl => ?_)
                obtain ⟨x26, ex26⟩ : ∃ y : Int32, y = v7_4 + Int32.ofInt 1 := ⟨_, rfl⟩
                refine lv_iinc (v := x26) (lv' := [(4, .int x26), (3, .int v19_5), (2, .int v7_4), (0, .ref (ad 0)), (1, .int a1), (5, .int v19_5), (6, .int v19_6)]) hx hb dX12_cheapOf_82 hl (k := 4) rfl ex26.symm (by decide) rfl (fun ls hl => ?_)
                have ex26 : x26.toInt = v7_4.toInt + 1 := by rw [ex26]; exact wk_add (y := 1) (show -2147483648 ≤ v7_4.toInt + 1 by omega) (show v7_4.toInt + 1 ≤ 2147483647 by omega)
                refine lv_goto (tgt := 7) hx hb dX12_cheapOf_85 (by decide) ?_
                exact ih7 v7_4 v19_5 x26 H locs ls w9 (show 0 ≤ a1.toInt by omega) (show a1.toInt ≤ 11 by omega) (show 0 ≤ v7_4.toInt by omega) (show v7_4.toInt ≤ 3 by omega) (show (-1) ≤ v19_5.toInt by omega) (show 0 ≤ x26.toInt by omega) (show x26.toInt ≤ 4 by omega) (show (4 - x26.toInt).toNat < n7 by omega) hw hT hF  (lv_sub hl [3, 4, 2, 1, 0] rfl)
          · have c19 : v19_6.toInt < (7 : Int) := wk_leF c19
            refine lv_iload hx hb dX12_cheapOf_26 (lv_at hl 5 rfl) ?_
            refine lv_aload_n hx hb dX12_cheapOf_28 rfl (lv_at hl 0 rfl) ?_
            refine lv_iload_n hx hb dX12_cheapOf_29 rfl (lv_at hl 1 rfl) ?_
            refine lv_iconst (v := 3) hx hb dX12_cheapOf_30 (by decide) ?_
            refine lv_iload hx hb dX12_cheapOf_31 (lv_at hl 6 rfl) ?_
            refine lv_iadd hx hb dX12_cheapOf_33 ?_
            refine lv_topi (fun x27 ex27 => ?_)
            have ex27 : x27.toInt = (3 : Int) + v19_6.toInt := by rw [ex27]; exact wk_add (show (-2147483648) ≤ (3 : Int) + v19_6.toInt by omega) (show (3 : Int) + v19_6.toInt ≤ 2147483647 by omega)
            refine tk_Vi hC hK hw hT hA hE hSR kM_at0 (by decide) rfl (k_X12_streetOf_4 l adK adV dC dI cy ad B (by omega) (by omega) qr s1   a1 (show 0 ≤ a1.toInt by omega) (show a1.toInt ≤ 11 by omega) x27 (show 3 ≤ x27.toInt by omega) (show x27.toInt ≤ 9 by omega) w9 H.size hT ) (cwV 2 hC.2.2.2.2 gX12_cheapOf_X12_streetOf rfl rfl rfl (by decide +kernel) ⟨Nat.le_of_ble_eq_true rfl, Nat.le_of_ble_eq_true rfl⟩) rfl hl.1 rfl (Nat.le_of_ble_eq_true rfl) dX12_cheapOf_34 (fun r28 w30 H locs hp29 hw => ?_)
            obtain ⟨hT, k31, hg34⟩ := hp29
            have hF := hF.tr k31 (by decide)
            obtain ⟨g32, g33⟩ := hg34
            refine lv_iload hx hb dX12_cheapOf_37 (lv_at hl 4 rfl) ?_
            refine lv_icmp_ne (tgt := 46) hx hb dX12_cheapOf_39 (by decide) (fun c35 => ?_) (fun c35 => ?_)
            · have c35 : ¬ r28.toInt = v7_4.toInt := wk_eqF c35
              refine lv_iconst (v := 0) hx hb dX12_cheapOf_46 (by decide) ?_
              refine lv_iadd hx hb dX12_cheapOf_47 ?_
              have nx36 := wk_i32 v19_5
              refine lv_topi (fun x37 ex37 => ?_)
              have ex37 : x37.toInt = v19_5.toInt + (0 : Int) := by rw [ex37]; exact wk_add (show (-2147483648) ≤ v19_5.toInt + (0 : Int) by omega) (show v19_5.toInt + (0 : Int) ≤ 2147483647 by omega)
              refine lv_istore (lv' := [(5, .int x37), (0, .ref (ad 0)), (1, .int a1), (2, .int v7_2), (3, .int v7_3), (4, .int v7_4), (6, .int v19_6)]) hx hb dX12_cheapOf_48 hl (by decide) rfl (fun ls hl => ?_)
              obtain ⟨x38, ex38⟩ : ∃ y : Int32, y = v19_6 + Int32.ofInt 1 := ⟨_, rfl⟩
              refine lv_iinc (v := x38) (lv' := [(6, .int x38), (5, .int x37), (0, .ref (ad 0)), (1, .int a1), (2, .int v7_2), (3, .int v7_3), (4, .int v7_4)]) hx hb dX12_cheapOf_50 hl (k := 6) rfl ex38.symm (by decide) rfl (fun ls hl => ?_)
              have ex38 : x38.toInt = v19_6.toInt + 1 := by rw [ex38]; exact wk_add (y := 1) (show -2147483648 ≤ v19_6.toInt + 1 by omega) (show v19_6.toInt + 1 ≤ 2147483647 by omega)
              refine lv_goto (tgt := 19) hx hb dX12_cheapOf_53 (by decide) ?_
              exact ih19 x37 x38 H locs ls w30 (show 0 ≤ a1.toInt by omega) (show a1.toInt ≤ 11 by omega) (show 0 ≤ v7_2.toInt by omega) (show v7_2.toInt ≤ 3 by omega) (show (-1) ≤ v7_3.toInt by omega) (show 0 ≤ v7_4.toInt by omega) (show v7_4.toInt ≤ 3 by omega) (show 0 ≤ x38.toInt by omega) (show x38.toInt ≤ 7 by omega) (show (7 - x38.toInt).toNat < n19 by omega) hw hT hF  (lv_sub hl [2, 3, 4, 5, 6, 1, 0] rfl)
            · have c35 : r28.toInt = v7_4.toInt := wk_eq.mp c35
              refine lv_iconst (v := 1) hx hb dX12_cheapOf_42 (by decide) ?_
              refine lv_goto (tgt := 47) hx hb dX12_cheapOf_43 (by decide) ?_
              refine lv_iadd hx hb dX12_cheapOf_47 ?_
              have nx39 := wk_i32 v19_5
              refine lv_topi (fun x40 ex40 => ?_)
              refine lv_istore (lv' := [(5, .int x40), (0, .ref (ad 0)), (1, .int a1), (2, .int v7_2), (3, .int v7_3), (4, .int v7_4), (6, .int v19_6)]) hx hb dX12_cheapOf_48 hl (by decide) rfl (fun ls hl => ?_)
              obtain ⟨x41, ex41⟩ : ∃ y : Int32, y = v19_6 + Int32.ofInt 1 := ⟨_, rfl⟩
              refine lv_iinc (v := x41) (lv' := [(6, .int x41), (5, .int x40), (0, .ref (ad 0)), (1, .int a1), (2, .int v7_2), (3, .int v7_3), (4, .int v7_4)]) hx hb dX12_cheapOf_50 hl (k := 6) rfl ex41.symm (by decide) rfl (fun ls hl => ?_)
              have ex41 : x41.toInt = v19_6.toInt + 1 := by rw [ex41]; exact wk_add (y := 1) (show -2147483648 ≤ v19_6.toInt + 1 by omega) (show v19_6.toInt + 1 ≤ 2147483647 by omega)
              refine lv_goto (tgt := 19) hx hb dX12_cheapOf_53 (by decide) ?_
              exact ih19 x40 x41 H locs ls w30 (show 0 ≤ a1.toInt by omega) (show a1.toInt ≤ 11 by omega) (show 0 ≤ v7_2.toInt by omega) (show v7_2.toInt ≤ 3 by omega) (show (-1) ≤ v7_3.toInt by omega) (show 0 ≤ v7_4.toInt by omega) (show v7_4.toInt ≤ 3 by omega) (show 0 ≤ x41.toInt by omega) (show x41.toInt ≤ 7 by omega) (show (7 - x41.toInt).toNat < n19 by omega) hw hT hF  (lv_sub hl [2, 3, 4, 5, 6, 1, 0] rfl)
      refine lv_iload hx hb dX12_cheapOf_7 (lv_at hl 4 rfl) ?_
      refine lv_iconst (v := 4) hx hb dX12_cheapOf_9 (by decide) ?_
      refine lv_icmp_ge (tgt := 88) hx hb dX12_cheapOf_10 (by decide) (fun c42 => ?_) (fun c42 => ?_)
      · have c42 : (4 : Int) ≤ v7_4.toInt := wk_le.mp c42
        refine lv_iload_n hx hb dX12_cheapOf_88 rfl (lv_at hl 2 rfl) ?_
        exact tk_iret hC hr hlocks hK ⟨hT, hF, ⟨(show 0 ≤ v7_2.toInt by omega), (show v7_2.toInt ≤ 3 by omega)⟩⟩ hw dX12_cheapOf_89
      · have c42 : v7_4.toInt < (4 : Int) := wk_leF c42
        refine lv_iconst (v := 0) hx hb dX12_cheapOf_13 (by decide) ?_
        refine lv_istore (lv' := [(5, .int 0), (0, .ref (ad 0)), (1, .int a1), (2, .int v7_2), (3, .int v7_3), (4, .int v7_4)]) hx hb dX12_cheapOf_14 hl (by decide) rfl (fun ls hl => ?_)
        refine lv_iconst (v := 0) hx hb dX12_cheapOf_16 (by decide) ?_
        refine lv_istore (lv' := [(6, .int 0), (5, .int 0), (0, .ref (ad 0)), (1, .int a1), (2, .int v7_2), (3, .int v7_3), (4, .int v7_4)]) hx hb dX12_cheapOf_17 hl (by decide) rfl (fun ls hl => ?_)
        exact L19 ((7 - (0 : Int)).toNat + 1) 0 0 H locs ls w1 (show 0 ≤ a1.toInt by omega) (show a1.toInt ≤ 11 by omega) (show 0 ≤ v7_2.toInt by omega) (show v7_2.toInt ≤ 3 by omega) (show (-1) ≤ v7_3.toInt by omega) (show 0 ≤ v7_4.toInt by omega) (show v7_4.toInt ≤ 3 by omega) (by decide) (by decide) (Nat.lt_succ_self _) hw hT hF  (lv_sub hl [2, 3, 4, 5, 6, 1, 0] rfl)
  refine lv_iconst (v := 0) hx hb dX12_cheapOf_0 (by decide) ?_
  refine lv_istore_n (lv' := [(2, .int 0), (0, .ref (ad 0)), (1, .int a1)]) hx hb dX12_cheapOf_1 rfl hl (by decide) rfl (fun ls hl => ?_)
  refine lv_iconst (v := (-1)) hx hb dX12_cheapOf_2 (by decide) ?_
  refine lv_istore_n (lv' := [(3, .int (-1)), (2, .int 0), (0, .ref (ad 0)), (1, .int a1)]) hx hb dX12_cheapOf_3 rfl hl (by decide) rfl (fun ls hl => ?_)
  refine lv_iconst (v := 0) hx hb dX12_cheapOf_4 (by decide) ?_
  refine lv_istore (lv' := [(4, .int 0), (3, .int (-1)), (2, .int 0), (0, .ref (ad 0)), (1, .int a1)]) hx hb dX12_cheapOf_5 hl (by decide) rfl (fun ls hl => ?_)
  exact L7 ((4 - (0 : Int)).toNat + 1) 0 (-1) 0 s.heap locs ls w0 (show 0 ≤ a1.toInt by omega) (show a1.toInt ≤ 11 by omega) (by decide) (by decide) (by decide) (by decide) (by decide) (Nat.lt_succ_self _) hw hT hF  (lv_sub hl [3, 4, 2, 1, 0] rfl)
abbrev P_X12_cheap_1 (ad : Nat → Nat) (cy : Nat → ClassId) (B : Int) (qr : Nat) (s1 : Int) (a1 : Int32) (w0 : va_W) : Int32 → va_W → Prop := fun r u => TW ksM ad cy B qr 12 u ∧ FE ksM ([] : List (Nat × Nat × Nat)) w0 u ∧ ((0 ≤ r.toInt ∧ r.toInt ≤ 3 ∧ 0 ≤ a1.toInt ∧ a1.toInt ≤ 11 ∧ (∃ y : Int32, gi u 12 1 = y ∧ 1 ≤ y.toInt ∧ y.toInt ≤ 12)) ∨ (r = (-1)))
set_option maxHeartbeats 4000000 in
set_option maxRecDepth 100000 in
theorem k_X12_cheap_1 (l : Launch) (adK adV : Nat → Nat) (dC : Nat → ClassId) (dI : Nat → Nat → Nat) (cy : Nat → ClassId) (ad : Nat → Nat) (B : Int) (hB0 : 100000 ≤ B) (hB1 : B ≤ 1073741824) (qr : Nat) (s1 : Int)  (a1 : Int32) (w0 : va_W) (sz : Nat) (hT : TW ksM ad cy B qr 12 w0)  : Met l yX12_cheap wsX12_cheap ({ frames := 3, cells := 0, slots := 0, locals := 60 }) (va_Pc [.ref (ad 0), .int a1] (wpreS adK adV dC dI cy sz w0)) (va_Qi (P_X12_cheap_1 ad cy B qr s1 a1 w0) (fun u : va_W => wpost dC dI cy (va_A w0 sz) u) (va_A w0 sz)) 0 0 (va_A w0 sz) := by
  refine Met.ofW (cc := cX12_cheap) (maxL := 2) (ret := (some .int)) (by decide) rfl ?_
  intro p e s m args below meth c s₁ Bk hml hv
  obtain ⟨rfl, ⟨hsz, hP, hK, hD0⟩, hE, hSR⟩ := hv
  have hx := Bk.exec
  have hb := Bk.bytes
  have hr := Bk.returns
  have hlocks := Bk.notSynchronized
  have hC : CallFix p m c cX12_cheap 2 s _ wsX12_cheap RX12 := ⟨hx, hb, hml, findClass_of_methodNamed Bk.named, atoms_spec (ws := wsX12_cheap) Bk.pre⟩
  subst hsz
  have hD := hD0.self (sz := s.heap.size)
  generalize hAe : va_A w0 s.heap.size = A at hD hE ⊢
  have hA : ∀ q : Nat, s.heap.size ≤ q → A q := fun q h => by rw [← hAe]; exact Or.inr h
  have hw : Wd dC dI A s.heap s.heap [] w0 := ⟨hP, hD, va_S.rf⟩
  have hF : FE ksM ([] : List (Nat × Nat × Nat)) w0 w0 := FE.rf
  have hl := lv_entry ([.ref (ad 0), .int a1]) (n := 2) (Nat.le_of_ble_eq_true rfl)
  rw [lg_entry_eq]
  generalize (lg_sl ([.ref (ad 0), .int a1]) ++ List.replicate (2 - (lg_sl ([.ref (ad 0), .int a1])).length) Slot.unset).toArray = ls at hl ⊢
  have hl : lv_has ls 2 [(0, .ref (ad 0)), (1, .int a1)] := hl
  generalize hloc : ([] : List Loc) = locs at hw ⊢
  refine lv_aload_n hx hb dX12_cheap_0 rfl (lv_at hl 0 rfl) ?_
  refine lv_iload_n hx hb dX12_cheap_1 rfl (lv_at hl 1 rfl) ?_
  refine tk_Vi hC hK hw hT hA hE hSR kM_at0 (by decide) rfl (k_X12_isStreet_1 l adK adV dC dI cy ad B (by omega) (by omega) qr s1   a1 w0 s.heap.size hT ) (cwV 1 hC.2.2.2.2 gX12_cheap_X12_isStreet rfl rfl rfl (by decide +kernel) ⟨Nat.le_of_ble_eq_true rfl, Nat.le_of_ble_eq_true rfl⟩) rfl hl.1 rfl (Nat.le_of_ble_eq_true rfl) dX12_cheap_2 (fun r1 w3 H locs hp2 hw => ?_)
  obtain ⟨hT, k4, hg9⟩ := hp2
  have hF := hF.tr k4 (by decide)
  rcases hg9 with rfl | ⟨rfl, g5, g6, ⟨x7, c8, rx7, tx7⟩⟩
  · refine lv_if_eq (tgt := 16) hx hb dX12_cheap_5 (by decide) (fun _ => ?_) (fun c => absurd (by decide) c)
    refine lv_iconst (v := (-1)) hx hb dX12_cheap_16 (by decide) ?_
    exact tk_iret hC hr hlocks hK ⟨hT, hF, (Or.inr rfl)⟩ hw dX12_cheap_17
  · refine lv_if_eq (tgt := 16) hx hb dX12_cheap_5 (by decide) (fun c => absurd c (by decide)) (fun _ => ?_)
    refine lv_aload_n hx hb dX12_cheap_8 rfl (lv_at hl 0 rfl) ?_
    refine lv_iload_n hx hb dX12_cheap_9 rfl (lv_at hl 1 rfl) ?_
    refine tk_Vi hC hK hw hT hA hE hSR kM_at0 (by decide) rfl (k_X12_cheapOf_1 l adK adV dC dI cy ad B (by omega) (by omega) qr s1   a1 (show 0 ≤ a1.toInt by omega) (show a1.toInt ≤ 11 by omega) w3 H.size hT ) (cwV 1 hC.2.2.2.2 gX12_cheap_X12_cheapOf rfl rfl rfl (by decide +kernel) ⟨Nat.le_of_ble_eq_true rfl, Nat.le_of_ble_eq_true rfl⟩) rfl hl.1 rfl (Nat.le_of_ble_eq_true rfl) dX12_cheap_10 (fun r10 w12 H locs hp11 hw => ?_)
    obtain ⟨hT, k13, hg16⟩ := hp11
    have hF := hF.tr k13 (by decide)
    have c17 := k13.gi kM_at12 (by decide) c8
    obtain ⟨g14, g15⟩ := hg16
    refine lv_goto (tgt := 17) hx hb dX12_cheap_13 (by decide) ?_
    exact tk_iret hC hr hlocks hK ⟨hT, hF, (Or.inl ⟨(show 0 ≤ r10.toInt by omega), (show r10.toInt ≤ 3 by omega), (show 0 ≤ a1.toInt by omega), (show a1.toInt ≤ 11 by omega), ⟨x7, c17, (show 1 ≤ x7.toInt by omega), (show x7.toInt ≤ 12 by omega)⟩⟩)⟩ hw dX12_cheap_17
abbrev P_X12_wrong_1 (ad : Nat → Nat) (cy : Nat → ClassId) (B : Int) (qr : Nat) (s1 : Int) (a1 : Int32) (w0 : va_W) : Int32 → va_W → Prop := fun r u => TW ksM ad cy B qr 12 u ∧ FE ksM ([] : List (Nat × Nat × Nat)) w0 u ∧ ((0 ≤ a1.toInt ∧ a1.toInt ≤ 7 ∧ (∃ y : Int32, gi u 12 0 = y ∧ 1 ≤ y.toInt ∧ y.toInt ≤ 10)) ∨ (r = (-1)))
set_option maxHeartbeats 4000000 in
set_option maxRecDepth 100000 in
theorem k_X12_wrong_1 (l : Launch) (adK adV : Nat → Nat) (dC : Nat → ClassId) (dI : Nat → Nat → Nat) (cy : Nat → ClassId) (ad : Nat → Nat) (B : Int) (hB0 : 100000 ≤ B) (hB1 : B ≤ 1073741824) (qr : Nat) (s1 : Int)  (a1 : Int32) (w0 : va_W) (sz : Nat) (hT : TW ksM ad cy B qr 12 w0)  : Met l yX12_wrong wsX12_wrong ({ frames := 3, cells := 0, slots := 0, locals := 60 }) (va_Pc [.ref (ad 0), .int a1] (wpreS adK adV dC dI cy sz w0)) (va_Qi (P_X12_wrong_1 ad cy B qr s1 a1 w0) (fun u : va_W => wpost dC dI cy (va_A w0 sz) u) (va_A w0 sz)) 0 0 (va_A w0 sz) := by
  refine Met.ofW (cc := cX12_wrong) (maxL := 5) (ret := (some .int)) (by decide) rfl ?_
  intro p e s m args below meth c s₁ Bk hml hv
  obtain ⟨rfl, ⟨hsz, hP, hK, hD0⟩, hE, hSR⟩ := hv
  have hx := Bk.exec
  have hb := Bk.bytes
  have hr := Bk.returns
  have hlocks := Bk.notSynchronized
  have hC : CallFix p m c cX12_wrong 5 s _ wsX12_wrong RX12 := ⟨hx, hb, hml, findClass_of_methodNamed Bk.named, atoms_spec (ws := wsX12_wrong) Bk.pre⟩
  subst hsz
  have hD := hD0.self (sz := s.heap.size)
  generalize hAe : va_A w0 s.heap.size = A at hD hE ⊢
  have hA : ∀ q : Nat, s.heap.size ≤ q → A q := fun q h => by rw [← hAe]; exact Or.inr h
  have hw : Wd dC dI A s.heap s.heap [] w0 := ⟨hP, hD, va_S.rf⟩
  have hF : FE ksM ([] : List (Nat × Nat × Nat)) w0 w0 := FE.rf
  have hl := lv_entry ([.ref (ad 0), .int a1]) (n := 5) (Nat.le_of_ble_eq_true rfl)
  rw [lg_entry_eq]
  generalize (lg_sl ([.ref (ad 0), .int a1]) ++ List.replicate (5 - (lg_sl ([.ref (ad 0), .int a1])).length) Slot.unset).toArray = ls at hl ⊢
  have hl : lv_has ls 5 [(0, .ref (ad 0)), (1, .int a1)] := hl
  generalize hloc : ([] : List Loc) = locs at hw ⊢
  have hinX12 : ∀ w ∈ u_ws RX12 TX12 42, w ∈ wsX12_wrong := fun _ h => List.mem_cons_of_mem _ (List.mem_append_right _ (h))
  have J19 : ∀ (f19_12_0 : Int32) (H : Heap) (locs : List Loc) (ls : Array Slot) (w1 : va_W), 0 ≤ f19_12_0.toInt → f19_12_0.toInt ≤ 10 → Wd dC dI A s.heap H locs w1 → TW ksM ad cy B qr 12 w1 → FE ksM ([] : List (Nat × Nat × Nat)) w0 w1 → gi w1 12 0 = f19_12_0 → lv_has ls 5 [(0, .ref (ad 0)), (1, .int a1)] → W p l e ({ frames := 3, cells := 0, slots := 0, locals := 60 }) s m (List.toArray [.ref (ad 0), .int a1]) below meth c H locs 0 0 (MQ below (va_Qi (P_X12_wrong_1 ad cy B qr s1 a1 w0) (fun u : va_W => wpost dC dI cy A u) A) (List.toArray [.ref (ad 0), .int a1]) s 0 0 A) (F0 m 19 ls []) := by
    intro f19_12_0 H locs ls w1 r2 t3 hw hT hF c4 hl
    refine lv_iconst (v := (-1)) hx hb dX12_wrong_19 (by decide) ?_
    exact tk_iret hC hr hlocks hK ⟨hT, hF, (Or.inr rfl)⟩ hw dX12_wrong_20
  have L25 : ∀ (n25 : Nat) (v25_2 : Int32) (v25_3 : Int32) (f25_12_0 : Int32) (H : Heap) (locs : List Loc) (ls : Array Slot) (w5 : va_W), 0 ≤ a1.toInt → a1.toInt ≤ 7 → 0 ≤ v25_3.toInt → v25_3.toInt ≤ 12 → 1 ≤ f25_12_0.toInt → f25_12_0.toInt ≤ 10 → (12 - v25_3.toInt).toNat < n25 → Wd dC dI A s.heap H locs w5 → TW ksM ad cy B qr 12 w5 → FE ksM ([] : List (Nat × Nat × Nat)) w0 w5 → gi w5 12 0 = f25_12_0 → lv_has ls 5 [(0, .ref (ad 0)), (1, .int a1), (2, .int v25_2), (3, .int v25_3)] → W p l e ({ frames := 3, cells := 0, slots := 0, locals := 60 }) s m (List.toArray [.ref (ad 0), .int a1]) below meth c H locs 0 0 (MQ below (va_Qi (P_X12_wrong_1 ad cy B qr s1 a1 w0) (fun u : va_W => wpost dC dI cy A u) A) (List.toArray [.ref (ad 0), .int a1]) s 0 0 A) (F0 m 25 ls []) := by
    intro n25
    induction n25 with
    | zero => intro v25_2 v25_3 f25_12_0 H locs ls w5 r6 t7 r8 t9 r10 t11 hm25 hw hT hF c12 hl; omega
    | succ n25 ih25 =>
      intro v25_2 v25_3 f25_12_0 H locs ls w5 r6 t7 r8 t9 r10 t11 hm25 hw hT hF c12 hl
      have L38 : ∀ (n38 : Nat) (v38_2 : Int32) (v38_4 : Int32) (f38_12_1 : Int32) (H : Heap) (locs : List Loc) (ls : Array Slot) (w13 : va_W), 0 ≤ a1.toInt → a1.toInt ≤ 7 → 0 ≤ v25_3.toInt → v25_3.toInt ≤ 11 → 0 ≤ v38_4.toInt → v38_4.toInt ≤ 7 → 1 ≤ f25_12_0.toInt → f25_12_0.toInt ≤ 10 → 1 ≤ f38_12_1.toInt → f38_12_1.toInt ≤ 12 → (7 - v38_4.toInt).toNat < n38 → Wd dC dI A s.heap H locs w13 → TW ksM ad cy B qr 12 w13 → FE ksM ([] : List (Nat × Nat × Nat)) w0 w13 → gi w13 12 0 = f25_12_0 → gi w13 12 1 = f38_12_1 → lv_has ls 5 [(0, .ref (ad 0)), (1, .int a1), (2, .int v38_2), (3, .int v25_3), (4, .int v38_4)] → W p l e ({ frames := 3, cells := 0, slots := 0, locals := 60 }) s m (List.toArray [.ref (ad 0), .int a1]) below meth c H locs 0 0 (MQ below (va_Qi (P_X12_wrong_1 ad cy B qr s1 a1 w0) (fun u : va_W => wpost dC dI cy A u) A) (List.toArray [.ref (ad 0), .int a1]) s 0 0 A) (F0 m 38 ls []) := by
        intro n38
        induction n38 with
        | zero => intro v38_2 v38_4 f38_12_1 H locs ls w13 r14 t15 r16 t17 r18 t19 r20 t21 r23 t24 hm38 hw hT hF c22 c25 hl; omega
        | succ n38 ih38 =>
          intro v38_2 v38_4 f38_12_1 H locs ls w13 r14 t15 r16 t17 r18 t19 r20 t21 r23 t24 hm38 hw hT hF c22 c25 hl
          refine lv_iload hx hb dX12_wrong_38 (lv_at hl 4 rfl) ?_
          refine lv_bipush (v := 7) hx hb dX12_wrong_40 (by decide) ?_
          refine lv_icmp_ge (tgt := 88) hx hb dX12_wrong_42 (by decide) (fun c26 => ?_) (fun c26 => ?_)
          · have c26 : (7 : Int) ≤ v38_4.toInt := wk_le.mp c26
            obtain ⟨x27, ex27⟩ : ∃ y : Int32, y = v25_3 + Int32.ofInt 1 := ⟨_, rfl⟩
            refine lv_iinc (v := x27) (lv' := [(3, .int x27), (0, .ref (ad 0)), (1, .int a1), (2, .int v38_2), (4, .int v38_4)]) hx hb dX12_wrong_88 hl (k := 3) rfl ex27.symm (by decide) rfl (fun ls hl => ?_)
            have ex27 : x27.toInt = v25_3.toInt + 1 := by rw [ex27]; exact wk_add (y := 1) (show -2147483648 ≤ v25_3.toInt + 1 by omega) (show v25_3.toInt + 1 ≤ 2147483647 by omega)
            refine lv_goto (tgt := 25) hx hb dX12_wrong_91 (by decide) ?_
            exact ih25 v38_2 x27 f25_12_0 H locs ls w13 (show 0 ≤ a1.toInt by omega) (show a1.toInt ≤ 7 by omega) (show 0 ≤ x27.toInt by omega) (show x27.toInt ≤ 12 by omega) (show 1 ≤ f25_12_0.toInt by omega) (show f25_12_0.toInt ≤ 10 by omega) (show (12 - x27.toInt).toNat < n25 by omega) hw hT hF c22 (lv_sub hl [1, 2, 3, 0] rfl)
          · have c26 : v38_4.toInt < (7 : Int) := wk_leF c26
            refine lv_iload_n hx hb dX12_wrong_45 rfl (lv_at hl 2 rfl) ?_
            refine lv_iload_n hx hb dX12_wrong_46 rfl (lv_at hl 1 rfl) ?_
            refine lv_bipush (v := 7) hx hb dX12_wrong_47 (by decide) ?_
            refine lv_icmp_eq (tgt := 58) hx hb dX12_wrong_49 (by decide) (fun c28 => ?_) (fun c28 => ?_)
            · have c28 : a1.toInt = (7 : Int) := wk_eq.mp c28
              refine lv_aload_n hx hb dX12_wrong_58 rfl (lv_at hl 0 rfl) ?_
              refine lv_iload_n hx hb dX12_wrong_59 rfl (lv_at hl 3 rfl) ?_
              refine lv_iconst (v := 3) hx hb dX12_wrong_60 (by decide) ?_
              refine lv_iload hx hb dX12_wrong_61 (lv_at hl 4 rfl) ?_
              refine lv_iadd hx hb dX12_wrong_63 ?_
              refine lv_topi (fun x29 ex29 => ?_)
              have ex29 : x29.toInt = (3 : Int) + v38_4.toInt := by rw [ex29]; exact wk_add (show (-2147483648) ≤ (3 : Int) + v38_4.toInt by omega) (show (3 : Int) + v38_4.toInt ≤ 2147483647 by omega)
              refine tk_Vi hC hK hw hT hA hE hSR kM_at0 (by decide) rfl (k_X12_streetOf_4 l adK adV dC dI cy ad B (by omega) (by omega) qr s1   v25_3 (show 0 ≤ v25_3.toInt by omega) (show v25_3.toInt ≤ 11 by omega) x29 (show 3 ≤ x29.toInt by omega) (show x29.toInt ≤ 9 by omega) w13 H.size hT ) (cwV 2 hC.2.2.2.2 gX12_wrong_X12_streetOf rfl rfl rfl (by decide +kernel) ⟨Nat.le_of_ble_eq_true rfl, Nat.le_of_ble_eq_true rfl⟩) rfl hl.1 rfl (Nat.le_of_ble_eq_true rfl) dX12_wrong_64 (fun r30 w32 H locs hp31 hw => ?_)
              obtain ⟨hT, k33, hg36⟩ := hp31
              have hF := hF.tr k33 (by decide)
              have c37 := k33.gi kM_at12 (by decide) c22
              have c38 := k33.gi kM_at12 (by decide) c25
              obtain ⟨g34, g35⟩ := hg36
              refine lv_aload_n hx hb dX12_wrong_67 rfl (lv_at hl 0 rfl) ?_
              refine lv_iload_n hx hb dX12_wrong_68 rfl (lv_at hl 3 rfl) ?_
              refine tk_Vi hC hK hw hT hA hE hSR kM_at0 (by decide) rfl (k_X12_cheapOf_1 l adK adV dC dI cy ad B (by omega) (by omega) qr s1   v25_3 (show 0 ≤ v25_3.toInt by omega) (show v25_3.toInt ≤ 11 by omega) w32 H.size hT ) (cwV 1 hC.2.2.2.2 gX12_wrong_X12_cheapOf rfl rfl rfl (by decide +kernel) ⟨Nat.le_of_ble_eq_true rfl, Nat.le_of_ble_eq_true rfl⟩) rfl hl.1 rfl (Nat.le_of_ble_eq_true rfl) dX12_wrong_69 (fun r39 w41 H locs hp40 hw => ?_)
              obtain ⟨hT, k42, hg45⟩ := hp40
              have hF := hF.tr k42 (by decide)
              have c46 := k42.gi kM_at12 (by decide) c37
              have c47 := k42.gi kM_at12 (by decide) c38
              obtain ⟨g43, g44⟩ := hg45
              refine lv_icmp_eq (tgt := 79) hx hb dX12_wrong_72 (by decide) (fun c48 => ?_) (fun c48 => ?_)
              · have c48 : r30.toInt = r39.toInt := wk_eq.mp c48
                refine lv_iconst (v := 0) hx hb dX12_wrong_79 (by decide) ?_
                refine lv_iadd hx hb dX12_wrong_80 ?_
                have nx49 := wk_i32 v38_2
                refine lv_topi (fun x50 ex50 => ?_)
                have ex50 : x50.toInt = v38_2.toInt + (0 : Int) := by rw [ex50]; exact wk_add (show (-2147483648) ≤ v38_2.toInt + (0 : Int) by omega) (show v38_2.toInt + (0 : Int) ≤ 2147483647 by omega)
                refine lv_istore_n (lv' := [(2, .int x50), (0, .ref (ad 0)), (1, .int a1), (3, .int v25_3), (4, .int v38_4)]) hx hb dX12_wrong_81 rfl hl (by decide) rfl (fun ls hl => ?_)
                obtain ⟨x51, ex51⟩ : ∃ y : Int32, y = v38_4 + Int32.ofInt 1 := ⟨_, rfl⟩
                refine lv_iinc (v := x51) (lv' := [(4, .int x51), (2, .int x50), (0, .ref (ad 0)), (1, .int a1), (3, .int v25_3)]) hx hb dX12_wrong_82 hl (k := 4) rfl ex51.symm (by decide) rfl (fun ls hl => ?_)
                have ex51 : x51.toInt = v38_4.toInt + 1 := by rw [ex51]; exact wk_add (y := 1) (show -2147483648 ≤ v38_4.toInt + 1 by omega) (show v38_4.toInt + 1 ≤ 2147483647 by omega)
                refine lv_goto (tgt := 38) hx hb dX12_wrong_85 (by decide) ?_
                exact ih38 x50 x51 f38_12_1 H locs ls w41 (show 0 ≤ a1.toInt by omega) (show a1.toInt ≤ 7 by omega) (show 0 ≤ v25_3.toInt by omega) (show v25_3.toInt ≤ 11 by omega) (show 0 ≤ x51.toInt by omega) (show x51.toInt ≤ 7 by omega) (show 1 ≤ f25_12_0.toInt by omega) (show f25_12_0.toInt ≤ 10 by omega) (show 1 ≤ f38_12_1.toInt by omega) (show f38_12_1.toInt ≤ 12 by omega) (show (7 - x51.toInt).toNat < n38 by omega) hw hT hF c46 c47 (lv_sub hl [2, 3, 1, 4, 0] rfl)
              · have c48 : ¬ r30.toInt = r39.toInt := wk_eqF c48
                refine lv_iconst (v := 1) hx hb dX12_wrong_75 (by decide) ?_
                refine lv_goto (tgt := 80) hx hb dX12_wrong_76 (by decide) ?_
                refine lv_iadd hx hb dX12_wrong_80 ?_
                have nx52 := wk_i32 v38_2
                refine lv_topi (fun x53 ex53 => ?_)
                refine lv_istore_n (lv' := [(2, .int x53), (0, .ref (ad 0)), (1, .int a1), (3, .int v25_3), (4, .int v38_4)]) hx hb dX12_wrong_81 rfl hl (by decide) rfl (fun ls hl => ?_)
                obtain ⟨x54, ex54⟩ : ∃ y : Int32, y = v38_4 + Int32.ofInt 1 := ⟨_, rfl⟩
                refine lv_iinc (v := x54) (lv' := [(4, .int x54), (2, .int x53), (0, .ref (ad 0)), (1, .int a1), (3, .int v25_3)]) hx hb dX12_wrong_82 hl (k := 4) rfl ex54.symm (by decide) rfl (fun ls hl => ?_)
                have ex54 : x54.toInt = v38_4.toInt + 1 := by rw [ex54]; exact wk_add (y := 1) (show -2147483648 ≤ v38_4.toInt + 1 by omega) (show v38_4.toInt + 1 ≤ 2147483647 by omega)
                refine lv_goto (tgt := 38) hx hb dX12_wrong_85 (by decide) ?_
                exact ih38 x53 x54 f38_12_1 H locs ls w41 (show 0 ≤ a1.toInt by omega) (show a1.toInt ≤ 7 by omega) (show 0 ≤ v25_3.toInt by omega) (show v25_3.toInt ≤ 11 by omega) (show 0 ≤ x54.toInt by omega) (show x54.toInt ≤ 7 by omega) (show 1 ≤ f25_12_0.toInt by omega) (show f25_12_0.toInt ≤ 10 by omega) (show 1 ≤ f38_12_1.toInt by omega) (show f38_12_1.toInt ≤ 12 by omega) (show (7 - x54.toInt).toNat < n38 by omega) hw hT hF c46 c47 (lv_sub hl [2, 3, 1, 4, 0] rfl)
            · have c28 : ¬ a1.toInt = (7 : Int) := wk_eqF c28
              refine lv_iload_n hx hb dX12_wrong_52 rfl (lv_at hl 1 rfl) ?_
              refine lv_iload hx hb dX12_wrong_53 (lv_at hl 4 rfl) ?_
              refine lv_icmp_ne (tgt := 79) hx hb dX12_wrong_55 (by decide) (fun c55 => ?_) (fun c55 => ?_)
              · have c55 : ¬ a1.toInt = v38_4.toInt := wk_eqF c55
                refine lv_iconst (v := 0) hx hb dX12_wrong_79 (by decide) ?_
                refine lv_iadd hx hb dX12_wrong_80 ?_
                have nx56 := wk_i32 v38_2
                refine lv_topi (fun x57 ex57 => ?_)
                have ex57 : x57.toInt = v38_2.toInt + (0 : Int) := by rw [ex57]; exact wk_add (show (-2147483648) ≤ v38_2.toInt + (0 : Int) by omega) (show v38_2.toInt + (0 : Int) ≤ 2147483647 by omega)
                refine lv_istore_n (lv' := [(2, .int x57), (0, .ref (ad 0)), (1, .int a1), (3, .int v25_3), (4, .int v38_4)]) hx hb dX12_wrong_81 rfl hl (by decide) rfl (fun ls hl => ?_)
                obtain ⟨x58, ex58⟩ : ∃ y : Int32, y = v38_4 + Int32.ofInt 1 := ⟨_, rfl⟩
                refine lv_iinc (v := x58) (lv' := [(4, .int x58), (2, .int x57), (0, .ref (ad 0)), (1, .int a1), (3, .int v25_3)]) hx hb dX12_wrong_82 hl (k := 4) rfl ex58.symm (by decide) rfl (fun ls hl => ?_)
                have ex58 : x58.toInt = v38_4.toInt + 1 := by rw [ex58]; exact wk_add (y := 1) (show -2147483648 ≤ v38_4.toInt + 1 by omega) (show v38_4.toInt + 1 ≤ 2147483647 by omega)
                refine lv_goto (tgt := 38) hx hb dX12_wrong_85 (by decide) ?_
                exact ih38 x57 x58 f38_12_1 H locs ls w13 (show 0 ≤ a1.toInt by omega) (show a1.toInt ≤ 7 by omega) (show 0 ≤ v25_3.toInt by omega) (show v25_3.toInt ≤ 11 by omega) (show 0 ≤ x58.toInt by omega) (show x58.toInt ≤ 7 by omega) (show 1 ≤ f25_12_0.toInt by omega) (show f25_12_0.toInt ≤ 10 by omega) (show 1 ≤ f38_12_1.toInt by omega) (show f38_12_1.toInt ≤ 12 by omega) (show (7 - x58.toInt).toNat < n38 by omega) hw hT hF c22 c25 (lv_sub hl [2, 3, 1, 4, 0] rfl)
              · have c55 : a1.toInt = v38_4.toInt := wk_eq.mp c55
                refine lv_aload_n hx hb dX12_wrong_58 rfl (lv_at hl 0 rfl) ?_
                refine lv_iload_n hx hb dX12_wrong_59 rfl (lv_at hl 3 rfl) ?_
                refine lv_iconst (v := 3) hx hb dX12_wrong_60 (by decide) ?_
                refine lv_iload hx hb dX12_wrong_61 (lv_at hl 4 rfl) ?_
                refine lv_iadd hx hb dX12_wrong_63 ?_
                refine lv_topi (fun x59 ex59 => ?_)
                have ex59 : x59.toInt = (3 : Int) + v38_4.toInt := by rw [ex59]; exact wk_add (show (-2147483648) ≤ (3 : Int) + v38_4.toInt by omega) (show (3 : Int) + v38_4.toInt ≤ 2147483647 by omega)
                refine tk_Vi hC hK hw hT hA hE hSR kM_at0 (by decide) rfl (k_X12_streetOf_4 l adK adV dC dI cy ad B (by omega) (by omega) qr s1   v25_3 (show 0 ≤ v25_3.toInt by omega) (show v25_3.toInt ≤ 11 by omega) x59 (show 3 ≤ x59.toInt by omega) (show x59.toInt ≤ 9 by omega) w13 H.size hT ) (cwV 2 hC.2.2.2.2 gX12_wrong_X12_streetOf rfl rfl rfl (by decide +kernel) ⟨Nat.le_of_ble_eq_true rfl, Nat.le_of_ble_eq_true rfl⟩) rfl hl.1 rfl (Nat.le_of_ble_eq_true rfl) dX12_wrong_64 (fun r60 w62 H locs hp61 hw => ?_)
                obtain ⟨hT, k63, hg66⟩ := hp61
                have hF := hF.tr k63 (by decide)
                have c67 := k63.gi kM_at12 (by decide) c22
                have c68 := k63.gi kM_at12 (by decide) c25
                obtain ⟨g64, g65⟩ := hg66
                refine lv_aload_n hx hb dX12_wrong_67 rfl (lv_at hl 0 rfl) ?_
                refine lv_iload_n hx hb dX12_wrong_68 rfl (lv_at hl 3 rfl) ?_
                refine tk_Vi hC hK hw hT hA hE hSR kM_at0 (by decide) rfl (k_X12_cheapOf_1 l adK adV dC dI cy ad B (by omega) (by omega) qr s1   v25_3 (show 0 ≤ v25_3.toInt by omega) (show v25_3.toInt ≤ 11 by omega) w62 H.size hT ) (cwV 1 hC.2.2.2.2 gX12_wrong_X12_cheapOf rfl rfl rfl (by decide +kernel) ⟨Nat.le_of_ble_eq_true rfl, Nat.le_of_ble_eq_true rfl⟩) rfl hl.1 rfl (Nat.le_of_ble_eq_true rfl) dX12_wrong_69 (fun r69 w71 H locs hp70 hw => ?_)
                obtain ⟨hT, k72, hg75⟩ := hp70
                have hF := hF.tr k72 (by decide)
                have c76 := k72.gi kM_at12 (by decide) c67
                have c77 := k72.gi kM_at12 (by decide) c68
                obtain ⟨g73, g74⟩ := hg75
                refine lv_icmp_eq (tgt := 79) hx hb dX12_wrong_72 (by decide) (fun c78 => ?_) (fun c78 => ?_)
                · have c78 : r60.toInt = r69.toInt := wk_eq.mp c78
                  refine lv_iconst (v := 0) hx hb dX12_wrong_79 (by decide) ?_
                  refine lv_iadd hx hb dX12_wrong_80 ?_
                  have nx79 := wk_i32 v38_2
                  refine lv_topi (fun x80 ex80 => ?_)
                  have ex80 : x80.toInt = v38_2.toInt + (0 : Int) := by rw [ex80]; exact wk_add (show (-2147483648) ≤ v38_2.toInt + (0 : Int) by omega) (show v38_2.toInt + (0 : Int) ≤ 2147483647 by omega)
                  refine lv_istore_n (lv' := [(2, .int x80), (0, .ref (ad 0)), (1, .int a1), (3, .int v25_3), (4, .int v38_4)]) hx hb dX12_wrong_81 rfl hl (by decide) rfl (fun ls hl => ?_)
                  obtain ⟨x81, ex81⟩ : ∃ y : Int32, y = v38_4 + Int32.ofInt 1 := ⟨_, rfl⟩
                  refine lv_iinc (v := x81) (lv' := [(4, .int x81), (2, .int x80), (0, .ref (ad 0)), (1, .int a1), (3, .int v25_3)]) hx hb dX12_wrong_82 hl (k := 4) rfl ex81.symm (by decide) rfl (fun ls hl => ?_)
                  have ex81 : x81.toInt = v38_4.toInt + 1 := by rw [ex81]; exact wk_add (y := 1) (show -2147483648 ≤ v38_4.toInt + 1 by omega) (show v38_4.toInt + 1 ≤ 2147483647 by omega)
                  refine lv_goto (tgt := 38) hx hb dX12_wrong_85 (by decide) ?_
                  exact ih38 x80 x81 f38_12_1 H locs ls w71 (show 0 ≤ a1.toInt by omega) (show a1.toInt ≤ 7 by omega) (show 0 ≤ v25_3.toInt by omega) (show v25_3.toInt ≤ 11 by omega) (show 0 ≤ x81.toInt by omega) (show x81.toInt ≤ 7 by omega) (show 1 ≤ f25_12_0.toInt by omega) (show f25_12_0.toInt ≤ 10 by omega) (show 1 ≤ f38_12_1.toInt by omega) (show f38_12_1.toInt ≤ 12 by omega) (show (7 - x81.toInt).toNat < n38 by omega) hw hT hF c76 c77 (lv_sub hl [2, 3, 1, 4, 0] rfl)
                · have c78 : ¬ r60.toInt = r69.toInt := wk_eqF c78
                  refine lv_iconst (v := 1) hx hb dX12_wrong_75 (by decide) ?_
                  refine lv_goto (tgt := 80) hx hb dX12_wrong_76 (by decide) ?_
                  refine lv_iadd hx hb dX12_wrong_80 ?_
                  have nx82 := wk_i32 v38_2
                  refine lv_topi (fun x83 ex83 => ?_)
                  refine lv_istore_n (lv' := [(2, .int x83), (0, .ref (ad 0)), (1, .int a1), (3, .int v25_3), (4, .int v38_4)]) hx hb dX12_wrong_81 rfl hl (by decide) rfl (fun ls hl => ?_)
                  obtain ⟨x84, ex84⟩ : ∃ y : Int32, y = v38_4 + Int32.ofInt 1 := ⟨_, rfl⟩
                  refine lv_iinc (v := x84) (lv' := [(4, .int x84), (2, .int x83), (0, .ref (ad 0)), (1, .int a1), (3, .int v25_3)]) hx hb dX12_wrong_82 hl (k := 4) rfl ex84.symm (by decide) rfl (fun ls hl => ?_)
                  have ex84 : x84.toInt = v38_4.toInt + 1 := by rw [ex84]; exact wk_add (y := 1) (show -2147483648 ≤ v38_4.toInt + 1 by omega) (show v38_4.toInt + 1 ≤ 2147483647 by omega)
                  refine lv_goto (tgt := 38) hx hb dX12_wrong_85 (by decide) ?_
                  exact ih38 x83 x84 f38_12_1 H locs ls w71 (show 0 ≤ a1.toInt by omega) (show a1.toInt ≤ 7 by omega) (show 0 ≤ v25_3.toInt by omega) (show v25_3.toInt ≤ 11 by omega) (show 0 ≤ x84.toInt by omega) (show x84.toInt ≤ 7 by omega) (show 1 ≤ f25_12_0.toInt by omega) (show f25_12_0.toInt ≤ 10 by omega) (show 1 ≤ f38_12_1.toInt by omega) (show f38_12_1.toInt ≤ 12 by omega) (show (7 - x84.toInt).toNat < n38 by omega) hw hT hF c76 c77 (lv_sub hl [2, 3, 1, 4, 0] rfl)
      refine lv_iload_n hx hb dX12_wrong_25 rfl (lv_at hl 3 rfl) ?_
      refine lv_aload_n hx hb dX12_wrong_26 rfl (lv_at hl 0 rfl) ?_
      refine tk_getA hC hK hw hT hinX12 kM_at0 (by decide) rfl 26 (by decide) (List.mem_of_getElem? (i := 2) rfl) rfl rfl dX12_wrong_27 ?_
      refine lv_iconst (v := 1) hx hb dX12_wrong_30 (by decide) ?_
      refine tk_ialdR hC hK hw hT kM_at12 rfl (by decide) (by decide) dX12_wrong_31 (fun x85 c86 Ex85 => ?_)
      have bx85 : 0 ≤ x85.toInt ∧ x85.toInt ≤ 12 := (tk_rg1 rfl).mp Ex85
      have c86 : gi w5 12 1 = x85 := c86
      refine lv_icmp_ge (tgt := 94) hx hb dX12_wrong_32 (by decide) (fun c87 => ?_) (fun c87 => ?_)
      · have c87 : x85.toInt ≤ v25_3.toInt := wk_le.mp c87
        refine lv_iload_n hx hb dX12_wrong_94 rfl (lv_at hl 2 rfl) ?_
        exact tk_iret hC hr hlocks hK ⟨hT, hF, (Or.inl ⟨(show 0 ≤ a1.toInt by omega), (show a1.toInt ≤ 7 by omega), ⟨f25_12_0, c12, (show 1 ≤ f25_12_0.toInt by omega), (show f25_12_0.toInt ≤ 10 by omega)⟩⟩)⟩ hw dX12_wrong_95
      · have c87 : v25_3.toInt < x85.toInt := wk_leF c87
        refine lv_iconst (v := 0) hx hb dX12_wrong_35 (by decide) ?_
        refine lv_istore (lv' := [(4, .int 0), (0, .ref (ad 0)), (1, .int a1), (2, .int v25_2), (3, .int v25_3)]) hx hb dX12_wrong_36 hl (by decide) rfl (fun ls hl => ?_)
        exact L38 ((7 - (0 : Int)).toNat + 1) v25_2 0 x85 H locs ls w5 (show 0 ≤ a1.toInt by omega) (show a1.toInt ≤ 7 by omega) (show 0 ≤ v25_3.toInt by omega) (show v25_3.toInt ≤ 11 by omega) (by decide) (by decide) (show 1 ≤ f25_12_0.toInt by omega) (show f25_12_0.toInt ≤ 10 by omega) (show 1 ≤ x85.toInt by omega) (show x85.toInt ≤ 12 by omega) (Nat.lt_succ_self _) hw hT hF c12 c86 (lv_sub hl [1, 2, 3, 4, 0] rfl)
  refine lv_aload_n hx hb dX12_wrong_0 rfl (lv_at hl 0 rfl) ?_
  refine tk_Vi hC hK hw hT hA hE hSR kM_at0 (by decide) rfl (k_X12_isTown_1 l adK adV dC dI cy ad B (by omega) (by omega) qr s1    w0 s.heap.size hT ) (cwV 0 hC.2.2.2.2 gX12_wrong_X12_isTown rfl rfl rfl (by decide +kernel) ⟨Nat.le_of_ble_eq_true rfl, Nat.le_of_ble_eq_true rfl⟩) rfl hl.1 rfl (Nat.le_of_ble_eq_true rfl) dX12_wrong_1 (fun r88 w90 H locs hp89 hw => ?_)
  obtain ⟨hT, k91, hg96⟩ := hp89
  have hF := hF.tr k91 (by decide)
  rcases hg96 with ⟨rfl, ⟨x92, c93, rx92, tx92⟩⟩ | ⟨rfl, ⟨x94, c95, rx94, tx94⟩⟩
  · refine lv_if_eq (tgt := 19) hx hb dX12_wrong_4 (by decide) (fun _ => ?_) (fun c => absurd (by decide) c)
    exact J19 x92 H locs ls w90 (show 0 ≤ x92.toInt by omega) (show x92.toInt ≤ 10 by omega)  hw hT hF c93 (lv_sub hl [0, 1] rfl)
  · refine lv_if_eq (tgt := 19) hx hb dX12_wrong_4 (by decide) (fun c => absurd c (by decide)) (fun _ => ?_)
    refine lv_iload_n hx hb dX12_wrong_7 rfl (lv_at hl 1 rfl) ?_
    refine lv_i2l hx hb dX12_wrong_8 rfl ?_
    refine lv_topl (fun x97 ex97 => ?_)
    have ex97 : x97.toInt = a1.toInt := by rw [ex97]; exact wk_i2l _
    have bx97 := wk_i32 a1
    refine lv_lconst (v := 0) hx hb dX12_wrong_9 (by decide) ?_
    refine lv_ldc2 (v := 7) hx hb hC.2.2.2.1 (hC.2.2.2.2 _ (List.mem_of_getElem? (i := 1) rfl)) dX12_wrong_10 ?_
    refine tk_Si hC hK hw hT hA hE hSR (k_X12_in_12 l adK adV dC dI cy ad B (by omega) (by omega) qr s1   x97 (show (-2147483648) ≤ x97.toInt by omega) (show x97.toInt ≤ 2147483647 by omega) w90 H.size hT ) (va_cwS 3 hC.2.2.2.2 gX12_wrong_X12_in rfl rfl rfl (by decide +kernel) ⟨Nat.le_of_ble_eq_true rfl, Nat.le_of_ble_eq_true rfl⟩) rfl hl.1 rfl (Nat.le_of_ble_eq_true rfl) dX12_wrong_13 (fun r98 w100 H locs hp99 hw => ?_)
    obtain ⟨hT, k101, hg104⟩ := hp99
    have hF := hF.tr k101 (by decide)
    have c105 := k101.gi kM_at12 (by decide) c95
    rcases hg104 with rfl | ⟨rfl, g102, g103⟩
    · refine lv_if_ne (tgt := 21) hx hb dX12_wrong_16 (by decide) (fun c => absurd (by decide) c) (fun _ => ?_)
      exact J19 x94 H locs ls w100 (show 0 ≤ x94.toInt by omega) (show x94.toInt ≤ 10 by omega)  hw hT hF c105 (lv_sub hl [0, 1] rfl)
    · refine lv_if_ne (tgt := 21) hx hb dX12_wrong_16 (by decide) (fun _ => ?_) (fun c => absurd c (by decide))
      refine lv_iconst (v := 0) hx hb dX12_wrong_21 (by decide) ?_
      refine lv_istore_n (lv' := [(2, .int 0), (0, .ref (ad 0)), (1, .int a1)]) hx hb dX12_wrong_22 rfl hl (by decide) rfl (fun ls hl => ?_)
      refine lv_iconst (v := 0) hx hb dX12_wrong_23 (by decide) ?_
      refine lv_istore_n (lv' := [(3, .int 0), (2, .int 0), (0, .ref (ad 0)), (1, .int a1)]) hx hb dX12_wrong_24 rfl hl (by decide) rfl (fun ls hl => ?_)
      exact L25 ((12 - (0 : Int)).toNat + 1) 0 0 x94 H locs ls w100 (show 0 ≤ a1.toInt by omega) (show a1.toInt ≤ 7 by omega) (by decide) (by decide) (show 1 ≤ x94.toInt by omega) (show x94.toInt ≤ 10 by omega) (Nat.lt_succ_self _) hw hT hF c105 (lv_sub hl [2, 3, 1, 0] rfl)
abbrev P_X12_errand_1 (ad : Nat → Nat) (cy : Nat → ClassId) (B : Int) (qr : Nat) (s1 : Int) (a1 : Int32) (a2 : Int32) (w0 : va_W) : Int32 → va_W → Prop := fun r u => TW ksM ad cy B qr 12 u ∧ FE ksM [(71, 6, 6), (71, 252, 262), (71, 253, 263)] w0 u ∧ ((r = (-2)) ∨ (0 ≤ r.toInt ∧ r.toInt ≤ 6 ∧ (-1) ≤ a1.toInt ∧ a1.toInt ≤ 9 ∧ (∃ y : Int32, gi u 12 6 = y ∧ 0 ≤ y.toInt ∧ y.toInt ≤ 6)))
set_option maxHeartbeats 4000000 in
set_option maxRecDepth 100000 in
theorem k_X12_errand_1 (l : Launch) (adK adV : Nat → Nat) (dC : Nat → ClassId) (dI : Nat → Nat → Nat) (cy : Nat → ClassId) (ad : Nat → Nat) (B : Int) (hB0 : 100000 ≤ B) (hB1 : B ≤ 1073741824) (qr : Nat) (s1 : Int)  (a1 : Int32) (a2 : Int32) (w0 : va_W) (sz : Nat) (hT : TW ksM ad cy B qr 12 w0)  : Met l yX12_errand wsX12_errand ({ frames := 2, cells := 0, slots := 0, locals := 33 }) (va_Pc [.ref (ad 0), .int a1, .int a2] (wpreS adK adV dC dI cy sz w0)) (va_Qi (P_X12_errand_1 ad cy B qr s1 a1 a2 w0) (fun u : va_W => wpost dC dI cy (va_A w0 sz) u) (va_A w0 sz)) 0 0 (va_A w0 sz) := by
  refine Met.ofW (cc := cX12_errand) (maxL := 3) (ret := (some .int)) (by decide) rfl ?_
  intro p e s m args below meth c s₁ Bk hml hv
  obtain ⟨rfl, ⟨hsz, hP, hK, hD0⟩, hE, hSR⟩ := hv
  have hx := Bk.exec
  have hb := Bk.bytes
  have hr := Bk.returns
  have hlocks := Bk.notSynchronized
  have hC : CallFix p m c cX12_errand 3 s _ wsX12_errand RX12 := ⟨hx, hb, hml, findClass_of_methodNamed Bk.named, atoms_spec (ws := wsX12_errand) Bk.pre⟩
  subst hsz
  have hD := hD0.self (sz := s.heap.size)
  generalize hAe : va_A w0 s.heap.size = A at hD hE ⊢
  have hA : ∀ q : Nat, s.heap.size ≤ q → A q := fun q h => by rw [← hAe]; exact Or.inr h
  have hw : Wd dC dI A s.heap s.heap [] w0 := ⟨hP, hD, va_S.rf⟩
  have hF : FE ksM [(71, 6, 6), (71, 252, 262), (71, 253, 263)] w0 w0 := FE.rf
  have hl := lv_entry ([.ref (ad 0), .int a1, .int a2]) (n := 3) (Nat.le_of_ble_eq_true rfl)
  rw [lg_entry_eq]
  generalize (lg_sl ([.ref (ad 0), .int a1, .int a2]) ++ List.replicate (3 - (lg_sl ([.ref (ad 0), .int a1, .int a2])).length) Slot.unset).toArray = ls at hl ⊢
  have hl : lv_has ls 3 [(0, .ref (ad 0)), (1, .int a1), (2, .int a2)] := hl
  generalize hloc : ([] : List Loc) = locs at hw ⊢
  have hinX12 : ∀ w ∈ u_ws RX12 TX12 42, w ∈ wsX12_errand := fun _ h => List.mem_cons_of_mem _ (List.mem_append_right _ (h))
  have J48 : ∀ (H : Heap) (locs : List Loc) (ls : Array Slot) (w1 : va_W), Wd dC dI A s.heap H locs w1 → TW ksM ad cy B qr 12 w1 → FE ksM [(71, 6, 6), (71, 252, 262), (71, 253, 263)] w0 w1 → lv_has ls 3 [(0, .ref (ad 0)), (1, .int a1), (2, .int a2)] → W p l e ({ frames := 2, cells := 0, slots := 0, locals := 33 }) s m (List.toArray [.ref (ad 0), .int a1, .int a2]) below meth c H locs 0 0 (MQ below (va_Qi (P_X12_errand_1 ad cy B qr s1 a1 a2 w0) (fun u : va_W => wpost dC dI cy A u) A) (List.toArray [.ref (ad 0), .int a1, .int a2]) s 0 0 A) (F0 m 48 ls []) := by
    intro H locs ls w1 hw hT hF hl
    refine lv_bipush (v := (-2)) hx hb dX12_errand_48 (by decide) ?_
    exact tk_iret hC hr hlocks hK ⟨hT, hF, (Or.inl rfl)⟩ hw dX12_errand_50
  refine lv_iload_n hx hb dX12_errand_0 rfl (lv_at hl 1 rfl) ?_
  refine lv_iconst (v := (-1)) hx hb dX12_errand_1 (by decide) ?_
  refine lv_icmp_ne (tgt := 15) hx hb dX12_errand_2 (by decide) (fun c2 => ?_) (fun c2 => ?_)
  · have c2 : ¬ a1.toInt = (-1 : Int) := wk_eqF c2
    refine lv_aload_n hx hb dX12_errand_15 rfl (lv_at hl 0 rfl) ?_
    refine lv_iload_n hx hb dX12_errand_16 rfl (lv_at hl 1 rfl) ?_
    refine tk_Vi hC hK hw hT hA hE hSR kM_at0 (by decide) rfl (k_X12_isCorner_1 l adK adV dC dI cy ad B (by omega) (by omega) qr s1   a1 w0 s.heap.size hT ) (cwV 1 hC.2.2.2.2 gX12_errand_X12_isCorner rfl rfl rfl (by decide +kernel) ⟨Nat.le_of_ble_eq_true rfl, Nat.le_of_ble_eq_true rfl⟩) rfl hl.1 rfl (Nat.le_of_ble_eq_true rfl) dX12_errand_17 (fun r3 w5 H locs hp4 hw => ?_)
    obtain ⟨hT, k6, hg11⟩ := hp4
    have hF := hF.tr k6 (by decide)
    rcases hg11 with rfl | ⟨rfl, g7, g8, ⟨x9, c10, rx9, tx9⟩⟩
    · refine lv_if_eq (tgt := 48) hx hb dX12_errand_20 (by decide) (fun _ => ?_) (fun c => absurd (by decide) c)
      exact J48  H locs ls w5   hw hT hF  (lv_sub hl [0, 1, 2] rfl)
    · refine lv_if_eq (tgt := 48) hx hb dX12_errand_20 (by decide) (fun c => absurd c (by decide)) (fun _ => ?_)
      refine lv_aload_n hx hb dX12_errand_23 rfl (lv_at hl 0 rfl) ?_
      refine lv_iload_n hx hb dX12_errand_24 rfl (lv_at hl 2 rfl) ?_
      refine tk_Vi hC hK hw hT hA hE hSR kM_at0 (by decide) rfl (k_X12_isCorner_1 l adK adV dC dI cy ad B (by omega) (by omega) qr s1   a2 w5 H.size hT ) (cwV 1 hC.2.2.2.2 gX12_errand_X12_isCorner rfl rfl rfl (by decide +kernel) ⟨Nat.le_of_ble_eq_true rfl, Nat.le_of_ble_eq_true rfl⟩) rfl hl.1 rfl (Nat.le_of_ble_eq_true rfl) dX12_errand_25 (fun r12 w14 H locs hp13 hw => ?_)
      obtain ⟨hT, k15, hg20⟩ := hp13
      have hF := hF.tr k15 (by decide)
      have c21 := k15.gi kM_at12 (by decide) c10
      rcases hg20 with rfl | ⟨rfl, g16, g17, ⟨x18, c19, rx18, tx18⟩⟩
      · refine lv_if_eq (tgt := 48) hx hb dX12_errand_28 (by decide) (fun _ => ?_) (fun c => absurd (by decide) c)
        exact J48  H locs ls w14   hw hT hF  (lv_sub hl [0, 1, 2] rfl)
      · have ex18 : x18.toInt = x9.toInt := by rw [← c21.symm.trans c19]
        refine lv_if_eq (tgt := 48) hx hb dX12_errand_28 (by decide) (fun c => absurd c (by decide)) (fun _ => ?_)
        refine lv_iload_n hx hb dX12_errand_31 rfl (lv_at hl 1 rfl) ?_
        refine lv_iload_n hx hb dX12_errand_32 rfl (lv_at hl 2 rfl) ?_
        refine lv_icmp_eq (tgt := 48) hx hb dX12_errand_33 (by decide) (fun c22 => ?_) (fun c22 => ?_)
        · have c22 : a1.toInt = a2.toInt := wk_eq.mp c22
          exact J48  H locs ls w14   hw hT hF  (lv_sub hl [0, 1, 2] rfl)
        · have c22 : ¬ a1.toInt = a2.toInt := wk_eqF c22
          refine lv_aload_n hx hb dX12_errand_36 rfl (lv_at hl 0 rfl) ?_
          refine tk_getA hC hK hw hT hinX12 kM_at0 (by decide) rfl 26 (by decide) (List.mem_of_getElem? (i := 1) rfl) rfl rfl dX12_errand_37 ?_
          refine lv_bipush (v := 6) hx hb dX12_errand_40 (by decide) ?_
          refine tk_ialdR hC hK hw hT kM_at12 rfl (by decide) (by decide) dX12_errand_42 (fun x23 c24 Ex23 => ?_)
          have bx23 := tk_rgI rfl 6 1 1 0 6 (by decide +kernel) ⟨0, by decide, by decide⟩ Ex23
          have c24 : gi w14 12 6 = x23 := c24
          refine lv_bipush (v := 6) hx hb dX12_errand_43 (by decide) ?_
          refine lv_icmp_ne (tgt := 51) hx hb dX12_errand_45 (by decide) (fun c25 => ?_) (fun c25 => ?_)
          · have c25 : ¬ x23.toInt = (6 : Int) := wk_eqF c25
            refine lv_aload_n hx hb dX12_errand_51 rfl (lv_at hl 0 rfl) ?_
            refine tk_getA hC hK hw hT hinX12 kM_at0 (by decide) rfl 26 (by decide) (List.mem_of_getElem? (i := 1) rfl) rfl rfl dX12_errand_52 ?_
            refine lv_sipush (v := 252) hx hb dX12_errand_55 (by decide) ?_
            refine lv_iconst (v := 2) hx hb dX12_errand_58 (by decide) ?_
            refine lv_aload_n hx hb dX12_errand_59 rfl (lv_at hl 0 rfl) ?_
            refine tk_getA hC hK hw hT hinX12 kM_at0 (by decide) rfl 26 (by decide) (List.mem_of_getElem? (i := 1) rfl) rfl rfl dX12_errand_60 ?_
            refine lv_bipush (v := 6) hx hb dX12_errand_63 (by decide) ?_
            refine tk_ialdR hC hK hw hT kM_at12 rfl (by decide) (by decide) dX12_errand_65 (fun x26 c27 Ex26 => ?_)
            refine wk_top x23 (c27.symm.trans c24) ?_
            refine lv_imul hx hb dX12_errand_66 ?_
            refine lv_topi (fun x28 ex28 => ?_)
            have ex28 : x28.toInt = (2 : Int) * x23.toInt := by rw [ex28]; exact wk_mul (show (-2147483648) ≤ (2 : Int) * x23.toInt by omega) (show (2 : Int) * x23.toInt ≤ 2147483647 by omega)
            refine lv_iadd hx hb dX12_errand_67 ?_
            refine lv_topi (fun x29 ex29 => ?_)
            have ex29 : x29.toInt = (252 : Int) + x28.toInt := by rw [ex29]; exact wk_add (show (-2147483648) ≤ (252 : Int) + x28.toInt by omega) (show (252 : Int) + x28.toInt ≤ 2147483647 by omega)
            refine lv_iload_n hx hb dX12_errand_68 rfl (lv_at hl 1 rfl) ?_
            refine tk_iastR hC hK hw hT kM_at12 (by decide) rfl (show 0 ≤ x29.toInt by omega) (show x29.toInt < 296 by omega) (tk_rgS rfl 252 2 6 0 9 (by decide +kernel) ⟨(x23.toInt - 0).toNat, by omega, show x29.toInt.toNat = 252 + 2 * (x23.toInt - 0).toNat by omega⟩ (show 0 ≤ a1.toInt by omega) (show a1.toInt ≤ 9 by omega)) dX12_errand_69 (fun H locs w30 hw hT k32 c31 => ?_)
            have hF := hF.put kM_at12 (inE_of (a := 252) (b := 262) (by decide) (show 252 ≤ x29.toInt.toNat by omega) (show x29.toInt.toNat ≤ 262 by omega)) k32
            have c33 := k32.gi (Or.inr (show 0 ≠ x29.toInt.toNat by omega)) c21
            have c34 := k32.gi (Or.inr (show 6 ≠ x29.toInt.toNat by omega)) c24
            refine lv_aload_n hx hb dX12_errand_70 rfl (lv_at hl 0 rfl) ?_
            refine tk_getA hC hK hw hT hinX12 kM_at0 (by decide) rfl 26 (by decide) (List.mem_of_getElem? (i := 1) rfl) rfl rfl dX12_errand_71 ?_
            refine lv_sipush (v := 252) hx hb dX12_errand_74 (by decide) ?_
            refine lv_iconst (v := 2) hx hb dX12_errand_77 (by decide) ?_
            refine lv_aload_n hx hb dX12_errand_78 rfl (lv_at hl 0 rfl) ?_
            refine tk_getA hC hK hw hT hinX12 kM_at0 (by decide) rfl 26 (by decide) (List.mem_of_getElem? (i := 1) rfl) rfl rfl dX12_errand_79 ?_
            refine lv_bipush (v := 6) hx hb dX12_errand_82 (by decide) ?_
            refine tk_ialdR hC hK hw hT kM_at12 rfl (by decide) (by decide) dX12_errand_84 (fun x35 c36 Ex35 => ?_)
            refine wk_top x23 (c36.symm.trans c34) ?_
            refine lv_imul hx hb dX12_errand_85 ?_
            refine lv_topi (fun x37 ex37 => ?_)
            have ex37 : x37.toInt = (2 : Int) * x23.toInt := by rw [ex37]; exact wk_mul (show (-2147483648) ≤ (2 : Int) * x23.toInt by omega) (show (2 : Int) * x23.toInt ≤ 2147483647 by omega)
            refine lv_iadd hx hb dX12_errand_86 ?_
            refine lv_topi (fun x38 ex38 => ?_)
            have ex38 : x38.toInt = (252 : Int) + x37.toInt := by rw [ex38]; exact wk_add (show (-2147483648) ≤ (252 : Int) + x37.toInt by omega) (show (252 : Int) + x37.toInt ≤ 2147483647 by omega)
            refine lv_iconst (v := 1) hx hb dX12_errand_87 (by decide) ?_
            refine lv_iadd hx hb dX12_errand_88 ?_
            refine lv_topi (fun x39 ex39 => ?_)
            have ex39 : x39.toInt = x38.toInt + (1 : Int) := by rw [ex39]; exact wk_add (show (-2147483648) ≤ x38.toInt + (1 : Int) by omega) (show x38.toInt + (1 : Int) ≤ 2147483647 by omega)
            refine lv_iload_n hx hb dX12_errand_89 rfl (lv_at hl 2 rfl) ?_
            refine tk_iastR hC hK hw hT kM_at12 (by decide) rfl (show 0 ≤ x39.toInt by omega) (show x39.toInt < 296 by omega) (tk_rgS rfl 253 2 6 0 9 (by decide +kernel) ⟨(x23.toInt - 0).toNat, by omega, show x39.toInt.toNat = 253 + 2 * (x23.toInt - 0).toNat by omega⟩ (show 0 ≤ a2.toInt by omega) (show a2.toInt ≤ 9 by omega)) dX12_errand_90 (fun H locs w40 hw hT k42 c41 => ?_)
            have hF := hF.put kM_at12 (inE_of (a := 253) (b := 263) (by decide) (show 253 ≤ x39.toInt.toNat by omega) (show x39.toInt.toNat ≤ 263 by omega)) k42
            have c43 := k42.gi (Or.inr (show 0 ≠ x39.toInt.toNat by omega)) c33
            have c44 := k42.gi (Or.inr (show 6 ≠ x39.toInt.toNat by omega)) c34
            refine lv_aload_n hx hb dX12_errand_91 rfl (lv_at hl 0 rfl) ?_
            refine tk_getA hC hK hw hT hinX12 kM_at0 (by decide) rfl 26 (by decide) (List.mem_of_getElem? (i := 1) rfl) rfl rfl dX12_errand_92 ?_
            refine lv_bipush (v := 6) hx hb dX12_errand_95 (by decide) ?_
            refine lv_dup2_11 hx hb dX12_errand_97 rfl rfl ?_
            refine tk_ialdR hC hK hw hT kM_at12 rfl (by decide) (by decide) dX12_errand_98 (fun x45 c46 Ex45 => ?_)
            refine wk_top x23 (c46.symm.trans c44) ?_
            refine lv_iconst (v := 1) hx hb dX12_errand_99 (by decide) ?_
            refine lv_iadd hx hb dX12_errand_100 ?_
            refine lv_topi (fun x47 ex47 => ?_)
            have ex47 : x47.toInt = x23.toInt + (1 : Int) := by rw [ex47]; exact wk_add (show (-2147483648) ≤ x23.toInt + (1 : Int) by omega) (show x23.toInt + (1 : Int) ≤ 2147483647 by omega)
            refine tk_iastR hC hK hw hT kM_at12 (by decide) rfl (by decide) (by decide) (tk_rgS rfl 6 1 1 1 6 (by decide +kernel) ⟨0, by decide, by decide⟩ (show 1 ≤ x47.toInt by omega) (show x47.toInt ≤ 6 by omega)) dX12_errand_101 (fun H locs w48 hw hT k50 c49 => ?_)
            have hF := hF.put kM_at12 (inE_of (a := 6) (b := 6) (by decide) (by decide) (by decide)) k50
            have c51 := k50.gi (Or.inr (by decide)) c43
            have c49 : gi w48 12 6 = x47 := c49
            refine lv_aload_n hx hb dX12_errand_102 rfl (lv_at hl 0 rfl) ?_
            refine tk_getA hC hK hw hT hinX12 kM_at0 (by decide) rfl 26 (by decide) (List.mem_of_getElem? (i := 1) rfl) rfl rfl dX12_errand_103 ?_
            refine lv_bipush (v := 6) hx hb dX12_errand_106 (by decide) ?_
            refine tk_ialdR hC hK hw hT kM_at12 rfl (by decide) (by decide) dX12_errand_108 (fun x52 c53 Ex52 => ?_)
            refine wk_top x47 (c53.symm.trans c49) ?_
            exact tk_iret hC hr hlocks hK ⟨hT, hF, (Or.inr ⟨(show 0 ≤ x47.toInt by omega), (show x47.toInt ≤ 6 by omega), (show (-1) ≤ a1.toInt by omega), (show a1.toInt ≤ 9 by omega), ⟨x47, c49, (show 0 ≤ x47.toInt by omega), (show x47.toInt ≤ 6 by omega)⟩⟩)⟩ hw dX12_errand_109
          · have c25 : x23.toInt = (6 : Int) := wk_eq.mp c25
            exact J48  H locs ls w14   hw hT hF  (lv_sub hl [0, 1, 2] rfl)
  · have c2 : a1.toInt = (-1 : Int) := wk_eq.mp c2
    refine lv_aload_n hx hb dX12_errand_5 rfl (lv_at hl 0 rfl) ?_
    refine tk_getA hC hK hw hT hinX12 kM_at0 (by decide) rfl 26 (by decide) (List.mem_of_getElem? (i := 1) rfl) rfl rfl dX12_errand_6 ?_
    refine lv_bipush (v := 6) hx hb dX12_errand_9 (by decide) ?_
    refine lv_iconst (v := 0) hx hb dX12_errand_11 (by decide) ?_
    refine tk_iastR hC hK hw hT kM_at12 (by decide) rfl (by decide) (by decide) (tk_rg0 rfl (show 0 ≤ B by omega) (by decide)) dX12_errand_12 (fun H locs w54 hw hT k56 c55 => ?_)
    have hF := hF.put kM_at12 (inE_of (a := 6) (b := 6) (by decide) (by decide) (by decide)) k56
    have c55 : gi w54 12 6 = 0 := c55
    refine lv_iconst (v := 0) hx hb dX12_errand_13 (by decide) ?_
    exact tk_iret hC hr hlocks hK ⟨hT, hF, (Or.inr ⟨(by decide), (by decide), (show (-1) ≤ a1.toInt by omega), (show a1.toInt ≤ 9 by omega), ⟨0, c55, (by decide), (by decide)⟩⟩)⟩ hw dX12_errand_14
abbrev P_X12_isClash_1 (ad : Nat → Nat) (cy : Nat → ClassId) (B : Int) (qr : Nat) (s1 : Int) (a1 : Int32) (a2 : Int32) (w0 : va_W) : Int32 → va_W → Prop := fun r u => TW ksM ad cy B qr 12 u ∧ FE ksM ([] : List (Nat × Nat × Nat)) w0 u ∧ ((r = 0) ∨ (r = 1))
set_option maxHeartbeats 4000000 in
set_option maxRecDepth 100000 in
theorem k_X12_isClash_1 (l : Launch) (adK adV : Nat → Nat) (dC : Nat → ClassId) (dI : Nat → Nat → Nat) (cy : Nat → ClassId) (ad : Nat → Nat) (B : Int) (hB0 : 100000 ≤ B) (hB1 : B ≤ 1073741824) (qr : Nat) (s1 : Int)  (a1 : Int32) (ra1 : 1 ≤ a1.toInt) (ta1 : a1.toInt ≤ 63) (a2 : Int32) (ra2 : 0 ≤ a2.toInt) (ta2 : a2.toInt ≤ 63) (w0 : va_W) (sz : Nat) (hT : TW ksM ad cy B qr 12 w0)  : Met l yX12_isClash wsX12_isClash ({ frames := 1, cells := 0, slots := 0, locals := 12 }) (va_Pc [.ref (ad 0), .int a1, .int a2] (wpreS adK adV dC dI cy sz w0)) (va_Qi (P_X12_isClash_1 ad cy B qr s1 a1 a2 w0) (fun u : va_W => wpost dC dI cy (va_A w0 sz) u) (va_A w0 sz)) 0 0 (va_A w0 sz) := by
  refine Met.ofW (cc := cX12_isClash) (maxL := 4) (ret := (some .boolean)) (by decide) rfl ?_
  intro p e s m args below meth c s₁ Bk hml hv
  obtain ⟨rfl, ⟨hsz, hP, hK, hD0⟩, hE, hSR⟩ := hv
  have hx := Bk.exec
  have hb := Bk.bytes
  have hr := Bk.returns
  have hlocks := Bk.notSynchronized
  have hC : CallFix p m c cX12_isClash 4 s _ wsX12_isClash RX12 := ⟨hx, hb, hml, findClass_of_methodNamed Bk.named, atoms_spec (ws := wsX12_isClash) Bk.pre⟩
  subst hsz
  have hD := hD0.self (sz := s.heap.size)
  generalize hAe : va_A w0 s.heap.size = A at hD hE ⊢
  have hA : ∀ q : Nat, s.heap.size ≤ q → A q := fun q h => by rw [← hAe]; exact Or.inr h
  have hw : Wd dC dI A s.heap s.heap [] w0 := ⟨hP, hD, va_S.rf⟩
  have hF : FE ksM ([] : List (Nat × Nat × Nat)) w0 w0 := FE.rf
  have hl := lv_entry ([.ref (ad 0), .int a1, .int a2]) (n := 4) (Nat.le_of_ble_eq_true rfl)
  rw [lg_entry_eq]
  generalize (lg_sl ([.ref (ad 0), .int a1, .int a2]) ++ List.replicate (4 - (lg_sl ([.ref (ad 0), .int a1, .int a2])).length) Slot.unset).toArray = ls at hl ⊢
  have hl : lv_has ls 4 [(0, .ref (ad 0)), (1, .int a1), (2, .int a2)] := hl
  generalize hloc : ([] : List Loc) = locs at hw ⊢
  have hinX12 : ∀ w ∈ u_ws RX12 TX12 42, w ∈ wsX12_isClash := fun _ h => List.mem_cons_of_mem _ (List.mem_append_right _ (h))
  have L2 : ∀ (n2 : Nat) (v2_3 : Int32) (H : Heap) (locs : List Loc) (ls : Array Slot) (w1 : va_W), 1 ≤ a1.toInt → a1.toInt ≤ 63 → 0 ≤ a2.toInt → a2.toInt ≤ 63 → 0 ≤ v2_3.toInt → v2_3.toInt ≤ 64 → (64 - v2_3.toInt).toNat < n2 → Wd dC dI A s.heap H locs w1 → TW ksM ad cy B qr 12 w1 → FE ksM ([] : List (Nat × Nat × Nat)) w0 w1 → lv_has ls 4 [(0, .ref (ad 0)), (1, .int a1), (2, .int a2), (3, .int v2_3)] → W p l e ({ frames := 1, cells := 0, slots := 0, locals := 12 }) s m (List.toArray [.ref (ad 0), .int a1, .int a2]) below meth c H locs 0 0 (MQ below (va_Qi (P_X12_isClash_1 ad cy B qr s1 a1 a2 w0) (fun u : va_W => wpost dC dI cy A u) A) (List.toArray [.ref (ad 0), .int a1, .int a2]) s 0 0 A) (F0 m 2 ls []) := by
    intro n2
    induction n2 with
    | zero => intro v2_3 H locs ls w1 r2 t3 r4 t5 r6 t7 hm2 hw hT hF hl; omega
    | succ n2 ih2 =>
      intro v2_3 H locs ls w1 r2 t3 r4 t5 r6 t7 hm2 hw hT hF hl
      have J25 : ∀ (H : Heap) (locs : List Loc) (ls : Array Slot) (w8 : va_W), 1 ≤ a1.toInt → a1.toInt ≤ 63 → 0 ≤ a2.toInt → a2.toInt ≤ 63 → 0 ≤ v2_3.toInt → v2_3.toInt ≤ 63 → Wd dC dI A s.heap H locs w8 → TW ksM ad cy B qr 12 w8 → FE ksM ([] : List (Nat × Nat × Nat)) w0 w8 → lv_has ls 4 [(0, .ref (ad 0)), (1, .int a1), (2, .int a2), (3, .int v2_3)] → W p l e ({ frames := 1, cells := 0, slots := 0, locals := 12 }) s m (List.toArray [.ref (ad 0), .int a1, .int a2]) below meth c H locs 0 0 (MQ below (va_Qi (P_X12_isClash_1 ad cy B qr s1 a1 a2 w0) (fun u : va_W => wpost dC dI cy A u) A) (List.toArray [.ref (ad 0), .int a1, .int a2]) s 0 0 A) (F0 m 25 ls []) := by
        intro H locs ls w8 r9 t10 r11 t12 r13 t14 hw hT hF hl
        obtain ⟨x15, ex15⟩ : ∃ y : Int32, y = v2_3 + Int32.ofInt 1 := ⟨_, rfl⟩
        refine lv_iinc (v := x15) (lv' := [(3, .int x15), (0, .ref (ad 0)), (1, .int a1), (2, .int a2)]) hx hb dX12_isClash_25 hl (k := 3) rfl ex15.symm (by decide) rfl (fun ls hl => ?_)
        have ex15 : x15.toInt = v2_3.toInt + 1 := by rw [ex15]; exact wk_add (y := 1) (show -2147483648 ≤ v2_3.toInt + 1 by omega) (show v2_3.toInt + 1 ≤ 2147483647 by omega)
        refine lv_goto (tgt := 2) hx hb dX12_isClash_28 (by decide) ?_
        exact ih2 x15 H locs ls w8 (show 1 ≤ a1.toInt by omega) (show a1.toInt ≤ 63 by omega) (show 0 ≤ a2.toInt by omega) (show a2.toInt ≤ 63 by omega) (show 0 ≤ x15.toInt by omega) (show x15.toInt ≤ 64 by omega) (show (64 - x15.toInt).toNat < n2 by omega) hw hT hF  (lv_sub hl [1, 2, 3, 0] rfl)
      refine lv_iload_n hx hb dX12_isClash_2 rfl (lv_at hl 3 rfl) ?_
      refine lv_iload_n hx hb dX12_isClash_3 rfl (lv_at hl 2 rfl) ?_
      refine lv_icmp_gt (tgt := 31) hx hb dX12_isClash_4 (by decide) (fun c16 => ?_) (fun c16 => ?_)
      · have c16 : a2.toInt < v2_3.toInt := wk_lt.mp c16
        refine lv_iconst (v := 1) hx hb dX12_isClash_31 (by decide) ?_
        exact tk_zret hC hr rfl hlocks hK ⟨hT, hF, (Or.inr rfl)⟩ hw dX12_isClash_32
      · have c16 : v2_3.toInt ≤ a2.toInt := wk_ltF c16
        refine lv_aload_n hx hb dX12_isClash_7 rfl (lv_at hl 0 rfl) ?_
        refine tk_getA hC hK hw hT hinX12 kM_at0 (by decide) rfl 38 (by decide) (List.mem_of_getElem? (i := 1) rfl) rfl rfl dX12_isClash_8 ?_
        refine lv_iload_n hx hb dX12_isClash_11 rfl (lv_at hl 3 rfl) ?_
        refine tk_zald hC hK hw hT kM_at20 rfl rfl (show 0 ≤ v2_3.toInt by omega) (show v2_3.toInt < 64 by omega) dX12_isClash_12 (fun x17 c18 rx17 tx17 => ?_)
        refine lv_if_eq (tgt := 25) hx hb dX12_isClash_13 (by decide) (fun c19 => ?_) (fun c19 => ?_)
        · have c19 : x17.toInt = (0 : Int) := wk_eq.mp c19
          exact J25  H locs ls w1 (show 1 ≤ a1.toInt by omega) (show a1.toInt ≤ 63 by omega) (show 0 ≤ a2.toInt by omega) (show a2.toInt ≤ 63 by omega) (show 0 ≤ v2_3.toInt by omega) (show v2_3.toInt ≤ 63 by omega)  hw hT hF  (lv_sub hl [0, 1, 2, 3] rfl)
        · have c19 : ¬ x17.toInt = (0 : Int) := wk_eqF c19
          refine lv_iload_n hx hb dX12_isClash_16 rfl (lv_at hl 3 rfl) ?_
          refine lv_iload_n hx hb dX12_isClash_17 rfl (lv_at hl 1 rfl) ?_
          refine lv_iand hx hb dX12_isClash_18 ?_
          refine lv_topi (fun x20 ex20 => ?_)
          have bx20 : 0 ≤ x20.toInt ∧ x20.toInt ≤ a1.toInt := by rw [ex20]; exact wk_and (by omega)
          refine lv_iload_n hx hb dX12_isClash_19 rfl (lv_at hl 1 rfl) ?_
          refine lv_icmp_ne (tgt := 25) hx hb dX12_isClash_20 (by decide) (fun c21 => ?_) (fun c21 => ?_)
          · have c21 : ¬ x20.toInt = a1.toInt := wk_eqF c21
            exact J25  H locs ls w1 (show 1 ≤ a1.toInt by omega) (show a1.toInt ≤ 63 by omega) (show 0 ≤ a2.toInt by omega) (show a2.toInt ≤ 63 by omega) (show 0 ≤ v2_3.toInt by omega) (show v2_3.toInt ≤ 63 by omega)  hw hT hF  (lv_sub hl [0, 1, 2, 3] rfl)
          · have c21 : x20.toInt = a1.toInt := wk_eq.mp c21
            refine lv_iconst (v := 0) hx hb dX12_isClash_23 (by decide) ?_
            exact tk_zret hC hr rfl hlocks hK ⟨hT, hF, (Or.inl rfl)⟩ hw dX12_isClash_24
  refine lv_iconst (v := 0) hx hb dX12_isClash_0 (by decide) ?_
  refine lv_istore_n (lv' := [(3, .int 0), (0, .ref (ad 0)), (1, .int a1), (2, .int a2)]) hx hb dX12_isClash_1 rfl hl (by decide) rfl (fun ls hl => ?_)
  exact L2 ((64 - (0 : Int)).toNat + 1) 0 s.heap locs ls w0 (show 1 ≤ a1.toInt by omega) (show a1.toInt ≤ 63 by omega) (show 0 ≤ a2.toInt by omega) (show a2.toInt ≤ 63 by omega) (by decide) (by decide) (Nat.lt_succ_self _) hw hT hF  (lv_sub hl [1, 2, 3, 0] rfl)
abbrev P_X12_bits_1 (ad : Nat → Nat) (cy : Nat → ClassId) (B : Int) (qr : Nat) (s1 : Int) (a0 : Int32) (w0 : va_W) : Int32 → va_W → Prop := fun r u => TW ksM ad cy B qr 12 u ∧ FE ksM ([] : List (Nat × Nat × Nat)) w0 u ∧ ((True))
set_option maxHeartbeats 4000000 in
set_option maxRecDepth 100000 in
theorem k_X12_bits_1 (l : Launch) (adK adV : Nat → Nat) (dC : Nat → ClassId) (dI : Nat → Nat → Nat) (cy : Nat → ClassId) (ad : Nat → Nat) (B : Int) (hB0 : 100000 ≤ B) (hB1 : B ≤ 1073741824) (qr : Nat) (s1 : Int)  (a0 : Int32) (ra0 : 1 ≤ a0.toInt) (ta0 : a0.toInt ≤ 63) (w0 : va_W) (sz : Nat) (hT : TW ksM ad cy B qr 12 w0)  : Met l yX12_bits wsX12_bits ({ frames := 1, cells := 0, slots := 0, locals := 12 }) (va_Pc [.int a0] (wpreS adK adV dC dI cy sz w0)) (va_Qi (P_X12_bits_1 ad cy B qr s1 a0 w0) (fun u : va_W => wpost dC dI cy (va_A w0 sz) u) (va_A w0 sz)) 0 0 (va_A w0 sz) := by
  refine Met.ofW (cc := cX12_bits) (maxL := 3) (ret := (some .int)) (by decide) rfl ?_
  intro p e s m args below meth c s₁ Bk hml hv
  obtain ⟨rfl, ⟨hsz, hP, hK, hD0⟩, hE, hSR⟩ := hv
  have hx := Bk.exec
  have hb := Bk.bytes
  have hr := Bk.returns
  have hlocks := Bk.notSynchronized
  have hC : CallFix p m c cX12_bits 3 s _ wsX12_bits RX12 := ⟨hx, hb, hml, findClass_of_methodNamed Bk.named, atoms_spec (ws := wsX12_bits) Bk.pre⟩
  subst hsz
  have hD := hD0.self (sz := s.heap.size)
  generalize hAe : va_A w0 s.heap.size = A at hD hE ⊢
  have hA : ∀ q : Nat, s.heap.size ≤ q → A q := fun q h => by rw [← hAe]; exact Or.inr h
  have hw : Wd dC dI A s.heap s.heap [] w0 := ⟨hP, hD, va_S.rf⟩
  have hF : FE ksM ([] : List (Nat × Nat × Nat)) w0 w0 := FE.rf
  have hl := lv_entry ([.int a0]) (n := 3) (Nat.le_of_ble_eq_true rfl)
  rw [lg_entry_eq]
  generalize (lg_sl ([.int a0]) ++ List.replicate (3 - (lg_sl ([.int a0])).length) Slot.unset).toArray = ls at hl ⊢
  have hl : lv_has ls 3 [(0, .int a0)] := hl
  generalize hloc : ([] : List Loc) = locs at hw ⊢
  have L4 : ∀ (n4 : Nat) (v4_1 : Int32) (v4_2 : Int32) (H : Heap) (locs : List Loc) (ls : Array Slot) (w1 : va_W), 1 ≤ a0.toInt → a0.toInt ≤ 63 → 0 ≤ v4_2.toInt → v4_2.toInt ≤ 63 → (v4_2.toInt - 0).toNat < n4 → Wd dC dI A s.heap H locs w1 → TW ksM ad cy B qr 12 w1 → FE ksM ([] : List (Nat × Nat × Nat)) w0 w1 → lv_has ls 3 [(0, .int a0), (1, .int v4_1), (2, .int v4_2)] → W p l e ({ frames := 1, cells := 0, slots := 0, locals := 12 }) s m (List.toArray [.int a0]) below meth c H locs 0 0 (MQ below (va_Qi (P_X12_bits_1 ad cy B qr s1 a0 w0) (fun u : va_W => wpost dC dI cy A u) A) (List.toArray [.int a0]) s 0 0 A) (F0 m 4 ls []) := by
    intro n4
    induction n4 with
    | zero => intro v4_1 v4_2 H locs ls w1 r2 t3 r4 t5 hm4 hw hT hF hl; omega
    | succ n4 ih4 =>
      intro v4_1 v4_2 H locs ls w1 r2 t3 r4 t5 hm4 hw hT hF hl
      refine lv_iload_n hx hb dX12_bits_4 rfl (lv_at hl 2 rfl) ?_
      refine lv_if_eq (tgt := 20) hx hb dX12_bits_5 (by decide) (fun c6 => ?_) (fun c6 => ?_)
      · have c6 : v4_2.toInt = (0 : Int) := wk_eq.mp c6
        refine lv_iload_n hx hb dX12_bits_20 rfl (lv_at hl 1 rfl) ?_
        exact tk_iret hC hr hlocks hK ⟨hT, hF, trivial⟩ hw dX12_bits_21
      · have c6 : ¬ v4_2.toInt = (0 : Int) := wk_eqF c6
        have nx8 := wk_i32 v4_1
        obtain ⟨x7, ex7⟩ : ∃ y : Int32, y = v4_1 + Int32.ofInt 1 := ⟨_, rfl⟩
        refine lv_iinc (v := x7) (lv' := [(1, .int x7), (0, .int a0), (2, .int v4_2)]) hx hb dX12_bits_8 hl (k := 1) rfl ex7.symm (by decide) rfl (fun ls hl => ?_)
        refine lv_iload_n hx hb dX12_bits_11 rfl (lv_at hl 2 rfl) ?_
        refine lv_iload_n hx hb dX12_bits_12 rfl (lv_at hl 2 rfl) ?_
        refine lv_iconst (v := 1) hx hb dX12_bits_13 (by decide) ?_
        refine lv_isub hx hb dX12_bits_14 ?_
        refine lv_topi (fun x9 ex9 => ?_)
        have ex9 : x9.toInt = v4_2.toInt - (1 : Int) := by rw [ex9]; exact wk_sub (show (-2147483648) ≤ v4_2.toInt - (1 : Int) by omega) (show v4_2.toInt - (1 : Int) ≤ 2147483647 by omega)
        refine lv_iand hx hb dX12_bits_15 ?_
        refine lv_topi (fun x10 ex10 => ?_)
        have bx10 : 0 ≤ x10.toInt ∧ x10.toInt ≤ x9.toInt := by rw [ex10]; exact wk_and (by omega)
        refine lv_istore_n (lv' := [(2, .int x10), (1, .int x7), (0, .int a0)]) hx hb dX12_bits_16 rfl hl (by decide) rfl (fun ls hl => ?_)
        refine lv_goto (tgt := 4) hx hb dX12_bits_17 (by decide) ?_
        exact ih4 x7 x10 H locs ls w1 (show 1 ≤ a0.toInt by omega) (show a0.toInt ≤ 63 by omega) (show 0 ≤ x10.toInt by omega) (show x10.toInt ≤ 63 by omega) (show (x10.toInt - 0).toNat < n4 by omega) hw hT hF  (lv_sub hl [2, 1, 0] rfl)
  refine lv_iconst (v := 0) hx hb dX12_bits_0 (by decide) ?_
  refine lv_istore_n (lv' := [(1, .int 0), (0, .int a0)]) hx hb dX12_bits_1 rfl hl (by decide) rfl (fun ls hl => ?_)
  refine lv_iload_n hx hb dX12_bits_2 rfl (lv_at hl 1 rfl) ?_
  refine lv_istore_n (lv' := [(2, .int a0), (1, .int 0), (0, .int a0)]) hx hb dX12_bits_3 rfl hl (by decide) rfl (fun ls hl => ?_)
  exact L4 ((a0.toInt - 0).toNat + 1) 0 a0 s.heap locs ls w0 (show 1 ≤ a0.toInt by omega) (show a0.toInt ≤ 63 by omega) (show 0 ≤ a0.toInt by omega) (show a0.toInt ≤ 63 by omega) (Nat.lt_succ_self _) hw hT hF  (lv_sub hl [2, 1, 0] rfl)
abbrev P_X12_bits_2 (ad : Nat → Nat) (cy : Nat → ClassId) (B : Int) (qr : Nat) (s1 : Int) (a0 : Int32) (w0 : va_W) : Int32 → va_W → Prop := fun r u => TW ksM ad cy B qr 12 u ∧ FE ksM ([] : List (Nat × Nat × Nat)) w0 u ∧ ((True))
set_option maxHeartbeats 4000000 in
set_option maxRecDepth 100000 in
theorem k_X12_bits_2 (l : Launch) (adK adV : Nat → Nat) (dC : Nat → ClassId) (dI : Nat → Nat → Nat) (cy : Nat → ClassId) (ad : Nat → Nat) (B : Int) (hB0 : 100000 ≤ B) (hB1 : B ≤ 1073741824) (qr : Nat) (s1 : Int)  (a0 : Int32) (ra0 : 0 ≤ a0.toInt) (ta0 : a0.toInt ≤ 63) (w0 : va_W) (sz : Nat) (hT : TW ksM ad cy B qr 12 w0)  : Met l yX12_bits wsX12_bits ({ frames := 1, cells := 0, slots := 0, locals := 12 }) (va_Pc [.int a0] (wpreS adK adV dC dI cy sz w0)) (va_Qi (P_X12_bits_2 ad cy B qr s1 a0 w0) (fun u : va_W => wpost dC dI cy (va_A w0 sz) u) (va_A w0 sz)) 0 0 (va_A w0 sz) := by
  refine Met.ofW (cc := cX12_bits) (maxL := 3) (ret := (some .int)) (by decide) rfl ?_
  intro p e s m args below meth c s₁ Bk hml hv
  obtain ⟨rfl, ⟨hsz, hP, hK, hD0⟩, hE, hSR⟩ := hv
  have hx := Bk.exec
  have hb := Bk.bytes
  have hr := Bk.returns
  have hlocks := Bk.notSynchronized
  have hC : CallFix p m c cX12_bits 3 s _ wsX12_bits RX12 := ⟨hx, hb, hml, findClass_of_methodNamed Bk.named, atoms_spec (ws := wsX12_bits) Bk.pre⟩
  subst hsz
  have hD := hD0.self (sz := s.heap.size)
  generalize hAe : va_A w0 s.heap.size = A at hD hE ⊢
  have hA : ∀ q : Nat, s.heap.size ≤ q → A q := fun q h => by rw [← hAe]; exact Or.inr h
  have hw : Wd dC dI A s.heap s.heap [] w0 := ⟨hP, hD, va_S.rf⟩
  have hF : FE ksM ([] : List (Nat × Nat × Nat)) w0 w0 := FE.rf
  have hl := lv_entry ([.int a0]) (n := 3) (Nat.le_of_ble_eq_true rfl)
  rw [lg_entry_eq]
  generalize (lg_sl ([.int a0]) ++ List.replicate (3 - (lg_sl ([.int a0])).length) Slot.unset).toArray = ls at hl ⊢
  have hl : lv_has ls 3 [(0, .int a0)] := hl
  generalize hloc : ([] : List Loc) = locs at hw ⊢
  have L4 : ∀ (n4 : Nat) (v4_1 : Int32) (v4_2 : Int32) (H : Heap) (locs : List Loc) (ls : Array Slot) (w1 : va_W), 0 ≤ a0.toInt → a0.toInt ≤ 63 → 0 ≤ v4_2.toInt → v4_2.toInt ≤ 63 → (v4_2.toInt - 0).toNat < n4 → Wd dC dI A s.heap H locs w1 → TW ksM ad cy B qr 12 w1 → FE ksM ([] : List (Nat × Nat × Nat)) w0 w1 → lv_has ls 3 [(0, .int a0), (1, .int v4_1), (2, .int v4_2)] → W p l e ({ frames := 1, cells := 0, slots := 0, locals := 12 }) s m (List.toArray [.int a0]) below meth c H locs 0 0 (MQ below (va_Qi (P_X12_bits_2 ad cy B qr s1 a0 w0) (fun u : va_W => wpost dC dI cy A u) A) (List.toArray [.int a0]) s 0 0 A) (F0 m 4 ls []) := by
    intro n4
    induction n4 with
    | zero => intro v4_1 v4_2 H locs ls w1 r2 t3 r4 t5 hm4 hw hT hF hl; omega
    | succ n4 ih4 =>
      intro v4_1 v4_2 H locs ls w1 r2 t3 r4 t5 hm4 hw hT hF hl
      refine lv_iload_n hx hb dX12_bits_4 rfl (lv_at hl 2 rfl) ?_
      refine lv_if_eq (tgt := 20) hx hb dX12_bits_5 (by decide) (fun c6 => ?_) (fun c6 => ?_)
      · have c6 : v4_2.toInt = (0 : Int) := wk_eq.mp c6
        refine lv_iload_n hx hb dX12_bits_20 rfl (lv_at hl 1 rfl) ?_
        exact tk_iret hC hr hlocks hK ⟨hT, hF, trivial⟩ hw dX12_bits_21
      · have c6 : ¬ v4_2.toInt = (0 : Int) := wk_eqF c6
        have nx8 := wk_i32 v4_1
        obtain ⟨x7, ex7⟩ : ∃ y : Int32, y = v4_1 + Int32.ofInt 1 := ⟨_, rfl⟩
        refine lv_iinc (v := x7) (lv' := [(1, .int x7), (0, .int a0), (2, .int v4_2)]) hx hb dX12_bits_8 hl (k := 1) rfl ex7.symm (by decide) rfl (fun ls hl => ?_)
        refine lv_iload_n hx hb dX12_bits_11 rfl (lv_at hl 2 rfl) ?_
        refine lv_iload_n hx hb dX12_bits_12 rfl (lv_at hl 2 rfl) ?_
        refine lv_iconst (v := 1) hx hb dX12_bits_13 (by decide) ?_
        refine lv_isub hx hb dX12_bits_14 ?_
        refine lv_topi (fun x9 ex9 => ?_)
        have ex9 : x9.toInt = v4_2.toInt - (1 : Int) := by rw [ex9]; exact wk_sub (show (-2147483648) ≤ v4_2.toInt - (1 : Int) by omega) (show v4_2.toInt - (1 : Int) ≤ 2147483647 by omega)
        refine lv_iand hx hb dX12_bits_15 ?_
        refine lv_topi (fun x10 ex10 => ?_)
        have bx10 : 0 ≤ x10.toInt ∧ x10.toInt ≤ x9.toInt := by rw [ex10]; exact wk_and (by omega)
        refine lv_istore_n (lv' := [(2, .int x10), (1, .int x7), (0, .int a0)]) hx hb dX12_bits_16 rfl hl (by decide) rfl (fun ls hl => ?_)
        refine lv_goto (tgt := 4) hx hb dX12_bits_17 (by decide) ?_
        exact ih4 x7 x10 H locs ls w1 (show 0 ≤ a0.toInt by omega) (show a0.toInt ≤ 63 by omega) (show 0 ≤ x10.toInt by omega) (show x10.toInt ≤ 63 by omega) (show (x10.toInt - 0).toNat < n4 by omega) hw hT hF  (lv_sub hl [2, 1, 0] rfl)
  refine lv_iconst (v := 0) hx hb dX12_bits_0 (by decide) ?_
  refine lv_istore_n (lv' := [(1, .int 0), (0, .int a0)]) hx hb dX12_bits_1 rfl hl (by decide) rfl (fun ls hl => ?_)
  refine lv_iload_n hx hb dX12_bits_2 rfl (lv_at hl 1 rfl) ?_
  refine lv_istore_n (lv' := [(2, .int a0), (1, .int 0), (0, .int a0)]) hx hb dX12_bits_3 rfl hl (by decide) rfl (fun ls hl => ?_)
  exact L4 ((a0.toInt - 0).toNat + 1) 0 a0 s.heap locs ls w0 (show 0 ≤ a0.toInt by omega) (show a0.toInt ≤ 63 by omega) (show 0 ≤ a0.toInt by omega) (show a0.toInt ≤ 63 by omega) (Nat.lt_succ_self _) hw hT hF  (lv_sub hl [2, 1, 0] rfl)
abbrev P_X12_isOf_3 (ad : Nat → Nat) (cy : Nat → ClassId) (B : Int) (qr : Nat) (s1 : Int) (a0 : Int32) (a1 : Int32) (w0 : va_W) : Int32 → va_W → Prop := fun r u => TW ksM ad cy B qr 12 u ∧ FE ksM ([] : List (Nat × Nat × Nat)) w0 u ∧ ((r = 0) ∨ (r = 1))
set_option maxHeartbeats 4000000 in
set_option maxRecDepth 100000 in
theorem k_X12_isOf_3 (l : Launch) (adK adV : Nat → Nat) (dC : Nat → ClassId) (dI : Nat → Nat → Nat) (cy : Nat → ClassId) (ad : Nat → Nat) (B : Int) (hB0 : 100000 ≤ B) (hB1 : B ≤ 1073741824) (qr : Nat) (s1 : Int)  (a0 : Int32) (ra0 : 0 ≤ a0.toInt) (ta0 : a0.toInt ≤ 4095) (a1 : Int32) (w0 : va_W) (sz : Nat) (hT : TW ksM ad cy B qr 12 w0)  : Met l yX12_isOf wsX12_isOf ({ frames := 1, cells := 0, slots := 0, locals := 12 }) (va_Pc [.int a0, .int a1] (wpreS adK adV dC dI cy sz w0)) (va_Qi (P_X12_isOf_3 ad cy B qr s1 a0 a1 w0) (fun u : va_W => wpost dC dI cy (va_A w0 sz) u) (va_A w0 sz)) 0 0 (va_A w0 sz) := by
  refine Met.ofW (cc := cX12_isOf) (maxL := 2) (ret := (some .boolean)) (by decide) rfl ?_
  intro p e s m args below meth c s₁ Bk hml hv
  obtain ⟨rfl, ⟨hsz, hP, hK, hD0⟩, hE, hSR⟩ := hv
  have hx := Bk.exec
  have hb := Bk.bytes
  have hr := Bk.returns
  have hlocks := Bk.notSynchronized
  have hC : CallFix p m c cX12_isOf 2 s _ wsX12_isOf RX12 := ⟨hx, hb, hml, findClass_of_methodNamed Bk.named, atoms_spec (ws := wsX12_isOf) Bk.pre⟩
  subst hsz
  have hD := hD0.self (sz := s.heap.size)
  generalize hAe : va_A w0 s.heap.size = A at hD hE ⊢
  have hA : ∀ q : Nat, s.heap.size ≤ q → A q := fun q h => by rw [← hAe]; exact Or.inr h
  have hw : Wd dC dI A s.heap s.heap [] w0 := ⟨hP, hD, va_S.rf⟩
  have hF : FE ksM ([] : List (Nat × Nat × Nat)) w0 w0 := FE.rf
  have hl := lv_entry ([.int a0, .int a1]) (n := 2) (Nat.le_of_ble_eq_true rfl)
  rw [lg_entry_eq]
  generalize (lg_sl ([.int a0, .int a1]) ++ List.replicate (2 - (lg_sl ([.int a0, .int a1])).length) Slot.unset).toArray = ls at hl ⊢
  have hl : lv_has ls 2 [(0, .int a0), (1, .int a1)] := hl
  generalize hloc : ([] : List Loc) = locs at hw ⊢
  refine lv_iload_n hx hb dX12_isOf_0 rfl (lv_at hl 0 rfl) ?_
  refine lv_iload_n hx hb dX12_isOf_1 rfl (lv_at hl 1 rfl) ?_
  refine lv_ishr hx hb dX12_isOf_2 ?_
  refine lv_topi (fun x1 ex1 => ?_)
  have bx1 : 0 ≤ x1.toInt ∧ x1.toInt ≤ a0.toInt := by rw [ex1]; exact wk_shr (by omega)
  refine lv_iconst (v := 1) hx hb dX12_isOf_3 (by decide) ?_
  refine lv_iand hx hb dX12_isOf_4 ?_
  refine lv_topi (fun x2 ex2 => ?_)
  have bx2 : 0 ≤ x2.toInt ∧ x2.toInt ≤ (1 : Int) := by rw [ex2]; exact wk_and (by decide)
  refine lv_iconst (v := 1) hx hb dX12_isOf_5 (by decide) ?_
  refine lv_icmp_ne (tgt := 13) hx hb dX12_isOf_6 (by decide) (fun c3 => ?_) (fun c3 => ?_)
  · have c3 : ¬ x2.toInt = (1 : Int) := wk_eqF c3
    refine lv_iconst (v := 0) hx hb dX12_isOf_13 (by decide) ?_
    exact tk_zret hC hr rfl hlocks hK ⟨hT, hF, (Or.inl rfl)⟩ hw dX12_isOf_14
  · have c3 : x2.toInt = (1 : Int) := wk_eq.mp c3
    refine lv_iconst (v := 1) hx hb dX12_isOf_9 (by decide) ?_
    refine lv_goto (tgt := 14) hx hb dX12_isOf_10 (by decide) ?_
    exact tk_zret hC hr rfl hlocks hK ⟨hT, hF, (Or.inr rfl)⟩ hw dX12_isOf_14
abbrev P_X12_isOf_4 (ad : Nat → Nat) (cy : Nat → ClassId) (B : Int) (qr : Nat) (s1 : Int) (a0 : Int32) (a1 : Int32) (w0 : va_W) : Int32 → va_W → Prop := fun r u => TW ksM ad cy B qr 12 u ∧ FE ksM ([] : List (Nat × Nat × Nat)) w0 u ∧ ((r = 0) ∨ (r = 1))
set_option maxHeartbeats 4000000 in
set_option maxRecDepth 100000 in
theorem k_X12_isOf_4 (l : Launch) (adK adV : Nat → Nat) (dC : Nat → ClassId) (dI : Nat → Nat → Nat) (cy : Nat → ClassId) (ad : Nat → Nat) (B : Int) (hB0 : 100000 ≤ B) (hB1 : B ≤ 1073741824) (qr : Nat) (s1 : Int)  (a0 : Int32) (ra0 : 1 ≤ a0.toInt) (ta0 : a0.toInt ≤ 1023) (a1 : Int32) (ra1 : 0 ≤ a1.toInt) (ta1 : a1.toInt ≤ 9) (w0 : va_W) (sz : Nat) (hT : TW ksM ad cy B qr 12 w0)  : Met l yX12_isOf wsX12_isOf ({ frames := 1, cells := 0, slots := 0, locals := 12 }) (va_Pc [.int a0, .int a1] (wpreS adK adV dC dI cy sz w0)) (va_Qi (P_X12_isOf_4 ad cy B qr s1 a0 a1 w0) (fun u : va_W => wpost dC dI cy (va_A w0 sz) u) (va_A w0 sz)) 0 0 (va_A w0 sz) := by
  refine Met.ofW (cc := cX12_isOf) (maxL := 2) (ret := (some .boolean)) (by decide) rfl ?_
  intro p e s m args below meth c s₁ Bk hml hv
  obtain ⟨rfl, ⟨hsz, hP, hK, hD0⟩, hE, hSR⟩ := hv
  have hx := Bk.exec
  have hb := Bk.bytes
  have hr := Bk.returns
  have hlocks := Bk.notSynchronized
  have hC : CallFix p m c cX12_isOf 2 s _ wsX12_isOf RX12 := ⟨hx, hb, hml, findClass_of_methodNamed Bk.named, atoms_spec (ws := wsX12_isOf) Bk.pre⟩
  subst hsz
  have hD := hD0.self (sz := s.heap.size)
  generalize hAe : va_A w0 s.heap.size = A at hD hE ⊢
  have hA : ∀ q : Nat, s.heap.size ≤ q → A q := fun q h => by rw [← hAe]; exact Or.inr h
  have hw : Wd dC dI A s.heap s.heap [] w0 := ⟨hP, hD, va_S.rf⟩
  have hF : FE ksM ([] : List (Nat × Nat × Nat)) w0 w0 := FE.rf
  have hl := lv_entry ([.int a0, .int a1]) (n := 2) (Nat.le_of_ble_eq_true rfl)
  rw [lg_entry_eq]
  generalize (lg_sl ([.int a0, .int a1]) ++ List.replicate (2 - (lg_sl ([.int a0, .int a1])).length) Slot.unset).toArray = ls at hl ⊢
  have hl : lv_has ls 2 [(0, .int a0), (1, .int a1)] := hl
  generalize hloc : ([] : List Loc) = locs at hw ⊢
  refine lv_iload_n hx hb dX12_isOf_0 rfl (lv_at hl 0 rfl) ?_
  refine lv_iload_n hx hb dX12_isOf_1 rfl (lv_at hl 1 rfl) ?_
  refine lv_ishr hx hb dX12_isOf_2 ?_
  refine lv_topi (fun x1 ex1 => ?_)
  have bx1 : 0 ≤ x1.toInt ∧ x1.toInt ≤ a0.toInt := by rw [ex1]; exact wk_shr (by omega)
  refine lv_iconst (v := 1) hx hb dX12_isOf_3 (by decide) ?_
  refine lv_iand hx hb dX12_isOf_4 ?_
  refine lv_topi (fun x2 ex2 => ?_)
  have bx2 : 0 ≤ x2.toInt ∧ x2.toInt ≤ (1 : Int) := by rw [ex2]; exact wk_and (by decide)
  refine lv_iconst (v := 1) hx hb dX12_isOf_5 (by decide) ?_
  refine lv_icmp_ne (tgt := 13) hx hb dX12_isOf_6 (by decide) (fun c3 => ?_) (fun c3 => ?_)
  · have c3 : ¬ x2.toInt = (1 : Int) := wk_eqF c3
    refine lv_iconst (v := 0) hx hb dX12_isOf_13 (by decide) ?_
    exact tk_zret hC hr rfl hlocks hK ⟨hT, hF, (Or.inl rfl)⟩ hw dX12_isOf_14
  · have c3 : x2.toInt = (1 : Int) := wk_eq.mp c3
    refine lv_iconst (v := 1) hx hb dX12_isOf_9 (by decide) ?_
    refine lv_goto (tgt := 14) hx hb dX12_isOf_10 (by decide) ?_
    exact tk_zret hC hr rfl hlocks hK ⟨hT, hF, (Or.inr rfl)⟩ hw dX12_isOf_14
abbrev P_X12_comesTo_1 (ad : Nat → Nat) (cy : Nat → ClassId) (B : Int) (qr : Nat) (s1 : Int) (a1 : Int32) (a2 : Int32) (a3 : Int32) (w0 : va_W) : Int32 → va_W → Prop := fun r u => TW ksM ad cy B qr 12 u ∧ FE ksM ([] : List (Nat × Nat × Nat)) w0 u ∧ ((1 ≤ r.toInt ∧ r.toInt ≤ 1023))
set_option maxHeartbeats 4000000 in
set_option maxRecDepth 100000 in
theorem k_X12_comesTo_1 (l : Launch) (adK adV : Nat → Nat) (dC : Nat → ClassId) (dI : Nat → Nat → Nat) (cy : Nat → ClassId) (ad : Nat → Nat) (B : Int) (hB0 : 100000 ≤ B) (hB1 : B ≤ 1073741824) (qr : Nat) (s1 : Int)  (a1 : Int32) (ra1 : 0 ≤ a1.toInt) (ta1 : a1.toInt ≤ 6) (a2 : Int32) (ra2 : 0 ≤ a2.toInt) (ta2 : a2.toInt ≤ 4095) (a3 : Int32) (ra3 : 0 ≤ a3.toInt) (ta3 : a3.toInt ≤ 9) (w0 : va_W) (sz : Nat) (hT : TW ksM ad cy B qr 12 w0)  : Met l yX12_comesTo wsX12_comesTo ({ frames := 2, cells := 0, slots := 0, locals := 34 }) (va_Pc [.ref (ad 0), .int a1, .int a2, .int a3] (wpreS adK adV dC dI cy sz w0)) (va_Qi (P_X12_comesTo_1 ad cy B qr s1 a1 a2 a3 w0) (fun u : va_W => wpost dC dI cy (va_A w0 sz) u) (va_A w0 sz)) 0 0 (va_A w0 sz) := by
  refine Met.ofW (cc := cX12_comesTo) (maxL := 9) (ret := (some .int)) (by decide) rfl ?_
  intro p e s m args below meth c s₁ Bk hml hv
  obtain ⟨rfl, ⟨hsz, hP, hK, hD0⟩, hE, hSR⟩ := hv
  have hx := Bk.exec
  have hb := Bk.bytes
  have hr := Bk.returns
  have hlocks := Bk.notSynchronized
  have hC : CallFix p m c cX12_comesTo 9 s _ wsX12_comesTo RX12 := ⟨hx, hb, hml, findClass_of_methodNamed Bk.named, atoms_spec (ws := wsX12_comesTo) Bk.pre⟩
  subst hsz
  have hD := hD0.self (sz := s.heap.size)
  generalize hAe : va_A w0 s.heap.size = A at hD hE ⊢
  have hA : ∀ q : Nat, s.heap.size ≤ q → A q := fun q h => by rw [← hAe]; exact Or.inr h
  have hw : Wd dC dI A s.heap s.heap [] w0 := ⟨hP, hD, va_S.rf⟩
  have hF : FE ksM ([] : List (Nat × Nat × Nat)) w0 w0 := FE.rf
  have hl := lv_entry ([.ref (ad 0), .int a1, .int a2, .int a3]) (n := 9) (Nat.le_of_ble_eq_true rfl)
  rw [lg_entry_eq]
  generalize (lg_sl ([.ref (ad 0), .int a1, .int a2, .int a3]) ++ List.replicate (9 - (lg_sl ([.ref (ad 0), .int a1, .int a2, .int a3])).length) Slot.unset).toArray = ls at hl ⊢
  have hl : lv_has ls 9 [(0, .ref (ad 0)), (1, .int a1), (2, .int a2), (3, .int a3)] := hl
  generalize hloc : ([] : List Loc) = locs at hw ⊢
  have hinX12 : ∀ w ∈ u_ws RX12 TX12 42, w ∈ wsX12_comesTo := fun _ h => List.mem_cons_of_mem _ (List.mem_append_right _ (h))
  have L8 : ∀ (n8 : Nat) (v8_4 : Int32) (v8_5 : Int32) (H : Heap) (locs : List Loc) (ls : Array Slot) (w1 : va_W), 0 ≤ a1.toInt → a1.toInt ≤ 6 → 0 ≤ a2.toInt → a2.toInt ≤ 4095 → 0 ≤ a3.toInt → a3.toInt ≤ 9 → 1 ≤ v8_4.toInt → v8_4.toInt ≤ 1023 → 0 ≤ v8_5.toInt → v8_5.toInt ≤ 1023 → v8_5.toInt ≤ v8_4.toInt + 0 → (1023 - v8_5.toInt).toNat < n8 → Wd dC dI A s.heap H locs w1 → TW ksM ad cy B qr 12 w1 → FE ksM ([] : List (Nat × Nat × Nat)) w0 w1 → lv_has ls 9 [(0, .ref (ad 0)), (1, .int a1), (2, .int a2), (3, .int a3), (4, .int v8_4), (5, .int v8_5)] → W p l e ({ frames := 2, cells := 0, slots := 0, locals := 34 }) s m (List.toArray [.ref (ad 0), .int a1, .int a2, .int a3]) below meth c H locs 0 0 (MQ below (va_Qi (P_X12_comesTo_1 ad cy B qr s1 a1 a2 a3 w0) (fun u : va_W => wpost dC dI cy A u) A) (List.toArray [.ref (ad 0), .int a1, .int a2, .int a3]) s 0 0 A) (F0 m 8 ls []) := by
    intro n8
    induction n8 with
    | zero => intro v8_4 v8_5 H locs ls w1 r2 t3 r4 t5 r6 t7 r8 t9 r10 t11 i12 hm8 hw hT hF hl; omega
    | succ n8 ih8 =>
      intro v8_4 v8_5 H locs ls w1 r2 t3 r4 t5 r6 t7 r8 t9 r10 t11 i12 hm8 hw hT hF hl
      have L25 : ∀ (n25 : Nat) (v25_4 : Int32) (v25_6 : Int32) (v25_7 : Int32) (H : Heap) (locs : List Loc) (ls : Array Slot) (w13 : va_W), 0 ≤ a1.toInt → a1.toInt ≤ 6 → 0 ≤ a2.toInt → a2.toInt ≤ 4095 → 0 ≤ a3.toInt → a3.toInt ≤ 9 → 1 ≤ v25_4.toInt → v25_4.toInt ≤ 1023 → 1 ≤ v8_4.toInt → v8_4.toInt ≤ 1023 → 0 ≤ v25_7.toInt → v25_7.toInt ≤ 12 → v8_4.toInt ≤ v25_4.toInt + 0 → (12 - v25_7.toInt).toNat < n25 → Wd dC dI A s.heap H locs w13 → TW ksM ad cy B qr 12 w13 → FE ksM ([] : List (Nat × Nat × Nat)) w0 w13 → lv_has ls 9 [(0, .ref (ad 0)), (1, .int a1), (2, .int a2), (3, .int a3), (4, .int v25_4), (5, .int v8_4), (6, .int v25_6), (7, .int v25_7)] → W p l e ({ frames := 2, cells := 0, slots := 0, locals := 34 }) s m (List.toArray [.ref (ad 0), .int a1, .int a2, .int a3]) below meth c H locs 0 0 (MQ below (va_Qi (P_X12_comesTo_1 ad cy B qr s1 a1 a2 a3 w0) (fun u : va_W => wpost dC dI cy A u) A) (List.toArray [.ref (ad 0), .int a1, .int a2, .int a3]) s 0 0 A) (F0 m 25 ls []) := by
        intro n25
        induction n25 with
        | zero => intro v25_4 v25_6 v25_7 H locs ls w13 r14 t15 r16 t17 r18 t19 r20 t21 r22 t23 r24 t25 i26 hm25 hw hT hF hl; omega
        | succ n25 ih25 =>
          intro v25_4 v25_6 v25_7 H locs ls w13 r14 t15 r16 t17 r18 t19 r20 t21 r22 t23 r24 t25 i26 hm25 hw hT hF hl
          have J107 : ∀ (v107_4 : Int32) (v107_6 : Int32) (f107_12_1 : Int32) (H : Heap) (locs : List Loc) (ls : Array Slot) (w27 : va_W), 0 ≤ a1.toInt → a1.toInt ≤ 6 → 0 ≤ a2.toInt → a2.toInt ≤ 4095 → 0 ≤ a3.toInt → a3.toInt ≤ 9 → 1 ≤ v107_4.toInt → v107_4.toInt ≤ 1023 → 1 ≤ v8_4.toInt → v8_4.toInt ≤ 1023 → 0 ≤ v25_7.toInt → v25_7.toInt ≤ 11 → 1 ≤ f107_12_1.toInt → f107_12_1.toInt ≤ 12 → v8_4.toInt ≤ v107_4.toInt + 0 → Wd dC dI A s.heap H locs w27 → TW ksM ad cy B qr 12 w27 → FE ksM ([] : List (Nat × Nat × Nat)) w0 w27 → gi w27 12 1 = f107_12_1 → lv_has ls 9 [(0, .ref (ad 0)), (1, .int a1), (2, .int a2), (3, .int a3), (4, .int v107_4), (5, .int v8_4), (6, .int v107_6), (7, .int v25_7)] → W p l e ({ frames := 2, cells := 0, slots := 0, locals := 34 }) s m (List.toArray [.ref (ad 0), .int a1, .int a2, .int a3]) below meth c H locs 0 0 (MQ below (va_Qi (P_X12_comesTo_1 ad cy B qr s1 a1 a2 a3 w0) (fun u : va_W => wpost dC dI cy A u) A) (List.toArray [.ref (ad 0), .int a1, .int a2, .int a3]) s 0 0 A) (F0 m 107 ls []) := by
            intro v107_4 v107_6 f107_12_1 H locs ls w27 r28 t29 r30 t31 r32 t33 r34 t35 r36 t37 r38 t39 r40 t41 i43 hw hT hF c42 hl
            obtain ⟨x44, ex44⟩ : ∃ y : Int32, y = v25_7 + Int32.ofInt 1 := ⟨_, rfl⟩
            refine lv_iinc (v := x44) (lv' := [(7, .int x44), (0, .ref (ad 0)), (1, .int a1), (2, .int a2), (3, .int a3), (4, .int v107_4), (5, .int v8_4), (6, .int v107_6)]) hx hb dX12_comesTo_107 hl (k := 7) rfl ex44.symm (by decide) rfl (fun ls hl => ?_)
            have ex44 : x44.toInt = v25_7.toInt + 1 := by rw [ex44]; exact wk_add (y := 1) (show -2147483648 ≤ v25_7.toInt + 1 by omega) (show v25_7.toInt + 1 ≤ 2147483647 by omega)
            refine lv_goto (tgt := 25) hx hb dX12_comesTo_110 (by decide) ?_
            exact ih25 v107_4 v107_6 x44 H locs ls w27 (show 0 ≤ a1.toInt by omega) (show a1.toInt ≤ 6 by omega) (show 0 ≤ a2.toInt by omega) (show a2.toInt ≤ 4095 by omega) (show 0 ≤ a3.toInt by omega) (show a3.toInt ≤ 9 by omega) (show 1 ≤ v107_4.toInt by omega) (show v107_4.toInt ≤ 1023 by omega) (show 1 ≤ v8_4.toInt by omega) (show v8_4.toInt ≤ 1023 by omega) (show 0 ≤ x44.toInt by omega) (show x44.toInt ≤ 12 by omega) (show v8_4.toInt ≤ v107_4.toInt + 0 by omega) (show (12 - x44.toInt).toNat < n25 by omega) hw hT hF  (lv_sub hl [1, 2, 3, 4, 5, 6, 7, 0] rfl)
          refine lv_iload hx hb dX12_comesTo_25 (lv_at hl 7 rfl) ?_
          refine lv_aload_n hx hb dX12_comesTo_27 rfl (lv_at hl 0 rfl) ?_
          refine tk_getA hC hK hw hT hinX12 kM_at0 (by decide) rfl 26 (by decide) (List.mem_of_getElem? (i := 1) rfl) rfl rfl dX12_comesTo_28 ?_
          refine lv_iconst (v := 1) hx hb dX12_comesTo_31 (by decide) ?_
          refine tk_ialdR hC hK hw hT kM_at12 rfl (by decide) (by decide) dX12_comesTo_32 (fun x45 c46 Ex45 => ?_)
          have bx45 : 0 ≤ x45.toInt ∧ x45.toInt ≤ 12 := (tk_rg1 rfl).mp Ex45
          have c46 : gi w13 12 1 = x45 := c46
          refine lv_icmp_ge (tgt := 113) hx hb dX12_comesTo_33 (by decide) (fun c47 => ?_) (fun c47 => ?_)
          · have c47 : x45.toInt ≤ v25_7.toInt := wk_le.mp c47
            refine lv_goto (tgt := 8) hx hb dX12_comesTo_113 (by decide) ?_
            exact ih8 v25_4 v8_4 H locs ls w13 (show 0 ≤ a1.toInt by omega) (show a1.toInt ≤ 6 by omega) (show 0 ≤ a2.toInt by omega) (show a2.toInt ≤ 4095 by omega) (show 0 ≤ a3.toInt by omega) (show a3.toInt ≤ 9 by omega) (show 1 ≤ v25_4.toInt by omega) (show v25_4.toInt ≤ 1023 by omega) (show 0 ≤ v8_4.toInt by omega) (show v8_4.toInt ≤ 1023 by omega) (show v8_4.toInt ≤ v25_4.toInt + 0 by omega) (show (1023 - v8_4.toInt).toNat < n8 by omega) hw hT hF  (lv_sub hl [0, 1, 2, 3, 4, 5] rfl)
          · have c47 : v25_7.toInt < x45.toInt := wk_leF c47
            refine lv_aload_n hx hb dX12_comesTo_36 rfl (lv_at hl 0 rfl) ?_
            refine lv_iload hx hb dX12_comesTo_37 (lv_at hl 7 rfl) ?_
            refine lv_iconst (v := 3) hx hb dX12_comesTo_39 (by decide) ?_
            refine lv_iload_n hx hb dX12_comesTo_40 rfl (lv_at hl 1 rfl) ?_
            refine lv_iadd hx hb dX12_comesTo_41 ?_
            refine lv_topi (fun x48 ex48 => ?_)
            have ex48 : x48.toInt = (3 : Int) + a1.toInt := by rw [ex48]; exact wk_add (show (-2147483648) ≤ (3 : Int) + a1.toInt by omega) (show (3 : Int) + a1.toInt ≤ 2147483647 by omega)
            refine tk_Vi hC hK hw hT hA hE hSR kM_at0 (by decide) rfl (k_X12_streetOf_4 l adK adV dC dI cy ad B (by omega) (by omega) qr s1   v25_7 (show 0 ≤ v25_7.toInt by omega) (show v25_7.toInt ≤ 11 by omega) x48 (show 3 ≤ x48.toInt by omega) (show x48.toInt ≤ 9 by omega) w13 H.size hT ) (cwV 2 hC.2.2.2.2 gX12_comesTo_X12_streetOf rfl rfl rfl (by decide +kernel) ⟨Nat.le_of_ble_eq_true rfl, Nat.le_of_ble_eq_true rfl⟩) rfl hl.1 rfl (Nat.le_of_ble_eq_true rfl) dX12_comesTo_42 (fun r49 w51 H locs hp50 hw => ?_)
            obtain ⟨hT, k52, hg55⟩ := hp50
            have hF := hF.tr k52 (by decide)
            have c56 := k52.gi kM_at12 (by decide) c46
            obtain ⟨g53, g54⟩ := hg55
            refine lv_if_ne (tgt := 51) hx hb dX12_comesTo_45 (by decide) (fun c57 => ?_) (fun c57 => ?_)
            · have c57 : ¬ r49.toInt = (0 : Int) := wk_eqF c57
              refine lv_iload_n hx hb dX12_comesTo_51 rfl (lv_at hl 2 rfl) ?_
              refine lv_iload hx hb dX12_comesTo_52 (lv_at hl 6 rfl) ?_
              refine tk_Si hC hK hw hT hA hE hSR (k_X12_isOf_3 l adK adV dC dI cy ad B (by omega) (by omega) qr s1   a2 (show 0 ≤ a2.toInt by omega) (show a2.toInt ≤ 4095 by omega) v25_6 w51 H.size hT ) (va_cwS 2 hC.2.2.2.2 gX12_comesTo_X12_isOf rfl rfl rfl (by decide +kernel) ⟨Nat.le_of_ble_eq_true rfl, Nat.le_of_ble_eq_true rfl⟩) rfl hl.1 rfl (Nat.le_of_ble_eq_true rfl) dX12_comesTo_54 (fun r58 w60 H locs hp59 hw => ?_)
              obtain ⟨hT, k61, hg62⟩ := hp59
              have hF := hF.tr k61 (by decide)
              have c63 := k61.gi kM_at12 (by decide) c56
              rcases hg62 with rfl | rfl
              · refine lv_if_eq (tgt := 64) hx hb dX12_comesTo_57 (by decide) (fun _ => ?_) (fun c => absurd (by decide) c)
                refine lv_iconst (v := 0) hx hb dX12_comesTo_64 (by decide) ?_
                refine lv_istore (lv' := [(8, .int 0), (0, .ref (ad 0)), (1, .int a1), (2, .int a2), (3, .int a3), (4, .int v25_4), (5, .int v8_4), (6, .int v25_6), (7, .int v25_7)]) hx hb dX12_comesTo_65 hl (by decide) rfl (fun ls hl => ?_)
                refine lv_iload hx hb dX12_comesTo_67 (lv_at hl 5 rfl) ?_
                refine lv_iload hx hb dX12_comesTo_69 (lv_at hl 5 rfl) ?_
                refine lv_aload_n hx hb dX12_comesTo_71 rfl (lv_at hl 1 rfl) ?_
                refine lv_iload hx hb dX12_comesTo_72 (lv_at hl 8 rfl) ?_
                refine lv_iload hx hb dX12_comesTo_74 (lv_at hl 0 rfl) ?_
                refine tk_Vi hC hK hw hT hA hE hSR kM_at0 (by decide) rfl (k_X12_streetOf_2 l adK adV dC dI cy ad B (by omega) (by omega) qr s1   v25_7 (show 0 ≤ v25_7.toInt by omega) (show v25_7.toInt ≤ 11 by omega) w60 H.size hT ) (cwV 2 hC.2.2.2.2 gX12_comesTo_X12_streetOf rfl rfl rfl (by decide +kernel) ⟨Nat.le_of_ble_eq_true rfl, Nat.le_of_ble_eq_true rfl⟩) rfl hl.1 rfl (Nat.le_of_ble_eq_true rfl) dX12_comesTo_76 (fun r64 w66 H locs hp65 hw => ?_)
                obtain ⟨hT, k67, hg70⟩ := hp65
                have hF := hF.tr k67 (by decide)
                have c71 := k67.gi kM_at12 (by decide) c63
                obtain ⟨g68, g69⟩ := hg70
                refine tk_Si hC hK hw hT hA hE hSR (k_X12_isOf_4 l adK adV dC dI cy ad B (by omega) (by omega) qr s1   v25_4 (show 1 ≤ v25_4.toInt by omega) (show v25_4.toInt ≤ 1023 by omega) r64 (show 0 ≤ r64.toInt by omega) (show r64.toInt ≤ 9 by omega) w66 H.size hT ) (va_cwS 2 hC.2.2.2.2 gX12_comesTo_X12_isOf rfl rfl rfl (by decide +kernel) ⟨Nat.le_of_ble_eq_true rfl, Nat.le_of_ble_eq_true rfl⟩) rfl hl.1 rfl (Nat.le_of_ble_eq_true rfl) dX12_comesTo_79 (fun r72 w74 H locs hp73 hw => ?_)
                obtain ⟨hT, k75, hg76⟩ := hp73
                have hF := hF.tr k75 (by decide)
                have c77 := k75.gi kM_at12 (by decide) c71
                rcases hg76 with rfl | rfl
                · refine lv_if_eq (tgt := 100) hx hb dX12_comesTo_82 (by decide) (fun _ => ?_) (fun c => absurd (by decide) c)
                  refine lv_iconst (v := 0) hx hb dX12_comesTo_100 (by decide) ?_
                  refine lv_ior hx hb dX12_comesTo_101 ?_
                  refine lv_topi (fun x78 ex78 => ?_)
                  have bx78 : 0 ≤ x78.toInt ∧ x78.toInt < 1024 := by rw [ex78]; exact wk_or 10 (by decide) (by omega) (by omega) (by decide) (by decide)
                  have mx78 : v25_4.toInt ≤ x78.toInt ∧ (0 : Int) ≤ x78.toInt := by rw [ex78]; exact wk_orL 10 (by decide) (by omega) (by omega) (by decide) (by decide)
                  refine lv_istore (lv' := [(4, .int x78), (8, .int 0), (0, .ref (ad 0)), (1, .int a1), (2, .int a2), (3, .int a3), (5, .int v8_4), (6, .int v25_6), (7, .int v25_7)]) hx hb dX12_comesTo_102 hl (by decide) rfl (fun ls hl => ?_)
                  have nx80 := wk_i32 v25_6
                  obtain ⟨x79, ex79⟩ : ∃ y : Int32, y = v25_6 + Int32.ofInt 1 := ⟨_, rfl⟩
                  refine lv_iinc (v := x79) (lv' := [(6, .int x79), (4, .int x78), (8, .int 0), (0, .ref (ad 0)), (1, .int a1), (2, .int a2), (3, .int a3), (5, .int v8_4), (7, .int v25_7)]) hx hb dX12_comesTo_104 hl (k := 7) rfl ex79.symm (by decide) rfl (fun ls hl => ?_)
                  exact J107 x78 x79 x45 H locs ls w74 (show 0 ≤ a1.toInt by omega) (show a1.toInt ≤ 6 by omega) (show 0 ≤ a2.toInt by omega) (show a2.toInt ≤ 4095 by omega) (show 0 ≤ a3.toInt by omega) (show a3.toInt ≤ 9 by omega) (show 1 ≤ x78.toInt by omega) (show x78.toInt ≤ 1023 by omega) (show 1 ≤ v8_4.toInt by omega) (show v8_4.toInt ≤ 1023 by omega) (show 0 ≤ v25_7.toInt by omega) (show v25_7.toInt ≤ 11 by omega) (show 1 ≤ x45.toInt by omega) (show x45.toInt ≤ 12 by omega) (show v8_4.toInt ≤ x78.toInt + 0 by omega)  hw hT hF c77 (lv_sub hl [3, 4, 5, 6, 1, 7, 0, 8] rfl)
                · refine lv_if_eq (tgt := 100) hx hb dX12_comesTo_82 (by decide) (fun c => absurd c (by decide)) (fun _ => ?_)
                  refine lv_iconst (v := 1) hx hb dX12_comesTo_85 (by decide) ?_
                  refine lv_aload_n hx hb dX12_comesTo_86 rfl (lv_at hl 1 rfl) ?_
                  refine lv_iload hx hb dX12_comesTo_87 (lv_at hl 8 rfl) ?_
                  refine lv_iconst (v := 1) hx hb dX12_comesTo_89 (by decide) ?_
                  refine lv_iload hx hb dX12_comesTo_90 (lv_at hl 0 rfl) ?_
                  refine lv_isub hx hb dX12_comesTo_92 ?_
                  refine wk_top 1 (by decide) ?_
                  refine tk_Vi hC hK hw hT hA hE hSR kM_at0 (by decide) rfl (k_X12_streetOf_3 l adK adV dC dI cy ad B (by omega) (by omega) qr s1   v25_7 (show 0 ≤ v25_7.toInt by omega) (show v25_7.toInt ≤ 11 by omega) w74 H.size hT ) (cwV 2 hC.2.2.2.2 gX12_comesTo_X12_streetOf rfl rfl rfl (by decide +kernel) ⟨Nat.le_of_ble_eq_true rfl, Nat.le_of_ble_eq_true rfl⟩) rfl hl.1 rfl (Nat.le_of_ble_eq_true rfl) dX12_comesTo_93 (fun r81 w83 H locs hp82 hw => ?_)
                  obtain ⟨hT, k84, hg87⟩ := hp82
                  have hF := hF.tr k84 (by decide)
                  have c88 := k84.gi kM_at12 (by decide) c77
                  obtain ⟨g85, g86⟩ := hg87
                  refine lv_ishl hx hb dX12_comesTo_96 ?_
                  refine lv_topi (fun x89 ex89 => ?_)
                  have bx89 : 1 ≤ x89.toInt ∧ x89.toInt ≤ 512 := by rw [ex89]; exact wk_shl1 9 (by decide) (by omega) (by omega)
                  refine lv_goto (tgt := 101) hx hb dX12_comesTo_97 (by decide) ?_
                  refine lv_ior hx hb dX12_comesTo_101 ?_
                  refine lv_topi (fun x90 ex90 => ?_)
                  have bx90 : 0 ≤ x90.toInt ∧ x90.toInt < 1024 := by rw [ex90]; exact wk_or 10 (by decide) (by omega) (by omega) (by omega) (by omega)
                  have mx90 : v25_4.toInt ≤ x90.toInt ∧ x89.toInt ≤ x90.toInt := by rw [ex90]; exact wk_orL 10 (by decide) (by omega) (by omega) (by omega) (by omega)
                  refine lv_istore (lv' := [(4, .int x90), (8, .int 0), (0, .ref (ad 0)), (1, .int a1), (2, .int a2), (3, .int a3), (5, .int v8_4), (6, .int v25_6), (7, .int v25_7)]) hx hb dX12_comesTo_102 hl (by decide) rfl (fun ls hl => ?_)
                  have nx92 := wk_i32 v25_6
                  obtain ⟨x91, ex91⟩ : ∃ y : Int32, y = v25_6 + Int32.ofInt 1 := ⟨_, rfl⟩
                  refine lv_iinc (v := x91) (lv' := [(6, .int x91), (4, .int x90), (8, .int 0), (0, .ref (ad 0)), (1, .int a1), (2, .int a2), (3, .int a3), (5, .int v8_4), (7, .int v25_7)]) hx hb dX12_comesTo_104 hl (k := 7) rfl ex91.symm (by decide) rfl (fun ls hl => ?_)
                  exact J107 x90 x91 x45 H locs ls w83 (show 0 ≤ a1.toInt by omega) (show a1.toInt ≤ 6 by omega) (show 0 ≤ a2.toInt by omega) (show a2.toInt ≤ 4095 by omega) (show 0 ≤ a3.toInt by omega) (show a3.toInt ≤ 9 by omega) (show 1 ≤ x90.toInt by omega) (show x90.toInt ≤ 1023 by omega) (show 1 ≤ v8_4.toInt by omega) (show v8_4.toInt ≤ 1023 by omega) (show 0 ≤ v25_7.toInt by omega) (show v25_7.toInt ≤ 11 by omega) (show 1 ≤ x45.toInt by omega) (show x45.toInt ≤ 12 by omega) (show v8_4.toInt ≤ x90.toInt + 0 by omega)  hw hT hF c88 (lv_sub hl [3, 4, 5, 6, 1, 7, 0, 8] rfl)
              · refine lv_if_eq (tgt := 64) hx hb dX12_comesTo_57 (by decide) (fun c => absurd c (by decide)) (fun _ => ?_)
                refine lv_iconst (v := 1) hx hb dX12_comesTo_60 (by decide) ?_
                refine lv_goto (tgt := 65) hx hb dX12_comesTo_61 (by decide) ?_
                refine lv_istore (lv' := [(8, .int 1), (0, .ref (ad 0)), (1, .int a1), (2, .int a2), (3, .int a3), (4, .int v25_4), (5, .int v8_4), (6, .int v25_6), (7, .int v25_7)]) hx hb dX12_comesTo_65 hl (by decide) rfl (fun ls hl => ?_)
                refine lv_iload hx hb dX12_comesTo_67 (lv_at hl 5 rfl) ?_
                refine lv_iload hx hb dX12_comesTo_69 (lv_at hl 5 rfl) ?_
                refine lv_aload_n hx hb dX12_comesTo_71 rfl (lv_at hl 1 rfl) ?_
                refine lv_iload hx hb dX12_comesTo_72 (lv_at hl 8 rfl) ?_
                refine lv_iload hx hb dX12_comesTo_74 (lv_at hl 0 rfl) ?_
                refine tk_Vi hC hK hw hT hA hE hSR kM_at0 (by decide) rfl (k_X12_streetOf_3 l adK adV dC dI cy ad B (by omega) (by omega) qr s1   v25_7 (show 0 ≤ v25_7.toInt by omega) (show v25_7.toInt ≤ 11 by omega) w60 H.size hT ) (cwV 2 hC.2.2.2.2 gX12_comesTo_X12_streetOf rfl rfl rfl (by decide +kernel) ⟨Nat.le_of_ble_eq_true rfl, Nat.le_of_ble_eq_true rfl⟩) rfl hl.1 rfl (Nat.le_of_ble_eq_true rfl) dX12_comesTo_76 (fun r93 w95 H locs hp94 hw => ?_)
                obtain ⟨hT, k96, hg99⟩ := hp94
                have hF := hF.tr k96 (by decide)
                have c100 := k96.gi kM_at12 (by decide) c63
                obtain ⟨g97, g98⟩ := hg99
                refine tk_Si hC hK hw hT hA hE hSR (k_X12_isOf_4 l adK adV dC dI cy ad B (by omega) (by omega) qr s1   v25_4 (show 1 ≤ v25_4.toInt by omega) (show v25_4.toInt ≤ 1023 by omega) r93 (show 0 ≤ r93.toInt by omega) (show r93.toInt ≤ 9 by omega) w95 H.size hT ) (va_cwS 2 hC.2.2.2.2 gX12_comesTo_X12_isOf rfl rfl rfl (by decide +kernel) ⟨Nat.le_of_ble_eq_true rfl, Nat.le_of_ble_eq_true rfl⟩) rfl hl.1 rfl (Nat.le_of_ble_eq_true rfl) dX12_comesTo_79 (fun r101 w103 H locs hp102 hw => ?_)
                obtain ⟨hT, k104, hg105⟩ := hp102
                have hF := hF.tr k104 (by decide)
                have c106 := k104.gi kM_at12 (by decide) c100
                rcases hg105 with rfl | rfl
                · refine lv_if_eq (tgt := 100) hx hb dX12_comesTo_82 (by decide) (fun _ => ?_) (fun c => absurd (by decide) c)
                  refine lv_iconst (v := 0) hx hb dX12_comesTo_100 (by decide) ?_
                  refine lv_ior hx hb dX12_comesTo_101 ?_
                  refine lv_topi (fun x107 ex107 => ?_)
                  have bx107 : 0 ≤ x107.toInt ∧ x107.toInt < 1024 := by rw [ex107]; exact wk_or 10 (by decide) (by omega) (by omega) (by decide) (by decide)
                  have mx107 : v25_4.toInt ≤ x107.toInt ∧ (0 : Int) ≤ x107.toInt := by rw [ex107]; exact wk_orL 10 (by decide) (by omega) (by omega) (by decide) (by decide)
                  refine lv_istore (lv' := [(4, .int x107), (8, .int 1), (0, .ref (ad 0)), (1, .int a1), (2, .int a2), (3, .int a3), (5, .int v8_4), (6, .int v25_6), (7, .int v25_7)]) hx hb dX12_comesTo_102 hl (by decide) rfl (fun ls hl => ?_)
                  have nx109 := wk_i32 v25_6
                  obtain ⟨x108, ex108⟩ : ∃ y : Int32, y = v25_6 + Int32.ofInt 1 := ⟨_, rfl⟩
                  refine lv_iinc (v := x108) (lv' := [(6, .int x108), (4, .int x107), (8, .int 1), (0, .ref (ad 0)), (1, .int a1), (2, .int a2), (3, .int a3), (5, .int v8_4), (7, .int v25_7)]) hx hb dX12_comesTo_104 hl (k := 7) rfl ex108.symm (by decide) rfl (fun ls hl => ?_)
                  exact J107 x107 x108 x45 H locs ls w103 (show 0 ≤ a1.toInt by omega) (show a1.toInt ≤ 6 by omega) (show 0 ≤ a2.toInt by omega) (show a2.toInt ≤ 4095 by omega) (show 0 ≤ a3.toInt by omega) (show a3.toInt ≤ 9 by omega) (show 1 ≤ x107.toInt by omega) (show x107.toInt ≤ 1023 by omega) (show 1 ≤ v8_4.toInt by omega) (show v8_4.toInt ≤ 1023 by omega) (show 0 ≤ v25_7.toInt by omega) (show v25_7.toInt ≤ 11 by omega) (show 1 ≤ x45.toInt by omega) (show x45.toInt ≤ 12 by omega) (show v8_4.toInt ≤ x107.toInt + 0 by omega)  hw hT hF c106 (lv_sub hl [3, 4, 5, 6, 1, 7, 0, 8] rfl)
                · refine lv_if_eq (tgt := 100) hx hb dX12_comesTo_82 (by decide) (fun c => absurd c (by decide)) (fun _ => ?_)
                  refine lv_iconst (v := 1) hx hb dX12_comesTo_85 (by decide) ?_
                  refine lv_aload_n hx hb dX12_comesTo_86 rfl (lv_at hl 1 rfl) ?_
                  refine lv_iload hx hb dX12_comesTo_87 (lv_at hl 8 rfl) ?_
                  refine lv_iconst (v := 1) hx hb dX12_comesTo_89 (by decide) ?_
                  refine lv_iload hx hb dX12_comesTo_90 (lv_at hl 0 rfl) ?_
                  refine lv_isub hx hb dX12_comesTo_92 ?_
                  refine wk_top 0 (by decide) ?_
                  refine tk_Vi hC hK hw hT hA hE hSR kM_at0 (by decide) rfl (k_X12_streetOf_2 l adK adV dC dI cy ad B (by omega) (by omega) qr s1   v25_7 (show 0 ≤ v25_7.toInt by omega) (show v25_7.toInt ≤ 11 by omega) w103 H.size hT ) (cwV 2 hC.2.2.2.2 gX12_comesTo_X12_streetOf rfl rfl rfl (by decide +kernel) ⟨Nat.le_of_ble_eq_true rfl, Nat.le_of_ble_eq_true rfl⟩) rfl hl.1 rfl (Nat.le_of_ble_eq_true rfl) dX12_comesTo_93 (fun r110 w112 H locs hp111 hw => ?_)
                  obtain ⟨hT, k113, hg116⟩ := hp111
                  have hF := hF.tr k113 (by decide)
                  have c117 := k113.gi kM_at12 (by decide) c106
                  obtain ⟨g114, g115⟩ := hg116
                  refine lv_ishl hx hb dX12_comesTo_96 ?_
                  refine lv_topi (fun x118 ex118 => ?_)
                  have bx118 : 1 ≤ x118.toInt ∧ x118.toInt ≤ 512 := by rw [ex118]; exact wk_shl1 9 (by decide) (by omega) (by omega)
                  refine lv_goto (tgt := 101) hx hb dX12_comesTo_97 (by decide) ?_
                  refine lv_ior hx hb dX12_comesTo_101 ?_
                  refine lv_topi (fun x119 ex119 => ?_)
                  have bx119 : 0 ≤ x119.toInt ∧ x119.toInt < 1024 := by rw [ex119]; exact wk_or 10 (by decide) (by omega) (by omega) (by omega) (by omega)
                  have mx119 : v25_4.toInt ≤ x119.toInt ∧ x118.toInt ≤ x119.toInt := by rw [ex119]; exact wk_orL 10 (by decide) (by omega) (by omega) (by omega) (by omega)
                  refine lv_istore (lv' := [(4, .int x119), (8, .int 1), (0, .ref (ad 0)), (1, .int a1), (2, .int a2), (3, .int a3), (5, .int v8_4), (6, .int v25_6), (7, .int v25_7)]) hx hb dX12_comesTo_102 hl (by decide) rfl (fun ls hl => ?_)
                  have nx121 := wk_i32 v25_6
                  obtain ⟨x120, ex120⟩ : ∃ y : Int32, y = v25_6 + Int32.ofInt 1 := ⟨_, rfl⟩
                  refine lv_iinc (v := x120) (lv' := [(6, .int x120), (4, .int x119), (8, .int 1), (0, .ref (ad 0)), (1, .int a1), (2, .int a2), (3, .int a3), (5, .int v8_4), (7, .int v25_7)]) hx hb dX12_comesTo_104 hl (k := 7) rfl ex120.symm (by decide) rfl (fun ls hl => ?_)
                  exact J107 x119 x120 x45 H locs ls w112 (show 0 ≤ a1.toInt by omega) (show a1.toInt ≤ 6 by omega) (show 0 ≤ a2.toInt by omega) (show a2.toInt ≤ 4095 by omega) (show 0 ≤ a3.toInt by omega) (show a3.toInt ≤ 9 by omega) (show 1 ≤ x119.toInt by omega) (show x119.toInt ≤ 1023 by omega) (show 1 ≤ v8_4.toInt by omega) (show v8_4.toInt ≤ 1023 by omega) (show 0 ≤ v25_7.toInt by omega) (show v25_7.toInt ≤ 11 by omega) (show 1 ≤ x45.toInt by omega) (show x45.toInt ≤ 12 by omega) (show v8_4.toInt ≤ x119.toInt + 0 by omega)  hw hT hF c117 (lv_sub hl [3, 4, 5, 6, 1, 7, 0, 8] rfl)
            · have c57 : r49.toInt = (0 : Int) := wk_eq.mp c57
              refine lv_goto (tgt := 107) hx hb dX12_comesTo_48 (by decide) ?_
              exact J107 v25_4 v25_6 x45 H locs ls w51 (show 0 ≤ a1.toInt by omega) (show a1.toInt ≤ 6 by omega) (show 0 ≤ a2.toInt by omega) (show a2.toInt ≤ 4095 by omega) (show 0 ≤ a3.toInt by omega) (show a3.toInt ≤ 9 by omega) (show 1 ≤ v25_4.toInt by omega) (show v25_4.toInt ≤ 1023 by omega) (show 1 ≤ v8_4.toInt by omega) (show v8_4.toInt ≤ 1023 by omega) (show 0 ≤ v25_7.toInt by omega) (show v25_7.toInt ≤ 11 by omega) (show 1 ≤ x45.toInt by omega) (show x45.toInt ≤ 12 by omega) (show v8_4.toInt ≤ v25_4.toInt + 0 by omega)  hw hT hF c56 (lv_sub hl [0, 1, 2, 3, 4, 5, 6, 7] rfl)
      refine lv_iload hx hb dX12_comesTo_8 (lv_at hl 4 rfl) ?_
      refine lv_iload hx hb dX12_comesTo_10 (lv_at hl 5 rfl) ?_
      refine lv_icmp_eq (tgt := 116) hx hb dX12_comesTo_12 (by decide) (fun c122 => ?_) (fun c122 => ?_)
      · have c122 : v8_4.toInt = v8_5.toInt := wk_eq.mp c122
        refine lv_iload hx hb dX12_comesTo_116 (lv_at hl 4 rfl) ?_
        exact tk_iret hC hr hlocks hK ⟨hT, hF, ⟨(show 1 ≤ v8_4.toInt by omega), (show v8_4.toInt ≤ 1023 by omega)⟩⟩ hw dX12_comesTo_118
      · have c122 : ¬ v8_4.toInt = v8_5.toInt := wk_eqF c122
        refine lv_iload hx hb dX12_comesTo_15 (lv_at hl 4 rfl) ?_
        refine lv_istore (lv' := [(5, .int v8_4), (0, .ref (ad 0)), (1, .int a1), (2, .int a2), (3, .int a3), (4, .int v8_4)]) hx hb dX12_comesTo_17 hl (by decide) rfl (fun ls hl => ?_)
        refine lv_iconst (v := 0) hx hb dX12_comesTo_19 (by decide) ?_
        refine lv_istore (lv' := [(6, .int 0), (5, .int v8_4), (0, .ref (ad 0)), (1, .int a1), (2, .int a2), (3, .int a3), (4, .int v8_4)]) hx hb dX12_comesTo_20 hl (by decide) rfl (fun ls hl => ?_)
        refine lv_iconst (v := 0) hx hb dX12_comesTo_22 (by decide) ?_
        refine lv_istore (lv' := [(7, .int 0), (6, .int 0), (5, .int v8_4), (0, .ref (ad 0)), (1, .int a1), (2, .int a2), (3, .int a3), (4, .int v8_4)]) hx hb dX12_comesTo_23 hl (by decide) rfl (fun ls hl => ?_)
        exact L25 ((12 - (0 : Int)).toNat + 1) v8_4 0 0 H locs ls w1 (show 0 ≤ a1.toInt by omega) (show a1.toInt ≤ 6 by omega) (show 0 ≤ a2.toInt by omega) (show a2.toInt ≤ 4095 by omega) (show 0 ≤ a3.toInt by omega) (show a3.toInt ≤ 9 by omega) (show 1 ≤ v8_4.toInt by omega) (show v8_4.toInt ≤ 1023 by omega) (show 1 ≤ v8_4.toInt by omega) (show v8_4.toInt ≤ 1023 by omega) (by decide) (by decide) (show v8_4.toInt ≤ v8_4.toInt + 0 by omega) (Nat.lt_succ_self _) hw hT hF  (lv_sub hl [3, 4, 5, 6, 7, 2, 1, 0] rfl)
  refine lv_iconst (v := 1) hx hb dX12_comesTo_0 (by decide) ?_
  refine lv_iload_n hx hb dX12_comesTo_1 rfl (lv_at hl 3 rfl) ?_
  refine lv_ishl hx hb dX12_comesTo_2 ?_
  refine lv_topi (fun x123 ex123 => ?_)
  have bx123 : 1 ≤ x123.toInt ∧ x123.toInt ≤ 512 := by rw [ex123]; exact wk_shl1 9 (by decide) (by omega) (by omega)
  refine lv_istore (lv' := [(4, .int x123), (0, .ref (ad 0)), (1, .int a1), (2, .int a2), (3, .int a3)]) hx hb dX12_comesTo_3 hl (by decide) rfl (fun ls hl => ?_)
  refine lv_iconst (v := 0) hx hb dX12_comesTo_5 (by decide) ?_
  refine lv_istore (lv' := [(5, .int 0), (4, .int x123), (0, .ref (ad 0)), (1, .int a1), (2, .int a2), (3, .int a3)]) hx hb dX12_comesTo_6 hl (by decide) rfl (fun ls hl => ?_)
  exact L8 ((1023 - (0 : Int)).toNat + 1) x123 0 s.heap locs ls w0 (show 0 ≤ a1.toInt by omega) (show a1.toInt ≤ 6 by omega) (show 0 ≤ a2.toInt by omega) (show a2.toInt ≤ 4095 by omega) (show 0 ≤ a3.toInt by omega) (show a3.toInt ≤ 9 by omega) (show 1 ≤ x123.toInt by omega) (show x123.toInt ≤ 1023 by omega) (by decide) (by decide) (show (0 : Int) ≤ x123.toInt + 0 by omega) (Nat.lt_succ_self _) hw hT hF  (lv_sub hl [2, 3, 4, 5, 1, 0] rfl)
abbrev P_X12_doneBy_1 (ad : Nat → Nat) (cy : Nat → ClassId) (B : Int) (qr : Nat) (s1 : Int) (a1 : Int32) (a2 : Int32) (w0 : va_W) : Int32 → va_W → Prop := fun r u => TW ksM ad cy B qr 12 u ∧ FE ksM ([] : List (Nat × Nat × Nat)) w0 u ∧ ((0 ≤ r.toInt ∧ r.toInt ≤ 63))
set_option maxHeartbeats 4000000 in
set_option maxRecDepth 100000 in
theorem k_X12_doneBy_1 (l : Launch) (adK adV : Nat → Nat) (dC : Nat → ClassId) (dI : Nat → Nat → Nat) (cy : Nat → ClassId) (ad : Nat → Nat) (B : Int) (hB0 : 100000 ≤ B) (hB1 : B ≤ 1073741824) (qr : Nat) (s1 : Int)  (a1 : Int32) (ra1 : 0 ≤ a1.toInt) (ta1 : a1.toInt ≤ 6) (a2 : Int32) (ra2 : 0 ≤ a2.toInt) (ta2 : a2.toInt ≤ 4095) (w0 : va_W) (sz : Nat) (hT : TW ksM ad cy B qr 12 w0)  : Met l yX12_doneBy wsX12_doneBy ({ frames := 3, cells := 0, slots := 0, locals := 62 }) (va_Pc [.ref (ad 0), .int a1, .int a2] (wpreS adK adV dC dI cy sz w0)) (va_Qi (P_X12_doneBy_1 ad cy B qr s1 a1 a2 w0) (fun u : va_W => wpost dC dI cy (va_A w0 sz) u) (va_A w0 sz)) 0 0 (va_A w0 sz) := by
  refine Met.ofW (cc := cX12_doneBy) (maxL := 5) (ret := (some .int)) (by decide) rfl ?_
  intro p e s m args below meth c s₁ Bk hml hv
  obtain ⟨rfl, ⟨hsz, hP, hK, hD0⟩, hE, hSR⟩ := hv
  have hx := Bk.exec
  have hb := Bk.bytes
  have hr := Bk.returns
  have hlocks := Bk.notSynchronized
  have hC : CallFix p m c cX12_doneBy 5 s _ wsX12_doneBy RX12 := ⟨hx, hb, hml, findClass_of_methodNamed Bk.named, atoms_spec (ws := wsX12_doneBy) Bk.pre⟩
  subst hsz
  have hD := hD0.self (sz := s.heap.size)
  generalize hAe : va_A w0 s.heap.size = A at hD hE ⊢
  have hA : ∀ q : Nat, s.heap.size ≤ q → A q := fun q h => by rw [← hAe]; exact Or.inr h
  have hw : Wd dC dI A s.heap s.heap [] w0 := ⟨hP, hD, va_S.rf⟩
  have hF : FE ksM ([] : List (Nat × Nat × Nat)) w0 w0 := FE.rf
  have hl := lv_entry ([.ref (ad 0), .int a1, .int a2]) (n := 5) (Nat.le_of_ble_eq_true rfl)
  rw [lg_entry_eq]
  generalize (lg_sl ([.ref (ad 0), .int a1, .int a2]) ++ List.replicate (5 - (lg_sl ([.ref (ad 0), .int a1, .int a2])).length) Slot.unset).toArray = ls at hl ⊢
  have hl : lv_has ls 5 [(0, .ref (ad 0)), (1, .int a1), (2, .int a2)] := hl
  generalize hloc : ([] : List Loc) = locs at hw ⊢
  have hinX12 : ∀ w ∈ u_ws RX12 TX12 42, w ∈ wsX12_doneBy := fun _ h => List.mem_cons_of_mem _ (List.mem_append_right _ (h))
  have L5 : ∀ (n5 : Nat) (v5_3 : Int32) (v5_4 : Int32) (H : Heap) (locs : List Loc) (ls : Array Slot) (w1 : va_W), 0 ≤ a1.toInt → a1.toInt ≤ 6 → 0 ≤ a2.toInt → a2.toInt ≤ 4095 → 0 ≤ v5_3.toInt → v5_3.toInt ≤ 63 → 0 ≤ v5_4.toInt → v5_4.toInt ≤ 6 → (6 - v5_4.toInt).toNat < n5 → Wd dC dI A s.heap H locs w1 → TW ksM ad cy B qr 12 w1 → FE ksM ([] : List (Nat × Nat × Nat)) w0 w1 → lv_has ls 5 [(0, .ref (ad 0)), (1, .int a1), (2, .int a2), (3, .int v5_3), (4, .int v5_4)] → W p l e ({ frames := 3, cells := 0, slots := 0, locals := 62 }) s m (List.toArray [.ref (ad 0), .int a1, .int a2]) below meth c H locs 0 0 (MQ below (va_Qi (P_X12_doneBy_1 ad cy B qr s1 a1 a2 w0) (fun u : va_W => wpost dC dI cy A u) A) (List.toArray [.ref (ad 0), .int a1, .int a2]) s 0 0 A) (F0 m 5 ls []) := by
    intro n5
    induction n5 with
    | zero => intro v5_3 v5_4 H locs ls w1 r2 t3 r4 t5 r6 t7 r8 t9 hm5 hw hT hF hl; omega
    | succ n5 ih5 =>
      intro v5_3 v5_4 H locs ls w1 r2 t3 r4 t5 r6 t7 r8 t9 hm5 hw hT hF hl
      refine lv_iload hx hb dX12_doneBy_5 (lv_at hl 4 rfl) ?_
      refine lv_aload_n hx hb dX12_doneBy_7 rfl (lv_at hl 0 rfl) ?_
      refine tk_getA hC hK hw hT hinX12 kM_at0 (by decide) rfl 26 (by decide) (List.mem_of_getElem? (i := 1) rfl) rfl rfl dX12_doneBy_8 ?_
      refine lv_bipush (v := 6) hx hb dX12_doneBy_11 (by decide) ?_
      refine tk_ialdR hC hK hw hT kM_at12 rfl (by decide) (by decide) dX12_doneBy_13 (fun x10 c11 Ex10 => ?_)
      have bx10 := tk_rgI rfl 6 1 1 0 6 (by decide +kernel) ⟨0, by decide, by decide⟩ Ex10
      have c11 : gi w1 12 6 = x10 := c11
      refine lv_icmp_ge (tgt := 74) hx hb dX12_doneBy_14 (by decide) (fun c12 => ?_) (fun c12 => ?_)
      · have c12 : x10.toInt ≤ v5_4.toInt := wk_le.mp c12
        refine lv_iload_n hx hb dX12_doneBy_74 rfl (lv_at hl 3 rfl) ?_
        exact tk_iret hC hr hlocks hK ⟨hT, hF, ⟨(show 0 ≤ v5_3.toInt by omega), (show v5_3.toInt ≤ 63 by omega)⟩⟩ hw dX12_doneBy_75
      · have c12 : v5_4.toInt < x10.toInt := wk_leF c12
        refine lv_iload_n hx hb dX12_doneBy_17 rfl (lv_at hl 3 rfl) ?_
        refine lv_aload_n hx hb dX12_doneBy_18 rfl (lv_at hl 0 rfl) ?_
        refine lv_iload_n hx hb dX12_doneBy_19 rfl (lv_at hl 1 rfl) ?_
        refine lv_iload_n hx hb dX12_doneBy_20 rfl (lv_at hl 2 rfl) ?_
        refine lv_aload_n hx hb dX12_doneBy_21 rfl (lv_at hl 0 rfl) ?_
        refine tk_getA hC hK hw hT hinX12 kM_at0 (by decide) rfl 26 (by decide) (List.mem_of_getElem? (i := 1) rfl) rfl rfl dX12_doneBy_22 ?_
        refine lv_sipush (v := 252) hx hb dX12_doneBy_25 (by decide) ?_
        refine lv_iconst (v := 2) hx hb dX12_doneBy_28 (by decide) ?_
        refine lv_iload hx hb dX12_doneBy_29 (lv_at hl 4 rfl) ?_
        refine lv_imul hx hb dX12_doneBy_31 ?_
        refine lv_topi (fun x13 ex13 => ?_)
        have ex13 : x13.toInt = (2 : Int) * v5_4.toInt := by rw [ex13]; exact wk_mul (show (-2147483648) ≤ (2 : Int) * v5_4.toInt by omega) (show (2 : Int) * v5_4.toInt ≤ 2147483647 by omega)
        refine lv_iadd hx hb dX12_doneBy_32 ?_
        refine lv_topi (fun x14 ex14 => ?_)
        have ex14 : x14.toInt = (252 : Int) + x13.toInt := by rw [ex14]; exact wk_add (show (-2147483648) ≤ (252 : Int) + x13.toInt by omega) (show (252 : Int) + x13.toInt ≤ 2147483647 by omega)
        refine tk_ialdR hC hK hw hT kM_at12 rfl (show 0 ≤ x14.toInt by omega) (show x14.toInt < 296 by omega) dX12_doneBy_33 (fun x15 c16 Ex15 => ?_)
        have bx15 := tk_rgI rfl 252 2 6 0 9 (by decide +kernel) ⟨(v5_4.toInt - 0).toNat, by omega, show x14.toInt.toNat = 252 + 2 * (v5_4.toInt - 0).toNat by omega⟩ Ex15
        refine tk_Vi hC hK hw hT hA hE hSR kM_at0 (by decide) rfl (k_X12_comesTo_1 l adK adV dC dI cy ad B (by omega) (by omega) qr s1   a1 (show 0 ≤ a1.toInt by omega) (show a1.toInt ≤ 6 by omega) a2 (show 0 ≤ a2.toInt by omega) (show a2.toInt ≤ 4095 by omega) x15 (show 0 ≤ x15.toInt by omega) (show x15.toInt ≤ 9 by omega) w1 H.size hT ) (cwV 3 hC.2.2.2.2 gX12_doneBy_X12_comesTo rfl rfl rfl (by decide +kernel) ⟨Nat.le_of_ble_eq_true rfl, Nat.le_of_ble_eq_true rfl⟩) rfl hl.1 rfl (Nat.le_of_ble_eq_true rfl) dX12_doneBy_34 (fun r17 w19 H locs hp18 hw => ?_)
        obtain ⟨hT, k20, hg23⟩ := hp18
        have hF := hF.tr k20 (by decide)
        have c24 := k20.gi kM_at12 (by decide) c11
        obtain ⟨g21, g22⟩ := hg23
        refine lv_aload_n hx hb dX12_doneBy_37 rfl (lv_at hl 0 rfl) ?_
        refine tk_getA hC hK hw hT hinX12 kM_at0 (by decide) rfl 26 (by decide) (List.mem_of_getElem? (i := 1) rfl) rfl rfl dX12_doneBy_38 ?_
        refine lv_sipush (v := 252) hx hb dX12_doneBy_41 (by decide) ?_
        refine lv_iconst (v := 2) hx hb dX12_doneBy_44 (by decide) ?_
        refine lv_iload hx hb dX12_doneBy_45 (lv_at hl 4 rfl) ?_
        refine lv_imul hx hb dX12_doneBy_47 ?_
        refine lv_topi (fun x25 ex25 => ?_)
        have ex25 : x25.toInt = (2 : Int) * v5_4.toInt := by rw [ex25]; exact wk_mul (show (-2147483648) ≤ (2 : Int) * v5_4.toInt by omega) (show (2 : Int) * v5_4.toInt ≤ 2147483647 by omega)
        refine lv_iadd hx hb dX12_doneBy_48 ?_
        refine lv_topi (fun x26 ex26 => ?_)
        have ex26 : x26.toInt = (252 : Int) + x25.toInt := by rw [ex26]; exact wk_add (show (-2147483648) ≤ (252 : Int) + x25.toInt by omega) (show (252 : Int) + x25.toInt ≤ 2147483647 by omega)
        refine lv_iconst (v := 1) hx hb dX12_doneBy_49 (by decide) ?_
        refine lv_iadd hx hb dX12_doneBy_50 ?_
        refine lv_topi (fun x27 ex27 => ?_)
        have ex27 : x27.toInt = x26.toInt + (1 : Int) := by rw [ex27]; exact wk_add (show (-2147483648) ≤ x26.toInt + (1 : Int) by omega) (show x26.toInt + (1 : Int) ≤ 2147483647 by omega)
        refine tk_ialdR hC hK hw hT kM_at12 rfl (show 0 ≤ x27.toInt by omega) (show x27.toInt < 296 by omega) dX12_doneBy_51 (fun x28 c29 Ex28 => ?_)
        have bx28 := tk_rgI rfl 253 2 6 0 9 (by decide +kernel) ⟨(v5_4.toInt - 0).toNat, by omega, show x27.toInt.toNat = 253 + 2 * (v5_4.toInt - 0).toNat by omega⟩ Ex28
        refine tk_Si hC hK hw hT hA hE hSR (k_X12_isOf_4 l adK adV dC dI cy ad B (by omega) (by omega) qr s1   r17 (show 1 ≤ r17.toInt by omega) (show r17.toInt ≤ 1023 by omega) x28 (show 0 ≤ x28.toInt by omega) (show x28.toInt ≤ 9 by omega) w19 H.size hT ) (va_cwS 2 hC.2.2.2.2 gX12_doneBy_X12_isOf rfl rfl rfl (by decide +kernel) ⟨Nat.le_of_ble_eq_true rfl, Nat.le_of_ble_eq_true rfl⟩) rfl hl.1 rfl (Nat.le_of_ble_eq_true rfl) dX12_doneBy_52 (fun r30 w32 H locs hp31 hw => ?_)
        obtain ⟨hT, k33, hg34⟩ := hp31
        have hF := hF.tr k33 (by decide)
        have c35 := k33.gi kM_at12 (by decide) c24
        rcases hg34 with rfl | rfl
        · refine lv_if_eq (tgt := 65) hx hb dX12_doneBy_55 (by decide) (fun _ => ?_) (fun c => absurd (by decide) c)
          refine lv_iconst (v := 0) hx hb dX12_doneBy_65 (by decide) ?_
          refine lv_ior hx hb dX12_doneBy_66 ?_
          refine lv_topi (fun x36 ex36 => ?_)
          have bx36 : 0 ≤ x36.toInt ∧ x36.toInt < 64 := by rw [ex36]; exact wk_or 6 (by decide) (by omega) (by omega) (by decide) (by decide)
          have mx36 : v5_3.toInt ≤ x36.toInt ∧ (0 : Int) ≤ x36.toInt := by rw [ex36]; exact wk_orL 6 (by decide) (by omega) (by omega) (by decide) (by decide)
          refine lv_istore_n (lv' := [(3, .int x36), (0, .ref (ad 0)), (1, .int a1), (2, .int a2), (4, .int v5_4)]) hx hb dX12_doneBy_67 rfl hl (by decide) rfl (fun ls hl => ?_)
          obtain ⟨x37, ex37⟩ : ∃ y : Int32, y = v5_4 + Int32.ofInt 1 := ⟨_, rfl⟩
          refine lv_iinc (v := x37) (lv' := [(4, .int x37), (3, .int x36), (0, .ref (ad 0)), (1, .int a1), (2, .int a2)]) hx hb dX12_doneBy_68 hl (k := 4) rfl ex37.symm (by decide) rfl (fun ls hl => ?_)
          have ex37 : x37.toInt = v5_4.toInt + 1 := by rw [ex37]; exact wk_add (y := 1) (show -2147483648 ≤ v5_4.toInt + 1 by omega) (show v5_4.toInt + 1 ≤ 2147483647 by omega)
          refine lv_goto (tgt := 5) hx hb dX12_doneBy_71 (by decide) ?_
          exact ih5 x36 x37 H locs ls w32 (show 0 ≤ a1.toInt by omega) (show a1.toInt ≤ 6 by omega) (show 0 ≤ a2.toInt by omega) (show a2.toInt ≤ 4095 by omega) (show 0 ≤ x36.toInt by omega) (show x36.toInt ≤ 63 by omega) (show 0 ≤ x37.toInt by omega) (show x37.toInt ≤ 6 by omega) (show (6 - x37.toInt).toNat < n5 by omega) hw hT hF  (lv_sub hl [2, 3, 4, 1, 0] rfl)
        · refine lv_if_eq (tgt := 65) hx hb dX12_doneBy_55 (by decide) (fun c => absurd c (by decide)) (fun _ => ?_)
          refine lv_iconst (v := 1) hx hb dX12_doneBy_58 (by decide) ?_
          refine lv_iload hx hb dX12_doneBy_59 (lv_at hl 4 rfl) ?_
          refine lv_ishl hx hb dX12_doneBy_61 ?_
          refine lv_topi (fun x38 ex38 => ?_)
          have bx38 : 1 ≤ x38.toInt ∧ x38.toInt ≤ 32 := by rw [ex38]; exact wk_shl1 5 (by decide) (by omega) (by omega)
          refine lv_goto (tgt := 66) hx hb dX12_doneBy_62 (by decide) ?_
          refine lv_ior hx hb dX12_doneBy_66 ?_
          refine lv_topi (fun x39 ex39 => ?_)
          have bx39 : 0 ≤ x39.toInt ∧ x39.toInt < 64 := by rw [ex39]; exact wk_or 6 (by decide) (by omega) (by omega) (by omega) (by omega)
          have mx39 : v5_3.toInt ≤ x39.toInt ∧ x38.toInt ≤ x39.toInt := by rw [ex39]; exact wk_orL 6 (by decide) (by omega) (by omega) (by omega) (by omega)
          refine lv_istore_n (lv' := [(3, .int x39), (0, .ref (ad 0)), (1, .int a1), (2, .int a2), (4, .int v5_4)]) hx hb dX12_doneBy_67 rfl hl (by decide) rfl (fun ls hl => ?_)
          obtain ⟨x40, ex40⟩ : ∃ y : Int32, y = v5_4 + Int32.ofInt 1 := ⟨_, rfl⟩
          refine lv_iinc (v := x40) (lv' := [(4, .int x40), (3, .int x39), (0, .ref (ad 0)), (1, .int a1), (2, .int a2)]) hx hb dX12_doneBy_68 hl (k := 4) rfl ex40.symm (by decide) rfl (fun ls hl => ?_)
          have ex40 : x40.toInt = v5_4.toInt + 1 := by rw [ex40]; exact wk_add (y := 1) (show -2147483648 ≤ v5_4.toInt + 1 by omega) (show v5_4.toInt + 1 ≤ 2147483647 by omega)
          refine lv_goto (tgt := 5) hx hb dX12_doneBy_71 (by decide) ?_
          exact ih5 x39 x40 H locs ls w32 (show 0 ≤ a1.toInt by omega) (show a1.toInt ≤ 6 by omega) (show 0 ≤ a2.toInt by omega) (show a2.toInt ≤ 4095 by omega) (show 0 ≤ x39.toInt by omega) (show x39.toInt ≤ 63 by omega) (show 0 ≤ x40.toInt by omega) (show x40.toInt ≤ 6 by omega) (show (6 - x40.toInt).toNat < n5 by omega) hw hT hF  (lv_sub hl [2, 3, 4, 1, 0] rfl)
  refine lv_iconst (v := 0) hx hb dX12_doneBy_0 (by decide) ?_
  refine lv_istore_n (lv' := [(3, .int 0), (0, .ref (ad 0)), (1, .int a1), (2, .int a2)]) hx hb dX12_doneBy_1 rfl hl (by decide) rfl (fun ls hl => ?_)
  refine lv_iconst (v := 0) hx hb dX12_doneBy_2 (by decide) ?_
  refine lv_istore (lv' := [(4, .int 0), (3, .int 0), (0, .ref (ad 0)), (1, .int a1), (2, .int a2)]) hx hb dX12_doneBy_3 hl (by decide) rfl (fun ls hl => ?_)
  exact L5 ((6 - (0 : Int)).toNat + 1) 0 0 s.heap locs ls w0 (show 0 ≤ a1.toInt by omega) (show a1.toInt ≤ 6 by omega) (show 0 ≤ a2.toInt by omega) (show a2.toInt ≤ 4095 by omega) (by decide) (by decide) (by decide) (by decide) (Nat.lt_succ_self _) hw hT hF  (lv_sub hl [2, 3, 4, 1, 0] rfl)
abbrev P_X12_in_13 (ad : Nat → Nat) (cy : Nat → ClassId) (B : Int) (qr : Nat) (s1 : Int) (a0 : Int64) (w0 : va_W) : Int32 → va_W → Prop := fun r u => TW ksM ad cy B qr 12 u ∧ FE ksM ([] : List (Nat × Nat × Nat)) w0 u ∧ ((r = 0) ∨ (r = 1 ∧ 0 ≤ a0.toInt ∧ a0.toInt ≤ 1))
set_option maxHeartbeats 4000000 in
set_option maxRecDepth 100000 in
theorem k_X12_in_13 (l : Launch) (adK adV : Nat → Nat) (dC : Nat → ClassId) (dI : Nat → Nat → Nat) (cy : Nat → ClassId) (ad : Nat → Nat) (B : Int) (hB0 : 100000 ≤ B) (hB1 : B ≤ 1073741824) (qr : Nat) (s1 : Int)  (a0 : Int64) (ra0 : (-2147483648) ≤ a0.toInt) (ta0 : a0.toInt ≤ 2147483647) (w0 : va_W) (sz : Nat) (hT : TW ksM ad cy B qr 12 w0)  : Met l yX12_in wsX12_in ({ frames := 1, cells := 0, slots := 0, locals := 12 }) (va_Pc [.long a0, .long 0, .long 1] (wpreS adK adV dC dI cy sz w0)) (va_Qi (P_X12_in_13 ad cy B qr s1 a0 w0) (fun u : va_W => wpost dC dI cy (va_A w0 sz) u) (va_A w0 sz)) 0 0 (va_A w0 sz) := by
  refine Met.ofW (cc := cX12_in) (maxL := 6) (ret := (some .boolean)) (by decide) rfl ?_
  intro p e s m args below meth c s₁ Bk hml hv
  obtain ⟨rfl, ⟨hsz, hP, hK, hD0⟩, hE, hSR⟩ := hv
  have hx := Bk.exec
  have hb := Bk.bytes
  have hr := Bk.returns
  have hlocks := Bk.notSynchronized
  have hC : CallFix p m c cX12_in 6 s _ wsX12_in RX12 := ⟨hx, hb, hml, findClass_of_methodNamed Bk.named, atoms_spec (ws := wsX12_in) Bk.pre⟩
  subst hsz
  have hD := hD0.self (sz := s.heap.size)
  generalize hAe : va_A w0 s.heap.size = A at hD hE ⊢
  have hA : ∀ q : Nat, s.heap.size ≤ q → A q := fun q h => by rw [← hAe]; exact Or.inr h
  have hw : Wd dC dI A s.heap s.heap [] w0 := ⟨hP, hD, va_S.rf⟩
  have hF : FE ksM ([] : List (Nat × Nat × Nat)) w0 w0 := FE.rf
  have hl := lv_entry ([.long a0, .long 0, .long 1]) (n := 6) (Nat.le_of_ble_eq_true rfl)
  rw [lg_entry_eq]
  generalize (lg_sl ([.long a0, .long 0, .long 1]) ++ List.replicate (6 - (lg_sl ([.long a0, .long 0, .long 1])).length) Slot.unset).toArray = ls at hl ⊢
  have hl : lv_has ls 6 [(0, .long a0), (2, .long 0), (4, .long 1)] := hl
  generalize hloc : ([] : List Loc) = locs at hw ⊢
  have J17 : ∀ (H : Heap) (locs : List Loc) (ls : Array Slot) (w1 : va_W), (-2147483648) ≤ a0.toInt → a0.toInt ≤ 2147483647 → Wd dC dI A s.heap H locs w1 → TW ksM ad cy B qr 12 w1 → FE ksM ([] : List (Nat × Nat × Nat)) w0 w1 → lv_has ls 6 [(0, .long a0), (2, .long 0), (4, .long 1)] → W p l e ({ frames := 1, cells := 0, slots := 0, locals := 12 }) s m (List.toArray [.long a0, .long 0, .long 1]) below meth c H locs 0 0 (MQ below (va_Qi (P_X12_in_13 ad cy B qr s1 a0 w0) (fun u : va_W => wpost dC dI cy A u) A) (List.toArray [.long a0, .long 0, .long 1]) s 0 0 A) (F0 m 17 ls []) := by
    intro H locs ls w1 r2 t3 hw hT hF hl
    refine lv_iconst (v := 0) hx hb dX12_in_17 (by decide) ?_
    exact tk_zret hC hr rfl hlocks hK ⟨hT, hF, (Or.inl rfl)⟩ hw dX12_in_18
  refine lv_lload_n hx hb dX12_in_0 rfl (lv_at hl 0 rfl) ?_
  refine lv_lload_n hx hb dX12_in_1 rfl (lv_at hl 1 rfl) ?_
  refine W.lcmp hx hb dX12_in_2 ?_
  refine lv_if_lt (tgt := 17) hx hb dX12_in_3 (by decide) (fun c4 => ?_) (fun c4 => ?_)
  · have c4 : a0.toInt < (0 : Int) := wk_cltT c4
    exact J17  s.heap locs ls w0 (show (-2147483648) ≤ a0.toInt by omega) (show a0.toInt ≤ 2147483647 by omega)  hw hT hF  (lv_sub hl [0, 1, 2] rfl)
  · have c4 : (0 : Int) ≤ a0.toInt := wk_cltF c4
    refine lv_lload_n hx hb dX12_in_6 rfl (lv_at hl 0 rfl) ?_
    refine lv_lload hx hb dX12_in_7 (lv_at hl 2 rfl) ?_
    refine W.lcmp hx hb dX12_in_9 ?_
    refine lv_if_gt (tgt := 17) hx hb dX12_in_10 (by decide) (fun c5 => ?_) (fun c5 => ?_)
    · have c5 : (1 : Int) < a0.toInt := wk_cgtT c5
      exact J17  s.heap locs ls w0 (show (-2147483648) ≤ a0.toInt by omega) (show a0.toInt ≤ 2147483647 by omega)  hw hT hF  (lv_sub hl [0, 1, 2] rfl)
    · have c5 : a0.toInt ≤ (1 : Int) := wk_cgtF c5
      refine lv_iconst (v := 1) hx hb dX12_in_13 (by decide) ?_
      refine lv_goto (tgt := 18) hx hb dX12_in_14 (by decide) ?_
      exact tk_zret hC hr rfl hlocks hK ⟨hT, hF, (Or.inr ⟨rfl, (show 0 ≤ a0.toInt by omega), (show a0.toInt ≤ 1 by omega)⟩)⟩ hw dX12_in_18
abbrev P_X12_ways_1 (ad : Nat → Nat) (cy : Nat → ClassId) (B : Int) (qr : Nat) (s1 : Int) (a1 : Int32) (a2 : Int32) (w0 : va_W) : Int32 → va_W → Prop := fun r u => TW ksM ad cy B qr 12 u ∧ FE ksM [(79, 0, 64)] w0 u ∧ ((r = (-2) ∧ 0 ≤ a1.toInt ∧ a1.toInt ≤ 6 ∧ 0 ≤ a2.toInt ∧ a2.toInt ≤ 0 ∧ (∃ y : Int32, gi u 12 0 = y ∧ 1 ≤ y.toInt ∧ y.toInt ≤ 10)) ∨ (0 ≤ r.toInt ∧ r.toInt ≤ 4095 ∧ 0 ≤ a1.toInt ∧ a1.toInt ≤ 6 ∧ (∃ y : Int32, gi u 12 0 = y ∧ 1 ≤ y.toInt ∧ y.toInt ≤ 10)) ∨ (r = (-1)))
set_option maxHeartbeats 4000000 in
set_option maxRecDepth 100000 in
theorem k_X12_ways_1 (l : Launch) (adK adV : Nat → Nat) (dC : Nat → ClassId) (dI : Nat → Nat → Nat) (cy : Nat → ClassId) (ad : Nat → Nat) (B : Int) (hB0 : 100000 ≤ B) (hB1 : B ≤ 1073741824) (qr : Nat) (s1 : Int)  (a1 : Int32) (a2 : Int32) (w0 : va_W) (sz : Nat) (hT : TW ksM ad cy B qr 12 w0)  : Met l yX12_ways wsX12_ways ({ frames := 4, cells := 0, slots := 0, locals := 86 }) (va_Pc [.ref (ad 0), .int a1, .int a2] (wpreS adK adV dC dI cy sz w0)) (va_Qi (P_X12_ways_1 ad cy B qr s1 a1 a2 w0) (fun u : va_W => wpost dC dI cy (va_A w0 sz) u) (va_A w0 sz)) 0 0 (va_A w0 sz) := by
  refine Met.ofW (cc := cX12_ways) (maxL := 7) (ret := (some .int)) (by decide) rfl ?_
  intro p e s m args below meth c s₁ Bk hml hv
  obtain ⟨rfl, ⟨hsz, hP, hK, hD0⟩, hE, hSR⟩ := hv
  have hx := Bk.exec
  have hb := Bk.bytes
  have hr := Bk.returns
  have hlocks := Bk.notSynchronized
  have hC : CallFix p m c cX12_ways 7 s _ wsX12_ways RX12 := ⟨hx, hb, hml, findClass_of_methodNamed Bk.named, atoms_spec (ws := wsX12_ways) Bk.pre⟩
  subst hsz
  have hD := hD0.self (sz := s.heap.size)
  generalize hAe : va_A w0 s.heap.size = A at hD hE ⊢
  have hA : ∀ q : Nat, s.heap.size ≤ q → A q := fun q h => by rw [← hAe]; exact Or.inr h
  have hw : Wd dC dI A s.heap s.heap [] w0 := ⟨hP, hD, va_S.rf⟩
  have hF : FE ksM [(79, 0, 64)] w0 w0 := FE.rf
  have hl := lv_entry ([.ref (ad 0), .int a1, .int a2]) (n := 7) (Nat.le_of_ble_eq_true rfl)
  rw [lg_entry_eq]
  generalize (lg_sl ([.ref (ad 0), .int a1, .int a2]) ++ List.replicate (7 - (lg_sl ([.ref (ad 0), .int a1, .int a2])).length) Slot.unset).toArray = ls at hl ⊢
  have hl : lv_has ls 7 [(0, .ref (ad 0)), (1, .int a1), (2, .int a2)] := hl
  generalize hloc : ([] : List Loc) = locs at hw ⊢
  have hinX12 : ∀ w ∈ u_ws RX12 TX12 42, w ∈ wsX12_ways := fun _ h => List.mem_cons_of_mem _ (List.mem_append_right _ (h))
  have J29 : ∀ (f29_12_0 : Int32) (H : Heap) (locs : List Loc) (ls : Array Slot) (w1 : va_W), 0 ≤ f29_12_0.toInt → f29_12_0.toInt ≤ 10 → Wd dC dI A s.heap H locs w1 → TW ksM ad cy B qr 12 w1 → FE ksM [(79, 0, 64)] w0 w1 → gi w1 12 0 = f29_12_0 → lv_has ls 7 [(0, .ref (ad 0)), (1, .int a1), (2, .int a2)] → W p l e ({ frames := 4, cells := 0, slots := 0, locals := 86 }) s m (List.toArray [.ref (ad 0), .int a1, .int a2]) below meth c H locs 0 0 (MQ below (va_Qi (P_X12_ways_1 ad cy B qr s1 a1 a2 w0) (fun u : va_W => wpost dC dI cy A u) A) (List.toArray [.ref (ad 0), .int a1, .int a2]) s 0 0 A) (F0 m 29 ls []) := by
    intro f29_12_0 H locs ls w1 r2 t3 hw hT hF c4 hl
    refine lv_iconst (v := (-1)) hx hb dX12_ways_29 (by decide) ?_
    exact tk_iret hC hr hlocks hK ⟨hT, hF, (Or.inr (Or.inr rfl))⟩ hw dX12_ways_30
  have L177 : ∀ (n177 : Nat) (v177_3 : Int32) (v177_4 : Int32) (v177_5 : Int32) (v177_6 : Int32) (f177_12_0 : Int32) (f177_12_1 : Int32) (f177_12_6 : Int32) (H : Heap) (locs : List Loc) (ls : Array Slot) (w5 : va_W), 0 ≤ a1.toInt → a1.toInt ≤ 6 → 0 ≤ v177_3.toInt → v177_3.toInt ≤ 12 → 0 ≤ v177_4.toInt → v177_4.toInt ≤ 63 → 0 ≤ v177_5.toInt → v177_5.toInt ≤ 63 → 0 ≤ v177_6.toInt → v177_6.toInt ≤ 63 → 1 ≤ f177_12_0.toInt → f177_12_0.toInt ≤ 10 → 0 ≤ f177_12_1.toInt → f177_12_1.toInt ≤ 12 → 0 ≤ f177_12_6.toInt → f177_12_6.toInt ≤ 6 → (v177_6.toInt - 0).toNat < n177 → Wd dC dI A s.heap H locs w5 → TW ksM ad cy B qr 12 w5 → FE ksM [(79, 0, 64)] w0 w5 → gi w5 12 0 = f177_12_0 → gi w5 12 1 = f177_12_1 → gi w5 12 6 = f177_12_6 → lv_has ls 7 [(0, .ref (ad 0)), (1, .int a1), (2, .int 1), (3, .int v177_3), (4, .int v177_4), (5, .int v177_5), (6, .int v177_6)] → W p l e ({ frames := 4, cells := 0, slots := 0, locals := 86 }) s m (List.toArray [.ref (ad 0), .int a1, .int a2]) below meth c H locs 0 0 (MQ below (va_Qi (P_X12_ways_1 ad cy B qr s1 a1 a2 w0) (fun u : va_W => wpost dC dI cy A u) A) (List.toArray [.ref (ad 0), .int a1, .int a2]) s 0 0 A) (F0 m 177 ls []) := by
    intro n177
    induction n177 with
    | zero => intro v177_3 v177_4 v177_5 v177_6 f177_12_0 f177_12_1 f177_12_6 H locs ls w5 r6 t7 r8 t9 r10 t11 r12 t13 r14 t15 r16 t17 r19 t20 r22 t23 hm177 hw hT hF c18 c21 c24 hl; omega
    | succ n177 ih177 =>
      intro v177_3 v177_4 v177_5 v177_6 f177_12_0 f177_12_1 f177_12_6 H locs ls w5 r6 t7 r8 t9 r10 t11 r12 t13 r14 t15 r16 t17 r19 t20 r22 t23 hm177 hw hT hF c18 c21 c24 hl
      have J210 : ∀ (v210_5 : Int32) (H : Heap) (locs : List Loc) (ls : Array Slot) (w25 : va_W), 0 ≤ a1.toInt → a1.toInt ≤ 6 → 0 ≤ v177_3.toInt → v177_3.toInt ≤ 12 → 0 ≤ v177_4.toInt → v177_4.toInt ≤ 63 → 0 ≤ v210_5.toInt → v210_5.toInt ≤ 63 → 1 ≤ v177_6.toInt → v177_6.toInt ≤ 63 → 1 ≤ f177_12_0.toInt → f177_12_0.toInt ≤ 10 → 0 ≤ f177_12_1.toInt → f177_12_1.toInt ≤ 12 → 0 ≤ f177_12_6.toInt → f177_12_6.toInt ≤ 6 → Wd dC dI A s.heap H locs w25 → TW ksM ad cy B qr 12 w25 → FE ksM [(79, 0, 64)] w0 w25 → gi w25 12 0 = f177_12_0 → gi w25 12 1 = f177_12_1 → gi w25 12 6 = f177_12_6 → lv_has ls 7 [(0, .ref (ad 0)), (1, .int a1), (2, .int 1), (3, .int v177_3), (4, .int v177_4), (5, .int v210_5), (6, .int v177_6)] → W p l e ({ frames := 4, cells := 0, slots := 0, locals := 86 }) s m (List.toArray [.ref (ad 0), .int a1, .int a2]) below meth c H locs 0 0 (MQ below (va_Qi (P_X12_ways_1 ad cy B qr s1 a1 a2 w0) (fun u : va_W => wpost dC dI cy A u) A) (List.toArray [.ref (ad 0), .int a1, .int a2]) s 0 0 A) (F0 m 210 ls []) := by
        intro v210_5 H locs ls w25 r26 t27 r28 t29 r30 t31 r32 t33 r34 t35 r36 t37 r39 t40 r42 t43 hw hT hF c38 c41 c44 hl
        obtain ⟨x45, ex45⟩ : ∃ y : Int32, y = v177_6 + Int32.ofInt (-1) := ⟨_, rfl⟩
        refine lv_iinc (v := x45) (lv' := [(6, .int x45), (0, .ref (ad 0)), (1, .int a1), (2, .int 1), (3, .int v177_3), (4, .int v177_4), (5, .int v210_5)]) hx hb dX12_ways_210 hl (k := 6) rfl ex45.symm (by decide) rfl (fun ls hl => ?_)
        have ex45 : x45.toInt = v177_6.toInt + (-1) := by rw [ex45]; exact wk_add (y := (-1)) (show -2147483648 ≤ v177_6.toInt + (-1) by omega) (show v177_6.toInt + (-1) ≤ 2147483647 by omega)
        refine lv_goto (tgt := 177) hx hb dX12_ways_213 (by decide) ?_
        exact ih177 v177_3 v177_4 v210_5 x45 f177_12_0 f177_12_1 f177_12_6 H locs ls w25 (show 0 ≤ a1.toInt by omega) (show a1.toInt ≤ 6 by omega) (show 0 ≤ v177_3.toInt by omega) (show v177_3.toInt ≤ 12 by omega) (show 0 ≤ v177_4.toInt by omega) (show v177_4.toInt ≤ 63 by omega) (show 0 ≤ v210_5.toInt by omega) (show v210_5.toInt ≤ 63 by omega) (show 0 ≤ x45.toInt by omega) (show x45.toInt ≤ 63 by omega) (show 1 ≤ f177_12_0.toInt by omega) (show f177_12_0.toInt ≤ 10 by omega) (show 0 ≤ f177_12_1.toInt by omega) (show f177_12_1.toInt ≤ 12 by omega) (show 0 ≤ f177_12_6.toInt by omega) (show f177_12_6.toInt ≤ 6 by omega) (show (x45.toInt - 0).toNat < n177 by omega) hw hT hF c38 c41 c44 (lv_sub hl [1, 2, 3, 4, 5, 6, 0] rfl)
      refine lv_iload hx hb dX12_ways_177 (lv_at hl 6 rfl) ?_
      refine lv_if_le (tgt := 216) hx hb dX12_ways_179 (by decide) (fun c46 => ?_) (fun c46 => ?_)
      · have c46 : v177_6.toInt ≤ (0 : Int) := wk_le.mp c46
        refine lv_iload hx hb dX12_ways_216 (lv_at hl 5 rfl) ?_
        exact tk_iret hC hr hlocks hK ⟨hT, hF, (Or.inr (Or.inl ⟨(show 0 ≤ v177_5.toInt by omega), (show v177_5.toInt ≤ 4095 by omega), (show 0 ≤ a1.toInt by omega), (show a1.toInt ≤ 6 by omega), ⟨f177_12_0, c18, (show 1 ≤ f177_12_0.toInt by omega), (show f177_12_0.toInt ≤ 10 by omega)⟩⟩))⟩ hw dX12_ways_218
      · have c46 : (0 : Int) < v177_6.toInt := wk_leF c46
        refine lv_aload_n hx hb dX12_ways_182 rfl (lv_at hl 0 rfl) ?_
        refine lv_iload hx hb dX12_ways_183 (lv_at hl 6 rfl) ?_
        refine lv_iload hx hb dX12_ways_185 (lv_at hl 4 rfl) ?_
        refine tk_Vi hC hK hw hT hA hE hSR kM_at0 (by decide) rfl (k_X12_isClash_1 l adK adV dC dI cy ad B (by omega) (by omega) qr s1   v177_6 (show 1 ≤ v177_6.toInt by omega) (show v177_6.toInt ≤ 63 by omega) v177_4 (show 0 ≤ v177_4.toInt by omega) (show v177_4.toInt ≤ 63 by omega) w5 H.size hT ) (cwV 2 hC.2.2.2.2 gX12_ways_X12_isClash rfl rfl rfl (by decide +kernel) ⟨Nat.le_of_ble_eq_true rfl, Nat.le_of_ble_eq_true rfl⟩) rfl hl.1 rfl (Nat.le_of_ble_eq_true rfl) dX12_ways_187 (fun r47 w49 H locs hp48 hw => ?_)
        obtain ⟨hT, k50, hg51⟩ := hp48
        have hF := hF.tr k50 (by decide)
        have c52 := k50.gi kM_at12 (by decide) c18
        have c53 := k50.gi kM_at12 (by decide) c21
        have c54 := k50.gi kM_at12 (by decide) c24
        rcases hg51 with rfl | rfl
        · refine lv_if_eq (tgt := 210) hx hb dX12_ways_190 (by decide) (fun _ => ?_) (fun c => absurd (by decide) c)
          exact J210 v177_5 H locs ls w49 (show 0 ≤ a1.toInt by omega) (show a1.toInt ≤ 6 by omega) (show 0 ≤ v177_3.toInt by omega) (show v177_3.toInt ≤ 12 by omega) (show 0 ≤ v177_4.toInt by omega) (show v177_4.toInt ≤ 63 by omega) (show 0 ≤ v177_5.toInt by omega) (show v177_5.toInt ≤ 63 by omega) (show 1 ≤ v177_6.toInt by omega) (show v177_6.toInt ≤ 63 by omega) (show 1 ≤ f177_12_0.toInt by omega) (show f177_12_0.toInt ≤ 10 by omega) (show 0 ≤ f177_12_1.toInt by omega) (show f177_12_1.toInt ≤ 12 by omega) (show 0 ≤ f177_12_6.toInt by omega) (show f177_12_6.toInt ≤ 6 by omega)  hw hT hF c52 c53 c54 (lv_sub hl [0, 1, 2, 3, 4, 5, 6] rfl)
        · refine lv_if_eq (tgt := 210) hx hb dX12_ways_190 (by decide) (fun c => absurd c (by decide)) (fun _ => ?_)
          refine lv_iload hx hb dX12_ways_193 (lv_at hl 6 rfl) ?_
          refine tk_Si hC hK hw hT hA hE hSR (k_X12_bits_1 l adK adV dC dI cy ad B (by omega) (by omega) qr s1   v177_6 (show 1 ≤ v177_6.toInt by omega) (show v177_6.toInt ≤ 63 by omega) w49 H.size hT ) (va_cwS 1 hC.2.2.2.2 gX12_ways_X12_bits rfl rfl rfl (by decide +kernel) ⟨Nat.le_of_ble_eq_true rfl, Nat.le_of_ble_eq_true rfl⟩) rfl hl.1 rfl (Nat.le_of_ble_eq_true rfl) dX12_ways_195 (fun r55 w57 H locs hp56 hw => ?_)
          obtain ⟨hT, k58, hg59⟩ := hp56
          have hF := hF.tr k58 (by decide)
          have c60 := k58.gi kM_at12 (by decide) c52
          have c61 := k58.gi kM_at12 (by decide) c53
          have c62 := k58.gi kM_at12 (by decide) c54
          clear hg59
          refine lv_iload hx hb dX12_ways_198 (lv_at hl 5 rfl) ?_
          refine tk_Si hC hK hw hT hA hE hSR (k_X12_bits_2 l adK adV dC dI cy ad B (by omega) (by omega) qr s1   v177_5 (show 0 ≤ v177_5.toInt by omega) (show v177_5.toInt ≤ 63 by omega) w57 H.size hT ) (va_cwS 1 hC.2.2.2.2 gX12_ways_X12_bits rfl rfl rfl (by decide +kernel) ⟨Nat.le_of_ble_eq_true rfl, Nat.le_of_ble_eq_true rfl⟩) rfl hl.1 rfl (Nat.le_of_ble_eq_true rfl) dX12_ways_200 (fun r63 w65 H locs hp64 hw => ?_)
          obtain ⟨hT, k66, hg67⟩ := hp64
          have hF := hF.tr k66 (by decide)
          have c68 := k66.gi kM_at12 (by decide) c60
          have c69 := k66.gi kM_at12 (by decide) c61
          have c70 := k66.gi kM_at12 (by decide) c62
          clear hg67
          refine lv_icmp_gt (tgt := 210) hx hb dX12_ways_203 (by decide) (fun c71 => ?_) (fun c71 => ?_)
          · have c71 : r63.toInt < r55.toInt := wk_lt.mp c71
            exact J210 v177_5 H locs ls w65 (show 0 ≤ a1.toInt by omega) (show a1.toInt ≤ 6 by omega) (show 0 ≤ v177_3.toInt by omega) (show v177_3.toInt ≤ 12 by omega) (show 0 ≤ v177_4.toInt by omega) (show v177_4.toInt ≤ 63 by omega) (show 0 ≤ v177_5.toInt by omega) (show v177_5.toInt ≤ 63 by omega) (show 1 ≤ v177_6.toInt by omega) (show v177_6.toInt ≤ 63 by omega) (show 1 ≤ f177_12_0.toInt by omega) (show f177_12_0.toInt ≤ 10 by omega) (show 0 ≤ f177_12_1.toInt by omega) (show f177_12_1.toInt ≤ 12 by omega) (show 0 ≤ f177_12_6.toInt by omega) (show f177_12_6.toInt ≤ 6 by omega)  hw hT hF c68 c69 c70 (lv_sub hl [0, 1, 2, 3, 4, 5, 6] rfl)
          · have c71 : r55.toInt ≤ r63.toInt := wk_ltF c71
            refine lv_iload hx hb dX12_ways_206 (lv_at hl 6 rfl) ?_
            refine lv_istore (lv' := [(5, .int v177_6), (0, .ref (ad 0)), (1, .int a1), (2, .int 1), (3, .int v177_3), (4, .int v177_4), (6, .int v177_6)]) hx hb dX12_ways_208 hl (by decide) rfl (fun ls hl => ?_)
            exact J210 v177_6 H locs ls w65 (show 0 ≤ a1.toInt by omega) (show a1.toInt ≤ 6 by omega) (show 0 ≤ v177_3.toInt by omega) (show v177_3.toInt ≤ 12 by omega) (show 0 ≤ v177_4.toInt by omega) (show v177_4.toInt ≤ 63 by omega) (show 0 ≤ v177_6.toInt by omega) (show v177_6.toInt ≤ 63 by omega) (show 1 ≤ v177_6.toInt by omega) (show v177_6.toInt ≤ 63 by omega) (show 1 ≤ f177_12_0.toInt by omega) (show f177_12_0.toInt ≤ 10 by omega) (show 0 ≤ f177_12_1.toInt by omega) (show f177_12_1.toInt ≤ 12 by omega) (show 0 ≤ f177_12_6.toInt by omega) (show f177_12_6.toInt ≤ 6 by omega)  hw hT hF c68 c69 c70 (lv_sub hl [1, 2, 3, 4, 5, 0, 6] rfl)
  have L113 : ∀ (n113 : Nat) (v113_3 : Int32) (v113_4 : Int32) (v113_5 : Int32) (f113_12_0 : Int32) (f113_12_1 : Int32) (f113_12_6 : Int32) (H : Heap) (locs : List Loc) (ls : Array Slot) (w72 : va_W), 0 ≤ a1.toInt → a1.toInt ≤ 6 → 0 ≤ a2.toInt → a2.toInt ≤ 1 → 0 ≤ v113_3.toInt → v113_3.toInt ≤ 12 → 0 ≤ v113_4.toInt → v113_4.toInt ≤ 63 → 0 ≤ v113_5.toInt → v113_5.toInt ≤ 4096 → 1 ≤ f113_12_0.toInt → f113_12_0.toInt ≤ 10 → 0 ≤ f113_12_1.toInt → f113_12_1.toInt ≤ 12 → 0 ≤ f113_12_6.toInt → f113_12_6.toInt ≤ 6 → (4096 - v113_5.toInt).toNat < n113 → Wd dC dI A s.heap H locs w72 → TW ksM ad cy B qr 12 w72 → FE ksM [(79, 0, 64)] w0 w72 → gi w72 12 0 = f113_12_0 → gi w72 12 1 = f113_12_1 → gi w72 12 6 = f113_12_6 → lv_has ls 7 [(0, .ref (ad 0)), (1, .int a1), (2, .int a2), (3, .int v113_3), (4, .int v113_4), (5, .int v113_5)] → W p l e ({ frames := 4, cells := 0, slots := 0, locals := 86 }) s m (List.toArray [.ref (ad 0), .int a1, .int a2]) below meth c H locs 0 0 (MQ below (va_Qi (P_X12_ways_1 ad cy B qr s1 a1 a2 w0) (fun u : va_W => wpost dC dI cy A u) A) (List.toArray [.ref (ad 0), .int a1, .int a2]) s 0 0 A) (F0 m 113 ls []) := by
    intro n113
    induction n113 with
    | zero => intro v113_3 v113_4 v113_5 f113_12_0 f113_12_1 f113_12_6 H locs ls w72 r73 t74 r75 t76 r77 t78 r79 t80 r81 t82 r83 t84 r86 t87 r89 t90 hm113 hw hT hF c85 c88 c91 hl; omega
    | succ n113 ih113 =>
      intro v113_3 v113_4 v113_5 f113_12_0 f113_12_1 f113_12_6 H locs ls w72 r73 t74 r75 t76 r77 t78 r79 t80 r81 t82 r83 t84 r86 t87 r89 t90 hm113 hw hT hF c85 c88 c91 hl
      refine lv_iload hx hb dX12_ways_113 (lv_at hl 5 rfl) ?_
      refine lv_iconst (v := 1) hx hb dX12_ways_115 (by decide) ?_
      refine lv_iload_n hx hb dX12_ways_116 rfl (lv_at hl 3 rfl) ?_
      refine lv_ishl hx hb dX12_ways_117 ?_
      refine lv_topi (fun x92 ex92 => ?_)
      have bx92 : 1 ≤ x92.toInt ∧ x92.toInt ≤ 4096 := by rw [ex92]; exact wk_shl1 12 (by decide) (by omega) (by omega)
      refine lv_icmp_ge (tgt := 162) hx hb dX12_ways_118 (by decide) (fun c93 => ?_) (fun c93 => ?_)
      · have c93 : x92.toInt ≤ v113_5.toInt := wk_le.mp c93
        refine lv_iload_n hx hb dX12_ways_162 rfl (lv_at hl 2 rfl) ?_
        refine lv_if_ne (tgt := 169) hx hb dX12_ways_163 (by decide) (fun c94 => ?_) (fun c94 => ?_)
        · have c94 : ¬ a2.toInt = (0 : Int) := wk_eqF c94
          refine lv_iload hx hb dX12_ways_169 (lv_at hl 4 rfl) ?_
          refine lv_istore (lv' := [(5, .int v113_4), (0, .ref (ad 0)), (1, .int a1), (2, .int a2), (3, .int v113_3), (4, .int v113_4)]) hx hb dX12_ways_171 hl (by decide) rfl (fun ls hl => ?_)
          refine lv_iload hx hb dX12_ways_173 (lv_at hl 5 rfl) ?_
          refine lv_istore (lv' := [(6, .int v113_4), (5, .int v113_4), (0, .ref (ad 0)), (1, .int a1), (2, .int a2), (3, .int v113_3), (4, .int v113_4)]) hx hb dX12_ways_175 hl (by decide) rfl (fun ls hl => ?_)
          obtain rfl : a2 = 1 := wk_eq.mpr (show a2.toInt = 1 by omega)
          exact L177 ((v113_4.toInt - 0).toNat + 1) v113_3 v113_4 v113_4 v113_4 f113_12_0 f113_12_1 f113_12_6 H locs ls w72 (show 0 ≤ a1.toInt by omega) (show a1.toInt ≤ 6 by omega) (show 0 ≤ v113_3.toInt by omega) (show v113_3.toInt ≤ 12 by omega) (show 0 ≤ v113_4.toInt by omega) (show v113_4.toInt ≤ 63 by omega) (show 0 ≤ v113_4.toInt by omega) (show v113_4.toInt ≤ 63 by omega) (show 0 ≤ v113_4.toInt by omega) (show v113_4.toInt ≤ 63 by omega) (show 1 ≤ f113_12_0.toInt by omega) (show f113_12_0.toInt ≤ 10 by omega) (show 0 ≤ f113_12_1.toInt by omega) (show f113_12_1.toInt ≤ 12 by omega) (show 0 ≤ f113_12_6.toInt by omega) (show f113_12_6.toInt ≤ 6 by omega) (Nat.lt_succ_self _) hw hT hF c85 c88 c91 (lv_sub hl [2, 3, 4, 5, 6, 1, 0] rfl)
        · have c94 : a2.toInt = (0 : Int) := wk_eq.mp c94
          refine lv_bipush (v := (-2)) hx hb dX12_ways_166 (by decide) ?_
          exact tk_iret hC hr hlocks hK ⟨hT, hF, (Or.inl ⟨rfl, (show 0 ≤ a1.toInt by omega), (show a1.toInt ≤ 6 by omega), (show 0 ≤ a2.toInt by omega), (show a2.toInt ≤ 0 by omega), ⟨f113_12_0, c85, (show 1 ≤ f113_12_0.toInt by omega), (show f113_12_0.toInt ≤ 10 by omega)⟩⟩)⟩ hw dX12_ways_168
      · have c93 : v113_5.toInt < x92.toInt := wk_leF c93
        refine lv_aload_n hx hb dX12_ways_121 rfl (lv_at hl 0 rfl) ?_
        refine lv_iload_n hx hb dX12_ways_122 rfl (lv_at hl 1 rfl) ?_
        refine lv_iload hx hb dX12_ways_123 (lv_at hl 5 rfl) ?_
        refine tk_Vi hC hK hw hT hA hE hSR kM_at0 (by decide) rfl (k_X12_doneBy_1 l adK adV dC dI cy ad B (by omega) (by omega) qr s1   a1 (show 0 ≤ a1.toInt by omega) (show a1.toInt ≤ 6 by omega) v113_5 (show 0 ≤ v113_5.toInt by omega) (show v113_5.toInt ≤ 4095 by omega) w72 H.size hT ) (cwV 2 hC.2.2.2.2 gX12_ways_X12_doneBy rfl rfl rfl (by decide +kernel) ⟨Nat.le_of_ble_eq_true rfl, Nat.le_of_ble_eq_true rfl⟩) rfl hl.1 rfl (Nat.le_of_ble_eq_true rfl) dX12_ways_125 (fun r95 w97 H locs hp96 hw => ?_)
        obtain ⟨hT, k98, hg101⟩ := hp96
        have hF := hF.tr k98 (by decide)
        have c102 := k98.gi kM_at12 (by decide) c85
        have c103 := k98.gi kM_at12 (by decide) c88
        have c104 := k98.gi kM_at12 (by decide) c91
        obtain ⟨g99, g100⟩ := hg101
        refine lv_istore (lv' := [(6, .int r95), (0, .ref (ad 0)), (1, .int a1), (2, .int a2), (3, .int v113_3), (4, .int v113_4), (5, .int v113_5)]) hx hb dX12_ways_128 hl (by decide) rfl (fun ls hl => ?_)
        refine lv_iload hx hb dX12_ways_130 (lv_at hl 0 rfl) ?_
        refine lv_iload hx hb dX12_ways_132 (lv_at hl 5 rfl) ?_
        refine lv_icmp_ne (tgt := 148) hx hb dX12_ways_134 (by decide) (fun c105 => ?_) (fun c105 => ?_)
        · have c105 : ¬ r95.toInt = v113_4.toInt := wk_eqF c105
          refine lv_aload_n hx hb dX12_ways_148 rfl (lv_at hl 1 rfl) ?_
          refine tk_getA hC hK hw hT hinX12 kM_at0 (by decide) rfl 38 (by decide) (List.mem_of_getElem? (i := 3) rfl) rfl rfl dX12_ways_149 ?_
          refine lv_iload hx hb dX12_ways_152 (lv_at hl 0 rfl) ?_
          refine lv_iconst (v := 1) hx hb dX12_ways_154 (by decide) ?_
          refine tk_zast hC hK hw hT kM_at20 (by decide) rfl rfl (show 0 ≤ r95.toInt by omega) (show r95.toInt < 64 by omega) (by decide) (by decide) dX12_ways_155 (fun H locs w106 hw hT k108 c107 => ?_)
          have hF := hF.put kM_at20 (inE_of (a := 0) (b := 64) (by decide) (show 0 ≤ r95.toInt.toNat by omega) (show r95.toInt.toNat ≤ 64 by omega)) k108
          have c109 := k108.gi (Or.inl (tk_ne kM_at12 kM_at20 (by decide))) c102
          have c110 := k108.gi (Or.inl (tk_ne kM_at12 kM_at20 (by decide))) c103
          have c111 := k108.gi (Or.inl (tk_ne kM_at12 kM_at20 (by decide))) c104
          obtain ⟨x112, ex112⟩ : ∃ y : Int32, y = v113_5 + Int32.ofInt 1 := ⟨_, rfl⟩
          refine lv_iinc (v := x112) (lv' := [(5, .int x112), (6, .int r95), (0, .ref (ad 0)), (1, .int a1), (2, .int a2), (3, .int v113_3), (4, .int v113_4)]) hx hb dX12_ways_156 hl (k := 6) rfl ex112.symm (by decide) rfl (fun ls hl => ?_)
          have ex112 : x112.toInt = v113_5.toInt + 1 := by rw [ex112]; exact wk_add (y := 1) (show -2147483648 ≤ v113_5.toInt + 1 by omega) (show v113_5.toInt + 1 ≤ 2147483647 by omega)
          refine lv_goto (tgt := 113) hx hb dX12_ways_159 (by decide) ?_
          exact ih113 v113_3 v113_4 x112 f113_12_0 f113_12_1 f113_12_6 H locs ls w106 (show 0 ≤ a1.toInt by omega) (show a1.toInt ≤ 6 by omega) (show 0 ≤ a2.toInt by omega) (show a2.toInt ≤ 1 by omega) (show 0 ≤ v113_3.toInt by omega) (show v113_3.toInt ≤ 12 by omega) (show 0 ≤ v113_4.toInt by omega) (show v113_4.toInt ≤ 63 by omega) (show 0 ≤ x112.toInt by omega) (show x112.toInt ≤ 4096 by omega) (show 1 ≤ f113_12_0.toInt by omega) (show f113_12_0.toInt ≤ 10 by omega) (show 0 ≤ f113_12_1.toInt by omega) (show f113_12_1.toInt ≤ 12 by omega) (show 0 ≤ f113_12_6.toInt by omega) (show f113_12_6.toInt ≤ 6 by omega) (show (4096 - x112.toInt).toNat < n113 by omega) hw hT hF c109 c110 c111 (lv_sub hl [2, 3, 4, 5, 6, 0] rfl)
        · have c105 : r95.toInt = v113_4.toInt := wk_eq.mp c105
          refine lv_iload_n hx hb dX12_ways_137 rfl (lv_at hl 3 rfl) ?_
          refine lv_if_ne (tgt := 146) hx hb dX12_ways_138 (by decide) (fun c113 => ?_) (fun c113 => ?_)
          · have c113 : ¬ a2.toInt = (0 : Int) := wk_eqF c113
            refine lv_iconst (v := 0) hx hb dX12_ways_146 (by decide) ?_
            exact tk_iret hC hr hlocks hK ⟨hT, hF, (Or.inr (Or.inl ⟨(by decide), (by decide), (show 0 ≤ a1.toInt by omega), (show a1.toInt ≤ 6 by omega), ⟨f113_12_0, c102, (show 1 ≤ f113_12_0.toInt by omega), (show f113_12_0.toInt ≤ 10 by omega)⟩⟩))⟩ hw dX12_ways_147
          · have c113 : a2.toInt = (0 : Int) := wk_eq.mp c113
            refine lv_iload hx hb dX12_ways_141 (lv_at hl 6 rfl) ?_
            refine lv_goto (tgt := 147) hx hb dX12_ways_143 (by decide) ?_
            exact tk_iret hC hr hlocks hK ⟨hT, hF, (Or.inr (Or.inl ⟨(show 0 ≤ v113_5.toInt by omega), (show v113_5.toInt ≤ 4095 by omega), (show 0 ≤ a1.toInt by omega), (show a1.toInt ≤ 6 by omega), ⟨f113_12_0, c102, (show 1 ≤ f113_12_0.toInt by omega), (show f113_12_0.toInt ≤ 10 by omega)⟩⟩))⟩ hw dX12_ways_147
  have L89 : ∀ (n89 : Nat) (v89_3 : Int32) (v89_4 : Int32) (v89_5 : Int32) (f89_12_0 : Int32) (f89_12_1 : Int32) (f89_12_6 : Int32) (H : Heap) (locs : List Loc) (ls : Array Slot) (w114 : va_W), 0 ≤ a1.toInt → a1.toInt ≤ 6 → 0 ≤ a2.toInt → a2.toInt ≤ 1 → 0 ≤ v89_3.toInt → v89_3.toInt ≤ 12 → 0 ≤ v89_4.toInt → v89_4.toInt ≤ 63 → 0 ≤ v89_5.toInt → v89_5.toInt ≤ 64 → 1 ≤ f89_12_0.toInt → f89_12_0.toInt ≤ 10 → 0 ≤ f89_12_1.toInt → f89_12_1.toInt ≤ 12 → 0 ≤ f89_12_6.toInt → f89_12_6.toInt ≤ 6 → (64 - v89_5.toInt).toNat < n89 → Wd dC dI A s.heap H locs w114 → TW ksM ad cy B qr 12 w114 → FE ksM [(79, 0, 64)] w0 w114 → gi w114 12 0 = f89_12_0 → gi w114 12 1 = f89_12_1 → gi w114 12 6 = f89_12_6 → lv_has ls 7 [(0, .ref (ad 0)), (1, .int a1), (2, .int a2), (3, .int v89_3), (4, .int v89_4), (5, .int v89_5)] → W p l e ({ frames := 4, cells := 0, slots := 0, locals := 86 }) s m (List.toArray [.ref (ad 0), .int a1, .int a2]) below meth c H locs 0 0 (MQ below (va_Qi (P_X12_ways_1 ad cy B qr s1 a1 a2 w0) (fun u : va_W => wpost dC dI cy A u) A) (List.toArray [.ref (ad 0), .int a1, .int a2]) s 0 0 A) (F0 m 89 ls []) := by
    intro n89
    induction n89 with
    | zero => intro v89_3 v89_4 v89_5 f89_12_0 f89_12_1 f89_12_6 H locs ls w114 r115 t116 r117 t118 r119 t120 r121 t122 r123 t124 r125 t126 r128 t129 r131 t132 hm89 hw hT hF c127 c130 c133 hl; omega
    | succ n89 ih89 =>
      intro v89_3 v89_4 v89_5 f89_12_0 f89_12_1 f89_12_6 H locs ls w114 r115 t116 r117 t118 r119 t120 r121 t122 r123 t124 r125 t126 r128 t129 r131 t132 hm89 hw hT hF c127 c130 c133 hl
      refine lv_iload hx hb dX12_ways_89 (lv_at hl 5 rfl) ?_
      refine lv_bipush (v := 64) hx hb dX12_ways_91 (by decide) ?_
      refine lv_icmp_ge (tgt := 110) hx hb dX12_ways_93 (by decide) (fun c134 => ?_) (fun c134 => ?_)
      · have c134 : (64 : Int) ≤ v89_5.toInt := wk_le.mp c134
        refine lv_iconst (v := 0) hx hb dX12_ways_110 (by decide) ?_
        refine lv_istore (lv' := [(5, .int 0), (0, .ref (ad 0)), (1, .int a1), (2, .int a2), (3, .int v89_3), (4, .int v89_4)]) hx hb dX12_ways_111 hl (by decide) rfl (fun ls hl => ?_)
        exact L113 ((4096 - (0 : Int)).toNat + 1) v89_3 v89_4 0 f89_12_0 f89_12_1 f89_12_6 H locs ls w114 (show 0 ≤ a1.toInt by omega) (show a1.toInt ≤ 6 by omega) (show 0 ≤ a2.toInt by omega) (show a2.toInt ≤ 1 by omega) (show 0 ≤ v89_3.toInt by omega) (show v89_3.toInt ≤ 12 by omega) (show 0 ≤ v89_4.toInt by omega) (show v89_4.toInt ≤ 63 by omega) (by decide) (by decide) (show 1 ≤ f89_12_0.toInt by omega) (show f89_12_0.toInt ≤ 10 by omega) (show 0 ≤ f89_12_1.toInt by omega) (show f89_12_1.toInt ≤ 12 by omega) (show 0 ≤ f89_12_6.toInt by omega) (show f89_12_6.toInt ≤ 6 by omega) (Nat.lt_succ_self _) hw hT hF c127 c130 c133 (lv_sub hl [1, 2, 3, 4, 5, 0] rfl)
      · have c134 : v89_5.toInt < (64 : Int) := wk_leF c134
        refine lv_aload_n hx hb dX12_ways_96 rfl (lv_at hl 0 rfl) ?_
        refine tk_getA hC hK hw hT hinX12 kM_at0 (by decide) rfl 38 (by decide) (List.mem_of_getElem? (i := 3) rfl) rfl rfl dX12_ways_97 ?_
        refine lv_iload hx hb dX12_ways_100 (lv_at hl 5 rfl) ?_
        refine lv_iconst (v := 0) hx hb dX12_ways_102 (by decide) ?_
        refine tk_zast hC hK hw hT kM_at20 (by decide) rfl rfl (show 0 ≤ v89_5.toInt by omega) (show v89_5.toInt < 64 by omega) (by decide) (by decide) dX12_ways_103 (fun H locs w135 hw hT k137 c136 => ?_)
        have hF := hF.put kM_at20 (inE_of (a := 0) (b := 64) (by decide) (show 0 ≤ v89_5.toInt.toNat by omega) (show v89_5.toInt.toNat ≤ 64 by omega)) k137
        have c138 := k137.gi (Or.inl (tk_ne kM_at12 kM_at20 (by decide))) c127
        have c139 := k137.gi (Or.inl (tk_ne kM_at12 kM_at20 (by decide))) c130
        have c140 := k137.gi (Or.inl (tk_ne kM_at12 kM_at20 (by decide))) c133
        obtain ⟨x141, ex141⟩ : ∃ y : Int32, y = v89_5 + Int32.ofInt 1 := ⟨_, rfl⟩
        refine lv_iinc (v := x141) (lv' := [(5, .int x141), (0, .ref (ad 0)), (1, .int a1), (2, .int a2), (3, .int v89_3), (4, .int v89_4)]) hx hb dX12_ways_104 hl (k := 5) rfl ex141.symm (by decide) rfl (fun ls hl => ?_)
        have ex141 : x141.toInt = v89_5.toInt + 1 := by rw [ex141]; exact wk_add (y := 1) (show -2147483648 ≤ v89_5.toInt + 1 by omega) (show v89_5.toInt + 1 ≤ 2147483647 by omega)
        refine lv_goto (tgt := 89) hx hb dX12_ways_107 (by decide) ?_
        exact ih89 v89_3 v89_4 x141 f89_12_0 f89_12_1 f89_12_6 H locs ls w135 (show 0 ≤ a1.toInt by omega) (show a1.toInt ≤ 6 by omega) (show 0 ≤ a2.toInt by omega) (show a2.toInt ≤ 1 by omega) (show 0 ≤ v89_3.toInt by omega) (show v89_3.toInt ≤ 12 by omega) (show 0 ≤ v89_4.toInt by omega) (show v89_4.toInt ≤ 63 by omega) (show 0 ≤ x141.toInt by omega) (show x141.toInt ≤ 64 by omega) (show 1 ≤ f89_12_0.toInt by omega) (show f89_12_0.toInt ≤ 10 by omega) (show 0 ≤ f89_12_1.toInt by omega) (show f89_12_1.toInt ≤ 12 by omega) (show 0 ≤ f89_12_6.toInt by omega) (show f89_12_6.toInt ≤ 6 by omega) (show (64 - x141.toInt).toNat < n89 by omega) hw hT hF c138 c139 c140 (lv_sub hl [1, 2, 3, 4, 5, 0] rfl)
  have L36 : ∀ (n36 : Nat) (v36_3 : Int32) (v36_4 : Int32) (f36_12_0 : Int32) (H : Heap) (locs : List Loc) (ls : Array Slot) (w142 : va_W), 0 ≤ a1.toInt → a1.toInt ≤ 6 → 0 ≤ a2.toInt → a2.toInt ≤ 1 → 0 ≤ v36_3.toInt → v36_3.toInt ≤ 12 → 0 ≤ v36_4.toInt → v36_4.toInt ≤ 12 → 1 ≤ f36_12_0.toInt → f36_12_0.toInt ≤ 10 → v36_3.toInt ≤ v36_4.toInt + 0 → (12 - v36_4.toInt).toNat < n36 → Wd dC dI A s.heap H locs w142 → TW ksM ad cy B qr 12 w142 → FE ksM [(79, 0, 64)] w0 w142 → gi w142 12 0 = f36_12_0 → lv_has ls 7 [(0, .ref (ad 0)), (1, .int a1), (2, .int a2), (3, .int v36_3), (4, .int v36_4)] → W p l e ({ frames := 4, cells := 0, slots := 0, locals := 86 }) s m (List.toArray [.ref (ad 0), .int a1, .int a2]) below meth c H locs 0 0 (MQ below (va_Qi (P_X12_ways_1 ad cy B qr s1 a1 a2 w0) (fun u : va_W => wpost dC dI cy A u) A) (List.toArray [.ref (ad 0), .int a1, .int a2]) s 0 0 A) (F0 m 36 ls []) := by
    intro n36
    induction n36 with
    | zero => intro v36_3 v36_4 f36_12_0 H locs ls w142 r143 t144 r145 t146 r147 t148 r149 t150 r151 t152 i154 hm36 hw hT hF c153 hl; omega
    | succ n36 ih36 =>
      intro v36_3 v36_4 f36_12_0 H locs ls w142 r143 t144 r145 t146 r147 t148 r149 t150 r151 t152 i154 hm36 hw hT hF c153 hl
      refine lv_iload hx hb dX12_ways_36 (lv_at hl 4 rfl) ?_
      refine lv_aload_n hx hb dX12_ways_38 rfl (lv_at hl 0 rfl) ?_
      refine tk_getA hC hK hw hT hinX12 kM_at0 (by decide) rfl 26 (by decide) (List.mem_of_getElem? (i := 2) rfl) rfl rfl dX12_ways_39 ?_
      refine lv_iconst (v := 1) hx hb dX12_ways_42 (by decide) ?_
      refine tk_ialdR hC hK hw hT kM_at12 rfl (by decide) (by decide) dX12_ways_43 (fun x155 c156 Ex155 => ?_)
      have bx155 : 0 ≤ x155.toInt ∧ x155.toInt ≤ 12 := (tk_rg1 rfl).mp Ex155
      have c156 : gi w142 12 1 = x155 := c156
      refine lv_icmp_ge (tgt := 73) hx hb dX12_ways_44 (by decide) (fun c157 => ?_) (fun c157 => ?_)
      · have c157 : x155.toInt ≤ v36_4.toInt := wk_le.mp c157
        refine lv_iconst (v := 1) hx hb dX12_ways_73 (by decide) ?_
        refine lv_aload_n hx hb dX12_ways_74 rfl (lv_at hl 0 rfl) ?_
        refine tk_getA hC hK hw hT hinX12 kM_at0 (by decide) rfl 26 (by decide) (List.mem_of_getElem? (i := 2) rfl) rfl rfl dX12_ways_75 ?_
        refine lv_bipush (v := 6) hx hb dX12_ways_78 (by decide) ?_
        refine tk_ialdR hC hK hw hT kM_at12 rfl (by decide) (by decide) dX12_ways_80 (fun x158 c159 Ex158 => ?_)
        have bx158 := tk_rgI rfl 6 1 1 0 6 (by decide +kernel) ⟨0, by decide, by decide⟩ Ex158
        have c159 : gi w142 12 6 = x158 := c159
        refine lv_ishl hx hb dX12_ways_81 ?_
        refine lv_topi (fun x160 ex160 => ?_)
        have bx160 : 1 ≤ x160.toInt ∧ x160.toInt ≤ 64 := by rw [ex160]; exact wk_shl1 6 (by decide) (by omega) (by omega)
        refine lv_iconst (v := 1) hx hb dX12_ways_82 (by decide) ?_
        refine lv_isub hx hb dX12_ways_83 ?_
        refine lv_topi (fun x161 ex161 => ?_)
        have ex161 : x161.toInt = x160.toInt - (1 : Int) := by rw [ex161]; exact wk_sub (show (-2147483648) ≤ x160.toInt - (1 : Int) by omega) (show x160.toInt - (1 : Int) ≤ 2147483647 by omega)
        refine lv_istore (lv' := [(4, .int x161), (0, .ref (ad 0)), (1, .int a1), (2, .int a2), (3, .int v36_3)]) hx hb dX12_ways_84 hl (by decide) rfl (fun ls hl => ?_)
        refine lv_iconst (v := 0) hx hb dX12_ways_86 (by decide) ?_
        refine lv_istore (lv' := [(5, .int 0), (4, .int x161), (0, .ref (ad 0)), (1, .int a1), (2, .int a2), (3, .int v36_3)]) hx hb dX12_ways_87 hl (by decide) rfl (fun ls hl => ?_)
        exact L89 ((64 - (0 : Int)).toNat + 1) v36_3 x161 0 f36_12_0 x155 x158 H locs ls w142 (show 0 ≤ a1.toInt by omega) (show a1.toInt ≤ 6 by omega) (show 0 ≤ a2.toInt by omega) (show a2.toInt ≤ 1 by omega) (show 0 ≤ v36_3.toInt by omega) (show v36_3.toInt ≤ 12 by omega) (show 0 ≤ x161.toInt by omega) (show x161.toInt ≤ 63 by omega) (by decide) (by decide) (show 1 ≤ f36_12_0.toInt by omega) (show f36_12_0.toInt ≤ 10 by omega) (show 0 ≤ x155.toInt by omega) (show x155.toInt ≤ 12 by omega) (show 0 ≤ x158.toInt by omega) (show x158.toInt ≤ 6 by omega) (Nat.lt_succ_self _) hw hT hF c153 c156 c159 (lv_sub hl [2, 3, 4, 5, 1, 0] rfl)
      · have c157 : v36_4.toInt < x155.toInt := wk_leF c157
        refine lv_iload_n hx hb dX12_ways_47 rfl (lv_at hl 3 rfl) ?_
        refine lv_aload_n hx hb dX12_ways_48 rfl (lv_at hl 0 rfl) ?_
        refine lv_iload hx hb dX12_ways_49 (lv_at hl 4 rfl) ?_
        refine lv_iconst (v := 3) hx hb dX12_ways_51 (by decide) ?_
        refine lv_iload_n hx hb dX12_ways_52 rfl (lv_at hl 1 rfl) ?_
        refine lv_iadd hx hb dX12_ways_53 ?_
        refine lv_topi (fun x162 ex162 => ?_)
        have ex162 : x162.toInt = (3 : Int) + a1.toInt := by rw [ex162]; exact wk_add (show (-2147483648) ≤ (3 : Int) + a1.toInt by omega) (show (3 : Int) + a1.toInt ≤ 2147483647 by omega)
        refine tk_Vi hC hK hw hT hA hE hSR kM_at0 (by decide) rfl (k_X12_streetOf_4 l adK adV dC dI cy ad B (by omega) (by omega) qr s1   v36_4 (show 0 ≤ v36_4.toInt by omega) (show v36_4.toInt ≤ 11 by omega) x162 (show 3 ≤ x162.toInt by omega) (show x162.toInt ≤ 9 by omega) w142 H.size hT ) (cwV 2 hC.2.2.2.2 gX12_ways_X12_streetOf rfl rfl rfl (by decide +kernel) ⟨Nat.le_of_ble_eq_true rfl, Nat.le_of_ble_eq_true rfl⟩) rfl hl.1 rfl (Nat.le_of_ble_eq_true rfl) dX12_ways_54 (fun r163 w165 H locs hp164 hw => ?_)
        obtain ⟨hT, k166, hg169⟩ := hp164
        have hF := hF.tr k166 (by decide)
        have c170 := k166.gi kM_at12 (by decide) c153
        have c171 := k166.gi kM_at12 (by decide) c156
        obtain ⟨g167, g168⟩ := hg169
        refine lv_if_ne (tgt := 64) hx hb dX12_ways_57 (by decide) (fun c172 => ?_) (fun c172 => ?_)
        · have c172 : ¬ r163.toInt = (0 : Int) := wk_eqF c172
          refine lv_iconst (v := 1) hx hb dX12_ways_64 (by decide) ?_
          refine lv_iadd hx hb dX12_ways_65 ?_
          refine lv_topi (fun x173 ex173 => ?_)
          have ex173 : x173.toInt = v36_3.toInt + (1 : Int) := by rw [ex173]; exact wk_add (show (-2147483648) ≤ v36_3.toInt + (1 : Int) by omega) (show v36_3.toInt + (1 : Int) ≤ 2147483647 by omega)
          refine lv_istore_n (lv' := [(3, .int x173), (0, .ref (ad 0)), (1, .int a1), (2, .int a2), (4, .int v36_4)]) hx hb dX12_ways_66 rfl hl (by decide) rfl (fun ls hl => ?_)
          obtain ⟨x174, ex174⟩ : ∃ y : Int32, y = v36_4 + Int32.ofInt 1 := ⟨_, rfl⟩
          refine lv_iinc (v := x174) (lv' := [(4, .int x174), (3, .int x173), (0, .ref (ad 0)), (1, .int a1), (2, .int a2)]) hx hb dX12_ways_67 hl (k := 4) rfl ex174.symm (by decide) rfl (fun ls hl => ?_)
          have ex174 : x174.toInt = v36_4.toInt + 1 := by rw [ex174]; exact wk_add (y := 1) (show -2147483648 ≤ v36_4.toInt + 1 by omega) (show v36_4.toInt + 1 ≤ 2147483647 by omega)
          refine lv_goto (tgt := 36) hx hb dX12_ways_70 (by decide) ?_
          exact ih36 x173 x174 f36_12_0 H locs ls w165 (show 0 ≤ a1.toInt by omega) (show a1.toInt ≤ 6 by omega) (show 0 ≤ a2.toInt by omega) (show a2.toInt ≤ 1 by omega) (show 0 ≤ x173.toInt by omega) (show x173.toInt ≤ 12 by omega) (show 0 ≤ x174.toInt by omega) (show x174.toInt ≤ 12 by omega) (show 1 ≤ f36_12_0.toInt by omega) (show f36_12_0.toInt ≤ 10 by omega) (show x173.toInt ≤ x174.toInt + 0 by omega) (show (12 - x174.toInt).toNat < n36 by omega) hw hT hF c170 (lv_sub hl [2, 3, 4, 1, 0] rfl)
        · have c172 : r163.toInt = (0 : Int) := wk_eq.mp c172
          refine lv_iconst (v := 0) hx hb dX12_ways_60 (by decide) ?_
          refine lv_goto (tgt := 65) hx hb dX12_ways_61 (by decide) ?_
          refine lv_iadd hx hb dX12_ways_65 ?_
          refine lv_topi (fun x175 ex175 => ?_)
          have ex175 : x175.toInt = v36_3.toInt + (0 : Int) := by rw [ex175]; exact wk_add (show (-2147483648) ≤ v36_3.toInt + (0 : Int) by omega) (show v36_3.toInt + (0 : Int) ≤ 2147483647 by omega)
          refine lv_istore_n (lv' := [(3, .int x175), (0, .ref (ad 0)), (1, .int a1), (2, .int a2), (4, .int v36_4)]) hx hb dX12_ways_66 rfl hl (by decide) rfl (fun ls hl => ?_)
          obtain ⟨x176, ex176⟩ : ∃ y : Int32, y = v36_4 + Int32.ofInt 1 := ⟨_, rfl⟩
          refine lv_iinc (v := x176) (lv' := [(4, .int x176), (3, .int x175), (0, .ref (ad 0)), (1, .int a1), (2, .int a2)]) hx hb dX12_ways_67 hl (k := 4) rfl ex176.symm (by decide) rfl (fun ls hl => ?_)
          have ex176 : x176.toInt = v36_4.toInt + 1 := by rw [ex176]; exact wk_add (y := 1) (show -2147483648 ≤ v36_4.toInt + 1 by omega) (show v36_4.toInt + 1 ≤ 2147483647 by omega)
          refine lv_goto (tgt := 36) hx hb dX12_ways_70 (by decide) ?_
          exact ih36 x175 x176 f36_12_0 H locs ls w165 (show 0 ≤ a1.toInt by omega) (show a1.toInt ≤ 6 by omega) (show 0 ≤ a2.toInt by omega) (show a2.toInt ≤ 1 by omega) (show 0 ≤ x175.toInt by omega) (show x175.toInt ≤ 12 by omega) (show 0 ≤ x176.toInt by omega) (show x176.toInt ≤ 12 by omega) (show 1 ≤ f36_12_0.toInt by omega) (show f36_12_0.toInt ≤ 10 by omega) (show x175.toInt ≤ x176.toInt + 0 by omega) (show (12 - x176.toInt).toNat < n36 by omega) hw hT hF c170 (lv_sub hl [2, 3, 4, 1, 0] rfl)
  refine lv_aload_n hx hb dX12_ways_0 rfl (lv_at hl 0 rfl) ?_
  refine tk_Vi hC hK hw hT hA hE hSR kM_at0 (by decide) rfl (k_X12_isTown_1 l adK adV dC dI cy ad B (by omega) (by omega) qr s1    w0 s.heap.size hT ) (cwV 0 hC.2.2.2.2 gX12_ways_X12_isTown rfl rfl rfl (by decide +kernel) ⟨Nat.le_of_ble_eq_true rfl, Nat.le_of_ble_eq_true rfl⟩) rfl hl.1 rfl (Nat.le_of_ble_eq_true rfl) dX12_ways_1 (fun r177 w179 H locs hp178 hw => ?_)
  obtain ⟨hT, k180, hg185⟩ := hp178
  have hF := hF.tr k180 (by decide)
  rcases hg185 with ⟨rfl, ⟨x181, c182, rx181, tx181⟩⟩ | ⟨rfl, ⟨x183, c184, rx183, tx183⟩⟩
  · refine lv_if_eq (tgt := 29) hx hb dX12_ways_4 (by decide) (fun _ => ?_) (fun c => absurd (by decide) c)
    exact J29 x181 H locs ls w179 (show 0 ≤ x181.toInt by omega) (show x181.toInt ≤ 10 by omega)  hw hT hF c182 (lv_sub hl [0, 1, 2] rfl)
  · refine lv_if_eq (tgt := 29) hx hb dX12_ways_4 (by decide) (fun c => absurd c (by decide)) (fun _ => ?_)
    refine lv_iload_n hx hb dX12_ways_7 rfl (lv_at hl 1 rfl) ?_
    refine lv_i2l hx hb dX12_ways_8 rfl ?_
    refine lv_topl (fun x186 ex186 => ?_)
    have ex186 : x186.toInt = a1.toInt := by rw [ex186]; exact wk_i2l _
    have bx186 := wk_i32 a1
    refine lv_lconst (v := 0) hx hb dX12_ways_9 (by decide) ?_
    refine lv_ldc2 (v := 6) hx hb hC.2.2.2.1 (hC.2.2.2.2 _ (List.mem_of_getElem? (i := 1) rfl)) dX12_ways_10 ?_
    refine tk_Si hC hK hw hT hA hE hSR (k_X12_in_10 l adK adV dC dI cy ad B (by omega) (by omega) qr s1   x186 (show (-2147483648) ≤ x186.toInt by omega) (show x186.toInt ≤ 2147483647 by omega) w179 H.size hT ) (va_cwS 3 hC.2.2.2.2 gX12_ways_X12_in rfl rfl rfl (by decide +kernel) ⟨Nat.le_of_ble_eq_true rfl, Nat.le_of_ble_eq_true rfl⟩) rfl hl.1 rfl (Nat.le_of_ble_eq_true rfl) dX12_ways_13 (fun r187 w189 H locs hp188 hw => ?_)
    obtain ⟨hT, k190, hg193⟩ := hp188
    have hF := hF.tr k190 (by decide)
    have c194 := k190.gi kM_at12 (by decide) c184
    rcases hg193 with rfl | ⟨rfl, g191, g192⟩
    · refine lv_if_eq (tgt := 29) hx hb dX12_ways_16 (by decide) (fun _ => ?_) (fun c => absurd (by decide) c)
      exact J29 x183 H locs ls w189 (show 0 ≤ x183.toInt by omega) (show x183.toInt ≤ 10 by omega)  hw hT hF c194 (lv_sub hl [0, 1, 2] rfl)
    · refine lv_if_eq (tgt := 29) hx hb dX12_ways_16 (by decide) (fun c => absurd c (by decide)) (fun _ => ?_)
      refine lv_iload_n hx hb dX12_ways_19 rfl (lv_at hl 2 rfl) ?_
      refine lv_i2l hx hb dX12_ways_20 rfl ?_
      refine lv_topl (fun x195 ex195 => ?_)
      have ex195 : x195.toInt = a2.toInt := by rw [ex195]; exact wk_i2l _
      have bx195 := wk_i32 a2
      refine lv_lconst (v := 0) hx hb dX12_ways_21 (by decide) ?_
      refine lv_lconst (v := 1) hx hb dX12_ways_22 (by decide) ?_
      refine tk_Si hC hK hw hT hA hE hSR (k_X12_in_13 l adK adV dC dI cy ad B (by omega) (by omega) qr s1   x195 (show (-2147483648) ≤ x195.toInt by omega) (show x195.toInt ≤ 2147483647 by omega) w189 H.size hT ) (va_cwS 3 hC.2.2.2.2 gX12_ways_X12_in rfl rfl rfl (by decide +kernel) ⟨Nat.le_of_ble_eq_true rfl, Nat.le_of_ble_eq_true rfl⟩) rfl hl.1 rfl (Nat.le_of_ble_eq_true rfl) dX12_ways_23 (fun r196 w198 H locs hp197 hw => ?_)
      obtain ⟨hT, k199, hg202⟩ := hp197
      have hF := hF.tr k199 (by decide)
      have c203 := k199.gi kM_at12 (by decide) c194
      rcases hg202 with rfl | ⟨rfl, g200, g201⟩
      · refine lv_if_ne (tgt := 31) hx hb dX12_ways_26 (by decide) (fun c => absurd (by decide) c) (fun _ => ?_)
        exact J29 x183 H locs ls w198 (show 0 ≤ x183.toInt by omega) (show x183.toInt ≤ 10 by omega)  hw hT hF c203 (lv_sub hl [0, 1, 2] rfl)
      · refine lv_if_ne (tgt := 31) hx hb dX12_ways_26 (by decide) (fun _ => ?_) (fun c => absurd c (by decide))
        refine lv_iconst (v := 0) hx hb dX12_ways_31 (by decide) ?_
        refine lv_istore_n (lv' := [(3, .int 0), (0, .ref (ad 0)), (1, .int a1), (2, .int a2)]) hx hb dX12_ways_32 rfl hl (by decide) rfl (fun ls hl => ?_)
        refine lv_iconst (v := 0) hx hb dX12_ways_33 (by decide) ?_
        refine lv_istore (lv' := [(4, .int 0), (3, .int 0), (0, .ref (ad 0)), (1, .int a1), (2, .int a2)]) hx hb dX12_ways_34 hl (by decide) rfl (fun ls hl => ?_)
        exact L36 ((12 - (0 : Int)).toNat + 1) 0 0 x183 H locs ls w198 (show 0 ≤ a1.toInt by omega) (show a1.toInt ≤ 6 by omega) (show 0 ≤ a2.toInt by omega) (show a2.toInt ≤ 1 by omega) (by decide) (by decide) (by decide) (by decide) (show 1 ≤ x183.toInt by omega) (show x183.toInt ≤ 10 by omega) (show (0 : Int) ≤ (0 : Int) + 0 by omega) (Nat.lt_succ_self _) hw hT hF c203 (lv_sub hl [2, 3, 4, 1, 0] rfl)
abbrev P_X12_sight_1 (ad : Nat → Nat) (cy : Nat → ClassId) (B : Int) (qr : Nat) (s1 : Int) (a1 : Int32) (a2 : Int32) (w0 : va_W) : Int32 → va_W → Prop := fun r u => TW ksM ad cy B qr 12 u ∧ FE ksM [(71, 7, 7), (71, 264, 286), (71, 265, 287)] w0 u ∧ ((r = (-2)) ∨ (0 ≤ r.toInt ∧ r.toInt ≤ 12 ∧ (-1) ≤ a1.toInt ∧ a1.toInt ≤ 11 ∧ (∃ y : Int32, gi u 12 7 = y ∧ 0 ≤ y.toInt ∧ y.toInt ≤ 12)))
set_option maxHeartbeats 4000000 in
set_option maxRecDepth 100000 in
theorem k_X12_sight_1 (l : Launch) (adK adV : Nat → Nat) (dC : Nat → ClassId) (dI : Nat → Nat → Nat) (cy : Nat → ClassId) (ad : Nat → Nat) (B : Int) (hB0 : 100000 ≤ B) (hB1 : B ≤ 1073741824) (qr : Nat) (s1 : Int)  (a1 : Int32) (a2 : Int32) (w0 : va_W) (sz : Nat) (hT : TW ksM ad cy B qr 12 w0)  : Met l yX12_sight wsX12_sight ({ frames := 2, cells := 0, slots := 0, locals := 37 }) (va_Pc [.ref (ad 0), .int a1, .int a2] (wpreS adK adV dC dI cy sz w0)) (va_Qi (P_X12_sight_1 ad cy B qr s1 a1 a2 w0) (fun u : va_W => wpost dC dI cy (va_A w0 sz) u) (va_A w0 sz)) 0 0 (va_A w0 sz) := by
  refine Met.ofW (cc := cX12_sight) (maxL := 3) (ret := (some .int)) (by decide) rfl ?_
  intro p e s m args below meth c s₁ Bk hml hv
  obtain ⟨rfl, ⟨hsz, hP, hK, hD0⟩, hE, hSR⟩ := hv
  have hx := Bk.exec
  have hb := Bk.bytes
  have hr := Bk.returns
  have hlocks := Bk.notSynchronized
  have hC : CallFix p m c cX12_sight 3 s _ wsX12_sight RX12 := ⟨hx, hb, hml, findClass_of_methodNamed Bk.named, atoms_spec (ws := wsX12_sight) Bk.pre⟩
  subst hsz
  have hD := hD0.self (sz := s.heap.size)
  generalize hAe : va_A w0 s.heap.size = A at hD hE ⊢
  have hA : ∀ q : Nat, s.heap.size ≤ q → A q := fun q h => by rw [← hAe]; exact Or.inr h
  have hw : Wd dC dI A s.heap s.heap [] w0 := ⟨hP, hD, va_S.rf⟩
  have hF : FE ksM [(71, 7, 7), (71, 264, 286), (71, 265, 287)] w0 w0 := FE.rf
  have hl := lv_entry ([.ref (ad 0), .int a1, .int a2]) (n := 3) (Nat.le_of_ble_eq_true rfl)
  rw [lg_entry_eq]
  generalize (lg_sl ([.ref (ad 0), .int a1, .int a2]) ++ List.replicate (3 - (lg_sl ([.ref (ad 0), .int a1, .int a2])).length) Slot.unset).toArray = ls at hl ⊢
  have hl : lv_has ls 3 [(0, .ref (ad 0)), (1, .int a1), (2, .int a2)] := hl
  generalize hloc : ([] : List Loc) = locs at hw ⊢
  have hinX12 : ∀ w ∈ u_ws RX12 TX12 42, w ∈ wsX12_sight := fun _ h => List.mem_cons_of_mem _ (List.mem_append_right _ (h))
  have J47 : ∀ (H : Heap) (locs : List Loc) (ls : Array Slot) (w1 : va_W), Wd dC dI A s.heap H locs w1 → TW ksM ad cy B qr 12 w1 → FE ksM [(71, 7, 7), (71, 264, 286), (71, 265, 287)] w0 w1 → lv_has ls 3 [(0, .ref (ad 0)), (1, .int a1), (2, .int a2)] → W p l e ({ frames := 2, cells := 0, slots := 0, locals := 37 }) s m (List.toArray [.ref (ad 0), .int a1, .int a2]) below meth c H locs 0 0 (MQ below (va_Qi (P_X12_sight_1 ad cy B qr s1 a1 a2 w0) (fun u : va_W => wpost dC dI cy A u) A) (List.toArray [.ref (ad 0), .int a1, .int a2]) s 0 0 A) (F0 m 47 ls []) := by
    intro H locs ls w1 hw hT hF hl
    refine lv_bipush (v := (-2)) hx hb dX12_sight_47 (by decide) ?_
    exact tk_iret hC hr hlocks hK ⟨hT, hF, (Or.inl rfl)⟩ hw dX12_sight_49
  refine lv_iload_n hx hb dX12_sight_0 rfl (lv_at hl 1 rfl) ?_
  refine lv_iconst (v := (-1)) hx hb dX12_sight_1 (by decide) ?_
  refine lv_icmp_ne (tgt := 15) hx hb dX12_sight_2 (by decide) (fun c2 => ?_) (fun c2 => ?_)
  · have c2 : ¬ a1.toInt = (-1 : Int) := wk_eqF c2
    refine lv_aload_n hx hb dX12_sight_15 rfl (lv_at hl 0 rfl) ?_
    refine lv_iload_n hx hb dX12_sight_16 rfl (lv_at hl 1 rfl) ?_
    refine tk_Vi hC hK hw hT hA hE hSR kM_at0 (by decide) rfl (k_X12_isStreet_1 l adK adV dC dI cy ad B (by omega) (by omega) qr s1   a1 w0 s.heap.size hT ) (cwV 1 hC.2.2.2.2 gX12_sight_X12_isStreet rfl rfl rfl (by decide +kernel) ⟨Nat.le_of_ble_eq_true rfl, Nat.le_of_ble_eq_true rfl⟩) rfl hl.1 rfl (Nat.le_of_ble_eq_true rfl) dX12_sight_17 (fun r3 w5 H locs hp4 hw => ?_)
    obtain ⟨hT, k6, hg11⟩ := hp4
    have hF := hF.tr k6 (by decide)
    rcases hg11 with rfl | ⟨rfl, g7, g8, ⟨x9, c10, rx9, tx9⟩⟩
    · refine lv_if_eq (tgt := 47) hx hb dX12_sight_20 (by decide) (fun _ => ?_) (fun c => absurd (by decide) c)
      exact J47  H locs ls w5   hw hT hF  (lv_sub hl [0, 1, 2] rfl)
    · refine lv_if_eq (tgt := 47) hx hb dX12_sight_20 (by decide) (fun c => absurd c (by decide)) (fun _ => ?_)
      refine lv_iload_n hx hb dX12_sight_23 rfl (lv_at hl 2 rfl) ?_
      refine lv_i2l hx hb dX12_sight_24 rfl ?_
      refine lv_topl (fun x12 ex12 => ?_)
      have ex12 : x12.toInt = a2.toInt := by rw [ex12]; exact wk_i2l _
      have bx12 := wk_i32 a2
      refine lv_lconst (v := 0) hx hb dX12_sight_25 (by decide) ?_
      refine lv_ldc2 (v := 3) hx hb hC.2.2.2.1 (hC.2.2.2.2 _ (List.mem_of_getElem? (i := 2) rfl)) dX12_sight_26 ?_
      refine tk_Si hC hK hw hT hA hE hSR (k_X12_in_11 l adK adV dC dI cy ad B (by omega) (by omega) qr s1   x12 (show (-2147483648) ≤ x12.toInt by omega) (show x12.toInt ≤ 2147483647 by omega) w5 H.size hT ) (va_cwS 3 hC.2.2.2.2 gX12_sight_X12_in rfl rfl rfl (by decide +kernel) ⟨Nat.le_of_ble_eq_true rfl, Nat.le_of_ble_eq_true rfl⟩) rfl hl.1 rfl (Nat.le_of_ble_eq_true rfl) dX12_sight_29 (fun r13 w15 H locs hp14 hw => ?_)
      obtain ⟨hT, k16, hg19⟩ := hp14
      have hF := hF.tr k16 (by decide)
      have c20 := k16.gi kM_at12 (by decide) c10
      rcases hg19 with rfl | ⟨rfl, g17, g18⟩
      · refine lv_if_eq (tgt := 47) hx hb dX12_sight_32 (by decide) (fun _ => ?_) (fun c => absurd (by decide) c)
        exact J47  H locs ls w15   hw hT hF  (lv_sub hl [0, 1, 2] rfl)
      · refine lv_if_eq (tgt := 47) hx hb dX12_sight_32 (by decide) (fun c => absurd c (by decide)) (fun _ => ?_)
        refine lv_aload_n hx hb dX12_sight_35 rfl (lv_at hl 0 rfl) ?_
        refine tk_getA hC hK hw hT hinX12 kM_at0 (by decide) rfl 26 (by decide) (List.mem_of_getElem? (i := 1) rfl) rfl rfl dX12_sight_36 ?_
        refine lv_bipush (v := 7) hx hb dX12_sight_39 (by decide) ?_
        refine tk_ialdR hC hK hw hT kM_at12 rfl (by decide) (by decide) dX12_sight_41 (fun x21 c22 Ex21 => ?_)
        have bx21 := tk_rgI rfl 7 1 1 0 12 (by decide +kernel) ⟨0, by decide, by decide⟩ Ex21
        have c22 : gi w15 12 7 = x21 := c22
        refine lv_bipush (v := 12) hx hb dX12_sight_42 (by decide) ?_
        refine lv_icmp_ne (tgt := 50) hx hb dX12_sight_44 (by decide) (fun c23 => ?_) (fun c23 => ?_)
        · have c23 : ¬ x21.toInt = (12 : Int) := wk_eqF c23
          refine lv_aload_n hx hb dX12_sight_50 rfl (lv_at hl 0 rfl) ?_
          refine tk_getA hC hK hw hT hinX12 kM_at0 (by decide) rfl 26 (by decide) (List.mem_of_getElem? (i := 1) rfl) rfl rfl dX12_sight_51 ?_
          refine lv_sipush (v := 264) hx hb dX12_sight_54 (by decide) ?_
          refine lv_iconst (v := 2) hx hb dX12_sight_57 (by decide) ?_
          refine lv_aload_n hx hb dX12_sight_58 rfl (lv_at hl 0 rfl) ?_
          refine tk_getA hC hK hw hT hinX12 kM_at0 (by decide) rfl 26 (by decide) (List.mem_of_getElem? (i := 1) rfl) rfl rfl dX12_sight_59 ?_
          refine lv_bipush (v := 7) hx hb dX12_sight_62 (by decide) ?_
          refine tk_ialdR hC hK hw hT kM_at12 rfl (by decide) (by decide) dX12_sight_64 (fun x24 c25 Ex24 => ?_)
          refine wk_top x21 (c25.symm.trans c22) ?_
          refine lv_imul hx hb dX12_sight_65 ?_
          refine lv_topi (fun x26 ex26 => ?_)
          have ex26 : x26.toInt = (2 : Int) * x21.toInt := by rw [ex26]; exact wk_mul (show (-2147483648) ≤ (2 : Int) * x21.toInt by omega) (show (2 : Int) * x21.toInt ≤ 2147483647 by omega)
          refine lv_iadd hx hb dX12_sight_66 ?_
          refine lv_topi (fun x27 ex27 => ?_)
          have ex27 : x27.toInt = (264 : Int) + x26.toInt := by rw [ex27]; exact wk_add (show (-2147483648) ≤ (264 : Int) + x26.toInt by omega) (show (264 : Int) + x26.toInt ≤ 2147483647 by omega)
          refine lv_iload_n hx hb dX12_sight_67 rfl (lv_at hl 1 rfl) ?_
          refine tk_iastR hC hK hw hT kM_at12 (by decide) rfl (show 0 ≤ x27.toInt by omega) (show x27.toInt < 296 by omega) (tk_rgS rfl 264 2 12 0 11 (by decide +kernel) ⟨(x21.toInt - 0).toNat, by omega, show x27.toInt.toNat = 264 + 2 * (x21.toInt - 0).toNat by omega⟩ (show 0 ≤ a1.toInt by omega) (show a1.toInt ≤ 11 by omega)) dX12_sight_68 (fun H locs w28 hw hT k30 c29 => ?_)
          have hF := hF.put kM_at12 (inE_of (a := 264) (b := 286) (by decide) (show 264 ≤ x27.toInt.toNat by omega) (show x27.toInt.toNat ≤ 286 by omega)) k30
          have c31 := k30.gi (Or.inr (show 1 ≠ x27.toInt.toNat by omega)) c20
          have c32 := k30.gi (Or.inr (show 7 ≠ x27.toInt.toNat by omega)) c22
          refine lv_aload_n hx hb dX12_sight_69 rfl (lv_at hl 0 rfl) ?_
          refine tk_getA hC hK hw hT hinX12 kM_at0 (by decide) rfl 26 (by decide) (List.mem_of_getElem? (i := 1) rfl) rfl rfl dX12_sight_70 ?_
          refine lv_sipush (v := 264) hx hb dX12_sight_73 (by decide) ?_
          refine lv_iconst (v := 2) hx hb dX12_sight_76 (by decide) ?_
          refine lv_aload_n hx hb dX12_sight_77 rfl (lv_at hl 0 rfl) ?_
          refine tk_getA hC hK hw hT hinX12 kM_at0 (by decide) rfl 26 (by decide) (List.mem_of_getElem? (i := 1) rfl) rfl rfl dX12_sight_78 ?_
          refine lv_bipush (v := 7) hx hb dX12_sight_81 (by decide) ?_
          refine tk_ialdR hC hK hw hT kM_at12 rfl (by decide) (by decide) dX12_sight_83 (fun x33 c34 Ex33 => ?_)
          refine wk_top x21 (c34.symm.trans c32) ?_
          refine lv_imul hx hb dX12_sight_84 ?_
          refine lv_topi (fun x35 ex35 => ?_)
          have ex35 : x35.toInt = (2 : Int) * x21.toInt := by rw [ex35]; exact wk_mul (show (-2147483648) ≤ (2 : Int) * x21.toInt by omega) (show (2 : Int) * x21.toInt ≤ 2147483647 by omega)
          refine lv_iadd hx hb dX12_sight_85 ?_
          refine lv_topi (fun x36 ex36 => ?_)
          have ex36 : x36.toInt = (264 : Int) + x35.toInt := by rw [ex36]; exact wk_add (show (-2147483648) ≤ (264 : Int) + x35.toInt by omega) (show (264 : Int) + x35.toInt ≤ 2147483647 by omega)
          refine lv_iconst (v := 1) hx hb dX12_sight_86 (by decide) ?_
          refine lv_iadd hx hb dX12_sight_87 ?_
          refine lv_topi (fun x37 ex37 => ?_)
          have ex37 : x37.toInt = x36.toInt + (1 : Int) := by rw [ex37]; exact wk_add (show (-2147483648) ≤ x36.toInt + (1 : Int) by omega) (show x36.toInt + (1 : Int) ≤ 2147483647 by omega)
          refine lv_iload_n hx hb dX12_sight_88 rfl (lv_at hl 2 rfl) ?_
          refine tk_iastR hC hK hw hT kM_at12 (by decide) rfl (show 0 ≤ x37.toInt by omega) (show x37.toInt < 296 by omega) (tk_rgS rfl 265 2 12 0 3 (by decide +kernel) ⟨(x21.toInt - 0).toNat, by omega, show x37.toInt.toNat = 265 + 2 * (x21.toInt - 0).toNat by omega⟩ (show 0 ≤ a2.toInt by omega) (show a2.toInt ≤ 3 by omega)) dX12_sight_89 (fun H locs w38 hw hT k40 c39 => ?_)
          have hF := hF.put kM_at12 (inE_of (a := 265) (b := 287) (by decide) (show 265 ≤ x37.toInt.toNat by omega) (show x37.toInt.toNat ≤ 287 by omega)) k40
          have c41 := k40.gi (Or.inr (show 1 ≠ x37.toInt.toNat by omega)) c31
          have c42 := k40.gi (Or.inr (show 7 ≠ x37.toInt.toNat by omega)) c32
          refine lv_aload_n hx hb dX12_sight_90 rfl (lv_at hl 0 rfl) ?_
          refine tk_getA hC hK hw hT hinX12 kM_at0 (by decide) rfl 26 (by decide) (List.mem_of_getElem? (i := 1) rfl) rfl rfl dX12_sight_91 ?_
          refine lv_bipush (v := 7) hx hb dX12_sight_94 (by decide) ?_
          refine lv_dup2_11 hx hb dX12_sight_96 rfl rfl ?_
          refine tk_ialdR hC hK hw hT kM_at12 rfl (by decide) (by decide) dX12_sight_97 (fun x43 c44 Ex43 => ?_)
          refine wk_top x21 (c44.symm.trans c42) ?_
          refine lv_iconst (v := 1) hx hb dX12_sight_98 (by decide) ?_
          refine lv_iadd hx hb dX12_sight_99 ?_
          refine lv_topi (fun x45 ex45 => ?_)
          have ex45 : x45.toInt = x21.toInt + (1 : Int) := by rw [ex45]; exact wk_add (show (-2147483648) ≤ x21.toInt + (1 : Int) by omega) (show x21.toInt + (1 : Int) ≤ 2147483647 by omega)
          refine tk_iastR hC hK hw hT kM_at12 (by decide) rfl (by decide) (by decide) (tk_rgS rfl 7 1 1 1 12 (by decide +kernel) ⟨0, by decide, by decide⟩ (show 1 ≤ x45.toInt by omega) (show x45.toInt ≤ 12 by omega)) dX12_sight_100 (fun H locs w46 hw hT k48 c47 => ?_)
          have hF := hF.put kM_at12 (inE_of (a := 7) (b := 7) (by decide) (by decide) (by decide)) k48
          have c49 := k48.gi (Or.inr (by decide)) c41
          have c47 : gi w46 12 7 = x45 := c47
          refine lv_aload_n hx hb dX12_sight_101 rfl (lv_at hl 0 rfl) ?_
          refine tk_getA hC hK hw hT hinX12 kM_at0 (by decide) rfl 26 (by decide) (List.mem_of_getElem? (i := 1) rfl) rfl rfl dX12_sight_102 ?_
          refine lv_bipush (v := 7) hx hb dX12_sight_105 (by decide) ?_
          refine tk_ialdR hC hK hw hT kM_at12 rfl (by decide) (by decide) dX12_sight_107 (fun x50 c51 Ex50 => ?_)
          refine wk_top x45 (c51.symm.trans c47) ?_
          exact tk_iret hC hr hlocks hK ⟨hT, hF, (Or.inr ⟨(show 0 ≤ x45.toInt by omega), (show x45.toInt ≤ 12 by omega), (show (-1) ≤ a1.toInt by omega), (show a1.toInt ≤ 11 by omega), ⟨x45, c47, (show 0 ≤ x45.toInt by omega), (show x45.toInt ≤ 12 by omega)⟩⟩)⟩ hw dX12_sight_108
        · have c23 : x21.toInt = (12 : Int) := wk_eq.mp c23
          exact J47  H locs ls w15   hw hT hF  (lv_sub hl [0, 1, 2] rfl)
  · have c2 : a1.toInt = (-1 : Int) := wk_eq.mp c2
    refine lv_aload_n hx hb dX12_sight_5 rfl (lv_at hl 0 rfl) ?_
    refine tk_getA hC hK hw hT hinX12 kM_at0 (by decide) rfl 26 (by decide) (List.mem_of_getElem? (i := 1) rfl) rfl rfl dX12_sight_6 ?_
    refine lv_bipush (v := 7) hx hb dX12_sight_9 (by decide) ?_
    refine lv_iconst (v := 0) hx hb dX12_sight_11 (by decide) ?_
    refine tk_iastR hC hK hw hT kM_at12 (by decide) rfl (by decide) (by decide) (tk_rg0 rfl (show 0 ≤ B by omega) (by decide)) dX12_sight_12 (fun H locs w52 hw hT k54 c53 => ?_)
    have hF := hF.put kM_at12 (inE_of (a := 7) (b := 7) (by decide) (by decide) (by decide)) k54
    have c53 : gi w52 12 7 = 0 := c53
    refine lv_iconst (v := 0) hx hb dX12_sight_13 (by decide) ?_
    exact tk_iret hC hr hlocks hK ⟨hT, hF, (Or.inr ⟨(by decide), (by decide), (show (-1) ≤ a1.toInt by omega), (show a1.toInt ≤ 11 by omega), ⟨0, c53, (by decide), (by decide)⟩⟩)⟩ hw dX12_sight_14
abbrev P_X12_isOf_5 (ad : Nat → Nat) (cy : Nat → ClassId) (B : Int) (qr : Nat) (s1 : Int) (a0 : Int32) (a1 : Int32) (w0 : va_W) : Int32 → va_W → Prop := fun r u => TW ksM ad cy B qr 12 u ∧ FE ksM ([] : List (Nat × Nat × Nat)) w0 u ∧ ((r = 0) ∨ (r = 1))
set_option maxHeartbeats 4000000 in
set_option maxRecDepth 100000 in
theorem k_X12_isOf_5 (l : Launch) (adK adV : Nat → Nat) (dC : Nat → ClassId) (dI : Nat → Nat → Nat) (cy : Nat → ClassId) (ad : Nat → Nat) (B : Int) (hB0 : 100000 ≤ B) (hB1 : B ≤ 1073741824) (qr : Nat) (s1 : Int)  (a0 : Int32) (ra0 : 1 ≤ a0.toInt) (ta0 : a0.toInt ≤ 127) (a1 : Int32) (ra1 : 0 ≤ a1.toInt) (ta1 : a1.toInt ≤ 6) (w0 : va_W) (sz : Nat) (hT : TW ksM ad cy B qr 12 w0)  : Met l yX12_isOf wsX12_isOf ({ frames := 1, cells := 0, slots := 0, locals := 12 }) (va_Pc [.int a0, .int a1] (wpreS adK adV dC dI cy sz w0)) (va_Qi (P_X12_isOf_5 ad cy B qr s1 a0 a1 w0) (fun u : va_W => wpost dC dI cy (va_A w0 sz) u) (va_A w0 sz)) 0 0 (va_A w0 sz) := by
  refine Met.ofW (cc := cX12_isOf) (maxL := 2) (ret := (some .boolean)) (by decide) rfl ?_
  intro p e s m args below meth c s₁ Bk hml hv
  obtain ⟨rfl, ⟨hsz, hP, hK, hD0⟩, hE, hSR⟩ := hv
  have hx := Bk.exec
  have hb := Bk.bytes
  have hr := Bk.returns
  have hlocks := Bk.notSynchronized
  have hC : CallFix p m c cX12_isOf 2 s _ wsX12_isOf RX12 := ⟨hx, hb, hml, findClass_of_methodNamed Bk.named, atoms_spec (ws := wsX12_isOf) Bk.pre⟩
  subst hsz
  have hD := hD0.self (sz := s.heap.size)
  generalize hAe : va_A w0 s.heap.size = A at hD hE ⊢
  have hA : ∀ q : Nat, s.heap.size ≤ q → A q := fun q h => by rw [← hAe]; exact Or.inr h
  have hw : Wd dC dI A s.heap s.heap [] w0 := ⟨hP, hD, va_S.rf⟩
  have hF : FE ksM ([] : List (Nat × Nat × Nat)) w0 w0 := FE.rf
  have hl := lv_entry ([.int a0, .int a1]) (n := 2) (Nat.le_of_ble_eq_true rfl)
  rw [lg_entry_eq]
  generalize (lg_sl ([.int a0, .int a1]) ++ List.replicate (2 - (lg_sl ([.int a0, .int a1])).length) Slot.unset).toArray = ls at hl ⊢
  have hl : lv_has ls 2 [(0, .int a0), (1, .int a1)] := hl
  generalize hloc : ([] : List Loc) = locs at hw ⊢
  refine lv_iload_n hx hb dX12_isOf_0 rfl (lv_at hl 0 rfl) ?_
  refine lv_iload_n hx hb dX12_isOf_1 rfl (lv_at hl 1 rfl) ?_
  refine lv_ishr hx hb dX12_isOf_2 ?_
  refine lv_topi (fun x1 ex1 => ?_)
  have bx1 : 0 ≤ x1.toInt ∧ x1.toInt ≤ a0.toInt := by rw [ex1]; exact wk_shr (by omega)
  refine lv_iconst (v := 1) hx hb dX12_isOf_3 (by decide) ?_
  refine lv_iand hx hb dX12_isOf_4 ?_
  refine lv_topi (fun x2 ex2 => ?_)
  have bx2 : 0 ≤ x2.toInt ∧ x2.toInt ≤ (1 : Int) := by rw [ex2]; exact wk_and (by decide)
  refine lv_iconst (v := 1) hx hb dX12_isOf_5 (by decide) ?_
  refine lv_icmp_ne (tgt := 13) hx hb dX12_isOf_6 (by decide) (fun c3 => ?_) (fun c3 => ?_)
  · have c3 : ¬ x2.toInt = (1 : Int) := wk_eqF c3
    refine lv_iconst (v := 0) hx hb dX12_isOf_13 (by decide) ?_
    exact tk_zret hC hr rfl hlocks hK ⟨hT, hF, (Or.inl rfl)⟩ hw dX12_isOf_14
  · have c3 : x2.toInt = (1 : Int) := wk_eq.mp c3
    refine lv_iconst (v := 1) hx hb dX12_isOf_9 (by decide) ?_
    refine lv_goto (tgt := 14) hx hb dX12_isOf_10 (by decide) ?_
    exact tk_zret hC hr rfl hlocks hK ⟨hT, hF, (Or.inr rfl)⟩ hw dX12_isOf_14
abbrev P_X12_streetOf_5 (ad : Nat → Nat) (cy : Nat → ClassId) (B : Int) (qr : Nat) (s1 : Int) (a1 : Int32) (a2 : Int32) (w0 : va_W) : Int32 → va_W → Prop := fun r u => TW ksM ad cy B qr 12 u ∧ FE ksM ([] : List (Nat × Nat × Nat)) w0 u ∧ ((0 ≤ r.toInt ∧ r.toInt ≤ 9))
set_option maxHeartbeats 4000000 in
set_option maxRecDepth 100000 in
theorem k_X12_streetOf_5 (l : Launch) (adK adV : Nat → Nat) (dC : Nat → ClassId) (dI : Nat → Nat → Nat) (cy : Nat → ClassId) (ad : Nat → Nat) (B : Int) (hB0 : 100000 ≤ B) (hB1 : B ≤ 1073741824) (qr : Nat) (s1 : Int)  (a1 : Int32) (ra1 : 1 ≤ a1.toInt) (ta1 : a1.toInt ≤ 11) (a2 : Int32) (ra2 : 3 ≤ a2.toInt) (ta2 : a2.toInt ≤ 9) (w0 : va_W) (sz : Nat) (hT : TW ksM ad cy B qr 12 w0)  : Met l yX12_streetOf wsX12_streetOf ({ frames := 1, cells := 0, slots := 0, locals := 12 }) (va_Pc [.ref (ad 0), .int a1, .int a2] (wpreS adK adV dC dI cy sz w0)) (va_Qi (P_X12_streetOf_5 ad cy B qr s1 a1 a2 w0) (fun u : va_W => wpost dC dI cy (va_A w0 sz) u) (va_A w0 sz)) 0 0 (va_A w0 sz) := by
  refine Met.ofW (cc := cX12_streetOf) (maxL := 3) (ret := (some .int)) (by decide) rfl ?_
  intro p e s m args below meth c s₁ Bk hml hv
  obtain ⟨rfl, ⟨hsz, hP, hK, hD0⟩, hE, hSR⟩ := hv
  have hx := Bk.exec
  have hb := Bk.bytes
  have hr := Bk.returns
  have hlocks := Bk.notSynchronized
  have hC : CallFix p m c cX12_streetOf 3 s _ wsX12_streetOf RX12 := ⟨hx, hb, hml, findClass_of_methodNamed Bk.named, atoms_spec (ws := wsX12_streetOf) Bk.pre⟩
  subst hsz
  have hD := hD0.self (sz := s.heap.size)
  generalize hAe : va_A w0 s.heap.size = A at hD hE ⊢
  have hA : ∀ q : Nat, s.heap.size ≤ q → A q := fun q h => by rw [← hAe]; exact Or.inr h
  have hw : Wd dC dI A s.heap s.heap [] w0 := ⟨hP, hD, va_S.rf⟩
  have hF : FE ksM ([] : List (Nat × Nat × Nat)) w0 w0 := FE.rf
  have hl := lv_entry ([.ref (ad 0), .int a1, .int a2]) (n := 3) (Nat.le_of_ble_eq_true rfl)
  rw [lg_entry_eq]
  generalize (lg_sl ([.ref (ad 0), .int a1, .int a2]) ++ List.replicate (3 - (lg_sl ([.ref (ad 0), .int a1, .int a2])).length) Slot.unset).toArray = ls at hl ⊢
  have hl : lv_has ls 3 [(0, .ref (ad 0)), (1, .int a1), (2, .int a2)] := hl
  generalize hloc : ([] : List Loc) = locs at hw ⊢
  have hinX12 : ∀ w ∈ u_ws RX12 TX12 42, w ∈ wsX12_streetOf := fun _ h => List.mem_cons_of_mem _ (List.mem_append_right _ (h))
  refine lv_aload_n hx hb dX12_streetOf_0 rfl (lv_at hl 0 rfl) ?_
  refine tk_getA hC hK hw hT hinX12 kM_at0 (by decide) rfl 26 (by decide) (List.mem_of_getElem? (i := 1) rfl) rfl rfl dX12_streetOf_1 ?_
  refine lv_bipush (v := 10) hx hb dX12_streetOf_4 (by decide) ?_
  refine lv_bipush (v := 10) hx hb dX12_streetOf_6 (by decide) ?_
  refine lv_iload_n hx hb dX12_streetOf_8 rfl (lv_at hl 1 rfl) ?_
  refine lv_imul hx hb dX12_streetOf_9 ?_
  refine lv_topi (fun x1 ex1 => ?_)
  have ex1 : x1.toInt = (10 : Int) * a1.toInt := by rw [ex1]; exact wk_mul (show (-2147483648) ≤ (10 : Int) * a1.toInt by omega) (show (10 : Int) * a1.toInt ≤ 2147483647 by omega)
  refine lv_iadd hx hb dX12_streetOf_10 ?_
  refine lv_topi (fun x2 ex2 => ?_)
  have ex2 : x2.toInt = (10 : Int) + x1.toInt := by rw [ex2]; exact wk_add (show (-2147483648) ≤ (10 : Int) + x1.toInt by omega) (show (10 : Int) + x1.toInt ≤ 2147483647 by omega)
  refine lv_iload_n hx hb dX12_streetOf_11 rfl (lv_at hl 2 rfl) ?_
  refine lv_iadd hx hb dX12_streetOf_12 ?_
  refine lv_topi (fun x3 ex3 => ?_)
  have ex3 : x3.toInt = x2.toInt + a2.toInt := by rw [ex3]; exact wk_add (show (-2147483648) ≤ x2.toInt + a2.toInt by omega) (show x2.toInt + a2.toInt ≤ 2147483647 by omega)
  refine tk_ialdR hC hK hw hT kM_at12 rfl (show 0 ≤ x3.toInt by omega) (show x3.toInt < 296 by omega) dX12_streetOf_13 (fun x4 c5 Ex4 => ?_)
  have bx4 := tk_rgI rfl 23 1 107 0 9 (by decide +kernel) ⟨(x3.toInt - 23).toNat, by omega, show x3.toInt.toNat = 23 + 1 * (x3.toInt - 23).toNat by omega⟩ Ex4
  exact tk_iret hC hr hlocks hK ⟨hT, hF, ⟨(show 0 ≤ x4.toInt by omega), (show x4.toInt ≤ 9 by omega)⟩⟩ hw dX12_streetOf_14
abbrev P_X12_mostAlike_1 (ad : Nat → Nat) (cy : Nat → ClassId) (B : Int) (qr : Nat) (s1 : Int) (a1 : Int32) (a2 : Int32) (w0 : va_W) : Int32 → va_W → Prop := fun r u => TW ksM ad cy B qr 12 u ∧ FE ksM ([] : List (Nat × Nat × Nat)) w0 u ∧ ((0 ≤ r.toInt))
set_option maxHeartbeats 4000000 in
set_option maxRecDepth 100000 in
theorem k_X12_mostAlike_1 (l : Launch) (adK adV : Nat → Nat) (dC : Nat → ClassId) (dI : Nat → Nat → Nat) (cy : Nat → ClassId) (ad : Nat → Nat) (B : Int) (hB0 : 100000 ≤ B) (hB1 : B ≤ 1073741824) (qr : Nat) (s1 : Int)  (a1 : Int32) (ra1 : 1 ≤ a1.toInt) (ta1 : a1.toInt ≤ 11) (a2 : Int32) (ra2 : 1 ≤ a2.toInt) (ta2 : a2.toInt ≤ 127) (w0 : va_W) (sz : Nat) (hT : TW ksM ad cy B qr 12 w0)  : Met l yX12_mostAlike wsX12_mostAlike ({ frames := 2, cells := 0, slots := 0, locals := 34 }) (va_Pc [.ref (ad 0), .int a1, .int a2] (wpreS adK adV dC dI cy sz w0)) (va_Qi (P_X12_mostAlike_1 ad cy B qr s1 a1 a2 w0) (fun u : va_W => wpost dC dI cy (va_A w0 sz) u) (va_A w0 sz)) 0 0 (va_A w0 sz) := by
  refine Met.ofW (cc := cX12_mostAlike) (maxL := 7) (ret := (some .int)) (by decide) rfl ?_
  intro p e s m args below meth c s₁ Bk hml hv
  obtain ⟨rfl, ⟨hsz, hP, hK, hD0⟩, hE, hSR⟩ := hv
  have hx := Bk.exec
  have hb := Bk.bytes
  have hr := Bk.returns
  have hlocks := Bk.notSynchronized
  have hC : CallFix p m c cX12_mostAlike 7 s _ wsX12_mostAlike RX12 := ⟨hx, hb, hml, findClass_of_methodNamed Bk.named, atoms_spec (ws := wsX12_mostAlike) Bk.pre⟩
  subst hsz
  have hD := hD0.self (sz := s.heap.size)
  generalize hAe : va_A w0 s.heap.size = A at hD hE ⊢
  have hA : ∀ q : Nat, s.heap.size ≤ q → A q := fun q h => by rw [← hAe]; exact Or.inr h
  have hw : Wd dC dI A s.heap s.heap [] w0 := ⟨hP, hD, va_S.rf⟩
  have hF : FE ksM ([] : List (Nat × Nat × Nat)) w0 w0 := FE.rf
  have hl := lv_entry ([.ref (ad 0), .int a1, .int a2]) (n := 7) (Nat.le_of_ble_eq_true rfl)
  rw [lg_entry_eq]
  generalize (lg_sl ([.ref (ad 0), .int a1, .int a2]) ++ List.replicate (7 - (lg_sl ([.ref (ad 0), .int a1, .int a2])).length) Slot.unset).toArray = ls at hl ⊢
  have hl : lv_has ls 7 [(0, .ref (ad 0)), (1, .int a1), (2, .int a2)] := hl
  generalize hloc : ([] : List Loc) = locs at hw ⊢
  have L5 : ∀ (n5 : Nat) (v5_3 : Int32) (v5_4 : Int32) (H : Heap) (locs : List Loc) (ls : Array Slot) (w1 : va_W), 1 ≤ a1.toInt → a1.toInt ≤ 11 → 1 ≤ a2.toInt → a2.toInt ≤ 127 → 0 ≤ v5_3.toInt → 0 ≤ v5_4.toInt → v5_4.toInt ≤ 4 → (4 - v5_4.toInt).toNat < n5 → Wd dC dI A s.heap H locs w1 → TW ksM ad cy B qr 12 w1 → FE ksM ([] : List (Nat × Nat × Nat)) w0 w1 → lv_has ls 7 [(0, .ref (ad 0)), (1, .int a1), (2, .int a2), (3, .int v5_3), (4, .int v5_4)] → W p l e ({ frames := 2, cells := 0, slots := 0, locals := 34 }) s m (List.toArray [.ref (ad 0), .int a1, .int a2]) below meth c H locs 0 0 (MQ below (va_Qi (P_X12_mostAlike_1 ad cy B qr s1 a1 a2 w0) (fun u : va_W => wpost dC dI cy A u) A) (List.toArray [.ref (ad 0), .int a1, .int a2]) s 0 0 A) (F0 m 5 ls []) := by
    intro n5
    induction n5 with
    | zero => intro v5_3 v5_4 H locs ls w1 r2 t3 r4 t5 r6 r7 t8 hm5 hw hT hF hl; omega
    | succ n5 ih5 =>
      intro v5_3 v5_4 H locs ls w1 r2 t3 r4 t5 r6 r7 t8 hm5 hw hT hF hl
      have L17 : ∀ (n17 : Nat) (v17_5 : Int32) (v17_6 : Int32) (H : Heap) (locs : List Loc) (ls : Array Slot) (w9 : va_W), 1 ≤ a1.toInt → a1.toInt ≤ 11 → 1 ≤ a2.toInt → a2.toInt ≤ 127 → 0 ≤ v5_3.toInt → 0 ≤ v5_4.toInt → v5_4.toInt ≤ 3 → 0 ≤ v17_6.toInt → v17_6.toInt ≤ 7 → (7 - v17_6.toInt).toNat < n17 → Wd dC dI A s.heap H locs w9 → TW ksM ad cy B qr 12 w9 → FE ksM ([] : List (Nat × Nat × Nat)) w0 w9 → lv_has ls 7 [(0, .ref (ad 0)), (1, .int a1), (2, .int a2), (3, .int v5_3), (4, .int v5_4), (5, .int v17_5), (6, .int v17_6)] → W p l e ({ frames := 2, cells := 0, slots := 0, locals := 34 }) s m (List.toArray [.ref (ad 0), .int a1, .int a2]) below meth c H locs 0 0 (MQ below (va_Qi (P_X12_mostAlike_1 ad cy B qr s1 a1 a2 w0) (fun u : va_W => wpost dC dI cy A u) A) (List.toArray [.ref (ad 0), .int a1, .int a2]) s 0 0 A) (F0 m 17 ls []) := by
        intro n17
        induction n17 with
        | zero => intro v17_5 v17_6 H locs ls w9 r10 t11 r12 t13 r14 r15 t16 r17 t18 hm17 hw hT hF hl; omega
        | succ n17 ih17 =>
          intro v17_5 v17_6 H locs ls w9 r10 t11 r12 t13 r14 r15 t16 r17 t18 hm17 hw hT hF hl
          refine lv_iload hx hb dX12_mostAlike_17 (lv_at hl 6 rfl) ?_
          refine lv_bipush (v := 7) hx hb dX12_mostAlike_19 (by decide) ?_
          refine lv_icmp_ge (tgt := 63) hx hb dX12_mostAlike_21 (by decide) (fun c19 => ?_) (fun c19 => ?_)
          · have c19 : (7 : Int) ≤ v17_6.toInt := wk_le.mp c19
            refine lv_iload hx hb dX12_mostAlike_63 (lv_at hl 5 rfl) ?_
            refine lv_iload_n hx hb dX12_mostAlike_65 rfl (lv_at hl 3 rfl) ?_
            refine lv_icmp_le (tgt := 74) hx hb dX12_mostAlike_66 (by decide) (fun c20 => ?_) (fun c20 => ?_)
            · have c20 : v17_5.toInt ≤ v5_3.toInt := wk_le.mp c20
              refine lv_iload_n hx hb dX12_mostAlike_74 rfl (lv_at hl 3 rfl) ?_
              refine lv_istore_n (lv' := [(3, .int v5_3), (0, .ref (ad 0)), (1, .int a1), (2, .int a2), (4, .int v5_4), (5, .int v17_5), (6, .int v17_6)]) hx hb dX12_mostAlike_75 rfl hl (by decide) rfl (fun ls hl => ?_)
              obtain ⟨x21, ex21⟩ : ∃ y : Int32, y = v5_4 + Int32.ofInt 1 := ⟨_, rfl⟩
              refine lv_iinc (v := x21) (lv' := [(4, .int x21), (3, .int v5_3), (0, .ref (ad 0)), (1, .int a1), (2, .int a2), (5, .int v17_5), (6, .int v17_6)]) hx hb dX12_mostAlike_76 hl (k := 4) rfl ex21.symm (by decide) rfl (fun ls hl => ?_)
              have ex21 : x21.toInt = v5_4.toInt + 1 := by rw [ex21]; exact wk_add (y := 1) (show -2147483648 ≤ v5_4.toInt + 1 by omega) (show v5_4.toInt + 1 ≤ 2147483647 by omega)
              refine lv_goto (tgt := 5) hx hb dX12_mostAlike_79 (by decide) ?_
              exact ih5 v5_3 x21 H locs ls w9 (show 1 ≤ a1.toInt by omega) (show a1.toInt ≤ 11 by omega) (show 1 ≤ a2.toInt by omega) (show a2.toInt ≤ 127 by omega) (show 0 ≤ v5_3.toInt by omega) (show 0 ≤ x21.toInt by omega) (show x21.toInt ≤ 4 by omega) (show (4 - x21.toInt).toNat < n5 by omega) hw hT hF  (lv_sub hl [2, 3, 4, 1, 0] rfl)
            · have c20 : v5_3.toInt < v17_5.toInt := wk_leF c20
              refine lv_iload hx hb dX12_mostAlike_69 (lv_at hl 5 rfl) ?_
              refine lv_goto (tgt := 75) hx hb dX12_mostAlike_71 (by decide) ?_
              refine lv_istore_n (lv' := [(3, .int v17_5), (0, .ref (ad 0)), (1, .int a1), (2, .int a2), (4, .int v5_4), (5, .int v17_5), (6, .int v17_6)]) hx hb dX12_mostAlike_75 rfl hl (by decide) rfl (fun ls hl => ?_)
              obtain ⟨x22, ex22⟩ : ∃ y : Int32, y = v5_4 + Int32.ofInt 1 := ⟨_, rfl⟩
              refine lv_iinc (v := x22) (lv' := [(4, .int x22), (3, .int v17_5), (0, .ref (ad 0)), (1, .int a1), (2, .int a2), (5, .int v17_5), (6, .int v17_6)]) hx hb dX12_mostAlike_76 hl (k := 4) rfl ex22.symm (by decide) rfl (fun ls hl => ?_)
              have ex22 : x22.toInt = v5_4.toInt + 1 := by rw [ex22]; exact wk_add (y := 1) (show -2147483648 ≤ v5_4.toInt + 1 by omega) (show v5_4.toInt + 1 ≤ 2147483647 by omega)
              refine lv_goto (tgt := 5) hx hb dX12_mostAlike_79 (by decide) ?_
              exact ih5 v17_5 x22 H locs ls w9 (show 1 ≤ a1.toInt by omega) (show a1.toInt ≤ 11 by omega) (show 1 ≤ a2.toInt by omega) (show a2.toInt ≤ 127 by omega) (show 0 ≤ v17_5.toInt by omega) (show 0 ≤ x22.toInt by omega) (show x22.toInt ≤ 4 by omega) (show (4 - x22.toInt).toNat < n5 by omega) hw hT hF  (lv_sub hl [2, 3, 4, 1, 0] rfl)
          · have c19 : v17_6.toInt < (7 : Int) := wk_leF c19
            refine lv_iload hx hb dX12_mostAlike_24 (lv_at hl 5 rfl) ?_
            refine lv_iload_n hx hb dX12_mostAlike_26 rfl (lv_at hl 2 rfl) ?_
            refine lv_iload hx hb dX12_mostAlike_27 (lv_at hl 6 rfl) ?_
            refine tk_Si hC hK hw hT hA hE hSR (k_X12_isOf_5 l adK adV dC dI cy ad B (by omega) (by omega) qr s1   a2 (show 1 ≤ a2.toInt by omega) (show a2.toInt ≤ 127 by omega) v17_6 (show 0 ≤ v17_6.toInt by omega) (show v17_6.toInt ≤ 6 by omega) w9 H.size hT ) (va_cwS 2 hC.2.2.2.2 gX12_mostAlike_X12_isOf rfl rfl rfl (by decide +kernel) ⟨Nat.le_of_ble_eq_true rfl, Nat.le_of_ble_eq_true rfl⟩) rfl hl.1 rfl (Nat.le_of_ble_eq_true rfl) dX12_mostAlike_29 (fun r23 w25 H locs hp24 hw => ?_)
            obtain ⟨hT, k26, hg27⟩ := hp24
            have hF := hF.tr k26 (by decide)
            rcases hg27 with rfl | rfl
            · refine lv_if_eq (tgt := 53) hx hb dX12_mostAlike_32 (by decide) (fun _ => ?_) (fun c => absurd (by decide) c)
              refine lv_iconst (v := 0) hx hb dX12_mostAlike_53 (by decide) ?_
              refine lv_iadd hx hb dX12_mostAlike_54 ?_
              have nx28 := wk_i32 v17_5
              refine lv_topi (fun x29 ex29 => ?_)
              have ex29 : x29.toInt = v17_5.toInt + (0 : Int) := by rw [ex29]; exact wk_add (show (-2147483648) ≤ v17_5.toInt + (0 : Int) by omega) (show v17_5.toInt + (0 : Int) ≤ 2147483647 by omega)
              refine lv_istore (lv' := [(5, .int x29), (0, .ref (ad 0)), (1, .int a1), (2, .int a2), (3, .int v5_3), (4, .int v5_4), (6, .int v17_6)]) hx hb dX12_mostAlike_55 hl (by decide) rfl (fun ls hl => ?_)
              obtain ⟨x30, ex30⟩ : ∃ y : Int32, y = v17_6 + Int32.ofInt 1 := ⟨_, rfl⟩
              refine lv_iinc (v := x30) (lv' := [(6, .int x30), (5, .int x29), (0, .ref (ad 0)), (1, .int a1), (2, .int a2), (3, .int v5_3), (4, .int v5_4)]) hx hb dX12_mostAlike_57 hl (k := 6) rfl ex30.symm (by decide) rfl (fun ls hl => ?_)
              have ex30 : x30.toInt = v17_6.toInt + 1 := by rw [ex30]; exact wk_add (y := 1) (show -2147483648 ≤ v17_6.toInt + 1 by omega) (show v17_6.toInt + 1 ≤ 2147483647 by omega)
              refine lv_goto (tgt := 17) hx hb dX12_mostAlike_60 (by decide) ?_
              exact ih17 x29 x30 H locs ls w25 (show 1 ≤ a1.toInt by omega) (show a1.toInt ≤ 11 by omega) (show 1 ≤ a2.toInt by omega) (show a2.toInt ≤ 127 by omega) (show 0 ≤ v5_3.toInt by omega) (show 0 ≤ v5_4.toInt by omega) (show v5_4.toInt ≤ 3 by omega) (show 0 ≤ x30.toInt by omega) (show x30.toInt ≤ 7 by omega) (show (7 - x30.toInt).toNat < n17 by omega) hw hT hF  (lv_sub hl [2, 3, 4, 5, 6, 1, 0] rfl)
            · refine lv_if_eq (tgt := 53) hx hb dX12_mostAlike_32 (by decide) (fun c => absurd c (by decide)) (fun _ => ?_)
              refine lv_aload_n hx hb dX12_mostAlike_35 rfl (lv_at hl 0 rfl) ?_
              refine lv_iload_n hx hb dX12_mostAlike_36 rfl (lv_at hl 1 rfl) ?_
              refine lv_iconst (v := 3) hx hb dX12_mostAlike_37 (by decide) ?_
              refine lv_iload hx hb dX12_mostAlike_38 (lv_at hl 6 rfl) ?_
              refine lv_iadd hx hb dX12_mostAlike_40 ?_
              refine lv_topi (fun x31 ex31 => ?_)
              have ex31 : x31.toInt = (3 : Int) + v17_6.toInt := by rw [ex31]; exact wk_add (show (-2147483648) ≤ (3 : Int) + v17_6.toInt by omega) (show (3 : Int) + v17_6.toInt ≤ 2147483647 by omega)
              refine tk_Vi hC hK hw hT hA hE hSR kM_at0 (by decide) rfl (k_X12_streetOf_5 l adK adV dC dI cy ad B (by omega) (by omega) qr s1   a1 (show 1 ≤ a1.toInt by omega) (show a1.toInt ≤ 11 by omega) x31 (show 3 ≤ x31.toInt by omega) (show x31.toInt ≤ 9 by omega) w25 H.size hT ) (cwV 2 hC.2.2.2.2 gX12_mostAlike_X12_streetOf rfl rfl rfl (by decide +kernel) ⟨Nat.le_of_ble_eq_true rfl, Nat.le_of_ble_eq_true rfl⟩) rfl hl.1 rfl (Nat.le_of_ble_eq_true rfl) dX12_mostAlike_41 (fun r32 w34 H locs hp33 hw => ?_)
              obtain ⟨hT, k35, hg38⟩ := hp33
              have hF := hF.tr k35 (by decide)
              obtain ⟨g36, g37⟩ := hg38
              refine lv_iload hx hb dX12_mostAlike_44 (lv_at hl 4 rfl) ?_
              refine lv_icmp_ne (tgt := 53) hx hb dX12_mostAlike_46 (by decide) (fun c39 => ?_) (fun c39 => ?_)
              · have c39 : ¬ r32.toInt = v5_4.toInt := wk_eqF c39
                refine lv_iconst (v := 0) hx hb dX12_mostAlike_53 (by decide) ?_
                refine lv_iadd hx hb dX12_mostAlike_54 ?_
                have nx40 := wk_i32 v17_5
                refine lv_topi (fun x41 ex41 => ?_)
                have ex41 : x41.toInt = v17_5.toInt + (0 : Int) := by rw [ex41]; exact wk_add (show (-2147483648) ≤ v17_5.toInt + (0 : Int) by omega) (show v17_5.toInt + (0 : Int) ≤ 2147483647 by omega)
                refine lv_istore (lv' := [(5, .int x41), (0, .ref (ad 0)), (1, .int a1), (2, .int a2), (3, .int v5_3), (4, .int v5_4), (6, .int v17_6)]) hx hb dX12_mostAlike_55 hl (by decide) rfl (fun ls hl => ?_)
                obtain ⟨x42, ex42⟩ : ∃ y : Int32, y = v17_6 + Int32.ofInt 1 := ⟨_, rfl⟩
                refine lv_iinc (v := x42) (lv' := [(6, .int x42), (5, .int x41), (0, .ref (ad 0)), (1, .int a1), (2, .int a2), (3, .int v5_3), (4, .int v5_4)]) hx hb dX12_mostAlike_57 hl (k := 6) rfl ex42.symm (by decide) rfl (fun ls hl => ?_)
                have ex42 : x42.toInt = v17_6.toInt + 1 := by rw [ex42]; exact wk_add (y := 1) (show -2147483648 ≤ v17_6.toInt + 1 by omega) (show v17_6.toInt + 1 ≤ 2147483647 by omega)
                refine lv_goto (tgt := 17) hx hb dX12_mostAlike_60 (by decide) ?_
                exact ih17 x41 x42 H locs ls w34 (show 1 ≤ a1.toInt by omega) (show a1.toInt ≤ 11 by omega) (show 1 ≤ a2.toInt by omega) (show a2.toInt ≤ 127 by omega) (show 0 ≤ v5_3.toInt by omega) (show 0 ≤ v5_4.toInt by omega) (show v5_4.toInt ≤ 3 by omega) (show 0 ≤ x42.toInt by omega) (show x42.toInt ≤ 7 by omega) (show (7 - x42.toInt).toNat < n17 by omega) hw hT hF  (lv_sub hl [2, 3, 4, 5, 6, 1, 0] rfl)
              · have c39 : r32.toInt = v5_4.toInt := wk_eq.mp c39
                refine lv_iconst (v := 1) hx hb dX12_mostAlike_49 (by decide) ?_
                refine lv_goto (tgt := 54) hx hb dX12_mostAlike_50 (by decide) ?_
                refine lv_iadd hx hb dX12_mostAlike_54 ?_
                have nx43 := wk_i32 v17_5
                refine lv_topi (fun x44 ex44 => ?_)
                refine lv_istore (lv' := [(5, .int x44), (0, .ref (ad 0)), (1, .int a1), (2, .int a2), (3, .int v5_3), (4, .int v5_4), (6, .int v17_6)]) hx hb dX12_mostAlike_55 hl (by decide) rfl (fun ls hl => ?_)
                obtain ⟨x45, ex45⟩ : ∃ y : Int32, y = v17_6 + Int32.ofInt 1 := ⟨_, rfl⟩
                refine lv_iinc (v := x45) (lv' := [(6, .int x45), (5, .int x44), (0, .ref (ad 0)), (1, .int a1), (2, .int a2), (3, .int v5_3), (4, .int v5_4)]) hx hb dX12_mostAlike_57 hl (k := 6) rfl ex45.symm (by decide) rfl (fun ls hl => ?_)
                have ex45 : x45.toInt = v17_6.toInt + 1 := by rw [ex45]; exact wk_add (y := 1) (show -2147483648 ≤ v17_6.toInt + 1 by omega) (show v17_6.toInt + 1 ≤ 2147483647 by omega)
                refine lv_goto (tgt := 17) hx hb dX12_mostAlike_60 (by decide) ?_
                exact ih17 x44 x45 H locs ls w34 (show 1 ≤ a1.toInt by omega) (show a1.toInt ≤ 11 by omega) (show 1 ≤ a2.toInt by omega) (show a2.toInt ≤ 127 by omega) (show 0 ≤ v5_3.toInt by omega) (show 0 ≤ v5_4.toInt by omega) (show v5_4.toInt ≤ 3 by omega) (show 0 ≤ x45.toInt by omega) (show x45.toInt ≤ 7 by omega) (show (7 - x45.toInt).toNat < n17 by omega) hw hT hF  (lv_sub hl [2, 3, 4, 5, 6, 1, 0] rfl)
      refine lv_iload hx hb dX12_mostAlike_5 (lv_at hl 4 rfl) ?_
      refine lv_iconst (v := 4) hx hb dX12_mostAlike_7 (by decide) ?_
      refine lv_icmp_ge (tgt := 82) hx hb dX12_mostAlike_8 (by decide) (fun c46 => ?_) (fun c46 => ?_)
      · have c46 : (4 : Int) ≤ v5_4.toInt := wk_le.mp c46
        refine lv_iload_n hx hb dX12_mostAlike_82 rfl (lv_at hl 3 rfl) ?_
        exact tk_iret hC hr hlocks hK ⟨hT, hF, (show 0 ≤ v5_3.toInt by omega)⟩ hw dX12_mostAlike_83
      · have c46 : v5_4.toInt < (4 : Int) := wk_leF c46
        refine lv_iconst (v := 0) hx hb dX12_mostAlike_11 (by decide) ?_
        refine lv_istore (lv' := [(5, .int 0), (0, .ref (ad 0)), (1, .int a1), (2, .int a2), (3, .int v5_3), (4, .int v5_4)]) hx hb dX12_mostAlike_12 hl (by decide) rfl (fun ls hl => ?_)
        refine lv_iconst (v := 0) hx hb dX12_mostAlike_14 (by decide) ?_
        refine lv_istore (lv' := [(6, .int 0), (5, .int 0), (0, .ref (ad 0)), (1, .int a1), (2, .int a2), (3, .int v5_3), (4, .int v5_4)]) hx hb dX12_mostAlike_15 hl (by decide) rfl (fun ls hl => ?_)
        exact L17 ((7 - (0 : Int)).toNat + 1) 0 0 H locs ls w1 (show 1 ≤ a1.toInt by omega) (show a1.toInt ≤ 11 by omega) (show 1 ≤ a2.toInt by omega) (show a2.toInt ≤ 127 by omega) (show 0 ≤ v5_3.toInt by omega) (show 0 ≤ v5_4.toInt by omega) (show v5_4.toInt ≤ 3 by omega) (by decide) (by decide) (Nat.lt_succ_self _) hw hT hF  (lv_sub hl [2, 3, 4, 5, 6, 1, 0] rfl)
  refine lv_iconst (v := 0) hx hb dX12_mostAlike_0 (by decide) ?_
  refine lv_istore_n (lv' := [(3, .int 0), (0, .ref (ad 0)), (1, .int a1), (2, .int a2)]) hx hb dX12_mostAlike_1 rfl hl (by decide) rfl (fun ls hl => ?_)
  refine lv_iconst (v := 0) hx hb dX12_mostAlike_2 (by decide) ?_
  refine lv_istore (lv' := [(4, .int 0), (3, .int 0), (0, .ref (ad 0)), (1, .int a1), (2, .int a2)]) hx hb dX12_mostAlike_3 hl (by decide) rfl (fun ls hl => ?_)
  exact L5 ((4 - (0 : Int)).toNat + 1) 0 0 s.heap locs ls w0 (show 1 ≤ a1.toInt by omega) (show a1.toInt ≤ 11 by omega) (show 1 ≤ a2.toInt by omega) (show a2.toInt ≤ 127 by omega) (by decide) (by decide) (by decide) (Nat.lt_succ_self _) hw hT hF  (lv_sub hl [2, 3, 4, 1, 0] rfl)
abbrev P_X12_mostAlike_2 (ad : Nat → Nat) (cy : Nat → ClassId) (B : Int) (qr : Nat) (s1 : Int) (a1 : Int32) (a2 : Int32) (w0 : va_W) : Int32 → va_W → Prop := fun r u => TW ksM ad cy B qr 12 u ∧ FE ksM ([] : List (Nat × Nat × Nat)) w0 u ∧ ((0 ≤ r.toInt))
set_option maxHeartbeats 4000000 in
set_option maxRecDepth 100000 in
theorem k_X12_mostAlike_2 (l : Launch) (adK adV : Nat → Nat) (dC : Nat → ClassId) (dI : Nat → Nat → Nat) (cy : Nat → ClassId) (ad : Nat → Nat) (B : Int) (hB0 : 100000 ≤ B) (hB1 : B ≤ 1073741824) (qr : Nat) (s1 : Int)  (a1 : Int32) (ra1 : 0 ≤ a1.toInt) (ta1 : a1.toInt ≤ 11) (a2 : Int32) (ra2 : 1 ≤ a2.toInt) (ta2 : a2.toInt ≤ 127) (w0 : va_W) (sz : Nat) (hT : TW ksM ad cy B qr 12 w0)  : Met l yX12_mostAlike wsX12_mostAlike ({ frames := 2, cells := 0, slots := 0, locals := 34 }) (va_Pc [.ref (ad 0), .int a1, .int a2] (wpreS adK adV dC dI cy sz w0)) (va_Qi (P_X12_mostAlike_2 ad cy B qr s1 a1 a2 w0) (fun u : va_W => wpost dC dI cy (va_A w0 sz) u) (va_A w0 sz)) 0 0 (va_A w0 sz) := by
  refine Met.ofW (cc := cX12_mostAlike) (maxL := 7) (ret := (some .int)) (by decide) rfl ?_
  intro p e s m args below meth c s₁ Bk hml hv
  obtain ⟨rfl, ⟨hsz, hP, hK, hD0⟩, hE, hSR⟩ := hv
  have hx := Bk.exec
  have hb := Bk.bytes
  have hr := Bk.returns
  have hlocks := Bk.notSynchronized
  have hC : CallFix p m c cX12_mostAlike 7 s _ wsX12_mostAlike RX12 := ⟨hx, hb, hml, findClass_of_methodNamed Bk.named, atoms_spec (ws := wsX12_mostAlike) Bk.pre⟩
  subst hsz
  have hD := hD0.self (sz := s.heap.size)
  generalize hAe : va_A w0 s.heap.size = A at hD hE ⊢
  have hA : ∀ q : Nat, s.heap.size ≤ q → A q := fun q h => by rw [← hAe]; exact Or.inr h
  have hw : Wd dC dI A s.heap s.heap [] w0 := ⟨hP, hD, va_S.rf⟩
  have hF : FE ksM ([] : List (Nat × Nat × Nat)) w0 w0 := FE.rf
  have hl := lv_entry ([.ref (ad 0), .int a1, .int a2]) (n := 7) (Nat.le_of_ble_eq_true rfl)
  rw [lg_entry_eq]
  generalize (lg_sl ([.ref (ad 0), .int a1, .int a2]) ++ List.replicate (7 - (lg_sl ([.ref (ad 0), .int a1, .int a2])).length) Slot.unset).toArray = ls at hl ⊢
  have hl : lv_has ls 7 [(0, .ref (ad 0)), (1, .int a1), (2, .int a2)] := hl
  generalize hloc : ([] : List Loc) = locs at hw ⊢
  have L5 : ∀ (n5 : Nat) (v5_3 : Int32) (v5_4 : Int32) (H : Heap) (locs : List Loc) (ls : Array Slot) (w1 : va_W), 0 ≤ a1.toInt → a1.toInt ≤ 11 → 1 ≤ a2.toInt → a2.toInt ≤ 127 → 0 ≤ v5_3.toInt → 0 ≤ v5_4.toInt → v5_4.toInt ≤ 4 → (4 - v5_4.toInt).toNat < n5 → Wd dC dI A s.heap H locs w1 → TW ksM ad cy B qr 12 w1 → FE ksM ([] : List (Nat × Nat × Nat)) w0 w1 → lv_has ls 7 [(0, .ref (ad 0)), (1, .int a1), (2, .int a2), (3, .int v5_3), (4, .int v5_4)] → W p l e ({ frames := 2, cells := 0, slots := 0, locals := 34 }) s m (List.toArray [.ref (ad 0), .int a1, .int a2]) below meth c H locs 0 0 (MQ below (va_Qi (P_X12_mostAlike_2 ad cy B qr s1 a1 a2 w0) (fun u : va_W => wpost dC dI cy A u) A) (List.toArray [.ref (ad 0), .int a1, .int a2]) s 0 0 A) (F0 m 5 ls []) := by
    intro n5
    induction n5 with
    | zero => intro v5_3 v5_4 H locs ls w1 r2 t3 r4 t5 r6 r7 t8 hm5 hw hT hF hl; omega
    | succ n5 ih5 =>
      intro v5_3 v5_4 H locs ls w1 r2 t3 r4 t5 r6 r7 t8 hm5 hw hT hF hl
      have L17 : ∀ (n17 : Nat) (v17_5 : Int32) (v17_6 : Int32) (H : Heap) (locs : List Loc) (ls : Array Slot) (w9 : va_W), 0 ≤ a1.toInt → a1.toInt ≤ 11 → 1 ≤ a2.toInt → a2.toInt ≤ 127 → 0 ≤ v5_3.toInt → 0 ≤ v5_4.toInt → v5_4.toInt ≤ 3 → 0 ≤ v17_6.toInt → v17_6.toInt ≤ 7 → (7 - v17_6.toInt).toNat < n17 → Wd dC dI A s.heap H locs w9 → TW ksM ad cy B qr 12 w9 → FE ksM ([] : List (Nat × Nat × Nat)) w0 w9 → lv_has ls 7 [(0, .ref (ad 0)), (1, .int a1), (2, .int a2), (3, .int v5_3), (4, .int v5_4), (5, .int v17_5), (6, .int v17_6)] → W p l e ({ frames := 2, cells := 0, slots := 0, locals := 34 }) s m (List.toArray [.ref (ad 0), .int a1, .int a2]) below meth c H locs 0 0 (MQ below (va_Qi (P_X12_mostAlike_2 ad cy B qr s1 a1 a2 w0) (fun u : va_W => wpost dC dI cy A u) A) (List.toArray [.ref (ad 0), .int a1, .int a2]) s 0 0 A) (F0 m 17 ls []) := by
        intro n17
        induction n17 with
        | zero => intro v17_5 v17_6 H locs ls w9 r10 t11 r12 t13 r14 r15 t16 r17 t18 hm17 hw hT hF hl; omega
        | succ n17 ih17 =>
          intro v17_5 v17_6 H locs ls w9 r10 t11 r12 t13 r14 r15 t16 r17 t18 hm17 hw hT hF hl
          refine lv_iload hx hb dX12_mostAlike_17 (lv_at hl 6 rfl) ?_
          refine lv_bipush (v := 7) hx hb dX12_mostAlike_19 (by decide) ?_
          refine lv_icmp_ge (tgt := 63) hx hb dX12_mostAlike_21 (by decide) (fun c19 => ?_) (fun c19 => ?_)
          · have c19 : (7 : Int) ≤ v17_6.toInt := wk_le.mp c19
            refine lv_iload hx hb dX12_mostAlike_63 (lv_at hl 5 rfl) ?_
            refine lv_iload_n hx hb dX12_mostAlike_65 rfl (lv_at hl 3 rfl) ?_
            refine lv_icmp_le (tgt := 74) hx hb dX12_mostAlike_66 (by decide) (fun c20 => ?_) (fun c20 => ?_)
            · have c20 : v17_5.toInt ≤ v5_3.toInt := wk_le.mp c20
              refine lv_iload_n hx hb dX12_mostAlike_74 rfl (lv_at hl 3 rfl) ?_
              refine lv_istore_n (lv' := [(3, .int v5_3), (0, .ref (ad 0)), (1, .int a1), (2, .int a2), (4, .int v5_4), (5, .int v17_5), (6, .int v17_6)]) hx hb dX12_mostAlike_75 rfl hl (by decide) rfl (fun ls hl => ?_)
              obtain ⟨x21, ex21⟩ : ∃ y : Int32, y = v5_4 + Int32.ofInt 1 := ⟨_, rfl⟩
              refine lv_iinc (v := x21) (lv' := [(4, .int x21), (3, .int v5_3), (0, .ref (ad 0)), (1, .int a1), (2, .int a2), (5, .int v17_5), (6, .int v17_6)]) hx hb dX12_mostAlike_76 hl (k := 4) rfl ex21.symm (by decide) rfl (fun ls hl => ?_)
              have ex21 : x21.toInt = v5_4.toInt + 1 := by rw [ex21]; exact wk_add (y := 1) (show -2147483648 ≤ v5_4.toInt + 1 by omega) (show v5_4.toInt + 1 ≤ 2147483647 by omega)
              refine lv_goto (tgt := 5) hx hb dX12_mostAlike_79 (by decide) ?_
              exact ih5 v5_3 x21 H locs ls w9 (show 0 ≤ a1.toInt by omega) (show a1.toInt ≤ 11 by omega) (show 1 ≤ a2.toInt by omega) (show a2.toInt ≤ 127 by omega) (show 0 ≤ v5_3.toInt by omega) (show 0 ≤ x21.toInt by omega) (show x21.toInt ≤ 4 by omega) (show (4 - x21.toInt).toNat < n5 by omega) hw hT hF  (lv_sub hl [2, 3, 4, 1, 0] rfl)
            · have c20 : v5_3.toInt < v17_5.toInt := wk_leF c20
              refine lv_iload hx hb dX12_mostAlike_69 (lv_at hl 5 rfl) ?_
              refine lv_goto (tgt := 75) hx hb dX12_mostAlike_71 (by decide) ?_
              refine lv_istore_n (lv' := [(3, .int v17_5), (0, .ref (ad 0)), (1, .int a1), (2, .int a2), (4, .int v5_4), (5, .int v17_5), (6, .int v17_6)]) hx hb dX12_mostAlike_75 rfl hl (by decide) rfl (fun ls hl => ?_)
              obtain ⟨x22, ex22⟩ : ∃ y : Int32, y = v5_4 + Int32.ofInt 1 := ⟨_, rfl⟩
              refine lv_iinc (v := x22) (lv' := [(4, .int x22), (3, .int v17_5), (0, .ref (ad 0)), (1, .int a1), (2, .int a2), (5, .int v17_5), (6, .int v17_6)]) hx hb dX12_mostAlike_76 hl (k := 4) rfl ex22.symm (by decide) rfl (fun ls hl => ?_)
              have ex22 : x22.toInt = v5_4.toInt + 1 := by rw [ex22]; exact wk_add (y := 1) (show -2147483648 ≤ v5_4.toInt + 1 by omega) (show v5_4.toInt + 1 ≤ 2147483647 by omega)
              refine lv_goto (tgt := 5) hx hb dX12_mostAlike_79 (by decide) ?_
              exact ih5 v17_5 x22 H locs ls w9 (show 0 ≤ a1.toInt by omega) (show a1.toInt ≤ 11 by omega) (show 1 ≤ a2.toInt by omega) (show a2.toInt ≤ 127 by omega) (show 0 ≤ v17_5.toInt by omega) (show 0 ≤ x22.toInt by omega) (show x22.toInt ≤ 4 by omega) (show (4 - x22.toInt).toNat < n5 by omega) hw hT hF  (lv_sub hl [2, 3, 4, 1, 0] rfl)
          · have c19 : v17_6.toInt < (7 : Int) := wk_leF c19
            refine lv_iload hx hb dX12_mostAlike_24 (lv_at hl 5 rfl) ?_
            refine lv_iload_n hx hb dX12_mostAlike_26 rfl (lv_at hl 2 rfl) ?_
            refine lv_iload hx hb dX12_mostAlike_27 (lv_at hl 6 rfl) ?_
            refine tk_Si hC hK hw hT hA hE hSR (k_X12_isOf_5 l adK adV dC dI cy ad B (by omega) (by omega) qr s1   a2 (show 1 ≤ a2.toInt by omega) (show a2.toInt ≤ 127 by omega) v17_6 (show 0 ≤ v17_6.toInt by omega) (show v17_6.toInt ≤ 6 by omega) w9 H.size hT ) (va_cwS 2 hC.2.2.2.2 gX12_mostAlike_X12_isOf rfl rfl rfl (by decide +kernel) ⟨Nat.le_of_ble_eq_true rfl, Nat.le_of_ble_eq_true rfl⟩) rfl hl.1 rfl (Nat.le_of_ble_eq_true rfl) dX12_mostAlike_29 (fun r23 w25 H locs hp24 hw => ?_)
            obtain ⟨hT, k26, hg27⟩ := hp24
            have hF := hF.tr k26 (by decide)
            rcases hg27 with rfl | rfl
            · refine lv_if_eq (tgt := 53) hx hb dX12_mostAlike_32 (by decide) (fun _ => ?_) (fun c => absurd (by decide) c)
              refine lv_iconst (v := 0) hx hb dX12_mostAlike_53 (by decide) ?_
              refine lv_iadd hx hb dX12_mostAlike_54 ?_
              have nx28 := wk_i32 v17_5
              refine lv_topi (fun x29 ex29 => ?_)
              have ex29 : x29.toInt = v17_5.toInt + (0 : Int) := by rw [ex29]; exact wk_add (show (-2147483648) ≤ v17_5.toInt + (0 : Int) by omega) (show v17_5.toInt + (0 : Int) ≤ 2147483647 by omega)
              refine lv_istore (lv' := [(5, .int x29), (0, .ref (ad 0)), (1, .int a1), (2, .int a2), (3, .int v5_3), (4, .int v5_4), (6, .int v17_6)]) hx hb dX12_mostAlike_55 hl (by decide) rfl (fun ls hl => ?_)
              obtain ⟨x30, ex30⟩ : ∃ y : Int32, y = v17_6 + Int32.ofInt 1 := ⟨_, rfl⟩
              refine lv_iinc (v := x30) (lv' := [(6, .int x30), (5, .int x29), (0, .ref (ad 0)), (1, .int a1), (2, .int a2), (3, .int v5_3), (4, .int v5_4)]) hx hb dX12_mostAlike_57 hl (k := 6) rfl ex30.symm (by decide) rfl (fun ls hl => ?_)
              have ex30 : x30.toInt = v17_6.toInt + 1 := by rw [ex30]; exact wk_add (y := 1) (show -2147483648 ≤ v17_6.toInt + 1 by omega) (show v17_6.toInt + 1 ≤ 2147483647 by omega)
              refine lv_goto (tgt := 17) hx hb dX12_mostAlike_60 (by decide) ?_
              exact ih17 x29 x30 H locs ls w25 (show 0 ≤ a1.toInt by omega) (show a1.toInt ≤ 11 by omega) (show 1 ≤ a2.toInt by omega) (show a2.toInt ≤ 127 by omega) (show 0 ≤ v5_3.toInt by omega) (show 0 ≤ v5_4.toInt by omega) (show v5_4.toInt ≤ 3 by omega) (show 0 ≤ x30.toInt by omega) (show x30.toInt ≤ 7 by omega) (show (7 - x30.toInt).toNat < n17 by omega) hw hT hF  (lv_sub hl [2, 3, 4, 5, 6, 1, 0] rfl)
            · refine lv_if_eq (tgt := 53) hx hb dX12_mostAlike_32 (by decide) (fun c => absurd c (by decide)) (fun _ => ?_)
              refine lv_aload_n hx hb dX12_mostAlike_35 rfl (lv_at hl 0 rfl) ?_
              refine lv_iload_n hx hb dX12_mostAlike_36 rfl (lv_at hl 1 rfl) ?_
              refine lv_iconst (v := 3) hx hb dX12_mostAlike_37 (by decide) ?_
              refine lv_iload hx hb dX12_mostAlike_38 (lv_at hl 6 rfl) ?_
              refine lv_iadd hx hb dX12_mostAlike_40 ?_
              refine lv_topi (fun x31 ex31 => ?_)
              have ex31 : x31.toInt = (3 : Int) + v17_6.toInt := by rw [ex31]; exact wk_add (show (-2147483648) ≤ (3 : Int) + v17_6.toInt by omega) (show (3 : Int) + v17_6.toInt ≤ 2147483647 by omega)
              refine tk_Vi hC hK hw hT hA hE hSR kM_at0 (by decide) rfl (k_X12_streetOf_4 l adK adV dC dI cy ad B (by omega) (by omega) qr s1   a1 (show 0 ≤ a1.toInt by omega) (show a1.toInt ≤ 11 by omega) x31 (show 3 ≤ x31.toInt by omega) (show x31.toInt ≤ 9 by omega) w25 H.size hT ) (cwV 2 hC.2.2.2.2 gX12_mostAlike_X12_streetOf rfl rfl rfl (by decide +kernel) ⟨Nat.le_of_ble_eq_true rfl, Nat.le_of_ble_eq_true rfl⟩) rfl hl.1 rfl (Nat.le_of_ble_eq_true rfl) dX12_mostAlike_41 (fun r32 w34 H locs hp33 hw => ?_)
              obtain ⟨hT, k35, hg38⟩ := hp33
              have hF := hF.tr k35 (by decide)
              obtain ⟨g36, g37⟩ := hg38
              refine lv_iload hx hb dX12_mostAlike_44 (lv_at hl 4 rfl) ?_
              refine lv_icmp_ne (tgt := 53) hx hb dX12_mostAlike_46 (by decide) (fun c39 => ?_) (fun c39 => ?_)
              · have c39 : ¬ r32.toInt = v5_4.toInt := wk_eqF c39
                refine lv_iconst (v := 0) hx hb dX12_mostAlike_53 (by decide) ?_
                refine lv_iadd hx hb dX12_mostAlike_54 ?_
                have nx40 := wk_i32 v17_5
                refine lv_topi (fun x41 ex41 => ?_)
                have ex41 : x41.toInt = v17_5.toInt + (0 : Int) := by rw [ex41]; exact wk_add (show (-2147483648) ≤ v17_5.toInt + (0 : Int) by omega) (show v17_5.toInt + (0 : Int) ≤ 2147483647 by omega)
                refine lv_istore (lv' := [(5, .int x41), (0, .ref (ad 0)), (1, .int a1), (2, .int a2), (3, .int v5_3), (4, .int v5_4), (6, .int v17_6)]) hx hb dX12_mostAlike_55 hl (by decide) rfl (fun ls hl => ?_)
                obtain ⟨x42, ex42⟩ : ∃ y : Int32, y = v17_6 + Int32.ofInt 1 := ⟨_, rfl⟩
                refine lv_iinc (v := x42) (lv' := [(6, .int x42), (5, .int x41), (0, .ref (ad 0)), (1, .int a1), (2, .int a2), (3, .int v5_3), (4, .int v5_4)]) hx hb dX12_mostAlike_57 hl (k := 6) rfl ex42.symm (by decide) rfl (fun ls hl => ?_)
                have ex42 : x42.toInt = v17_6.toInt + 1 := by rw [ex42]; exact wk_add (y := 1) (show -2147483648 ≤ v17_6.toInt + 1 by omega) (show v17_6.toInt + 1 ≤ 2147483647 by omega)
                refine lv_goto (tgt := 17) hx hb dX12_mostAlike_60 (by decide) ?_
                exact ih17 x41 x42 H locs ls w34 (show 0 ≤ a1.toInt by omega) (show a1.toInt ≤ 11 by omega) (show 1 ≤ a2.toInt by omega) (show a2.toInt ≤ 127 by omega) (show 0 ≤ v5_3.toInt by omega) (show 0 ≤ v5_4.toInt by omega) (show v5_4.toInt ≤ 3 by omega) (show 0 ≤ x42.toInt by omega) (show x42.toInt ≤ 7 by omega) (show (7 - x42.toInt).toNat < n17 by omega) hw hT hF  (lv_sub hl [2, 3, 4, 5, 6, 1, 0] rfl)
              · have c39 : r32.toInt = v5_4.toInt := wk_eq.mp c39
                refine lv_iconst (v := 1) hx hb dX12_mostAlike_49 (by decide) ?_
                refine lv_goto (tgt := 54) hx hb dX12_mostAlike_50 (by decide) ?_
                refine lv_iadd hx hb dX12_mostAlike_54 ?_
                have nx43 := wk_i32 v17_5
                refine lv_topi (fun x44 ex44 => ?_)
                refine lv_istore (lv' := [(5, .int x44), (0, .ref (ad 0)), (1, .int a1), (2, .int a2), (3, .int v5_3), (4, .int v5_4), (6, .int v17_6)]) hx hb dX12_mostAlike_55 hl (by decide) rfl (fun ls hl => ?_)
                obtain ⟨x45, ex45⟩ : ∃ y : Int32, y = v17_6 + Int32.ofInt 1 := ⟨_, rfl⟩
                refine lv_iinc (v := x45) (lv' := [(6, .int x45), (5, .int x44), (0, .ref (ad 0)), (1, .int a1), (2, .int a2), (3, .int v5_3), (4, .int v5_4)]) hx hb dX12_mostAlike_57 hl (k := 6) rfl ex45.symm (by decide) rfl (fun ls hl => ?_)
                have ex45 : x45.toInt = v17_6.toInt + 1 := by rw [ex45]; exact wk_add (y := 1) (show -2147483648 ≤ v17_6.toInt + 1 by omega) (show v17_6.toInt + 1 ≤ 2147483647 by omega)
                refine lv_goto (tgt := 17) hx hb dX12_mostAlike_60 (by decide) ?_
                exact ih17 x44 x45 H locs ls w34 (show 0 ≤ a1.toInt by omega) (show a1.toInt ≤ 11 by omega) (show 1 ≤ a2.toInt by omega) (show a2.toInt ≤ 127 by omega) (show 0 ≤ v5_3.toInt by omega) (show 0 ≤ v5_4.toInt by omega) (show v5_4.toInt ≤ 3 by omega) (show 0 ≤ x45.toInt by omega) (show x45.toInt ≤ 7 by omega) (show (7 - x45.toInt).toNat < n17 by omega) hw hT hF  (lv_sub hl [2, 3, 4, 5, 6, 1, 0] rfl)
      refine lv_iload hx hb dX12_mostAlike_5 (lv_at hl 4 rfl) ?_
      refine lv_iconst (v := 4) hx hb dX12_mostAlike_7 (by decide) ?_
      refine lv_icmp_ge (tgt := 82) hx hb dX12_mostAlike_8 (by decide) (fun c46 => ?_) (fun c46 => ?_)
      · have c46 : (4 : Int) ≤ v5_4.toInt := wk_le.mp c46
        refine lv_iload_n hx hb dX12_mostAlike_82 rfl (lv_at hl 3 rfl) ?_
        exact tk_iret hC hr hlocks hK ⟨hT, hF, (show 0 ≤ v5_3.toInt by omega)⟩ hw dX12_mostAlike_83
      · have c46 : v5_4.toInt < (4 : Int) := wk_leF c46
        refine lv_iconst (v := 0) hx hb dX12_mostAlike_11 (by decide) ?_
        refine lv_istore (lv' := [(5, .int 0), (0, .ref (ad 0)), (1, .int a1), (2, .int a2), (3, .int v5_3), (4, .int v5_4)]) hx hb dX12_mostAlike_12 hl (by decide) rfl (fun ls hl => ?_)
        refine lv_iconst (v := 0) hx hb dX12_mostAlike_14 (by decide) ?_
        refine lv_istore (lv' := [(6, .int 0), (5, .int 0), (0, .ref (ad 0)), (1, .int a1), (2, .int a2), (3, .int v5_3), (4, .int v5_4)]) hx hb dX12_mostAlike_15 hl (by decide) rfl (fun ls hl => ?_)
        exact L17 ((7 - (0 : Int)).toNat + 1) 0 0 H locs ls w1 (show 0 ≤ a1.toInt by omega) (show a1.toInt ≤ 11 by omega) (show 1 ≤ a2.toInt by omega) (show a2.toInt ≤ 127 by omega) (show 0 ≤ v5_3.toInt by omega) (show 0 ≤ v5_4.toInt by omega) (show v5_4.toInt ≤ 3 by omega) (by decide) (by decide) (Nat.lt_succ_self _) hw hT hF  (lv_sub hl [2, 3, 4, 5, 6, 1, 0] rfl)
  refine lv_iconst (v := 0) hx hb dX12_mostAlike_0 (by decide) ?_
  refine lv_istore_n (lv' := [(3, .int 0), (0, .ref (ad 0)), (1, .int a1), (2, .int a2)]) hx hb dX12_mostAlike_1 rfl hl (by decide) rfl (fun ls hl => ?_)
  refine lv_iconst (v := 0) hx hb dX12_mostAlike_2 (by decide) ?_
  refine lv_istore (lv' := [(4, .int 0), (3, .int 0), (0, .ref (ad 0)), (1, .int a1), (2, .int a2)]) hx hb dX12_mostAlike_3 hl (by decide) rfl (fun ls hl => ?_)
  exact L5 ((4 - (0 : Int)).toNat + 1) 0 0 s.heap locs ls w0 (show 0 ≤ a1.toInt by omega) (show a1.toInt ≤ 11 by omega) (show 1 ≤ a2.toInt by omega) (show a2.toInt ≤ 127 by omega) (by decide) (by decide) (by decide) (Nat.lt_succ_self _) hw hT hF  (lv_sub hl [2, 3, 4, 1, 0] rfl)
