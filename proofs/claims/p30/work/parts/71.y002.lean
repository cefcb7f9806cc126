abbrev Py_X7_isOpen_4 (ad : Nat → Nat) (cy : Nat → ClassId) (B : Int) (qr : Nat) (s1 : Int) (a1 : Int32) (a3 : Int64) (w0 : va_W) : Int32 → va_W → Prop := fun r u => TW ksC ad cy B qr s1 u ∧ FE ksC ([] : List (Nat × Nat × Nat)) w0 u ∧ Ev (fun n => m_X7_isOpen n 39 a1.toInt 1 a3.toInt 1 (sL w0)) (r.toInt, sL u) ∧ ((r = 0) ∨ (r = 1))
set_option maxHeartbeats 4000000 in
set_option maxRecDepth 100000 in
theorem ky_X7_isOpen_4 (l : Launch) (adK adV : Nat → Nat) (dC : Nat → ClassId) (dI : Nat → Nat → Nat) (cy : Nat → ClassId) (ad : Nat → Nat) (B : Int) (hB0 : 2147483648 ≤ B) (hB1 : B ≤ 1152921504606846976) (qr : Nat) (s1 : Int)  (a1 : Int32) (ra1 : 0 ≤ a1.toInt) (ta1 : a1.toInt ≤ 11) (a3 : Int64) (ra3 : 0 ≤ a3.toInt) (ta3 : a3.toInt ≤ 2305843009213693952) (w0 : va_W) (sz : Nat) (hT : TW ksC ad cy B qr s1 w0)  : Met l yX7_isOpen (wu yX7_isOpen cX7_isOpen 7 (some .boolean)) ({ frames := 2, cells := 0, slots := 0, locals := 39 }) (va_Pc [.ref (ad 39), .int a1, .int 1, .long a3, .int 1] (wpreS adK adV dC dI cy sz w0)) (va_Qi (Py_X7_isOpen_4 ad cy B qr s1 a1 a3 w0) (fun u : va_W => wpost dC dI cy (va_A w0 sz) u) (va_A w0 sz)) 0 0 (va_A w0 sz) := by
  refine Met.ofW (cc := cX7_isOpen) (maxL := 7) (ret := (some .boolean)) (by decide) rfl ?_
  intro p e s m args below meth c s₁ Bk hml hv
  obtain ⟨rfl, ⟨hsz, hP, hK, hD0⟩, hE, hSR⟩ := hv
  have hx := Bk.exec
  have hb := Bk.bytes
  have hr := Bk.returns
  have hlocks := Bk.notSynchronized
  have hC : CallFix p m c cX7_isOpen 7 s _ (wu yX7_isOpen cX7_isOpen 7 (some .boolean)) RX7 := ⟨hx, hb, hml, findClass_of_methodNamed Bk.named, atoms_spec (ws := (wu yX7_isOpen cX7_isOpen 7 (some .boolean))) Bk.pre⟩
  subst hsz
  have hD := hD0.self (sz := s.heap.size)
  generalize hAe : va_A w0 s.heap.size = A at hD hE ⊢
  have hA : ∀ q : Nat, s.heap.size ≤ q → A q := fun q h => by rw [← hAe]; exact Or.inr h
  have hw : Wd dC dI A s.heap s.heap [] w0 := ⟨hP, hD, va_S.rf⟩
  have hF : FE ksC ([] : List (Nat × Nat × Nat)) w0 w0 := FE.rf
  have hl := lv_entry ([.ref (ad 39), .int a1, .int 1, .long a3, .int 1]) (n := 7) (Nat.le_of_ble_eq_true rfl)
  rw [lg_entry_eq]
  generalize (lg_sl ([.ref (ad 39), .int a1, .int 1, .long a3, .int 1]) ++ List.replicate (7 - (lg_sl ([.ref (ad 39), .int a1, .int 1, .long a3, .int 1])).length) Slot.unset).toArray = ls at hl ⊢
  have hl : lv_has ls 7 [(0, .ref (ad 39)), (1, .int a1), (2, .int 1), (3, .long a3), (5, .int 1)] := hl
  generalize hloc : ([] : List Loc) = locs at hw ⊢
  have hM : TT (fun n => m_X7_isOpen n 39 a1.toInt 1 a3.toInt 1 (sL w0)) (fun n => m_X7_isOpen n 39 a1.toInt 1 a3.toInt 1 (sL w0)) := TT.rf
  refine lv_aload_n hx hb dX7_isOpen_0 rfl (lv_at hl 0 rfl) ?_
  refine lv_iload_n hx hb dX7_isOpen_1 rfl (lv_at hl 1 rfl) ?_
  refine lv_iload_n hx hb dX7_isOpen_2 rfl (lv_at hl 2 rfl) ?_
  refine lv_lload_n hx hb dX7_isOpen_3 rfl (lv_at hl 3 rfl) ?_
  refine lv_ldc2 (v := 24) hx hb hC.2.2.2.1 (hC.2.2.2.2 _ (List.mem_cons_of_mem _ uw_31_10)) dX7_isOpen_4 ?_
  refine lv_ldiv hx hb dX7_isOpen_7 (by decide) ?_
  refine lv_topl (fun x1 ex1 => ?_)
  have ezx1 := ex1
  have ex1 : x1.toInt = a3.toInt / (24 : Int) := by rw [ex1]; exact wk_divl (show 0 ≤ a3.toInt from ra3) (show 0 < (24 : Int) by decide)
  replace hM := hM.lt ex1.symm
  refine lv_iload hx hb dX7_isOpen_8 (lv_at hl 4 rfl) ?_
  refine tk_Vi hC hK hw hT hA hE hSR kC_at39 (by decide) rfl (ky_X7_openHours_4 l adK adV dC dI cy ad B hB0 (Int.le_trans hB1 (by decide)) qr s1   a1 (show 0 ≤ a1.toInt from ra1) (show a1.toInt ≤ 11 from ta1) x1 (show 0 ≤ x1.toInt by first | with_reducible assumption | omega) (show x1.toInt ≤ 96076792050570581 by first | with_reducible assumption | omega) w0 s.heap.size hT ) (cwV 4 hC.2.2.2.2 uV_RX7_148 rfl rfl rfl (by decide +kernel) ⟨Nat.le_of_ble_eq_true rfl, Nat.le_of_ble_eq_true rfl⟩) rfl hl.1 rfl (Nat.le_of_ble_eq_true rfl) dX7_isOpen_10 (fun r2 w4 H locs hp3 hw => ?_)
  obtain ⟨hT, k5, hv9, hg8⟩ := hp3
  have hF := hF.tr k5 (by decide)
  obtain ⟨g6, g7⟩ := hg8
  replace hM := hM.call hv9 rfl
  refine lv_istore (lv' := [(6, .int r2), (0, .ref (ad 39)), (1, .int a1), (2, .int 1), (3, .long a3), (5, .int 1)]) hx hb dX7_isOpen_13 hl (by decide) rfl (fun ls hl => ?_)
  refine lv_iload hx hb dX7_isOpen_15 (lv_at hl 0 rfl) ?_
  refine lv_lload_n hx hb dX7_isOpen_17 rfl (lv_at hl 4 rfl) ?_
  refine lv_ldc2 (v := 24) hx hb hC.2.2.2.1 (hC.2.2.2.2 _ (List.mem_cons_of_mem _ uw_31_10)) dX7_isOpen_18 ?_
  refine lv_lrem hx hb dX7_isOpen_21 (by decide) ?_
  refine lv_topl (fun x10 ex10 => ?_)
  have ezx10 := ex10
  have ex10 : x10.toInt = a3.toInt % (24 : Int) := by rw [ex10]; exact wk_reml (show 0 ≤ a3.toInt from ra3) (show 0 < (24 : Int) by decide)
  replace hM := hM.lt ex10.symm
  refine lv_l2i hx hb dX7_isOpen_22 rfl ?_
  refine lv_topi (fun x11 ex11 => ?_)
  have ex11 : x11.toInt = x10.toInt := by rw [ex11]; exact wk_l2i (by omega) (by omega)
  replace hM := hM.lt ex11.symm
  refine lv_ishr hx hb dX7_isOpen_23 ?_
  refine lv_topi (fun x12 ex12 => ?_)
  have ezx12 := ex12
  have bx12 : 0 ≤ x12.toInt ∧ x12.toInt ≤ r2.toInt := by rw [ex12]; exact wk_shr (by omega)
  replace hM := hM.lt (o32_e (f := fun x y => x >>> (y &&& 31)) ezx12 rfl rfl)
  refine lv_iconst (v := 1) hx hb dX7_isOpen_24 (by decide) ?_
  refine lv_iand hx hb dX7_isOpen_25 ?_
  refine lv_topi (fun x13 ex13 => ?_)
  have ezx13 := ex13
  have bx13 : 0 ≤ x13.toInt ∧ x13.toInt ≤ (1 : Int) := by rw [ex13]; exact wk_and (by decide)
  replace hM := hM.lt (o32_e (f := fun x y => x &&& y) ezx13 rfl (by decide))
  refine lv_if_eq (tgt := 33) hx hb dX7_isOpen_26 (by decide) (fun c14 => ?_) (fun c14 => ?_)
  · have c14 : x13.toInt = (0 : Int) := wk_eq.mp c14
    replace hM := hM.pos c14
    refine lv_iconst (v := 0) hx hb dX7_isOpen_33 (by decide) ?_
    exact tk_zret hC hr rfl hlocks hK ⟨hT, hF, hM.ret (by decide), (Or.inl rfl)⟩ hw dX7_isOpen_34
  · have c14 : ¬ x13.toInt = (0 : Int) := wk_eqF c14
    replace hM := hM.neg c14
    refine lv_iconst (v := 1) hx hb dX7_isOpen_29 (by decide) ?_
    refine lv_goto (tgt := 34) hx hb dX7_isOpen_30 (by decide) ?_
    exact tk_zret hC hr rfl hlocks hK ⟨hT, hF, hM.ret (by decide), (Or.inr rfl)⟩ hw dX7_isOpen_34
abbrev Py_X1_isOpenFor_1 (ad : Nat → Nat) (cy : Nat → ClassId) (B : Int) (qr : Nat) (s1 : Int) (a2 : Int32) (w0 : va_W) : Int32 → va_W → Prop := fun r u => TW ksC ad cy B qr s1 u ∧ FE ksC ([] : List (Nat × Nat × Nat)) w0 u ∧ Ev (fun n => m_X1_isOpenFor n 149 152 a2.toInt (sL w0)) (r.toInt, sL u) ∧ ((r = 0) ∨ (r = 1 ∧ (∃ y : Int32, gi u 149 9 = y ∧ 0 ≤ y.toInt ∧ y.toInt ≤ 1)))
set_option maxHeartbeats 4000000 in
set_option maxRecDepth 100000 in
theorem ky_X1_isOpenFor_1 (l : Launch) (adK adV : Nat → Nat) (dC : Nat → ClassId) (dI : Nat → Nat → Nat) (cy : Nat → ClassId) (ad : Nat → Nat) (B : Int) (hB0 : 2147483648 ≤ B) (hB1 : B ≤ 1152921504606846976) (qr : Nat) (s1 : Int)  (a2 : Int32) (ra2 : 0 ≤ a2.toInt) (ta2 : a2.toInt ≤ 11) (w0 : va_W) (sz : Nat) (hT : TW ksC ad cy B qr s1 w0)  : Met l yX1_isOpenFor (wu yX1_isOpenFor cX1_isOpenFor 4 (some .boolean)) ({ frames := 3, cells := 0, slots := 0, locals := 65 }) (va_Pc [.ref (ad 149), .ref (ad 152), .int a2] (wpreS adK adV dC dI cy sz w0)) (va_Qi (Py_X1_isOpenFor_1 ad cy B qr s1 a2 w0) (fun u : va_W => wpost dC dI cy (va_A w0 sz) u) (va_A w0 sz)) 0 0 (va_A w0 sz) := by
  refine Met.ofW (cc := cX1_isOpenFor) (maxL := 4) (ret := (some .boolean)) (by decide) rfl ?_
  intro p e s m args below meth c s₁ Bk hml hv
  obtain ⟨rfl, ⟨hsz, hP, hK, hD0⟩, hE, hSR⟩ := hv
  have hx := Bk.exec
  have hb := Bk.bytes
  have hr := Bk.returns
  have hlocks := Bk.notSynchronized
  have hC : CallFix p m c cX1_isOpenFor 4 s _ (wu yX1_isOpenFor cX1_isOpenFor 4 (some .boolean)) RX1 := ⟨hx, hb, hml, findClass_of_methodNamed Bk.named, atoms_spec (ws := (wu yX1_isOpenFor cX1_isOpenFor 4 (some .boolean))) Bk.pre⟩
  subst hsz
  have hD := hD0.self (sz := s.heap.size)
  generalize hAe : va_A w0 s.heap.size = A at hD hE ⊢
  have hA : ∀ q : Nat, s.heap.size ≤ q → A q := fun q h => by rw [← hAe]; exact Or.inr h
  have hw : Wd dC dI A s.heap s.heap [] w0 := ⟨hP, hD, va_S.rf⟩
  have hF : FE ksC ([] : List (Nat × Nat × Nat)) w0 w0 := FE.rf
  have hl := lv_entry ([.ref (ad 149), .ref (ad 152), .int a2]) (n := 4) (Nat.le_of_ble_eq_true rfl)
  rw [lg_entry_eq]
  generalize (lg_sl ([.ref (ad 149), .ref (ad 152), .int a2]) ++ List.replicate (4 - (lg_sl ([.ref (ad 149), .ref (ad 152), .int a2])).length) Slot.unset).toArray = ls at hl ⊢
  have hl : lv_has ls 4 [(0, .ref (ad 149)), (1, .ref (ad 152)), (2, .int a2)] := hl
  generalize hloc : ([] : List Loc) = locs at hw ⊢
  have hinX1 : ∀ w ∈ u_ws RX1 TX1 10, w ∈ (wu yX1_isOpenFor cX1_isOpenFor 4 (some .boolean)) := fun _ h => List.mem_cons_of_mem _ (up_78 h)
  have hinX5 : ∀ w ∈ u_ws RX5 TX5 14, w ∈ (wu yX1_isOpenFor cX1_isOpenFor 4 (some .boolean)) := fun _ h => List.mem_cons_of_mem _ (up_76 h)
  have hinX9 : ∀ w ∈ u_ws RX9 TX9 9, w ∈ (wu yX1_isOpenFor cX1_isOpenFor 4 (some .boolean)) := fun _ h => List.mem_cons_of_mem _ (up_82 h)
  have J56 : ∀ (v56_3 : Int32) (f56_152_0 : Int32) (H : Heap) (locs : List Loc) (ls : Array Slot) (w1 : va_W), 0 ≤ a2.toInt → a2.toInt ≤ 11 → (-1) ≤ v56_3.toInt → v56_3.toInt ≤ 1 → 0 ≤ f56_152_0.toInt → f56_152_0.toInt ≤ 9 → Wd dC dI A s.heap H locs w1 → TW ksC ad cy B qr s1 w1 → FE ksC ([] : List (Nat × Nat × Nat)) w0 w1 → gi w1 152 0 = f56_152_0 → TT (fun n => m_X1_isOpenFor n 149 152 a2.toInt (sL w0)) (fun n => b_X1_isOpenFor_56 n 149 152 (sL w1)) → lv_has ls 4 [(0, .ref (ad 149)), (1, .ref (ad 152)), (2, .int a2), (3, .int v56_3)] → W p l e ({ frames := 3, cells := 0, slots := 0, locals := 65 }) s m (List.toArray [.ref (ad 149), .ref (ad 152), .int a2]) below meth c H locs 0 0 (MQ below (va_Qi (Py_X1_isOpenFor_1 ad cy B qr s1 a2 w0) (fun u : va_W => wpost dC dI cy A u) A) (List.toArray [.ref (ad 149), .ref (ad 152), .int a2]) s 0 0 A) (F0 m 56 ls []) := by
    intro v56_3 f56_152_0 H locs ls w1 r2 t3 r4 t5 r6 t7 hw hT hF c8 hM hl
    refine lv_iconst (v := 0) hx hb dX1_isOpenFor_56 (by decide) ?_
    exact tk_zret hC hr rfl hlocks hK ⟨hT, hF, hM.ret (by decide), (Or.inl rfl)⟩ hw dX1_isOpenFor_57
  have hM : TT (fun n => m_X1_isOpenFor n 149 152 a2.toInt (sL w0)) (fun n => m_X1_isOpenFor n 149 152 a2.toInt (sL w0)) := TT.rf
  refine lv_aload_n hx hb dX1_isOpenFor_0 rfl (lv_at hl 0 rfl) ?_
  refine tk_getA hC hK hw hT hinX1 kC_at149 (by decide) rfl 0 (by decide) (List.mem_cons_of_mem _ uw_5_0) rfl rfl dX1_isOpenFor_1 ?_
  refine tk_getO hC hK hw hT hinX5 kC_at38 (by decide) rfl 0 (by decide) (List.mem_cons_of_mem _ uw_43_2) rfl rfl dX1_isOpenFor_4 ?_
  refine lv_iload_n hx hb dX1_isOpenFor_7 rfl (lv_at hl 2 rfl) ?_
  refine lv_aload_n hx hb dX1_isOpenFor_8 rfl (lv_at hl 1 rfl) ?_
  refine tk_geti hC hK hw hT hinX9 kC_at152 (by decide) rfl 0 (by decide) (List.mem_cons_of_mem _ uw_42_22) rfl rfl dX1_isOpenFor_9 (fun x9 c10 rx9 tx9 => ?_)
  replace hM := hM.rd (sL_at (kC_lt kC_at152) c10)
  refine tk_Vi hC hK hw hT hA hE hSR kC_at39 (by decide) rfl (ky_X7_sideOf_1 l adK adV dC dI cy ad B hB0 (Int.le_trans hB1 (by decide)) qr s1   a2 (show 0 ≤ a2.toInt from ra2) (show a2.toInt ≤ 11 from ta2) x9 (show 0 ≤ x9.toInt from rx9) (show x9.toInt ≤ 9 from tx9) w0 s.heap.size hT ) (cwV 2 hC.2.2.2.2 uV_RX1_137 rfl rfl rfl (by decide +kernel) ⟨Nat.le_of_ble_eq_true rfl, Nat.le_of_ble_eq_true rfl⟩) rfl hl.1 rfl (Nat.le_of_ble_eq_true rfl) dX1_isOpenFor_12 (fun r11 w13 H locs hp12 hw => ?_)
  obtain ⟨hT, k14, hv18, hg17⟩ := hp12
  have hF := hF.tr k14 (by decide)
  have c19 := k14.gi kC_at152 (by decide) c10
  rcases hg17 with rfl | ⟨rfl, c15⟩ | ⟨rfl, c16⟩
  · replace hM := hM.call (r' := (-1)) hv18 (by decide)
    refine lv_istore_n (lv' := [(3, .int (-1)), (0, .ref (ad 149)), (1, .ref (ad 152)), (2, .int a2)]) hx hb dX1_isOpenFor_15 rfl hl (by decide) rfl (fun ls hl => ?_)
    refine lv_iload_n hx hb dX1_isOpenFor_16 rfl (lv_at hl 0 rfl) ?_
    refine lv_iconst (v := (-1)) hx hb dX1_isOpenFor_17 (by decide) ?_
    refine lv_icmp_eq (tgt := 56) hx hb dX1_isOpenFor_18 (by decide) (fun _ => ?_) (fun c => absurd (by decide) c)
    replace hM := hM.pos (by decide)
    exact J56 (-1) x9 H locs ls w13 (show 0 ≤ a2.toInt from ra2) (show a2.toInt ≤ 11 from ta2) (by decide) (by decide) (show 0 ≤ x9.toInt from rx9) (show x9.toInt ≤ 9 from tx9)  hw hT hF c19 hM (lv_sub hl [1, 2, 3, 0] rfl)
  · replace hM := hM.call (r' := 0) hv18 (by decide)
    refine lv_istore_n (lv' := [(3, .int 0), (0, .ref (ad 149)), (1, .ref (ad 152)), (2, .int a2)]) hx hb dX1_isOpenFor_15 rfl hl (by decide) rfl (fun ls hl => ?_)
    refine lv_iload_n hx hb dX1_isOpenFor_16 rfl (lv_at hl 0 rfl) ?_
    refine lv_iconst (v := (-1)) hx hb dX1_isOpenFor_17 (by decide) ?_
    refine lv_icmp_eq (tgt := 56) hx hb dX1_isOpenFor_18 (by decide) (fun c => absurd c (by decide)) (fun _ => ?_)
    replace hM := hM.neg (by decide)
    refine lv_aload_n hx hb dX1_isOpenFor_21 rfl (lv_at hl 1 rfl) ?_
    refine tk_getA hC hK hw hT hinX1 kC_at149 (by decide) rfl 0 (by decide) (List.mem_cons_of_mem _ uw_5_0) rfl rfl dX1_isOpenFor_22 ?_
    refine tk_getO hC hK hw hT hinX5 kC_at38 (by decide) rfl 0 (by decide) (List.mem_cons_of_mem _ uw_43_2) rfl rfl dX1_isOpenFor_25 ?_
    refine lv_iload_n hx hb dX1_isOpenFor_28 rfl (lv_at hl 3 rfl) ?_
    refine lv_iload_n hx hb dX1_isOpenFor_29 rfl (lv_at hl 0 rfl) ?_
    refine lv_aload_n hx hb dX1_isOpenFor_30 rfl (lv_at hl 2 rfl) ?_
    refine tk_getB hC hK hw hT hinX9 kC_at152 (by decide) rfl 4 (by decide) (List.mem_cons_of_mem _ uw_42_10) rfl rfl dX1_isOpenFor_31 (fun x20 c21 rx20 tx20 => ?_)
    replace hM := hM.rd (sL_atl (kC_lt kC_at152) c21)
    refine lv_aload_n hx hb dX1_isOpenFor_34 rfl (lv_at hl 1 rfl) ?_
    refine tk_geti hC hK hw hT hinX1 kC_at149 (by decide) rfl 9 (by decide) (List.mem_cons_of_mem _ uw_42_20) rfl rfl dX1_isOpenFor_35 (fun x22 c23 rx22 tx22 => ?_)
    replace hM := hM.rd (sL_at (kC_lt kC_at149) c23)
    refine lv_if_ne (tgt := 45) hx hb dX1_isOpenFor_38 (by decide) (fun c24 => ?_) (fun c24 => ?_)
    · have c24 : ¬ x22.toInt = (0 : Int) := wk_eqF c24
      replace hM := hM.pos c24
      refine lv_iconst (v := 0) hx hb dX1_isOpenFor_45 (by decide) ?_
      refine tk_Vi hC hK hw hT hA hE hSR kC_at39 (by decide) rfl (ky_X7_isOpen_1 l adK adV dC dI cy ad B hB0 (Int.le_trans hB1 (by decide)) qr s1   a2 (show 0 ≤ a2.toInt from ra2) (show a2.toInt ≤ 11 from ta2) x20 (show 0 ≤ x20.toInt by first | with_reducible assumption | omega) (show x20.toInt ≤ 2305843009213693952 by first | with_reducible assumption | omega) w13 H.size hT ) (cwV 4 hC.2.2.2.2 uV_RX1_140 rfl rfl rfl (by decide +kernel) ⟨Nat.le_of_ble_eq_true rfl, Nat.le_of_ble_eq_true rfl⟩) rfl hl.1 rfl (Nat.le_of_ble_eq_true rfl) dX1_isOpenFor_46 (fun r25 w27 H locs hp26 hw => ?_)
      obtain ⟨hT, k28, hv30, hg29⟩ := hp26
      have hF := hF.tr k28 (by decide)
      have c31 := k28.gi kC_at152 (by decide) c19
      have c32 := k28.gi kC_at40 rfl c15
      have c33 := k28.gl kC_at152 (by decide) c21
      have c34 := k28.gi kC_at149 (by decide) c23
      rcases hg29 with rfl | rfl
      · replace hM := hM.call (r' := 0) hv30 (by decide)
        refine lv_if_eq (tgt := 56) hx hb dX1_isOpenFor_49 (by decide) (fun _ => ?_) (fun c => absurd (by decide) c)
        replace hM := hM.pos (by decide)
        exact J56 0 x9 H locs ls w27 (show 0 ≤ a2.toInt from ra2) (show a2.toInt ≤ 11 from ta2) (by decide) (by decide) (show 0 ≤ x9.toInt from rx9) (show x9.toInt ≤ 9 from tx9)  hw hT hF c31 hM (lv_sub hl [1, 2, 3, 0] rfl)
      · replace hM := hM.call (r' := 1) hv30 (by decide)
        refine lv_if_eq (tgt := 56) hx hb dX1_isOpenFor_49 (by decide) (fun c => absurd c (by decide)) (fun _ => ?_)
        replace hM := hM.neg (by decide)
        refine lv_iconst (v := 1) hx hb dX1_isOpenFor_52 (by decide) ?_
        refine lv_goto (tgt := 57) hx hb dX1_isOpenFor_53 (by decide) ?_
        exact tk_zret hC hr rfl hlocks hK ⟨hT, hF, hM.ret (by decide), (Or.inr ⟨rfl, ⟨x22, c34, (show 0 ≤ x22.toInt from rx22), (show x22.toInt ≤ 1 from tx22)⟩⟩)⟩ hw dX1_isOpenFor_57
    · have c24 : x22.toInt = (0 : Int) := wk_eq.mp c24
      replace hM := hM.neg (fun q => q c24)
      refine lv_iconst (v := 1) hx hb dX1_isOpenFor_41 (by decide) ?_
      refine lv_goto (tgt := 46) hx hb dX1_isOpenFor_42 (by decide) ?_
      refine tk_Vi hC hK hw hT hA hE hSR kC_at39 (by decide) rfl (ky_X7_isOpen_2 l adK adV dC dI cy ad B hB0 (Int.le_trans hB1 (by decide)) qr s1   a2 (show 0 ≤ a2.toInt from ra2) (show a2.toInt ≤ 11 from ta2) x20 (show 0 ≤ x20.toInt by first | with_reducible assumption | omega) (show x20.toInt ≤ 2305843009213693952 by first | with_reducible assumption | omega) w13 H.size hT ) (cwV 4 hC.2.2.2.2 uV_RX1_140 rfl rfl rfl (by decide +kernel) ⟨Nat.le_of_ble_eq_true rfl, Nat.le_of_ble_eq_true rfl⟩) rfl hl.1 rfl (Nat.le_of_ble_eq_true rfl) dX1_isOpenFor_46 (fun r35 w37 H locs hp36 hw => ?_)
      obtain ⟨hT, k38, hv40, hg39⟩ := hp36
      have hF := hF.tr k38 (by decide)
      have c41 := k38.gi kC_at152 (by decide) c19
      have c42 := k38.gi kC_at40 rfl c15
      have c43 := k38.gl kC_at152 (by decide) c21
      have c44 := k38.gi kC_at149 (by decide) c23
      rcases hg39 with rfl | rfl
      · replace hM := hM.call (r' := 0) hv40 (by decide)
        refine lv_if_eq (tgt := 56) hx hb dX1_isOpenFor_49 (by decide) (fun _ => ?_) (fun c => absurd (by decide) c)
        replace hM := hM.pos (by decide)
        exact J56 0 x9 H locs ls w37 (show 0 ≤ a2.toInt from ra2) (show a2.toInt ≤ 11 from ta2) (by decide) (by decide) (show 0 ≤ x9.toInt from rx9) (show x9.toInt ≤ 9 from tx9)  hw hT hF c41 hM (lv_sub hl [1, 2, 3, 0] rfl)
      · replace hM := hM.call (r' := 1) hv40 (by decide)
        refine lv_if_eq (tgt := 56) hx hb dX1_isOpenFor_49 (by decide) (fun c => absurd c (by decide)) (fun _ => ?_)
        replace hM := hM.neg (by decide)
        refine lv_iconst (v := 1) hx hb dX1_isOpenFor_52 (by decide) ?_
        refine lv_goto (tgt := 57) hx hb dX1_isOpenFor_53 (by decide) ?_
        exact tk_zret hC hr rfl hlocks hK ⟨hT, hF, hM.ret (by decide), (Or.inr ⟨rfl, ⟨x22, c44, (show 0 ≤ x22.toInt from rx22), (show x22.toInt ≤ 1 from tx22)⟩⟩)⟩ hw dX1_isOpenFor_57
  · replace hM := hM.call (r' := 1) hv18 (by decide)
    refine lv_istore_n (lv' := [(3, .int 1), (0, .ref (ad 149)), (1, .ref (ad 152)), (2, .int a2)]) hx hb dX1_isOpenFor_15 rfl hl (by decide) rfl (fun ls hl => ?_)
    refine lv_iload_n hx hb dX1_isOpenFor_16 rfl (lv_at hl 0 rfl) ?_
    refine lv_iconst (v := (-1)) hx hb dX1_isOpenFor_17 (by decide) ?_
    refine lv_icmp_eq (tgt := 56) hx hb dX1_isOpenFor_18 (by decide) (fun c => absurd c (by decide)) (fun _ => ?_)
    replace hM := hM.neg (by decide)
    refine lv_aload_n hx hb dX1_isOpenFor_21 rfl (lv_at hl 1 rfl) ?_
    refine tk_getA hC hK hw hT hinX1 kC_at149 (by decide) rfl 0 (by decide) (List.mem_cons_of_mem _ uw_5_0) rfl rfl dX1_isOpenFor_22 ?_
    refine tk_getO hC hK hw hT hinX5 kC_at38 (by decide) rfl 0 (by decide) (List.mem_cons_of_mem _ uw_43_2) rfl rfl dX1_isOpenFor_25 ?_
    refine lv_iload_n hx hb dX1_isOpenFor_28 rfl (lv_at hl 3 rfl) ?_
    refine lv_iload_n hx hb dX1_isOpenFor_29 rfl (lv_at hl 0 rfl) ?_
    refine lv_aload_n hx hb dX1_isOpenFor_30 rfl (lv_at hl 2 rfl) ?_
    refine tk_getB hC hK hw hT hinX9 kC_at152 (by decide) rfl 4 (by decide) (List.mem_cons_of_mem _ uw_42_10) rfl rfl dX1_isOpenFor_31 (fun x45 c46 rx45 tx45 => ?_)
    replace hM := hM.rd (sL_atl (kC_lt kC_at152) c46)
    refine lv_aload_n hx hb dX1_isOpenFor_34 rfl (lv_at hl 1 rfl) ?_
    refine tk_geti hC hK hw hT hinX1 kC_at149 (by decide) rfl 9 (by decide) (List.mem_cons_of_mem _ uw_42_20) rfl rfl dX1_isOpenFor_35 (fun x47 c48 rx47 tx47 => ?_)
    replace hM := hM.rd (sL_at (kC_lt kC_at149) c48)
    refine lv_if_ne (tgt := 45) hx hb dX1_isOpenFor_38 (by decide) (fun c49 => ?_) (fun c49 => ?_)
    · have c49 : ¬ x47.toInt = (0 : Int) := wk_eqF c49
      replace hM := hM.pos c49
      refine lv_iconst (v := 0) hx hb dX1_isOpenFor_45 (by decide) ?_
      refine tk_Vi hC hK hw hT hA hE hSR kC_at39 (by decide) rfl (ky_X7_isOpen_3 l adK adV dC dI cy ad B hB0 (Int.le_trans hB1 (by decide)) qr s1   a2 (show 0 ≤ a2.toInt from ra2) (show a2.toInt ≤ 11 from ta2) x45 (show 0 ≤ x45.toInt by first | with_reducible assumption | omega) (show x45.toInt ≤ 2305843009213693952 by first | with_reducible assumption | omega) w13 H.size hT ) (cwV 4 hC.2.2.2.2 uV_RX1_140 rfl rfl rfl (by decide +kernel) ⟨Nat.le_of_ble_eq_true rfl, Nat.le_of_ble_eq_true rfl⟩) rfl hl.1 rfl (Nat.le_of_ble_eq_true rfl) dX1_isOpenFor_46 (fun r50 w52 H locs hp51 hw => ?_)
      obtain ⟨hT, k53, hv55, hg54⟩ := hp51
      have hF := hF.tr k53 (by decide)
      have c56 := k53.gi kC_at152 (by decide) c19
      have c57 := k53.gi kC_at40 rfl c16
      have c58 := k53.gl kC_at152 (by decide) c46
      have c59 := k53.gi kC_at149 (by decide) c48
      rcases hg54 with rfl | rfl
      · replace hM := hM.call (r' := 0) hv55 (by decide)
        refine lv_if_eq (tgt := 56) hx hb dX1_isOpenFor_49 (by decide) (fun _ => ?_) (fun c => absurd (by decide) c)
        replace hM := hM.pos (by decide)
        exact J56 1 x9 H locs ls w52 (show 0 ≤ a2.toInt from ra2) (show a2.toInt ≤ 11 from ta2) (by decide) (by decide) (show 0 ≤ x9.toInt from rx9) (show x9.toInt ≤ 9 from tx9)  hw hT hF c56 hM (lv_sub hl [1, 2, 3, 0] rfl)
      · replace hM := hM.call (r' := 1) hv55 (by decide)
        refine lv_if_eq (tgt := 56) hx hb dX1_isOpenFor_49 (by decide) (fun c => absurd c (by decide)) (fun _ => ?_)
        replace hM := hM.neg (by decide)
        refine lv_iconst (v := 1) hx hb dX1_isOpenFor_52 (by decide) ?_
        refine lv_goto (tgt := 57) hx hb dX1_isOpenFor_53 (by decide) ?_
        exact tk_zret hC hr rfl hlocks hK ⟨hT, hF, hM.ret (by decide), (Or.inr ⟨rfl, ⟨x47, c59, (show 0 ≤ x47.toInt from rx47), (show x47.toInt ≤ 1 from tx47)⟩⟩)⟩ hw dX1_isOpenFor_57
    · have c49 : x47.toInt = (0 : Int) := wk_eq.mp c49
      replace hM := hM.neg (fun q => q c49)
      refine lv_iconst (v := 1) hx hb dX1_isOpenFor_41 (by decide) ?_
      refine lv_goto (tgt := 46) hx hb dX1_isOpenFor_42 (by decide) ?_
      refine tk_Vi hC hK hw hT hA hE hSR kC_at39 (by decide) rfl (ky_X7_isOpen_4 l adK adV dC dI cy ad B hB0 (Int.le_trans hB1 (by decide)) qr s1   a2 (show 0 ≤ a2.toInt from ra2) (show a2.toInt ≤ 11 from ta2) x45 (show 0 ≤ x45.toInt by first | with_reducible assumption | omega) (show x45.toInt ≤ 2305843009213693952 by first | with_reducible assumption | omega) w13 H.size hT ) (cwV 4 hC.2.2.2.2 uV_RX1_140 rfl rfl rfl (by decide +kernel) ⟨Nat.le_of_ble_eq_true rfl, Nat.le_of_ble_eq_true rfl⟩) rfl hl.1 rfl (Nat.le_of_ble_eq_true rfl) dX1_isOpenFor_46 (fun r60 w62 H locs hp61 hw => ?_)
      obtain ⟨hT, k63, hv65, hg64⟩ := hp61
      have hF := hF.tr k63 (by decide)
      have c66 := k63.gi kC_at152 (by decide) c19
      have c67 := k63.gi kC_at40 rfl c16
      have c68 := k63.gl kC_at152 (by decide) c46
      have c69 := k63.gi kC_at149 (by decide) c48
      rcases hg64 with rfl | rfl
      · replace hM := hM.call (r' := 0) hv65 (by decide)
        refine lv_if_eq (tgt := 56) hx hb dX1_isOpenFor_49 (by decide) (fun _ => ?_) (fun c => absurd (by decide) c)
        replace hM := hM.pos (by decide)
        exact J56 1 x9 H locs ls w62 (show 0 ≤ a2.toInt from ra2) (show a2.toInt ≤ 11 from ta2) (by decide) (by decide) (show 0 ≤ x9.toInt from rx9) (show x9.toInt ≤ 9 from tx9)  hw hT hF c66 hM (lv_sub hl [1, 2, 3, 0] rfl)
      · replace hM := hM.call (r' := 1) hv65 (by decide)
        refine lv_if_eq (tgt := 56) hx hb dX1_isOpenFor_49 (by decide) (fun c => absurd c (by decide)) (fun _ => ?_)
        replace hM := hM.neg (by decide)
        refine lv_iconst (v := 1) hx hb dX1_isOpenFor_52 (by decide) ?_
        refine lv_goto (tgt := 57) hx hb dX1_isOpenFor_53 (by decide) ?_
        exact tk_zret hC hr rfl hlocks hK ⟨hT, hF, hM.ret (by decide), (Or.inr ⟨rfl, ⟨x47, c69, (show 0 ≤ x47.toInt from rx47), (show x47.toInt ≤ 1 from tx47)⟩⟩)⟩ hw dX1_isOpenFor_57
abbrev Py_X9_dayNow_1 (ad : Nat → Nat) (cy : Nat → ClassId) (B : Int) (qr : Nat) (s1 : Int)  (w0 : va_W) : Int64 → va_W → Prop := fun r u => TW ksC ad cy B qr s1 u ∧ FE ksC ([] : List (Nat × Nat × Nat)) w0 u ∧ Ev (fun n => m_X9_dayNow n 152 (sL w0)) (r.toInt, sL u) ∧ ((0 ≤ r.toInt ∧ r.toInt ≤ 96076792050570581))
set_option maxHeartbeats 4000000 in
set_option maxRecDepth 100000 in
theorem ky_X9_dayNow_1 (l : Launch) (adK adV : Nat → Nat) (dC : Nat → ClassId) (dI : Nat → Nat → Nat) (cy : Nat → ClassId) (ad : Nat → Nat) (B : Int) (hB0 : 2147483648 ≤ B) (hB1 : B ≤ 1152921504606846976) (qr : Nat) (s1 : Int)   (w0 : va_W) (sz : Nat) (hT : TW ksC ad cy B qr s1 w0)  : Met l yX9_dayNow (wu yX9_dayNow cX9_dayNow 1 (some .long)) ({ frames := 1, cells := 0, slots := 0, locals := 12 }) (va_Pc [.ref (ad 152)] (wpreS adK adV dC dI cy sz w0)) (va_Ql (Py_X9_dayNow_1 ad cy B qr s1  w0) (fun u : va_W => wpost dC dI cy (va_A w0 sz) u) (va_A w0 sz)) 0 0 (va_A w0 sz) := by
  refine Met.ofW (cc := cX9_dayNow) (maxL := 1) (ret := (some .long)) (by decide) rfl ?_
  intro p e s m args below meth c s₁ Bk hml hv
  obtain ⟨rfl, ⟨hsz, hP, hK, hD0⟩, hE, hSR⟩ := hv
  have hx := Bk.exec
  have hb := Bk.bytes
  have hr := Bk.returns
  have hlocks := Bk.notSynchronized
  have hC : CallFix p m c cX9_dayNow 1 s _ (wu yX9_dayNow cX9_dayNow 1 (some .long)) RX9 := ⟨hx, hb, hml, findClass_of_methodNamed Bk.named, atoms_spec (ws := (wu yX9_dayNow cX9_dayNow 1 (some .long))) Bk.pre⟩
  subst hsz
  have hD := hD0.self (sz := s.heap.size)
  generalize hAe : va_A w0 s.heap.size = A at hD hE ⊢
  have hA : ∀ q : Nat, s.heap.size ≤ q → A q := fun q h => by rw [← hAe]; exact Or.inr h
  have hw : Wd dC dI A s.heap s.heap [] w0 := ⟨hP, hD, va_S.rf⟩
  have hF : FE ksC ([] : List (Nat × Nat × Nat)) w0 w0 := FE.rf
  have hl := lv_entry ([.ref (ad 152)]) (n := 1) (Nat.le_of_ble_eq_true rfl)
  rw [lg_entry_eq]
  generalize (lg_sl ([.ref (ad 152)]) ++ List.replicate (1 - (lg_sl ([.ref (ad 152)])).length) Slot.unset).toArray = ls at hl ⊢
  have hl : lv_has ls 1 [(0, .ref (ad 152))] := hl
  generalize hloc : ([] : List Loc) = locs at hw ⊢
  have hinX9 : ∀ w ∈ u_ws RX9 TX9 9, w ∈ (wu yX9_dayNow cX9_dayNow 1 (some .long)) := fun _ h => List.mem_cons_of_mem _ (up_82 h)
  have hM : TT (fun n => m_X9_dayNow n 152 (sL w0)) (fun n => m_X9_dayNow n 152 (sL w0)) := TT.rf
  refine lv_aload_n hx hb dX9_dayNow_0 rfl (lv_at hl 0 rfl) ?_
  refine tk_getB hC hK hw hT hinX9 kC_at152 (by decide) rfl 4 (by decide) (List.mem_cons_of_mem _ uw_39_13) rfl rfl dX9_dayNow_1 (fun x1 c2 rx1 tx1 => ?_)
  replace hM := hM.rd (sL_atl (kC_lt kC_at152) c2)
  refine lv_ldc2 (v := 24) hx hb hC.2.2.2.1 (hC.2.2.2.2 _ (List.mem_cons_of_mem _ uw_43_12)) dX9_dayNow_4 ?_
  refine lv_ldiv hx hb dX9_dayNow_7 (by decide) ?_
  refine lv_topl (fun x3 ex3 => ?_)
  have ezx3 := ex3
  have ex3 : x3.toInt = x1.toInt / (24 : Int) := by rw [ex3]; exact wk_divl (show 0 ≤ x1.toInt by first | with_reducible assumption | omega) (show 0 < (24 : Int) by decide)
  replace hM := hM.lt ex3.symm
  exact tk_lret hC hr hlocks hK ⟨hT, hF, hM.ret rfl, ⟨(show 0 ≤ x3.toInt by first | with_reducible assumption | omega), (show x3.toInt ≤ 96076792050570581 by first | with_reducible assumption | omega)⟩⟩ hw dX9_dayNow_8
abbrev Py_X9_askedToday_1 (ad : Nat → Nat) (cy : Nat → ClassId) (B : Int) (qr : Nat) (s1 : Int)  (w0 : va_W) : Int32 → va_W → Prop := fun r u => TW ksC ad cy B qr s1 u ∧ FE ksC ([] : List (Nat × Nat × Nat)) w0 u ∧ Ev (fun n => m_X9_askedToday n 152 (sL w0)) (r.toInt, sL u) ∧ ((r = 0) ∨ (r = 1))
set_option maxHeartbeats 4000000 in
set_option maxRecDepth 100000 in
theorem ky_X9_askedToday_1 (l : Launch) (adK adV : Nat → Nat) (dC : Nat → ClassId) (dI : Nat → Nat → Nat) (cy : Nat → ClassId) (ad : Nat → Nat) (B : Int) (hB0 : 2147483648 ≤ B) (hB1 : B ≤ 1152921504606846976) (qr : Nat) (s1 : Int)   (w0 : va_W) (sz : Nat) (hT : TW ksC ad cy B qr s1 w0)  : Met l yX9_askedToday (wu yX9_askedToday cX9_askedToday 1 (some .boolean)) ({ frames := 2, cells := 0, slots := 0, locals := 32 }) (va_Pc [.ref (ad 152)] (wpreS adK adV dC dI cy sz w0)) (va_Qi (Py_X9_askedToday_1 ad cy B qr s1  w0) (fun u : va_W => wpost dC dI cy (va_A w0 sz) u) (va_A w0 sz)) 0 0 (va_A w0 sz) := by
  refine Met.ofW (cc := cX9_askedToday) (maxL := 1) (ret := (some .boolean)) (by decide) rfl ?_
  intro p e s m args below meth c s₁ Bk hml hv
  obtain ⟨rfl, ⟨hsz, hP, hK, hD0⟩, hE, hSR⟩ := hv
  have hx := Bk.exec
  have hb := Bk.bytes
  have hr := Bk.returns
  have hlocks := Bk.notSynchronized
  have hC : CallFix p m c cX9_askedToday 1 s _ (wu yX9_askedToday cX9_askedToday 1 (some .boolean)) RX9 := ⟨hx, hb, hml, findClass_of_methodNamed Bk.named, atoms_spec (ws := (wu yX9_askedToday cX9_askedToday 1 (some .boolean))) Bk.pre⟩
  subst hsz
  have hD := hD0.self (sz := s.heap.size)
  generalize hAe : va_A w0 s.heap.size = A at hD hE ⊢
  have hA : ∀ q : Nat, s.heap.size ≤ q → A q := fun q h => by rw [← hAe]; exact Or.inr h
  have hw : Wd dC dI A s.heap s.heap [] w0 := ⟨hP, hD, va_S.rf⟩
  have hF : FE ksC ([] : List (Nat × Nat × Nat)) w0 w0 := FE.rf
  have hl := lv_entry ([.ref (ad 152)]) (n := 1) (Nat.le_of_ble_eq_true rfl)
  rw [lg_entry_eq]
  generalize (lg_sl ([.ref (ad 152)]) ++ List.replicate (1 - (lg_sl ([.ref (ad 152)])).length) Slot.unset).toArray = ls at hl ⊢
  have hl : lv_has ls 1 [(0, .ref (ad 152))] := hl
  generalize hloc : ([] : List Loc) = locs at hw ⊢
  have hinX9 : ∀ w ∈ u_ws RX9 TX9 9, w ∈ (wu yX9_askedToday cX9_askedToday 1 (some .boolean)) := fun _ h => List.mem_cons_of_mem _ (up_82 h)
  have hM : TT (fun n => m_X9_askedToday n 152 (sL w0)) (fun n => m_X9_askedToday n 152 (sL w0)) := TT.rf
  refine lv_aload_n hx hb dX9_askedToday_0 rfl (lv_at hl 0 rfl) ?_
  refine tk_getl hC hK hw hT hinX9 kC_at152 (by decide) rfl 8 (by decide) (List.mem_cons_of_mem _ uw_39_18) rfl rfl dX9_askedToday_1 (fun x1 c2 rx1 tx1 => ?_)
  replace hM := hM.rd (sL_atl (kC_lt kC_at152) c2)
  refine lv_aload_n hx hb dX9_askedToday_4 rfl (lv_at hl 0 rfl) ?_
  refine tk_Vl hC hK hw hT hA hE hSR kC_at152 (by decide) rfl (ky_X9_dayNow_1 l adK adV dC dI cy ad B hB0 (Int.le_trans hB1 (by decide)) qr s1    w0 s.heap.size hT ) (cwV 0 hC.2.2.2.2 uV_RX9_48 rfl rfl rfl (by decide +kernel) ⟨Nat.le_of_ble_eq_true rfl, Nat.le_of_ble_eq_true rfl⟩) rfl hl.1 rfl (Nat.le_of_ble_eq_true rfl) dX9_askedToday_5 (fun r3 w5 H locs hp4 hw => ?_)
  obtain ⟨hT, k6, hv10, hg9⟩ := hp4
  have hF := hF.tr k6 (by decide)
  have c11 := k6.gl kC_at152 (by decide) c2
  obtain ⟨g7, g8⟩ := hg9
  replace hM := hM.call hv10 rfl
  refine W.lcmp hx hb dX9_askedToday_8 ?_
  refine lv_if_ne (tgt := 16) hx hb dX9_askedToday_9 (by decide) (fun c12 => ?_) (fun c12 => ?_)
  · have c12 : ¬ x1.toInt = r3.toInt := wk_ceF c12
    replace hM := hM.pos c12
    refine lv_iconst (v := 0) hx hb dX9_askedToday_16 (by decide) ?_
    exact tk_zret hC hr rfl hlocks hK ⟨hT, hF, hM.ret (by decide), (Or.inl rfl)⟩ hw dX9_askedToday_17
  · have c12 : x1.toInt = r3.toInt := wk_ceT c12
    replace hM := hM.neg (fun q => q c12)
    refine lv_iconst (v := 1) hx hb dX9_askedToday_12 (by decide) ?_
    refine lv_goto (tgt := 17) hx hb dX9_askedToday_13 (by decide) ?_
    exact tk_zret hC hr rfl hlocks hK ⟨hT, hF, hM.ret (by decide), (Or.inr rfl)⟩ hw dX9_askedToday_17
abbrev Py_X0_ofWeekday_1 (ad : Nat → Nat) (cy : Nat → ClassId) (B : Int) (qr : Nat) (s1 : Int) (a0 : Int64) (w0 : va_W) : Int32 → va_W → Prop := fun r u => TW ksC ad cy B qr s1 u ∧ FE ksC ([] : List (Nat × Nat × Nat)) w0 u ∧ Ev (fun n => m_X0_ofWeekday n a0.toInt (sL w0)) (r.toInt, sL u) ∧ ((4 ≤ r.toInt ∧ r.toInt ≤ 10))
set_option maxHeartbeats 4000000 in
set_option maxRecDepth 100000 in
theorem ky_X0_ofWeekday_1 (l : Launch) (adK adV : Nat → Nat) (dC : Nat → ClassId) (dI : Nat → Nat → Nat) (cy : Nat → ClassId) (ad : Nat → Nat) (B : Int) (hB0 : 2147483648 ≤ B) (hB1 : B ≤ 1152921504606846976) (qr : Nat) (s1 : Int)  (a0 : Int64) (ra0 : 0 ≤ a0.toInt) (ta0 : a0.toInt ≤ 96076792050570581) (w0 : va_W) (sz : Nat) (hT : TW ksC ad cy B qr s1 w0)  : Met l yX0_ofWeekday (wu yX0_ofWeekday cX0_ofWeekday 2 (some .int)) ({ frames := 1, cells := 0, slots := 0, locals := 12 }) (va_Pc [.long a0] (wpreS adK adV dC dI cy sz w0)) (va_Qi (Py_X0_ofWeekday_1 ad cy B qr s1 a0 w0) (fun u : va_W => wpost dC dI cy (va_A w0 sz) u) (va_A w0 sz)) 0 0 (va_A w0 sz) := by
  refine Met.ofW (cc := cX0_ofWeekday) (maxL := 2) (ret := (some .int)) (by decide) rfl ?_
  intro p e s m args below meth c s₁ Bk hml hv
  obtain ⟨rfl, ⟨hsz, hP, hK, hD0⟩, hE, hSR⟩ := hv
  have hx := Bk.exec
  have hb := Bk.bytes
  have hr := Bk.returns
  have hlocks := Bk.notSynchronized
  have hC : CallFix p m c cX0_ofWeekday 2 s _ (wu yX0_ofWeekday cX0_ofWeekday 2 (some .int)) RX0 := ⟨hx, hb, hml, findClass_of_methodNamed Bk.named, atoms_spec (ws := (wu yX0_ofWeekday cX0_ofWeekday 2 (some .int))) Bk.pre⟩
  subst hsz
  have hD := hD0.self (sz := s.heap.size)
  generalize hAe : va_A w0 s.heap.size = A at hD hE ⊢
  have hA : ∀ q : Nat, s.heap.size ≤ q → A q := fun q h => by rw [← hAe]; exact Or.inr h
  have hw : Wd dC dI A s.heap s.heap [] w0 := ⟨hP, hD, va_S.rf⟩
  have hF : FE ksC ([] : List (Nat × Nat × Nat)) w0 w0 := FE.rf
  have hl := lv_entry ([.long a0]) (n := 2) (Nat.le_of_ble_eq_true rfl)
  rw [lg_entry_eq]
  generalize (lg_sl ([.long a0]) ++ List.replicate (2 - (lg_sl ([.long a0])).length) Slot.unset).toArray = ls at hl ⊢
  have hl : lv_has ls 2 [(0, .long a0)] := hl
  generalize hloc : ([] : List Loc) = locs at hw ⊢
  have hM : TT (fun n => m_X0_ofWeekday n a0.toInt (sL w0)) (fun n => m_X0_ofWeekday n a0.toInt (sL w0)) := TT.rf
  refine lv_iconst (v := 4) hx hb dX0_ofWeekday_0 (by decide) ?_
  refine lv_lload_n hx hb dX0_ofWeekday_1 rfl (lv_at hl 0 rfl) ?_
  refine lv_ldc2 (v := 7) hx hb hC.2.2.2.1 (hC.2.2.2.2 _ (List.mem_cons_of_mem _ uw_43_17)) dX0_ofWeekday_2 ?_
  refine lv_lrem hx hb dX0_ofWeekday_5 (by decide) ?_
  refine lv_topl (fun x1 ex1 => ?_)
  have ezx1 := ex1
  have ex1 : x1.toInt = a0.toInt % (7 : Int) := by rw [ex1]; exact wk_reml (show 0 ≤ a0.toInt from ra0) (show 0 < (7 : Int) by decide)
  replace hM := hM.lt ex1.symm
  refine lv_l2i hx hb dX0_ofWeekday_6 rfl ?_
  refine lv_topi (fun x2 ex2 => ?_)
  have ex2 : x2.toInt = x1.toInt := by rw [ex2]; exact wk_l2i (by omega) (by omega)
  replace hM := hM.lt ex2.symm
  refine lv_iadd hx hb dX0_ofWeekday_7 ?_
  refine lv_topi (fun x3 ex3 => ?_)
  have ezx3 := ex3
  have ex3 : x3.toInt = (4 : Int) + x2.toInt := by rw [ex3]; exact wk_add (show (-2147483648) ≤ (4 : Int) + x2.toInt by omega) (show (4 : Int) + x2.toInt ≤ 2147483647 by omega)
  replace hM := hM.lt ex3.symm
  exact tk_iret hC hr hlocks hK ⟨hT, hF, hM.ret rfl, ⟨(show 4 ≤ x3.toInt by first | with_reducible assumption | omega), (show x3.toInt ≤ 10 by first | with_reducible assumption | omega)⟩⟩ hw dX0_ofWeekday_8
abbrev Py_X0_spot_3 (ad : Nat → Nat) (cy : Nat → ClassId) (B : Int) (qr : Nat) (s1 : Int) (a0 : Int32) (a1 : Int32) (a2 : Int32) (w0 : va_W) : Int32 → va_W → Prop := fun r u => TW ksC ad cy B qr s1 u ∧ FE ksC ([] : List (Nat × Nat × Nat)) w0 u ∧ Ev (fun n => m_X0_spot n a0.toInt a1.toInt a2.toInt (sL w0)) (r.toInt, sL u) ∧ ((400 ≤ r.toInt ∧ r.toInt ≤ 1099))
set_option maxHeartbeats 4000000 in
set_option maxRecDepth 100000 in
theorem ky_X0_spot_3 (l : Launch) (adK adV : Nat → Nat) (dC : Nat → ClassId) (dI : Nat → Nat → Nat) (cy : Nat → ClassId) (ad : Nat → Nat) (B : Int) (hB0 : 2147483648 ≤ B) (hB1 : B ≤ 1152921504606846976) (qr : Nat) (s1 : Int)  (a0 : Int32) (ra0 : 4 ≤ a0.toInt) (ta0 : a0.toInt ≤ 10) (a1 : Int32) (ra1 : 0 ≤ a1.toInt) (ta1 : a1.toInt ≤ 9) (a2 : Int32) (ra2 : 0 ≤ a2.toInt) (ta2 : a2.toInt ≤ 9) (w0 : va_W) (sz : Nat) (hT : TW ksC ad cy B qr s1 w0)  : Met l yX0_spot (wu yX0_spot cX0_spot 3 (some .int)) ({ frames := 1, cells := 0, slots := 0, locals := 12 }) (va_Pc [.int a0, .int a1, .int a2] (wpreS adK adV dC dI cy sz w0)) (va_Qi (Py_X0_spot_3 ad cy B qr s1 a0 a1 a2 w0) (fun u : va_W => wpost dC dI cy (va_A w0 sz) u) (va_A w0 sz)) 0 0 (va_A w0 sz) := by
  refine Met.ofW (cc := cX0_spot) (maxL := 3) (ret := (some .int)) (by decide) rfl ?_
  intro p e s m args below meth c s₁ Bk hml hv
  obtain ⟨rfl, ⟨hsz, hP, hK, hD0⟩, hE, hSR⟩ := hv
  have hx := Bk.exec
  have hb := Bk.bytes
  have hr := Bk.returns
  have hlocks := Bk.notSynchronized
  have hC : CallFix p m c cX0_spot 3 s _ (wu yX0_spot cX0_spot 3 (some .int)) RX0 := ⟨hx, hb, hml, findClass_of_methodNamed Bk.named, atoms_spec (ws := (wu yX0_spot cX0_spot 3 (some .int))) Bk.pre⟩
  subst hsz
  have hD := hD0.self (sz := s.heap.size)
  generalize hAe : va_A w0 s.heap.size = A at hD hE ⊢
  have hA : ∀ q : Nat, s.heap.size ≤ q → A q := fun q h => by rw [← hAe]; exact Or.inr h
  have hw : Wd dC dI A s.heap s.heap [] w0 := ⟨hP, hD, va_S.rf⟩
  have hF : FE ksC ([] : List (Nat × Nat × Nat)) w0 w0 := FE.rf
  have hl := lv_entry ([.int a0, .int a1, .int a2]) (n := 3) (Nat.le_of_ble_eq_true rfl)
  rw [lg_entry_eq]
  generalize (lg_sl ([.int a0, .int a1, .int a2]) ++ List.replicate (3 - (lg_sl ([.int a0, .int a1, .int a2])).length) Slot.unset).toArray = ls at hl ⊢
  have hl : lv_has ls 3 [(0, .int a0), (1, .int a1), (2, .int a2)] := hl
  generalize hloc : ([] : List Loc) = locs at hw ⊢
  have hM : TT (fun n => m_X0_spot n a0.toInt a1.toInt a2.toInt (sL w0)) (fun n => m_X0_spot n a0.toInt a1.toInt a2.toInt (sL w0)) := TT.rf
  refine lv_iload_n hx hb dX0_spot_0 rfl (lv_at hl 0 rfl) ?_
  refine lv_bipush (v := 100) hx hb dX0_spot_1 (by decide) ?_
  refine lv_imul hx hb dX0_spot_3 ?_
  refine lv_topi (fun x1 ex1 => ?_)
  have ezx1 := ex1
  have ex1 : x1.toInt = a0.toInt * (100 : Int) := by rw [ex1]; exact wk_mul (show (-2147483648) ≤ a0.toInt * (100 : Int) by omega) (show a0.toInt * (100 : Int) ≤ 2147483647 by omega)
  replace hM := hM.lt ex1.symm
  refine lv_iload_n hx hb dX0_spot_4 rfl (lv_at hl 1 rfl) ?_
  refine lv_bipush (v := 10) hx hb dX0_spot_5 (by decide) ?_
  refine lv_imul hx hb dX0_spot_7 ?_
  refine lv_topi (fun x2 ex2 => ?_)
  have ezx2 := ex2
  have ex2 : x2.toInt = a1.toInt * (10 : Int) := by rw [ex2]; exact wk_mul (show (-2147483648) ≤ a1.toInt * (10 : Int) by omega) (show a1.toInt * (10 : Int) ≤ 2147483647 by omega)
  replace hM := hM.lt ex2.symm
  refine lv_iadd hx hb dX0_spot_8 ?_
  refine lv_topi (fun x3 ex3 => ?_)
  have ezx3 := ex3
  have ex3 : x3.toInt = x1.toInt + x2.toInt := by rw [ex3]; exact wk_add (show (-2147483648) ≤ x1.toInt + x2.toInt by omega) (show x1.toInt + x2.toInt ≤ 2147483647 by omega)
  replace hM := hM.lt ex3.symm
  refine lv_iload_n hx hb dX0_spot_9 rfl (lv_at hl 2 rfl) ?_
  refine lv_iadd hx hb dX0_spot_10 ?_
  refine lv_topi (fun x4 ex4 => ?_)
  have ezx4 := ex4
  have ex4 : x4.toInt = x3.toInt + a2.toInt := by rw [ex4]; exact wk_add (show (-2147483648) ≤ x3.toInt + a2.toInt by omega) (show x3.toInt + a2.toInt ≤ 2147483647 by omega)
  replace hM := hM.lt ex4.symm
  exact tk_iret hC hr hlocks hK ⟨hT, hF, hM.ret rfl, ⟨(show 400 ≤ x4.toInt by first | with_reducible assumption | omega), (show x4.toInt ≤ 1099 by first | with_reducible assumption | omega)⟩⟩ hw dX0_spot_11
abbrev Py_X0_streetBy_2 (ad : Nat → Nat) (cy : Nat → ClassId) (B : Int) (qr : Nat) (s1 : Int) (a1 : Int32) (a2 : Int32) (a3 : Int32) (w0 : va_W) : Int32 → va_W → Prop := fun r u => TW ksC ad cy B qr s1 u ∧ FE ksC ([] : List (Nat × Nat × Nat)) w0 u ∧ Ev (fun n => m_X0_streetBy n 145 a1.toInt a2.toInt a3.toInt (sL w0)) (r.toInt, sL u) ∧ (((-1) ≤ r.toInt ∧ r.toInt ≤ 11))
set_option maxHeartbeats 4000000 in
set_option maxRecDepth 100000 in
theorem ky_X0_streetBy_2 (l : Launch) (adK adV : Nat → Nat) (dC : Nat → ClassId) (dI : Nat → Nat → Nat) (cy : Nat → ClassId) (ad : Nat → Nat) (B : Int) (hB0 : 2147483648 ≤ B) (hB1 : B ≤ 1152921504606846976) (qr : Nat) (s1 : Int)  (a1 : Int32) (ra1 : 4 ≤ a1.toInt) (ta1 : a1.toInt ≤ 10) (a2 : Int32) (ra2 : 0 ≤ a2.toInt) (ta2 : a2.toInt ≤ 9) (a3 : Int32) (ra3 : 0 ≤ a3.toInt) (ta3 : a3.toInt ≤ 9) (w0 : va_W) (sz : Nat) (hT : TW ksC ad cy B qr s1 w0)  : Met l yX0_streetBy (wu yX0_streetBy cX0_streetBy 4 (some .int)) ({ frames := 2, cells := 0, slots := 0, locals := 34 }) (va_Pc [.ref (ad 145), .int a1, .int a2, .int a3] (wpreS adK adV dC dI cy sz w0)) (va_Qi (Py_X0_streetBy_2 ad cy B qr s1 a1 a2 a3 w0) (fun u : va_W => wpost dC dI cy (va_A w0 sz) u) (va_A w0 sz)) 0 0 (va_A w0 sz) := by
  refine Met.ofW (cc := cX0_streetBy) (maxL := 4) (ret := (some .int)) (by decide) rfl ?_
  intro p e s m args below meth c s₁ Bk hml hv
  obtain ⟨rfl, ⟨hsz, hP, hK, hD0⟩, hE, hSR⟩ := hv
  have hx := Bk.exec
  have hb := Bk.bytes
  have hr := Bk.returns
  have hlocks := Bk.notSynchronized
  have hC : CallFix p m c cX0_streetBy 4 s _ (wu yX0_streetBy cX0_streetBy 4 (some .int)) RX0 := ⟨hx, hb, hml, findClass_of_methodNamed Bk.named, atoms_spec (ws := (wu yX0_streetBy cX0_streetBy 4 (some .int))) Bk.pre⟩
  subst hsz
  have hD := hD0.self (sz := s.heap.size)
  generalize hAe : va_A w0 s.heap.size = A at hD hE ⊢
  have hA : ∀ q : Nat, s.heap.size ≤ q → A q := fun q h => by rw [← hAe]; exact Or.inr h
  have hw : Wd dC dI A s.heap s.heap [] w0 := ⟨hP, hD, va_S.rf⟩
  have hF : FE ksC ([] : List (Nat × Nat × Nat)) w0 w0 := FE.rf
  have hl := lv_entry ([.ref (ad 145), .int a1, .int a2, .int a3]) (n := 4) (Nat.le_of_ble_eq_true rfl)
  rw [lg_entry_eq]
  generalize (lg_sl ([.ref (ad 145), .int a1, .int a2, .int a3]) ++ List.replicate (4 - (lg_sl ([.ref (ad 145), .int a1, .int a2, .int a3])).length) Slot.unset).toArray = ls at hl ⊢
  have hl : lv_has ls 4 [(0, .ref (ad 145)), (1, .int a1), (2, .int a2), (3, .int a3)] := hl
  generalize hloc : ([] : List Loc) = locs at hw ⊢
  have hinX0 : ∀ w ∈ u_ws RX0 TX0 4, w ∈ (wu yX0_streetBy cX0_streetBy 4 (some .int)) := fun _ h => List.mem_cons_of_mem _ (up_77 h)
  have hM : TT (fun n => m_X0_streetBy n 145 a1.toInt a2.toInt a3.toInt (sL w0)) (fun n => m_X0_streetBy n 145 a1.toInt a2.toInt a3.toInt (sL w0)) := TT.rf
  refine lv_aload_n hx hb dX0_streetBy_0 rfl (lv_at hl 0 rfl) ?_
  refine tk_getA hC hK hw hT hinX0 kC_at145 (by decide) rfl 2 (by decide) (List.mem_cons_of_mem _ uw_4_15) rfl rfl dX0_streetBy_1 ?_
  refine lv_iload_n hx hb dX0_streetBy_4 rfl (lv_at hl 1 rfl) ?_
  refine lv_iload_n hx hb dX0_streetBy_5 rfl (lv_at hl 2 rfl) ?_
  refine lv_iload_n hx hb dX0_streetBy_6 rfl (lv_at hl 3 rfl) ?_
  refine tk_Si hC hK hw hT hA hE hSR (ky_X0_spot_3 l adK adV dC dI cy ad B hB0 (Int.le_trans hB1 (by decide)) qr s1   a1 (show 4 ≤ a1.toInt from ra1) (show a1.toInt ≤ 10 from ta1) a2 (show 0 ≤ a2.toInt from ra2) (show a2.toInt ≤ 9 from ta2) a3 (show 0 ≤ a3.toInt from ra3) (show a3.toInt ≤ 9 from ta3) w0 s.heap.size hT ) (va_cwS 3 hC.2.2.2.2 uS_RX0_47 rfl rfl rfl (by decide +kernel) ⟨Nat.le_of_ble_eq_true rfl, Nat.le_of_ble_eq_true rfl⟩) rfl hl.1 rfl (Nat.le_of_ble_eq_true rfl) dX0_streetBy_7 (fun r1 w3 H locs hp2 hw => ?_)
  obtain ⟨hT, k4, hv8, hg7⟩ := hp2
  have hF := hF.tr k4 (by decide)
  obtain ⟨g5, g6⟩ := hg7
  replace hM := hM.call hv8 rfl
  refine tk_iald hC hK hw hT kC_at147 rfl rfl (show 0 ≤ r1.toInt by first | with_reducible assumption | omega) (show r1.toInt < 1100 by first | with_reducible assumption | omega) dX0_streetBy_10 (fun x9 c10 rx9 tx9 => ?_)
  have hox9 := c10
  replace hM := hM.rd (sL_at (kC_lt kC_at147) hox9)
  exact tk_iret hC hr hlocks hK ⟨hT, hF, hM.ret rfl, ⟨(show (-1) ≤ x9.toInt from rx9), (show x9.toInt ≤ 11 from tx9)⟩⟩ hw dX0_streetBy_11
abbrev Py_X0_hoursBy_2 (ad : Nat → Nat) (cy : Nat → ClassId) (B : Int) (qr : Nat) (s1 : Int) (a1 : Int32) (a2 : Int32) (a3 : Int32) (w0 : va_W) : Int32 → va_W → Prop := fun r u => TW ksC ad cy B qr s1 u ∧ FE ksC ([] : List (Nat × Nat × Nat)) w0 u ∧ Ev (fun n => m_X0_hoursBy n 145 a1.toInt a2.toInt a3.toInt (sL w0)) (r.toInt, sL u) ∧ ((0 ≤ r.toInt ∧ r.toInt ≤ 999999) ∨ (r = (-1)))
set_option maxHeartbeats 4000000 in
set_option maxRecDepth 100000 in
theorem ky_X0_hoursBy_2 (l : Launch) (adK adV : Nat → Nat) (dC : Nat → ClassId) (dI : Nat → Nat → Nat) (cy : Nat → ClassId) (ad : Nat → Nat) (B : Int) (hB0 : 2147483648 ≤ B) (hB1 : B ≤ 1152921504606846976) (qr : Nat) (s1 : Int)  (a1 : Int32) (ra1 : 4 ≤ a1.toInt) (ta1 : a1.toInt ≤ 10) (a2 : Int32) (ra2 : 0 ≤ a2.toInt) (ta2 : a2.toInt ≤ 9) (a3 : Int32) (ra3 : 0 ≤ a3.toInt) (ta3 : a3.toInt ≤ 9) (w0 : va_W) (sz : Nat) (hT : TW ksC ad cy B qr s1 w0)  : Met l yX0_hoursBy (wu yX0_hoursBy cX0_hoursBy 5 (some .int)) ({ frames := 2, cells := 0, slots := 0, locals := 34 }) (va_Pc [.ref (ad 145), .int a1, .int a2, .int a3] (wpreS adK adV dC dI cy sz w0)) (va_Qi (Py_X0_hoursBy_2 ad cy B qr s1 a1 a2 a3 w0) (fun u : va_W => wpost dC dI cy (va_A w0 sz) u) (va_A w0 sz)) 0 0 (va_A w0 sz) := by
  refine Met.ofW (cc := cX0_hoursBy) (maxL := 5) (ret := (some .int)) (by decide) rfl ?_
  intro p e s m args below meth c s₁ Bk hml hv
  obtain ⟨rfl, ⟨hsz, hP, hK, hD0⟩, hE, hSR⟩ := hv
  have hx := Bk.exec
  have hb := Bk.bytes
  have hr := Bk.returns
  have hlocks := Bk.notSynchronized
  have hC : CallFix p m c cX0_hoursBy 5 s _ (wu yX0_hoursBy cX0_hoursBy 5 (some .int)) RX0 := ⟨hx, hb, hml, findClass_of_methodNamed Bk.named, atoms_spec (ws := (wu yX0_hoursBy cX0_hoursBy 5 (some .int))) Bk.pre⟩
  subst hsz
  have hD := hD0.self (sz := s.heap.size)
  generalize hAe : va_A w0 s.heap.size = A at hD hE ⊢
  have hA : ∀ q : Nat, s.heap.size ≤ q → A q := fun q h => by rw [← hAe]; exact Or.inr h
  have hw : Wd dC dI A s.heap s.heap [] w0 := ⟨hP, hD, va_S.rf⟩
  have hF : FE ksC ([] : List (Nat × Nat × Nat)) w0 w0 := FE.rf
  have hl := lv_entry ([.ref (ad 145), .int a1, .int a2, .int a3]) (n := 5) (Nat.le_of_ble_eq_true rfl)
  rw [lg_entry_eq]
  generalize (lg_sl ([.ref (ad 145), .int a1, .int a2, .int a3]) ++ List.replicate (5 - (lg_sl ([.ref (ad 145), .int a1, .int a2, .int a3])).length) Slot.unset).toArray = ls at hl ⊢
  have hl : lv_has ls 5 [(0, .ref (ad 145)), (1, .int a1), (2, .int a2), (3, .int a3)] := hl
  generalize hloc : ([] : List Loc) = locs at hw ⊢
  have hinX0 : ∀ w ∈ u_ws RX0 TX0 4, w ∈ (wu yX0_hoursBy cX0_hoursBy 5 (some .int)) := fun _ h => List.mem_cons_of_mem _ (up_77 h)
  have hM : TT (fun n => m_X0_hoursBy n 145 a1.toInt a2.toInt a3.toInt (sL w0)) (fun n => m_X0_hoursBy n 145 a1.toInt a2.toInt a3.toInt (sL w0)) := TT.rf
  refine lv_aload_n hx hb dX0_hoursBy_0 rfl (lv_at hl 0 rfl) ?_
  refine tk_getA hC hK hw hT hinX0 kC_at145 (by decide) rfl 1 (by decide) (List.mem_cons_of_mem _ uw_4_14) rfl rfl dX0_hoursBy_1 ?_
  refine lv_iload_n hx hb dX0_hoursBy_4 rfl (lv_at hl 1 rfl) ?_
  refine lv_iload_n hx hb dX0_hoursBy_5 rfl (lv_at hl 2 rfl) ?_
  refine lv_iload_n hx hb dX0_hoursBy_6 rfl (lv_at hl 3 rfl) ?_
  refine tk_Si hC hK hw hT hA hE hSR (ky_X0_spot_3 l adK adV dC dI cy ad B hB0 (Int.le_trans hB1 (by decide)) qr s1   a1 (show 4 ≤ a1.toInt from ra1) (show a1.toInt ≤ 10 from ta1) a2 (show 0 ≤ a2.toInt from ra2) (show a2.toInt ≤ 9 from ta2) a3 (show 0 ≤ a3.toInt from ra3) (show a3.toInt ≤ 9 from ta3) w0 s.heap.size hT ) (va_cwS 3 hC.2.2.2.2 uS_RX0_47 rfl rfl rfl (by decide +kernel) ⟨Nat.le_of_ble_eq_true rfl, Nat.le_of_ble_eq_true rfl⟩) rfl hl.1 rfl (Nat.le_of_ble_eq_true rfl) dX0_hoursBy_7 (fun r1 w3 H locs hp2 hw => ?_)
  obtain ⟨hT, k4, hv8, hg7⟩ := hp2
  have hF := hF.tr k4 (by decide)
  obtain ⟨g5, g6⟩ := hg7
  replace hM := hM.call hv8 rfl
  refine tk_iald hC hK hw hT kC_at146 rfl rfl (show 0 ≤ r1.toInt by first | with_reducible assumption | omega) (show r1.toInt < 1100 by first | with_reducible assumption | omega) dX0_hoursBy_10 (fun x9 c10 rx9 tx9 => ?_)
  have hox9 := c10
  replace hM := hM.rd (sL_at (kC_lt kC_at146) hox9)
  refine lv_istore (lv' := [(4, .int x9), (0, .ref (ad 145)), (1, .int a1), (2, .int a2), (3, .int a3)]) hx hb dX0_hoursBy_11 hl (by decide) rfl (fun ls hl => ?_)
  refine lv_iload hx hb dX0_hoursBy_13 (lv_at hl 0 rfl) ?_
  refine lv_ldc (v := 1000000) hx hb hC.2.2.2.1 (hC.2.2.2.2 _ (List.mem_cons_of_mem _ uw_36_8)) dX0_hoursBy_15 ?_
  refine lv_icmp_lt (tgt := 24) hx hb dX0_hoursBy_17 (by decide) (fun c11 => ?_) (fun c11 => ?_)
  · have c11 : x9.toInt < (1000000 : Int) := wk_lt.mp c11
    replace hM := hM.pos c11
    refine lv_iload hx hb dX0_hoursBy_24 (lv_at hl 0 rfl) ?_
    exact tk_iret hC hr hlocks hK ⟨hT, hF, hM.ret rfl, (Or.inl ⟨(show 0 ≤ x9.toInt from rx9), (show x9.toInt ≤ 999999 by first | with_reducible assumption | omega)⟩)⟩ hw dX0_hoursBy_26
  · have c11 : (1000000 : Int) ≤ x9.toInt := wk_ltF c11
    replace hM := hM.neg (Int.not_lt.mpr c11)
    refine lv_iconst (v := (-1)) hx hb dX0_hoursBy_20 (by decide) ?_
    refine lv_goto (tgt := 26) hx hb dX0_hoursBy_21 (by decide) ?_
    exact tk_iret hC hr hlocks hK ⟨hT, hF, hM.ret (by decide), (Or.inr rfl)⟩ hw dX0_hoursBy_26
abbrev Py_X1_lookAround_1 (ad : Nat → Nat) (cy : Nat → ClassId) (B : Int) (qr : Nat) (s1 : Int)  (w0 : va_W) : va_W → Prop := fun u => TW ksC ad cy B qr s1 u ∧ FE ksC [(1, 5, 5), (1, 6, 6), (1, 7, 7), (1, 8, 8)] w0 u ∧ Ev (fun n => m_X1_lookAround n 149 152 0 (sL w0)) (0, sL u) ∧ (((∃ y : Int32, gi u 149 7 = y ∧ (-1) ≤ y.toInt ∧ y.toInt ≤ (-1)) ∧ (∃ y : Int32, gi u 149 8 = y ∧ 0 ≤ y.toInt ∧ y.toInt ≤ 999999)))
set_option maxHeartbeats 4000000 in
set_option maxRecDepth 100000 in
theorem ky_X1_lookAround_1 (l : Launch) (adK adV : Nat → Nat) (dC : Nat → ClassId) (dI : Nat → Nat → Nat) (cy : Nat → ClassId) (ad : Nat → Nat) (B : Int) (hB0 : 2147483648 ≤ B) (hB1 : B ≤ 1152921504606846976) (qr : Nat) (s1 : Int)   (w0 : va_W) (sz : Nat) (hT : TW ksC ad cy B qr s1 w0)  : Met l yX1_lookAround (wu yX1_lookAround cX1_lookAround 5 none) ({ frames := 4, cells := 0, slots := 0, locals := 88 }) (va_Pc [.ref (ad 149), .ref (ad 152), .int 0] (wpreS adK adV dC dI cy sz w0)) (va_Qv (Py_X1_lookAround_1 ad cy B qr s1  w0) (fun u : va_W => wpost dC dI cy (va_A w0 sz) u) (va_A w0 sz)) 0 0 (va_A w0 sz) := by
  refine Met.ofW (cc := cX1_lookAround) (maxL := 5) (ret := none) (by decide) rfl ?_
  intro p e s m args below meth c s₁ Bk hml hv
  obtain ⟨rfl, ⟨hsz, hP, hK, hD0⟩, hE, hSR⟩ := hv
  have hx := Bk.exec
  have hb := Bk.bytes
  have hr := Bk.returns
  have hlocks := Bk.notSynchronized
  have hC : CallFix p m c cX1_lookAround 5 s _ (wu yX1_lookAround cX1_lookAround 5 none) RX1 := ⟨hx, hb, hml, findClass_of_methodNamed Bk.named, atoms_spec (ws := (wu yX1_lookAround cX1_lookAround 5 none)) Bk.pre⟩
  subst hsz
  have hD := hD0.self (sz := s.heap.size)
  generalize hAe : va_A w0 s.heap.size = A at hD hE ⊢
  have hA : ∀ q : Nat, s.heap.size ≤ q → A q := fun q h => by rw [← hAe]; exact Or.inr h
  have hw : Wd dC dI A s.heap s.heap [] w0 := ⟨hP, hD, va_S.rf⟩
  have hF : FE ksC [(1, 5, 5), (1, 6, 6), (1, 7, 7), (1, 8, 8)] w0 w0 := FE.rf
  have hl := lv_entry ([.ref (ad 149), .ref (ad 152), .int 0]) (n := 5) (Nat.le_of_ble_eq_true rfl)
  rw [lg_entry_eq]
  generalize (lg_sl ([.ref (ad 149), .ref (ad 152), .int 0]) ++ List.replicate (5 - (lg_sl ([.ref (ad 149), .ref (ad 152), .int 0])).length) Slot.unset).toArray = ls at hl ⊢
  have hl : lv_has ls 5 [(0, .ref (ad 149)), (1, .ref (ad 152)), (2, .int 0)] := hl
  generalize hloc : ([] : List Loc) = locs at hw ⊢
  have hinX9 : ∀ w ∈ u_ws RX9 TX9 9, w ∈ (wu yX1_lookAround cX1_lookAround 5 none) := fun _ h => List.mem_cons_of_mem _ (up_82 h)
  have hinX1 : ∀ w ∈ u_ws RX1 TX1 10, w ∈ (wu yX1_lookAround cX1_lookAround 5 none) := fun _ h => List.mem_cons_of_mem _ (up_78 h)
  have J159 : ∀ (v159_3 : Int32) (f159_149_5 : Int32) (f159_149_6 : Int32) (f159_149_8 : Int32) (f159_152_0 : Int32) (f159_152_1 : Int32) (H : Heap) (locs : List Loc) (ls : Array Slot) (w1 : va_W), 0 ≤ v159_3.toInt → v159_3.toInt ≤ 10 → (-1) ≤ f159_149_5.toInt → f159_149_5.toInt ≤ 11 → 0 ≤ f159_149_6.toInt → f159_149_6.toInt ≤ 1 → 0 ≤ f159_149_8.toInt → f159_149_8.toInt ≤ 999999 → 0 ≤ f159_152_0.toInt → f159_152_0.toInt ≤ 9 → 0 ≤ f159_152_1.toInt → f159_152_1.toInt ≤ 9 → Wd dC dI A s.heap H locs w1 → TW ksC ad cy B qr s1 w1 → FE ksC [(1, 5, 5), (1, 6, 6), (1, 7, 7), (1, 8, 8)] w0 w1 → gi w1 149 5 = f159_149_5 → gi w1 149 6 = f159_149_6 → gi w1 149 7 = (-1) → gi w1 149 8 = f159_149_8 → gi w1 152 0 = f159_152_0 → gi w1 152 1 = f159_152_1 → TT (fun n => m_X1_lookAround n 149 152 0 (sL w0)) (fun n => b_X1_lookAround_159 (j_X1_lookAround 149 152 n) n 149 152 (sL w1)) → lv_has ls 5 [(0, .ref (ad 149)), (1, .ref (ad 152)), (2, .int 0), (3, .int v159_3), (4, .int 0)] → W p l e ({ frames := 4, cells := 0, slots := 0, locals := 88 }) s m (List.toArray [.ref (ad 149), .ref (ad 152), .int 0]) below meth c H locs 0 0 (MQ below (va_Qv (Py_X1_lookAround_1 ad cy B qr s1  w0) (fun u : va_W => wpost dC dI cy A u) A) (List.toArray [.ref (ad 149), .ref (ad 152), .int 0]) s 0 0 A) (F0 m 159 ls []) := by
    intro v159_3 f159_149_5 f159_149_6 f159_149_8 f159_152_0 f159_152_1 H locs ls w1 r2 t3 r4 t5 r7 t8 r11 t12 r14 t15 r17 t18 hw hT hF c6 c9 c10 c13 c16 c19 hM hl
    exact tk_vret hC hr hlocks hK ⟨hT, hF, hM.ret rfl, ⟨⟨(-1), c10, (by decide), (by decide)⟩, ⟨f159_149_8, c13, (show 0 ≤ f159_149_8.toInt from r11), (show f159_149_8.toInt ≤ 999999 from t12)⟩⟩⟩ hw dX1_lookAround_159
  have L110 : ∀ (v110_3 : Int32) (f110_149_5 : Int32) (f110_149_6 : Int32) (f110_149_8 : Int32) (f110_152_0 : Int32) (f110_152_1 : Int32) (H : Heap) (locs : List Loc) (ls : Array Slot) (w20 : va_W), 0 ≤ v110_3.toInt → v110_3.toInt ≤ 10 → (-1) ≤ f110_149_5.toInt → f110_149_5.toInt ≤ 11 → 0 ≤ f110_149_6.toInt → f110_149_6.toInt ≤ 1 → 0 ≤ f110_149_8.toInt → f110_149_8.toInt ≤ 999999 → 0 ≤ f110_152_0.toInt → f110_152_0.toInt ≤ 9 → 0 ≤ f110_152_1.toInt → f110_152_1.toInt ≤ 9 → Wd dC dI A s.heap H locs w20 → TW ksC ad cy B qr s1 w20 → FE ksC [(1, 5, 5), (1, 6, 6), (1, 7, 7), (1, 8, 8)] w0 w20 → gi w20 149 5 = f110_149_5 → gi w20 149 6 = f110_149_6 → gi w20 149 7 = (-1) → gi w20 149 8 = f110_149_8 → gi w20 152 0 = f110_152_0 → gi w20 152 1 = f110_152_1 → TT (fun n => m_X1_lookAround n 149 152 0 (sL w0)) (fun n => j_X1_lookAround 149 152 n 110 [(0 : Int), (0 : Int)] (sL w20)) → lv_has ls 5 [(0, .ref (ad 149)), (1, .ref (ad 152)), (2, .int 0), (3, .int v110_3), (4, .int 0)] → W p l e ({ frames := 4, cells := 0, slots := 0, locals := 88 }) s m (List.toArray [.ref (ad 149), .ref (ad 152), .int 0]) below meth c H locs 0 0 (MQ below (va_Qv (Py_X1_lookAround_1 ad cy B qr s1  w0) (fun u : va_W => wpost dC dI cy A u) A) (List.toArray [.ref (ad 149), .ref (ad 152), .int 0]) s 0 0 A) (F0 m 110 ls []) := by
    intro v110_3 f110_149_5 f110_149_6 f110_149_8 f110_152_0 f110_152_1 H locs ls w20 r21 t22 r23 t24 r26 t27 r30 t31 r33 t34 r36 t37 hw hT hF c25 c28 c29 c32 c35 c38 hM hl
    replace hM := hM.suc (fun _ => e_X1_lookAround_110)
    refine lv_iload_n hx hb dX1_lookAround_110 rfl (lv_at hl 2 rfl) ?_
    refine lv_if_eq (tgt := 159) hx hb dX1_lookAround_111 (by decide) (fun _ => ?_) (fun c => absurd (by decide) c)
    replace hM := hM.pos (by decide)
    exact J159 v110_3 f110_149_5 f110_149_6 f110_149_8 f110_152_0 f110_152_1 H locs ls w20 (show 0 ≤ v110_3.toInt from r21) (show v110_3.toInt ≤ 10 from t22) (show (-1) ≤ f110_149_5.toInt from r23) (show f110_149_5.toInt ≤ 11 from t24) (show 0 ≤ f110_149_6.toInt from r26) (show f110_149_6.toInt ≤ 1 from t27) (show 0 ≤ f110_149_8.toInt from r30) (show f110_149_8.toInt ≤ 999999 from t31) (show 0 ≤ f110_152_0.toInt from r33) (show f110_152_0.toInt ≤ 9 from t34) (show 0 ≤ f110_152_1.toInt from r36) (show f110_152_1.toInt ≤ 9 from t37)  hw hT hF c25 c28 c29 c32 c35 c38 hM (lv_sub hl [0, 1, 2, 3, 4] rfl)
  have J24 : ∀ (H : Heap) (locs : List Loc) (ls : Array Slot) (w39 : va_W), Wd dC dI A s.heap H locs w39 → TW ksC ad cy B qr s1 w39 → FE ksC [(1, 5, 5), (1, 6, 6), (1, 7, 7), (1, 8, 8)] w0 w39 → TT (fun n => m_X1_lookAround n 149 152 0 (sL w0)) (fun n => b_X1_lookAround_24 (j_X1_lookAround 149 152 n) n 149 152 (0 : Int) (sL w39)) → lv_has ls 5 [(0, .ref (ad 149)), (1, .ref (ad 152)), (2, .int 0)] → W p l e ({ frames := 4, cells := 0, slots := 0, locals := 88 }) s m (List.toArray [.ref (ad 149), .ref (ad 152), .int 0]) below meth c H locs 0 0 (MQ below (va_Qv (Py_X1_lookAround_1 ad cy B qr s1  w0) (fun u : va_W => wpost dC dI cy A u) A) (List.toArray [.ref (ad 149), .ref (ad 152), .int 0]) s 0 0 A) (F0 m 24 ls []) := by
    intro H locs ls w39 hw hT hF hM hl
    refine lv_aload_n hx hb dX1_lookAround_24 rfl (lv_at hl 1 rfl) ?_
    refine tk_geti hC hK hw hT hinX9 kC_at152 (by decide) rfl 2 (by decide) (List.mem_cons_of_mem _ uw_42_21) rfl rfl dX1_lookAround_25 (fun x40 c41 rx40 tx40 => ?_)
    replace hM := hM.rd (sL_at (kC_lt kC_at152) c41)
    refine lv_istore_n (lv' := [(3, .int x40), (0, .ref (ad 149)), (1, .ref (ad 152)), (2, .int 0)]) hx hb dX1_lookAround_28 rfl hl (by decide) rfl (fun ls hl => ?_)
    refine lv_aload_n hx hb dX1_lookAround_29 rfl (lv_at hl 1 rfl) ?_
    refine lv_aload_n hx hb dX1_lookAround_30 rfl (lv_at hl 1 rfl) ?_
    refine tk_getA hC hK hw hT hinX1 kC_at149 (by decide) rfl 1 (by decide) (List.mem_cons_of_mem _ uw_5_1) rfl rfl dX1_lookAround_31 ?_
    refine lv_iload_n hx hb dX1_lookAround_34 rfl (lv_at hl 0 rfl) ?_
    refine lv_aload_n hx hb dX1_lookAround_35 rfl (lv_at hl 2 rfl) ?_
    refine tk_geti hC hK hw hT hinX9 kC_at152 (by decide) rfl 0 (by decide) (List.mem_cons_of_mem _ uw_42_22) rfl rfl dX1_lookAround_36 (fun x42 c43 rx42 tx42 => ?_)
    replace hM := hM.rd (sL_at (kC_lt kC_at152) c43)
    refine lv_aload_n hx hb dX1_lookAround_39 rfl (lv_at hl 2 rfl) ?_
    refine tk_geti hC hK hw hT hinX9 kC_at152 (by decide) rfl 1 (by decide) (List.mem_cons_of_mem _ uw_42_23) rfl rfl dX1_lookAround_40 (fun x44 c45 rx44 tx44 => ?_)
    replace hM := hM.rd (sL_at (kC_lt kC_at152) c45)
    refine tk_Vi hC hK hw hT hA hE hSR kC_at145 (by decide) rfl (ky_X0_streetBy_1 l adK adV dC dI cy ad B hB0 (Int.le_trans hB1 (by decide)) qr s1   x40 (show 0 ≤ x40.toInt from rx40) (show x40.toInt ≤ 3 from tx40) x42 (show 0 ≤ x42.toInt from rx42) (show x42.toInt ≤ 9 from tx42) x44 (show 0 ≤ x44.toInt from rx44) (show x44.toInt ≤ 9 from tx44) w39 H.size hT ) (cwV 3 hC.2.2.2.2 uV_RX1_106 rfl rfl rfl (by decide +kernel) ⟨Nat.le_of_ble_eq_true rfl, Nat.le_of_ble_eq_true rfl⟩) rfl hl.1 rfl (Nat.le_of_ble_eq_true rfl) dX1_lookAround_43 (fun r46 w48 H locs hp47 hw => ?_)
    obtain ⟨hT, k49, hv53, hg52⟩ := hp47
    have hF := hF.tr k49 (by decide)
    have c54 := k49.gi kC_at152 (by decide) c41
    have c55 := k49.gi kC_at152 (by decide) c43
    have c56 := k49.gi kC_at152 (by decide) c45
    obtain ⟨g50, g51⟩ := hg52
    replace hM := hM.call hv53 rfl
    have hTq := hT
    refine tk_puti hC hK hw hT hinX1 tyX1_ok nmX1 kC_at149 (by decide) rfl rfl 5 (by decide) (List.mem_cons_of_mem _ uw_42_6) rfl rfl rfl rfl (show (-1) ≤ r46.toInt by first | with_reducible assumption | omega) (show r46.toInt ≤ 11 by first | with_reducible assumption | omega) dX1_lookAround_46 (fun H locs w57 hw hT k59 c58 => ?_)
    replace hM := hM.wr (sL_upf hTq hT kC_at149 (kC_lt kC_at149) (by decide) rfl k59 c58 rfl)
    have hF := hF.put kC_at149 (k := 5) (by decide) k59
    have c60 := k59.gi (Or.inr (by decide)) c54
    have c61 := k59.gi (Or.inr (by decide)) c55
    have c62 := k59.gi (Or.inr (by decide)) c56
    refine lv_aload_n hx hb dX1_lookAround_49 rfl (lv_at hl 1 rfl) ?_
    refine lv_aload_n hx hb dX1_lookAround_50 rfl (lv_at hl 1 rfl) ?_
    refine tk_geti hC hK hw hT hinX1 kC_at149 (by decide) rfl 5 (by decide) (List.mem_cons_of_mem _ uw_42_6) rfl rfl dX1_lookAround_51 (fun x63 c64 rx63 tx63 => ?_)
    refine wk_top r46 (c64.symm.trans c58) ?_
    replace hM := hM.rd (sL_at (kC_lt kC_at149) c58)
    refine lv_iconst (v := (-1)) hx hb dX1_lookAround_54 (by decide) ?_
    refine lv_icmp_eq (tgt := 74) hx hb dX1_lookAround_55 (by decide) (fun c65 => ?_) (fun c65 => ?_)
    · have c65 : r46.toInt = (-1 : Int) := wk_eq.mp c65
      replace hM := hM.pos c65
      refine lv_iconst (v := 0) hx hb dX1_lookAround_74 (by decide) ?_
      have hTq := hT
      refine tk_putz hC hK hw hT hinX1 tyX1_ok nmX1 kC_at149 (by decide) rfl rfl 6 (by decide) (List.mem_cons_of_mem _ uw_42_5) rfl rfl rfl rfl (by decide) (by decide) dX1_lookAround_75 (fun H locs w66 hw hT k68 c67 => ?_)
      replace hM := hM.wr (sL_upf hTq hT kC_at149 (kC_lt kC_at149) (by decide) rfl k68 c67 (by decide))
      have hF := hF.put kC_at149 (k := 6) (by decide) k68
      have c69 := k68.gi (Or.inr (by decide)) c60
      have c70 := k68.gi (Or.inr (by decide)) c61
      have c71 := k68.gi (Or.inr (by decide)) c62
      have c72 := k68.gi (Or.inr (by decide)) c58
      refine lv_aload_n hx hb dX1_lookAround_78 rfl (lv_at hl 1 rfl) ?_
      refine lv_iconst (v := 0) hx hb dX1_lookAround_79 (by decide) ?_
      refine lv_aload_n hx hb dX1_lookAround_80 rfl (lv_at hl 1 rfl) ?_
      refine tk_getA hC hK hw hT hinX1 kC_at149 (by decide) rfl 1 (by decide) (List.mem_cons_of_mem _ uw_5_1) rfl rfl dX1_lookAround_81 ?_
      refine lv_iload_n hx hb dX1_lookAround_84 rfl (lv_at hl 0 rfl) ?_
      refine lv_aload_n hx hb dX1_lookAround_85 rfl (lv_at hl 2 rfl) ?_
      refine tk_geti hC hK hw hT hinX9 kC_at152 (by decide) rfl 0 (by decide) (List.mem_cons_of_mem _ uw_42_22) rfl rfl dX1_lookAround_86 (fun x73 c74 rx73 tx73 => ?_)
      refine wk_top x42 (c74.symm.trans c70) ?_
      replace hM := hM.rd (sL_at (kC_lt kC_at152) c70)
      refine lv_aload_n hx hb dX1_lookAround_89 rfl (lv_at hl 2 rfl) ?_
      refine tk_geti hC hK hw hT hinX9 kC_at152 (by decide) rfl 1 (by decide) (List.mem_cons_of_mem _ uw_42_23) rfl rfl dX1_lookAround_90 (fun x75 c76 rx75 tx75 => ?_)
      refine wk_top x44 (c76.symm.trans c71) ?_
      replace hM := hM.rd (sL_at (kC_lt kC_at152) c71)
      refine tk_Vi hC hK hw hT hA hE hSR kC_at145 (by decide) rfl (ky_X0_hoursBy_1 l adK adV dC dI cy ad B hB0 (Int.le_trans hB1 (by decide)) qr s1   x40 (show 0 ≤ x40.toInt from rx40) (show x40.toInt ≤ 3 from tx40) x42 (show 0 ≤ x42.toInt from rx42) (show x42.toInt ≤ 9 from tx42) x44 (show 0 ≤ x44.toInt from rx44) (show x44.toInt ≤ 9 from tx44) w66 H.size hT ) (cwV 3 hC.2.2.2.2 uV_RX1_114 rfl rfl rfl (by decide +kernel) ⟨Nat.le_of_ble_eq_true rfl, Nat.le_of_ble_eq_true rfl⟩) rfl hl.1 rfl (Nat.le_of_ble_eq_true rfl) dX1_lookAround_93 (fun r77 w79 H locs hp78 hw => ?_)
      obtain ⟨hT, k80, hv84, hg83⟩ := hp78
      have hF := hF.tr k80 (by decide)
      have c85 := k80.gi kC_at152 (by decide) c69
      have c86 := k80.gi kC_at152 (by decide) c70
      have c87 := k80.gi kC_at152 (by decide) c71
      have c88 := k80.gi kC_at149 (by decide) c72
      have c89 := k80.gi kC_at149 (by decide) c67
      rcases hg83 with ⟨g81, g82⟩ | rfl
      · replace hM := hM.call hv84 rfl
        refine va_mmax hx hb (hC.2.2.1.trans hl.1.symm) hC.2.2.2.1 (hC.2.2.2.2 _ (List.mem_cons_of_mem _ uw_43_0)) (hC.2.2.2.2 _ (List.mem_cons_of_mem _ uw_14_15)) (hC.2.2.2.2 _ (List.mem_cons_of_mem _ uw_14_16)) (hC.2.2.2.2 _ (List.mem_cons_of_mem _ uw_14_17)) (Nat.le_of_ble_eq_true rfl) (Nat.le_of_ble_eq_true rfl) (Nat.zero_le _) (Nat.zero_le _) dX1_lookAround_96 ?_
        refine lv_topi (fun x90 ex90 => ?_)
        have bx90 : (x90.toInt = (0 : Int) ∧ r77.toInt ≤ (0 : Int)) ∨ (x90.toInt = r77.toInt ∧ (0 : Int) < r77.toInt) := by rw [ex90]; exact wk_max
        replace hM := hM.lt (mMax_e bx90)
        have hTq := hT
        refine tk_puti hC hK hw hT hinX1 tyX1_ok nmX1 kC_at149 (by decide) rfl rfl 8 (by decide) (List.mem_cons_of_mem _ uw_43_1) rfl rfl rfl rfl (wk_i32 x90).1 (wk_i32 x90).2 dX1_lookAround_99 (fun H locs w91 hw hT k93 c92 => ?_)
        replace hM := hM.wr (sL_upf hTq hT kC_at149 (kC_lt kC_at149) (by decide) rfl k93 c92 rfl)
        have hF := hF.put kC_at149 (k := 8) (by decide) k93
        have c94 := k93.gi (Or.inr (by decide)) c85
        have c95 := k93.gi (Or.inr (by decide)) c86
        have c96 := k93.gi (Or.inr (by decide)) c87
        have c97 := k93.gi (Or.inr (by decide)) c88
        have c98 := k93.gi (Or.inr (by decide)) c89
        refine lv_aload_n hx hb dX1_lookAround_102 rfl (lv_at hl 1 rfl) ?_
        refine lv_iconst (v := (-1)) hx hb dX1_lookAround_103 (by decide) ?_
        have hTq := hT
        refine tk_puti hC hK hw hT hinX1 tyX1_ok nmX1 kC_at149 (by decide) rfl rfl 7 (by decide) (List.mem_cons_of_mem _ uw_42_7) rfl rfl rfl rfl (by decide) (by decide) dX1_lookAround_104 (fun H locs w99 hw hT k101 c100 => ?_)
        replace hM := hM.wr (sL_upf hTq hT kC_at149 (kC_lt kC_at149) (by decide) rfl k101 c100 (by decide))
        have hF := hF.put kC_at149 (k := 7) (by decide) k101
        have c102 := k101.gi (Or.inr (by decide)) c94
        have c103 := k101.gi (Or.inr (by decide)) c95
        have c104 := k101.gi (Or.inr (by decide)) c96
        have c105 := k101.gi (Or.inr (by decide)) c97
        have c106 := k101.gi (Or.inr (by decide)) c98
        have c107 := k101.gi (Or.inr (by decide)) c92
        refine lv_iconst (v := 0) hx hb dX1_lookAround_107 (by decide) ?_
        refine lv_istore (lv' := [(4, .int 0), (3, .int x40), (0, .ref (ad 149)), (1, .ref (ad 152)), (2, .int 0)]) hx hb dX1_lookAround_108 hl (by decide) rfl (fun ls hl => ?_)
        exact L110 x40 r46 0 x90 x42 x44 H locs ls w99 (show 0 ≤ x40.toInt from rx40) (show x40.toInt ≤ 10 from Int.le_trans tx40 (by decide)) (show (-1) ≤ r46.toInt by first | with_reducible assumption | omega) (show r46.toInt ≤ 11 by first | with_reducible assumption | omega) (by decide) (by decide) (show 0 ≤ x90.toInt by first | with_reducible assumption | omega) (show x90.toInt ≤ 999999 by first | with_reducible assumption | omega) (show 0 ≤ x42.toInt from rx42) (show x42.toInt ≤ 9 from tx42) (show 0 ≤ x44.toInt from rx44) (show x44.toInt ≤ 9 from tx44)  hw hT hF c105 c106 c100 c107 c103 c104 hM (lv_sub hl [2, 3, 4, 1, 0] rfl)
      · replace hM := hM.call (r' := (-1)) hv84 (by decide)
        refine va_mmax hx hb (hC.2.2.1.trans hl.1.symm) hC.2.2.2.1 (hC.2.2.2.2 _ (List.mem_cons_of_mem _ uw_43_0)) (hC.2.2.2.2 _ (List.mem_cons_of_mem _ uw_14_15)) (hC.2.2.2.2 _ (List.mem_cons_of_mem _ uw_14_16)) (hC.2.2.2.2 _ (List.mem_cons_of_mem _ uw_14_17)) (Nat.le_of_ble_eq_true rfl) (Nat.le_of_ble_eq_true rfl) (Nat.zero_le _) (Nat.zero_le _) dX1_lookAround_96 ?_
        refine lv_topi (fun x108 ex108 => ?_)
        have bx108 : (x108.toInt = (0 : Int) ∧ (-1 : Int) ≤ (0 : Int)) ∨ (x108.toInt = (-1 : Int) ∧ (0 : Int) < (-1 : Int)) := by rw [ex108]; exact wk_max
        replace hM := hM.lt (mMax_e bx108)
        have hTq := hT
        refine tk_puti hC hK hw hT hinX1 tyX1_ok nmX1 kC_at149 (by decide) rfl rfl 8 (by decide) (List.mem_cons_of_mem _ uw_43_1) rfl rfl rfl rfl (wk_i32 x108).1 (wk_i32 x108).2 dX1_lookAround_99 (fun H locs w109 hw hT k111 c110 => ?_)
        replace hM := hM.wr (sL_upf hTq hT kC_at149 (kC_lt kC_at149) (by decide) rfl k111 c110 rfl)
        have hF := hF.put kC_at149 (k := 8) (by decide) k111
        have c112 := k111.gi (Or.inr (by decide)) c85
        have c113 := k111.gi (Or.inr (by decide)) c86
        have c114 := k111.gi (Or.inr (by decide)) c87
        have c115 := k111.gi (Or.inr (by decide)) c88
        have c116 := k111.gi (Or.inr (by decide)) c89
        refine lv_aload_n hx hb dX1_lookAround_102 rfl (lv_at hl 1 rfl) ?_
        refine lv_iconst (v := (-1)) hx hb dX1_lookAround_103 (by decide) ?_
        have hTq := hT
        refine tk_puti hC hK hw hT hinX1 tyX1_ok nmX1 kC_at149 (by decide) rfl rfl 7 (by decide) (List.mem_cons_of_mem _ uw_42_7) rfl rfl rfl rfl (by decide) (by decide) dX1_lookAround_104 (fun H locs w117 hw hT k119 c118 => ?_)
        replace hM := hM.wr (sL_upf hTq hT kC_at149 (kC_lt kC_at149) (by decide) rfl k119 c118 (by decide))
        have hF := hF.put kC_at149 (k := 7) (by decide) k119
        have c120 := k119.gi (Or.inr (by decide)) c112
        have c121 := k119.gi (Or.inr (by decide)) c113
        have c122 := k119.gi (Or.inr (by decide)) c114
        have c123 := k119.gi (Or.inr (by decide)) c115
        have c124 := k119.gi (Or.inr (by decide)) c116
        have c125 := k119.gi (Or.inr (by decide)) c110
        refine lv_iconst (v := 0) hx hb dX1_lookAround_107 (by decide) ?_
        refine lv_istore (lv' := [(4, .int 0), (3, .int x40), (0, .ref (ad 149)), (1, .ref (ad 152)), (2, .int 0)]) hx hb dX1_lookAround_108 hl (by decide) rfl (fun ls hl => ?_)
        exact L110 x40 r46 0 x108 x42 x44 H locs ls w117 (show 0 ≤ x40.toInt from rx40) (show x40.toInt ≤ 10 from Int.le_trans tx40 (by decide)) (show (-1) ≤ r46.toInt by first | with_reducible assumption | omega) (show r46.toInt ≤ 11 by first | with_reducible assumption | omega) (by decide) (by decide) (show 0 ≤ x108.toInt by first | with_reducible assumption | omega) (show x108.toInt ≤ 999999 by first | with_reducible assumption | omega) (show 0 ≤ x42.toInt from rx42) (show x42.toInt ≤ 9 from tx42) (show 0 ≤ x44.toInt from rx44) (show x44.toInt ≤ 9 from tx44)  hw hT hF c123 c124 c118 c125 c121 c122 hM (lv_sub hl [2, 3, 4, 1, 0] rfl)
    · have c65 : ¬ r46.toInt = (-1 : Int) := wk_eqF c65
      replace hM := hM.neg c65
      refine lv_aload_n hx hb dX1_lookAround_58 rfl (lv_at hl 1 rfl) ?_
      refine lv_aload_n hx hb dX1_lookAround_59 rfl (lv_at hl 2 rfl) ?_
      refine lv_aload_n hx hb dX1_lookAround_60 rfl (lv_at hl 1 rfl) ?_
      refine tk_geti hC hK hw hT hinX1 kC_at149 (by decide) rfl 5 (by decide) (List.mem_cons_of_mem _ uw_42_6) rfl rfl dX1_lookAround_61 (fun x126 c127 rx126 tx126 => ?_)
      refine wk_top r46 (c127.symm.trans c58) ?_
      replace hM := hM.rd (sL_at (kC_lt kC_at149) c58)
      refine tk_Vi hC hK hw hT hA hE hSR kC_at149 (by decide) rfl (ky_X1_isOpenFor_1 l adK adV dC dI cy ad B hB0 (Int.le_trans hB1 (by decide)) qr s1   r46 (show 0 ≤ r46.toInt by first | with_reducible assumption | omega) (show r46.toInt ≤ 11 by first | with_reducible assumption | omega) w57 H.size hT ) (cwV 2 hC.2.2.2.2 uV_RX1_110 rfl rfl rfl (by decide +kernel) ⟨Nat.le_of_ble_eq_true rfl, Nat.le_of_ble_eq_true rfl⟩) rfl hl.1 rfl (Nat.le_of_ble_eq_true rfl) dX1_lookAround_64 (fun r128 w130 H locs hp129 hw => ?_)
      obtain ⟨hT, k131, hv135, hg134⟩ := hp129
      have hF := hF.tr k131 (by decide)
      have c136 := k131.gi kC_at152 (by decide) c60
      have c137 := k131.gi kC_at152 (by decide) c61
      have c138 := k131.gi kC_at152 (by decide) c62
      have c139 := k131.gi kC_at149 (by decide) c58
      rcases hg134 with rfl | ⟨rfl, ⟨x132, c133, rx132, tx132⟩⟩
      · replace hM := hM.call (r' := 0) hv135 (by decide)
        refine lv_if_eq (tgt := 74) hx hb dX1_lookAround_67 (by decide) (fun _ => ?_) (fun c => absurd (by decide) c)
        replace hM := hM.pos (by decide)
        refine lv_iconst (v := 0) hx hb dX1_lookAround_74 (by decide) ?_
        have hTq := hT
        refine tk_putz hC hK hw hT hinX1 tyX1_ok nmX1 kC_at149 (by decide) rfl rfl 6 (by decide) (List.mem_cons_of_mem _ uw_42_5) rfl rfl rfl rfl (by decide) (by decide) dX1_lookAround_75 (fun H locs w140 hw hT k142 c141 => ?_)
        replace hM := hM.wr (sL_upf hTq hT kC_at149 (kC_lt kC_at149) (by decide) rfl k142 c141 (by decide))
        have hF := hF.put kC_at149 (k := 6) (by decide) k142
        have c143 := k142.gi (Or.inr (by decide)) c136
        have c144 := k142.gi (Or.inr (by decide)) c137
        have c145 := k142.gi (Or.inr (by decide)) c138
        have c146 := k142.gi (Or.inr (by decide)) c139
        refine lv_aload_n hx hb dX1_lookAround_78 rfl (lv_at hl 1 rfl) ?_
        refine lv_iconst (v := 0) hx hb dX1_lookAround_79 (by decide) ?_
        refine lv_aload_n hx hb dX1_lookAround_80 rfl (lv_at hl 1 rfl) ?_
        refine tk_getA hC hK hw hT hinX1 kC_at149 (by decide) rfl 1 (by decide) (List.mem_cons_of_mem _ uw_5_1) rfl rfl dX1_lookAround_81 ?_
        refine lv_iload_n hx hb dX1_lookAround_84 rfl (lv_at hl 0 rfl) ?_
        refine lv_aload_n hx hb dX1_lookAround_85 rfl (lv_at hl 2 rfl) ?_
        refine tk_geti hC hK hw hT hinX9 kC_at152 (by decide) rfl 0 (by decide) (List.mem_cons_of_mem _ uw_42_22) rfl rfl dX1_lookAround_86 (fun x147 c148 rx147 tx147 => ?_)
        refine wk_top x42 (c148.symm.trans c144) ?_
        replace hM := hM.rd (sL_at (kC_lt kC_at152) c144)
        refine lv_aload_n hx hb dX1_lookAround_89 rfl (lv_at hl 2 rfl) ?_
        refine tk_geti hC hK hw hT hinX9 kC_at152 (by decide) rfl 1 (by decide) (List.mem_cons_of_mem _ uw_42_23) rfl rfl dX1_lookAround_90 (fun x149 c150 rx149 tx149 => ?_)
        refine wk_top x44 (c150.symm.trans c145) ?_
        replace hM := hM.rd (sL_at (kC_lt kC_at152) c145)
        refine tk_Vi hC hK hw hT hA hE hSR kC_at145 (by decide) rfl (ky_X0_hoursBy_1 l adK adV dC dI cy ad B hB0 (Int.le_trans hB1 (by decide)) qr s1   x40 (show 0 ≤ x40.toInt from rx40) (show x40.toInt ≤ 3 from tx40) x42 (show 0 ≤ x42.toInt from rx42) (show x42.toInt ≤ 9 from tx42) x44 (show 0 ≤ x44.toInt from rx44) (show x44.toInt ≤ 9 from tx44) w140 H.size hT ) (cwV 3 hC.2.2.2.2 uV_RX1_114 rfl rfl rfl (by decide +kernel) ⟨Nat.le_of_ble_eq_true rfl, Nat.le_of_ble_eq_true rfl⟩) rfl hl.1 rfl (Nat.le_of_ble_eq_true rfl) dX1_lookAround_93 (fun r151 w153 H locs hp152 hw => ?_)
        obtain ⟨hT, k154, hv158, hg157⟩ := hp152
        have hF := hF.tr k154 (by decide)
        have c159 := k154.gi kC_at152 (by decide) c143
        have c160 := k154.gi kC_at152 (by decide) c144
        have c161 := k154.gi kC_at152 (by decide) c145
        have c162 := k154.gi kC_at149 (by decide) c146
        have c163 := k154.gi kC_at149 (by decide) c141
        rcases hg157 with ⟨g155, g156⟩ | rfl
        · replace hM := hM.call hv158 rfl
          refine va_mmax hx hb (hC.2.2.1.trans hl.1.symm) hC.2.2.2.1 (hC.2.2.2.2 _ (List.mem_cons_of_mem _ uw_43_0)) (hC.2.2.2.2 _ (List.mem_cons_of_mem _ uw_14_15)) (hC.2.2.2.2 _ (List.mem_cons_of_mem _ uw_14_16)) (hC.2.2.2.2 _ (List.mem_cons_of_mem _ uw_14_17)) (Nat.le_of_ble_eq_true rfl) (Nat.le_of_ble_eq_true rfl) (Nat.zero_le _) (Nat.zero_le _) dX1_lookAround_96 ?_
          refine lv_topi (fun x164 ex164 => ?_)
          have bx164 : (x164.toInt = (0 : Int) ∧ r151.toInt ≤ (0 : Int)) ∨ (x164.toInt = r151.toInt ∧ (0 : Int) < r151.toInt) := by rw [ex164]; exact wk_max
          replace hM := hM.lt (mMax_e bx164)
          have hTq := hT
          refine tk_puti hC hK hw hT hinX1 tyX1_ok nmX1 kC_at149 (by decide) rfl rfl 8 (by decide) (List.mem_cons_of_mem _ uw_43_1) rfl rfl rfl rfl (wk_i32 x164).1 (wk_i32 x164).2 dX1_lookAround_99 (fun H locs w165 hw hT k167 c166 => ?_)
          replace hM := hM.wr (sL_upf hTq hT kC_at149 (kC_lt kC_at149) (by decide) rfl k167 c166 rfl)
          have hF := hF.put kC_at149 (k := 8) (by decide) k167
          have c168 := k167.gi (Or.inr (by decide)) c159
          have c169 := k167.gi (Or.inr (by decide)) c160
          have c170 := k167.gi (Or.inr (by decide)) c161
          have c171 := k167.gi (Or.inr (by decide)) c162
          have c172 := k167.gi (Or.inr (by decide)) c163
          refine lv_aload_n hx hb dX1_lookAround_102 rfl (lv_at hl 1 rfl) ?_
          refine lv_iconst (v := (-1)) hx hb dX1_lookAround_103 (by decide) ?_
          have hTq := hT
          refine tk_puti hC hK hw hT hinX1 tyX1_ok nmX1 kC_at149 (by decide) rfl rfl 7 (by decide) (List.mem_cons_of_mem _ uw_42_7) rfl rfl rfl rfl (by decide) (by decide) dX1_lookAround_104 (fun H locs w173 hw hT k175 c174 => ?_)
          replace hM := hM.wr (sL_upf hTq hT kC_at149 (kC_lt kC_at149) (by decide) rfl k175 c174 (by decide))
          have hF := hF.put kC_at149 (k := 7) (by decide) k175
          have c176 := k175.gi (Or.inr (by decide)) c168
          have c177 := k175.gi (Or.inr (by decide)) c169
          have c178 := k175.gi (Or.inr (by decide)) c170
          have c179 := k175.gi (Or.inr (by decide)) c171
          have c180 := k175.gi (Or.inr (by decide)) c172
          have c181 := k175.gi (Or.inr (by decide)) c166
          refine lv_iconst (v := 0) hx hb dX1_lookAround_107 (by decide) ?_
          refine lv_istore (lv' := [(4, .int 0), (3, .int x40), (0, .ref (ad 149)), (1, .ref (ad 152)), (2, .int 0)]) hx hb dX1_lookAround_108 hl (by decide) rfl (fun ls hl => ?_)
          exact L110 x40 r46 0 x164 x42 x44 H locs ls w173 (show 0 ≤ x40.toInt from rx40) (show x40.toInt ≤ 10 from Int.le_trans tx40 (by decide)) (show (-1) ≤ r46.toInt by first | with_reducible assumption | omega) (show r46.toInt ≤ 11 by first | with_reducible assumption | omega) (by decide) (by decide) (show 0 ≤ x164.toInt by first | with_reducible assumption | omega) (show x164.toInt ≤ 999999 by first | with_reducible assumption | omega) (show 0 ≤ x42.toInt from rx42) (show x42.toInt ≤ 9 from tx42) (show 0 ≤ x44.toInt from rx44) (show x44.toInt ≤ 9 from tx44)  hw hT hF c179 c180 c174 c181 c177 c178 hM (lv_sub hl [2, 3, 4, 1, 0] rfl)
        · replace hM := hM.call (r' := (-1)) hv158 (by decide)
          refine va_mmax hx hb (hC.2.2.1.trans hl.1.symm) hC.2.2.2.1 (hC.2.2.2.2 _ (List.mem_cons_of_mem _ uw_43_0)) (hC.2.2.2.2 _ (List.mem_cons_of_mem _ uw_14_15)) (hC.2.2.2.2 _ (List.mem_cons_of_mem _ uw_14_16)) (hC.2.2.2.2 _ (List.mem_cons_of_mem _ uw_14_17)) (Nat.le_of_ble_eq_true rfl) (Nat.le_of_ble_eq_true rfl) (Nat.zero_le _) (Nat.zero_le _) dX1_lookAround_96 ?_
          refine lv_topi (fun x182 ex182 => ?_)
          have bx182 : (x182.toInt = (0 : Int) ∧ (-1 : Int) ≤ (0 : Int)) ∨ (x182.toInt = (-1 : Int) ∧ (0 : Int) < (-1 : Int)) := by rw [ex182]; exact wk_max
          replace hM := hM.lt (mMax_e bx182)
          have hTq := hT
          refine tk_puti hC hK hw hT hinX1 tyX1_ok nmX1 kC_at149 (by decide) rfl rfl 8 (by decide) (List.mem_cons_of_mem _ uw_43_1) rfl rfl rfl rfl (wk_i32 x182).1 (wk_i32 x182).2 dX1_lookAround_99 (fun H locs w183 hw hT k185 c184 => ?_)
          replace hM := hM.wr (sL_upf hTq hT kC_at149 (kC_lt kC_at149) (by decide) rfl k185 c184 rfl)
          have hF := hF.put kC_at149 (k := 8) (by decide) k185
          have c186 := k185.gi (Or.inr (by decide)) c159
          have c187 := k185.gi (Or.inr (by decide)) c160
          have c188 := k185.gi (Or.inr (by decide)) c161
          have c189 := k185.gi (Or.inr (by decide)) c162
          have c190 := k185.gi (Or.inr (by decide)) c163
          refine lv_aload_n hx hb dX1_lookAround_102 rfl (lv_at hl 1 rfl) ?_
          refine lv_iconst (v := (-1)) hx hb dX1_lookAround_103 (by decide) ?_
          have hTq := hT
          refine tk_puti hC hK hw hT hinX1 tyX1_ok nmX1 kC_at149 (by decide) rfl rfl 7 (by decide) (List.mem_cons_of_mem _ uw_42_7) rfl rfl rfl rfl (by decide) (by decide) dX1_lookAround_104 (fun H locs w191 hw hT k193 c192 => ?_)
          replace hM := hM.wr (sL_upf hTq hT kC_at149 (kC_lt kC_at149) (by decide) rfl k193 c192 (by decide))
          have hF := hF.put kC_at149 (k := 7) (by decide) k193
          have c194 := k193.gi (Or.inr (by decide)) c186
          have c195 := k193.gi (Or.inr (by decide)) c187
          have c196 := k193.gi (Or.inr (by decide)) c188
          have c197 := k193.gi (Or.inr (by decide)) c189
          have c198 := k193.gi (Or.inr (by decide)) c190
          have c199 := k193.gi (Or.inr (by decide)) c184
          refine lv_iconst (v := 0) hx hb dX1_lookAround_107 (by decide) ?_
          refine lv_istore (lv' := [(4, .int 0), (3, .int x40), (0, .ref (ad 149)), (1, .ref (ad 152)), (2, .int 0)]) hx hb dX1_lookAround_108 hl (by decide) rfl (fun ls hl => ?_)
          exact L110 x40 r46 0 x182 x42 x44 H locs ls w191 (show 0 ≤ x40.toInt from rx40) (show x40.toInt ≤ 10 from Int.le_trans tx40 (by decide)) (show (-1) ≤ r46.toInt by first | with_reducible assumption | omega) (show r46.toInt ≤ 11 by first | with_reducible assumption | omega) (by decide) (by decide) (show 0 ≤ x182.toInt by first | with_reducible assumption | omega) (show x182.toInt ≤ 999999 by first | with_reducible assumption | omega) (show 0 ≤ x42.toInt from rx42) (show x42.toInt ≤ 9 from tx42) (show 0 ≤ x44.toInt from rx44) (show x44.toInt ≤ 9 from tx44)  hw hT hF c197 c198 c192 c199 c195 c196 hM (lv_sub hl [2, 3, 4, 1, 0] rfl)
      · replace hM := hM.call (r' := 1) hv135 (by decide)
        refine lv_if_eq (tgt := 74) hx hb dX1_lookAround_67 (by decide) (fun c => absurd c (by decide)) (fun _ => ?_)
        replace hM := hM.neg (by decide)
        refine lv_iconst (v := 1) hx hb dX1_lookAround_70 (by decide) ?_
        refine lv_goto (tgt := 75) hx hb dX1_lookAround_71 (by decide) ?_
        have hTq := hT
        refine tk_putz hC hK hw hT hinX1 tyX1_ok nmX1 kC_at149 (by decide) rfl rfl 6 (by decide) (List.mem_cons_of_mem _ uw_42_5) rfl rfl rfl rfl (by decide) (by decide) dX1_lookAround_75 (fun H locs w200 hw hT k202 c201 => ?_)
        replace hM := hM.wr (sL_upf hTq hT kC_at149 (kC_lt kC_at149) (by decide) rfl k202 c201 (by decide))
        have hF := hF.put kC_at149 (k := 6) (by decide) k202
        have c203 := k202.gi (Or.inr (by decide)) c136
        have c204 := k202.gi (Or.inr (by decide)) c137
        have c205 := k202.gi (Or.inr (by decide)) c138
        have c206 := k202.gi (Or.inr (by decide)) c139
        have c207 := k202.gi (Or.inr (by decide)) c133
        refine lv_aload_n hx hb dX1_lookAround_78 rfl (lv_at hl 1 rfl) ?_
        refine lv_iconst (v := 0) hx hb dX1_lookAround_79 (by decide) ?_
        refine lv_aload_n hx hb dX1_lookAround_80 rfl (lv_at hl 1 rfl) ?_
        refine tk_getA hC hK hw hT hinX1 kC_at149 (by decide) rfl 1 (by decide) (List.mem_cons_of_mem _ uw_5_1) rfl rfl dX1_lookAround_81 ?_
        refine lv_iload_n hx hb dX1_lookAround_84 rfl (lv_at hl 0 rfl) ?_
        refine lv_aload_n hx hb dX1_lookAround_85 rfl (lv_at hl 2 rfl) ?_
        refine tk_geti hC hK hw hT hinX9 kC_at152 (by decide) rfl 0 (by decide) (List.mem_cons_of_mem _ uw_42_22) rfl rfl dX1_lookAround_86 (fun x208 c209 rx208 tx208 => ?_)
        refine wk_top x42 (c209.symm.trans c204) ?_
        replace hM := hM.rd (sL_at (kC_lt kC_at152) c204)
        refine lv_aload_n hx hb dX1_lookAround_89 rfl (lv_at hl 2 rfl) ?_
        refine tk_geti hC hK hw hT hinX9 kC_at152 (by decide) rfl 1 (by decide) (List.mem_cons_of_mem _ uw_42_23) rfl rfl dX1_lookAround_90 (fun x210 c211 rx210 tx210 => ?_)
        refine wk_top x44 (c211.symm.trans c205) ?_
        replace hM := hM.rd (sL_at (kC_lt kC_at152) c205)
        refine tk_Vi hC hK hw hT hA hE hSR kC_at145 (by decide) rfl (ky_X0_hoursBy_1 l adK adV dC dI cy ad B hB0 (Int.le_trans hB1 (by decide)) qr s1   x40 (show 0 ≤ x40.toInt from rx40) (show x40.toInt ≤ 3 from tx40) x42 (show 0 ≤ x42.toInt from rx42) (show x42.toInt ≤ 9 from tx42) x44 (show 0 ≤ x44.toInt from rx44) (show x44.toInt ≤ 9 from tx44) w200 H.size hT ) (cwV 3 hC.2.2.2.2 uV_RX1_114 rfl rfl rfl (by decide +kernel) ⟨Nat.le_of_ble_eq_true rfl, Nat.le_of_ble_eq_true rfl⟩) rfl hl.1 rfl (Nat.le_of_ble_eq_true rfl) dX1_lookAround_93 (fun r212 w214 H locs hp213 hw => ?_)
        obtain ⟨hT, k215, hv219, hg218⟩ := hp213
        have hF := hF.tr k215 (by decide)
        have c220 := k215.gi kC_at152 (by decide) c203
        have c221 := k215.gi kC_at152 (by decide) c204
        have c222 := k215.gi kC_at152 (by decide) c205
        have c223 := k215.gi kC_at149 (by decide) c206
        have c224 := k215.gi kC_at149 (by decide) c207
        have c225 := k215.gi kC_at149 (by decide) c201
        rcases hg218 with ⟨g216, g217⟩ | rfl
        · replace hM := hM.call hv219 rfl
          refine va_mmax hx hb (hC.2.2.1.trans hl.1.symm) hC.2.2.2.1 (hC.2.2.2.2 _ (List.mem_cons_of_mem _ uw_43_0)) (hC.2.2.2.2 _ (List.mem_cons_of_mem _ uw_14_15)) (hC.2.2.2.2 _ (List.mem_cons_of_mem _ uw_14_16)) (hC.2.2.2.2 _ (List.mem_cons_of_mem _ uw_14_17)) (Nat.le_of_ble_eq_true rfl) (Nat.le_of_ble_eq_true rfl) (Nat.zero_le _) (Nat.zero_le _) dX1_lookAround_96 ?_
          refine lv_topi (fun x226 ex226 => ?_)
          have bx226 : (x226.toInt = (0 : Int) ∧ r212.toInt ≤ (0 : Int)) ∨ (x226.toInt = r212.toInt ∧ (0 : Int) < r212.toInt) := by rw [ex226]; exact wk_max
          replace hM := hM.lt (mMax_e bx226)
          have hTq := hT
          refine tk_puti hC hK hw hT hinX1 tyX1_ok nmX1 kC_at149 (by decide) rfl rfl 8 (by decide) (List.mem_cons_of_mem _ uw_43_1) rfl rfl rfl rfl (wk_i32 x226).1 (wk_i32 x226).2 dX1_lookAround_99 (fun H locs w227 hw hT k229 c228 => ?_)
          replace hM := hM.wr (sL_upf hTq hT kC_at149 (kC_lt kC_at149) (by decide) rfl k229 c228 rfl)
          have hF := hF.put kC_at149 (k := 8) (by decide) k229
          have c230 := k229.gi (Or.inr (by decide)) c220
          have c231 := k229.gi (Or.inr (by decide)) c221
          have c232 := k229.gi (Or.inr (by decide)) c222
          have c233 := k229.gi (Or.inr (by decide)) c223
          have c234 := k229.gi (Or.inr (by decide)) c224
          have c235 := k229.gi (Or.inr (by decide)) c225
          refine lv_aload_n hx hb dX1_lookAround_102 rfl (lv_at hl 1 rfl) ?_
          refine lv_iconst (v := (-1)) hx hb dX1_lookAround_103 (by decide) ?_
          have hTq := hT
          refine tk_puti hC hK hw hT hinX1 tyX1_ok nmX1 kC_at149 (by decide) rfl rfl 7 (by decide) (List.mem_cons_of_mem _ uw_42_7) rfl rfl rfl rfl (by decide) (by decide) dX1_lookAround_104 (fun H locs w236 hw hT k238 c237 => ?_)
          replace hM := hM.wr (sL_upf hTq hT kC_at149 (kC_lt kC_at149) (by decide) rfl k238 c237 (by decide))
          have hF := hF.put kC_at149 (k := 7) (by decide) k238
          have c239 := k238.gi (Or.inr (by decide)) c230
          have c240 := k238.gi (Or.inr (by decide)) c231
          have c241 := k238.gi (Or.inr (by decide)) c232
          have c242 := k238.gi (Or.inr (by decide)) c233
          have c243 := k238.gi (Or.inr (by decide)) c234
          have c244 := k238.gi (Or.inr (by decide)) c235
          have c245 := k238.gi (Or.inr (by decide)) c228
          refine lv_iconst (v := 0) hx hb dX1_lookAround_107 (by decide) ?_
          refine lv_istore (lv' := [(4, .int 0), (3, .int x40), (0, .ref (ad 149)), (1, .ref (ad 152)), (2, .int 0)]) hx hb dX1_lookAround_108 hl (by decide) rfl (fun ls hl => ?_)
          exact L110 x40 r46 1 x226 x42 x44 H locs ls w236 (show 0 ≤ x40.toInt from rx40) (show x40.toInt ≤ 10 from Int.le_trans tx40 (by decide)) (show (-1) ≤ r46.toInt by first | with_reducible assumption | omega) (show r46.toInt ≤ 11 by first | with_reducible assumption | omega) (by decide) (by decide) (show 0 ≤ x226.toInt by first | with_reducible assumption | omega) (show x226.toInt ≤ 999999 by first | with_reducible assumption | omega) (show 0 ≤ x42.toInt from rx42) (show x42.toInt ≤ 9 from tx42) (show 0 ≤ x44.toInt from rx44) (show x44.toInt ≤ 9 from tx44)  hw hT hF c242 c244 c237 c245 c240 c241 hM (lv_sub hl [2, 3, 4, 1, 0] rfl)
        · replace hM := hM.call (r' := (-1)) hv219 (by decide)
          refine va_mmax hx hb (hC.2.2.1.trans hl.1.symm) hC.2.2.2.1 (hC.2.2.2.2 _ (List.mem_cons_of_mem _ uw_43_0)) (hC.2.2.2.2 _ (List.mem_cons_of_mem _ uw_14_15)) (hC.2.2.2.2 _ (List.mem_cons_of_mem _ uw_14_16)) (hC.2.2.2.2 _ (List.mem_cons_of_mem _ uw_14_17)) (Nat.le_of_ble_eq_true rfl) (Nat.le_of_ble_eq_true rfl) (Nat.zero_le _) (Nat.zero_le _) dX1_lookAround_96 ?_
          refine lv_topi (fun x246 ex246 => ?_)
          have bx246 : (x246.toInt = (0 : Int) ∧ (-1 : Int) ≤ (0 : Int)) ∨ (x246.toInt = (-1 : Int) ∧ (0 : Int) < (-1 : Int)) := by rw [ex246]; exact wk_max
          replace hM := hM.lt (mMax_e bx246)
          have hTq := hT
          refine tk_puti hC hK hw hT hinX1 tyX1_ok nmX1 kC_at149 (by decide) rfl rfl 8 (by decide) (List.mem_cons_of_mem _ uw_43_1) rfl rfl rfl rfl (wk_i32 x246).1 (wk_i32 x246).2 dX1_lookAround_99 (fun H locs w247 hw hT k249 c248 => ?_)
          replace hM := hM.wr (sL_upf hTq hT kC_at149 (kC_lt kC_at149) (by decide) rfl k249 c248 rfl)
          have hF := hF.put kC_at149 (k := 8) (by decide) k249
          have c250 := k249.gi (Or.inr (by decide)) c220
          have c251 := k249.gi (Or.inr (by decide)) c221
          have c252 := k249.gi (Or.inr (by decide)) c222
          have c253 := k249.gi (Or.inr (by decide)) c223
          have c254 := k249.gi (Or.inr (by decide)) c224
          have c255 := k249.gi (Or.inr (by decide)) c225
          refine lv_aload_n hx hb dX1_lookAround_102 rfl (lv_at hl 1 rfl) ?_
          refine lv_iconst (v := (-1)) hx hb dX1_lookAround_103 (by decide) ?_
          have hTq := hT
          refine tk_puti hC hK hw hT hinX1 tyX1_ok nmX1 kC_at149 (by decide) rfl rfl 7 (by decide) (List.mem_cons_of_mem _ uw_42_7) rfl rfl rfl rfl (by decide) (by decide) dX1_lookAround_104 (fun H locs w256 hw hT k258 c257 => ?_)
          replace hM := hM.wr (sL_upf hTq hT kC_at149 (kC_lt kC_at149) (by decide) rfl k258 c257 (by decide))
          have hF := hF.put kC_at149 (k := 7) (by decide) k258
          have c259 := k258.gi (Or.inr (by decide)) c250
          have c260 := k258.gi (Or.inr (by decide)) c251
          have c261 := k258.gi (Or.inr (by decide)) c252
          have c262 := k258.gi (Or.inr (by decide)) c253
          have c263 := k258.gi (Or.inr (by decide)) c254
          have c264 := k258.gi (Or.inr (by decide)) c255
          have c265 := k258.gi (Or.inr (by decide)) c248
          refine lv_iconst (v := 0) hx hb dX1_lookAround_107 (by decide) ?_
          refine lv_istore (lv' := [(4, .int 0), (3, .int x40), (0, .ref (ad 149)), (1, .ref (ad 152)), (2, .int 0)]) hx hb dX1_lookAround_108 hl (by decide) rfl (fun ls hl => ?_)
          exact L110 x40 r46 1 x246 x42 x44 H locs ls w256 (show 0 ≤ x40.toInt from rx40) (show x40.toInt ≤ 10 from Int.le_trans tx40 (by decide)) (show (-1) ≤ r46.toInt by first | with_reducible assumption | omega) (show r46.toInt ≤ 11 by first | with_reducible assumption | omega) (by decide) (by decide) (show 0 ≤ x246.toInt by first | with_reducible assumption | omega) (show x246.toInt ≤ 999999 by first | with_reducible assumption | omega) (show 0 ≤ x42.toInt from rx42) (show x42.toInt ≤ 9 from tx42) (show 0 ≤ x44.toInt from rx44) (show x44.toInt ≤ 9 from tx44)  hw hT hF c262 c264 c257 c265 c260 c261 hM (lv_sub hl [2, 3, 4, 1, 0] rfl)
  have hM : TT (fun n => m_X1_lookAround n 149 152 0 (sL w0)) (fun n => m_X1_lookAround n 149 152 0 (sL w0)) := TT.rf
  refine lv_aload_n hx hb dX1_lookAround_0 rfl (lv_at hl 1 rfl) ?_
  refine tk_Vi hC hK hw hT hA hE hSR kC_at152 (by decide) rfl (ky_X9_askedToday_1 l adK adV dC dI cy ad B hB0 (Int.le_trans hB1 (by decide)) qr s1    w0 s.heap.size hT ) (cwV 0 hC.2.2.2.2 uV_RX1_85 rfl rfl rfl (by decide +kernel) ⟨Nat.le_of_ble_eq_true rfl, Nat.le_of_ble_eq_true rfl⟩) rfl hl.1 rfl (Nat.le_of_ble_eq_true rfl) dX1_lookAround_1 (fun r266 w268 H locs hp267 hw => ?_)
  obtain ⟨hT, k269, hv271, hg270⟩ := hp267
  have hF := hF.tr k269 (by decide)
  rcases hg270 with rfl | rfl
  · replace hM := hM.call (r' := 0) hv271 (by decide)
    refine lv_if_eq (tgt := 24) hx hb dX1_lookAround_4 (by decide) (fun _ => ?_) (fun c => absurd (by decide) c)
    replace hM := hM.pos (by decide)
    exact J24  H locs ls w268   hw hT hF hM (lv_sub hl [0, 1, 2] rfl)
  · replace hM := hM.call (r' := 1) hv271 (by decide)
    refine lv_if_eq (tgt := 24) hx hb dX1_lookAround_4 (by decide) (fun c => absurd c (by decide)) (fun _ => ?_)
    replace hM := hM.neg (by decide)
    refine lv_aload_n hx hb dX1_lookAround_7 rfl (lv_at hl 0 rfl) ?_
    refine tk_geti hC hK hw hT hinX1 kC_at149 (by decide) rfl 9 (by decide) (List.mem_cons_of_mem _ uw_42_20) rfl rfl dX1_lookAround_8 (fun x272 c273 rx272 tx272 => ?_)
    replace hM := hM.rd (sL_at (kC_lt kC_at149) c273)
    refine lv_if_ne (tgt := 24) hx hb dX1_lookAround_11 (by decide) (fun c274 => ?_) (fun c274 => ?_)
    · have c274 : ¬ x272.toInt = (0 : Int) := wk_eqF c274
      replace hM := hM.pos c274
      exact J24  H locs ls w268   hw hT hF hM (lv_sub hl [0, 1, 2] rfl)
    · have c274 : x272.toInt = (0 : Int) := wk_eq.mp c274
      replace hM := hM.neg (fun q => q c274)
      refine lv_aload_n hx hb dX1_lookAround_14 rfl (lv_at hl 1 rfl) ?_
      refine tk_Vl hC hK hw hT hA hE hSR kC_at152 (by decide) rfl (ky_X9_dayNow_1 l adK adV dC dI cy ad B hB0 (Int.le_trans hB1 (by decide)) qr s1    w268 H.size hT ) (cwV 0 hC.2.2.2.2 uV_RX1_68 rfl rfl rfl (by decide +kernel) ⟨Nat.le_of_ble_eq_true rfl, Nat.le_of_ble_eq_true rfl⟩) rfl hl.1 rfl (Nat.le_of_ble_eq_true rfl) dX1_lookAround_15 (fun r275 w277 H locs hp276 hw => ?_)
      obtain ⟨hT, k278, hv282, hg281⟩ := hp276
      have hF := hF.tr k278 (by decide)
      have c283 := k278.gi kC_at149 (by decide) c273
      obtain ⟨g279, g280⟩ := hg281
      replace hM := hM.call hv282 rfl
      refine tk_Si hC hK hw hT hA hE hSR (ky_X0_ofWeekday_1 l adK adV dC dI cy ad B hB0 (Int.le_trans hB1 (by decide)) qr s1   r275 (show 0 ≤ r275.toInt by first | with_reducible assumption | omega) (show r275.toInt ≤ 96076792050570581 by first | with_reducible assumption | omega) w277 H.size hT ) (va_cwS 1 hC.2.2.2.2 uS_RX1_91 rfl rfl rfl (by decide +kernel) ⟨Nat.le_of_ble_eq_true rfl, Nat.le_of_ble_eq_true rfl⟩) rfl hl.1 rfl (Nat.le_of_ble_eq_true rfl) dX1_lookAround_18 (fun r284 w286 H locs hp285 hw => ?_)
      obtain ⟨hT, k287, hv291, hg290⟩ := hp285
      have hF := hF.tr k287 (by decide)
      have c292 := k287.gi kC_at149 (by decide) c283
      obtain ⟨g288, g289⟩ := hg290
      replace hM := hM.call hv291 rfl
      refine lv_goto (tgt := 28) hx hb dX1_lookAround_21 (by decide) ?_
      refine lv_istore_n (lv' := [(3, .int r284), (0, .ref (ad 149)), (1, .ref (ad 152)), (2, .int 0)]) hx hb dX1_lookAround_28 rfl hl (by decide) rfl (fun ls hl => ?_)
      refine lv_aload_n hx hb dX1_lookAround_29 rfl (lv_at hl 1 rfl) ?_
      refine lv_aload_n hx hb dX1_lookAround_30 rfl (lv_at hl 1 rfl) ?_
      refine tk_getA hC hK hw hT hinX1 kC_at149 (by decide) rfl 1 (by decide) (List.mem_cons_of_mem _ uw_5_1) rfl rfl dX1_lookAround_31 ?_
      refine lv_iload_n hx hb dX1_lookAround_34 rfl (lv_at hl 0 rfl) ?_
      refine lv_aload_n hx hb dX1_lookAround_35 rfl (lv_at hl 2 rfl) ?_
      refine tk_geti hC hK hw hT hinX9 kC_at152 (by decide) rfl 0 (by decide) (List.mem_cons_of_mem _ uw_42_22) rfl rfl dX1_lookAround_36 (fun x293 c294 rx293 tx293 => ?_)
      replace hM := hM.rd (sL_at (kC_lt kC_at152) c294)
      refine lv_aload_n hx hb dX1_lookAround_39 rfl (lv_at hl 2 rfl) ?_
      refine tk_geti hC hK hw hT hinX9 kC_at152 (by decide) rfl 1 (by decide) (List.mem_cons_of_mem _ uw_42_23) rfl rfl dX1_lookAround_40 (fun x295 c296 rx295 tx295 => ?_)
      replace hM := hM.rd (sL_at (kC_lt kC_at152) c296)
      refine tk_Vi hC hK hw hT hA hE hSR kC_at145 (by decide) rfl (ky_X0_streetBy_2 l adK adV dC dI cy ad B hB0 (Int.le_trans hB1 (by decide)) qr s1   r284 (show 4 ≤ r284.toInt by first | with_reducible assumption | omega) (show r284.toInt ≤ 10 by first | with_reducible assumption | omega) x293 (show 0 ≤ x293.toInt from rx293) (show x293.toInt ≤ 9 from tx293) x295 (show 0 ≤ x295.toInt from rx295) (show x295.toInt ≤ 9 from tx295) w286 H.size hT ) (cwV 3 hC.2.2.2.2 uV_RX1_106 rfl rfl rfl (by decide +kernel) ⟨Nat.le_of_ble_eq_true rfl, Nat.le_of_ble_eq_true rfl⟩) rfl hl.1 rfl (Nat.le_of_ble_eq_true rfl) dX1_lookAround_43 (fun r297 w299 H locs hp298 hw => ?_)
      obtain ⟨hT, k300, hv304, hg303⟩ := hp298
      have hF := hF.tr k300 (by decide)
      have c305 := k300.gi kC_at149 (by decide) c292
      have c306 := k300.gi kC_at152 (by decide) c294
      have c307 := k300.gi kC_at152 (by decide) c296
      obtain ⟨g301, g302⟩ := hg303
      replace hM := hM.call hv304 rfl
      have hTq := hT
      refine tk_puti hC hK hw hT hinX1 tyX1_ok nmX1 kC_at149 (by decide) rfl rfl 5 (by decide) (List.mem_cons_of_mem _ uw_42_6) rfl rfl rfl rfl (show (-1) ≤ r297.toInt by first | with_reducible assumption | omega) (show r297.toInt ≤ 11 by first | with_reducible assumption | omega) dX1_lookAround_46 (fun H locs w308 hw hT k310 c309 => ?_)
      replace hM := hM.wr (sL_upf hTq hT kC_at149 (kC_lt kC_at149) (by decide) rfl k310 c309 rfl)
      have hF := hF.put kC_at149 (k := 5) (by decide) k310
      have c311 := k310.gi (Or.inr (by decide)) c305
      have c312 := k310.gi (Or.inr (by decide)) c306
      have c313 := k310.gi (Or.inr (by decide)) c307
      refine lv_aload_n hx hb dX1_lookAround_49 rfl (lv_at hl 1 rfl) ?_
      refine lv_aload_n hx hb dX1_lookAround_50 rfl (lv_at hl 1 rfl) ?_
      refine tk_geti hC hK hw hT hinX1 kC_at149 (by decide) rfl 5 (by decide) (List.mem_cons_of_mem _ uw_42_6) rfl rfl dX1_lookAround_51 (fun x314 c315 rx314 tx314 => ?_)
      refine wk_top r297 (c315.symm.trans c309) ?_
      replace hM := hM.rd (sL_at (kC_lt kC_at149) c309)
      refine lv_iconst (v := (-1)) hx hb dX1_lookAround_54 (by decide) ?_
      refine lv_icmp_eq (tgt := 74) hx hb dX1_lookAround_55 (by decide) (fun c316 => ?_) (fun c316 => ?_)
      · have c316 : r297.toInt = (-1 : Int) := wk_eq.mp c316
        replace hM := hM.pos c316
        refine lv_iconst (v := 0) hx hb dX1_lookAround_74 (by decide) ?_
        have hTq := hT
        refine tk_putz hC hK hw hT hinX1 tyX1_ok nmX1 kC_at149 (by decide) rfl rfl 6 (by decide) (List.mem_cons_of_mem _ uw_42_5) rfl rfl rfl rfl (by decide) (by decide) dX1_lookAround_75 (fun H locs w317 hw hT k319 c318 => ?_)
        replace hM := hM.wr (sL_upf hTq hT kC_at149 (kC_lt kC_at149) (by decide) rfl k319 c318 (by decide))
        have hF := hF.put kC_at149 (k := 6) (by decide) k319
        have c320 := k319.gi (Or.inr (by decide)) c311
        have c321 := k319.gi (Or.inr (by decide)) c312
        have c322 := k319.gi (Or.inr (by decide)) c313
        have c323 := k319.gi (Or.inr (by decide)) c309
        refine lv_aload_n hx hb dX1_lookAround_78 rfl (lv_at hl 1 rfl) ?_
        refine lv_iconst (v := 0) hx hb dX1_lookAround_79 (by decide) ?_
        refine lv_aload_n hx hb dX1_lookAround_80 rfl (lv_at hl 1 rfl) ?_
        refine tk_getA hC hK hw hT hinX1 kC_at149 (by decide) rfl 1 (by decide) (List.mem_cons_of_mem _ uw_5_1) rfl rfl dX1_lookAround_81 ?_
        refine lv_iload_n hx hb dX1_lookAround_84 rfl (lv_at hl 0 rfl) ?_
        refine lv_aload_n hx hb dX1_lookAround_85 rfl (lv_at hl 2 rfl) ?_
        refine tk_geti hC hK hw hT hinX9 kC_at152 (by decide) rfl 0 (by decide) (List.mem_cons_of_mem _ uw_42_22) rfl rfl dX1_lookAround_86 (fun x324 c325 rx324 tx324 => ?_)
        refine wk_top x293 (c325.symm.trans c321) ?_
        replace hM := hM.rd (sL_at (kC_lt kC_at152) c321)
        refine lv_aload_n hx hb dX1_lookAround_89 rfl (lv_at hl 2 rfl) ?_
        refine tk_geti hC hK hw hT hinX9 kC_at152 (by decide) rfl 1 (by decide) (List.mem_cons_of_mem _ uw_42_23) rfl rfl dX1_lookAround_90 (fun x326 c327 rx326 tx326 => ?_)
        refine wk_top x295 (c327.symm.trans c322) ?_
        replace hM := hM.rd (sL_at (kC_lt kC_at152) c322)
        refine tk_Vi hC hK hw hT hA hE hSR kC_at145 (by decide) rfl (ky_X0_hoursBy_2 l adK adV dC dI cy ad B hB0 (Int.le_trans hB1 (by decide)) qr s1   r284 (show 4 ≤ r284.toInt by first | with_reducible assumption | omega) (show r284.toInt ≤ 10 by first | with_reducible assumption | omega) x293 (show 0 ≤ x293.toInt from rx293) (show x293.toInt ≤ 9 from tx293) x295 (show 0 ≤ x295.toInt from rx295) (show x295.toInt ≤ 9 from tx295) w317 H.size hT ) (cwV 3 hC.2.2.2.2 uV_RX1_114 rfl rfl rfl (by decide +kernel) ⟨Nat.le_of_ble_eq_true rfl, Nat.le_of_ble_eq_true rfl⟩) rfl hl.1 rfl (Nat.le_of_ble_eq_true rfl) dX1_lookAround_93 (fun r328 w330 H locs hp329 hw => ?_)
        obtain ⟨hT, k331, hv335, hg334⟩ := hp329
        have hF := hF.tr k331 (by decide)
        have c336 := k331.gi kC_at149 (by decide) c320
        have c337 := k331.gi kC_at152 (by decide) c321
        have c338 := k331.gi kC_at152 (by decide) c322
        have c339 := k331.gi kC_at149 (by decide) c323
        have c340 := k331.gi kC_at149 (by decide) c318
        rcases hg334 with ⟨g332, g333⟩ | rfl
        · replace hM := hM.call hv335 rfl
          refine va_mmax hx hb (hC.2.2.1.trans hl.1.symm) hC.2.2.2.1 (hC.2.2.2.2 _ (List.mem_cons_of_mem _ uw_43_0)) (hC.2.2.2.2 _ (List.mem_cons_of_mem _ uw_14_15)) (hC.2.2.2.2 _ (List.mem_cons_of_mem _ uw_14_16)) (hC.2.2.2.2 _ (List.mem_cons_of_mem _ uw_14_17)) (Nat.le_of_ble_eq_true rfl) (Nat.le_of_ble_eq_true rfl) (Nat.zero_le _) (Nat.zero_le _) dX1_lookAround_96 ?_
          refine lv_topi (fun x341 ex341 => ?_)
          have bx341 : (x341.toInt = (0 : Int) ∧ r328.toInt ≤ (0 : Int)) ∨ (x341.toInt = r328.toInt ∧ (0 : Int) < r328.toInt) := by rw [ex341]; exact wk_max
          replace hM := hM.lt (mMax_e bx341)
          have hTq := hT
          refine tk_puti hC hK hw hT hinX1 tyX1_ok nmX1 kC_at149 (by decide) rfl rfl 8 (by decide) (List.mem_cons_of_mem _ uw_43_1) rfl rfl rfl rfl (wk_i32 x341).1 (wk_i32 x341).2 dX1_lookAround_99 (fun H locs w342 hw hT k344 c343 => ?_)
          replace hM := hM.wr (sL_upf hTq hT kC_at149 (kC_lt kC_at149) (by decide) rfl k344 c343 rfl)
          have hF := hF.put kC_at149 (k := 8) (by decide) k344
          have c345 := k344.gi (Or.inr (by decide)) c336
          have c346 := k344.gi (Or.inr (by decide)) c337
          have c347 := k344.gi (Or.inr (by decide)) c338
          have c348 := k344.gi (Or.inr (by decide)) c339
          have c349 := k344.gi (Or.inr (by decide)) c340
          refine lv_aload_n hx hb dX1_lookAround_102 rfl (lv_at hl 1 rfl) ?_
          refine lv_iconst (v := (-1)) hx hb dX1_lookAround_103 (by decide) ?_
          have hTq := hT
          refine tk_puti hC hK hw hT hinX1 tyX1_ok nmX1 kC_at149 (by decide) rfl rfl 7 (by decide) (List.mem_cons_of_mem _ uw_42_7) rfl rfl rfl rfl (by decide) (by decide) dX1_lookAround_104 (fun H locs w350 hw hT k352 c351 => ?_)
          replace hM := hM.wr (sL_upf hTq hT kC_at149 (kC_lt kC_at149) (by decide) rfl k352 c351 (by decide))
          have hF := hF.put kC_at149 (k := 7) (by decide) k352
          have c353 := k352.gi (Or.inr (by decide)) c345
          have c354 := k352.gi (Or.inr (by decide)) c346
          have c355 := k352.gi (Or.inr (by decide)) c347
          have c356 := k352.gi (Or.inr (by decide)) c348
          have c357 := k352.gi (Or.inr (by decide)) c349
          have c358 := k352.gi (Or.inr (by decide)) c343
          refine lv_iconst (v := 0) hx hb dX1_lookAround_107 (by decide) ?_
          refine lv_istore (lv' := [(4, .int 0), (3, .int r284), (0, .ref (ad 149)), (1, .ref (ad 152)), (2, .int 0)]) hx hb dX1_lookAround_108 hl (by decide) rfl (fun ls hl => ?_)
          exact L110 r284 r297 0 x341 x293 x295 H locs ls w350 (show 0 ≤ r284.toInt by first | with_reducible assumption | omega) (show r284.toInt ≤ 10 by first | with_reducible assumption | omega) (show (-1) ≤ r297.toInt by first | with_reducible assumption | omega) (show r297.toInt ≤ 11 by first | with_reducible assumption | omega) (by decide) (by decide) (show 0 ≤ x341.toInt by first | with_reducible assumption | omega) (show x341.toInt ≤ 999999 by first | with_reducible assumption | omega) (show 0 ≤ x293.toInt from rx293) (show x293.toInt ≤ 9 from tx293) (show 0 ≤ x295.toInt from rx295) (show x295.toInt ≤ 9 from tx295)  hw hT hF c356 c357 c351 c358 c354 c355 hM (lv_sub hl [2, 3, 4, 1, 0] rfl)
        · replace hM := hM.call (r' := (-1)) hv335 (by decide)
          refine va_mmax hx hb (hC.2.2.1.trans hl.1.symm) hC.2.2.2.1 (hC.2.2.2.2 _ (List.mem_cons_of_mem _ uw_43_0)) (hC.2.2.2.2 _ (List.mem_cons_of_mem _ uw_14_15)) (hC.2.2.2.2 _ (List.mem_cons_of_mem _ uw_14_16)) (hC.2.2.2.2 _ (List.mem_cons_of_mem _ uw_14_17)) (Nat.le_of_ble_eq_true rfl) (Nat.le_of_ble_eq_true rfl) (Nat.zero_le _) (Nat.zero_le _) dX1_lookAround_96 ?_
          refine lv_topi (fun x359 ex359 => ?_)
          have bx359 : (x359.toInt = (0 : Int) ∧ (-1 : Int) ≤ (0 : Int)) ∨ (x359.toInt = (-1 : Int) ∧ (0 : Int) < (-1 : Int)) := by rw [ex359]; exact wk_max
          replace hM := hM.lt (mMax_e bx359)
          have hTq := hT
          refine tk_puti hC hK hw hT hinX1 tyX1_ok nmX1 kC_at149 (by decide) rfl rfl 8 (by decide) (List.mem_cons_of_mem _ uw_43_1) rfl rfl rfl rfl (wk_i32 x359).1 (wk_i32 x359).2 dX1_lookAround_99 (fun H locs w360 hw hT k362 c361 => ?_)
          replace hM := hM.wr (sL_upf hTq hT kC_at149 (kC_lt kC_at149) (by decide) rfl k362 c361 rfl)
          have hF := hF.put kC_at149 (k := 8) (by decide) k362
          have c363 := k362.gi (Or.inr (by decide)) c336
          have c364 := k362.gi (Or.inr (by decide)) c337
          have c365 := k362.gi (Or.inr (by decide)) c338
          have c366 := k362.gi (Or.inr (by decide)) c339
          have c367 := k362.gi (Or.inr (by decide)) c340
          refine lv_aload_n hx hb dX1_lookAround_102 rfl (lv_at hl 1 rfl) ?_
          refine lv_iconst (v := (-1)) hx hb dX1_lookAround_103 (by decide) ?_
          have hTq := hT
          refine tk_puti hC hK hw hT hinX1 tyX1_ok nmX1 kC_at149 (by decide) rfl rfl 7 (by decide) (List.mem_cons_of_mem _ uw_42_7) rfl rfl rfl rfl (by decide) (by decide) dX1_lookAround_104 (fun H locs w368 hw hT k370 c369 => ?_)
          replace hM := hM.wr (sL_upf hTq hT kC_at149 (kC_lt kC_at149) (by decide) rfl k370 c369 (by decide))
          have hF := hF.put kC_at149 (k := 7) (by decide) k370
          have c371 := k370.gi (Or.inr (by decide)) c363
          have c372 := k370.gi (Or.inr (by decide)) c364
          have c373 := k370.gi (Or.inr (by decide)) c365
          have c374 := k370.gi (Or.inr (by decide)) c366
          have c375 := k370.gi (Or.inr (by decide)) c367
          have c376 := k370.gi (Or.inr (by decide)) c361
          refine lv_iconst (v := 0) hx hb dX1_lookAround_107 (by decide) ?_
          refine lv_istore (lv' := [(4, .int 0), (3, .int r284), (0, .ref (ad 149)), (1, .ref (ad 152)), (2, .int 0)]) hx hb dX1_lookAround_108 hl (by decide) rfl (fun ls hl => ?_)
          exact L110 r284 r297 0 x359 x293 x295 H locs ls w368 (show 0 ≤ r284.toInt by first | with_reducible assumption | omega) (show r284.toInt ≤ 10 by first | with_reducible assumption | omega) (show (-1) ≤ r297.toInt by first | with_reducible assumption | omega) (show r297.toInt ≤ 11 by first | with_reducible assumption | omega) (by decide) (by decide) (show 0 ≤ x359.toInt by first | with_reducible assumption | omega) (show x359.toInt ≤ 999999 by first | with_reducible assumption | omega) (show 0 ≤ x293.toInt from rx293) (show x293.toInt ≤ 9 from tx293) (show 0 ≤ x295.toInt from rx295) (show x295.toInt ≤ 9 from tx295)  hw hT hF c374 c375 c369 c376 c372 c373 hM (lv_sub hl [2, 3, 4, 1, 0] rfl)
      · have c316 : ¬ r297.toInt = (-1 : Int) := wk_eqF c316
        replace hM := hM.neg c316
        refine lv_aload_n hx hb dX1_lookAround_58 rfl (lv_at hl 1 rfl) ?_
        refine lv_aload_n hx hb dX1_lookAround_59 rfl (lv_at hl 2 rfl) ?_
        refine lv_aload_n hx hb dX1_lookAround_60 rfl (lv_at hl 1 rfl) ?_
        refine tk_geti hC hK hw hT hinX1 kC_at149 (by decide) rfl 5 (by decide) (List.mem_cons_of_mem _ uw_42_6) rfl rfl dX1_lookAround_61 (fun x377 c378 rx377 tx377 => ?_)
        refine wk_top r297 (c378.symm.trans c309) ?_
        replace hM := hM.rd (sL_at (kC_lt kC_at149) c309)
        refine tk_Vi hC hK hw hT hA hE hSR kC_at149 (by decide) rfl (ky_X1_isOpenFor_1 l adK adV dC dI cy ad B hB0 (Int.le_trans hB1 (by decide)) qr s1   r297 (show 0 ≤ r297.toInt by first | with_reducible assumption | omega) (show r297.toInt ≤ 11 by first | with_reducible assumption | omega) w308 H.size hT ) (cwV 2 hC.2.2.2.2 uV_RX1_110 rfl rfl rfl (by decide +kernel) ⟨Nat.le_of_ble_eq_true rfl, Nat.le_of_ble_eq_true rfl⟩) rfl hl.1 rfl (Nat.le_of_ble_eq_true rfl) dX1_lookAround_64 (fun r379 w381 H locs hp380 hw => ?_)
        obtain ⟨hT, k382, hv386, hg385⟩ := hp380
        have hF := hF.tr k382 (by decide)
        have c387 := k382.gi kC_at149 (by decide) c311
        have c388 := k382.gi kC_at152 (by decide) c312
        have c389 := k382.gi kC_at152 (by decide) c313
        have c390 := k382.gi kC_at149 (by decide) c309
        rcases hg385 with rfl | ⟨rfl, ⟨x383, c384, rx383, tx383⟩⟩
        · replace hM := hM.call (r' := 0) hv386 (by decide)
          refine lv_if_eq (tgt := 74) hx hb dX1_lookAround_67 (by decide) (fun _ => ?_) (fun c => absurd (by decide) c)
          replace hM := hM.pos (by decide)
          refine lv_iconst (v := 0) hx hb dX1_lookAround_74 (by decide) ?_
          have hTq := hT
          refine tk_putz hC hK hw hT hinX1 tyX1_ok nmX1 kC_at149 (by decide) rfl rfl 6 (by decide) (List.mem_cons_of_mem _ uw_42_5) rfl rfl rfl rfl (by decide) (by decide) dX1_lookAround_75 (fun H locs w391 hw hT k393 c392 => ?_)
          replace hM := hM.wr (sL_upf hTq hT kC_at149 (kC_lt kC_at149) (by decide) rfl k393 c392 (by decide))
          have hF := hF.put kC_at149 (k := 6) (by decide) k393
          have c394 := k393.gi (Or.inr (by decide)) c387
          have c395 := k393.gi (Or.inr (by decide)) c388
          have c396 := k393.gi (Or.inr (by decide)) c389
          have c397 := k393.gi (Or.inr (by decide)) c390
          refine lv_aload_n hx hb dX1_lookAround_78 rfl (lv_at hl 1 rfl) ?_
          refine lv_iconst (v := 0) hx hb dX1_lookAround_79 (by decide) ?_
          refine lv_aload_n hx hb dX1_lookAround_80 rfl (lv_at hl 1 rfl) ?_
          refine tk_getA hC hK hw hT hinX1 kC_at149 (by decide) rfl 1 (by decide) (List.mem_cons_of_mem _ uw_5_1) rfl rfl dX1_lookAround_81 ?_
          refine lv_iload_n hx hb dX1_lookAround_84 rfl (lv_at hl 0 rfl) ?_
          refine lv_aload_n hx hb dX1_lookAround_85 rfl (lv_at hl 2 rfl) ?_
          refine tk_geti hC hK hw hT hinX9 kC_at152 (by decide) rfl 0 (by decide) (List.mem_cons_of_mem _ uw_42_22) rfl rfl dX1_lookAround_86 (fun x398 c399 rx398 tx398 => ?_)
          refine wk_top x293 (c399.symm.trans c395) ?_
          replace hM := hM.rd (sL_at (kC_lt kC_at152) c395)
          refine lv_aload_n hx hb dX1_lookAround_89 rfl (lv_at hl 2 rfl) ?_
          refine tk_geti hC hK hw hT hinX9 kC_at152 (by decide) rfl 1 (by decide) (List.mem_cons_of_mem _ uw_42_23) rfl rfl dX1_lookAround_90 (fun x400 c401 rx400 tx400 => ?_)
          refine wk_top x295 (c401.symm.trans c396) ?_
          replace hM := hM.rd (sL_at (kC_lt kC_at152) c396)
          refine tk_Vi hC hK hw hT hA hE hSR kC_at145 (by decide) rfl (ky_X0_hoursBy_2 l adK adV dC dI cy ad B hB0 (Int.le_trans hB1 (by decide)) qr s1   r284 (show 4 ≤ r284.toInt by first | with_reducible assumption | omega) (show r284.toInt ≤ 10 by first | with_reducible assumption | omega) x293 (show 0 ≤ x293.toInt from rx293) (show x293.toInt ≤ 9 from tx293) x295 (show 0 ≤ x295.toInt from rx295) (show x295.toInt ≤ 9 from tx295) w391 H.size hT ) (cwV 3 hC.2.2.2.2 uV_RX1_114 rfl rfl rfl (by decide +kernel) ⟨Nat.le_of_ble_eq_true rfl, Nat.le_of_ble_eq_true rfl⟩) rfl hl.1 rfl (Nat.le_of_ble_eq_true rfl) dX1_lookAround_93 (fun r402 w404 H locs hp403 hw => ?_)
          obtain ⟨hT, k405, hv409, hg408⟩ := hp403
          have hF := hF.tr k405 (by decide)
          have c410 := k405.gi kC_at149 (by decide) c394
          have c411 := k405.gi kC_at152 (by decide) c395
          have c412 := k405.gi kC_at152 (by decide) c396
          have c413 := k405.gi kC_at149 (by decide) c397
          have c414 := k405.gi kC_at149 (by decide) c392
          rcases hg408 with ⟨g406, g407⟩ | rfl
          · replace hM := hM.call hv409 rfl
            refine va_mmax hx hb (hC.2.2.1.trans hl.1.symm) hC.2.2.2.1 (hC.2.2.2.2 _ (List.mem_cons_of_mem _ uw_43_0)) (hC.2.2.2.2 _ (List.mem_cons_of_mem _ uw_14_15)) (hC.2.2.2.2 _ (List.mem_cons_of_mem _ uw_14_16)) (hC.2.2.2.2 _ (List.mem_cons_of_mem _ uw_14_17)) (Nat.le_of_ble_eq_true rfl) (Nat.le_of_ble_eq_true rfl) (Nat.zero_le _) (Nat.zero_le _) dX1_lookAround_96 ?_
            refine lv_topi (fun x415 ex415 => ?_)
            have bx415 : (x415.toInt = (0 : Int) ∧ r402.toInt ≤ (0 : Int)) ∨ (x415.toInt = r402.toInt ∧ (0 : Int) < r402.toInt) := by rw [ex415]; exact wk_max
            replace hM := hM.lt (mMax_e bx415)
            have hTq := hT
            refine tk_puti hC hK hw hT hinX1 tyX1_ok nmX1 kC_at149 (by decide) rfl rfl 8 (by decide) (List.mem_cons_of_mem _ uw_43_1) rfl rfl rfl rfl (wk_i32 x415).1 (wk_i32 x415).2 dX1_lookAround_99 (fun H locs w416 hw hT k418 c417 => ?_)
            replace hM := hM.wr (sL_upf hTq hT kC_at149 (kC_lt kC_at149) (by decide) rfl k418 c417 rfl)
            have hF := hF.put kC_at149 (k := 8) (by decide) k418
            have c419 := k418.gi (Or.inr (by decide)) c410
            have c420 := k418.gi (Or.inr (by decide)) c411
            have c421 := k418.gi (Or.inr (by decide)) c412
            have c422 := k418.gi (Or.inr (by decide)) c413
            have c423 := k418.gi (Or.inr (by decide)) c414
            refine lv_aload_n hx hb dX1_lookAround_102 rfl (lv_at hl 1 rfl) ?_
            refine lv_iconst (v := (-1)) hx hb dX1_lookAround_103 (by decide) ?_
            have hTq := hT
            refine tk_puti hC hK hw hT hinX1 tyX1_ok nmX1 kC_at149 (by decide) rfl rfl 7 (by decide) (List.mem_cons_of_mem _ uw_42_7) rfl rfl rfl rfl (by decide) (by decide) dX1_lookAround_104 (fun H locs w424 hw hT k426 c425 => ?_)
            replace hM := hM.wr (sL_upf hTq hT kC_at149 (kC_lt kC_at149) (by decide) rfl k426 c425 (by decide))
            have hF := hF.put kC_at149 (k := 7) (by decide) k426
            have c427 := k426.gi (Or.inr (by decide)) c419
            have c428 := k426.gi (Or.inr (by decide)) c420
            have c429 := k426.gi (Or.inr (by decide)) c421
            have c430 := k426.gi (Or.inr (by decide)) c422
            have c431 := k426.gi (Or.inr (by decide)) c423
            have c432 := k426.gi (Or.inr (by decide)) c417
            refine lv_iconst (v := 0) hx hb dX1_lookAround_107 (by decide) ?_
            refine lv_istore (lv' := [(4, .int 0), (3, .int r284), (0, .ref (ad 149)), (1, .ref (ad 152)), (2, .int 0)]) hx hb dX1_lookAround_108 hl (by decide) rfl (fun ls hl => ?_)
            exact L110 r284 r297 0 x415 x293 x295 H locs ls w424 (show 0 ≤ r284.toInt by first | with_reducible assumption | omega) (show r284.toInt ≤ 10 by first | with_reducible assumption | omega) (show (-1) ≤ r297.toInt by first | with_reducible assumption | omega) (show r297.toInt ≤ 11 by first | with_reducible assumption | omega) (by decide) (by decide) (show 0 ≤ x415.toInt by first | with_reducible assumption | omega) (show x415.toInt ≤ 999999 by first | with_reducible assumption | omega) (show 0 ≤ x293.toInt from rx293) (show x293.toInt ≤ 9 from tx293) (show 0 ≤ x295.toInt from rx295) (show x295.toInt ≤ 9 from tx295)  hw hT hF c430 c431 c425 c432 c428 c429 hM (lv_sub hl [2, 3, 4, 1, 0] rfl)
          · replace hM := hM.call (r' := (-1)) hv409 (by decide)
            refine va_mmax hx hb (hC.2.2.1.trans hl.1.symm) hC.2.2.2.1 (hC.2.2.2.2 _ (List.mem_cons_of_mem _ uw_43_0)) (hC.2.2.2.2 _ (List.mem_cons_of_mem _ uw_14_15)) (hC.2.2.2.2 _ (List.mem_cons_of_mem _ uw_14_16)) (hC.2.2.2.2 _ (List.mem_cons_of_mem _ uw_14_17)) (Nat.le_of_ble_eq_true rfl) (Nat.le_of_ble_eq_true rfl) (Nat.zero_le _) (Nat.zero_le _) dX1_lookAround_96 ?_
            refine lv_topi (fun x433 ex433 => ?_)
            have bx433 : (x433.toInt = (0 : Int) ∧ (-1 : Int) ≤ (0 : Int)) ∨ (x433.toInt = (-1 : Int) ∧ (0 : Int) < (-1 : Int)) := by rw [ex433]; exact wk_max
            replace hM := hM.lt (mMax_e bx433)
            have hTq := hT
            refine tk_puti hC hK hw hT hinX1 tyX1_ok nmX1 kC_at149 (by decide) rfl rfl 8 (by decide) (List.mem_cons_of_mem _ uw_43_1) rfl rfl rfl rfl (wk_i32 x433).1 (wk_i32 x433).2 dX1_lookAround_99 (fun H locs w434 hw hT k436 c435 => ?_)
            replace hM := hM.wr (sL_upf hTq hT kC_at149 (kC_lt kC_at149) (by decide) rfl k436 c435 rfl)
            have hF := hF.put kC_at149 (k := 8) (by decide) k436
            have c437 := k436.gi (Or.inr (by decide)) c410
            have c438 := k436.gi (Or.inr (by decide)) c411
            have c439 := k436.gi (Or.inr (by decide)) c412
            have c440 := k436.gi (Or.inr (by decide)) c413
            have c441 := k436.gi (Or.inr (by decide)) c414
            refine lv_aload_n hx hb dX1_lookAround_102 rfl (lv_at hl 1 rfl) ?_
            refine lv_iconst (v := (-1)) hx hb dX1_lookAround_103 (by decide) ?_
            have hTq := hT
            refine tk_puti hC hK hw hT hinX1 tyX1_ok nmX1 kC_at149 (by decide) rfl rfl 7 (by decide) (List.mem_cons_of_mem _ uw_42_7) rfl rfl rfl rfl (by decide) (by decide) dX1_lookAround_104 (fun H locs w442 hw hT k444 c443 => ?_)
            replace hM := hM.wr (sL_upf hTq hT kC_at149 (kC_lt kC_at149) (by decide) rfl k444 c443 (by decide))
            have hF := hF.put kC_at149 (k := 7) (by decide) k444
            have c445 := k444.gi (Or.inr (by decide)) c437
            have c446 := k444.gi (Or.inr (by decide)) c438
            have c447 := k444.gi (Or.inr (by decide)) c439
            have c448 := k444.gi (Or.inr (by decide)) c440
            have c449 := k444.gi (Or.inr (by decide)) c441
            have c450 := k444.gi (Or.inr (by decide)) c435
            refine lv_iconst (v := 0) hx hb dX1_lookAround_107 (by decide) ?_
            refine lv_istore (lv' := [(4, .int 0), (3, .int r284), (0, .ref (ad 149)), (1, .ref (ad 152)), (2, .int 0)]) hx hb dX1_lookAround_108 hl (by decide) rfl (fun ls hl => ?_)
            exact L110 r284 r297 0 x433 x293 x295 H locs ls w442 (show 0 ≤ r284.toInt by first | with_reducible assumption | omega) (show r284.toInt ≤ 10 by first | with_reducible assumption | omega) (show (-1) ≤ r297.toInt by first | with_reducible assumption | omega) (show r297.toInt ≤ 11 by first | with_reducible assumption | omega) (by decide) (by decide) (show 0 ≤ x433.toInt by first | with_reducible assumption | omega) (show x433.toInt ≤ 999999 by first | with_reducible assumption | omega) (show 0 ≤ x293.toInt from rx293) (show x293.toInt ≤ 9 from tx293) (show 0 ≤ x295.toInt from rx295) (show x295.toInt ≤ 9 from tx295)  hw hT hF c448 c449 c443 c450 c446 c447 hM (lv_sub hl [2, 3, 4, 1, 0] rfl)
        · replace hM := hM.call (r' := 1) hv386 (by decide)
          have ex383 : x383.toInt = x272.toInt := by rw [← c387.symm.trans c384]
          refine lv_if_eq (tgt := 74) hx hb dX1_lookAround_67 (by decide) (fun c => absurd c (by decide)) (fun _ => ?_)
          replace hM := hM.neg (by decide)
          refine lv_iconst (v := 1) hx hb dX1_lookAround_70 (by decide) ?_
          refine lv_goto (tgt := 75) hx hb dX1_lookAround_71 (by decide) ?_
          have hTq := hT
          refine tk_putz hC hK hw hT hinX1 tyX1_ok nmX1 kC_at149 (by decide) rfl rfl 6 (by decide) (List.mem_cons_of_mem _ uw_42_5) rfl rfl rfl rfl (by decide) (by decide) dX1_lookAround_75 (fun H locs w451 hw hT k453 c452 => ?_)
          replace hM := hM.wr (sL_upf hTq hT kC_at149 (kC_lt kC_at149) (by decide) rfl k453 c452 (by decide))
          have hF := hF.put kC_at149 (k := 6) (by decide) k453
          have c454 := k453.gi (Or.inr (by decide)) c387
          have c455 := k453.gi (Or.inr (by decide)) c388
          have c456 := k453.gi (Or.inr (by decide)) c389
          have c457 := k453.gi (Or.inr (by decide)) c390
          refine lv_aload_n hx hb dX1_lookAround_78 rfl (lv_at hl 1 rfl) ?_
          refine lv_iconst (v := 0) hx hb dX1_lookAround_79 (by decide) ?_
          refine lv_aload_n hx hb dX1_lookAround_80 rfl (lv_at hl 1 rfl) ?_
          refine tk_getA hC hK hw hT hinX1 kC_at149 (by decide) rfl 1 (by decide) (List.mem_cons_of_mem _ uw_5_1) rfl rfl dX1_lookAround_81 ?_
          refine lv_iload_n hx hb dX1_lookAround_84 rfl (lv_at hl 0 rfl) ?_
          refine lv_aload_n hx hb dX1_lookAround_85 rfl (lv_at hl 2 rfl) ?_
          refine tk_geti hC hK hw hT hinX9 kC_at152 (by decide) rfl 0 (by decide) (List.mem_cons_of_mem _ uw_42_22) rfl rfl dX1_lookAround_86 (fun x458 c459 rx458 tx458 => ?_)
          refine wk_top x293 (c459.symm.trans c455) ?_
          replace hM := hM.rd (sL_at (kC_lt kC_at152) c455)
          refine lv_aload_n hx hb dX1_lookAround_89 rfl (lv_at hl 2 rfl) ?_
          refine tk_geti hC hK hw hT hinX9 kC_at152 (by decide) rfl 1 (by decide) (List.mem_cons_of_mem _ uw_42_23) rfl rfl dX1_lookAround_90 (fun x460 c461 rx460 tx460 => ?_)
          refine wk_top x295 (c461.symm.trans c456) ?_
          replace hM := hM.rd (sL_at (kC_lt kC_at152) c456)
          refine tk_Vi hC hK hw hT hA hE hSR kC_at145 (by decide) rfl (ky_X0_hoursBy_2 l adK adV dC dI cy ad B hB0 (Int.le_trans hB1 (by decide)) qr s1   r284 (show 4 ≤ r284.toInt by first | with_reducible assumption | omega) (show r284.toInt ≤ 10 by first | with_reducible assumption | omega) x293 (show 0 ≤ x293.toInt from rx293) (show x293.toInt ≤ 9 from tx293) x295 (show 0 ≤ x295.toInt from rx295) (show x295.toInt ≤ 9 from tx295) w451 H.size hT ) (cwV 3 hC.2.2.2.2 uV_RX1_114 rfl rfl rfl (by decide +kernel) ⟨Nat.le_of_ble_eq_true rfl, Nat.le_of_ble_eq_true rfl⟩) rfl hl.1 rfl (Nat.le_of_ble_eq_true rfl) dX1_lookAround_93 (fun r462 w464 H locs hp463 hw => ?_)
          obtain ⟨hT, k465, hv469, hg468⟩ := hp463
          have hF := hF.tr k465 (by decide)
          have c470 := k465.gi kC_at149 (by decide) c454
          have c471 := k465.gi kC_at152 (by decide) c455
          have c472 := k465.gi kC_at152 (by decide) c456
          have c473 := k465.gi kC_at149 (by decide) c457
          have c474 := k465.gi kC_at149 (by decide) c452
          rcases hg468 with ⟨g466, g467⟩ | rfl
          · replace hM := hM.call hv469 rfl
            refine va_mmax hx hb (hC.2.2.1.trans hl.1.symm) hC.2.2.2.1 (hC.2.2.2.2 _ (List.mem_cons_of_mem _ uw_43_0)) (hC.2.2.2.2 _ (List.mem_cons_of_mem _ uw_14_15)) (hC.2.2.2.2 _ (List.mem_cons_of_mem _ uw_14_16)) (hC.2.2.2.2 _ (List.mem_cons_of_mem _ uw_14_17)) (Nat.le_of_ble_eq_true rfl) (Nat.le_of_ble_eq_true rfl) (Nat.zero_le _) (Nat.zero_le _) dX1_lookAround_96 ?_
            refine lv_topi (fun x475 ex475 => ?_)
            have bx475 : (x475.toInt = (0 : Int) ∧ r462.toInt ≤ (0 : Int)) ∨ (x475.toInt = r462.toInt ∧ (0 : Int) < r462.toInt) := by rw [ex475]; exact wk_max
            replace hM := hM.lt (mMax_e bx475)
            have hTq := hT
            refine tk_puti hC hK hw hT hinX1 tyX1_ok nmX1 kC_at149 (by decide) rfl rfl 8 (by decide) (List.mem_cons_of_mem _ uw_43_1) rfl rfl rfl rfl (wk_i32 x475).1 (wk_i32 x475).2 dX1_lookAround_99 (fun H locs w476 hw hT k478 c477 => ?_)
            replace hM := hM.wr (sL_upf hTq hT kC_at149 (kC_lt kC_at149) (by decide) rfl k478 c477 rfl)
            have hF := hF.put kC_at149 (k := 8) (by decide) k478
            have c479 := k478.gi (Or.inr (by decide)) c470
            have c480 := k478.gi (Or.inr (by decide)) c471
            have c481 := k478.gi (Or.inr (by decide)) c472
            have c482 := k478.gi (Or.inr (by decide)) c473
            have c483 := k478.gi (Or.inr (by decide)) c474
            refine lv_aload_n hx hb dX1_lookAround_102 rfl (lv_at hl 1 rfl) ?_
            refine lv_iconst (v := (-1)) hx hb dX1_lookAround_103 (by decide) ?_
            have hTq := hT
            refine tk_puti hC hK hw hT hinX1 tyX1_ok nmX1 kC_at149 (by decide) rfl rfl 7 (by decide) (List.mem_cons_of_mem _ uw_42_7) rfl rfl rfl rfl (by decide) (by decide) dX1_lookAround_104 (fun H locs w484 hw hT k486 c485 => ?_)
            replace hM := hM.wr (sL_upf hTq hT kC_at149 (kC_lt kC_at149) (by decide) rfl k486 c485 (by decide))
            have hF := hF.put kC_at149 (k := 7) (by decide) k486
            have c487 := k486.gi (Or.inr (by decide)) c479
            have c488 := k486.gi (Or.inr (by decide)) c480
            have c489 := k486.gi (Or.inr (by decide)) c481
            have c490 := k486.gi (Or.inr (by decide)) c482
            have c491 := k486.gi (Or.inr (by decide)) c483
            have c492 := k486.gi (Or.inr (by decide)) c477
            refine lv_iconst (v := 0) hx hb dX1_lookAround_107 (by decide) ?_
            refine lv_istore (lv' := [(4, .int 0), (3, .int r284), (0, .ref (ad 149)), (1, .ref (ad 152)), (2, .int 0)]) hx hb dX1_lookAround_108 hl (by decide) rfl (fun ls hl => ?_)
            exact L110 r284 r297 1 x475 x293 x295 H locs ls w484 (show 0 ≤ r284.toInt by first | with_reducible assumption | omega) (show r284.toInt ≤ 10 by first | with_reducible assumption | omega) (show (-1) ≤ r297.toInt by first | with_reducible assumption | omega) (show r297.toInt ≤ 11 by first | with_reducible assumption | omega) (by decide) (by decide) (show 0 ≤ x475.toInt by first | with_reducible assumption | omega) (show x475.toInt ≤ 999999 by first | with_reducible assumption | omega) (show 0 ≤ x293.toInt from rx293) (show x293.toInt ≤ 9 from tx293) (show 0 ≤ x295.toInt from rx295) (show x295.toInt ≤ 9 from tx295)  hw hT hF c490 c491 c485 c492 c488 c489 hM (lv_sub hl [2, 3, 4, 1, 0] rfl)
          · replace hM := hM.call (r' := (-1)) hv469 (by decide)
            refine va_mmax hx hb (hC.2.2.1.trans hl.1.symm) hC.2.2.2.1 (hC.2.2.2.2 _ (List.mem_cons_of_mem _ uw_43_0)) (hC.2.2.2.2 _ (List.mem_cons_of_mem _ uw_14_15)) (hC.2.2.2.2 _ (List.mem_cons_of_mem _ uw_14_16)) (hC.2.2.2.2 _ (List.mem_cons_of_mem _ uw_14_17)) (Nat.le_of_ble_eq_true rfl) (Nat.le_of_ble_eq_true rfl) (Nat.zero_le _) (Nat.zero_le _) dX1_lookAround_96 ?_
            refine lv_topi (fun x493 ex493 => ?_)
            have bx493 : (x493.toInt = (0 : Int) ∧ (-1 : Int) ≤ (0 : Int)) ∨ (x493.toInt = (-1 : Int) ∧ (0 : Int) < (-1 : Int)) := by rw [ex493]; exact wk_max
            replace hM := hM.lt (mMax_e bx493)
            have hTq := hT
            refine tk_puti hC hK hw hT hinX1 tyX1_ok nmX1 kC_at149 (by decide) rfl rfl 8 (by decide) (List.mem_cons_of_mem _ uw_43_1) rfl rfl rfl rfl (wk_i32 x493).1 (wk_i32 x493).2 dX1_lookAround_99 (fun H locs w494 hw hT k496 c495 => ?_)
            replace hM := hM.wr (sL_upf hTq hT kC_at149 (kC_lt kC_at149) (by decide) rfl k496 c495 rfl)
            have hF := hF.put kC_at149 (k := 8) (by decide) k496
            have c497 := k496.gi (Or.inr (by decide)) c470
            have c498 := k496.gi (Or.inr (by decide)) c471
            have c499 := k496.gi (Or.inr (by decide)) c472
            have c500 := k496.gi (Or.inr (by decide)) c473
            have c501 := k496.gi (Or.inr (by decide)) c474
            refine lv_aload_n hx hb dX1_lookAround_102 rfl (lv_at hl 1 rfl) ?_
            refine lv_iconst (v := (-1)) hx hb dX1_lookAround_103 (by decide) ?_
            have hTq := hT
            refine tk_puti hC hK hw hT hinX1 tyX1_ok nmX1 kC_at149 (by decide) rfl rfl 7 (by decide) (List.mem_cons_of_mem _ uw_42_7) rfl rfl rfl rfl (by decide) (by decide) dX1_lookAround_104 (fun H locs w502 hw hT k504 c503 => ?_)
            replace hM := hM.wr (sL_upf hTq hT kC_at149 (kC_lt kC_at149) (by decide) rfl k504 c503 (by decide))
            have hF := hF.put kC_at149 (k := 7) (by decide) k504
            have c505 := k504.gi (Or.inr (by decide)) c497
            have c506 := k504.gi (Or.inr (by decide)) c498
            have c507 := k504.gi (Or.inr (by decide)) c499
            have c508 := k504.gi (Or.inr (by decide)) c500
            have c509 := k504.gi (Or.inr (by decide)) c501
            have c510 := k504.gi (Or.inr (by decide)) c495
            refine lv_iconst (v := 0) hx hb dX1_lookAround_107 (by decide) ?_
            refine lv_istore (lv' := [(4, .int 0), (3, .int r284), (0, .ref (ad 149)), (1, .ref (ad 152)), (2, .int 0)]) hx hb dX1_lookAround_108 hl (by decide) rfl (fun ls hl => ?_)
            exact L110 r284 r297 1 x493 x293 x295 H locs ls w502 (show 0 ≤ r284.toInt by first | with_reducible assumption | omega) (show r284.toInt ≤ 10 by first | with_reducible assumption | omega) (show (-1) ≤ r297.toInt by first | with_reducible assumption | omega) (show r297.toInt ≤ 11 by first | with_reducible assumption | omega) (by decide) (by decide) (show 0 ≤ x493.toInt by first | with_reducible assumption | omega) (show x493.toInt ≤ 999999 by first | with_reducible assumption | omega) (show 0 ≤ x293.toInt from rx293) (show x293.toInt ≤ 9 from tx293) (show 0 ≤ x295.toInt from rx295) (show x295.toInt ≤ 9 from tx295)  hw hT hF c508 c509 c503 c510 c506 c507 hM (lv_sub hl [2, 3, 4, 1, 0] rfl)
abbrev Py_X7_cornerAcross_2 (ad : Nat → Nat) (cy : Nat → ClassId) (B : Int) (qr : Nat) (s1 : Int) (a1 : Int32) (w0 : va_W) : Int32 → va_W → Prop := fun r u => TW ksC ad cy B qr s1 u ∧ FE ksC ([] : List (Nat × Nat × Nat)) w0 u ∧ Ev (fun n => m_X7_cornerAcross n 39 a1.toInt 0 (sL w0)) (r.toInt, sL u) ∧ ((0 ≤ r.toInt ∧ r.toInt ≤ 9))
set_option maxHeartbeats 4000000 in
set_option maxRecDepth 100000 in
theorem ky_X7_cornerAcross_2 (l : Launch) (adK adV : Nat → Nat) (dC : Nat → ClassId) (dI : Nat → Nat → Nat) (cy : Nat → ClassId) (ad : Nat → Nat) (B : Int) (hB0 : 2147483648 ≤ B) (hB1 : B ≤ 1152921504606846976) (qr : Nat) (s1 : Int)  (a1 : Int32) (ra1 : 0 ≤ a1.toInt) (ta1 : a1.toInt ≤ 11) (w0 : va_W) (sz : Nat) (hT : TW ksC ad cy B qr s1 w0)  : Met l yX7_cornerAcross (wu yX7_cornerAcross cX7_cornerAcross 3 (some .int)) ({ frames := 1, cells := 0, slots := 0, locals := 12 }) (va_Pc [.ref (ad 39), .int a1, .int 0] (wpreS adK adV dC dI cy sz w0)) (va_Qi (Py_X7_cornerAcross_2 ad cy B qr s1 a1 w0) (fun u : va_W => wpost dC dI cy (va_A w0 sz) u) (va_A w0 sz)) 0 0 (va_A w0 sz) := by
  refine Met.ofW (cc := cX7_cornerAcross) (maxL := 3) (ret := (some .int)) (by decide) rfl ?_
  intro p e s m args below meth c s₁ Bk hml hv
  obtain ⟨rfl, ⟨hsz, hP, hK, hD0⟩, hE, hSR⟩ := hv
  have hx := Bk.exec
  have hb := Bk.bytes
  have hr := Bk.returns
  have hlocks := Bk.notSynchronized
  have hC : CallFix p m c cX7_cornerAcross 3 s _ (wu yX7_cornerAcross cX7_cornerAcross 3 (some .int)) RX7 := ⟨hx, hb, hml, findClass_of_methodNamed Bk.named, atoms_spec (ws := (wu yX7_cornerAcross cX7_cornerAcross 3 (some .int))) Bk.pre⟩
  subst hsz
  have hD := hD0.self (sz := s.heap.size)
  generalize hAe : va_A w0 s.heap.size = A at hD hE ⊢
  have hA : ∀ q : Nat, s.heap.size ≤ q → A q := fun q h => by rw [← hAe]; exact Or.inr h
  have hw : Wd dC dI A s.heap s.heap [] w0 := ⟨hP, hD, va_S.rf⟩
  have hF : FE ksC ([] : List (Nat × Nat × Nat)) w0 w0 := FE.rf
  have hl := lv_entry ([.ref (ad 39), .int a1, .int 0]) (n := 3) (Nat.le_of_ble_eq_true rfl)
  rw [lg_entry_eq]
  generalize (lg_sl ([.ref (ad 39), .int a1, .int 0]) ++ List.replicate (3 - (lg_sl ([.ref (ad 39), .int a1, .int 0])).length) Slot.unset).toArray = ls at hl ⊢
  have hl : lv_has ls 3 [(0, .ref (ad 39)), (1, .int a1), (2, .int 0)] := hl
  generalize hloc : ([] : List Loc) = locs at hw ⊢
  have hinX7 : ∀ w ∈ u_ws RX7 TX7 12, w ∈ (wu yX7_cornerAcross cX7_cornerAcross 3 (some .int)) := fun _ h => List.mem_cons_of_mem _ (up_73 h)
  have hM : TT (fun n => m_X7_cornerAcross n 39 a1.toInt 0 (sL w0)) (fun n => m_X7_cornerAcross n 39 a1.toInt 0 (sL w0)) := TT.rf
  refine lv_aload_n hx hb dX7_cornerAcross_0 rfl (lv_at hl 0 rfl) ?_
  refine tk_getO hC hK hw hT hinX7 kC_at39 (by decide) rfl 0 (by decide) (List.mem_cons_of_mem _ uw_2_17) rfl rfl dX7_cornerAcross_1 ?_
  refine lv_iconst (v := 2) hx hb dX7_cornerAcross_4 (by decide) ?_
  refine lv_iload_n hx hb dX7_cornerAcross_5 rfl (lv_at hl 1 rfl) ?_
  refine lv_imul hx hb dX7_cornerAcross_6 ?_
  refine lv_topi (fun x1 ex1 => ?_)
  have ezx1 := ex1
  have ex1 : x1.toInt = (2 : Int) * a1.toInt := by rw [ex1]; exact wk_mul (show (-2147483648) ≤ (2 : Int) * a1.toInt by omega) (show (2 : Int) * a1.toInt ≤ 2147483647 by omega)
  replace hM := hM.lt ex1.symm
  refine lv_iconst (v := 1) hx hb dX7_cornerAcross_7 (by decide) ?_
  refine lv_iadd hx hb dX7_cornerAcross_8 ?_
  refine lv_topi (fun x2 ex2 => ?_)
  have ezx2 := ex2
  have ex2 : x2.toInt = x1.toInt + (1 : Int) := by rw [ex2]; exact wk_add (show (-2147483648) ≤ x1.toInt + (1 : Int) by omega) (show x1.toInt + (1 : Int) ≤ 2147483647 by omega)
  replace hM := hM.lt ex2.symm
  refine lv_iload_n hx hb dX7_cornerAcross_9 rfl (lv_at hl 2 rfl) ?_
  refine lv_isub hx hb dX7_cornerAcross_10 ?_
  refine lv_topi (fun x3 ex3 => ?_)
  have ezx3 := ex3
  have ex3 : x3.toInt = x2.toInt - (0 : Int) := by rw [ex3]; exact wk_sub (show (-2147483648) ≤ x2.toInt - (0 : Int) by omega) (show x2.toInt - (0 : Int) ≤ 2147483647 by omega)
  replace hM := hM.lt ex3.symm
  refine tk_iald hC hK hw hT kC_at40 rfl rfl (show 0 ≤ x3.toInt by first | with_reducible assumption | omega) (show x3.toInt < 26 by first | with_reducible assumption | omega) dX7_cornerAcross_11 (fun x4 c5 rx4 tx4 => ?_)
  have hox4 := c5
  replace hM := hM.rd (sL_at (kC_lt kC_at40) hox4)
  have c5 : gi w0 40 (2 * a1.toInt + 1).toNat = x4 := (congrArg (gi w0 40) (congrArg Int.toNat (show 2 * a1.toInt + 1 = x3.toInt by first | exact Int.le_antisymm (by omega) (by omega) | omega))).trans c5
  exact tk_iret hC hr hlocks hK ⟨hT, hF, hM.ret rfl, ⟨(show 0 ≤ x4.toInt from rx4), (show x4.toInt ≤ 9 from tx4)⟩⟩ hw dX7_cornerAcross_12
abbrev Py_X7_cornerAcross_3 (ad : Nat → Nat) (cy : Nat → ClassId) (B : Int) (qr : Nat) (s1 : Int) (a1 : Int32) (w0 : va_W) : Int32 → va_W → Prop := fun r u => TW ksC ad cy B qr s1 u ∧ FE ksC ([] : List (Nat × Nat × Nat)) w0 u ∧ Ev (fun n => m_X7_cornerAcross n 39 a1.toInt 1 (sL w0)) (r.toInt, sL u) ∧ ((0 ≤ r.toInt ∧ r.toInt ≤ 9))
set_option maxHeartbeats 4000000 in
set_option maxRecDepth 100000 in
theorem ky_X7_cornerAcross_3 (l : Launch) (adK adV : Nat → Nat) (dC : Nat → ClassId) (dI : Nat → Nat → Nat) (cy : Nat → ClassId) (ad : Nat → Nat) (B : Int) (hB0 : 2147483648 ≤ B) (hB1 : B ≤ 1152921504606846976) (qr : Nat) (s1 : Int)  (a1 : Int32) (ra1 : 0 ≤ a1.toInt) (ta1 : a1.toInt ≤ 11) (w0 : va_W) (sz : Nat) (hT : TW ksC ad cy B qr s1 w0)  : Met l yX7_cornerAcross (wu yX7_cornerAcross cX7_cornerAcross 3 (some .int)) ({ frames := 1, cells := 0, slots := 0, locals := 12 }) (va_Pc [.ref (ad 39), .int a1, .int 1] (wpreS adK adV dC dI cy sz w0)) (va_Qi (Py_X7_cornerAcross_3 ad cy B qr s1 a1 w0) (fun u : va_W => wpost dC dI cy (va_A w0 sz) u) (va_A w0 sz)) 0 0 (va_A w0 sz) := by
  refine Met.ofW (cc := cX7_cornerAcross) (maxL := 3) (ret := (some .int)) (by decide) rfl ?_
  intro p e s m args below meth c s₁ Bk hml hv
  obtain ⟨rfl, ⟨hsz, hP, hK, hD0⟩, hE, hSR⟩ := hv
  have hx := Bk.exec
  have hb := Bk.bytes
  have hr := Bk.returns
  have hlocks := Bk.notSynchronized
  have hC : CallFix p m c cX7_cornerAcross 3 s _ (wu yX7_cornerAcross cX7_cornerAcross 3 (some .int)) RX7 := ⟨hx, hb, hml, findClass_of_methodNamed Bk.named, atoms_spec (ws := (wu yX7_cornerAcross cX7_cornerAcross 3 (some .int))) Bk.pre⟩
  subst hsz
  have hD := hD0.self (sz := s.heap.size)
  generalize hAe : va_A w0 s.heap.size = A at hD hE ⊢
  have hA : ∀ q : Nat, s.heap.size ≤ q → A q := fun q h => by rw [← hAe]; exact Or.inr h
  have hw : Wd dC dI A s.heap s.heap [] w0 := ⟨hP, hD, va_S.rf⟩
  have hF : FE ksC ([] : List (Nat × Nat × Nat)) w0 w0 := FE.rf
  have hl := lv_entry ([.ref (ad 39), .int a1, .int 1]) (n := 3) (Nat.le_of_ble_eq_true rfl)
  rw [lg_entry_eq]
  generalize (lg_sl ([.ref (ad 39), .int a1, .int 1]) ++ List.replicate (3 - (lg_sl ([.ref (ad 39), .int a1, .int 1])).length) Slot.unset).toArray = ls at hl ⊢
  have hl : lv_has ls 3 [(0, .ref (ad 39)), (1, .int a1), (2, .int 1)] := hl
  generalize hloc : ([] : List Loc) = locs at hw ⊢
  have hinX7 : ∀ w ∈ u_ws RX7 TX7 12, w ∈ (wu yX7_cornerAcross cX7_cornerAcross 3 (some .int)) := fun _ h => List.mem_cons_of_mem _ (up_73 h)
  have hM : TT (fun n => m_X7_cornerAcross n 39 a1.toInt 1 (sL w0)) (fun n => m_X7_cornerAcross n 39 a1.toInt 1 (sL w0)) := TT.rf
  refine lv_aload_n hx hb dX7_cornerAcross_0 rfl (lv_at hl 0 rfl) ?_
  refine tk_getO hC hK hw hT hinX7 kC_at39 (by decide) rfl 0 (by decide) (List.mem_cons_of_mem _ uw_2_17) rfl rfl dX7_cornerAcross_1 ?_
  refine lv_iconst (v := 2) hx hb dX7_cornerAcross_4 (by decide) ?_
  refine lv_iload_n hx hb dX7_cornerAcross_5 rfl (lv_at hl 1 rfl) ?_
  refine lv_imul hx hb dX7_cornerAcross_6 ?_
  refine lv_topi (fun x1 ex1 => ?_)
  have ezx1 := ex1
  have ex1 : x1.toInt = (2 : Int) * a1.toInt := by rw [ex1]; exact wk_mul (show (-2147483648) ≤ (2 : Int) * a1.toInt by omega) (show (2 : Int) * a1.toInt ≤ 2147483647 by omega)
  replace hM := hM.lt ex1.symm
  refine lv_iconst (v := 1) hx hb dX7_cornerAcross_7 (by decide) ?_
  refine lv_iadd hx hb dX7_cornerAcross_8 ?_
  refine lv_topi (fun x2 ex2 => ?_)
  have ezx2 := ex2
  have ex2 : x2.toInt = x1.toInt + (1 : Int) := by rw [ex2]; exact wk_add (show (-2147483648) ≤ x1.toInt + (1 : Int) by omega) (show x1.toInt + (1 : Int) ≤ 2147483647 by omega)
  replace hM := hM.lt ex2.symm
  refine lv_iload_n hx hb dX7_cornerAcross_9 rfl (lv_at hl 2 rfl) ?_
  refine lv_isub hx hb dX7_cornerAcross_10 ?_
  refine lv_topi (fun x3 ex3 => ?_)
  have ezx3 := ex3
  have ex3 : x3.toInt = x2.toInt - (1 : Int) := by rw [ex3]; exact wk_sub (show (-2147483648) ≤ x2.toInt - (1 : Int) by omega) (show x2.toInt - (1 : Int) ≤ 2147483647 by omega)
  replace hM := hM.lt ex3.symm
  refine tk_iald hC hK hw hT kC_at40 rfl rfl (show 0 ≤ x3.toInt by first | with_reducible assumption | omega) (show x3.toInt < 26 by first | with_reducible assumption | omega) dX7_cornerAcross_11 (fun x4 c5 rx4 tx4 => ?_)
  have hox4 := c5
  replace hM := hM.rd (sL_at (kC_lt kC_at40) hox4)
  have c5 : gi w0 40 (2 * a1.toInt + 0).toNat = x4 := (congrArg (gi w0 40) (congrArg Int.toNat (show 2 * a1.toInt + 0 = x3.toInt by first | exact Int.le_antisymm (by omega) (by omega) | omega))).trans c5
  exact tk_iret hC hr hlocks hK ⟨hT, hF, hM.ret rfl, ⟨(show 0 ≤ x4.toInt from rx4), (show x4.toInt ≤ 9 from tx4)⟩⟩ hw dX7_cornerAcross_12
