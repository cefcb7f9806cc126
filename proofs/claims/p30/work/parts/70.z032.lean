abbrev Pz_X12_isMap_1 (ad : Nat → Nat) (cy : Nat → ClassId) (B : Int) (qr : Nat) (s1 : Int) (a1 : Int32) (w0 : va_W) : Int32 → va_W → Prop := fun r u => w0 = u ∧ Ev (fun n => m_X12_isMap n 0 a1.toInt (sI w0)) (r.toInt, sI w0) ∧ ((r = 0) ∨ (r = 1 ∧ 0 ≤ a1.toInt ∧ a1.toInt ≤ 3 ∧ (∃ y : Int32, gi u 12 4 = y ∧ 1 ≤ y.toInt ∧ y.toInt ≤ 4)))
set_option maxHeartbeats 4000000 in
set_option maxRecDepth 100000 in
theorem kz_X12_isMap_1 (l : Launch) (adK adV : Nat → Nat) (dC : Nat → ClassId) (dI : Nat → Nat → Nat) (cy : Nat → ClassId) (ad : Nat → Nat) (B : Int) (hB0 : 100000 ≤ B) (hB1 : B ≤ 1073741824) (qr : Nat) (s1 : Int)  (a1 : Int32) (w0 : va_W) (sz : Nat) (hT : TW ksM ad cy B qr 12 w0)  : Met l yX12_isMap (wu yX12_isMap cX12_isMap 2 (some .boolean)) ({ frames := 1, cells := 0, slots := 0, locals := 12 }) (va_Pc [.ref (ad 0), .int a1] (wpreS adK adV dC dI cy sz w0)) (va_Qi (Pz_X12_isMap_1 ad cy B qr s1 a1 w0) (fun u : va_W => wpost dC dI cy (va_A w0 sz) u) (va_A w0 sz)) 0 0 (va_A w0 sz) := by
  refine Met.ofW (cc := cX12_isMap) (maxL := 2) (ret := (some .boolean)) (by decide) rfl ?_
  intro p e s m args below meth c s₁ Bk hml hv
  obtain ⟨rfl, ⟨hsz, hP, hK, hD0⟩, hE, hSR⟩ := hv
  have hx := Bk.exec
  have hb := Bk.bytes
  have hr := Bk.returns
  have hlocks := Bk.notSynchronized
  have hC : CallFix p m c cX12_isMap 2 s _ (wu yX12_isMap cX12_isMap 2 (some .boolean)) RX12 := ⟨hx, hb, hml, findClass_of_methodNamed Bk.named, atoms_spec (ws := (wu yX12_isMap cX12_isMap 2 (some .boolean))) Bk.pre⟩
  subst hsz
  have hD := hD0.self (sz := s.heap.size)
  generalize hAe : va_A w0 s.heap.size = A at hD hE ⊢
  have hA : ∀ q : Nat, s.heap.size ≤ q → A q := fun q h => by rw [← hAe]; exact Or.inr h
  have hw : Wd dC dI A s.heap s.heap [] w0 := ⟨hP, hD, va_S.rf⟩
  have hF : FE ksM ([] : List (Nat × Nat × Nat)) w0 w0 := FE.rf
  have hl := lv_entry ([.ref (ad 0), .int a1]) (n := 2) (Nat.le_of_ble_eq_true rfl)
  rw [lg_entry_eq]
  generalize (lg_sl ([.ref (ad 0), .int a1]) ++ List.replicate (2 - (lg_sl ([.ref (ad 0), .int a1])).length) Slot.unset).toArray = ls at hl ⊢
  have hl : lv_has ls 2 [(0, .ref (ad 0)), (1, .int a1)] := hl
  generalize hloc : ([] : List Loc) = locs at hw ⊢
  have hinX12 : ∀ w ∈ u_ws RX12 TX12 42, w ∈ (wu yX12_isMap cX12_isMap 2 (some .boolean)) := fun _ h => List.mem_cons_of_mem _ (up_71 h)
  have J18 : ∀ (H : Heap) (locs : List Loc) (ls : Array Slot), Wd dC dI A s.heap H locs w0 → TT (fun n => m_X12_isMap n 0 a1.toInt (sI w0)) (fun n => b_X12_isMap_18 n 0 (sI w0)) → lv_has ls 2 [(0, .ref (ad 0)), (1, .int a1)] → W p l e ({ frames := 1, cells := 0, slots := 0, locals := 12 }) s m (List.toArray [.ref (ad 0), .int a1]) below meth c H locs 0 0 (MQ below (va_Qi (Pz_X12_isMap_1 ad cy B qr s1 a1 w0) (fun u : va_W => wpost dC dI cy A u) A) (List.toArray [.ref (ad 0), .int a1]) s 0 0 A) (F0 m 18 ls []) := by
    intro H locs ls hw hM hl
    refine lv_iconst (v := 0) hx hb dX12_isMap_18 (by decide) ?_
    exact tk_zret hC hr rfl hlocks hK ⟨rfl, hM.ret (by decide), (Or.inl rfl)⟩ hw dX12_isMap_19
  have hM : TT (fun n => m_X12_isMap n 0 a1.toInt (sI w0)) (fun n => m_X12_isMap n 0 a1.toInt (sI w0)) := TT.rf
  refine lv_iload_n hx hb dX12_isMap_0 rfl (lv_at hl 1 rfl) ?_
  refine lv_if_lt (tgt := 18) hx hb dX12_isMap_1 (by decide) (fun c1 => ?_) (fun c1 => ?_)
  · have c1 : a1.toInt < (0 : Int) := wk_lt.mp c1
    replace hM := hM.pos c1
    exact J18  s.heap locs ls    hw  hM (lv_sub hl [0, 1] rfl)
  · have c1 : (0 : Int) ≤ a1.toInt := wk_ltF c1
    replace hM := hM.neg (Int.not_lt.mpr c1)
    refine lv_iload_n hx hb dX12_isMap_4 rfl (lv_at hl 1 rfl) ?_
    refine lv_aload_n hx hb dX12_isMap_5 rfl (lv_at hl 0 rfl) ?_
    refine tk_getA hC hK hw hT hinX12 kM_at0 (by decide) rfl 26 (by decide) (List.mem_cons_of_mem _ uw_7_1) rfl rfl dX12_isMap_6 ?_
    refine lv_iconst (v := 4) hx hb dX12_isMap_9 (by decide) ?_
    refine tk_ialdR hC hK hw hT kM_at12 rfl (by decide) (by decide) dX12_isMap_10 (fun x2 c3 Ex2 => ?_)
    have hox2 := c3
    replace hM := hM.rd (sI_at hox2)
    have bx2 := tk_rgI rfl 4 1 1 0 4 (by decide +kernel) ⟨0, by decide, by decide⟩ Ex2
    have c3 : gi w0 12 4 = x2 := c3
    refine lv_icmp_ge (tgt := 18) hx hb dX12_isMap_11 (by decide) (fun c4 => ?_) (fun c4 => ?_)
    · have c4 : x2.toInt ≤ a1.toInt := wk_le.mp c4
      replace hM := hM.pos c4
      exact J18  s.heap locs ls    hw  hM (lv_sub hl [0, 1] rfl)
    · have c4 : a1.toInt < x2.toInt := wk_leF c4
      replace hM := hM.neg (Int.not_le.mpr c4)
      refine lv_iconst (v := 1) hx hb dX12_isMap_14 (by decide) ?_
      refine lv_goto (tgt := 19) hx hb dX12_isMap_15 (by decide) ?_
      exact tk_zret hC hr rfl hlocks hK ⟨rfl, hM.ret (by decide), (Or.inr ⟨rfl, (show 0 ≤ a1.toInt by first | with_reducible assumption | omega), (show a1.toInt ≤ 3 by first | with_reducible assumption | omega), ⟨x2, c3, (show 1 ≤ x2.toInt by first | with_reducible assumption | omega), (show x2.toInt ≤ 4 by first | with_reducible assumption | omega)⟩⟩)⟩ hw dX12_isMap_19
abbrev Pz_X12_misprint_1 (ad : Nat → Nat) (cy : Nat → ClassId) (B : Int) (qr : Nat) (s1 : Int) (a1 : Int32) (a2 : Int32) (a3 : Int32) (w0 : va_W) : Int32 → va_W → Prop := fun r u => TW ksM ad cy B qr 12 u ∧ FE ksM [(71, 168, 215)] w0 u ∧ Ev (fun n => m_X12_misprint n 0 a1.toInt a2.toInt a3.toInt (sI w0)) (r.toInt, sI u) ∧ ((0 ≤ a1.toInt ∧ a1.toInt ≤ 3 ∧ 0 ≤ a2.toInt ∧ a2.toInt ≤ 11 ∧ 0 ≤ a3.toInt ∧ a3.toInt ≤ 3 ∧ (∃ y : Int32, gi u 12 1 = y ∧ 1 ≤ y.toInt ∧ y.toInt ≤ 12) ∧ (∃ y : Int32, gi u 12 4 = y ∧ 1 ≤ y.toInt ∧ y.toInt ≤ 4)) ∨ (r = (-1)))
set_option maxHeartbeats 4000000 in
set_option maxRecDepth 100000 in
theorem kz_X12_misprint_1 (l : Launch) (adK adV : Nat → Nat) (dC : Nat → ClassId) (dI : Nat → Nat → Nat) (cy : Nat → ClassId) (ad : Nat → Nat) (B : Int) (hB0 : 100000 ≤ B) (hB1 : B ≤ 1073741824) (qr : Nat) (s1 : Int)  (a1 : Int32) (a2 : Int32) (a3 : Int32) (w0 : va_W) (sz : Nat) (hT : TW ksM ad cy B qr 12 w0)  : Met l yX12_misprint (wu yX12_misprint cX12_misprint 5 (some .int)) ({ frames := 2, cells := 0, slots := 0, locals := 37 }) (va_Pc [.ref (ad 0), .int a1, .int a2, .int a3] (wpreS adK adV dC dI cy sz w0)) (va_Qi (Pz_X12_misprint_1 ad cy B qr s1 a1 a2 a3 w0) (fun u : va_W => wpost dC dI cy (va_A w0 sz) u) (va_A w0 sz)) 0 0 (va_A w0 sz) := by
  refine Met.ofW (cc := cX12_misprint) (maxL := 5) (ret := (some .int)) (by decide) rfl ?_
  intro p e s m args below meth c s₁ Bk hml hv
  obtain ⟨rfl, ⟨hsz, hP, hK, hD0⟩, hE, hSR⟩ := hv
  have hx := Bk.exec
  have hb := Bk.bytes
  have hr := Bk.returns
  have hlocks := Bk.notSynchronized
  have hC : CallFix p m c cX12_misprint 5 s _ (wu yX12_misprint cX12_misprint 5 (some .int)) RX12 := ⟨hx, hb, hml, findClass_of_methodNamed Bk.named, atoms_spec (ws := (wu yX12_misprint cX12_misprint 5 (some .int))) Bk.pre⟩
  subst hsz
  have hD := hD0.self (sz := s.heap.size)
  generalize hAe : va_A w0 s.heap.size = A at hD hE ⊢
  have hA : ∀ q : Nat, s.heap.size ≤ q → A q := fun q h => by rw [← hAe]; exact Or.inr h
  have hw : Wd dC dI A s.heap s.heap [] w0 := ⟨hP, hD, va_S.rf⟩
  have hF : FE ksM [(71, 168, 215)] w0 w0 := FE.rf
  have hl := lv_entry ([.ref (ad 0), .int a1, .int a2, .int a3]) (n := 5) (Nat.le_of_ble_eq_true rfl)
  rw [lg_entry_eq]
  generalize (lg_sl ([.ref (ad 0), .int a1, .int a2, .int a3]) ++ List.replicate (5 - (lg_sl ([.ref (ad 0), .int a1, .int a2, .int a3])).length) Slot.unset).toArray = ls at hl ⊢
  have hl : lv_has ls 5 [(0, .ref (ad 0)), (1, .int a1), (2, .int a2), (3, .int a3)] := hl
  generalize hloc : ([] : List Loc) = locs at hw ⊢
  have hinX12 : ∀ w ∈ u_ws RX12 TX12 42, w ∈ (wu yX12_misprint cX12_misprint 5 (some .int)) := fun _ h => List.mem_cons_of_mem _ (up_71 h)
  have J28 : ∀ (H : Heap) (locs : List Loc) (ls : Array Slot) (w1 : va_W), Wd dC dI A s.heap H locs w1 → TW ksM ad cy B qr 12 w1 → FE ksM [(71, 168, 215)] w0 w1 → TT (fun n => m_X12_misprint n 0 a1.toInt a2.toInt a3.toInt (sI w0)) (fun n => b_X12_misprint_28 n 0 (sI w1)) → lv_has ls 5 [(0, .ref (ad 0)), (1, .int a1), (2, .int a2), (3, .int a3)] → W p l e ({ frames := 2, cells := 0, slots := 0, locals := 37 }) s m (List.toArray [.ref (ad 0), .int a1, .int a2, .int a3]) below meth c H locs 0 0 (MQ below (va_Qi (Pz_X12_misprint_1 ad cy B qr s1 a1 a2 a3 w0) (fun u : va_W => wpost dC dI cy A u) A) (List.toArray [.ref (ad 0), .int a1, .int a2, .int a3]) s 0 0 A) (F0 m 28 ls []) := by
    intro H locs ls w1 hw hT hF hM hl
    refine lv_iconst (v := (-1)) hx hb dX12_misprint_28 (by decide) ?_
    exact tk_iret hC hr hlocks hK ⟨hT, hF, hM.ret (by decide), (Or.inr rfl)⟩ hw dX12_misprint_29
  have hM : TT (fun n => m_X12_misprint n 0 a1.toInt a2.toInt a3.toInt (sI w0)) (fun n => m_X12_misprint n 0 a1.toInt a2.toInt a3.toInt (sI w0)) := TT.rf
  refine lv_aload_n hx hb dX12_misprint_0 rfl (lv_at hl 0 rfl) ?_
  refine lv_iload_n hx hb dX12_misprint_1 rfl (lv_at hl 1 rfl) ?_
  refine tk_Vi hC hK hw hT hA hE hSR kM_at0 (by decide) rfl (kz_X12_isMap_1 l adK adV dC dI cy ad B hB0 (Int.le_trans hB1 (by decide)) qr s1   a1 w0 s.heap.size hT ) (cwV 1 hC.2.2.2.2 uV_RX12_342 rfl rfl rfl (by decide +kernel) ⟨Nat.le_of_ble_eq_true rfl, Nat.le_of_ble_eq_true rfl⟩) rfl hl.1 rfl (Nat.le_of_ble_eq_true rfl) dX12_misprint_2 (fun r2 w4 H locs hp3 hw => ?_)
  obtain ⟨rfl, hv11, hg10⟩ := hp3
  rcases hg10 with rfl | ⟨rfl, g6, g7, ⟨x8, c9, rx8, tx8⟩⟩
  · replace hM := hM.call (r' := 0) hv11 (by decide)
    refine lv_if_eq (tgt := 28) hx hb dX12_misprint_5 (by decide) (fun _ => ?_) (fun c => absurd (by decide) c)
    replace hM := hM.pos (by decide)
    exact J28  H locs ls w0   hw hT hF hM (lv_sub hl [0, 1, 2, 3] rfl)
  · replace hM := hM.call (r' := 1) hv11 (by decide)
    refine lv_if_eq (tgt := 28) hx hb dX12_misprint_5 (by decide) (fun c => absurd c (by decide)) (fun _ => ?_)
    replace hM := hM.neg (by decide)
    refine lv_aload_n hx hb dX12_misprint_8 rfl (lv_at hl 0 rfl) ?_
    refine lv_iload_n hx hb dX12_misprint_9 rfl (lv_at hl 2 rfl) ?_
    refine tk_Vi hC hK hw hT hA hE hSR kM_at0 (by decide) rfl (kz_X12_isStreet_1 l adK adV dC dI cy ad B hB0 (Int.le_trans hB1 (by decide)) qr s1   a2 w0 H.size hT ) (cwV 1 hC.2.2.2.2 uV_RX12_323 rfl rfl rfl (by decide +kernel) ⟨Nat.le_of_ble_eq_true rfl, Nat.le_of_ble_eq_true rfl⟩) rfl hl.1 rfl (Nat.le_of_ble_eq_true rfl) dX12_misprint_10 (fun r12 w14 H locs hp13 hw => ?_)
    obtain ⟨rfl, hv21, hg20⟩ := hp13
    rcases hg20 with rfl | ⟨rfl, g16, g17, ⟨x18, c19, rx18, tx18⟩⟩
    · replace hM := hM.call (r' := 0) hv21 (by decide)
      refine lv_if_eq (tgt := 28) hx hb dX12_misprint_13 (by decide) (fun _ => ?_) (fun c => absurd (by decide) c)
      replace hM := hM.pos (by decide)
      exact J28  H locs ls w0   hw hT hF hM (lv_sub hl [0, 1, 2, 3] rfl)
    · replace hM := hM.call (r' := 1) hv21 (by decide)
      refine lv_if_eq (tgt := 28) hx hb dX12_misprint_13 (by decide) (fun c => absurd c (by decide)) (fun _ => ?_)
      replace hM := hM.neg (by decide)
      refine lv_iload_n hx hb dX12_misprint_16 rfl (lv_at hl 3 rfl) ?_
      refine lv_i2l hx hb dX12_misprint_17 rfl ?_
      refine lv_topl (fun x22 ex22 => ?_)
      have ex22 : x22.toInt = a3.toInt := by rw [ex22]; exact wk_i2l _
      have bx22 := wk_i32 a3
      replace hM := hM.lt ex22.symm
      refine lv_lconst (v := 0) hx hb dX12_misprint_18 (by decide) ?_
      refine lv_ldc2 (v := 3) hx hb hC.2.2.2.1 (hC.2.2.2.2 _ (List.mem_cons_of_mem _ uw_35_2)) dX12_misprint_19 ?_
      refine tk_Si hC hK hw hT hA hE hSR (kz_X12_in_10 l adK adV dC dI cy ad B hB0 (Int.le_trans hB1 (by decide)) qr s1   x22 (show (-2147483648) ≤ x22.toInt by first | with_reducible assumption | omega) (show x22.toInt ≤ 2147483647 by first | with_reducible assumption | omega) w0 H.size hT ) (va_cwS 3 hC.2.2.2.2 uS_RX12_122 rfl rfl rfl (by decide +kernel) ⟨Nat.le_of_ble_eq_true rfl, Nat.le_of_ble_eq_true rfl⟩) rfl hl.1 rfl (Nat.le_of_ble_eq_true rfl) dX12_misprint_22 (fun r23 w25 H locs hp24 hw => ?_)
      obtain ⟨rfl, hv30, hg29⟩ := hp24
      rcases hg29 with rfl | ⟨rfl, g27, g28⟩
      · replace hM := hM.call (r' := 0) hv30 (by decide)
        refine lv_if_ne (tgt := 30) hx hb dX12_misprint_25 (by decide) (fun c => absurd (by decide) c) (fun _ => ?_)
        replace hM := hM.neg (by decide)
        exact J28  H locs ls w0   hw hT hF hM (lv_sub hl [0, 1, 2, 3] rfl)
      · replace hM := hM.call (r' := 1) hv30 (by decide)
        refine lv_if_ne (tgt := 30) hx hb dX12_misprint_25 (by decide) (fun _ => ?_) (fun c => absurd c (by decide))
        replace hM := hM.pos (by decide)
        refine lv_aload_n hx hb dX12_misprint_30 rfl (lv_at hl 0 rfl) ?_
        refine tk_getA hC hK hw hT hinX12 kM_at0 (by decide) rfl 26 (by decide) (List.mem_cons_of_mem _ uw_7_1) rfl rfl dX12_misprint_31 ?_
        refine lv_sipush (v := 168) hx hb dX12_misprint_34 (by decide) ?_
        refine lv_bipush (v := 12) hx hb dX12_misprint_37 (by decide) ?_
        refine lv_iload_n hx hb dX12_misprint_39 rfl (lv_at hl 1 rfl) ?_
        refine lv_imul hx hb dX12_misprint_40 ?_
        refine lv_topi (fun x31 ex31 => ?_)
        have ezx31 := ex31
        have ex31 : x31.toInt = (12 : Int) * a1.toInt := by rw [ex31]; exact wk_mul (show (-2147483648) ≤ (12 : Int) * a1.toInt by omega) (show (12 : Int) * a1.toInt ≤ 2147483647 by omega)
        replace hM := hM.lt ex31.symm
        refine lv_iadd hx hb dX12_misprint_41 ?_
        refine lv_topi (fun x32 ex32 => ?_)
        have ezx32 := ex32
        have ex32 : x32.toInt = (168 : Int) + x31.toInt := by rw [ex32]; exact wk_add (show (-2147483648) ≤ (168 : Int) + x31.toInt by omega) (show (168 : Int) + x31.toInt ≤ 2147483647 by omega)
        replace hM := hM.lt ex32.symm
        refine lv_iload_n hx hb dX12_misprint_42 rfl (lv_at hl 2 rfl) ?_
        refine lv_iadd hx hb dX12_misprint_43 ?_
        refine lv_topi (fun x33 ex33 => ?_)
        have ezx33 := ex33
        have ex33 : x33.toInt = x32.toInt + a2.toInt := by rw [ex33]; exact wk_add (show (-2147483648) ≤ x32.toInt + a2.toInt by omega) (show x32.toInt + a2.toInt ≤ 2147483647 by omega)
        replace hM := hM.lt ex33.symm
        refine tk_ialdR hC hK hw hT kM_at12 rfl (show 0 ≤ x33.toInt by first | with_reducible assumption | omega) (show x33.toInt < 296 by first | with_reducible assumption | omega) dX12_misprint_44 (fun x34 c35 Ex34 => ?_)
        have hox34 := c35
        have c35 : gi w0 12 (12 * a1.toInt + 1 * a2.toInt + 168).toNat = x34 := (congrArg (gi w0 12) (congrArg Int.toNat (show 12 * a1.toInt + 1 * a2.toInt + 168 = x33.toInt by first | exact Int.le_antisymm (by omega) (by omega) | omega))).trans c35
        replace hM := hM.rd (sI_at hox34)
        refine lv_istore (lv' := [(4, .int x34), (0, .ref (ad 0)), (1, .int a1), (2, .int a2), (3, .int a3)]) hx hb dX12_misprint_45 hl (by decide) rfl (fun ls hl => ?_)
        refine lv_aload_n hx hb dX12_misprint_47 rfl (lv_at hl 1 rfl) ?_
        refine tk_getA hC hK hw hT hinX12 kM_at0 (by decide) rfl 26 (by decide) (List.mem_cons_of_mem _ uw_7_1) rfl rfl dX12_misprint_48 ?_
        refine lv_sipush (v := 168) hx hb dX12_misprint_51 (by decide) ?_
        refine lv_bipush (v := 12) hx hb dX12_misprint_54 (by decide) ?_
        refine lv_iload_n hx hb dX12_misprint_56 rfl (lv_at hl 2 rfl) ?_
        refine lv_imul hx hb dX12_misprint_57 ?_
        refine lv_topi (fun x36 ex36 => ?_)
        have ezx36 := ex36
        have ex36 : x36.toInt = (12 : Int) * a1.toInt := by rw [ex36]; exact wk_mul (show (-2147483648) ≤ (12 : Int) * a1.toInt by omega) (show (12 : Int) * a1.toInt ≤ 2147483647 by omega)
        replace hM := hM.lt ex36.symm
        refine lv_iadd hx hb dX12_misprint_58 ?_
        refine lv_topi (fun x37 ex37 => ?_)
        have ezx37 := ex37
        have ex37 : x37.toInt = (168 : Int) + x36.toInt := by rw [ex37]; exact wk_add (show (-2147483648) ≤ (168 : Int) + x36.toInt by omega) (show (168 : Int) + x36.toInt ≤ 2147483647 by omega)
        replace hM := hM.lt ex37.symm
        refine lv_iload_n hx hb dX12_misprint_59 rfl (lv_at hl 3 rfl) ?_
        refine lv_iadd hx hb dX12_misprint_60 ?_
        refine lv_topi (fun x38 ex38 => ?_)
        have ezx38 := ex38
        have ex38 : x38.toInt = x37.toInt + a2.toInt := by rw [ex38]; exact wk_add (show (-2147483648) ≤ x37.toInt + a2.toInt by omega) (show x37.toInt + a2.toInt ≤ 2147483647 by omega)
        replace hM := hM.lt ex38.symm
        refine lv_iload_n hx hb dX12_misprint_61 rfl (lv_at hl 4 rfl) ?_
        refine tk_iastR hC hK hw hT kM_at12 (by decide) rfl (show 0 ≤ x38.toInt by first | with_reducible assumption | omega) (show x38.toInt < 296 by first | with_reducible assumption | omega) (tk_rgS rfl 168 1 48 0 3 (by decide +kernel) ⟨(x38.toInt - 168).toNat, by omega, show x38.toInt.toNat = 168 + 1 * (x38.toInt - 168).toNat by omega⟩ (show 0 ≤ a3.toInt by first | with_reducible assumption | omega) (show a3.toInt ≤ 3 by first | with_reducible assumption | omega)) dX12_misprint_62 (fun H locs w39 hw hT k41 c40 => ?_)
        replace hM := hM.wr (sI_up k41 c40)
        have hF := hF.put kM_at12 (inE_of (a := 168) (b := 215) (by decide) (show 168 ≤ x38.toInt.toNat by omega) (show x38.toInt.toNat ≤ 215 by omega)) k41
        have c42 := k41.gi (Or.inr (show 4 ≠ x38.toInt.toNat by omega)) c9
        have c43 := k41.gi (Or.inr (show 1 ≠ x38.toInt.toNat by omega)) c19
        refine lv_iload hx hb dX12_misprint_63 (lv_at hl 0 rfl) ?_
        exact tk_iret hC hr hlocks hK ⟨hT, hF, hM.ret rfl, (Or.inl ⟨(show 0 ≤ a1.toInt by first | with_reducible assumption | omega), (show a1.toInt ≤ 3 by first | with_reducible assumption | omega), (show 0 ≤ a2.toInt by first | with_reducible assumption | omega), (show a2.toInt ≤ 11 by first | with_reducible assumption | omega), (show 0 ≤ a3.toInt by first | with_reducible assumption | omega), (show a3.toInt ≤ 3 by first | with_reducible assumption | omega), ⟨x18, c43, (show 1 ≤ x18.toInt by first | with_reducible assumption | omega), (show x18.toInt ≤ 12 by first | with_reducible assumption | omega)⟩, ⟨x8, c42, (show 1 ≤ x8.toInt by first | with_reducible assumption | omega), (show x8.toInt ≤ 4 by first | with_reducible assumption | omega)⟩⟩)⟩ hw dX12_misprint_65
abbrev Pz_X12_shown_1 (ad : Nat → Nat) (cy : Nat → ClassId) (B : Int) (qr : Nat) (s1 : Int) (a1 : Int32) (a2 : Int32) (w0 : va_W) : Int32 → va_W → Prop := fun r u => w0 = u ∧ Ev (fun n => m_X12_shown n 0 a1.toInt a2.toInt (sI w0)) (r.toInt, sI w0) ∧ ((0 ≤ a1.toInt ∧ a1.toInt ≤ 3 ∧ 0 ≤ a2.toInt ∧ a2.toInt ≤ 11 ∧ (∃ y : Int32, gi u 12 1 = y ∧ 1 ≤ y.toInt ∧ y.toInt ≤ 12) ∧ (∃ y : Int32, gi u 12 4 = y ∧ 1 ≤ y.toInt ∧ y.toInt ≤ 4)) ∨ (r = (-1)))
set_option maxHeartbeats 4000000 in
set_option maxRecDepth 100000 in
theorem kz_X12_shown_1 (l : Launch) (adK adV : Nat → Nat) (dC : Nat → ClassId) (dI : Nat → Nat → Nat) (cy : Nat → ClassId) (ad : Nat → Nat) (B : Int) (hB0 : 100000 ≤ B) (hB1 : B ≤ 1073741824) (qr : Nat) (s1 : Int)  (a1 : Int32) (a2 : Int32) (w0 : va_W) (sz : Nat) (hT : TW ksM ad cy B qr 12 w0)  : Met l yX12_shown (wu yX12_shown cX12_shown 3 (some .int)) ({ frames := 2, cells := 0, slots := 0, locals := 33 }) (va_Pc [.ref (ad 0), .int a1, .int a2] (wpreS adK adV dC dI cy sz w0)) (va_Qi (Pz_X12_shown_1 ad cy B qr s1 a1 a2 w0) (fun u : va_W => wpost dC dI cy (va_A w0 sz) u) (va_A w0 sz)) 0 0 (va_A w0 sz) := by
  refine Met.ofW (cc := cX12_shown) (maxL := 3) (ret := (some .int)) (by decide) rfl ?_
  intro p e s m args below meth c s₁ Bk hml hv
  obtain ⟨rfl, ⟨hsz, hP, hK, hD0⟩, hE, hSR⟩ := hv
  have hx := Bk.exec
  have hb := Bk.bytes
  have hr := Bk.returns
  have hlocks := Bk.notSynchronized
  have hC : CallFix p m c cX12_shown 3 s _ (wu yX12_shown cX12_shown 3 (some .int)) RX12 := ⟨hx, hb, hml, findClass_of_methodNamed Bk.named, atoms_spec (ws := (wu yX12_shown cX12_shown 3 (some .int))) Bk.pre⟩
  subst hsz
  have hD := hD0.self (sz := s.heap.size)
  generalize hAe : va_A w0 s.heap.size = A at hD hE ⊢
  have hA : ∀ q : Nat, s.heap.size ≤ q → A q := fun q h => by rw [← hAe]; exact Or.inr h
  have hw : Wd dC dI A s.heap s.heap [] w0 := ⟨hP, hD, va_S.rf⟩
  have hF : FE ksM ([] : List (Nat × Nat × Nat)) w0 w0 := FE.rf
  have hl := lv_entry ([.ref (ad 0), .int a1, .int a2]) (n := 3) (Nat.le_of_ble_eq_true rfl)
  rw [lg_entry_eq]
  generalize (lg_sl ([.ref (ad 0), .int a1, .int a2]) ++ List.replicate (3 - (lg_sl ([.ref (ad 0), .int a1, .int a2])).length) Slot.unset).toArray = ls at hl ⊢
  have hl : lv_has ls 3 [(0, .ref (ad 0)), (1, .int a1), (2, .int a2)] := hl
  generalize hloc : ([] : List Loc) = locs at hw ⊢
  have hinX12 : ∀ w ∈ u_ws RX12 TX12 42, w ∈ (wu yX12_shown cX12_shown 3 (some .int)) := fun _ h => List.mem_cons_of_mem _ (up_71 h)
  have J34 : ∀ (H : Heap) (locs : List Loc) (ls : Array Slot), Wd dC dI A s.heap H locs w0 → TT (fun n => m_X12_shown n 0 a1.toInt a2.toInt (sI w0)) (fun n => b_X12_shown_34 n 0 (sI w0)) → lv_has ls 3 [(0, .ref (ad 0)), (1, .int a1), (2, .int a2)] → W p l e ({ frames := 2, cells := 0, slots := 0, locals := 33 }) s m (List.toArray [.ref (ad 0), .int a1, .int a2]) below meth c H locs 0 0 (MQ below (va_Qi (Pz_X12_shown_1 ad cy B qr s1 a1 a2 w0) (fun u : va_W => wpost dC dI cy A u) A) (List.toArray [.ref (ad 0), .int a1, .int a2]) s 0 0 A) (F0 m 34 ls []) := by
    intro H locs ls hw hM hl
    refine lv_iconst (v := (-1)) hx hb dX12_shown_34 (by decide) ?_
    exact tk_iret hC hr hlocks hK ⟨rfl, hM.ret (by decide), (Or.inr rfl)⟩ hw dX12_shown_35
  have hM : TT (fun n => m_X12_shown n 0 a1.toInt a2.toInt (sI w0)) (fun n => m_X12_shown n 0 a1.toInt a2.toInt (sI w0)) := TT.rf
  refine lv_aload_n hx hb dX12_shown_0 rfl (lv_at hl 0 rfl) ?_
  refine lv_iload_n hx hb dX12_shown_1 rfl (lv_at hl 1 rfl) ?_
  refine tk_Vi hC hK hw hT hA hE hSR kM_at0 (by decide) rfl (kz_X12_isMap_1 l adK adV dC dI cy ad B hB0 (Int.le_trans hB1 (by decide)) qr s1   a1 w0 s.heap.size hT ) (cwV 1 hC.2.2.2.2 uV_RX12_342 rfl rfl rfl (by decide +kernel) ⟨Nat.le_of_ble_eq_true rfl, Nat.le_of_ble_eq_true rfl⟩) rfl hl.1 rfl (Nat.le_of_ble_eq_true rfl) dX12_shown_2 (fun r1 w3 H locs hp2 hw => ?_)
  obtain ⟨rfl, hv10, hg9⟩ := hp2
  rcases hg9 with rfl | ⟨rfl, g5, g6, ⟨x7, c8, rx7, tx7⟩⟩
  · replace hM := hM.call (r' := 0) hv10 (by decide)
    refine lv_if_eq (tgt := 34) hx hb dX12_shown_5 (by decide) (fun _ => ?_) (fun c => absurd (by decide) c)
    replace hM := hM.pos (by decide)
    exact J34  H locs ls    hw  hM (lv_sub hl [0, 1, 2] rfl)
  · replace hM := hM.call (r' := 1) hv10 (by decide)
    refine lv_if_eq (tgt := 34) hx hb dX12_shown_5 (by decide) (fun c => absurd c (by decide)) (fun _ => ?_)
    replace hM := hM.neg (by decide)
    refine lv_aload_n hx hb dX12_shown_8 rfl (lv_at hl 0 rfl) ?_
    refine lv_iload_n hx hb dX12_shown_9 rfl (lv_at hl 2 rfl) ?_
    refine tk_Vi hC hK hw hT hA hE hSR kM_at0 (by decide) rfl (kz_X12_isStreet_1 l adK adV dC dI cy ad B hB0 (Int.le_trans hB1 (by decide)) qr s1   a2 w0 H.size hT ) (cwV 1 hC.2.2.2.2 uV_RX12_323 rfl rfl rfl (by decide +kernel) ⟨Nat.le_of_ble_eq_true rfl, Nat.le_of_ble_eq_true rfl⟩) rfl hl.1 rfl (Nat.le_of_ble_eq_true rfl) dX12_shown_10 (fun r11 w13 H locs hp12 hw => ?_)
    obtain ⟨rfl, hv20, hg19⟩ := hp12
    rcases hg19 with rfl | ⟨rfl, g15, g16, ⟨x17, c18, rx17, tx17⟩⟩
    · replace hM := hM.call (r' := 0) hv20 (by decide)
      refine lv_if_eq (tgt := 34) hx hb dX12_shown_13 (by decide) (fun _ => ?_) (fun c => absurd (by decide) c)
      replace hM := hM.pos (by decide)
      exact J34  H locs ls    hw  hM (lv_sub hl [0, 1, 2] rfl)
    · replace hM := hM.call (r' := 1) hv20 (by decide)
      refine lv_if_eq (tgt := 34) hx hb dX12_shown_13 (by decide) (fun c => absurd c (by decide)) (fun _ => ?_)
      replace hM := hM.neg (by decide)
      refine lv_aload_n hx hb dX12_shown_16 rfl (lv_at hl 0 rfl) ?_
      refine tk_getA hC hK hw hT hinX12 kM_at0 (by decide) rfl 26 (by decide) (List.mem_cons_of_mem _ uw_7_1) rfl rfl dX12_shown_17 ?_
      refine lv_sipush (v := 168) hx hb dX12_shown_20 (by decide) ?_
      refine lv_bipush (v := 12) hx hb dX12_shown_23 (by decide) ?_
      refine lv_iload_n hx hb dX12_shown_25 rfl (lv_at hl 1 rfl) ?_
      refine lv_imul hx hb dX12_shown_26 ?_
      refine lv_topi (fun x21 ex21 => ?_)
      have ezx21 := ex21
      have ex21 : x21.toInt = (12 : Int) * a1.toInt := by rw [ex21]; exact wk_mul (show (-2147483648) ≤ (12 : Int) * a1.toInt by omega) (show (12 : Int) * a1.toInt ≤ 2147483647 by omega)
      replace hM := hM.lt ex21.symm
      refine lv_iadd hx hb dX12_shown_27 ?_
      refine lv_topi (fun x22 ex22 => ?_)
      have ezx22 := ex22
      have ex22 : x22.toInt = (168 : Int) + x21.toInt := by rw [ex22]; exact wk_add (show (-2147483648) ≤ (168 : Int) + x21.toInt by omega) (show (168 : Int) + x21.toInt ≤ 2147483647 by omega)
      replace hM := hM.lt ex22.symm
      refine lv_iload_n hx hb dX12_shown_28 rfl (lv_at hl 2 rfl) ?_
      refine lv_iadd hx hb dX12_shown_29 ?_
      refine lv_topi (fun x23 ex23 => ?_)
      have ezx23 := ex23
      have ex23 : x23.toInt = x22.toInt + a2.toInt := by rw [ex23]; exact wk_add (show (-2147483648) ≤ x22.toInt + a2.toInt by omega) (show x22.toInt + a2.toInt ≤ 2147483647 by omega)
      replace hM := hM.lt ex23.symm
      refine tk_ialdR hC hK hw hT kM_at12 rfl (show 0 ≤ x23.toInt by first | with_reducible assumption | omega) (show x23.toInt < 296 by first | with_reducible assumption | omega) dX12_shown_30 (fun x24 c25 Ex24 => ?_)
      have hox24 := c25
      have c25 : gi w0 12 (12 * a1.toInt + 1 * a2.toInt + 168).toNat = x24 := (congrArg (gi w0 12) (congrArg Int.toNat (show 12 * a1.toInt + 1 * a2.toInt + 168 = x23.toInt by first | exact Int.le_antisymm (by omega) (by omega) | omega))).trans c25
      replace hM := hM.rd (sI_at hox24)
      refine lv_goto (tgt := 35) hx hb dX12_shown_31 (by decide) ?_
      exact tk_iret hC hr hlocks hK ⟨rfl, hM.ret rfl, (Or.inl ⟨(show 0 ≤ a1.toInt by first | with_reducible assumption | omega), (show a1.toInt ≤ 3 by first | with_reducible assumption | omega), (show 0 ≤ a2.toInt by first | with_reducible assumption | omega), (show a2.toInt ≤ 11 by first | with_reducible assumption | omega), ⟨x17, c18, (show 1 ≤ x17.toInt by first | with_reducible assumption | omega), (show x17.toInt ≤ 12 by first | with_reducible assumption | omega)⟩, ⟨x7, c8, (show 1 ≤ x7.toInt by first | with_reducible assumption | omega), (show x7.toInt ≤ 4 by first | with_reducible assumption | omega)⟩⟩)⟩ hw dX12_shown_35
abbrev Pz_X12_isCorner_1 (ad : Nat → Nat) (cy : Nat → ClassId) (B : Int) (qr : Nat) (s1 : Int) (a1 : Int32) (w0 : va_W) : Int32 → va_W → Prop := fun r u => w0 = u ∧ Ev (fun n => m_X12_isCorner n 0 a1.toInt (sI w0)) (r.toInt, sI w0) ∧ ((r = 0) ∨ (r = 1 ∧ 0 ≤ a1.toInt ∧ a1.toInt ≤ 9 ∧ (∃ y : Int32, gi u 12 0 = y ∧ 1 ≤ y.toInt ∧ y.toInt ≤ 10)))
set_option maxHeartbeats 4000000 in
set_option maxRecDepth 100000 in
theorem kz_X12_isCorner_1 (l : Launch) (adK adV : Nat → Nat) (dC : Nat → ClassId) (dI : Nat → Nat → Nat) (cy : Nat → ClassId) (ad : Nat → Nat) (B : Int) (hB0 : 100000 ≤ B) (hB1 : B ≤ 1073741824) (qr : Nat) (s1 : Int)  (a1 : Int32) (w0 : va_W) (sz : Nat) (hT : TW ksM ad cy B qr 12 w0)  : Met l yX12_isCorner (wu yX12_isCorner cX12_isCorner 2 (some .boolean)) ({ frames := 1, cells := 0, slots := 0, locals := 12 }) (va_Pc [.ref (ad 0), .int a1] (wpreS adK adV dC dI cy sz w0)) (va_Qi (Pz_X12_isCorner_1 ad cy B qr s1 a1 w0) (fun u : va_W => wpost dC dI cy (va_A w0 sz) u) (va_A w0 sz)) 0 0 (va_A w0 sz) := by
  refine Met.ofW (cc := cX12_isCorner) (maxL := 2) (ret := (some .boolean)) (by decide) rfl ?_
  intro p e s m args below meth c s₁ Bk hml hv
  obtain ⟨rfl, ⟨hsz, hP, hK, hD0⟩, hE, hSR⟩ := hv
  have hx := Bk.exec
  have hb := Bk.bytes
  have hr := Bk.returns
  have hlocks := Bk.notSynchronized
  have hC : CallFix p m c cX12_isCorner 2 s _ (wu yX12_isCorner cX12_isCorner 2 (some .boolean)) RX12 := ⟨hx, hb, hml, findClass_of_methodNamed Bk.named, atoms_spec (ws := (wu yX12_isCorner cX12_isCorner 2 (some .boolean))) Bk.pre⟩
  subst hsz
  have hD := hD0.self (sz := s.heap.size)
  generalize hAe : va_A w0 s.heap.size = A at hD hE ⊢
  have hA : ∀ q : Nat, s.heap.size ≤ q → A q := fun q h => by rw [← hAe]; exact Or.inr h
  have hw : Wd dC dI A s.heap s.heap [] w0 := ⟨hP, hD, va_S.rf⟩
  have hF : FE ksM ([] : List (Nat × Nat × Nat)) w0 w0 := FE.rf
  have hl := lv_entry ([.ref (ad 0), .int a1]) (n := 2) (Nat.le_of_ble_eq_true rfl)
  rw [lg_entry_eq]
  generalize (lg_sl ([.ref (ad 0), .int a1]) ++ List.replicate (2 - (lg_sl ([.ref (ad 0), .int a1])).length) Slot.unset).toArray = ls at hl ⊢
  have hl : lv_has ls 2 [(0, .ref (ad 0)), (1, .int a1)] := hl
  generalize hloc : ([] : List Loc) = locs at hw ⊢
  have hinX12 : ∀ w ∈ u_ws RX12 TX12 42, w ∈ (wu yX12_isCorner cX12_isCorner 2 (some .boolean)) := fun _ h => List.mem_cons_of_mem _ (up_71 h)
  have J18 : ∀ (H : Heap) (locs : List Loc) (ls : Array Slot), Wd dC dI A s.heap H locs w0 → TT (fun n => m_X12_isCorner n 0 a1.toInt (sI w0)) (fun n => b_X12_isCorner_18 n 0 (sI w0)) → lv_has ls 2 [(0, .ref (ad 0)), (1, .int a1)] → W p l e ({ frames := 1, cells := 0, slots := 0, locals := 12 }) s m (List.toArray [.ref (ad 0), .int a1]) below meth c H locs 0 0 (MQ below (va_Qi (Pz_X12_isCorner_1 ad cy B qr s1 a1 w0) (fun u : va_W => wpost dC dI cy A u) A) (List.toArray [.ref (ad 0), .int a1]) s 0 0 A) (F0 m 18 ls []) := by
    intro H locs ls hw hM hl
    refine lv_iconst (v := 0) hx hb dX12_isCorner_18 (by decide) ?_
    exact tk_zret hC hr rfl hlocks hK ⟨rfl, hM.ret (by decide), (Or.inl rfl)⟩ hw dX12_isCorner_19
  have hM : TT (fun n => m_X12_isCorner n 0 a1.toInt (sI w0)) (fun n => m_X12_isCorner n 0 a1.toInt (sI w0)) := TT.rf
  refine lv_iload_n hx hb dX12_isCorner_0 rfl (lv_at hl 1 rfl) ?_
  refine lv_if_lt (tgt := 18) hx hb dX12_isCorner_1 (by decide) (fun c1 => ?_) (fun c1 => ?_)
  · have c1 : a1.toInt < (0 : Int) := wk_lt.mp c1
    replace hM := hM.pos c1
    exact J18  s.heap locs ls    hw  hM (lv_sub hl [0, 1] rfl)
  · have c1 : (0 : Int) ≤ a1.toInt := wk_ltF c1
    replace hM := hM.neg (Int.not_lt.mpr c1)
    refine lv_iload_n hx hb dX12_isCorner_4 rfl (lv_at hl 1 rfl) ?_
    refine lv_aload_n hx hb dX12_isCorner_5 rfl (lv_at hl 0 rfl) ?_
    refine tk_getA hC hK hw hT hinX12 kM_at0 (by decide) rfl 26 (by decide) (List.mem_cons_of_mem _ uw_7_1) rfl rfl dX12_isCorner_6 ?_
    refine lv_iconst (v := 0) hx hb dX12_isCorner_9 (by decide) ?_
    refine tk_ialdR hC hK hw hT kM_at12 rfl (by decide) (by decide) dX12_isCorner_10 (fun x2 c3 Ex2 => ?_)
    have hox2 := c3
    replace hM := hM.rd (sI_at hox2)
    have bx2 := tk_rgI rfl 0 1 1 0 10 (by decide +kernel) ⟨0, by decide, by decide⟩ Ex2
    have c3 : gi w0 12 0 = x2 := c3
    refine lv_icmp_ge (tgt := 18) hx hb dX12_isCorner_11 (by decide) (fun c4 => ?_) (fun c4 => ?_)
    · have c4 : x2.toInt ≤ a1.toInt := wk_le.mp c4
      replace hM := hM.pos c4
      exact J18  s.heap locs ls    hw  hM (lv_sub hl [0, 1] rfl)
    · have c4 : a1.toInt < x2.toInt := wk_leF c4
      replace hM := hM.neg (Int.not_le.mpr c4)
      refine lv_iconst (v := 1) hx hb dX12_isCorner_14 (by decide) ?_
      refine lv_goto (tgt := 19) hx hb dX12_isCorner_15 (by decide) ?_
      exact tk_zret hC hr rfl hlocks hK ⟨rfl, hM.ret (by decide), (Or.inr ⟨rfl, (show 0 ≤ a1.toInt by first | with_reducible assumption | omega), (show a1.toInt ≤ 9 by first | with_reducible assumption | omega), ⟨x2, c3, (show 1 ≤ x2.toInt by first | with_reducible assumption | omega), (show x2.toInt ≤ 10 by first | with_reducible assumption | omega)⟩⟩)⟩ hw dX12_isCorner_19
abbrev Pz_X12_errand_1 (ad : Nat → Nat) (cy : Nat → ClassId) (B : Int) (qr : Nat) (s1 : Int) (a1 : Int32) (a2 : Int32) (w0 : va_W) : Int32 → va_W → Prop := fun r u => TW ksM ad cy B qr 12 u ∧ FE ksM [(71, 6, 6), (71, 252, 262), (71, 253, 263)] w0 u ∧ Ev (fun n => m_X12_errand n 0 a1.toInt a2.toInt (sI w0)) (r.toInt, sI u) ∧ ((r = (-2)) ∨ (0 ≤ r.toInt ∧ r.toInt ≤ 6 ∧ (-1) ≤ a1.toInt ∧ a1.toInt ≤ 9 ∧ (∃ y : Int32, gi u 12 6 = y ∧ 0 ≤ y.toInt ∧ y.toInt ≤ 6)))
set_option maxHeartbeats 4000000 in
set_option maxRecDepth 100000 in
theorem kz_X12_errand_1 (l : Launch) (adK adV : Nat → Nat) (dC : Nat → ClassId) (dI : Nat → Nat → Nat) (cy : Nat → ClassId) (ad : Nat → Nat) (B : Int) (hB0 : 100000 ≤ B) (hB1 : B ≤ 1073741824) (qr : Nat) (s1 : Int)  (a1 : Int32) (a2 : Int32) (w0 : va_W) (sz : Nat) (hT : TW ksM ad cy B qr 12 w0)  : Met l yX12_errand (wu yX12_errand cX12_errand 3 (some .int)) ({ frames := 2, cells := 0, slots := 0, locals := 33 }) (va_Pc [.ref (ad 0), .int a1, .int a2] (wpreS adK adV dC dI cy sz w0)) (va_Qi (Pz_X12_errand_1 ad cy B qr s1 a1 a2 w0) (fun u : va_W => wpost dC dI cy (va_A w0 sz) u) (va_A w0 sz)) 0 0 (va_A w0 sz) := by
  refine Met.ofW (cc := cX12_errand) (maxL := 3) (ret := (some .int)) (by decide) rfl ?_
  intro p e s m args below meth c s₁ Bk hml hv
  obtain ⟨rfl, ⟨hsz, hP, hK, hD0⟩, hE, hSR⟩ := hv
  have hx := Bk.exec
  have hb := Bk.bytes
  have hr := Bk.returns
  have hlocks := Bk.notSynchronized
  have hC : CallFix p m c cX12_errand 3 s _ (wu yX12_errand cX12_errand 3 (some .int)) RX12 := ⟨hx, hb, hml, findClass_of_methodNamed Bk.named, atoms_spec (ws := (wu yX12_errand cX12_errand 3 (some .int))) Bk.pre⟩
  subst hsz
  have hD := hD0.self (sz := s.heap.size)
  generalize hAe : va_A w0 s.heap.size = A at hD hE ⊢
  have hA : ∀ q : Nat, s.heap.size ≤ q → A q := fun q h => by rw [← hAe]; exact Or.inr h
  have hw : Wd dC dI A s.heap s.heap [] w0 := ⟨hP, hD, va_S.rf⟩
  have hF : FE ksM [(71, 6, 6), (71, 252, 262), (71, 253, 263)] w0 w0 := FE.rf
  have hl := lv_entry ([.ref (ad 0), .int a1, .int a2]) (n := 3) (Nat.le_of_ble_eq_true rfl)
  rw [lg_entry_eq]
  generalize (lg_sl ([.ref (ad 0), .int a1, .int a2]) ++ List.replicate (3 - (lg_sl ([.ref (ad 0), .int a1, .int a2])).length) Slot.unset).toArray = ls at hl ⊢
  have hl : lv_has ls 3 [(0, .ref (ad 0)), (1, .int a1), (2, .int a2)] := hl
  generalize hloc : ([] : List Loc) = locs at hw ⊢
  have hinX12 : ∀ w ∈ u_ws RX12 TX12 42, w ∈ (wu yX12_errand cX12_errand 3 (some .int)) := fun _ h => List.mem_cons_of_mem _ (up_71 h)
  have J48 : ∀ (H : Heap) (locs : List Loc) (ls : Array Slot) (w1 : va_W), Wd dC dI A s.heap H locs w1 → TW ksM ad cy B qr 12 w1 → FE ksM [(71, 6, 6), (71, 252, 262), (71, 253, 263)] w0 w1 → TT (fun n => m_X12_errand n 0 a1.toInt a2.toInt (sI w0)) (fun n => b_X12_errand_48 n 0 (sI w1)) → lv_has ls 3 [(0, .ref (ad 0)), (1, .int a1), (2, .int a2)] → W p l e ({ frames := 2, cells := 0, slots := 0, locals := 33 }) s m (List.toArray [.ref (ad 0), .int a1, .int a2]) below meth c H locs 0 0 (MQ below (va_Qi (Pz_X12_errand_1 ad cy B qr s1 a1 a2 w0) (fun u : va_W => wpost dC dI cy A u) A) (List.toArray [.ref (ad 0), .int a1, .int a2]) s 0 0 A) (F0 m 48 ls []) := by
    intro H locs ls w1 hw hT hF hM hl
    refine lv_bipush (v := (-2)) hx hb dX12_errand_48 (by decide) ?_
    exact tk_iret hC hr hlocks hK ⟨hT, hF, hM.ret (by decide), (Or.inl rfl)⟩ hw dX12_errand_50
  have hM : TT (fun n => m_X12_errand n 0 a1.toInt a2.toInt (sI w0)) (fun n => m_X12_errand n 0 a1.toInt a2.toInt (sI w0)) := TT.rf
  refine lv_iload_n hx hb dX12_errand_0 rfl (lv_at hl 1 rfl) ?_
  refine lv_iconst (v := (-1)) hx hb dX12_errand_1 (by decide) ?_
  refine lv_icmp_ne (tgt := 15) hx hb dX12_errand_2 (by decide) (fun c2 => ?_) (fun c2 => ?_)
  · have c2 : ¬ a1.toInt = (-1 : Int) := wk_eqF c2
    replace hM := hM.pos c2
    refine lv_aload_n hx hb dX12_errand_15 rfl (lv_at hl 0 rfl) ?_
    refine lv_iload_n hx hb dX12_errand_16 rfl (lv_at hl 1 rfl) ?_
    refine tk_Vi hC hK hw hT hA hE hSR kM_at0 (by decide) rfl (kz_X12_isCorner_1 l adK adV dC dI cy ad B hB0 (Int.le_trans hB1 (by decide)) qr s1   a1 w0 s.heap.size hT ) (cwV 1 hC.2.2.2.2 uV_RX12_328 rfl rfl rfl (by decide +kernel) ⟨Nat.le_of_ble_eq_true rfl, Nat.le_of_ble_eq_true rfl⟩) rfl hl.1 rfl (Nat.le_of_ble_eq_true rfl) dX12_errand_17 (fun r3 w5 H locs hp4 hw => ?_)
    obtain ⟨rfl, hv12, hg11⟩ := hp4
    rcases hg11 with rfl | ⟨rfl, g7, g8, ⟨x9, c10, rx9, tx9⟩⟩
    · replace hM := hM.call (r' := 0) hv12 (by decide)
      refine lv_if_eq (tgt := 48) hx hb dX12_errand_20 (by decide) (fun _ => ?_) (fun c => absurd (by decide) c)
      replace hM := hM.pos (by decide)
      exact J48  H locs ls w0   hw hT hF hM (lv_sub hl [0, 1, 2] rfl)
    · replace hM := hM.call (r' := 1) hv12 (by decide)
      refine lv_if_eq (tgt := 48) hx hb dX12_errand_20 (by decide) (fun c => absurd c (by decide)) (fun _ => ?_)
      replace hM := hM.neg (by decide)
      refine lv_aload_n hx hb dX12_errand_23 rfl (lv_at hl 0 rfl) ?_
      refine lv_iload_n hx hb dX12_errand_24 rfl (lv_at hl 2 rfl) ?_
      refine tk_Vi hC hK hw hT hA hE hSR kM_at0 (by decide) rfl (kz_X12_isCorner_1 l adK adV dC dI cy ad B hB0 (Int.le_trans hB1 (by decide)) qr s1   a2 w0 H.size hT ) (cwV 1 hC.2.2.2.2 uV_RX12_328 rfl rfl rfl (by decide +kernel) ⟨Nat.le_of_ble_eq_true rfl, Nat.le_of_ble_eq_true rfl⟩) rfl hl.1 rfl (Nat.le_of_ble_eq_true rfl) dX12_errand_25 (fun r13 w15 H locs hp14 hw => ?_)
      obtain ⟨rfl, hv22, hg21⟩ := hp14
      rcases hg21 with rfl | ⟨rfl, g17, g18, ⟨x19, c20, rx19, tx19⟩⟩
      · replace hM := hM.call (r' := 0) hv22 (by decide)
        refine lv_if_eq (tgt := 48) hx hb dX12_errand_28 (by decide) (fun _ => ?_) (fun c => absurd (by decide) c)
        replace hM := hM.pos (by decide)
        exact J48  H locs ls w0   hw hT hF hM (lv_sub hl [0, 1, 2] rfl)
      · replace hM := hM.call (r' := 1) hv22 (by decide)
        have ex19 : x19.toInt = x9.toInt := by rw [← c10.symm.trans c20]
        refine lv_if_eq (tgt := 48) hx hb dX12_errand_28 (by decide) (fun c => absurd c (by decide)) (fun _ => ?_)
        replace hM := hM.neg (by decide)
        refine lv_iload_n hx hb dX12_errand_31 rfl (lv_at hl 1 rfl) ?_
        refine lv_iload_n hx hb dX12_errand_32 rfl (lv_at hl 2 rfl) ?_
        refine lv_icmp_eq (tgt := 48) hx hb dX12_errand_33 (by decide) (fun c23 => ?_) (fun c23 => ?_)
        · have c23 : a1.toInt = a2.toInt := wk_eq.mp c23
          replace hM := hM.pos c23
          exact J48  H locs ls w0   hw hT hF hM (lv_sub hl [0, 1, 2] rfl)
        · have c23 : ¬ a1.toInt = a2.toInt := wk_eqF c23
          replace hM := hM.neg c23
          refine lv_aload_n hx hb dX12_errand_36 rfl (lv_at hl 0 rfl) ?_
          refine tk_getA hC hK hw hT hinX12 kM_at0 (by decide) rfl 26 (by decide) (List.mem_cons_of_mem _ uw_7_1) rfl rfl dX12_errand_37 ?_
          refine lv_bipush (v := 6) hx hb dX12_errand_40 (by decide) ?_
          refine tk_ialdR hC hK hw hT kM_at12 rfl (by decide) (by decide) dX12_errand_42 (fun x24 c25 Ex24 => ?_)
          have hox24 := c25
          replace hM := hM.rd (sI_at hox24)
          have bx24 := tk_rgI rfl 6 1 1 0 6 (by decide +kernel) ⟨0, by decide, by decide⟩ Ex24
          have c25 : gi w0 12 6 = x24 := c25
          refine lv_bipush (v := 6) hx hb dX12_errand_43 (by decide) ?_
          refine lv_icmp_ne (tgt := 51) hx hb dX12_errand_45 (by decide) (fun c26 => ?_) (fun c26 => ?_)
          · have c26 : ¬ x24.toInt = (6 : Int) := wk_eqF c26
            replace hM := hM.pos c26
            refine lv_aload_n hx hb dX12_errand_51 rfl (lv_at hl 0 rfl) ?_
            refine tk_getA hC hK hw hT hinX12 kM_at0 (by decide) rfl 26 (by decide) (List.mem_cons_of_mem _ uw_7_1) rfl rfl dX12_errand_52 ?_
            refine lv_sipush (v := 252) hx hb dX12_errand_55 (by decide) ?_
            refine lv_iconst (v := 2) hx hb dX12_errand_58 (by decide) ?_
            refine lv_aload_n hx hb dX12_errand_59 rfl (lv_at hl 0 rfl) ?_
            refine tk_getA hC hK hw hT hinX12 kM_at0 (by decide) rfl 26 (by decide) (List.mem_cons_of_mem _ uw_7_1) rfl rfl dX12_errand_60 ?_
            refine lv_bipush (v := 6) hx hb dX12_errand_63 (by decide) ?_
            refine tk_ialdR hC hK hw hT kM_at12 rfl (by decide) (by decide) dX12_errand_65 (fun x27 c28 Ex27 => ?_)
            have hox27 := c28
            refine wk_top x24 (c28.symm.trans c25) ?_
            replace hM := hM.rd ((sI_at hox27).trans (congrArg Int32.toInt (c28.symm.trans c25)))
            refine lv_imul hx hb dX12_errand_66 ?_
            refine lv_topi (fun x29 ex29 => ?_)
            have ezx29 := ex29
            have ex29 : x29.toInt = (2 : Int) * x24.toInt := by rw [ex29]; exact wk_mul (show (-2147483648) ≤ (2 : Int) * x24.toInt by omega) (show (2 : Int) * x24.toInt ≤ 2147483647 by omega)
            replace hM := hM.lt ex29.symm
            refine lv_iadd hx hb dX12_errand_67 ?_
            refine lv_topi (fun x30 ex30 => ?_)
            have ezx30 := ex30
            have ex30 : x30.toInt = (252 : Int) + x29.toInt := by rw [ex30]; exact wk_add (show (-2147483648) ≤ (252 : Int) + x29.toInt by omega) (show (252 : Int) + x29.toInt ≤ 2147483647 by omega)
            replace hM := hM.lt ex30.symm
            refine lv_iload_n hx hb dX12_errand_68 rfl (lv_at hl 1 rfl) ?_
            refine tk_iastR hC hK hw hT kM_at12 (by decide) rfl (show 0 ≤ x30.toInt by first | with_reducible assumption | omega) (show x30.toInt < 296 by first | with_reducible assumption | omega) (tk_rgS rfl 252 2 6 0 9 (by decide +kernel) ⟨(x24.toInt - 0).toNat, by omega, show x30.toInt.toNat = 252 + 2 * (x24.toInt - 0).toNat by omega⟩ (show 0 ≤ a1.toInt by first | with_reducible assumption | omega) (show a1.toInt ≤ 9 by first | with_reducible assumption | omega)) dX12_errand_69 (fun H locs w31 hw hT k33 c32 => ?_)
            replace hM := hM.wr (sI_up k33 c32)
            have hF := hF.put kM_at12 (inE_of (a := 252) (b := 262) (by decide) (show 252 ≤ x30.toInt.toNat by omega) (show x30.toInt.toNat ≤ 262 by omega)) k33
            have c34 := k33.gi (Or.inr (show 0 ≠ x30.toInt.toNat by omega)) c10
            have c35 := k33.gi (Or.inr (show 6 ≠ x30.toInt.toNat by omega)) c25
            refine lv_aload_n hx hb dX12_errand_70 rfl (lv_at hl 0 rfl) ?_
            refine tk_getA hC hK hw hT hinX12 kM_at0 (by decide) rfl 26 (by decide) (List.mem_cons_of_mem _ uw_7_1) rfl rfl dX12_errand_71 ?_
            refine lv_sipush (v := 252) hx hb dX12_errand_74 (by decide) ?_
            refine lv_iconst (v := 2) hx hb dX12_errand_77 (by decide) ?_
            refine lv_aload_n hx hb dX12_errand_78 rfl (lv_at hl 0 rfl) ?_
            refine tk_getA hC hK hw hT hinX12 kM_at0 (by decide) rfl 26 (by decide) (List.mem_cons_of_mem _ uw_7_1) rfl rfl dX12_errand_79 ?_
            refine lv_bipush (v := 6) hx hb dX12_errand_82 (by decide) ?_
            refine tk_ialdR hC hK hw hT kM_at12 rfl (by decide) (by decide) dX12_errand_84 (fun x36 c37 Ex36 => ?_)
            have hox36 := c37
            refine wk_top x24 (c37.symm.trans c35) ?_
            replace hM := hM.rd ((sI_at hox36).trans (congrArg Int32.toInt (c37.symm.trans c35)))
            refine lv_imul hx hb dX12_errand_85 ?_
            refine lv_topi (fun x38 ex38 => ?_)
            have ezx38 := ex38
            have ex38 : x38.toInt = (2 : Int) * x24.toInt := by rw [ex38]; exact wk_mul (show (-2147483648) ≤ (2 : Int) * x24.toInt by omega) (show (2 : Int) * x24.toInt ≤ 2147483647 by omega)
            replace hM := hM.lt ex38.symm
            refine lv_iadd hx hb dX12_errand_86 ?_
            refine lv_topi (fun x39 ex39 => ?_)
            have ezx39 := ex39
            have ex39 : x39.toInt = (252 : Int) + x38.toInt := by rw [ex39]; exact wk_add (show (-2147483648) ≤ (252 : Int) + x38.toInt by omega) (show (252 : Int) + x38.toInt ≤ 2147483647 by omega)
            replace hM := hM.lt ex39.symm
            refine lv_iconst (v := 1) hx hb dX12_errand_87 (by decide) ?_
            refine lv_iadd hx hb dX12_errand_88 ?_
            refine lv_topi (fun x40 ex40 => ?_)
            have ezx40 := ex40
            have ex40 : x40.toInt = x39.toInt + (1 : Int) := by rw [ex40]; exact wk_add (show (-2147483648) ≤ x39.toInt + (1 : Int) by omega) (show x39.toInt + (1 : Int) ≤ 2147483647 by omega)
            replace hM := hM.lt ex40.symm
            refine lv_iload_n hx hb dX12_errand_89 rfl (lv_at hl 2 rfl) ?_
            refine tk_iastR hC hK hw hT kM_at12 (by decide) rfl (show 0 ≤ x40.toInt by first | with_reducible assumption | omega) (show x40.toInt < 296 by first | with_reducible assumption | omega) (tk_rgS rfl 253 2 6 0 9 (by decide +kernel) ⟨(x24.toInt - 0).toNat, by omega, show x40.toInt.toNat = 253 + 2 * (x24.toInt - 0).toNat by omega⟩ (show 0 ≤ a2.toInt by first | with_reducible assumption | omega) (show a2.toInt ≤ 9 by first | with_reducible assumption | omega)) dX12_errand_90 (fun H locs w41 hw hT k43 c42 => ?_)
            replace hM := hM.wr (sI_up k43 c42)
            have hF := hF.put kM_at12 (inE_of (a := 253) (b := 263) (by decide) (show 253 ≤ x40.toInt.toNat by omega) (show x40.toInt.toNat ≤ 263 by omega)) k43
            have c44 := k43.gi (Or.inr (show 0 ≠ x40.toInt.toNat by omega)) c34
            have c45 := k43.gi (Or.inr (show 6 ≠ x40.toInt.toNat by omega)) c35
            refine lv_aload_n hx hb dX12_errand_91 rfl (lv_at hl 0 rfl) ?_
            refine tk_getA hC hK hw hT hinX12 kM_at0 (by decide) rfl 26 (by decide) (List.mem_cons_of_mem _ uw_7_1) rfl rfl dX12_errand_92 ?_
            refine lv_bipush (v := 6) hx hb dX12_errand_95 (by decide) ?_
            refine lv_dup2_11 hx hb dX12_errand_97 rfl rfl ?_
            refine tk_ialdR hC hK hw hT kM_at12 rfl (by decide) (by decide) dX12_errand_98 (fun x46 c47 Ex46 => ?_)
            have hox46 := c47
            refine wk_top x24 (c47.symm.trans c45) ?_
            replace hM := hM.rd ((sI_at hox46).trans (congrArg Int32.toInt (c47.symm.trans c45)))
            refine lv_iconst (v := 1) hx hb dX12_errand_99 (by decide) ?_
            refine lv_iadd hx hb dX12_errand_100 ?_
            refine lv_topi (fun x48 ex48 => ?_)
            have ezx48 := ex48
            have ex48 : x48.toInt = x24.toInt + (1 : Int) := by rw [ex48]; exact wk_add (show (-2147483648) ≤ x24.toInt + (1 : Int) by omega) (show x24.toInt + (1 : Int) ≤ 2147483647 by omega)
            replace hM := hM.lt ex48.symm
            refine tk_iastR hC hK hw hT kM_at12 (by decide) rfl (by decide) (by decide) (tk_rgS rfl 6 1 1 1 6 (by decide +kernel) ⟨0, by decide, by decide⟩ (show 1 ≤ x48.toInt by first | with_reducible assumption | omega) (show x48.toInt ≤ 6 by first | with_reducible assumption | omega)) dX12_errand_101 (fun H locs w49 hw hT k51 c50 => ?_)
            replace hM := hM.wr (sI_up k51 c50)
            have hF := hF.put kM_at12 (inE_of (a := 6) (b := 6) (by decide) (by decide) (by decide)) k51
            have c52 := k51.gi (Or.inr (by decide)) c44
            have c50 : gi w49 12 6 = x48 := c50
            refine lv_aload_n hx hb dX12_errand_102 rfl (lv_at hl 0 rfl) ?_
            refine tk_getA hC hK hw hT hinX12 kM_at0 (by decide) rfl 26 (by decide) (List.mem_cons_of_mem _ uw_7_1) rfl rfl dX12_errand_103 ?_
            refine lv_bipush (v := 6) hx hb dX12_errand_106 (by decide) ?_
            refine tk_ialdR hC hK hw hT kM_at12 rfl (by decide) (by decide) dX12_errand_108 (fun x53 c54 Ex53 => ?_)
            have hox53 := c54
            refine wk_top x48 (c54.symm.trans c50) ?_
            replace hM := hM.rd ((sI_at hox53).trans (congrArg Int32.toInt (c54.symm.trans c50)))
            exact tk_iret hC hr hlocks hK ⟨hT, hF, hM.ret rfl, (Or.inr ⟨(show 0 ≤ x48.toInt by first | with_reducible assumption | omega), (show x48.toInt ≤ 6 by first | with_reducible assumption | omega), (show (-1) ≤ a1.toInt by first | with_reducible assumption | omega), (show a1.toInt ≤ 9 by first | with_reducible assumption | omega), ⟨x48, c50, (show 0 ≤ x48.toInt by first | with_reducible assumption | omega), (show x48.toInt ≤ 6 by first | with_reducible assumption | omega)⟩⟩)⟩ hw dX12_errand_109
          · have c26 : x24.toInt = (6 : Int) := wk_eq.mp c26
            replace hM := hM.neg (fun q => q c26)
            exact J48  H locs ls w0   hw hT hF hM (lv_sub hl [0, 1, 2] rfl)
  · have c2 : a1.toInt = (-1 : Int) := wk_eq.mp c2
    replace hM := hM.neg (fun q => q c2)
    refine lv_aload_n hx hb dX12_errand_5 rfl (lv_at hl 0 rfl) ?_
    refine tk_getA hC hK hw hT hinX12 kM_at0 (by decide) rfl 26 (by decide) (List.mem_cons_of_mem _ uw_7_1) rfl rfl dX12_errand_6 ?_
    refine lv_bipush (v := 6) hx hb dX12_errand_9 (by decide) ?_
    refine lv_iconst (v := 0) hx hb dX12_errand_11 (by decide) ?_
    refine tk_iastR hC hK hw hT kM_at12 (by decide) rfl (by decide) (by decide) (tk_rg0 rfl (show 0 ≤ B from Int.le_trans (by decide) hB0) (by decide)) dX12_errand_12 (fun H locs w55 hw hT k57 c56 => ?_)
    replace hM := hM.wr (sI_upc k57 c56 (by decide))
    have hF := hF.put kM_at12 (inE_of (a := 6) (b := 6) (by decide) (by decide) (by decide)) k57
    have c56 : gi w55 12 6 = 0 := c56
    refine lv_iconst (v := 0) hx hb dX12_errand_13 (by decide) ?_
    exact tk_iret hC hr hlocks hK ⟨hT, hF, hM.ret (by decide), (Or.inr ⟨(by decide), (by decide), (show (-1) ≤ a1.toInt by first | with_reducible assumption | omega), (show a1.toInt ≤ 9 by first | with_reducible assumption | omega), ⟨0, c56, (by decide), (by decide)⟩⟩)⟩ hw dX12_errand_14
abbrev Pz_X12_sight_1 (ad : Nat → Nat) (cy : Nat → ClassId) (B : Int) (qr : Nat) (s1 : Int) (a1 : Int32) (a2 : Int32) (w0 : va_W) : Int32 → va_W → Prop := fun r u => TW ksM ad cy B qr 12 u ∧ FE ksM [(71, 7, 7), (71, 264, 286), (71, 265, 287)] w0 u ∧ Ev (fun n => m_X12_sight n 0 a1.toInt a2.toInt (sI w0)) (r.toInt, sI u) ∧ ((r = (-2)) ∨ (0 ≤ r.toInt ∧ r.toInt ≤ 12 ∧ (-1) ≤ a1.toInt ∧ a1.toInt ≤ 11 ∧ (∃ y : Int32, gi u 12 7 = y ∧ 0 ≤ y.toInt ∧ y.toInt ≤ 12)))
set_option maxHeartbeats 4000000 in
set_option maxRecDepth 100000 in
theorem kz_X12_sight_1 (l : Launch) (adK adV : Nat → Nat) (dC : Nat → ClassId) (dI : Nat → Nat → Nat) (cy : Nat → ClassId) (ad : Nat → Nat) (B : Int) (hB0 : 100000 ≤ B) (hB1 : B ≤ 1073741824) (qr : Nat) (s1 : Int)  (a1 : Int32) (a2 : Int32) (w0 : va_W) (sz : Nat) (hT : TW ksM ad cy B qr 12 w0)  : Met l yX12_sight (wu yX12_sight cX12_sight 3 (some .int)) ({ frames := 2, cells := 0, slots := 0, locals := 37 }) (va_Pc [.ref (ad 0), .int a1, .int a2] (wpreS adK adV dC dI cy sz w0)) (va_Qi (Pz_X12_sight_1 ad cy B qr s1 a1 a2 w0) (fun u : va_W => wpost dC dI cy (va_A w0 sz) u) (va_A w0 sz)) 0 0 (va_A w0 sz) := by
  refine Met.ofW (cc := cX12_sight) (maxL := 3) (ret := (some .int)) (by decide) rfl ?_
  intro p e s m args below meth c s₁ Bk hml hv
  obtain ⟨rfl, ⟨hsz, hP, hK, hD0⟩, hE, hSR⟩ := hv
  have hx := Bk.exec
  have hb := Bk.bytes
  have hr := Bk.returns
  have hlocks := Bk.notSynchronized
  have hC : CallFix p m c cX12_sight 3 s _ (wu yX12_sight cX12_sight 3 (some .int)) RX12 := ⟨hx, hb, hml, findClass_of_methodNamed Bk.named, atoms_spec (ws := (wu yX12_sight cX12_sight 3 (some .int))) Bk.pre⟩
  subst hsz
  have hD := hD0.self (sz := s.heap.size)
  generalize hAe : va_A w0 s.heap.size = A at hD hE ⊢
  have hA : ∀ q : Nat, s.heap.size ≤ q → A q := fun q h => by rw [← hAe]; exact Or.inr h
  have hw : Wd dC dI A s.heap s.heap [] w0 := ⟨hP, hD, va_S.rf⟩
  have hF : FE ksM [(71, 7, 7), (71, 264, 286), (71, 265, 287)] w0 w0 := FE.rf
  have hl := lv_entry ([.ref (ad 0), .int a1, .int a2]) (n := 3) (Nat.le_of_ble_eq_true rfl)
  rw [lg_entry_eq]
  generalize (lg_sl ([.ref (ad 0), .int a1, .int a2]) ++ List.replicate (3 - (lg_sl ([.ref (ad 0), .int a1, .int a2])).length) Slot.unset).toArray = ls at hl ⊢
  have hl : lv_has ls 3 [(0, .ref (ad 0)), (1, .int a1), (2, .int a2)] := hl
  generalize hloc : ([] : List Loc) = locs at hw ⊢
  have hinX12 : ∀ w ∈ u_ws RX12 TX12 42, w ∈ (wu yX12_sight cX12_sight 3 (some .int)) := fun _ h => List.mem_cons_of_mem _ (up_71 h)
  have J47 : ∀ (H : Heap) (locs : List Loc) (ls : Array Slot) (w1 : va_W), Wd dC dI A s.heap H locs w1 → TW ksM ad cy B qr 12 w1 → FE ksM [(71, 7, 7), (71, 264, 286), (71, 265, 287)] w0 w1 → TT (fun n => m_X12_sight n 0 a1.toInt a2.toInt (sI w0)) (fun n => b_X12_sight_47 n 0 (sI w1)) → lv_has ls 3 [(0, .ref (ad 0)), (1, .int a1), (2, .int a2)] → W p l e ({ frames := 2, cells := 0, slots := 0, locals := 37 }) s m (List.toArray [.ref (ad 0), .int a1, .int a2]) below meth c H locs 0 0 (MQ below (va_Qi (Pz_X12_sight_1 ad cy B qr s1 a1 a2 w0) (fun u : va_W => wpost dC dI cy A u) A) (List.toArray [.ref (ad 0), .int a1, .int a2]) s 0 0 A) (F0 m 47 ls []) := by
    intro H locs ls w1 hw hT hF hM hl
    refine lv_bipush (v := (-2)) hx hb dX12_sight_47 (by decide) ?_
    exact tk_iret hC hr hlocks hK ⟨hT, hF, hM.ret (by decide), (Or.inl rfl)⟩ hw dX12_sight_49
  have hM : TT (fun n => m_X12_sight n 0 a1.toInt a2.toInt (sI w0)) (fun n => m_X12_sight n 0 a1.toInt a2.toInt (sI w0)) := TT.rf
  refine lv_iload_n hx hb dX12_sight_0 rfl (lv_at hl 1 rfl) ?_
  refine lv_iconst (v := (-1)) hx hb dX12_sight_1 (by decide) ?_
  refine lv_icmp_ne (tgt := 15) hx hb dX12_sight_2 (by decide) (fun c2 => ?_) (fun c2 => ?_)
  · have c2 : ¬ a1.toInt = (-1 : Int) := wk_eqF c2
    replace hM := hM.pos c2
    refine lv_aload_n hx hb dX12_sight_15 rfl (lv_at hl 0 rfl) ?_
    refine lv_iload_n hx hb dX12_sight_16 rfl (lv_at hl 1 rfl) ?_
    refine tk_Vi hC hK hw hT hA hE hSR kM_at0 (by decide) rfl (kz_X12_isStreet_1 l adK adV dC dI cy ad B hB0 (Int.le_trans hB1 (by decide)) qr s1   a1 w0 s.heap.size hT ) (cwV 1 hC.2.2.2.2 uV_RX12_323 rfl rfl rfl (by decide +kernel) ⟨Nat.le_of_ble_eq_true rfl, Nat.le_of_ble_eq_true rfl⟩) rfl hl.1 rfl (Nat.le_of_ble_eq_true rfl) dX12_sight_17 (fun r3 w5 H locs hp4 hw => ?_)
    obtain ⟨rfl, hv12, hg11⟩ := hp4
    rcases hg11 with rfl | ⟨rfl, g7, g8, ⟨x9, c10, rx9, tx9⟩⟩
    · replace hM := hM.call (r' := 0) hv12 (by decide)
      refine lv_if_eq (tgt := 47) hx hb dX12_sight_20 (by decide) (fun _ => ?_) (fun c => absurd (by decide) c)
      replace hM := hM.pos (by decide)
      exact J47  H locs ls w0   hw hT hF hM (lv_sub hl [0, 1, 2] rfl)
    · replace hM := hM.call (r' := 1) hv12 (by decide)
      refine lv_if_eq (tgt := 47) hx hb dX12_sight_20 (by decide) (fun c => absurd c (by decide)) (fun _ => ?_)
      replace hM := hM.neg (by decide)
      refine lv_iload_n hx hb dX12_sight_23 rfl (lv_at hl 2 rfl) ?_
      refine lv_i2l hx hb dX12_sight_24 rfl ?_
      refine lv_topl (fun x13 ex13 => ?_)
      have ex13 : x13.toInt = a2.toInt := by rw [ex13]; exact wk_i2l _
      have bx13 := wk_i32 a2
      replace hM := hM.lt ex13.symm
      refine lv_lconst (v := 0) hx hb dX12_sight_25 (by decide) ?_
      refine lv_ldc2 (v := 3) hx hb hC.2.2.2.1 (hC.2.2.2.2 _ (List.mem_cons_of_mem _ uw_35_2)) dX12_sight_26 ?_
      refine tk_Si hC hK hw hT hA hE hSR (kz_X12_in_10 l adK adV dC dI cy ad B hB0 (Int.le_trans hB1 (by decide)) qr s1   x13 (show (-2147483648) ≤ x13.toInt by first | with_reducible assumption | omega) (show x13.toInt ≤ 2147483647 by first | with_reducible assumption | omega) w0 H.size hT ) (va_cwS 3 hC.2.2.2.2 uS_RX12_122 rfl rfl rfl (by decide +kernel) ⟨Nat.le_of_ble_eq_true rfl, Nat.le_of_ble_eq_true rfl⟩) rfl hl.1 rfl (Nat.le_of_ble_eq_true rfl) dX12_sight_29 (fun r14 w16 H locs hp15 hw => ?_)
      obtain ⟨rfl, hv21, hg20⟩ := hp15
      rcases hg20 with rfl | ⟨rfl, g18, g19⟩
      · replace hM := hM.call (r' := 0) hv21 (by decide)
        refine lv_if_eq (tgt := 47) hx hb dX12_sight_32 (by decide) (fun _ => ?_) (fun c => absurd (by decide) c)
        replace hM := hM.pos (by decide)
        exact J47  H locs ls w0   hw hT hF hM (lv_sub hl [0, 1, 2] rfl)
      · replace hM := hM.call (r' := 1) hv21 (by decide)
        refine lv_if_eq (tgt := 47) hx hb dX12_sight_32 (by decide) (fun c => absurd c (by decide)) (fun _ => ?_)
        replace hM := hM.neg (by decide)
        refine lv_aload_n hx hb dX12_sight_35 rfl (lv_at hl 0 rfl) ?_
        refine tk_getA hC hK hw hT hinX12 kM_at0 (by decide) rfl 26 (by decide) (List.mem_cons_of_mem _ uw_7_1) rfl rfl dX12_sight_36 ?_
        refine lv_bipush (v := 7) hx hb dX12_sight_39 (by decide) ?_
        refine tk_ialdR hC hK hw hT kM_at12 rfl (by decide) (by decide) dX12_sight_41 (fun x22 c23 Ex22 => ?_)
        have hox22 := c23
        replace hM := hM.rd (sI_at hox22)
        have bx22 := tk_rgI rfl 7 1 1 0 12 (by decide +kernel) ⟨0, by decide, by decide⟩ Ex22
        have c23 : gi w0 12 7 = x22 := c23
        refine lv_bipush (v := 12) hx hb dX12_sight_42 (by decide) ?_
        refine lv_icmp_ne (tgt := 50) hx hb dX12_sight_44 (by decide) (fun c24 => ?_) (fun c24 => ?_)
        · have c24 : ¬ x22.toInt = (12 : Int) := wk_eqF c24
          replace hM := hM.pos c24
          refine lv_aload_n hx hb dX12_sight_50 rfl (lv_at hl 0 rfl) ?_
          refine tk_getA hC hK hw hT hinX12 kM_at0 (by decide) rfl 26 (by decide) (List.mem_cons_of_mem _ uw_7_1) rfl rfl dX12_sight_51 ?_
          refine lv_sipush (v := 264) hx hb dX12_sight_54 (by decide) ?_
          refine lv_iconst (v := 2) hx hb dX12_sight_57 (by decide) ?_
          refine lv_aload_n hx hb dX12_sight_58 rfl (lv_at hl 0 rfl) ?_
          refine tk_getA hC hK hw hT hinX12 kM_at0 (by decide) rfl 26 (by decide) (List.mem_cons_of_mem _ uw_7_1) rfl rfl dX12_sight_59 ?_
          refine lv_bipush (v := 7) hx hb dX12_sight_62 (by decide) ?_
          refine tk_ialdR hC hK hw hT kM_at12 rfl (by decide) (by decide) dX12_sight_64 (fun x25 c26 Ex25 => ?_)
          have hox25 := c26
          refine wk_top x22 (c26.symm.trans c23) ?_
          replace hM := hM.rd ((sI_at hox25).trans (congrArg Int32.toInt (c26.symm.trans c23)))
          refine lv_imul hx hb dX12_sight_65 ?_
          refine lv_topi (fun x27 ex27 => ?_)
          have ezx27 := ex27
          have ex27 : x27.toInt = (2 : Int) * x22.toInt := by rw [ex27]; exact wk_mul (show (-2147483648) ≤ (2 : Int) * x22.toInt by omega) (show (2 : Int) * x22.toInt ≤ 2147483647 by omega)
          replace hM := hM.lt ex27.symm
          refine lv_iadd hx hb dX12_sight_66 ?_
          refine lv_topi (fun x28 ex28 => ?_)
          have ezx28 := ex28
          have ex28 : x28.toInt = (264 : Int) + x27.toInt := by rw [ex28]; exact wk_add (show (-2147483648) ≤ (264 : Int) + x27.toInt by omega) (show (264 : Int) + x27.toInt ≤ 2147483647 by omega)
          replace hM := hM.lt ex28.symm
          refine lv_iload_n hx hb dX12_sight_67 rfl (lv_at hl 1 rfl) ?_
          refine tk_iastR hC hK hw hT kM_at12 (by decide) rfl (show 0 ≤ x28.toInt by first | with_reducible assumption | omega) (show x28.toInt < 296 by first | with_reducible assumption | omega) (tk_rgS rfl 264 2 12 0 11 (by decide +kernel) ⟨(x22.toInt - 0).toNat, by omega, show x28.toInt.toNat = 264 + 2 * (x22.toInt - 0).toNat by omega⟩ (show 0 ≤ a1.toInt by first | with_reducible assumption | omega) (show a1.toInt ≤ 11 by first | with_reducible assumption | omega)) dX12_sight_68 (fun H locs w29 hw hT k31 c30 => ?_)
          replace hM := hM.wr (sI_up k31 c30)
          have hF := hF.put kM_at12 (inE_of (a := 264) (b := 286) (by decide) (show 264 ≤ x28.toInt.toNat by omega) (show x28.toInt.toNat ≤ 286 by omega)) k31
          have c32 := k31.gi (Or.inr (show 1 ≠ x28.toInt.toNat by omega)) c10
          have c33 := k31.gi (Or.inr (show 7 ≠ x28.toInt.toNat by omega)) c23
          refine lv_aload_n hx hb dX12_sight_69 rfl (lv_at hl 0 rfl) ?_
          refine tk_getA hC hK hw hT hinX12 kM_at0 (by decide) rfl 26 (by decide) (List.mem_cons_of_mem _ uw_7_1) rfl rfl dX12_sight_70 ?_
          refine lv_sipush (v := 264) hx hb dX12_sight_73 (by decide) ?_
          refine lv_iconst (v := 2) hx hb dX12_sight_76 (by decide) ?_
          refine lv_aload_n hx hb dX12_sight_77 rfl (lv_at hl 0 rfl) ?_
          refine tk_getA hC hK hw hT hinX12 kM_at0 (by decide) rfl 26 (by decide) (List.mem_cons_of_mem _ uw_7_1) rfl rfl dX12_sight_78 ?_
          refine lv_bipush (v := 7) hx hb dX12_sight_81 (by decide) ?_
          refine tk_ialdR hC hK hw hT kM_at12 rfl (by decide) (by decide) dX12_sight_83 (fun x34 c35 Ex34 => ?_)
          have hox34 := c35
          refine wk_top x22 (c35.symm.trans c33) ?_
          replace hM := hM.rd ((sI_at hox34).trans (congrArg Int32.toInt (c35.symm.trans c33)))
          refine lv_imul hx hb dX12_sight_84 ?_
          refine lv_topi (fun x36 ex36 => ?_)
          have ezx36 := ex36
          have ex36 : x36.toInt = (2 : Int) * x22.toInt := by rw [ex36]; exact wk_mul (show (-2147483648) ≤ (2 : Int) * x22.toInt by omega) (show (2 : Int) * x22.toInt ≤ 2147483647 by omega)
          replace hM := hM.lt ex36.symm
          refine lv_iadd hx hb dX12_sight_85 ?_
          refine lv_topi (fun x37 ex37 => ?_)
          have ezx37 := ex37
          have ex37 : x37.toInt = (264 : Int) + x36.toInt := by rw [ex37]; exact wk_add (show (-2147483648) ≤ (264 : Int) + x36.toInt by omega) (show (264 : Int) + x36.toInt ≤ 2147483647 by omega)
          replace hM := hM.lt ex37.symm
          refine lv_iconst (v := 1) hx hb dX12_sight_86 (by decide) ?_
          refine lv_iadd hx hb dX12_sight_87 ?_
          refine lv_topi (fun x38 ex38 => ?_)
          have ezx38 := ex38
          have ex38 : x38.toInt = x37.toInt + (1 : Int) := by rw [ex38]; exact wk_add (show (-2147483648) ≤ x37.toInt + (1 : Int) by omega) (show x37.toInt + (1 : Int) ≤ 2147483647 by omega)
          replace hM := hM.lt ex38.symm
          refine lv_iload_n hx hb dX12_sight_88 rfl (lv_at hl 2 rfl) ?_
          refine tk_iastR hC hK hw hT kM_at12 (by decide) rfl (show 0 ≤ x38.toInt by first | with_reducible assumption | omega) (show x38.toInt < 296 by first | with_reducible assumption | omega) (tk_rgS rfl 265 2 12 0 3 (by decide +kernel) ⟨(x22.toInt - 0).toNat, by omega, show x38.toInt.toNat = 265 + 2 * (x22.toInt - 0).toNat by omega⟩ (show 0 ≤ a2.toInt by first | with_reducible assumption | omega) (show a2.toInt ≤ 3 by first | with_reducible assumption | omega)) dX12_sight_89 (fun H locs w39 hw hT k41 c40 => ?_)
          replace hM := hM.wr (sI_up k41 c40)
          have hF := hF.put kM_at12 (inE_of (a := 265) (b := 287) (by decide) (show 265 ≤ x38.toInt.toNat by omega) (show x38.toInt.toNat ≤ 287 by omega)) k41
          have c42 := k41.gi (Or.inr (show 1 ≠ x38.toInt.toNat by omega)) c32
          have c43 := k41.gi (Or.inr (show 7 ≠ x38.toInt.toNat by omega)) c33
          refine lv_aload_n hx hb dX12_sight_90 rfl (lv_at hl 0 rfl) ?_
          refine tk_getA hC hK hw hT hinX12 kM_at0 (by decide) rfl 26 (by decide) (List.mem_cons_of_mem _ uw_7_1) rfl rfl dX12_sight_91 ?_
          refine lv_bipush (v := 7) hx hb dX12_sight_94 (by decide) ?_
          refine lv_dup2_11 hx hb dX12_sight_96 rfl rfl ?_
          refine tk_ialdR hC hK hw hT kM_at12 rfl (by decide) (by decide) dX12_sight_97 (fun x44 c45 Ex44 => ?_)
          have hox44 := c45
          refine wk_top x22 (c45.symm.trans c43) ?_
          replace hM := hM.rd ((sI_at hox44).trans (congrArg Int32.toInt (c45.symm.trans c43)))
          refine lv_iconst (v := 1) hx hb dX12_sight_98 (by decide) ?_
          refine lv_iadd hx hb dX12_sight_99 ?_
          refine lv_topi (fun x46 ex46 => ?_)
          have ezx46 := ex46
          have ex46 : x46.toInt = x22.toInt + (1 : Int) := by rw [ex46]; exact wk_add (show (-2147483648) ≤ x22.toInt + (1 : Int) by omega) (show x22.toInt + (1 : Int) ≤ 2147483647 by omega)
          replace hM := hM.lt ex46.symm
          refine tk_iastR hC hK hw hT kM_at12 (by decide) rfl (by decide) (by decide) (tk_rgS rfl 7 1 1 1 12 (by decide +kernel) ⟨0, by decide, by decide⟩ (show 1 ≤ x46.toInt by first | with_reducible assumption | omega) (show x46.toInt ≤ 12 by first | with_reducible assumption | omega)) dX12_sight_100 (fun H locs w47 hw hT k49 c48 => ?_)
          replace hM := hM.wr (sI_up k49 c48)
          have hF := hF.put kM_at12 (inE_of (a := 7) (b := 7) (by decide) (by decide) (by decide)) k49
          have c50 := k49.gi (Or.inr (by decide)) c42
          have c48 : gi w47 12 7 = x46 := c48
          refine lv_aload_n hx hb dX12_sight_101 rfl (lv_at hl 0 rfl) ?_
          refine tk_getA hC hK hw hT hinX12 kM_at0 (by decide) rfl 26 (by decide) (List.mem_cons_of_mem _ uw_7_1) rfl rfl dX12_sight_102 ?_
          refine lv_bipush (v := 7) hx hb dX12_sight_105 (by decide) ?_
          refine tk_ialdR hC hK hw hT kM_at12 rfl (by decide) (by decide) dX12_sight_107 (fun x51 c52 Ex51 => ?_)
          have hox51 := c52
          refine wk_top x46 (c52.symm.trans c48) ?_
          replace hM := hM.rd ((sI_at hox51).trans (congrArg Int32.toInt (c52.symm.trans c48)))
          exact tk_iret hC hr hlocks hK ⟨hT, hF, hM.ret rfl, (Or.inr ⟨(show 0 ≤ x46.toInt by first | with_reducible assumption | omega), (show x46.toInt ≤ 12 by first | with_reducible assumption | omega), (show (-1) ≤ a1.toInt by first | with_reducible assumption | omega), (show a1.toInt ≤ 11 by first | with_reducible assumption | omega), ⟨x46, c48, (show 0 ≤ x46.toInt by first | with_reducible assumption | omega), (show x46.toInt ≤ 12 by first | with_reducible assumption | omega)⟩⟩)⟩ hw dX12_sight_108
        · have c24 : x22.toInt = (12 : Int) := wk_eq.mp c24
          replace hM := hM.neg (fun q => q c24)
          exact J47  H locs ls w0   hw hT hF hM (lv_sub hl [0, 1, 2] rfl)
  · have c2 : a1.toInt = (-1 : Int) := wk_eq.mp c2
    replace hM := hM.neg (fun q => q c2)
    refine lv_aload_n hx hb dX12_sight_5 rfl (lv_at hl 0 rfl) ?_
    refine tk_getA hC hK hw hT hinX12 kM_at0 (by decide) rfl 26 (by decide) (List.mem_cons_of_mem _ uw_7_1) rfl rfl dX12_sight_6 ?_
    refine lv_bipush (v := 7) hx hb dX12_sight_9 (by decide) ?_
    refine lv_iconst (v := 0) hx hb dX12_sight_11 (by decide) ?_
    refine tk_iastR hC hK hw hT kM_at12 (by decide) rfl (by decide) (by decide) (tk_rg0 rfl (show 0 ≤ B from Int.le_trans (by decide) hB0) (by decide)) dX12_sight_12 (fun H locs w53 hw hT k55 c54 => ?_)
    replace hM := hM.wr (sI_upc k55 c54 (by decide))
    have hF := hF.put kM_at12 (inE_of (a := 7) (b := 7) (by decide) (by decide) (by decide)) k55
    have c54 : gi w53 12 7 = 0 := c54
    refine lv_iconst (v := 0) hx hb dX12_sight_13 (by decide) ?_
    exact tk_iret hC hr hlocks hK ⟨hT, hF, hM.ret (by decide), (Or.inr ⟨(by decide), (by decide), (show (-1) ≤ a1.toInt by first | with_reducible assumption | omega), (show a1.toInt ≤ 11 by first | with_reducible assumption | omega), ⟨0, c54, (by decide), (by decide)⟩⟩)⟩ hw dX12_sight_14
abbrev Pz_X12_came_1 (ad : Nat → Nat) (cy : Nat → ClassId) (B : Int) (qr : Nat) (s1 : Int) (a1 : Int32) (w0 : va_W) : Int32 → va_W → Prop := fun r u => TW ksM ad cy B qr 12 u ∧ FE ksM [(71, 8, 8), (71, 288, 295)] w0 u ∧ Ev (fun n => m_X12_came n 0 a1.toInt (sI w0)) (r.toInt, sI u) ∧ ((r = (-2)) ∨ (0 ≤ r.toInt ∧ r.toInt ≤ 8 ∧ (-1) ≤ a1.toInt ∧ a1.toInt ≤ 9 ∧ (∃ y : Int32, gi u 12 8 = y ∧ 0 ≤ y.toInt ∧ y.toInt ≤ 8)))
set_option maxHeartbeats 4000000 in
set_option maxRecDepth 100000 in
theorem kz_X12_came_1 (l : Launch) (adK adV : Nat → Nat) (dC : Nat → ClassId) (dI : Nat → Nat → Nat) (cy : Nat → ClassId) (ad : Nat → Nat) (B : Int) (hB0 : 100000 ≤ B) (hB1 : B ≤ 1073741824) (qr : Nat) (s1 : Int)  (a1 : Int32) (w0 : va_W) (sz : Nat) (hT : TW ksM ad cy B qr 12 w0)  : Met l yX12_came (wu yX12_came cX12_came 2 (some .int)) ({ frames := 2, cells := 0, slots := 0, locals := 33 }) (va_Pc [.ref (ad 0), .int a1] (wpreS adK adV dC dI cy sz w0)) (va_Qi (Pz_X12_came_1 ad cy B qr s1 a1 w0) (fun u : va_W => wpost dC dI cy (va_A w0 sz) u) (va_A w0 sz)) 0 0 (va_A w0 sz) := by
  refine Met.ofW (cc := cX12_came) (maxL := 2) (ret := (some .int)) (by decide) rfl ?_
  intro p e s m args below meth c s₁ Bk hml hv
  obtain ⟨rfl, ⟨hsz, hP, hK, hD0⟩, hE, hSR⟩ := hv
  have hx := Bk.exec
  have hb := Bk.bytes
  have hr := Bk.returns
  have hlocks := Bk.notSynchronized
  have hC : CallFix p m c cX12_came 2 s _ (wu yX12_came cX12_came 2 (some .int)) RX12 := ⟨hx, hb, hml, findClass_of_methodNamed Bk.named, atoms_spec (ws := (wu yX12_came cX12_came 2 (some .int))) Bk.pre⟩
  subst hsz
  have hD := hD0.self (sz := s.heap.size)
  generalize hAe : va_A w0 s.heap.size = A at hD hE ⊢
  have hA : ∀ q : Nat, s.heap.size ≤ q → A q := fun q h => by rw [← hAe]; exact Or.inr h
  have hw : Wd dC dI A s.heap s.heap [] w0 := ⟨hP, hD, va_S.rf⟩
  have hF : FE ksM [(71, 8, 8), (71, 288, 295)] w0 w0 := FE.rf
  have hl := lv_entry ([.ref (ad 0), .int a1]) (n := 2) (Nat.le_of_ble_eq_true rfl)
  rw [lg_entry_eq]
  generalize (lg_sl ([.ref (ad 0), .int a1]) ++ List.replicate (2 - (lg_sl ([.ref (ad 0), .int a1])).length) Slot.unset).toArray = ls at hl ⊢
  have hl : lv_has ls 2 [(0, .ref (ad 0)), (1, .int a1)] := hl
  generalize hloc : ([] : List Loc) = locs at hw ⊢
  have hinX12 : ∀ w ∈ u_ws RX12 TX12 42, w ∈ (wu yX12_came cX12_came 2 (some .int)) := fun _ h => List.mem_cons_of_mem _ (up_71 h)
  have J35 : ∀ (H : Heap) (locs : List Loc) (ls : Array Slot) (w1 : va_W), Wd dC dI A s.heap H locs w1 → TW ksM ad cy B qr 12 w1 → FE ksM [(71, 8, 8), (71, 288, 295)] w0 w1 → TT (fun n => m_X12_came n 0 a1.toInt (sI w0)) (fun n => b_X12_came_35 n 0 (sI w1)) → lv_has ls 2 [(0, .ref (ad 0)), (1, .int a1)] → W p l e ({ frames := 2, cells := 0, slots := 0, locals := 33 }) s m (List.toArray [.ref (ad 0), .int a1]) below meth c H locs 0 0 (MQ below (va_Qi (Pz_X12_came_1 ad cy B qr s1 a1 w0) (fun u : va_W => wpost dC dI cy A u) A) (List.toArray [.ref (ad 0), .int a1]) s 0 0 A) (F0 m 35 ls []) := by
    intro H locs ls w1 hw hT hF hM hl
    refine lv_bipush (v := (-2)) hx hb dX12_came_35 (by decide) ?_
    exact tk_iret hC hr hlocks hK ⟨hT, hF, hM.ret (by decide), (Or.inl rfl)⟩ hw dX12_came_37
  have hM : TT (fun n => m_X12_came n 0 a1.toInt (sI w0)) (fun n => m_X12_came n 0 a1.toInt (sI w0)) := TT.rf
  refine lv_iload_n hx hb dX12_came_0 rfl (lv_at hl 1 rfl) ?_
  refine lv_iconst (v := (-1)) hx hb dX12_came_1 (by decide) ?_
  refine lv_icmp_ne (tgt := 15) hx hb dX12_came_2 (by decide) (fun c2 => ?_) (fun c2 => ?_)
  · have c2 : ¬ a1.toInt = (-1 : Int) := wk_eqF c2
    replace hM := hM.pos c2
    refine lv_aload_n hx hb dX12_came_15 rfl (lv_at hl 0 rfl) ?_
    refine lv_iload_n hx hb dX12_came_16 rfl (lv_at hl 1 rfl) ?_
    refine tk_Vi hC hK hw hT hA hE hSR kM_at0 (by decide) rfl (kz_X12_isCorner_1 l adK adV dC dI cy ad B hB0 (Int.le_trans hB1 (by decide)) qr s1   a1 w0 s.heap.size hT ) (cwV 1 hC.2.2.2.2 uV_RX12_328 rfl rfl rfl (by decide +kernel) ⟨Nat.le_of_ble_eq_true rfl, Nat.le_of_ble_eq_true rfl⟩) rfl hl.1 rfl (Nat.le_of_ble_eq_true rfl) dX12_came_17 (fun r3 w5 H locs hp4 hw => ?_)
    obtain ⟨rfl, hv12, hg11⟩ := hp4
    rcases hg11 with rfl | ⟨rfl, g7, g8, ⟨x9, c10, rx9, tx9⟩⟩
    · replace hM := hM.call (r' := 0) hv12 (by decide)
      refine lv_if_eq (tgt := 35) hx hb dX12_came_20 (by decide) (fun _ => ?_) (fun c => absurd (by decide) c)
      replace hM := hM.pos (by decide)
      exact J35  H locs ls w0   hw hT hF hM (lv_sub hl [0, 1] rfl)
    · replace hM := hM.call (r' := 1) hv12 (by decide)
      refine lv_if_eq (tgt := 35) hx hb dX12_came_20 (by decide) (fun c => absurd c (by decide)) (fun _ => ?_)
      replace hM := hM.neg (by decide)
      refine lv_aload_n hx hb dX12_came_23 rfl (lv_at hl 0 rfl) ?_
      refine tk_getA hC hK hw hT hinX12 kM_at0 (by decide) rfl 26 (by decide) (List.mem_cons_of_mem _ uw_7_1) rfl rfl dX12_came_24 ?_
      refine lv_bipush (v := 8) hx hb dX12_came_27 (by decide) ?_
      refine tk_ialdR hC hK hw hT kM_at12 rfl (by decide) (by decide) dX12_came_29 (fun x13 c14 Ex13 => ?_)
      have hox13 := c14
      replace hM := hM.rd (sI_at hox13)
      have bx13 := tk_rgI rfl 8 1 1 0 8 (by decide +kernel) ⟨0, by decide, by decide⟩ Ex13
      have c14 : gi w0 12 8 = x13 := c14
      refine lv_bipush (v := 8) hx hb dX12_came_30 (by decide) ?_
      refine lv_icmp_ne (tgt := 38) hx hb dX12_came_32 (by decide) (fun c15 => ?_) (fun c15 => ?_)
      · have c15 : ¬ x13.toInt = (8 : Int) := wk_eqF c15
        replace hM := hM.pos c15
        refine lv_aload_n hx hb dX12_came_38 rfl (lv_at hl 0 rfl) ?_
        refine tk_getA hC hK hw hT hinX12 kM_at0 (by decide) rfl 26 (by decide) (List.mem_cons_of_mem _ uw_7_1) rfl rfl dX12_came_39 ?_
        refine lv_sipush (v := 288) hx hb dX12_came_42 (by decide) ?_
        refine lv_aload_n hx hb dX12_came_45 rfl (lv_at hl 0 rfl) ?_
        refine tk_getA hC hK hw hT hinX12 kM_at0 (by decide) rfl 26 (by decide) (List.mem_cons_of_mem _ uw_7_1) rfl rfl dX12_came_46 ?_
        refine lv_bipush (v := 8) hx hb dX12_came_49 (by decide) ?_
        refine tk_ialdR hC hK hw hT kM_at12 rfl (by decide) (by decide) dX12_came_51 (fun x16 c17 Ex16 => ?_)
        have hox16 := c17
        refine wk_top x13 (c17.symm.trans c14) ?_
        replace hM := hM.rd ((sI_at hox16).trans (congrArg Int32.toInt (c17.symm.trans c14)))
        refine lv_iadd hx hb dX12_came_52 ?_
        refine lv_topi (fun x18 ex18 => ?_)
        have ezx18 := ex18
        have ex18 : x18.toInt = (288 : Int) + x13.toInt := by rw [ex18]; exact wk_add (show (-2147483648) ≤ (288 : Int) + x13.toInt by omega) (show (288 : Int) + x13.toInt ≤ 2147483647 by omega)
        replace hM := hM.lt ex18.symm
        refine lv_iload_n hx hb dX12_came_53 rfl (lv_at hl 1 rfl) ?_
        refine tk_iastR hC hK hw hT kM_at12 (by decide) rfl (show 0 ≤ x18.toInt by first | with_reducible assumption | omega) (show x18.toInt < 296 by first | with_reducible assumption | omega) (tk_rgS rfl 288 1 8 0 9 (by decide +kernel) ⟨(x13.toInt - 0).toNat, by omega, show x18.toInt.toNat = 288 + 1 * (x13.toInt - 0).toNat by omega⟩ (show 0 ≤ a1.toInt by first | with_reducible assumption | omega) (show a1.toInt ≤ 9 by first | with_reducible assumption | omega)) dX12_came_54 (fun H locs w19 hw hT k21 c20 => ?_)
        replace hM := hM.wr (sI_up k21 c20)
        have hF := hF.put kM_at12 (inE_of (a := 288) (b := 295) (by decide) (show 288 ≤ x18.toInt.toNat by omega) (show x18.toInt.toNat ≤ 295 by omega)) k21
        have c22 := k21.gi (Or.inr (show 0 ≠ x18.toInt.toNat by omega)) c10
        have c23 := k21.gi (Or.inr (show 8 ≠ x18.toInt.toNat by omega)) c14
        refine lv_aload_n hx hb dX12_came_55 rfl (lv_at hl 0 rfl) ?_
        refine tk_getA hC hK hw hT hinX12 kM_at0 (by decide) rfl 26 (by decide) (List.mem_cons_of_mem _ uw_7_1) rfl rfl dX12_came_56 ?_
        refine lv_bipush (v := 8) hx hb dX12_came_59 (by decide) ?_
        refine lv_dup2_11 hx hb dX12_came_61 rfl rfl ?_
        refine tk_ialdR hC hK hw hT kM_at12 rfl (by decide) (by decide) dX12_came_62 (fun x24 c25 Ex24 => ?_)
        have hox24 := c25
        refine wk_top x13 (c25.symm.trans c23) ?_
        replace hM := hM.rd ((sI_at hox24).trans (congrArg Int32.toInt (c25.symm.trans c23)))
        refine lv_iconst (v := 1) hx hb dX12_came_63 (by decide) ?_
        refine lv_iadd hx hb dX12_came_64 ?_
        refine lv_topi (fun x26 ex26 => ?_)
        have ezx26 := ex26
        have ex26 : x26.toInt = x13.toInt + (1 : Int) := by rw [ex26]; exact wk_add (show (-2147483648) ≤ x13.toInt + (1 : Int) by omega) (show x13.toInt + (1 : Int) ≤ 2147483647 by omega)
        replace hM := hM.lt ex26.symm
        refine tk_iastR hC hK hw hT kM_at12 (by decide) rfl (by decide) (by decide) (tk_rgS rfl 8 1 1 1 8 (by decide +kernel) ⟨0, by decide, by decide⟩ (show 1 ≤ x26.toInt by first | with_reducible assumption | omega) (show x26.toInt ≤ 8 by first | with_reducible assumption | omega)) dX12_came_65 (fun H locs w27 hw hT k29 c28 => ?_)
        replace hM := hM.wr (sI_up k29 c28)
        have hF := hF.put kM_at12 (inE_of (a := 8) (b := 8) (by decide) (by decide) (by decide)) k29
        have c30 := k29.gi (Or.inr (by decide)) c22
        have c28 : gi w27 12 8 = x26 := c28
        refine lv_aload_n hx hb dX12_came_66 rfl (lv_at hl 0 rfl) ?_
        refine tk_getA hC hK hw hT hinX12 kM_at0 (by decide) rfl 26 (by decide) (List.mem_cons_of_mem _ uw_7_1) rfl rfl dX12_came_67 ?_
        refine lv_bipush (v := 8) hx hb dX12_came_70 (by decide) ?_
        refine tk_ialdR hC hK hw hT kM_at12 rfl (by decide) (by decide) dX12_came_72 (fun x31 c32 Ex31 => ?_)
        have hox31 := c32
        refine wk_top x26 (c32.symm.trans c28) ?_
        replace hM := hM.rd ((sI_at hox31).trans (congrArg Int32.toInt (c32.symm.trans c28)))
        exact tk_iret hC hr hlocks hK ⟨hT, hF, hM.ret rfl, (Or.inr ⟨(show 0 ≤ x26.toInt by first | with_reducible assumption | omega), (show x26.toInt ≤ 8 by first | with_reducible assumption | omega), (show (-1) ≤ a1.toInt by first | with_reducible assumption | omega), (show a1.toInt ≤ 9 by first | with_reducible assumption | omega), ⟨x26, c28, (show 0 ≤ x26.toInt by first | with_reducible assumption | omega), (show x26.toInt ≤ 8 by first | with_reducible assumption | omega)⟩⟩)⟩ hw dX12_came_73
      · have c15 : x13.toInt = (8 : Int) := wk_eq.mp c15
        replace hM := hM.neg (fun q => q c15)
        exact J35  H locs ls w0   hw hT hF hM (lv_sub hl [0, 1] rfl)
  · have c2 : a1.toInt = (-1 : Int) := wk_eq.mp c2
    replace hM := hM.neg (fun q => q c2)
    refine lv_aload_n hx hb dX12_came_5 rfl (lv_at hl 0 rfl) ?_
    refine tk_getA hC hK hw hT hinX12 kM_at0 (by decide) rfl 26 (by decide) (List.mem_cons_of_mem _ uw_7_1) rfl rfl dX12_came_6 ?_
    refine lv_bipush (v := 8) hx hb dX12_came_9 (by decide) ?_
    refine lv_iconst (v := 0) hx hb dX12_came_11 (by decide) ?_
    refine tk_iastR hC hK hw hT kM_at12 (by decide) rfl (by decide) (by decide) (tk_rg0 rfl (show 0 ≤ B from Int.le_trans (by decide) hB0) (by decide)) dX12_came_12 (fun H locs w33 hw hT k35 c34 => ?_)
    replace hM := hM.wr (sI_upc k35 c34 (by decide))
    have hF := hF.put kM_at12 (inE_of (a := 8) (b := 8) (by decide) (by decide) (by decide)) k35
    have c34 : gi w33 12 8 = 0 := c34
    refine lv_iconst (v := 0) hx hb dX12_came_13 (by decide) ?_
    exact tk_iret hC hr hlocks hK ⟨hT, hF, hM.ret (by decide), (Or.inr ⟨(by decide), (by decide), (show (-1) ≤ a1.toInt by first | with_reducible assumption | omega), (show a1.toInt ≤ 9 by first | with_reducible assumption | omega), ⟨0, c34, (by decide), (by decide)⟩⟩)⟩ hw dX12_came_14
abbrev Pz_X12_cheapOf_1 (ad : Nat → Nat) (cy : Nat → ClassId) (B : Int) (qr : Nat) (s1 : Int) (a1 : Int32) (w0 : va_W) : Int32 → va_W → Prop := fun r u => w0 = u ∧ Ev (fun n => m_X12_cheapOf n 0 a1.toInt (sI w0)) (r.toInt, sI w0) ∧ ((0 ≤ r.toInt ∧ r.toInt ≤ 3))
set_option maxHeartbeats 4000000 in
set_option maxRecDepth 100000 in
theorem kz_X12_cheapOf_1 (l : Launch) (adK adV : Nat → Nat) (dC : Nat → ClassId) (dI : Nat → Nat → Nat) (cy : Nat → ClassId) (ad : Nat → Nat) (B : Int) (hB0 : 100000 ≤ B) (hB1 : B ≤ 1073741824) (qr : Nat) (s1 : Int)  (a1 : Int32) (ra1 : 0 ≤ a1.toInt) (ta1 : a1.toInt ≤ 11) (w0 : va_W) (sz : Nat) (hT : TW ksM ad cy B qr 12 w0)  : Met l yX12_cheapOf (wu yX12_cheapOf cX12_cheapOf 7 (some .int)) ({ frames := 2, cells := 0, slots := 0, locals := 34 }) (va_Pc [.ref (ad 0), .int a1] (wpreS adK adV dC dI cy sz w0)) (va_Qi (Pz_X12_cheapOf_1 ad cy B qr s1 a1 w0) (fun u : va_W => wpost dC dI cy (va_A w0 sz) u) (va_A w0 sz)) 0 0 (va_A w0 sz) := by
  refine Met.ofW (cc := cX12_cheapOf) (maxL := 7) (ret := (some .int)) (by decide) rfl ?_
  intro p e s m args below meth c s₁ Bk hml hv
  obtain ⟨rfl, ⟨hsz, hP, hK, hD0⟩, hE, hSR⟩ := hv
  have hx := Bk.exec
  have hb := Bk.bytes
  have hr := Bk.returns
  have hlocks := Bk.notSynchronized
  have hC : CallFix p m c cX12_cheapOf 7 s _ (wu yX12_cheapOf cX12_cheapOf 7 (some .int)) RX12 := ⟨hx, hb, hml, findClass_of_methodNamed Bk.named, atoms_spec (ws := (wu yX12_cheapOf cX12_cheapOf 7 (some .int))) Bk.pre⟩
  subst hsz
  have hD := hD0.self (sz := s.heap.size)
  generalize hAe : va_A w0 s.heap.size = A at hD hE ⊢
  have hA : ∀ q : Nat, s.heap.size ≤ q → A q := fun q h => by rw [← hAe]; exact Or.inr h
  have hw : Wd dC dI A s.heap s.heap [] w0 := ⟨hP, hD, va_S.rf⟩
  have hF : FE ksM ([] : List (Nat × Nat × Nat)) w0 w0 := FE.rf
  have hl := lv_entry ([.ref (ad 0), .int a1]) (n := 7) (Nat.le_of_ble_eq_true rfl)
  rw [lg_entry_eq]
  generalize (lg_sl ([.ref (ad 0), .int a1]) ++ List.replicate (7 - (lg_sl ([.ref (ad 0), .int a1])).length) Slot.unset).toArray = ls at hl ⊢
  have hl : lv_has ls 7 [(0, .ref (ad 0)), (1, .int a1)] := hl
  generalize hloc : ([] : List Loc) = locs at hw ⊢
  have L7 : ∀ (n7 : Nat) (v7_2 : Int32) (v7_3 : Int32) (v7_4 : Int32) (H : Heap) (locs : List Loc) (ls : Array Slot), 0 ≤ a1.toInt → a1.toInt ≤ 11 → 0 ≤ v7_2.toInt → v7_2.toInt ≤ 3 → (-1) ≤ v7_3.toInt → 0 ≤ v7_4.toInt → v7_4.toInt ≤ 4 → (4 - v7_4.toInt).toNat < n7 → Wd dC dI A s.heap H locs w0 → TT (fun n => m_X12_cheapOf n 0 a1.toInt (sI w0)) (fun n => j_X12_cheapOf 0 n 7 [a1.toInt, v7_2.toInt, v7_3.toInt, v7_4.toInt] (sI w0)) → lv_has ls 7 [(0, .ref (ad 0)), (1, .int a1), (2, .int v7_2), (3, .int v7_3), (4, .int v7_4)] → W p l e ({ frames := 2, cells := 0, slots := 0, locals := 34 }) s m (List.toArray [.ref (ad 0), .int a1]) below meth c H locs 0 0 (MQ below (va_Qi (Pz_X12_cheapOf_1 ad cy B qr s1 a1 w0) (fun u : va_W => wpost dC dI cy A u) A) (List.toArray [.ref (ad 0), .int a1]) s 0 0 A) (F0 m 7 ls []) := by
    intro n7
    induction n7 with
    | zero => intro v7_2 v7_3 v7_4 H locs ls r1 t2 r3 t4 r5 r6 t7 hm7 hw hM hl; omega
    | succ n7 ih7 =>
      intro v7_2 v7_3 v7_4 H locs ls r1 t2 r3 t4 r5 r6 t7 hm7 hw hM hl
      have L19 : ∀ (n19 : Nat) (v19_5 : Int32) (v19_6 : Int32) (H : Heap) (locs : List Loc) (ls : Array Slot), 0 ≤ a1.toInt → a1.toInt ≤ 11 → 0 ≤ v7_2.toInt → v7_2.toInt ≤ 3 → (-1) ≤ v7_3.toInt → 0 ≤ v7_4.toInt → v7_4.toInt ≤ 3 → 0 ≤ v19_6.toInt → v19_6.toInt ≤ 7 → (7 - v19_6.toInt).toNat < n19 → Wd dC dI A s.heap H locs w0 → TT (fun n => m_X12_cheapOf n 0 a1.toInt (sI w0)) (fun n => j_X12_cheapOf 0 n 19 [a1.toInt, v7_2.toInt, v7_3.toInt, v7_4.toInt, v19_5.toInt, v19_6.toInt] (sI w0)) → lv_has ls 7 [(0, .ref (ad 0)), (1, .int a1), (2, .int v7_2), (3, .int v7_3), (4, .int v7_4), (5, .int v19_5), (6, .int v19_6)] → W p l e ({ frames := 2, cells := 0, slots := 0, locals := 34 }) s m (List.toArray [.ref (ad 0), .int a1]) below meth c H locs 0 0 (MQ below (va_Qi (Pz_X12_cheapOf_1 ad cy B qr s1 a1 w0) (fun u : va_W => wpost dC dI cy A u) A) (List.toArray [.ref (ad 0), .int a1]) s 0 0 A) (F0 m 19 ls []) := by
        intro n19
        induction n19 with
        | zero => intro v19_5 v19_6 H locs ls r8 t9 r10 t11 r12 r13 t14 r15 t16 hm19 hw hM hl; omega
        | succ n19 ih19 =>
          intro v19_5 v19_6 H locs ls r8 t9 r10 t11 r12 r13 t14 r15 t16 hm19 hw hM hl
          replace hM := hM.suc (fun _ => e_X12_cheapOf_19)
          refine lv_iload hx hb dX12_cheapOf_19 (lv_at hl 6 rfl) ?_
          refine lv_bipush (v := 7) hx hb dX12_cheapOf_21 (by decide) ?_
          refine lv_icmp_ge (tgt := 56) hx hb dX12_cheapOf_23 (by decide) (fun c17 => ?_) (fun c17 => ?_)
          · have c17 : (7 : Int) ≤ v19_6.toInt := wk_le.mp c17
            replace hM := hM.pos c17
            refine lv_iload hx hb dX12_cheapOf_56 (lv_at hl 5 rfl) ?_
            refine lv_iload_n hx hb dX12_cheapOf_58 rfl (lv_at hl 3 rfl) ?_
            refine lv_icmp_le (tgt := 67) hx hb dX12_cheapOf_59 (by decide) (fun c18 => ?_) (fun c18 => ?_)
            · have c18 : v19_5.toInt ≤ v7_3.toInt := wk_le.mp c18
              replace hM := hM.pos c18
              refine lv_iload_n hx hb dX12_cheapOf_67 rfl (lv_at hl 2 rfl) ?_
              refine lv_istore_n (lv' := [(2, .int v7_2), (0, .ref (ad 0)), (1, .int a1), (3, .int v7_3), (4, .int v7_4), (5, .int v19_5), (6, .int v19_6)]) hx hb dX12_cheapOf_68 rfl hl (by decide) rfl (fun ls hl => ?_)
              refine lv_iload hx hb dX12_cheapOf_69 (lv_at hl 5 rfl) ?_
              refine lv_iload_n hx hb dX12_cheapOf_71 rfl (lv_at hl 3 rfl) ?_
              refine lv_icmp_le (tgt := 80) hx hb dX12_cheapOf_72 (by decide) (fun c19 => ?_) (fun c19 => ?_)
              · have c19 : v19_5.toInt ≤ v7_3.toInt := wk_le.mp c19
                replace hM := hM.pos c19
                refine lv_iload_n hx hb dX12_cheapOf_80 rfl (lv_at hl 3 rfl) ?_
                refine lv_istore_n (lv' := [(3, .int v7_3), (2, .int v7_2), (0, .ref (ad 0)), (1, .int a1), (4, .int v7_4), (5, .int v19_5), (6, .int v19_6)]) hx hb dX12_cheapOf_81 rfl hl (by decide) rfl (fun ls hl => ?_)
                obtain ⟨x20, ex20⟩ : ∃ y : Int32, y = v7_4 + Int32.ofInt 1 := ⟨_, rfl⟩
                have erx20 := ex20
                refine lv_iinc (v := x20) (lv' := [(4, .int x20), (3, .int v7_3), (2, .int v7_2), (0, .ref (ad 0)), (1, .int a1), (5, .int v19_5), (6, .int v19_6)]) hx hb dX12_cheapOf_82 hl (k := 4) rfl ex20.symm (by decide) rfl (fun ls hl => ?_)
                have ex20 : x20.toInt = v7_4.toInt + 1 := by rw [ex20]; exact wk_add (y := 1) (show -2147483648 ≤ v7_4.toInt + 1 by omega) (show v7_4.toInt + 1 ≤ 2147483647 by omega)
                replace hM := hM.lt ex20.symm
                refine lv_goto (tgt := 7) hx hb dX12_cheapOf_85 (by decide) ?_
                exact ih7 v7_2 v7_3 x20 H locs ls  (show 0 ≤ a1.toInt from r8) (show a1.toInt ≤ 11 from t9) (show 0 ≤ v7_2.toInt from r10) (show v7_2.toInt ≤ 3 from t11) (show (-1) ≤ v7_3.toInt from r12) (show 0 ≤ x20.toInt by first | with_reducible assumption | omega) (show x20.toInt ≤ 4 by first | with_reducible assumption | omega) (show (4 - x20.toInt).toNat < n7 by first | exact tn_lt hm7 (by omega) (by omega) | omega) hw  hM (lv_sub hl [3, 4, 2, 1, 0] rfl)
              · have c19 : v7_3.toInt < v19_5.toInt := wk_leF c19
                replace hM := hM.neg (Int.not_le.mpr c19)
                refine lv_iload hx hb dX12_cheapOf_75 (lv_at hl 5 rfl) ?_
                refine lv_goto (tgt := 81) hx hb dX12_cheapOf_77 (by decide) ?_
                refine lv_istore_n (lv' := [(3, .int v19_5), (2, .int v7_2), (0, .ref (ad 0)), (1, .int a1), (4, .int v7_4), (5, .int v19_5), (6, .int v19_6)]) hx hb dX12_cheapOf_81 rfl hl (by decide) rfl (fun ls hl => ?_)
                obtain ⟨x21, ex21⟩ : ∃ y : Int32, y = v7_4 + Int32.ofInt 1 := ⟨_, rfl⟩
                have erx21 := ex21
                refine lv_iinc (v := x21) (lv' := [(4, .int x21), (3, .int v19_5), (2, .int v7_2), (0, .ref (ad 0)), (1, .int a1), (5, .int v19_5), (6, .int v19_6)]) hx hb dX12_cheapOf_82 hl (k := 4) rfl ex21.symm (by decide) rfl (fun ls hl => ?_)
                have ex21 : x21.toInt = v7_4.toInt + 1 := by rw [ex21]; exact wk_add (y := 1) (show -2147483648 ≤ v7_4.toInt + 1 by omega) (show v7_4.toInt + 1 ≤ 2147483647 by omega)
                replace hM := hM.lt ex21.symm
                refine lv_goto (tgt := 7) hx hb dX12_cheapOf_85 (by decide) ?_
                exact ih7 v7_2 v19_5 x21 H locs ls  (show 0 ≤ a1.toInt from r8) (show a1.toInt ≤ 11 from t9) (show 0 ≤ v7_2.toInt from r10) (show v7_2.toInt ≤ 3 from t11) (show (-1) ≤ v19_5.toInt by first | with_reducible assumption | omega) (show 0 ≤ x21.toInt by first | with_reducible assumption | omega) (show x21.toInt ≤ 4 by first | with_reducible assumption | omega) (show (4 - x21.toInt).toNat < n7 by first | exact tn_lt hm7 (by omega) (by omega) | omega) hw  hM (lv_sub hl [3, 4, 2, 1, 0] rfl)
            · have c18 : v7_3.toInt < v19_5.toInt := wk_leF c18
              replace hM := hM.neg (Int.not_le.mpr c18)
              refine lv_iload hx hb dX12_cheapOf_62 (lv_at hl 4 rfl) ?_
              refine lv_goto (tgt := 68) hx hb dX12_cheapOf_64 (by decide) ?_
              refine lv_istore_n (lv' := [(2, .int v7_4), (0, .ref (ad 0)), (1, .int a1), (3, .int v7_3), (4, .int v7_4), (5, .int v19_5), (6, .int v19_6)]) hx hb dX12_cheapOf_68 rfl hl (by decide) rfl (fun ls hl => ?_)
              refine lv_iload hx hb dX12_cheapOf_69 (lv_at hl 5 rfl) ?_
              refine lv_iload_n hx hb dX12_cheapOf_71 rfl (lv_at hl 3 rfl) ?_
              refine lv_icmp_le (tgt := 80) hx hb dX12_cheapOf_72 (by decide) (fun c22 => ?_) (fun c22 => ?_)
              · have c22 : v19_5.toInt ≤ v7_3.toInt := wk_le.mp c22
                replace hM := hM.pos c22
                refine lv_iload_n hx hb dX12_cheapOf_80 rfl (lv_at hl 3 rfl) ?_
                refine lv_istore_n (lv' := [(3, .int v7_3), (2, .int v7_4), (0, .ref (ad 0)), (1, .int a1), (4, .int v7_4), (5, .int v19_5), (6, .int v19_6)]) hx hb dX12_cheapOf_81 rfl hl (by decide) rfl (fun ls hl => ?_)
                obtain ⟨x23, ex23⟩ : ∃ y : Int32, y = v7_4 + Int32.ofInt 1 := ⟨_, rfl⟩
                have erx23 := ex23
                refine lv_iinc (v := x23) (lv' := [(4, .int x23), (3, .int v7_3), (2, .int v7_4), (0, .ref (ad 0)), (1, .int a1), (5, .int v19_5), (6, .int v19_6)]) hx hb dX12_cheapOf_82 hl (k := 4) rfl ex23.symm (by decide) rfl (fun ls hl => ?_)
                have ex23 : x23.toInt = v7_4.toInt + 1 := by rw [ex23]; exact wk_add (y := 1) (show -2147483648 ≤ v7_4.toInt + 1 by omega) (show v7_4.toInt + 1 ≤ 2147483647 by omega)
                replace hM := hM.lt ex23.symm
                refine lv_goto (tgt := 7) hx hb dX12_cheapOf_85 (by decide) ?_
                exact ih7 v7_4 v7_3 x23 H locs ls  (show 0 ≤ a1.toInt from r8) (show a1.toInt ≤ 11 from t9) (show 0 ≤ v7_4.toInt from r13) (show v7_4.toInt ≤ 3 from t14) (show (-1) ≤ v7_3.toInt from r12) (show 0 ≤ x23.toInt by first | with_reducible assumption | omega) (show x23.toInt ≤ 4 by first | with_reducible assumption | omega) (show (4 - x23.toInt).toNat < n7 by first | exact tn_lt hm7 (by omega) (by omega) | omega) hw  hM (lv_sub hl [3, 4, 2, 1, 0] rfl)
              · have c22 : v7_3.toInt < v19_5.toInt := wk_leF c22
                replace hM := hM.neg (Int.not_le.mpr c22)
                refine lv_iload hx hb dX12_cheapOf_75 (lv_at hl 5 rfl) ?_
                refine lv_goto (tgt := 81) hx hb dX12_cheapOf_77 (by decide) ?_
                refine lv_istore_n (lv' := [(3, .int v19_5), (2, .int v7_4), (0, .ref (ad 0)), (1, .int a1), (4, .int v7_4), (5, .int v19_5), (6, .int v19_6)]) hx hb dX12_cheapOf_81 rfl hl (by decide) rfl (fun ls hl => ?_)
                obtain ⟨x24, ex24⟩ : ∃ y : Int32, y = v7_4 + Int32.ofInt 1 := ⟨_, rfl⟩
                have erx24 := ex24
                refine lv_iinc (v := x24) (lv' := [(4, .int x24), (3, .int v19_5), (2, .int v7_4), (0, .ref (ad 0)), (1, .int a1), (5, .int v19_5), (6, .int v19_6)]) hx hb dX12_cheapOf_82 hl (k := 4) rfl ex24.symm (by decide) rfl (fun ls hl => ?_)
                have ex24 : x24.toInt = v7_4.toInt + 1 := by rw [ex24]; exact wk_add (y := 1) (show -2147483648 ≤ v7_4.toInt + 1 by omega) (show v7_4.toInt + 1 ≤ 2147483647 by omega)
                replace hM := hM.lt ex24.symm
                refine lv_goto (tgt := 7) hx hb dX12_cheapOf_85 (by decide) ?_
                exact ih7 v7_4 v19_5 x24 H locs ls  (show 0 ≤ a1.toInt from r8) (show a1.toInt ≤ 11 from t9) (show 0 ≤ v7_4.toInt from r13) (show v7_4.toInt ≤ 3 from t14) (show (-1) ≤ v19_5.toInt by first | with_reducible assumption | omega) (show 0 ≤ x24.toInt by first | with_reducible assumption | omega) (show x24.toInt ≤ 4 by first | with_reducible assumption | omega) (show (4 - x24.toInt).toNat < n7 by first | exact tn_lt hm7 (by omega) (by omega) | omega) hw  hM (lv_sub hl [3, 4, 2, 1, 0] rfl)
          · have c17 : v19_6.toInt < (7 : Int) := wk_leF c17
            replace hM := hM.neg (Int.not_le.mpr c17)
            refine lv_iload hx hb dX12_cheapOf_26 (lv_at hl 5 rfl) ?_
            refine lv_aload_n hx hb dX12_cheapOf_28 rfl (lv_at hl 0 rfl) ?_
            refine lv_iload_n hx hb dX12_cheapOf_29 rfl (lv_at hl 1 rfl) ?_
            refine lv_iconst (v := 3) hx hb dX12_cheapOf_30 (by decide) ?_
            refine lv_iload hx hb dX12_cheapOf_31 (lv_at hl 6 rfl) ?_
            refine lv_iadd hx hb dX12_cheapOf_33 ?_
            refine lv_topi (fun x25 ex25 => ?_)
            have ezx25 := ex25
            have ex25 : x25.toInt = (3 : Int) + v19_6.toInt := by rw [ex25]; exact wk_add (show (-2147483648) ≤ (3 : Int) + v19_6.toInt by omega) (show (3 : Int) + v19_6.toInt ≤ 2147483647 by omega)
            replace hM := hM.lt ex25.symm
            refine tk_Vi hC hK hw hT hA hE hSR kM_at0 (by decide) rfl (kz_X12_streetOf_2 l adK adV dC dI cy ad B hB0 (Int.le_trans hB1 (by decide)) qr s1   a1 (show 0 ≤ a1.toInt from r8) (show a1.toInt ≤ 11 from t9) x25 (show 3 ≤ x25.toInt by first | with_reducible assumption | omega) (show x25.toInt ≤ 9 by first | with_reducible assumption | omega) w0 H.size hT ) (cwV 2 hC.2.2.2.2 uV_RX12_300 rfl rfl rfl (by decide +kernel) ⟨Nat.le_of_ble_eq_true rfl, Nat.le_of_ble_eq_true rfl⟩) rfl hl.1 rfl (Nat.le_of_ble_eq_true rfl) dX12_cheapOf_34 (fun r26 w28 H locs hp27 hw => ?_)
            obtain ⟨rfl, hv34, hg33⟩ := hp27
            obtain ⟨g30, g31, c32⟩ := hg33
            replace hM := hM.call hv34 rfl
            refine lv_iload hx hb dX12_cheapOf_37 (lv_at hl 4 rfl) ?_
            refine lv_icmp_ne (tgt := 46) hx hb dX12_cheapOf_39 (by decide) (fun c35 => ?_) (fun c35 => ?_)
            · have c35 : ¬ r26.toInt = v7_4.toInt := wk_eqF c35
              replace hM := hM.pos c35
              refine lv_iconst (v := 0) hx hb dX12_cheapOf_46 (by decide) ?_
              refine lv_iadd hx hb dX12_cheapOf_47 ?_
              have nx36 := wk_i32 v19_5
              refine lv_topi (fun x37 ex37 => ?_)
              have ezx37 := ex37
              have ex37 : x37.toInt = v19_5.toInt + (0 : Int) := by rw [ex37]; exact wk_add (show (-2147483648) ≤ v19_5.toInt + (0 : Int) by omega) (show v19_5.toInt + (0 : Int) ≤ 2147483647 by omega)
              replace hM := hM.lt (o32_e (f := fun x y => x + y) ezx37 rfl (by decide))
              refine lv_istore (lv' := [(5, .int x37), (0, .ref (ad 0)), (1, .int a1), (2, .int v7_2), (3, .int v7_3), (4, .int v7_4), (6, .int v19_6)]) hx hb dX12_cheapOf_48 hl (by decide) rfl (fun ls hl => ?_)
              obtain ⟨x38, ex38⟩ : ∃ y : Int32, y = v19_6 + Int32.ofInt 1 := ⟨_, rfl⟩
              have erx38 := ex38
              refine lv_iinc (v := x38) (lv' := [(6, .int x38), (5, .int x37), (0, .ref (ad 0)), (1, .int a1), (2, .int v7_2), (3, .int v7_3), (4, .int v7_4)]) hx hb dX12_cheapOf_50 hl (k := 6) rfl ex38.symm (by decide) rfl (fun ls hl => ?_)
              have ex38 : x38.toInt = v19_6.toInt + 1 := by rw [ex38]; exact wk_add (y := 1) (show -2147483648 ≤ v19_6.toInt + 1 by omega) (show v19_6.toInt + 1 ≤ 2147483647 by omega)
              replace hM := hM.lt ex38.symm
              refine lv_goto (tgt := 19) hx hb dX12_cheapOf_53 (by decide) ?_
              exact ih19 x37 x38 H locs ls  (show 0 ≤ a1.toInt from r8) (show a1.toInt ≤ 11 from t9) (show 0 ≤ v7_2.toInt from r10) (show v7_2.toInt ≤ 3 from t11) (show (-1) ≤ v7_3.toInt from r12) (show 0 ≤ v7_4.toInt from r13) (show v7_4.toInt ≤ 3 from t14) (show 0 ≤ x38.toInt by first | with_reducible assumption | omega) (show x38.toInt ≤ 7 by first | with_reducible assumption | omega) (show (7 - x38.toInt).toNat < n19 by first | exact tn_lt hm19 (by omega) (by omega) | omega) hw  hM (lv_sub hl [2, 3, 4, 5, 6, 1, 0] rfl)
            · have c35 : r26.toInt = v7_4.toInt := wk_eq.mp c35
              replace hM := hM.neg (fun q => q c35)
              refine lv_iconst (v := 1) hx hb dX12_cheapOf_42 (by decide) ?_
              refine lv_goto (tgt := 47) hx hb dX12_cheapOf_43 (by decide) ?_
              refine lv_iadd hx hb dX12_cheapOf_47 ?_
              have nx39 := wk_i32 v19_5
              refine lv_topi (fun x40 ex40 => ?_)
              have ezx40 := ex40
              replace hM := hM.lt (o32_e (f := fun x y => x + y) ezx40 rfl (by decide))
              refine lv_istore (lv' := [(5, .int x40), (0, .ref (ad 0)), (1, .int a1), (2, .int v7_2), (3, .int v7_3), (4, .int v7_4), (6, .int v19_6)]) hx hb dX12_cheapOf_48 hl (by decide) rfl (fun ls hl => ?_)
              obtain ⟨x41, ex41⟩ : ∃ y : Int32, y = v19_6 + Int32.ofInt 1 := ⟨_, rfl⟩
              have erx41 := ex41
              refine lv_iinc (v := x41) (lv' := [(6, .int x41), (5, .int x40), (0, .ref (ad 0)), (1, .int a1), (2, .int v7_2), (3, .int v7_3), (4, .int v7_4)]) hx hb dX12_cheapOf_50 hl (k := 6) rfl ex41.symm (by decide) rfl (fun ls hl => ?_)
              have ex41 : x41.toInt = v19_6.toInt + 1 := by rw [ex41]; exact wk_add (y := 1) (show -2147483648 ≤ v19_6.toInt + 1 by omega) (show v19_6.toInt + 1 ≤ 2147483647 by omega)
              replace hM := hM.lt ex41.symm
              refine lv_goto (tgt := 19) hx hb dX12_cheapOf_53 (by decide) ?_
              exact ih19 x40 x41 H locs ls  (show 0 ≤ a1.toInt from r8) (show a1.toInt ≤ 11 from t9) (show 0 ≤ v7_2.toInt from r10) (show v7_2.toInt ≤ 3 from t11) (show (-1) ≤ v7_3.toInt from r12) (show 0 ≤ v7_4.toInt from r13) (show v7_4.toInt ≤ 3 from t14) (show 0 ≤ x41.toInt by first | with_reducible assumption | omega) (show x41.toInt ≤ 7 by first | with_reducible assumption | omega) (show (7 - x41.toInt).toNat < n19 by first | exact tn_lt hm19 (by omega) (by omega) | omega) hw  hM (lv_sub hl [2, 3, 4, 5, 6, 1, 0] rfl)
      replace hM := hM.suc (fun _ => e_X12_cheapOf_7)
      refine lv_iload hx hb dX12_cheapOf_7 (lv_at hl 4 rfl) ?_
      refine lv_iconst (v := 4) hx hb dX12_cheapOf_9 (by decide) ?_
      refine lv_icmp_ge (tgt := 88) hx hb dX12_cheapOf_10 (by decide) (fun c42 => ?_) (fun c42 => ?_)
      · have c42 : (4 : Int) ≤ v7_4.toInt := wk_le.mp c42
        replace hM := hM.pos c42
        refine lv_iload_n hx hb dX12_cheapOf_88 rfl (lv_at hl 2 rfl) ?_
        exact tk_iret hC hr hlocks hK ⟨rfl, hM.ret rfl, ⟨(show 0 ≤ v7_2.toInt from r3), (show v7_2.toInt ≤ 3 from t4)⟩⟩ hw dX12_cheapOf_89
      · have c42 : v7_4.toInt < (4 : Int) := wk_leF c42
        replace hM := hM.neg (Int.not_le.mpr c42)
        refine lv_iconst (v := 0) hx hb dX12_cheapOf_13 (by decide) ?_
        refine lv_istore (lv' := [(5, .int 0), (0, .ref (ad 0)), (1, .int a1), (2, .int v7_2), (3, .int v7_3), (4, .int v7_4)]) hx hb dX12_cheapOf_14 hl (by decide) rfl (fun ls hl => ?_)
        refine lv_iconst (v := 0) hx hb dX12_cheapOf_16 (by decide) ?_
        refine lv_istore (lv' := [(6, .int 0), (5, .int 0), (0, .ref (ad 0)), (1, .int a1), (2, .int v7_2), (3, .int v7_3), (4, .int v7_4)]) hx hb dX12_cheapOf_17 hl (by decide) rfl (fun ls hl => ?_)
        exact L19 ((7 - (0 : Int)).toNat + 1) 0 0 H locs ls  (show 0 ≤ a1.toInt from r1) (show a1.toInt ≤ 11 from t2) (show 0 ≤ v7_2.toInt from r3) (show v7_2.toInt ≤ 3 from t4) (show (-1) ≤ v7_3.toInt from r5) (show 0 ≤ v7_4.toInt from r6) (show v7_4.toInt ≤ 3 by first | with_reducible assumption | omega) (by decide) (by decide) (Nat.lt_succ_self _) hw  hM (lv_sub hl [2, 3, 4, 5, 6, 1, 0] rfl)
  have hM : TT (fun n => m_X12_cheapOf n 0 a1.toInt (sI w0)) (fun n => m_X12_cheapOf n 0 a1.toInt (sI w0)) := TT.rf
  refine lv_iconst (v := 0) hx hb dX12_cheapOf_0 (by decide) ?_
  refine lv_istore_n (lv' := [(2, .int 0), (0, .ref (ad 0)), (1, .int a1)]) hx hb dX12_cheapOf_1 rfl hl (by decide) rfl (fun ls hl => ?_)
  refine lv_iconst (v := (-1)) hx hb dX12_cheapOf_2 (by decide) ?_
  refine lv_istore_n (lv' := [(3, .int (-1)), (2, .int 0), (0, .ref (ad 0)), (1, .int a1)]) hx hb dX12_cheapOf_3 rfl hl (by decide) rfl (fun ls hl => ?_)
  refine lv_iconst (v := 0) hx hb dX12_cheapOf_4 (by decide) ?_
  refine lv_istore (lv' := [(4, .int 0), (3, .int (-1)), (2, .int 0), (0, .ref (ad 0)), (1, .int a1)]) hx hb dX12_cheapOf_5 hl (by decide) rfl (fun ls hl => ?_)
  exact L7 ((4 - (0 : Int)).toNat + 1) 0 (-1) 0 s.heap locs ls  (show 0 ≤ a1.toInt from ra1) (show a1.toInt ≤ 11 from ta1) (by decide) (by decide) (by decide) (by decide) (by decide) (Nat.lt_succ_self _) hw  hM (lv_sub hl [3, 4, 2, 1, 0] rfl)
abbrev Pz_X12_cheap_1 (ad : Nat → Nat) (cy : Nat → ClassId) (B : Int) (qr : Nat) (s1 : Int) (a1 : Int32) (w0 : va_W) : Int32 → va_W → Prop := fun r u => w0 = u ∧ Ev (fun n => m_X12_cheap n 0 a1.toInt (sI w0)) (r.toInt, sI w0) ∧ ((0 ≤ r.toInt ∧ r.toInt ≤ 3 ∧ 0 ≤ a1.toInt ∧ a1.toInt ≤ 11 ∧ (∃ y : Int32, gi u 12 1 = y ∧ 1 ≤ y.toInt ∧ y.toInt ≤ 12)) ∨ (r = (-1)))
set_option maxHeartbeats 4000000 in
set_option maxRecDepth 100000 in
theorem kz_X12_cheap_1 (l : Launch) (adK adV : Nat → Nat) (dC : Nat → ClassId) (dI : Nat → Nat → Nat) (cy : Nat → ClassId) (ad : Nat → Nat) (B : Int) (hB0 : 100000 ≤ B) (hB1 : B ≤ 1073741824) (qr : Nat) (s1 : Int)  (a1 : Int32) (w0 : va_W) (sz : Nat) (hT : TW ksM ad cy B qr 12 w0)  : Met l yX12_cheap (wu yX12_cheap cX12_cheap 2 (some .int)) ({ frames := 3, cells := 0, slots := 0, locals := 60 }) (va_Pc [.ref (ad 0), .int a1] (wpreS adK adV dC dI cy sz w0)) (va_Qi (Pz_X12_cheap_1 ad cy B qr s1 a1 w0) (fun u : va_W => wpost dC dI cy (va_A w0 sz) u) (va_A w0 sz)) 0 0 (va_A w0 sz) := by
  refine Met.ofW (cc := cX12_cheap) (maxL := 2) (ret := (some .int)) (by decide) rfl ?_
  intro p e s m args below meth c s₁ Bk hml hv
  obtain ⟨rfl, ⟨hsz, hP, hK, hD0⟩, hE, hSR⟩ := hv
  have hx := Bk.exec
  have hb := Bk.bytes
  have hr := Bk.returns
  have hlocks := Bk.notSynchronized
  have hC : CallFix p m c cX12_cheap 2 s _ (wu yX12_cheap cX12_cheap 2 (some .int)) RX12 := ⟨hx, hb, hml, findClass_of_methodNamed Bk.named, atoms_spec (ws := (wu yX12_cheap cX12_cheap 2 (some .int))) Bk.pre⟩
  subst hsz
  have hD := hD0.self (sz := s.heap.size)
  generalize hAe : va_A w0 s.heap.size = A at hD hE ⊢
  have hA : ∀ q : Nat, s.heap.size ≤ q → A q := fun q h => by rw [← hAe]; exact Or.inr h
  have hw : Wd dC dI A s.heap s.heap [] w0 := ⟨hP, hD, va_S.rf⟩
  have hF : FE ksM ([] : List (Nat × Nat × Nat)) w0 w0 := FE.rf
  have hl := lv_entry ([.ref (ad 0), .int a1]) (n := 2) (Nat.le_of_ble_eq_true rfl)
  rw [lg_entry_eq]
  generalize (lg_sl ([.ref (ad 0), .int a1]) ++ List.replicate (2 - (lg_sl ([.ref (ad 0), .int a1])).length) Slot.unset).toArray = ls at hl ⊢
  have hl : lv_has ls 2 [(0, .ref (ad 0)), (1, .int a1)] := hl
  generalize hloc : ([] : List Loc) = locs at hw ⊢
  have hM : TT (fun n => m_X12_cheap n 0 a1.toInt (sI w0)) (fun n => m_X12_cheap n 0 a1.toInt (sI w0)) := TT.rf
  refine lv_aload_n hx hb dX12_cheap_0 rfl (lv_at hl 0 rfl) ?_
  refine lv_iload_n hx hb dX12_cheap_1 rfl (lv_at hl 1 rfl) ?_
  refine tk_Vi hC hK hw hT hA hE hSR kM_at0 (by decide) rfl (kz_X12_isStreet_1 l adK adV dC dI cy ad B hB0 (Int.le_trans hB1 (by decide)) qr s1   a1 w0 s.heap.size hT ) (cwV 1 hC.2.2.2.2 uV_RX12_323 rfl rfl rfl (by decide +kernel) ⟨Nat.le_of_ble_eq_true rfl, Nat.le_of_ble_eq_true rfl⟩) rfl hl.1 rfl (Nat.le_of_ble_eq_true rfl) dX12_cheap_2 (fun r1 w3 H locs hp2 hw => ?_)
  obtain ⟨rfl, hv10, hg9⟩ := hp2
  rcases hg9 with rfl | ⟨rfl, g5, g6, ⟨x7, c8, rx7, tx7⟩⟩
  · replace hM := hM.call (r' := 0) hv10 (by decide)
    refine lv_if_eq (tgt := 16) hx hb dX12_cheap_5 (by decide) (fun _ => ?_) (fun c => absurd (by decide) c)
    replace hM := hM.pos (by decide)
    refine lv_iconst (v := (-1)) hx hb dX12_cheap_16 (by decide) ?_
    exact tk_iret hC hr hlocks hK ⟨rfl, hM.ret (by decide), (Or.inr rfl)⟩ hw dX12_cheap_17
  · replace hM := hM.call (r' := 1) hv10 (by decide)
    refine lv_if_eq (tgt := 16) hx hb dX12_cheap_5 (by decide) (fun c => absurd c (by decide)) (fun _ => ?_)
    replace hM := hM.neg (by decide)
    refine lv_aload_n hx hb dX12_cheap_8 rfl (lv_at hl 0 rfl) ?_
    refine lv_iload_n hx hb dX12_cheap_9 rfl (lv_at hl 1 rfl) ?_
    refine tk_Vi hC hK hw hT hA hE hSR kM_at0 (by decide) rfl (kz_X12_cheapOf_1 l adK adV dC dI cy ad B hB0 (Int.le_trans hB1 (by decide)) qr s1   a1 (show 0 ≤ a1.toInt by first | with_reducible assumption | omega) (show a1.toInt ≤ 11 by first | with_reducible assumption | omega) w0 H.size hT ) (cwV 1 hC.2.2.2.2 uV_RX12_465 rfl rfl rfl (by decide +kernel) ⟨Nat.le_of_ble_eq_true rfl, Nat.le_of_ble_eq_true rfl⟩) rfl hl.1 rfl (Nat.le_of_ble_eq_true rfl) dX12_cheap_10 (fun r11 w13 H locs hp12 hw => ?_)
    obtain ⟨rfl, hv18, hg17⟩ := hp12
    obtain ⟨g15, g16⟩ := hg17
    replace hM := hM.call hv18 rfl
    refine lv_goto (tgt := 17) hx hb dX12_cheap_13 (by decide) ?_
    exact tk_iret hC hr hlocks hK ⟨rfl, hM.ret rfl, (Or.inl ⟨(show 0 ≤ r11.toInt by first | with_reducible assumption | omega), (show r11.toInt ≤ 3 by first | with_reducible assumption | omega), (show 0 ≤ a1.toInt by first | with_reducible assumption | omega), (show a1.toInt ≤ 11 by first | with_reducible assumption | omega), ⟨x7, c8, (show 1 ≤ x7.toInt by first | with_reducible assumption | omega), (show x7.toInt ≤ 12 by first | with_reducible assumption | omega)⟩⟩)⟩ hw dX12_cheap_17
abbrev Pz_X12_in_13 (ad : Nat → Nat) (cy : Nat → ClassId) (B : Int) (qr : Nat) (s1 : Int) (a0 : Int64) (w0 : va_W) : Int32 → va_W → Prop := fun r u => w0 = u ∧ Ev (fun n => m_X12_in n a0.toInt 0 7 (sI w0)) (r.toInt, sI w0) ∧ ((r = 0) ∨ (r = 1 ∧ 0 ≤ a0.toInt ∧ a0.toInt ≤ 7))
set_option maxHeartbeats 4000000 in
set_option maxRecDepth 100000 in
theorem kz_X12_in_13 (l : Launch) (adK adV : Nat → Nat) (dC : Nat → ClassId) (dI : Nat → Nat → Nat) (cy : Nat → ClassId) (ad : Nat → Nat) (B : Int) (hB0 : 100000 ≤ B) (hB1 : B ≤ 1073741824) (qr : Nat) (s1 : Int)  (a0 : Int64) (ra0 : (-2147483648) ≤ a0.toInt) (ta0 : a0.toInt ≤ 2147483647) (w0 : va_W) (sz : Nat) (hT : TW ksM ad cy B qr 12 w0)  : Met l yX12_in (wu yX12_in cX12_in 6 (some .boolean)) ({ frames := 1, cells := 0, slots := 0, locals := 12 }) (va_Pc [.long a0, .long 0, .long 7] (wpreS adK adV dC dI cy sz w0)) (va_Qi (Pz_X12_in_13 ad cy B qr s1 a0 w0) (fun u : va_W => wpost dC dI cy (va_A w0 sz) u) (va_A w0 sz)) 0 0 (va_A w0 sz) := by
  refine Met.ofW (cc := cX12_in) (maxL := 6) (ret := (some .boolean)) (by decide) rfl ?_
  intro p e s m args below meth c s₁ Bk hml hv
  obtain ⟨rfl, ⟨hsz, hP, hK, hD0⟩, hE, hSR⟩ := hv
  have hx := Bk.exec
  have hb := Bk.bytes
  have hr := Bk.returns
  have hlocks := Bk.notSynchronized
  have hC : CallFix p m c cX12_in 6 s _ (wu yX12_in cX12_in 6 (some .boolean)) RX12 := ⟨hx, hb, hml, findClass_of_methodNamed Bk.named, atoms_spec (ws := (wu yX12_in cX12_in 6 (some .boolean))) Bk.pre⟩
  subst hsz
  have hD := hD0.self (sz := s.heap.size)
  generalize hAe : va_A w0 s.heap.size = A at hD hE ⊢
  have hA : ∀ q : Nat, s.heap.size ≤ q → A q := fun q h => by rw [← hAe]; exact Or.inr h
  have hw : Wd dC dI A s.heap s.heap [] w0 := ⟨hP, hD, va_S.rf⟩
  have hF : FE ksM ([] : List (Nat × Nat × Nat)) w0 w0 := FE.rf
  have hl := lv_entry ([.long a0, .long 0, .long 7]) (n := 6) (Nat.le_of_ble_eq_true rfl)
  rw [lg_entry_eq]
  generalize (lg_sl ([.long a0, .long 0, .long 7]) ++ List.replicate (6 - (lg_sl ([.long a0, .long 0, .long 7])).length) Slot.unset).toArray = ls at hl ⊢
  have hl : lv_has ls 6 [(0, .long a0), (2, .long 0), (4, .long 7)] := hl
  generalize hloc : ([] : List Loc) = locs at hw ⊢
  have J17 : ∀ (H : Heap) (locs : List Loc) (ls : Array Slot), (-2147483648) ≤ a0.toInt → a0.toInt ≤ 2147483647 → Wd dC dI A s.heap H locs w0 → TT (fun n => m_X12_in n a0.toInt 0 7 (sI w0)) (fun n => b_X12_in_17 n (sI w0)) → lv_has ls 6 [(0, .long a0), (2, .long 0), (4, .long 7)] → W p l e ({ frames := 1, cells := 0, slots := 0, locals := 12 }) s m (List.toArray [.long a0, .long 0, .long 7]) below meth c H locs 0 0 (MQ below (va_Qi (Pz_X12_in_13 ad cy B qr s1 a0 w0) (fun u : va_W => wpost dC dI cy A u) A) (List.toArray [.long a0, .long 0, .long 7]) s 0 0 A) (F0 m 17 ls []) := by
    intro H locs ls r1 t2 hw hM hl
    refine lv_iconst (v := 0) hx hb dX12_in_17 (by decide) ?_
    exact tk_zret hC hr rfl hlocks hK ⟨rfl, hM.ret (by decide), (Or.inl rfl)⟩ hw dX12_in_18
  have hM : TT (fun n => m_X12_in n a0.toInt 0 7 (sI w0)) (fun n => m_X12_in n a0.toInt 0 7 (sI w0)) := TT.rf
  refine lv_lload_n hx hb dX12_in_0 rfl (lv_at hl 0 rfl) ?_
  refine lv_lload_n hx hb dX12_in_1 rfl (lv_at hl 1 rfl) ?_
  refine W.lcmp hx hb dX12_in_2 ?_
  refine lv_if_lt (tgt := 17) hx hb dX12_in_3 (by decide) (fun c3 => ?_) (fun c3 => ?_)
  · have c3 : a0.toInt < (0 : Int) := wk_cltT c3
    replace hM := hM.pos c3
    exact J17  s.heap locs ls  (show (-2147483648) ≤ a0.toInt from ra0) (show a0.toInt ≤ 2147483647 from ta0)  hw  hM (lv_sub hl [0, 1, 2] rfl)
  · have c3 : (0 : Int) ≤ a0.toInt := wk_cltF c3
    replace hM := hM.neg (Int.not_lt.mpr c3)
    refine lv_lload_n hx hb dX12_in_6 rfl (lv_at hl 0 rfl) ?_
    refine lv_lload hx hb dX12_in_7 (lv_at hl 2 rfl) ?_
    refine W.lcmp hx hb dX12_in_9 ?_
    refine lv_if_gt (tgt := 17) hx hb dX12_in_10 (by decide) (fun c4 => ?_) (fun c4 => ?_)
    · have c4 : (7 : Int) < a0.toInt := wk_cgtT c4
      replace hM := hM.pos c4
      exact J17  s.heap locs ls  (show (-2147483648) ≤ a0.toInt from ra0) (show a0.toInt ≤ 2147483647 from ta0)  hw  hM (lv_sub hl [0, 1, 2] rfl)
    · have c4 : a0.toInt ≤ (7 : Int) := wk_cgtF c4
      replace hM := hM.neg (Int.not_lt.mpr c4)
      refine lv_iconst (v := 1) hx hb dX12_in_13 (by decide) ?_
      refine lv_goto (tgt := 18) hx hb dX12_in_14 (by decide) ?_
      exact tk_zret hC hr rfl hlocks hK ⟨rfl, hM.ret (by decide), (Or.inr ⟨rfl, (show 0 ≤ a0.toInt by first | with_reducible assumption | omega), (show a0.toInt ≤ 7 by first | with_reducible assumption | omega)⟩)⟩ hw dX12_in_18
abbrev Pz_X12_wrong_1 (ad : Nat → Nat) (cy : Nat → ClassId) (B : Int) (qr : Nat) (s1 : Int) (a1 : Int32) (w0 : va_W) : Int32 → va_W → Prop := fun r u => w0 = u ∧ Ev (fun n => m_X12_wrong n 0 a1.toInt (sI w0)) (r.toInt, sI w0) ∧ ((0 ≤ a1.toInt ∧ a1.toInt ≤ 7 ∧ (∃ y : Int32, gi u 12 0 = y ∧ 1 ≤ y.toInt ∧ y.toInt ≤ 10)) ∨ (r = (-1)))
set_option maxHeartbeats 4000000 in
set_option maxRecDepth 100000 in
theorem kz_X12_wrong_1 (l : Launch) (adK adV : Nat → Nat) (dC : Nat → ClassId) (dI : Nat → Nat → Nat) (cy : Nat → ClassId) (ad : Nat → Nat) (B : Int) (hB0 : 100000 ≤ B) (hB1 : B ≤ 1073741824) (qr : Nat) (s1 : Int)  (a1 : Int32) (w0 : va_W) (sz : Nat) (hT : TW ksM ad cy B qr 12 w0)  : Met l yX12_wrong (wu yX12_wrong cX12_wrong 5 (some .int)) ({ frames := 3, cells := 0, slots := 0, locals := 60 }) (va_Pc [.ref (ad 0), .int a1] (wpreS adK adV dC dI cy sz w0)) (va_Qi (Pz_X12_wrong_1 ad cy B qr s1 a1 w0) (fun u : va_W => wpost dC dI cy (va_A w0 sz) u) (va_A w0 sz)) 0 0 (va_A w0 sz) := by
  refine Met.ofW (cc := cX12_wrong) (maxL := 5) (ret := (some .int)) (by decide) rfl ?_
  intro p e s m args below meth c s₁ Bk hml hv
  obtain ⟨rfl, ⟨hsz, hP, hK, hD0⟩, hE, hSR⟩ := hv
  have hx := Bk.exec
  have hb := Bk.bytes
  have hr := Bk.returns
  have hlocks := Bk.notSynchronized
  have hC : CallFix p m c cX12_wrong 5 s _ (wu yX12_wrong cX12_wrong 5 (some .int)) RX12 := ⟨hx, hb, hml, findClass_of_methodNamed Bk.named, atoms_spec (ws := (wu yX12_wrong cX12_wrong 5 (some .int))) Bk.pre⟩
  subst hsz
  have hD := hD0.self (sz := s.heap.size)
  generalize hAe : va_A w0 s.heap.size = A at hD hE ⊢
  have hA : ∀ q : Nat, s.heap.size ≤ q → A q := fun q h => by rw [← hAe]; exact Or.inr h
  have hw : Wd dC dI A s.heap s.heap [] w0 := ⟨hP, hD, va_S.rf⟩
  have hF : FE ksM ([] : List (Nat × Nat × Nat)) w0 w0 := FE.rf
  have hl := lv_entry ([.ref (ad 0), .int a1]) (n := 5) (Nat.le_of_ble_eq_true rfl)
  rw [lg_entry_eq]
  generalize (lg_sl ([.ref (ad 0), .int a1]) ++ List.replicate (5 - (lg_sl ([.ref (ad 0), .int a1])).length) Slot.unset).toArray = ls at hl ⊢
  have hl : lv_has ls 5 [(0, .ref (ad 0)), (1, .int a1)] := hl
  generalize hloc : ([] : List Loc) = locs at hw ⊢
  have hinX12 : ∀ w ∈ u_ws RX12 TX12 42, w ∈ (wu yX12_wrong cX12_wrong 5 (some .int)) := fun _ h => List.mem_cons_of_mem _ (up_71 h)
  have J19 : ∀ (f19_12_0 : Int32) (H : Heap) (locs : List Loc) (ls : Array Slot), 0 ≤ f19_12_0.toInt → f19_12_0.toInt ≤ 10 → Wd dC dI A s.heap H locs w0 → gi w0 12 0 = f19_12_0 → TT (fun n => m_X12_wrong n 0 a1.toInt (sI w0)) (fun n => b_X12_wrong_19 (j_X12_wrong 0 n) n 0 (sI w0)) → lv_has ls 5 [(0, .ref (ad 0)), (1, .int a1)] → W p l e ({ frames := 3, cells := 0, slots := 0, locals := 60 }) s m (List.toArray [.ref (ad 0), .int a1]) below meth c H locs 0 0 (MQ below (va_Qi (Pz_X12_wrong_1 ad cy B qr s1 a1 w0) (fun u : va_W => wpost dC dI cy A u) A) (List.toArray [.ref (ad 0), .int a1]) s 0 0 A) (F0 m 19 ls []) := by
    intro f19_12_0 H locs ls r1 t2 hw c3 hM hl
    refine lv_iconst (v := (-1)) hx hb dX12_wrong_19 (by decide) ?_
    exact tk_iret hC hr hlocks hK ⟨rfl, hM.ret (by decide), (Or.inr rfl)⟩ hw dX12_wrong_20
  have L25 : ∀ (n25 : Nat) (v25_2 : Int32) (v25_3 : Int32) (f25_12_0 : Int32) (H : Heap) (locs : List Loc) (ls : Array Slot), 0 ≤ a1.toInt → a1.toInt ≤ 7 → 0 ≤ v25_3.toInt → v25_3.toInt ≤ 12 → 1 ≤ f25_12_0.toInt → f25_12_0.toInt ≤ 10 → (12 - v25_3.toInt).toNat < n25 → Wd dC dI A s.heap H locs w0 → gi w0 12 0 = f25_12_0 → TT (fun n => m_X12_wrong n 0 a1.toInt (sI w0)) (fun n => j_X12_wrong 0 n 25 [a1.toInt, v25_2.toInt, v25_3.toInt] (sI w0)) → lv_has ls 5 [(0, .ref (ad 0)), (1, .int a1), (2, .int v25_2), (3, .int v25_3)] → W p l e ({ frames := 3, cells := 0, slots := 0, locals := 60 }) s m (List.toArray [.ref (ad 0), .int a1]) below meth c H locs 0 0 (MQ below (va_Qi (Pz_X12_wrong_1 ad cy B qr s1 a1 w0) (fun u : va_W => wpost dC dI cy A u) A) (List.toArray [.ref (ad 0), .int a1]) s 0 0 A) (F0 m 25 ls []) := by
    intro n25
    induction n25 with
    | zero => intro v25_2 v25_3 f25_12_0 H locs ls r4 t5 r6 t7 r8 t9 hm25 hw c10 hM hl; omega
    | succ n25 ih25 =>
      intro v25_2 v25_3 f25_12_0 H locs ls r4 t5 r6 t7 r8 t9 hm25 hw c10 hM hl
      have L38 : ∀ (n38 : Nat) (v38_2 : Int32) (v38_4 : Int32) (f38_12_1 : Int32) (H : Heap) (locs : List Loc) (ls : Array Slot), 0 ≤ a1.toInt → a1.toInt ≤ 7 → 0 ≤ v25_3.toInt → v25_3.toInt ≤ 11 → 0 ≤ v38_4.toInt → v38_4.toInt ≤ 7 → 1 ≤ f25_12_0.toInt → f25_12_0.toInt ≤ 10 → 1 ≤ f38_12_1.toInt → f38_12_1.toInt ≤ 12 → (7 - v38_4.toInt).toNat < n38 → Wd dC dI A s.heap H locs w0 → gi w0 12 0 = f25_12_0 → gi w0 12 1 = f38_12_1 → TT (fun n => m_X12_wrong n 0 a1.toInt (sI w0)) (fun n => j_X12_wrong 0 n 38 [a1.toInt, v38_2.toInt, v25_3.toInt, v38_4.toInt] (sI w0)) → lv_has ls 5 [(0, .ref (ad 0)), (1, .int a1), (2, .int v38_2), (3, .int v25_3), (4, .int v38_4)] → W p l e ({ frames := 3, cells := 0, slots := 0, locals := 60 }) s m (List.toArray [.ref (ad 0), .int a1]) below meth c H locs 0 0 (MQ below (va_Qi (Pz_X12_wrong_1 ad cy B qr s1 a1 w0) (fun u : va_W => wpost dC dI cy A u) A) (List.toArray [.ref (ad 0), .int a1]) s 0 0 A) (F0 m 38 ls []) := by
        intro n38
        induction n38 with
        | zero => intro v38_2 v38_4 f38_12_1 H locs ls r11 t12 r13 t14 r15 t16 r17 t18 r20 t21 hm38 hw c19 c22 hM hl; omega
        | succ n38 ih38 =>
          intro v38_2 v38_4 f38_12_1 H locs ls r11 t12 r13 t14 r15 t16 r17 t18 r20 t21 hm38 hw c19 c22 hM hl
          replace hM := hM.suc (fun _ => e_X12_wrong_38)
          refine lv_iload hx hb dX12_wrong_38 (lv_at hl 4 rfl) ?_
          refine lv_bipush (v := 7) hx hb dX12_wrong_40 (by decide) ?_
          refine lv_icmp_ge (tgt := 88) hx hb dX12_wrong_42 (by decide) (fun c23 => ?_) (fun c23 => ?_)
          · have c23 : (7 : Int) ≤ v38_4.toInt := wk_le.mp c23
            replace hM := hM.pos c23
            obtain ⟨x24, ex24⟩ : ∃ y : Int32, y = v25_3 + Int32.ofInt 1 := ⟨_, rfl⟩
            have erx24 := ex24
            refine lv_iinc (v := x24) (lv' := [(3, .int x24), (0, .ref (ad 0)), (1, .int a1), (2, .int v38_2), (4, .int v38_4)]) hx hb dX12_wrong_88 hl (k := 3) rfl ex24.symm (by decide) rfl (fun ls hl => ?_)
            have ex24 : x24.toInt = v25_3.toInt + 1 := by rw [ex24]; exact wk_add (y := 1) (show -2147483648 ≤ v25_3.toInt + 1 by omega) (show v25_3.toInt + 1 ≤ 2147483647 by omega)
            replace hM := hM.lt ex24.symm
            refine lv_goto (tgt := 25) hx hb dX12_wrong_91 (by decide) ?_
            exact ih25 v38_2 x24 f25_12_0 H locs ls  (show 0 ≤ a1.toInt from r11) (show a1.toInt ≤ 7 from t12) (show 0 ≤ x24.toInt by first | with_reducible assumption | omega) (show x24.toInt ≤ 12 by first | with_reducible assumption | omega) (show 1 ≤ f25_12_0.toInt from r17) (show f25_12_0.toInt ≤ 10 from t18) (show (12 - x24.toInt).toNat < n25 by first | exact tn_lt hm25 (by omega) (by omega) | omega) hw  c19 hM (lv_sub hl [1, 2, 3, 0] rfl)
          · have c23 : v38_4.toInt < (7 : Int) := wk_leF c23
            replace hM := hM.neg (Int.not_le.mpr c23)
            refine lv_iload_n hx hb dX12_wrong_45 rfl (lv_at hl 2 rfl) ?_
            refine lv_iload_n hx hb dX12_wrong_46 rfl (lv_at hl 1 rfl) ?_
            refine lv_bipush (v := 7) hx hb dX12_wrong_47 (by decide) ?_
            refine lv_icmp_eq (tgt := 58) hx hb dX12_wrong_49 (by decide) (fun c25 => ?_) (fun c25 => ?_)
            · have c25 : a1.toInt = (7 : Int) := wk_eq.mp c25
              replace hM := hM.pos c25
              refine lv_aload_n hx hb dX12_wrong_58 rfl (lv_at hl 0 rfl) ?_
              refine lv_iload_n hx hb dX12_wrong_59 rfl (lv_at hl 3 rfl) ?_
              refine lv_iconst (v := 3) hx hb dX12_wrong_60 (by decide) ?_
              refine lv_iload hx hb dX12_wrong_61 (lv_at hl 4 rfl) ?_
              refine lv_iadd hx hb dX12_wrong_63 ?_
              refine lv_topi (fun x26 ex26 => ?_)
              have ezx26 := ex26
              have ex26 : x26.toInt = (3 : Int) + v38_4.toInt := by rw [ex26]; exact wk_add (show (-2147483648) ≤ (3 : Int) + v38_4.toInt by omega) (show (3 : Int) + v38_4.toInt ≤ 2147483647 by omega)
              replace hM := hM.lt ex26.symm
              refine tk_Vi hC hK hw hT hA hE hSR kM_at0 (by decide) rfl (kz_X12_streetOf_2 l adK adV dC dI cy ad B hB0 (Int.le_trans hB1 (by decide)) qr s1   v25_3 (show 0 ≤ v25_3.toInt from r13) (show v25_3.toInt ≤ 11 from t14) x26 (show 3 ≤ x26.toInt by first | with_reducible assumption | omega) (show x26.toInt ≤ 9 by first | with_reducible assumption | omega) w0 H.size hT ) (cwV 2 hC.2.2.2.2 uV_RX12_300 rfl rfl rfl (by decide +kernel) ⟨Nat.le_of_ble_eq_true rfl, Nat.le_of_ble_eq_true rfl⟩) rfl hl.1 rfl (Nat.le_of_ble_eq_true rfl) dX12_wrong_64 (fun r27 w29 H locs hp28 hw => ?_)
              obtain ⟨rfl, hv35, hg34⟩ := hp28
              obtain ⟨g31, g32, c33⟩ := hg34
              replace hM := hM.call hv35 rfl
              refine lv_aload_n hx hb dX12_wrong_67 rfl (lv_at hl 0 rfl) ?_
              refine lv_iload_n hx hb dX12_wrong_68 rfl (lv_at hl 3 rfl) ?_
              refine tk_Vi hC hK hw hT hA hE hSR kM_at0 (by decide) rfl (kz_X12_cheapOf_1 l adK adV dC dI cy ad B hB0 (Int.le_trans hB1 (by decide)) qr s1   v25_3 (show 0 ≤ v25_3.toInt from r13) (show v25_3.toInt ≤ 11 from t14) w0 H.size hT ) (cwV 1 hC.2.2.2.2 uV_RX12_465 rfl rfl rfl (by decide +kernel) ⟨Nat.le_of_ble_eq_true rfl, Nat.le_of_ble_eq_true rfl⟩) rfl hl.1 rfl (Nat.le_of_ble_eq_true rfl) dX12_wrong_69 (fun r36 w38 H locs hp37 hw => ?_)
              obtain ⟨rfl, hv43, hg42⟩ := hp37
              obtain ⟨g40, g41⟩ := hg42
              replace hM := hM.call hv43 rfl
              refine lv_icmp_eq (tgt := 79) hx hb dX12_wrong_72 (by decide) (fun c44 => ?_) (fun c44 => ?_)
              · have c44 : r27.toInt = r36.toInt := wk_eq.mp c44
                replace hM := hM.pos c44
                have hM : TT (fun n => m_X12_wrong n 0 a1.toInt (sI w0)) (fun n => b_X12_wrong_80 (j_X12_wrong 0 n) n 0 (a1.toInt) (v25_3.toInt) (v38_4.toInt) 0 (v38_2.toInt) (sI w0)) := hM
                refine lv_iconst (v := 0) hx hb dX12_wrong_79 (by decide) ?_
                refine lv_iadd hx hb dX12_wrong_80 ?_
                have nx45 := wk_i32 v38_2
                refine lv_topi (fun x46 ex46 => ?_)
                have ezx46 := ex46
                have ex46 : x46.toInt = v38_2.toInt + (0 : Int) := by rw [ex46]; exact wk_add (show (-2147483648) ≤ v38_2.toInt + (0 : Int) by omega) (show v38_2.toInt + (0 : Int) ≤ 2147483647 by omega)
                replace hM := hM.lt (o32_e (f := fun x y => x + y) ezx46 rfl (by decide))
                refine lv_istore_n (lv' := [(2, .int x46), (0, .ref (ad 0)), (1, .int a1), (3, .int v25_3), (4, .int v38_4)]) hx hb dX12_wrong_81 rfl hl (by decide) rfl (fun ls hl => ?_)
                obtain ⟨x47, ex47⟩ : ∃ y : Int32, y = v38_4 + Int32.ofInt 1 := ⟨_, rfl⟩
                have erx47 := ex47
                refine lv_iinc (v := x47) (lv' := [(4, .int x47), (2, .int x46), (0, .ref (ad 0)), (1, .int a1), (3, .int v25_3)]) hx hb dX12_wrong_82 hl (k := 4) rfl ex47.symm (by decide) rfl (fun ls hl => ?_)
                have ex47 : x47.toInt = v38_4.toInt + 1 := by rw [ex47]; exact wk_add (y := 1) (show -2147483648 ≤ v38_4.toInt + 1 by omega) (show v38_4.toInt + 1 ≤ 2147483647 by omega)
                replace hM := hM.lt ex47.symm
                refine lv_goto (tgt := 38) hx hb dX12_wrong_85 (by decide) ?_
                exact ih38 x46 x47 f38_12_1 H locs ls  (show 0 ≤ a1.toInt from r11) (show a1.toInt ≤ 7 from t12) (show 0 ≤ v25_3.toInt from r13) (show v25_3.toInt ≤ 11 from t14) (show 0 ≤ x47.toInt by first | with_reducible assumption | omega) (show x47.toInt ≤ 7 by first | with_reducible assumption | omega) (show 1 ≤ f25_12_0.toInt from r17) (show f25_12_0.toInt ≤ 10 from t18) (show 1 ≤ f38_12_1.toInt from r20) (show f38_12_1.toInt ≤ 12 from t21) (show (7 - x47.toInt).toNat < n38 by first | exact tn_lt hm38 (by omega) (by omega) | omega) hw  c19 c22 hM (lv_sub hl [2, 3, 1, 4, 0] rfl)
              · have c44 : ¬ r27.toInt = r36.toInt := wk_eqF c44
                replace hM := hM.neg c44
                refine lv_iconst (v := 1) hx hb dX12_wrong_75 (by decide) ?_
                refine lv_goto (tgt := 80) hx hb dX12_wrong_76 (by decide) ?_
                refine lv_iadd hx hb dX12_wrong_80 ?_
                have nx48 := wk_i32 v38_2
                refine lv_topi (fun x49 ex49 => ?_)
                have ezx49 := ex49
                replace hM := hM.lt (o32_e (f := fun x y => x + y) ezx49 rfl (by decide))
                refine lv_istore_n (lv' := [(2, .int x49), (0, .ref (ad 0)), (1, .int a1), (3, .int v25_3), (4, .int v38_4)]) hx hb dX12_wrong_81 rfl hl (by decide) rfl (fun ls hl => ?_)
                obtain ⟨x50, ex50⟩ : ∃ y : Int32, y = v38_4 + Int32.ofInt 1 := ⟨_, rfl⟩
                have erx50 := ex50
                refine lv_iinc (v := x50) (lv' := [(4, .int x50), (2, .int x49), (0, .ref (ad 0)), (1, .int a1), (3, .int v25_3)]) hx hb dX12_wrong_82 hl (k := 4) rfl ex50.symm (by decide) rfl (fun ls hl => ?_)
                have ex50 : x50.toInt = v38_4.toInt + 1 := by rw [ex50]; exact wk_add (y := 1) (show -2147483648 ≤ v38_4.toInt + 1 by omega) (show v38_4.toInt + 1 ≤ 2147483647 by omega)
                replace hM := hM.lt ex50.symm
                refine lv_goto (tgt := 38) hx hb dX12_wrong_85 (by decide) ?_
                exact ih38 x49 x50 f38_12_1 H locs ls  (show 0 ≤ a1.toInt from r11) (show a1.toInt ≤ 7 from t12) (show 0 ≤ v25_3.toInt from r13) (show v25_3.toInt ≤ 11 from t14) (show 0 ≤ x50.toInt by first | with_reducible assumption | omega) (show x50.toInt ≤ 7 by first | with_reducible assumption | omega) (show 1 ≤ f25_12_0.toInt from r17) (show f25_12_0.toInt ≤ 10 from t18) (show 1 ≤ f38_12_1.toInt from r20) (show f38_12_1.toInt ≤ 12 from t21) (show (7 - x50.toInt).toNat < n38 by first | exact tn_lt hm38 (by omega) (by omega) | omega) hw  c19 c22 hM (lv_sub hl [2, 3, 1, 4, 0] rfl)
            · have c25 : ¬ a1.toInt = (7 : Int) := wk_eqF c25
              replace hM := hM.neg c25
              refine lv_iload_n hx hb dX12_wrong_52 rfl (lv_at hl 1 rfl) ?_
              refine lv_iload hx hb dX12_wrong_53 (lv_at hl 4 rfl) ?_
              refine lv_icmp_ne (tgt := 79) hx hb dX12_wrong_55 (by decide) (fun c51 => ?_) (fun c51 => ?_)
              · have c51 : ¬ a1.toInt = v38_4.toInt := wk_eqF c51
                replace hM := hM.pos c51
                have hM : TT (fun n => m_X12_wrong n 0 a1.toInt (sI w0)) (fun n => b_X12_wrong_80 (j_X12_wrong 0 n) n 0 (a1.toInt) (v25_3.toInt) (v38_4.toInt) 0 (v38_2.toInt) (sI w0)) := hM
                refine lv_iconst (v := 0) hx hb dX12_wrong_79 (by decide) ?_
                refine lv_iadd hx hb dX12_wrong_80 ?_
                have nx52 := wk_i32 v38_2
                refine lv_topi (fun x53 ex53 => ?_)
                have ezx53 := ex53
                have ex53 : x53.toInt = v38_2.toInt + (0 : Int) := by rw [ex53]; exact wk_add (show (-2147483648) ≤ v38_2.toInt + (0 : Int) by omega) (show v38_2.toInt + (0 : Int) ≤ 2147483647 by omega)
                replace hM := hM.lt (o32_e (f := fun x y => x + y) ezx53 rfl (by decide))
                refine lv_istore_n (lv' := [(2, .int x53), (0, .ref (ad 0)), (1, .int a1), (3, .int v25_3), (4, .int v38_4)]) hx hb dX12_wrong_81 rfl hl (by decide) rfl (fun ls hl => ?_)
                obtain ⟨x54, ex54⟩ : ∃ y : Int32, y = v38_4 + Int32.ofInt 1 := ⟨_, rfl⟩
                have erx54 := ex54
                refine lv_iinc (v := x54) (lv' := [(4, .int x54), (2, .int x53), (0, .ref (ad 0)), (1, .int a1), (3, .int v25_3)]) hx hb dX12_wrong_82 hl (k := 4) rfl ex54.symm (by decide) rfl (fun ls hl => ?_)
                have ex54 : x54.toInt = v38_4.toInt + 1 := by rw [ex54]; exact wk_add (y := 1) (show -2147483648 ≤ v38_4.toInt + 1 by omega) (show v38_4.toInt + 1 ≤ 2147483647 by omega)
                replace hM := hM.lt ex54.symm
                refine lv_goto (tgt := 38) hx hb dX12_wrong_85 (by decide) ?_
                exact ih38 x53 x54 f38_12_1 H locs ls  (show 0 ≤ a1.toInt from r11) (show a1.toInt ≤ 7 from t12) (show 0 ≤ v25_3.toInt from r13) (show v25_3.toInt ≤ 11 from t14) (show 0 ≤ x54.toInt by first | with_reducible assumption | omega) (show x54.toInt ≤ 7 by first | with_reducible assumption | omega) (show 1 ≤ f25_12_0.toInt from r17) (show f25_12_0.toInt ≤ 10 from t18) (show 1 ≤ f38_12_1.toInt from r20) (show f38_12_1.toInt ≤ 12 from t21) (show (7 - x54.toInt).toNat < n38 by first | exact tn_lt hm38 (by omega) (by omega) | omega) hw  c19 c22 hM (lv_sub hl [2, 3, 1, 4, 0] rfl)
              · have c51 : a1.toInt = v38_4.toInt := wk_eq.mp c51
                replace hM := hM.neg (fun q => q c51)
                refine lv_aload_n hx hb dX12_wrong_58 rfl (lv_at hl 0 rfl) ?_
                refine lv_iload_n hx hb dX12_wrong_59 rfl (lv_at hl 3 rfl) ?_
                refine lv_iconst (v := 3) hx hb dX12_wrong_60 (by decide) ?_
                refine lv_iload hx hb dX12_wrong_61 (lv_at hl 4 rfl) ?_
                refine lv_iadd hx hb dX12_wrong_63 ?_
                refine lv_topi (fun x55 ex55 => ?_)
                have ezx55 := ex55
                have ex55 : x55.toInt = (3 : Int) + v38_4.toInt := by rw [ex55]; exact wk_add (show (-2147483648) ≤ (3 : Int) + v38_4.toInt by omega) (show (3 : Int) + v38_4.toInt ≤ 2147483647 by omega)
                replace hM := hM.lt ex55.symm
                refine tk_Vi hC hK hw hT hA hE hSR kM_at0 (by decide) rfl (kz_X12_streetOf_2 l adK adV dC dI cy ad B hB0 (Int.le_trans hB1 (by decide)) qr s1   v25_3 (show 0 ≤ v25_3.toInt from r13) (show v25_3.toInt ≤ 11 from t14) x55 (show 3 ≤ x55.toInt by first | with_reducible assumption | omega) (show x55.toInt ≤ 9 by first | with_reducible assumption | omega) w0 H.size hT ) (cwV 2 hC.2.2.2.2 uV_RX12_300 rfl rfl rfl (by decide +kernel) ⟨Nat.le_of_ble_eq_true rfl, Nat.le_of_ble_eq_true rfl⟩) rfl hl.1 rfl (Nat.le_of_ble_eq_true rfl) dX12_wrong_64 (fun r56 w58 H locs hp57 hw => ?_)
                obtain ⟨rfl, hv64, hg63⟩ := hp57
                obtain ⟨g60, g61, c62⟩ := hg63
                replace hM := hM.call hv64 rfl
                refine lv_aload_n hx hb dX12_wrong_67 rfl (lv_at hl 0 rfl) ?_
                refine lv_iload_n hx hb dX12_wrong_68 rfl (lv_at hl 3 rfl) ?_
                refine tk_Vi hC hK hw hT hA hE hSR kM_at0 (by decide) rfl (kz_X12_cheapOf_1 l adK adV dC dI cy ad B hB0 (Int.le_trans hB1 (by decide)) qr s1   v25_3 (show 0 ≤ v25_3.toInt from r13) (show v25_3.toInt ≤ 11 from t14) w0 H.size hT ) (cwV 1 hC.2.2.2.2 uV_RX12_465 rfl rfl rfl (by decide +kernel) ⟨Nat.le_of_ble_eq_true rfl, Nat.le_of_ble_eq_true rfl⟩) rfl hl.1 rfl (Nat.le_of_ble_eq_true rfl) dX12_wrong_69 (fun r65 w67 H locs hp66 hw => ?_)
                obtain ⟨rfl, hv72, hg71⟩ := hp66
                obtain ⟨g69, g70⟩ := hg71
                replace hM := hM.call hv72 rfl
                refine lv_icmp_eq (tgt := 79) hx hb dX12_wrong_72 (by decide) (fun c73 => ?_) (fun c73 => ?_)
                · have c73 : r56.toInt = r65.toInt := wk_eq.mp c73
                  replace hM := hM.pos c73
                  have hM : TT (fun n => m_X12_wrong n 0 a1.toInt (sI w0)) (fun n => b_X12_wrong_80 (j_X12_wrong 0 n) n 0 (a1.toInt) (v25_3.toInt) (v38_4.toInt) 0 (v38_2.toInt) (sI w0)) := hM
                  refine lv_iconst (v := 0) hx hb dX12_wrong_79 (by decide) ?_
                  refine lv_iadd hx hb dX12_wrong_80 ?_
                  have nx74 := wk_i32 v38_2
                  refine lv_topi (fun x75 ex75 => ?_)
                  have ezx75 := ex75
                  have ex75 : x75.toInt = v38_2.toInt + (0 : Int) := by rw [ex75]; exact wk_add (show (-2147483648) ≤ v38_2.toInt + (0 : Int) by omega) (show v38_2.toInt + (0 : Int) ≤ 2147483647 by omega)
                  replace hM := hM.lt (o32_e (f := fun x y => x + y) ezx75 rfl (by decide))
                  refine lv_istore_n (lv' := [(2, .int x75), (0, .ref (ad 0)), (1, .int a1), (3, .int v25_3), (4, .int v38_4)]) hx hb dX12_wrong_81 rfl hl (by decide) rfl (fun ls hl => ?_)
                  obtain ⟨x76, ex76⟩ : ∃ y : Int32, y = v38_4 + Int32.ofInt 1 := ⟨_, rfl⟩
                  have erx76 := ex76
                  refine lv_iinc (v := x76) (lv' := [(4, .int x76), (2, .int x75), (0, .ref (ad 0)), (1, .int a1), (3, .int v25_3)]) hx hb dX12_wrong_82 hl (k := 4) rfl ex76.symm (by decide) rfl (fun ls hl => ?_)
                  have ex76 : x76.toInt = v38_4.toInt + 1 := by rw [ex76]; exact wk_add (y := 1) (show -2147483648 ≤ v38_4.toInt + 1 by omega) (show v38_4.toInt + 1 ≤ 2147483647 by omega)
                  replace hM := hM.lt ex76.symm
                  refine lv_goto (tgt := 38) hx hb dX12_wrong_85 (by decide) ?_
                  exact ih38 x75 x76 f38_12_1 H locs ls  (show 0 ≤ a1.toInt from r11) (show a1.toInt ≤ 7 from t12) (show 0 ≤ v25_3.toInt from r13) (show v25_3.toInt ≤ 11 from t14) (show 0 ≤ x76.toInt by first | with_reducible assumption | omega) (show x76.toInt ≤ 7 by first | with_reducible assumption | omega) (show 1 ≤ f25_12_0.toInt from r17) (show f25_12_0.toInt ≤ 10 from t18) (show 1 ≤ f38_12_1.toInt from r20) (show f38_12_1.toInt ≤ 12 from t21) (show (7 - x76.toInt).toNat < n38 by first | exact tn_lt hm38 (by omega) (by omega) | omega) hw  c19 c22 hM (lv_sub hl [2, 3, 1, 4, 0] rfl)
                · have c73 : ¬ r56.toInt = r65.toInt := wk_eqF c73
                  replace hM := hM.neg c73
                  refine lv_iconst (v := 1) hx hb dX12_wrong_75 (by decide) ?_
                  refine lv_goto (tgt := 80) hx hb dX12_wrong_76 (by decide) ?_
                  refine lv_iadd hx hb dX12_wrong_80 ?_
                  have nx77 := wk_i32 v38_2
                  refine lv_topi (fun x78 ex78 => ?_)
                  have ezx78 := ex78
                  replace hM := hM.lt (o32_e (f := fun x y => x + y) ezx78 rfl (by decide))
                  refine lv_istore_n (lv' := [(2, .int x78), (0, .ref (ad 0)), (1, .int a1), (3, .int v25_3), (4, .int v38_4)]) hx hb dX12_wrong_81 rfl hl (by decide) rfl (fun ls hl => ?_)
                  obtain ⟨x79, ex79⟩ : ∃ y : Int32, y = v38_4 + Int32.ofInt 1 := ⟨_, rfl⟩
                  have erx79 := ex79
                  refine lv_iinc (v := x79) (lv' := [(4, .int x79), (2, .int x78), (0, .ref (ad 0)), (1, .int a1), (3, .int v25_3)]) hx hb dX12_wrong_82 hl (k := 4) rfl ex79.symm (by decide) rfl (fun ls hl => ?_)
                  have ex79 : x79.toInt = v38_4.toInt + 1 := by rw [ex79]; exact wk_add (y := 1) (show -2147483648 ≤ v38_4.toInt + 1 by omega) (show v38_4.toInt + 1 ≤ 2147483647 by omega)
                  replace hM := hM.lt ex79.symm
                  refine lv_goto (tgt := 38) hx hb dX12_wrong_85 (by decide) ?_
                  exact ih38 x78 x79 f38_12_1 H locs ls  (show 0 ≤ a1.toInt from r11) (show a1.toInt ≤ 7 from t12) (show 0 ≤ v25_3.toInt from r13) (show v25_3.toInt ≤ 11 from t14) (show 0 ≤ x79.toInt by first | with_reducible assumption | omega) (show x79.toInt ≤ 7 by first | with_reducible assumption | omega) (show 1 ≤ f25_12_0.toInt from r17) (show f25_12_0.toInt ≤ 10 from t18) (show 1 ≤ f38_12_1.toInt from r20) (show f38_12_1.toInt ≤ 12 from t21) (show (7 - x79.toInt).toNat < n38 by first | exact tn_lt hm38 (by omega) (by omega) | omega) hw  c19 c22 hM (lv_sub hl [2, 3, 1, 4, 0] rfl)
      replace hM := hM.suc (fun _ => e_X12_wrong_25)
      refine lv_iload_n hx hb dX12_wrong_25 rfl (lv_at hl 3 rfl) ?_
      refine lv_aload_n hx hb dX12_wrong_26 rfl (lv_at hl 0 rfl) ?_
      refine tk_getA hC hK hw hT hinX12 kM_at0 (by decide) rfl 26 (by decide) (List.mem_cons_of_mem _ uw_7_1) rfl rfl dX12_wrong_27 ?_
      refine lv_iconst (v := 1) hx hb dX12_wrong_30 (by decide) ?_
      refine tk_ialdR hC hK hw hT kM_at12 rfl (by decide) (by decide) dX12_wrong_31 (fun x80 c81 Ex80 => ?_)
      have hox80 := c81
      replace hM := hM.rd (sI_at hox80)
      have bx80 : 0 ≤ x80.toInt ∧ x80.toInt ≤ 12 := (tk_rg1 rfl).mp Ex80
      have c81 : gi w0 12 1 = x80 := c81
      refine lv_icmp_ge (tgt := 94) hx hb dX12_wrong_32 (by decide) (fun c82 => ?_) (fun c82 => ?_)
      · have c82 : x80.toInt ≤ v25_3.toInt := wk_le.mp c82
        replace hM := hM.pos c82
        refine lv_iload_n hx hb dX12_wrong_94 rfl (lv_at hl 2 rfl) ?_
        exact tk_iret hC hr hlocks hK ⟨rfl, hM.ret rfl, (Or.inl ⟨(show 0 ≤ a1.toInt from r4), (show a1.toInt ≤ 7 from t5), ⟨f25_12_0, c10, (show 1 ≤ f25_12_0.toInt from r8), (show f25_12_0.toInt ≤ 10 from t9)⟩⟩)⟩ hw dX12_wrong_95
      · have c82 : v25_3.toInt < x80.toInt := wk_leF c82
        replace hM := hM.neg (Int.not_le.mpr c82)
        refine lv_iconst (v := 0) hx hb dX12_wrong_35 (by decide) ?_
        refine lv_istore (lv' := [(4, .int 0), (0, .ref (ad 0)), (1, .int a1), (2, .int v25_2), (3, .int v25_3)]) hx hb dX12_wrong_36 hl (by decide) rfl (fun ls hl => ?_)
        exact L38 ((7 - (0 : Int)).toNat + 1) v25_2 0 x80 H locs ls  (show 0 ≤ a1.toInt from r4) (show a1.toInt ≤ 7 from t5) (show 0 ≤ v25_3.toInt from r6) (show v25_3.toInt ≤ 11 by first | with_reducible assumption | omega) (by decide) (by decide) (show 1 ≤ f25_12_0.toInt from r8) (show f25_12_0.toInt ≤ 10 from t9) (show 1 ≤ x80.toInt by first | with_reducible assumption | omega) (show x80.toInt ≤ 12 by first | with_reducible assumption | omega) (Nat.lt_succ_self _) hw  c10 c81 hM (lv_sub hl [1, 2, 3, 4, 0] rfl)
  have hM : TT (fun n => m_X12_wrong n 0 a1.toInt (sI w0)) (fun n => m_X12_wrong n 0 a1.toInt (sI w0)) := TT.rf
  refine lv_aload_n hx hb dX12_wrong_0 rfl (lv_at hl 0 rfl) ?_
  refine tk_Vi hC hK hw hT hA hE hSR kM_at0 (by decide) rfl (kz_X12_isTown_1 l adK adV dC dI cy ad B hB0 (Int.le_trans hB1 (by decide)) qr s1    w0 s.heap.size hT ) (cwV 0 hC.2.2.2.2 uV_RX12_337 rfl rfl rfl (by decide +kernel) ⟨Nat.le_of_ble_eq_true rfl, Nat.le_of_ble_eq_true rfl⟩) rfl hl.1 rfl (Nat.le_of_ble_eq_true rfl) dX12_wrong_1 (fun r83 w85 H locs hp84 hw => ?_)
  obtain ⟨rfl, hv92, hg91⟩ := hp84
  rcases hg91 with ⟨rfl, ⟨x87, c88, rx87, tx87⟩⟩ | ⟨rfl, ⟨x89, c90, rx89, tx89⟩⟩
  · replace hM := hM.call (r' := 0) hv92 (by decide)
    refine lv_if_eq (tgt := 19) hx hb dX12_wrong_4 (by decide) (fun _ => ?_) (fun c => absurd (by decide) c)
    replace hM := hM.pos (by decide)
    exact J19 x87 H locs ls  (show 0 ≤ x87.toInt by first | with_reducible assumption | omega) (show x87.toInt ≤ 10 by first | with_reducible assumption | omega)  hw  c88 hM (lv_sub hl [0, 1] rfl)
  · replace hM := hM.call (r' := 1) hv92 (by decide)
    refine lv_if_eq (tgt := 19) hx hb dX12_wrong_4 (by decide) (fun c => absurd c (by decide)) (fun _ => ?_)
    replace hM := hM.neg (by decide)
    refine lv_iload_n hx hb dX12_wrong_7 rfl (lv_at hl 1 rfl) ?_
    refine lv_i2l hx hb dX12_wrong_8 rfl ?_
    refine lv_topl (fun x93 ex93 => ?_)
    have ex93 : x93.toInt = a1.toInt := by rw [ex93]; exact wk_i2l _
    have bx93 := wk_i32 a1
    replace hM := hM.lt ex93.symm
    refine lv_lconst (v := 0) hx hb dX12_wrong_9 (by decide) ?_
    refine lv_ldc2 (v := 7) hx hb hC.2.2.2.1 (hC.2.2.2.2 _ (List.mem_cons_of_mem _ uw_40_23)) dX12_wrong_10 ?_
    refine tk_Si hC hK hw hT hA hE hSR (kz_X12_in_13 l adK adV dC dI cy ad B hB0 (Int.le_trans hB1 (by decide)) qr s1   x93 (show (-2147483648) ≤ x93.toInt by first | with_reducible assumption | omega) (show x93.toInt ≤ 2147483647 by first | with_reducible assumption | omega) w0 H.size hT ) (va_cwS 3 hC.2.2.2.2 uS_RX12_122 rfl rfl rfl (by decide +kernel) ⟨Nat.le_of_ble_eq_true rfl, Nat.le_of_ble_eq_true rfl⟩) rfl hl.1 rfl (Nat.le_of_ble_eq_true rfl) dX12_wrong_13 (fun r94 w96 H locs hp95 hw => ?_)
    obtain ⟨rfl, hv101, hg100⟩ := hp95
    rcases hg100 with rfl | ⟨rfl, g98, g99⟩
    · replace hM := hM.call (r' := 0) hv101 (by decide)
      refine lv_if_ne (tgt := 21) hx hb dX12_wrong_16 (by decide) (fun c => absurd (by decide) c) (fun _ => ?_)
      replace hM := hM.neg (by decide)
      exact J19 x89 H locs ls  (show 0 ≤ x89.toInt by first | with_reducible assumption | omega) (show x89.toInt ≤ 10 by first | with_reducible assumption | omega)  hw  c90 hM (lv_sub hl [0, 1] rfl)
    · replace hM := hM.call (r' := 1) hv101 (by decide)
      refine lv_if_ne (tgt := 21) hx hb dX12_wrong_16 (by decide) (fun _ => ?_) (fun c => absurd c (by decide))
      replace hM := hM.pos (by decide)
      refine lv_iconst (v := 0) hx hb dX12_wrong_21 (by decide) ?_
      refine lv_istore_n (lv' := [(2, .int 0), (0, .ref (ad 0)), (1, .int a1)]) hx hb dX12_wrong_22 rfl hl (by decide) rfl (fun ls hl => ?_)
      refine lv_iconst (v := 0) hx hb dX12_wrong_23 (by decide) ?_
      refine lv_istore_n (lv' := [(3, .int 0), (2, .int 0), (0, .ref (ad 0)), (1, .int a1)]) hx hb dX12_wrong_24 rfl hl (by decide) rfl (fun ls hl => ?_)
      exact L25 ((12 - (0 : Int)).toNat + 1) 0 0 x89 H locs ls  (show 0 ≤ a1.toInt by first | with_reducible assumption | omega) (show a1.toInt ≤ 7 by first | with_reducible assumption | omega) (by decide) (by decide) (show 1 ≤ x89.toInt by first | with_reducible assumption | omega) (show x89.toInt ≤ 10 by first | with_reducible assumption | omega) (Nat.lt_succ_self _) hw  c90 hM (lv_sub hl [2, 3, 1, 0] rfl)
