abbrev P_X7_cornerAcross_2 (ad : Nat → Nat) (cy : Nat → ClassId) (B : Int) (qr : Nat) (s1 : Int) (a1 : Int32) (w0 : va_W) : Int32 → va_W → Prop := fun r u => TW ksC ad cy B qr s1 u ∧ FE ksC ([] : List (Nat × Nat × Nat)) w0 u ∧ ((0 ≤ r.toInt ∧ r.toInt ≤ 9))
set_option maxHeartbeats 4000000 in
set_option maxRecDepth 100000 in
theorem k_X7_cornerAcross_2 (l : Launch) (adK adV : Nat → Nat) (dC : Nat → ClassId) (dI : Nat → Nat → Nat) (cy : Nat → ClassId) (ad : Nat → Nat) (B : Int) (hB0 : 2147483648 ≤ B) (hB1 : B ≤ 1152921504606846976) (qr : Nat) (s1 : Int)  (a1 : Int32) (ra1 : 0 ≤ a1.toInt) (ta1 : a1.toInt ≤ 11) (w0 : va_W) (sz : Nat) (hT : TW ksC ad cy B qr s1 w0)  : Met l yX7_cornerAcross (wu yX7_cornerAcross cX7_cornerAcross 3 (some .int)) ({ frames := 1, cells := 0, slots := 0, locals := 12 }) (va_Pc [.ref (ad 39), .int a1, .int 0] (wpreS adK adV dC dI cy sz w0)) (va_Qi (P_X7_cornerAcross_2 ad cy B qr s1 a1 w0) (fun u : va_W => wpost dC dI cy (va_A w0 sz) u) (va_A w0 sz)) 0 0 (va_A w0 sz) := by
  refine Met.ofW (cc := cX7_cornerAcross) (maxL := 3) (ret := (some .int)) (by decide) rfl ?_
  intro p e s m args below meth c s₁ Bk hml hv
  obtain ⟨rfl, ⟨hsz, hP, hK, hD0⟩, hE, hSR⟩ := hv
  have hx := Bk.exec
  have hb := Bk.bytes
  have hr := Bk.returns
  have hlocks := Bk.notSynchronized
  have hC : CallFix p m c cX7_cornerAcross 3 s _ (wu yX7_cornerAcross cX7_cornerAcross 3 (some .int)) RX7 := ⟨hx, hb, hml, findClass_of_methodNamed Bk.named, atoms_spec (ws := (wu yX7_cornerAcross cX7_cornerAcross 3 (some .int))) Bk.pre⟩
  subst hsz
  have hD := hD0.self (sz := s.heap.size)
  generalize hAe : va_A w0 s.heap.size = A at hD hE ⊢
  have hA : ∀ q : Nat, s.heap.size ≤ q → A q := fun q h => by rw [← hAe]; exact Or.inr h
  have hw : Wd dC dI A s.heap s.heap [] w0 := ⟨hP, hD, va_S.rf⟩
  have hF : FE ksC ([] : List (Nat × Nat × Nat)) w0 w0 := FE.rf
  have hl := lv_entry ([.ref (ad 39), .int a1, .int 0]) (n := 3) (Nat.le_of_ble_eq_true rfl)
  rw [lg_entry_eq]
  generalize (lg_sl ([.ref (ad 39), .int a1, .int 0]) ++ List.replicate (3 - (lg_sl ([.ref (ad 39), .int a1, .int 0])).length) Slot.unset).toArray = ls at hl ⊢
  have hl : lv_has ls 3 [(0, .ref (ad 39)), (1, .int a1), (2, .int 0)] := hl
  generalize hloc : ([] : List Loc) = locs at hw ⊢
  have hinX7 : ∀ w ∈ u_ws RX7 TX7 12, w ∈ (wu yX7_cornerAcross cX7_cornerAcross 3 (some .int)) := fun _ h => List.mem_cons_of_mem _ (up_73 h)
  refine lv_aload_n hx hb dX7_cornerAcross_0 rfl (lv_at hl 0 rfl) ?_
  refine tk_getO hC hK hw hT hinX7 kC_at39 (by decide) rfl 0 (by decide) (List.mem_cons_of_mem _ uw_2_17) rfl rfl dX7_cornerAcross_1 ?_
  refine lv_iconst (v := 2) hx hb dX7_cornerAcross_4 (by decide) ?_
  refine lv_iload_n hx hb dX7_cornerAcross_5 rfl (lv_at hl 1 rfl) ?_
  refine lv_imul hx hb dX7_cornerAcross_6 ?_
  refine lv_topi (fun x1 ex1 => ?_)
  have ex1 : x1.toInt = (2 : Int) * a1.toInt := by rw [ex1]; exact wk_mul (show (-2147483648) ≤ (2 : Int) * a1.toInt by omega) (show (2 : Int) * a1.toInt ≤ 2147483647 by omega)
  refine lv_iconst (v := 1) hx hb dX7_cornerAcross_7 (by decide) ?_
  refine lv_iadd hx hb dX7_cornerAcross_8 ?_
  refine lv_topi (fun x2 ex2 => ?_)
  have ex2 : x2.toInt = x1.toInt + (1 : Int) := by rw [ex2]; exact wk_add (show (-2147483648) ≤ x1.toInt + (1 : Int) by omega) (show x1.toInt + (1 : Int) ≤ 2147483647 by omega)
  refine lv_iload_n hx hb dX7_cornerAcross_9 rfl (lv_at hl 2 rfl) ?_
  refine lv_isub hx hb dX7_cornerAcross_10 ?_
  refine lv_topi (fun x3 ex3 => ?_)
  have ex3 : x3.toInt = x2.toInt - (0 : Int) := by rw [ex3]; exact wk_sub (show (-2147483648) ≤ x2.toInt - (0 : Int) by omega) (show x2.toInt - (0 : Int) ≤ 2147483647 by omega)
  refine tk_iald hC hK hw hT kC_at40 rfl rfl (show 0 ≤ x3.toInt by first | with_reducible assumption | omega) (show x3.toInt < 26 by first | with_reducible assumption | omega) dX7_cornerAcross_11 (fun x4 c5 rx4 tx4 => ?_)
  have c5 : gi w0 40 (2 * a1.toInt + 1).toNat = x4 := (congrArg (gi w0 40) (congrArg Int.toNat (show 2 * a1.toInt + 1 = x3.toInt by first | exact Int.le_antisymm (by omega) (by omega) | omega))).trans c5
  exact tk_iret hC hr hlocks hK ⟨hT, hF, ⟨(show 0 ≤ x4.toInt from rx4), (show x4.toInt ≤ 9 from tx4)⟩⟩ hw dX7_cornerAcross_12
abbrev P_X7_cornerAcross_3 (ad : Nat → Nat) (cy : Nat → ClassId) (B : Int) (qr : Nat) (s1 : Int) (a1 : Int32) (w0 : va_W) : Int32 → va_W → Prop := fun r u => TW ksC ad cy B qr s1 u ∧ FE ksC ([] : List (Nat × Nat × Nat)) w0 u ∧ ((0 ≤ r.toInt ∧ r.toInt ≤ 9))
set_option maxHeartbeats 4000000 in
set_option maxRecDepth 100000 in
theorem k_X7_cornerAcross_3 (l : Launch) (adK adV : Nat → Nat) (dC : Nat → ClassId) (dI : Nat → Nat → Nat) (cy : Nat → ClassId) (ad : Nat → Nat) (B : Int) (hB0 : 2147483648 ≤ B) (hB1 : B ≤ 1152921504606846976) (qr : Nat) (s1 : Int)  (a1 : Int32) (ra1 : 0 ≤ a1.toInt) (ta1 : a1.toInt ≤ 11) (w0 : va_W) (sz : Nat) (hT : TW ksC ad cy B qr s1 w0)  : Met l yX7_cornerAcross (wu yX7_cornerAcross cX7_cornerAcross 3 (some .int)) ({ frames := 1, cells := 0, slots := 0, locals := 12 }) (va_Pc [.ref (ad 39), .int a1, .int 1] (wpreS adK adV dC dI cy sz w0)) (va_Qi (P_X7_cornerAcross_3 ad cy B qr s1 a1 w0) (fun u : va_W => wpost dC dI cy (va_A w0 sz) u) (va_A w0 sz)) 0 0 (va_A w0 sz) := by
  refine Met.ofW (cc := cX7_cornerAcross) (maxL := 3) (ret := (some .int)) (by decide) rfl ?_
  intro p e s m args below meth c s₁ Bk hml hv
  obtain ⟨rfl, ⟨hsz, hP, hK, hD0⟩, hE, hSR⟩ := hv
  have hx := Bk.exec
  have hb := Bk.bytes
  have hr := Bk.returns
  have hlocks := Bk.notSynchronized
  have hC : CallFix p m c cX7_cornerAcross 3 s _ (wu yX7_cornerAcross cX7_cornerAcross 3 (some .int)) RX7 := ⟨hx, hb, hml, findClass_of_methodNamed Bk.named, atoms_spec (ws := (wu yX7_cornerAcross cX7_cornerAcross 3 (some .int))) Bk.pre⟩
  subst hsz
  have hD := hD0.self (sz := s.heap.size)
  generalize hAe : va_A w0 s.heap.size = A at hD hE ⊢
  have hA : ∀ q : Nat, s.heap.size ≤ q → A q := fun q h => by rw [← hAe]; exact Or.inr h
  have hw : Wd dC dI A s.heap s.heap [] w0 := ⟨hP, hD, va_S.rf⟩
  have hF : FE ksC ([] : List (Nat × Nat × Nat)) w0 w0 := FE.rf
  have hl := lv_entry ([.ref (ad 39), .int a1, .int 1]) (n := 3) (Nat.le_of_ble_eq_true rfl)
  rw [lg_entry_eq]
  generalize (lg_sl ([.ref (ad 39), .int a1, .int 1]) ++ List.replicate (3 - (lg_sl ([.ref (ad 39), .int a1, .int 1])).length) Slot.unset).toArray = ls at hl ⊢
  have hl : lv_has ls 3 [(0, .ref (ad 39)), (1, .int a1), (2, .int 1)] := hl
  generalize hloc : ([] : List Loc) = locs at hw ⊢
  have hinX7 : ∀ w ∈ u_ws RX7 TX7 12, w ∈ (wu yX7_cornerAcross cX7_cornerAcross 3 (some .int)) := fun _ h => List.mem_cons_of_mem _ (up_73 h)
  refine lv_aload_n hx hb dX7_cornerAcross_0 rfl (lv_at hl 0 rfl) ?_
  refine tk_getO hC hK hw hT hinX7 kC_at39 (by decide) rfl 0 (by decide) (List.mem_cons_of_mem _ uw_2_17) rfl rfl dX7_cornerAcross_1 ?_
  refine lv_iconst (v := 2) hx hb dX7_cornerAcross_4 (by decide) ?_
  refine lv_iload_n hx hb dX7_cornerAcross_5 rfl (lv_at hl 1 rfl) ?_
  refine lv_imul hx hb dX7_cornerAcross_6 ?_
  refine lv_topi (fun x1 ex1 => ?_)
  have ex1 : x1.toInt = (2 : Int) * a1.toInt := by rw [ex1]; exact wk_mul (show (-2147483648) ≤ (2 : Int) * a1.toInt by omega) (show (2 : Int) * a1.toInt ≤ 2147483647 by omega)
  refine lv_iconst (v := 1) hx hb dX7_cornerAcross_7 (by decide) ?_
  refine lv_iadd hx hb dX7_cornerAcross_8 ?_
  refine lv_topi (fun x2 ex2 => ?_)
  have ex2 : x2.toInt = x1.toInt + (1 : Int) := by rw [ex2]; exact wk_add (show (-2147483648) ≤ x1.toInt + (1 : Int) by omega) (show x1.toInt + (1 : Int) ≤ 2147483647 by omega)
  refine lv_iload_n hx hb dX7_cornerAcross_9 rfl (lv_at hl 2 rfl) ?_
  refine lv_isub hx hb dX7_cornerAcross_10 ?_
  refine lv_topi (fun x3 ex3 => ?_)
  have ex3 : x3.toInt = x2.toInt - (1 : Int) := by rw [ex3]; exact wk_sub (show (-2147483648) ≤ x2.toInt - (1 : Int) by omega) (show x2.toInt - (1 : Int) ≤ 2147483647 by omega)
  refine tk_iald hC hK hw hT kC_at40 rfl rfl (show 0 ≤ x3.toInt by first | with_reducible assumption | omega) (show x3.toInt < 26 by first | with_reducible assumption | omega) dX7_cornerAcross_11 (fun x4 c5 rx4 tx4 => ?_)
  have c5 : gi w0 40 (2 * a1.toInt + 0).toNat = x4 := (congrArg (gi w0 40) (congrArg Int.toNat (show 2 * a1.toInt + 0 = x3.toInt by first | exact Int.le_antisymm (by omega) (by omega) | omega))).trans c5
  exact tk_iret hC hr hlocks hK ⟨hT, hF, ⟨(show 0 ≤ x4.toInt from rx4), (show x4.toInt ≤ 9 from tx4)⟩⟩ hw dX7_cornerAcross_12
abbrev P_X1_follow_1 (ad : Nat → Nat) (cy : Nat → ClassId) (B : Int) (qr : Nat) (s1 : Int) (q1_ : Nat) (a2 : Int32) (w0 : va_W) : va_W → Prop := fun u => TW ksC ad cy (B + 9) qr s1 u ∧ FE ksC [(9, 0, 0), (9, 4, 4), (9, 7, 7)] w0 u ∧ ((True))
set_option maxHeartbeats 4000000 in
set_option maxRecDepth 100000 in
theorem k_X1_follow_1 (l : Launch) (adK adV : Nat → Nat) (dC : Nat → ClassId) (dI : Nat → Nat → Nat) (cy : Nat → ClassId) (ad : Nat → Nat) (B : Int) (hB0 : 2147483648 ≤ B) (hB1 : B ≤ 1152921504606846976) (qr : Nat) (s1 : Int)  (q1_ : Nat) (hkq1_ : ksC[q1_]? = some 9) (a2 : Int32) (ra2 : (-1) ≤ a2.toInt) (ta2 : a2.toInt ≤ 11) (w0 : va_W) (sz : Nat) (hT : TW ksC ad cy B qr s1 w0)  : Met l yX1_follow (wu yX1_follow cX1_follow 4 none) ({ frames := 2, cells := 0, slots := 0, locals := 34 }) (va_Pc [.ref (ad 149), .ref (ad q1_), .int a2] (wpreS adK adV dC dI cy sz w0)) (va_Qv (P_X1_follow_1 ad cy B qr s1 q1_ a2 w0) (fun u : va_W => wpost dC dI cy (va_A w0 sz) u) (va_A w0 sz)) 0 0 (va_A w0 sz) := by
  refine Met.ofW (cc := cX1_follow) (maxL := 4) (ret := none) (by decide) rfl ?_
  intro p e s m args below meth c s₁ Bk hml hv
  obtain ⟨rfl, ⟨hsz, hP, hK, hD0⟩, hE, hSR⟩ := hv
  have hx := Bk.exec
  have hb := Bk.bytes
  have hr := Bk.returns
  have hlocks := Bk.notSynchronized
  have hC : CallFix p m c cX1_follow 4 s _ (wu yX1_follow cX1_follow 4 none) RX1 := ⟨hx, hb, hml, findClass_of_methodNamed Bk.named, atoms_spec (ws := (wu yX1_follow cX1_follow 4 none)) Bk.pre⟩
  subst hsz
  have hD := hD0.self (sz := s.heap.size)
  generalize hAe : va_A w0 s.heap.size = A at hD hE ⊢
  have hA : ∀ q : Nat, s.heap.size ≤ q → A q := fun q h => by rw [← hAe]; exact Or.inr h
  have hw : Wd dC dI A s.heap s.heap [] w0 := ⟨hP, hD, va_S.rf⟩
  have hF : FE ksC [(9, 0, 0), (9, 4, 4), (9, 7, 7)] w0 w0 := FE.rf
  have hl := lv_entry ([.ref (ad 149), .ref (ad q1_), .int a2]) (n := 4) (Nat.le_of_ble_eq_true rfl)
  rw [lg_entry_eq]
  generalize (lg_sl ([.ref (ad 149), .ref (ad q1_), .int a2]) ++ List.replicate (4 - (lg_sl ([.ref (ad 149), .ref (ad q1_), .int a2])).length) Slot.unset).toArray = ls at hl ⊢
  have hl : lv_has ls 4 [(0, .ref (ad 149)), (1, .ref (ad q1_)), (2, .int a2)] := hl
  generalize hloc : ([] : List Loc) = locs at hw ⊢
  have hinX1 : ∀ w ∈ u_ws RX1 TX1 10, w ∈ (wu yX1_follow cX1_follow 4 none) := fun _ h => List.mem_cons_of_mem _ (up_78 h)
  have hinX5 : ∀ w ∈ u_ws RX5 TX5 14, w ∈ (wu yX1_follow cX1_follow 4 none) := fun _ h => List.mem_cons_of_mem _ (up_76 h)
  have hinX9 : ∀ w ∈ u_ws RX9 TX9 9, w ∈ (wu yX1_follow cX1_follow 4 none) := fun _ h => List.mem_cons_of_mem _ (up_82 h)
  have hinX7 : ∀ w ∈ u_ws RX7 TX7 12, w ∈ (wu yX1_follow cX1_follow 4 none) := fun _ h => List.mem_cons_of_mem _ (up_73 h)
  refine lv_iload_n hx hb dX1_follow_0 rfl (lv_at hl 2 rfl) ?_
  refine lv_iconst (v := (-1)) hx hb dX1_follow_1 (by decide) ?_
  refine lv_icmp_ne (tgt := 6) hx hb dX1_follow_2 (by decide) (fun c1 => ?_) (fun c1 => ?_)
  · have c1 : ¬ a2.toInt = (-1 : Int) := wk_eqF c1
    refine lv_aload_n hx hb dX1_follow_6 rfl (lv_at hl 0 rfl) ?_
    refine tk_getA hC hK hw hT hinX1 kC_at149 (by decide) rfl 0 (by decide) (List.mem_cons_of_mem _ uw_5_0) rfl rfl dX1_follow_7 ?_
    refine tk_getO hC hK hw hT hinX5 kC_at38 (by decide) rfl 0 (by decide) (List.mem_cons_of_mem _ uw_43_2) rfl rfl dX1_follow_10 ?_
    refine lv_iload_n hx hb dX1_follow_13 rfl (lv_at hl 2 rfl) ?_
    refine lv_aload_n hx hb dX1_follow_14 rfl (lv_at hl 1 rfl) ?_
    refine tk_geti hC hK hw hT hinX9 hkq1_ (by decide) rfl 0 (by decide) (List.mem_cons_of_mem _ uw_42_22) rfl rfl dX1_follow_15 (fun x2 c3 rx2 tx2 => ?_)
    refine tk_Vi hC hK hw hT hA hE hSR kC_at39 (by decide) rfl (k_X7_sideOf_2 l adK adV dC dI cy ad B hB0 (Int.le_trans hB1 (by decide)) qr s1   a2 (show 0 ≤ a2.toInt by first | with_reducible assumption | omega) (show a2.toInt ≤ 11 from ta2) x2 (show 0 ≤ x2.toInt by first | with_reducible assumption | omega) (show x2.toInt ≤ 9 by first | with_reducible assumption | omega) w0 s.heap.size hT ) (cwV 2 hC.2.2.2.2 uV_RX1_137 rfl rfl rfl (by decide +kernel) ⟨Nat.le_of_ble_eq_true rfl, Nat.le_of_ble_eq_true rfl⟩) rfl hl.1 rfl (Nat.le_of_ble_eq_true rfl) dX1_follow_18 (fun r4 w6 H locs hp5 hw => ?_)
    obtain ⟨hT, k7, hg10⟩ := hp5
    have hF := hF.tr k7 (by decide)
    have c11 := k7.gi hkq1_ (by decide) c3
    rcases hg10 with rfl | ⟨rfl, c8⟩ | ⟨rfl, c9⟩
    · refine lv_istore_n (lv' := [(3, .int (-1)), (0, .ref (ad 149)), (1, .ref (ad q1_)), (2, .int a2)]) hx hb dX1_follow_21 rfl hl (by decide) rfl (fun ls hl => ?_)
      refine lv_iload_n hx hb dX1_follow_22 rfl (lv_at hl 0 rfl) ?_
      refine lv_iconst (v := (-1)) hx hb dX1_follow_23 (by decide) ?_
      refine lv_icmp_ne (tgt := 28) hx hb dX1_follow_24 (by decide) (fun c => absurd (by decide) c) (fun _ => ?_)
      exact tk_vret hC hr hlocks hK ⟨(hT.up (show B ≤ (B + 9) by omega)), hF, trivial⟩ hw dX1_follow_27
    · refine lv_istore_n (lv' := [(3, .int 0), (0, .ref (ad 149)), (1, .ref (ad q1_)), (2, .int a2)]) hx hb dX1_follow_21 rfl hl (by decide) rfl (fun ls hl => ?_)
      refine lv_iload_n hx hb dX1_follow_22 rfl (lv_at hl 0 rfl) ?_
      refine lv_iconst (v := (-1)) hx hb dX1_follow_23 (by decide) ?_
      refine lv_icmp_ne (tgt := 28) hx hb dX1_follow_24 (by decide) (fun _ => ?_) (fun c => absurd c (by decide))
      refine lv_aload_n hx hb dX1_follow_28 rfl (lv_at hl 2 rfl) ?_
      refine lv_aload_n hx hb dX1_follow_29 rfl (lv_at hl 2 rfl) ?_
      refine tk_geti hC hK hw hT hinX9 hkq1_ (by decide) rfl 0 (by decide) (List.mem_cons_of_mem _ uw_42_22) rfl rfl dX1_follow_30 (fun x12 c13 rx12 tx12 => ?_)
      refine wk_top x2 (c13.symm.trans c11) ?_
      refine tk_puti hC hK hw hT hinX9 tyX9_ok nmX9 hkq1_ (by decide) rfl rfl 7 (by decide) (List.mem_cons_of_mem _ uw_45_15) rfl rfl rfl rfl (show (-1) ≤ x2.toInt by first | with_reducible assumption | omega) (show x2.toInt ≤ 9 by first | with_reducible assumption | omega) dX1_follow_33 (fun H locs w14 hw hT k16 c15 => ?_)
      have hF := hF.put hkq1_ (k := 7) (by decide) k16
      have c17 := k16.gi (Or.inr (by decide)) c11
      have c18 := k16.gi (Or.inl (tk_ne kC_at40 hkq1_ (by decide))) c8
      refine lv_aload_n hx hb dX1_follow_36 rfl (lv_at hl 2 rfl) ?_
      refine lv_aload_n hx hb dX1_follow_37 rfl (lv_at hl 1 rfl) ?_
      refine tk_getA hC hK hw hT hinX1 kC_at149 (by decide) rfl 0 (by decide) (List.mem_cons_of_mem _ uw_5_0) rfl rfl dX1_follow_38 ?_
      refine tk_getO hC hK hw hT hinX5 kC_at38 (by decide) rfl 0 (by decide) (List.mem_cons_of_mem _ uw_43_2) rfl rfl dX1_follow_41 ?_
      refine lv_iload_n hx hb dX1_follow_44 rfl (lv_at hl 3 rfl) ?_
      refine lv_iload_n hx hb dX1_follow_45 rfl (lv_at hl 0 rfl) ?_
      refine tk_Vi hC hK hw hT hA hE hSR kC_at39 (by decide) rfl (k_X7_cornerAcross_2 l adK adV dC dI cy ad B hB0 (Int.le_trans hB1 (by decide)) qr s1   a2 (show 0 ≤ a2.toInt by first | with_reducible assumption | omega) (show a2.toInt ≤ 11 from ta2) w14 H.size hT ) (cwV 2 hC.2.2.2.2 uV_RX1_147 rfl rfl rfl (by decide +kernel) ⟨Nat.le_of_ble_eq_true rfl, Nat.le_of_ble_eq_true rfl⟩) rfl hl.1 rfl (Nat.le_of_ble_eq_true rfl) dX1_follow_46 (fun r19 w21 H locs hp20 hw => ?_)
      obtain ⟨hT, k22, hg25⟩ := hp20
      have hF := hF.tr k22 (by decide)
      have c26 := k22.gi hkq1_ (by decide) c17
      have c27 := k22.gi kC_at40 rfl c18
      have c28 := k22.gi hkq1_ (by decide) c15
      obtain ⟨g23, g24⟩ := hg25
      refine tk_puti hC hK hw hT hinX9 tyX9_ok nmX9 hkq1_ (by decide) rfl rfl 0 (by decide) (List.mem_cons_of_mem _ uw_42_22) rfl rfl rfl rfl (show 0 ≤ r19.toInt by first | with_reducible assumption | omega) (show r19.toInt ≤ 9 by first | with_reducible assumption | omega) dX1_follow_49 (fun H locs w29 hw hT k31 c30 => ?_)
      have hF := hF.put hkq1_ (k := 0) (by decide) k31
      have c32 := k31.gi (Or.inl (tk_ne kC_at40 hkq1_ (by decide))) c27
      have c33 := k31.gi (Or.inr (by decide)) c28
      refine lv_aload_n hx hb dX1_follow_52 rfl (lv_at hl 2 rfl) ?_
      refine lv_dup hx hb dX1_follow_53 rfl ?_
      refine tk_getB hC hK hw hT hinX9 hkq1_ (by decide) rfl 4 (by decide) (List.mem_cons_of_mem _ uw_42_10) rfl rfl dX1_follow_54 (fun x34 c35 rx34 tx34 => ?_)
      refine lv_aload_n hx hb dX1_follow_57 rfl (lv_at hl 1 rfl) ?_
      refine tk_getA hC hK hw hT hinX1 kC_at149 (by decide) rfl 0 (by decide) (List.mem_cons_of_mem _ uw_5_0) rfl rfl dX1_follow_58 ?_
      refine tk_getO hC hK hw hT hinX5 kC_at38 (by decide) rfl 0 (by decide) (List.mem_cons_of_mem _ uw_43_2) rfl rfl dX1_follow_61 ?_
      refine tk_getO hC hK hw hT hinX7 kC_at39 (by decide) rfl 1 (by decide) (List.mem_cons_of_mem _ uw_46_8) rfl rfl dX1_follow_64 ?_
      refine lv_iload_n hx hb dX1_follow_67 rfl (lv_at hl 3 rfl) ?_
      refine tk_iald hC hK hw hT kC_at41 rfl rfl (show 0 ≤ a2.toInt by first | with_reducible assumption | omega) (show a2.toInt < 13 from Int.lt_of_le_of_lt ta2 (by decide)) dX1_follow_68 (fun x36 c37 rx36 tx36 => ?_)
      refine lv_i2l hx hb dX1_follow_69 rfl ?_
      refine lv_topl (fun x38 ex38 => ?_)
      have ex38 : x38.toInt = x36.toInt := by rw [ex38]; exact wk_i2l _
      have bx38 := wk_i32 x36
      refine lv_ladd hx hb dX1_follow_70 ?_
      refine lv_topl (fun x39 ex39 => ?_)
      have ex39 : x39.toInt = x34.toInt + x38.toInt := by rw [ex39]; exact wk_addl (show (-9223372036854775808) ≤ x34.toInt + x38.toInt by omega) (show x34.toInt + x38.toInt ≤ 9223372036854775807 by omega)
      have hT := hT.up (show B ≤ (B + 9) by omega)
      refine tk_putB hC hK hw hT hinX9 tyX9_ok nmX9 hkq1_ (by decide) rfl rfl 4 (by decide) (List.mem_cons_of_mem _ uw_42_10) rfl rfl rfl rfl (show 0 ≤ x39.toInt by first | with_reducible assumption | omega) (show x39.toInt ≤ (B + 9) by omega) dX1_follow_71 (fun H locs w40 hw hT k42 c41 => ?_)
      have hF := hF.put hkq1_ (k := 4) (by decide) k42
      have c43 := k42.gi (Or.inl (tk_ne kC_at40 hkq1_ (by decide))) c32
      have c44 := k42.gi (Or.inr (by decide)) c33
      have c45 := k42.gi (Or.inr (by decide)) c30
      exact tk_vret hC hr hlocks hK ⟨hT, hF, trivial⟩ hw dX1_follow_74
    · refine lv_istore_n (lv' := [(3, .int 1), (0, .ref (ad 149)), (1, .ref (ad q1_)), (2, .int a2)]) hx hb dX1_follow_21 rfl hl (by decide) rfl (fun ls hl => ?_)
      refine lv_iload_n hx hb dX1_follow_22 rfl (lv_at hl 0 rfl) ?_
      refine lv_iconst (v := (-1)) hx hb dX1_follow_23 (by decide) ?_
      refine lv_icmp_ne (tgt := 28) hx hb dX1_follow_24 (by decide) (fun _ => ?_) (fun c => absurd c (by decide))
      refine lv_aload_n hx hb dX1_follow_28 rfl (lv_at hl 2 rfl) ?_
      refine lv_aload_n hx hb dX1_follow_29 rfl (lv_at hl 2 rfl) ?_
      refine tk_geti hC hK hw hT hinX9 hkq1_ (by decide) rfl 0 (by decide) (List.mem_cons_of_mem _ uw_42_22) rfl rfl dX1_follow_30 (fun x46 c47 rx46 tx46 => ?_)
      refine wk_top x2 (c47.symm.trans c11) ?_
      refine tk_puti hC hK hw hT hinX9 tyX9_ok nmX9 hkq1_ (by decide) rfl rfl 7 (by decide) (List.mem_cons_of_mem _ uw_45_15) rfl rfl rfl rfl (show (-1) ≤ x2.toInt by first | with_reducible assumption | omega) (show x2.toInt ≤ 9 by first | with_reducible assumption | omega) dX1_follow_33 (fun H locs w48 hw hT k50 c49 => ?_)
      have hF := hF.put hkq1_ (k := 7) (by decide) k50
      have c51 := k50.gi (Or.inr (by decide)) c11
      have c52 := k50.gi (Or.inl (tk_ne kC_at40 hkq1_ (by decide))) c9
      refine lv_aload_n hx hb dX1_follow_36 rfl (lv_at hl 2 rfl) ?_
      refine lv_aload_n hx hb dX1_follow_37 rfl (lv_at hl 1 rfl) ?_
      refine tk_getA hC hK hw hT hinX1 kC_at149 (by decide) rfl 0 (by decide) (List.mem_cons_of_mem _ uw_5_0) rfl rfl dX1_follow_38 ?_
      refine tk_getO hC hK hw hT hinX5 kC_at38 (by decide) rfl 0 (by decide) (List.mem_cons_of_mem _ uw_43_2) rfl rfl dX1_follow_41 ?_
      refine lv_iload_n hx hb dX1_follow_44 rfl (lv_at hl 3 rfl) ?_
      refine lv_iload_n hx hb dX1_follow_45 rfl (lv_at hl 0 rfl) ?_
      refine tk_Vi hC hK hw hT hA hE hSR kC_at39 (by decide) rfl (k_X7_cornerAcross_3 l adK adV dC dI cy ad B hB0 (Int.le_trans hB1 (by decide)) qr s1   a2 (show 0 ≤ a2.toInt by first | with_reducible assumption | omega) (show a2.toInt ≤ 11 from ta2) w48 H.size hT ) (cwV 2 hC.2.2.2.2 uV_RX1_147 rfl rfl rfl (by decide +kernel) ⟨Nat.le_of_ble_eq_true rfl, Nat.le_of_ble_eq_true rfl⟩) rfl hl.1 rfl (Nat.le_of_ble_eq_true rfl) dX1_follow_46 (fun r53 w55 H locs hp54 hw => ?_)
      obtain ⟨hT, k56, hg59⟩ := hp54
      have hF := hF.tr k56 (by decide)
      have c60 := k56.gi hkq1_ (by decide) c51
      have c61 := k56.gi kC_at40 rfl c52
      have c62 := k56.gi hkq1_ (by decide) c49
      obtain ⟨g57, g58⟩ := hg59
      refine tk_puti hC hK hw hT hinX9 tyX9_ok nmX9 hkq1_ (by decide) rfl rfl 0 (by decide) (List.mem_cons_of_mem _ uw_42_22) rfl rfl rfl rfl (show 0 ≤ r53.toInt by first | with_reducible assumption | omega) (show r53.toInt ≤ 9 by first | with_reducible assumption | omega) dX1_follow_49 (fun H locs w63 hw hT k65 c64 => ?_)
      have hF := hF.put hkq1_ (k := 0) (by decide) k65
      have c66 := k65.gi (Or.inl (tk_ne kC_at40 hkq1_ (by decide))) c61
      have c67 := k65.gi (Or.inr (by decide)) c62
      refine lv_aload_n hx hb dX1_follow_52 rfl (lv_at hl 2 rfl) ?_
      refine lv_dup hx hb dX1_follow_53 rfl ?_
      refine tk_getB hC hK hw hT hinX9 hkq1_ (by decide) rfl 4 (by decide) (List.mem_cons_of_mem _ uw_42_10) rfl rfl dX1_follow_54 (fun x68 c69 rx68 tx68 => ?_)
      refine lv_aload_n hx hb dX1_follow_57 rfl (lv_at hl 1 rfl) ?_
      refine tk_getA hC hK hw hT hinX1 kC_at149 (by decide) rfl 0 (by decide) (List.mem_cons_of_mem _ uw_5_0) rfl rfl dX1_follow_58 ?_
      refine tk_getO hC hK hw hT hinX5 kC_at38 (by decide) rfl 0 (by decide) (List.mem_cons_of_mem _ uw_43_2) rfl rfl dX1_follow_61 ?_
      refine tk_getO hC hK hw hT hinX7 kC_at39 (by decide) rfl 1 (by decide) (List.mem_cons_of_mem _ uw_46_8) rfl rfl dX1_follow_64 ?_
      refine lv_iload_n hx hb dX1_follow_67 rfl (lv_at hl 3 rfl) ?_
      refine tk_iald hC hK hw hT kC_at41 rfl rfl (show 0 ≤ a2.toInt by first | with_reducible assumption | omega) (show a2.toInt < 13 from Int.lt_of_le_of_lt ta2 (by decide)) dX1_follow_68 (fun x70 c71 rx70 tx70 => ?_)
      refine lv_i2l hx hb dX1_follow_69 rfl ?_
      refine lv_topl (fun x72 ex72 => ?_)
      have ex72 : x72.toInt = x70.toInt := by rw [ex72]; exact wk_i2l _
      have bx72 := wk_i32 x70
      refine lv_ladd hx hb dX1_follow_70 ?_
      refine lv_topl (fun x73 ex73 => ?_)
      have ex73 : x73.toInt = x68.toInt + x72.toInt := by rw [ex73]; exact wk_addl (show (-9223372036854775808) ≤ x68.toInt + x72.toInt by omega) (show x68.toInt + x72.toInt ≤ 9223372036854775807 by omega)
      have hT := hT.up (show B ≤ (B + 9) by omega)
      refine tk_putB hC hK hw hT hinX9 tyX9_ok nmX9 hkq1_ (by decide) rfl rfl 4 (by decide) (List.mem_cons_of_mem _ uw_42_10) rfl rfl rfl rfl (show 0 ≤ x73.toInt by first | with_reducible assumption | omega) (show x73.toInt ≤ (B + 9) by omega) dX1_follow_71 (fun H locs w74 hw hT k76 c75 => ?_)
      have hF := hF.put hkq1_ (k := 4) (by decide) k76
      have c77 := k76.gi (Or.inl (tk_ne kC_at40 hkq1_ (by decide))) c66
      have c78 := k76.gi (Or.inr (by decide)) c67
      have c79 := k76.gi (Or.inr (by decide)) c64
      exact tk_vret hC hr hlocks hK ⟨hT, hF, trivial⟩ hw dX1_follow_74
  · have c1 : a2.toInt = (-1 : Int) := wk_eq.mp c1
    exact tk_vret hC hr hlocks hK ⟨(hT.up (show B ≤ (B + 9) by omega)), hF, trivial⟩ hw dX1_follow_5
abbrev P_X9_isAtGoal_1 (ad : Nat → Nat) (cy : Nat → ClassId) (B : Int) (qr : Nat) (s1 : Int) (q0_ : Nat) (w0 : va_W) : Int32 → va_W → Prop := fun r u => TW ksC ad cy B qr s1 u ∧ FE ksC ([] : List (Nat × Nat × Nat)) w0 u ∧ ((r = 0) ∨ (r = 1))
set_option maxHeartbeats 4000000 in
set_option maxRecDepth 100000 in
theorem k_X9_isAtGoal_1 (l : Launch) (adK adV : Nat → Nat) (dC : Nat → ClassId) (dI : Nat → Nat → Nat) (cy : Nat → ClassId) (ad : Nat → Nat) (B : Int) (hB0 : 2147483648 ≤ B) (hB1 : B ≤ 1152921504606846976) (qr : Nat) (s1 : Int)  (q0_ : Nat) (hkq0_ : ksC[q0_]? = some 9) (w0 : va_W) (sz : Nat) (hT : TW ksC ad cy B qr s1 w0)  : Met l yX9_isAtGoal (wu yX9_isAtGoal cX9_isAtGoal 1 (some .boolean)) ({ frames := 1, cells := 0, slots := 0, locals := 12 }) (va_Pc [.ref (ad q0_)] (wpreS adK adV dC dI cy sz w0)) (va_Qi (P_X9_isAtGoal_1 ad cy B qr s1 q0_ w0) (fun u : va_W => wpost dC dI cy (va_A w0 sz) u) (va_A w0 sz)) 0 0 (va_A w0 sz) := by
  refine Met.ofW (cc := cX9_isAtGoal) (maxL := 1) (ret := (some .boolean)) (by decide) rfl ?_
  intro p e s m args below meth c s₁ Bk hml hv
  obtain ⟨rfl, ⟨hsz, hP, hK, hD0⟩, hE, hSR⟩ := hv
  have hx := Bk.exec
  have hb := Bk.bytes
  have hr := Bk.returns
  have hlocks := Bk.notSynchronized
  have hC : CallFix p m c cX9_isAtGoal 1 s _ (wu yX9_isAtGoal cX9_isAtGoal 1 (some .boolean)) RX9 := ⟨hx, hb, hml, findClass_of_methodNamed Bk.named, atoms_spec (ws := (wu yX9_isAtGoal cX9_isAtGoal 1 (some .boolean))) Bk.pre⟩
  subst hsz
  have hD := hD0.self (sz := s.heap.size)
  generalize hAe : va_A w0 s.heap.size = A at hD hE ⊢
  have hA : ∀ q : Nat, s.heap.size ≤ q → A q := fun q h => by rw [← hAe]; exact Or.inr h
  have hw : Wd dC dI A s.heap s.heap [] w0 := ⟨hP, hD, va_S.rf⟩
  have hF : FE ksC ([] : List (Nat × Nat × Nat)) w0 w0 := FE.rf
  have hl := lv_entry ([.ref (ad q0_)]) (n := 1) (Nat.le_of_ble_eq_true rfl)
  rw [lg_entry_eq]
  generalize (lg_sl ([.ref (ad q0_)]) ++ List.replicate (1 - (lg_sl ([.ref (ad q0_)])).length) Slot.unset).toArray = ls at hl ⊢
  have hl : lv_has ls 1 [(0, .ref (ad q0_))] := hl
  generalize hloc : ([] : List Loc) = locs at hw ⊢
  have hinX9 : ∀ w ∈ u_ws RX9 TX9 9, w ∈ (wu yX9_isAtGoal cX9_isAtGoal 1 (some .boolean)) := fun _ h => List.mem_cons_of_mem _ (up_82 h)
  refine lv_aload_n hx hb dX9_isAtGoal_0 rfl (lv_at hl 0 rfl) ?_
  refine tk_geti hC hK hw hT hinX9 hkq0_ (by decide) rfl 0 (by decide) (List.mem_cons_of_mem _ uw_39_9) rfl rfl dX9_isAtGoal_1 (fun x1 c2 rx1 tx1 => ?_)
  refine lv_aload_n hx hb dX9_isAtGoal_4 rfl (lv_at hl 0 rfl) ?_
  refine tk_geti hC hK hw hT hinX9 hkq0_ (by decide) rfl 1 (by decide) (List.mem_cons_of_mem _ uw_39_10) rfl rfl dX9_isAtGoal_5 (fun x3 c4 rx3 tx3 => ?_)
  refine lv_icmp_ne (tgt := 15) hx hb dX9_isAtGoal_8 (by decide) (fun c5 => ?_) (fun c5 => ?_)
  · have c5 : ¬ x1.toInt = x3.toInt := wk_eqF c5
    refine lv_iconst (v := 0) hx hb dX9_isAtGoal_15 (by decide) ?_
    exact tk_zret hC hr rfl hlocks hK ⟨hT, hF, (Or.inl rfl)⟩ hw dX9_isAtGoal_16
  · have c5 : x1.toInt = x3.toInt := wk_eq.mp c5
    refine lv_iconst (v := 1) hx hb dX9_isAtGoal_11 (by decide) ?_
    refine lv_goto (tgt := 16) hx hb dX9_isAtGoal_12 (by decide) ?_
    exact tk_zret hC hr rfl hlocks hK ⟨hT, hF, (Or.inr rfl)⟩ hw dX9_isAtGoal_16
abbrev P_X2_deedOf_1 (ad : Nat → Nat) (cy : Nat → ClassId) (B : Int) (qr : Nat) (s1 : Int) (q0_ : Nat) (a1 : Int32) (w0 : va_W) : Int32 → va_W → Prop := fun r u => TW ksC ad cy B qr s1 u ∧ FE ksC ([] : List (Nat × Nat × Nat)) w0 u ∧ ((True))
set_option maxHeartbeats 4000000 in
set_option maxRecDepth 100000 in
theorem k_X2_deedOf_1 (l : Launch) (adK adV : Nat → Nat) (dC : Nat → ClassId) (dI : Nat → Nat → Nat) (cy : Nat → ClassId) (ad : Nat → Nat) (B : Int) (hB0 : 2147483648 ≤ B) (hB1 : B ≤ 1152921504606846976) (qr : Nat) (s1 : Int)  (q0_ : Nat) (hkq0_ : ksC[q0_]? = some 2) (a1 : Int32) (ra1 : 0 ≤ a1.toInt) (ta1 : a1.toInt ≤ 11) (w0 : va_W) (sz : Nat) (hT : TW ksC ad cy B qr s1 w0)  : Met l yX2_deedOf (wu yX2_deedOf cX2_deedOf 2 (some .int)) ({ frames := 1, cells := 0, slots := 0, locals := 12 }) (va_Pc [.ref (ad q0_), .int a1] (wpreS adK adV dC dI cy sz w0)) (va_Qi (P_X2_deedOf_1 ad cy B qr s1 q0_ a1 w0) (fun u : va_W => wpost dC dI cy (va_A w0 sz) u) (va_A w0 sz)) 0 0 (va_A w0 sz) := by
  refine Met.ofW (cc := cX2_deedOf) (maxL := 2) (ret := (some .int)) (by decide) rfl ?_
  intro p e s m args below meth c s₁ Bk hml hv
  obtain ⟨rfl, ⟨hsz, hP, hK, hD0⟩, hE, hSR⟩ := hv
  have hx := Bk.exec
  have hb := Bk.bytes
  have hr := Bk.returns
  have hlocks := Bk.notSynchronized
  have hC : CallFix p m c cX2_deedOf 2 s _ (wu yX2_deedOf cX2_deedOf 2 (some .int)) RX2 := ⟨hx, hb, hml, findClass_of_methodNamed Bk.named, atoms_spec (ws := (wu yX2_deedOf cX2_deedOf 2 (some .int))) Bk.pre⟩
  subst hsz
  have hD := hD0.self (sz := s.heap.size)
  generalize hAe : va_A w0 s.heap.size = A at hD hE ⊢
  have hA : ∀ q : Nat, s.heap.size ≤ q → A q := fun q h => by rw [← hAe]; exact Or.inr h
  have hw : Wd dC dI A s.heap s.heap [] w0 := ⟨hP, hD, va_S.rf⟩
  have hF : FE ksC ([] : List (Nat × Nat × Nat)) w0 w0 := FE.rf
  have hl := lv_entry ([.ref (ad q0_), .int a1]) (n := 2) (Nat.le_of_ble_eq_true rfl)
  rw [lg_entry_eq]
  generalize (lg_sl ([.ref (ad q0_), .int a1]) ++ List.replicate (2 - (lg_sl ([.ref (ad q0_), .int a1])).length) Slot.unset).toArray = ls at hl ⊢
  have hl : lv_has ls 2 [(0, .ref (ad q0_)), (1, .int a1)] := hl
  generalize hloc : ([] : List Loc) = locs at hw ⊢
  have hinX2 : ∀ w ∈ u_ws RX2 TX2 6, w ∈ (wu yX2_deedOf cX2_deedOf 2 (some .int)) := fun _ h => List.mem_cons_of_mem _ (up_74 h)
  refine lv_aload_n hx hb dX2_deedOf_0 rfl (lv_at hl 0 rfl) ?_
  refine tk_getO hC hK hw hT hinX2 hkq0_ (by decide) rfl 0 (by decide) (List.mem_cons_of_mem _ uw_3_5) rfl rfl dX2_deedOf_1 ?_
  refine lv_iload_n hx hb dX2_deedOf_4 rfl (lv_at hl 1 rfl) ?_
  refine tk_iald hC hK hw hT (kC_2_1 hkq0_) rfl rfl (show 0 ≤ a1.toInt from ra1) (show a1.toInt < 12 from Int.lt_of_le_of_lt ta1 (by decide)) dX2_deedOf_5 (fun x1 c2 rx1 tx1 => ?_)
  exact tk_iret hC hr hlocks hK ⟨hT, hF, trivial⟩ hw dX2_deedOf_6
abbrev P_X1_mayDo_1 (ad : Nat → Nat) (cy : Nat → ClassId) (B : Int) (qr : Nat) (s1 : Int) (q1_ : Nat) (a2 : Int32) (w0 : va_W) : Int32 → va_W → Prop := fun r u => TW ksC ad cy B qr s1 u ∧ FE ksC ([] : List (Nat × Nat × Nat)) w0 u ∧ ((0 ≤ r.toInt ∧ r.toInt ≤ 1 ∧ 0 ≤ a2.toInt ∧ a2.toInt ≤ 0) ∨ (r = 0) ∨ (r = 1))
set_option maxHeartbeats 4000000 in
set_option maxRecDepth 100000 in
theorem k_X1_mayDo_1 (l : Launch) (adK adV : Nat → Nat) (dC : Nat → ClassId) (dI : Nat → Nat → Nat) (cy : Nat → ClassId) (ad : Nat → Nat) (B : Int) (hB0 : 2147483648 ≤ B) (hB1 : B ≤ 1152921504606846976) (qr : Nat) (s1 : Int)  (q1_ : Nat) (hkq1_ : ksC[q1_]? = some 9) (a2 : Int32) (w0 : va_W) (sz : Nat) (hT : TW ksC ad cy B qr s1 w0)  : Met l yX1_mayDo (wu yX1_mayDo cX1_mayDo 3 (some .boolean)) ({ frames := 3, cells := 0, slots := 0, locals := 52 }) (va_Pc [.ref (ad 149), .ref (ad q1_), .int a2] (wpreS adK adV dC dI cy sz w0)) (va_Qi (P_X1_mayDo_1 ad cy B qr s1 q1_ a2 w0) (fun u : va_W => wpost dC dI cy (va_A w0 sz) u) (va_A w0 sz)) 0 0 (va_A w0 sz) := by
  refine Met.ofW (cc := cX1_mayDo) (maxL := 3) (ret := (some .boolean)) (by decide) rfl ?_
  intro p e s m args below meth c s₁ Bk hml hv
  obtain ⟨rfl, ⟨hsz, hP, hK, hD0⟩, hE, hSR⟩ := hv
  have hx := Bk.exec
  have hb := Bk.bytes
  have hr := Bk.returns
  have hlocks := Bk.notSynchronized
  have hC : CallFix p m c cX1_mayDo 3 s _ (wu yX1_mayDo cX1_mayDo 3 (some .boolean)) RX1 := ⟨hx, hb, hml, findClass_of_methodNamed Bk.named, atoms_spec (ws := (wu yX1_mayDo cX1_mayDo 3 (some .boolean))) Bk.pre⟩
  subst hsz
  have hD := hD0.self (sz := s.heap.size)
  generalize hAe : va_A w0 s.heap.size = A at hD hE ⊢
  have hA : ∀ q : Nat, s.heap.size ≤ q → A q := fun q h => by rw [← hAe]; exact Or.inr h
  have hw : Wd dC dI A s.heap s.heap [] w0 := ⟨hP, hD, va_S.rf⟩
  have hF : FE ksC ([] : List (Nat × Nat × Nat)) w0 w0 := FE.rf
  have hl := lv_entry ([.ref (ad 149), .ref (ad q1_), .int a2]) (n := 3) (Nat.le_of_ble_eq_true rfl)
  rw [lg_entry_eq]
  generalize (lg_sl ([.ref (ad 149), .ref (ad q1_), .int a2]) ++ List.replicate (3 - (lg_sl ([.ref (ad 149), .ref (ad q1_), .int a2])).length) Slot.unset).toArray = ls at hl ⊢
  have hl : lv_has ls 3 [(0, .ref (ad 149)), (1, .ref (ad q1_)), (2, .int a2)] := hl
  generalize hloc : ([] : List Loc) = locs at hw ⊢
  have hinX1 : ∀ w ∈ u_ws RX1 TX1 10, w ∈ (wu yX1_mayDo cX1_mayDo 3 (some .boolean)) := fun _ h => List.mem_cons_of_mem _ (up_78 h)
  have J65 : ∀ (f65_149_9 : Int32) (H : Heap) (locs : List Loc) (ls : Array Slot) (w1 : va_W), 0 ≤ f65_149_9.toInt → f65_149_9.toInt ≤ 1 → Wd dC dI A s.heap H locs w1 → TW ksC ad cy B qr s1 w1 → FE ksC ([] : List (Nat × Nat × Nat)) w0 w1 → gi w1 149 9 = f65_149_9 → lv_has ls 3 [(0, .ref (ad 149)), (1, .ref (ad q1_)), (2, .int 2)] → W p l e ({ frames := 3, cells := 0, slots := 0, locals := 52 }) s m (List.toArray [.ref (ad 149), .ref (ad q1_), .int a2]) below meth c H locs 0 0 (MQ below (va_Qi (P_X1_mayDo_1 ad cy B qr s1 q1_ a2 w0) (fun u : va_W => wpost dC dI cy A u) A) (List.toArray [.ref (ad 149), .ref (ad q1_), .int a2]) s 0 0 A) (F0 m 65 ls []) := by
    intro f65_149_9 H locs ls w1 r2 t3 hw hT hF c4 hl
    refine lv_iconst (v := 0) hx hb dX1_mayDo_65 (by decide) ?_
    exact tk_zret hC hr rfl hlocks hK ⟨hT, hF, (Or.inr (Or.inl rfl))⟩ hw dX1_mayDo_66
  refine lv_iload_n hx hb dX1_mayDo_0 rfl (lv_at hl 2 rfl) ?_
  rcases (show a2.toInt = 0 ∨ a2.toInt = 1 ∨ a2.toInt = 2 ∨ (a2.toInt < 0 ∨ 2 < a2.toInt) by omega) with c5 | c5 | c5 | c5
  · refine lv_tableIn (off := 27) (tgt := 28) hx hb dX1_mayDo_1 (by omega) (by omega) (by rw [c5]; rfl) (by decide) ?_
    refine lv_aload_n hx hb dX1_mayDo_28 rfl (lv_at hl 0 rfl) ?_
    refine tk_geti hC hK hw hT hinX1 kC_at149 (by decide) rfl 6 (by decide) (List.mem_cons_of_mem _ uw_42_5) rfl rfl dX1_mayDo_29 (fun x6 c7 rx6 tx6 => ?_)
    exact tk_zret hC hr (by rcases nar_z (show 0 ≤ x6.toInt from rx6) (show x6.toInt ≤ 1 from tx6) with h | h <;> (rw [h]; rfl)) hlocks hK ⟨hT, hF, (Or.inl ⟨(show 0 ≤ x6.toInt from rx6), (show x6.toInt ≤ 1 from tx6), (show 0 ≤ a2.toInt by first | with_reducible assumption | omega), (show a2.toInt ≤ 0 by first | with_reducible assumption | omega)⟩)⟩ hw dX1_mayDo_32
  · refine lv_tableIn (off := 32) (tgt := 33) hx hb dX1_mayDo_1 (by omega) (by omega) (by rw [c5]; rfl) (by decide) ?_
    refine lv_aload_n hx hb dX1_mayDo_33 rfl (lv_at hl 0 rfl) ?_
    refine tk_geti hC hK hw hT hinX1 kC_at149 (by decide) rfl 7 (by decide) (List.mem_cons_of_mem _ uw_42_7) rfl rfl dX1_mayDo_34 (fun x8 c9 rx8 tx8 => ?_)
    refine lv_iconst (v := (-1)) hx hb dX1_mayDo_37 (by decide) ?_
    refine lv_icmp_eq (tgt := 45) hx hb dX1_mayDo_38 (by decide) (fun c10 => ?_) (fun c10 => ?_)
    · have c10 : x8.toInt = (-1 : Int) := wk_eq.mp c10
      refine lv_iconst (v := 0) hx hb dX1_mayDo_45 (by decide) ?_
      exact tk_zret hC hr rfl hlocks hK ⟨hT, hF, (Or.inr (Or.inl rfl))⟩ hw dX1_mayDo_46
    · have c10 : ¬ x8.toInt = (-1 : Int) := wk_eqF c10
      refine lv_iconst (v := 1) hx hb dX1_mayDo_41 (by decide) ?_
      refine lv_goto (tgt := 46) hx hb dX1_mayDo_42 (by decide) ?_
      exact tk_zret hC hr rfl hlocks hK ⟨hT, hF, (Or.inr (Or.inr rfl))⟩ hw dX1_mayDo_46
  · refine lv_tableIn (off := 46) (tgt := 47) hx hb dX1_mayDo_1 (by omega) (by omega) (by rw [c5]; rfl) (by decide) ?_
    refine lv_aload_n hx hb dX1_mayDo_47 rfl (lv_at hl 0 rfl) ?_
    refine tk_geti hC hK hw hT hinX1 kC_at149 (by decide) rfl 9 (by decide) (List.mem_cons_of_mem _ uw_42_20) rfl rfl dX1_mayDo_48 (fun x11 c12 rx11 tx11 => ?_)
    refine lv_if_ne (tgt := 65) hx hb dX1_mayDo_51 (by decide) (fun c13 => ?_) (fun c13 => ?_)
    · have c13 : ¬ x11.toInt = (0 : Int) := wk_eqF c13
      obtain rfl : a2 = 2 := wk_eq.mpr (show a2.toInt = 2 by first | exact Int.le_antisymm (by omega) (by omega) | omega)
      exact J65 x11 s.heap locs ls w0 (show 0 ≤ x11.toInt from rx11) (show x11.toInt ≤ 1 from tx11)  hw hT hF c12 (lv_sub hl [0, 1, 2] rfl)
    · have c13 : x11.toInt = (0 : Int) := wk_eq.mp c13
      refine lv_aload_n hx hb dX1_mayDo_54 rfl (lv_at hl 1 rfl) ?_
      refine tk_Vi hC hK hw hT hA hE hSR hkq1_ (by decide) rfl (k_X9_askedToday_1 l adK adV dC dI cy ad B hB0 (Int.le_trans hB1 (by decide)) qr s1   q1_ hkq1_ w0 s.heap.size hT ) (cwV 0 hC.2.2.2.2 uV_RX1_85 rfl rfl rfl (by decide +kernel) ⟨Nat.le_of_ble_eq_true rfl, Nat.le_of_ble_eq_true rfl⟩) rfl hl.1 rfl (Nat.le_of_ble_eq_true rfl) dX1_mayDo_55 (fun r14 w16 H locs hp15 hw => ?_)
      obtain ⟨hT, k17, hg18⟩ := hp15
      have hF := hF.tr k17 (by decide)
      have c19 := k17.gi kC_at149 (by decide) c12
      rcases hg18 with rfl | rfl
      · refine lv_if_ne (tgt := 65) hx hb dX1_mayDo_58 (by decide) (fun c => absurd (by decide) c) (fun _ => ?_)
        refine lv_iconst (v := 1) hx hb dX1_mayDo_61 (by decide) ?_
        refine lv_goto (tgt := 66) hx hb dX1_mayDo_62 (by decide) ?_
        exact tk_zret hC hr rfl hlocks hK ⟨hT, hF, (Or.inr (Or.inr rfl))⟩ hw dX1_mayDo_66
      · refine lv_if_ne (tgt := 65) hx hb dX1_mayDo_58 (by decide) (fun _ => ?_) (fun c => absurd c (by decide))
        obtain rfl : a2 = 2 := wk_eq.mpr (show a2.toInt = 2 by first | exact Int.le_antisymm (by omega) (by omega) | omega)
        exact J65 x11 H locs ls w16 (show 0 ≤ x11.toInt from rx11) (show x11.toInt ≤ 1 from tx11)  hw hT hF c19 (lv_sub hl [0, 1, 2] rfl)
  · refine lv_tableOut (tgt := 67) hx hb dX1_mayDo_1 c5 (by decide) ?_
    refine lv_iconst (v := 1) hx hb dX1_mayDo_67 (by decide) ?_
    exact tk_zret hC hr rfl hlocks hK ⟨hT, hF, (Or.inr (Or.inr rfl))⟩ hw dX1_mayDo_68
abbrev P_X2_firstToken_1 (ad : Nat → Nat) (cy : Nat → ClassId) (B : Int) (qr : Nat) (s1 : Int) (q0_ : Nat) (a1 : Int32) (w0 : va_W) : Int32 → va_W → Prop := fun r u => TW ksC ad cy B qr s1 u ∧ FE ksC ([] : List (Nat × Nat × Nat)) w0 u ∧ ((0 ≤ r.toInt ∧ r.toInt ≤ 400))
set_option maxHeartbeats 4000000 in
set_option maxRecDepth 100000 in
theorem k_X2_firstToken_1 (l : Launch) (adK adV : Nat → Nat) (dC : Nat → ClassId) (dI : Nat → Nat → Nat) (cy : Nat → ClassId) (ad : Nat → Nat) (B : Int) (hB0 : 2147483648 ≤ B) (hB1 : B ≤ 1152921504606846976) (qr : Nat) (s1 : Int)  (q0_ : Nat) (hkq0_ : ksC[q0_]? = some 2) (a1 : Int32) (ra1 : 1 ≤ a1.toInt) (ta1 : a1.toInt ≤ 12) (w0 : va_W) (sz : Nat) (hT : TW ksC ad cy B qr s1 w0)  : Met l yX2_firstToken (wu yX2_firstToken cX2_firstToken 2 (some .int)) ({ frames := 1, cells := 0, slots := 0, locals := 12 }) (va_Pc [.ref (ad q0_), .int a1] (wpreS adK adV dC dI cy sz w0)) (va_Qi (P_X2_firstToken_1 ad cy B qr s1 q0_ a1 w0) (fun u : va_W => wpost dC dI cy (va_A w0 sz) u) (va_A w0 sz)) 0 0 (va_A w0 sz) := by
  refine Met.ofW (cc := cX2_firstToken) (maxL := 2) (ret := (some .int)) (by decide) rfl ?_
  intro p e s m args below meth c s₁ Bk hml hv
  obtain ⟨rfl, ⟨hsz, hP, hK, hD0⟩, hE, hSR⟩ := hv
  have hx := Bk.exec
  have hb := Bk.bytes
  have hr := Bk.returns
  have hlocks := Bk.notSynchronized
  have hC : CallFix p m c cX2_firstToken 2 s _ (wu yX2_firstToken cX2_firstToken 2 (some .int)) RX2 := ⟨hx, hb, hml, findClass_of_methodNamed Bk.named, atoms_spec (ws := (wu yX2_firstToken cX2_firstToken 2 (some .int))) Bk.pre⟩
  subst hsz
  have hD := hD0.self (sz := s.heap.size)
  generalize hAe : va_A w0 s.heap.size = A at hD hE ⊢
  have hA : ∀ q : Nat, s.heap.size ≤ q → A q := fun q h => by rw [← hAe]; exact Or.inr h
  have hw : Wd dC dI A s.heap s.heap [] w0 := ⟨hP, hD, va_S.rf⟩
  have hF : FE ksC ([] : List (Nat × Nat × Nat)) w0 w0 := FE.rf
  have hl := lv_entry ([.ref (ad q0_), .int a1]) (n := 2) (Nat.le_of_ble_eq_true rfl)
  rw [lg_entry_eq]
  generalize (lg_sl ([.ref (ad q0_), .int a1]) ++ List.replicate (2 - (lg_sl ([.ref (ad q0_), .int a1])).length) Slot.unset).toArray = ls at hl ⊢
  have hl : lv_has ls 2 [(0, .ref (ad q0_)), (1, .int a1)] := hl
  generalize hloc : ([] : List Loc) = locs at hw ⊢
  have hinX2 : ∀ w ∈ u_ws RX2 TX2 6, w ∈ (wu yX2_firstToken cX2_firstToken 2 (some .int)) := fun _ h => List.mem_cons_of_mem _ (up_74 h)
  refine lv_aload_n hx hb dX2_firstToken_0 rfl (lv_at hl 0 rfl) ?_
  refine tk_getO hC hK hw hT hinX2 hkq0_ (by decide) rfl 1 (by decide) (List.mem_cons_of_mem _ uw_3_6) rfl rfl dX2_firstToken_1 ?_
  refine lv_iload_n hx hb dX2_firstToken_4 rfl (lv_at hl 1 rfl) ?_
  refine tk_iald hC hK hw hT (kC_2_2 hkq0_) rfl rfl (show 0 ≤ a1.toInt from Int.le_trans (by decide) ra1) (show a1.toInt < 13 from Int.lt_of_le_of_lt ta1 (by decide)) dX2_firstToken_5 (fun x1 c2 rx1 tx1 => ?_)
  exact tk_iret hC hr hlocks hK ⟨hT, hF, ⟨(show 0 ≤ x1.toInt by first | with_reducible assumption | omega), (show x1.toInt ≤ 400 by first | with_reducible assumption | omega)⟩⟩ hw dX2_firstToken_6
abbrev P_X2_tokenAt_1 (ad : Nat → Nat) (cy : Nat → ClassId) (B : Int) (qr : Nat) (s1 : Int) (q0_ : Nat) (a1 : Int32) (w0 : va_W) : Int32 → va_W → Prop := fun r u => TW ksC ad cy B qr s1 u ∧ FE ksC ([] : List (Nat × Nat × Nat)) w0 u ∧ ((True))
set_option maxHeartbeats 4000000 in
set_option maxRecDepth 100000 in
theorem k_X2_tokenAt_1 (l : Launch) (adK adV : Nat → Nat) (dC : Nat → ClassId) (dI : Nat → Nat → Nat) (cy : Nat → ClassId) (ad : Nat → Nat) (B : Int) (hB0 : 2147483648 ≤ B) (hB1 : B ≤ 1152921504606846976) (qr : Nat) (s1 : Int)  (q0_ : Nat) (hkq0_ : ksC[q0_]? = some 2) (a1 : Int32) (ra1 : 0 ≤ a1.toInt) (ta1 : a1.toInt ≤ 399) (w0 : va_W) (sz : Nat) (hT : TW ksC ad cy B qr s1 w0)  : Met l yX2_tokenAt (wu yX2_tokenAt cX2_tokenAt 2 (some .int)) ({ frames := 1, cells := 0, slots := 0, locals := 12 }) (va_Pc [.ref (ad q0_), .int a1] (wpreS adK adV dC dI cy sz w0)) (va_Qi (P_X2_tokenAt_1 ad cy B qr s1 q0_ a1 w0) (fun u : va_W => wpost dC dI cy (va_A w0 sz) u) (va_A w0 sz)) 0 0 (va_A w0 sz) := by
  refine Met.ofW (cc := cX2_tokenAt) (maxL := 2) (ret := (some .int)) (by decide) rfl ?_
  intro p e s m args below meth c s₁ Bk hml hv
  obtain ⟨rfl, ⟨hsz, hP, hK, hD0⟩, hE, hSR⟩ := hv
  have hx := Bk.exec
  have hb := Bk.bytes
  have hr := Bk.returns
  have hlocks := Bk.notSynchronized
  have hC : CallFix p m c cX2_tokenAt 2 s _ (wu yX2_tokenAt cX2_tokenAt 2 (some .int)) RX2 := ⟨hx, hb, hml, findClass_of_methodNamed Bk.named, atoms_spec (ws := (wu yX2_tokenAt cX2_tokenAt 2 (some .int))) Bk.pre⟩
  subst hsz
  have hD := hD0.self (sz := s.heap.size)
  generalize hAe : va_A w0 s.heap.size = A at hD hE ⊢
  have hA : ∀ q : Nat, s.heap.size ≤ q → A q := fun q h => by rw [← hAe]; exact Or.inr h
  have hw : Wd dC dI A s.heap s.heap [] w0 := ⟨hP, hD, va_S.rf⟩
  have hF : FE ksC ([] : List (Nat × Nat × Nat)) w0 w0 := FE.rf
  have hl := lv_entry ([.ref (ad q0_), .int a1]) (n := 2) (Nat.le_of_ble_eq_true rfl)
  rw [lg_entry_eq]
  generalize (lg_sl ([.ref (ad q0_), .int a1]) ++ List.replicate (2 - (lg_sl ([.ref (ad q0_), .int a1])).length) Slot.unset).toArray = ls at hl ⊢
  have hl : lv_has ls 2 [(0, .ref (ad q0_)), (1, .int a1)] := hl
  generalize hloc : ([] : List Loc) = locs at hw ⊢
  have hinX2 : ∀ w ∈ u_ws RX2 TX2 6, w ∈ (wu yX2_tokenAt cX2_tokenAt 2 (some .int)) := fun _ h => List.mem_cons_of_mem _ (up_74 h)
  refine lv_aload_n hx hb dX2_tokenAt_0 rfl (lv_at hl 0 rfl) ?_
  refine tk_getO hC hK hw hT hinX2 hkq0_ (by decide) rfl 2 (by decide) (List.mem_cons_of_mem _ uw_3_7) rfl rfl dX2_tokenAt_1 ?_
  refine lv_iload_n hx hb dX2_tokenAt_4 rfl (lv_at hl 1 rfl) ?_
  refine tk_iald hC hK hw hT (kC_2_3 hkq0_) rfl rfl (show 0 ≤ a1.toInt from ra1) (show a1.toInt < 400 from Int.lt_of_le_of_lt ta1 (by decide)) dX2_tokenAt_5 (fun x1 c2 rx1 tx1 => ?_)
  exact tk_iret hC hr hlocks hK ⟨hT, hF, trivial⟩ hw dX2_tokenAt_6
abbrev P_X1_joined_1 (ad : Nat → Nat) (cy : Nat → ClassId) (B : Int) (qr : Nat) (s1 : Int) (a0 : Int32) (a1 : Int64) (a2 : Int64) (w0 : va_W) : Int64 → va_W → Prop := fun r u => TW ksC ad cy B qr s1 u ∧ FE ksC ([] : List (Nat × Nat × Nat)) w0 u ∧ ((True))
set_option maxHeartbeats 4000000 in
set_option maxRecDepth 100000 in
theorem k_X1_joined_1 (l : Launch) (adK adV : Nat → Nat) (dC : Nat → ClassId) (dI : Nat → Nat → Nat) (cy : Nat → ClassId) (ad : Nat → Nat) (B : Int) (hB0 : 2147483648 ≤ B) (hB1 : B ≤ 1152921504606846976) (qr : Nat) (s1 : Int)  (a0 : Int32) (ra0 : 10 ≤ a0.toInt) (ta0 : a0.toInt ≤ 31) (a1 : Int64) (a2 : Int64) (w0 : va_W) (sz : Nat) (hT : TW ksC ad cy B qr s1 w0)  : Met l yX1_joined (wu yX1_joined cX1_joined 5 (some .long)) ({ frames := 1, cells := 0, slots := 0, locals := 12 }) (va_Pc [.int a0, .long a1, .long a2] (wpreS adK adV dC dI cy sz w0)) (va_Ql (P_X1_joined_1 ad cy B qr s1 a0 a1 a2 w0) (fun u : va_W => wpost dC dI cy (va_A w0 sz) u) (va_A w0 sz)) 0 0 (va_A w0 sz) := by
  refine Met.ofW (cc := cX1_joined) (maxL := 5) (ret := (some .long)) (by decide) rfl ?_
  intro p e s m args below meth c s₁ Bk hml hv
  obtain ⟨rfl, ⟨hsz, hP, hK, hD0⟩, hE, hSR⟩ := hv
  have hx := Bk.exec
  have hb := Bk.bytes
  have hr := Bk.returns
  have hlocks := Bk.notSynchronized
  have hC : CallFix p m c cX1_joined 5 s _ (wu yX1_joined cX1_joined 5 (some .long)) RX1 := ⟨hx, hb, hml, findClass_of_methodNamed Bk.named, atoms_spec (ws := (wu yX1_joined cX1_joined 5 (some .long))) Bk.pre⟩
  subst hsz
  have hD := hD0.self (sz := s.heap.size)
  generalize hAe : va_A w0 s.heap.size = A at hD hE ⊢
  have hA : ∀ q : Nat, s.heap.size ≤ q → A q := fun q h => by rw [← hAe]; exact Or.inr h
  have hw : Wd dC dI A s.heap s.heap [] w0 := ⟨hP, hD, va_S.rf⟩
  have hF : FE ksC ([] : List (Nat × Nat × Nat)) w0 w0 := FE.rf
  have hl := lv_entry ([.int a0, .long a1, .long a2]) (n := 5) (Nat.le_of_ble_eq_true rfl)
  rw [lg_entry_eq]
  generalize (lg_sl ([.int a0, .long a1, .long a2]) ++ List.replicate (5 - (lg_sl ([.int a0, .long a1, .long a2])).length) Slot.unset).toArray = ls at hl ⊢
  have hl : lv_has ls 5 [(0, .int a0), (1, .long a1), (3, .long a2)] := hl
  generalize hloc : ([] : List Loc) = locs at hw ⊢
  refine lv_iload_n hx hb dX1_joined_0 rfl (lv_at hl 0 rfl) ?_
  rcases (show a0.toInt = 10 ∨ a0.toInt = 11 ∨ a0.toInt = 12 ∨ a0.toInt = 13 ∨ a0.toInt = 14 ∨ a0.toInt = 15 ∨ a0.toInt = 16 ∨ a0.toInt = 17 ∨ a0.toInt = 18 ∨ a0.toInt = 19 ∨ a0.toInt = 20 ∨ (a0.toInt < 10 ∨ 20 < a0.toInt) by omega) with c1 | c1 | c1 | c1 | c1 | c1 | c1 | c1 | c1 | c1 | c1 | c1
  · refine lv_tableIn (off := 59) (tgt := 60) hx hb dX1_joined_1 (by omega) (by omega) (by rw [c1]; rfl) (by decide) ?_
    refine lv_lload_n hx hb dX1_joined_60 rfl (lv_at hl 1 rfl) ?_
    refine lv_lload_n hx hb dX1_joined_61 rfl (lv_at hl 2 rfl) ?_
    refine lv_ladd hx hb dX1_joined_62 ?_
    have nx2 := wk_i64 a1
    have nx3 := wk_i64 a2
    refine lv_topl (fun x4 ex4 => ?_)
    exact tk_lret hC hr hlocks hK ⟨hT, hF, trivial⟩ hw dX1_joined_63
  · refine lv_tableIn (off := 63) (tgt := 64) hx hb dX1_joined_1 (by omega) (by omega) (by rw [c1]; rfl) (by decide) ?_
    refine lv_lload_n hx hb dX1_joined_64 rfl (lv_at hl 1 rfl) ?_
    refine lv_lload_n hx hb dX1_joined_65 rfl (lv_at hl 2 rfl) ?_
    refine lv_lsub hx hb dX1_joined_66 ?_
    have nx5 := wk_i64 a1
    have nx6 := wk_i64 a2
    refine lv_topl (fun x7 ex7 => ?_)
    exact tk_lret hC hr hlocks hK ⟨hT, hF, trivial⟩ hw dX1_joined_67
  · refine lv_tableIn (off := 67) (tgt := 68) hx hb dX1_joined_1 (by omega) (by omega) (by rw [c1]; rfl) (by decide) ?_
    refine lv_lload_n hx hb dX1_joined_68 rfl (lv_at hl 1 rfl) ?_
    refine lv_lload_n hx hb dX1_joined_69 rfl (lv_at hl 2 rfl) ?_
    refine lv_lmul hx hb dX1_joined_70 ?_
    have nx8 := wk_i64 a1
    have nx9 := wk_i64 a2
    refine lv_topl (fun x10 ex10 => ?_)
    exact tk_lret hC hr hlocks hK ⟨hT, hF, trivial⟩ hw dX1_joined_71
  · refine lv_tableIn (off := 71) (tgt := 72) hx hb dX1_joined_1 (by omega) (by omega) (by rw [c1]; rfl) (by decide) ?_
    refine lv_lload_n hx hb dX1_joined_72 rfl (lv_at hl 2 rfl) ?_
    refine lv_lconst (v := 0) hx hb dX1_joined_73 (by decide) ?_
    refine W.lcmp hx hb dX1_joined_74 ?_
    refine lv_if_ne (tgt := 82) hx hb dX1_joined_75 (by decide) (fun c11 => ?_) (fun c11 => ?_)
    · have c11 : ¬ a2.toInt = (0 : Int) := wk_ceF c11
      refine lv_lload_n hx hb dX1_joined_82 rfl (lv_at hl 1 rfl) ?_
      refine lv_lload_n hx hb dX1_joined_83 rfl (lv_at hl 2 rfl) ?_
      refine lv_ldiv hx hb dX1_joined_84 (fun h => absurd (show a2.toInt = 0 from wk_eql.mp h) c11) ?_
      refine lv_topl (fun x12 ex12 => ?_)
      exact tk_lret hC hr hlocks hK ⟨hT, hF, trivial⟩ hw dX1_joined_85
    · have c11 : a2.toInt = (0 : Int) := wk_ceT c11
      refine lv_lconst (v := 0) hx hb dX1_joined_78 (by decide) ?_
      refine lv_goto (tgt := 85) hx hb dX1_joined_79 (by decide) ?_
      exact tk_lret hC hr hlocks hK ⟨hT, hF, trivial⟩ hw dX1_joined_85
  · refine lv_tableIn (off := 85) (tgt := 86) hx hb dX1_joined_1 (by omega) (by omega) (by rw [c1]; rfl) (by decide) ?_
    refine lv_lload_n hx hb dX1_joined_86 rfl (lv_at hl 1 rfl) ?_
    refine lv_lload_n hx hb dX1_joined_87 rfl (lv_at hl 2 rfl) ?_
    refine W.lcmp hx hb dX1_joined_88 ?_
    refine lv_if_ge (tgt := 96) hx hb dX1_joined_89 (by decide) (fun c13 => ?_) (fun c13 => ?_)
    · refine lv_lconst (v := 0) hx hb dX1_joined_96 (by decide) ?_
      exact tk_lret hC hr hlocks hK ⟨hT, hF, trivial⟩ hw dX1_joined_97
    · refine lv_lconst (v := 1) hx hb dX1_joined_92 (by decide) ?_
      refine lv_goto (tgt := 97) hx hb dX1_joined_93 (by decide) ?_
      exact tk_lret hC hr hlocks hK ⟨hT, hF, trivial⟩ hw dX1_joined_97
  · refine lv_tableIn (off := 97) (tgt := 98) hx hb dX1_joined_1 (by omega) (by omega) (by rw [c1]; rfl) (by decide) ?_
    refine lv_lload_n hx hb dX1_joined_98 rfl (lv_at hl 1 rfl) ?_
    refine lv_lload_n hx hb dX1_joined_99 rfl (lv_at hl 2 rfl) ?_
    refine W.lcmp hx hb dX1_joined_100 ?_
    refine lv_if_gt (tgt := 108) hx hb dX1_joined_101 (by decide) (fun c14 => ?_) (fun c14 => ?_)
    · have c14 : a2.toInt < a1.toInt := wk_cgtT c14
      refine lv_lconst (v := 0) hx hb dX1_joined_108 (by decide) ?_
      exact tk_lret hC hr hlocks hK ⟨hT, hF, trivial⟩ hw dX1_joined_109
    · have c14 : a1.toInt ≤ a2.toInt := wk_cgtF c14
      refine lv_lconst (v := 1) hx hb dX1_joined_104 (by decide) ?_
      refine lv_goto (tgt := 109) hx hb dX1_joined_105 (by decide) ?_
      exact tk_lret hC hr hlocks hK ⟨hT, hF, trivial⟩ hw dX1_joined_109
  · refine lv_tableIn (off := 109) (tgt := 110) hx hb dX1_joined_1 (by omega) (by omega) (by rw [c1]; rfl) (by decide) ?_
    refine lv_lload_n hx hb dX1_joined_110 rfl (lv_at hl 1 rfl) ?_
    refine lv_lload_n hx hb dX1_joined_111 rfl (lv_at hl 2 rfl) ?_
    refine W.lcmp hx hb dX1_joined_112 ?_
    refine lv_if_ne (tgt := 120) hx hb dX1_joined_113 (by decide) (fun c15 => ?_) (fun c15 => ?_)
    · have c15 : ¬ a1.toInt = a2.toInt := wk_ceF c15
      refine lv_lconst (v := 0) hx hb dX1_joined_120 (by decide) ?_
      exact tk_lret hC hr hlocks hK ⟨hT, hF, trivial⟩ hw dX1_joined_121
    · have c15 : a1.toInt = a2.toInt := wk_ceT c15
      refine lv_lconst (v := 1) hx hb dX1_joined_116 (by decide) ?_
      refine lv_goto (tgt := 121) hx hb dX1_joined_117 (by decide) ?_
      exact tk_lret hC hr hlocks hK ⟨hT, hF, trivial⟩ hw dX1_joined_121
  · refine lv_tableIn (off := 121) (tgt := 122) hx hb dX1_joined_1 (by omega) (by omega) (by rw [c1]; rfl) (by decide) ?_
    refine lv_lload_n hx hb dX1_joined_122 rfl (lv_at hl 1 rfl) ?_
    refine lv_lload_n hx hb dX1_joined_123 rfl (lv_at hl 2 rfl) ?_
    refine W.lcmp hx hb dX1_joined_124 ?_
    refine lv_if_lt (tgt := 132) hx hb dX1_joined_125 (by decide) (fun c16 => ?_) (fun c16 => ?_)
    · have c16 : a1.toInt < a2.toInt := wk_cltT c16
      refine lv_lconst (v := 0) hx hb dX1_joined_132 (by decide) ?_
      exact tk_lret hC hr hlocks hK ⟨hT, hF, trivial⟩ hw dX1_joined_133
    · have c16 : a2.toInt ≤ a1.toInt := wk_cltF c16
      refine lv_lconst (v := 1) hx hb dX1_joined_128 (by decide) ?_
      refine lv_goto (tgt := 133) hx hb dX1_joined_129 (by decide) ?_
      exact tk_lret hC hr hlocks hK ⟨hT, hF, trivial⟩ hw dX1_joined_133
  · refine lv_tableIn (off := 133) (tgt := 134) hx hb dX1_joined_1 (by omega) (by omega) (by rw [c1]; rfl) (by decide) ?_
    refine lv_lload_n hx hb dX1_joined_134 rfl (lv_at hl 1 rfl) ?_
    refine lv_lload_n hx hb dX1_joined_135 rfl (lv_at hl 2 rfl) ?_
    refine W.lcmp hx hb dX1_joined_136 ?_
    refine lv_if_le (tgt := 144) hx hb dX1_joined_137 (by decide) (fun c17 => ?_) (fun c17 => ?_)
    · refine lv_lconst (v := 0) hx hb dX1_joined_144 (by decide) ?_
      exact tk_lret hC hr hlocks hK ⟨hT, hF, trivial⟩ hw dX1_joined_145
    · refine lv_lconst (v := 1) hx hb dX1_joined_140 (by decide) ?_
      refine lv_goto (tgt := 145) hx hb dX1_joined_141 (by decide) ?_
      exact tk_lret hC hr hlocks hK ⟨hT, hF, trivial⟩ hw dX1_joined_145
  · refine lv_tableIn (off := 149) (tgt := 150) hx hb dX1_joined_1 (by omega) (by omega) (by rw [c1]; rfl) (by decide) ?_
    refine lv_lload_n hx hb dX1_joined_150 rfl (lv_at hl 1 rfl) ?_
    refine lv_lload_n hx hb dX1_joined_151 rfl (lv_at hl 2 rfl) ?_
    refine lv_lor hx hb dX1_joined_152 ?_
    refine lv_topl (fun x18 ex18 => ?_)
    exact tk_lret hC hr hlocks hK ⟨hT, hF, trivial⟩ hw dX1_joined_153
  · refine lv_tableIn (off := 145) (tgt := 146) hx hb dX1_joined_1 (by omega) (by omega) (by rw [c1]; rfl) (by decide) ?_
    refine lv_lload_n hx hb dX1_joined_146 rfl (lv_at hl 1 rfl) ?_
    refine lv_lload_n hx hb dX1_joined_147 rfl (lv_at hl 2 rfl) ?_
    refine lv_land hx hb dX1_joined_148 ?_
    refine lv_topl (fun x19 ex19 => ?_)
    exact tk_lret hC hr hlocks hK ⟨hT, hF, trivial⟩ hw dX1_joined_149
  · refine lv_tableOut (tgt := 150) hx hb dX1_joined_1 c1 (by decide) ?_
    refine lv_lload_n hx hb dX1_joined_150 rfl (lv_at hl 1 rfl) ?_
    refine lv_lload_n hx hb dX1_joined_151 rfl (lv_at hl 2 rfl) ?_
    refine lv_lor hx hb dX1_joined_152 ?_
    refine lv_topl (fun x20 ex20 => ?_)
    exact tk_lret hC hr hlocks hK ⟨hT, hF, trivial⟩ hw dX1_joined_153
abbrev P_X1_join_1 (ad : Nat → Nat) (cy : Nat → ClassId) (B : Int) (qr : Nat) (s1 : Int) (a1 : Int32) (w0 : va_W) : va_W → Prop := fun u => TW ksC ad cy B qr s1 u ∧ FE ksC [(1, 4, 4), (45, 0, 64)] w0 u ∧ (((∃ y : Int32, gi u 149 4 = y ∧ 0 ≤ y.toInt ∧ y.toInt ≤ 63)))
set_option maxHeartbeats 4000000 in
set_option maxRecDepth 100000 in
theorem k_X1_join_1 (l : Launch) (adK adV : Nat → Nat) (dC : Nat → ClassId) (dI : Nat → Nat → Nat) (cy : Nat → ClassId) (ad : Nat → Nat) (B : Int) (hB0 : 2147483648 ≤ B) (hB1 : B ≤ 1152921504606846976) (qr : Nat) (s1 : Int)  (a1 : Int32) (ra1 : 10 ≤ a1.toInt) (ta1 : a1.toInt ≤ 31) (w0 : va_W) (sz : Nat) (hT : TW ksC ad cy B qr s1 w0)  : Met l yX1_join (wu yX1_join cX1_join 2 none) ({ frames := 2, cells := 0, slots := 0, locals := 36 }) (va_Pc [.ref (ad 149), .int a1] (wpreS adK adV dC dI cy sz w0)) (va_Qv (P_X1_join_1 ad cy B qr s1 a1 w0) (fun u : va_W => wpost dC dI cy (va_A w0 sz) u) (va_A w0 sz)) 0 0 (va_A w0 sz) := by
  refine Met.ofW (cc := cX1_join) (maxL := 2) (ret := none) (by decide) rfl ?_
  intro p e s m args below meth c s₁ Bk hml hv
  obtain ⟨rfl, ⟨hsz, hP, hK, hD0⟩, hE, hSR⟩ := hv
  have hx := Bk.exec
  have hb := Bk.bytes
  have hr := Bk.returns
  have hlocks := Bk.notSynchronized
  have hC : CallFix p m c cX1_join 2 s _ (wu yX1_join cX1_join 2 none) RX1 := ⟨hx, hb, hml, findClass_of_methodNamed Bk.named, atoms_spec (ws := (wu yX1_join cX1_join 2 none)) Bk.pre⟩
  subst hsz
  have hD := hD0.self (sz := s.heap.size)
  generalize hAe : va_A w0 s.heap.size = A at hD hE ⊢
  have hA : ∀ q : Nat, s.heap.size ≤ q → A q := fun q h => by rw [← hAe]; exact Or.inr h
  have hw : Wd dC dI A s.heap s.heap [] w0 := ⟨hP, hD, va_S.rf⟩
  have hF : FE ksC [(1, 4, 4), (45, 0, 64)] w0 w0 := FE.rf
  have hl := lv_entry ([.ref (ad 149), .int a1]) (n := 2) (Nat.le_of_ble_eq_true rfl)
  rw [lg_entry_eq]
  generalize (lg_sl ([.ref (ad 149), .int a1]) ++ List.replicate (2 - (lg_sl ([.ref (ad 149), .int a1])).length) Slot.unset).toArray = ls at hl ⊢
  have hl : lv_has ls 2 [(0, .ref (ad 149)), (1, .int a1)] := hl
  generalize hloc : ([] : List Loc) = locs at hw ⊢
  have hinX1 : ∀ w ∈ u_ws RX1 TX1 10, w ∈ (wu yX1_join cX1_join 2 none) := fun _ h => List.mem_cons_of_mem _ (up_78 h)
  have J53 : ∀ (f53_149_4 : Int32) (H : Heap) (locs : List Loc) (ls : Array Slot) (w1 : va_W), 10 ≤ a1.toInt → a1.toInt ≤ 31 → 0 ≤ f53_149_4.toInt → f53_149_4.toInt ≤ 63 → Wd dC dI A s.heap H locs w1 → TW ksC ad cy B qr s1 w1 → FE ksC [(1, 4, 4), (45, 0, 64)] w0 w1 → gi w1 149 4 = f53_149_4 → lv_has ls 2 [(0, .ref (ad 149)), (1, .int a1)] → W p l e ({ frames := 2, cells := 0, slots := 0, locals := 36 }) s m (List.toArray [.ref (ad 149), .int a1]) below meth c H locs 0 0 (MQ below (va_Qv (P_X1_join_1 ad cy B qr s1 a1 w0) (fun u : va_W => wpost dC dI cy A u) A) (List.toArray [.ref (ad 149), .int a1]) s 0 0 A) (F0 m 53 ls []) := by
    intro f53_149_4 H locs ls w1 r2 t3 r4 t5 hw hT hF c6 hl
    exact tk_vret hC hr hlocks hK ⟨hT, hF, ⟨f53_149_4, c6, (show 0 ≤ f53_149_4.toInt from r4), (show f53_149_4.toInt ≤ 63 from t5)⟩⟩ hw dX1_join_53
  refine lv_aload_n hx hb dX1_join_0 rfl (lv_at hl 0 rfl) ?_
  refine tk_geti hC hK hw hT hinX1 kC_at149 (by decide) rfl 4 (by decide) (List.mem_cons_of_mem _ uw_44_19) rfl rfl dX1_join_1 (fun x7 c8 rx7 tx7 => ?_)
  refine lv_iconst (v := 1) hx hb dX1_join_4 (by decide) ?_
  refine lv_icmp_le (tgt := 53) hx hb dX1_join_5 (by decide) (fun c9 => ?_) (fun c9 => ?_)
  · have c9 : x7.toInt ≤ (1 : Int) := wk_le.mp c9
    exact J53 x7 s.heap locs ls w0 (show 10 ≤ a1.toInt from ra1) (show a1.toInt ≤ 31 from ta1) (show 0 ≤ x7.toInt from rx7) (show x7.toInt ≤ 63 from Int.le_trans c9 (by decide))  hw hT hF c8 (lv_sub hl [0, 1] rfl)
  · have c9 : (1 : Int) < x7.toInt := wk_leF c9
    refine lv_aload_n hx hb dX1_join_8 rfl (lv_at hl 0 rfl) ?_
    refine lv_dup hx hb dX1_join_9 rfl ?_
    refine tk_geti hC hK hw hT hinX1 kC_at149 (by decide) rfl 4 (by decide) (List.mem_cons_of_mem _ uw_44_19) rfl rfl dX1_join_10 (fun x10 c11 rx10 tx10 => ?_)
    refine wk_top x7 (c11.symm.trans c8) ?_
    refine lv_iconst (v := 1) hx hb dX1_join_13 (by decide) ?_
    refine lv_isub hx hb dX1_join_14 ?_
    refine lv_topi (fun x12 ex12 => ?_)
    have ex12 : x12.toInt = x7.toInt - (1 : Int) := by rw [ex12]; exact wk_sub (show (-2147483648) ≤ x7.toInt - (1 : Int) by omega) (show x7.toInt - (1 : Int) ≤ 2147483647 by omega)
    refine tk_puti hC hK hw hT hinX1 tyX1_ok nmX1 kC_at149 (by decide) rfl rfl 4 (by decide) (List.mem_cons_of_mem _ uw_44_19) rfl rfl rfl rfl (show 0 ≤ x12.toInt by first | with_reducible assumption | omega) (show x12.toInt ≤ 64 by first | with_reducible assumption | omega) dX1_join_15 (fun H locs w13 hw hT k15 c14 => ?_)
    have hF := hF.put kC_at149 (k := 4) (by decide) k15
    refine lv_aload_n hx hb dX1_join_18 rfl (lv_at hl 0 rfl) ?_
    refine tk_getA hC hK hw hT hinX1 kC_at149 (by decide) rfl 3 (by decide) (List.mem_cons_of_mem _ uw_4_23) rfl rfl dX1_join_19 ?_
    refine lv_aload_n hx hb dX1_join_22 rfl (lv_at hl 0 rfl) ?_
    refine tk_geti hC hK hw hT hinX1 kC_at149 (by decide) rfl 4 (by decide) (List.mem_cons_of_mem _ uw_44_19) rfl rfl dX1_join_23 (fun x16 c17 rx16 tx16 => ?_)
    refine wk_top x12 (c17.symm.trans c14) ?_
    refine lv_iconst (v := 1) hx hb dX1_join_26 (by decide) ?_
    refine lv_isub hx hb dX1_join_27 ?_
    refine lv_topi (fun x18 ex18 => ?_)
    have ex18 : x18.toInt = x12.toInt - (1 : Int) := by rw [ex18]; exact wk_sub (show (-2147483648) ≤ x12.toInt - (1 : Int) by omega) (show x12.toInt - (1 : Int) ≤ 2147483647 by omega)
    refine lv_iload_n hx hb dX1_join_28 rfl (lv_at hl 1 rfl) ?_
    refine lv_aload_n hx hb dX1_join_29 rfl (lv_at hl 0 rfl) ?_
    refine tk_getA hC hK hw hT hinX1 kC_at149 (by decide) rfl 3 (by decide) (List.mem_cons_of_mem _ uw_4_23) rfl rfl dX1_join_30 ?_
    refine lv_aload_n hx hb dX1_join_33 rfl (lv_at hl 0 rfl) ?_
    refine tk_geti hC hK hw hT hinX1 kC_at149 (by decide) rfl 4 (by decide) (List.mem_cons_of_mem _ uw_44_19) rfl rfl dX1_join_34 (fun x19 c20 rx19 tx19 => ?_)
    refine wk_top x12 (c20.symm.trans c14) ?_
    refine lv_iconst (v := 1) hx hb dX1_join_37 (by decide) ?_
    refine lv_isub hx hb dX1_join_38 ?_
    refine lv_topi (fun x21 ex21 => ?_)
    have ex21 : x21.toInt = x12.toInt - (1 : Int) := by rw [ex21]; exact wk_sub (show (-2147483648) ≤ x12.toInt - (1 : Int) by omega) (show x12.toInt - (1 : Int) ≤ 2147483647 by omega)
    refine tk_lald hC hK hw hT kC_at150 rfl (show 0 ≤ x21.toInt by first | with_reducible assumption | omega) (show x21.toInt < 64 by first | with_reducible assumption | omega) dX1_join_39 (fun x22 => ?_)
    refine lv_aload_n hx hb dX1_join_40 rfl (lv_at hl 0 rfl) ?_
    refine tk_getA hC hK hw hT hinX1 kC_at149 (by decide) rfl 3 (by decide) (List.mem_cons_of_mem _ uw_4_23) rfl rfl dX1_join_41 ?_
    refine lv_aload_n hx hb dX1_join_44 rfl (lv_at hl 0 rfl) ?_
    refine tk_geti hC hK hw hT hinX1 kC_at149 (by decide) rfl 4 (by decide) (List.mem_cons_of_mem _ uw_44_19) rfl rfl dX1_join_45 (fun x23 c24 rx23 tx23 => ?_)
    refine wk_top x12 (c24.symm.trans c14) ?_
    refine tk_lald hC hK hw hT kC_at150 rfl (show 0 ≤ x12.toInt by first | with_reducible assumption | omega) (show x12.toInt < 64 by first | with_reducible assumption | omega) dX1_join_48 (fun x25 => ?_)
    refine tk_Sl hC hK hw hT hA hE hSR (k_X1_joined_1 l adK adV dC dI cy ad B hB0 (Int.le_trans hB1 (by decide)) qr s1   a1 (show 10 ≤ a1.toInt from ra1) (show a1.toInt ≤ 31 from ta1) x22 x25 w13 H.size hT ) (va_cwS 3 hC.2.2.2.2 uS_RX1_192 rfl rfl rfl (by decide +kernel) ⟨Nat.le_of_ble_eq_true rfl, Nat.le_of_ble_eq_true rfl⟩) rfl hl.1 rfl (Nat.le_of_ble_eq_true rfl) dX1_join_49 (fun r26 w28 H locs hp27 hw => ?_)
    obtain ⟨hT, k29, hg30⟩ := hp27
    have hF := hF.tr k29 (by decide)
    have c31 := k29.gi kC_at149 (by decide) c14
    clear hg30
    refine tk_last hC hK hw hT kC_at150 (by decide) rfl (show 0 ≤ x18.toInt by first | with_reducible assumption | omega) (show x18.toInt < 64 by first | with_reducible assumption | omega) dX1_join_52 (fun H locs w32 hw hT k34 => ?_)
    have hF := hF.put kC_at150 (inE_of (a := 0) (b := 64) (by decide) (show 0 ≤ x18.toInt.toNat by omega) (show x18.toInt.toNat ≤ 64 by omega)) k34
    have c35 := k34.gi (Or.inl (tk_ne kC_at149 kC_at150 (by decide))) c31
    exact J53 x12 H locs ls w32 (show 10 ≤ a1.toInt from ra1) (show a1.toInt ≤ 31 from ta1) (show 0 ≤ x12.toInt by first | with_reducible assumption | omega) (show x12.toInt ≤ 63 by first | with_reducible assumption | omega)  hw hT hF c35 (lv_sub hl [0, 1] rfl)
abbrev P_X1_turn_1 (ad : Nat → Nat) (cy : Nat → ClassId) (B : Int) (qr : Nat) (s1 : Int)  (w0 : va_W) : va_W → Prop := fun u => TW ksC ad cy B qr s1 u ∧ FE ksC [(45, 0, 64)] w0 u ∧ ((True))
set_option maxHeartbeats 4000000 in
set_option maxRecDepth 100000 in
theorem k_X1_turn_1 (l : Launch) (adK adV : Nat → Nat) (dC : Nat → ClassId) (dI : Nat → Nat → Nat) (cy : Nat → ClassId) (ad : Nat → Nat) (B : Int) (hB0 : 2147483648 ≤ B) (hB1 : B ≤ 1152921504606846976) (qr : Nat) (s1 : Int)   (w0 : va_W) (sz : Nat) (hT : TW ksC ad cy B qr s1 w0)  : Met l yX1_turn (wu yX1_turn cX1_turn 1 none) ({ frames := 1, cells := 0, slots := 0, locals := 12 }) (va_Pc [.ref (ad 149)] (wpreS adK adV dC dI cy sz w0)) (va_Qv (P_X1_turn_1 ad cy B qr s1  w0) (fun u : va_W => wpost dC dI cy (va_A w0 sz) u) (va_A w0 sz)) 0 0 (va_A w0 sz) := by
  refine Met.ofW (cc := cX1_turn) (maxL := 1) (ret := none) (by decide) rfl ?_
  intro p e s m args below meth c s₁ Bk hml hv
  obtain ⟨rfl, ⟨hsz, hP, hK, hD0⟩, hE, hSR⟩ := hv
  have hx := Bk.exec
  have hb := Bk.bytes
  have hr := Bk.returns
  have hlocks := Bk.notSynchronized
  have hC : CallFix p m c cX1_turn 1 s _ (wu yX1_turn cX1_turn 1 none) RX1 := ⟨hx, hb, hml, findClass_of_methodNamed Bk.named, atoms_spec (ws := (wu yX1_turn cX1_turn 1 none)) Bk.pre⟩
  subst hsz
  have hD := hD0.self (sz := s.heap.size)
  generalize hAe : va_A w0 s.heap.size = A at hD hE ⊢
  have hA : ∀ q : Nat, s.heap.size ≤ q → A q := fun q h => by rw [← hAe]; exact Or.inr h
  have hw : Wd dC dI A s.heap s.heap [] w0 := ⟨hP, hD, va_S.rf⟩
  have hF : FE ksC [(45, 0, 64)] w0 w0 := FE.rf
  have hl := lv_entry ([.ref (ad 149)]) (n := 1) (Nat.le_of_ble_eq_true rfl)
  rw [lg_entry_eq]
  generalize (lg_sl ([.ref (ad 149)]) ++ List.replicate (1 - (lg_sl ([.ref (ad 149)])).length) Slot.unset).toArray = ls at hl ⊢
  have hl : lv_has ls 1 [(0, .ref (ad 149))] := hl
  generalize hloc : ([] : List Loc) = locs at hw ⊢
  have hinX1 : ∀ w ∈ u_ws RX1 TX1 10, w ∈ (wu yX1_turn cX1_turn 1 none) := fun _ h => List.mem_cons_of_mem _ (up_78 h)
  have J31 : ∀ (f31_149_4 : Int32) (H : Heap) (locs : List Loc) (ls : Array Slot) (w1 : va_W), 0 ≤ f31_149_4.toInt → f31_149_4.toInt ≤ 64 → Wd dC dI A s.heap H locs w1 → TW ksC ad cy B qr s1 w1 → FE ksC [(45, 0, 64)] w0 w1 → gi w1 149 4 = f31_149_4 → lv_has ls 1 [(0, .ref (ad 149))] → W p l e ({ frames := 1, cells := 0, slots := 0, locals := 12 }) s m (List.toArray [.ref (ad 149)]) below meth c H locs 0 0 (MQ below (va_Qv (P_X1_turn_1 ad cy B qr s1  w0) (fun u : va_W => wpost dC dI cy A u) A) (List.toArray [.ref (ad 149)]) s 0 0 A) (F0 m 31 ls []) := by
    intro f31_149_4 H locs ls w1 r2 t3 hw hT hF c4 hl
    exact tk_vret hC hr hlocks hK ⟨hT, hF, trivial⟩ hw dX1_turn_31
  refine lv_aload_n hx hb dX1_turn_0 rfl (lv_at hl 0 rfl) ?_
  refine tk_geti hC hK hw hT hinX1 kC_at149 (by decide) rfl 4 (by decide) (List.mem_cons_of_mem _ uw_44_19) rfl rfl dX1_turn_1 (fun x5 c6 rx5 tx5 => ?_)
  refine lv_if_le (tgt := 31) hx hb dX1_turn_4 (by decide) (fun c7 => ?_) (fun c7 => ?_)
  · have c7 : x5.toInt ≤ (0 : Int) := wk_le.mp c7
    exact J31 x5 s.heap locs ls w0 (show 0 ≤ x5.toInt from rx5) (show x5.toInt ≤ 64 from tx5)  hw hT hF c6 (lv_sub hl [0] rfl)
  · have c7 : (0 : Int) < x5.toInt := wk_leF c7
    refine lv_aload_n hx hb dX1_turn_7 rfl (lv_at hl 0 rfl) ?_
    refine tk_getA hC hK hw hT hinX1 kC_at149 (by decide) rfl 3 (by decide) (List.mem_cons_of_mem _ uw_4_23) rfl rfl dX1_turn_8 ?_
    refine lv_aload_n hx hb dX1_turn_11 rfl (lv_at hl 0 rfl) ?_
    refine tk_geti hC hK hw hT hinX1 kC_at149 (by decide) rfl 4 (by decide) (List.mem_cons_of_mem _ uw_44_19) rfl rfl dX1_turn_12 (fun x8 c9 rx8 tx8 => ?_)
    refine wk_top x5 (c9.symm.trans c6) ?_
    refine lv_iconst (v := 1) hx hb dX1_turn_15 (by decide) ?_
    refine lv_isub hx hb dX1_turn_16 ?_
    refine lv_topi (fun x10 ex10 => ?_)
    have ex10 : x10.toInt = x5.toInt - (1 : Int) := by rw [ex10]; exact wk_sub (show (-2147483648) ≤ x5.toInt - (1 : Int) by omega) (show x5.toInt - (1 : Int) ≤ 2147483647 by omega)
    refine lv_lconst (v := 1) hx hb dX1_turn_17 (by decide) ?_
    refine lv_aload_n hx hb dX1_turn_18 rfl (lv_at hl 0 rfl) ?_
    refine tk_getA hC hK hw hT hinX1 kC_at149 (by decide) rfl 3 (by decide) (List.mem_cons_of_mem _ uw_4_23) rfl rfl dX1_turn_19 ?_
    refine lv_aload_n hx hb dX1_turn_22 rfl (lv_at hl 0 rfl) ?_
    refine tk_geti hC hK hw hT hinX1 kC_at149 (by decide) rfl 4 (by decide) (List.mem_cons_of_mem _ uw_44_19) rfl rfl dX1_turn_23 (fun x11 c12 rx11 tx11 => ?_)
    refine wk_top x5 (c12.symm.trans c6) ?_
    refine lv_iconst (v := 1) hx hb dX1_turn_26 (by decide) ?_
    refine lv_isub hx hb dX1_turn_27 ?_
    refine lv_topi (fun x13 ex13 => ?_)
    have ex13 : x13.toInt = x5.toInt - (1 : Int) := by rw [ex13]; exact wk_sub (show (-2147483648) ≤ x5.toInt - (1 : Int) by omega) (show x5.toInt - (1 : Int) ≤ 2147483647 by omega)
    refine tk_lald hC hK hw hT kC_at150 rfl (show 0 ≤ x13.toInt by first | with_reducible assumption | omega) (show x13.toInt < 64 by first | with_reducible assumption | omega) dX1_turn_28 (fun x14 => ?_)
    refine lv_lsub hx hb dX1_turn_29 ?_
    have nx15 := wk_i64 x14
    refine lv_topl (fun x16 ex16 => ?_)
    refine tk_last hC hK hw hT kC_at150 (by decide) rfl (show 0 ≤ x10.toInt by first | with_reducible assumption | omega) (show x10.toInt < 64 by first | with_reducible assumption | omega) dX1_turn_30 (fun H locs w17 hw hT k19 => ?_)
    have hF := hF.put kC_at150 (inE_of (a := 0) (b := 64) (by decide) (show 0 ≤ x10.toInt.toNat by omega) (show x10.toInt.toNat ≤ 64 by omega)) k19
    have c20 := k19.gi (Or.inl (tk_ne kC_at149 kC_at150 (by decide))) c6
    exact J31 x5 H locs ls w17 (show 0 ≤ x5.toInt from rx5) (show x5.toInt ≤ 64 from tx5)  hw hT hF c20 (lv_sub hl [0] rfl)
abbrev P_X1_valueOf_1 (ad : Nat → Nat) (cy : Nat → ClassId) (B : Int) (qr : Nat) (s1 : Int) (q1_ : Nat) (a2 : Int32) (w0 : va_W) : Int64 → va_W → Prop := fun r u => TW ksC ad cy B qr s1 u ∧ FE ksC ([] : List (Nat × Nat × Nat)) w0 u ∧ (((-2147483648) ≤ r.toInt ∧ r.toInt ≤ 2147483647))
set_option maxHeartbeats 4000000 in
set_option maxRecDepth 100000 in
theorem k_X1_valueOf_1 (l : Launch) (adK adV : Nat → Nat) (dC : Nat → ClassId) (dI : Nat → Nat → Nat) (cy : Nat → ClassId) (ad : Nat → Nat) (B : Int) (hB0 : 2147483648 ≤ B) (hB1 : B ≤ 1152921504606846976) (qr : Nat) (s1 : Int)  (q1_ : Nat) (hkq1_ : ksC[q1_]? = some 9) (a2 : Int32) (ta2 : a2.toInt ≤ 9) (w0 : va_W) (sz : Nat) (hT : TW ksC ad cy B qr s1 w0)  : Met l yX1_valueOf (wu yX1_valueOf cX1_valueOf 3 (some .long)) ({ frames := 2, cells := 0, slots := 0, locals := 32 }) (va_Pc [.ref (ad 149), .ref (ad q1_), .int a2] (wpreS adK adV dC dI cy sz w0)) (va_Ql (P_X1_valueOf_1 ad cy B qr s1 q1_ a2 w0) (fun u : va_W => wpost dC dI cy (va_A w0 sz) u) (va_A w0 sz)) 0 0 (va_A w0 sz) := by
  refine Met.ofW (cc := cX1_valueOf) (maxL := 3) (ret := (some .long)) (by decide) rfl ?_
  intro p e s m args below meth c s₁ Bk hml hv
  obtain ⟨rfl, ⟨hsz, hP, hK, hD0⟩, hE, hSR⟩ := hv
  have hx := Bk.exec
  have hb := Bk.bytes
  have hr := Bk.returns
  have hlocks := Bk.notSynchronized
  have hC : CallFix p m c cX1_valueOf 3 s _ (wu yX1_valueOf cX1_valueOf 3 (some .long)) RX1 := ⟨hx, hb, hml, findClass_of_methodNamed Bk.named, atoms_spec (ws := (wu yX1_valueOf cX1_valueOf 3 (some .long))) Bk.pre⟩
  subst hsz
  have hD := hD0.self (sz := s.heap.size)
  generalize hAe : va_A w0 s.heap.size = A at hD hE ⊢
  have hA : ∀ q : Nat, s.heap.size ≤ q → A q := fun q h => by rw [← hAe]; exact Or.inr h
  have hw : Wd dC dI A s.heap s.heap [] w0 := ⟨hP, hD, va_S.rf⟩
  have hF : FE ksC ([] : List (Nat × Nat × Nat)) w0 w0 := FE.rf
  have hl := lv_entry ([.ref (ad 149), .ref (ad q1_), .int a2]) (n := 3) (Nat.le_of_ble_eq_true rfl)
  rw [lg_entry_eq]
  generalize (lg_sl ([.ref (ad 149), .ref (ad q1_), .int a2]) ++ List.replicate (3 - (lg_sl ([.ref (ad 149), .ref (ad q1_), .int a2])).length) Slot.unset).toArray = ls at hl ⊢
  have hl : lv_has ls 3 [(0, .ref (ad 149)), (1, .ref (ad q1_)), (2, .int a2)] := hl
  generalize hloc : ([] : List Loc) = locs at hw ⊢
  have hinX9 : ∀ w ∈ u_ws RX9 TX9 9, w ∈ (wu yX1_valueOf cX1_valueOf 3 (some .long)) := fun _ h => List.mem_cons_of_mem _ (up_82 h)
  have hinX1 : ∀ w ∈ u_ws RX1 TX1 10, w ∈ (wu yX1_valueOf cX1_valueOf 3 (some .long)) := fun _ h => List.mem_cons_of_mem _ (up_78 h)
  refine lv_iload_n hx hb dX1_valueOf_0 rfl (lv_at hl 2 rfl) ?_
  rcases (show a2.toInt = 0 ∨ a2.toInt = 1 ∨ a2.toInt = 2 ∨ a2.toInt = 3 ∨ a2.toInt = 4 ∨ a2.toInt = 5 ∨ a2.toInt = 6 ∨ a2.toInt = 7 ∨ a2.toInt = 8 ∨ (a2.toInt < 0 ∨ 8 < a2.toInt) by omega) with c1 | c1 | c1 | c1 | c1 | c1 | c1 | c1 | c1 | c1
  · refine lv_tableIn (off := 51) (tgt := 52) hx hb dX1_valueOf_1 (by omega) (by omega) (by rw [c1]; rfl) (by decide) ?_
    refine lv_aload_n hx hb dX1_valueOf_52 rfl (lv_at hl 1 rfl) ?_
    refine tk_getB hC hK hw hT hinX9 hkq1_ (by decide) rfl 4 (by decide) (List.mem_cons_of_mem _ uw_42_10) rfl rfl dX1_valueOf_53 (fun x2 c3 rx2 tx2 => ?_)
    refine lv_ldc2 (v := 24) hx hb hC.2.2.2.1 (hC.2.2.2.2 _ (List.mem_cons_of_mem _ uw_45_12)) dX1_valueOf_56 ?_
    refine lv_lrem hx hb dX1_valueOf_59 (by decide) ?_
    refine lv_topl (fun x4 ex4 => ?_)
    have ex4 : x4.toInt = x2.toInt % (24 : Int) := by rw [ex4]; exact wk_reml (show 0 ≤ x2.toInt by first | with_reducible assumption | omega) (show 0 < (24 : Int) by decide)
    exact tk_lret hC hr hlocks hK ⟨hT, hF, ⟨(show (-2147483648) ≤ x4.toInt by first | with_reducible assumption | omega), (show x4.toInt ≤ 2147483647 by first | with_reducible assumption | omega)⟩⟩ hw dX1_valueOf_60
  · refine lv_tableIn (off := 60) (tgt := 61) hx hb dX1_valueOf_1 (by omega) (by omega) (by rw [c1]; rfl) (by decide) ?_
    refine lv_aload_n hx hb dX1_valueOf_61 rfl (lv_at hl 1 rfl) ?_
    refine tk_Vl hC hK hw hT hA hE hSR hkq1_ (by decide) rfl (k_X9_dayNow_1 l adK adV dC dI cy ad B hB0 (Int.le_trans hB1 (by decide)) qr s1   q1_ hkq1_ w0 s.heap.size hT ) (cwV 0 hC.2.2.2.2 uV_RX1_68 rfl rfl rfl (by decide +kernel) ⟨Nat.le_of_ble_eq_true rfl, Nat.le_of_ble_eq_true rfl⟩) rfl hl.1 rfl (Nat.le_of_ble_eq_true rfl) dX1_valueOf_62 (fun r5 w7 H locs hp6 hw => ?_)
    obtain ⟨hT, k8, hg11⟩ := hp6
    have hF := hF.tr k8 (by decide)
    obtain ⟨g9, g10⟩ := hg11
    refine lv_ldc2 (v := 7) hx hb hC.2.2.2.1 (hC.2.2.2.2 _ (List.mem_cons_of_mem _ uw_45_13)) dX1_valueOf_65 ?_
    refine lv_lrem hx hb dX1_valueOf_68 (by decide) ?_
    refine lv_topl (fun x12 ex12 => ?_)
    have ex12 : x12.toInt = r5.toInt % (7 : Int) := by rw [ex12]; exact wk_reml (show 0 ≤ r5.toInt by first | with_reducible assumption | omega) (show 0 < (7 : Int) by decide)
    exact tk_lret hC hr hlocks hK ⟨hT, hF, ⟨(show (-2147483648) ≤ x12.toInt by first | with_reducible assumption | omega), (show x12.toInt ≤ 2147483647 by first | with_reducible assumption | omega)⟩⟩ hw dX1_valueOf_69
  · refine lv_tableIn (off := 69) (tgt := 70) hx hb dX1_valueOf_1 (by omega) (by omega) (by rw [c1]; rfl) (by decide) ?_
    refine lv_aload_n hx hb dX1_valueOf_70 rfl (lv_at hl 0 rfl) ?_
    refine tk_geti hC hK hw hT hinX1 kC_at149 (by decide) rfl 9 (by decide) (List.mem_cons_of_mem _ uw_42_20) rfl rfl dX1_valueOf_71 (fun x13 c14 rx13 tx13 => ?_)
    refine lv_if_eq (tgt := 81) hx hb dX1_valueOf_74 (by decide) (fun c15 => ?_) (fun c15 => ?_)
    · have c15 : x13.toInt = (0 : Int) := wk_eq.mp c15
      refine lv_aload_n hx hb dX1_valueOf_81 rfl (lv_at hl 1 rfl) ?_
      refine tk_Vl hC hK hw hT hA hE hSR hkq1_ (by decide) rfl (k_X9_dayNow_1 l adK adV dC dI cy ad B hB0 (Int.le_trans hB1 (by decide)) qr s1   q1_ hkq1_ w0 s.heap.size hT ) (cwV 0 hC.2.2.2.2 uV_RX1_68 rfl rfl rfl (by decide +kernel) ⟨Nat.le_of_ble_eq_true rfl, Nat.le_of_ble_eq_true rfl⟩) rfl hl.1 rfl (Nat.le_of_ble_eq_true rfl) dX1_valueOf_82 (fun r16 w18 H locs hp17 hw => ?_)
      obtain ⟨hT, k19, hg22⟩ := hp17
      have hF := hF.tr k19 (by decide)
      have c23 := k19.gi kC_at149 (by decide) c14
      obtain ⟨g20, g21⟩ := hg22
      refine lv_ldc2 (v := 360) hx hb hC.2.2.2.1 (hC.2.2.2.2 _ (List.mem_cons_of_mem _ uw_45_14)) dX1_valueOf_85 ?_
      refine lv_lrem hx hb dX1_valueOf_88 (by decide) ?_
      refine lv_topl (fun x24 ex24 => ?_)
      have ex24 : x24.toInt = r16.toInt % (360 : Int) := by rw [ex24]; exact wk_reml (show 0 ≤ r16.toInt by first | with_reducible assumption | omega) (show 0 < (360 : Int) by decide)
      exact tk_lret hC hr hlocks hK ⟨hT, hF, ⟨(show (-2147483648) ≤ x24.toInt by first | with_reducible assumption | omega), (show x24.toInt ≤ 2147483647 by first | with_reducible assumption | omega)⟩⟩ hw dX1_valueOf_89
    · have c15 : ¬ x13.toInt = (0 : Int) := wk_eqF c15
      refine lv_lconst (v := 0) hx hb dX1_valueOf_77 (by decide) ?_
      refine lv_goto (tgt := 89) hx hb dX1_valueOf_78 (by decide) ?_
      exact tk_lret hC hr hlocks hK ⟨hT, hF, ⟨(by decide), (by decide)⟩⟩ hw dX1_valueOf_89
  · refine lv_tableIn (off := 89) (tgt := 90) hx hb dX1_valueOf_1 (by omega) (by omega) (by rw [c1]; rfl) (by decide) ?_
    refine lv_aload_n hx hb dX1_valueOf_90 rfl (lv_at hl 1 rfl) ?_
    refine tk_geti hC hK hw hT hinX9 hkq1_ (by decide) rfl 0 (by decide) (List.mem_cons_of_mem _ uw_42_22) rfl rfl dX1_valueOf_91 (fun x25 c26 rx25 tx25 => ?_)
    refine lv_i2l hx hb dX1_valueOf_94 rfl ?_
    refine lv_topl (fun x27 ex27 => ?_)
    have ex27 : x27.toInt = x25.toInt := by rw [ex27]; exact wk_i2l _
    have bx27 := wk_i32 x25
    exact tk_lret hC hr hlocks hK ⟨hT, hF, ⟨(show (-2147483648) ≤ x27.toInt by first | with_reducible assumption | omega), (show x27.toInt ≤ 2147483647 by first | with_reducible assumption | omega)⟩⟩ hw dX1_valueOf_95
  · refine lv_tableIn (off := 95) (tgt := 96) hx hb dX1_valueOf_1 (by omega) (by omega) (by rw [c1]; rfl) (by decide) ?_
    refine lv_aload_n hx hb dX1_valueOf_96 rfl (lv_at hl 1 rfl) ?_
    refine tk_geti hC hK hw hT hinX9 hkq1_ (by decide) rfl 1 (by decide) (List.mem_cons_of_mem _ uw_42_23) rfl rfl dX1_valueOf_97 (fun x28 c29 rx28 tx28 => ?_)
    refine lv_i2l hx hb dX1_valueOf_100 rfl ?_
    refine lv_topl (fun x30 ex30 => ?_)
    have ex30 : x30.toInt = x28.toInt := by rw [ex30]; exact wk_i2l _
    have bx30 := wk_i32 x28
    exact tk_lret hC hr hlocks hK ⟨hT, hF, ⟨(show (-2147483648) ≤ x30.toInt by first | with_reducible assumption | omega), (show x30.toInt ≤ 2147483647 by first | with_reducible assumption | omega)⟩⟩ hw dX1_valueOf_101
  · refine lv_tableIn (off := 101) (tgt := 102) hx hb dX1_valueOf_1 (by omega) (by omega) (by rw [c1]; rfl) (by decide) ?_
    refine lv_aload_n hx hb dX1_valueOf_102 rfl (lv_at hl 0 rfl) ?_
    refine tk_geti hC hK hw hT hinX1 kC_at149 (by decide) rfl 6 (by decide) (List.mem_cons_of_mem _ uw_42_5) rfl rfl dX1_valueOf_103 (fun x31 c32 rx31 tx31 => ?_)
    refine lv_if_eq (tgt := 113) hx hb dX1_valueOf_106 (by decide) (fun c33 => ?_) (fun c33 => ?_)
    · have c33 : x31.toInt = (0 : Int) := wk_eq.mp c33
      refine lv_lconst (v := 1) hx hb dX1_valueOf_113 (by decide) ?_
      exact tk_lret hC hr hlocks hK ⟨hT, hF, ⟨(by decide), (by decide)⟩⟩ hw dX1_valueOf_114
    · have c33 : ¬ x31.toInt = (0 : Int) := wk_eqF c33
      refine lv_lconst (v := 0) hx hb dX1_valueOf_109 (by decide) ?_
      refine lv_goto (tgt := 114) hx hb dX1_valueOf_110 (by decide) ?_
      exact tk_lret hC hr hlocks hK ⟨hT, hF, ⟨(by decide), (by decide)⟩⟩ hw dX1_valueOf_114
  · refine lv_tableIn (off := 114) (tgt := 115) hx hb dX1_valueOf_1 (by omega) (by omega) (by rw [c1]; rfl) (by decide) ?_
    refine lv_aload_n hx hb dX1_valueOf_115 rfl (lv_at hl 0 rfl) ?_
    refine tk_geti hC hK hw hT hinX1 kC_at149 (by decide) rfl 8 (by decide) (List.mem_cons_of_mem _ uw_43_1) rfl rfl dX1_valueOf_116 (fun x34 c35 rx34 tx34 => ?_)
    refine lv_i2l hx hb dX1_valueOf_119 rfl ?_
    refine lv_topl (fun x36 ex36 => ?_)
    have ex36 : x36.toInt = x34.toInt := by rw [ex36]; exact wk_i2l _
    have bx36 := wk_i32 x34
    exact tk_lret hC hr hlocks hK ⟨hT, hF, ⟨(show (-2147483648) ≤ x36.toInt by first | with_reducible assumption | omega), (show x36.toInt ≤ 2147483647 by first | with_reducible assumption | omega)⟩⟩ hw dX1_valueOf_120
  · refine lv_tableIn (off := 120) (tgt := 121) hx hb dX1_valueOf_1 (by omega) (by omega) (by rw [c1]; rfl) (by decide) ?_
    refine lv_aload_n hx hb dX1_valueOf_121 rfl (lv_at hl 0 rfl) ?_
    refine tk_geti hC hK hw hT hinX1 kC_at149 (by decide) rfl 9 (by decide) (List.mem_cons_of_mem _ uw_42_20) rfl rfl dX1_valueOf_122 (fun x37 c38 rx37 tx37 => ?_)
    refine lv_if_eq (tgt := 132) hx hb dX1_valueOf_125 (by decide) (fun c39 => ?_) (fun c39 => ?_)
    · have c39 : x37.toInt = (0 : Int) := wk_eq.mp c39
      refine lv_aload_n hx hb dX1_valueOf_132 rfl (lv_at hl 1 rfl) ?_
      refine tk_geti hC hK hw hT hinX9 hkq1_ (by decide) rfl 5 (by decide) (List.mem_cons_of_mem _ uw_42_11) rfl rfl dX1_valueOf_133 (fun x40 c41 rx40 tx40 => ?_)
      refine lv_i2l hx hb dX1_valueOf_136 rfl ?_
      refine lv_topl (fun x42 ex42 => ?_)
      have ex42 : x42.toInt = x40.toInt := by rw [ex42]; exact wk_i2l _
      have bx42 := wk_i32 x40
      exact tk_lret hC hr hlocks hK ⟨hT, hF, ⟨(show (-2147483648) ≤ x42.toInt by first | with_reducible assumption | omega), (show x42.toInt ≤ 2147483647 by first | with_reducible assumption | omega)⟩⟩ hw dX1_valueOf_137
    · have c39 : ¬ x37.toInt = (0 : Int) := wk_eqF c39
      refine lv_lconst (v := 0) hx hb dX1_valueOf_128 (by decide) ?_
      refine lv_goto (tgt := 137) hx hb dX1_valueOf_129 (by decide) ?_
      exact tk_lret hC hr hlocks hK ⟨hT, hF, ⟨(by decide), (by decide)⟩⟩ hw dX1_valueOf_137
  · refine lv_tableIn (off := 137) (tgt := 138) hx hb dX1_valueOf_1 (by omega) (by omega) (by rw [c1]; rfl) (by decide) ?_
    refine lv_aload_n hx hb dX1_valueOf_138 rfl (lv_at hl 1 rfl) ?_
    refine tk_geti hC hK hw hT hinX9 hkq1_ (by decide) rfl 6 (by decide) (List.mem_cons_of_mem _ uw_42_9) rfl rfl dX1_valueOf_139 (fun x43 c44 rx43 tx43 => ?_)
    refine lv_i2l hx hb dX1_valueOf_142 rfl ?_
    refine lv_topl (fun x45 ex45 => ?_)
    have ex45 : x45.toInt = x43.toInt := by rw [ex45]; exact wk_i2l _
    have bx45 := wk_i32 x43
    exact tk_lret hC hr hlocks hK ⟨hT, hF, ⟨(show (-2147483648) ≤ x45.toInt by first | with_reducible assumption | omega), (show x45.toInt ≤ 2147483647 by first | with_reducible assumption | omega)⟩⟩ hw dX1_valueOf_143
  · refine lv_tableOut (tgt := 144) hx hb dX1_valueOf_1 c1 (by decide) ?_
    refine lv_aload_n hx hb dX1_valueOf_144 rfl (lv_at hl 1 rfl) ?_
    refine tk_geti hC hK hw hT hinX9 hkq1_ (by decide) rfl 7 (by decide) (List.mem_cons_of_mem _ uw_45_15) rfl rfl dX1_valueOf_145 (fun x46 c47 rx46 tx46 => ?_)
    refine lv_iconst (v := (-1)) hx hb dX1_valueOf_148 (by decide) ?_
    refine lv_icmp_ne (tgt := 158) hx hb dX1_valueOf_149 (by decide) (fun c48 => ?_) (fun c48 => ?_)
    · have c48 : ¬ x46.toInt = (-1 : Int) := wk_eqF c48
      refine lv_aload_n hx hb dX1_valueOf_158 rfl (lv_at hl 1 rfl) ?_
      refine tk_geti hC hK hw hT hinX9 hkq1_ (by decide) rfl 7 (by decide) (List.mem_cons_of_mem _ uw_45_15) rfl rfl dX1_valueOf_159 (fun x49 c50 rx49 tx49 => ?_)
      refine wk_top x46 (c50.symm.trans c47) ?_
      refine lv_i2l hx hb dX1_valueOf_162 rfl ?_
      refine lv_topl (fun x51 ex51 => ?_)
      have ex51 : x51.toInt = x46.toInt := by rw [ex51]; exact wk_i2l _
      have bx51 := wk_i32 x46
      exact tk_lret hC hr hlocks hK ⟨hT, hF, ⟨(show (-2147483648) ≤ x51.toInt by first | with_reducible assumption | omega), (show x51.toInt ≤ 2147483647 by first | with_reducible assumption | omega)⟩⟩ hw dX1_valueOf_163
    · have c48 : x46.toInt = (-1 : Int) := wk_eq.mp c48
      refine lv_ldc2 (v := 99) hx hb hC.2.2.2.1 (hC.2.2.2.2 _ (List.mem_cons_of_mem _ uw_45_16)) dX1_valueOf_152 ?_
      refine lv_goto (tgt := 163) hx hb dX1_valueOf_155 (by decide) ?_
      exact tk_lret hC hr hlocks hK ⟨hT, hF, ⟨(by decide), (by decide)⟩⟩ hw dX1_valueOf_163
abbrev P_X1_push_1 (ad : Nat → Nat) (cy : Nat → ClassId) (B : Int) (qr : Nat) (s1 : Int) (a1 : Int64) (w0 : va_W) : va_W → Prop := fun u => TW ksC ad cy B qr s1 u ∧ FE ksC [(1, 4, 4), (45, 0, 64)] w0 u ∧ (((∃ y : Int32, gi u 149 4 = y ∧ 1 ≤ y.toInt ∧ y.toInt ≤ 64)))
set_option maxHeartbeats 4000000 in
set_option maxRecDepth 100000 in
theorem k_X1_push_1 (l : Launch) (adK adV : Nat → Nat) (dC : Nat → ClassId) (dI : Nat → Nat → Nat) (cy : Nat → ClassId) (ad : Nat → Nat) (B : Int) (hB0 : 2147483648 ≤ B) (hB1 : B ≤ 1152921504606846976) (qr : Nat) (s1 : Int)  (a1 : Int64) (ra1 : (-2147483648) ≤ a1.toInt) (ta1 : a1.toInt ≤ 2147483647) (w0 : va_W) (sz : Nat) (hT : TW ksC ad cy B qr s1 w0)  : Met l yX1_push (wu yX1_push cX1_push 3 none) ({ frames := 1, cells := 0, slots := 0, locals := 12 }) (va_Pc [.ref (ad 149), .long a1] (wpreS adK adV dC dI cy sz w0)) (va_Qv (P_X1_push_1 ad cy B qr s1 a1 w0) (fun u : va_W => wpost dC dI cy (va_A w0 sz) u) (va_A w0 sz)) 0 0 (va_A w0 sz) := by
  refine Met.ofW (cc := cX1_push) (maxL := 3) (ret := none) (by decide) rfl ?_
  intro p e s m args below meth c s₁ Bk hml hv
  obtain ⟨rfl, ⟨hsz, hP, hK, hD0⟩, hE, hSR⟩ := hv
  have hx := Bk.exec
  have hb := Bk.bytes
  have hr := Bk.returns
  have hlocks := Bk.notSynchronized
  have hC : CallFix p m c cX1_push 3 s _ (wu yX1_push cX1_push 3 none) RX1 := ⟨hx, hb, hml, findClass_of_methodNamed Bk.named, atoms_spec (ws := (wu yX1_push cX1_push 3 none)) Bk.pre⟩
  subst hsz
  have hD := hD0.self (sz := s.heap.size)
  generalize hAe : va_A w0 s.heap.size = A at hD hE ⊢
  have hA : ∀ q : Nat, s.heap.size ≤ q → A q := fun q h => by rw [← hAe]; exact Or.inr h
  have hw : Wd dC dI A s.heap s.heap [] w0 := ⟨hP, hD, va_S.rf⟩
  have hF : FE ksC [(1, 4, 4), (45, 0, 64)] w0 w0 := FE.rf
  have hl := lv_entry ([.ref (ad 149), .long a1]) (n := 3) (Nat.le_of_ble_eq_true rfl)
  rw [lg_entry_eq]
  generalize (lg_sl ([.ref (ad 149), .long a1]) ++ List.replicate (3 - (lg_sl ([.ref (ad 149), .long a1])).length) Slot.unset).toArray = ls at hl ⊢
  have hl : lv_has ls 3 [(0, .ref (ad 149)), (1, .long a1)] := hl
  generalize hloc : ([] : List Loc) = locs at hw ⊢
  have hinX1 : ∀ w ∈ u_ws RX1 TX1 10, w ∈ (wu yX1_push cX1_push 3 none) := fun _ h => List.mem_cons_of_mem _ (up_78 h)
  have J29 : ∀ (f29_149_4 : Int32) (H : Heap) (locs : List Loc) (ls : Array Slot) (w1 : va_W), (-2147483648) ≤ a1.toInt → a1.toInt ≤ 2147483647 → 1 ≤ f29_149_4.toInt → f29_149_4.toInt ≤ 64 → Wd dC dI A s.heap H locs w1 → TW ksC ad cy B qr s1 w1 → FE ksC [(1, 4, 4), (45, 0, 64)] w0 w1 → gi w1 149 4 = f29_149_4 → lv_has ls 3 [(0, .ref (ad 149)), (1, .long a1)] → W p l e ({ frames := 1, cells := 0, slots := 0, locals := 12 }) s m (List.toArray [.ref (ad 149), .long a1]) below meth c H locs 0 0 (MQ below (va_Qv (P_X1_push_1 ad cy B qr s1 a1 w0) (fun u : va_W => wpost dC dI cy A u) A) (List.toArray [.ref (ad 149), .long a1]) s 0 0 A) (F0 m 29 ls []) := by
    intro f29_149_4 H locs ls w1 r2 t3 r4 t5 hw hT hF c6 hl
    exact tk_vret hC hr hlocks hK ⟨hT, hF, ⟨f29_149_4, c6, (show 1 ≤ f29_149_4.toInt from r4), (show f29_149_4.toInt ≤ 64 from t5)⟩⟩ hw dX1_push_29
  refine lv_aload_n hx hb dX1_push_0 rfl (lv_at hl 0 rfl) ?_
  refine tk_geti hC hK hw hT hinX1 kC_at149 (by decide) rfl 4 (by decide) (List.mem_cons_of_mem _ uw_44_19) rfl rfl dX1_push_1 (fun x7 c8 rx7 tx7 => ?_)
  refine lv_bipush (v := 64) hx hb dX1_push_4 (by decide) ?_
  refine lv_icmp_ge (tgt := 29) hx hb dX1_push_6 (by decide) (fun c9 => ?_) (fun c9 => ?_)
  · have c9 : (64 : Int) ≤ x7.toInt := wk_le.mp c9
    exact J29 x7 s.heap locs ls w0 (show (-2147483648) ≤ a1.toInt from ra1) (show a1.toInt ≤ 2147483647 from ta1) (show 1 ≤ x7.toInt from Int.le_trans (by decide) c9) (show x7.toInt ≤ 64 from tx7)  hw hT hF c8 (lv_sub hl [0, 1] rfl)
  · have c9 : x7.toInt < (64 : Int) := wk_leF c9
    refine lv_aload_n hx hb dX1_push_9 rfl (lv_at hl 0 rfl) ?_
    refine tk_getA hC hK hw hT hinX1 kC_at149 (by decide) rfl 3 (by decide) (List.mem_cons_of_mem _ uw_4_23) rfl rfl dX1_push_10 ?_
    refine lv_aload_n hx hb dX1_push_13 rfl (lv_at hl 0 rfl) ?_
    refine tk_geti hC hK hw hT hinX1 kC_at149 (by decide) rfl 4 (by decide) (List.mem_cons_of_mem _ uw_44_19) rfl rfl dX1_push_14 (fun x10 c11 rx10 tx10 => ?_)
    refine wk_top x7 (c11.symm.trans c8) ?_
    refine lv_lload_n hx hb dX1_push_17 rfl (lv_at hl 1 rfl) ?_
    refine tk_last hC hK hw hT kC_at150 (by decide) rfl (show 0 ≤ x7.toInt from rx7) (show x7.toInt < 64 from c9) dX1_push_18 (fun H locs w12 hw hT k14 => ?_)
    have hF := hF.put kC_at150 (inE_of (a := 0) (b := 64) (by decide) (show 0 ≤ x7.toInt.toNat by omega) (show x7.toInt.toNat ≤ 64 by omega)) k14
    have c15 := k14.gi (Or.inl (tk_ne kC_at149 kC_at150 (by decide))) c8
    refine lv_aload_n hx hb dX1_push_19 rfl (lv_at hl 0 rfl) ?_
    refine lv_dup hx hb dX1_push_20 rfl ?_
    refine tk_geti hC hK hw hT hinX1 kC_at149 (by decide) rfl 4 (by decide) (List.mem_cons_of_mem _ uw_44_19) rfl rfl dX1_push_21 (fun x16 c17 rx16 tx16 => ?_)
    refine wk_top x7 (c17.symm.trans c15) ?_
    refine lv_iconst (v := 1) hx hb dX1_push_24 (by decide) ?_
    refine lv_iadd hx hb dX1_push_25 ?_
    refine lv_topi (fun x18 ex18 => ?_)
    have ex18 : x18.toInt = x7.toInt + (1 : Int) := by rw [ex18]; exact wk_add (show (-2147483648) ≤ x7.toInt + (1 : Int) by omega) (show x7.toInt + (1 : Int) ≤ 2147483647 by omega)
    refine tk_puti hC hK hw hT hinX1 tyX1_ok nmX1 kC_at149 (by decide) rfl rfl 4 (by decide) (List.mem_cons_of_mem _ uw_44_19) rfl rfl rfl rfl (show 0 ≤ x18.toInt by first | with_reducible assumption | omega) (show x18.toInt ≤ 64 by first | with_reducible assumption | omega) dX1_push_26 (fun H locs w19 hw hT k21 c20 => ?_)
    have hF := hF.put kC_at149 (k := 4) (by decide) k21
    exact J29 x18 H locs ls w19 (show (-2147483648) ≤ a1.toInt from ra1) (show a1.toInt ≤ 2147483647 from ta1) (show 1 ≤ x18.toInt by first | with_reducible assumption | omega) (show x18.toInt ≤ 64 by first | with_reducible assumption | omega)  hw hT hF c20 (lv_sub hl [0, 1] rfl)
abbrev P_X1_push_2 (ad : Nat → Nat) (cy : Nat → ClassId) (B : Int) (qr : Nat) (s1 : Int) (a1 : Int64) (w0 : va_W) : va_W → Prop := fun u => TW ksC ad cy B qr s1 u ∧ FE ksC [(1, 4, 4), (45, 0, 64)] w0 u ∧ (((∃ y : Int32, gi u 149 4 = y ∧ 1 ≤ y.toInt ∧ y.toInt ≤ 64)))
set_option maxHeartbeats 4000000 in
set_option maxRecDepth 100000 in
theorem k_X1_push_2 (l : Launch) (adK adV : Nat → Nat) (dC : Nat → ClassId) (dI : Nat → Nat → Nat) (cy : Nat → ClassId) (ad : Nat → Nat) (B : Int) (hB0 : 2147483648 ≤ B) (hB1 : B ≤ 1152921504606846976) (qr : Nat) (s1 : Int)  (a1 : Int64) (ra1 : 0 ≤ a1.toInt) (ta1 : a1.toInt ≤ 2147483615) (w0 : va_W) (sz : Nat) (hT : TW ksC ad cy B qr s1 w0)  : Met l yX1_push (wu yX1_push cX1_push 3 none) ({ frames := 1, cells := 0, slots := 0, locals := 12 }) (va_Pc [.ref (ad 149), .long a1] (wpreS adK adV dC dI cy sz w0)) (va_Qv (P_X1_push_2 ad cy B qr s1 a1 w0) (fun u : va_W => wpost dC dI cy (va_A w0 sz) u) (va_A w0 sz)) 0 0 (va_A w0 sz) := by
  refine Met.ofW (cc := cX1_push) (maxL := 3) (ret := none) (by decide) rfl ?_
  intro p e s m args below meth c s₁ Bk hml hv
  obtain ⟨rfl, ⟨hsz, hP, hK, hD0⟩, hE, hSR⟩ := hv
  have hx := Bk.exec
  have hb := Bk.bytes
  have hr := Bk.returns
  have hlocks := Bk.notSynchronized
  have hC : CallFix p m c cX1_push 3 s _ (wu yX1_push cX1_push 3 none) RX1 := ⟨hx, hb, hml, findClass_of_methodNamed Bk.named, atoms_spec (ws := (wu yX1_push cX1_push 3 none)) Bk.pre⟩
  subst hsz
  have hD := hD0.self (sz := s.heap.size)
  generalize hAe : va_A w0 s.heap.size = A at hD hE ⊢
  have hA : ∀ q : Nat, s.heap.size ≤ q → A q := fun q h => by rw [← hAe]; exact Or.inr h
  have hw : Wd dC dI A s.heap s.heap [] w0 := ⟨hP, hD, va_S.rf⟩
  have hF : FE ksC [(1, 4, 4), (45, 0, 64)] w0 w0 := FE.rf
  have hl := lv_entry ([.ref (ad 149), .long a1]) (n := 3) (Nat.le_of_ble_eq_true rfl)
  rw [lg_entry_eq]
  generalize (lg_sl ([.ref (ad 149), .long a1]) ++ List.replicate (3 - (lg_sl ([.ref (ad 149), .long a1])).length) Slot.unset).toArray = ls at hl ⊢
  have hl : lv_has ls 3 [(0, .ref (ad 149)), (1, .long a1)] := hl
  generalize hloc : ([] : List Loc) = locs at hw ⊢
  have hinX1 : ∀ w ∈ u_ws RX1 TX1 10, w ∈ (wu yX1_push cX1_push 3 none) := fun _ h => List.mem_cons_of_mem _ (up_78 h)
  have J29 : ∀ (f29_149_4 : Int32) (H : Heap) (locs : List Loc) (ls : Array Slot) (w1 : va_W), 0 ≤ a1.toInt → a1.toInt ≤ 2147483615 → 1 ≤ f29_149_4.toInt → f29_149_4.toInt ≤ 64 → Wd dC dI A s.heap H locs w1 → TW ksC ad cy B qr s1 w1 → FE ksC [(1, 4, 4), (45, 0, 64)] w0 w1 → gi w1 149 4 = f29_149_4 → lv_has ls 3 [(0, .ref (ad 149)), (1, .long a1)] → W p l e ({ frames := 1, cells := 0, slots := 0, locals := 12 }) s m (List.toArray [.ref (ad 149), .long a1]) below meth c H locs 0 0 (MQ below (va_Qv (P_X1_push_2 ad cy B qr s1 a1 w0) (fun u : va_W => wpost dC dI cy A u) A) (List.toArray [.ref (ad 149), .long a1]) s 0 0 A) (F0 m 29 ls []) := by
    intro f29_149_4 H locs ls w1 r2 t3 r4 t5 hw hT hF c6 hl
    exact tk_vret hC hr hlocks hK ⟨hT, hF, ⟨f29_149_4, c6, (show 1 ≤ f29_149_4.toInt from r4), (show f29_149_4.toInt ≤ 64 from t5)⟩⟩ hw dX1_push_29
  refine lv_aload_n hx hb dX1_push_0 rfl (lv_at hl 0 rfl) ?_
  refine tk_geti hC hK hw hT hinX1 kC_at149 (by decide) rfl 4 (by decide) (List.mem_cons_of_mem _ uw_44_19) rfl rfl dX1_push_1 (fun x7 c8 rx7 tx7 => ?_)
  refine lv_bipush (v := 64) hx hb dX1_push_4 (by decide) ?_
  refine lv_icmp_ge (tgt := 29) hx hb dX1_push_6 (by decide) (fun c9 => ?_) (fun c9 => ?_)
  · have c9 : (64 : Int) ≤ x7.toInt := wk_le.mp c9
    exact J29 x7 s.heap locs ls w0 (show 0 ≤ a1.toInt from ra1) (show a1.toInt ≤ 2147483615 from ta1) (show 1 ≤ x7.toInt from Int.le_trans (by decide) c9) (show x7.toInt ≤ 64 from tx7)  hw hT hF c8 (lv_sub hl [0, 1] rfl)
  · have c9 : x7.toInt < (64 : Int) := wk_leF c9
    refine lv_aload_n hx hb dX1_push_9 rfl (lv_at hl 0 rfl) ?_
    refine tk_getA hC hK hw hT hinX1 kC_at149 (by decide) rfl 3 (by decide) (List.mem_cons_of_mem _ uw_4_23) rfl rfl dX1_push_10 ?_
    refine lv_aload_n hx hb dX1_push_13 rfl (lv_at hl 0 rfl) ?_
    refine tk_geti hC hK hw hT hinX1 kC_at149 (by decide) rfl 4 (by decide) (List.mem_cons_of_mem _ uw_44_19) rfl rfl dX1_push_14 (fun x10 c11 rx10 tx10 => ?_)
    refine wk_top x7 (c11.symm.trans c8) ?_
    refine lv_lload_n hx hb dX1_push_17 rfl (lv_at hl 1 rfl) ?_
    refine tk_last hC hK hw hT kC_at150 (by decide) rfl (show 0 ≤ x7.toInt from rx7) (show x7.toInt < 64 from c9) dX1_push_18 (fun H locs w12 hw hT k14 => ?_)
    have hF := hF.put kC_at150 (inE_of (a := 0) (b := 64) (by decide) (show 0 ≤ x7.toInt.toNat by omega) (show x7.toInt.toNat ≤ 64 by omega)) k14
    have c15 := k14.gi (Or.inl (tk_ne kC_at149 kC_at150 (by decide))) c8
    refine lv_aload_n hx hb dX1_push_19 rfl (lv_at hl 0 rfl) ?_
    refine lv_dup hx hb dX1_push_20 rfl ?_
    refine tk_geti hC hK hw hT hinX1 kC_at149 (by decide) rfl 4 (by decide) (List.mem_cons_of_mem _ uw_44_19) rfl rfl dX1_push_21 (fun x16 c17 rx16 tx16 => ?_)
    refine wk_top x7 (c17.symm.trans c15) ?_
    refine lv_iconst (v := 1) hx hb dX1_push_24 (by decide) ?_
    refine lv_iadd hx hb dX1_push_25 ?_
    refine lv_topi (fun x18 ex18 => ?_)
    have ex18 : x18.toInt = x7.toInt + (1 : Int) := by rw [ex18]; exact wk_add (show (-2147483648) ≤ x7.toInt + (1 : Int) by omega) (show x7.toInt + (1 : Int) ≤ 2147483647 by omega)
    refine tk_puti hC hK hw hT hinX1 tyX1_ok nmX1 kC_at149 (by decide) rfl rfl 4 (by decide) (List.mem_cons_of_mem _ uw_44_19) rfl rfl rfl rfl (show 0 ≤ x18.toInt by first | with_reducible assumption | omega) (show x18.toInt ≤ 64 by first | with_reducible assumption | omega) dX1_push_26 (fun H locs w19 hw hT k21 c20 => ?_)
    have hF := hF.put kC_at149 (k := 4) (by decide) k21
    exact J29 x18 H locs ls w19 (show 0 ≤ a1.toInt from ra1) (show a1.toInt ≤ 2147483615 from ta1) (show 1 ≤ x18.toInt by first | with_reducible assumption | omega) (show x18.toInt ≤ 64 by first | with_reducible assumption | omega)  hw hT hF c20 (lv_sub hl [0, 1] rfl)
abbrev P_X2_firstToken_2 (ad : Nat → Nat) (cy : Nat → ClassId) (B : Int) (qr : Nat) (s1 : Int) (q0_ : Nat) (a1 : Int32) (w0 : va_W) : Int32 → va_W → Prop := fun r u => TW ksC ad cy B qr s1 u ∧ FE ksC ([] : List (Nat × Nat × Nat)) w0 u ∧ ((0 ≤ r.toInt ∧ r.toInt ≤ 400))
set_option maxHeartbeats 4000000 in
set_option maxRecDepth 100000 in
theorem k_X2_firstToken_2 (l : Launch) (adK adV : Nat → Nat) (dC : Nat → ClassId) (dI : Nat → Nat → Nat) (cy : Nat → ClassId) (ad : Nat → Nat) (B : Int) (hB0 : 2147483648 ≤ B) (hB1 : B ≤ 1152921504606846976) (qr : Nat) (s1 : Int)  (q0_ : Nat) (hkq0_ : ksC[q0_]? = some 2) (a1 : Int32) (ra1 : 0 ≤ a1.toInt) (ta1 : a1.toInt ≤ 11) (w0 : va_W) (sz : Nat) (hT : TW ksC ad cy B qr s1 w0)  : Met l yX2_firstToken (wu yX2_firstToken cX2_firstToken 2 (some .int)) ({ frames := 1, cells := 0, slots := 0, locals := 12 }) (va_Pc [.ref (ad q0_), .int a1] (wpreS adK adV dC dI cy sz w0)) (va_Qi (P_X2_firstToken_2 ad cy B qr s1 q0_ a1 w0) (fun u : va_W => wpost dC dI cy (va_A w0 sz) u) (va_A w0 sz)) 0 0 (va_A w0 sz) := by
  refine Met.ofW (cc := cX2_firstToken) (maxL := 2) (ret := (some .int)) (by decide) rfl ?_
  intro p e s m args below meth c s₁ Bk hml hv
  obtain ⟨rfl, ⟨hsz, hP, hK, hD0⟩, hE, hSR⟩ := hv
  have hx := Bk.exec
  have hb := Bk.bytes
  have hr := Bk.returns
  have hlocks := Bk.notSynchronized
  have hC : CallFix p m c cX2_firstToken 2 s _ (wu yX2_firstToken cX2_firstToken 2 (some .int)) RX2 := ⟨hx, hb, hml, findClass_of_methodNamed Bk.named, atoms_spec (ws := (wu yX2_firstToken cX2_firstToken 2 (some .int))) Bk.pre⟩
  subst hsz
  have hD := hD0.self (sz := s.heap.size)
  generalize hAe : va_A w0 s.heap.size = A at hD hE ⊢
  have hA : ∀ q : Nat, s.heap.size ≤ q → A q := fun q h => by rw [← hAe]; exact Or.inr h
  have hw : Wd dC dI A s.heap s.heap [] w0 := ⟨hP, hD, va_S.rf⟩
  have hF : FE ksC ([] : List (Nat × Nat × Nat)) w0 w0 := FE.rf
  have hl := lv_entry ([.ref (ad q0_), .int a1]) (n := 2) (Nat.le_of_ble_eq_true rfl)
  rw [lg_entry_eq]
  generalize (lg_sl ([.ref (ad q0_), .int a1]) ++ List.replicate (2 - (lg_sl ([.ref (ad q0_), .int a1])).length) Slot.unset).toArray = ls at hl ⊢
  have hl : lv_has ls 2 [(0, .ref (ad q0_)), (1, .int a1)] := hl
  generalize hloc : ([] : List Loc) = locs at hw ⊢
  have hinX2 : ∀ w ∈ u_ws RX2 TX2 6, w ∈ (wu yX2_firstToken cX2_firstToken 2 (some .int)) := fun _ h => List.mem_cons_of_mem _ (up_74 h)
  refine lv_aload_n hx hb dX2_firstToken_0 rfl (lv_at hl 0 rfl) ?_
  refine tk_getO hC hK hw hT hinX2 hkq0_ (by decide) rfl 1 (by decide) (List.mem_cons_of_mem _ uw_3_6) rfl rfl dX2_firstToken_1 ?_
  refine lv_iload_n hx hb dX2_firstToken_4 rfl (lv_at hl 1 rfl) ?_
  refine tk_iald hC hK hw hT (kC_2_2 hkq0_) rfl rfl (show 0 ≤ a1.toInt from ra1) (show a1.toInt < 13 from Int.lt_of_le_of_lt ta1 (by decide)) dX2_firstToken_5 (fun x1 c2 rx1 tx1 => ?_)
  exact tk_iret hC hr hlocks hK ⟨hT, hF, ⟨(show 0 ≤ x1.toInt by first | with_reducible assumption | omega), (show x1.toInt ≤ 400 by first | with_reducible assumption | omega)⟩⟩ hw dX2_firstToken_6
abbrev P_X1_holds_1 (ad : Nat → Nat) (cy : Nat → ClassId) (B : Int) (qr : Nat) (s1 : Int) (q1_ : Nat) (q2_ : Nat) (a3 : Int32) (w0 : va_W) : Int32 → va_W → Prop := fun r u => TW ksC ad cy B qr s1 u ∧ FE ksC [(1, 4, 4), (45, 0, 64)] w0 u ∧ ((r = 0 ∧ (∃ y : Int32, gi u 149 4 = y ∧ 1 ≤ y.toInt ∧ y.toInt ≤ 64)) ∨ (r = 1))
set_option maxHeartbeats 4000000 in
set_option maxRecDepth 100000 in
theorem k_X1_holds_1 (l : Launch) (adK adV : Nat → Nat) (dC : Nat → ClassId) (dI : Nat → Nat → Nat) (cy : Nat → ClassId) (ad : Nat → Nat) (B : Int) (hB0 : 2147483648 ≤ B) (hB1 : B ≤ 1152921504606846976) (qr : Nat) (s1 : Int)  (q1_ : Nat) (hkq1_ : ksC[q1_]? = some 9) (q2_ : Nat) (hkq2_ : ksC[q2_]? = some 2) (a3 : Int32) (ra3 : 0 ≤ a3.toInt) (ta3 : a3.toInt ≤ 11) (w0 : va_W) (sz : Nat) (hT : TW ksC ad cy B qr s1 w0)  : Met l yX1_holds (wu yX1_holds cX1_holds 6 (some .boolean)) ({ frames := 3, cells := 0, slots := 0, locals := 57 }) (va_Pc [.ref (ad 149), .ref (ad q1_), .ref (ad q2_), .int a3] (wpreS adK adV dC dI cy sz w0)) (va_Qi (P_X1_holds_1 ad cy B qr s1 q1_ q2_ a3 w0) (fun u : va_W => wpost dC dI cy (va_A w0 sz) u) (va_A w0 sz)) 0 0 (va_A w0 sz) := by
  refine Met.ofW (cc := cX1_holds) (maxL := 6) (ret := (some .boolean)) (by decide) rfl ?_
  intro p e s m args below meth c s₁ Bk hml hv
  obtain ⟨rfl, ⟨hsz, hP, hK, hD0⟩, hE, hSR⟩ := hv
  have hx := Bk.exec
  have hb := Bk.bytes
  have hr := Bk.returns
  have hlocks := Bk.notSynchronized
  have hC : CallFix p m c cX1_holds 6 s _ (wu yX1_holds cX1_holds 6 (some .boolean)) RX1 := ⟨hx, hb, hml, findClass_of_methodNamed Bk.named, atoms_spec (ws := (wu yX1_holds cX1_holds 6 (some .boolean))) Bk.pre⟩
  subst hsz
  have hD := hD0.self (sz := s.heap.size)
  generalize hAe : va_A w0 s.heap.size = A at hD hE ⊢
  have hA : ∀ q : Nat, s.heap.size ≤ q → A q := fun q h => by rw [← hAe]; exact Or.inr h
  have hw : Wd dC dI A s.heap s.heap [] w0 := ⟨hP, hD, va_S.rf⟩
  have hF : FE ksC [(1, 4, 4), (45, 0, 64)] w0 w0 := FE.rf
  have hl := lv_entry ([.ref (ad 149), .ref (ad q1_), .ref (ad q2_), .int a3]) (n := 6) (Nat.le_of_ble_eq_true rfl)
  rw [lg_entry_eq]
  generalize (lg_sl ([.ref (ad 149), .ref (ad q1_), .ref (ad q2_), .int a3]) ++ List.replicate (6 - (lg_sl ([.ref (ad 149), .ref (ad q1_), .ref (ad q2_), .int a3])).length) Slot.unset).toArray = ls at hl ⊢
  have hl : lv_has ls 6 [(0, .ref (ad 149)), (1, .ref (ad q1_)), (2, .ref (ad q2_)), (3, .int a3)] := hl
  generalize hloc : ([] : List Loc) = locs at hw ⊢
  have hinX1 : ∀ w ∈ u_ws RX1 TX1 10, w ∈ (wu yX1_holds cX1_holds 6 (some .boolean)) := fun _ h => List.mem_cons_of_mem _ (up_78 h)
  have J123 : ∀ (v123_4 : Int32) (f123_149_4 : Int32) (H : Heap) (locs : List Loc) (ls : Array Slot) (w1 : va_W), 0 ≤ a3.toInt → a3.toInt ≤ 11 → 0 ≤ v123_4.toInt → v123_4.toInt ≤ 400 → 0 ≤ f123_149_4.toInt → f123_149_4.toInt ≤ 64 → Wd dC dI A s.heap H locs w1 → TW ksC ad cy B qr s1 w1 → FE ksC [(1, 4, 4), (45, 0, 64)] w0 w1 → gi w1 149 4 = f123_149_4 → lv_has ls 6 [(0, .ref (ad 149)), (1, .ref (ad q1_)), (2, .ref (ad q2_)), (3, .int a3), (4, .int v123_4)] → W p l e ({ frames := 3, cells := 0, slots := 0, locals := 57 }) s m (List.toArray [.ref (ad 149), .ref (ad q1_), .ref (ad q2_), .int a3]) below meth c H locs 0 0 (MQ below (va_Qi (P_X1_holds_1 ad cy B qr s1 q1_ q2_ a3 w0) (fun u : va_W => wpost dC dI cy A u) A) (List.toArray [.ref (ad 149), .ref (ad q1_), .ref (ad q2_), .int a3]) s 0 0 A) (F0 m 123 ls []) := by
    intro v123_4 f123_149_4 H locs ls w1 r2 t3 r4 t5 r6 t7 hw hT hF c8 hl
    refine lv_iconst (v := 1) hx hb dX1_holds_123 (by decide) ?_
    refine lv_goto (tgt := 128) hx hb dX1_holds_124 (by decide) ?_
    exact tk_zret hC hr rfl hlocks hK ⟨hT, hF, (Or.inr rfl)⟩ hw dX1_holds_128
  have L12 : ∀ (n12 : Nat) (v12_4 : Int32) (f12_149_4 : Int32) (H : Heap) (locs : List Loc) (ls : Array Slot) (w9 : va_W), 0 ≤ a3.toInt → a3.toInt ≤ 11 → 0 ≤ v12_4.toInt → v12_4.toInt ≤ 400 → 0 ≤ f12_149_4.toInt → f12_149_4.toInt ≤ 64 → (400 - v12_4.toInt).toNat < n12 → Wd dC dI A s.heap H locs w9 → TW ksC ad cy B qr s1 w9 → FE ksC [(1, 4, 4), (45, 0, 64)] w0 w9 → gi w9 149 4 = f12_149_4 → lv_has ls 6 [(0, .ref (ad 149)), (1, .ref (ad q1_)), (2, .ref (ad q2_)), (3, .int a3), (4, .int v12_4)] → W p l e ({ frames := 3, cells := 0, slots := 0, locals := 57 }) s m (List.toArray [.ref (ad 149), .ref (ad q1_), .ref (ad q2_), .int a3]) below meth c H locs 0 0 (MQ below (va_Qi (P_X1_holds_1 ad cy B qr s1 q1_ q2_ a3 w0) (fun u : va_W => wpost dC dI cy A u) A) (List.toArray [.ref (ad 149), .ref (ad q1_), .ref (ad q2_), .int a3]) s 0 0 A) (F0 m 12 ls []) := by
    intro n12
    induction n12 with
    | zero => intro v12_4 f12_149_4 H locs ls w9 r10 t11 r12 t13 r14 t15 hm12 hw hT hF c16 hl; omega
    | succ n12 ih12 =>
      intro v12_4 f12_149_4 H locs ls w9 r10 t11 r12 t13 r14 t15 hm12 hw hT hF c16 hl
      have J93 : ∀ (v93_5 : Int32) (f93_149_4 : Int32) (H : Heap) (locs : List Loc) (ls : Array Slot) (w17 : va_W), 0 ≤ a3.toInt → a3.toInt ≤ 11 → 0 ≤ v12_4.toInt → v12_4.toInt ≤ 399 → 0 ≤ f93_149_4.toInt → f93_149_4.toInt ≤ 64 → Wd dC dI A s.heap H locs w17 → TW ksC ad cy B qr s1 w17 → FE ksC [(1, 4, 4), (45, 0, 64)] w0 w17 → gi w17 149 4 = f93_149_4 → lv_has ls 6 [(0, .ref (ad 149)), (1, .ref (ad q1_)), (2, .ref (ad q2_)), (3, .int a3), (4, .int v12_4), (5, .int v93_5)] → W p l e ({ frames := 3, cells := 0, slots := 0, locals := 57 }) s m (List.toArray [.ref (ad 149), .ref (ad q1_), .ref (ad q2_), .int a3]) below meth c H locs 0 0 (MQ below (va_Qi (P_X1_holds_1 ad cy B qr s1 q1_ q2_ a3 w0) (fun u : va_W => wpost dC dI cy A u) A) (List.toArray [.ref (ad 149), .ref (ad q1_), .ref (ad q2_), .int a3]) s 0 0 A) (F0 m 93 ls []) := by
        intro v93_5 f93_149_4 H locs ls w17 r18 t19 r20 t21 r22 t23 hw hT hF c24 hl
        obtain ⟨x25, ex25⟩ : ∃ y : Int32, y = v12_4 + Int32.ofInt 1 := ⟨_, rfl⟩
        refine lv_iinc (v := x25) (lv' := [(4, .int x25), (0, .ref (ad 149)), (1, .ref (ad q1_)), (2, .ref (ad q2_)), (3, .int a3), (5, .int v93_5)]) hx hb dX1_holds_93 hl (k := 4) rfl ex25.symm (by decide) rfl (fun ls hl => ?_)
        have ex25 : x25.toInt = v12_4.toInt + 1 := by rw [ex25]; exact wk_add (y := 1) (show -2147483648 ≤ v12_4.toInt + 1 by omega) (show v12_4.toInt + 1 ≤ 2147483647 by omega)
        refine lv_goto (tgt := 12) hx hb dX1_holds_96 (by decide) ?_
        exact ih12 x25 f93_149_4 H locs ls w17 (show 0 ≤ a3.toInt from r18) (show a3.toInt ≤ 11 from t19) (show 0 ≤ x25.toInt by first | with_reducible assumption | omega) (show x25.toInt ≤ 400 by first | with_reducible assumption | omega) (show 0 ≤ f93_149_4.toInt from r22) (show f93_149_4.toInt ≤ 64 from t23) (show (400 - x25.toInt).toNat < n12 by first | exact tn_lt hm12 (by omega) (by omega) | omega) hw hT hF c24 (lv_sub hl [1, 2, 3, 4, 0] rfl)
      refine lv_iload hx hb dX1_holds_12 (lv_at hl 4 rfl) ?_
      refine lv_aload_n hx hb dX1_holds_14 rfl (lv_at hl 2 rfl) ?_
      refine lv_iload_n hx hb dX1_holds_15 rfl (lv_at hl 3 rfl) ?_
      refine lv_iconst (v := 1) hx hb dX1_holds_16 (by decide) ?_
      refine lv_iadd hx hb dX1_holds_17 ?_
      refine lv_topi (fun x26 ex26 => ?_)
      have ex26 : x26.toInt = a3.toInt + (1 : Int) := by rw [ex26]; exact wk_add (show (-2147483648) ≤ a3.toInt + (1 : Int) by omega) (show a3.toInt + (1 : Int) ≤ 2147483647 by omega)
      refine tk_Vi hC hK hw hT hA hE hSR hkq2_ (by decide) rfl (k_X2_firstToken_1 l adK adV dC dI cy ad B hB0 (Int.le_trans hB1 (by decide)) qr s1   q2_ hkq2_ x26 (show 1 ≤ x26.toInt by first | with_reducible assumption | omega) (show x26.toInt ≤ 12 by first | with_reducible assumption | omega) w9 H.size hT ) (cwV 1 hC.2.2.2.2 uV_RX1_171 rfl rfl rfl (by decide +kernel) ⟨Nat.le_of_ble_eq_true rfl, Nat.le_of_ble_eq_true rfl⟩) rfl hl.1 rfl (Nat.le_of_ble_eq_true rfl) dX1_holds_18 (fun r27 w29 H locs hp28 hw => ?_)
      obtain ⟨hT, k30, hg33⟩ := hp28
      have hF := hF.tr k30 (by decide)
      have c34 := k30.gi kC_at149 (by decide) c16
      obtain ⟨g31, g32⟩ := hg33
      refine lv_icmp_ge (tgt := 99) hx hb dX1_holds_21 (by decide) (fun c35 => ?_) (fun c35 => ?_)
      · have c35 : r27.toInt ≤ v12_4.toInt := wk_le.mp c35
        refine lv_aload_n hx hb dX1_holds_99 rfl (lv_at hl 0 rfl) ?_
        refine tk_geti hC hK hw hT hinX1 kC_at149 (by decide) rfl 4 (by decide) (List.mem_cons_of_mem _ uw_44_19) rfl rfl dX1_holds_100 (fun x36 c37 rx36 tx36 => ?_)
        refine wk_top f12_149_4 (c37.symm.trans c34) ?_
        refine lv_iconst (v := 1) hx hb dX1_holds_103 (by decide) ?_
        refine lv_icmp_lt (tgt := 123) hx hb dX1_holds_104 (by decide) (fun c38 => ?_) (fun c38 => ?_)
        · have c38 : f12_149_4.toInt < (1 : Int) := wk_lt.mp c38
          exact J123 v12_4 f12_149_4 H locs ls w29 (show 0 ≤ a3.toInt from r10) (show a3.toInt ≤ 11 from t11) (show 0 ≤ v12_4.toInt from r12) (show v12_4.toInt ≤ 400 from t13) (show 0 ≤ f12_149_4.toInt from r14) (show f12_149_4.toInt ≤ 64 from t15)  hw hT hF c34 (lv_sub hl [0, 1, 2, 3, 4] rfl)
        · have c38 : (1 : Int) ≤ f12_149_4.toInt := wk_ltF c38
          refine lv_aload_n hx hb dX1_holds_107 rfl (lv_at hl 0 rfl) ?_
          refine tk_getA hC hK hw hT hinX1 kC_at149 (by decide) rfl 3 (by decide) (List.mem_cons_of_mem _ uw_4_23) rfl rfl dX1_holds_108 ?_
          refine lv_aload_n hx hb dX1_holds_111 rfl (lv_at hl 0 rfl) ?_
          refine tk_geti hC hK hw hT hinX1 kC_at149 (by decide) rfl 4 (by decide) (List.mem_cons_of_mem _ uw_44_19) rfl rfl dX1_holds_112 (fun x39 c40 rx39 tx39 => ?_)
          refine wk_top f12_149_4 (c40.symm.trans c34) ?_
          refine lv_iconst (v := 1) hx hb dX1_holds_115 (by decide) ?_
          refine lv_isub hx hb dX1_holds_116 ?_
          refine lv_topi (fun x41 ex41 => ?_)
          have ex41 : x41.toInt = f12_149_4.toInt - (1 : Int) := by rw [ex41]; exact wk_sub (show (-2147483648) ≤ f12_149_4.toInt - (1 : Int) by omega) (show f12_149_4.toInt - (1 : Int) ≤ 2147483647 by omega)
          refine tk_lald hC hK hw hT kC_at150 rfl (show 0 ≤ x41.toInt by first | with_reducible assumption | omega) (show x41.toInt < 64 by first | with_reducible assumption | omega) dX1_holds_117 (fun x42 => ?_)
          refine lv_lconst (v := 0) hx hb dX1_holds_118 (by decide) ?_
          refine W.lcmp hx hb dX1_holds_119 ?_
          refine lv_if_eq (tgt := 127) hx hb dX1_holds_120 (by decide) (fun c43 => ?_) (fun c43 => ?_)
          · have c43 : x42.toInt = (0 : Int) := wk_ceT c43
            refine lv_iconst (v := 0) hx hb dX1_holds_127 (by decide) ?_
            exact tk_zret hC hr rfl hlocks hK ⟨hT, hF, (Or.inl ⟨rfl, ⟨f12_149_4, c34, (show 1 ≤ f12_149_4.toInt from c38), (show f12_149_4.toInt ≤ 64 from t15)⟩⟩)⟩ hw dX1_holds_128
          · have c43 : ¬ x42.toInt = (0 : Int) := wk_ceF c43
            exact J123 v12_4 f12_149_4 H locs ls w29 (show 0 ≤ a3.toInt from r10) (show a3.toInt ≤ 11 from t11) (show 0 ≤ v12_4.toInt from r12) (show v12_4.toInt ≤ 400 from t13) (show 0 ≤ f12_149_4.toInt from r14) (show f12_149_4.toInt ≤ 64 from t15)  hw hT hF c34 (lv_sub hl [0, 1, 2, 3, 4] rfl)
      · have c35 : v12_4.toInt < r27.toInt := wk_leF c35
        refine lv_aload_n hx hb dX1_holds_24 rfl (lv_at hl 2 rfl) ?_
        refine lv_iload hx hb dX1_holds_25 (lv_at hl 4 rfl) ?_
        refine tk_Vi hC hK hw hT hA hE hSR hkq2_ (by decide) rfl (k_X2_tokenAt_1 l adK adV dC dI cy ad B hB0 (Int.le_trans hB1 (by decide)) qr s1   q2_ hkq2_ v12_4 (show 0 ≤ v12_4.toInt from r12) (show v12_4.toInt ≤ 399 by first | with_reducible assumption | omega) w29 H.size hT ) (cwV 1 hC.2.2.2.2 uV_RX1_174 rfl rfl rfl (by decide +kernel) ⟨Nat.le_of_ble_eq_true rfl, Nat.le_of_ble_eq_true rfl⟩) rfl hl.1 rfl (Nat.le_of_ble_eq_true rfl) dX1_holds_27 (fun r44 w46 H locs hp45 hw => ?_)
        obtain ⟨hT, k47, hg48⟩ := hp45
        have hF := hF.tr k47 (by decide)
        have c49 := k47.gi kC_at149 (by decide) c34
        clear hg48
        refine lv_istore (lv' := [(5, .int r44), (0, .ref (ad 149)), (1, .ref (ad q1_)), (2, .ref (ad q2_)), (3, .int a3), (4, .int v12_4)]) hx hb dX1_holds_30 hl (by decide) rfl (fun ls hl => ?_)
        refine lv_iload hx hb dX1_holds_32 (lv_at hl 0 rfl) ?_
        refine lv_bipush (v := 32) hx hb dX1_holds_34 (by decide) ?_
        refine lv_icmp_lt (tgt := 52) hx hb dX1_holds_36 (by decide) (fun c50 => ?_) (fun c50 => ?_)
        · have c50 : r44.toInt < (32 : Int) := wk_lt.mp c50
          refine lv_iload hx hb dX1_holds_52 (lv_at hl 0 rfl) ?_
          refine lv_bipush (v := 10) hx hb dX1_holds_54 (by decide) ?_
          refine lv_icmp_ge (tgt := 73) hx hb dX1_holds_56 (by decide) (fun c51 => ?_) (fun c51 => ?_)
          · have c51 : (10 : Int) ≤ r44.toInt := wk_le.mp c51
            refine lv_iload hx hb dX1_holds_73 (lv_at hl 0 rfl) ?_
            refine lv_bipush (v := 19) hx hb dX1_holds_75 (by decide) ?_
            refine lv_icmp_ne (tgt := 87) hx hb dX1_holds_77 (by decide) (fun c52 => ?_) (fun c52 => ?_)
            · have c52 : ¬ r44.toInt = (19 : Int) := wk_eqF c52
              refine lv_aload_n hx hb dX1_holds_87 rfl (lv_at hl 1 rfl) ?_
              refine lv_iload hx hb dX1_holds_88 (lv_at hl 0 rfl) ?_
              refine tk_Vv hC hK hw hT hA hE hSR kC_at149 (by decide) rfl (k_X1_join_1 l adK adV dC dI cy ad B hB0 (Int.le_trans hB1 (by decide)) qr s1   r44 (show 10 ≤ r44.toInt from c51) (show r44.toInt ≤ 31 by first | with_reducible assumption | omega) w46 H.size hT ) (cwV 1 hC.2.2.2.2 uV_RX1_188 rfl rfl rfl (by decide +kernel) ⟨Nat.le_of_ble_eq_true rfl, Nat.le_of_ble_eq_true rfl⟩) rfl hl.1 rfl (Nat.le_of_ble_eq_true rfl) dX1_holds_90 (fun w55 H locs hp54 hw => ?_)
              obtain ⟨hT, k56, hg59⟩ := hp54
              have hF := hF.tr k56 (by decide)
              obtain ⟨x57, c58, rx57, tx57⟩ := hg59
              exact J93 r44 x57 H locs ls w55 (show 0 ≤ a3.toInt from r10) (show a3.toInt ≤ 11 from t11) (show 0 ≤ v12_4.toInt from r12) (show v12_4.toInt ≤ 399 by first | with_reducible assumption | omega) (show 0 ≤ x57.toInt by first | with_reducible assumption | omega) (show x57.toInt ≤ 64 by first | with_reducible assumption | omega)  hw hT hF c58 (lv_sub hl [1, 2, 3, 4, 5, 0] rfl)
            · have c52 : r44.toInt = (19 : Int) := wk_eq.mp c52
              refine lv_aload_n hx hb dX1_holds_80 rfl (lv_at hl 1 rfl) ?_
              refine tk_Vv hC hK hw hT hA hE hSR kC_at149 (by decide) rfl (k_X1_turn_1 l adK adV dC dI cy ad B hB0 (Int.le_trans hB1 (by decide)) qr s1    w46 H.size hT ) (cwV 0 hC.2.2.2.2 uV_RX1_185 rfl rfl rfl (by decide +kernel) ⟨Nat.le_of_ble_eq_true rfl, Nat.le_of_ble_eq_true rfl⟩) rfl hl.1 rfl (Nat.le_of_ble_eq_true rfl) dX1_holds_81 (fun w62 H locs hp61 hw => ?_)
              obtain ⟨hT, k63, hg64⟩ := hp61
              have hF := hF.tr k63 (by decide)
              have c65 := k63.gi kC_at149 (by decide) c49
              clear hg64
              refine lv_goto (tgt := 93) hx hb dX1_holds_84 (by decide) ?_
              exact J93 r44 f12_149_4 H locs ls w62 (show 0 ≤ a3.toInt from r10) (show a3.toInt ≤ 11 from t11) (show 0 ≤ v12_4.toInt from r12) (show v12_4.toInt ≤ 399 by first | with_reducible assumption | omega) (show 0 ≤ f12_149_4.toInt from r14) (show f12_149_4.toInt ≤ 64 from t15)  hw hT hF c65 (lv_sub hl [1, 2, 3, 4, 5, 0] rfl)
          · have c51 : r44.toInt < (10 : Int) := wk_leF c51
            refine lv_aload_n hx hb dX1_holds_59 rfl (lv_at hl 1 rfl) ?_
            refine lv_aload_n hx hb dX1_holds_60 rfl (lv_at hl 1 rfl) ?_
            refine lv_aload_n hx hb dX1_holds_61 rfl (lv_at hl 2 rfl) ?_
            refine lv_iload hx hb dX1_holds_62 (lv_at hl 0 rfl) ?_
            refine tk_Vl hC hK hw hT hA hE hSR kC_at149 (by decide) rfl (k_X1_valueOf_1 l adK adV dC dI cy ad B hB0 (Int.le_trans hB1 (by decide)) qr s1   q1_ hkq1_ r44 (show r44.toInt ≤ 9 by first | with_reducible assumption | omega) w46 H.size hT ) (cwV 2 hC.2.2.2.2 uV_RX1_181 rfl rfl rfl (by decide +kernel) ⟨Nat.le_of_ble_eq_true rfl, Nat.le_of_ble_eq_true rfl⟩) rfl hl.1 rfl (Nat.le_of_ble_eq_true rfl) dX1_holds_64 (fun r66 w68 H locs hp67 hw => ?_)
            obtain ⟨hT, k69, hg72⟩ := hp67
            have hF := hF.tr k69 (by decide)
            have c73 := k69.gi kC_at149 (by decide) c49
            obtain ⟨g70, g71⟩ := hg72
            refine tk_Vv hC hK hw hT hA hE hSR kC_at149 (by decide) rfl (k_X1_push_1 l adK adV dC dI cy ad B hB0 (Int.le_trans hB1 (by decide)) qr s1   r66 (show (-2147483648) ≤ r66.toInt by first | with_reducible assumption | omega) (show r66.toInt ≤ 2147483647 by first | with_reducible assumption | omega) w68 H.size hT ) (cwV 1 hC.2.2.2.2 uV_RX1_177 rfl rfl rfl (by decide +kernel) ⟨Nat.le_of_ble_eq_true rfl, Nat.le_of_ble_eq_true rfl⟩) rfl hl.1 rfl (Nat.le_of_ble_eq_true rfl) dX1_holds_67 (fun w76 H locs hp75 hw => ?_)
            obtain ⟨hT, k77, hg80⟩ := hp75
            have hF := hF.tr k77 (by decide)
            obtain ⟨x78, c79, rx78, tx78⟩ := hg80
            refine lv_goto (tgt := 93) hx hb dX1_holds_70 (by decide) ?_
            exact J93 r44 x78 H locs ls w76 (show 0 ≤ a3.toInt from r10) (show a3.toInt ≤ 11 from t11) (show 0 ≤ v12_4.toInt from r12) (show v12_4.toInt ≤ 399 by first | with_reducible assumption | omega) (show 0 ≤ x78.toInt by first | with_reducible assumption | omega) (show x78.toInt ≤ 64 by first | with_reducible assumption | omega)  hw hT hF c79 (lv_sub hl [1, 2, 3, 4, 5, 0] rfl)
        · have c50 : (32 : Int) ≤ r44.toInt := wk_ltF c50
          refine lv_aload_n hx hb dX1_holds_39 rfl (lv_at hl 1 rfl) ?_
          refine lv_iload hx hb dX1_holds_40 (lv_at hl 0 rfl) ?_
          refine lv_bipush (v := 32) hx hb dX1_holds_42 (by decide) ?_
          refine lv_isub hx hb dX1_holds_44 ?_
          have nx81 := wk_i32 r44
          refine lv_topi (fun x82 ex82 => ?_)
          have ex82 : x82.toInt = r44.toInt - (32 : Int) := by rw [ex82]; exact wk_sub (show (-2147483648) ≤ r44.toInt - (32 : Int) by omega) (show r44.toInt - (32 : Int) ≤ 2147483647 by omega)
          refine lv_i2l hx hb dX1_holds_45 rfl ?_
          refine lv_topl (fun x83 ex83 => ?_)
          have ex83 : x83.toInt = x82.toInt := by rw [ex83]; exact wk_i2l _
          have bx83 := wk_i32 x82
          refine tk_Vv hC hK hw hT hA hE hSR kC_at149 (by decide) rfl (k_X1_push_2 l adK adV dC dI cy ad B hB0 (Int.le_trans hB1 (by decide)) qr s1   x83 (show 0 ≤ x83.toInt by first | with_reducible assumption | omega) (show x83.toInt ≤ 2147483615 by first | with_reducible assumption | omega) w46 H.size hT ) (cwV 1 hC.2.2.2.2 uV_RX1_177 rfl rfl rfl (by decide +kernel) ⟨Nat.le_of_ble_eq_true rfl, Nat.le_of_ble_eq_true rfl⟩) rfl hl.1 rfl (Nat.le_of_ble_eq_true rfl) dX1_holds_46 (fun w86 H locs hp85 hw => ?_)
          obtain ⟨hT, k87, hg90⟩ := hp85
          have hF := hF.tr k87 (by decide)
          obtain ⟨x88, c89, rx88, tx88⟩ := hg90
          refine lv_goto (tgt := 93) hx hb dX1_holds_49 (by decide) ?_
          exact J93 r44 x88 H locs ls w86 (show 0 ≤ a3.toInt from r10) (show a3.toInt ≤ 11 from t11) (show 0 ≤ v12_4.toInt from r12) (show v12_4.toInt ≤ 399 by first | with_reducible assumption | omega) (show 0 ≤ x88.toInt by first | with_reducible assumption | omega) (show x88.toInt ≤ 64 by first | with_reducible assumption | omega)  hw hT hF c89 (lv_sub hl [1, 2, 3, 4, 5, 0] rfl)
  refine lv_aload_n hx hb dX1_holds_0 rfl (lv_at hl 0 rfl) ?_
  refine lv_iconst (v := 0) hx hb dX1_holds_1 (by decide) ?_
  refine tk_puti hC hK hw hT hinX1 tyX1_ok nmX1 kC_at149 (by decide) rfl rfl 4 (by decide) (List.mem_cons_of_mem _ uw_44_19) rfl rfl rfl rfl (by decide) (by decide) dX1_holds_2 (fun H locs w91 hw hT k93 c92 => ?_)
  have hF := hF.put kC_at149 (k := 4) (by decide) k93
  refine lv_aload_n hx hb dX1_holds_5 rfl (lv_at hl 2 rfl) ?_
  refine lv_iload_n hx hb dX1_holds_6 rfl (lv_at hl 3 rfl) ?_
  refine tk_Vi hC hK hw hT hA hE hSR hkq2_ (by decide) rfl (k_X2_firstToken_2 l adK adV dC dI cy ad B hB0 (Int.le_trans hB1 (by decide)) qr s1   q2_ hkq2_ a3 (show 0 ≤ a3.toInt from ra3) (show a3.toInt ≤ 11 from ta3) w91 H.size hT ) (cwV 1 hC.2.2.2.2 uV_RX1_171 rfl rfl rfl (by decide +kernel) ⟨Nat.le_of_ble_eq_true rfl, Nat.le_of_ble_eq_true rfl⟩) rfl hl.1 rfl (Nat.le_of_ble_eq_true rfl) dX1_holds_7 (fun r94 w96 H locs hp95 hw => ?_)
  obtain ⟨hT, k97, hg100⟩ := hp95
  have hF := hF.tr k97 (by decide)
  have c101 := k97.gi kC_at149 (by decide) c92
  obtain ⟨g98, g99⟩ := hg100
  refine lv_istore (lv' := [(4, .int r94), (0, .ref (ad 149)), (1, .ref (ad q1_)), (2, .ref (ad q2_)), (3, .int a3)]) hx hb dX1_holds_10 hl (by decide) rfl (fun ls hl => ?_)
  exact L12 ((400 - r94.toInt).toNat + 1) r94 0 H locs ls w96 (show 0 ≤ a3.toInt from ra3) (show a3.toInt ≤ 11 from ta3) (show 0 ≤ r94.toInt by first | with_reducible assumption | omega) (show r94.toInt ≤ 400 by first | with_reducible assumption | omega) (by decide) (by decide) (Nat.lt_succ_self _) hw hT hF c101 (lv_sub hl [1, 2, 3, 4, 0] rfl)
abbrev P_X1_chooseDeed_1 (ad : Nat → Nat) (cy : Nat → ClassId) (B : Int) (qr : Nat) (s1 : Int) (q1_ : Nat) (q2_ : Nat) (w0 : va_W) : Int32 → va_W → Prop := fun r u => TW ksC ad cy B qr s1 u ∧ FE ksC [(1, 4, 4), (45, 0, 64)] w0 u ∧ (((∃ y : Int32, gi u q2_ 4 = y ∧ 1 ≤ y.toInt ∧ y.toInt ≤ 12)) ∨ (0 ≤ r.toInt ∧ r.toInt ≤ 3))
set_option maxHeartbeats 4000000 in
set_option maxRecDepth 100000 in
theorem k_X1_chooseDeed_1 (l : Launch) (adK adV : Nat → Nat) (dC : Nat → ClassId) (dI : Nat → Nat → Nat) (cy : Nat → ClassId) (ad : Nat → Nat) (B : Int) (hB0 : 2147483648 ≤ B) (hB1 : B ≤ 1152921504606846976) (qr : Nat) (s1 : Int)  (q1_ : Nat) (hkq1_ : ksC[q1_]? = some 9) (q2_ : Nat) (hkq2_ : ksC[q2_]? = some 2) (w0 : va_W) (sz : Nat) (hT : TW ksC ad cy B qr s1 w0)  : Met l yX1_chooseDeed (wu yX1_chooseDeed cX1_chooseDeed 5 (some .int)) ({ frames := 4, cells := 0, slots := 0, locals := 82 }) (va_Pc [.ref (ad 149), .ref (ad q1_), .ref (ad q2_)] (wpreS adK adV dC dI cy sz w0)) (va_Qi (P_X1_chooseDeed_1 ad cy B qr s1 q1_ q2_ w0) (fun u : va_W => wpost dC dI cy (va_A w0 sz) u) (va_A w0 sz)) 0 0 (va_A w0 sz) := by
  refine Met.ofW (cc := cX1_chooseDeed) (maxL := 5) (ret := (some .int)) (by decide) rfl ?_
  intro p e s m args below meth c s₁ Bk hml hv
  obtain ⟨rfl, ⟨hsz, hP, hK, hD0⟩, hE, hSR⟩ := hv
  have hx := Bk.exec
  have hb := Bk.bytes
  have hr := Bk.returns
  have hlocks := Bk.notSynchronized
  have hC : CallFix p m c cX1_chooseDeed 5 s _ (wu yX1_chooseDeed cX1_chooseDeed 5 (some .int)) RX1 := ⟨hx, hb, hml, findClass_of_methodNamed Bk.named, atoms_spec (ws := (wu yX1_chooseDeed cX1_chooseDeed 5 (some .int))) Bk.pre⟩
  subst hsz
  have hD := hD0.self (sz := s.heap.size)
  generalize hAe : va_A w0 s.heap.size = A at hD hE ⊢
  have hA : ∀ q : Nat, s.heap.size ≤ q → A q := fun q h => by rw [← hAe]; exact Or.inr h
  have hw : Wd dC dI A s.heap s.heap [] w0 := ⟨hP, hD, va_S.rf⟩
  have hF : FE ksC [(1, 4, 4), (45, 0, 64)] w0 w0 := FE.rf
  have hl := lv_entry ([.ref (ad 149), .ref (ad q1_), .ref (ad q2_)]) (n := 5) (Nat.le_of_ble_eq_true rfl)
  rw [lg_entry_eq]
  generalize (lg_sl ([.ref (ad 149), .ref (ad q1_), .ref (ad q2_)]) ++ List.replicate (5 - (lg_sl ([.ref (ad 149), .ref (ad q1_), .ref (ad q2_)])).length) Slot.unset).toArray = ls at hl ⊢
  have hl : lv_has ls 5 [(0, .ref (ad 149)), (1, .ref (ad q1_)), (2, .ref (ad q2_))] := hl
  generalize hloc : ([] : List Loc) = locs at hw ⊢
  have hinX2 : ∀ w ∈ u_ws RX2 TX2 6, w ∈ (wu yX1_chooseDeed cX1_chooseDeed 5 (some .int)) := fun _ h => List.mem_cons_of_mem _ (up_74 h)
  have L2 : ∀ (n2 : Nat) (v2_3 : Int32) (H : Heap) (locs : List Loc) (ls : Array Slot) (w1 : va_W), 0 ≤ v2_3.toInt → v2_3.toInt ≤ 12 → (12 - v2_3.toInt).toNat < n2 → Wd dC dI A s.heap H locs w1 → TW ksC ad cy B qr s1 w1 → FE ksC [(1, 4, 4), (45, 0, 64)] w0 w1 → lv_has ls 5 [(0, .ref (ad 149)), (1, .ref (ad q1_)), (2, .ref (ad q2_)), (3, .int v2_3)] → W p l e ({ frames := 4, cells := 0, slots := 0, locals := 82 }) s m (List.toArray [.ref (ad 149), .ref (ad q1_), .ref (ad q2_)]) below meth c H locs 0 0 (MQ below (va_Qi (P_X1_chooseDeed_1 ad cy B qr s1 q1_ q2_ w0) (fun u : va_W => wpost dC dI cy A u) A) (List.toArray [.ref (ad 149), .ref (ad q1_), .ref (ad q2_)]) s 0 0 A) (F0 m 2 ls []) := by
    intro n2
    induction n2 with
    | zero => intro v2_3 H locs ls w1 r2 t3 hm2 hw hT hF hl; omega
    | succ n2 ih2 =>
      intro v2_3 H locs ls w1 r2 t3 hm2 hw hT hF hl
      have J40 : ∀ (v40_4 : Int32) (f40_q2__4 : Int32) (H : Heap) (locs : List Loc) (ls : Array Slot) (w4 : va_W), 0 ≤ v2_3.toInt → v2_3.toInt ≤ 11 → 1 ≤ f40_q2__4.toInt → f40_q2__4.toInt ≤ 12 → Wd dC dI A s.heap H locs w4 → TW ksC ad cy B qr s1 w4 → FE ksC [(1, 4, 4), (45, 0, 64)] w0 w4 → gi w4 q2_ 4 = f40_q2__4 → lv_has ls 5 [(0, .ref (ad 149)), (1, .ref (ad q1_)), (2, .ref (ad q2_)), (3, .int v2_3), (4, .int v40_4)] → W p l e ({ frames := 4, cells := 0, slots := 0, locals := 82 }) s m (List.toArray [.ref (ad 149), .ref (ad q1_), .ref (ad q2_)]) below meth c H locs 0 0 (MQ below (va_Qi (P_X1_chooseDeed_1 ad cy B qr s1 q1_ q2_ w0) (fun u : va_W => wpost dC dI cy A u) A) (List.toArray [.ref (ad 149), .ref (ad q1_), .ref (ad q2_)]) s 0 0 A) (F0 m 40 ls []) := by
        intro v40_4 f40_q2__4 H locs ls w4 r5 t6 r7 t8 hw hT hF c9 hl
        obtain ⟨x10, ex10⟩ : ∃ y : Int32, y = v2_3 + Int32.ofInt 1 := ⟨_, rfl⟩
        refine lv_iinc (v := x10) (lv' := [(3, .int x10), (0, .ref (ad 149)), (1, .ref (ad q1_)), (2, .ref (ad q2_)), (4, .int v40_4)]) hx hb dX1_chooseDeed_40 hl (k := 3) rfl ex10.symm (by decide) rfl (fun ls hl => ?_)
        have ex10 : x10.toInt = v2_3.toInt + 1 := by rw [ex10]; exact wk_add (y := 1) (show -2147483648 ≤ v2_3.toInt + 1 by omega) (show v2_3.toInt + 1 ≤ 2147483647 by omega)
        refine lv_goto (tgt := 2) hx hb dX1_chooseDeed_43 (by decide) ?_
        exact ih2 x10 H locs ls w4 (show 0 ≤ x10.toInt by first | with_reducible assumption | omega) (show x10.toInt ≤ 12 by first | with_reducible assumption | omega) (show (12 - x10.toInt).toNat < n2 by first | exact tn_lt hm2 (by omega) (by omega) | omega) hw hT hF  (lv_sub hl [1, 2, 3, 0] rfl)
      refine lv_iload_n hx hb dX1_chooseDeed_2 rfl (lv_at hl 3 rfl) ?_
      refine lv_aload_n hx hb dX1_chooseDeed_3 rfl (lv_at hl 2 rfl) ?_
      refine tk_geti hC hK hw hT hinX2 hkq2_ (by decide) rfl 4 (by decide) (List.mem_cons_of_mem _ uw_44_6) rfl rfl dX1_chooseDeed_4 (fun x11 c12 rx11 tx11 => ?_)
      refine lv_icmp_ge (tgt := 46) hx hb dX1_chooseDeed_7 (by decide) (fun c13 => ?_) (fun c13 => ?_)
      · have c13 : x11.toInt ≤ v2_3.toInt := wk_le.mp c13
        refine lv_iconst (v := 3) hx hb dX1_chooseDeed_46 (by decide) ?_
        exact tk_iret hC hr hlocks hK ⟨hT, hF, (Or.inr ⟨(by decide), (by decide)⟩)⟩ hw dX1_chooseDeed_47
      · have c13 : v2_3.toInt < x11.toInt := wk_leF c13
        refine lv_aload_n hx hb dX1_chooseDeed_10 rfl (lv_at hl 2 rfl) ?_
        refine lv_iload_n hx hb dX1_chooseDeed_11 rfl (lv_at hl 3 rfl) ?_
        refine tk_Vi hC hK hw hT hA hE hSR hkq2_ (by decide) rfl (k_X2_deedOf_1 l adK adV dC dI cy ad B hB0 (Int.le_trans hB1 (by decide)) qr s1   q2_ hkq2_ v2_3 (show 0 ≤ v2_3.toInt from r2) (show v2_3.toInt ≤ 11 by first | with_reducible assumption | omega) w1 H.size hT ) (cwV 1 hC.2.2.2.2 uV_RX1_157 rfl rfl rfl (by decide +kernel) ⟨Nat.le_of_ble_eq_true rfl, Nat.le_of_ble_eq_true rfl⟩) rfl hl.1 rfl (Nat.le_of_ble_eq_true rfl) dX1_chooseDeed_12 (fun r14 w16 H locs hp15 hw => ?_)
        obtain ⟨hT, k17, hg18⟩ := hp15
        have hF := hF.tr k17 (by decide)
        have c19 := k17.gi hkq2_ (by decide) c12
        clear hg18
        refine lv_istore (lv' := [(4, .int r14), (0, .ref (ad 149)), (1, .ref (ad q1_)), (2, .ref (ad q2_)), (3, .int v2_3)]) hx hb dX1_chooseDeed_15 hl (by decide) rfl (fun ls hl => ?_)
        refine lv_aload_n hx hb dX1_chooseDeed_17 rfl (lv_at hl 1 rfl) ?_
        refine lv_aload_n hx hb dX1_chooseDeed_18 rfl (lv_at hl 2 rfl) ?_
        refine lv_iload hx hb dX1_chooseDeed_19 (lv_at hl 0 rfl) ?_
        refine tk_Vi hC hK hw hT hA hE hSR kC_at149 (by decide) rfl (k_X1_mayDo_1 l adK adV dC dI cy ad B hB0 (Int.le_trans hB1 (by decide)) qr s1   q1_ hkq1_ r14 w16 H.size hT ) (cwV 2 hC.2.2.2.2 uV_RX1_161 rfl rfl rfl (by decide +kernel) ⟨Nat.le_of_ble_eq_true rfl, Nat.le_of_ble_eq_true rfl⟩) rfl hl.1 rfl (Nat.le_of_ble_eq_true rfl) dX1_chooseDeed_21 (fun r20 w22 H locs hp21 hw => ?_)
        obtain ⟨hT, k23, hg28⟩ := hp21
        have hF := hF.tr k23 (by decide)
        have c29 := k23.gi hkq2_ (by decide) c19
        rcases hg28 with ⟨g24, g25, g26, g27⟩ | rfl | rfl
        · refine lv_if_eq (tgt := 40) hx hb dX1_chooseDeed_24 (by decide) (fun c30 => ?_) (fun c30 => ?_)
          · have c30 : r20.toInt = (0 : Int) := wk_eq.mp c30
            exact J40 r14 x11 H locs ls w22 (show 0 ≤ v2_3.toInt from r2) (show v2_3.toInt ≤ 11 by first | with_reducible assumption | omega) (show 1 ≤ x11.toInt by first | with_reducible assumption | omega) (show x11.toInt ≤ 12 by first | with_reducible assumption | omega)  hw hT hF c29 (lv_sub hl [1, 2, 3, 4, 0] rfl)
          · have c30 : ¬ r20.toInt = (0 : Int) := wk_eqF c30
            refine lv_aload_n hx hb dX1_chooseDeed_27 rfl (lv_at hl 1 rfl) ?_
            refine lv_aload_n hx hb dX1_chooseDeed_28 rfl (lv_at hl 2 rfl) ?_
            refine lv_aload_n hx hb dX1_chooseDeed_29 rfl (lv_at hl 3 rfl) ?_
            refine lv_iload_n hx hb dX1_chooseDeed_30 rfl (lv_at hl 4 rfl) ?_
            refine tk_Vi hC hK hw hT hA hE hSR kC_at149 (by decide) rfl (k_X1_holds_1 l adK adV dC dI cy ad B hB0 (Int.le_trans hB1 (by decide)) qr s1   q1_ hkq1_ q2_ hkq2_ v2_3 (show 0 ≤ v2_3.toInt from r2) (show v2_3.toInt ≤ 11 by first | with_reducible assumption | omega) w22 H.size hT ) (cwV 3 hC.2.2.2.2 uV_RX1_164 rfl rfl rfl (by decide +kernel) ⟨Nat.le_of_ble_eq_true rfl, Nat.le_of_ble_eq_true rfl⟩) rfl hl.1 rfl (Nat.le_of_ble_eq_true rfl) dX1_chooseDeed_31 (fun r31 w33 H locs hp32 hw => ?_)
            obtain ⟨hT, k34, hg37⟩ := hp32
            have hF := hF.tr k34 (by decide)
            have c38 := k34.gi hkq2_ (by decide) c29
            rcases hg37 with ⟨rfl, ⟨x35, c36, rx35, tx35⟩⟩ | rfl
            · refine lv_if_eq (tgt := 40) hx hb dX1_chooseDeed_34 (by decide) (fun _ => ?_) (fun c => absurd (by decide) c)
              exact J40 r14 x11 H locs ls w33 (show 0 ≤ v2_3.toInt from r2) (show v2_3.toInt ≤ 11 by first | with_reducible assumption | omega) (show 1 ≤ x11.toInt by first | with_reducible assumption | omega) (show x11.toInt ≤ 12 by first | with_reducible assumption | omega)  hw hT hF c38 (lv_sub hl [1, 2, 3, 4, 0] rfl)
            · refine lv_if_eq (tgt := 40) hx hb dX1_chooseDeed_34 (by decide) (fun c => absurd c (by decide)) (fun _ => ?_)
              refine lv_iload hx hb dX1_chooseDeed_37 (lv_at hl 0 rfl) ?_
              exact tk_iret hC hr hlocks hK ⟨hT, hF, (Or.inr ⟨(show 0 ≤ r14.toInt by first | with_reducible assumption | omega), (show r14.toInt ≤ 3 by first | with_reducible assumption | omega)⟩)⟩ hw dX1_chooseDeed_39
        · refine lv_if_eq (tgt := 40) hx hb dX1_chooseDeed_24 (by decide) (fun _ => ?_) (fun c => absurd (by decide) c)
          exact J40 r14 x11 H locs ls w22 (show 0 ≤ v2_3.toInt from r2) (show v2_3.toInt ≤ 11 by first | with_reducible assumption | omega) (show 1 ≤ x11.toInt by first | with_reducible assumption | omega) (show x11.toInt ≤ 12 by first | with_reducible assumption | omega)  hw hT hF c29 (lv_sub hl [1, 2, 3, 4, 0] rfl)
        · refine lv_if_eq (tgt := 40) hx hb dX1_chooseDeed_24 (by decide) (fun c => absurd c (by decide)) (fun _ => ?_)
          refine lv_aload_n hx hb dX1_chooseDeed_27 rfl (lv_at hl 1 rfl) ?_
          refine lv_aload_n hx hb dX1_chooseDeed_28 rfl (lv_at hl 2 rfl) ?_
          refine lv_aload_n hx hb dX1_chooseDeed_29 rfl (lv_at hl 3 rfl) ?_
          refine lv_iload_n hx hb dX1_chooseDeed_30 rfl (lv_at hl 4 rfl) ?_
          refine tk_Vi hC hK hw hT hA hE hSR kC_at149 (by decide) rfl (k_X1_holds_1 l adK adV dC dI cy ad B hB0 (Int.le_trans hB1 (by decide)) qr s1   q1_ hkq1_ q2_ hkq2_ v2_3 (show 0 ≤ v2_3.toInt from r2) (show v2_3.toInt ≤ 11 by first | with_reducible assumption | omega) w22 H.size hT ) (cwV 3 hC.2.2.2.2 uV_RX1_164 rfl rfl rfl (by decide +kernel) ⟨Nat.le_of_ble_eq_true rfl, Nat.le_of_ble_eq_true rfl⟩) rfl hl.1 rfl (Nat.le_of_ble_eq_true rfl) dX1_chooseDeed_31 (fun r39 w41 H locs hp40 hw => ?_)
          obtain ⟨hT, k42, hg45⟩ := hp40
          have hF := hF.tr k42 (by decide)
          have c46 := k42.gi hkq2_ (by decide) c29
          rcases hg45 with ⟨rfl, ⟨x43, c44, rx43, tx43⟩⟩ | rfl
          · refine lv_if_eq (tgt := 40) hx hb dX1_chooseDeed_34 (by decide) (fun _ => ?_) (fun c => absurd (by decide) c)
            exact J40 r14 x11 H locs ls w41 (show 0 ≤ v2_3.toInt from r2) (show v2_3.toInt ≤ 11 by first | with_reducible assumption | omega) (show 1 ≤ x11.toInt by first | with_reducible assumption | omega) (show x11.toInt ≤ 12 by first | with_reducible assumption | omega)  hw hT hF c46 (lv_sub hl [1, 2, 3, 4, 0] rfl)
          · refine lv_if_eq (tgt := 40) hx hb dX1_chooseDeed_34 (by decide) (fun c => absurd c (by decide)) (fun _ => ?_)
            refine lv_iload hx hb dX1_chooseDeed_37 (lv_at hl 0 rfl) ?_
            exact tk_iret hC hr hlocks hK ⟨hT, hF, (Or.inl ⟨x11, c46, (show 1 ≤ x11.toInt by first | with_reducible assumption | omega), (show x11.toInt ≤ 12 by first | with_reducible assumption | omega)⟩)⟩ hw dX1_chooseDeed_39
  refine lv_iconst (v := 0) hx hb dX1_chooseDeed_0 (by decide) ?_
  refine lv_istore_n (lv' := [(3, .int 0), (0, .ref (ad 149)), (1, .ref (ad q1_)), (2, .ref (ad q2_))]) hx hb dX1_chooseDeed_1 rfl hl (by decide) rfl (fun ls hl => ?_)
  exact L2 ((12 - (0 : Int)).toNat + 1) 0 s.heap locs ls w0 (by decide) (by decide) (Nat.lt_succ_self _) hw hT hF  (lv_sub hl [1, 2, 3, 0] rfl)
abbrev P_X1_follow_2 (ad : Nat → Nat) (cy : Nat → ClassId) (B : Int) (qr : Nat) (s1 : Int) (q1_ : Nat) (w0 : va_W) : va_W → Prop := fun u => TW ksC ad cy B qr s1 u ∧ FE ksC ([] : List (Nat × Nat × Nat)) w0 u ∧ ((True))
set_option maxHeartbeats 4000000 in
set_option maxRecDepth 100000 in
theorem k_X1_follow_2 (l : Launch) (adK adV : Nat → Nat) (dC : Nat → ClassId) (dI : Nat → Nat → Nat) (cy : Nat → ClassId) (ad : Nat → Nat) (B : Int) (hB0 : 2147483648 ≤ B) (hB1 : B ≤ 1152921504606846976) (qr : Nat) (s1 : Int)  (q1_ : Nat) (hkq1_ : ksC[q1_]? = some 9) (w0 : va_W) (sz : Nat) (hT : TW ksC ad cy B qr s1 w0)  : Met l yX1_follow (wu yX1_follow cX1_follow 4 none) ({ frames := 1, cells := 0, slots := 0, locals := 12 }) (va_Pc [.ref (ad 149), .ref (ad q1_), .int (-1)] (wpreS adK adV dC dI cy sz w0)) (va_Qv (P_X1_follow_2 ad cy B qr s1 q1_ w0) (fun u : va_W => wpost dC dI cy (va_A w0 sz) u) (va_A w0 sz)) 0 0 (va_A w0 sz) := by
  refine Met.ofW (cc := cX1_follow) (maxL := 4) (ret := none) (by decide) rfl ?_
  intro p e s m args below meth c s₁ Bk hml hv
  obtain ⟨rfl, ⟨hsz, hP, hK, hD0⟩, hE, hSR⟩ := hv
  have hx := Bk.exec
  have hb := Bk.bytes
  have hr := Bk.returns
  have hlocks := Bk.notSynchronized
  have hC : CallFix p m c cX1_follow 4 s _ (wu yX1_follow cX1_follow 4 none) RX1 := ⟨hx, hb, hml, findClass_of_methodNamed Bk.named, atoms_spec (ws := (wu yX1_follow cX1_follow 4 none)) Bk.pre⟩
  subst hsz
  have hD := hD0.self (sz := s.heap.size)
  generalize hAe : va_A w0 s.heap.size = A at hD hE ⊢
  have hA : ∀ q : Nat, s.heap.size ≤ q → A q := fun q h => by rw [← hAe]; exact Or.inr h
  have hw : Wd dC dI A s.heap s.heap [] w0 := ⟨hP, hD, va_S.rf⟩
  have hF : FE ksC ([] : List (Nat × Nat × Nat)) w0 w0 := FE.rf
  have hl := lv_entry ([.ref (ad 149), .ref (ad q1_), .int (-1)]) (n := 4) (Nat.le_of_ble_eq_true rfl)
  rw [lg_entry_eq]
  generalize (lg_sl ([.ref (ad 149), .ref (ad q1_), .int (-1)]) ++ List.replicate (4 - (lg_sl ([.ref (ad 149), .ref (ad q1_), .int (-1)])).length) Slot.unset).toArray = ls at hl ⊢
  have hl : lv_has ls 4 [(0, .ref (ad 149)), (1, .ref (ad q1_)), (2, .int (-1))] := hl
  generalize hloc : ([] : List Loc) = locs at hw ⊢
  refine lv_iload_n hx hb dX1_follow_0 rfl (lv_at hl 2 rfl) ?_
  refine lv_iconst (v := (-1)) hx hb dX1_follow_1 (by decide) ?_
  refine lv_icmp_ne (tgt := 6) hx hb dX1_follow_2 (by decide) (fun c => absurd (by decide) c) (fun _ => ?_)
  exact tk_vret hC hr hlocks hK ⟨hT, hF, trivial⟩ hw dX1_follow_5
abbrev P_X1_lookAround_2 (ad : Nat → Nat) (cy : Nat → ClassId) (B : Int) (qr : Nat) (s1 : Int) (q1_ : Nat) (w0 : va_W) : va_W → Prop := fun u => TW ksC ad cy B qr s1 u ∧ FE ksC [(1, 5, 5), (1, 6, 6), (1, 7, 7), (1, 8, 8)] w0 u ∧ (((∃ y : Int32, gi u 149 8 = y ∧ 0 ≤ y.toInt ∧ y.toInt ≤ 999999)))
set_option maxHeartbeats 4000000 in
set_option maxRecDepth 100000 in
theorem k_X1_lookAround_2 (l : Launch) (adK adV : Nat → Nat) (dC : Nat → ClassId) (dI : Nat → Nat → Nat) (cy : Nat → ClassId) (ad : Nat → Nat) (B : Int) (hB0 : 2147483648 ≤ B) (hB1 : B ≤ 1152921504606846976) (qr : Nat) (s1 : Int)  (q1_ : Nat) (hkq1_ : ksC[q1_]? = some 9) (w0 : va_W) (sz : Nat) (hT : TW ksC ad cy B qr s1 w0)  : Met l yX1_lookAround (wu yX1_lookAround cX1_lookAround 5 none) ({ frames := 4, cells := 0, slots := 0, locals := 88 }) (va_Pc [.ref (ad 149), .ref (ad q1_), .int 1] (wpreS adK adV dC dI cy sz w0)) (va_Qv (P_X1_lookAround_2 ad cy B qr s1 q1_ w0) (fun u : va_W => wpost dC dI cy (va_A w0 sz) u) (va_A w0 sz)) 0 0 (va_A w0 sz) := by
  refine Met.ofW (cc := cX1_lookAround) (maxL := 5) (ret := none) (by decide) rfl ?_
  intro p e s m args below meth c s₁ Bk hml hv
  obtain ⟨rfl, ⟨hsz, hP, hK, hD0⟩, hE, hSR⟩ := hv
  have hx := Bk.exec
  have hb := Bk.bytes
  have hr := Bk.returns
  have hlocks := Bk.notSynchronized
  have hC : CallFix p m c cX1_lookAround 5 s _ (wu yX1_lookAround cX1_lookAround 5 none) RX1 := ⟨hx, hb, hml, findClass_of_methodNamed Bk.named, atoms_spec (ws := (wu yX1_lookAround cX1_lookAround 5 none)) Bk.pre⟩
  subst hsz
  have hD := hD0.self (sz := s.heap.size)
  generalize hAe : va_A w0 s.heap.size = A at hD hE ⊢
  have hA : ∀ q : Nat, s.heap.size ≤ q → A q := fun q h => by rw [← hAe]; exact Or.inr h
  have hw : Wd dC dI A s.heap s.heap [] w0 := ⟨hP, hD, va_S.rf⟩
  have hF : FE ksC [(1, 5, 5), (1, 6, 6), (1, 7, 7), (1, 8, 8)] w0 w0 := FE.rf
  have hl := lv_entry ([.ref (ad 149), .ref (ad q1_), .int 1]) (n := 5) (Nat.le_of_ble_eq_true rfl)
  rw [lg_entry_eq]
  generalize (lg_sl ([.ref (ad 149), .ref (ad q1_), .int 1]) ++ List.replicate (5 - (lg_sl ([.ref (ad 149), .ref (ad q1_), .int 1])).length) Slot.unset).toArray = ls at hl ⊢
  have hl : lv_has ls 5 [(0, .ref (ad 149)), (1, .ref (ad q1_)), (2, .int 1)] := hl
  generalize hloc : ([] : List Loc) = locs at hw ⊢
  have hinX1 : ∀ w ∈ u_ws RX1 TX1 10, w ∈ (wu yX1_lookAround cX1_lookAround 5 none) := fun _ h => List.mem_cons_of_mem _ (up_78 h)
  have hinX5 : ∀ w ∈ u_ws RX5 TX5 14, w ∈ (wu yX1_lookAround cX1_lookAround 5 none) := fun _ h => List.mem_cons_of_mem _ (up_76 h)
  have hinX7 : ∀ w ∈ u_ws RX7 TX7 12, w ∈ (wu yX1_lookAround cX1_lookAround 5 none) := fun _ h => List.mem_cons_of_mem _ (up_73 h)
  have hinX9 : ∀ w ∈ u_ws RX9 TX9 9, w ∈ (wu yX1_lookAround cX1_lookAround 5 none) := fun _ h => List.mem_cons_of_mem _ (up_82 h)
  have J159 : ∀ (v159_3 : Int32) (v159_4 : Int32) (f159_149_5 : Int32) (f159_149_6 : Int32) (f159_149_7 : Int32) (f159_149_8 : Int32) (f159_q1__0 : Int32) (f159_q1__1 : Int32) (H : Heap) (locs : List Loc) (ls : Array Slot) (w1 : va_W), 0 ≤ v159_3.toInt → v159_3.toInt ≤ 10 → 0 ≤ v159_4.toInt → v159_4.toInt ≤ 12 → (-1) ≤ f159_149_5.toInt → f159_149_5.toInt ≤ 11 → 0 ≤ f159_149_6.toInt → f159_149_6.toInt ≤ 1 → (-1) ≤ f159_149_7.toInt → f159_149_7.toInt ≤ 11 → 0 ≤ f159_149_8.toInt → f159_149_8.toInt ≤ 999999 → 0 ≤ f159_q1__0.toInt → f159_q1__0.toInt ≤ 9 → 0 ≤ f159_q1__1.toInt → f159_q1__1.toInt ≤ 9 → Wd dC dI A s.heap H locs w1 → TW ksC ad cy B qr s1 w1 → FE ksC [(1, 5, 5), (1, 6, 6), (1, 7, 7), (1, 8, 8)] w0 w1 → gi w1 149 5 = f159_149_5 → gi w1 149 6 = f159_149_6 → gi w1 149 7 = f159_149_7 → gi w1 149 8 = f159_149_8 → gi w1 q1_ 0 = f159_q1__0 → gi w1 q1_ 1 = f159_q1__1 → lv_has ls 5 [(0, .ref (ad 149)), (1, .ref (ad q1_)), (2, .int 1), (3, .int v159_3), (4, .int v159_4)] → W p l e ({ frames := 4, cells := 0, slots := 0, locals := 88 }) s m (List.toArray [.ref (ad 149), .ref (ad q1_), .int 1]) below meth c H locs 0 0 (MQ below (va_Qv (P_X1_lookAround_2 ad cy B qr s1 q1_ w0) (fun u : va_W => wpost dC dI cy A u) A) (List.toArray [.ref (ad 149), .ref (ad q1_), .int 1]) s 0 0 A) (F0 m 159 ls []) := by
    intro v159_3 v159_4 f159_149_5 f159_149_6 f159_149_7 f159_149_8 f159_q1__0 f159_q1__1 H locs ls w1 r2 t3 r4 t5 r6 t7 r9 t10 r12 t13 r15 t16 r18 t19 r21 t22 hw hT hF c8 c11 c14 c17 c20 c23 hl
    exact tk_vret hC hr hlocks hK ⟨hT, hF, ⟨f159_149_8, c17, (show 0 ≤ f159_149_8.toInt from r15), (show f159_149_8.toInt ≤ 999999 from t16)⟩⟩ hw dX1_lookAround_159
  have L110 : ∀ (n110 : Nat) (v110_3 : Int32) (v110_4 : Int32) (f110_149_5 : Int32) (f110_149_6 : Int32) (f110_149_7 : Int32) (f110_149_8 : Int32) (f110_q1__0 : Int32) (f110_q1__1 : Int32) (H : Heap) (locs : List Loc) (ls : Array Slot) (w24 : va_W), 0 ≤ v110_3.toInt → v110_3.toInt ≤ 10 → 0 ≤ v110_4.toInt → v110_4.toInt ≤ 12 → (-1) ≤ f110_149_5.toInt → f110_149_5.toInt ≤ 11 → 0 ≤ f110_149_6.toInt → f110_149_6.toInt ≤ 1 → (-1) ≤ f110_149_7.toInt → f110_149_7.toInt ≤ 11 → 0 ≤ f110_149_8.toInt → f110_149_8.toInt ≤ 999999 → 0 ≤ f110_q1__0.toInt → f110_q1__0.toInt ≤ 9 → 0 ≤ f110_q1__1.toInt → f110_q1__1.toInt ≤ 9 → (12 - v110_4.toInt).toNat < n110 → Wd dC dI A s.heap H locs w24 → TW ksC ad cy B qr s1 w24 → FE ksC [(1, 5, 5), (1, 6, 6), (1, 7, 7), (1, 8, 8)] w0 w24 → gi w24 149 5 = f110_149_5 → gi w24 149 6 = f110_149_6 → gi w24 149 7 = f110_149_7 → gi w24 149 8 = f110_149_8 → gi w24 q1_ 0 = f110_q1__0 → gi w24 q1_ 1 = f110_q1__1 → lv_has ls 5 [(0, .ref (ad 149)), (1, .ref (ad q1_)), (2, .int 1), (3, .int v110_3), (4, .int v110_4)] → W p l e ({ frames := 4, cells := 0, slots := 0, locals := 88 }) s m (List.toArray [.ref (ad 149), .ref (ad q1_), .int 1]) below meth c H locs 0 0 (MQ below (va_Qv (P_X1_lookAround_2 ad cy B qr s1 q1_ w0) (fun u : va_W => wpost dC dI cy A u) A) (List.toArray [.ref (ad 149), .ref (ad q1_), .int 1]) s 0 0 A) (F0 m 110 ls []) := by
    intro n110
    induction n110 with
    | zero => intro v110_3 v110_4 f110_149_5 f110_149_6 f110_149_7 f110_149_8 f110_q1__0 f110_q1__1 H locs ls w24 r25 t26 r27 t28 r29 t30 r32 t33 r35 t36 r38 t39 r41 t42 r44 t45 hm110 hw hT hF c31 c34 c37 c40 c43 c46 hl; omega
    | succ n110 ih110 =>
      intro v110_3 v110_4 f110_149_5 f110_149_6 f110_149_7 f110_149_8 f110_q1__0 f110_q1__1 H locs ls w24 r25 t26 r27 t28 r29 t30 r32 t33 r35 t36 r38 t39 r41 t42 r44 t45 hm110 hw hT hF c31 c34 c37 c40 c43 c46 hl
      have J153 : ∀ (f153_149_7 : Int32) (f153_39_9 : Int32) (H : Heap) (locs : List Loc) (ls : Array Slot) (w47 : va_W), 0 ≤ v110_3.toInt → v110_3.toInt ≤ 10 → 0 ≤ v110_4.toInt → v110_4.toInt ≤ 11 → (-1) ≤ f110_149_5.toInt → f110_149_5.toInt ≤ 11 → 0 ≤ f110_149_6.toInt → f110_149_6.toInt ≤ 1 → (-1) ≤ f153_149_7.toInt → f153_149_7.toInt ≤ 11 → 0 ≤ f110_149_8.toInt → f110_149_8.toInt ≤ 999999 → 1 ≤ f153_39_9.toInt → f153_39_9.toInt ≤ 12 → 0 ≤ f110_q1__0.toInt → f110_q1__0.toInt ≤ 9 → 0 ≤ f110_q1__1.toInt → f110_q1__1.toInt ≤ 9 → Wd dC dI A s.heap H locs w47 → TW ksC ad cy B qr s1 w47 → FE ksC [(1, 5, 5), (1, 6, 6), (1, 7, 7), (1, 8, 8)] w0 w47 → gi w47 149 5 = f110_149_5 → gi w47 149 6 = f110_149_6 → gi w47 149 7 = f153_149_7 → gi w47 149 8 = f110_149_8 → gi w47 39 9 = f153_39_9 → gi w47 q1_ 0 = f110_q1__0 → gi w47 q1_ 1 = f110_q1__1 → lv_has ls 5 [(0, .ref (ad 149)), (1, .ref (ad q1_)), (2, .int 1), (3, .int v110_3), (4, .int v110_4)] → W p l e ({ frames := 4, cells := 0, slots := 0, locals := 88 }) s m (List.toArray [.ref (ad 149), .ref (ad q1_), .int 1]) below meth c H locs 0 0 (MQ below (va_Qv (P_X1_lookAround_2 ad cy B qr s1 q1_ w0) (fun u : va_W => wpost dC dI cy A u) A) (List.toArray [.ref (ad 149), .ref (ad q1_), .int 1]) s 0 0 A) (F0 m 153 ls []) := by
        intro f153_149_7 f153_39_9 H locs ls w47 r48 t49 r50 t51 r52 t53 r55 t56 r58 t59 r61 t62 r64 t65 r67 t68 r70 t71 hw hT hF c54 c57 c60 c63 c66 c69 c72 hl
        obtain ⟨x73, ex73⟩ : ∃ y : Int32, y = v110_4 + Int32.ofInt 1 := ⟨_, rfl⟩
        refine lv_iinc (v := x73) (lv' := [(4, .int x73), (0, .ref (ad 149)), (1, .ref (ad q1_)), (2, .int 1), (3, .int v110_3)]) hx hb dX1_lookAround_153 hl (k := 4) rfl ex73.symm (by decide) rfl (fun ls hl => ?_)
        have ex73 : x73.toInt = v110_4.toInt + 1 := by rw [ex73]; exact wk_add (y := 1) (show -2147483648 ≤ v110_4.toInt + 1 by omega) (show v110_4.toInt + 1 ≤ 2147483647 by omega)
        refine lv_goto (tgt := 110) hx hb dX1_lookAround_156 (by decide) ?_
        exact ih110 v110_3 x73 f110_149_5 f110_149_6 f153_149_7 f110_149_8 f110_q1__0 f110_q1__1 H locs ls w47 (show 0 ≤ v110_3.toInt from r48) (show v110_3.toInt ≤ 10 from t49) (show 0 ≤ x73.toInt by first | with_reducible assumption | omega) (show x73.toInt ≤ 12 by first | with_reducible assumption | omega) (show (-1) ≤ f110_149_5.toInt from r52) (show f110_149_5.toInt ≤ 11 from t53) (show 0 ≤ f110_149_6.toInt from r55) (show f110_149_6.toInt ≤ 1 from t56) (show (-1) ≤ f153_149_7.toInt from r58) (show f153_149_7.toInt ≤ 11 from t59) (show 0 ≤ f110_149_8.toInt from r61) (show f110_149_8.toInt ≤ 999999 from t62) (show 0 ≤ f110_q1__0.toInt from r67) (show f110_q1__0.toInt ≤ 9 from t68) (show 0 ≤ f110_q1__1.toInt from r70) (show f110_q1__1.toInt ≤ 9 from t71) (show (12 - x73.toInt).toNat < n110 by first | exact tn_lt hm110 (by omega) (by omega) | omega) hw hT hF c54 c57 c60 c63 c69 c72 (lv_sub hl [1, 2, 3, 4, 0] rfl)
      refine lv_iload_n hx hb dX1_lookAround_110 rfl (lv_at hl 2 rfl) ?_
      refine lv_if_eq (tgt := 159) hx hb dX1_lookAround_111 (by decide) (fun c => absurd c (by decide)) (fun _ => ?_)
      refine lv_aload_n hx hb dX1_lookAround_114 rfl (lv_at hl 0 rfl) ?_
      refine tk_geti hC hK hw hT hinX1 kC_at149 (by decide) rfl 7 (by decide) (List.mem_cons_of_mem _ uw_42_7) rfl rfl dX1_lookAround_115 (fun x74 c75 rx74 tx74 => ?_)
      refine wk_top f110_149_7 (c75.symm.trans c37) ?_
      refine lv_iconst (v := (-1)) hx hb dX1_lookAround_118 (by decide) ?_
      refine lv_icmp_ne (tgt := 159) hx hb dX1_lookAround_119 (by decide) (fun c76 => ?_) (fun c76 => ?_)
      · have c76 : ¬ f110_149_7.toInt = (-1 : Int) := wk_eqF c76
        exact J159 v110_3 v110_4 f110_149_5 f110_149_6 f110_149_7 f110_149_8 f110_q1__0 f110_q1__1 H locs ls w24 (show 0 ≤ v110_3.toInt from r25) (show v110_3.toInt ≤ 10 from t26) (show 0 ≤ v110_4.toInt from r27) (show v110_4.toInt ≤ 12 from t28) (show (-1) ≤ f110_149_5.toInt from r29) (show f110_149_5.toInt ≤ 11 from t30) (show 0 ≤ f110_149_6.toInt from r32) (show f110_149_6.toInt ≤ 1 from t33) (show (-1) ≤ f110_149_7.toInt from r35) (show f110_149_7.toInt ≤ 11 from t36) (show 0 ≤ f110_149_8.toInt from r38) (show f110_149_8.toInt ≤ 999999 from t39) (show 0 ≤ f110_q1__0.toInt from r41) (show f110_q1__0.toInt ≤ 9 from t42) (show 0 ≤ f110_q1__1.toInt from r44) (show f110_q1__1.toInt ≤ 9 from t45)  hw hT hF c31 c34 c37 c40 c43 c46 (lv_sub hl [0, 1, 2, 3, 4] rfl)
      · have c76 : f110_149_7.toInt = (-1 : Int) := wk_eq.mp c76
        refine lv_iload hx hb dX1_lookAround_122 (lv_at hl 4 rfl) ?_
        refine lv_aload_n hx hb dX1_lookAround_124 rfl (lv_at hl 0 rfl) ?_
        refine tk_getA hC hK hw hT hinX1 kC_at149 (by decide) rfl 0 (by decide) (List.mem_cons_of_mem _ uw_5_0) rfl rfl dX1_lookAround_125 ?_
        refine tk_getO hC hK hw hT hinX5 kC_at38 (by decide) rfl 0 (by decide) (List.mem_cons_of_mem _ uw_43_2) rfl rfl dX1_lookAround_128 ?_
        refine tk_geti hC hK hw hT hinX7 kC_at39 (by decide) rfl 9 (by decide) (List.mem_cons_of_mem _ uw_43_3) rfl rfl dX1_lookAround_131 (fun x77 c78 rx77 tx77 => ?_)
        refine lv_icmp_ge (tgt := 159) hx hb dX1_lookAround_134 (by decide) (fun c79 => ?_) (fun c79 => ?_)
        · have c79 : x77.toInt ≤ v110_4.toInt := wk_le.mp c79
          exact J159 v110_3 v110_4 f110_149_5 f110_149_6 f110_149_7 f110_149_8 f110_q1__0 f110_q1__1 H locs ls w24 (show 0 ≤ v110_3.toInt from r25) (show v110_3.toInt ≤ 10 from t26) (show 0 ≤ v110_4.toInt from r27) (show v110_4.toInt ≤ 12 from t28) (show (-1) ≤ f110_149_5.toInt from r29) (show f110_149_5.toInt ≤ 11 from t30) (show 0 ≤ f110_149_6.toInt from r32) (show f110_149_6.toInt ≤ 1 from t33) (show (-1) ≤ f110_149_7.toInt from r35) (show f110_149_7.toInt ≤ 11 from t36) (show 0 ≤ f110_149_8.toInt from r38) (show f110_149_8.toInt ≤ 999999 from t39) (show 0 ≤ f110_q1__0.toInt from r41) (show f110_q1__0.toInt ≤ 9 from t42) (show 0 ≤ f110_q1__1.toInt from r44) (show f110_q1__1.toInt ≤ 9 from t45)  hw hT hF c31 c34 c37 c40 c43 c46 (lv_sub hl [0, 1, 2, 3, 4] rfl)
        · have c79 : v110_4.toInt < x77.toInt := wk_leF c79
          refine lv_aload_n hx hb dX1_lookAround_137 rfl (lv_at hl 0 rfl) ?_
          refine lv_aload_n hx hb dX1_lookAround_138 rfl (lv_at hl 1 rfl) ?_
          refine lv_iload hx hb dX1_lookAround_139 (lv_at hl 4 rfl) ?_
          refine tk_Vi hC hK hw hT hA hE hSR kC_at149 (by decide) rfl (k_X1_isOpenFor_1 l adK adV dC dI cy ad B hB0 (Int.le_trans hB1 (by decide)) qr s1   q1_ hkq1_ v110_4 (show 0 ≤ v110_4.toInt from r27) (show v110_4.toInt ≤ 11 by first | with_reducible assumption | omega) w24 H.size hT ) (cwV 2 hC.2.2.2.2 uV_RX1_110 rfl rfl rfl (by decide +kernel) ⟨Nat.le_of_ble_eq_true rfl, Nat.le_of_ble_eq_true rfl⟩) rfl hl.1 rfl (Nat.le_of_ble_eq_true rfl) dX1_lookAround_141 (fun r80 w82 H locs hp81 hw => ?_)
          obtain ⟨hT, k83, hg86⟩ := hp81
          have hF := hF.tr k83 (by decide)
          have c87 := k83.gi kC_at149 (by decide) c31
          have c88 := k83.gi kC_at149 (by decide) c34
          have c89 := k83.gi kC_at149 (by decide) c37
          have c90 := k83.gi kC_at149 (by decide) c40
          have c91 := k83.gi hkq1_ (by decide) c43
          have c92 := k83.gi hkq1_ (by decide) c46
          have c93 := k83.gi kC_at39 (by decide) c78
          rcases hg86 with rfl | ⟨rfl, ⟨x84, c85, rx84, tx84⟩⟩
          · refine lv_if_eq (tgt := 153) hx hb dX1_lookAround_144 (by decide) (fun _ => ?_) (fun c => absurd (by decide) c)
            exact J153 f110_149_7 x77 H locs ls w82 (show 0 ≤ v110_3.toInt from r25) (show v110_3.toInt ≤ 10 from t26) (show 0 ≤ v110_4.toInt from r27) (show v110_4.toInt ≤ 11 by first | with_reducible assumption | omega) (show (-1) ≤ f110_149_5.toInt from r29) (show f110_149_5.toInt ≤ 11 from t30) (show 0 ≤ f110_149_6.toInt from r32) (show f110_149_6.toInt ≤ 1 from t33) (show (-1) ≤ f110_149_7.toInt from r35) (show f110_149_7.toInt ≤ 11 from t36) (show 0 ≤ f110_149_8.toInt from r38) (show f110_149_8.toInt ≤ 999999 from t39) (show 1 ≤ x77.toInt by first | with_reducible assumption | omega) (show x77.toInt ≤ 12 from tx77) (show 0 ≤ f110_q1__0.toInt from r41) (show f110_q1__0.toInt ≤ 9 from t42) (show 0 ≤ f110_q1__1.toInt from r44) (show f110_q1__1.toInt ≤ 9 from t45)  hw hT hF c87 c88 c89 c90 c93 c91 c92 (lv_sub hl [0, 1, 2, 3, 4] rfl)
          · refine lv_if_eq (tgt := 153) hx hb dX1_lookAround_144 (by decide) (fun c => absurd c (by decide)) (fun _ => ?_)
            refine lv_aload_n hx hb dX1_lookAround_147 rfl (lv_at hl 0 rfl) ?_
            refine lv_iload hx hb dX1_lookAround_148 (lv_at hl 4 rfl) ?_
            refine tk_puti hC hK hw hT hinX1 tyX1_ok nmX1 kC_at149 (by decide) rfl rfl 7 (by decide) (List.mem_cons_of_mem _ uw_42_7) rfl rfl rfl rfl (show (-1) ≤ v110_4.toInt from Int.le_trans (by decide) r27) (show v110_4.toInt ≤ 11 by first | with_reducible assumption | omega) dX1_lookAround_150 (fun H locs w94 hw hT k96 c95 => ?_)
            have hF := hF.put kC_at149 (k := 7) (by decide) k96
            have c97 := k96.gi (Or.inr (by decide)) c87
            have c98 := k96.gi (Or.inr (by decide)) c88
            have c99 := k96.gi (Or.inr (by decide)) c90
            have c100 := k96.gi (Or.inr (by decide)) c91
            have c101 := k96.gi (Or.inr (by decide)) c92
            have c102 := k96.gi (Or.inr (by decide)) c93
            have c103 := k96.gi (Or.inr (by decide)) c85
            exact J153 v110_4 x77 H locs ls w94 (show 0 ≤ v110_3.toInt from r25) (show v110_3.toInt ≤ 10 from t26) (show 0 ≤ v110_4.toInt from r27) (show v110_4.toInt ≤ 11 by first | with_reducible assumption | omega) (show (-1) ≤ f110_149_5.toInt from r29) (show f110_149_5.toInt ≤ 11 from t30) (show 0 ≤ f110_149_6.toInt from r32) (show f110_149_6.toInt ≤ 1 from t33) (show (-1) ≤ v110_4.toInt from Int.le_trans (by decide) r27) (show v110_4.toInt ≤ 11 by first | with_reducible assumption | omega) (show 0 ≤ f110_149_8.toInt from r38) (show f110_149_8.toInt ≤ 999999 from t39) (show 1 ≤ x77.toInt by first | with_reducible assumption | omega) (show x77.toInt ≤ 12 from tx77) (show 0 ≤ f110_q1__0.toInt from r41) (show f110_q1__0.toInt ≤ 9 from t42) (show 0 ≤ f110_q1__1.toInt from r44) (show f110_q1__1.toInt ≤ 9 from t45)  hw hT hF c97 c98 c95 c99 c102 c100 c101 (lv_sub hl [0, 1, 2, 3, 4] rfl)
  have J24 : ∀ (H : Heap) (locs : List Loc) (ls : Array Slot) (w104 : va_W), Wd dC dI A s.heap H locs w104 → TW ksC ad cy B qr s1 w104 → FE ksC [(1, 5, 5), (1, 6, 6), (1, 7, 7), (1, 8, 8)] w0 w104 → lv_has ls 5 [(0, .ref (ad 149)), (1, .ref (ad q1_)), (2, .int 1)] → W p l e ({ frames := 4, cells := 0, slots := 0, locals := 88 }) s m (List.toArray [.ref (ad 149), .ref (ad q1_), .int 1]) below meth c H locs 0 0 (MQ below (va_Qv (P_X1_lookAround_2 ad cy B qr s1 q1_ w0) (fun u : va_W => wpost dC dI cy A u) A) (List.toArray [.ref (ad 149), .ref (ad q1_), .int 1]) s 0 0 A) (F0 m 24 ls []) := by
    intro H locs ls w104 hw hT hF hl
    refine lv_aload_n hx hb dX1_lookAround_24 rfl (lv_at hl 1 rfl) ?_
    refine tk_geti hC hK hw hT hinX9 hkq1_ (by decide) rfl 2 (by decide) (List.mem_cons_of_mem _ uw_42_21) rfl rfl dX1_lookAround_25 (fun x105 c106 rx105 tx105 => ?_)
    refine lv_istore_n (lv' := [(3, .int x105), (0, .ref (ad 149)), (1, .ref (ad q1_)), (2, .int 1)]) hx hb dX1_lookAround_28 rfl hl (by decide) rfl (fun ls hl => ?_)
    refine lv_aload_n hx hb dX1_lookAround_29 rfl (lv_at hl 1 rfl) ?_
    refine lv_aload_n hx hb dX1_lookAround_30 rfl (lv_at hl 1 rfl) ?_
    refine tk_getA hC hK hw hT hinX1 kC_at149 (by decide) rfl 1 (by decide) (List.mem_cons_of_mem _ uw_5_1) rfl rfl dX1_lookAround_31 ?_
    refine lv_iload_n hx hb dX1_lookAround_34 rfl (lv_at hl 0 rfl) ?_
    refine lv_aload_n hx hb dX1_lookAround_35 rfl (lv_at hl 2 rfl) ?_
    refine tk_geti hC hK hw hT hinX9 hkq1_ (by decide) rfl 0 (by decide) (List.mem_cons_of_mem _ uw_42_22) rfl rfl dX1_lookAround_36 (fun x107 c108 rx107 tx107 => ?_)
    refine lv_aload_n hx hb dX1_lookAround_39 rfl (lv_at hl 2 rfl) ?_
    refine tk_geti hC hK hw hT hinX9 hkq1_ (by decide) rfl 1 (by decide) (List.mem_cons_of_mem _ uw_42_23) rfl rfl dX1_lookAround_40 (fun x109 c110 rx109 tx109 => ?_)
    refine tk_Vi hC hK hw hT hA hE hSR kC_at145 (by decide) rfl (k_X0_streetBy_1 l adK adV dC dI cy ad B hB0 (Int.le_trans hB1 (by decide)) qr s1   x105 (show 0 ≤ x105.toInt by first | with_reducible assumption | omega) (show x105.toInt ≤ 3 by first | with_reducible assumption | omega) x107 (show 0 ≤ x107.toInt by first | with_reducible assumption | omega) (show x107.toInt ≤ 9 by first | with_reducible assumption | omega) x109 (show 0 ≤ x109.toInt by first | with_reducible assumption | omega) (show x109.toInt ≤ 9 by first | with_reducible assumption | omega) w104 H.size hT ) (cwV 3 hC.2.2.2.2 uV_RX1_106 rfl rfl rfl (by decide +kernel) ⟨Nat.le_of_ble_eq_true rfl, Nat.le_of_ble_eq_true rfl⟩) rfl hl.1 rfl (Nat.le_of_ble_eq_true rfl) dX1_lookAround_43 (fun r111 w113 H locs hp112 hw => ?_)
    obtain ⟨hT, k114, hg117⟩ := hp112
    have hF := hF.tr k114 (by decide)
    have c118 := k114.gi hkq1_ (by decide) c106
    have c119 := k114.gi hkq1_ (by decide) c108
    have c120 := k114.gi hkq1_ (by decide) c110
    obtain ⟨g115, g116⟩ := hg117
    refine tk_puti hC hK hw hT hinX1 tyX1_ok nmX1 kC_at149 (by decide) rfl rfl 5 (by decide) (List.mem_cons_of_mem _ uw_42_6) rfl rfl rfl rfl (show (-1) ≤ r111.toInt by first | with_reducible assumption | omega) (show r111.toInt ≤ 11 by first | with_reducible assumption | omega) dX1_lookAround_46 (fun H locs w121 hw hT k123 c122 => ?_)
    have hF := hF.put kC_at149 (k := 5) (by decide) k123
    have c124 := k123.gi (Or.inr (by decide)) c118
    have c125 := k123.gi (Or.inr (by decide)) c119
    have c126 := k123.gi (Or.inr (by decide)) c120
    refine lv_aload_n hx hb dX1_lookAround_49 rfl (lv_at hl 1 rfl) ?_
    refine lv_aload_n hx hb dX1_lookAround_50 rfl (lv_at hl 1 rfl) ?_
    refine tk_geti hC hK hw hT hinX1 kC_at149 (by decide) rfl 5 (by decide) (List.mem_cons_of_mem _ uw_42_6) rfl rfl dX1_lookAround_51 (fun x127 c128 rx127 tx127 => ?_)
    refine wk_top r111 (c128.symm.trans c122) ?_
    refine lv_iconst (v := (-1)) hx hb dX1_lookAround_54 (by decide) ?_
    refine lv_icmp_eq (tgt := 74) hx hb dX1_lookAround_55 (by decide) (fun c129 => ?_) (fun c129 => ?_)
    · have c129 : r111.toInt = (-1 : Int) := wk_eq.mp c129
      refine lv_iconst (v := 0) hx hb dX1_lookAround_74 (by decide) ?_
      refine tk_putz hC hK hw hT hinX1 tyX1_ok nmX1 kC_at149 (by decide) rfl rfl 6 (by decide) (List.mem_cons_of_mem _ uw_42_5) rfl rfl rfl rfl (by decide) (by decide) dX1_lookAround_75 (fun H locs w130 hw hT k132 c131 => ?_)
      have hF := hF.put kC_at149 (k := 6) (by decide) k132
      have c133 := k132.gi (Or.inr (by decide)) c124
      have c134 := k132.gi (Or.inr (by decide)) c125
      have c135 := k132.gi (Or.inr (by decide)) c126
      have c136 := k132.gi (Or.inr (by decide)) c122
      refine lv_aload_n hx hb dX1_lookAround_78 rfl (lv_at hl 1 rfl) ?_
      refine lv_iconst (v := 0) hx hb dX1_lookAround_79 (by decide) ?_
      refine lv_aload_n hx hb dX1_lookAround_80 rfl (lv_at hl 1 rfl) ?_
      refine tk_getA hC hK hw hT hinX1 kC_at149 (by decide) rfl 1 (by decide) (List.mem_cons_of_mem _ uw_5_1) rfl rfl dX1_lookAround_81 ?_
      refine lv_iload_n hx hb dX1_lookAround_84 rfl (lv_at hl 0 rfl) ?_
      refine lv_aload_n hx hb dX1_lookAround_85 rfl (lv_at hl 2 rfl) ?_
      refine tk_geti hC hK hw hT hinX9 hkq1_ (by decide) rfl 0 (by decide) (List.mem_cons_of_mem _ uw_42_22) rfl rfl dX1_lookAround_86 (fun x137 c138 rx137 tx137 => ?_)
      refine wk_top x107 (c138.symm.trans c134) ?_
      refine lv_aload_n hx hb dX1_lookAround_89 rfl (lv_at hl 2 rfl) ?_
      refine tk_geti hC hK hw hT hinX9 hkq1_ (by decide) rfl 1 (by decide) (List.mem_cons_of_mem _ uw_42_23) rfl rfl dX1_lookAround_90 (fun x139 c140 rx139 tx139 => ?_)
      refine wk_top x109 (c140.symm.trans c135) ?_
      refine tk_Vi hC hK hw hT hA hE hSR kC_at145 (by decide) rfl (k_X0_hoursBy_1 l adK adV dC dI cy ad B hB0 (Int.le_trans hB1 (by decide)) qr s1   x105 (show 0 ≤ x105.toInt by first | with_reducible assumption | omega) (show x105.toInt ≤ 3 by first | with_reducible assumption | omega) x107 (show 0 ≤ x107.toInt by first | with_reducible assumption | omega) (show x107.toInt ≤ 9 by first | with_reducible assumption | omega) x109 (show 0 ≤ x109.toInt by first | with_reducible assumption | omega) (show x109.toInt ≤ 9 by first | with_reducible assumption | omega) w130 H.size hT ) (cwV 3 hC.2.2.2.2 uV_RX1_114 rfl rfl rfl (by decide +kernel) ⟨Nat.le_of_ble_eq_true rfl, Nat.le_of_ble_eq_true rfl⟩) rfl hl.1 rfl (Nat.le_of_ble_eq_true rfl) dX1_lookAround_93 (fun r141 w143 H locs hp142 hw => ?_)
      obtain ⟨hT, k144, hg147⟩ := hp142
      have hF := hF.tr k144 (by decide)
      have c148 := k144.gi hkq1_ (by decide) c133
      have c149 := k144.gi hkq1_ (by decide) c134
      have c150 := k144.gi hkq1_ (by decide) c135
      have c151 := k144.gi kC_at149 (by decide) c136
      have c152 := k144.gi kC_at149 (by decide) c131
      rcases hg147 with ⟨g145, g146⟩ | rfl
      · refine va_mmax hx hb (hC.2.2.1.trans hl.1.symm) hC.2.2.2.1 (hC.2.2.2.2 _ (List.mem_cons_of_mem _ uw_43_0)) (hC.2.2.2.2 _ (List.mem_cons_of_mem _ uw_14_15)) (hC.2.2.2.2 _ (List.mem_cons_of_mem _ uw_14_16)) (hC.2.2.2.2 _ (List.mem_cons_of_mem _ uw_14_17)) (Nat.le_of_ble_eq_true rfl) (Nat.le_of_ble_eq_true rfl) (Nat.zero_le _) (Nat.zero_le _) dX1_lookAround_96 ?_
        refine lv_topi (fun x153 ex153 => ?_)
        have bx153 : (x153.toInt = (0 : Int) ∧ r141.toInt ≤ (0 : Int)) ∨ (x153.toInt = r141.toInt ∧ (0 : Int) < r141.toInt) := by rw [ex153]; exact wk_max
        refine tk_puti hC hK hw hT hinX1 tyX1_ok nmX1 kC_at149 (by decide) rfl rfl 8 (by decide) (List.mem_cons_of_mem _ uw_43_1) rfl rfl rfl rfl (wk_i32 x153).1 (wk_i32 x153).2 dX1_lookAround_99 (fun H locs w154 hw hT k156 c155 => ?_)
        have hF := hF.put kC_at149 (k := 8) (by decide) k156
        have c157 := k156.gi (Or.inr (by decide)) c148
        have c158 := k156.gi (Or.inr (by decide)) c149
        have c159 := k156.gi (Or.inr (by decide)) c150
        have c160 := k156.gi (Or.inr (by decide)) c151
        have c161 := k156.gi (Or.inr (by decide)) c152
        refine lv_aload_n hx hb dX1_lookAround_102 rfl (lv_at hl 1 rfl) ?_
        refine lv_iconst (v := (-1)) hx hb dX1_lookAround_103 (by decide) ?_
        refine tk_puti hC hK hw hT hinX1 tyX1_ok nmX1 kC_at149 (by decide) rfl rfl 7 (by decide) (List.mem_cons_of_mem _ uw_42_7) rfl rfl rfl rfl (by decide) (by decide) dX1_lookAround_104 (fun H locs w162 hw hT k164 c163 => ?_)
        have hF := hF.put kC_at149 (k := 7) (by decide) k164
        have c165 := k164.gi (Or.inr (by decide)) c157
        have c166 := k164.gi (Or.inr (by decide)) c158
        have c167 := k164.gi (Or.inr (by decide)) c159
        have c168 := k164.gi (Or.inr (by decide)) c160
        have c169 := k164.gi (Or.inr (by decide)) c161
        have c170 := k164.gi (Or.inr (by decide)) c155
        refine lv_iconst (v := 0) hx hb dX1_lookAround_107 (by decide) ?_
        refine lv_istore (lv' := [(4, .int 0), (3, .int x105), (0, .ref (ad 149)), (1, .ref (ad q1_)), (2, .int 1)]) hx hb dX1_lookAround_108 hl (by decide) rfl (fun ls hl => ?_)
        exact L110 ((12 - (0 : Int)).toNat + 1) x105 0 r111 0 (-1) x153 x107 x109 H locs ls w162 (show 0 ≤ x105.toInt by first | with_reducible assumption | omega) (show x105.toInt ≤ 10 by first | with_reducible assumption | omega) (by decide) (by decide) (show (-1) ≤ r111.toInt by first | with_reducible assumption | omega) (show r111.toInt ≤ 11 by first | with_reducible assumption | omega) (by decide) (by decide) (by decide) (by decide) (show 0 ≤ x153.toInt by first | with_reducible assumption | omega) (show x153.toInt ≤ 999999 by first | with_reducible assumption | omega) (show 0 ≤ x107.toInt by first | with_reducible assumption | omega) (show x107.toInt ≤ 9 by first | with_reducible assumption | omega) (show 0 ≤ x109.toInt by first | with_reducible assumption | omega) (show x109.toInt ≤ 9 by first | with_reducible assumption | omega) (Nat.lt_succ_self _) hw hT hF c168 c169 c163 c170 c166 c167 (lv_sub hl [2, 3, 4, 1, 0] rfl)
      · refine va_mmax hx hb (hC.2.2.1.trans hl.1.symm) hC.2.2.2.1 (hC.2.2.2.2 _ (List.mem_cons_of_mem _ uw_43_0)) (hC.2.2.2.2 _ (List.mem_cons_of_mem _ uw_14_15)) (hC.2.2.2.2 _ (List.mem_cons_of_mem _ uw_14_16)) (hC.2.2.2.2 _ (List.mem_cons_of_mem _ uw_14_17)) (Nat.le_of_ble_eq_true rfl) (Nat.le_of_ble_eq_true rfl) (Nat.zero_le _) (Nat.zero_le _) dX1_lookAround_96 ?_
        refine lv_topi (fun x171 ex171 => ?_)
        have bx171 : (x171.toInt = (0 : Int) ∧ (-1 : Int) ≤ (0 : Int)) ∨ (x171.toInt = (-1 : Int) ∧ (0 : Int) < (-1 : Int)) := by rw [ex171]; exact wk_max
        refine tk_puti hC hK hw hT hinX1 tyX1_ok nmX1 kC_at149 (by decide) rfl rfl 8 (by decide) (List.mem_cons_of_mem _ uw_43_1) rfl rfl rfl rfl (wk_i32 x171).1 (wk_i32 x171).2 dX1_lookAround_99 (fun H locs w172 hw hT k174 c173 => ?_)
        have hF := hF.put kC_at149 (k := 8) (by decide) k174
        have c175 := k174.gi (Or.inr (by decide)) c148
        have c176 := k174.gi (Or.inr (by decide)) c149
        have c177 := k174.gi (Or.inr (by decide)) c150
        have c178 := k174.gi (Or.inr (by decide)) c151
        have c179 := k174.gi (Or.inr (by decide)) c152
        refine lv_aload_n hx hb dX1_lookAround_102 rfl (lv_at hl 1 rfl) ?_
        refine lv_iconst (v := (-1)) hx hb dX1_lookAround_103 (by decide) ?_
        refine tk_puti hC hK hw hT hinX1 tyX1_ok nmX1 kC_at149 (by decide) rfl rfl 7 (by decide) (List.mem_cons_of_mem _ uw_42_7) rfl rfl rfl rfl (by decide) (by decide) dX1_lookAround_104 (fun H locs w180 hw hT k182 c181 => ?_)
        have hF := hF.put kC_at149 (k := 7) (by decide) k182
        have c183 := k182.gi (Or.inr (by decide)) c175
        have c184 := k182.gi (Or.inr (by decide)) c176
        have c185 := k182.gi (Or.inr (by decide)) c177
        have c186 := k182.gi (Or.inr (by decide)) c178
        have c187 := k182.gi (Or.inr (by decide)) c179
        have c188 := k182.gi (Or.inr (by decide)) c173
        refine lv_iconst (v := 0) hx hb dX1_lookAround_107 (by decide) ?_
        refine lv_istore (lv' := [(4, .int 0), (3, .int x105), (0, .ref (ad 149)), (1, .ref (ad q1_)), (2, .int 1)]) hx hb dX1_lookAround_108 hl (by decide) rfl (fun ls hl => ?_)
        exact L110 ((12 - (0 : Int)).toNat + 1) x105 0 r111 0 (-1) x171 x107 x109 H locs ls w180 (show 0 ≤ x105.toInt by first | with_reducible assumption | omega) (show x105.toInt ≤ 10 by first | with_reducible assumption | omega) (by decide) (by decide) (show (-1) ≤ r111.toInt by first | with_reducible assumption | omega) (show r111.toInt ≤ 11 by first | with_reducible assumption | omega) (by decide) (by decide) (by decide) (by decide) (show 0 ≤ x171.toInt by first | with_reducible assumption | omega) (show x171.toInt ≤ 999999 by first | with_reducible assumption | omega) (show 0 ≤ x107.toInt by first | with_reducible assumption | omega) (show x107.toInt ≤ 9 by first | with_reducible assumption | omega) (show 0 ≤ x109.toInt by first | with_reducible assumption | omega) (show x109.toInt ≤ 9 by first | with_reducible assumption | omega) (Nat.lt_succ_self _) hw hT hF c186 c187 c181 c188 c184 c185 (lv_sub hl [2, 3, 4, 1, 0] rfl)
    · have c129 : ¬ r111.toInt = (-1 : Int) := wk_eqF c129
      refine lv_aload_n hx hb dX1_lookAround_58 rfl (lv_at hl 1 rfl) ?_
      refine lv_aload_n hx hb dX1_lookAround_59 rfl (lv_at hl 2 rfl) ?_
      refine lv_aload_n hx hb dX1_lookAround_60 rfl (lv_at hl 1 rfl) ?_
      refine tk_geti hC hK hw hT hinX1 kC_at149 (by decide) rfl 5 (by decide) (List.mem_cons_of_mem _ uw_42_6) rfl rfl dX1_lookAround_61 (fun x189 c190 rx189 tx189 => ?_)
      refine wk_top r111 (c190.symm.trans c122) ?_
      refine tk_Vi hC hK hw hT hA hE hSR kC_at149 (by decide) rfl (k_X1_isOpenFor_1 l adK adV dC dI cy ad B hB0 (Int.le_trans hB1 (by decide)) qr s1   q1_ hkq1_ r111 (show 0 ≤ r111.toInt by first | with_reducible assumption | omega) (show r111.toInt ≤ 11 by first | with_reducible assumption | omega) w121 H.size hT ) (cwV 2 hC.2.2.2.2 uV_RX1_110 rfl rfl rfl (by decide +kernel) ⟨Nat.le_of_ble_eq_true rfl, Nat.le_of_ble_eq_true rfl⟩) rfl hl.1 rfl (Nat.le_of_ble_eq_true rfl) dX1_lookAround_64 (fun r191 w193 H locs hp192 hw => ?_)
      obtain ⟨hT, k194, hg197⟩ := hp192
      have hF := hF.tr k194 (by decide)
      have c198 := k194.gi hkq1_ (by decide) c124
      have c199 := k194.gi hkq1_ (by decide) c125
      have c200 := k194.gi hkq1_ (by decide) c126
      have c201 := k194.gi kC_at149 (by decide) c122
      rcases hg197 with rfl | ⟨rfl, ⟨x195, c196, rx195, tx195⟩⟩
      · refine lv_if_eq (tgt := 74) hx hb dX1_lookAround_67 (by decide) (fun _ => ?_) (fun c => absurd (by decide) c)
        refine lv_iconst (v := 0) hx hb dX1_lookAround_74 (by decide) ?_
        refine tk_putz hC hK hw hT hinX1 tyX1_ok nmX1 kC_at149 (by decide) rfl rfl 6 (by decide) (List.mem_cons_of_mem _ uw_42_5) rfl rfl rfl rfl (by decide) (by decide) dX1_lookAround_75 (fun H locs w202 hw hT k204 c203 => ?_)
        have hF := hF.put kC_at149 (k := 6) (by decide) k204
        have c205 := k204.gi (Or.inr (by decide)) c198
        have c206 := k204.gi (Or.inr (by decide)) c199
        have c207 := k204.gi (Or.inr (by decide)) c200
        have c208 := k204.gi (Or.inr (by decide)) c201
        refine lv_aload_n hx hb dX1_lookAround_78 rfl (lv_at hl 1 rfl) ?_
        refine lv_iconst (v := 0) hx hb dX1_lookAround_79 (by decide) ?_
        refine lv_aload_n hx hb dX1_lookAround_80 rfl (lv_at hl 1 rfl) ?_
        refine tk_getA hC hK hw hT hinX1 kC_at149 (by decide) rfl 1 (by decide) (List.mem_cons_of_mem _ uw_5_1) rfl rfl dX1_lookAround_81 ?_
        refine lv_iload_n hx hb dX1_lookAround_84 rfl (lv_at hl 0 rfl) ?_
        refine lv_aload_n hx hb dX1_lookAround_85 rfl (lv_at hl 2 rfl) ?_
        refine tk_geti hC hK hw hT hinX9 hkq1_ (by decide) rfl 0 (by decide) (List.mem_cons_of_mem _ uw_42_22) rfl rfl dX1_lookAround_86 (fun x209 c210 rx209 tx209 => ?_)
        refine wk_top x107 (c210.symm.trans c206) ?_
        refine lv_aload_n hx hb dX1_lookAround_89 rfl (lv_at hl 2 rfl) ?_
        refine tk_geti hC hK hw hT hinX9 hkq1_ (by decide) rfl 1 (by decide) (List.mem_cons_of_mem _ uw_42_23) rfl rfl dX1_lookAround_90 (fun x211 c212 rx211 tx211 => ?_)
        refine wk_top x109 (c212.symm.trans c207) ?_
        refine tk_Vi hC hK hw hT hA hE hSR kC_at145 (by decide) rfl (k_X0_hoursBy_1 l adK adV dC dI cy ad B hB0 (Int.le_trans hB1 (by decide)) qr s1   x105 (show 0 ≤ x105.toInt by first | with_reducible assumption | omega) (show x105.toInt ≤ 3 by first | with_reducible assumption | omega) x107 (show 0 ≤ x107.toInt by first | with_reducible assumption | omega) (show x107.toInt ≤ 9 by first | with_reducible assumption | omega) x109 (show 0 ≤ x109.toInt by first | with_reducible assumption | omega) (show x109.toInt ≤ 9 by first | with_reducible assumption | omega) w202 H.size hT ) (cwV 3 hC.2.2.2.2 uV_RX1_114 rfl rfl rfl (by decide +kernel) ⟨Nat.le_of_ble_eq_true rfl, Nat.le_of_ble_eq_true rfl⟩) rfl hl.1 rfl (Nat.le_of_ble_eq_true rfl) dX1_lookAround_93 (fun r213 w215 H locs hp214 hw => ?_)
        obtain ⟨hT, k216, hg219⟩ := hp214
        have hF := hF.tr k216 (by decide)
        have c220 := k216.gi hkq1_ (by decide) c205
        have c221 := k216.gi hkq1_ (by decide) c206
        have c222 := k216.gi hkq1_ (by decide) c207
        have c223 := k216.gi kC_at149 (by decide) c208
        have c224 := k216.gi kC_at149 (by decide) c203
        rcases hg219 with ⟨g217, g218⟩ | rfl
        · refine va_mmax hx hb (hC.2.2.1.trans hl.1.symm) hC.2.2.2.1 (hC.2.2.2.2 _ (List.mem_cons_of_mem _ uw_43_0)) (hC.2.2.2.2 _ (List.mem_cons_of_mem _ uw_14_15)) (hC.2.2.2.2 _ (List.mem_cons_of_mem _ uw_14_16)) (hC.2.2.2.2 _ (List.mem_cons_of_mem _ uw_14_17)) (Nat.le_of_ble_eq_true rfl) (Nat.le_of_ble_eq_true rfl) (Nat.zero_le _) (Nat.zero_le _) dX1_lookAround_96 ?_
          refine lv_topi (fun x225 ex225 => ?_)
          have bx225 : (x225.toInt = (0 : Int) ∧ r213.toInt ≤ (0 : Int)) ∨ (x225.toInt = r213.toInt ∧ (0 : Int) < r213.toInt) := by rw [ex225]; exact wk_max
          refine tk_puti hC hK hw hT hinX1 tyX1_ok nmX1 kC_at149 (by decide) rfl rfl 8 (by decide) (List.mem_cons_of_mem _ uw_43_1) rfl rfl rfl rfl (wk_i32 x225).1 (wk_i32 x225).2 dX1_lookAround_99 (fun H locs w226 hw hT k228 c227 => ?_)
          have hF := hF.put kC_at149 (k := 8) (by decide) k228
          have c229 := k228.gi (Or.inr (by decide)) c220
          have c230 := k228.gi (Or.inr (by decide)) c221
          have c231 := k228.gi (Or.inr (by decide)) c222
          have c232 := k228.gi (Or.inr (by decide)) c223
          have c233 := k228.gi (Or.inr (by decide)) c224
          refine lv_aload_n hx hb dX1_lookAround_102 rfl (lv_at hl 1 rfl) ?_
          refine lv_iconst (v := (-1)) hx hb dX1_lookAround_103 (by decide) ?_
          refine tk_puti hC hK hw hT hinX1 tyX1_ok nmX1 kC_at149 (by decide) rfl rfl 7 (by decide) (List.mem_cons_of_mem _ uw_42_7) rfl rfl rfl rfl (by decide) (by decide) dX1_lookAround_104 (fun H locs w234 hw hT k236 c235 => ?_)
          have hF := hF.put kC_at149 (k := 7) (by decide) k236
          have c237 := k236.gi (Or.inr (by decide)) c229
          have c238 := k236.gi (Or.inr (by decide)) c230
          have c239 := k236.gi (Or.inr (by decide)) c231
          have c240 := k236.gi (Or.inr (by decide)) c232
          have c241 := k236.gi (Or.inr (by decide)) c233
          have c242 := k236.gi (Or.inr (by decide)) c227
          refine lv_iconst (v := 0) hx hb dX1_lookAround_107 (by decide) ?_
          refine lv_istore (lv' := [(4, .int 0), (3, .int x105), (0, .ref (ad 149)), (1, .ref (ad q1_)), (2, .int 1)]) hx hb dX1_lookAround_108 hl (by decide) rfl (fun ls hl => ?_)
          exact L110 ((12 - (0 : Int)).toNat + 1) x105 0 r111 0 (-1) x225 x107 x109 H locs ls w234 (show 0 ≤ x105.toInt by first | with_reducible assumption | omega) (show x105.toInt ≤ 10 by first | with_reducible assumption | omega) (by decide) (by decide) (show (-1) ≤ r111.toInt by first | with_reducible assumption | omega) (show r111.toInt ≤ 11 by first | with_reducible assumption | omega) (by decide) (by decide) (by decide) (by decide) (show 0 ≤ x225.toInt by first | with_reducible assumption | omega) (show x225.toInt ≤ 999999 by first | with_reducible assumption | omega) (show 0 ≤ x107.toInt by first | with_reducible assumption | omega) (show x107.toInt ≤ 9 by first | with_reducible assumption | omega) (show 0 ≤ x109.toInt by first | with_reducible assumption | omega) (show x109.toInt ≤ 9 by first | with_reducible assumption | omega) (Nat.lt_succ_self _) hw hT hF c240 c241 c235 c242 c238 c239 (lv_sub hl [2, 3, 4, 1, 0] rfl)
        · refine va_mmax hx hb (hC.2.2.1.trans hl.1.symm) hC.2.2.2.1 (hC.2.2.2.2 _ (List.mem_cons_of_mem _ uw_43_0)) (hC.2.2.2.2 _ (List.mem_cons_of_mem _ uw_14_15)) (hC.2.2.2.2 _ (List.mem_cons_of_mem _ uw_14_16)) (hC.2.2.2.2 _ (List.mem_cons_of_mem _ uw_14_17)) (Nat.le_of_ble_eq_true rfl) (Nat.le_of_ble_eq_true rfl) (Nat.zero_le _) (Nat.zero_le _) dX1_lookAround_96 ?_
          refine lv_topi (fun x243 ex243 => ?_)
          have bx243 : (x243.toInt = (0 : Int) ∧ (-1 : Int) ≤ (0 : Int)) ∨ (x243.toInt = (-1 : Int) ∧ (0 : Int) < (-1 : Int)) := by rw [ex243]; exact wk_max
          refine tk_puti hC hK hw hT hinX1 tyX1_ok nmX1 kC_at149 (by decide) rfl rfl 8 (by decide) (List.mem_cons_of_mem _ uw_43_1) rfl rfl rfl rfl (wk_i32 x243).1 (wk_i32 x243).2 dX1_lookAround_99 (fun H locs w244 hw hT k246 c245 => ?_)
          have hF := hF.put kC_at149 (k := 8) (by decide) k246
          have c247 := k246.gi (Or.inr (by decide)) c220
          have c248 := k246.gi (Or.inr (by decide)) c221
          have c249 := k246.gi (Or.inr (by decide)) c222
          have c250 := k246.gi (Or.inr (by decide)) c223
          have c251 := k246.gi (Or.inr (by decide)) c224
          refine lv_aload_n hx hb dX1_lookAround_102 rfl (lv_at hl 1 rfl) ?_
          refine lv_iconst (v := (-1)) hx hb dX1_lookAround_103 (by decide) ?_
          refine tk_puti hC hK hw hT hinX1 tyX1_ok nmX1 kC_at149 (by decide) rfl rfl 7 (by decide) (List.mem_cons_of_mem _ uw_42_7) rfl rfl rfl rfl (by decide) (by decide) dX1_lookAround_104 (fun H locs w252 hw hT k254 c253 => ?_)
          have hF := hF.put kC_at149 (k := 7) (by decide) k254
          have c255 := k254.gi (Or.inr (by decide)) c247
          have c256 := k254.gi (Or.inr (by decide)) c248
          have c257 := k254.gi (Or.inr (by decide)) c249
          have c258 := k254.gi (Or.inr (by decide)) c250
          have c259 := k254.gi (Or.inr (by decide)) c251
          have c260 := k254.gi (Or.inr (by decide)) c245
          refine lv_iconst (v := 0) hx hb dX1_lookAround_107 (by decide) ?_
          refine lv_istore (lv' := [(4, .int 0), (3, .int x105), (0, .ref (ad 149)), (1, .ref (ad q1_)), (2, .int 1)]) hx hb dX1_lookAround_108 hl (by decide) rfl (fun ls hl => ?_)
          exact L110 ((12 - (0 : Int)).toNat + 1) x105 0 r111 0 (-1) x243 x107 x109 H locs ls w252 (show 0 ≤ x105.toInt by first | with_reducible assumption | omega) (show x105.toInt ≤ 10 by first | with_reducible assumption | omega) (by decide) (by decide) (show (-1) ≤ r111.toInt by first | with_reducible assumption | omega) (show r111.toInt ≤ 11 by first | with_reducible assumption | omega) (by decide) (by decide) (by decide) (by decide) (show 0 ≤ x243.toInt by first | with_reducible assumption | omega) (show x243.toInt ≤ 999999 by first | with_reducible assumption | omega) (show 0 ≤ x107.toInt by first | with_reducible assumption | omega) (show x107.toInt ≤ 9 by first | with_reducible assumption | omega) (show 0 ≤ x109.toInt by first | with_reducible assumption | omega) (show x109.toInt ≤ 9 by first | with_reducible assumption | omega) (Nat.lt_succ_self _) hw hT hF c258 c259 c253 c260 c256 c257 (lv_sub hl [2, 3, 4, 1, 0] rfl)
      · refine lv_if_eq (tgt := 74) hx hb dX1_lookAround_67 (by decide) (fun c => absurd c (by decide)) (fun _ => ?_)
        refine lv_iconst (v := 1) hx hb dX1_lookAround_70 (by decide) ?_
        refine lv_goto (tgt := 75) hx hb dX1_lookAround_71 (by decide) ?_
        refine tk_putz hC hK hw hT hinX1 tyX1_ok nmX1 kC_at149 (by decide) rfl rfl 6 (by decide) (List.mem_cons_of_mem _ uw_42_5) rfl rfl rfl rfl (by decide) (by decide) dX1_lookAround_75 (fun H locs w261 hw hT k263 c262 => ?_)
        have hF := hF.put kC_at149 (k := 6) (by decide) k263
        have c264 := k263.gi (Or.inr (by decide)) c198
        have c265 := k263.gi (Or.inr (by decide)) c199
        have c266 := k263.gi (Or.inr (by decide)) c200
        have c267 := k263.gi (Or.inr (by decide)) c201
        have c268 := k263.gi (Or.inr (by decide)) c196
        refine lv_aload_n hx hb dX1_lookAround_78 rfl (lv_at hl 1 rfl) ?_
        refine lv_iconst (v := 0) hx hb dX1_lookAround_79 (by decide) ?_
        refine lv_aload_n hx hb dX1_lookAround_80 rfl (lv_at hl 1 rfl) ?_
        refine tk_getA hC hK hw hT hinX1 kC_at149 (by decide) rfl 1 (by decide) (List.mem_cons_of_mem _ uw_5_1) rfl rfl dX1_lookAround_81 ?_
        refine lv_iload_n hx hb dX1_lookAround_84 rfl (lv_at hl 0 rfl) ?_
        refine lv_aload_n hx hb dX1_lookAround_85 rfl (lv_at hl 2 rfl) ?_
        refine tk_geti hC hK hw hT hinX9 hkq1_ (by decide) rfl 0 (by decide) (List.mem_cons_of_mem _ uw_42_22) rfl rfl dX1_lookAround_86 (fun x269 c270 rx269 tx269 => ?_)
        refine wk_top x107 (c270.symm.trans c265) ?_
        refine lv_aload_n hx hb dX1_lookAround_89 rfl (lv_at hl 2 rfl) ?_
        refine tk_geti hC hK hw hT hinX9 hkq1_ (by decide) rfl 1 (by decide) (List.mem_cons_of_mem _ uw_42_23) rfl rfl dX1_lookAround_90 (fun x271 c272 rx271 tx271 => ?_)
        refine wk_top x109 (c272.symm.trans c266) ?_
        refine tk_Vi hC hK hw hT hA hE hSR kC_at145 (by decide) rfl (k_X0_hoursBy_1 l adK adV dC dI cy ad B hB0 (Int.le_trans hB1 (by decide)) qr s1   x105 (show 0 ≤ x105.toInt by first | with_reducible assumption | omega) (show x105.toInt ≤ 3 by first | with_reducible assumption | omega) x107 (show 0 ≤ x107.toInt by first | with_reducible assumption | omega) (show x107.toInt ≤ 9 by first | with_reducible assumption | omega) x109 (show 0 ≤ x109.toInt by first | with_reducible assumption | omega) (show x109.toInt ≤ 9 by first | with_reducible assumption | omega) w261 H.size hT ) (cwV 3 hC.2.2.2.2 uV_RX1_114 rfl rfl rfl (by decide +kernel) ⟨Nat.le_of_ble_eq_true rfl, Nat.le_of_ble_eq_true rfl⟩) rfl hl.1 rfl (Nat.le_of_ble_eq_true rfl) dX1_lookAround_93 (fun r273 w275 H locs hp274 hw => ?_)
        obtain ⟨hT, k276, hg279⟩ := hp274
        have hF := hF.tr k276 (by decide)
        have c280 := k276.gi hkq1_ (by decide) c264
        have c281 := k276.gi hkq1_ (by decide) c265
        have c282 := k276.gi hkq1_ (by decide) c266
        have c283 := k276.gi kC_at149 (by decide) c267
        have c284 := k276.gi kC_at149 (by decide) c268
        have c285 := k276.gi kC_at149 (by decide) c262
        rcases hg279 with ⟨g277, g278⟩ | rfl
        · refine va_mmax hx hb (hC.2.2.1.trans hl.1.symm) hC.2.2.2.1 (hC.2.2.2.2 _ (List.mem_cons_of_mem _ uw_43_0)) (hC.2.2.2.2 _ (List.mem_cons_of_mem _ uw_14_15)) (hC.2.2.2.2 _ (List.mem_cons_of_mem _ uw_14_16)) (hC.2.2.2.2 _ (List.mem_cons_of_mem _ uw_14_17)) (Nat.le_of_ble_eq_true rfl) (Nat.le_of_ble_eq_true rfl) (Nat.zero_le _) (Nat.zero_le _) dX1_lookAround_96 ?_
          refine lv_topi (fun x286 ex286 => ?_)
          have bx286 : (x286.toInt = (0 : Int) ∧ r273.toInt ≤ (0 : Int)) ∨ (x286.toInt = r273.toInt ∧ (0 : Int) < r273.toInt) := by rw [ex286]; exact wk_max
          refine tk_puti hC hK hw hT hinX1 tyX1_ok nmX1 kC_at149 (by decide) rfl rfl 8 (by decide) (List.mem_cons_of_mem _ uw_43_1) rfl rfl rfl rfl (wk_i32 x286).1 (wk_i32 x286).2 dX1_lookAround_99 (fun H locs w287 hw hT k289 c288 => ?_)
          have hF := hF.put kC_at149 (k := 8) (by decide) k289
          have c290 := k289.gi (Or.inr (by decide)) c280
          have c291 := k289.gi (Or.inr (by decide)) c281
          have c292 := k289.gi (Or.inr (by decide)) c282
          have c293 := k289.gi (Or.inr (by decide)) c283
          have c294 := k289.gi (Or.inr (by decide)) c284
          have c295 := k289.gi (Or.inr (by decide)) c285
          refine lv_aload_n hx hb dX1_lookAround_102 rfl (lv_at hl 1 rfl) ?_
          refine lv_iconst (v := (-1)) hx hb dX1_lookAround_103 (by decide) ?_
          refine tk_puti hC hK hw hT hinX1 tyX1_ok nmX1 kC_at149 (by decide) rfl rfl 7 (by decide) (List.mem_cons_of_mem _ uw_42_7) rfl rfl rfl rfl (by decide) (by decide) dX1_lookAround_104 (fun H locs w296 hw hT k298 c297 => ?_)
          have hF := hF.put kC_at149 (k := 7) (by decide) k298
          have c299 := k298.gi (Or.inr (by decide)) c290
          have c300 := k298.gi (Or.inr (by decide)) c291
          have c301 := k298.gi (Or.inr (by decide)) c292
          have c302 := k298.gi (Or.inr (by decide)) c293
          have c303 := k298.gi (Or.inr (by decide)) c294
          have c304 := k298.gi (Or.inr (by decide)) c295
          have c305 := k298.gi (Or.inr (by decide)) c288
          refine lv_iconst (v := 0) hx hb dX1_lookAround_107 (by decide) ?_
          refine lv_istore (lv' := [(4, .int 0), (3, .int x105), (0, .ref (ad 149)), (1, .ref (ad q1_)), (2, .int 1)]) hx hb dX1_lookAround_108 hl (by decide) rfl (fun ls hl => ?_)
          exact L110 ((12 - (0 : Int)).toNat + 1) x105 0 r111 1 (-1) x286 x107 x109 H locs ls w296 (show 0 ≤ x105.toInt by first | with_reducible assumption | omega) (show x105.toInt ≤ 10 by first | with_reducible assumption | omega) (by decide) (by decide) (show (-1) ≤ r111.toInt by first | with_reducible assumption | omega) (show r111.toInt ≤ 11 by first | with_reducible assumption | omega) (by decide) (by decide) (by decide) (by decide) (show 0 ≤ x286.toInt by first | with_reducible assumption | omega) (show x286.toInt ≤ 999999 by first | with_reducible assumption | omega) (show 0 ≤ x107.toInt by first | with_reducible assumption | omega) (show x107.toInt ≤ 9 by first | with_reducible assumption | omega) (show 0 ≤ x109.toInt by first | with_reducible assumption | omega) (show x109.toInt ≤ 9 by first | with_reducible assumption | omega) (Nat.lt_succ_self _) hw hT hF c302 c304 c297 c305 c300 c301 (lv_sub hl [2, 3, 4, 1, 0] rfl)
        · refine va_mmax hx hb (hC.2.2.1.trans hl.1.symm) hC.2.2.2.1 (hC.2.2.2.2 _ (List.mem_cons_of_mem _ uw_43_0)) (hC.2.2.2.2 _ (List.mem_cons_of_mem _ uw_14_15)) (hC.2.2.2.2 _ (List.mem_cons_of_mem _ uw_14_16)) (hC.2.2.2.2 _ (List.mem_cons_of_mem _ uw_14_17)) (Nat.le_of_ble_eq_true rfl) (Nat.le_of_ble_eq_true rfl) (Nat.zero_le _) (Nat.zero_le _) dX1_lookAround_96 ?_
          refine lv_topi (fun x306 ex306 => ?_)
          have bx306 : (x306.toInt = (0 : Int) ∧ (-1 : Int) ≤ (0 : Int)) ∨ (x306.toInt = (-1 : Int) ∧ (0 : Int) < (-1 : Int)) := by rw [ex306]; exact wk_max
          refine tk_puti hC hK hw hT hinX1 tyX1_ok nmX1 kC_at149 (by decide) rfl rfl 8 (by decide) (List.mem_cons_of_mem _ uw_43_1) rfl rfl rfl rfl (wk_i32 x306).1 (wk_i32 x306).2 dX1_lookAround_99 (fun H locs w307 hw hT k309 c308 => ?_)
          have hF := hF.put kC_at149 (k := 8) (by decide) k309
          have c310 := k309.gi (Or.inr (by decide)) c280
          have c311 := k309.gi (Or.inr (by decide)) c281
          have c312 := k309.gi (Or.inr (by decide)) c282
          have c313 := k309.gi (Or.inr (by decide)) c283
          have c314 := k309.gi (Or.inr (by decide)) c284
          have c315 := k309.gi (Or.inr (by decide)) c285
          refine lv_aload_n hx hb dX1_lookAround_102 rfl (lv_at hl 1 rfl) ?_
          refine lv_iconst (v := (-1)) hx hb dX1_lookAround_103 (by decide) ?_
          refine tk_puti hC hK hw hT hinX1 tyX1_ok nmX1 kC_at149 (by decide) rfl rfl 7 (by decide) (List.mem_cons_of_mem _ uw_42_7) rfl rfl rfl rfl (by decide) (by decide) dX1_lookAround_104 (fun H locs w316 hw hT k318 c317 => ?_)
          have hF := hF.put kC_at149 (k := 7) (by decide) k318
          have c319 := k318.gi (Or.inr (by decide)) c310
          have c320 := k318.gi (Or.inr (by decide)) c311
          have c321 := k318.gi (Or.inr (by decide)) c312
          have c322 := k318.gi (Or.inr (by decide)) c313
          have c323 := k318.gi (Or.inr (by decide)) c314
          have c324 := k318.gi (Or.inr (by decide)) c315
          have c325 := k318.gi (Or.inr (by decide)) c308
          refine lv_iconst (v := 0) hx hb dX1_lookAround_107 (by decide) ?_
          refine lv_istore (lv' := [(4, .int 0), (3, .int x105), (0, .ref (ad 149)), (1, .ref (ad q1_)), (2, .int 1)]) hx hb dX1_lookAround_108 hl (by decide) rfl (fun ls hl => ?_)
          exact L110 ((12 - (0 : Int)).toNat + 1) x105 0 r111 1 (-1) x306 x107 x109 H locs ls w316 (show 0 ≤ x105.toInt by first | with_reducible assumption | omega) (show x105.toInt ≤ 10 by first | with_reducible assumption | omega) (by decide) (by decide) (show (-1) ≤ r111.toInt by first | with_reducible assumption | omega) (show r111.toInt ≤ 11 by first | with_reducible assumption | omega) (by decide) (by decide) (by decide) (by decide) (show 0 ≤ x306.toInt by first | with_reducible assumption | omega) (show x306.toInt ≤ 999999 by first | with_reducible assumption | omega) (show 0 ≤ x107.toInt by first | with_reducible assumption | omega) (show x107.toInt ≤ 9 by first | with_reducible assumption | omega) (show 0 ≤ x109.toInt by first | with_reducible assumption | omega) (show x109.toInt ≤ 9 by first | with_reducible assumption | omega) (Nat.lt_succ_self _) hw hT hF c322 c324 c317 c325 c320 c321 (lv_sub hl [2, 3, 4, 1, 0] rfl)
  refine lv_aload_n hx hb dX1_lookAround_0 rfl (lv_at hl 1 rfl) ?_
  refine tk_Vi hC hK hw hT hA hE hSR hkq1_ (by decide) rfl (k_X9_askedToday_1 l adK adV dC dI cy ad B hB0 (Int.le_trans hB1 (by decide)) qr s1   q1_ hkq1_ w0 s.heap.size hT ) (cwV 0 hC.2.2.2.2 uV_RX1_85 rfl rfl rfl (by decide +kernel) ⟨Nat.le_of_ble_eq_true rfl, Nat.le_of_ble_eq_true rfl⟩) rfl hl.1 rfl (Nat.le_of_ble_eq_true rfl) dX1_lookAround_1 (fun r326 w328 H locs hp327 hw => ?_)
  obtain ⟨hT, k329, hg330⟩ := hp327
  have hF := hF.tr k329 (by decide)
  rcases hg330 with rfl | rfl
  · refine lv_if_eq (tgt := 24) hx hb dX1_lookAround_4 (by decide) (fun _ => ?_) (fun c => absurd (by decide) c)
    exact J24  H locs ls w328   hw hT hF  (lv_sub hl [0, 1, 2] rfl)
  · refine lv_if_eq (tgt := 24) hx hb dX1_lookAround_4 (by decide) (fun c => absurd c (by decide)) (fun _ => ?_)
    refine lv_aload_n hx hb dX1_lookAround_7 rfl (lv_at hl 0 rfl) ?_
    refine tk_geti hC hK hw hT hinX1 kC_at149 (by decide) rfl 9 (by decide) (List.mem_cons_of_mem _ uw_42_20) rfl rfl dX1_lookAround_8 (fun x331 c332 rx331 tx331 => ?_)
    refine lv_if_ne (tgt := 24) hx hb dX1_lookAround_11 (by decide) (fun c333 => ?_) (fun c333 => ?_)
    · have c333 : ¬ x331.toInt = (0 : Int) := wk_eqF c333
      exact J24  H locs ls w328   hw hT hF  (lv_sub hl [0, 1, 2] rfl)
    · have c333 : x331.toInt = (0 : Int) := wk_eq.mp c333
      refine lv_aload_n hx hb dX1_lookAround_14 rfl (lv_at hl 1 rfl) ?_
      refine tk_Vl hC hK hw hT hA hE hSR hkq1_ (by decide) rfl (k_X9_dayNow_1 l adK adV dC dI cy ad B hB0 (Int.le_trans hB1 (by decide)) qr s1   q1_ hkq1_ w328 H.size hT ) (cwV 0 hC.2.2.2.2 uV_RX1_68 rfl rfl rfl (by decide +kernel) ⟨Nat.le_of_ble_eq_true rfl, Nat.le_of_ble_eq_true rfl⟩) rfl hl.1 rfl (Nat.le_of_ble_eq_true rfl) dX1_lookAround_15 (fun r334 w336 H locs hp335 hw => ?_)
      obtain ⟨hT, k337, hg340⟩ := hp335
      have hF := hF.tr k337 (by decide)
      have c341 := k337.gi kC_at149 (by decide) c332
      obtain ⟨g338, g339⟩ := hg340
      refine tk_Si hC hK hw hT hA hE hSR (k_X0_ofWeekday_1 l adK adV dC dI cy ad B hB0 (Int.le_trans hB1 (by decide)) qr s1   r334 (show 0 ≤ r334.toInt by first | with_reducible assumption | omega) (show r334.toInt ≤ 96076792050570581 by first | with_reducible assumption | omega) w336 H.size hT ) (va_cwS 1 hC.2.2.2.2 uS_RX1_91 rfl rfl rfl (by decide +kernel) ⟨Nat.le_of_ble_eq_true rfl, Nat.le_of_ble_eq_true rfl⟩) rfl hl.1 rfl (Nat.le_of_ble_eq_true rfl) dX1_lookAround_18 (fun r342 w344 H locs hp343 hw => ?_)
      obtain ⟨hT, k345, hg348⟩ := hp343
      have hF := hF.tr k345 (by decide)
      have c349 := k345.gi kC_at149 (by decide) c341
      obtain ⟨g346, g347⟩ := hg348
      refine lv_goto (tgt := 28) hx hb dX1_lookAround_21 (by decide) ?_
      refine lv_istore_n (lv' := [(3, .int r342), (0, .ref (ad 149)), (1, .ref (ad q1_)), (2, .int 1)]) hx hb dX1_lookAround_28 rfl hl (by decide) rfl (fun ls hl => ?_)
      refine lv_aload_n hx hb dX1_lookAround_29 rfl (lv_at hl 1 rfl) ?_
      refine lv_aload_n hx hb dX1_lookAround_30 rfl (lv_at hl 1 rfl) ?_
      refine tk_getA hC hK hw hT hinX1 kC_at149 (by decide) rfl 1 (by decide) (List.mem_cons_of_mem _ uw_5_1) rfl rfl dX1_lookAround_31 ?_
      refine lv_iload_n hx hb dX1_lookAround_34 rfl (lv_at hl 0 rfl) ?_
      refine lv_aload_n hx hb dX1_lookAround_35 rfl (lv_at hl 2 rfl) ?_
      refine tk_geti hC hK hw hT hinX9 hkq1_ (by decide) rfl 0 (by decide) (List.mem_cons_of_mem _ uw_42_22) rfl rfl dX1_lookAround_36 (fun x350 c351 rx350 tx350 => ?_)
      refine lv_aload_n hx hb dX1_lookAround_39 rfl (lv_at hl 2 rfl) ?_
      refine tk_geti hC hK hw hT hinX9 hkq1_ (by decide) rfl 1 (by decide) (List.mem_cons_of_mem _ uw_42_23) rfl rfl dX1_lookAround_40 (fun x352 c353 rx352 tx352 => ?_)
      refine tk_Vi hC hK hw hT hA hE hSR kC_at145 (by decide) rfl (k_X0_streetBy_2 l adK adV dC dI cy ad B hB0 (Int.le_trans hB1 (by decide)) qr s1   r342 (show 4 ≤ r342.toInt by first | with_reducible assumption | omega) (show r342.toInt ≤ 10 by first | with_reducible assumption | omega) x350 (show 0 ≤ x350.toInt by first | with_reducible assumption | omega) (show x350.toInt ≤ 9 by first | with_reducible assumption | omega) x352 (show 0 ≤ x352.toInt by first | with_reducible assumption | omega) (show x352.toInt ≤ 9 by first | with_reducible assumption | omega) w344 H.size hT ) (cwV 3 hC.2.2.2.2 uV_RX1_106 rfl rfl rfl (by decide +kernel) ⟨Nat.le_of_ble_eq_true rfl, Nat.le_of_ble_eq_true rfl⟩) rfl hl.1 rfl (Nat.le_of_ble_eq_true rfl) dX1_lookAround_43 (fun r354 w356 H locs hp355 hw => ?_)
      obtain ⟨hT, k357, hg360⟩ := hp355
      have hF := hF.tr k357 (by decide)
      have c361 := k357.gi kC_at149 (by decide) c349
      have c362 := k357.gi hkq1_ (by decide) c351
      have c363 := k357.gi hkq1_ (by decide) c353
      obtain ⟨g358, g359⟩ := hg360
      refine tk_puti hC hK hw hT hinX1 tyX1_ok nmX1 kC_at149 (by decide) rfl rfl 5 (by decide) (List.mem_cons_of_mem _ uw_42_6) rfl rfl rfl rfl (show (-1) ≤ r354.toInt by first | with_reducible assumption | omega) (show r354.toInt ≤ 11 by first | with_reducible assumption | omega) dX1_lookAround_46 (fun H locs w364 hw hT k366 c365 => ?_)
      have hF := hF.put kC_at149 (k := 5) (by decide) k366
      have c367 := k366.gi (Or.inr (by decide)) c361
      have c368 := k366.gi (Or.inr (by decide)) c362
      have c369 := k366.gi (Or.inr (by decide)) c363
      refine lv_aload_n hx hb dX1_lookAround_49 rfl (lv_at hl 1 rfl) ?_
      refine lv_aload_n hx hb dX1_lookAround_50 rfl (lv_at hl 1 rfl) ?_
      refine tk_geti hC hK hw hT hinX1 kC_at149 (by decide) rfl 5 (by decide) (List.mem_cons_of_mem _ uw_42_6) rfl rfl dX1_lookAround_51 (fun x370 c371 rx370 tx370 => ?_)
      refine wk_top r354 (c371.symm.trans c365) ?_
      refine lv_iconst (v := (-1)) hx hb dX1_lookAround_54 (by decide) ?_
      refine lv_icmp_eq (tgt := 74) hx hb dX1_lookAround_55 (by decide) (fun c372 => ?_) (fun c372 => ?_)
      · have c372 : r354.toInt = (-1 : Int) := wk_eq.mp c372
        refine lv_iconst (v := 0) hx hb dX1_lookAround_74 (by decide) ?_
        refine tk_putz hC hK hw hT hinX1 tyX1_ok nmX1 kC_at149 (by decide) rfl rfl 6 (by decide) (List.mem_cons_of_mem _ uw_42_5) rfl rfl rfl rfl (by decide) (by decide) dX1_lookAround_75 (fun H locs w373 hw hT k375 c374 => ?_)
        have hF := hF.put kC_at149 (k := 6) (by decide) k375
        have c376 := k375.gi (Or.inr (by decide)) c367
        have c377 := k375.gi (Or.inr (by decide)) c368
        have c378 := k375.gi (Or.inr (by decide)) c369
        have c379 := k375.gi (Or.inr (by decide)) c365
        refine lv_aload_n hx hb dX1_lookAround_78 rfl (lv_at hl 1 rfl) ?_
        refine lv_iconst (v := 0) hx hb dX1_lookAround_79 (by decide) ?_
        refine lv_aload_n hx hb dX1_lookAround_80 rfl (lv_at hl 1 rfl) ?_
        refine tk_getA hC hK hw hT hinX1 kC_at149 (by decide) rfl 1 (by decide) (List.mem_cons_of_mem _ uw_5_1) rfl rfl dX1_lookAround_81 ?_
        refine lv_iload_n hx hb dX1_lookAround_84 rfl (lv_at hl 0 rfl) ?_
        refine lv_aload_n hx hb dX1_lookAround_85 rfl (lv_at hl 2 rfl) ?_
        refine tk_geti hC hK hw hT hinX9 hkq1_ (by decide) rfl 0 (by decide) (List.mem_cons_of_mem _ uw_42_22) rfl rfl dX1_lookAround_86 (fun x380 c381 rx380 tx380 => ?_)
        refine wk_top x350 (c381.symm.trans c377) ?_
        refine lv_aload_n hx hb dX1_lookAround_89 rfl (lv_at hl 2 rfl) ?_
        refine tk_geti hC hK hw hT hinX9 hkq1_ (by decide) rfl 1 (by decide) (List.mem_cons_of_mem _ uw_42_23) rfl rfl dX1_lookAround_90 (fun x382 c383 rx382 tx382 => ?_)
        refine wk_top x352 (c383.symm.trans c378) ?_
        refine tk_Vi hC hK hw hT hA hE hSR kC_at145 (by decide) rfl (k_X0_hoursBy_2 l adK adV dC dI cy ad B hB0 (Int.le_trans hB1 (by decide)) qr s1   r342 (show 4 ≤ r342.toInt by first | with_reducible assumption | omega) (show r342.toInt ≤ 10 by first | with_reducible assumption | omega) x350 (show 0 ≤ x350.toInt by first | with_reducible assumption | omega) (show x350.toInt ≤ 9 by first | with_reducible assumption | omega) x352 (show 0 ≤ x352.toInt by first | with_reducible assumption | omega) (show x352.toInt ≤ 9 by first | with_reducible assumption | omega) w373 H.size hT ) (cwV 3 hC.2.2.2.2 uV_RX1_114 rfl rfl rfl (by decide +kernel) ⟨Nat.le_of_ble_eq_true rfl, Nat.le_of_ble_eq_true rfl⟩) rfl hl.1 rfl (Nat.le_of_ble_eq_true rfl) dX1_lookAround_93 (fun r384 w386 H locs hp385 hw => ?_)
        obtain ⟨hT, k387, hg390⟩ := hp385
        have hF := hF.tr k387 (by decide)
        have c391 := k387.gi kC_at149 (by decide) c376
        have c392 := k387.gi hkq1_ (by decide) c377
        have c393 := k387.gi hkq1_ (by decide) c378
        have c394 := k387.gi kC_at149 (by decide) c379
        have c395 := k387.gi kC_at149 (by decide) c374
        rcases hg390 with ⟨g388, g389⟩ | rfl
        · refine va_mmax hx hb (hC.2.2.1.trans hl.1.symm) hC.2.2.2.1 (hC.2.2.2.2 _ (List.mem_cons_of_mem _ uw_43_0)) (hC.2.2.2.2 _ (List.mem_cons_of_mem _ uw_14_15)) (hC.2.2.2.2 _ (List.mem_cons_of_mem _ uw_14_16)) (hC.2.2.2.2 _ (List.mem_cons_of_mem _ uw_14_17)) (Nat.le_of_ble_eq_true rfl) (Nat.le_of_ble_eq_true rfl) (Nat.zero_le _) (Nat.zero_le _) dX1_lookAround_96 ?_
          refine lv_topi (fun x396 ex396 => ?_)
          have bx396 : (x396.toInt = (0 : Int) ∧ r384.toInt ≤ (0 : Int)) ∨ (x396.toInt = r384.toInt ∧ (0 : Int) < r384.toInt) := by rw [ex396]; exact wk_max
          refine tk_puti hC hK hw hT hinX1 tyX1_ok nmX1 kC_at149 (by decide) rfl rfl 8 (by decide) (List.mem_cons_of_mem _ uw_43_1) rfl rfl rfl rfl (wk_i32 x396).1 (wk_i32 x396).2 dX1_lookAround_99 (fun H locs w397 hw hT k399 c398 => ?_)
          have hF := hF.put kC_at149 (k := 8) (by decide) k399
          have c400 := k399.gi (Or.inr (by decide)) c391
          have c401 := k399.gi (Or.inr (by decide)) c392
          have c402 := k399.gi (Or.inr (by decide)) c393
          have c403 := k399.gi (Or.inr (by decide)) c394
          have c404 := k399.gi (Or.inr (by decide)) c395
          refine lv_aload_n hx hb dX1_lookAround_102 rfl (lv_at hl 1 rfl) ?_
          refine lv_iconst (v := (-1)) hx hb dX1_lookAround_103 (by decide) ?_
          refine tk_puti hC hK hw hT hinX1 tyX1_ok nmX1 kC_at149 (by decide) rfl rfl 7 (by decide) (List.mem_cons_of_mem _ uw_42_7) rfl rfl rfl rfl (by decide) (by decide) dX1_lookAround_104 (fun H locs w405 hw hT k407 c406 => ?_)
          have hF := hF.put kC_at149 (k := 7) (by decide) k407
          have c408 := k407.gi (Or.inr (by decide)) c400
          have c409 := k407.gi (Or.inr (by decide)) c401
          have c410 := k407.gi (Or.inr (by decide)) c402
          have c411 := k407.gi (Or.inr (by decide)) c403
          have c412 := k407.gi (Or.inr (by decide)) c404
          have c413 := k407.gi (Or.inr (by decide)) c398
          refine lv_iconst (v := 0) hx hb dX1_lookAround_107 (by decide) ?_
          refine lv_istore (lv' := [(4, .int 0), (3, .int r342), (0, .ref (ad 149)), (1, .ref (ad q1_)), (2, .int 1)]) hx hb dX1_lookAround_108 hl (by decide) rfl (fun ls hl => ?_)
          exact L110 ((12 - (0 : Int)).toNat + 1) r342 0 r354 0 (-1) x396 x350 x352 H locs ls w405 (show 0 ≤ r342.toInt by first | with_reducible assumption | omega) (show r342.toInt ≤ 10 by first | with_reducible assumption | omega) (by decide) (by decide) (show (-1) ≤ r354.toInt by first | with_reducible assumption | omega) (show r354.toInt ≤ 11 by first | with_reducible assumption | omega) (by decide) (by decide) (by decide) (by decide) (show 0 ≤ x396.toInt by first | with_reducible assumption | omega) (show x396.toInt ≤ 999999 by first | with_reducible assumption | omega) (show 0 ≤ x350.toInt by first | with_reducible assumption | omega) (show x350.toInt ≤ 9 by first | with_reducible assumption | omega) (show 0 ≤ x352.toInt by first | with_reducible assumption | omega) (show x352.toInt ≤ 9 by first | with_reducible assumption | omega) (Nat.lt_succ_self _) hw hT hF c411 c412 c406 c413 c409 c410 (lv_sub hl [2, 3, 4, 1, 0] rfl)
        · refine va_mmax hx hb (hC.2.2.1.trans hl.1.symm) hC.2.2.2.1 (hC.2.2.2.2 _ (List.mem_cons_of_mem _ uw_43_0)) (hC.2.2.2.2 _ (List.mem_cons_of_mem _ uw_14_15)) (hC.2.2.2.2 _ (List.mem_cons_of_mem _ uw_14_16)) (hC.2.2.2.2 _ (List.mem_cons_of_mem _ uw_14_17)) (Nat.le_of_ble_eq_true rfl) (Nat.le_of_ble_eq_true rfl) (Nat.zero_le _) (Nat.zero_le _) dX1_lookAround_96 ?_
          refine lv_topi (fun x414 ex414 => ?_)
          have bx414 : (x414.toInt = (0 : Int) ∧ (-1 : Int) ≤ (0 : Int)) ∨ (x414.toInt = (-1 : Int) ∧ (0 : Int) < (-1 : Int)) := by rw [ex414]; exact wk_max
          refine tk_puti hC hK hw hT hinX1 tyX1_ok nmX1 kC_at149 (by decide) rfl rfl 8 (by decide) (List.mem_cons_of_mem _ uw_43_1) rfl rfl rfl rfl (wk_i32 x414).1 (wk_i32 x414).2 dX1_lookAround_99 (fun H locs w415 hw hT k417 c416 => ?_)
          have hF := hF.put kC_at149 (k := 8) (by decide) k417
          have c418 := k417.gi (Or.inr (by decide)) c391
          have c419 := k417.gi (Or.inr (by decide)) c392
          have c420 := k417.gi (Or.inr (by decide)) c393
          have c421 := k417.gi (Or.inr (by decide)) c394
          have c422 := k417.gi (Or.inr (by decide)) c395
          refine lv_aload_n hx hb dX1_lookAround_102 rfl (lv_at hl 1 rfl) ?_
          refine lv_iconst (v := (-1)) hx hb dX1_lookAround_103 (by decide) ?_
          refine tk_puti hC hK hw hT hinX1 tyX1_ok nmX1 kC_at149 (by decide) rfl rfl 7 (by decide) (List.mem_cons_of_mem _ uw_42_7) rfl rfl rfl rfl (by decide) (by decide) dX1_lookAround_104 (fun H locs w423 hw hT k425 c424 => ?_)
          have hF := hF.put kC_at149 (k := 7) (by decide) k425
          have c426 := k425.gi (Or.inr (by decide)) c418
          have c427 := k425.gi (Or.inr (by decide)) c419
          have c428 := k425.gi (Or.inr (by decide)) c420
          have c429 := k425.gi (Or.inr (by decide)) c421
          have c430 := k425.gi (Or.inr (by decide)) c422
          have c431 := k425.gi (Or.inr (by decide)) c416
          refine lv_iconst (v := 0) hx hb dX1_lookAround_107 (by decide) ?_
          refine lv_istore (lv' := [(4, .int 0), (3, .int r342), (0, .ref (ad 149)), (1, .ref (ad q1_)), (2, .int 1)]) hx hb dX1_lookAround_108 hl (by decide) rfl (fun ls hl => ?_)
          exact L110 ((12 - (0 : Int)).toNat + 1) r342 0 r354 0 (-1) x414 x350 x352 H locs ls w423 (show 0 ≤ r342.toInt by first | with_reducible assumption | omega) (show r342.toInt ≤ 10 by first | with_reducible assumption | omega) (by decide) (by decide) (show (-1) ≤ r354.toInt by first | with_reducible assumption | omega) (show r354.toInt ≤ 11 by first | with_reducible assumption | omega) (by decide) (by decide) (by decide) (by decide) (show 0 ≤ x414.toInt by first | with_reducible assumption | omega) (show x414.toInt ≤ 999999 by first | with_reducible assumption | omega) (show 0 ≤ x350.toInt by first | with_reducible assumption | omega) (show x350.toInt ≤ 9 by first | with_reducible assumption | omega) (show 0 ≤ x352.toInt by first | with_reducible assumption | omega) (show x352.toInt ≤ 9 by first | with_reducible assumption | omega) (Nat.lt_succ_self _) hw hT hF c429 c430 c424 c431 c427 c428 (lv_sub hl [2, 3, 4, 1, 0] rfl)
      · have c372 : ¬ r354.toInt = (-1 : Int) := wk_eqF c372
        refine lv_aload_n hx hb dX1_lookAround_58 rfl (lv_at hl 1 rfl) ?_
        refine lv_aload_n hx hb dX1_lookAround_59 rfl (lv_at hl 2 rfl) ?_
        refine lv_aload_n hx hb dX1_lookAround_60 rfl (lv_at hl 1 rfl) ?_
        refine tk_geti hC hK hw hT hinX1 kC_at149 (by decide) rfl 5 (by decide) (List.mem_cons_of_mem _ uw_42_6) rfl rfl dX1_lookAround_61 (fun x432 c433 rx432 tx432 => ?_)
        refine wk_top r354 (c433.symm.trans c365) ?_
        refine tk_Vi hC hK hw hT hA hE hSR kC_at149 (by decide) rfl (k_X1_isOpenFor_1 l adK adV dC dI cy ad B hB0 (Int.le_trans hB1 (by decide)) qr s1   q1_ hkq1_ r354 (show 0 ≤ r354.toInt by first | with_reducible assumption | omega) (show r354.toInt ≤ 11 by first | with_reducible assumption | omega) w364 H.size hT ) (cwV 2 hC.2.2.2.2 uV_RX1_110 rfl rfl rfl (by decide +kernel) ⟨Nat.le_of_ble_eq_true rfl, Nat.le_of_ble_eq_true rfl⟩) rfl hl.1 rfl (Nat.le_of_ble_eq_true rfl) dX1_lookAround_64 (fun r434 w436 H locs hp435 hw => ?_)
        obtain ⟨hT, k437, hg440⟩ := hp435
        have hF := hF.tr k437 (by decide)
        have c441 := k437.gi kC_at149 (by decide) c367
        have c442 := k437.gi hkq1_ (by decide) c368
        have c443 := k437.gi hkq1_ (by decide) c369
        have c444 := k437.gi kC_at149 (by decide) c365
        rcases hg440 with rfl | ⟨rfl, ⟨x438, c439, rx438, tx438⟩⟩
        · refine lv_if_eq (tgt := 74) hx hb dX1_lookAround_67 (by decide) (fun _ => ?_) (fun c => absurd (by decide) c)
          refine lv_iconst (v := 0) hx hb dX1_lookAround_74 (by decide) ?_
          refine tk_putz hC hK hw hT hinX1 tyX1_ok nmX1 kC_at149 (by decide) rfl rfl 6 (by decide) (List.mem_cons_of_mem _ uw_42_5) rfl rfl rfl rfl (by decide) (by decide) dX1_lookAround_75 (fun H locs w445 hw hT k447 c446 => ?_)
          have hF := hF.put kC_at149 (k := 6) (by decide) k447
          have c448 := k447.gi (Or.inr (by decide)) c441
          have c449 := k447.gi (Or.inr (by decide)) c442
          have c450 := k447.gi (Or.inr (by decide)) c443
          have c451 := k447.gi (Or.inr (by decide)) c444
          refine lv_aload_n hx hb dX1_lookAround_78 rfl (lv_at hl 1 rfl) ?_
          refine lv_iconst (v := 0) hx hb dX1_lookAround_79 (by decide) ?_
          refine lv_aload_n hx hb dX1_lookAround_80 rfl (lv_at hl 1 rfl) ?_
          refine tk_getA hC hK hw hT hinX1 kC_at149 (by decide) rfl 1 (by decide) (List.mem_cons_of_mem _ uw_5_1) rfl rfl dX1_lookAround_81 ?_
          refine lv_iload_n hx hb dX1_lookAround_84 rfl (lv_at hl 0 rfl) ?_
          refine lv_aload_n hx hb dX1_lookAround_85 rfl (lv_at hl 2 rfl) ?_
          refine tk_geti hC hK hw hT hinX9 hkq1_ (by decide) rfl 0 (by decide) (List.mem_cons_of_mem _ uw_42_22) rfl rfl dX1_lookAround_86 (fun x452 c453 rx452 tx452 => ?_)
          refine wk_top x350 (c453.symm.trans c449) ?_
          refine lv_aload_n hx hb dX1_lookAround_89 rfl (lv_at hl 2 rfl) ?_
          refine tk_geti hC hK hw hT hinX9 hkq1_ (by decide) rfl 1 (by decide) (List.mem_cons_of_mem _ uw_42_23) rfl rfl dX1_lookAround_90 (fun x454 c455 rx454 tx454 => ?_)
          refine wk_top x352 (c455.symm.trans c450) ?_
          refine tk_Vi hC hK hw hT hA hE hSR kC_at145 (by decide) rfl (k_X0_hoursBy_2 l adK adV dC dI cy ad B hB0 (Int.le_trans hB1 (by decide)) qr s1   r342 (show 4 ≤ r342.toInt by first | with_reducible assumption | omega) (show r342.toInt ≤ 10 by first | with_reducible assumption | omega) x350 (show 0 ≤ x350.toInt by first | with_reducible assumption | omega) (show x350.toInt ≤ 9 by first | with_reducible assumption | omega) x352 (show 0 ≤ x352.toInt by first | with_reducible assumption | omega) (show x352.toInt ≤ 9 by first | with_reducible assumption | omega) w445 H.size hT ) (cwV 3 hC.2.2.2.2 uV_RX1_114 rfl rfl rfl (by decide +kernel) ⟨Nat.le_of_ble_eq_true rfl, Nat.le_of_ble_eq_true rfl⟩) rfl hl.1 rfl (Nat.le_of_ble_eq_true rfl) dX1_lookAround_93 (fun r456 w458 H locs hp457 hw => ?_)
          obtain ⟨hT, k459, hg462⟩ := hp457
          have hF := hF.tr k459 (by decide)
          have c463 := k459.gi kC_at149 (by decide) c448
          have c464 := k459.gi hkq1_ (by decide) c449
          have c465 := k459.gi hkq1_ (by decide) c450
          have c466 := k459.gi kC_at149 (by decide) c451
          have c467 := k459.gi kC_at149 (by decide) c446
          rcases hg462 with ⟨g460, g461⟩ | rfl
          · refine va_mmax hx hb (hC.2.2.1.trans hl.1.symm) hC.2.2.2.1 (hC.2.2.2.2 _ (List.mem_cons_of_mem _ uw_43_0)) (hC.2.2.2.2 _ (List.mem_cons_of_mem _ uw_14_15)) (hC.2.2.2.2 _ (List.mem_cons_of_mem _ uw_14_16)) (hC.2.2.2.2 _ (List.mem_cons_of_mem _ uw_14_17)) (Nat.le_of_ble_eq_true rfl) (Nat.le_of_ble_eq_true rfl) (Nat.zero_le _) (Nat.zero_le _) dX1_lookAround_96 ?_
            refine lv_topi (fun x468 ex468 => ?_)
            have bx468 : (x468.toInt = (0 : Int) ∧ r456.toInt ≤ (0 : Int)) ∨ (x468.toInt = r456.toInt ∧ (0 : Int) < r456.toInt) := by rw [ex468]; exact wk_max
            refine tk_puti hC hK hw hT hinX1 tyX1_ok nmX1 kC_at149 (by decide) rfl rfl 8 (by decide) (List.mem_cons_of_mem _ uw_43_1) rfl rfl rfl rfl (wk_i32 x468).1 (wk_i32 x468).2 dX1_lookAround_99 (fun H locs w469 hw hT k471 c470 => ?_)
            have hF := hF.put kC_at149 (k := 8) (by decide) k471
            have c472 := k471.gi (Or.inr (by decide)) c463
            have c473 := k471.gi (Or.inr (by decide)) c464
            have c474 := k471.gi (Or.inr (by decide)) c465
            have c475 := k471.gi (Or.inr (by decide)) c466
            have c476 := k471.gi (Or.inr (by decide)) c467
            refine lv_aload_n hx hb dX1_lookAround_102 rfl (lv_at hl 1 rfl) ?_
            refine lv_iconst (v := (-1)) hx hb dX1_lookAround_103 (by decide) ?_
            refine tk_puti hC hK hw hT hinX1 tyX1_ok nmX1 kC_at149 (by decide) rfl rfl 7 (by decide) (List.mem_cons_of_mem _ uw_42_7) rfl rfl rfl rfl (by decide) (by decide) dX1_lookAround_104 (fun H locs w477 hw hT k479 c478 => ?_)
            have hF := hF.put kC_at149 (k := 7) (by decide) k479
            have c480 := k479.gi (Or.inr (by decide)) c472
            have c481 := k479.gi (Or.inr (by decide)) c473
            have c482 := k479.gi (Or.inr (by decide)) c474
            have c483 := k479.gi (Or.inr (by decide)) c475
            have c484 := k479.gi (Or.inr (by decide)) c476
            have c485 := k479.gi (Or.inr (by decide)) c470
            refine lv_iconst (v := 0) hx hb dX1_lookAround_107 (by decide) ?_
            refine lv_istore (lv' := [(4, .int 0), (3, .int r342), (0, .ref (ad 149)), (1, .ref (ad q1_)), (2, .int 1)]) hx hb dX1_lookAround_108 hl (by decide) rfl (fun ls hl => ?_)
            exact L110 ((12 - (0 : Int)).toNat + 1) r342 0 r354 0 (-1) x468 x350 x352 H locs ls w477 (show 0 ≤ r342.toInt by first | with_reducible assumption | omega) (show r342.toInt ≤ 10 by first | with_reducible assumption | omega) (by decide) (by decide) (show (-1) ≤ r354.toInt by first | with_reducible assumption | omega) (show r354.toInt ≤ 11 by first | with_reducible assumption | omega) (by decide) (by decide) (by decide) (by decide) (show 0 ≤ x468.toInt by first | with_reducible assumption | omega) (show x468.toInt ≤ 999999 by first | with_reducible assumption | omega) (show 0 ≤ x350.toInt by first | with_reducible assumption | omega) (show x350.toInt ≤ 9 by first | with_reducible assumption | omega) (show 0 ≤ x352.toInt by first | with_reducible assumption | omega) (show x352.toInt ≤ 9 by first | with_reducible assumption | omega) (Nat.lt_succ_self _) hw hT hF c483 c484 c478 c485 c481 c482 (lv_sub hl [2, 3, 4, 1, 0] rfl)
          · refine va_mmax hx hb (hC.2.2.1.trans hl.1.symm) hC.2.2.2.1 (hC.2.2.2.2 _ (List.mem_cons_of_mem _ uw_43_0)) (hC.2.2.2.2 _ (List.mem_cons_of_mem _ uw_14_15)) (hC.2.2.2.2 _ (List.mem_cons_of_mem _ uw_14_16)) (hC.2.2.2.2 _ (List.mem_cons_of_mem _ uw_14_17)) (Nat.le_of_ble_eq_true rfl) (Nat.le_of_ble_eq_true rfl) (Nat.zero_le _) (Nat.zero_le _) dX1_lookAround_96 ?_
            refine lv_topi (fun x486 ex486 => ?_)
            have bx486 : (x486.toInt = (0 : Int) ∧ (-1 : Int) ≤ (0 : Int)) ∨ (x486.toInt = (-1 : Int) ∧ (0 : Int) < (-1 : Int)) := by rw [ex486]; exact wk_max
            refine tk_puti hC hK hw hT hinX1 tyX1_ok nmX1 kC_at149 (by decide) rfl rfl 8 (by decide) (List.mem_cons_of_mem _ uw_43_1) rfl rfl rfl rfl (wk_i32 x486).1 (wk_i32 x486).2 dX1_lookAround_99 (fun H locs w487 hw hT k489 c488 => ?_)
            have hF := hF.put kC_at149 (k := 8) (by decide) k489
            have c490 := k489.gi (Or.inr (by decide)) c463
            have c491 := k489.gi (Or.inr (by decide)) c464
            have c492 := k489.gi (Or.inr (by decide)) c465
            have c493 := k489.gi (Or.inr (by decide)) c466
            have c494 := k489.gi (Or.inr (by decide)) c467
            refine lv_aload_n hx hb dX1_lookAround_102 rfl (lv_at hl 1 rfl) ?_
            refine lv_iconst (v := (-1)) hx hb dX1_lookAround_103 (by decide) ?_
            refine tk_puti hC hK hw hT hinX1 tyX1_ok nmX1 kC_at149 (by decide) rfl rfl 7 (by decide) (List.mem_cons_of_mem _ uw_42_7) rfl rfl rfl rfl (by decide) (by decide) dX1_lookAround_104 (fun H locs w495 hw hT k497 c496 => ?_)
            have hF := hF.put kC_at149 (k := 7) (by decide) k497
            have c498 := k497.gi (Or.inr (by decide)) c490
            have c499 := k497.gi (Or.inr (by decide)) c491
            have c500 := k497.gi (Or.inr (by decide)) c492
            have c501 := k497.gi (Or.inr (by decide)) c493
            have c502 := k497.gi (Or.inr (by decide)) c494
            have c503 := k497.gi (Or.inr (by decide)) c488
            refine lv_iconst (v := 0) hx hb dX1_lookAround_107 (by decide) ?_
            refine lv_istore (lv' := [(4, .int 0), (3, .int r342), (0, .ref (ad 149)), (1, .ref (ad q1_)), (2, .int 1)]) hx hb dX1_lookAround_108 hl (by decide) rfl (fun ls hl => ?_)
            exact L110 ((12 - (0 : Int)).toNat + 1) r342 0 r354 0 (-1) x486 x350 x352 H locs ls w495 (show 0 ≤ r342.toInt by first | with_reducible assumption | omega) (show r342.toInt ≤ 10 by first | with_reducible assumption | omega) (by decide) (by decide) (show (-1) ≤ r354.toInt by first | with_reducible assumption | omega) (show r354.toInt ≤ 11 by first | with_reducible assumption | omega) (by decide) (by decide) (by decide) (by decide) (show 0 ≤ x486.toInt by first | with_reducible assumption | omega) (show x486.toInt ≤ 999999 by first | with_reducible assumption | omega) (show 0 ≤ x350.toInt by first | with_reducible assumption | omega) (show x350.toInt ≤ 9 by first | with_reducible assumption | omega) (show 0 ≤ x352.toInt by first | with_reducible assumption | omega) (show x352.toInt ≤ 9 by first | with_reducible assumption | omega) (Nat.lt_succ_self _) hw hT hF c501 c502 c496 c503 c499 c500 (lv_sub hl [2, 3, 4, 1, 0] rfl)
        · have ex438 : x438.toInt = x331.toInt := by rw [← c441.symm.trans c439]
          refine lv_if_eq (tgt := 74) hx hb dX1_lookAround_67 (by decide) (fun c => absurd c (by decide)) (fun _ => ?_)
          refine lv_iconst (v := 1) hx hb dX1_lookAround_70 (by decide) ?_
          refine lv_goto (tgt := 75) hx hb dX1_lookAround_71 (by decide) ?_
          refine tk_putz hC hK hw hT hinX1 tyX1_ok nmX1 kC_at149 (by decide) rfl rfl 6 (by decide) (List.mem_cons_of_mem _ uw_42_5) rfl rfl rfl rfl (by decide) (by decide) dX1_lookAround_75 (fun H locs w504 hw hT k506 c505 => ?_)
          have hF := hF.put kC_at149 (k := 6) (by decide) k506
          have c507 := k506.gi (Or.inr (by decide)) c441
          have c508 := k506.gi (Or.inr (by decide)) c442
          have c509 := k506.gi (Or.inr (by decide)) c443
          have c510 := k506.gi (Or.inr (by decide)) c444
          refine lv_aload_n hx hb dX1_lookAround_78 rfl (lv_at hl 1 rfl) ?_
          refine lv_iconst (v := 0) hx hb dX1_lookAround_79 (by decide) ?_
          refine lv_aload_n hx hb dX1_lookAround_80 rfl (lv_at hl 1 rfl) ?_
          refine tk_getA hC hK hw hT hinX1 kC_at149 (by decide) rfl 1 (by decide) (List.mem_cons_of_mem _ uw_5_1) rfl rfl dX1_lookAround_81 ?_
          refine lv_iload_n hx hb dX1_lookAround_84 rfl (lv_at hl 0 rfl) ?_
          refine lv_aload_n hx hb dX1_lookAround_85 rfl (lv_at hl 2 rfl) ?_
          refine tk_geti hC hK hw hT hinX9 hkq1_ (by decide) rfl 0 (by decide) (List.mem_cons_of_mem _ uw_42_22) rfl rfl dX1_lookAround_86 (fun x511 c512 rx511 tx511 => ?_)
          refine wk_top x350 (c512.symm.trans c508) ?_
          refine lv_aload_n hx hb dX1_lookAround_89 rfl (lv_at hl 2 rfl) ?_
          refine tk_geti hC hK hw hT hinX9 hkq1_ (by decide) rfl 1 (by decide) (List.mem_cons_of_mem _ uw_42_23) rfl rfl dX1_lookAround_90 (fun x513 c514 rx513 tx513 => ?_)
          refine wk_top x352 (c514.symm.trans c509) ?_
          refine tk_Vi hC hK hw hT hA hE hSR kC_at145 (by decide) rfl (k_X0_hoursBy_2 l adK adV dC dI cy ad B hB0 (Int.le_trans hB1 (by decide)) qr s1   r342 (show 4 ≤ r342.toInt by first | with_reducible assumption | omega) (show r342.toInt ≤ 10 by first | with_reducible assumption | omega) x350 (show 0 ≤ x350.toInt by first | with_reducible assumption | omega) (show x350.toInt ≤ 9 by first | with_reducible assumption | omega) x352 (show 0 ≤ x352.toInt by first | with_reducible assumption | omega) (show x352.toInt ≤ 9 by first | with_reducible assumption | omega) w504 H.size hT ) (cwV 3 hC.2.2.2.2 uV_RX1_114 rfl rfl rfl (by decide +kernel) ⟨Nat.le_of_ble_eq_true rfl, Nat.le_of_ble_eq_true rfl⟩) rfl hl.1 rfl (Nat.le_of_ble_eq_true rfl) dX1_lookAround_93 (fun r515 w517 H locs hp516 hw => ?_)
          obtain ⟨hT, k518, hg521⟩ := hp516
          have hF := hF.tr k518 (by decide)
          have c522 := k518.gi kC_at149 (by decide) c507
          have c523 := k518.gi hkq1_ (by decide) c508
          have c524 := k518.gi hkq1_ (by decide) c509
          have c525 := k518.gi kC_at149 (by decide) c510
          have c526 := k518.gi kC_at149 (by decide) c505
          rcases hg521 with ⟨g519, g520⟩ | rfl
          · refine va_mmax hx hb (hC.2.2.1.trans hl.1.symm) hC.2.2.2.1 (hC.2.2.2.2 _ (List.mem_cons_of_mem _ uw_43_0)) (hC.2.2.2.2 _ (List.mem_cons_of_mem _ uw_14_15)) (hC.2.2.2.2 _ (List.mem_cons_of_mem _ uw_14_16)) (hC.2.2.2.2 _ (List.mem_cons_of_mem _ uw_14_17)) (Nat.le_of_ble_eq_true rfl) (Nat.le_of_ble_eq_true rfl) (Nat.zero_le _) (Nat.zero_le _) dX1_lookAround_96 ?_
            refine lv_topi (fun x527 ex527 => ?_)
            have bx527 : (x527.toInt = (0 : Int) ∧ r515.toInt ≤ (0 : Int)) ∨ (x527.toInt = r515.toInt ∧ (0 : Int) < r515.toInt) := by rw [ex527]; exact wk_max
            refine tk_puti hC hK hw hT hinX1 tyX1_ok nmX1 kC_at149 (by decide) rfl rfl 8 (by decide) (List.mem_cons_of_mem _ uw_43_1) rfl rfl rfl rfl (wk_i32 x527).1 (wk_i32 x527).2 dX1_lookAround_99 (fun H locs w528 hw hT k530 c529 => ?_)
            have hF := hF.put kC_at149 (k := 8) (by decide) k530
            have c531 := k530.gi (Or.inr (by decide)) c522
            have c532 := k530.gi (Or.inr (by decide)) c523
            have c533 := k530.gi (Or.inr (by decide)) c524
            have c534 := k530.gi (Or.inr (by decide)) c525
            have c535 := k530.gi (Or.inr (by decide)) c526
            refine lv_aload_n hx hb dX1_lookAround_102 rfl (lv_at hl 1 rfl) ?_
            refine lv_iconst (v := (-1)) hx hb dX1_lookAround_103 (by decide) ?_
            refine tk_puti hC hK hw hT hinX1 tyX1_ok nmX1 kC_at149 (by decide) rfl rfl 7 (by decide) (List.mem_cons_of_mem _ uw_42_7) rfl rfl rfl rfl (by decide) (by decide) dX1_lookAround_104 (fun H locs w536 hw hT k538 c537 => ?_)
            have hF := hF.put kC_at149 (k := 7) (by decide) k538
            have c539 := k538.gi (Or.inr (by decide)) c531
            have c540 := k538.gi (Or.inr (by decide)) c532
            have c541 := k538.gi (Or.inr (by decide)) c533
            have c542 := k538.gi (Or.inr (by decide)) c534
            have c543 := k538.gi (Or.inr (by decide)) c535
            have c544 := k538.gi (Or.inr (by decide)) c529
            refine lv_iconst (v := 0) hx hb dX1_lookAround_107 (by decide) ?_
            refine lv_istore (lv' := [(4, .int 0), (3, .int r342), (0, .ref (ad 149)), (1, .ref (ad q1_)), (2, .int 1)]) hx hb dX1_lookAround_108 hl (by decide) rfl (fun ls hl => ?_)
            exact L110 ((12 - (0 : Int)).toNat + 1) r342 0 r354 1 (-1) x527 x350 x352 H locs ls w536 (show 0 ≤ r342.toInt by first | with_reducible assumption | omega) (show r342.toInt ≤ 10 by first | with_reducible assumption | omega) (by decide) (by decide) (show (-1) ≤ r354.toInt by first | with_reducible assumption | omega) (show r354.toInt ≤ 11 by first | with_reducible assumption | omega) (by decide) (by decide) (by decide) (by decide) (show 0 ≤ x527.toInt by first | with_reducible assumption | omega) (show x527.toInt ≤ 999999 by first | with_reducible assumption | omega) (show 0 ≤ x350.toInt by first | with_reducible assumption | omega) (show x350.toInt ≤ 9 by first | with_reducible assumption | omega) (show 0 ≤ x352.toInt by first | with_reducible assumption | omega) (show x352.toInt ≤ 9 by first | with_reducible assumption | omega) (Nat.lt_succ_self _) hw hT hF c542 c543 c537 c544 c540 c541 (lv_sub hl [2, 3, 4, 1, 0] rfl)
          · refine va_mmax hx hb (hC.2.2.1.trans hl.1.symm) hC.2.2.2.1 (hC.2.2.2.2 _ (List.mem_cons_of_mem _ uw_43_0)) (hC.2.2.2.2 _ (List.mem_cons_of_mem _ uw_14_15)) (hC.2.2.2.2 _ (List.mem_cons_of_mem _ uw_14_16)) (hC.2.2.2.2 _ (List.mem_cons_of_mem _ uw_14_17)) (Nat.le_of_ble_eq_true rfl) (Nat.le_of_ble_eq_true rfl) (Nat.zero_le _) (Nat.zero_le _) dX1_lookAround_96 ?_
            refine lv_topi (fun x545 ex545 => ?_)
            have bx545 : (x545.toInt = (0 : Int) ∧ (-1 : Int) ≤ (0 : Int)) ∨ (x545.toInt = (-1 : Int) ∧ (0 : Int) < (-1 : Int)) := by rw [ex545]; exact wk_max
            refine tk_puti hC hK hw hT hinX1 tyX1_ok nmX1 kC_at149 (by decide) rfl rfl 8 (by decide) (List.mem_cons_of_mem _ uw_43_1) rfl rfl rfl rfl (wk_i32 x545).1 (wk_i32 x545).2 dX1_lookAround_99 (fun H locs w546 hw hT k548 c547 => ?_)
            have hF := hF.put kC_at149 (k := 8) (by decide) k548
            have c549 := k548.gi (Or.inr (by decide)) c522
            have c550 := k548.gi (Or.inr (by decide)) c523
            have c551 := k548.gi (Or.inr (by decide)) c524
            have c552 := k548.gi (Or.inr (by decide)) c525
            have c553 := k548.gi (Or.inr (by decide)) c526
            refine lv_aload_n hx hb dX1_lookAround_102 rfl (lv_at hl 1 rfl) ?_
            refine lv_iconst (v := (-1)) hx hb dX1_lookAround_103 (by decide) ?_
            refine tk_puti hC hK hw hT hinX1 tyX1_ok nmX1 kC_at149 (by decide) rfl rfl 7 (by decide) (List.mem_cons_of_mem _ uw_42_7) rfl rfl rfl rfl (by decide) (by decide) dX1_lookAround_104 (fun H locs w554 hw hT k556 c555 => ?_)
            have hF := hF.put kC_at149 (k := 7) (by decide) k556
            have c557 := k556.gi (Or.inr (by decide)) c549
            have c558 := k556.gi (Or.inr (by decide)) c550
            have c559 := k556.gi (Or.inr (by decide)) c551
            have c560 := k556.gi (Or.inr (by decide)) c552
            have c561 := k556.gi (Or.inr (by decide)) c553
            have c562 := k556.gi (Or.inr (by decide)) c547
            refine lv_iconst (v := 0) hx hb dX1_lookAround_107 (by decide) ?_
            refine lv_istore (lv' := [(4, .int 0), (3, .int r342), (0, .ref (ad 149)), (1, .ref (ad q1_)), (2, .int 1)]) hx hb dX1_lookAround_108 hl (by decide) rfl (fun ls hl => ?_)
            exact L110 ((12 - (0 : Int)).toNat + 1) r342 0 r354 1 (-1) x545 x350 x352 H locs ls w554 (show 0 ≤ r342.toInt by first | with_reducible assumption | omega) (show r342.toInt ≤ 10 by first | with_reducible assumption | omega) (by decide) (by decide) (show (-1) ≤ r354.toInt by first | with_reducible assumption | omega) (show r354.toInt ≤ 11 by first | with_reducible assumption | omega) (by decide) (by decide) (by decide) (by decide) (show 0 ≤ x545.toInt by first | with_reducible assumption | omega) (show x545.toInt ≤ 999999 by first | with_reducible assumption | omega) (show 0 ≤ x350.toInt by first | with_reducible assumption | omega) (show x350.toInt ≤ 9 by first | with_reducible assumption | omega) (show 0 ≤ x352.toInt by first | with_reducible assumption | omega) (show x352.toInt ≤ 9 by first | with_reducible assumption | omega) (Nat.lt_succ_self _) hw hT hF c560 c561 c555 c562 c558 c559 (lv_sub hl [2, 3, 4, 1, 0] rfl)
