abbrev P_X12_takesDay_1 (ad : Nat → Nat) (cy : Nat → ClassId) (B : Int) (qr : Nat) (s1 : Int) (a1 : Int32) (w0 : va_W) : va_W → Prop := fun u => TW ksM ad cy B qr 12 u ∧ FE ksM [(72, 0, 12)] w0 u ∧ ((True))
set_option maxHeartbeats 4000000 in
set_option maxRecDepth 100000 in
theorem k_X12_takesDay_1 (l : Launch) (adK adV : Nat → Nat) (dC : Nat → ClassId) (dI : Nat → Nat → Nat) (cy : Nat → ClassId) (ad : Nat → Nat) (B : Int) (hB0 : 100000 ≤ B) (hB1 : B ≤ 1073741824) (qr : Nat) (s1 : Int)  (a1 : Int32) (ra1 : 0 ≤ a1.toInt) (ta1 : a1.toInt ≤ 6) (w0 : va_W) (sz : Nat) (hT : TW ksM ad cy B qr 12 w0)  : Met l yX12_takesDay (wu yX12_takesDay cX12_takesDay 3 none) ({ frames := 2, cells := 0, slots := 0, locals := 34 }) (va_Pc [.ref (ad 0), .int a1] (wpreS adK adV dC dI cy sz w0)) (va_Qv (P_X12_takesDay_1 ad cy B qr s1 a1 w0) (fun u : va_W => wpost dC dI cy (va_A w0 sz) u) (va_A w0 sz)) 0 0 (va_A w0 sz) := by
  refine Met.ofW (cc := cX12_takesDay) (maxL := 3) (ret := none) (by decide) rfl ?_
  intro p e s m args below meth c s₁ Bk hml hv
  obtain ⟨rfl, ⟨hsz, hP, hK, hD0⟩, hE, hSR⟩ := hv
  have hx := Bk.exec
  have hb := Bk.bytes
  have hr := Bk.returns
  have hlocks := Bk.notSynchronized
  have hC : CallFix p m c cX12_takesDay 3 s _ (wu yX12_takesDay cX12_takesDay 3 none) RX12 := ⟨hx, hb, hml, findClass_of_methodNamed Bk.named, atoms_spec (ws := (wu yX12_takesDay cX12_takesDay 3 none)) Bk.pre⟩
  subst hsz
  have hD := hD0.self (sz := s.heap.size)
  generalize hAe : va_A w0 s.heap.size = A at hD hE ⊢
  have hA : ∀ q : Nat, s.heap.size ≤ q → A q := fun q h => by rw [← hAe]; exact Or.inr h
  have hw : Wd dC dI A s.heap s.heap [] w0 := ⟨hP, hD, va_S.rf⟩
  have hF : FE ksM [(72, 0, 12)] w0 w0 := FE.rf
  have hl := lv_entry ([.ref (ad 0), .int a1]) (n := 3) (Nat.le_of_ble_eq_true rfl)
  rw [lg_entry_eq]
  generalize (lg_sl ([.ref (ad 0), .int a1]) ++ List.replicate (3 - (lg_sl ([.ref (ad 0), .int a1])).length) Slot.unset).toArray = ls at hl ⊢
  have hl : lv_has ls 3 [(0, .ref (ad 0)), (1, .int a1)] := hl
  generalize hloc : ([] : List Loc) = locs at hw ⊢
  have hinX12 : ∀ w ∈ u_ws RX12 TX12 42, w ∈ (wu yX12_takesDay cX12_takesDay 3 none) := fun _ h => List.mem_cons_of_mem _ (up_71 h)
  have L2 : ∀ (n2 : Nat) (v2_2 : Int32) (H : Heap) (locs : List Loc) (ls : Array Slot) (w1 : va_W), 0 ≤ a1.toInt → a1.toInt ≤ 6 → 0 ≤ v2_2.toInt → v2_2.toInt ≤ 12 → (12 - v2_2.toInt).toNat < n2 → Wd dC dI A s.heap H locs w1 → TW ksM ad cy B qr 12 w1 → FE ksM [(72, 0, 12)] w0 w1 → lv_has ls 3 [(0, .ref (ad 0)), (1, .int a1), (2, .int v2_2)] → W p l e ({ frames := 2, cells := 0, slots := 0, locals := 34 }) s m (List.toArray [.ref (ad 0), .int a1]) below meth c H locs 0 0 (MQ below (va_Qv (P_X12_takesDay_1 ad cy B qr s1 a1 w0) (fun u : va_W => wpost dC dI cy A u) A) (List.toArray [.ref (ad 0), .int a1]) s 0 0 A) (F0 m 2 ls []) := by
    intro n2
    induction n2 with
    | zero => intro v2_2 H locs ls w1 r2 t3 r4 t5 hm2 hw hT hF hl; omega
    | succ n2 ih2 =>
      intro v2_2 H locs ls w1 r2 t3 r4 t5 hm2 hw hT hF hl
      refine lv_iload_n hx hb dX12_takesDay_2 rfl (lv_at hl 2 rfl) ?_
      refine lv_aload_n hx hb dX12_takesDay_3 rfl (lv_at hl 0 rfl) ?_
      refine tk_getA hC hK hw hT hinX12 kM_at0 (by decide) rfl 26 (by decide) (List.mem_cons_of_mem _ uw_7_1) rfl rfl dX12_takesDay_4 ?_
      refine lv_iconst (v := 1) hx hb dX12_takesDay_7 (by decide) ?_
      refine tk_ialdR hC hK hw hT kM_at12 rfl (by decide) (by decide) dX12_takesDay_8 (fun x6 c7 Ex6 => ?_)
      have bx6 : 0 ≤ x6.toInt ∧ x6.toInt ≤ 12 := (tk_rg1 rfl).mp Ex6
      have c7 : gi w1 12 1 = x6 := c7
      refine lv_icmp_ge (tgt := 32) hx hb dX12_takesDay_9 (by decide) (fun c8 => ?_) (fun c8 => ?_)
      · have c8 : x6.toInt ≤ v2_2.toInt := wk_le.mp c8
        exact tk_vret hC hr hlocks hK ⟨hT, hF, trivial⟩ hw dX12_takesDay_32
      · have c8 : v2_2.toInt < x6.toInt := wk_leF c8
        refine lv_aload_n hx hb dX12_takesDay_12 rfl (lv_at hl 0 rfl) ?_
        refine tk_getA hC hK hw hT hinX12 kM_at0 (by decide) rfl 28 (by decide) (List.mem_cons_of_mem _ uw_7_3) rfl rfl dX12_takesDay_13 ?_
        refine lv_iload_n hx hb dX12_takesDay_16 rfl (lv_at hl 2 rfl) ?_
        refine lv_aload_n hx hb dX12_takesDay_17 rfl (lv_at hl 0 rfl) ?_
        refine lv_iload_n hx hb dX12_takesDay_18 rfl (lv_at hl 2 rfl) ?_
        refine lv_iconst (v := 3) hx hb dX12_takesDay_19 (by decide) ?_
        refine lv_iload_n hx hb dX12_takesDay_20 rfl (lv_at hl 1 rfl) ?_
        refine lv_iadd hx hb dX12_takesDay_21 ?_
        refine lv_topi (fun x9 ex9 => ?_)
        have ex9 : x9.toInt = (3 : Int) + a1.toInt := by rw [ex9]; exact wk_add (show (-2147483648) ≤ (3 : Int) + a1.toInt by omega) (show (3 : Int) + a1.toInt ≤ 2147483647 by omega)
        refine tk_Vi hC hK hw hT hA hE hSR kM_at0 (by decide) rfl (k_X12_streetOf_4 l adK adV dC dI cy ad B hB0 (Int.le_trans hB1 (by decide)) qr s1   v2_2 (show 0 ≤ v2_2.toInt from r4) (show v2_2.toInt ≤ 11 by first | with_reducible assumption | omega) x9 (show 3 ≤ x9.toInt by first | with_reducible assumption | omega) (show x9.toInt ≤ 9 by first | with_reducible assumption | omega) w1 H.size hT ) (cwV 2 hC.2.2.2.2 uV_RX12_300 rfl rfl rfl (by decide +kernel) ⟨Nat.le_of_ble_eq_true rfl, Nat.le_of_ble_eq_true rfl⟩) rfl hl.1 rfl (Nat.le_of_ble_eq_true rfl) dX12_takesDay_22 (fun r10 w12 H locs hp11 hw => ?_)
        obtain ⟨rfl, hg17⟩ := hp11
        obtain ⟨g14, g15, c16⟩ := hg17
        refine tk_iast hC hK hw hT kM_at13 (by decide) rfl rfl (show 0 ≤ v2_2.toInt from r4) (show v2_2.toInt < 12 by first | with_reducible assumption | omega) (wk_i32 r10).1 (wk_i32 r10).2 dX12_takesDay_25 (fun H locs w18 hw hT k20 c19 => ?_)
        have hF := hF.put kM_at13 (inE_of (a := 0) (b := 12) (by decide) (show 0 ≤ v2_2.toInt.toNat by omega) (show v2_2.toInt.toNat ≤ 12 by omega)) k20
        have c21 := k20.gi (Or.inl (tk_ne kM_at12 kM_at13 (by decide))) c7
        have c22 := k20.gi (Or.inl (tk_ne kM_at12 kM_at13 (by decide))) c16
        obtain ⟨x23, ex23⟩ : ∃ y : Int32, y = v2_2 + Int32.ofInt 1 := ⟨_, rfl⟩
        refine lv_iinc (v := x23) (lv' := [(2, .int x23), (0, .ref (ad 0)), (1, .int a1)]) hx hb dX12_takesDay_26 hl (k := 2) rfl ex23.symm (by decide) rfl (fun ls hl => ?_)
        have ex23 : x23.toInt = v2_2.toInt + 1 := by rw [ex23]; exact wk_add (y := 1) (show -2147483648 ≤ v2_2.toInt + 1 by omega) (show v2_2.toInt + 1 ≤ 2147483647 by omega)
        refine lv_goto (tgt := 2) hx hb dX12_takesDay_29 (by decide) ?_
        exact ih2 x23 H locs ls w18 (show 0 ≤ a1.toInt from r2) (show a1.toInt ≤ 6 from t3) (show 0 ≤ x23.toInt by first | with_reducible assumption | omega) (show x23.toInt ≤ 12 by first | with_reducible assumption | omega) (show (12 - x23.toInt).toNat < n2 by first | exact tn_lt hm2 (by omega) (by omega) | omega) hw hT hF  (lv_sub hl [1, 2, 0] rfl)
  refine lv_iconst (v := 0) hx hb dX12_takesDay_0 (by decide) ?_
  refine lv_istore_n (lv' := [(2, .int 0), (0, .ref (ad 0)), (1, .int a1)]) hx hb dX12_takesDay_1 rfl hl (by decide) rfl (fun ls hl => ?_)
  exact L2 ((12 - (0 : Int)).toNat + 1) 0 s.heap locs ls w0 (show 0 ≤ a1.toInt from ra1) (show a1.toInt ≤ 6 from ta1) (by decide) (by decide) (Nat.lt_succ_self _) hw hT hF  (lv_sub hl [1, 2, 0] rfl)
abbrev P_X12_walkerOf_10 (ad : Nat → Nat) (cy : Nat → ClassId) (B : Int) (qr : Nat) (s1 : Int) (a1 : Int32) (w0 : va_W) : Int32 → va_W → Prop := fun r u => w0 = u ∧ ((0 ≤ r.toInt ∧ r.toInt ≤ 3 ∧ gi u 12 (9 * a1.toInt + 218).toNat = r))
set_option maxHeartbeats 4000000 in
set_option maxRecDepth 100000 in
theorem k_X12_walkerOf_10 (l : Launch) (adK adV : Nat → Nat) (dC : Nat → ClassId) (dI : Nat → Nat → Nat) (cy : Nat → ClassId) (ad : Nat → Nat) (B : Int) (hB0 : 100000 ≤ B) (hB1 : B ≤ 1073741824) (qr : Nat) (s1 : Int)  (a1 : Int32) (ra1 : 0 ≤ a1.toInt) (ta1 : a1.toInt ≤ 3) (w0 : va_W) (sz : Nat) (hT : TW ksM ad cy B qr 12 w0)  : Met l yX12_walkerOf (wu yX12_walkerOf cX12_walkerOf 3 (some .int)) ({ frames := 1, cells := 0, slots := 0, locals := 12 }) (va_Pc [.ref (ad 0), .int a1, .int 2] (wpreS adK adV dC dI cy sz w0)) (va_Qi (P_X12_walkerOf_10 ad cy B qr s1 a1 w0) (fun u : va_W => wpost dC dI cy (va_A w0 sz) u) (va_A w0 sz)) 0 0 (va_A w0 sz) := by
  refine Met.ofW (cc := cX12_walkerOf) (maxL := 3) (ret := (some .int)) (by decide) rfl ?_
  intro p e s m args below meth c s₁ Bk hml hv
  obtain ⟨rfl, ⟨hsz, hP, hK, hD0⟩, hE, hSR⟩ := hv
  have hx := Bk.exec
  have hb := Bk.bytes
  have hr := Bk.returns
  have hlocks := Bk.notSynchronized
  have hC : CallFix p m c cX12_walkerOf 3 s _ (wu yX12_walkerOf cX12_walkerOf 3 (some .int)) RX12 := ⟨hx, hb, hml, findClass_of_methodNamed Bk.named, atoms_spec (ws := (wu yX12_walkerOf cX12_walkerOf 3 (some .int))) Bk.pre⟩
  subst hsz
  have hD := hD0.self (sz := s.heap.size)
  generalize hAe : va_A w0 s.heap.size = A at hD hE ⊢
  have hA : ∀ q : Nat, s.heap.size ≤ q → A q := fun q h => by rw [← hAe]; exact Or.inr h
  have hw : Wd dC dI A s.heap s.heap [] w0 := ⟨hP, hD, va_S.rf⟩
  have hF : FE ksM ([] : List (Nat × Nat × Nat)) w0 w0 := FE.rf
  have hl := lv_entry ([.ref (ad 0), .int a1, .int 2]) (n := 3) (Nat.le_of_ble_eq_true rfl)
  rw [lg_entry_eq]
  generalize (lg_sl ([.ref (ad 0), .int a1, .int 2]) ++ List.replicate (3 - (lg_sl ([.ref (ad 0), .int a1, .int 2])).length) Slot.unset).toArray = ls at hl ⊢
  have hl : lv_has ls 3 [(0, .ref (ad 0)), (1, .int a1), (2, .int 2)] := hl
  generalize hloc : ([] : List Loc) = locs at hw ⊢
  have hinX12 : ∀ w ∈ u_ws RX12 TX12 42, w ∈ (wu yX12_walkerOf cX12_walkerOf 3 (some .int)) := fun _ h => List.mem_cons_of_mem _ (up_71 h)
  refine lv_aload_n hx hb dX12_walkerOf_0 rfl (lv_at hl 0 rfl) ?_
  refine tk_getA hC hK hw hT hinX12 kM_at0 (by decide) rfl 26 (by decide) (List.mem_cons_of_mem _ uw_7_1) rfl rfl dX12_walkerOf_1 ?_
  refine lv_sipush (v := 216) hx hb dX12_walkerOf_4 (by decide) ?_
  refine lv_bipush (v := 9) hx hb dX12_walkerOf_7 (by decide) ?_
  refine lv_iload_n hx hb dX12_walkerOf_9 rfl (lv_at hl 1 rfl) ?_
  refine lv_imul hx hb dX12_walkerOf_10 ?_
  refine lv_topi (fun x1 ex1 => ?_)
  have ex1 : x1.toInt = (9 : Int) * a1.toInt := by rw [ex1]; exact wk_mul (show (-2147483648) ≤ (9 : Int) * a1.toInt by omega) (show (9 : Int) * a1.toInt ≤ 2147483647 by omega)
  refine lv_iadd hx hb dX12_walkerOf_11 ?_
  refine lv_topi (fun x2 ex2 => ?_)
  have ex2 : x2.toInt = (216 : Int) + x1.toInt := by rw [ex2]; exact wk_add (show (-2147483648) ≤ (216 : Int) + x1.toInt by omega) (show (216 : Int) + x1.toInt ≤ 2147483647 by omega)
  refine lv_iload_n hx hb dX12_walkerOf_12 rfl (lv_at hl 2 rfl) ?_
  refine lv_iadd hx hb dX12_walkerOf_13 ?_
  refine lv_topi (fun x3 ex3 => ?_)
  have ex3 : x3.toInt = x2.toInt + (2 : Int) := by rw [ex3]; exact wk_add (show (-2147483648) ≤ x2.toInt + (2 : Int) by omega) (show x2.toInt + (2 : Int) ≤ 2147483647 by omega)
  refine tk_ialdR hC hK hw hT kM_at12 rfl (show 0 ≤ x3.toInt by first | with_reducible assumption | omega) (show x3.toInt < 296 by first | with_reducible assumption | omega) dX12_walkerOf_14 (fun x4 c5 Ex4 => ?_)
  have c5 : gi w0 12 (9 * a1.toInt + 218).toNat = x4 := (congrArg (gi w0 12) (congrArg Int.toNat (show 9 * a1.toInt + 218 = x3.toInt by first | exact Int.le_antisymm (by omega) (by omega) | omega))).trans c5
  have bx4 := tk_rgI rfl 218 9 4 0 3 (by decide +kernel) ⟨(a1.toInt - 0).toNat, by omega, show x3.toInt.toNat = 218 + 9 * (a1.toInt - 0).toNat by omega⟩ Ex4
  exact tk_iret hC hr hlocks hK ⟨rfl, ⟨(show 0 ≤ x4.toInt by first | with_reducible assumption | omega), (show x4.toInt ≤ 3 by first | with_reducible assumption | omega), c5⟩⟩ hw dX12_walkerOf_15
abbrev P_X12_looks_1 (ad : Nat → Nat) (cy : Nat → ClassId) (B : Int) (qr : Nat) (s1 : Int) (a1 : Int32) (w0 : va_W) : va_W → Prop := fun u => TW ksM ad cy B qr 12 u ∧ FE ksM [(12, 31, 31), (72, 0, 12), (73, 0, 10)] w0 u ∧ (((∃ y : Int32, gi u 0 31 = y ∧ (-1) ≤ y.toInt ∧ y.toInt ≤ 11)))
set_option maxHeartbeats 4000000 in
set_option maxRecDepth 100000 in
theorem k_X12_looks_1 (l : Launch) (adK adV : Nat → Nat) (dC : Nat → ClassId) (dI : Nat → Nat → Nat) (cy : Nat → ClassId) (ad : Nat → Nat) (B : Int) (hB0 : 100000 ≤ B) (hB1 : B ≤ 1073741824) (qr : Nat) (s1 : Int)  (a1 : Int32) (ra1 : 0 ≤ a1.toInt) (ta1 : a1.toInt ≤ 3) (w0 : va_W) (sz : Nat) (hT : TW ksM ad cy B qr 12 w0)  : Met l yX12_looks (wu yX12_looks cX12_looks 2 none) ({ frames := 4, cells := 0, slots := 0, locals := 79 }) (va_Pc [.ref (ad 0), .int a1] (wpreS adK adV dC dI cy sz w0)) (va_Qv (P_X12_looks_1 ad cy B qr s1 a1 w0) (fun u : va_W => wpost dC dI cy (va_A w0 sz) u) (va_A w0 sz)) 0 0 (va_A w0 sz) := by
  refine Met.ofW (cc := cX12_looks) (maxL := 2) (ret := none) (by decide) rfl ?_
  intro p e s m args below meth c s₁ Bk hml hv
  obtain ⟨rfl, ⟨hsz, hP, hK, hD0⟩, hE, hSR⟩ := hv
  have hx := Bk.exec
  have hb := Bk.bytes
  have hr := Bk.returns
  have hlocks := Bk.notSynchronized
  have hC : CallFix p m c cX12_looks 2 s _ (wu yX12_looks cX12_looks 2 none) RX12 := ⟨hx, hb, hml, findClass_of_methodNamed Bk.named, atoms_spec (ws := (wu yX12_looks cX12_looks 2 none)) Bk.pre⟩
  subst hsz
  have hD := hD0.self (sz := s.heap.size)
  generalize hAe : va_A w0 s.heap.size = A at hD hE ⊢
  have hA : ∀ q : Nat, s.heap.size ≤ q → A q := fun q h => by rw [← hAe]; exact Or.inr h
  have hw : Wd dC dI A s.heap s.heap [] w0 := ⟨hP, hD, va_S.rf⟩
  have hF : FE ksM [(12, 31, 31), (72, 0, 12), (73, 0, 10)] w0 w0 := FE.rf
  have hl := lv_entry ([.ref (ad 0), .int a1]) (n := 2) (Nat.le_of_ble_eq_true rfl)
  rw [lg_entry_eq]
  generalize (lg_sl ([.ref (ad 0), .int a1]) ++ List.replicate (2 - (lg_sl ([.ref (ad 0), .int a1])).length) Slot.unset).toArray = ls at hl ⊢
  have hl : lv_has ls 2 [(0, .ref (ad 0)), (1, .int a1)] := hl
  generalize hloc : ([] : List Loc) = locs at hw ⊢
  have hinX12 : ∀ w ∈ u_ws RX12 TX12 42, w ∈ (wu yX12_looks cX12_looks 2 none) := fun _ h => List.mem_cons_of_mem _ (up_71 h)
  have J44 : ∀ (H : Heap) (locs : List Loc) (ls : Array Slot) (w1 : va_W), 0 ≤ a1.toInt → a1.toInt ≤ 3 → Wd dC dI A s.heap H locs w1 → TW ksM ad cy B qr 12 w1 → FE ksM [(12, 31, 31), (72, 0, 12), (73, 0, 10)] w0 w1 → lv_has ls 2 [(0, .ref (ad 0)), (1, .int a1)] → W p l e ({ frames := 4, cells := 0, slots := 0, locals := 79 }) s m (List.toArray [.ref (ad 0), .int a1]) below meth c H locs 0 0 (MQ below (va_Qv (P_X12_looks_1 ad cy B qr s1 a1 w0) (fun u : va_W => wpost dC dI cy A u) A) (List.toArray [.ref (ad 0), .int a1]) s 0 0 A) (F0 m 44 ls []) := by
    intro H locs ls w1 r2 t3 hw hT hF hl
    refine lv_aload_n hx hb dX12_looks_44 rfl (lv_at hl 0 rfl) ?_
    refine lv_aload_n hx hb dX12_looks_45 rfl (lv_at hl 0 rfl) ?_
    refine lv_iload_n hx hb dX12_looks_46 rfl (lv_at hl 1 rfl) ?_
    refine lv_iconst (v := 1) hx hb dX12_looks_47 (by decide) ?_
    refine tk_Vi hC hK hw hT hA hE hSR kM_at0 (by decide) rfl (k_X12_walkerOf_3 l adK adV dC dI cy ad B hB0 (Int.le_trans hB1 (by decide)) qr s1   a1 (show 0 ≤ a1.toInt from r2) (show a1.toInt ≤ 3 from t3) w1 H.size hT ) (cwV 2 hC.2.2.2.2 uV_RX12_372 rfl rfl rfl (by decide +kernel) ⟨Nat.le_of_ble_eq_true rfl, Nat.le_of_ble_eq_true rfl⟩) rfl hl.1 rfl (Nat.le_of_ble_eq_true rfl) dX12_looks_48 (fun r4 w6 H locs hp5 hw => ?_)
    obtain ⟨rfl, hg11⟩ := hp5
    obtain ⟨g8, g9, c10⟩ := hg11
    refine tk_Vv hC hK hw hT hA hE hSR kM_at0 (by decide) rfl (k_X12_spreads_1 l adK adV dC dI cy ad B hB0 (Int.le_trans hB1 (by decide)) qr s1   r4 (show 0 ≤ r4.toInt by first | with_reducible assumption | omega) (show r4.toInt ≤ 9 by first | with_reducible assumption | omega) w1 H.size hT ) (cwV 1 hC.2.2.2.2 uV_RX12_354 rfl rfl rfl (by decide +kernel) ⟨Nat.le_of_ble_eq_true rfl, Nat.le_of_ble_eq_true rfl⟩) rfl hl.1 rfl (Nat.le_of_ble_eq_true rfl) dX12_looks_51 (fun w14 H locs hp13 hw => ?_)
    obtain ⟨hT, k15, hg16⟩ := hp13
    have hF := hF.tr k15 (by decide)
    have c17 := k15.gi kM_at12 rfl c10
    clear hg16
    refine lv_aload_n hx hb dX12_looks_54 rfl (lv_at hl 0 rfl) ?_
    refine lv_aload_n hx hb dX12_looks_55 rfl (lv_at hl 0 rfl) ?_
    refine lv_aload_n hx hb dX12_looks_56 rfl (lv_at hl 0 rfl) ?_
    refine lv_iload_n hx hb dX12_looks_57 rfl (lv_at hl 1 rfl) ?_
    refine lv_iconst (v := 0) hx hb dX12_looks_58 (by decide) ?_
    refine tk_Vi hC hK hw hT hA hE hSR kM_at0 (by decide) rfl (k_X12_walkerOf_2 l adK adV dC dI cy ad B hB0 (Int.le_trans hB1 (by decide)) qr s1   a1 (show 0 ≤ a1.toInt from r2) (show a1.toInt ≤ 3 from t3) w14 H.size hT ) (cwV 2 hC.2.2.2.2 uV_RX12_372 rfl rfl rfl (by decide +kernel) ⟨Nat.le_of_ble_eq_true rfl, Nat.le_of_ble_eq_true rfl⟩) rfl hl.1 rfl (Nat.le_of_ble_eq_true rfl) dX12_looks_59 (fun r18 w20 H locs hp19 hw => ?_)
    obtain ⟨rfl, hg25⟩ := hp19
    obtain ⟨g22, g23, c24⟩ := hg25
    refine tk_Vi hC hK hw hT hA hE hSR kM_at0 (by decide) rfl (k_X12_streetFrom_1 l adK adV dC dI cy ad B hB0 (Int.le_trans hB1 (by decide)) qr s1   r18 (show 0 ≤ r18.toInt by first | with_reducible assumption | omega) (show r18.toInt ≤ 9 by first | with_reducible assumption | omega) w14 H.size hT ) (cwV 1 hC.2.2.2.2 uV_RX12_357 rfl rfl rfl (by decide +kernel) ⟨Nat.le_of_ble_eq_true rfl, Nat.le_of_ble_eq_true rfl⟩) rfl hl.1 rfl (Nat.le_of_ble_eq_true rfl) dX12_looks_62 (fun r26 w28 H locs hp27 hw => ?_)
    obtain ⟨rfl, hg46⟩ := hp27
    rcases hg46 with ⟨g30, g31, ⟨x32, c33, rx32, tx32⟩, c34, c35⟩ | ⟨g36, g37, ⟨x38, c39, rx38, tx38⟩, c40⟩ | ⟨g41, g42, ⟨x43, c44, rx43, tx43⟩, c45⟩ | rfl
    · refine tk_puti hC hK hw hT hinX12 tyX12_ok nmX12 kM_at0 (by decide) rfl rfl 31 (by decide) (List.mem_cons_of_mem _ uw_46_23) rfl rfl rfl rfl (show (-1) ≤ r26.toInt by first | with_reducible assumption | omega) (show r26.toInt ≤ 11 by first | with_reducible assumption | omega) dX12_looks_65 (fun H locs w47 hw hT k49 c48 => ?_)
      have hF := hF.put kM_at0 (k := 31) (by decide) k49
      have c50 := k49.gi (Or.inl (tk_ne kM_at12 kM_at0 (by decide))) c17
      have c51 := k49.gi (Or.inl (tk_ne kM_at12 kM_at0 (by decide))) c24
      have c52 := k49.gi (Or.inr (by decide)) c33
      have c53 := k49.gi (Or.inl (tk_ne kM_at12 kM_at0 (by decide))) c34
      have c54 := k49.gi (Or.inl (tk_ne kM_at12 kM_at0 (by decide))) c35
      exact tk_vret hC hr hlocks hK ⟨hT, hF, ⟨r26, c48, (show (-1) ≤ r26.toInt by first | with_reducible assumption | omega), (show r26.toInt ≤ 11 by first | with_reducible assumption | omega)⟩⟩ hw dX12_looks_68
    · refine tk_puti hC hK hw hT hinX12 tyX12_ok nmX12 kM_at0 (by decide) rfl rfl 31 (by decide) (List.mem_cons_of_mem _ uw_46_23) rfl rfl rfl rfl (show (-1) ≤ r26.toInt by first | with_reducible assumption | omega) (show r26.toInt ≤ 11 by first | with_reducible assumption | omega) dX12_looks_65 (fun H locs w55 hw hT k57 c56 => ?_)
      have hF := hF.put kM_at0 (k := 31) (by decide) k57
      have c58 := k57.gi (Or.inl (tk_ne kM_at12 kM_at0 (by decide))) c17
      have c59 := k57.gi (Or.inl (tk_ne kM_at12 kM_at0 (by decide))) c24
      have c60 := k57.gi (Or.inr (by decide)) c39
      have c61 := k57.gi (Or.inl (tk_ne kM_at12 kM_at0 (by decide))) c40
      exact tk_vret hC hr hlocks hK ⟨hT, hF, ⟨r26, c56, (show (-1) ≤ r26.toInt by first | with_reducible assumption | omega), (show r26.toInt ≤ 11 by first | with_reducible assumption | omega)⟩⟩ hw dX12_looks_68
    · refine tk_puti hC hK hw hT hinX12 tyX12_ok nmX12 kM_at0 (by decide) rfl rfl 31 (by decide) (List.mem_cons_of_mem _ uw_46_23) rfl rfl rfl rfl (show (-1) ≤ r26.toInt by first | with_reducible assumption | omega) (show r26.toInt ≤ 11 by first | with_reducible assumption | omega) dX12_looks_65 (fun H locs w62 hw hT k64 c63 => ?_)
      have hF := hF.put kM_at0 (k := 31) (by decide) k64
      have c65 := k64.gi (Or.inl (tk_ne kM_at12 kM_at0 (by decide))) c17
      have c66 := k64.gi (Or.inl (tk_ne kM_at12 kM_at0 (by decide))) c24
      have c67 := k64.gi (Or.inr (by decide)) c44
      have c68 := k64.gi (Or.inl (tk_ne kM_at12 kM_at0 (by decide))) c45
      exact tk_vret hC hr hlocks hK ⟨hT, hF, ⟨r26, c63, (show (-1) ≤ r26.toInt by first | with_reducible assumption | omega), (show r26.toInt ≤ 11 by first | with_reducible assumption | omega)⟩⟩ hw dX12_looks_68
    · refine tk_puti hC hK hw hT hinX12 tyX12_ok nmX12 kM_at0 (by decide) rfl rfl 31 (by decide) (List.mem_cons_of_mem _ uw_46_23) rfl rfl rfl rfl (by decide) (by decide) dX12_looks_65 (fun H locs w69 hw hT k71 c70 => ?_)
      have hF := hF.put kM_at0 (k := 31) (by decide) k71
      have c72 := k71.gi (Or.inl (tk_ne kM_at12 kM_at0 (by decide))) c17
      have c73 := k71.gi (Or.inl (tk_ne kM_at12 kM_at0 (by decide))) c24
      exact tk_vret hC hr hlocks hK ⟨hT, hF, ⟨(-1), c70, (by decide), (by decide)⟩⟩ hw dX12_looks_68
  have J34 : ∀ (H : Heap) (locs : List Loc) (ls : Array Slot) (w74 : va_W), 0 ≤ a1.toInt → a1.toInt ≤ 3 → Wd dC dI A s.heap H locs w74 → TW ksM ad cy B qr 12 w74 → FE ksM [(12, 31, 31), (72, 0, 12), (73, 0, 10)] w0 w74 → lv_has ls 2 [(0, .ref (ad 0)), (1, .int a1)] → W p l e ({ frames := 4, cells := 0, slots := 0, locals := 79 }) s m (List.toArray [.ref (ad 0), .int a1]) below meth c H locs 0 0 (MQ below (va_Qv (P_X12_looks_1 ad cy B qr s1 a1 w0) (fun u : va_W => wpost dC dI cy A u) A) (List.toArray [.ref (ad 0), .int a1]) s 0 0 A) (F0 m 34 ls []) := by
    intro H locs ls w74 r75 t76 hw hT hF hl
    refine lv_aload_n hx hb dX12_looks_34 rfl (lv_at hl 0 rfl) ?_
    refine lv_aload_n hx hb dX12_looks_35 rfl (lv_at hl 0 rfl) ?_
    refine lv_iload_n hx hb dX12_looks_36 rfl (lv_at hl 1 rfl) ?_
    refine lv_iconst (v := 2) hx hb dX12_looks_37 (by decide) ?_
    refine tk_Vi hC hK hw hT hA hE hSR kM_at0 (by decide) rfl (k_X12_walkerOf_10 l adK adV dC dI cy ad B hB0 (Int.le_trans hB1 (by decide)) qr s1   a1 (show 0 ≤ a1.toInt from r75) (show a1.toInt ≤ 3 from t76) w74 H.size hT ) (cwV 2 hC.2.2.2.2 uV_RX12_372 rfl rfl rfl (by decide +kernel) ⟨Nat.le_of_ble_eq_true rfl, Nat.le_of_ble_eq_true rfl⟩) rfl hl.1 rfl (Nat.le_of_ble_eq_true rfl) dX12_looks_38 (fun r77 w79 H locs hp78 hw => ?_)
    obtain ⟨rfl, hg84⟩ := hp78
    obtain ⟨g81, g82, c83⟩ := hg84
    refine tk_Vv hC hK hw hT hA hE hSR kM_at0 (by decide) rfl (k_X12_takesMap_1 l adK adV dC dI cy ad B hB0 (Int.le_trans hB1 (by decide)) qr s1   r77 (show 0 ≤ r77.toInt by first | with_reducible assumption | omega) (show r77.toInt ≤ 3 by first | with_reducible assumption | omega) w74 H.size hT ) (cwV 1 hC.2.2.2.2 uV_RX12_351 rfl rfl rfl (by decide +kernel) ⟨Nat.le_of_ble_eq_true rfl, Nat.le_of_ble_eq_true rfl⟩) rfl hl.1 rfl (Nat.le_of_ble_eq_true rfl) dX12_looks_41 (fun w87 H locs hp86 hw => ?_)
    obtain ⟨hT, k88, hg89⟩ := hp86
    have hF := hF.tr k88 (by decide)
    have c90 := k88.gi kM_at12 rfl c83
    clear hg89
    exact J44  H locs ls w87 (show 0 ≤ a1.toInt from r75) (show a1.toInt ≤ 3 from t76)  hw hT hF  (lv_sub hl [0, 1] rfl)
  refine lv_aload_n hx hb dX12_looks_0 rfl (lv_at hl 0 rfl) ?_
  refine lv_iload_n hx hb dX12_looks_1 rfl (lv_at hl 1 rfl) ?_
  refine tk_Vi hC hK hw hT hA hE hSR kM_at0 (by decide) rfl (k_X12_askedToday_1 l adK adV dC dI cy ad B hB0 (Int.le_trans hB1 (by decide)) qr s1   a1 (show 0 ≤ a1.toInt from ra1) (show a1.toInt ≤ 3 from ta1) w0 s.heap.size hT ) (cwV 1 hC.2.2.2.2 uV_RX12_375 rfl rfl rfl (by decide +kernel) ⟨Nat.le_of_ble_eq_true rfl, Nat.le_of_ble_eq_true rfl⟩) rfl hl.1 rfl (Nat.le_of_ble_eq_true rfl) dX12_looks_2 (fun r91 w93 H locs hp92 hw => ?_)
  obtain ⟨rfl, hg95⟩ := hp92
  rcases hg95 with rfl | rfl
  · refine lv_if_eq (tgt := 34) hx hb dX12_looks_5 (by decide) (fun _ => ?_) (fun c => absurd (by decide) c)
    exact J34  H locs ls w0 (show 0 ≤ a1.toInt from ra1) (show a1.toInt ≤ 3 from ta1)  hw hT hF  (lv_sub hl [0, 1] rfl)
  · refine lv_if_eq (tgt := 34) hx hb dX12_looks_5 (by decide) (fun c => absurd c (by decide)) (fun _ => ?_)
    refine lv_aload_n hx hb dX12_looks_8 rfl (lv_at hl 0 rfl) ?_
    refine tk_geti hC hK hw hT hinX12 kM_at0 (by decide) rfl 30 (by decide) (List.mem_cons_of_mem _ uw_47_4) rfl rfl dX12_looks_9 (fun x96 c97 rx96 tx96 => ?_)
    refine lv_if_ne (tgt := 34) hx hb dX12_looks_12 (by decide) (fun c98 => ?_) (fun c98 => ?_)
    · have c98 : ¬ x96.toInt = (0 : Int) := wk_eqF c98
      exact J34  H locs ls w0 (show 0 ≤ a1.toInt from ra1) (show a1.toInt ≤ 3 from ta1)  hw hT hF  (lv_sub hl [0, 1] rfl)
    · have c98 : x96.toInt = (0 : Int) := wk_eq.mp c98
      refine lv_aload_n hx hb dX12_looks_15 rfl (lv_at hl 0 rfl) ?_
      refine lv_aload_n hx hb dX12_looks_16 rfl (lv_at hl 0 rfl) ?_
      refine lv_iload_n hx hb dX12_looks_17 rfl (lv_at hl 1 rfl) ?_
      refine lv_iconst (v := 4) hx hb dX12_looks_18 (by decide) ?_
      refine tk_Vi hC hK hw hT hA hE hSR kM_at0 (by decide) rfl (k_X12_walkerOf_4 l adK adV dC dI cy ad B hB0 (Int.le_trans hB1 (by decide)) qr s1   a1 (show 0 ≤ a1.toInt from ra1) (show a1.toInt ≤ 3 from ta1) w0 H.size hT ) (cwV 2 hC.2.2.2.2 uV_RX12_372 rfl rfl rfl (by decide +kernel) ⟨Nat.le_of_ble_eq_true rfl, Nat.le_of_ble_eq_true rfl⟩) rfl hl.1 rfl (Nat.le_of_ble_eq_true rfl) dX12_looks_19 (fun r99 w101 H locs hp100 hw => ?_)
      obtain ⟨rfl, hg106⟩ := hp100
      obtain ⟨g103, g104, c105⟩ := hg106
      refine lv_bipush (v := 24) hx hb dX12_looks_22 (by decide) ?_
      refine lv_idiv hx hb dX12_looks_24 (by decide) ?_
      refine lv_topi (fun x107 ex107 => ?_)
      have ex107 : x107.toInt = r99.toInt / (24 : Int) := by rw [ex107]; exact wk_div (show 0 ≤ r99.toInt by first | with_reducible assumption | omega) (show 0 < (24 : Int) by decide)
      refine lv_bipush (v := 7) hx hb dX12_looks_25 (by decide) ?_
      refine lv_irem hx hb dX12_looks_27 (by decide) ?_
      refine lv_topi (fun x108 ex108 => ?_)
      have ex108 : x108.toInt = x107.toInt % (7 : Int) := by rw [ex108]; exact wk_rem (show 0 ≤ x107.toInt by first | with_reducible assumption | omega) (show 0 < (7 : Int) by decide)
      refine tk_Vv hC hK hw hT hA hE hSR kM_at0 (by decide) rfl (k_X12_takesDay_1 l adK adV dC dI cy ad B hB0 (Int.le_trans hB1 (by decide)) qr s1   x108 (show 0 ≤ x108.toInt by first | with_reducible assumption | omega) (show x108.toInt ≤ 6 by first | with_reducible assumption | omega) w0 H.size hT ) (cwV 1 hC.2.2.2.2 uV_RX12_381 rfl rfl rfl (by decide +kernel) ⟨Nat.le_of_ble_eq_true rfl, Nat.le_of_ble_eq_true rfl⟩) rfl hl.1 rfl (Nat.le_of_ble_eq_true rfl) dX12_looks_28 (fun w111 H locs hp110 hw => ?_)
      obtain ⟨hT, k112, hg113⟩ := hp110
      have hF := hF.tr k112 (by decide)
      have c114 := k112.gi kM_at0 (by decide) c97
      clear hg113
      refine lv_goto (tgt := 44) hx hb dX12_looks_31 (by decide) ?_
      exact J44  H locs ls w111 (show 0 ≤ a1.toInt from ra1) (show a1.toInt ≤ 3 from ta1)  hw hT hF  (lv_sub hl [0, 1] rfl)
abbrev P_X12_takesStreet_1 (ad : Nat → Nat) (cy : Nat → ClassId) (B : Int) (qr : Nat) (s1 : Int) (a1 : Int32) (a2 : Int32) (w0 : va_W) : va_W → Prop := fun u => TW ksM ad cy (B + 9) qr 12 u ∧ FE ksM [(71, 216, 243), (71, 220, 247), (71, 223, 250)] w0 u ∧ ((True))
set_option maxHeartbeats 4000000 in
set_option maxRecDepth 100000 in
theorem k_X12_takesStreet_1 (l : Launch) (adK adV : Nat → Nat) (dC : Nat → ClassId) (dI : Nat → Nat → Nat) (cy : Nat → ClassId) (ad : Nat → Nat) (B : Int) (hB0 : 100000 ≤ B) (hB1 : B ≤ 1073741824) (qr : Nat) (s1 : Int)  (a1 : Int32) (ra1 : 0 ≤ a1.toInt) (ta1 : a1.toInt ≤ 3) (a2 : Int32) (ra2 : 0 ≤ a2.toInt) (ta2 : a2.toInt ≤ 11) (w0 : va_W) (sz : Nat) (hT : TW ksM ad cy B qr 12 w0)  : Met l yX12_takesStreet (wu yX12_takesStreet cX12_takesStreet 5 none) ({ frames := 3, cells := 0, slots := 0, locals := 56 }) (va_Pc [.ref (ad 0), .int a1, .int a2] (wpreS adK adV dC dI cy sz w0)) (va_Qv (P_X12_takesStreet_1 ad cy B qr s1 a1 a2 w0) (fun u : va_W => wpost dC dI cy (va_A w0 sz) u) (va_A w0 sz)) 0 0 (va_A w0 sz) := by
  refine Met.ofW (cc := cX12_takesStreet) (maxL := 5) (ret := none) (by decide) rfl ?_
  intro p e s m args below meth c s₁ Bk hml hv
  obtain ⟨rfl, ⟨hsz, hP, hK, hD0⟩, hE, hSR⟩ := hv
  have hx := Bk.exec
  have hb := Bk.bytes
  have hr := Bk.returns
  have hlocks := Bk.notSynchronized
  have hC : CallFix p m c cX12_takesStreet 5 s _ (wu yX12_takesStreet cX12_takesStreet 5 none) RX12 := ⟨hx, hb, hml, findClass_of_methodNamed Bk.named, atoms_spec (ws := (wu yX12_takesStreet cX12_takesStreet 5 none)) Bk.pre⟩
  subst hsz
  have hD := hD0.self (sz := s.heap.size)
  generalize hAe : va_A w0 s.heap.size = A at hD hE ⊢
  have hA : ∀ q : Nat, s.heap.size ≤ q → A q := fun q h => by rw [← hAe]; exact Or.inr h
  have hw : Wd dC dI A s.heap s.heap [] w0 := ⟨hP, hD, va_S.rf⟩
  have hF : FE ksM [(71, 216, 243), (71, 220, 247), (71, 223, 250)] w0 w0 := FE.rf
  have hl := lv_entry ([.ref (ad 0), .int a1, .int a2]) (n := 5) (Nat.le_of_ble_eq_true rfl)
  rw [lg_entry_eq]
  generalize (lg_sl ([.ref (ad 0), .int a1, .int a2]) ++ List.replicate (5 - (lg_sl ([.ref (ad 0), .int a1, .int a2])).length) Slot.unset).toArray = ls at hl ⊢
  have hl : lv_has ls 5 [(0, .ref (ad 0)), (1, .int a1), (2, .int a2)] := hl
  generalize hloc : ([] : List Loc) = locs at hw ⊢
  have hinX12 : ∀ w ∈ u_ws RX12 TX12 42, w ∈ (wu yX12_takesStreet cX12_takesStreet 5 none) := fun _ h => List.mem_cons_of_mem _ (up_71 h)
  refine lv_sipush (v := 216) hx hb dX12_takesStreet_0 (by decide) ?_
  refine lv_bipush (v := 9) hx hb dX12_takesStreet_3 (by decide) ?_
  refine lv_iload_n hx hb dX12_takesStreet_5 rfl (lv_at hl 1 rfl) ?_
  refine lv_imul hx hb dX12_takesStreet_6 ?_
  refine lv_topi (fun x1 ex1 => ?_)
  have ex1 : x1.toInt = (9 : Int) * a1.toInt := by rw [ex1]; exact wk_mul (show (-2147483648) ≤ (9 : Int) * a1.toInt by omega) (show (9 : Int) * a1.toInt ≤ 2147483647 by omega)
  refine lv_iadd hx hb dX12_takesStreet_7 ?_
  refine lv_topi (fun x2 ex2 => ?_)
  have ex2 : x2.toInt = (216 : Int) + x1.toInt := by rw [ex2]; exact wk_add (show (-2147483648) ≤ (216 : Int) + x1.toInt by omega) (show (216 : Int) + x1.toInt ≤ 2147483647 by omega)
  refine lv_istore_n (lv' := [(3, .int x2), (0, .ref (ad 0)), (1, .int a1), (2, .int a2)]) hx hb dX12_takesStreet_8 rfl hl (by decide) rfl (fun ls hl => ?_)
  refine lv_aload_n hx hb dX12_takesStreet_9 rfl (lv_at hl 1 rfl) ?_
  refine tk_getA hC hK hw hT hinX12 kM_at0 (by decide) rfl 26 (by decide) (List.mem_cons_of_mem _ uw_7_1) rfl rfl dX12_takesStreet_10 ?_
  refine lv_iload_n hx hb dX12_takesStreet_13 rfl (lv_at hl 0 rfl) ?_
  refine tk_ialdR hC hK hw hT kM_at12 rfl (show 0 ≤ x2.toInt by first | with_reducible assumption | omega) (show x2.toInt < 296 by first | with_reducible assumption | omega) dX12_takesStreet_14 (fun x3 c4 Ex3 => ?_)
  have c4 : gi w0 12 (9 * a1.toInt + 216).toNat = x3 := (congrArg (gi w0 12) (congrArg Int.toNat (show 9 * a1.toInt + 216 = x2.toInt by first | exact Int.le_antisymm (by omega) (by omega) | omega))).trans c4
  have bx3 := tk_rgI rfl 216 9 4 0 9 (by decide +kernel) ⟨(a1.toInt - 0).toNat, by omega, show x2.toInt.toNat = 216 + 9 * (a1.toInt - 0).toNat by omega⟩ Ex3
  refine lv_istore (lv' := [(4, .int x3), (3, .int x2), (0, .ref (ad 0)), (1, .int a1), (2, .int a2)]) hx hb dX12_takesStreet_15 hl (by decide) rfl (fun ls hl => ?_)
  refine lv_aload_n hx hb dX12_takesStreet_17 rfl (lv_at hl 2 rfl) ?_
  refine tk_getA hC hK hw hT hinX12 kM_at0 (by decide) rfl 26 (by decide) (List.mem_cons_of_mem _ uw_7_1) rfl rfl dX12_takesStreet_18 ?_
  refine lv_iload_n hx hb dX12_takesStreet_21 rfl (lv_at hl 1 rfl) ?_
  refine lv_aload_n hx hb dX12_takesStreet_22 rfl (lv_at hl 2 rfl) ?_
  refine lv_iload_n hx hb dX12_takesStreet_23 rfl (lv_at hl 4 rfl) ?_
  refine lv_iload hx hb dX12_takesStreet_24 (lv_at hl 0 rfl) ?_
  refine tk_Vi hC hK hw hT hA hE hSR kM_at0 (by decide) rfl (k_X12_otherOf_1 l adK adV dC dI cy ad B hB0 (Int.le_trans hB1 (by decide)) qr s1   a2 (show 0 ≤ a2.toInt from ra2) (show a2.toInt ≤ 11 from ta2) x3 (show 0 ≤ x3.toInt by first | with_reducible assumption | omega) (show x3.toInt ≤ 9 by first | with_reducible assumption | omega) w0 s.heap.size hT ) (cwV 2 hC.2.2.2.2 uV_RX12_348 rfl rfl rfl (by decide +kernel) ⟨Nat.le_of_ble_eq_true rfl, Nat.le_of_ble_eq_true rfl⟩) rfl hl.1 rfl (Nat.le_of_ble_eq_true rfl) dX12_takesStreet_26 (fun r5 w7 H locs hp6 hw => ?_)
  obtain ⟨rfl, hg14⟩ := hp6
  rcases hg14 with ⟨g9, g10⟩ | ⟨g11, g12, c13⟩
  · refine tk_iastR hC hK hw hT kM_at12 (by decide) rfl (show 0 ≤ x2.toInt by first | with_reducible assumption | omega) (show x2.toInt < 296 by first | with_reducible assumption | omega) (tk_rgS rfl 216 9 4 0 9 (by decide +kernel) ⟨(a1.toInt - 0).toNat, by omega, show x2.toInt.toNat = 216 + 9 * (a1.toInt - 0).toNat by omega⟩ (show 0 ≤ r5.toInt by first | with_reducible assumption | omega) (show r5.toInt ≤ 9 by first | with_reducible assumption | omega)) dX12_takesStreet_29 (fun H locs w15 hw hT k17 c16 => ?_)
    have hF := hF.put kM_at12 (inE_of (a := 216) (b := 243) (by decide) (show 216 ≤ x2.toInt.toNat by omega) (show x2.toInt.toNat ≤ 243 by omega)) k17
    refine lv_aload_n hx hb dX12_takesStreet_30 rfl (lv_at hl 2 rfl) ?_
    refine tk_getA hC hK hw hT hinX12 kM_at0 (by decide) rfl 26 (by decide) (List.mem_cons_of_mem _ uw_7_1) rfl rfl dX12_takesStreet_31 ?_
    refine lv_iload_n hx hb dX12_takesStreet_34 rfl (lv_at hl 1 rfl) ?_
    refine lv_bipush (v := 7) hx hb dX12_takesStreet_35 (by decide) ?_
    refine lv_iadd hx hb dX12_takesStreet_37 ?_
    refine lv_topi (fun x18 ex18 => ?_)
    have ex18 : x18.toInt = x2.toInt + (7 : Int) := by rw [ex18]; exact wk_add (show (-2147483648) ≤ x2.toInt + (7 : Int) by omega) (show x2.toInt + (7 : Int) ≤ 2147483647 by omega)
    refine lv_iload hx hb dX12_takesStreet_38 (lv_at hl 0 rfl) ?_
    refine tk_iastR hC hK hw hT kM_at12 (by decide) rfl (show 0 ≤ x18.toInt by first | with_reducible assumption | omega) (show x18.toInt < 296 by first | with_reducible assumption | omega) (tk_rgS rfl 223 9 4 0 9 (by decide +kernel) ⟨(a1.toInt - 0).toNat, by omega, show x18.toInt.toNat = 223 + 9 * (a1.toInt - 0).toNat by omega⟩ (show 0 ≤ x3.toInt by first | with_reducible assumption | omega) (show x3.toInt ≤ 9 by first | with_reducible assumption | omega)) dX12_takesStreet_40 (fun H locs w19 hw hT k21 c20 => ?_)
    have hF := hF.put kM_at12 (inE_of (a := 223) (b := 250) (by decide) (show 223 ≤ x18.toInt.toNat by omega) (show x18.toInt.toNat ≤ 250 by omega)) k21
    refine lv_aload_n hx hb dX12_takesStreet_41 rfl (lv_at hl 2 rfl) ?_
    refine tk_getA hC hK hw hT hinX12 kM_at0 (by decide) rfl 26 (by decide) (List.mem_cons_of_mem _ uw_7_1) rfl rfl dX12_takesStreet_42 ?_
    refine lv_iload_n hx hb dX12_takesStreet_45 rfl (lv_at hl 1 rfl) ?_
    refine lv_iconst (v := 4) hx hb dX12_takesStreet_46 (by decide) ?_
    refine lv_iadd hx hb dX12_takesStreet_47 ?_
    refine lv_topi (fun x22 ex22 => ?_)
    have ex22 : x22.toInt = x2.toInt + (4 : Int) := by rw [ex22]; exact wk_add (show (-2147483648) ≤ x2.toInt + (4 : Int) by omega) (show x2.toInt + (4 : Int) ≤ 2147483647 by omega)
    refine lv_dup2_11 hx hb dX12_takesStreet_48 rfl rfl ?_
    refine tk_ialdR hC hK hw hT kM_at12 rfl (show 0 ≤ x22.toInt by first | with_reducible assumption | omega) (show x22.toInt < 296 by first | with_reducible assumption | omega) dX12_takesStreet_49 (fun x23 c24 Ex23 => ?_)
    have c24 : gi w19 12 (9 * a1.toInt + 220).toNat = x23 := (congrArg (gi w19 12) (congrArg Int.toNat (show 9 * a1.toInt + 220 = x22.toInt by first | exact Int.le_antisymm (by omega) (by omega) | omega))).trans c24
    have bx23 := (tk_rgB rfl 220 9 4 (by decide +kernel) ⟨(a1.toInt - 0).toNat, by omega, show x22.toInt.toNat = 220 + 9 * (a1.toInt - 0).toNat by omega⟩).mp Ex23
    refine lv_aload_n hx hb dX12_takesStreet_50 rfl (lv_at hl 2 rfl) ?_
    refine lv_iload_n hx hb dX12_takesStreet_51 rfl (lv_at hl 4 rfl) ?_
    refine lv_iconst (v := 2) hx hb dX12_takesStreet_52 (by decide) ?_
    refine tk_Vi hC hK hw hT hA hE hSR kM_at0 (by decide) rfl (k_X12_streetOf_6 l adK adV dC dI cy ad B hB0 (Int.le_trans hB1 (by decide)) qr s1   a2 (show 0 ≤ a2.toInt from ra2) (show a2.toInt ≤ 11 from ta2) w19 H.size hT ) (cwV 2 hC.2.2.2.2 uV_RX12_300 rfl rfl rfl (by decide +kernel) ⟨Nat.le_of_ble_eq_true rfl, Nat.le_of_ble_eq_true rfl⟩) rfl hl.1 rfl (Nat.le_of_ble_eq_true rfl) dX12_takesStreet_53 (fun r25 w27 H locs hp26 hw => ?_)
    obtain ⟨rfl, hg32⟩ := hp26
    obtain ⟨g29, g30, c31⟩ := hg32
    refine lv_iadd hx hb dX12_takesStreet_56 ?_
    refine lv_topi (fun x33 ex33 => ?_)
    have ex33 : x33.toInt = x23.toInt + r25.toInt := by rw [ex33]; exact wk_add (show (-2147483648) ≤ x23.toInt + r25.toInt by omega) (show x23.toInt + r25.toInt ≤ 2147483647 by omega)
    have hT := hT.up (show B ≤ (B + 9) by omega)
    refine tk_iastR hC hK hw hT kM_at12 (by decide) rfl (show 0 ≤ x22.toInt by first | with_reducible assumption | omega) (show x22.toInt < 296 by first | with_reducible assumption | omega) ((tk_rgB rfl 220 9 4 (by decide +kernel) ⟨(a1.toInt - 0).toNat, by omega, show x22.toInt.toNat = 220 + 9 * (a1.toInt - 0).toNat by omega⟩).mpr ⟨(show 0 ≤ x33.toInt by first | with_reducible assumption | omega), (show x33.toInt ≤ (B + 9) by omega)⟩) dX12_takesStreet_57 (fun H locs w34 hw hT k36 c35 => ?_)
    have hF := hF.put kM_at12 (inE_of (a := 220) (b := 247) (by decide) (show 220 ≤ x22.toInt.toNat by omega) (show x22.toInt.toNat ≤ 247 by omega)) k36
    exact tk_vret hC hr hlocks hK ⟨hT, hF, trivial⟩ hw dX12_takesStreet_58
  · refine tk_iastR hC hK hw hT kM_at12 (by decide) rfl (show 0 ≤ x2.toInt by first | with_reducible assumption | omega) (show x2.toInt < 296 by first | with_reducible assumption | omega) (tk_rgS rfl 216 9 4 0 9 (by decide +kernel) ⟨(a1.toInt - 0).toNat, by omega, show x2.toInt.toNat = 216 + 9 * (a1.toInt - 0).toNat by omega⟩ (show 0 ≤ r5.toInt by first | with_reducible assumption | omega) (show r5.toInt ≤ 9 by first | with_reducible assumption | omega)) dX12_takesStreet_29 (fun H locs w37 hw hT k39 c38 => ?_)
    have hF := hF.put kM_at12 (inE_of (a := 216) (b := 243) (by decide) (show 216 ≤ x2.toInt.toNat by omega) (show x2.toInt.toNat ≤ 243 by omega)) k39
    refine lv_aload_n hx hb dX12_takesStreet_30 rfl (lv_at hl 2 rfl) ?_
    refine tk_getA hC hK hw hT hinX12 kM_at0 (by decide) rfl 26 (by decide) (List.mem_cons_of_mem _ uw_7_1) rfl rfl dX12_takesStreet_31 ?_
    refine lv_iload_n hx hb dX12_takesStreet_34 rfl (lv_at hl 1 rfl) ?_
    refine lv_bipush (v := 7) hx hb dX12_takesStreet_35 (by decide) ?_
    refine lv_iadd hx hb dX12_takesStreet_37 ?_
    refine lv_topi (fun x40 ex40 => ?_)
    have ex40 : x40.toInt = x2.toInt + (7 : Int) := by rw [ex40]; exact wk_add (show (-2147483648) ≤ x2.toInt + (7 : Int) by omega) (show x2.toInt + (7 : Int) ≤ 2147483647 by omega)
    refine lv_iload hx hb dX12_takesStreet_38 (lv_at hl 0 rfl) ?_
    refine tk_iastR hC hK hw hT kM_at12 (by decide) rfl (show 0 ≤ x40.toInt by first | with_reducible assumption | omega) (show x40.toInt < 296 by first | with_reducible assumption | omega) (tk_rgS rfl 223 9 4 0 9 (by decide +kernel) ⟨(a1.toInt - 0).toNat, by omega, show x40.toInt.toNat = 223 + 9 * (a1.toInt - 0).toNat by omega⟩ (show 0 ≤ x3.toInt by first | with_reducible assumption | omega) (show x3.toInt ≤ 9 by first | with_reducible assumption | omega)) dX12_takesStreet_40 (fun H locs w41 hw hT k43 c42 => ?_)
    have hF := hF.put kM_at12 (inE_of (a := 223) (b := 250) (by decide) (show 223 ≤ x40.toInt.toNat by omega) (show x40.toInt.toNat ≤ 250 by omega)) k43
    refine lv_aload_n hx hb dX12_takesStreet_41 rfl (lv_at hl 2 rfl) ?_
    refine tk_getA hC hK hw hT hinX12 kM_at0 (by decide) rfl 26 (by decide) (List.mem_cons_of_mem _ uw_7_1) rfl rfl dX12_takesStreet_42 ?_
    refine lv_iload_n hx hb dX12_takesStreet_45 rfl (lv_at hl 1 rfl) ?_
    refine lv_iconst (v := 4) hx hb dX12_takesStreet_46 (by decide) ?_
    refine lv_iadd hx hb dX12_takesStreet_47 ?_
    refine lv_topi (fun x44 ex44 => ?_)
    have ex44 : x44.toInt = x2.toInt + (4 : Int) := by rw [ex44]; exact wk_add (show (-2147483648) ≤ x2.toInt + (4 : Int) by omega) (show x2.toInt + (4 : Int) ≤ 2147483647 by omega)
    refine lv_dup2_11 hx hb dX12_takesStreet_48 rfl rfl ?_
    refine tk_ialdR hC hK hw hT kM_at12 rfl (show 0 ≤ x44.toInt by first | with_reducible assumption | omega) (show x44.toInt < 296 by first | with_reducible assumption | omega) dX12_takesStreet_49 (fun x45 c46 Ex45 => ?_)
    have c46 : gi w41 12 (9 * a1.toInt + 220).toNat = x45 := (congrArg (gi w41 12) (congrArg Int.toNat (show 9 * a1.toInt + 220 = x44.toInt by first | exact Int.le_antisymm (by omega) (by omega) | omega))).trans c46
    have bx45 := (tk_rgB rfl 220 9 4 (by decide +kernel) ⟨(a1.toInt - 0).toNat, by omega, show x44.toInt.toNat = 220 + 9 * (a1.toInt - 0).toNat by omega⟩).mp Ex45
    refine lv_aload_n hx hb dX12_takesStreet_50 rfl (lv_at hl 2 rfl) ?_
    refine lv_iload_n hx hb dX12_takesStreet_51 rfl (lv_at hl 4 rfl) ?_
    refine lv_iconst (v := 2) hx hb dX12_takesStreet_52 (by decide) ?_
    refine tk_Vi hC hK hw hT hA hE hSR kM_at0 (by decide) rfl (k_X12_streetOf_6 l adK adV dC dI cy ad B hB0 (Int.le_trans hB1 (by decide)) qr s1   a2 (show 0 ≤ a2.toInt from ra2) (show a2.toInt ≤ 11 from ta2) w41 H.size hT ) (cwV 2 hC.2.2.2.2 uV_RX12_300 rfl rfl rfl (by decide +kernel) ⟨Nat.le_of_ble_eq_true rfl, Nat.le_of_ble_eq_true rfl⟩) rfl hl.1 rfl (Nat.le_of_ble_eq_true rfl) dX12_takesStreet_53 (fun r47 w49 H locs hp48 hw => ?_)
    obtain ⟨rfl, hg54⟩ := hp48
    obtain ⟨g51, g52, c53⟩ := hg54
    refine lv_iadd hx hb dX12_takesStreet_56 ?_
    refine lv_topi (fun x55 ex55 => ?_)
    have ex55 : x55.toInt = x45.toInt + r47.toInt := by rw [ex55]; exact wk_add (show (-2147483648) ≤ x45.toInt + r47.toInt by omega) (show x45.toInt + r47.toInt ≤ 2147483647 by omega)
    have hT := hT.up (show B ≤ (B + 9) by omega)
    refine tk_iastR hC hK hw hT kM_at12 (by decide) rfl (show 0 ≤ x44.toInt by first | with_reducible assumption | omega) (show x44.toInt < 296 by first | with_reducible assumption | omega) ((tk_rgB rfl 220 9 4 (by decide +kernel) ⟨(a1.toInt - 0).toNat, by omega, show x44.toInt.toNat = 220 + 9 * (a1.toInt - 0).toNat by omega⟩).mpr ⟨(show 0 ≤ x55.toInt by first | with_reducible assumption | omega), (show x55.toInt ≤ (B + 9) by omega)⟩) dX12_takesStreet_57 (fun H locs w56 hw hT k58 c57 => ?_)
    have hF := hF.put kM_at12 (inE_of (a := 220) (b := 247) (by decide) (show 220 ≤ x44.toInt.toNat by omega) (show x44.toInt.toNat ≤ 247 by omega)) k58
    exact tk_vret hC hr hlocks hK ⟨hT, hF, trivial⟩ hw dX12_takesStreet_58
abbrev P_X12_steps_1 (ad : Nat → Nat) (cy : Nat → ClassId) (B : Int) (qr : Nat) (s1 : Int) (a1 : Int32) (w0 : va_W) : Int32 → va_W → Prop := fun r u => TW ksM ad cy (B + 9) qr 12 u ∧ FE ksM [(12, 24, 24), (12, 31, 31), (69, 0, 64), (70, 0, 10), (71, 216, 243), (71, 220, 247), (71, 221, 248), (71, 222, 249), (71, 223, 250), (71, 224, 251), (72, 0, 12), (73, 0, 10)] w0 u ∧ ((r = 0) ∨ (r = 1))
set_option maxHeartbeats 4000000 in
set_option maxRecDepth 100000 in
theorem k_X12_steps_1 (l : Launch) (adK adV : Nat → Nat) (dC : Nat → ClassId) (dI : Nat → Nat → Nat) (cy : Nat → ClassId) (ad : Nat → Nat) (B : Int) (hB0 : 100000 ≤ B) (hB1 : B ≤ 1073741824) (qr : Nat) (s1 : Int)  (a1 : Int32) (ra1 : 0 ≤ a1.toInt) (ta1 : a1.toInt ≤ 3) (w0 : va_W) (sz : Nat) (hT : TW ksM ad cy B qr 12 w0) (hRW : RW w0) : Met l yX12_steps (wu yX12_steps cX12_steps 4 (some .boolean)) ({ frames := 8, cells := 0, slots := 0, locals := 171 }) (va_Pc [.ref (ad 0), .int a1] (wpreS adK adV dC dI cy sz w0)) (va_Qi (P_X12_steps_1 ad cy B qr s1 a1 w0) (fun u : va_W => wpost dC dI cy (va_A w0 sz) u) (va_A w0 sz)) 0 0 (va_A w0 sz) := by
  refine Met.ofW (cc := cX12_steps) (maxL := 4) (ret := (some .boolean)) (by decide) rfl ?_
  intro p e s m args below meth c s₁ Bk hml hv
  obtain ⟨rfl, ⟨hsz, hP, hK, hD0⟩, hE, hSR⟩ := hv
  have hx := Bk.exec
  have hb := Bk.bytes
  have hr := Bk.returns
  have hlocks := Bk.notSynchronized
  have hC : CallFix p m c cX12_steps 4 s _ (wu yX12_steps cX12_steps 4 (some .boolean)) RX12 := ⟨hx, hb, hml, findClass_of_methodNamed Bk.named, atoms_spec (ws := (wu yX12_steps cX12_steps 4 (some .boolean))) Bk.pre⟩
  subst hsz
  have hD := hD0.self (sz := s.heap.size)
  generalize hAe : va_A w0 s.heap.size = A at hD hE ⊢
  have hA : ∀ q : Nat, s.heap.size ≤ q → A q := fun q h => by rw [← hAe]; exact Or.inr h
  have hw : Wd dC dI A s.heap s.heap [] w0 := ⟨hP, hD, va_S.rf⟩
  have hF : FE ksM [(12, 24, 24), (12, 31, 31), (69, 0, 64), (70, 0, 10), (71, 216, 243), (71, 220, 247), (71, 221, 248), (71, 222, 249), (71, 223, 250), (71, 224, 251), (72, 0, 12), (73, 0, 10)] w0 w0 := FE.rf
  have hl := lv_entry ([.ref (ad 0), .int a1]) (n := 4) (Nat.le_of_ble_eq_true rfl)
  rw [lg_entry_eq]
  generalize (lg_sl ([.ref (ad 0), .int a1]) ++ List.replicate (4 - (lg_sl ([.ref (ad 0), .int a1])).length) Slot.unset).toArray = ls at hl ⊢
  have hl : lv_has ls 4 [(0, .ref (ad 0)), (1, .int a1)] := hl
  generalize hloc : ([] : List Loc) = locs at hw ⊢
  have hinX12 : ∀ w ∈ u_ws RX12 TX12 42, w ∈ (wu yX12_steps cX12_steps 4 (some .boolean)) := fun _ h => List.mem_cons_of_mem _ (up_71 h)
  have J125 : ∀ (v125_2 : Int32) (v125_3 : Int32) (f125_0_31 : Int32) (H : Heap) (locs : List Loc) (ls : Array Slot) (w1 : va_W), 0 ≤ a1.toInt → a1.toInt ≤ 3 → 0 ≤ v125_2.toInt → v125_2.toInt ≤ 1 → 216 ≤ v125_3.toInt → v125_3.toInt ≤ 243 → v125_3.toInt = 9 * a1.toInt + 216 → (-1) ≤ f125_0_31.toInt → f125_0_31.toInt ≤ 11 → Wd dC dI A s.heap H locs w1 → TW ksM ad cy (B + 9) qr 12 w1 → FE ksM [(12, 24, 24), (12, 31, 31), (69, 0, 64), (70, 0, 10), (71, 216, 243), (71, 220, 247), (71, 221, 248), (71, 222, 249), (71, 223, 250), (71, 224, 251), (72, 0, 12), (73, 0, 10)] w0 w1 → RW w1 → gi w1 0 31 = f125_0_31 → lv_has ls 4 [(0, .ref (ad 0)), (1, .int a1), (2, .int v125_2), (3, .int v125_3)] → W p l e ({ frames := 8, cells := 0, slots := 0, locals := 171 }) s m (List.toArray [.ref (ad 0), .int a1]) below meth c H locs 0 0 (MQ below (va_Qi (P_X12_steps_1 ad cy B qr s1 a1 w0) (fun u : va_W => wpost dC dI cy A u) A) (List.toArray [.ref (ad 0), .int a1]) s 0 0 A) (F0 m 125 ls []) := by
    intro v125_2 v125_3 f125_0_31 H locs ls w1 r2 t3 r4 t5 r6 t7 l8 r9 t10 hw hT hF hRW c11 hl
    refine lv_iconst (v := 1) hx hb dX12_steps_125 (by decide) ?_
    refine lv_goto (tgt := 130) hx hb dX12_steps_126 (by decide) ?_
    exact tk_zret hC hr rfl hlocks hK ⟨hT, hF, (Or.inr rfl)⟩ hw dX12_steps_130
  have J104 : ∀ (v104_2 : Int32) (v104_3 : Int32) (f104_0_31 : Int32) (H : Heap) (locs : List Loc) (ls : Array Slot) (w12 : va_W), 0 ≤ a1.toInt → a1.toInt ≤ 3 → 216 ≤ v104_3.toInt → v104_3.toInt ≤ 243 → v104_3.toInt = 9 * a1.toInt + 216 → (-1) ≤ f104_0_31.toInt → f104_0_31.toInt ≤ 11 → Wd dC dI A s.heap H locs w12 → TW ksM ad cy (B + 9) qr 12 w12 → FE ksM [(12, 24, 24), (12, 31, 31), (69, 0, 64), (70, 0, 10), (71, 216, 243), (71, 220, 247), (71, 221, 248), (71, 222, 249), (71, 223, 250), (71, 224, 251), (72, 0, 12), (73, 0, 10)] w0 w12 → RW w12 → gi w12 0 31 = f104_0_31 → lv_has ls 4 [(0, .ref (ad 0)), (1, .int a1), (2, .int v104_2), (3, .int v104_3)] → W p l e ({ frames := 8, cells := 0, slots := 0, locals := 171 }) s m (List.toArray [.ref (ad 0), .int a1]) below meth c H locs 0 0 (MQ below (va_Qi (P_X12_steps_1 ad cy B qr s1 a1 w0) (fun u : va_W => wpost dC dI cy A u) A) (List.toArray [.ref (ad 0), .int a1]) s 0 0 A) (F0 m 104 ls []) := by
    intro v104_2 v104_3 f104_0_31 H locs ls w12 r13 t14 r15 t16 l17 r18 t19 hw hT hF hRW c20 hl
    refine lv_aload_n hx hb dX12_steps_104 rfl (lv_at hl 0 rfl) ?_
    refine tk_getA hC hK hw hT hinX12 kM_at0 (by decide) rfl 26 (by decide) (List.mem_cons_of_mem _ uw_7_1) rfl rfl dX12_steps_105 ?_
    refine lv_iload_n hx hb dX12_steps_108 rfl (lv_at hl 3 rfl) ?_
    refine lv_iconst (v := 5) hx hb dX12_steps_109 (by decide) ?_
    refine lv_iadd hx hb dX12_steps_110 ?_
    refine lv_topi (fun x21 ex21 => ?_)
    have ex21 : x21.toInt = v104_3.toInt + (5 : Int) := by rw [ex21]; exact wk_add (show (-2147483648) ≤ v104_3.toInt + (5 : Int) by omega) (show v104_3.toInt + (5 : Int) ≤ 2147483647 by omega)
    refine lv_dup2_11 hx hb dX12_steps_111 rfl rfl ?_
    refine tk_ialdR hC hK hw hT kM_at12 rfl (show 0 ≤ x21.toInt by first | with_reducible assumption | omega) (show x21.toInt < 296 by first | with_reducible assumption | omega) dX12_steps_112 (fun x22 c23 Ex22 => ?_)
    have c23 : gi w12 12 (9 * a1.toInt + 221).toNat = x22 := (congrArg (gi w12 12) (congrArg Int.toNat (show 9 * a1.toInt + 221 = x21.toInt by first | exact Int.le_antisymm (by omega) (by omega) | omega))).trans c23
    refine lv_iconst (v := 1) hx hb dX12_steps_113 (by decide) ?_
    refine lv_iadd hx hb dX12_steps_114 ?_
    have nx24 := wk_i32 x22
    refine lv_topi (fun x25 ex25 => ?_)
    refine tk_iastR hC hK hw hT kM_at12 (by decide) rfl (show 0 ≤ x21.toInt by first | with_reducible assumption | omega) (show x21.toInt < 296 by first | with_reducible assumption | omega) (tk_rgS rfl 221 9 4 (-2147483648) 2147483647 (by decide +kernel) ⟨(a1.toInt - 0).toNat, by omega, show x21.toInt.toNat = 221 + 9 * (a1.toInt - 0).toNat by omega⟩ (wk_i32 x25).1 (wk_i32 x25).2) dX12_steps_115 (fun H locs w26 hw hT k28 c27 => ?_)
    have hRW := RW_F1 k28 (by decide) (by decide) (by decide) hRW
    have hF := hF.put kM_at12 (inE_of (a := 221) (b := 248) (by decide) (show 221 ≤ x21.toInt.toNat by omega) (show x21.toInt.toNat ≤ 248 by omega)) k28
    have c29 := k28.gi (Or.inl (tk_ne kM_at0 kM_at12 (by decide))) c20
    refine lv_iload_n hx hb dX12_steps_116 rfl (lv_at hl 2 rfl) ?_
    refine lv_if_eq (tgt := 125) hx hb dX12_steps_117 (by decide) (fun c30 => ?_) (fun c30 => ?_)
    · have c30 : v104_2.toInt = (0 : Int) := wk_eq.mp c30
      exact J125 v104_2 v104_3 f104_0_31 H locs ls w26 (show 0 ≤ a1.toInt from r13) (show a1.toInt ≤ 3 from t14) (show 0 ≤ v104_2.toInt by first | with_reducible assumption | omega) (show v104_2.toInt ≤ 1 by first | with_reducible assumption | omega) (show 216 ≤ v104_3.toInt from r15) (show v104_3.toInt ≤ 243 from t16) (show v104_3.toInt = 9 * a1.toInt + 216 by first | exact Int.le_antisymm (by omega) (by omega) | omega) (show (-1) ≤ f104_0_31.toInt from r18) (show f104_0_31.toInt ≤ 11 from t19)  hw hT hF hRW c29 (lv_sub hl [0, 1, 2, 3] rfl)
    · have c30 : ¬ v104_2.toInt = (0 : Int) := wk_eqF c30
      refine lv_iload_n hx hb dX12_steps_120 rfl (lv_at hl 2 rfl) ?_
      refine lv_iconst (v := 1) hx hb dX12_steps_121 (by decide) ?_
      refine lv_icmp_ne (tgt := 129) hx hb dX12_steps_122 (by decide) (fun c31 => ?_) (fun c31 => ?_)
      · have c31 : ¬ v104_2.toInt = (1 : Int) := wk_eqF c31
        refine lv_iconst (v := 0) hx hb dX12_steps_129 (by decide) ?_
        exact tk_zret hC hr rfl hlocks hK ⟨hT, hF, (Or.inl rfl)⟩ hw dX12_steps_130
      · have c31 : v104_2.toInt = (1 : Int) := wk_eq.mp c31
        exact J125 v104_2 v104_3 f104_0_31 H locs ls w26 (show 0 ≤ a1.toInt from r13) (show a1.toInt ≤ 3 from t14) (show 0 ≤ v104_2.toInt by first | with_reducible assumption | omega) (show v104_2.toInt ≤ 1 by first | with_reducible assumption | omega) (show 216 ≤ v104_3.toInt from r15) (show v104_3.toInt ≤ 243 from t16) (show v104_3.toInt = 9 * a1.toInt + 216 by first | exact Int.le_antisymm (by omega) (by omega) | omega) (show (-1) ≤ f104_0_31.toInt from r18) (show f104_0_31.toInt ≤ 11 from t19)  hw hT hF hRW c29 (lv_sub hl [0, 1, 2, 3] rfl)
  have J92 : ∀ (v92_2 : Int32) (v92_3 : Int32) (f92_0_31 : Int32) (H : Heap) (locs : List Loc) (ls : Array Slot) (w32 : va_W), 0 ≤ a1.toInt → a1.toInt ≤ 3 → 216 ≤ v92_3.toInt → v92_3.toInt ≤ 243 → v92_3.toInt = 9 * a1.toInt + 216 → (-1) ≤ f92_0_31.toInt → f92_0_31.toInt ≤ 11 → Wd dC dI A s.heap H locs w32 → TW ksM ad cy B qr 12 w32 → FE ksM [(12, 24, 24), (12, 31, 31), (69, 0, 64), (70, 0, 10), (71, 216, 243), (71, 220, 247), (71, 221, 248), (71, 222, 249), (71, 223, 250), (71, 224, 251), (72, 0, 12), (73, 0, 10)] w0 w32 → RW w32 → gi w32 0 31 = f92_0_31 → lv_has ls 4 [(0, .ref (ad 0)), (1, .int a1), (2, .int v92_2), (3, .int v92_3)] → W p l e ({ frames := 8, cells := 0, slots := 0, locals := 171 }) s m (List.toArray [.ref (ad 0), .int a1]) below meth c H locs 0 0 (MQ below (va_Qi (P_X12_steps_1 ad cy B qr s1 a1 w0) (fun u : va_W => wpost dC dI cy A u) A) (List.toArray [.ref (ad 0), .int a1]) s 0 0 A) (F0 m 92 ls []) := by
    intro v92_2 v92_3 f92_0_31 H locs ls w32 r33 t34 r35 t36 l37 r38 t39 hw hT hF hRW c40 hl
    refine lv_aload_n hx hb dX12_steps_92 rfl (lv_at hl 0 rfl) ?_
    refine tk_getA hC hK hw hT hinX12 kM_at0 (by decide) rfl 26 (by decide) (List.mem_cons_of_mem _ uw_7_1) rfl rfl dX12_steps_93 ?_
    refine lv_iload_n hx hb dX12_steps_96 rfl (lv_at hl 3 rfl) ?_
    refine lv_iconst (v := 4) hx hb dX12_steps_97 (by decide) ?_
    refine lv_iadd hx hb dX12_steps_98 ?_
    refine lv_topi (fun x41 ex41 => ?_)
    have ex41 : x41.toInt = v92_3.toInt + (4 : Int) := by rw [ex41]; exact wk_add (show (-2147483648) ≤ v92_3.toInt + (4 : Int) by omega) (show v92_3.toInt + (4 : Int) ≤ 2147483647 by omega)
    refine lv_dup2_11 hx hb dX12_steps_99 rfl rfl ?_
    refine tk_ialdR hC hK hw hT kM_at12 rfl (show 0 ≤ x41.toInt by first | with_reducible assumption | omega) (show x41.toInt < 296 by first | with_reducible assumption | omega) dX12_steps_100 (fun x42 c43 Ex42 => ?_)
    have c43 : gi w32 12 (9 * a1.toInt + 220).toNat = x42 := (congrArg (gi w32 12) (congrArg Int.toNat (show 9 * a1.toInt + 220 = x41.toInt by first | exact Int.le_antisymm (by omega) (by omega) | omega))).trans c43
    have bx42 := (tk_rgB rfl 220 9 4 (by decide +kernel) ⟨(a1.toInt - 0).toNat, by omega, show x41.toInt.toNat = 220 + 9 * (a1.toInt - 0).toNat by omega⟩).mp Ex42
    refine lv_iconst (v := 1) hx hb dX12_steps_101 (by decide) ?_
    refine lv_iadd hx hb dX12_steps_102 ?_
    refine lv_topi (fun x44 ex44 => ?_)
    have ex44 : x44.toInt = x42.toInt + (1 : Int) := by rw [ex44]; exact wk_add (show (-2147483648) ≤ x42.toInt + (1 : Int) by omega) (show x42.toInt + (1 : Int) ≤ 2147483647 by omega)
    have hT := hT.up (show B ≤ (B + 1) by omega)
    refine tk_iastR hC hK hw hT kM_at12 (by decide) rfl (show 0 ≤ x41.toInt by first | with_reducible assumption | omega) (show x41.toInt < 296 by first | with_reducible assumption | omega) ((tk_rgB rfl 220 9 4 (by decide +kernel) ⟨(a1.toInt - 0).toNat, by omega, show x41.toInt.toNat = 220 + 9 * (a1.toInt - 0).toNat by omega⟩).mpr ⟨(show 0 ≤ x44.toInt by first | with_reducible assumption | omega), (show x44.toInt ≤ (B + 1) by omega)⟩) dX12_steps_103 (fun H locs w45 hw hT k47 c46 => ?_)
    have hRW := RW_F1 k47 (by decide) (by decide) (by decide) hRW
    have hF := hF.put kM_at12 (inE_of (a := 220) (b := 247) (by decide) (show 220 ≤ x41.toInt.toNat by omega) (show x41.toInt.toNat ≤ 247 by omega)) k47
    have c48 := k47.gi (Or.inl (tk_ne kM_at0 kM_at12 (by decide))) c40
    exact J104 v92_2 v92_3 f92_0_31 H locs ls w45 (show 0 ≤ a1.toInt from r33) (show a1.toInt ≤ 3 from t34) (show 216 ≤ v92_3.toInt from r35) (show v92_3.toInt ≤ 243 from t36) (show v92_3.toInt = 9 * a1.toInt + 216 by first | exact Int.le_antisymm (by omega) (by omega) | omega) (show (-1) ≤ f92_0_31.toInt from r38) (show f92_0_31.toInt ≤ 11 from t39)  hw (hT.up (show (B + 1) ≤ (B + 9) by omega)) hF hRW c48 (lv_sub hl [0, 1, 2, 3] rfl)
  refine lv_aload_n hx hb dX12_steps_0 rfl (lv_at hl 0 rfl) ?_
  refine lv_iload_n hx hb dX12_steps_1 rfl (lv_at hl 1 rfl) ?_
  refine tk_Vv hC hK hw hT hA hE hSR kM_at0 (by decide) rfl (k_X12_looks_1 l adK adV dC dI cy ad B hB0 (Int.le_trans hB1 (by decide)) qr s1   a1 (show 0 ≤ a1.toInt from ra1) (show a1.toInt ≤ 3 from ta1) w0 s.heap.size hT ) (cwV 1 hC.2.2.2.2 uV_RX12_405 rfl rfl rfl (by decide +kernel) ⟨Nat.le_of_ble_eq_true rfl, Nat.le_of_ble_eq_true rfl⟩) rfl hl.1 rfl (Nat.le_of_ble_eq_true rfl) dX12_steps_2 (fun w51 H locs hp50 hw => ?_)
  obtain ⟨hT, k52, hg55⟩ := hp50
  have hRW := RW_FE k52 (fun _ => rfl) (fun _ => rfl) (fun _ => rfl) hRW
  have hF := hF.tr k52 (by decide)
  obtain ⟨x53, c54, rx53, tx53⟩ := hg55
  refine lv_aload_n hx hb dX12_steps_5 rfl (lv_at hl 0 rfl) ?_
  refine lv_iload_n hx hb dX12_steps_6 rfl (lv_at hl 1 rfl) ?_
  refine tk_Vi hC hK hw hT hA hE hSR kM_at0 (by decide) rfl (k_X12_doing_1 l adK adV dC dI cy ad B hB0 (Int.le_trans hB1 (by decide)) qr s1   a1 (show 0 ≤ a1.toInt from ra1) (show a1.toInt ≤ 3 from ta1) w51 H.size hT hRW) (cwV 1 hC.2.2.2.2 uV_RX12_408 rfl rfl rfl (by decide +kernel) ⟨Nat.le_of_ble_eq_true rfl, Nat.le_of_ble_eq_true rfl⟩) rfl hl.1 rfl (Nat.le_of_ble_eq_true rfl) dX12_steps_7 (fun r56 w58 H locs hp57 hw => ?_)
  obtain ⟨hT, k59, hg69⟩ := hp57
  have hRW := RW_FE k59 (fun _ => rfl) (fun _ => rfl) (fun _ => rfl) hRW
  have hF := hF.tr k59 (by decide)
  have c70 := k59.gi kM_at0 (by decide) c54
  rcases hg69 with g60 | g61 | ⟨rfl, ⟨x62, c63, rx62, tx62⟩⟩ | ⟨rfl, ⟨x64, c65, rx64, tx64⟩, hq66⟩ | ⟨rfl, ⟨x67, c68, rx67, tx67⟩⟩ | rfl
  · refine lv_istore_n (lv' := [(2, .int r56), (0, .ref (ad 0)), (1, .int a1)]) hx hb dX12_steps_10 rfl hl (by decide) rfl (fun ls hl => ?_)
    refine lv_sipush (v := 216) hx hb dX12_steps_11 (by decide) ?_
    refine lv_bipush (v := 9) hx hb dX12_steps_14 (by decide) ?_
    refine lv_iload_n hx hb dX12_steps_16 rfl (lv_at hl 2 rfl) ?_
    refine lv_imul hx hb dX12_steps_17 ?_
    refine lv_topi (fun x71 ex71 => ?_)
    have ex71 : x71.toInt = (9 : Int) * a1.toInt := by rw [ex71]; exact wk_mul (show (-2147483648) ≤ (9 : Int) * a1.toInt by omega) (show (9 : Int) * a1.toInt ≤ 2147483647 by omega)
    refine lv_iadd hx hb dX12_steps_18 ?_
    refine lv_topi (fun x72 ex72 => ?_)
    have ex72 : x72.toInt = (216 : Int) + x71.toInt := by rw [ex72]; exact wk_add (show (-2147483648) ≤ (216 : Int) + x71.toInt by omega) (show (216 : Int) + x71.toInt ≤ 2147483647 by omega)
    refine lv_istore_n (lv' := [(3, .int x72), (2, .int r56), (0, .ref (ad 0)), (1, .int a1)]) hx hb dX12_steps_19 rfl hl (by decide) rfl (fun ls hl => ?_)
    refine lv_iload_n hx hb dX12_steps_20 rfl (lv_at hl 1 rfl) ?_
    refine lv_if_ne (tgt := 36) hx hb dX12_steps_21 (by decide) (fun _ => ?_) (fun c => absurd (show r56.toInt = (0 : Int) from wk_eq.mp c) (by omega))
    refine lv_iload_n hx hb dX12_steps_36 rfl (lv_at hl 1 rfl) ?_
    refine lv_iconst (v := 1) hx hb dX12_steps_37 (by decide) ?_
    refine lv_icmp_ne (tgt := 54) hx hb dX12_steps_38 (by decide) (fun _ => ?_) (fun c => absurd (show r56.toInt = (1 : Int) from wk_eq.mp c) (by omega))
    refine lv_iload_n hx hb dX12_steps_54 rfl (lv_at hl 1 rfl) ?_
    refine lv_iconst (v := 2) hx hb dX12_steps_55 (by decide) ?_
    refine lv_icmp_ne (tgt := 92) hx hb dX12_steps_56 (by decide) (fun _ => ?_) (fun c => absurd (show r56.toInt = (2 : Int) from wk_eq.mp c) (by omega))
    exact J92 r56 x72 x53 H locs ls w58 (show 0 ≤ a1.toInt from ra1) (show a1.toInt ≤ 3 from ta1) (show 216 ≤ x72.toInt by first | with_reducible assumption | omega) (show x72.toInt ≤ 243 by first | with_reducible assumption | omega) (show x72.toInt = 9 * a1.toInt + 216 by first | exact Int.le_antisymm (by omega) (by omega) | omega) (show (-1) ≤ x53.toInt by first | with_reducible assumption | omega) (show x53.toInt ≤ 11 by first | with_reducible assumption | omega)  hw hT hF hRW c70 (lv_sub hl [2, 3, 1, 0] rfl)
  · refine lv_istore_n (lv' := [(2, .int r56), (0, .ref (ad 0)), (1, .int a1)]) hx hb dX12_steps_10 rfl hl (by decide) rfl (fun ls hl => ?_)
    refine lv_sipush (v := 216) hx hb dX12_steps_11 (by decide) ?_
    refine lv_bipush (v := 9) hx hb dX12_steps_14 (by decide) ?_
    refine lv_iload_n hx hb dX12_steps_16 rfl (lv_at hl 2 rfl) ?_
    refine lv_imul hx hb dX12_steps_17 ?_
    refine lv_topi (fun x73 ex73 => ?_)
    have ex73 : x73.toInt = (9 : Int) * a1.toInt := by rw [ex73]; exact wk_mul (show (-2147483648) ≤ (9 : Int) * a1.toInt by omega) (show (9 : Int) * a1.toInt ≤ 2147483647 by omega)
    refine lv_iadd hx hb dX12_steps_18 ?_
    refine lv_topi (fun x74 ex74 => ?_)
    have ex74 : x74.toInt = (216 : Int) + x73.toInt := by rw [ex74]; exact wk_add (show (-2147483648) ≤ (216 : Int) + x73.toInt by omega) (show (216 : Int) + x73.toInt ≤ 2147483647 by omega)
    refine lv_istore_n (lv' := [(3, .int x74), (2, .int r56), (0, .ref (ad 0)), (1, .int a1)]) hx hb dX12_steps_19 rfl hl (by decide) rfl (fun ls hl => ?_)
    refine lv_iload_n hx hb dX12_steps_20 rfl (lv_at hl 1 rfl) ?_
    refine lv_if_ne (tgt := 36) hx hb dX12_steps_21 (by decide) (fun _ => ?_) (fun c => absurd (show r56.toInt = (0 : Int) from wk_eq.mp c) (by omega))
    refine lv_iload_n hx hb dX12_steps_36 rfl (lv_at hl 1 rfl) ?_
    refine lv_iconst (v := 1) hx hb dX12_steps_37 (by decide) ?_
    refine lv_icmp_ne (tgt := 54) hx hb dX12_steps_38 (by decide) (fun _ => ?_) (fun c => absurd (show r56.toInt = (1 : Int) from wk_eq.mp c) (by omega))
    refine lv_iload_n hx hb dX12_steps_54 rfl (lv_at hl 1 rfl) ?_
    refine lv_iconst (v := 2) hx hb dX12_steps_55 (by decide) ?_
    refine lv_icmp_ne (tgt := 92) hx hb dX12_steps_56 (by decide) (fun _ => ?_) (fun c => absurd (show r56.toInt = (2 : Int) from wk_eq.mp c) (by omega))
    exact J92 r56 x74 x53 H locs ls w58 (show 0 ≤ a1.toInt from ra1) (show a1.toInt ≤ 3 from ta1) (show 216 ≤ x74.toInt by first | with_reducible assumption | omega) (show x74.toInt ≤ 243 by first | with_reducible assumption | omega) (show x74.toInt = 9 * a1.toInt + 216 by first | exact Int.le_antisymm (by omega) (by omega) | omega) (show (-1) ≤ x53.toInt by first | with_reducible assumption | omega) (show x53.toInt ≤ 11 by first | with_reducible assumption | omega)  hw hT hF hRW c70 (lv_sub hl [2, 3, 1, 0] rfl)
  · have ex62 : x62.toInt = x53.toInt := by rw [← c70.symm.trans c63]
    refine lv_istore_n (lv' := [(2, .int 0), (0, .ref (ad 0)), (1, .int a1)]) hx hb dX12_steps_10 rfl hl (by decide) rfl (fun ls hl => ?_)
    refine lv_sipush (v := 216) hx hb dX12_steps_11 (by decide) ?_
    refine lv_bipush (v := 9) hx hb dX12_steps_14 (by decide) ?_
    refine lv_iload_n hx hb dX12_steps_16 rfl (lv_at hl 2 rfl) ?_
    refine lv_imul hx hb dX12_steps_17 ?_
    refine lv_topi (fun x75 ex75 => ?_)
    have ex75 : x75.toInt = (9 : Int) * a1.toInt := by rw [ex75]; exact wk_mul (show (-2147483648) ≤ (9 : Int) * a1.toInt by omega) (show (9 : Int) * a1.toInt ≤ 2147483647 by omega)
    refine lv_iadd hx hb dX12_steps_18 ?_
    refine lv_topi (fun x76 ex76 => ?_)
    have ex76 : x76.toInt = (216 : Int) + x75.toInt := by rw [ex76]; exact wk_add (show (-2147483648) ≤ (216 : Int) + x75.toInt by omega) (show (216 : Int) + x75.toInt ≤ 2147483647 by omega)
    refine lv_istore_n (lv' := [(3, .int x76), (2, .int 0), (0, .ref (ad 0)), (1, .int a1)]) hx hb dX12_steps_19 rfl hl (by decide) rfl (fun ls hl => ?_)
    refine lv_iload_n hx hb dX12_steps_20 rfl (lv_at hl 1 rfl) ?_
    refine lv_if_ne (tgt := 36) hx hb dX12_steps_21 (by decide) (fun c => absurd (by decide) c) (fun _ => ?_)
    refine lv_aload_n hx hb dX12_steps_24 rfl (lv_at hl 2 rfl) ?_
    refine lv_iload_n hx hb dX12_steps_25 rfl (lv_at hl 3 rfl) ?_
    refine lv_aload_n hx hb dX12_steps_26 rfl (lv_at hl 2 rfl) ?_
    refine tk_geti hC hK hw hT hinX12 kM_at0 (by decide) rfl 31 (by decide) (List.mem_cons_of_mem _ uw_46_23) rfl rfl dX12_steps_27 (fun x77 c78 rx77 tx77 => ?_)
    refine wk_top x53 (c78.symm.trans c70) ?_
    refine tk_Vv hC hK hw hT hA hE hSR kM_at0 (by decide) rfl (k_X12_takesStreet_1 l adK adV dC dI cy ad B hB0 (Int.le_trans hB1 (by decide)) qr s1   a1 (show 0 ≤ a1.toInt from ra1) (show a1.toInt ≤ 3 from ta1) x53 (show 0 ≤ x53.toInt by first | with_reducible assumption | omega) (show x53.toInt ≤ 11 by first | with_reducible assumption | omega) w58 H.size hT ) (cwV 2 hC.2.2.2.2 uV_RX12_411 rfl rfl rfl (by decide +kernel) ⟨Nat.le_of_ble_eq_true rfl, Nat.le_of_ble_eq_true rfl⟩) rfl hl.1 rfl (Nat.le_of_ble_eq_true rfl) dX12_steps_30 (fun w81 H locs hp80 hw => ?_)
    obtain ⟨hT, k82, hg83⟩ := hp80
    have hRW := RW_FE k82 (fun _ => rfl) (fun _ => rfl) (fun _ => rfl) hRW
    have hF := hF.tr k82 (by decide)
    have c84 := k82.gi kM_at0 (by decide) c70
    clear hg83
    refine lv_goto (tgt := 104) hx hb dX12_steps_33 (by decide) ?_
    exact J104 0 x76 x53 H locs ls w81 (show 0 ≤ a1.toInt from ra1) (show a1.toInt ≤ 3 from ta1) (show 216 ≤ x76.toInt by first | with_reducible assumption | omega) (show x76.toInt ≤ 243 by first | with_reducible assumption | omega) (show x76.toInt = 9 * a1.toInt + 216 by first | exact Int.le_antisymm (by omega) (by omega) | omega) (show (-1) ≤ x53.toInt by first | with_reducible assumption | omega) (show x53.toInt ≤ 11 by first | with_reducible assumption | omega)  hw hT hF hRW c84 (lv_sub hl [2, 3, 1, 0] rfl)
  · refine lv_istore_n (lv' := [(2, .int 1), (0, .ref (ad 0)), (1, .int a1)]) hx hb dX12_steps_10 rfl hl (by decide) rfl (fun ls hl => ?_)
    refine lv_sipush (v := 216) hx hb dX12_steps_11 (by decide) ?_
    refine lv_bipush (v := 9) hx hb dX12_steps_14 (by decide) ?_
    refine lv_iload_n hx hb dX12_steps_16 rfl (lv_at hl 2 rfl) ?_
    refine lv_imul hx hb dX12_steps_17 ?_
    refine lv_topi (fun x85 ex85 => ?_)
    have ex85 : x85.toInt = (9 : Int) * a1.toInt := by rw [ex85]; exact wk_mul (show (-2147483648) ≤ (9 : Int) * a1.toInt by omega) (show (9 : Int) * a1.toInt ≤ 2147483647 by omega)
    refine lv_iadd hx hb dX12_steps_18 ?_
    refine lv_topi (fun x86 ex86 => ?_)
    have ex86 : x86.toInt = (216 : Int) + x85.toInt := by rw [ex86]; exact wk_add (show (-2147483648) ≤ (216 : Int) + x85.toInt by omega) (show (216 : Int) + x85.toInt ≤ 2147483647 by omega)
    refine lv_istore_n (lv' := [(3, .int x86), (2, .int 1), (0, .ref (ad 0)), (1, .int a1)]) hx hb dX12_steps_19 rfl hl (by decide) rfl (fun ls hl => ?_)
    refine lv_iload_n hx hb dX12_steps_20 rfl (lv_at hl 1 rfl) ?_
    refine lv_if_ne (tgt := 36) hx hb dX12_steps_21 (by decide) (fun _ => ?_) (fun c => absurd c (by decide))
    refine lv_iload_n hx hb dX12_steps_36 rfl (lv_at hl 1 rfl) ?_
    refine lv_iconst (v := 1) hx hb dX12_steps_37 (by decide) ?_
    refine lv_icmp_ne (tgt := 54) hx hb dX12_steps_38 (by decide) (fun c => absurd (by decide) c) (fun _ => ?_)
    refine lv_aload_n hx hb dX12_steps_41 rfl (lv_at hl 2 rfl) ?_
    refine lv_iload_n hx hb dX12_steps_42 rfl (lv_at hl 3 rfl) ?_
    refine lv_aload_n hx hb dX12_steps_43 rfl (lv_at hl 2 rfl) ?_
    refine lv_iload_n hx hb dX12_steps_44 rfl (lv_at hl 3 rfl) ?_
    refine tk_Vi hC hK hw hT hA hE hSR kM_at0 (by decide) rfl (k_X12_asideOf_1 l adK adV dC dI cy ad B hB0 (Int.le_trans hB1 (by decide)) qr s1   a1 (show 0 ≤ a1.toInt from ra1) (show a1.toInt ≤ 3 from ta1) w58 H.size hT ) (cwV 1 hC.2.2.2.2 uV_RX12_390 rfl rfl rfl (by decide +kernel) ⟨Nat.le_of_ble_eq_true rfl, Nat.le_of_ble_eq_true rfl⟩) rfl hl.1 rfl (Nat.le_of_ble_eq_true rfl) dX12_steps_45 (fun r87 w89 H locs hp88 hw => ?_)
    obtain ⟨rfl, hg97⟩ := hp88
    rcases hg97 with ⟨g91, g92, ⟨x93, c94, rx93, tx93⟩, hq95⟩ | ⟨rfl, hq96⟩
    · have ex93 : x93.toInt = x64.toInt := by rw [← c65.symm.trans c94]
      refine tk_Vv hC hK hw hT hA hE hSR kM_at0 (by decide) rfl (k_X12_takesStreet_1 l adK adV dC dI cy ad B hB0 (Int.le_trans hB1 (by decide)) qr s1   a1 (show 0 ≤ a1.toInt from ra1) (show a1.toInt ≤ 3 from ta1) r87 (show 0 ≤ r87.toInt by first | with_reducible assumption | omega) (show r87.toInt ≤ 11 by first | with_reducible assumption | omega) w58 H.size hT ) (cwV 2 hC.2.2.2.2 uV_RX12_411 rfl rfl rfl (by decide +kernel) ⟨Nat.le_of_ble_eq_true rfl, Nat.le_of_ble_eq_true rfl⟩) rfl hl.1 rfl (Nat.le_of_ble_eq_true rfl) dX12_steps_48 (fun w100 H locs hp99 hw => ?_)
      obtain ⟨hT, k101, hg102⟩ := hp99
      have hRW := RW_FE k101 (fun _ => rfl) (fun _ => rfl) (fun _ => rfl) hRW
      have hF := hF.tr k101 (by decide)
      have c103 := k101.gi kM_at0 (by decide) c70
      have c104 := k101.gi kM_at12 (by decide) c65
      clear hg102
      refine lv_goto (tgt := 104) hx hb dX12_steps_51 (by decide) ?_
      exact J104 1 x86 x53 H locs ls w100 (show 0 ≤ a1.toInt from ra1) (show a1.toInt ≤ 3 from ta1) (show 216 ≤ x86.toInt by first | with_reducible assumption | omega) (show x86.toInt ≤ 243 by first | with_reducible assumption | omega) (show x86.toInt = 9 * a1.toInt + 216 by first | exact Int.le_antisymm (by omega) (by omega) | omega) (show (-1) ≤ x53.toInt by first | with_reducible assumption | omega) (show x53.toInt ≤ 11 by first | with_reducible assumption | omega)  hw hT hF hRW c103 (lv_sub hl [2, 3, 1, 0] rfl)
    · exact (mAS_no hq66 hq96).elim
  · refine lv_istore_n (lv' := [(2, .int 2), (0, .ref (ad 0)), (1, .int a1)]) hx hb dX12_steps_10 rfl hl (by decide) rfl (fun ls hl => ?_)
    refine lv_sipush (v := 216) hx hb dX12_steps_11 (by decide) ?_
    refine lv_bipush (v := 9) hx hb dX12_steps_14 (by decide) ?_
    refine lv_iload_n hx hb dX12_steps_16 rfl (lv_at hl 2 rfl) ?_
    refine lv_imul hx hb dX12_steps_17 ?_
    refine lv_topi (fun x105 ex105 => ?_)
    have ex105 : x105.toInt = (9 : Int) * a1.toInt := by rw [ex105]; exact wk_mul (show (-2147483648) ≤ (9 : Int) * a1.toInt by omega) (show (9 : Int) * a1.toInt ≤ 2147483647 by omega)
    refine lv_iadd hx hb dX12_steps_18 ?_
    refine lv_topi (fun x106 ex106 => ?_)
    have ex106 : x106.toInt = (216 : Int) + x105.toInt := by rw [ex106]; exact wk_add (show (-2147483648) ≤ (216 : Int) + x105.toInt by omega) (show (216 : Int) + x105.toInt ≤ 2147483647 by omega)
    refine lv_istore_n (lv' := [(3, .int x106), (2, .int 2), (0, .ref (ad 0)), (1, .int a1)]) hx hb dX12_steps_19 rfl hl (by decide) rfl (fun ls hl => ?_)
    refine lv_iload_n hx hb dX12_steps_20 rfl (lv_at hl 1 rfl) ?_
    refine lv_if_ne (tgt := 36) hx hb dX12_steps_21 (by decide) (fun _ => ?_) (fun c => absurd c (by decide))
    refine lv_iload_n hx hb dX12_steps_36 rfl (lv_at hl 1 rfl) ?_
    refine lv_iconst (v := 1) hx hb dX12_steps_37 (by decide) ?_
    refine lv_icmp_ne (tgt := 54) hx hb dX12_steps_38 (by decide) (fun _ => ?_) (fun c => absurd c (by decide))
    refine lv_iload_n hx hb dX12_steps_54 rfl (lv_at hl 1 rfl) ?_
    refine lv_iconst (v := 2) hx hb dX12_steps_55 (by decide) ?_
    refine lv_icmp_ne (tgt := 92) hx hb dX12_steps_56 (by decide) (fun c => absurd (by decide) c) (fun _ => ?_)
    refine lv_aload_n hx hb dX12_steps_59 rfl (lv_at hl 2 rfl) ?_
    refine tk_getA hC hK hw hT hinX12 kM_at0 (by decide) rfl 26 (by decide) (List.mem_cons_of_mem _ uw_7_1) rfl rfl dX12_steps_60 ?_
    refine lv_iload_n hx hb dX12_steps_63 rfl (lv_at hl 0 rfl) ?_
    refine lv_bipush (v := 8) hx hb dX12_steps_64 (by decide) ?_
    refine lv_iadd hx hb dX12_steps_66 ?_
    refine lv_topi (fun x107 ex107 => ?_)
    have ex107 : x107.toInt = x106.toInt + (8 : Int) := by rw [ex107]; exact wk_add (show (-2147483648) ≤ x106.toInt + (8 : Int) by omega) (show x106.toInt + (8 : Int) ≤ 2147483647 by omega)
    refine lv_aload_n hx hb dX12_steps_67 rfl (lv_at hl 2 rfl) ?_
    refine tk_getA hC hK hw hT hinX12 kM_at0 (by decide) rfl 26 (by decide) (List.mem_cons_of_mem _ uw_7_1) rfl rfl dX12_steps_68 ?_
    refine lv_iload_n hx hb dX12_steps_71 rfl (lv_at hl 0 rfl) ?_
    refine lv_iconst (v := 4) hx hb dX12_steps_72 (by decide) ?_
    refine lv_iadd hx hb dX12_steps_73 ?_
    refine lv_topi (fun x108 ex108 => ?_)
    have ex108 : x108.toInt = x106.toInt + (4 : Int) := by rw [ex108]; exact wk_add (show (-2147483648) ≤ x106.toInt + (4 : Int) by omega) (show x106.toInt + (4 : Int) ≤ 2147483647 by omega)
    refine tk_ialdR hC hK hw hT kM_at12 rfl (show 0 ≤ x108.toInt by first | with_reducible assumption | omega) (show x108.toInt < 296 by first | with_reducible assumption | omega) dX12_steps_74 (fun x109 c110 Ex109 => ?_)
    have c110 : gi w58 12 (9 * a1.toInt + 220).toNat = x109 := (congrArg (gi w58 12) (congrArg Int.toNat (show 9 * a1.toInt + 220 = x108.toInt by first | exact Int.le_antisymm (by omega) (by omega) | omega))).trans c110
    have bx109 := (tk_rgB rfl 220 9 4 (by decide +kernel) ⟨(a1.toInt - 0).toNat, by omega, show x108.toInt.toNat = 220 + 9 * (a1.toInt - 0).toNat by omega⟩).mp Ex109
    refine lv_bipush (v := 24) hx hb dX12_steps_75 (by decide) ?_
    refine lv_idiv hx hb dX12_steps_77 (by decide) ?_
    refine lv_topi (fun x111 ex111 => ?_)
    have ex111 : x111.toInt = x109.toInt / (24 : Int) := by rw [ex111]; exact wk_div (show 0 ≤ x109.toInt by first | with_reducible assumption | omega) (show 0 < (24 : Int) by decide)
    refine tk_iastR hC hK hw hT kM_at12 (by decide) rfl (show 0 ≤ x107.toInt by first | with_reducible assumption | omega) (show x107.toInt < 296 by first | with_reducible assumption | omega) (tk_rgS rfl 224 9 4 0 44739242 (by decide +kernel) ⟨(a1.toInt - 0).toNat, by omega, show x107.toInt.toNat = 224 + 9 * (a1.toInt - 0).toNat by omega⟩ (show 0 ≤ x111.toInt by first | with_reducible assumption | omega) (show x111.toInt ≤ 44739242 by first | with_reducible assumption | omega)) dX12_steps_78 (fun H locs w112 hw hT k114 c113 => ?_)
    have hRW := RW_F1 k114 (by decide) (by decide) (by decide) hRW
    have hF := hF.put kM_at12 (inE_of (a := 224) (b := 251) (by decide) (show 224 ≤ x107.toInt.toNat by omega) (show x107.toInt.toNat ≤ 251 by omega)) k114
    have c115 := k114.gi (Or.inl (tk_ne kM_at0 kM_at12 (by decide))) c70
    have c116 := k114.gi (Or.inl (tk_ne kM_at0 kM_at12 (by decide))) c68
    refine lv_aload_n hx hb dX12_steps_79 rfl (lv_at hl 2 rfl) ?_
    refine tk_getA hC hK hw hT hinX12 kM_at0 (by decide) rfl 26 (by decide) (List.mem_cons_of_mem _ uw_7_1) rfl rfl dX12_steps_80 ?_
    refine lv_iload_n hx hb dX12_steps_83 rfl (lv_at hl 0 rfl) ?_
    refine lv_bipush (v := 6) hx hb dX12_steps_84 (by decide) ?_
    refine lv_iadd hx hb dX12_steps_86 ?_
    refine lv_topi (fun x117 ex117 => ?_)
    have ex117 : x117.toInt = x106.toInt + (6 : Int) := by rw [ex117]; exact wk_add (show (-2147483648) ≤ x106.toInt + (6 : Int) by omega) (show x106.toInt + (6 : Int) ≤ 2147483647 by omega)
    refine lv_dup2_11 hx hb dX12_steps_87 rfl rfl ?_
    refine tk_ialdR hC hK hw hT kM_at12 rfl (show 0 ≤ x117.toInt by first | with_reducible assumption | omega) (show x117.toInt < 296 by first | with_reducible assumption | omega) dX12_steps_88 (fun x118 c119 Ex118 => ?_)
    have c119 : gi w112 12 (9 * a1.toInt + 222).toNat = x118 := (congrArg (gi w112 12) (congrArg Int.toNat (show 9 * a1.toInt + 222 = x117.toInt by first | exact Int.le_antisymm (by omega) (by omega) | omega))).trans c119
    refine lv_iconst (v := 1) hx hb dX12_steps_89 (by decide) ?_
    refine lv_iadd hx hb dX12_steps_90 ?_
    have nx120 := wk_i32 x118
    refine lv_topi (fun x121 ex121 => ?_)
    refine tk_iastR hC hK hw hT kM_at12 (by decide) rfl (show 0 ≤ x117.toInt by first | with_reducible assumption | omega) (show x117.toInt < 296 by first | with_reducible assumption | omega) (tk_rgS rfl 222 9 4 (-2147483648) 2147483647 (by decide +kernel) ⟨(a1.toInt - 0).toNat, by omega, show x117.toInt.toNat = 222 + 9 * (a1.toInt - 0).toNat by omega⟩ (wk_i32 x121).1 (wk_i32 x121).2) dX12_steps_91 (fun H locs w122 hw hT k124 c123 => ?_)
    have hRW := RW_F1 k124 (by decide) (by decide) (by decide) hRW
    have hF := hF.put kM_at12 (inE_of (a := 222) (b := 249) (by decide) (show 222 ≤ x117.toInt.toNat by omega) (show x117.toInt.toNat ≤ 249 by omega)) k124
    have c125 := k124.gi (Or.inl (tk_ne kM_at0 kM_at12 (by decide))) c115
    have c126 := k124.gi (Or.inl (tk_ne kM_at0 kM_at12 (by decide))) c116
    exact J92 2 x106 x53 H locs ls w122 (show 0 ≤ a1.toInt from ra1) (show a1.toInt ≤ 3 from ta1) (show 216 ≤ x106.toInt by first | with_reducible assumption | omega) (show x106.toInt ≤ 243 by first | with_reducible assumption | omega) (show x106.toInt = 9 * a1.toInt + 216 by first | exact Int.le_antisymm (by omega) (by omega) | omega) (show (-1) ≤ x53.toInt by first | with_reducible assumption | omega) (show x53.toInt ≤ 11 by first | with_reducible assumption | omega)  hw hT hF hRW c125 (lv_sub hl [2, 3, 1, 0] rfl)
  · refine lv_istore_n (lv' := [(2, .int 3), (0, .ref (ad 0)), (1, .int a1)]) hx hb dX12_steps_10 rfl hl (by decide) rfl (fun ls hl => ?_)
    refine lv_sipush (v := 216) hx hb dX12_steps_11 (by decide) ?_
    refine lv_bipush (v := 9) hx hb dX12_steps_14 (by decide) ?_
    refine lv_iload_n hx hb dX12_steps_16 rfl (lv_at hl 2 rfl) ?_
    refine lv_imul hx hb dX12_steps_17 ?_
    refine lv_topi (fun x127 ex127 => ?_)
    have ex127 : x127.toInt = (9 : Int) * a1.toInt := by rw [ex127]; exact wk_mul (show (-2147483648) ≤ (9 : Int) * a1.toInt by omega) (show (9 : Int) * a1.toInt ≤ 2147483647 by omega)
    refine lv_iadd hx hb dX12_steps_18 ?_
    refine lv_topi (fun x128 ex128 => ?_)
    have ex128 : x128.toInt = (216 : Int) + x127.toInt := by rw [ex128]; exact wk_add (show (-2147483648) ≤ (216 : Int) + x127.toInt by omega) (show (216 : Int) + x127.toInt ≤ 2147483647 by omega)
    refine lv_istore_n (lv' := [(3, .int x128), (2, .int 3), (0, .ref (ad 0)), (1, .int a1)]) hx hb dX12_steps_19 rfl hl (by decide) rfl (fun ls hl => ?_)
    refine lv_iload_n hx hb dX12_steps_20 rfl (lv_at hl 1 rfl) ?_
    refine lv_if_ne (tgt := 36) hx hb dX12_steps_21 (by decide) (fun _ => ?_) (fun c => absurd c (by decide))
    refine lv_iload_n hx hb dX12_steps_36 rfl (lv_at hl 1 rfl) ?_
    refine lv_iconst (v := 1) hx hb dX12_steps_37 (by decide) ?_
    refine lv_icmp_ne (tgt := 54) hx hb dX12_steps_38 (by decide) (fun _ => ?_) (fun c => absurd c (by decide))
    refine lv_iload_n hx hb dX12_steps_54 rfl (lv_at hl 1 rfl) ?_
    refine lv_iconst (v := 2) hx hb dX12_steps_55 (by decide) ?_
    refine lv_icmp_ne (tgt := 92) hx hb dX12_steps_56 (by decide) (fun _ => ?_) (fun c => absurd c (by decide))
    exact J92 3 x128 x53 H locs ls w58 (show 0 ≤ a1.toInt from ra1) (show a1.toInt ≤ 3 from ta1) (show 216 ≤ x128.toInt by first | with_reducible assumption | omega) (show x128.toInt ≤ 243 by first | with_reducible assumption | omega) (show x128.toInt = 9 * a1.toInt + 216 by first | exact Int.le_antisymm (by omega) (by omega) | omega) (show (-1) ≤ x53.toInt by first | with_reducible assumption | omega) (show x53.toInt ≤ 11 by first | with_reducible assumption | omega)  hw hT hF hRW c70 (lv_sub hl [2, 3, 1, 0] rfl)
abbrev P_X12_step_1 (ad : Nat → Nat) (cy : Nat → ClassId) (B : Int) (qr : Nat) (s1 : Int) (a1 : Int32) (a2 : Int32) (w0 : va_W) : Int32 → va_W → Prop := fun r u => TW ksM ad cy (B + 1800) qr 12 u ∧ FE ksM [(12, 24, 24), (12, 31, 31), (69, 0, 64), (70, 0, 10), (71, 216, 243), (71, 220, 247), (71, 221, 248), (71, 222, 249), (71, 223, 250), (71, 224, 251), (72, 0, 12), (73, 0, 10)] w0 u ∧ ((0 ≤ r.toInt ∧ r.toInt ≤ 9 ∧ 0 ≤ a1.toInt ∧ a1.toInt ≤ 3 ∧ 1 ≤ a2.toInt ∧ a2.toInt ≤ 200 ∧ (∃ y : Int32, gi u 12 5 = y ∧ 1 ≤ y.toInt ∧ y.toInt ≤ 4)) ∨ (r = (-1)))
set_option maxHeartbeats 4000000 in
set_option maxRecDepth 100000 in
theorem k_X12_step_1 (l : Launch) (adK adV : Nat → Nat) (dC : Nat → ClassId) (dI : Nat → Nat → Nat) (cy : Nat → ClassId) (ad : Nat → Nat) (B : Int) (hB0 : 100000 ≤ B) (hB1 : B ≤ 1073740024) (qr : Nat) (s1 : Int)  (a1 : Int32) (a2 : Int32) (w0 : va_W) (sz : Nat) (hT : TW ksM ad cy B qr 12 w0) (hRW : RW w0) : Met l yX12_step (wu yX12_step cX12_step 4 (some .int)) ({ frames := 9, cells := 0, slots := 0, locals := 194 }) (va_Pc [.ref (ad 0), .int a1, .int a2] (wpreS adK adV dC dI cy sz w0)) (va_Qi (P_X12_step_1 ad cy B qr s1 a1 a2 w0) (fun u : va_W => wpost dC dI cy (va_A w0 sz) u) (va_A w0 sz)) 0 0 (va_A w0 sz) := by
  refine Met.ofW (cc := cX12_step) (maxL := 4) (ret := (some .int)) (by decide) rfl ?_
  intro p e s m args below meth c s₁ Bk hml hv
  obtain ⟨rfl, ⟨hsz, hP, hK, hD0⟩, hE, hSR⟩ := hv
  have hx := Bk.exec
  have hb := Bk.bytes
  have hr := Bk.returns
  have hlocks := Bk.notSynchronized
  have hC : CallFix p m c cX12_step 4 s _ (wu yX12_step cX12_step 4 (some .int)) RX12 := ⟨hx, hb, hml, findClass_of_methodNamed Bk.named, atoms_spec (ws := (wu yX12_step cX12_step 4 (some .int))) Bk.pre⟩
  subst hsz
  have hD := hD0.self (sz := s.heap.size)
  generalize hAe : va_A w0 s.heap.size = A at hD hE ⊢
  have hA : ∀ q : Nat, s.heap.size ≤ q → A q := fun q h => by rw [← hAe]; exact Or.inr h
  have hw : Wd dC dI A s.heap s.heap [] w0 := ⟨hP, hD, va_S.rf⟩
  have hF : FE ksM [(12, 24, 24), (12, 31, 31), (69, 0, 64), (70, 0, 10), (71, 216, 243), (71, 220, 247), (71, 221, 248), (71, 222, 249), (71, 223, 250), (71, 224, 251), (72, 0, 12), (73, 0, 10)] w0 w0 := FE.rf
  have hl := lv_entry ([.ref (ad 0), .int a1, .int a2]) (n := 4) (Nat.le_of_ble_eq_true rfl)
  rw [lg_entry_eq]
  generalize (lg_sl ([.ref (ad 0), .int a1, .int a2]) ++ List.replicate (4 - (lg_sl ([.ref (ad 0), .int a1, .int a2])).length) Slot.unset).toArray = ls at hl ⊢
  have hl : lv_has ls 4 [(0, .ref (ad 0)), (1, .int a1), (2, .int a2)] := hl
  generalize hloc : ([] : List Loc) = locs at hw ⊢
  have J20 : ∀ (H : Heap) (locs : List Loc) (ls : Array Slot) (w1 : va_W), Wd dC dI A s.heap H locs w1 → TW ksM ad cy B qr 12 w1 → FE ksM [(12, 24, 24), (12, 31, 31), (69, 0, 64), (70, 0, 10), (71, 216, 243), (71, 220, 247), (71, 221, 248), (71, 222, 249), (71, 223, 250), (71, 224, 251), (72, 0, 12), (73, 0, 10)] w0 w1 → RW w1 → lv_has ls 4 [(0, .ref (ad 0)), (1, .int a1), (2, .int a2)] → W p l e ({ frames := 9, cells := 0, slots := 0, locals := 194 }) s m (List.toArray [.ref (ad 0), .int a1, .int a2]) below meth c H locs 0 0 (MQ below (va_Qi (P_X12_step_1 ad cy B qr s1 a1 a2 w0) (fun u : va_W => wpost dC dI cy A u) A) (List.toArray [.ref (ad 0), .int a1, .int a2]) s 0 0 A) (F0 m 20 ls []) := by
    intro H locs ls w1 hw hT hF hRW hl
    refine lv_iconst (v := (-1)) hx hb dX12_step_20 (by decide) ?_
    exact tk_iret hC hr hlocks hK ⟨(hT.up (show B ≤ (B + 1800) by omega)), hF, (Or.inr rfl)⟩ hw dX12_step_21
  have J49 : ∀ (v49_3 : Int32) (f49_12_5 : Int32) (H : Heap) (locs : List Loc) (ls : Array Slot) (w2 : va_W), 0 ≤ a1.toInt → a1.toInt ≤ 3 → 1 ≤ a2.toInt → a2.toInt ≤ 200 → 0 ≤ v49_3.toInt → v49_3.toInt ≤ 200 → 1 ≤ f49_12_5.toInt → f49_12_5.toInt ≤ 4 → Wd dC dI A s.heap H locs w2 → TW ksM ad cy (B + 1800) qr 12 w2 → FE ksM [(12, 24, 24), (12, 31, 31), (69, 0, 64), (70, 0, 10), (71, 216, 243), (71, 220, 247), (71, 221, 248), (71, 222, 249), (71, 223, 250), (71, 224, 251), (72, 0, 12), (73, 0, 10)] w0 w2 → RW w2 → gi w2 12 5 = f49_12_5 → lv_has ls 4 [(0, .ref (ad 0)), (1, .int a1), (2, .int a2), (3, .int v49_3)] → W p l e ({ frames := 9, cells := 0, slots := 0, locals := 194 }) s m (List.toArray [.ref (ad 0), .int a1, .int a2]) below meth c H locs 0 0 (MQ below (va_Qi (P_X12_step_1 ad cy B qr s1 a1 a2 w0) (fun u : va_W => wpost dC dI cy A u) A) (List.toArray [.ref (ad 0), .int a1, .int a2]) s 0 0 A) (F0 m 49 ls []) := by
    intro v49_3 f49_12_5 H locs ls w2 r3 t4 r5 t6 r7 t8 r9 t10 hw hT hF hRW c11 hl
    refine lv_aload_n hx hb dX12_step_49 rfl (lv_at hl 0 rfl) ?_
    refine lv_iload_n hx hb dX12_step_50 rfl (lv_at hl 1 rfl) ?_
    refine lv_iconst (v := 0) hx hb dX12_step_51 (by decide) ?_
    refine tk_Vi hC hK hw hT hA hE hSR kM_at0 (by decide) rfl (k_X12_walkerOf_2 l adK adV dC dI cy ad (B + 1800) (by omega) (by omega) qr s1   a1 (show 0 ≤ a1.toInt from r3) (show a1.toInt ≤ 3 from t4) w2 H.size hT ) (cwV 2 hC.2.2.2.2 uV_RX12_372 rfl rfl rfl (by decide +kernel) ⟨Nat.le_of_ble_eq_true rfl, Nat.le_of_ble_eq_true rfl⟩) rfl hl.1 rfl (Nat.le_of_ble_eq_true rfl) dX12_step_52 (fun r12 w14 H locs hp13 hw => ?_)
    obtain ⟨rfl, hg19⟩ := hp13
    obtain ⟨g16, g17, c18⟩ := hg19
    exact tk_iret hC hr hlocks hK ⟨hT, hF, (Or.inl ⟨(show 0 ≤ r12.toInt by first | with_reducible assumption | omega), (show r12.toInt ≤ 9 by first | with_reducible assumption | omega), (show 0 ≤ a1.toInt from r3), (show a1.toInt ≤ 3 from t4), (show 1 ≤ a2.toInt from r5), (show a2.toInt ≤ 200 from t6), ⟨f49_12_5, c11, (show 1 ≤ f49_12_5.toInt from r9), (show f49_12_5.toInt ≤ 4 from t10)⟩⟩)⟩ hw dX12_step_55
  have L24 : ∀ (n24 : Nat) (v24_3 : Int32) (f24_12_5 : Int32) (H : Heap) (locs : List Loc) (ls : Array Slot) (w20 : va_W), 0 ≤ a1.toInt → a1.toInt ≤ 3 → 1 ≤ a2.toInt → a2.toInt ≤ 200 → 0 ≤ v24_3.toInt → v24_3.toInt ≤ 200 → 1 ≤ f24_12_5.toInt → f24_12_5.toInt ≤ 4 → (200 - v24_3.toInt).toNat < n24 → Wd dC dI A s.heap H locs w20 → TW ksM ad cy (B + 0 + 9 * v24_3.toInt) qr 12 w20 → FE ksM [(12, 24, 24), (12, 31, 31), (69, 0, 64), (70, 0, 10), (71, 216, 243), (71, 220, 247), (71, 221, 248), (71, 222, 249), (71, 223, 250), (71, 224, 251), (72, 0, 12), (73, 0, 10)] w0 w20 → RW w20 → gi w20 12 5 = f24_12_5 → lv_has ls 4 [(0, .ref (ad 0)), (1, .int a1), (2, .int a2), (3, .int v24_3)] → W p l e ({ frames := 9, cells := 0, slots := 0, locals := 194 }) s m (List.toArray [.ref (ad 0), .int a1, .int a2]) below meth c H locs 0 0 (MQ below (va_Qi (P_X12_step_1 ad cy B qr s1 a1 a2 w0) (fun u : va_W => wpost dC dI cy A u) A) (List.toArray [.ref (ad 0), .int a1, .int a2]) s 0 0 A) (F0 m 24 ls []) := by
    intro n24
    induction n24 with
    | zero => intro v24_3 f24_12_5 H locs ls w20 r21 t22 r23 t24 r25 t26 r27 t28 hm24 hw hT hF hRW c29 hl; omega
    | succ n24 ih24 =>
      intro v24_3 f24_12_5 H locs ls w20 r21 t22 r23 t24 r25 t26 r27 t28 hm24 hw hT hF hRW c29 hl
      refine lv_iload_n hx hb dX12_step_24 rfl (lv_at hl 3 rfl) ?_
      refine lv_iload_n hx hb dX12_step_25 rfl (lv_at hl 2 rfl) ?_
      refine lv_icmp_ge (tgt := 49) hx hb dX12_step_26 (by decide) (fun c30 => ?_) (fun c30 => ?_)
      · have c30 : a2.toInt ≤ v24_3.toInt := wk_le.mp c30
        exact J49 v24_3 f24_12_5 H locs ls w20 (show 0 ≤ a1.toInt from r21) (show a1.toInt ≤ 3 from t22) (show 1 ≤ a2.toInt from r23) (show a2.toInt ≤ 200 from t24) (show 0 ≤ v24_3.toInt from r25) (show v24_3.toInt ≤ 200 from t26) (show 1 ≤ f24_12_5.toInt from r27) (show f24_12_5.toInt ≤ 4 from t28)  hw (hT.up (show (B + 0 + 9 * v24_3.toInt) ≤ (B + 1800) by omega)) hF hRW c29 (lv_sub hl [0, 1, 2, 3] rfl)
      · have c30 : v24_3.toInt < a2.toInt := wk_leF c30
        refine lv_aload_n hx hb dX12_step_29 rfl (lv_at hl 0 rfl) ?_
        refine lv_iload_n hx hb dX12_step_30 rfl (lv_at hl 1 rfl) ?_
        refine tk_Vi hC hK hw hT hA hE hSR kM_at0 (by decide) rfl (k_X12_isThere_1 l adK adV dC dI cy ad (B + 0 + 9 * v24_3.toInt) (by omega) (by omega) qr s1   a1 (show 0 ≤ a1.toInt from r21) (show a1.toInt ≤ 3 from t22) w20 H.size hT ) (cwV 1 hC.2.2.2.2 uV_RX12_416 rfl rfl rfl (by decide +kernel) ⟨Nat.le_of_ble_eq_true rfl, Nat.le_of_ble_eq_true rfl⟩) rfl hl.1 rfl (Nat.le_of_ble_eq_true rfl) dX12_step_31 (fun r31 w33 H locs hp32 hw => ?_)
        obtain ⟨rfl, hg35⟩ := hp32
        rcases hg35 with rfl | rfl
        · refine lv_if_ne (tgt := 49) hx hb dX12_step_34 (by decide) (fun c => absurd (by decide) c) (fun _ => ?_)
          refine lv_aload_n hx hb dX12_step_37 rfl (lv_at hl 0 rfl) ?_
          refine lv_iload_n hx hb dX12_step_38 rfl (lv_at hl 1 rfl) ?_
          refine tk_Vi hC hK hw hT hA hE hSR kM_at0 (by decide) rfl (k_X12_steps_1 l adK adV dC dI cy ad (B + 0 + 9 * v24_3.toInt) (by omega) (by omega) qr s1   a1 (show 0 ≤ a1.toInt from r21) (show a1.toInt ≤ 3 from t22) w20 H.size hT hRW) (cwV 1 hC.2.2.2.2 uV_RX12_419 rfl rfl rfl (by decide +kernel) ⟨Nat.le_of_ble_eq_true rfl, Nat.le_of_ble_eq_true rfl⟩) rfl hl.1 rfl (Nat.le_of_ble_eq_true rfl) dX12_step_39 (fun r36 w38 H locs hp37 hw => ?_)
          obtain ⟨hT, k39, hg40⟩ := hp37
          have hT := hT.up (B' := (B + 9 + 9 * v24_3.toInt)) (by omega)
          have hRW := RW_FE k39 (fun _ => rfl) (fun _ => rfl) (fun _ => rfl) hRW
          have hF := hF.tr k39 (by decide)
          have c41 := k39.gi kM_at12 (by decide) c29
          rcases hg40 with rfl | rfl
          · refine lv_pop hx hb dX12_step_42 rfl ?_
            obtain ⟨x42, ex42⟩ : ∃ y : Int32, y = v24_3 + Int32.ofInt 1 := ⟨_, rfl⟩
            refine lv_iinc (v := x42) (lv' := [(3, .int x42), (0, .ref (ad 0)), (1, .int a1), (2, .int a2)]) hx hb dX12_step_43 hl (k := 3) rfl ex42.symm (by decide) rfl (fun ls hl => ?_)
            have ex42 : x42.toInt = v24_3.toInt + 1 := by rw [ex42]; exact wk_add (y := 1) (show -2147483648 ≤ v24_3.toInt + 1 by omega) (show v24_3.toInt + 1 ≤ 2147483647 by omega)
            refine lv_goto (tgt := 24) hx hb dX12_step_46 (by decide) ?_
            exact ih24 x42 f24_12_5 H locs ls w38 (show 0 ≤ a1.toInt from r21) (show a1.toInt ≤ 3 from t22) (show 1 ≤ a2.toInt from r23) (show a2.toInt ≤ 200 from t24) (show 0 ≤ x42.toInt by first | with_reducible assumption | omega) (show x42.toInt ≤ 200 by first | with_reducible assumption | omega) (show 1 ≤ f24_12_5.toInt from r27) (show f24_12_5.toInt ≤ 4 from t28) (show (200 - x42.toInt).toNat < n24 by first | exact tn_lt hm24 (by omega) (by omega) | omega) hw (hT.up (show (B + 9 + 9 * v24_3.toInt) ≤ (B + 0 + 9 * x42.toInt) by omega)) hF hRW c41 (lv_sub hl [1, 2, 3, 0] rfl)
          · refine lv_pop hx hb dX12_step_42 rfl ?_
            obtain ⟨x43, ex43⟩ : ∃ y : Int32, y = v24_3 + Int32.ofInt 1 := ⟨_, rfl⟩
            refine lv_iinc (v := x43) (lv' := [(3, .int x43), (0, .ref (ad 0)), (1, .int a1), (2, .int a2)]) hx hb dX12_step_43 hl (k := 3) rfl ex43.symm (by decide) rfl (fun ls hl => ?_)
            have ex43 : x43.toInt = v24_3.toInt + 1 := by rw [ex43]; exact wk_add (y := 1) (show -2147483648 ≤ v24_3.toInt + 1 by omega) (show v24_3.toInt + 1 ≤ 2147483647 by omega)
            refine lv_goto (tgt := 24) hx hb dX12_step_46 (by decide) ?_
            exact ih24 x43 f24_12_5 H locs ls w38 (show 0 ≤ a1.toInt from r21) (show a1.toInt ≤ 3 from t22) (show 1 ≤ a2.toInt from r23) (show a2.toInt ≤ 200 from t24) (show 0 ≤ x43.toInt by first | with_reducible assumption | omega) (show x43.toInt ≤ 200 by first | with_reducible assumption | omega) (show 1 ≤ f24_12_5.toInt from r27) (show f24_12_5.toInt ≤ 4 from t28) (show (200 - x43.toInt).toNat < n24 by first | exact tn_lt hm24 (by omega) (by omega) | omega) hw (hT.up (show (B + 9 + 9 * v24_3.toInt) ≤ (B + 0 + 9 * x43.toInt) by omega)) hF hRW c41 (lv_sub hl [1, 2, 3, 0] rfl)
        · refine lv_if_ne (tgt := 49) hx hb dX12_step_34 (by decide) (fun _ => ?_) (fun c => absurd c (by decide))
          exact J49 v24_3 f24_12_5 H locs ls w20 (show 0 ≤ a1.toInt from r21) (show a1.toInt ≤ 3 from t22) (show 1 ≤ a2.toInt from r23) (show a2.toInt ≤ 200 from t24) (show 0 ≤ v24_3.toInt from r25) (show v24_3.toInt ≤ 200 from t26) (show 1 ≤ f24_12_5.toInt from r27) (show f24_12_5.toInt ≤ 4 from t28)  hw (hT.up (show (B + 0 + 9 * v24_3.toInt) ≤ (B + 1800) by omega)) hF hRW c29 (lv_sub hl [0, 1, 2, 3] rfl)
  refine lv_aload_n hx hb dX12_step_0 rfl (lv_at hl 0 rfl) ?_
  refine lv_iload_n hx hb dX12_step_1 rfl (lv_at hl 1 rfl) ?_
  refine tk_Vi hC hK hw hT hA hE hSR kM_at0 (by decide) rfl (k_X12_isWalker_1 l adK adV dC dI cy ad B hB0 (Int.le_trans hB1 (by decide)) qr s1   a1 w0 s.heap.size hT ) (cwV 1 hC.2.2.2.2 uV_RX12_367 rfl rfl rfl (by decide +kernel) ⟨Nat.le_of_ble_eq_true rfl, Nat.le_of_ble_eq_true rfl⟩) rfl hl.1 rfl (Nat.le_of_ble_eq_true rfl) dX12_step_2 (fun r44 w46 H locs hp45 hw => ?_)
  obtain ⟨rfl, hg52⟩ := hp45
  rcases hg52 with rfl | ⟨rfl, g48, g49, ⟨x50, c51, rx50, tx50⟩⟩
  · refine lv_if_eq (tgt := 20) hx hb dX12_step_5 (by decide) (fun _ => ?_) (fun c => absurd (by decide) c)
    exact J20  H locs ls w0   hw hT hF hRW  (lv_sub hl [0, 1, 2] rfl)
  · refine lv_if_eq (tgt := 20) hx hb dX12_step_5 (by decide) (fun c => absurd c (by decide)) (fun _ => ?_)
    refine lv_iload_n hx hb dX12_step_8 rfl (lv_at hl 2 rfl) ?_
    refine lv_i2l hx hb dX12_step_9 rfl ?_
    refine lv_topl (fun x53 ex53 => ?_)
    have ex53 : x53.toInt = a2.toInt := by rw [ex53]; exact wk_i2l _
    have bx53 := wk_i32 a2
    refine lv_lconst (v := 1) hx hb dX12_step_10 (by decide) ?_
    refine lv_ldc2 (v := 200) hx hb hC.2.2.2.1 (hC.2.2.2.2 _ (List.mem_cons_of_mem _ uw_46_14)) dX12_step_11 ?_
    refine tk_Si hC hK hw hT hA hE hSR (k_X12_in_14 l adK adV dC dI cy ad B hB0 (Int.le_trans hB1 (by decide)) qr s1   x53 (show (-2147483648) ≤ x53.toInt by first | with_reducible assumption | omega) (show x53.toInt ≤ 2147483647 by first | with_reducible assumption | omega) w0 H.size hT ) (va_cwS 3 hC.2.2.2.2 uS_RX12_122 rfl rfl rfl (by decide +kernel) ⟨Nat.le_of_ble_eq_true rfl, Nat.le_of_ble_eq_true rfl⟩) rfl hl.1 rfl (Nat.le_of_ble_eq_true rfl) dX12_step_14 (fun r54 w56 H locs hp55 hw => ?_)
    obtain ⟨rfl, hg60⟩ := hp55
    rcases hg60 with rfl | ⟨rfl, g58, g59⟩
    · refine lv_if_ne (tgt := 22) hx hb dX12_step_17 (by decide) (fun c => absurd (by decide) c) (fun _ => ?_)
      exact J20  H locs ls w0   hw hT hF hRW  (lv_sub hl [0, 1, 2] rfl)
    · refine lv_if_ne (tgt := 22) hx hb dX12_step_17 (by decide) (fun _ => ?_) (fun c => absurd c (by decide))
      refine lv_iconst (v := 0) hx hb dX12_step_22 (by decide) ?_
      refine lv_istore_n (lv' := [(3, .int 0), (0, .ref (ad 0)), (1, .int a1), (2, .int a2)]) hx hb dX12_step_23 rfl hl (by decide) rfl (fun ls hl => ?_)
      exact L24 ((200 - (0 : Int)).toNat + 1) 0 x50 H locs ls w0 (show 0 ≤ a1.toInt by first | with_reducible assumption | omega) (show a1.toInt ≤ 3 by first | with_reducible assumption | omega) (show 1 ≤ a2.toInt by first | with_reducible assumption | omega) (show a2.toInt ≤ 200 by first | with_reducible assumption | omega) (by decide) (by decide) (show 1 ≤ x50.toInt by first | with_reducible assumption | omega) (show x50.toInt ≤ 4 by first | with_reducible assumption | omega) (Nat.lt_succ_self _) hw (hT.up (show B ≤ (B + 0 + 9 * (0 : Int32).toInt) by rw [show (0 : Int32).toInt = 0 by decide]; omega)) hF hRW c51 (lv_sub hl [1, 2, 3, 0] rfl)
abbrev P_X12_canLook_1 (ad : Nat → Nat) (cy : Nat → ClassId) (B : Int) (qr : Nat) (s1 : Int) (a1 : Int32) (a2 : Int32) (a3 : Int32) (w0 : va_W) : Int32 → va_W → Prop := fun r u => w0 = u ∧ ((r = 0) ∨ (r = 1 ∧ 0 ≤ a1.toInt ∧ a1.toInt ≤ 9 ∧ 0 ≤ a2.toInt ∧ a2.toInt ≤ 9 ∧ 0 ≤ a3.toInt ∧ a3.toInt ≤ 99999 ∧ (∃ y : Int32, gi u 12 0 = y ∧ 1 ≤ y.toInt ∧ y.toInt ≤ 10)))
set_option maxHeartbeats 4000000 in
set_option maxRecDepth 100000 in
theorem k_X12_canLook_1 (l : Launch) (adK adV : Nat → Nat) (dC : Nat → ClassId) (dI : Nat → Nat → Nat) (cy : Nat → ClassId) (ad : Nat → Nat) (B : Int) (hB0 : 100000 ≤ B) (hB1 : B ≤ 1073741824) (qr : Nat) (s1 : Int)  (a1 : Int32) (a2 : Int32) (a3 : Int32) (w0 : va_W) (sz : Nat) (hT : TW ksM ad cy B qr 12 w0)  : Met l yX12_canLook (wu yX12_canLook cX12_canLook 4 (some .boolean)) ({ frames := 2, cells := 0, slots := 0, locals := 33 }) (va_Pc [.ref (ad 0), .int a1, .int a2, .int a3] (wpreS adK adV dC dI cy sz w0)) (va_Qi (P_X12_canLook_1 ad cy B qr s1 a1 a2 a3 w0) (fun u : va_W => wpost dC dI cy (va_A w0 sz) u) (va_A w0 sz)) 0 0 (va_A w0 sz) := by
  refine Met.ofW (cc := cX12_canLook) (maxL := 4) (ret := (some .boolean)) (by decide) rfl ?_
  intro p e s m args below meth c s₁ Bk hml hv
  obtain ⟨rfl, ⟨hsz, hP, hK, hD0⟩, hE, hSR⟩ := hv
  have hx := Bk.exec
  have hb := Bk.bytes
  have hr := Bk.returns
  have hlocks := Bk.notSynchronized
  have hC : CallFix p m c cX12_canLook 4 s _ (wu yX12_canLook cX12_canLook 4 (some .boolean)) RX12 := ⟨hx, hb, hml, findClass_of_methodNamed Bk.named, atoms_spec (ws := (wu yX12_canLook cX12_canLook 4 (some .boolean))) Bk.pre⟩
  subst hsz
  have hD := hD0.self (sz := s.heap.size)
  generalize hAe : va_A w0 s.heap.size = A at hD hE ⊢
  have hA : ∀ q : Nat, s.heap.size ≤ q → A q := fun q h => by rw [← hAe]; exact Or.inr h
  have hw : Wd dC dI A s.heap s.heap [] w0 := ⟨hP, hD, va_S.rf⟩
  have hF : FE ksM ([] : List (Nat × Nat × Nat)) w0 w0 := FE.rf
  have hl := lv_entry ([.ref (ad 0), .int a1, .int a2, .int a3]) (n := 4) (Nat.le_of_ble_eq_true rfl)
  rw [lg_entry_eq]
  generalize (lg_sl ([.ref (ad 0), .int a1, .int a2, .int a3]) ++ List.replicate (4 - (lg_sl ([.ref (ad 0), .int a1, .int a2, .int a3])).length) Slot.unset).toArray = ls at hl ⊢
  have hl : lv_has ls 4 [(0, .ref (ad 0)), (1, .int a1), (2, .int a2), (3, .int a3)] := hl
  generalize hloc : ([] : List Loc) = locs at hw ⊢
  have J27 : ∀ (H : Heap) (locs : List Loc) (ls : Array Slot), Wd dC dI A s.heap H locs w0 → lv_has ls 4 [(0, .ref (ad 0)), (1, .int a1), (2, .int a2), (3, .int a3)] → W p l e ({ frames := 2, cells := 0, slots := 0, locals := 33 }) s m (List.toArray [.ref (ad 0), .int a1, .int a2, .int a3]) below meth c H locs 0 0 (MQ below (va_Qi (P_X12_canLook_1 ad cy B qr s1 a1 a2 a3 w0) (fun u : va_W => wpost dC dI cy A u) A) (List.toArray [.ref (ad 0), .int a1, .int a2, .int a3]) s 0 0 A) (F0 m 27 ls []) := by
    intro H locs ls hw hl
    refine lv_iconst (v := 0) hx hb dX12_canLook_27 (by decide) ?_
    exact tk_zret hC hr rfl hlocks hK ⟨rfl, (Or.inl rfl)⟩ hw dX12_canLook_28
  refine lv_aload_n hx hb dX12_canLook_0 rfl (lv_at hl 0 rfl) ?_
  refine lv_iload_n hx hb dX12_canLook_1 rfl (lv_at hl 1 rfl) ?_
  refine tk_Vi hC hK hw hT hA hE hSR kM_at0 (by decide) rfl (k_X12_isCorner_1 l adK adV dC dI cy ad B hB0 (Int.le_trans hB1 (by decide)) qr s1   a1 w0 s.heap.size hT ) (cwV 1 hC.2.2.2.2 uV_RX12_328 rfl rfl rfl (by decide +kernel) ⟨Nat.le_of_ble_eq_true rfl, Nat.le_of_ble_eq_true rfl⟩) rfl hl.1 rfl (Nat.le_of_ble_eq_true rfl) dX12_canLook_2 (fun r1 w3 H locs hp2 hw => ?_)
  obtain ⟨rfl, hg9⟩ := hp2
  rcases hg9 with rfl | ⟨rfl, g5, g6, ⟨x7, c8, rx7, tx7⟩⟩
  · refine lv_if_eq (tgt := 27) hx hb dX12_canLook_5 (by decide) (fun _ => ?_) (fun c => absurd (by decide) c)
    exact J27  H locs ls    hw   (lv_sub hl [0, 1, 2, 3] rfl)
  · refine lv_if_eq (tgt := 27) hx hb dX12_canLook_5 (by decide) (fun c => absurd c (by decide)) (fun _ => ?_)
    refine lv_aload_n hx hb dX12_canLook_8 rfl (lv_at hl 0 rfl) ?_
    refine lv_iload_n hx hb dX12_canLook_9 rfl (lv_at hl 2 rfl) ?_
    refine tk_Vi hC hK hw hT hA hE hSR kM_at0 (by decide) rfl (k_X12_isCorner_1 l adK adV dC dI cy ad B hB0 (Int.le_trans hB1 (by decide)) qr s1   a2 w0 H.size hT ) (cwV 1 hC.2.2.2.2 uV_RX12_328 rfl rfl rfl (by decide +kernel) ⟨Nat.le_of_ble_eq_true rfl, Nat.le_of_ble_eq_true rfl⟩) rfl hl.1 rfl (Nat.le_of_ble_eq_true rfl) dX12_canLook_10 (fun r10 w12 H locs hp11 hw => ?_)
    obtain ⟨rfl, hg18⟩ := hp11
    rcases hg18 with rfl | ⟨rfl, g14, g15, ⟨x16, c17, rx16, tx16⟩⟩
    · refine lv_if_eq (tgt := 27) hx hb dX12_canLook_13 (by decide) (fun _ => ?_) (fun c => absurd (by decide) c)
      exact J27  H locs ls    hw   (lv_sub hl [0, 1, 2, 3] rfl)
    · have ex16 : x16.toInt = x7.toInt := by rw [← c8.symm.trans c17]
      refine lv_if_eq (tgt := 27) hx hb dX12_canLook_13 (by decide) (fun c => absurd c (by decide)) (fun _ => ?_)
      refine lv_iload_n hx hb dX12_canLook_16 rfl (lv_at hl 3 rfl) ?_
      refine tk_Si hC hK hw hT hA hE hSR (k_X12_isHour_1 l adK adV dC dI cy ad B hB0 (Int.le_trans hB1 (by decide)) qr s1   a3 w0 H.size hT ) (va_cwS 1 hC.2.2.2.2 uS_RX12_331 rfl rfl rfl (by decide +kernel) ⟨Nat.le_of_ble_eq_true rfl, Nat.le_of_ble_eq_true rfl⟩) rfl hl.1 rfl (Nat.le_of_ble_eq_true rfl) dX12_canLook_17 (fun r19 w21 H locs hp20 hw => ?_)
      obtain ⟨rfl, hg25⟩ := hp20
      rcases hg25 with rfl | ⟨rfl, g23, g24⟩
      · refine lv_if_eq (tgt := 27) hx hb dX12_canLook_20 (by decide) (fun _ => ?_) (fun c => absurd (by decide) c)
        exact J27  H locs ls    hw   (lv_sub hl [0, 1, 2, 3] rfl)
      · refine lv_if_eq (tgt := 27) hx hb dX12_canLook_20 (by decide) (fun c => absurd c (by decide)) (fun _ => ?_)
        refine lv_iconst (v := 1) hx hb dX12_canLook_23 (by decide) ?_
        refine lv_goto (tgt := 28) hx hb dX12_canLook_24 (by decide) ?_
        exact tk_zret hC hr rfl hlocks hK ⟨rfl, (Or.inr ⟨rfl, (show 0 ≤ a1.toInt by first | with_reducible assumption | omega), (show a1.toInt ≤ 9 by first | with_reducible assumption | omega), (show 0 ≤ a2.toInt by first | with_reducible assumption | omega), (show a2.toInt ≤ 9 by first | with_reducible assumption | omega), (show 0 ≤ a3.toInt by first | with_reducible assumption | omega), (show a3.toInt ≤ 99999 by first | with_reducible assumption | omega), ⟨x7, c8, (show 1 ≤ x7.toInt by first | with_reducible assumption | omega), (show x7.toInt ≤ 10 by first | with_reducible assumption | omega)⟩⟩)⟩ hw dX12_canLook_28
abbrev P_X12_isDayFor_3 (ad : Nat → Nat) (cy : Nat → ClassId) (B : Int) (qr : Nat) (s1 : Int) (a1 : Int32) (a2 : Int32) (a3 : Int32) (w0 : va_W) : Int32 → va_W → Prop := fun r u => w0 = u ∧ ((r = 0 ∧ (¬ mDay w0 a1.toInt a2.toInt a3.toInt)) ∨ (r = 0 ∧ gi u 12 (10 * a1.toInt + 10).toNat = a2 ∧ (¬ mDay w0 a1.toInt a2.toInt a3.toInt)) ∨ (r = 1 ∧ (mDay w0 a1.toInt a2.toInt a3.toInt)) ∨ (r = 1 ∧ gi u 12 (10 * a1.toInt + 10).toNat = a2 ∧ (mDay w0 a1.toInt a2.toInt a3.toInt)))
set_option maxHeartbeats 4000000 in
set_option maxRecDepth 100000 in
theorem k_X12_isDayFor_3 (l : Launch) (adK adV : Nat → Nat) (dC : Nat → ClassId) (dI : Nat → Nat → Nat) (cy : Nat → ClassId) (ad : Nat → Nat) (B : Int) (hB0 : 100000 ≤ B) (hB1 : B ≤ 1073741824) (qr : Nat) (s1 : Int)  (a1 : Int32) (ra1 : 0 ≤ a1.toInt) (ta1 : a1.toInt ≤ 11) (a2 : Int32) (ra2 : 0 ≤ a2.toInt) (ta2 : a2.toInt ≤ 9) (a3 : Int32) (ra3 : 0 ≤ a3.toInt) (ta3 : a3.toInt ≤ 4249) (w0 : va_W) (sz : Nat) (hT : TW ksM ad cy B qr 12 w0)  : Met l yX12_isDayFor (wu yX12_isDayFor cX12_isDayFor 4 (some .boolean)) ({ frames := 3, cells := 0, slots := 0, locals := 57 }) (va_Pc [.ref (ad 0), .int a1, .int a2, .int a3] (wpreS adK adV dC dI cy sz w0)) (va_Qi (P_X12_isDayFor_3 ad cy B qr s1 a1 a2 a3 w0) (fun u : va_W => wpost dC dI cy (va_A w0 sz) u) (va_A w0 sz)) 0 0 (va_A w0 sz) := by
  refine Met.ofW (cc := cX12_isDayFor) (maxL := 4) (ret := (some .boolean)) (by decide) rfl ?_
  intro p e s m args below meth c s₁ Bk hml hv
  obtain ⟨rfl, ⟨hsz, hP, hK, hD0⟩, hE, hSR⟩ := hv
  have hx := Bk.exec
  have hb := Bk.bytes
  have hr := Bk.returns
  have hlocks := Bk.notSynchronized
  have hC : CallFix p m c cX12_isDayFor 4 s _ (wu yX12_isDayFor cX12_isDayFor 4 (some .boolean)) RX12 := ⟨hx, hb, hml, findClass_of_methodNamed Bk.named, atoms_spec (ws := (wu yX12_isDayFor cX12_isDayFor 4 (some .boolean))) Bk.pre⟩
  subst hsz
  have hD := hD0.self (sz := s.heap.size)
  generalize hAe : va_A w0 s.heap.size = A at hD hE ⊢
  have hA : ∀ q : Nat, s.heap.size ≤ q → A q := fun q h => by rw [← hAe]; exact Or.inr h
  have hw : Wd dC dI A s.heap s.heap [] w0 := ⟨hP, hD, va_S.rf⟩
  have hF : FE ksM ([] : List (Nat × Nat × Nat)) w0 w0 := FE.rf
  have hl := lv_entry ([.ref (ad 0), .int a1, .int a2, .int a3]) (n := 4) (Nat.le_of_ble_eq_true rfl)
  rw [lg_entry_eq]
  generalize (lg_sl ([.ref (ad 0), .int a1, .int a2, .int a3]) ++ List.replicate (4 - (lg_sl ([.ref (ad 0), .int a1, .int a2, .int a3])).length) Slot.unset).toArray = ls at hl ⊢
  have hl : lv_has ls 4 [(0, .ref (ad 0)), (1, .int a1), (2, .int a2), (3, .int a3)] := hl
  generalize hloc : ([] : List Loc) = locs at hw ⊢
  refine lv_aload_n hx hb dX12_isDayFor_0 rfl (lv_at hl 0 rfl) ?_
  refine lv_aload_n hx hb dX12_isDayFor_1 rfl (lv_at hl 0 rfl) ?_
  refine lv_iload_n hx hb dX12_isDayFor_2 rfl (lv_at hl 1 rfl) ?_
  refine lv_iconst (v := 3) hx hb dX12_isDayFor_3 (by decide) ?_
  refine lv_iload_n hx hb dX12_isDayFor_4 rfl (lv_at hl 3 rfl) ?_
  refine lv_bipush (v := 7) hx hb dX12_isDayFor_5 (by decide) ?_
  refine lv_irem hx hb dX12_isDayFor_7 (by decide) ?_
  refine lv_topi (fun x1 ex1 => ?_)
  have ex1 : x1.toInt = a3.toInt % (7 : Int) := by rw [ex1]; exact wk_rem (show 0 ≤ a3.toInt from ra3) (show 0 < (7 : Int) by decide)
  refine lv_iadd hx hb dX12_isDayFor_8 ?_
  refine lv_topi (fun x2 ex2 => ?_)
  have ex2 : x2.toInt = (3 : Int) + x1.toInt := by rw [ex2]; exact wk_add (show (-2147483648) ≤ (3 : Int) + x1.toInt by omega) (show (3 : Int) + x1.toInt ≤ 2147483647 by omega)
  refine tk_Vi hC hK hw hT hA hE hSR kM_at0 (by decide) rfl (k_X12_streetOf_4 l adK adV dC dI cy ad B hB0 (Int.le_trans hB1 (by decide)) qr s1   a1 (show 0 ≤ a1.toInt from ra1) (show a1.toInt ≤ 11 from ta1) x2 (show 3 ≤ x2.toInt by first | with_reducible assumption | omega) (show x2.toInt ≤ 9 by first | with_reducible assumption | omega) w0 s.heap.size hT ) (cwV 2 hC.2.2.2.2 uV_RX12_300 rfl rfl rfl (by decide +kernel) ⟨Nat.le_of_ble_eq_true rfl, Nat.le_of_ble_eq_true rfl⟩) rfl hl.1 rfl (Nat.le_of_ble_eq_true rfl) dX12_isDayFor_9 (fun r3 w5 H locs hp4 hw => ?_)
  obtain ⟨rfl, hg10⟩ := hp4
  obtain ⟨g7, g8, c9⟩ := hg10
  refine lv_iload_n hx hb dX12_isDayFor_12 rfl (lv_at hl 1 rfl) ?_
  refine lv_iload_n hx hb dX12_isDayFor_13 rfl (lv_at hl 2 rfl) ?_
  refine tk_Vi hC hK hw hT hA hE hSR kM_at0 (by decide) rfl (k_X12_hasSign_1 l adK adV dC dI cy ad B hB0 (Int.le_trans hB1 (by decide)) qr s1   r3 (show 0 ≤ r3.toInt by first | with_reducible assumption | omega) (show r3.toInt ≤ 9 by first | with_reducible assumption | omega) a1 (show 0 ≤ a1.toInt from ra1) (show a1.toInt ≤ 11 from ta1) a2 (show 0 ≤ a2.toInt from ra2) (show a2.toInt ≤ 9 from ta2) w0 H.size hT ) (cwV 3 hC.2.2.2.2 uV_RX12_307 rfl rfl rfl (by decide +kernel) ⟨Nat.le_of_ble_eq_true rfl, Nat.le_of_ble_eq_true rfl⟩) rfl hl.1 rfl (Nat.le_of_ble_eq_true rfl) dX12_isDayFor_14 (fun r11 w13 H locs hp12 hw => ?_)
  obtain ⟨rfl, hg21⟩ := hp12
  rcases hg21 with ⟨rfl, hq15⟩ | ⟨rfl, c16, hq17⟩ | ⟨rfl, hq18⟩ | ⟨rfl, c19, hq20⟩
  · refine lv_if_ne (tgt := 22) hx hb dX12_isDayFor_17 (by decide) (fun c => absurd (by decide) c) (fun _ => ?_)
    refine lv_iconst (v := 0) hx hb dX12_isDayFor_20 (by decide) ?_
    exact tk_zret hC hr rfl hlocks hK ⟨rfl, (Or.inl ⟨rfl, (by unfold mDay; rw [show (10 * a1.toInt + (3 + a3.toInt % 7) + 10) = 10 * a1.toInt + 1 * x2.toInt + 10 by omega]; simp only [c9]; first | exact ⟨by assumption, by assumption, by assumption⟩ | (rintro ⟨q1, q2, q3⟩; first | exact absurd q1 (by assumption) | exact q2 (by assumption) | exact q3 (by assumption)))⟩)⟩ hw dX12_isDayFor_21
  · refine lv_if_ne (tgt := 22) hx hb dX12_isDayFor_17 (by decide) (fun c => absurd (by decide) c) (fun _ => ?_)
    refine lv_iconst (v := 0) hx hb dX12_isDayFor_20 (by decide) ?_
    exact tk_zret hC hr rfl hlocks hK ⟨rfl, (Or.inr (Or.inl ⟨rfl, c16, (by unfold mDay; rw [show (10 * a1.toInt + (3 + a3.toInt % 7) + 10) = 10 * a1.toInt + 1 * x2.toInt + 10 by omega]; simp only [c9, c16]; first | exact ⟨by assumption, by assumption, by assumption⟩ | (rintro ⟨q1, q2, q3⟩; first | exact absurd q1 (by assumption) | exact q2 (by assumption) | exact q3 (by assumption)))⟩))⟩ hw dX12_isDayFor_21
  · refine lv_if_ne (tgt := 22) hx hb dX12_isDayFor_17 (by decide) (fun _ => ?_) (fun c => absurd c (by decide))
    refine lv_aload_n hx hb dX12_isDayFor_22 rfl (lv_at hl 0 rfl) ?_
    refine lv_aload_n hx hb dX12_isDayFor_23 rfl (lv_at hl 0 rfl) ?_
    refine lv_iload_n hx hb dX12_isDayFor_24 rfl (lv_at hl 1 rfl) ?_
    refine lv_iconst (v := 0) hx hb dX12_isDayFor_25 (by decide) ?_
    refine tk_Vi hC hK hw hT hA hE hSR kM_at0 (by decide) rfl (k_X12_streetOf_2 l adK adV dC dI cy ad B hB0 (Int.le_trans hB1 (by decide)) qr s1   a1 (show 0 ≤ a1.toInt from ra1) (show a1.toInt ≤ 11 from ta1) w0 H.size hT ) (cwV 2 hC.2.2.2.2 uV_RX12_300 rfl rfl rfl (by decide +kernel) ⟨Nat.le_of_ble_eq_true rfl, Nat.le_of_ble_eq_true rfl⟩) rfl hl.1 rfl (Nat.le_of_ble_eq_true rfl) dX12_isDayFor_26 (fun r22 w24 H locs hp23 hw => ?_)
    obtain ⟨rfl, hg29⟩ := hp23
    obtain ⟨g26, g27, c28⟩ := hg29
    refine lv_iload_n hx hb dX12_isDayFor_29 rfl (lv_at hl 3 rfl) ?_
    refine lv_sipush (v := 360) hx hb dX12_isDayFor_30 (by decide) ?_
    refine lv_irem hx hb dX12_isDayFor_33 (by decide) ?_
    refine lv_topi (fun x30 ex30 => ?_)
    have ex30 : x30.toInt = a3.toInt % (360 : Int) := by rw [ex30]; exact wk_rem (show 0 ≤ a3.toInt from ra3) (show 0 < (360 : Int) by decide)
    refine tk_Vi hC hK hw hT hA hE hSR kM_at0 (by decide) rfl (k_X12_isClosed_1 l adK adV dC dI cy ad B hB0 (Int.le_trans hB1 (by decide)) qr s1   r22 (show 0 ≤ r22.toInt by first | with_reducible assumption | omega) (show r22.toInt ≤ 9 by first | with_reducible assumption | omega) x30 (show 0 ≤ x30.toInt by first | with_reducible assumption | omega) (show x30.toInt ≤ 359 by first | with_reducible assumption | omega) w0 H.size hT ) (cwV 2 hC.2.2.2.2 uV_RX12_311 rfl rfl rfl (by decide +kernel) ⟨Nat.le_of_ble_eq_true rfl, Nat.le_of_ble_eq_true rfl⟩) rfl hl.1 rfl (Nat.le_of_ble_eq_true rfl) dX12_isDayFor_34 (fun r31 w33 H locs hp32 hw => ?_)
    obtain ⟨rfl, hg41⟩ := hp32
    rcases hg41 with ⟨rfl, hq35⟩ | ⟨rfl, ⟨x36, c37, rx36, tx36⟩, ⟨x38, c39, rx38, tx38⟩, hq40⟩
    · refine lv_if_ne (tgt := 62) hx hb dX12_isDayFor_37 (by decide) (fun c => absurd (by decide) c) (fun _ => ?_)
      refine lv_aload_n hx hb dX12_isDayFor_40 rfl (lv_at hl 0 rfl) ?_
      refine lv_aload_n hx hb dX12_isDayFor_41 rfl (lv_at hl 0 rfl) ?_
      refine lv_iload_n hx hb dX12_isDayFor_42 rfl (lv_at hl 1 rfl) ?_
      refine lv_iconst (v := 1) hx hb dX12_isDayFor_43 (by decide) ?_
      refine tk_Vi hC hK hw hT hA hE hSR kM_at0 (by decide) rfl (k_X12_streetOf_3 l adK adV dC dI cy ad B hB0 (Int.le_trans hB1 (by decide)) qr s1   a1 (show 0 ≤ a1.toInt from ra1) (show a1.toInt ≤ 11 from ta1) w0 H.size hT ) (cwV 2 hC.2.2.2.2 uV_RX12_300 rfl rfl rfl (by decide +kernel) ⟨Nat.le_of_ble_eq_true rfl, Nat.le_of_ble_eq_true rfl⟩) rfl hl.1 rfl (Nat.le_of_ble_eq_true rfl) dX12_isDayFor_44 (fun r42 w44 H locs hp43 hw => ?_)
      obtain ⟨rfl, hg49⟩ := hp43
      obtain ⟨g46, g47, c48⟩ := hg49
      refine lv_iload_n hx hb dX12_isDayFor_47 rfl (lv_at hl 3 rfl) ?_
      refine lv_sipush (v := 360) hx hb dX12_isDayFor_48 (by decide) ?_
      refine lv_irem hx hb dX12_isDayFor_51 (by decide) ?_
      refine lv_topi (fun x50 ex50 => ?_)
      have ex50 : x50.toInt = a3.toInt % (360 : Int) := by rw [ex50]; exact wk_rem (show 0 ≤ a3.toInt from ra3) (show 0 < (360 : Int) by decide)
      refine tk_Vi hC hK hw hT hA hE hSR kM_at0 (by decide) rfl (k_X12_isClosed_1 l adK adV dC dI cy ad B hB0 (Int.le_trans hB1 (by decide)) qr s1   r42 (show 0 ≤ r42.toInt by first | with_reducible assumption | omega) (show r42.toInt ≤ 9 by first | with_reducible assumption | omega) x50 (show 0 ≤ x50.toInt by first | with_reducible assumption | omega) (show x50.toInt ≤ 359 by first | with_reducible assumption | omega) w0 H.size hT ) (cwV 2 hC.2.2.2.2 uV_RX12_311 rfl rfl rfl (by decide +kernel) ⟨Nat.le_of_ble_eq_true rfl, Nat.le_of_ble_eq_true rfl⟩) rfl hl.1 rfl (Nat.le_of_ble_eq_true rfl) dX12_isDayFor_52 (fun r51 w53 H locs hp52 hw => ?_)
      obtain ⟨rfl, hg61⟩ := hp52
      rcases hg61 with ⟨rfl, hq55⟩ | ⟨rfl, ⟨x56, c57, rx56, tx56⟩, ⟨x58, c59, rx58, tx58⟩, hq60⟩
      · refine lv_if_ne (tgt := 62) hx hb dX12_isDayFor_55 (by decide) (fun c => absurd (by decide) c) (fun _ => ?_)
        refine lv_iconst (v := 1) hx hb dX12_isDayFor_58 (by decide) ?_
        refine lv_goto (tgt := 63) hx hb dX12_isDayFor_59 (by decide) ?_
        exact tk_zret hC hr rfl hlocks hK ⟨rfl, (Or.inr (Or.inr (Or.inl ⟨rfl, (by have hq35 := hq35; rw [show x30.toInt = a3.toInt % 360 by omega] at hq35; have hq55 := hq55; rw [show x50.toInt = a3.toInt % 360 by omega] at hq55; unfold mDay; rw [show (10 * a1.toInt + (3 + a3.toInt % 7) + 10) = 10 * a1.toInt + 1 * x2.toInt + 10 by omega]; simp only [c9, c28, c48]; first | exact ⟨by assumption, by assumption, by assumption⟩ | (rintro ⟨q1, q2, q3⟩; first | exact absurd q1 (by assumption) | exact q2 (by assumption) | exact q3 (by assumption)))⟩)))⟩ hw dX12_isDayFor_63
      · refine lv_if_ne (tgt := 62) hx hb dX12_isDayFor_55 (by decide) (fun _ => ?_) (fun c => absurd c (by decide))
        refine lv_iconst (v := 0) hx hb dX12_isDayFor_62 (by decide) ?_
        exact tk_zret hC hr rfl hlocks hK ⟨rfl, (Or.inl ⟨rfl, (by have hq35 := hq35; rw [show x30.toInt = a3.toInt % 360 by omega] at hq35; have hq60 := hq60; rw [show x50.toInt = a3.toInt % 360 by omega] at hq60; unfold mDay; rw [show (10 * a1.toInt + (3 + a3.toInt % 7) + 10) = 10 * a1.toInt + 1 * x2.toInt + 10 by omega]; simp only [c9, c28, c48, c57, c59]; first | exact ⟨by assumption, by assumption, by assumption⟩ | (rintro ⟨q1, q2, q3⟩; first | exact absurd q1 (by assumption) | exact q2 (by assumption) | exact q3 (by assumption)))⟩)⟩ hw dX12_isDayFor_63
    · refine lv_if_ne (tgt := 62) hx hb dX12_isDayFor_37 (by decide) (fun _ => ?_) (fun c => absurd c (by decide))
      refine lv_iconst (v := 0) hx hb dX12_isDayFor_62 (by decide) ?_
      exact tk_zret hC hr rfl hlocks hK ⟨rfl, (Or.inl ⟨rfl, (by have hq40 := hq40; rw [show x30.toInt = a3.toInt % 360 by omega] at hq40; unfold mDay; rw [show (10 * a1.toInt + (3 + a3.toInt % 7) + 10) = 10 * a1.toInt + 1 * x2.toInt + 10 by omega]; simp only [c9, c28, c37, c39]; first | exact ⟨by assumption, by assumption, by assumption⟩ | (rintro ⟨q1, q2, q3⟩; first | exact absurd q1 (by assumption) | exact q2 (by assumption) | exact q3 (by assumption)))⟩)⟩ hw dX12_isDayFor_63
  · refine lv_if_ne (tgt := 22) hx hb dX12_isDayFor_17 (by decide) (fun _ => ?_) (fun c => absurd c (by decide))
    refine lv_aload_n hx hb dX12_isDayFor_22 rfl (lv_at hl 0 rfl) ?_
    refine lv_aload_n hx hb dX12_isDayFor_23 rfl (lv_at hl 0 rfl) ?_
    refine lv_iload_n hx hb dX12_isDayFor_24 rfl (lv_at hl 1 rfl) ?_
    refine lv_iconst (v := 0) hx hb dX12_isDayFor_25 (by decide) ?_
    refine tk_Vi hC hK hw hT hA hE hSR kM_at0 (by decide) rfl (k_X12_streetOf_2 l adK adV dC dI cy ad B hB0 (Int.le_trans hB1 (by decide)) qr s1   a1 (show 0 ≤ a1.toInt from ra1) (show a1.toInt ≤ 11 from ta1) w0 H.size hT ) (cwV 2 hC.2.2.2.2 uV_RX12_300 rfl rfl rfl (by decide +kernel) ⟨Nat.le_of_ble_eq_true rfl, Nat.le_of_ble_eq_true rfl⟩) rfl hl.1 rfl (Nat.le_of_ble_eq_true rfl) dX12_isDayFor_26 (fun r62 w64 H locs hp63 hw => ?_)
    obtain ⟨rfl, hg69⟩ := hp63
    obtain ⟨g66, g67, c68⟩ := hg69
    obtain rfl : a2 = r62 := c19.symm.trans c68
    refine lv_iload_n hx hb dX12_isDayFor_29 rfl (lv_at hl 3 rfl) ?_
    refine lv_sipush (v := 360) hx hb dX12_isDayFor_30 (by decide) ?_
    refine lv_irem hx hb dX12_isDayFor_33 (by decide) ?_
    refine lv_topi (fun x70 ex70 => ?_)
    have ex70 : x70.toInt = a3.toInt % (360 : Int) := by rw [ex70]; exact wk_rem (show 0 ≤ a3.toInt from ra3) (show 0 < (360 : Int) by decide)
    refine tk_Vi hC hK hw hT hA hE hSR kM_at0 (by decide) rfl (k_X12_isClosed_1 l adK adV dC dI cy ad B hB0 (Int.le_trans hB1 (by decide)) qr s1   a2 (show 0 ≤ a2.toInt from ra2) (show a2.toInt ≤ 9 from ta2) x70 (show 0 ≤ x70.toInt by first | with_reducible assumption | omega) (show x70.toInt ≤ 359 by first | with_reducible assumption | omega) w0 H.size hT ) (cwV 2 hC.2.2.2.2 uV_RX12_311 rfl rfl rfl (by decide +kernel) ⟨Nat.le_of_ble_eq_true rfl, Nat.le_of_ble_eq_true rfl⟩) rfl hl.1 rfl (Nat.le_of_ble_eq_true rfl) dX12_isDayFor_34 (fun r71 w73 H locs hp72 hw => ?_)
    obtain ⟨rfl, hg81⟩ := hp72
    rcases hg81 with ⟨rfl, hq75⟩ | ⟨rfl, ⟨x76, c77, rx76, tx76⟩, ⟨x78, c79, rx78, tx78⟩, hq80⟩
    · refine lv_if_ne (tgt := 62) hx hb dX12_isDayFor_37 (by decide) (fun c => absurd (by decide) c) (fun _ => ?_)
      refine lv_aload_n hx hb dX12_isDayFor_40 rfl (lv_at hl 0 rfl) ?_
      refine lv_aload_n hx hb dX12_isDayFor_41 rfl (lv_at hl 0 rfl) ?_
      refine lv_iload_n hx hb dX12_isDayFor_42 rfl (lv_at hl 1 rfl) ?_
      refine lv_iconst (v := 1) hx hb dX12_isDayFor_43 (by decide) ?_
      refine tk_Vi hC hK hw hT hA hE hSR kM_at0 (by decide) rfl (k_X12_streetOf_3 l adK adV dC dI cy ad B hB0 (Int.le_trans hB1 (by decide)) qr s1   a1 (show 0 ≤ a1.toInt from ra1) (show a1.toInt ≤ 11 from ta1) w0 H.size hT ) (cwV 2 hC.2.2.2.2 uV_RX12_300 rfl rfl rfl (by decide +kernel) ⟨Nat.le_of_ble_eq_true rfl, Nat.le_of_ble_eq_true rfl⟩) rfl hl.1 rfl (Nat.le_of_ble_eq_true rfl) dX12_isDayFor_44 (fun r82 w84 H locs hp83 hw => ?_)
      obtain ⟨rfl, hg89⟩ := hp83
      obtain ⟨g86, g87, c88⟩ := hg89
      refine lv_iload_n hx hb dX12_isDayFor_47 rfl (lv_at hl 3 rfl) ?_
      refine lv_sipush (v := 360) hx hb dX12_isDayFor_48 (by decide) ?_
      refine lv_irem hx hb dX12_isDayFor_51 (by decide) ?_
      refine lv_topi (fun x90 ex90 => ?_)
      have ex90 : x90.toInt = a3.toInt % (360 : Int) := by rw [ex90]; exact wk_rem (show 0 ≤ a3.toInt from ra3) (show 0 < (360 : Int) by decide)
      refine tk_Vi hC hK hw hT hA hE hSR kM_at0 (by decide) rfl (k_X12_isClosed_1 l adK adV dC dI cy ad B hB0 (Int.le_trans hB1 (by decide)) qr s1   r82 (show 0 ≤ r82.toInt by first | with_reducible assumption | omega) (show r82.toInt ≤ 9 by first | with_reducible assumption | omega) x90 (show 0 ≤ x90.toInt by first | with_reducible assumption | omega) (show x90.toInt ≤ 359 by first | with_reducible assumption | omega) w0 H.size hT ) (cwV 2 hC.2.2.2.2 uV_RX12_311 rfl rfl rfl (by decide +kernel) ⟨Nat.le_of_ble_eq_true rfl, Nat.le_of_ble_eq_true rfl⟩) rfl hl.1 rfl (Nat.le_of_ble_eq_true rfl) dX12_isDayFor_52 (fun r91 w93 H locs hp92 hw => ?_)
      obtain ⟨rfl, hg101⟩ := hp92
      rcases hg101 with ⟨rfl, hq95⟩ | ⟨rfl, ⟨x96, c97, rx96, tx96⟩, ⟨x98, c99, rx98, tx98⟩, hq100⟩
      · refine lv_if_ne (tgt := 62) hx hb dX12_isDayFor_55 (by decide) (fun c => absurd (by decide) c) (fun _ => ?_)
        refine lv_iconst (v := 1) hx hb dX12_isDayFor_58 (by decide) ?_
        refine lv_goto (tgt := 63) hx hb dX12_isDayFor_59 (by decide) ?_
        exact tk_zret hC hr rfl hlocks hK ⟨rfl, (Or.inr (Or.inr (Or.inr ⟨rfl, c19, (by have hq75 := hq75; rw [show x70.toInt = a3.toInt % 360 by omega] at hq75; have hq95 := hq95; rw [show x90.toInt = a3.toInt % 360 by omega] at hq95; unfold mDay; rw [show (10 * a1.toInt + (3 + a3.toInt % 7) + 10) = 10 * a1.toInt + 1 * x2.toInt + 10 by omega]; simp only [c9, c19, c88]; first | exact ⟨by assumption, by assumption, by assumption⟩ | (rintro ⟨q1, q2, q3⟩; first | exact absurd q1 (by assumption) | exact q2 (by assumption) | exact q3 (by assumption)))⟩)))⟩ hw dX12_isDayFor_63
      · refine lv_if_ne (tgt := 62) hx hb dX12_isDayFor_55 (by decide) (fun _ => ?_) (fun c => absurd c (by decide))
        refine lv_iconst (v := 0) hx hb dX12_isDayFor_62 (by decide) ?_
        exact tk_zret hC hr rfl hlocks hK ⟨rfl, (Or.inr (Or.inl ⟨rfl, c19, (by have hq75 := hq75; rw [show x70.toInt = a3.toInt % 360 by omega] at hq75; have hq100 := hq100; rw [show x90.toInt = a3.toInt % 360 by omega] at hq100; unfold mDay; rw [show (10 * a1.toInt + (3 + a3.toInt % 7) + 10) = 10 * a1.toInt + 1 * x2.toInt + 10 by omega]; simp only [c9, c19, c88, c97, c99]; first | exact ⟨by assumption, by assumption, by assumption⟩ | (rintro ⟨q1, q2, q3⟩; first | exact absurd q1 (by assumption) | exact q2 (by assumption) | exact q3 (by assumption)))⟩))⟩ hw dX12_isDayFor_63
    · refine lv_if_ne (tgt := 62) hx hb dX12_isDayFor_37 (by decide) (fun _ => ?_) (fun c => absurd c (by decide))
      refine lv_iconst (v := 0) hx hb dX12_isDayFor_62 (by decide) ?_
      exact tk_zret hC hr rfl hlocks hK ⟨rfl, (Or.inr (Or.inl ⟨rfl, c19, (by have hq80 := hq80; rw [show x70.toInt = a3.toInt % 360 by omega] at hq80; unfold mDay; rw [show (10 * a1.toInt + (3 + a3.toInt % 7) + 10) = 10 * a1.toInt + 1 * x2.toInt + 10 by omega]; simp only [c9, c19, c77, c79]; first | exact ⟨by assumption, by assumption, by assumption⟩ | (rintro ⟨q1, q2, q3⟩; first | exact absurd q1 (by assumption) | exact q2 (by assumption) | exact q3 (by assumption)))⟩))⟩ hw dX12_isDayFor_63
abbrev P_X12_isLifted_3 (ad : Nat → Nat) (cy : Nat → ClassId) (B : Int) (qr : Nat) (s1 : Int) (a1 : Int32) (a2 : Int32) (w0 : va_W) : Int32 → va_W → Prop := fun r u => w0 = u ∧ ((r = 0 ∧ (¬ mLf w0 a1.toInt a2.toInt)) ∨ (r = 1 ∧ (∃ y : Int32, gi u 12 3 = y ∧ 1 ≤ y.toInt ∧ y.toInt ≤ 4) ∧ (mLf w0 a1.toInt a2.toInt)))
set_option maxHeartbeats 4000000 in
set_option maxRecDepth 100000 in
theorem k_X12_isLifted_3 (l : Launch) (adK adV : Nat → Nat) (dC : Nat → ClassId) (dI : Nat → Nat → Nat) (cy : Nat → ClassId) (ad : Nat → Nat) (B : Int) (hB0 : 100000 ≤ B) (hB1 : B ≤ 1073741824) (qr : Nat) (s1 : Int)  (a1 : Int32) (ra1 : 0 ≤ a1.toInt) (ta1 : a1.toInt ≤ 11) (a2 : Int32) (ra2 : 0 ≤ a2.toInt) (ta2 : a2.toInt ≤ 101999) (w0 : va_W) (sz : Nat) (hT : TW ksM ad cy B qr 12 w0)  : Met l yX12_isLifted (wu yX12_isLifted cX12_isLifted 5 (some .boolean)) ({ frames := 1, cells := 0, slots := 0, locals := 12 }) (va_Pc [.ref (ad 0), .int a1, .int a2] (wpreS adK adV dC dI cy sz w0)) (va_Qi (P_X12_isLifted_3 ad cy B qr s1 a1 a2 w0) (fun u : va_W => wpost dC dI cy (va_A w0 sz) u) (va_A w0 sz)) 0 0 (va_A w0 sz) := by
  refine Met.ofW (cc := cX12_isLifted) (maxL := 5) (ret := (some .boolean)) (by decide) rfl ?_
  intro p e s m args below meth c s₁ Bk hml hv
  obtain ⟨rfl, ⟨hsz, hP, hK, hD0⟩, hE, hSR⟩ := hv
  have hx := Bk.exec
  have hb := Bk.bytes
  have hr := Bk.returns
  have hlocks := Bk.notSynchronized
  have hC : CallFix p m c cX12_isLifted 5 s _ (wu yX12_isLifted cX12_isLifted 5 (some .boolean)) RX12 := ⟨hx, hb, hml, findClass_of_methodNamed Bk.named, atoms_spec (ws := (wu yX12_isLifted cX12_isLifted 5 (some .boolean))) Bk.pre⟩
  subst hsz
  have hD := hD0.self (sz := s.heap.size)
  generalize hAe : va_A w0 s.heap.size = A at hD hE ⊢
  have hA : ∀ q : Nat, s.heap.size ≤ q → A q := fun q h => by rw [← hAe]; exact Or.inr h
  have hw : Wd dC dI A s.heap s.heap [] w0 := ⟨hP, hD, va_S.rf⟩
  have hF : FE ksM ([] : List (Nat × Nat × Nat)) w0 w0 := FE.rf
  have hl := lv_entry ([.ref (ad 0), .int a1, .int a2]) (n := 5) (Nat.le_of_ble_eq_true rfl)
  rw [lg_entry_eq]
  generalize (lg_sl ([.ref (ad 0), .int a1, .int a2]) ++ List.replicate (5 - (lg_sl ([.ref (ad 0), .int a1, .int a2])).length) Slot.unset).toArray = ls at hl ⊢
  have hl : lv_has ls 5 [(0, .ref (ad 0)), (1, .int a1), (2, .int a2)] := hl
  generalize hloc : ([] : List Loc) = locs at hw ⊢
  have hinX12 : ∀ w ∈ u_ws RX12 TX12 42, w ∈ (wu yX12_isLifted cX12_isLifted 5 (some .boolean)) := fun _ h => List.mem_cons_of_mem _ (up_71 h)
  have L2 : ∀ (n2 : Nat) (v2_3 : Int32) (H : Heap) (locs : List Loc) (ls : Array Slot), 0 ≤ a1.toInt → a1.toInt ≤ 11 → 0 ≤ a2.toInt → a2.toInt ≤ 101999 → 0 ≤ v2_3.toInt → v2_3.toInt ≤ 4 → (∀ k : Int, 0 ≤ k → k < v2_3.toInt → ¬ mLf1 w0 k a1.toInt a2.toInt) → (4 - v2_3.toInt).toNat < n2 → Wd dC dI A s.heap H locs w0 → lv_has ls 5 [(0, .ref (ad 0)), (1, .int a1), (2, .int a2), (3, .int v2_3)] → W p l e ({ frames := 1, cells := 0, slots := 0, locals := 12 }) s m (List.toArray [.ref (ad 0), .int a1, .int a2]) below meth c H locs 0 0 (MQ below (va_Qi (P_X12_isLifted_3 ad cy B qr s1 a1 a2 w0) (fun u : va_W => wpost dC dI cy A u) A) (List.toArray [.ref (ad 0), .int a1, .int a2]) s 0 0 A) (F0 m 2 ls []) := by
    intro n2
    induction n2 with
    | zero => intro v2_3 H locs ls r1 t2 r3 t4 r5 t6 hcr2_0 hm2 hw hl; omega
    | succ n2 ih2 =>
      intro v2_3 H locs ls r1 t2 r3 t4 r5 t6 hcr2_0 hm2 hw hl
      refine lv_iload_n hx hb dX12_isLifted_2 rfl (lv_at hl 3 rfl) ?_
      refine lv_aload_n hx hb dX12_isLifted_3 rfl (lv_at hl 0 rfl) ?_
      refine tk_getA hC hK hw hT hinX12 kM_at0 (by decide) rfl 26 (by decide) (List.mem_cons_of_mem _ uw_7_1) rfl rfl dX12_isLifted_4 ?_
      refine lv_iconst (v := 3) hx hb dX12_isLifted_7 (by decide) ?_
      refine tk_ialdR hC hK hw hT kM_at12 rfl (by decide) (by decide) dX12_isLifted_8 (fun x7 c8 Ex7 => ?_)
      have bx7 := tk_rgI rfl 3 1 1 0 4 (by decide +kernel) ⟨0, by decide, by decide⟩ Ex7
      have c8 : gi w0 12 3 = x7 := c8
      refine lv_icmp_ge (tgt := 72) hx hb dX12_isLifted_9 (by decide) (fun c9 => ?_) (fun c9 => ?_)
      · have c9 : x7.toInt ≤ v2_3.toInt := wk_le.mp c9
        refine lv_iconst (v := 0) hx hb dX12_isLifted_72 (by decide) ?_
        exact tk_zret hC hr rfl hlocks hK ⟨rfl, (Or.inl ⟨rfl, (by exact mLf_no hcr2_0 (by simp only [c8]; omega))⟩)⟩ hw dX12_isLifted_73
      · have c9 : v2_3.toInt < x7.toInt := wk_leF c9
        refine lv_sipush (v := 156) hx hb dX12_isLifted_12 (by decide) ?_
        refine lv_iconst (v := 3) hx hb dX12_isLifted_15 (by decide) ?_
        refine lv_iload_n hx hb dX12_isLifted_16 rfl (lv_at hl 3 rfl) ?_
        refine lv_imul hx hb dX12_isLifted_17 ?_
        refine lv_topi (fun x10 ex10 => ?_)
        have ex10 : x10.toInt = (3 : Int) * v2_3.toInt := by rw [ex10]; exact wk_mul (show (-2147483648) ≤ (3 : Int) * v2_3.toInt by omega) (show (3 : Int) * v2_3.toInt ≤ 2147483647 by omega)
        refine lv_iadd hx hb dX12_isLifted_18 ?_
        refine lv_topi (fun x11 ex11 => ?_)
        have ex11 : x11.toInt = (156 : Int) + x10.toInt := by rw [ex11]; exact wk_add (show (-2147483648) ≤ (156 : Int) + x10.toInt by omega) (show (156 : Int) + x10.toInt ≤ 2147483647 by omega)
        refine lv_istore (lv' := [(4, .int x11), (0, .ref (ad 0)), (1, .int a1), (2, .int a2), (3, .int v2_3)]) hx hb dX12_isLifted_19 hl (by decide) rfl (fun ls hl => ?_)
        refine lv_aload_n hx hb dX12_isLifted_21 rfl (lv_at hl 1 rfl) ?_
        refine tk_getA hC hK hw hT hinX12 kM_at0 (by decide) rfl 26 (by decide) (List.mem_cons_of_mem _ uw_7_1) rfl rfl dX12_isLifted_22 ?_
        refine lv_iload hx hb dX12_isLifted_25 (lv_at hl 0 rfl) ?_
        refine tk_ialdR hC hK hw hT kM_at12 rfl (show 0 ≤ x11.toInt by first | with_reducible assumption | omega) (show x11.toInt < 296 by first | with_reducible assumption | omega) dX12_isLifted_27 (fun x12 c13 Ex12 => ?_)
        have c13 : gi w0 12 (3 * v2_3.toInt + 156).toNat = x12 := (congrArg (gi w0 12) (congrArg Int.toNat (show 3 * v2_3.toInt + 156 = x11.toInt by first | exact Int.le_antisymm (by omega) (by omega) | omega))).trans c13
        refine lv_iload_n hx hb dX12_isLifted_28 rfl (lv_at hl 2 rfl) ?_
        refine lv_icmp_ne (tgt := 66) hx hb dX12_isLifted_29 (by decide) (fun c14 => ?_) (fun c14 => ?_)
        · have c14 : ¬ x12.toInt = a1.toInt := wk_eqF c14
          obtain ⟨x15, ex15⟩ : ∃ y : Int32, y = v2_3 + Int32.ofInt 1 := ⟨_, rfl⟩
          refine lv_iinc (v := x15) (lv' := [(3, .int x15), (4, .int x11), (0, .ref (ad 0)), (1, .int a1), (2, .int a2)]) hx hb dX12_isLifted_66 hl (k := 4) rfl ex15.symm (by decide) rfl (fun ls hl => ?_)
          have ex15 : x15.toInt = v2_3.toInt + 1 := by rw [ex15]; exact wk_add (y := 1) (show -2147483648 ≤ v2_3.toInt + 1 by omega) (show v2_3.toInt + 1 ≤ 2147483647 by omega)
          refine lv_goto (tgt := 2) hx hb dX12_isLifted_69 (by decide) ?_
          exact ih2 x15 H locs ls  (show 0 ≤ a1.toInt from r1) (show a1.toInt ≤ 11 from t2) (show 0 ≤ a2.toInt from r3) (show a2.toInt ≤ 101999 from t4) (show 0 ≤ x15.toInt by first | with_reducible assumption | omega) (show x15.toInt ≤ 4 by first | with_reducible assumption | omega) (show ∀ k : Int, 0 ≤ k → k < x15.toInt → ¬ mLf1 w0 k a1.toInt a2.toInt from all_step hcr2_0 (show ¬ mLf1 w0 v2_3.toInt a1.toInt a2.toInt by unfold mLf1; simp only [c8, c13]; omega) (by omega)) (show (4 - x15.toInt).toNat < n2 by first | exact tn_lt hm2 (by omega) (by omega) | omega) hw   (lv_sub hl [2, 3, 4, 0] rfl)
        · have c14 : x12.toInt = a1.toInt := wk_eq.mp c14
          refine lv_iload_n hx hb dX12_isLifted_32 rfl (lv_at hl 3 rfl) ?_
          refine lv_bipush (v := 24) hx hb dX12_isLifted_33 (by decide) ?_
          refine lv_irem hx hb dX12_isLifted_35 (by decide) ?_
          refine lv_topi (fun x16 ex16 => ?_)
          have ex16 : x16.toInt = a2.toInt % (24 : Int) := by rw [ex16]; exact wk_rem (show 0 ≤ a2.toInt from r3) (show 0 < (24 : Int) by decide)
          refine lv_aload_n hx hb dX12_isLifted_36 rfl (lv_at hl 1 rfl) ?_
          refine tk_getA hC hK hw hT hinX12 kM_at0 (by decide) rfl 26 (by decide) (List.mem_cons_of_mem _ uw_7_1) rfl rfl dX12_isLifted_37 ?_
          refine lv_iload hx hb dX12_isLifted_40 (lv_at hl 0 rfl) ?_
          refine lv_iconst (v := 1) hx hb dX12_isLifted_42 (by decide) ?_
          refine lv_iadd hx hb dX12_isLifted_43 ?_
          refine lv_topi (fun x17 ex17 => ?_)
          have ex17 : x17.toInt = x11.toInt + (1 : Int) := by rw [ex17]; exact wk_add (show (-2147483648) ≤ x11.toInt + (1 : Int) by omega) (show x11.toInt + (1 : Int) ≤ 2147483647 by omega)
          refine tk_ialdR hC hK hw hT kM_at12 rfl (show 0 ≤ x17.toInt by first | with_reducible assumption | omega) (show x17.toInt < 296 by first | with_reducible assumption | omega) dX12_isLifted_44 (fun x18 c19 Ex18 => ?_)
          have c19 : gi w0 12 (3 * v2_3.toInt + 157).toNat = x18 := (congrArg (gi w0 12) (congrArg Int.toNat (show 3 * v2_3.toInt + 157 = x17.toInt by first | exact Int.le_antisymm (by omega) (by omega) | omega))).trans c19
          refine lv_icmp_lt (tgt := 66) hx hb dX12_isLifted_45 (by decide) (fun c20 => ?_) (fun c20 => ?_)
          · have c20 : x16.toInt < x18.toInt := wk_lt.mp c20
            obtain ⟨x21, ex21⟩ : ∃ y : Int32, y = v2_3 + Int32.ofInt 1 := ⟨_, rfl⟩
            refine lv_iinc (v := x21) (lv' := [(3, .int x21), (4, .int x11), (0, .ref (ad 0)), (1, .int a1), (2, .int a2)]) hx hb dX12_isLifted_66 hl (k := 4) rfl ex21.symm (by decide) rfl (fun ls hl => ?_)
            have ex21 : x21.toInt = v2_3.toInt + 1 := by rw [ex21]; exact wk_add (y := 1) (show -2147483648 ≤ v2_3.toInt + 1 by omega) (show v2_3.toInt + 1 ≤ 2147483647 by omega)
            refine lv_goto (tgt := 2) hx hb dX12_isLifted_69 (by decide) ?_
            exact ih2 x21 H locs ls  (show 0 ≤ a1.toInt from r1) (show a1.toInt ≤ 11 from t2) (show 0 ≤ a2.toInt from r3) (show a2.toInt ≤ 101999 from t4) (show 0 ≤ x21.toInt by first | with_reducible assumption | omega) (show x21.toInt ≤ 4 by first | with_reducible assumption | omega) (show ∀ k : Int, 0 ≤ k → k < x21.toInt → ¬ mLf1 w0 k a1.toInt a2.toInt from all_step hcr2_0 (show ¬ mLf1 w0 v2_3.toInt a1.toInt a2.toInt by unfold mLf1; simp only [c8, c13, c19]; omega) (by omega)) (show (4 - x21.toInt).toNat < n2 by first | exact tn_lt hm2 (by omega) (by omega) | omega) hw   (lv_sub hl [2, 3, 4, 0] rfl)
          · have c20 : x18.toInt ≤ x16.toInt := wk_ltF c20
            refine lv_iload_n hx hb dX12_isLifted_48 rfl (lv_at hl 3 rfl) ?_
            refine lv_bipush (v := 24) hx hb dX12_isLifted_49 (by decide) ?_
            refine lv_irem hx hb dX12_isLifted_51 (by decide) ?_
            refine lv_topi (fun x22 ex22 => ?_)
            have ex22 : x22.toInt = a2.toInt % (24 : Int) := by rw [ex22]; exact wk_rem (show 0 ≤ a2.toInt from r3) (show 0 < (24 : Int) by decide)
            refine lv_aload_n hx hb dX12_isLifted_52 rfl (lv_at hl 1 rfl) ?_
            refine tk_getA hC hK hw hT hinX12 kM_at0 (by decide) rfl 26 (by decide) (List.mem_cons_of_mem _ uw_7_1) rfl rfl dX12_isLifted_53 ?_
            refine lv_iload hx hb dX12_isLifted_56 (lv_at hl 0 rfl) ?_
            refine lv_iconst (v := 2) hx hb dX12_isLifted_58 (by decide) ?_
            refine lv_iadd hx hb dX12_isLifted_59 ?_
            refine lv_topi (fun x23 ex23 => ?_)
            have ex23 : x23.toInt = x11.toInt + (2 : Int) := by rw [ex23]; exact wk_add (show (-2147483648) ≤ x11.toInt + (2 : Int) by omega) (show x11.toInt + (2 : Int) ≤ 2147483647 by omega)
            refine tk_ialdR hC hK hw hT kM_at12 rfl (show 0 ≤ x23.toInt by first | with_reducible assumption | omega) (show x23.toInt < 296 by first | with_reducible assumption | omega) dX12_isLifted_60 (fun x24 c25 Ex24 => ?_)
            have c25 : gi w0 12 (3 * v2_3.toInt + 158).toNat = x24 := (congrArg (gi w0 12) (congrArg Int.toNat (show 3 * v2_3.toInt + 158 = x23.toInt by first | exact Int.le_antisymm (by omega) (by omega) | omega))).trans c25
            refine lv_icmp_ge (tgt := 66) hx hb dX12_isLifted_61 (by decide) (fun c26 => ?_) (fun c26 => ?_)
            · have c26 : x24.toInt ≤ x22.toInt := wk_le.mp c26
              obtain ⟨x27, ex27⟩ : ∃ y : Int32, y = v2_3 + Int32.ofInt 1 := ⟨_, rfl⟩
              refine lv_iinc (v := x27) (lv' := [(3, .int x27), (4, .int x11), (0, .ref (ad 0)), (1, .int a1), (2, .int a2)]) hx hb dX12_isLifted_66 hl (k := 4) rfl ex27.symm (by decide) rfl (fun ls hl => ?_)
              have ex27 : x27.toInt = v2_3.toInt + 1 := by rw [ex27]; exact wk_add (y := 1) (show -2147483648 ≤ v2_3.toInt + 1 by omega) (show v2_3.toInt + 1 ≤ 2147483647 by omega)
              refine lv_goto (tgt := 2) hx hb dX12_isLifted_69 (by decide) ?_
              exact ih2 x27 H locs ls  (show 0 ≤ a1.toInt from r1) (show a1.toInt ≤ 11 from t2) (show 0 ≤ a2.toInt from r3) (show a2.toInt ≤ 101999 from t4) (show 0 ≤ x27.toInt by first | with_reducible assumption | omega) (show x27.toInt ≤ 4 by first | with_reducible assumption | omega) (show ∀ k : Int, 0 ≤ k → k < x27.toInt → ¬ mLf1 w0 k a1.toInt a2.toInt from all_step hcr2_0 (show ¬ mLf1 w0 v2_3.toInt a1.toInt a2.toInt by unfold mLf1; simp only [c8, c13, c19, c25]; omega) (by omega)) (show (4 - x27.toInt).toNat < n2 by first | exact tn_lt hm2 (by omega) (by omega) | omega) hw   (lv_sub hl [2, 3, 4, 0] rfl)
            · have c26 : x22.toInt < x24.toInt := wk_leF c26
              refine lv_iconst (v := 1) hx hb dX12_isLifted_64 (by decide) ?_
              exact tk_zret hC hr rfl hlocks hK ⟨rfl, (Or.inr ⟨rfl, ⟨x7, c8, (show 1 ≤ x7.toInt by first | with_reducible assumption | omega), (show x7.toInt ≤ 4 by first | with_reducible assumption | omega)⟩, (by exact ⟨v2_3.toInt, by omega, by simp only [c8, c13, c19, c25]; omega, by unfold mLf1; simp only [c8, c13, c19, c25]; omega⟩)⟩)⟩ hw dX12_isLifted_65
  refine lv_iconst (v := 0) hx hb dX12_isLifted_0 (by decide) ?_
  refine lv_istore_n (lv' := [(3, .int 0), (0, .ref (ad 0)), (1, .int a1), (2, .int a2)]) hx hb dX12_isLifted_1 rfl hl (by decide) rfl (fun ls hl => ?_)
  exact L2 ((4 - (0 : Int)).toNat + 1) 0 s.heap locs ls  (show 0 ≤ a1.toInt from ra1) (show a1.toInt ≤ 11 from ta1) (show 0 ≤ a2.toInt from ra2) (show a2.toInt ≤ 101999 from ta2) (by decide) (by decide) (show ∀ k : Int, 0 ≤ k → k < (0 : Int) → ¬ mLf1 w0 k a1.toInt a2.toInt from all_none) (Nat.lt_succ_self _) hw   (lv_sub hl [1, 2, 3, 0] rfl)
abbrev P_X12_firstOpen_1 (ad : Nat → Nat) (cy : Nat → ClassId) (B : Int) (qr : Nat) (s1 : Int) (a1 : Int32) (a2 : Int32) (a3 : Int32) (a4 : Int32) (w0 : va_W) : Int32 → va_W → Prop := fun r u => w0 = u ∧ ((0 ≤ r.toInt ∧ r.toInt ≤ 100000000) ∨ (0 ≤ r.toInt ∧ r.toInt ≤ 101999 ∧ gi u 12 (10 * a1.toInt + 10).toNat = a2))
set_option maxHeartbeats 4000000 in
set_option maxRecDepth 100000 in
theorem k_X12_firstOpen_1 (l : Launch) (adK adV : Nat → Nat) (dC : Nat → ClassId) (dI : Nat → Nat → Nat) (cy : Nat → ClassId) (ad : Nat → Nat) (B : Int) (hB0 : 100000 ≤ B) (hB1 : B ≤ 1073741824) (qr : Nat) (s1 : Int)  (a1 : Int32) (ra1 : 0 ≤ a1.toInt) (ta1 : a1.toInt ≤ 11) (a2 : Int32) (ra2 : 0 ≤ a2.toInt) (ta2 : a2.toInt ≤ 9) (a3 : Int32) (ra3 : 0 ≤ a3.toInt) (ta3 : a3.toInt ≤ 100000100) (a4 : Int32) (ra4 : 2000 ≤ a4.toInt) (ta4 : a4.toInt ≤ 101999) (w0 : va_W) (sz : Nat) (hT : TW ksM ad cy B qr 12 w0)  : Met l yX12_firstOpen (wu yX12_firstOpen cX12_firstOpen 6 (some .int)) ({ frames := 4, cells := 0, slots := 0, locals := 80 }) (va_Pc [.ref (ad 0), .int a1, .int a2, .int a3, .int a4] (wpreS adK adV dC dI cy sz w0)) (va_Qi (P_X12_firstOpen_1 ad cy B qr s1 a1 a2 a3 a4 w0) (fun u : va_W => wpost dC dI cy (va_A w0 sz) u) (va_A w0 sz)) 0 0 (va_A w0 sz) := by
  refine Met.ofW (cc := cX12_firstOpen) (maxL := 6) (ret := (some .int)) (by decide) rfl ?_
  intro p e s m args below meth c s₁ Bk hml hv
  obtain ⟨rfl, ⟨hsz, hP, hK, hD0⟩, hE, hSR⟩ := hv
  have hx := Bk.exec
  have hb := Bk.bytes
  have hr := Bk.returns
  have hlocks := Bk.notSynchronized
  have hC : CallFix p m c cX12_firstOpen 6 s _ (wu yX12_firstOpen cX12_firstOpen 6 (some .int)) RX12 := ⟨hx, hb, hml, findClass_of_methodNamed Bk.named, atoms_spec (ws := (wu yX12_firstOpen cX12_firstOpen 6 (some .int))) Bk.pre⟩
  subst hsz
  have hD := hD0.self (sz := s.heap.size)
  generalize hAe : va_A w0 s.heap.size = A at hD hE ⊢
  have hA : ∀ q : Nat, s.heap.size ≤ q → A q := fun q h => by rw [← hAe]; exact Or.inr h
  have hw : Wd dC dI A s.heap s.heap [] w0 := ⟨hP, hD, va_S.rf⟩
  have hF : FE ksM ([] : List (Nat × Nat × Nat)) w0 w0 := FE.rf
  have hl := lv_entry ([.ref (ad 0), .int a1, .int a2, .int a3, .int a4]) (n := 6) (Nat.le_of_ble_eq_true rfl)
  rw [lg_entry_eq]
  generalize (lg_sl ([.ref (ad 0), .int a1, .int a2, .int a3, .int a4]) ++ List.replicate (6 - (lg_sl ([.ref (ad 0), .int a1, .int a2, .int a3, .int a4])).length) Slot.unset).toArray = ls at hl ⊢
  have hl : lv_has ls 6 [(0, .ref (ad 0)), (1, .int a1), (2, .int a2), (3, .int a3), (4, .int a4)] := hl
  generalize hloc : ([] : List Loc) = locs at hw ⊢
  have L3 : ∀ (n3 : Nat) (v3_5 : Int32) (H : Heap) (locs : List Loc) (ls : Array Slot), 0 ≤ a1.toInt → a1.toInt ≤ 11 → 0 ≤ a2.toInt → a2.toInt ≤ 9 → 0 ≤ a3.toInt → a3.toInt ≤ 100000100 → 2000 ≤ a4.toInt → a4.toInt ≤ 101999 → 0 ≤ v3_5.toInt → v3_5.toInt ≤ 100000100 → (100000100 - v3_5.toInt).toNat < n3 → Wd dC dI A s.heap H locs w0 → lv_has ls 6 [(0, .ref (ad 0)), (1, .int a1), (2, .int a2), (3, .int a3), (4, .int a4), (5, .int v3_5)] → W p l e ({ frames := 4, cells := 0, slots := 0, locals := 80 }) s m (List.toArray [.ref (ad 0), .int a1, .int a2, .int a3, .int a4]) below meth c H locs 0 0 (MQ below (va_Qi (P_X12_firstOpen_1 ad cy B qr s1 a1 a2 a3 a4 w0) (fun u : va_W => wpost dC dI cy A u) A) (List.toArray [.ref (ad 0), .int a1, .int a2, .int a3, .int a4]) s 0 0 A) (F0 m 3 ls []) := by
    intro n3
    induction n3 with
    | zero => intro v3_5 H locs ls r1 t2 r3 t4 r5 t6 r7 t8 r9 t10 hm3 hw hl; omega
    | succ n3 ih3 =>
      intro v3_5 H locs ls r1 t2 r3 t4 r5 t6 r7 t8 r9 t10 hm3 hw hl
      refine lv_iload hx hb dX12_firstOpen_3 (lv_at hl 5 rfl) ?_
      refine lv_iload hx hb dX12_firstOpen_5 (lv_at hl 4 rfl) ?_
      refine lv_icmp_gt (tgt := 58) hx hb dX12_firstOpen_7 (by decide) (fun c11 => ?_) (fun c11 => ?_)
      · have c11 : a4.toInt < v3_5.toInt := wk_lt.mp c11
        refine lv_ldcw (v := 100000000) hx hb hC.2.2.2.1 (hC.2.2.2.2 _ (List.mem_cons_of_mem _ uw_38_2)) dX12_firstOpen_58 ?_
        exact tk_iret hC hr hlocks hK ⟨rfl, (Or.inl ⟨(by decide), (by decide)⟩)⟩ hw dX12_firstOpen_61
      · have c11 : v3_5.toInt ≤ a4.toInt := wk_ltF c11
        refine lv_aload_n hx hb dX12_firstOpen_10 rfl (lv_at hl 0 rfl) ?_
        refine lv_iload_n hx hb dX12_firstOpen_11 rfl (lv_at hl 1 rfl) ?_
        refine lv_iload_n hx hb dX12_firstOpen_12 rfl (lv_at hl 2 rfl) ?_
        refine lv_iload hx hb dX12_firstOpen_13 (lv_at hl 5 rfl) ?_
        refine lv_bipush (v := 24) hx hb dX12_firstOpen_15 (by decide) ?_
        refine lv_idiv hx hb dX12_firstOpen_17 (by decide) ?_
        refine lv_topi (fun x12 ex12 => ?_)
        have ex12 : x12.toInt = v3_5.toInt / (24 : Int) := by rw [ex12]; exact wk_div (show 0 ≤ v3_5.toInt from r9) (show 0 < (24 : Int) by decide)
        refine tk_Vi hC hK hw hT hA hE hSR kM_at0 (by decide) rfl (k_X12_isDayFor_3 l adK adV dC dI cy ad B hB0 (Int.le_trans hB1 (by decide)) qr s1   a1 (show 0 ≤ a1.toInt from r1) (show a1.toInt ≤ 11 from t2) a2 (show 0 ≤ a2.toInt from r3) (show a2.toInt ≤ 9 from t4) x12 (show 0 ≤ x12.toInt by first | with_reducible assumption | omega) (show x12.toInt ≤ 4249 by first | with_reducible assumption | omega) w0 H.size hT ) (cwV 3 hC.2.2.2.2 uV_RX12_317 rfl rfl rfl (by decide +kernel) ⟨Nat.le_of_ble_eq_true rfl, Nat.le_of_ble_eq_true rfl⟩) rfl hl.1 rfl (Nat.le_of_ble_eq_true rfl) dX12_firstOpen_18 (fun r13 w15 H locs hp14 hw => ?_)
        obtain ⟨rfl, hg23⟩ := hp14
        rcases hg23 with ⟨rfl, hq17⟩ | ⟨rfl, c18, hq19⟩ | ⟨rfl, hq20⟩ | ⟨rfl, c21, hq22⟩
        · refine lv_if_ne (tgt := 39) hx hb dX12_firstOpen_21 (by decide) (fun c => absurd (by decide) c) (fun _ => ?_)
          refine lv_iload hx hb dX12_firstOpen_24 (lv_at hl 5 rfl) ?_
          refine lv_bipush (v := 24) hx hb dX12_firstOpen_26 (by decide) ?_
          refine lv_idiv hx hb dX12_firstOpen_28 (by decide) ?_
          refine lv_topi (fun x24 ex24 => ?_)
          have ex24 : x24.toInt = v3_5.toInt / (24 : Int) := by rw [ex24]; exact wk_div (show 0 ≤ v3_5.toInt from r9) (show 0 < (24 : Int) by decide)
          refine lv_iconst (v := 1) hx hb dX12_firstOpen_29 (by decide) ?_
          refine lv_iadd hx hb dX12_firstOpen_30 ?_
          refine lv_topi (fun x25 ex25 => ?_)
          have ex25 : x25.toInt = x24.toInt + (1 : Int) := by rw [ex25]; exact wk_add (show (-2147483648) ≤ x24.toInt + (1 : Int) by omega) (show x24.toInt + (1 : Int) ≤ 2147483647 by omega)
          refine lv_bipush (v := 24) hx hb dX12_firstOpen_31 (by decide) ?_
          refine lv_imul hx hb dX12_firstOpen_33 ?_
          refine lv_topi (fun x26 ex26 => ?_)
          have ex26 : x26.toInt = x25.toInt * (24 : Int) := by rw [ex26]; exact wk_mul (show (-2147483648) ≤ x25.toInt * (24 : Int) by omega) (show x25.toInt * (24 : Int) ≤ 2147483647 by omega)
          refine lv_istore (lv' := [(5, .int x26), (0, .ref (ad 0)), (1, .int a1), (2, .int a2), (3, .int a3), (4, .int a4)]) hx hb dX12_firstOpen_34 hl (by decide) rfl (fun ls hl => ?_)
          refine lv_goto (tgt := 3) hx hb dX12_firstOpen_36 (by decide) ?_
          exact ih3 x26 H locs ls  (show 0 ≤ a1.toInt from r1) (show a1.toInt ≤ 11 from t2) (show 0 ≤ a2.toInt from r3) (show a2.toInt ≤ 9 from t4) (show 0 ≤ a3.toInt from r5) (show a3.toInt ≤ 100000100 from t6) (show 2000 ≤ a4.toInt from r7) (show a4.toInt ≤ 101999 from t8) (show 0 ≤ x26.toInt by first | with_reducible assumption | omega) (show x26.toInt ≤ 100000100 by first | with_reducible assumption | omega) (show (100000100 - x26.toInt).toNat < n3 by first | exact tn_lt hm3 (by omega) (by omega) | omega) hw   (lv_sub hl [1, 2, 3, 4, 5, 0] rfl)
        · refine lv_if_ne (tgt := 39) hx hb dX12_firstOpen_21 (by decide) (fun c => absurd (by decide) c) (fun _ => ?_)
          refine lv_iload hx hb dX12_firstOpen_24 (lv_at hl 5 rfl) ?_
          refine lv_bipush (v := 24) hx hb dX12_firstOpen_26 (by decide) ?_
          refine lv_idiv hx hb dX12_firstOpen_28 (by decide) ?_
          refine lv_topi (fun x27 ex27 => ?_)
          have ex27 : x27.toInt = v3_5.toInt / (24 : Int) := by rw [ex27]; exact wk_div (show 0 ≤ v3_5.toInt from r9) (show 0 < (24 : Int) by decide)
          refine lv_iconst (v := 1) hx hb dX12_firstOpen_29 (by decide) ?_
          refine lv_iadd hx hb dX12_firstOpen_30 ?_
          refine lv_topi (fun x28 ex28 => ?_)
          have ex28 : x28.toInt = x27.toInt + (1 : Int) := by rw [ex28]; exact wk_add (show (-2147483648) ≤ x27.toInt + (1 : Int) by omega) (show x27.toInt + (1 : Int) ≤ 2147483647 by omega)
          refine lv_bipush (v := 24) hx hb dX12_firstOpen_31 (by decide) ?_
          refine lv_imul hx hb dX12_firstOpen_33 ?_
          refine lv_topi (fun x29 ex29 => ?_)
          have ex29 : x29.toInt = x28.toInt * (24 : Int) := by rw [ex29]; exact wk_mul (show (-2147483648) ≤ x28.toInt * (24 : Int) by omega) (show x28.toInt * (24 : Int) ≤ 2147483647 by omega)
          refine lv_istore (lv' := [(5, .int x29), (0, .ref (ad 0)), (1, .int a1), (2, .int a2), (3, .int a3), (4, .int a4)]) hx hb dX12_firstOpen_34 hl (by decide) rfl (fun ls hl => ?_)
          refine lv_goto (tgt := 3) hx hb dX12_firstOpen_36 (by decide) ?_
          exact ih3 x29 H locs ls  (show 0 ≤ a1.toInt from r1) (show a1.toInt ≤ 11 from t2) (show 0 ≤ a2.toInt from r3) (show a2.toInt ≤ 9 from t4) (show 0 ≤ a3.toInt from r5) (show a3.toInt ≤ 100000100 from t6) (show 2000 ≤ a4.toInt from r7) (show a4.toInt ≤ 101999 from t8) (show 0 ≤ x29.toInt by first | with_reducible assumption | omega) (show x29.toInt ≤ 100000100 by first | with_reducible assumption | omega) (show (100000100 - x29.toInt).toNat < n3 by first | exact tn_lt hm3 (by omega) (by omega) | omega) hw   (lv_sub hl [1, 2, 3, 4, 5, 0] rfl)
        · refine lv_if_ne (tgt := 39) hx hb dX12_firstOpen_21 (by decide) (fun _ => ?_) (fun c => absurd c (by decide))
          refine lv_aload_n hx hb dX12_firstOpen_39 rfl (lv_at hl 0 rfl) ?_
          refine lv_iload_n hx hb dX12_firstOpen_40 rfl (lv_at hl 1 rfl) ?_
          refine lv_iload hx hb dX12_firstOpen_41 (lv_at hl 5 rfl) ?_
          refine tk_Vi hC hK hw hT hA hE hSR kM_at0 (by decide) rfl (k_X12_isLifted_3 l adK adV dC dI cy ad B hB0 (Int.le_trans hB1 (by decide)) qr s1   a1 (show 0 ≤ a1.toInt from r1) (show a1.toInt ≤ 11 from t2) v3_5 (show 0 ≤ v3_5.toInt from r9) (show v3_5.toInt ≤ 101999 by first | with_reducible assumption | omega) w0 H.size hT ) (cwV 2 hC.2.2.2.2 uV_RX12_320 rfl rfl rfl (by decide +kernel) ⟨Nat.le_of_ble_eq_true rfl, Nat.le_of_ble_eq_true rfl⟩) rfl hl.1 rfl (Nat.le_of_ble_eq_true rfl) dX12_firstOpen_43 (fun r30 w32 H locs hp31 hw => ?_)
          obtain ⟨rfl, hg38⟩ := hp31
          rcases hg38 with ⟨rfl, hq34⟩ | ⟨rfl, ⟨x35, c36, rx35, tx35⟩, hq37⟩
          · refine lv_if_eq (tgt := 55) hx hb dX12_firstOpen_46 (by decide) (fun _ => ?_) (fun c => absurd (by decide) c)
            refine lv_iload hx hb dX12_firstOpen_55 (lv_at hl 5 rfl) ?_
            exact tk_iret hC hr hlocks hK ⟨rfl, (Or.inl ⟨(show 0 ≤ v3_5.toInt from r9), (show v3_5.toInt ≤ 100000000 by first | with_reducible assumption | omega)⟩)⟩ hw dX12_firstOpen_57
          · refine lv_if_eq (tgt := 55) hx hb dX12_firstOpen_46 (by decide) (fun c => absurd c (by decide)) (fun _ => ?_)
            obtain ⟨x39, ex39⟩ : ∃ y : Int32, y = v3_5 + Int32.ofInt 1 := ⟨_, rfl⟩
            refine lv_iinc (v := x39) (lv' := [(5, .int x39), (0, .ref (ad 0)), (1, .int a1), (2, .int a2), (3, .int a3), (4, .int a4)]) hx hb dX12_firstOpen_49 hl (k := 5) rfl ex39.symm (by decide) rfl (fun ls hl => ?_)
            have ex39 : x39.toInt = v3_5.toInt + 1 := by rw [ex39]; exact wk_add (y := 1) (show -2147483648 ≤ v3_5.toInt + 1 by omega) (show v3_5.toInt + 1 ≤ 2147483647 by omega)
            refine lv_goto (tgt := 3) hx hb dX12_firstOpen_52 (by decide) ?_
            exact ih3 x39 H locs ls  (show 0 ≤ a1.toInt from r1) (show a1.toInt ≤ 11 from t2) (show 0 ≤ a2.toInt from r3) (show a2.toInt ≤ 9 from t4) (show 0 ≤ a3.toInt from r5) (show a3.toInt ≤ 100000100 from t6) (show 2000 ≤ a4.toInt from r7) (show a4.toInt ≤ 101999 from t8) (show 0 ≤ x39.toInt by first | with_reducible assumption | omega) (show x39.toInt ≤ 100000100 by first | with_reducible assumption | omega) (show (100000100 - x39.toInt).toNat < n3 by first | exact tn_lt hm3 (by omega) (by omega) | omega) hw   (lv_sub hl [1, 2, 3, 4, 5, 0] rfl)
        · refine lv_if_ne (tgt := 39) hx hb dX12_firstOpen_21 (by decide) (fun _ => ?_) (fun c => absurd c (by decide))
          refine lv_aload_n hx hb dX12_firstOpen_39 rfl (lv_at hl 0 rfl) ?_
          refine lv_iload_n hx hb dX12_firstOpen_40 rfl (lv_at hl 1 rfl) ?_
          refine lv_iload hx hb dX12_firstOpen_41 (lv_at hl 5 rfl) ?_
          refine tk_Vi hC hK hw hT hA hE hSR kM_at0 (by decide) rfl (k_X12_isLifted_3 l adK adV dC dI cy ad B hB0 (Int.le_trans hB1 (by decide)) qr s1   a1 (show 0 ≤ a1.toInt from r1) (show a1.toInt ≤ 11 from t2) v3_5 (show 0 ≤ v3_5.toInt from r9) (show v3_5.toInt ≤ 101999 by first | with_reducible assumption | omega) w0 H.size hT ) (cwV 2 hC.2.2.2.2 uV_RX12_320 rfl rfl rfl (by decide +kernel) ⟨Nat.le_of_ble_eq_true rfl, Nat.le_of_ble_eq_true rfl⟩) rfl hl.1 rfl (Nat.le_of_ble_eq_true rfl) dX12_firstOpen_43 (fun r40 w42 H locs hp41 hw => ?_)
          obtain ⟨rfl, hg48⟩ := hp41
          rcases hg48 with ⟨rfl, hq44⟩ | ⟨rfl, ⟨x45, c46, rx45, tx45⟩, hq47⟩
          · refine lv_if_eq (tgt := 55) hx hb dX12_firstOpen_46 (by decide) (fun _ => ?_) (fun c => absurd (by decide) c)
            refine lv_iload hx hb dX12_firstOpen_55 (lv_at hl 5 rfl) ?_
            exact tk_iret hC hr hlocks hK ⟨rfl, (Or.inr ⟨(show 0 ≤ v3_5.toInt from r9), (show v3_5.toInt ≤ 101999 by first | with_reducible assumption | omega), c21⟩)⟩ hw dX12_firstOpen_57
          · refine lv_if_eq (tgt := 55) hx hb dX12_firstOpen_46 (by decide) (fun c => absurd c (by decide)) (fun _ => ?_)
            obtain ⟨x49, ex49⟩ : ∃ y : Int32, y = v3_5 + Int32.ofInt 1 := ⟨_, rfl⟩
            refine lv_iinc (v := x49) (lv' := [(5, .int x49), (0, .ref (ad 0)), (1, .int a1), (2, .int a2), (3, .int a3), (4, .int a4)]) hx hb dX12_firstOpen_49 hl (k := 5) rfl ex49.symm (by decide) rfl (fun ls hl => ?_)
            have ex49 : x49.toInt = v3_5.toInt + 1 := by rw [ex49]; exact wk_add (y := 1) (show -2147483648 ≤ v3_5.toInt + 1 by omega) (show v3_5.toInt + 1 ≤ 2147483647 by omega)
            refine lv_goto (tgt := 3) hx hb dX12_firstOpen_52 (by decide) ?_
            exact ih3 x49 H locs ls  (show 0 ≤ a1.toInt from r1) (show a1.toInt ≤ 11 from t2) (show 0 ≤ a2.toInt from r3) (show a2.toInt ≤ 9 from t4) (show 0 ≤ a3.toInt from r5) (show a3.toInt ≤ 100000100 from t6) (show 2000 ≤ a4.toInt from r7) (show a4.toInt ≤ 101999 from t8) (show 0 ≤ x49.toInt by first | with_reducible assumption | omega) (show x49.toInt ≤ 100000100 by first | with_reducible assumption | omega) (show (100000100 - x49.toInt).toNat < n3 by first | exact tn_lt hm3 (by omega) (by omega) | omega) hw   (lv_sub hl [1, 2, 3, 4, 5, 0] rfl)
  refine lv_iload_n hx hb dX12_firstOpen_0 rfl (lv_at hl 3 rfl) ?_
  refine lv_istore (lv' := [(5, .int a3), (0, .ref (ad 0)), (1, .int a1), (2, .int a2), (3, .int a3), (4, .int a4)]) hx hb dX12_firstOpen_1 hl (by decide) rfl (fun ls hl => ?_)
  exact L3 ((100000100 - a3.toInt).toNat + 1) a3 s.heap locs ls  (show 0 ≤ a1.toInt from ra1) (show a1.toInt ≤ 11 from ta1) (show 0 ≤ a2.toInt from ra2) (show a2.toInt ≤ 9 from ta2) (show 0 ≤ a3.toInt from ra3) (show a3.toInt ≤ 100000100 from ta3) (show 2000 ≤ a4.toInt from ra4) (show a4.toInt ≤ 101999 from ta4) (show 0 ≤ a3.toInt from ra3) (show a3.toInt ≤ 100000100 from ta3) (Nat.lt_succ_self _) hw   (lv_sub hl [1, 2, 3, 4, 5, 0] rfl)
