abbrev P_X10_canDo_1 (ad : Nat → Nat) (cy : Nat → ClassId) (B : Int) (qr : Nat) (s1 : Int) (a1 : Int32) (w0 : va_W) : Int32 → va_W → Prop := fun r u => TW ksC ad cy B qr s1 u ∧ FE ksC ([] : List (Nat × Nat × Nat)) w0 u ∧ ((r = 0) ∨ (r = 1))
set_option maxHeartbeats 4000000 in
set_option maxRecDepth 100000 in
theorem k_X10_canDo_1 (l : Launch) (adK adV : Nat → Nat) (dC : Nat → ClassId) (dI : Nat → Nat → Nat) (cy : Nat → ClassId) (ad : Nat → Nat) (B : Int) (hB0 : 2147483648 ≤ B) (hB1 : B ≤ 1152921504606846976) (qr : Nat) (s1 : Int)  (a1 : Int32) (ra1 : 0 ≤ a1.toInt) (ta1 : a1.toInt ≤ 5) (w0 : va_W) (sz : Nat) (hT : TW ksC ad cy B qr s1 w0)  : Met l yX10_canDo (wu yX10_canDo cX10_canDo 2 (some .boolean)) ({ frames := 2, cells := 0, slots := 0, locals := 38 }) (va_Pc [.ref (ad 158), .int a1] (wpreS adK adV dC dI cy sz w0)) (va_Qi (P_X10_canDo_1 ad cy B qr s1 a1 w0) (fun u : va_W => wpost dC dI cy (va_A w0 sz) u) (va_A w0 sz)) 0 0 (va_A w0 sz) := by
  refine Met.ofW (cc := cX10_canDo) (maxL := 2) (ret := (some .boolean)) (by decide) rfl ?_
  intro p e s m args below meth c s₁ Bk hml hv
  obtain ⟨rfl, ⟨hsz, hP, hK, hD0⟩, hE, hSR⟩ := hv
  have hx := Bk.exec
  have hb := Bk.bytes
  have hr := Bk.returns
  have hlocks := Bk.notSynchronized
  have hC : CallFix p m c cX10_canDo 2 s _ (wu yX10_canDo cX10_canDo 2 (some .boolean)) RX10 := ⟨hx, hb, hml, findClass_of_methodNamed Bk.named, atoms_spec (ws := (wu yX10_canDo cX10_canDo 2 (some .boolean))) Bk.pre⟩
  subst hsz
  have hD := hD0.self (sz := s.heap.size)
  generalize hAe : va_A w0 s.heap.size = A at hD hE ⊢
  have hA : ∀ q : Nat, s.heap.size ≤ q → A q := fun q h => by rw [← hAe]; exact Or.inr h
  have hw : Wd dC dI A s.heap s.heap [] w0 := ⟨hP, hD, va_S.rf⟩
  have hF : FE ksC ([] : List (Nat × Nat × Nat)) w0 w0 := FE.rf
  have hl := lv_entry ([.ref (ad 158), .int a1]) (n := 2) (Nat.le_of_ble_eq_true rfl)
  rw [lg_entry_eq]
  generalize (lg_sl ([.ref (ad 158), .int a1]) ++ List.replicate (2 - (lg_sl ([.ref (ad 158), .int a1])).length) Slot.unset).toArray = ls at hl ⊢
  have hl : lv_has ls 2 [(0, .ref (ad 158)), (1, .int a1)] := hl
  generalize hloc : ([] : List Loc) = locs at hw ⊢
  have hinX10 : ∀ w ∈ u_ws RX10 TX10 5, w ∈ (wu yX10_canDo cX10_canDo 2 (some .boolean)) := fun _ h => List.mem_cons_of_mem _ (up_81 h)
  have hinX5 : ∀ w ∈ u_ws RX5 TX5 14, w ∈ (wu yX10_canDo cX10_canDo 2 (some .boolean)) := fun _ h => List.mem_cons_of_mem _ (up_76 h)
  refine lv_aload_n hx hb dX10_canDo_0 rfl (lv_at hl 0 rfl) ?_
  refine lv_aload_n hx hb dX10_canDo_1 rfl (lv_at hl 0 rfl) ?_
  refine tk_getA hC hK hw hT hinX10 kC_at158 (by decide) rfl 0 (by decide) (List.mem_cons_of_mem _ uw_6_6) rfl rfl dX10_canDo_2 ?_
  refine tk_getO hC hK hw hT hinX5 kC_at38 (by decide) rfl 3 (by decide) (List.mem_cons_of_mem _ uw_60_16) rfl rfl dX10_canDo_5 ?_
  refine lv_iload_n hx hb dX10_canDo_8 rfl (lv_at hl 1 rfl) ?_
  refine tk_iald hC hK hw hT kC_at50 rfl rfl (show 0 ≤ a1.toInt from ra1) (show a1.toInt < 6 from Int.lt_of_le_of_lt ta1 (by decide)) dX10_canDo_9 (fun x1 c2 rx1 tx1 => ?_)
  refine tk_Vi hC hK hw hT hA hE hSR kC_at158 (by decide) rfl (k_X10_cornersFrom_1 l adK adV dC dI cy ad B hB0 (Int.le_trans hB1 (by decide)) qr s1   x1 (show 0 ≤ x1.toInt from rx1) (show x1.toInt ≤ 9 from tx1) w0 s.heap.size hT ) (cwV 1 hC.2.2.2.2 uV_RX10_60 rfl rfl rfl (by decide +kernel) ⟨Nat.le_of_ble_eq_true rfl, Nat.le_of_ble_eq_true rfl⟩) rfl hl.1 rfl (Nat.le_of_ble_eq_true rfl) dX10_canDo_10 (fun r3 w5 H locs hp4 hw => ?_)
  obtain ⟨hT, k6, hg9⟩ := hp4
  have hF := hF.tr k6 (by decide)
  obtain ⟨g7, g8⟩ := hg9
  refine lv_aload_n hx hb dX10_canDo_13 rfl (lv_at hl 0 rfl) ?_
  refine tk_getA hC hK hw hT hinX10 kC_at158 (by decide) rfl 0 (by decide) (List.mem_cons_of_mem _ uw_6_6) rfl rfl dX10_canDo_14 ?_
  refine tk_getO hC hK hw hT hinX5 kC_at38 (by decide) rfl 4 (by decide) (List.mem_cons_of_mem _ uw_60_17) rfl rfl dX10_canDo_17 ?_
  refine lv_iload_n hx hb dX10_canDo_20 rfl (lv_at hl 1 rfl) ?_
  refine tk_iald hC hK hw hT kC_at51 rfl rfl (show 0 ≤ a1.toInt from ra1) (show a1.toInt < 6 from Int.lt_of_le_of_lt ta1 (by decide)) dX10_canDo_21 (fun x10 c11 rx10 tx10 => ?_)
  refine lv_ishr hx hb dX10_canDo_22 ?_
  refine lv_topi (fun x12 ex12 => ?_)
  have bx12 : 0 ≤ x12.toInt ∧ x12.toInt ≤ r3.toInt := by rw [ex12]; exact wk_shr (by omega)
  refine lv_iconst (v := 1) hx hb dX10_canDo_23 (by decide) ?_
  refine lv_iand hx hb dX10_canDo_24 ?_
  refine lv_topi (fun x13 ex13 => ?_)
  have bx13 : 0 ≤ x13.toInt ∧ x13.toInt ≤ (1 : Int) := by rw [ex13]; exact wk_and (by decide)
  refine lv_if_eq (tgt := 32) hx hb dX10_canDo_25 (by decide) (fun c14 => ?_) (fun c14 => ?_)
  · have c14 : x13.toInt = (0 : Int) := wk_eq.mp c14
    refine lv_iconst (v := 0) hx hb dX10_canDo_32 (by decide) ?_
    exact tk_zret hC hr rfl hlocks hK ⟨hT, hF, (Or.inl rfl)⟩ hw dX10_canDo_33
  · have c14 : ¬ x13.toInt = (0 : Int) := wk_eqF c14
    refine lv_iconst (v := 1) hx hb dX10_canDo_28 (by decide) ?_
    refine lv_goto (tgt := 33) hx hb dX10_canDo_29 (by decide) ?_
    exact tk_zret hC hr rfl hlocks hK ⟨hT, hF, (Or.inr rfl)⟩ hw dX10_canDo_33
abbrev P_X10_findClash_1 (ad : Nat → Nat) (cy : Nat → ClassId) (B : Int) (qr : Nat) (s1 : Int)  (w0 : va_W) : Int32 → va_W → Prop := fun r u => TW ksC ad cy B qr s1 u ∧ FE ksC [(51, 0, 10)] w0 u ∧ ((0 ≤ r.toInt ∧ r.toInt ≤ 127))
set_option maxHeartbeats 4000000 in
set_option maxRecDepth 100000 in
theorem k_X10_findClash_1 (l : Launch) (adK adV : Nat → Nat) (dC : Nat → ClassId) (dI : Nat → Nat → Nat) (cy : Nat → ClassId) (ad : Nat → Nat) (B : Int) (hB0 : 2147483648 ≤ B) (hB1 : B ≤ 1152921504606846976) (qr : Nat) (s1 : Int)   (w0 : va_W) (sz : Nat) (hT : TW ksC ad cy B qr s1 w0)  : Met l yX10_findClash (wu yX10_findClash cX10_findClash 4 (some .int)) ({ frames := 3, cells := 0, slots := 0, locals := 65 }) (va_Pc [.ref (ad 158)] (wpreS adK adV dC dI cy sz w0)) (va_Qi (P_X10_findClash_1 ad cy B qr s1  w0) (fun u : va_W => wpost dC dI cy (va_A w0 sz) u) (va_A w0 sz)) 0 0 (va_A w0 sz) := by
  refine Met.ofW (cc := cX10_findClash) (maxL := 4) (ret := (some .int)) (by decide) rfl ?_
  intro p e s m args below meth c s₁ Bk hml hv
  obtain ⟨rfl, ⟨hsz, hP, hK, hD0⟩, hE, hSR⟩ := hv
  have hx := Bk.exec
  have hb := Bk.bytes
  have hr := Bk.returns
  have hlocks := Bk.notSynchronized
  have hC : CallFix p m c cX10_findClash 4 s _ (wu yX10_findClash cX10_findClash 4 (some .int)) RX10 := ⟨hx, hb, hml, findClass_of_methodNamed Bk.named, atoms_spec (ws := (wu yX10_findClash cX10_findClash 4 (some .int))) Bk.pre⟩
  subst hsz
  have hD := hD0.self (sz := s.heap.size)
  generalize hAe : va_A w0 s.heap.size = A at hD hE ⊢
  have hA : ∀ q : Nat, s.heap.size ≤ q → A q := fun q h => by rw [← hAe]; exact Or.inr h
  have hw : Wd dC dI A s.heap s.heap [] w0 := ⟨hP, hD, va_S.rf⟩
  have hF : FE ksC [(51, 0, 10)] w0 w0 := FE.rf
  have hl := lv_entry ([.ref (ad 158)]) (n := 4) (Nat.le_of_ble_eq_true rfl)
  rw [lg_entry_eq]
  generalize (lg_sl ([.ref (ad 158)]) ++ List.replicate (4 - (lg_sl ([.ref (ad 158)])).length) Slot.unset).toArray = ls at hl ⊢
  have hl : lv_has ls 4 [(0, .ref (ad 158))] := hl
  generalize hloc : ([] : List Loc) = locs at hw ⊢
  have hinX10 : ∀ w ∈ u_ws RX10 TX10 5, w ∈ (wu yX10_findClash cX10_findClash 4 (some .int)) := fun _ h => List.mem_cons_of_mem _ (up_81 h)
  have hinX5 : ∀ w ∈ u_ws RX5 TX5 14, w ∈ (wu yX10_findClash cX10_findClash 4 (some .int)) := fun _ h => List.mem_cons_of_mem _ (up_76 h)
  have L45 : ∀ (n45 : Nat) (v45_1 : Int32) (v45_2 : Int32) (f45_158_4 : Int32) (f45_38_10 : Int32) (H : Heap) (locs : List Loc) (ls : Array Slot) (w1 : va_W), 0 ≤ v45_1.toInt → v45_1.toInt ≤ 127 → 0 ≤ v45_2.toInt → v45_2.toInt ≤ 12 → 0 ≤ f45_158_4.toInt → f45_158_4.toInt ≤ 12 → 0 ≤ f45_38_10.toInt → f45_38_10.toInt ≤ 6 → (12 - v45_2.toInt).toNat < n45 → Wd dC dI A s.heap H locs w1 → TW ksC ad cy B qr s1 w1 → FE ksC [(51, 0, 10)] w0 w1 → gi w1 158 4 = f45_158_4 → gi w1 38 10 = f45_38_10 → lv_has ls 4 [(0, .ref (ad 158)), (1, .int v45_1), (2, .int v45_2)] → W p l e ({ frames := 3, cells := 0, slots := 0, locals := 65 }) s m (List.toArray [.ref (ad 158)]) below meth c H locs 0 0 (MQ below (va_Qi (P_X10_findClash_1 ad cy B qr s1  w0) (fun u : va_W => wpost dC dI cy A u) A) (List.toArray [.ref (ad 158)]) s 0 0 A) (F0 m 45 ls []) := by
    intro n45
    induction n45 with
    | zero => intro v45_1 v45_2 f45_158_4 f45_38_10 H locs ls w1 r2 t3 r4 t5 r6 t7 r9 t10 hm45 hw hT hF c8 c11 hl; omega
    | succ n45 ih45 =>
      intro v45_1 v45_2 f45_158_4 f45_38_10 H locs ls w1 r2 t3 r4 t5 r6 t7 r9 t10 hm45 hw hT hF c8 c11 hl
      have J74 : ∀ (v74_1 : Int32) (v74_3 : Int32) (H : Heap) (locs : List Loc) (ls : Array Slot) (w12 : va_W), 0 ≤ v74_1.toInt → v74_1.toInt ≤ 127 → 0 ≤ v45_2.toInt → v45_2.toInt ≤ 11 → 0 ≤ v74_3.toInt → v74_3.toInt ≤ 127 → 1 ≤ f45_158_4.toInt → f45_158_4.toInt ≤ 12 → 0 ≤ f45_38_10.toInt → f45_38_10.toInt ≤ 6 → Wd dC dI A s.heap H locs w12 → TW ksC ad cy B qr s1 w12 → FE ksC [(51, 0, 10)] w0 w12 → gi w12 158 4 = f45_158_4 → gi w12 38 10 = f45_38_10 → lv_has ls 4 [(0, .ref (ad 158)), (1, .int v74_1), (2, .int v45_2), (3, .int v74_3)] → W p l e ({ frames := 3, cells := 0, slots := 0, locals := 65 }) s m (List.toArray [.ref (ad 158)]) below meth c H locs 0 0 (MQ below (va_Qi (P_X10_findClash_1 ad cy B qr s1  w0) (fun u : va_W => wpost dC dI cy A u) A) (List.toArray [.ref (ad 158)]) s 0 0 A) (F0 m 74 ls []) := by
        intro v74_1 v74_3 H locs ls w12 r13 t14 r15 t16 r17 t18 r19 t20 r22 t23 hw hT hF c21 c24 hl
        obtain ⟨x25, ex25⟩ : ∃ y : Int32, y = v45_2 + Int32.ofInt 1 := ⟨_, rfl⟩
        refine lv_iinc (v := x25) (lv' := [(2, .int x25), (0, .ref (ad 158)), (1, .int v74_1), (3, .int v74_3)]) hx hb dX10_findClash_74 hl (k := 2) rfl ex25.symm (by decide) rfl (fun ls hl => ?_)
        have ex25 : x25.toInt = v45_2.toInt + 1 := by rw [ex25]; exact wk_add (y := 1) (show -2147483648 ≤ v45_2.toInt + 1 by omega) (show v45_2.toInt + 1 ≤ 2147483647 by omega)
        refine lv_goto (tgt := 45) hx hb dX10_findClash_77 (by decide) ?_
        exact ih45 v74_1 x25 f45_158_4 f45_38_10 H locs ls w12 (show 0 ≤ v74_1.toInt from r13) (show v74_1.toInt ≤ 127 from t14) (show 0 ≤ x25.toInt by first | with_reducible assumption | omega) (show x25.toInt ≤ 12 by first | with_reducible assumption | omega) (show 0 ≤ f45_158_4.toInt from r6) (show f45_158_4.toInt ≤ 12 from t20) (show 0 ≤ f45_38_10.toInt from r22) (show f45_38_10.toInt ≤ 6 from t23) (show (12 - x25.toInt).toNat < n45 by first | exact tn_lt hm45 (by omega) (by omega) | omega) hw hT hF c21 c24 (lv_sub hl [1, 2, 0] rfl)
      have J72 : ∀ (v72_3 : Int32) (H : Heap) (locs : List Loc) (ls : Array Slot) (w26 : va_W), 0 ≤ v45_1.toInt → v45_1.toInt ≤ 127 → 0 ≤ v45_2.toInt → v45_2.toInt ≤ 11 → 1 ≤ v72_3.toInt → v72_3.toInt ≤ 127 → 1 ≤ f45_158_4.toInt → f45_158_4.toInt ≤ 12 → 0 ≤ f45_38_10.toInt → f45_38_10.toInt ≤ 6 → Wd dC dI A s.heap H locs w26 → TW ksC ad cy B qr s1 w26 → FE ksC [(51, 0, 10)] w0 w26 → gi w26 158 4 = f45_158_4 → gi w26 38 10 = f45_38_10 → lv_has ls 4 [(0, .ref (ad 158)), (1, .int v45_1), (2, .int v45_2), (3, .int v72_3)] → W p l e ({ frames := 3, cells := 0, slots := 0, locals := 65 }) s m (List.toArray [.ref (ad 158)]) below meth c H locs 0 0 (MQ below (va_Qi (P_X10_findClash_1 ad cy B qr s1  w0) (fun u : va_W => wpost dC dI cy A u) A) (List.toArray [.ref (ad 158)]) s 0 0 A) (F0 m 72 ls []) := by
        intro v72_3 H locs ls w26 r27 t28 r29 t30 r31 t32 r33 t34 r36 t37 hw hT hF c35 c38 hl
        refine lv_iload_n hx hb dX10_findClash_72 rfl (lv_at hl 3 rfl) ?_
        refine lv_istore_n (lv' := [(1, .int v72_3), (0, .ref (ad 158)), (2, .int v45_2), (3, .int v72_3)]) hx hb dX10_findClash_73 rfl hl (by decide) rfl (fun ls hl => ?_)
        exact J74 v72_3 v72_3 H locs ls w26 (show 0 ≤ v72_3.toInt from Int.le_trans (by decide) r31) (show v72_3.toInt ≤ 127 from t32) (show 0 ≤ v45_2.toInt from r29) (show v45_2.toInt ≤ 11 from t30) (show 0 ≤ v72_3.toInt from Int.le_trans (by decide) r31) (show v72_3.toInt ≤ 127 from t32) (show 1 ≤ f45_158_4.toInt from r33) (show f45_158_4.toInt ≤ 12 from t34) (show 0 ≤ f45_38_10.toInt from r36) (show f45_38_10.toInt ≤ 6 from t37)  hw hT hF c35 c38 (lv_sub hl [1, 0, 2, 3] rfl)
      refine lv_iload_n hx hb dX10_findClash_45 rfl (lv_at hl 2 rfl) ?_
      refine lv_aload_n hx hb dX10_findClash_46 rfl (lv_at hl 0 rfl) ?_
      refine tk_geti hC hK hw hT hinX10 kC_at158 (by decide) rfl 4 (by decide) (List.mem_cons_of_mem _ uw_59_23) rfl rfl dX10_findClash_47 (fun x39 c40 rx39 tx39 => ?_)
      refine wk_top f45_158_4 (c40.symm.trans c8) ?_
      refine lv_icmp_ge (tgt := 80) hx hb dX10_findClash_50 (by decide) (fun c41 => ?_) (fun c41 => ?_)
      · have c41 : f45_158_4.toInt ≤ v45_2.toInt := wk_le.mp c41
        refine lv_iload_n hx hb dX10_findClash_80 rfl (lv_at hl 1 rfl) ?_
        exact tk_iret hC hr hlocks hK ⟨hT, hF, ⟨(show 0 ≤ v45_1.toInt from r2), (show v45_1.toInt ≤ 127 from t3)⟩⟩ hw dX10_findClash_81
      · have c41 : v45_2.toInt < f45_158_4.toInt := wk_leF c41
        refine lv_aload_n hx hb dX10_findClash_53 rfl (lv_at hl 0 rfl) ?_
        refine lv_iload_n hx hb dX10_findClash_54 rfl (lv_at hl 2 rfl) ?_
        refine tk_Vi hC hK hw hT hA hE hSR kC_at158 (by decide) rfl (k_X10_oddsOver_1 l adK adV dC dI cy ad B hB0 (Int.le_trans hB1 (by decide)) qr s1   v45_2 (show 0 ≤ v45_2.toInt from r4) (show v45_2.toInt ≤ 11 by first | with_reducible assumption | omega) w1 H.size hT ) (cwV 1 hC.2.2.2.2 uV_RX10_53 rfl rfl rfl (by decide +kernel) ⟨Nat.le_of_ble_eq_true rfl, Nat.le_of_ble_eq_true rfl⟩) rfl hl.1 rfl (Nat.le_of_ble_eq_true rfl) dX10_findClash_55 (fun r42 w44 H locs hp43 hw => ?_)
        obtain ⟨hT, k45, hg48⟩ := hp43
        have hF := hF.tr k45 (by decide)
        have c49 := k45.gi kC_at158 (by decide) c8
        have c50 := k45.gi kC_at38 (by decide) c11
        obtain ⟨g46, g47⟩ := hg48
        refine lv_istore_n (lv' := [(3, .int r42), (0, .ref (ad 158)), (1, .int v45_1), (2, .int v45_2)]) hx hb dX10_findClash_58 rfl hl (by decide) rfl (fun ls hl => ?_)
        refine lv_iload_n hx hb dX10_findClash_59 rfl (lv_at hl 0 rfl) ?_
        refine lv_if_eq (tgt := 74) hx hb dX10_findClash_60 (by decide) (fun c51 => ?_) (fun c51 => ?_)
        · have c51 : r42.toInt = (0 : Int) := wk_eq.mp c51
          exact J74 v45_1 r42 H locs ls w44 (show 0 ≤ v45_1.toInt from r2) (show v45_1.toInt ≤ 127 from t3) (show 0 ≤ v45_2.toInt from r4) (show v45_2.toInt ≤ 11 by first | with_reducible assumption | omega) (show 0 ≤ r42.toInt by first | with_reducible assumption | omega) (show r42.toInt ≤ 127 by first | with_reducible assumption | omega) (show 1 ≤ f45_158_4.toInt by first | with_reducible assumption | omega) (show f45_158_4.toInt ≤ 12 from t7) (show 0 ≤ f45_38_10.toInt from r9) (show f45_38_10.toInt ≤ 6 from t10)  hw hT hF c49 c50 (lv_sub hl [1, 2, 3, 0] rfl)
        · have c51 : ¬ r42.toInt = (0 : Int) := wk_eqF c51
          refine lv_iload_n hx hb dX10_findClash_63 rfl (lv_at hl 2 rfl) ?_
          refine lv_if_eq (tgt := 72) hx hb dX10_findClash_64 (by decide) (fun c52 => ?_) (fun c52 => ?_)
          · have c52 : v45_1.toInt = (0 : Int) := wk_eq.mp c52
            exact J72 r42 H locs ls w44 (show 0 ≤ v45_1.toInt from r2) (show v45_1.toInt ≤ 127 from t3) (show 0 ≤ v45_2.toInt from r4) (show v45_2.toInt ≤ 11 by first | with_reducible assumption | omega) (show 1 ≤ r42.toInt by first | with_reducible assumption | omega) (show r42.toInt ≤ 127 by first | with_reducible assumption | omega) (show 1 ≤ f45_158_4.toInt by first | with_reducible assumption | omega) (show f45_158_4.toInt ≤ 12 from t7) (show 0 ≤ f45_38_10.toInt from r9) (show f45_38_10.toInt ≤ 6 from t10)  hw hT hF c49 c50 (lv_sub hl [1, 2, 3, 0] rfl)
          · have c52 : ¬ v45_1.toInt = (0 : Int) := wk_eqF c52
            refine lv_iload_n hx hb dX10_findClash_67 rfl (lv_at hl 0 rfl) ?_
            refine lv_iload_n hx hb dX10_findClash_68 rfl (lv_at hl 2 rfl) ?_
            refine lv_icmp_ge (tgt := 74) hx hb dX10_findClash_69 (by decide) (fun c53 => ?_) (fun c53 => ?_)
            · have c53 : v45_1.toInt ≤ r42.toInt := wk_le.mp c53
              exact J74 v45_1 r42 H locs ls w44 (show 0 ≤ v45_1.toInt from r2) (show v45_1.toInt ≤ 127 from t3) (show 0 ≤ v45_2.toInt from r4) (show v45_2.toInt ≤ 11 by first | with_reducible assumption | omega) (show 0 ≤ r42.toInt by first | with_reducible assumption | omega) (show r42.toInt ≤ 127 by first | with_reducible assumption | omega) (show 1 ≤ f45_158_4.toInt by first | with_reducible assumption | omega) (show f45_158_4.toInt ≤ 12 from t7) (show 0 ≤ f45_38_10.toInt from r9) (show f45_38_10.toInt ≤ 6 from t10)  hw hT hF c49 c50 (lv_sub hl [1, 2, 3, 0] rfl)
            · have c53 : r42.toInt < v45_1.toInt := wk_leF c53
              exact J72 r42 H locs ls w44 (show 0 ≤ v45_1.toInt from r2) (show v45_1.toInt ≤ 127 from t3) (show 0 ≤ v45_2.toInt from r4) (show v45_2.toInt ≤ 11 by first | with_reducible assumption | omega) (show 1 ≤ r42.toInt by first | with_reducible assumption | omega) (show r42.toInt ≤ 127 by first | with_reducible assumption | omega) (show 1 ≤ f45_158_4.toInt by first | with_reducible assumption | omega) (show f45_158_4.toInt ≤ 12 from t7) (show 0 ≤ f45_38_10.toInt from r9) (show f45_38_10.toInt ≤ 6 from t10)  hw hT hF c49 c50 (lv_sub hl [1, 2, 3, 0] rfl)
  have L12 : ∀ (n12 : Nat) (v12_1 : Int32) (f12_158_4 : Int32) (H : Heap) (locs : List Loc) (ls : Array Slot) (w54 : va_W), 0 ≤ v12_1.toInt → v12_1.toInt ≤ 6 → 0 ≤ f12_158_4.toInt → f12_158_4.toInt ≤ 12 → (6 - v12_1.toInt).toNat < n12 → Wd dC dI A s.heap H locs w54 → TW ksC ad cy B qr s1 w54 → FE ksC [(51, 0, 10)] w0 w54 → gi w54 158 4 = f12_158_4 → lv_has ls 4 [(0, .ref (ad 158)), (1, .int v12_1)] → W p l e ({ frames := 3, cells := 0, slots := 0, locals := 65 }) s m (List.toArray [.ref (ad 158)]) below meth c H locs 0 0 (MQ below (va_Qi (P_X10_findClash_1 ad cy B qr s1  w0) (fun u : va_W => wpost dC dI cy A u) A) (List.toArray [.ref (ad 158)]) s 0 0 A) (F0 m 12 ls []) := by
    intro n12
    induction n12 with
    | zero => intro v12_1 f12_158_4 H locs ls w54 r55 t56 r57 t58 hm12 hw hT hF c59 hl; omega
    | succ n12 ih12 =>
      intro v12_1 f12_158_4 H locs ls w54 r55 t56 r57 t58 hm12 hw hT hF c59 hl
      refine lv_iload_n hx hb dX10_findClash_12 rfl (lv_at hl 1 rfl) ?_
      refine lv_aload_n hx hb dX10_findClash_13 rfl (lv_at hl 0 rfl) ?_
      refine tk_getA hC hK hw hT hinX10 kC_at158 (by decide) rfl 0 (by decide) (List.mem_cons_of_mem _ uw_6_6) rfl rfl dX10_findClash_14 ?_
      refine tk_geti hC hK hw hT hinX5 kC_at38 (by decide) rfl 10 (by decide) (List.mem_cons_of_mem _ uw_60_6) rfl rfl dX10_findClash_17 (fun x60 c61 rx60 tx60 => ?_)
      refine lv_icmp_ge (tgt := 41) hx hb dX10_findClash_20 (by decide) (fun c62 => ?_) (fun c62 => ?_)
      · have c62 : x60.toInt ≤ v12_1.toInt := wk_le.mp c62
        refine lv_iconst (v := 0) hx hb dX10_findClash_41 (by decide) ?_
        refine lv_istore_n (lv' := [(1, .int 0), (0, .ref (ad 158))]) hx hb dX10_findClash_42 rfl hl (by decide) rfl (fun ls hl => ?_)
        refine lv_iconst (v := 0) hx hb dX10_findClash_43 (by decide) ?_
        refine lv_istore_n (lv' := [(2, .int 0), (1, .int 0), (0, .ref (ad 158))]) hx hb dX10_findClash_44 rfl hl (by decide) rfl (fun ls hl => ?_)
        exact L45 ((12 - (0 : Int)).toNat + 1) 0 0 f12_158_4 x60 H locs ls w54 (by decide) (by decide) (by decide) (by decide) (show 0 ≤ f12_158_4.toInt from r57) (show f12_158_4.toInt ≤ 12 from t58) (show 0 ≤ x60.toInt from rx60) (show x60.toInt ≤ 6 from tx60) (Nat.lt_succ_self _) hw hT hF c59 c61 (lv_sub hl [2, 1, 0] rfl)
      · have c62 : v12_1.toInt < x60.toInt := wk_leF c62
        refine lv_aload_n hx hb dX10_findClash_23 rfl (lv_at hl 0 rfl) ?_
        refine lv_iload_n hx hb dX10_findClash_24 rfl (lv_at hl 1 rfl) ?_
        refine tk_Vi hC hK hw hT hA hE hSR kC_at158 (by decide) rfl (k_X10_canDo_1 l adK adV dC dI cy ad B hB0 (Int.le_trans hB1 (by decide)) qr s1   v12_1 (show 0 ≤ v12_1.toInt from r55) (show v12_1.toInt ≤ 5 by first | with_reducible assumption | omega) w54 H.size hT ) (cwV 1 hC.2.2.2.2 uV_RX10_49 rfl rfl rfl (by decide +kernel) ⟨Nat.le_of_ble_eq_true rfl, Nat.le_of_ble_eq_true rfl⟩) rfl hl.1 rfl (Nat.le_of_ble_eq_true rfl) dX10_findClash_25 (fun r63 w65 H locs hp64 hw => ?_)
        obtain ⟨hT, k66, hg67⟩ := hp64
        have hF := hF.tr k66 (by decide)
        have c68 := k66.gi kC_at158 (by decide) c59
        have c69 := k66.gi kC_at38 (by decide) c61
        rcases hg67 with rfl | rfl
        · refine lv_if_ne (tgt := 35) hx hb dX10_findClash_28 (by decide) (fun c => absurd (by decide) c) (fun _ => ?_)
          refine lv_iconst (v := 1) hx hb dX10_findClash_31 (by decide) ?_
          refine lv_iload_n hx hb dX10_findClash_32 rfl (lv_at hl 1 rfl) ?_
          refine lv_ishl hx hb dX10_findClash_33 ?_
          refine lv_topi (fun x70 ex70 => ?_)
          have bx70 : 1 ≤ x70.toInt ∧ x70.toInt ≤ 32 := by rw [ex70]; exact wk_shl1 5 (by decide) (by omega) (by omega)
          exact tk_iret hC hr hlocks hK ⟨hT, hF, ⟨(show 0 ≤ x70.toInt by first | with_reducible assumption | omega), (show x70.toInt ≤ 127 by first | with_reducible assumption | omega)⟩⟩ hw dX10_findClash_34
        · refine lv_if_ne (tgt := 35) hx hb dX10_findClash_28 (by decide) (fun _ => ?_) (fun c => absurd c (by decide))
          obtain ⟨x71, ex71⟩ : ∃ y : Int32, y = v12_1 + Int32.ofInt 1 := ⟨_, rfl⟩
          refine lv_iinc (v := x71) (lv' := [(1, .int x71), (0, .ref (ad 158))]) hx hb dX10_findClash_35 hl (k := 1) rfl ex71.symm (by decide) rfl (fun ls hl => ?_)
          have ex71 : x71.toInt = v12_1.toInt + 1 := by rw [ex71]; exact wk_add (y := 1) (show -2147483648 ≤ v12_1.toInt + 1 by omega) (show v12_1.toInt + 1 ≤ 2147483647 by omega)
          refine lv_goto (tgt := 12) hx hb dX10_findClash_38 (by decide) ?_
          exact ih12 x71 f12_158_4 H locs ls w65 (show 0 ≤ x71.toInt by first | with_reducible assumption | omega) (show x71.toInt ≤ 6 by first | with_reducible assumption | omega) (show 0 ≤ f12_158_4.toInt from r57) (show f12_158_4.toInt ≤ 12 from t58) (show (6 - x71.toInt).toNat < n12 by first | exact tn_lt hm12 (by omega) (by omega) | omega) hw hT hF c68 (lv_sub hl [1, 0] rfl)
  refine lv_aload_n hx hb dX10_findClash_0 rfl (lv_at hl 0 rfl) ?_
  refine lv_aload_n hx hb dX10_findClash_1 rfl (lv_at hl 0 rfl) ?_
  refine tk_geti hC hK hw hT hinX10 kC_at158 (by decide) rfl 4 (by decide) (List.mem_cons_of_mem _ uw_59_23) rfl rfl dX10_findClash_2 (fun x72 c73 rx72 tx72 => ?_)
  refine lv_iconst (v := 0) hx hb dX10_findClash_5 (by decide) ?_
  refine lv_iconst (v := (-1)) hx hb dX10_findClash_6 (by decide) ?_
  refine tk_Vv hC hK hw hT hA hE hSR kC_at158 (by decide) rfl (k_X10_layRoads_1 l adK adV dC dI cy ad B hB0 (Int.le_trans hB1 (by decide)) qr s1   x72 (show 0 ≤ x72.toInt from rx72) (show x72.toInt ≤ 12 from tx72) 0 (by decide) (by decide) ((-1)) (by decide) (by decide) w0 s.heap.size hT ) (cwV 3 hC.2.2.2.2 uV_RX10_42 rfl rfl rfl (by decide +kernel) ⟨Nat.le_of_ble_eq_true rfl, Nat.le_of_ble_eq_true rfl⟩) rfl hl.1 rfl (Nat.le_of_ble_eq_true rfl) dX10_findClash_7 (fun w76 H locs hp75 hw => ?_)
  obtain ⟨hT, k77, hg78⟩ := hp75
  have hF := hF.tr k77 (by decide)
  have c79 := k77.gi kC_at158 (by decide) c73
  clear hg78
  refine lv_iconst (v := 0) hx hb dX10_findClash_10 (by decide) ?_
  refine lv_istore_n (lv' := [(1, .int 0), (0, .ref (ad 158))]) hx hb dX10_findClash_11 rfl hl (by decide) rfl (fun ls hl => ?_)
  exact L12 ((6 - (0 : Int)).toNat + 1) 0 x72 H locs ls w76 (by decide) (by decide) (show 0 ≤ x72.toInt from rx72) (show x72.toInt ≤ 12 from tx72) (Nat.lt_succ_self _) hw hT hF c79 (lv_sub hl [1, 0] rfl)
abbrev P_X10_leastBelow_13 (ad : Nat → Nat) (cy : Nat → ClassId) (B : Int) (qr : Nat) (s1 : Int) (a2 : Int32) (w0 : va_W) : Int32 → va_W → Prop := fun r u => TW ksC ad cy B qr s1 u ∧ FE ksC [(51, 0, 10)] w0 u ∧ ((0 ≤ r.toInt ∧ r.toInt ≤ 8191) ∨ (r = (-1) ∧ (∃ y : Int32, gi u 38 10 = y ∧ 1 ≤ y.toInt ∧ y.toInt ≤ 6)))
set_option maxHeartbeats 4000000 in
set_option maxRecDepth 100000 in
theorem k_X10_leastBelow_13 (l : Launch) (adK adV : Nat → Nat) (dC : Nat → ClassId) (dI : Nat → Nat → Nat) (cy : Nat → ClassId) (ad : Nat → Nat) (B : Int) (hB0 : 2147483648 ≤ B) (hB1 : B ≤ 1152921504606846976) (qr : Nat) (s1 : Int)  (a2 : Int32) (ra2 : 0 ≤ a2.toInt) (ta2 : a2.toInt ≤ 8191) (w0 : va_W) (sz : Nat) (hT : TW ksC ad cy B qr s1 w0)  : Met l yX10_leastBelow (wu yX10_leastBelow cX10_leastBelow 4 (some .int)) ({ frames := 3, cells := 0, slots := 0, locals := 59 }) (va_Pc [.ref (ad 158), .int 0, .int a2] (wpreS adK adV dC dI cy sz w0)) (va_Qi (P_X10_leastBelow_13 ad cy B qr s1 a2 w0) (fun u : va_W => wpost dC dI cy (va_A w0 sz) u) (va_A w0 sz)) 0 0 (va_A w0 sz) := by
  refine Met.ofW (cc := cX10_leastBelow) (maxL := 4) (ret := (some .int)) (by decide) rfl ?_
  intro p e s m args below meth c s₁ Bk hml hv
  obtain ⟨rfl, ⟨hsz, hP, hK, hD0⟩, hE, hSR⟩ := hv
  have hx := Bk.exec
  have hb := Bk.bytes
  have hr := Bk.returns
  have hlocks := Bk.notSynchronized
  have hC : CallFix p m c cX10_leastBelow 4 s _ (wu yX10_leastBelow cX10_leastBelow 4 (some .int)) RX10 := ⟨hx, hb, hml, findClass_of_methodNamed Bk.named, atoms_spec (ws := (wu yX10_leastBelow cX10_leastBelow 4 (some .int))) Bk.pre⟩
  subst hsz
  have hD := hD0.self (sz := s.heap.size)
  generalize hAe : va_A w0 s.heap.size = A at hD hE ⊢
  have hA : ∀ q : Nat, s.heap.size ≤ q → A q := fun q h => by rw [← hAe]; exact Or.inr h
  have hw : Wd dC dI A s.heap s.heap [] w0 := ⟨hP, hD, va_S.rf⟩
  have hF : FE ksC [(51, 0, 10)] w0 w0 := FE.rf
  have hl := lv_entry ([.ref (ad 158), .int 0, .int a2]) (n := 4) (Nat.le_of_ble_eq_true rfl)
  rw [lg_entry_eq]
  generalize (lg_sl ([.ref (ad 158), .int 0, .int a2]) ++ List.replicate (4 - (lg_sl ([.ref (ad 158), .int 0, .int a2])).length) Slot.unset).toArray = ls at hl ⊢
  have hl : lv_has ls 4 [(0, .ref (ad 158)), (1, .int 0), (2, .int a2)] := hl
  generalize hloc : ([] : List Loc) = locs at hw ⊢
  have hinX10 : ∀ w ∈ u_ws RX10 TX10 5, w ∈ (wu yX10_leastBelow cX10_leastBelow 4 (some .int)) := fun _ h => List.mem_cons_of_mem _ (up_81 h)
  have hinX5 : ∀ w ∈ u_ws RX5 TX5 14, w ∈ (wu yX10_leastBelow cX10_leastBelow 4 (some .int)) := fun _ h => List.mem_cons_of_mem _ (up_76 h)
  have L9 : ∀ (n9 : Nat) (v9_3 : Int32) (H : Heap) (locs : List Loc) (ls : Array Slot) (w1 : va_W), 0 ≤ a2.toInt → a2.toInt ≤ 8191 → 0 ≤ v9_3.toInt → v9_3.toInt ≤ 6 → (6 - v9_3.toInt).toNat < n9 → Wd dC dI A s.heap H locs w1 → TW ksC ad cy B qr s1 w1 → FE ksC [(51, 0, 10)] w0 w1 → lv_has ls 4 [(0, .ref (ad 158)), (1, .int 0), (2, .int a2), (3, .int v9_3)] → W p l e ({ frames := 3, cells := 0, slots := 0, locals := 59 }) s m (List.toArray [.ref (ad 158), .int 0, .int a2]) below meth c H locs 0 0 (MQ below (va_Qi (P_X10_leastBelow_13 ad cy B qr s1 a2 w0) (fun u : va_W => wpost dC dI cy A u) A) (List.toArray [.ref (ad 158), .int 0, .int a2]) s 0 0 A) (F0 m 9 ls []) := by
    intro n9
    induction n9 with
    | zero => intro v9_3 H locs ls w1 r2 t3 r4 t5 hm9 hw hT hF hl; omega
    | succ n9 ih9 =>
      intro v9_3 H locs ls w1 r2 t3 r4 t5 hm9 hw hT hF hl
      refine lv_iload_n hx hb dX10_leastBelow_9 rfl (lv_at hl 3 rfl) ?_
      refine lv_aload_n hx hb dX10_leastBelow_10 rfl (lv_at hl 0 rfl) ?_
      refine tk_getA hC hK hw hT hinX10 kC_at158 (by decide) rfl 0 (by decide) (List.mem_cons_of_mem _ uw_6_6) rfl rfl dX10_leastBelow_11 ?_
      refine tk_geti hC hK hw hT hinX5 kC_at38 (by decide) rfl 10 (by decide) (List.mem_cons_of_mem _ uw_60_6) rfl rfl dX10_leastBelow_14 (fun x6 c7 rx6 tx6 => ?_)
      refine lv_icmp_ge (tgt := 36) hx hb dX10_leastBelow_17 (by decide) (fun c8 => ?_) (fun c8 => ?_)
      · have c8 : x6.toInt ≤ v9_3.toInt := wk_le.mp c8
        refine lv_iload_n hx hb dX10_leastBelow_36 rfl (lv_at hl 1 rfl) ?_
        refine lv_if_gt (tgt := 42) hx hb dX10_leastBelow_37 (by decide) (fun c => absurd c (by decide)) (fun _ => ?_)
        refine lv_iload_n hx hb dX10_leastBelow_40 rfl (lv_at hl 2 rfl) ?_
        exact tk_iret hC hr hlocks hK ⟨hT, hF, (Or.inl ⟨(show 0 ≤ a2.toInt from r2), (show a2.toInt ≤ 8191 from t3)⟩)⟩ hw dX10_leastBelow_41
      · have c8 : v9_3.toInt < x6.toInt := wk_leF c8
        refine lv_aload_n hx hb dX10_leastBelow_20 rfl (lv_at hl 0 rfl) ?_
        refine lv_iload_n hx hb dX10_leastBelow_21 rfl (lv_at hl 3 rfl) ?_
        refine tk_Vi hC hK hw hT hA hE hSR kC_at158 (by decide) rfl (k_X10_canDo_1 l adK adV dC dI cy ad B hB0 (Int.le_trans hB1 (by decide)) qr s1   v9_3 (show 0 ≤ v9_3.toInt from r4) (show v9_3.toInt ≤ 5 by first | with_reducible assumption | omega) w1 H.size hT ) (cwV 1 hC.2.2.2.2 uV_RX10_49 rfl rfl rfl (by decide +kernel) ⟨Nat.le_of_ble_eq_true rfl, Nat.le_of_ble_eq_true rfl⟩) rfl hl.1 rfl (Nat.le_of_ble_eq_true rfl) dX10_leastBelow_22 (fun r9 w11 H locs hp10 hw => ?_)
        obtain ⟨hT, k12, hg13⟩ := hp10
        have hF := hF.tr k12 (by decide)
        have c14 := k12.gi kC_at38 (by decide) c7
        rcases hg13 with rfl | rfl
        · refine lv_if_ne (tgt := 30) hx hb dX10_leastBelow_25 (by decide) (fun c => absurd (by decide) c) (fun _ => ?_)
          refine lv_iconst (v := (-1)) hx hb dX10_leastBelow_28 (by decide) ?_
          exact tk_iret hC hr hlocks hK ⟨hT, hF, (Or.inr ⟨rfl, ⟨x6, c14, (show 1 ≤ x6.toInt by first | with_reducible assumption | omega), (show x6.toInt ≤ 6 from tx6)⟩⟩)⟩ hw dX10_leastBelow_29
        · refine lv_if_ne (tgt := 30) hx hb dX10_leastBelow_25 (by decide) (fun _ => ?_) (fun c => absurd c (by decide))
          obtain ⟨x15, ex15⟩ : ∃ y : Int32, y = v9_3 + Int32.ofInt 1 := ⟨_, rfl⟩
          refine lv_iinc (v := x15) (lv' := [(3, .int x15), (0, .ref (ad 158)), (1, .int 0), (2, .int a2)]) hx hb dX10_leastBelow_30 hl (k := 3) rfl ex15.symm (by decide) rfl (fun ls hl => ?_)
          have ex15 : x15.toInt = v9_3.toInt + 1 := by rw [ex15]; exact wk_add (y := 1) (show -2147483648 ≤ v9_3.toInt + 1 by omega) (show v9_3.toInt + 1 ≤ 2147483647 by omega)
          refine lv_goto (tgt := 9) hx hb dX10_leastBelow_33 (by decide) ?_
          exact ih9 x15 H locs ls w11 (show 0 ≤ a2.toInt from r2) (show a2.toInt ≤ 8191 from t3) (show 0 ≤ x15.toInt by first | with_reducible assumption | omega) (show x15.toInt ≤ 6 by first | with_reducible assumption | omega) (show (6 - x15.toInt).toNat < n9 by first | exact tn_lt hm9 (by omega) (by omega) | omega) hw hT hF  (lv_sub hl [1, 2, 3, 0] rfl)
  refine lv_aload_n hx hb dX10_leastBelow_0 rfl (lv_at hl 0 rfl) ?_
  refine lv_iload_n hx hb dX10_leastBelow_1 rfl (lv_at hl 1 rfl) ?_
  refine lv_iload_n hx hb dX10_leastBelow_2 rfl (lv_at hl 2 rfl) ?_
  refine lv_iconst (v := (-1)) hx hb dX10_leastBelow_3 (by decide) ?_
  refine tk_Vv hC hK hw hT hA hE hSR kC_at158 (by decide) rfl (k_X10_layRoads_1 l adK adV dC dI cy ad B hB0 (Int.le_trans hB1 (by decide)) qr s1   0 (by decide) (by decide) a2 (show 0 ≤ a2.toInt from ra2) (show a2.toInt ≤ 8191 from ta2) ((-1)) (by decide) (by decide) w0 s.heap.size hT ) (cwV 3 hC.2.2.2.2 uV_RX10_42 rfl rfl rfl (by decide +kernel) ⟨Nat.le_of_ble_eq_true rfl, Nat.le_of_ble_eq_true rfl⟩) rfl hl.1 rfl (Nat.le_of_ble_eq_true rfl) dX10_leastBelow_4 (fun w18 H locs hp17 hw => ?_)
  obtain ⟨hT, k19, hg20⟩ := hp17
  have hF := hF.tr k19 (by decide)
  clear hg20
  refine lv_iconst (v := 0) hx hb dX10_leastBelow_7 (by decide) ?_
  refine lv_istore_n (lv' := [(3, .int 0), (0, .ref (ad 158)), (1, .int 0), (2, .int a2)]) hx hb dX10_leastBelow_8 rfl hl (by decide) rfl (fun ls hl => ?_)
  exact L9 ((6 - (0 : Int)).toNat + 1) 0 H locs ls w18 (show 0 ≤ a2.toInt from ra2) (show a2.toInt ≤ 8191 from ta2) (by decide) (by decide) (Nat.lt_succ_self _) hw hT hF  (lv_sub hl [1, 2, 3, 0] rfl)
abbrev P_X10_leastBelow_12 (ad : Nat → Nat) (cy : Nat → ClassId) (B : Int) (qr : Nat) (s1 : Int) (a1 : Int32) (a2 : Int32) (w0 : va_W) : Int32 → va_W → Prop := fun r u => TW ksC ad cy B qr s1 u ∧ FE ksC [(51, 0, 10)] w0 u ∧ ((0 ≤ r.toInt ∧ r.toInt ≤ 8191) ∨ (r = (-1) ∧ (∃ y : Int32, gi u 38 10 = y ∧ 1 ≤ y.toInt ∧ y.toInt ≤ 6)))
set_option maxHeartbeats 4000000 in
set_option maxRecDepth 100000 in
theorem k_X10_leastBelow_12 (l : Launch) (adK adV : Nat → Nat) (dC : Nat → ClassId) (dI : Nat → Nat → Nat) (cy : Nat → ClassId) (ad : Nat → Nat) (B : Int) (hB0 : 2147483648 ≤ B) (hB1 : B ≤ 1152921504606846976) (qr : Nat) (s1 : Int)  (a1 : Int32) (ra1 : 0 ≤ a1.toInt) (ta1 : a1.toInt ≤ 1) (a2 : Int32) (ra2 : 0 ≤ a2.toInt) (ta2 : a2.toInt ≤ 8191) (w0 : va_W) (sz : Nat) (hT : TW ksC ad cy B qr s1 w0)  : Met l yX10_leastBelow (wu yX10_leastBelow cX10_leastBelow 4 (some .int)) ({ frames := 4, cells := 0, slots := 0, locals := 82 }) (va_Pc [.ref (ad 158), .int a1, .int a2] (wpreS adK adV dC dI cy sz w0)) (va_Qi (P_X10_leastBelow_12 ad cy B qr s1 a1 a2 w0) (fun u : va_W => wpost dC dI cy (va_A w0 sz) u) (va_A w0 sz)) 0 0 (va_A w0 sz) := by
  refine Met.ofW (cc := cX10_leastBelow) (maxL := 4) (ret := (some .int)) (by decide) rfl ?_
  intro p e s m args below meth c s₁ Bk hml hv
  obtain ⟨rfl, ⟨hsz, hP, hK, hD0⟩, hE, hSR⟩ := hv
  have hx := Bk.exec
  have hb := Bk.bytes
  have hr := Bk.returns
  have hlocks := Bk.notSynchronized
  have hC : CallFix p m c cX10_leastBelow 4 s _ (wu yX10_leastBelow cX10_leastBelow 4 (some .int)) RX10 := ⟨hx, hb, hml, findClass_of_methodNamed Bk.named, atoms_spec (ws := (wu yX10_leastBelow cX10_leastBelow 4 (some .int))) Bk.pre⟩
  subst hsz
  have hD := hD0.self (sz := s.heap.size)
  generalize hAe : va_A w0 s.heap.size = A at hD hE ⊢
  have hA : ∀ q : Nat, s.heap.size ≤ q → A q := fun q h => by rw [← hAe]; exact Or.inr h
  have hw : Wd dC dI A s.heap s.heap [] w0 := ⟨hP, hD, va_S.rf⟩
  have hF : FE ksC [(51, 0, 10)] w0 w0 := FE.rf
  have hl := lv_entry ([.ref (ad 158), .int a1, .int a2]) (n := 4) (Nat.le_of_ble_eq_true rfl)
  rw [lg_entry_eq]
  generalize (lg_sl ([.ref (ad 158), .int a1, .int a2]) ++ List.replicate (4 - (lg_sl ([.ref (ad 158), .int a1, .int a2])).length) Slot.unset).toArray = ls at hl ⊢
  have hl : lv_has ls 4 [(0, .ref (ad 158)), (1, .int a1), (2, .int a2)] := hl
  generalize hloc : ([] : List Loc) = locs at hw ⊢
  have hinX10 : ∀ w ∈ u_ws RX10 TX10 5, w ∈ (wu yX10_leastBelow cX10_leastBelow 4 (some .int)) := fun _ h => List.mem_cons_of_mem _ (up_81 h)
  have hinX5 : ∀ w ∈ u_ws RX5 TX5 14, w ∈ (wu yX10_leastBelow cX10_leastBelow 4 (some .int)) := fun _ h => List.mem_cons_of_mem _ (up_76 h)
  have L9 : ∀ (n9 : Nat) (v9_3 : Int32) (H : Heap) (locs : List Loc) (ls : Array Slot) (w1 : va_W), 0 ≤ a1.toInt → a1.toInt ≤ 1 → 0 ≤ a2.toInt → a2.toInt ≤ 8191 → 0 ≤ v9_3.toInt → v9_3.toInt ≤ 6 → (6 - v9_3.toInt).toNat < n9 → Wd dC dI A s.heap H locs w1 → TW ksC ad cy B qr s1 w1 → FE ksC [(51, 0, 10)] w0 w1 → lv_has ls 4 [(0, .ref (ad 158)), (1, .int a1), (2, .int a2), (3, .int v9_3)] → W p l e ({ frames := 4, cells := 0, slots := 0, locals := 82 }) s m (List.toArray [.ref (ad 158), .int a1, .int a2]) below meth c H locs 0 0 (MQ below (va_Qi (P_X10_leastBelow_12 ad cy B qr s1 a1 a2 w0) (fun u : va_W => wpost dC dI cy A u) A) (List.toArray [.ref (ad 158), .int a1, .int a2]) s 0 0 A) (F0 m 9 ls []) := by
    intro n9
    induction n9 with
    | zero => intro v9_3 H locs ls w1 r2 t3 r4 t5 r6 t7 hm9 hw hT hF hl; omega
    | succ n9 ih9 =>
      intro v9_3 H locs ls w1 r2 t3 r4 t5 r6 t7 hm9 hw hT hF hl
      refine lv_iload_n hx hb dX10_leastBelow_9 rfl (lv_at hl 3 rfl) ?_
      refine lv_aload_n hx hb dX10_leastBelow_10 rfl (lv_at hl 0 rfl) ?_
      refine tk_getA hC hK hw hT hinX10 kC_at158 (by decide) rfl 0 (by decide) (List.mem_cons_of_mem _ uw_6_6) rfl rfl dX10_leastBelow_11 ?_
      refine tk_geti hC hK hw hT hinX5 kC_at38 (by decide) rfl 10 (by decide) (List.mem_cons_of_mem _ uw_60_6) rfl rfl dX10_leastBelow_14 (fun x8 c9 rx8 tx8 => ?_)
      refine lv_icmp_ge (tgt := 36) hx hb dX10_leastBelow_17 (by decide) (fun c10 => ?_) (fun c10 => ?_)
      · have c10 : x8.toInt ≤ v9_3.toInt := wk_le.mp c10
        refine lv_iload_n hx hb dX10_leastBelow_36 rfl (lv_at hl 1 rfl) ?_
        refine lv_if_gt (tgt := 42) hx hb dX10_leastBelow_37 (by decide) (fun c11 => ?_) (fun c11 => ?_)
        · have c11 : (0 : Int) < a1.toInt := wk_lt.mp c11
          refine lv_aload_n hx hb dX10_leastBelow_42 rfl (lv_at hl 0 rfl) ?_
          refine lv_iload_n hx hb dX10_leastBelow_43 rfl (lv_at hl 1 rfl) ?_
          refine lv_iconst (v := 1) hx hb dX10_leastBelow_44 (by decide) ?_
          refine lv_isub hx hb dX10_leastBelow_45 ?_
          refine lv_topi (fun x12 ex12 => ?_)
          have ex12 : x12.toInt = a1.toInt - (1 : Int) := by rw [ex12]; exact wk_sub (show (-2147483648) ≤ a1.toInt - (1 : Int) by omega) (show a1.toInt - (1 : Int) ≤ 2147483647 by omega)
          refine lv_iload_n hx hb dX10_leastBelow_46 rfl (lv_at hl 2 rfl) ?_
          obtain rfl : x12 = 0 := wk_eq.mpr (show x12.toInt = 0 by first | exact Int.le_antisymm (by omega) (by omega) | omega)
          refine tk_Vi hC hK hw hT hA hE hSR kC_at158 (by decide) rfl (k_X10_leastBelow_13 l adK adV dC dI cy ad B hB0 (Int.le_trans hB1 (by decide)) qr s1   a2 (show 0 ≤ a2.toInt from r4) (show a2.toInt ≤ 8191 from t5) w1 H.size hT ) (cwV 2 hC.2.2.2.2 uV_RX10_72 rfl rfl rfl (by decide +kernel) ⟨Nat.le_of_ble_eq_true rfl, Nat.le_of_ble_eq_true rfl⟩) rfl hl.1 rfl (Nat.le_of_ble_eq_true rfl) dX10_leastBelow_47 (fun r13 w15 H locs hp14 hw => ?_)
          obtain ⟨hT, k16, hg21⟩ := hp14
          have hF := hF.tr k16 (by decide)
          have c22 := k16.gi kC_at38 (by decide) c9
          rcases hg21 with ⟨g17, g18⟩ | ⟨rfl, ⟨x19, c20, rx19, tx19⟩⟩
          · refine lv_istore_n (lv' := [(3, .int r13), (0, .ref (ad 158)), (1, .int a1), (2, .int a2)]) hx hb dX10_leastBelow_50 rfl hl (by decide) rfl (fun ls hl => ?_)
            refine lv_iload_n hx hb dX10_leastBelow_51 rfl (lv_at hl 0 rfl) ?_
            refine lv_iconst (v := (-1)) hx hb dX10_leastBelow_52 (by decide) ?_
            refine lv_icmp_eq (tgt := 60) hx hb dX10_leastBelow_53 (by decide) (fun c => absurd c (fun h => absurd (show r13.toInt = (-1 : Int) from wk_eq.mp h) (by omega))) (fun _ => ?_)
            refine lv_iload_n hx hb dX10_leastBelow_56 rfl (lv_at hl 0 rfl) ?_
            refine lv_goto (tgt := 74) hx hb dX10_leastBelow_57 (by decide) ?_
            exact tk_iret hC hr hlocks hK ⟨hT, hF, (Or.inl ⟨(show 0 ≤ r13.toInt by first | with_reducible assumption | omega), (show r13.toInt ≤ 8191 by first | with_reducible assumption | omega)⟩)⟩ hw dX10_leastBelow_74
          · have ex19 : x19.toInt = x8.toInt := by rw [← c22.symm.trans c20]
            refine lv_istore_n (lv' := [(3, .int (-1)), (0, .ref (ad 158)), (1, .int a1), (2, .int a2)]) hx hb dX10_leastBelow_50 rfl hl (by decide) rfl (fun ls hl => ?_)
            refine lv_iload_n hx hb dX10_leastBelow_51 rfl (lv_at hl 0 rfl) ?_
            refine lv_iconst (v := (-1)) hx hb dX10_leastBelow_52 (by decide) ?_
            refine lv_icmp_eq (tgt := 60) hx hb dX10_leastBelow_53 (by decide) (fun _ => ?_) (fun c => absurd (by decide) c)
            refine lv_aload_n hx hb dX10_leastBelow_60 rfl (lv_at hl 1 rfl) ?_
            refine lv_iload_n hx hb dX10_leastBelow_61 rfl (lv_at hl 2 rfl) ?_
            refine lv_iconst (v := 1) hx hb dX10_leastBelow_62 (by decide) ?_
            refine lv_isub hx hb dX10_leastBelow_63 ?_
            refine lv_topi (fun x23 ex23 => ?_)
            have ex23 : x23.toInt = a1.toInt - (1 : Int) := by rw [ex23]; exact wk_sub (show (-2147483648) ≤ a1.toInt - (1 : Int) by omega) (show a1.toInt - (1 : Int) ≤ 2147483647 by omega)
            refine lv_iload_n hx hb dX10_leastBelow_64 rfl (lv_at hl 3 rfl) ?_
            refine lv_iconst (v := 1) hx hb dX10_leastBelow_65 (by decide) ?_
            refine lv_iload_n hx hb dX10_leastBelow_66 rfl (lv_at hl 2 rfl) ?_
            refine lv_iconst (v := 1) hx hb dX10_leastBelow_67 (by decide) ?_
            refine lv_isub hx hb dX10_leastBelow_68 ?_
            refine lv_topi (fun x24 ex24 => ?_)
            have ex24 : x24.toInt = a1.toInt - (1 : Int) := by rw [ex24]; exact wk_sub (show (-2147483648) ≤ a1.toInt - (1 : Int) by omega) (show a1.toInt - (1 : Int) ≤ 2147483647 by omega)
            refine lv_ishl hx hb dX10_leastBelow_69 ?_
            refine lv_topi (fun x25 ex25 => ?_)
            have bx25 : 1 ≤ x25.toInt ∧ x25.toInt ≤ 1 := by rw [ex25]; exact wk_shl1 0 (by decide) (by omega) (by omega)
            refine lv_ior hx hb dX10_leastBelow_70 ?_
            refine lv_topi (fun x26 ex26 => ?_)
            have bx26 : 0 ≤ x26.toInt ∧ x26.toInt < 8192 := by rw [ex26]; exact wk_or 13 (by decide) (by omega) (by omega) (by omega) (by omega)
            have mx26 : a2.toInt ≤ x26.toInt ∧ x25.toInt ≤ x26.toInt := by rw [ex26]; exact wk_orL 13 (by decide) (by omega) (by omega) (by omega) (by omega)
            obtain rfl : x23 = 0 := wk_eq.mpr (show x23.toInt = 0 by first | exact Int.le_antisymm (by omega) (by omega) | omega)
            refine tk_Vi hC hK hw hT hA hE hSR kC_at158 (by decide) rfl (k_X10_leastBelow_13 l adK adV dC dI cy ad B hB0 (Int.le_trans hB1 (by decide)) qr s1   x26 (show 0 ≤ x26.toInt by first | with_reducible assumption | omega) (show x26.toInt ≤ 8191 by first | with_reducible assumption | omega) w15 H.size hT ) (cwV 2 hC.2.2.2.2 uV_RX10_72 rfl rfl rfl (by decide +kernel) ⟨Nat.le_of_ble_eq_true rfl, Nat.le_of_ble_eq_true rfl⟩) rfl hl.1 rfl (Nat.le_of_ble_eq_true rfl) dX10_leastBelow_71 (fun r27 w29 H locs hp28 hw => ?_)
            obtain ⟨hT, k30, hg35⟩ := hp28
            have hF := hF.tr k30 (by decide)
            have c36 := k30.gi kC_at38 (by decide) c22
            rcases hg35 with ⟨g31, g32⟩ | ⟨rfl, ⟨x33, c34, rx33, tx33⟩⟩
            · exact tk_iret hC hr hlocks hK ⟨hT, hF, (Or.inl ⟨(show 0 ≤ r27.toInt by first | with_reducible assumption | omega), (show r27.toInt ≤ 8191 by first | with_reducible assumption | omega)⟩)⟩ hw dX10_leastBelow_74
            · have ex33 : x33.toInt = x8.toInt := by rw [← c36.symm.trans c34]
              exact tk_iret hC hr hlocks hK ⟨hT, hF, (Or.inr ⟨rfl, ⟨x8, c36, (show 1 ≤ x8.toInt by first | with_reducible assumption | omega), (show x8.toInt ≤ 6 from tx8)⟩⟩)⟩ hw dX10_leastBelow_74
        · have c11 : a1.toInt ≤ (0 : Int) := wk_ltF c11
          refine lv_iload_n hx hb dX10_leastBelow_40 rfl (lv_at hl 2 rfl) ?_
          exact tk_iret hC hr hlocks hK ⟨hT, hF, (Or.inl ⟨(show 0 ≤ a2.toInt from r4), (show a2.toInt ≤ 8191 from t5)⟩)⟩ hw dX10_leastBelow_41
      · have c10 : v9_3.toInt < x8.toInt := wk_leF c10
        refine lv_aload_n hx hb dX10_leastBelow_20 rfl (lv_at hl 0 rfl) ?_
        refine lv_iload_n hx hb dX10_leastBelow_21 rfl (lv_at hl 3 rfl) ?_
        refine tk_Vi hC hK hw hT hA hE hSR kC_at158 (by decide) rfl (k_X10_canDo_1 l adK adV dC dI cy ad B hB0 (Int.le_trans hB1 (by decide)) qr s1   v9_3 (show 0 ≤ v9_3.toInt from r6) (show v9_3.toInt ≤ 5 by first | with_reducible assumption | omega) w1 H.size hT ) (cwV 1 hC.2.2.2.2 uV_RX10_49 rfl rfl rfl (by decide +kernel) ⟨Nat.le_of_ble_eq_true rfl, Nat.le_of_ble_eq_true rfl⟩) rfl hl.1 rfl (Nat.le_of_ble_eq_true rfl) dX10_leastBelow_22 (fun r37 w39 H locs hp38 hw => ?_)
        obtain ⟨hT, k40, hg41⟩ := hp38
        have hF := hF.tr k40 (by decide)
        have c42 := k40.gi kC_at38 (by decide) c9
        rcases hg41 with rfl | rfl
        · refine lv_if_ne (tgt := 30) hx hb dX10_leastBelow_25 (by decide) (fun c => absurd (by decide) c) (fun _ => ?_)
          refine lv_iconst (v := (-1)) hx hb dX10_leastBelow_28 (by decide) ?_
          exact tk_iret hC hr hlocks hK ⟨hT, hF, (Or.inr ⟨rfl, ⟨x8, c42, (show 1 ≤ x8.toInt by first | with_reducible assumption | omega), (show x8.toInt ≤ 6 from tx8)⟩⟩)⟩ hw dX10_leastBelow_29
        · refine lv_if_ne (tgt := 30) hx hb dX10_leastBelow_25 (by decide) (fun _ => ?_) (fun c => absurd c (by decide))
          obtain ⟨x43, ex43⟩ : ∃ y : Int32, y = v9_3 + Int32.ofInt 1 := ⟨_, rfl⟩
          refine lv_iinc (v := x43) (lv' := [(3, .int x43), (0, .ref (ad 158)), (1, .int a1), (2, .int a2)]) hx hb dX10_leastBelow_30 hl (k := 3) rfl ex43.symm (by decide) rfl (fun ls hl => ?_)
          have ex43 : x43.toInt = v9_3.toInt + 1 := by rw [ex43]; exact wk_add (y := 1) (show -2147483648 ≤ v9_3.toInt + 1 by omega) (show v9_3.toInt + 1 ≤ 2147483647 by omega)
          refine lv_goto (tgt := 9) hx hb dX10_leastBelow_33 (by decide) ?_
          exact ih9 x43 H locs ls w39 (show 0 ≤ a1.toInt from r2) (show a1.toInt ≤ 1 from t3) (show 0 ≤ a2.toInt from r4) (show a2.toInt ≤ 8191 from t5) (show 0 ≤ x43.toInt by first | with_reducible assumption | omega) (show x43.toInt ≤ 6 by first | with_reducible assumption | omega) (show (6 - x43.toInt).toNat < n9 by first | exact tn_lt hm9 (by omega) (by omega) | omega) hw hT hF  (lv_sub hl [1, 2, 3, 0] rfl)
  refine lv_aload_n hx hb dX10_leastBelow_0 rfl (lv_at hl 0 rfl) ?_
  refine lv_iload_n hx hb dX10_leastBelow_1 rfl (lv_at hl 1 rfl) ?_
  refine lv_iload_n hx hb dX10_leastBelow_2 rfl (lv_at hl 2 rfl) ?_
  refine lv_iconst (v := (-1)) hx hb dX10_leastBelow_3 (by decide) ?_
  refine tk_Vv hC hK hw hT hA hE hSR kC_at158 (by decide) rfl (k_X10_layRoads_1 l adK adV dC dI cy ad B hB0 (Int.le_trans hB1 (by decide)) qr s1   a1 (show 0 ≤ a1.toInt from ra1) (show a1.toInt ≤ 12 from Int.le_trans ta1 (by decide)) a2 (show 0 ≤ a2.toInt from ra2) (show a2.toInt ≤ 8191 from ta2) ((-1)) (by decide) (by decide) w0 s.heap.size hT ) (cwV 3 hC.2.2.2.2 uV_RX10_42 rfl rfl rfl (by decide +kernel) ⟨Nat.le_of_ble_eq_true rfl, Nat.le_of_ble_eq_true rfl⟩) rfl hl.1 rfl (Nat.le_of_ble_eq_true rfl) dX10_leastBelow_4 (fun w46 H locs hp45 hw => ?_)
  obtain ⟨hT, k47, hg48⟩ := hp45
  have hF := hF.tr k47 (by decide)
  clear hg48
  refine lv_iconst (v := 0) hx hb dX10_leastBelow_7 (by decide) ?_
  refine lv_istore_n (lv' := [(3, .int 0), (0, .ref (ad 158)), (1, .int a1), (2, .int a2)]) hx hb dX10_leastBelow_8 rfl hl (by decide) rfl (fun ls hl => ?_)
  exact L9 ((6 - (0 : Int)).toNat + 1) 0 H locs ls w46 (show 0 ≤ a1.toInt from ra1) (show a1.toInt ≤ 1 from ta1) (show 0 ≤ a2.toInt from ra2) (show a2.toInt ≤ 8191 from ta2) (by decide) (by decide) (Nat.lt_succ_self _) hw hT hF  (lv_sub hl [1, 2, 3, 0] rfl)
abbrev P_X10_leastBelow_11 (ad : Nat → Nat) (cy : Nat → ClassId) (B : Int) (qr : Nat) (s1 : Int) (a1 : Int32) (a2 : Int32) (w0 : va_W) : Int32 → va_W → Prop := fun r u => TW ksC ad cy B qr s1 u ∧ FE ksC [(51, 0, 10)] w0 u ∧ ((0 ≤ r.toInt ∧ r.toInt ≤ 8191) ∨ (r = (-1) ∧ (∃ y : Int32, gi u 38 10 = y ∧ 1 ≤ y.toInt ∧ y.toInt ≤ 6)))
set_option maxHeartbeats 4000000 in
set_option maxRecDepth 100000 in
theorem k_X10_leastBelow_11 (l : Launch) (adK adV : Nat → Nat) (dC : Nat → ClassId) (dI : Nat → Nat → Nat) (cy : Nat → ClassId) (ad : Nat → Nat) (B : Int) (hB0 : 2147483648 ≤ B) (hB1 : B ≤ 1152921504606846976) (qr : Nat) (s1 : Int)  (a1 : Int32) (ra1 : 0 ≤ a1.toInt) (ta1 : a1.toInt ≤ 2) (a2 : Int32) (ra2 : 0 ≤ a2.toInt) (ta2 : a2.toInt ≤ 8191) (w0 : va_W) (sz : Nat) (hT : TW ksC ad cy B qr s1 w0)  : Met l yX10_leastBelow (wu yX10_leastBelow cX10_leastBelow 4 (some .int)) ({ frames := 5, cells := 0, slots := 0, locals := 105 }) (va_Pc [.ref (ad 158), .int a1, .int a2] (wpreS adK adV dC dI cy sz w0)) (va_Qi (P_X10_leastBelow_11 ad cy B qr s1 a1 a2 w0) (fun u : va_W => wpost dC dI cy (va_A w0 sz) u) (va_A w0 sz)) 0 0 (va_A w0 sz) := by
  refine Met.ofW (cc := cX10_leastBelow) (maxL := 4) (ret := (some .int)) (by decide) rfl ?_
  intro p e s m args below meth c s₁ Bk hml hv
  obtain ⟨rfl, ⟨hsz, hP, hK, hD0⟩, hE, hSR⟩ := hv
  have hx := Bk.exec
  have hb := Bk.bytes
  have hr := Bk.returns
  have hlocks := Bk.notSynchronized
  have hC : CallFix p m c cX10_leastBelow 4 s _ (wu yX10_leastBelow cX10_leastBelow 4 (some .int)) RX10 := ⟨hx, hb, hml, findClass_of_methodNamed Bk.named, atoms_spec (ws := (wu yX10_leastBelow cX10_leastBelow 4 (some .int))) Bk.pre⟩
  subst hsz
  have hD := hD0.self (sz := s.heap.size)
  generalize hAe : va_A w0 s.heap.size = A at hD hE ⊢
  have hA : ∀ q : Nat, s.heap.size ≤ q → A q := fun q h => by rw [← hAe]; exact Or.inr h
  have hw : Wd dC dI A s.heap s.heap [] w0 := ⟨hP, hD, va_S.rf⟩
  have hF : FE ksC [(51, 0, 10)] w0 w0 := FE.rf
  have hl := lv_entry ([.ref (ad 158), .int a1, .int a2]) (n := 4) (Nat.le_of_ble_eq_true rfl)
  rw [lg_entry_eq]
  generalize (lg_sl ([.ref (ad 158), .int a1, .int a2]) ++ List.replicate (4 - (lg_sl ([.ref (ad 158), .int a1, .int a2])).length) Slot.unset).toArray = ls at hl ⊢
  have hl : lv_has ls 4 [(0, .ref (ad 158)), (1, .int a1), (2, .int a2)] := hl
  generalize hloc : ([] : List Loc) = locs at hw ⊢
  have hinX10 : ∀ w ∈ u_ws RX10 TX10 5, w ∈ (wu yX10_leastBelow cX10_leastBelow 4 (some .int)) := fun _ h => List.mem_cons_of_mem _ (up_81 h)
  have hinX5 : ∀ w ∈ u_ws RX5 TX5 14, w ∈ (wu yX10_leastBelow cX10_leastBelow 4 (some .int)) := fun _ h => List.mem_cons_of_mem _ (up_76 h)
  have L9 : ∀ (n9 : Nat) (v9_3 : Int32) (H : Heap) (locs : List Loc) (ls : Array Slot) (w1 : va_W), 0 ≤ a1.toInt → a1.toInt ≤ 2 → 0 ≤ a2.toInt → a2.toInt ≤ 8191 → 0 ≤ v9_3.toInt → v9_3.toInt ≤ 6 → (6 - v9_3.toInt).toNat < n9 → Wd dC dI A s.heap H locs w1 → TW ksC ad cy B qr s1 w1 → FE ksC [(51, 0, 10)] w0 w1 → lv_has ls 4 [(0, .ref (ad 158)), (1, .int a1), (2, .int a2), (3, .int v9_3)] → W p l e ({ frames := 5, cells := 0, slots := 0, locals := 105 }) s m (List.toArray [.ref (ad 158), .int a1, .int a2]) below meth c H locs 0 0 (MQ below (va_Qi (P_X10_leastBelow_11 ad cy B qr s1 a1 a2 w0) (fun u : va_W => wpost dC dI cy A u) A) (List.toArray [.ref (ad 158), .int a1, .int a2]) s 0 0 A) (F0 m 9 ls []) := by
    intro n9
    induction n9 with
    | zero => intro v9_3 H locs ls w1 r2 t3 r4 t5 r6 t7 hm9 hw hT hF hl; omega
    | succ n9 ih9 =>
      intro v9_3 H locs ls w1 r2 t3 r4 t5 r6 t7 hm9 hw hT hF hl
      refine lv_iload_n hx hb dX10_leastBelow_9 rfl (lv_at hl 3 rfl) ?_
      refine lv_aload_n hx hb dX10_leastBelow_10 rfl (lv_at hl 0 rfl) ?_
      refine tk_getA hC hK hw hT hinX10 kC_at158 (by decide) rfl 0 (by decide) (List.mem_cons_of_mem _ uw_6_6) rfl rfl dX10_leastBelow_11 ?_
      refine tk_geti hC hK hw hT hinX5 kC_at38 (by decide) rfl 10 (by decide) (List.mem_cons_of_mem _ uw_60_6) rfl rfl dX10_leastBelow_14 (fun x8 c9 rx8 tx8 => ?_)
      refine lv_icmp_ge (tgt := 36) hx hb dX10_leastBelow_17 (by decide) (fun c10 => ?_) (fun c10 => ?_)
      · have c10 : x8.toInt ≤ v9_3.toInt := wk_le.mp c10
        refine lv_iload_n hx hb dX10_leastBelow_36 rfl (lv_at hl 1 rfl) ?_
        refine lv_if_gt (tgt := 42) hx hb dX10_leastBelow_37 (by decide) (fun c11 => ?_) (fun c11 => ?_)
        · have c11 : (0 : Int) < a1.toInt := wk_lt.mp c11
          refine lv_aload_n hx hb dX10_leastBelow_42 rfl (lv_at hl 0 rfl) ?_
          refine lv_iload_n hx hb dX10_leastBelow_43 rfl (lv_at hl 1 rfl) ?_
          refine lv_iconst (v := 1) hx hb dX10_leastBelow_44 (by decide) ?_
          refine lv_isub hx hb dX10_leastBelow_45 ?_
          refine lv_topi (fun x12 ex12 => ?_)
          have ex12 : x12.toInt = a1.toInt - (1 : Int) := by rw [ex12]; exact wk_sub (show (-2147483648) ≤ a1.toInt - (1 : Int) by omega) (show a1.toInt - (1 : Int) ≤ 2147483647 by omega)
          refine lv_iload_n hx hb dX10_leastBelow_46 rfl (lv_at hl 2 rfl) ?_
          refine tk_Vi hC hK hw hT hA hE hSR kC_at158 (by decide) rfl (k_X10_leastBelow_12 l adK adV dC dI cy ad B hB0 (Int.le_trans hB1 (by decide)) qr s1   x12 (show 0 ≤ x12.toInt by first | with_reducible assumption | omega) (show x12.toInt ≤ 1 by first | with_reducible assumption | omega) a2 (show 0 ≤ a2.toInt from r4) (show a2.toInt ≤ 8191 from t5) w1 H.size hT ) (cwV 2 hC.2.2.2.2 uV_RX10_72 rfl rfl rfl (by decide +kernel) ⟨Nat.le_of_ble_eq_true rfl, Nat.le_of_ble_eq_true rfl⟩) rfl hl.1 rfl (Nat.le_of_ble_eq_true rfl) dX10_leastBelow_47 (fun r13 w15 H locs hp14 hw => ?_)
          obtain ⟨hT, k16, hg21⟩ := hp14
          have hF := hF.tr k16 (by decide)
          have c22 := k16.gi kC_at38 (by decide) c9
          rcases hg21 with ⟨g17, g18⟩ | ⟨rfl, ⟨x19, c20, rx19, tx19⟩⟩
          · refine lv_istore_n (lv' := [(3, .int r13), (0, .ref (ad 158)), (1, .int a1), (2, .int a2)]) hx hb dX10_leastBelow_50 rfl hl (by decide) rfl (fun ls hl => ?_)
            refine lv_iload_n hx hb dX10_leastBelow_51 rfl (lv_at hl 0 rfl) ?_
            refine lv_iconst (v := (-1)) hx hb dX10_leastBelow_52 (by decide) ?_
            refine lv_icmp_eq (tgt := 60) hx hb dX10_leastBelow_53 (by decide) (fun c => absurd c (fun h => absurd (show r13.toInt = (-1 : Int) from wk_eq.mp h) (by omega))) (fun _ => ?_)
            refine lv_iload_n hx hb dX10_leastBelow_56 rfl (lv_at hl 0 rfl) ?_
            refine lv_goto (tgt := 74) hx hb dX10_leastBelow_57 (by decide) ?_
            exact tk_iret hC hr hlocks hK ⟨hT, hF, (Or.inl ⟨(show 0 ≤ r13.toInt by first | with_reducible assumption | omega), (show r13.toInt ≤ 8191 by first | with_reducible assumption | omega)⟩)⟩ hw dX10_leastBelow_74
          · have ex19 : x19.toInt = x8.toInt := by rw [← c22.symm.trans c20]
            refine lv_istore_n (lv' := [(3, .int (-1)), (0, .ref (ad 158)), (1, .int a1), (2, .int a2)]) hx hb dX10_leastBelow_50 rfl hl (by decide) rfl (fun ls hl => ?_)
            refine lv_iload_n hx hb dX10_leastBelow_51 rfl (lv_at hl 0 rfl) ?_
            refine lv_iconst (v := (-1)) hx hb dX10_leastBelow_52 (by decide) ?_
            refine lv_icmp_eq (tgt := 60) hx hb dX10_leastBelow_53 (by decide) (fun _ => ?_) (fun c => absurd (by decide) c)
            refine lv_aload_n hx hb dX10_leastBelow_60 rfl (lv_at hl 1 rfl) ?_
            refine lv_iload_n hx hb dX10_leastBelow_61 rfl (lv_at hl 2 rfl) ?_
            refine lv_iconst (v := 1) hx hb dX10_leastBelow_62 (by decide) ?_
            refine lv_isub hx hb dX10_leastBelow_63 ?_
            refine lv_topi (fun x23 ex23 => ?_)
            have ex23 : x23.toInt = a1.toInt - (1 : Int) := by rw [ex23]; exact wk_sub (show (-2147483648) ≤ a1.toInt - (1 : Int) by omega) (show a1.toInt - (1 : Int) ≤ 2147483647 by omega)
            refine lv_iload_n hx hb dX10_leastBelow_64 rfl (lv_at hl 3 rfl) ?_
            refine lv_iconst (v := 1) hx hb dX10_leastBelow_65 (by decide) ?_
            refine lv_iload_n hx hb dX10_leastBelow_66 rfl (lv_at hl 2 rfl) ?_
            refine lv_iconst (v := 1) hx hb dX10_leastBelow_67 (by decide) ?_
            refine lv_isub hx hb dX10_leastBelow_68 ?_
            refine lv_topi (fun x24 ex24 => ?_)
            have ex24 : x24.toInt = a1.toInt - (1 : Int) := by rw [ex24]; exact wk_sub (show (-2147483648) ≤ a1.toInt - (1 : Int) by omega) (show a1.toInt - (1 : Int) ≤ 2147483647 by omega)
            refine lv_ishl hx hb dX10_leastBelow_69 ?_
            refine lv_topi (fun x25 ex25 => ?_)
            have bx25 : 1 ≤ x25.toInt ∧ x25.toInt ≤ 2 := by rw [ex25]; exact wk_shl1 1 (by decide) (by omega) (by omega)
            refine lv_ior hx hb dX10_leastBelow_70 ?_
            refine lv_topi (fun x26 ex26 => ?_)
            have bx26 : 0 ≤ x26.toInt ∧ x26.toInt < 8192 := by rw [ex26]; exact wk_or 13 (by decide) (by omega) (by omega) (by omega) (by omega)
            have mx26 : a2.toInt ≤ x26.toInt ∧ x25.toInt ≤ x26.toInt := by rw [ex26]; exact wk_orL 13 (by decide) (by omega) (by omega) (by omega) (by omega)
            refine tk_Vi hC hK hw hT hA hE hSR kC_at158 (by decide) rfl (k_X10_leastBelow_12 l adK adV dC dI cy ad B hB0 (Int.le_trans hB1 (by decide)) qr s1   x23 (show 0 ≤ x23.toInt by first | with_reducible assumption | omega) (show x23.toInt ≤ 1 by first | with_reducible assumption | omega) x26 (show 0 ≤ x26.toInt by first | with_reducible assumption | omega) (show x26.toInt ≤ 8191 by first | with_reducible assumption | omega) w15 H.size hT ) (cwV 2 hC.2.2.2.2 uV_RX10_72 rfl rfl rfl (by decide +kernel) ⟨Nat.le_of_ble_eq_true rfl, Nat.le_of_ble_eq_true rfl⟩) rfl hl.1 rfl (Nat.le_of_ble_eq_true rfl) dX10_leastBelow_71 (fun r27 w29 H locs hp28 hw => ?_)
            obtain ⟨hT, k30, hg35⟩ := hp28
            have hF := hF.tr k30 (by decide)
            have c36 := k30.gi kC_at38 (by decide) c22
            rcases hg35 with ⟨g31, g32⟩ | ⟨rfl, ⟨x33, c34, rx33, tx33⟩⟩
            · exact tk_iret hC hr hlocks hK ⟨hT, hF, (Or.inl ⟨(show 0 ≤ r27.toInt by first | with_reducible assumption | omega), (show r27.toInt ≤ 8191 by first | with_reducible assumption | omega)⟩)⟩ hw dX10_leastBelow_74
            · have ex33 : x33.toInt = x8.toInt := by rw [← c36.symm.trans c34]
              exact tk_iret hC hr hlocks hK ⟨hT, hF, (Or.inr ⟨rfl, ⟨x8, c36, (show 1 ≤ x8.toInt by first | with_reducible assumption | omega), (show x8.toInt ≤ 6 from tx8)⟩⟩)⟩ hw dX10_leastBelow_74
        · have c11 : a1.toInt ≤ (0 : Int) := wk_ltF c11
          refine lv_iload_n hx hb dX10_leastBelow_40 rfl (lv_at hl 2 rfl) ?_
          exact tk_iret hC hr hlocks hK ⟨hT, hF, (Or.inl ⟨(show 0 ≤ a2.toInt from r4), (show a2.toInt ≤ 8191 from t5)⟩)⟩ hw dX10_leastBelow_41
      · have c10 : v9_3.toInt < x8.toInt := wk_leF c10
        refine lv_aload_n hx hb dX10_leastBelow_20 rfl (lv_at hl 0 rfl) ?_
        refine lv_iload_n hx hb dX10_leastBelow_21 rfl (lv_at hl 3 rfl) ?_
        refine tk_Vi hC hK hw hT hA hE hSR kC_at158 (by decide) rfl (k_X10_canDo_1 l adK adV dC dI cy ad B hB0 (Int.le_trans hB1 (by decide)) qr s1   v9_3 (show 0 ≤ v9_3.toInt from r6) (show v9_3.toInt ≤ 5 by first | with_reducible assumption | omega) w1 H.size hT ) (cwV 1 hC.2.2.2.2 uV_RX10_49 rfl rfl rfl (by decide +kernel) ⟨Nat.le_of_ble_eq_true rfl, Nat.le_of_ble_eq_true rfl⟩) rfl hl.1 rfl (Nat.le_of_ble_eq_true rfl) dX10_leastBelow_22 (fun r37 w39 H locs hp38 hw => ?_)
        obtain ⟨hT, k40, hg41⟩ := hp38
        have hF := hF.tr k40 (by decide)
        have c42 := k40.gi kC_at38 (by decide) c9
        rcases hg41 with rfl | rfl
        · refine lv_if_ne (tgt := 30) hx hb dX10_leastBelow_25 (by decide) (fun c => absurd (by decide) c) (fun _ => ?_)
          refine lv_iconst (v := (-1)) hx hb dX10_leastBelow_28 (by decide) ?_
          exact tk_iret hC hr hlocks hK ⟨hT, hF, (Or.inr ⟨rfl, ⟨x8, c42, (show 1 ≤ x8.toInt by first | with_reducible assumption | omega), (show x8.toInt ≤ 6 from tx8)⟩⟩)⟩ hw dX10_leastBelow_29
        · refine lv_if_ne (tgt := 30) hx hb dX10_leastBelow_25 (by decide) (fun _ => ?_) (fun c => absurd c (by decide))
          obtain ⟨x43, ex43⟩ : ∃ y : Int32, y = v9_3 + Int32.ofInt 1 := ⟨_, rfl⟩
          refine lv_iinc (v := x43) (lv' := [(3, .int x43), (0, .ref (ad 158)), (1, .int a1), (2, .int a2)]) hx hb dX10_leastBelow_30 hl (k := 3) rfl ex43.symm (by decide) rfl (fun ls hl => ?_)
          have ex43 : x43.toInt = v9_3.toInt + 1 := by rw [ex43]; exact wk_add (y := 1) (show -2147483648 ≤ v9_3.toInt + 1 by omega) (show v9_3.toInt + 1 ≤ 2147483647 by omega)
          refine lv_goto (tgt := 9) hx hb dX10_leastBelow_33 (by decide) ?_
          exact ih9 x43 H locs ls w39 (show 0 ≤ a1.toInt from r2) (show a1.toInt ≤ 2 from t3) (show 0 ≤ a2.toInt from r4) (show a2.toInt ≤ 8191 from t5) (show 0 ≤ x43.toInt by first | with_reducible assumption | omega) (show x43.toInt ≤ 6 by first | with_reducible assumption | omega) (show (6 - x43.toInt).toNat < n9 by first | exact tn_lt hm9 (by omega) (by omega) | omega) hw hT hF  (lv_sub hl [1, 2, 3, 0] rfl)
  refine lv_aload_n hx hb dX10_leastBelow_0 rfl (lv_at hl 0 rfl) ?_
  refine lv_iload_n hx hb dX10_leastBelow_1 rfl (lv_at hl 1 rfl) ?_
  refine lv_iload_n hx hb dX10_leastBelow_2 rfl (lv_at hl 2 rfl) ?_
  refine lv_iconst (v := (-1)) hx hb dX10_leastBelow_3 (by decide) ?_
  refine tk_Vv hC hK hw hT hA hE hSR kC_at158 (by decide) rfl (k_X10_layRoads_1 l adK adV dC dI cy ad B hB0 (Int.le_trans hB1 (by decide)) qr s1   a1 (show 0 ≤ a1.toInt from ra1) (show a1.toInt ≤ 12 from Int.le_trans ta1 (by decide)) a2 (show 0 ≤ a2.toInt from ra2) (show a2.toInt ≤ 8191 from ta2) ((-1)) (by decide) (by decide) w0 s.heap.size hT ) (cwV 3 hC.2.2.2.2 uV_RX10_42 rfl rfl rfl (by decide +kernel) ⟨Nat.le_of_ble_eq_true rfl, Nat.le_of_ble_eq_true rfl⟩) rfl hl.1 rfl (Nat.le_of_ble_eq_true rfl) dX10_leastBelow_4 (fun w46 H locs hp45 hw => ?_)
  obtain ⟨hT, k47, hg48⟩ := hp45
  have hF := hF.tr k47 (by decide)
  clear hg48
  refine lv_iconst (v := 0) hx hb dX10_leastBelow_7 (by decide) ?_
  refine lv_istore_n (lv' := [(3, .int 0), (0, .ref (ad 158)), (1, .int a1), (2, .int a2)]) hx hb dX10_leastBelow_8 rfl hl (by decide) rfl (fun ls hl => ?_)
  exact L9 ((6 - (0 : Int)).toNat + 1) 0 H locs ls w46 (show 0 ≤ a1.toInt from ra1) (show a1.toInt ≤ 2 from ta1) (show 0 ≤ a2.toInt from ra2) (show a2.toInt ≤ 8191 from ta2) (by decide) (by decide) (Nat.lt_succ_self _) hw hT hF  (lv_sub hl [1, 2, 3, 0] rfl)
abbrev P_X10_leastBelow_10 (ad : Nat → Nat) (cy : Nat → ClassId) (B : Int) (qr : Nat) (s1 : Int) (a1 : Int32) (a2 : Int32) (w0 : va_W) : Int32 → va_W → Prop := fun r u => TW ksC ad cy B qr s1 u ∧ FE ksC [(51, 0, 10)] w0 u ∧ ((0 ≤ r.toInt ∧ r.toInt ≤ 8191) ∨ (r = (-1) ∧ (∃ y : Int32, gi u 38 10 = y ∧ 1 ≤ y.toInt ∧ y.toInt ≤ 6)))
set_option maxHeartbeats 4000000 in
set_option maxRecDepth 100000 in
theorem k_X10_leastBelow_10 (l : Launch) (adK adV : Nat → Nat) (dC : Nat → ClassId) (dI : Nat → Nat → Nat) (cy : Nat → ClassId) (ad : Nat → Nat) (B : Int) (hB0 : 2147483648 ≤ B) (hB1 : B ≤ 1152921504606846976) (qr : Nat) (s1 : Int)  (a1 : Int32) (ra1 : 0 ≤ a1.toInt) (ta1 : a1.toInt ≤ 3) (a2 : Int32) (ra2 : 0 ≤ a2.toInt) (ta2 : a2.toInt ≤ 8191) (w0 : va_W) (sz : Nat) (hT : TW ksC ad cy B qr s1 w0)  : Met l yX10_leastBelow (wu yX10_leastBelow cX10_leastBelow 4 (some .int)) ({ frames := 6, cells := 0, slots := 0, locals := 128 }) (va_Pc [.ref (ad 158), .int a1, .int a2] (wpreS adK adV dC dI cy sz w0)) (va_Qi (P_X10_leastBelow_10 ad cy B qr s1 a1 a2 w0) (fun u : va_W => wpost dC dI cy (va_A w0 sz) u) (va_A w0 sz)) 0 0 (va_A w0 sz) := by
  refine Met.ofW (cc := cX10_leastBelow) (maxL := 4) (ret := (some .int)) (by decide) rfl ?_
  intro p e s m args below meth c s₁ Bk hml hv
  obtain ⟨rfl, ⟨hsz, hP, hK, hD0⟩, hE, hSR⟩ := hv
  have hx := Bk.exec
  have hb := Bk.bytes
  have hr := Bk.returns
  have hlocks := Bk.notSynchronized
  have hC : CallFix p m c cX10_leastBelow 4 s _ (wu yX10_leastBelow cX10_leastBelow 4 (some .int)) RX10 := ⟨hx, hb, hml, findClass_of_methodNamed Bk.named, atoms_spec (ws := (wu yX10_leastBelow cX10_leastBelow 4 (some .int))) Bk.pre⟩
  subst hsz
  have hD := hD0.self (sz := s.heap.size)
  generalize hAe : va_A w0 s.heap.size = A at hD hE ⊢
  have hA : ∀ q : Nat, s.heap.size ≤ q → A q := fun q h => by rw [← hAe]; exact Or.inr h
  have hw : Wd dC dI A s.heap s.heap [] w0 := ⟨hP, hD, va_S.rf⟩
  have hF : FE ksC [(51, 0, 10)] w0 w0 := FE.rf
  have hl := lv_entry ([.ref (ad 158), .int a1, .int a2]) (n := 4) (Nat.le_of_ble_eq_true rfl)
  rw [lg_entry_eq]
  generalize (lg_sl ([.ref (ad 158), .int a1, .int a2]) ++ List.replicate (4 - (lg_sl ([.ref (ad 158), .int a1, .int a2])).length) Slot.unset).toArray = ls at hl ⊢
  have hl : lv_has ls 4 [(0, .ref (ad 158)), (1, .int a1), (2, .int a2)] := hl
  generalize hloc : ([] : List Loc) = locs at hw ⊢
  have hinX10 : ∀ w ∈ u_ws RX10 TX10 5, w ∈ (wu yX10_leastBelow cX10_leastBelow 4 (some .int)) := fun _ h => List.mem_cons_of_mem _ (up_81 h)
  have hinX5 : ∀ w ∈ u_ws RX5 TX5 14, w ∈ (wu yX10_leastBelow cX10_leastBelow 4 (some .int)) := fun _ h => List.mem_cons_of_mem _ (up_76 h)
  have L9 : ∀ (n9 : Nat) (v9_3 : Int32) (H : Heap) (locs : List Loc) (ls : Array Slot) (w1 : va_W), 0 ≤ a1.toInt → a1.toInt ≤ 3 → 0 ≤ a2.toInt → a2.toInt ≤ 8191 → 0 ≤ v9_3.toInt → v9_3.toInt ≤ 6 → (6 - v9_3.toInt).toNat < n9 → Wd dC dI A s.heap H locs w1 → TW ksC ad cy B qr s1 w1 → FE ksC [(51, 0, 10)] w0 w1 → lv_has ls 4 [(0, .ref (ad 158)), (1, .int a1), (2, .int a2), (3, .int v9_3)] → W p l e ({ frames := 6, cells := 0, slots := 0, locals := 128 }) s m (List.toArray [.ref (ad 158), .int a1, .int a2]) below meth c H locs 0 0 (MQ below (va_Qi (P_X10_leastBelow_10 ad cy B qr s1 a1 a2 w0) (fun u : va_W => wpost dC dI cy A u) A) (List.toArray [.ref (ad 158), .int a1, .int a2]) s 0 0 A) (F0 m 9 ls []) := by
    intro n9
    induction n9 with
    | zero => intro v9_3 H locs ls w1 r2 t3 r4 t5 r6 t7 hm9 hw hT hF hl; omega
    | succ n9 ih9 =>
      intro v9_3 H locs ls w1 r2 t3 r4 t5 r6 t7 hm9 hw hT hF hl
      refine lv_iload_n hx hb dX10_leastBelow_9 rfl (lv_at hl 3 rfl) ?_
      refine lv_aload_n hx hb dX10_leastBelow_10 rfl (lv_at hl 0 rfl) ?_
      refine tk_getA hC hK hw hT hinX10 kC_at158 (by decide) rfl 0 (by decide) (List.mem_cons_of_mem _ uw_6_6) rfl rfl dX10_leastBelow_11 ?_
      refine tk_geti hC hK hw hT hinX5 kC_at38 (by decide) rfl 10 (by decide) (List.mem_cons_of_mem _ uw_60_6) rfl rfl dX10_leastBelow_14 (fun x8 c9 rx8 tx8 => ?_)
      refine lv_icmp_ge (tgt := 36) hx hb dX10_leastBelow_17 (by decide) (fun c10 => ?_) (fun c10 => ?_)
      · have c10 : x8.toInt ≤ v9_3.toInt := wk_le.mp c10
        refine lv_iload_n hx hb dX10_leastBelow_36 rfl (lv_at hl 1 rfl) ?_
        refine lv_if_gt (tgt := 42) hx hb dX10_leastBelow_37 (by decide) (fun c11 => ?_) (fun c11 => ?_)
        · have c11 : (0 : Int) < a1.toInt := wk_lt.mp c11
          refine lv_aload_n hx hb dX10_leastBelow_42 rfl (lv_at hl 0 rfl) ?_
          refine lv_iload_n hx hb dX10_leastBelow_43 rfl (lv_at hl 1 rfl) ?_
          refine lv_iconst (v := 1) hx hb dX10_leastBelow_44 (by decide) ?_
          refine lv_isub hx hb dX10_leastBelow_45 ?_
          refine lv_topi (fun x12 ex12 => ?_)
          have ex12 : x12.toInt = a1.toInt - (1 : Int) := by rw [ex12]; exact wk_sub (show (-2147483648) ≤ a1.toInt - (1 : Int) by omega) (show a1.toInt - (1 : Int) ≤ 2147483647 by omega)
          refine lv_iload_n hx hb dX10_leastBelow_46 rfl (lv_at hl 2 rfl) ?_
          refine tk_Vi hC hK hw hT hA hE hSR kC_at158 (by decide) rfl (k_X10_leastBelow_11 l adK adV dC dI cy ad B hB0 (Int.le_trans hB1 (by decide)) qr s1   x12 (show 0 ≤ x12.toInt by first | with_reducible assumption | omega) (show x12.toInt ≤ 2 by first | with_reducible assumption | omega) a2 (show 0 ≤ a2.toInt from r4) (show a2.toInt ≤ 8191 from t5) w1 H.size hT ) (cwV 2 hC.2.2.2.2 uV_RX10_72 rfl rfl rfl (by decide +kernel) ⟨Nat.le_of_ble_eq_true rfl, Nat.le_of_ble_eq_true rfl⟩) rfl hl.1 rfl (Nat.le_of_ble_eq_true rfl) dX10_leastBelow_47 (fun r13 w15 H locs hp14 hw => ?_)
          obtain ⟨hT, k16, hg21⟩ := hp14
          have hF := hF.tr k16 (by decide)
          have c22 := k16.gi kC_at38 (by decide) c9
          rcases hg21 with ⟨g17, g18⟩ | ⟨rfl, ⟨x19, c20, rx19, tx19⟩⟩
          · refine lv_istore_n (lv' := [(3, .int r13), (0, .ref (ad 158)), (1, .int a1), (2, .int a2)]) hx hb dX10_leastBelow_50 rfl hl (by decide) rfl (fun ls hl => ?_)
            refine lv_iload_n hx hb dX10_leastBelow_51 rfl (lv_at hl 0 rfl) ?_
            refine lv_iconst (v := (-1)) hx hb dX10_leastBelow_52 (by decide) ?_
            refine lv_icmp_eq (tgt := 60) hx hb dX10_leastBelow_53 (by decide) (fun c => absurd c (fun h => absurd (show r13.toInt = (-1 : Int) from wk_eq.mp h) (by omega))) (fun _ => ?_)
            refine lv_iload_n hx hb dX10_leastBelow_56 rfl (lv_at hl 0 rfl) ?_
            refine lv_goto (tgt := 74) hx hb dX10_leastBelow_57 (by decide) ?_
            exact tk_iret hC hr hlocks hK ⟨hT, hF, (Or.inl ⟨(show 0 ≤ r13.toInt by first | with_reducible assumption | omega), (show r13.toInt ≤ 8191 by first | with_reducible assumption | omega)⟩)⟩ hw dX10_leastBelow_74
          · have ex19 : x19.toInt = x8.toInt := by rw [← c22.symm.trans c20]
            refine lv_istore_n (lv' := [(3, .int (-1)), (0, .ref (ad 158)), (1, .int a1), (2, .int a2)]) hx hb dX10_leastBelow_50 rfl hl (by decide) rfl (fun ls hl => ?_)
            refine lv_iload_n hx hb dX10_leastBelow_51 rfl (lv_at hl 0 rfl) ?_
            refine lv_iconst (v := (-1)) hx hb dX10_leastBelow_52 (by decide) ?_
            refine lv_icmp_eq (tgt := 60) hx hb dX10_leastBelow_53 (by decide) (fun _ => ?_) (fun c => absurd (by decide) c)
            refine lv_aload_n hx hb dX10_leastBelow_60 rfl (lv_at hl 1 rfl) ?_
            refine lv_iload_n hx hb dX10_leastBelow_61 rfl (lv_at hl 2 rfl) ?_
            refine lv_iconst (v := 1) hx hb dX10_leastBelow_62 (by decide) ?_
            refine lv_isub hx hb dX10_leastBelow_63 ?_
            refine lv_topi (fun x23 ex23 => ?_)
            have ex23 : x23.toInt = a1.toInt - (1 : Int) := by rw [ex23]; exact wk_sub (show (-2147483648) ≤ a1.toInt - (1 : Int) by omega) (show a1.toInt - (1 : Int) ≤ 2147483647 by omega)
            refine lv_iload_n hx hb dX10_leastBelow_64 rfl (lv_at hl 3 rfl) ?_
            refine lv_iconst (v := 1) hx hb dX10_leastBelow_65 (by decide) ?_
            refine lv_iload_n hx hb dX10_leastBelow_66 rfl (lv_at hl 2 rfl) ?_
            refine lv_iconst (v := 1) hx hb dX10_leastBelow_67 (by decide) ?_
            refine lv_isub hx hb dX10_leastBelow_68 ?_
            refine lv_topi (fun x24 ex24 => ?_)
            have ex24 : x24.toInt = a1.toInt - (1 : Int) := by rw [ex24]; exact wk_sub (show (-2147483648) ≤ a1.toInt - (1 : Int) by omega) (show a1.toInt - (1 : Int) ≤ 2147483647 by omega)
            refine lv_ishl hx hb dX10_leastBelow_69 ?_
            refine lv_topi (fun x25 ex25 => ?_)
            have bx25 : 1 ≤ x25.toInt ∧ x25.toInt ≤ 4 := by rw [ex25]; exact wk_shl1 2 (by decide) (by omega) (by omega)
            refine lv_ior hx hb dX10_leastBelow_70 ?_
            refine lv_topi (fun x26 ex26 => ?_)
            have bx26 : 0 ≤ x26.toInt ∧ x26.toInt < 8192 := by rw [ex26]; exact wk_or 13 (by decide) (by omega) (by omega) (by omega) (by omega)
            have mx26 : a2.toInt ≤ x26.toInt ∧ x25.toInt ≤ x26.toInt := by rw [ex26]; exact wk_orL 13 (by decide) (by omega) (by omega) (by omega) (by omega)
            refine tk_Vi hC hK hw hT hA hE hSR kC_at158 (by decide) rfl (k_X10_leastBelow_11 l adK adV dC dI cy ad B hB0 (Int.le_trans hB1 (by decide)) qr s1   x23 (show 0 ≤ x23.toInt by first | with_reducible assumption | omega) (show x23.toInt ≤ 2 by first | with_reducible assumption | omega) x26 (show 0 ≤ x26.toInt by first | with_reducible assumption | omega) (show x26.toInt ≤ 8191 by first | with_reducible assumption | omega) w15 H.size hT ) (cwV 2 hC.2.2.2.2 uV_RX10_72 rfl rfl rfl (by decide +kernel) ⟨Nat.le_of_ble_eq_true rfl, Nat.le_of_ble_eq_true rfl⟩) rfl hl.1 rfl (Nat.le_of_ble_eq_true rfl) dX10_leastBelow_71 (fun r27 w29 H locs hp28 hw => ?_)
            obtain ⟨hT, k30, hg35⟩ := hp28
            have hF := hF.tr k30 (by decide)
            have c36 := k30.gi kC_at38 (by decide) c22
            rcases hg35 with ⟨g31, g32⟩ | ⟨rfl, ⟨x33, c34, rx33, tx33⟩⟩
            · exact tk_iret hC hr hlocks hK ⟨hT, hF, (Or.inl ⟨(show 0 ≤ r27.toInt by first | with_reducible assumption | omega), (show r27.toInt ≤ 8191 by first | with_reducible assumption | omega)⟩)⟩ hw dX10_leastBelow_74
            · have ex33 : x33.toInt = x8.toInt := by rw [← c36.symm.trans c34]
              exact tk_iret hC hr hlocks hK ⟨hT, hF, (Or.inr ⟨rfl, ⟨x8, c36, (show 1 ≤ x8.toInt by first | with_reducible assumption | omega), (show x8.toInt ≤ 6 from tx8)⟩⟩)⟩ hw dX10_leastBelow_74
        · have c11 : a1.toInt ≤ (0 : Int) := wk_ltF c11
          refine lv_iload_n hx hb dX10_leastBelow_40 rfl (lv_at hl 2 rfl) ?_
          exact tk_iret hC hr hlocks hK ⟨hT, hF, (Or.inl ⟨(show 0 ≤ a2.toInt from r4), (show a2.toInt ≤ 8191 from t5)⟩)⟩ hw dX10_leastBelow_41
      · have c10 : v9_3.toInt < x8.toInt := wk_leF c10
        refine lv_aload_n hx hb dX10_leastBelow_20 rfl (lv_at hl 0 rfl) ?_
        refine lv_iload_n hx hb dX10_leastBelow_21 rfl (lv_at hl 3 rfl) ?_
        refine tk_Vi hC hK hw hT hA hE hSR kC_at158 (by decide) rfl (k_X10_canDo_1 l adK adV dC dI cy ad B hB0 (Int.le_trans hB1 (by decide)) qr s1   v9_3 (show 0 ≤ v9_3.toInt from r6) (show v9_3.toInt ≤ 5 by first | with_reducible assumption | omega) w1 H.size hT ) (cwV 1 hC.2.2.2.2 uV_RX10_49 rfl rfl rfl (by decide +kernel) ⟨Nat.le_of_ble_eq_true rfl, Nat.le_of_ble_eq_true rfl⟩) rfl hl.1 rfl (Nat.le_of_ble_eq_true rfl) dX10_leastBelow_22 (fun r37 w39 H locs hp38 hw => ?_)
        obtain ⟨hT, k40, hg41⟩ := hp38
        have hF := hF.tr k40 (by decide)
        have c42 := k40.gi kC_at38 (by decide) c9
        rcases hg41 with rfl | rfl
        · refine lv_if_ne (tgt := 30) hx hb dX10_leastBelow_25 (by decide) (fun c => absurd (by decide) c) (fun _ => ?_)
          refine lv_iconst (v := (-1)) hx hb dX10_leastBelow_28 (by decide) ?_
          exact tk_iret hC hr hlocks hK ⟨hT, hF, (Or.inr ⟨rfl, ⟨x8, c42, (show 1 ≤ x8.toInt by first | with_reducible assumption | omega), (show x8.toInt ≤ 6 from tx8)⟩⟩)⟩ hw dX10_leastBelow_29
        · refine lv_if_ne (tgt := 30) hx hb dX10_leastBelow_25 (by decide) (fun _ => ?_) (fun c => absurd c (by decide))
          obtain ⟨x43, ex43⟩ : ∃ y : Int32, y = v9_3 + Int32.ofInt 1 := ⟨_, rfl⟩
          refine lv_iinc (v := x43) (lv' := [(3, .int x43), (0, .ref (ad 158)), (1, .int a1), (2, .int a2)]) hx hb dX10_leastBelow_30 hl (k := 3) rfl ex43.symm (by decide) rfl (fun ls hl => ?_)
          have ex43 : x43.toInt = v9_3.toInt + 1 := by rw [ex43]; exact wk_add (y := 1) (show -2147483648 ≤ v9_3.toInt + 1 by omega) (show v9_3.toInt + 1 ≤ 2147483647 by omega)
          refine lv_goto (tgt := 9) hx hb dX10_leastBelow_33 (by decide) ?_
          exact ih9 x43 H locs ls w39 (show 0 ≤ a1.toInt from r2) (show a1.toInt ≤ 3 from t3) (show 0 ≤ a2.toInt from r4) (show a2.toInt ≤ 8191 from t5) (show 0 ≤ x43.toInt by first | with_reducible assumption | omega) (show x43.toInt ≤ 6 by first | with_reducible assumption | omega) (show (6 - x43.toInt).toNat < n9 by first | exact tn_lt hm9 (by omega) (by omega) | omega) hw hT hF  (lv_sub hl [1, 2, 3, 0] rfl)
  refine lv_aload_n hx hb dX10_leastBelow_0 rfl (lv_at hl 0 rfl) ?_
  refine lv_iload_n hx hb dX10_leastBelow_1 rfl (lv_at hl 1 rfl) ?_
  refine lv_iload_n hx hb dX10_leastBelow_2 rfl (lv_at hl 2 rfl) ?_
  refine lv_iconst (v := (-1)) hx hb dX10_leastBelow_3 (by decide) ?_
  refine tk_Vv hC hK hw hT hA hE hSR kC_at158 (by decide) rfl (k_X10_layRoads_1 l adK adV dC dI cy ad B hB0 (Int.le_trans hB1 (by decide)) qr s1   a1 (show 0 ≤ a1.toInt from ra1) (show a1.toInt ≤ 12 from Int.le_trans ta1 (by decide)) a2 (show 0 ≤ a2.toInt from ra2) (show a2.toInt ≤ 8191 from ta2) ((-1)) (by decide) (by decide) w0 s.heap.size hT ) (cwV 3 hC.2.2.2.2 uV_RX10_42 rfl rfl rfl (by decide +kernel) ⟨Nat.le_of_ble_eq_true rfl, Nat.le_of_ble_eq_true rfl⟩) rfl hl.1 rfl (Nat.le_of_ble_eq_true rfl) dX10_leastBelow_4 (fun w46 H locs hp45 hw => ?_)
  obtain ⟨hT, k47, hg48⟩ := hp45
  have hF := hF.tr k47 (by decide)
  clear hg48
  refine lv_iconst (v := 0) hx hb dX10_leastBelow_7 (by decide) ?_
  refine lv_istore_n (lv' := [(3, .int 0), (0, .ref (ad 158)), (1, .int a1), (2, .int a2)]) hx hb dX10_leastBelow_8 rfl hl (by decide) rfl (fun ls hl => ?_)
  exact L9 ((6 - (0 : Int)).toNat + 1) 0 H locs ls w46 (show 0 ≤ a1.toInt from ra1) (show a1.toInt ≤ 3 from ta1) (show 0 ≤ a2.toInt from ra2) (show a2.toInt ≤ 8191 from ta2) (by decide) (by decide) (Nat.lt_succ_self _) hw hT hF  (lv_sub hl [1, 2, 3, 0] rfl)
abbrev P_X10_leastBelow_9 (ad : Nat → Nat) (cy : Nat → ClassId) (B : Int) (qr : Nat) (s1 : Int) (a1 : Int32) (a2 : Int32) (w0 : va_W) : Int32 → va_W → Prop := fun r u => TW ksC ad cy B qr s1 u ∧ FE ksC [(51, 0, 10)] w0 u ∧ ((0 ≤ r.toInt ∧ r.toInt ≤ 8191) ∨ (r = (-1) ∧ (∃ y : Int32, gi u 38 10 = y ∧ 1 ≤ y.toInt ∧ y.toInt ≤ 6)))
set_option maxHeartbeats 4000000 in
set_option maxRecDepth 100000 in
theorem k_X10_leastBelow_9 (l : Launch) (adK adV : Nat → Nat) (dC : Nat → ClassId) (dI : Nat → Nat → Nat) (cy : Nat → ClassId) (ad : Nat → Nat) (B : Int) (hB0 : 2147483648 ≤ B) (hB1 : B ≤ 1152921504606846976) (qr : Nat) (s1 : Int)  (a1 : Int32) (ra1 : 0 ≤ a1.toInt) (ta1 : a1.toInt ≤ 4) (a2 : Int32) (ra2 : 0 ≤ a2.toInt) (ta2 : a2.toInt ≤ 8191) (w0 : va_W) (sz : Nat) (hT : TW ksC ad cy B qr s1 w0)  : Met l yX10_leastBelow (wu yX10_leastBelow cX10_leastBelow 4 (some .int)) ({ frames := 7, cells := 0, slots := 0, locals := 151 }) (va_Pc [.ref (ad 158), .int a1, .int a2] (wpreS adK adV dC dI cy sz w0)) (va_Qi (P_X10_leastBelow_9 ad cy B qr s1 a1 a2 w0) (fun u : va_W => wpost dC dI cy (va_A w0 sz) u) (va_A w0 sz)) 0 0 (va_A w0 sz) := by
  refine Met.ofW (cc := cX10_leastBelow) (maxL := 4) (ret := (some .int)) (by decide) rfl ?_
  intro p e s m args below meth c s₁ Bk hml hv
  obtain ⟨rfl, ⟨hsz, hP, hK, hD0⟩, hE, hSR⟩ := hv
  have hx := Bk.exec
  have hb := Bk.bytes
  have hr := Bk.returns
  have hlocks := Bk.notSynchronized
  have hC : CallFix p m c cX10_leastBelow 4 s _ (wu yX10_leastBelow cX10_leastBelow 4 (some .int)) RX10 := ⟨hx, hb, hml, findClass_of_methodNamed Bk.named, atoms_spec (ws := (wu yX10_leastBelow cX10_leastBelow 4 (some .int))) Bk.pre⟩
  subst hsz
  have hD := hD0.self (sz := s.heap.size)
  generalize hAe : va_A w0 s.heap.size = A at hD hE ⊢
  have hA : ∀ q : Nat, s.heap.size ≤ q → A q := fun q h => by rw [← hAe]; exact Or.inr h
  have hw : Wd dC dI A s.heap s.heap [] w0 := ⟨hP, hD, va_S.rf⟩
  have hF : FE ksC [(51, 0, 10)] w0 w0 := FE.rf
  have hl := lv_entry ([.ref (ad 158), .int a1, .int a2]) (n := 4) (Nat.le_of_ble_eq_true rfl)
  rw [lg_entry_eq]
  generalize (lg_sl ([.ref (ad 158), .int a1, .int a2]) ++ List.replicate (4 - (lg_sl ([.ref (ad 158), .int a1, .int a2])).length) Slot.unset).toArray = ls at hl ⊢
  have hl : lv_has ls 4 [(0, .ref (ad 158)), (1, .int a1), (2, .int a2)] := hl
  generalize hloc : ([] : List Loc) = locs at hw ⊢
  have hinX10 : ∀ w ∈ u_ws RX10 TX10 5, w ∈ (wu yX10_leastBelow cX10_leastBelow 4 (some .int)) := fun _ h => List.mem_cons_of_mem _ (up_81 h)
  have hinX5 : ∀ w ∈ u_ws RX5 TX5 14, w ∈ (wu yX10_leastBelow cX10_leastBelow 4 (some .int)) := fun _ h => List.mem_cons_of_mem _ (up_76 h)
  have L9 : ∀ (n9 : Nat) (v9_3 : Int32) (H : Heap) (locs : List Loc) (ls : Array Slot) (w1 : va_W), 0 ≤ a1.toInt → a1.toInt ≤ 4 → 0 ≤ a2.toInt → a2.toInt ≤ 8191 → 0 ≤ v9_3.toInt → v9_3.toInt ≤ 6 → (6 - v9_3.toInt).toNat < n9 → Wd dC dI A s.heap H locs w1 → TW ksC ad cy B qr s1 w1 → FE ksC [(51, 0, 10)] w0 w1 → lv_has ls 4 [(0, .ref (ad 158)), (1, .int a1), (2, .int a2), (3, .int v9_3)] → W p l e ({ frames := 7, cells := 0, slots := 0, locals := 151 }) s m (List.toArray [.ref (ad 158), .int a1, .int a2]) below meth c H locs 0 0 (MQ below (va_Qi (P_X10_leastBelow_9 ad cy B qr s1 a1 a2 w0) (fun u : va_W => wpost dC dI cy A u) A) (List.toArray [.ref (ad 158), .int a1, .int a2]) s 0 0 A) (F0 m 9 ls []) := by
    intro n9
    induction n9 with
    | zero => intro v9_3 H locs ls w1 r2 t3 r4 t5 r6 t7 hm9 hw hT hF hl; omega
    | succ n9 ih9 =>
      intro v9_3 H locs ls w1 r2 t3 r4 t5 r6 t7 hm9 hw hT hF hl
      refine lv_iload_n hx hb dX10_leastBelow_9 rfl (lv_at hl 3 rfl) ?_
      refine lv_aload_n hx hb dX10_leastBelow_10 rfl (lv_at hl 0 rfl) ?_
      refine tk_getA hC hK hw hT hinX10 kC_at158 (by decide) rfl 0 (by decide) (List.mem_cons_of_mem _ uw_6_6) rfl rfl dX10_leastBelow_11 ?_
      refine tk_geti hC hK hw hT hinX5 kC_at38 (by decide) rfl 10 (by decide) (List.mem_cons_of_mem _ uw_60_6) rfl rfl dX10_leastBelow_14 (fun x8 c9 rx8 tx8 => ?_)
      refine lv_icmp_ge (tgt := 36) hx hb dX10_leastBelow_17 (by decide) (fun c10 => ?_) (fun c10 => ?_)
      · have c10 : x8.toInt ≤ v9_3.toInt := wk_le.mp c10
        refine lv_iload_n hx hb dX10_leastBelow_36 rfl (lv_at hl 1 rfl) ?_
        refine lv_if_gt (tgt := 42) hx hb dX10_leastBelow_37 (by decide) (fun c11 => ?_) (fun c11 => ?_)
        · have c11 : (0 : Int) < a1.toInt := wk_lt.mp c11
          refine lv_aload_n hx hb dX10_leastBelow_42 rfl (lv_at hl 0 rfl) ?_
          refine lv_iload_n hx hb dX10_leastBelow_43 rfl (lv_at hl 1 rfl) ?_
          refine lv_iconst (v := 1) hx hb dX10_leastBelow_44 (by decide) ?_
          refine lv_isub hx hb dX10_leastBelow_45 ?_
          refine lv_topi (fun x12 ex12 => ?_)
          have ex12 : x12.toInt = a1.toInt - (1 : Int) := by rw [ex12]; exact wk_sub (show (-2147483648) ≤ a1.toInt - (1 : Int) by omega) (show a1.toInt - (1 : Int) ≤ 2147483647 by omega)
          refine lv_iload_n hx hb dX10_leastBelow_46 rfl (lv_at hl 2 rfl) ?_
          refine tk_Vi hC hK hw hT hA hE hSR kC_at158 (by decide) rfl (k_X10_leastBelow_10 l adK adV dC dI cy ad B hB0 (Int.le_trans hB1 (by decide)) qr s1   x12 (show 0 ≤ x12.toInt by first | with_reducible assumption | omega) (show x12.toInt ≤ 3 by first | with_reducible assumption | omega) a2 (show 0 ≤ a2.toInt from r4) (show a2.toInt ≤ 8191 from t5) w1 H.size hT ) (cwV 2 hC.2.2.2.2 uV_RX10_72 rfl rfl rfl (by decide +kernel) ⟨Nat.le_of_ble_eq_true rfl, Nat.le_of_ble_eq_true rfl⟩) rfl hl.1 rfl (Nat.le_of_ble_eq_true rfl) dX10_leastBelow_47 (fun r13 w15 H locs hp14 hw => ?_)
          obtain ⟨hT, k16, hg21⟩ := hp14
          have hF := hF.tr k16 (by decide)
          have c22 := k16.gi kC_at38 (by decide) c9
          rcases hg21 with ⟨g17, g18⟩ | ⟨rfl, ⟨x19, c20, rx19, tx19⟩⟩
          · refine lv_istore_n (lv' := [(3, .int r13), (0, .ref (ad 158)), (1, .int a1), (2, .int a2)]) hx hb dX10_leastBelow_50 rfl hl (by decide) rfl (fun ls hl => ?_)
            refine lv_iload_n hx hb dX10_leastBelow_51 rfl (lv_at hl 0 rfl) ?_
            refine lv_iconst (v := (-1)) hx hb dX10_leastBelow_52 (by decide) ?_
            refine lv_icmp_eq (tgt := 60) hx hb dX10_leastBelow_53 (by decide) (fun c => absurd c (fun h => absurd (show r13.toInt = (-1 : Int) from wk_eq.mp h) (by omega))) (fun _ => ?_)
            refine lv_iload_n hx hb dX10_leastBelow_56 rfl (lv_at hl 0 rfl) ?_
            refine lv_goto (tgt := 74) hx hb dX10_leastBelow_57 (by decide) ?_
            exact tk_iret hC hr hlocks hK ⟨hT, hF, (Or.inl ⟨(show 0 ≤ r13.toInt by first | with_reducible assumption | omega), (show r13.toInt ≤ 8191 by first | with_reducible assumption | omega)⟩)⟩ hw dX10_leastBelow_74
          · have ex19 : x19.toInt = x8.toInt := by rw [← c22.symm.trans c20]
            refine lv_istore_n (lv' := [(3, .int (-1)), (0, .ref (ad 158)), (1, .int a1), (2, .int a2)]) hx hb dX10_leastBelow_50 rfl hl (by decide) rfl (fun ls hl => ?_)
            refine lv_iload_n hx hb dX10_leastBelow_51 rfl (lv_at hl 0 rfl) ?_
            refine lv_iconst (v := (-1)) hx hb dX10_leastBelow_52 (by decide) ?_
            refine lv_icmp_eq (tgt := 60) hx hb dX10_leastBelow_53 (by decide) (fun _ => ?_) (fun c => absurd (by decide) c)
            refine lv_aload_n hx hb dX10_leastBelow_60 rfl (lv_at hl 1 rfl) ?_
            refine lv_iload_n hx hb dX10_leastBelow_61 rfl (lv_at hl 2 rfl) ?_
            refine lv_iconst (v := 1) hx hb dX10_leastBelow_62 (by decide) ?_
            refine lv_isub hx hb dX10_leastBelow_63 ?_
            refine lv_topi (fun x23 ex23 => ?_)
            have ex23 : x23.toInt = a1.toInt - (1 : Int) := by rw [ex23]; exact wk_sub (show (-2147483648) ≤ a1.toInt - (1 : Int) by omega) (show a1.toInt - (1 : Int) ≤ 2147483647 by omega)
            refine lv_iload_n hx hb dX10_leastBelow_64 rfl (lv_at hl 3 rfl) ?_
            refine lv_iconst (v := 1) hx hb dX10_leastBelow_65 (by decide) ?_
            refine lv_iload_n hx hb dX10_leastBelow_66 rfl (lv_at hl 2 rfl) ?_
            refine lv_iconst (v := 1) hx hb dX10_leastBelow_67 (by decide) ?_
            refine lv_isub hx hb dX10_leastBelow_68 ?_
            refine lv_topi (fun x24 ex24 => ?_)
            have ex24 : x24.toInt = a1.toInt - (1 : Int) := by rw [ex24]; exact wk_sub (show (-2147483648) ≤ a1.toInt - (1 : Int) by omega) (show a1.toInt - (1 : Int) ≤ 2147483647 by omega)
            refine lv_ishl hx hb dX10_leastBelow_69 ?_
            refine lv_topi (fun x25 ex25 => ?_)
            have bx25 : 1 ≤ x25.toInt ∧ x25.toInt ≤ 8 := by rw [ex25]; exact wk_shl1 3 (by decide) (by omega) (by omega)
            refine lv_ior hx hb dX10_leastBelow_70 ?_
            refine lv_topi (fun x26 ex26 => ?_)
            have bx26 : 0 ≤ x26.toInt ∧ x26.toInt < 8192 := by rw [ex26]; exact wk_or 13 (by decide) (by omega) (by omega) (by omega) (by omega)
            have mx26 : a2.toInt ≤ x26.toInt ∧ x25.toInt ≤ x26.toInt := by rw [ex26]; exact wk_orL 13 (by decide) (by omega) (by omega) (by omega) (by omega)
            refine tk_Vi hC hK hw hT hA hE hSR kC_at158 (by decide) rfl (k_X10_leastBelow_10 l adK adV dC dI cy ad B hB0 (Int.le_trans hB1 (by decide)) qr s1   x23 (show 0 ≤ x23.toInt by first | with_reducible assumption | omega) (show x23.toInt ≤ 3 by first | with_reducible assumption | omega) x26 (show 0 ≤ x26.toInt by first | with_reducible assumption | omega) (show x26.toInt ≤ 8191 by first | with_reducible assumption | omega) w15 H.size hT ) (cwV 2 hC.2.2.2.2 uV_RX10_72 rfl rfl rfl (by decide +kernel) ⟨Nat.le_of_ble_eq_true rfl, Nat.le_of_ble_eq_true rfl⟩) rfl hl.1 rfl (Nat.le_of_ble_eq_true rfl) dX10_leastBelow_71 (fun r27 w29 H locs hp28 hw => ?_)
            obtain ⟨hT, k30, hg35⟩ := hp28
            have hF := hF.tr k30 (by decide)
            have c36 := k30.gi kC_at38 (by decide) c22
            rcases hg35 with ⟨g31, g32⟩ | ⟨rfl, ⟨x33, c34, rx33, tx33⟩⟩
            · exact tk_iret hC hr hlocks hK ⟨hT, hF, (Or.inl ⟨(show 0 ≤ r27.toInt by first | with_reducible assumption | omega), (show r27.toInt ≤ 8191 by first | with_reducible assumption | omega)⟩)⟩ hw dX10_leastBelow_74
            · have ex33 : x33.toInt = x8.toInt := by rw [← c36.symm.trans c34]
              exact tk_iret hC hr hlocks hK ⟨hT, hF, (Or.inr ⟨rfl, ⟨x8, c36, (show 1 ≤ x8.toInt by first | with_reducible assumption | omega), (show x8.toInt ≤ 6 from tx8)⟩⟩)⟩ hw dX10_leastBelow_74
        · have c11 : a1.toInt ≤ (0 : Int) := wk_ltF c11
          refine lv_iload_n hx hb dX10_leastBelow_40 rfl (lv_at hl 2 rfl) ?_
          exact tk_iret hC hr hlocks hK ⟨hT, hF, (Or.inl ⟨(show 0 ≤ a2.toInt from r4), (show a2.toInt ≤ 8191 from t5)⟩)⟩ hw dX10_leastBelow_41
      · have c10 : v9_3.toInt < x8.toInt := wk_leF c10
        refine lv_aload_n hx hb dX10_leastBelow_20 rfl (lv_at hl 0 rfl) ?_
        refine lv_iload_n hx hb dX10_leastBelow_21 rfl (lv_at hl 3 rfl) ?_
        refine tk_Vi hC hK hw hT hA hE hSR kC_at158 (by decide) rfl (k_X10_canDo_1 l adK adV dC dI cy ad B hB0 (Int.le_trans hB1 (by decide)) qr s1   v9_3 (show 0 ≤ v9_3.toInt from r6) (show v9_3.toInt ≤ 5 by first | with_reducible assumption | omega) w1 H.size hT ) (cwV 1 hC.2.2.2.2 uV_RX10_49 rfl rfl rfl (by decide +kernel) ⟨Nat.le_of_ble_eq_true rfl, Nat.le_of_ble_eq_true rfl⟩) rfl hl.1 rfl (Nat.le_of_ble_eq_true rfl) dX10_leastBelow_22 (fun r37 w39 H locs hp38 hw => ?_)
        obtain ⟨hT, k40, hg41⟩ := hp38
        have hF := hF.tr k40 (by decide)
        have c42 := k40.gi kC_at38 (by decide) c9
        rcases hg41 with rfl | rfl
        · refine lv_if_ne (tgt := 30) hx hb dX10_leastBelow_25 (by decide) (fun c => absurd (by decide) c) (fun _ => ?_)
          refine lv_iconst (v := (-1)) hx hb dX10_leastBelow_28 (by decide) ?_
          exact tk_iret hC hr hlocks hK ⟨hT, hF, (Or.inr ⟨rfl, ⟨x8, c42, (show 1 ≤ x8.toInt by first | with_reducible assumption | omega), (show x8.toInt ≤ 6 from tx8)⟩⟩)⟩ hw dX10_leastBelow_29
        · refine lv_if_ne (tgt := 30) hx hb dX10_leastBelow_25 (by decide) (fun _ => ?_) (fun c => absurd c (by decide))
          obtain ⟨x43, ex43⟩ : ∃ y : Int32, y = v9_3 + Int32.ofInt 1 := ⟨_, rfl⟩
          refine lv_iinc (v := x43) (lv' := [(3, .int x43), (0, .ref (ad 158)), (1, .int a1), (2, .int a2)]) hx hb dX10_leastBelow_30 hl (k := 3) rfl ex43.symm (by decide) rfl (fun ls hl => ?_)
          have ex43 : x43.toInt = v9_3.toInt + 1 := by rw [ex43]; exact wk_add (y := 1) (show -2147483648 ≤ v9_3.toInt + 1 by omega) (show v9_3.toInt + 1 ≤ 2147483647 by omega)
          refine lv_goto (tgt := 9) hx hb dX10_leastBelow_33 (by decide) ?_
          exact ih9 x43 H locs ls w39 (show 0 ≤ a1.toInt from r2) (show a1.toInt ≤ 4 from t3) (show 0 ≤ a2.toInt from r4) (show a2.toInt ≤ 8191 from t5) (show 0 ≤ x43.toInt by first | with_reducible assumption | omega) (show x43.toInt ≤ 6 by first | with_reducible assumption | omega) (show (6 - x43.toInt).toNat < n9 by first | exact tn_lt hm9 (by omega) (by omega) | omega) hw hT hF  (lv_sub hl [1, 2, 3, 0] rfl)
  refine lv_aload_n hx hb dX10_leastBelow_0 rfl (lv_at hl 0 rfl) ?_
  refine lv_iload_n hx hb dX10_leastBelow_1 rfl (lv_at hl 1 rfl) ?_
  refine lv_iload_n hx hb dX10_leastBelow_2 rfl (lv_at hl 2 rfl) ?_
  refine lv_iconst (v := (-1)) hx hb dX10_leastBelow_3 (by decide) ?_
  refine tk_Vv hC hK hw hT hA hE hSR kC_at158 (by decide) rfl (k_X10_layRoads_1 l adK adV dC dI cy ad B hB0 (Int.le_trans hB1 (by decide)) qr s1   a1 (show 0 ≤ a1.toInt from ra1) (show a1.toInt ≤ 12 from Int.le_trans ta1 (by decide)) a2 (show 0 ≤ a2.toInt from ra2) (show a2.toInt ≤ 8191 from ta2) ((-1)) (by decide) (by decide) w0 s.heap.size hT ) (cwV 3 hC.2.2.2.2 uV_RX10_42 rfl rfl rfl (by decide +kernel) ⟨Nat.le_of_ble_eq_true rfl, Nat.le_of_ble_eq_true rfl⟩) rfl hl.1 rfl (Nat.le_of_ble_eq_true rfl) dX10_leastBelow_4 (fun w46 H locs hp45 hw => ?_)
  obtain ⟨hT, k47, hg48⟩ := hp45
  have hF := hF.tr k47 (by decide)
  clear hg48
  refine lv_iconst (v := 0) hx hb dX10_leastBelow_7 (by decide) ?_
  refine lv_istore_n (lv' := [(3, .int 0), (0, .ref (ad 158)), (1, .int a1), (2, .int a2)]) hx hb dX10_leastBelow_8 rfl hl (by decide) rfl (fun ls hl => ?_)
  exact L9 ((6 - (0 : Int)).toNat + 1) 0 H locs ls w46 (show 0 ≤ a1.toInt from ra1) (show a1.toInt ≤ 4 from ta1) (show 0 ≤ a2.toInt from ra2) (show a2.toInt ≤ 8191 from ta2) (by decide) (by decide) (Nat.lt_succ_self _) hw hT hF  (lv_sub hl [1, 2, 3, 0] rfl)
abbrev P_X10_leastBelow_8 (ad : Nat → Nat) (cy : Nat → ClassId) (B : Int) (qr : Nat) (s1 : Int) (a1 : Int32) (a2 : Int32) (w0 : va_W) : Int32 → va_W → Prop := fun r u => TW ksC ad cy B qr s1 u ∧ FE ksC [(51, 0, 10)] w0 u ∧ ((0 ≤ r.toInt ∧ r.toInt ≤ 8191) ∨ (r = (-1) ∧ (∃ y : Int32, gi u 38 10 = y ∧ 1 ≤ y.toInt ∧ y.toInt ≤ 6)))
set_option maxHeartbeats 4000000 in
set_option maxRecDepth 100000 in
theorem k_X10_leastBelow_8 (l : Launch) (adK adV : Nat → Nat) (dC : Nat → ClassId) (dI : Nat → Nat → Nat) (cy : Nat → ClassId) (ad : Nat → Nat) (B : Int) (hB0 : 2147483648 ≤ B) (hB1 : B ≤ 1152921504606846976) (qr : Nat) (s1 : Int)  (a1 : Int32) (ra1 : 0 ≤ a1.toInt) (ta1 : a1.toInt ≤ 5) (a2 : Int32) (ra2 : 0 ≤ a2.toInt) (ta2 : a2.toInt ≤ 8191) (w0 : va_W) (sz : Nat) (hT : TW ksC ad cy B qr s1 w0)  : Met l yX10_leastBelow (wu yX10_leastBelow cX10_leastBelow 4 (some .int)) ({ frames := 8, cells := 0, slots := 0, locals := 174 }) (va_Pc [.ref (ad 158), .int a1, .int a2] (wpreS adK adV dC dI cy sz w0)) (va_Qi (P_X10_leastBelow_8 ad cy B qr s1 a1 a2 w0) (fun u : va_W => wpost dC dI cy (va_A w0 sz) u) (va_A w0 sz)) 0 0 (va_A w0 sz) := by
  refine Met.ofW (cc := cX10_leastBelow) (maxL := 4) (ret := (some .int)) (by decide) rfl ?_
  intro p e s m args below meth c s₁ Bk hml hv
  obtain ⟨rfl, ⟨hsz, hP, hK, hD0⟩, hE, hSR⟩ := hv
  have hx := Bk.exec
  have hb := Bk.bytes
  have hr := Bk.returns
  have hlocks := Bk.notSynchronized
  have hC : CallFix p m c cX10_leastBelow 4 s _ (wu yX10_leastBelow cX10_leastBelow 4 (some .int)) RX10 := ⟨hx, hb, hml, findClass_of_methodNamed Bk.named, atoms_spec (ws := (wu yX10_leastBelow cX10_leastBelow 4 (some .int))) Bk.pre⟩
  subst hsz
  have hD := hD0.self (sz := s.heap.size)
  generalize hAe : va_A w0 s.heap.size = A at hD hE ⊢
  have hA : ∀ q : Nat, s.heap.size ≤ q → A q := fun q h => by rw [← hAe]; exact Or.inr h
  have hw : Wd dC dI A s.heap s.heap [] w0 := ⟨hP, hD, va_S.rf⟩
  have hF : FE ksC [(51, 0, 10)] w0 w0 := FE.rf
  have hl := lv_entry ([.ref (ad 158), .int a1, .int a2]) (n := 4) (Nat.le_of_ble_eq_true rfl)
  rw [lg_entry_eq]
  generalize (lg_sl ([.ref (ad 158), .int a1, .int a2]) ++ List.replicate (4 - (lg_sl ([.ref (ad 158), .int a1, .int a2])).length) Slot.unset).toArray = ls at hl ⊢
  have hl : lv_has ls 4 [(0, .ref (ad 158)), (1, .int a1), (2, .int a2)] := hl
  generalize hloc : ([] : List Loc) = locs at hw ⊢
  have hinX10 : ∀ w ∈ u_ws RX10 TX10 5, w ∈ (wu yX10_leastBelow cX10_leastBelow 4 (some .int)) := fun _ h => List.mem_cons_of_mem _ (up_81 h)
  have hinX5 : ∀ w ∈ u_ws RX5 TX5 14, w ∈ (wu yX10_leastBelow cX10_leastBelow 4 (some .int)) := fun _ h => List.mem_cons_of_mem _ (up_76 h)
  have L9 : ∀ (n9 : Nat) (v9_3 : Int32) (H : Heap) (locs : List Loc) (ls : Array Slot) (w1 : va_W), 0 ≤ a1.toInt → a1.toInt ≤ 5 → 0 ≤ a2.toInt → a2.toInt ≤ 8191 → 0 ≤ v9_3.toInt → v9_3.toInt ≤ 6 → (6 - v9_3.toInt).toNat < n9 → Wd dC dI A s.heap H locs w1 → TW ksC ad cy B qr s1 w1 → FE ksC [(51, 0, 10)] w0 w1 → lv_has ls 4 [(0, .ref (ad 158)), (1, .int a1), (2, .int a2), (3, .int v9_3)] → W p l e ({ frames := 8, cells := 0, slots := 0, locals := 174 }) s m (List.toArray [.ref (ad 158), .int a1, .int a2]) below meth c H locs 0 0 (MQ below (va_Qi (P_X10_leastBelow_8 ad cy B qr s1 a1 a2 w0) (fun u : va_W => wpost dC dI cy A u) A) (List.toArray [.ref (ad 158), .int a1, .int a2]) s 0 0 A) (F0 m 9 ls []) := by
    intro n9
    induction n9 with
    | zero => intro v9_3 H locs ls w1 r2 t3 r4 t5 r6 t7 hm9 hw hT hF hl; omega
    | succ n9 ih9 =>
      intro v9_3 H locs ls w1 r2 t3 r4 t5 r6 t7 hm9 hw hT hF hl
      refine lv_iload_n hx hb dX10_leastBelow_9 rfl (lv_at hl 3 rfl) ?_
      refine lv_aload_n hx hb dX10_leastBelow_10 rfl (lv_at hl 0 rfl) ?_
      refine tk_getA hC hK hw hT hinX10 kC_at158 (by decide) rfl 0 (by decide) (List.mem_cons_of_mem _ uw_6_6) rfl rfl dX10_leastBelow_11 ?_
      refine tk_geti hC hK hw hT hinX5 kC_at38 (by decide) rfl 10 (by decide) (List.mem_cons_of_mem _ uw_60_6) rfl rfl dX10_leastBelow_14 (fun x8 c9 rx8 tx8 => ?_)
      refine lv_icmp_ge (tgt := 36) hx hb dX10_leastBelow_17 (by decide) (fun c10 => ?_) (fun c10 => ?_)
      · have c10 : x8.toInt ≤ v9_3.toInt := wk_le.mp c10
        refine lv_iload_n hx hb dX10_leastBelow_36 rfl (lv_at hl 1 rfl) ?_
        refine lv_if_gt (tgt := 42) hx hb dX10_leastBelow_37 (by decide) (fun c11 => ?_) (fun c11 => ?_)
        · have c11 : (0 : Int) < a1.toInt := wk_lt.mp c11
          refine lv_aload_n hx hb dX10_leastBelow_42 rfl (lv_at hl 0 rfl) ?_
          refine lv_iload_n hx hb dX10_leastBelow_43 rfl (lv_at hl 1 rfl) ?_
          refine lv_iconst (v := 1) hx hb dX10_leastBelow_44 (by decide) ?_
          refine lv_isub hx hb dX10_leastBelow_45 ?_
          refine lv_topi (fun x12 ex12 => ?_)
          have ex12 : x12.toInt = a1.toInt - (1 : Int) := by rw [ex12]; exact wk_sub (show (-2147483648) ≤ a1.toInt - (1 : Int) by omega) (show a1.toInt - (1 : Int) ≤ 2147483647 by omega)
          refine lv_iload_n hx hb dX10_leastBelow_46 rfl (lv_at hl 2 rfl) ?_
          refine tk_Vi hC hK hw hT hA hE hSR kC_at158 (by decide) rfl (k_X10_leastBelow_9 l adK adV dC dI cy ad B hB0 (Int.le_trans hB1 (by decide)) qr s1   x12 (show 0 ≤ x12.toInt by first | with_reducible assumption | omega) (show x12.toInt ≤ 4 by first | with_reducible assumption | omega) a2 (show 0 ≤ a2.toInt from r4) (show a2.toInt ≤ 8191 from t5) w1 H.size hT ) (cwV 2 hC.2.2.2.2 uV_RX10_72 rfl rfl rfl (by decide +kernel) ⟨Nat.le_of_ble_eq_true rfl, Nat.le_of_ble_eq_true rfl⟩) rfl hl.1 rfl (Nat.le_of_ble_eq_true rfl) dX10_leastBelow_47 (fun r13 w15 H locs hp14 hw => ?_)
          obtain ⟨hT, k16, hg21⟩ := hp14
          have hF := hF.tr k16 (by decide)
          have c22 := k16.gi kC_at38 (by decide) c9
          rcases hg21 with ⟨g17, g18⟩ | ⟨rfl, ⟨x19, c20, rx19, tx19⟩⟩
          · refine lv_istore_n (lv' := [(3, .int r13), (0, .ref (ad 158)), (1, .int a1), (2, .int a2)]) hx hb dX10_leastBelow_50 rfl hl (by decide) rfl (fun ls hl => ?_)
            refine lv_iload_n hx hb dX10_leastBelow_51 rfl (lv_at hl 0 rfl) ?_
            refine lv_iconst (v := (-1)) hx hb dX10_leastBelow_52 (by decide) ?_
            refine lv_icmp_eq (tgt := 60) hx hb dX10_leastBelow_53 (by decide) (fun c => absurd c (fun h => absurd (show r13.toInt = (-1 : Int) from wk_eq.mp h) (by omega))) (fun _ => ?_)
            refine lv_iload_n hx hb dX10_leastBelow_56 rfl (lv_at hl 0 rfl) ?_
            refine lv_goto (tgt := 74) hx hb dX10_leastBelow_57 (by decide) ?_
            exact tk_iret hC hr hlocks hK ⟨hT, hF, (Or.inl ⟨(show 0 ≤ r13.toInt by first | with_reducible assumption | omega), (show r13.toInt ≤ 8191 by first | with_reducible assumption | omega)⟩)⟩ hw dX10_leastBelow_74
          · have ex19 : x19.toInt = x8.toInt := by rw [← c22.symm.trans c20]
            refine lv_istore_n (lv' := [(3, .int (-1)), (0, .ref (ad 158)), (1, .int a1), (2, .int a2)]) hx hb dX10_leastBelow_50 rfl hl (by decide) rfl (fun ls hl => ?_)
            refine lv_iload_n hx hb dX10_leastBelow_51 rfl (lv_at hl 0 rfl) ?_
            refine lv_iconst (v := (-1)) hx hb dX10_leastBelow_52 (by decide) ?_
            refine lv_icmp_eq (tgt := 60) hx hb dX10_leastBelow_53 (by decide) (fun _ => ?_) (fun c => absurd (by decide) c)
            refine lv_aload_n hx hb dX10_leastBelow_60 rfl (lv_at hl 1 rfl) ?_
            refine lv_iload_n hx hb dX10_leastBelow_61 rfl (lv_at hl 2 rfl) ?_
            refine lv_iconst (v := 1) hx hb dX10_leastBelow_62 (by decide) ?_
            refine lv_isub hx hb dX10_leastBelow_63 ?_
            refine lv_topi (fun x23 ex23 => ?_)
            have ex23 : x23.toInt = a1.toInt - (1 : Int) := by rw [ex23]; exact wk_sub (show (-2147483648) ≤ a1.toInt - (1 : Int) by omega) (show a1.toInt - (1 : Int) ≤ 2147483647 by omega)
            refine lv_iload_n hx hb dX10_leastBelow_64 rfl (lv_at hl 3 rfl) ?_
            refine lv_iconst (v := 1) hx hb dX10_leastBelow_65 (by decide) ?_
            refine lv_iload_n hx hb dX10_leastBelow_66 rfl (lv_at hl 2 rfl) ?_
            refine lv_iconst (v := 1) hx hb dX10_leastBelow_67 (by decide) ?_
            refine lv_isub hx hb dX10_leastBelow_68 ?_
            refine lv_topi (fun x24 ex24 => ?_)
            have ex24 : x24.toInt = a1.toInt - (1 : Int) := by rw [ex24]; exact wk_sub (show (-2147483648) ≤ a1.toInt - (1 : Int) by omega) (show a1.toInt - (1 : Int) ≤ 2147483647 by omega)
            refine lv_ishl hx hb dX10_leastBelow_69 ?_
            refine lv_topi (fun x25 ex25 => ?_)
            have bx25 : 1 ≤ x25.toInt ∧ x25.toInt ≤ 16 := by rw [ex25]; exact wk_shl1 4 (by decide) (by omega) (by omega)
            refine lv_ior hx hb dX10_leastBelow_70 ?_
            refine lv_topi (fun x26 ex26 => ?_)
            have bx26 : 0 ≤ x26.toInt ∧ x26.toInt < 8192 := by rw [ex26]; exact wk_or 13 (by decide) (by omega) (by omega) (by omega) (by omega)
            have mx26 : a2.toInt ≤ x26.toInt ∧ x25.toInt ≤ x26.toInt := by rw [ex26]; exact wk_orL 13 (by decide) (by omega) (by omega) (by omega) (by omega)
            refine tk_Vi hC hK hw hT hA hE hSR kC_at158 (by decide) rfl (k_X10_leastBelow_9 l adK adV dC dI cy ad B hB0 (Int.le_trans hB1 (by decide)) qr s1   x23 (show 0 ≤ x23.toInt by first | with_reducible assumption | omega) (show x23.toInt ≤ 4 by first | with_reducible assumption | omega) x26 (show 0 ≤ x26.toInt by first | with_reducible assumption | omega) (show x26.toInt ≤ 8191 by first | with_reducible assumption | omega) w15 H.size hT ) (cwV 2 hC.2.2.2.2 uV_RX10_72 rfl rfl rfl (by decide +kernel) ⟨Nat.le_of_ble_eq_true rfl, Nat.le_of_ble_eq_true rfl⟩) rfl hl.1 rfl (Nat.le_of_ble_eq_true rfl) dX10_leastBelow_71 (fun r27 w29 H locs hp28 hw => ?_)
            obtain ⟨hT, k30, hg35⟩ := hp28
            have hF := hF.tr k30 (by decide)
            have c36 := k30.gi kC_at38 (by decide) c22
            rcases hg35 with ⟨g31, g32⟩ | ⟨rfl, ⟨x33, c34, rx33, tx33⟩⟩
            · exact tk_iret hC hr hlocks hK ⟨hT, hF, (Or.inl ⟨(show 0 ≤ r27.toInt by first | with_reducible assumption | omega), (show r27.toInt ≤ 8191 by first | with_reducible assumption | omega)⟩)⟩ hw dX10_leastBelow_74
            · have ex33 : x33.toInt = x8.toInt := by rw [← c36.symm.trans c34]
              exact tk_iret hC hr hlocks hK ⟨hT, hF, (Or.inr ⟨rfl, ⟨x8, c36, (show 1 ≤ x8.toInt by first | with_reducible assumption | omega), (show x8.toInt ≤ 6 from tx8)⟩⟩)⟩ hw dX10_leastBelow_74
        · have c11 : a1.toInt ≤ (0 : Int) := wk_ltF c11
          refine lv_iload_n hx hb dX10_leastBelow_40 rfl (lv_at hl 2 rfl) ?_
          exact tk_iret hC hr hlocks hK ⟨hT, hF, (Or.inl ⟨(show 0 ≤ a2.toInt from r4), (show a2.toInt ≤ 8191 from t5)⟩)⟩ hw dX10_leastBelow_41
      · have c10 : v9_3.toInt < x8.toInt := wk_leF c10
        refine lv_aload_n hx hb dX10_leastBelow_20 rfl (lv_at hl 0 rfl) ?_
        refine lv_iload_n hx hb dX10_leastBelow_21 rfl (lv_at hl 3 rfl) ?_
        refine tk_Vi hC hK hw hT hA hE hSR kC_at158 (by decide) rfl (k_X10_canDo_1 l adK adV dC dI cy ad B hB0 (Int.le_trans hB1 (by decide)) qr s1   v9_3 (show 0 ≤ v9_3.toInt from r6) (show v9_3.toInt ≤ 5 by first | with_reducible assumption | omega) w1 H.size hT ) (cwV 1 hC.2.2.2.2 uV_RX10_49 rfl rfl rfl (by decide +kernel) ⟨Nat.le_of_ble_eq_true rfl, Nat.le_of_ble_eq_true rfl⟩) rfl hl.1 rfl (Nat.le_of_ble_eq_true rfl) dX10_leastBelow_22 (fun r37 w39 H locs hp38 hw => ?_)
        obtain ⟨hT, k40, hg41⟩ := hp38
        have hF := hF.tr k40 (by decide)
        have c42 := k40.gi kC_at38 (by decide) c9
        rcases hg41 with rfl | rfl
        · refine lv_if_ne (tgt := 30) hx hb dX10_leastBelow_25 (by decide) (fun c => absurd (by decide) c) (fun _ => ?_)
          refine lv_iconst (v := (-1)) hx hb dX10_leastBelow_28 (by decide) ?_
          exact tk_iret hC hr hlocks hK ⟨hT, hF, (Or.inr ⟨rfl, ⟨x8, c42, (show 1 ≤ x8.toInt by first | with_reducible assumption | omega), (show x8.toInt ≤ 6 from tx8)⟩⟩)⟩ hw dX10_leastBelow_29
        · refine lv_if_ne (tgt := 30) hx hb dX10_leastBelow_25 (by decide) (fun _ => ?_) (fun c => absurd c (by decide))
          obtain ⟨x43, ex43⟩ : ∃ y : Int32, y = v9_3 + Int32.ofInt 1 := ⟨_, rfl⟩
          refine lv_iinc (v := x43) (lv' := [(3, .int x43), (0, .ref (ad 158)), (1, .int a1), (2, .int a2)]) hx hb dX10_leastBelow_30 hl (k := 3) rfl ex43.symm (by decide) rfl (fun ls hl => ?_)
          have ex43 : x43.toInt = v9_3.toInt + 1 := by rw [ex43]; exact wk_add (y := 1) (show -2147483648 ≤ v9_3.toInt + 1 by omega) (show v9_3.toInt + 1 ≤ 2147483647 by omega)
          refine lv_goto (tgt := 9) hx hb dX10_leastBelow_33 (by decide) ?_
          exact ih9 x43 H locs ls w39 (show 0 ≤ a1.toInt from r2) (show a1.toInt ≤ 5 from t3) (show 0 ≤ a2.toInt from r4) (show a2.toInt ≤ 8191 from t5) (show 0 ≤ x43.toInt by first | with_reducible assumption | omega) (show x43.toInt ≤ 6 by first | with_reducible assumption | omega) (show (6 - x43.toInt).toNat < n9 by first | exact tn_lt hm9 (by omega) (by omega) | omega) hw hT hF  (lv_sub hl [1, 2, 3, 0] rfl)
  refine lv_aload_n hx hb dX10_leastBelow_0 rfl (lv_at hl 0 rfl) ?_
  refine lv_iload_n hx hb dX10_leastBelow_1 rfl (lv_at hl 1 rfl) ?_
  refine lv_iload_n hx hb dX10_leastBelow_2 rfl (lv_at hl 2 rfl) ?_
  refine lv_iconst (v := (-1)) hx hb dX10_leastBelow_3 (by decide) ?_
  refine tk_Vv hC hK hw hT hA hE hSR kC_at158 (by decide) rfl (k_X10_layRoads_1 l adK adV dC dI cy ad B hB0 (Int.le_trans hB1 (by decide)) qr s1   a1 (show 0 ≤ a1.toInt from ra1) (show a1.toInt ≤ 12 from Int.le_trans ta1 (by decide)) a2 (show 0 ≤ a2.toInt from ra2) (show a2.toInt ≤ 8191 from ta2) ((-1)) (by decide) (by decide) w0 s.heap.size hT ) (cwV 3 hC.2.2.2.2 uV_RX10_42 rfl rfl rfl (by decide +kernel) ⟨Nat.le_of_ble_eq_true rfl, Nat.le_of_ble_eq_true rfl⟩) rfl hl.1 rfl (Nat.le_of_ble_eq_true rfl) dX10_leastBelow_4 (fun w46 H locs hp45 hw => ?_)
  obtain ⟨hT, k47, hg48⟩ := hp45
  have hF := hF.tr k47 (by decide)
  clear hg48
  refine lv_iconst (v := 0) hx hb dX10_leastBelow_7 (by decide) ?_
  refine lv_istore_n (lv' := [(3, .int 0), (0, .ref (ad 158)), (1, .int a1), (2, .int a2)]) hx hb dX10_leastBelow_8 rfl hl (by decide) rfl (fun ls hl => ?_)
  exact L9 ((6 - (0 : Int)).toNat + 1) 0 H locs ls w46 (show 0 ≤ a1.toInt from ra1) (show a1.toInt ≤ 5 from ta1) (show 0 ≤ a2.toInt from ra2) (show a2.toInt ≤ 8191 from ta2) (by decide) (by decide) (Nat.lt_succ_self _) hw hT hF  (lv_sub hl [1, 2, 3, 0] rfl)
abbrev P_X10_leastBelow_7 (ad : Nat → Nat) (cy : Nat → ClassId) (B : Int) (qr : Nat) (s1 : Int) (a1 : Int32) (a2 : Int32) (w0 : va_W) : Int32 → va_W → Prop := fun r u => TW ksC ad cy B qr s1 u ∧ FE ksC [(51, 0, 10)] w0 u ∧ ((0 ≤ r.toInt ∧ r.toInt ≤ 8191) ∨ (r = (-1) ∧ (∃ y : Int32, gi u 38 10 = y ∧ 1 ≤ y.toInt ∧ y.toInt ≤ 6)))
set_option maxHeartbeats 4000000 in
set_option maxRecDepth 100000 in
theorem k_X10_leastBelow_7 (l : Launch) (adK adV : Nat → Nat) (dC : Nat → ClassId) (dI : Nat → Nat → Nat) (cy : Nat → ClassId) (ad : Nat → Nat) (B : Int) (hB0 : 2147483648 ≤ B) (hB1 : B ≤ 1152921504606846976) (qr : Nat) (s1 : Int)  (a1 : Int32) (ra1 : 0 ≤ a1.toInt) (ta1 : a1.toInt ≤ 6) (a2 : Int32) (ra2 : 0 ≤ a2.toInt) (ta2 : a2.toInt ≤ 8191) (w0 : va_W) (sz : Nat) (hT : TW ksC ad cy B qr s1 w0)  : Met l yX10_leastBelow (wu yX10_leastBelow cX10_leastBelow 4 (some .int)) ({ frames := 9, cells := 0, slots := 0, locals := 197 }) (va_Pc [.ref (ad 158), .int a1, .int a2] (wpreS adK adV dC dI cy sz w0)) (va_Qi (P_X10_leastBelow_7 ad cy B qr s1 a1 a2 w0) (fun u : va_W => wpost dC dI cy (va_A w0 sz) u) (va_A w0 sz)) 0 0 (va_A w0 sz) := by
  refine Met.ofW (cc := cX10_leastBelow) (maxL := 4) (ret := (some .int)) (by decide) rfl ?_
  intro p e s m args below meth c s₁ Bk hml hv
  obtain ⟨rfl, ⟨hsz, hP, hK, hD0⟩, hE, hSR⟩ := hv
  have hx := Bk.exec
  have hb := Bk.bytes
  have hr := Bk.returns
  have hlocks := Bk.notSynchronized
  have hC : CallFix p m c cX10_leastBelow 4 s _ (wu yX10_leastBelow cX10_leastBelow 4 (some .int)) RX10 := ⟨hx, hb, hml, findClass_of_methodNamed Bk.named, atoms_spec (ws := (wu yX10_leastBelow cX10_leastBelow 4 (some .int))) Bk.pre⟩
  subst hsz
  have hD := hD0.self (sz := s.heap.size)
  generalize hAe : va_A w0 s.heap.size = A at hD hE ⊢
  have hA : ∀ q : Nat, s.heap.size ≤ q → A q := fun q h => by rw [← hAe]; exact Or.inr h
  have hw : Wd dC dI A s.heap s.heap [] w0 := ⟨hP, hD, va_S.rf⟩
  have hF : FE ksC [(51, 0, 10)] w0 w0 := FE.rf
  have hl := lv_entry ([.ref (ad 158), .int a1, .int a2]) (n := 4) (Nat.le_of_ble_eq_true rfl)
  rw [lg_entry_eq]
  generalize (lg_sl ([.ref (ad 158), .int a1, .int a2]) ++ List.replicate (4 - (lg_sl ([.ref (ad 158), .int a1, .int a2])).length) Slot.unset).toArray = ls at hl ⊢
  have hl : lv_has ls 4 [(0, .ref (ad 158)), (1, .int a1), (2, .int a2)] := hl
  generalize hloc : ([] : List Loc) = locs at hw ⊢
  have hinX10 : ∀ w ∈ u_ws RX10 TX10 5, w ∈ (wu yX10_leastBelow cX10_leastBelow 4 (some .int)) := fun _ h => List.mem_cons_of_mem _ (up_81 h)
  have hinX5 : ∀ w ∈ u_ws RX5 TX5 14, w ∈ (wu yX10_leastBelow cX10_leastBelow 4 (some .int)) := fun _ h => List.mem_cons_of_mem _ (up_76 h)
  have L9 : ∀ (n9 : Nat) (v9_3 : Int32) (H : Heap) (locs : List Loc) (ls : Array Slot) (w1 : va_W), 0 ≤ a1.toInt → a1.toInt ≤ 6 → 0 ≤ a2.toInt → a2.toInt ≤ 8191 → 0 ≤ v9_3.toInt → v9_3.toInt ≤ 6 → (6 - v9_3.toInt).toNat < n9 → Wd dC dI A s.heap H locs w1 → TW ksC ad cy B qr s1 w1 → FE ksC [(51, 0, 10)] w0 w1 → lv_has ls 4 [(0, .ref (ad 158)), (1, .int a1), (2, .int a2), (3, .int v9_3)] → W p l e ({ frames := 9, cells := 0, slots := 0, locals := 197 }) s m (List.toArray [.ref (ad 158), .int a1, .int a2]) below meth c H locs 0 0 (MQ below (va_Qi (P_X10_leastBelow_7 ad cy B qr s1 a1 a2 w0) (fun u : va_W => wpost dC dI cy A u) A) (List.toArray [.ref (ad 158), .int a1, .int a2]) s 0 0 A) (F0 m 9 ls []) := by
    intro n9
    induction n9 with
    | zero => intro v9_3 H locs ls w1 r2 t3 r4 t5 r6 t7 hm9 hw hT hF hl; omega
    | succ n9 ih9 =>
      intro v9_3 H locs ls w1 r2 t3 r4 t5 r6 t7 hm9 hw hT hF hl
      refine lv_iload_n hx hb dX10_leastBelow_9 rfl (lv_at hl 3 rfl) ?_
      refine lv_aload_n hx hb dX10_leastBelow_10 rfl (lv_at hl 0 rfl) ?_
      refine tk_getA hC hK hw hT hinX10 kC_at158 (by decide) rfl 0 (by decide) (List.mem_cons_of_mem _ uw_6_6) rfl rfl dX10_leastBelow_11 ?_
      refine tk_geti hC hK hw hT hinX5 kC_at38 (by decide) rfl 10 (by decide) (List.mem_cons_of_mem _ uw_60_6) rfl rfl dX10_leastBelow_14 (fun x8 c9 rx8 tx8 => ?_)
      refine lv_icmp_ge (tgt := 36) hx hb dX10_leastBelow_17 (by decide) (fun c10 => ?_) (fun c10 => ?_)
      · have c10 : x8.toInt ≤ v9_3.toInt := wk_le.mp c10
        refine lv_iload_n hx hb dX10_leastBelow_36 rfl (lv_at hl 1 rfl) ?_
        refine lv_if_gt (tgt := 42) hx hb dX10_leastBelow_37 (by decide) (fun c11 => ?_) (fun c11 => ?_)
        · have c11 : (0 : Int) < a1.toInt := wk_lt.mp c11
          refine lv_aload_n hx hb dX10_leastBelow_42 rfl (lv_at hl 0 rfl) ?_
          refine lv_iload_n hx hb dX10_leastBelow_43 rfl (lv_at hl 1 rfl) ?_
          refine lv_iconst (v := 1) hx hb dX10_leastBelow_44 (by decide) ?_
          refine lv_isub hx hb dX10_leastBelow_45 ?_
          refine lv_topi (fun x12 ex12 => ?_)
          have ex12 : x12.toInt = a1.toInt - (1 : Int) := by rw [ex12]; exact wk_sub (show (-2147483648) ≤ a1.toInt - (1 : Int) by omega) (show a1.toInt - (1 : Int) ≤ 2147483647 by omega)
          refine lv_iload_n hx hb dX10_leastBelow_46 rfl (lv_at hl 2 rfl) ?_
          refine tk_Vi hC hK hw hT hA hE hSR kC_at158 (by decide) rfl (k_X10_leastBelow_8 l adK adV dC dI cy ad B hB0 (Int.le_trans hB1 (by decide)) qr s1   x12 (show 0 ≤ x12.toInt by first | with_reducible assumption | omega) (show x12.toInt ≤ 5 by first | with_reducible assumption | omega) a2 (show 0 ≤ a2.toInt from r4) (show a2.toInt ≤ 8191 from t5) w1 H.size hT ) (cwV 2 hC.2.2.2.2 uV_RX10_72 rfl rfl rfl (by decide +kernel) ⟨Nat.le_of_ble_eq_true rfl, Nat.le_of_ble_eq_true rfl⟩) rfl hl.1 rfl (Nat.le_of_ble_eq_true rfl) dX10_leastBelow_47 (fun r13 w15 H locs hp14 hw => ?_)
          obtain ⟨hT, k16, hg21⟩ := hp14
          have hF := hF.tr k16 (by decide)
          have c22 := k16.gi kC_at38 (by decide) c9
          rcases hg21 with ⟨g17, g18⟩ | ⟨rfl, ⟨x19, c20, rx19, tx19⟩⟩
          · refine lv_istore_n (lv' := [(3, .int r13), (0, .ref (ad 158)), (1, .int a1), (2, .int a2)]) hx hb dX10_leastBelow_50 rfl hl (by decide) rfl (fun ls hl => ?_)
            refine lv_iload_n hx hb dX10_leastBelow_51 rfl (lv_at hl 0 rfl) ?_
            refine lv_iconst (v := (-1)) hx hb dX10_leastBelow_52 (by decide) ?_
            refine lv_icmp_eq (tgt := 60) hx hb dX10_leastBelow_53 (by decide) (fun c => absurd c (fun h => absurd (show r13.toInt = (-1 : Int) from wk_eq.mp h) (by omega))) (fun _ => ?_)
            refine lv_iload_n hx hb dX10_leastBelow_56 rfl (lv_at hl 0 rfl) ?_
            refine lv_goto (tgt := 74) hx hb dX10_leastBelow_57 (by decide) ?_
            exact tk_iret hC hr hlocks hK ⟨hT, hF, (Or.inl ⟨(show 0 ≤ r13.toInt by first | with_reducible assumption | omega), (show r13.toInt ≤ 8191 by first | with_reducible assumption | omega)⟩)⟩ hw dX10_leastBelow_74
          · have ex19 : x19.toInt = x8.toInt := by rw [← c22.symm.trans c20]
            refine lv_istore_n (lv' := [(3, .int (-1)), (0, .ref (ad 158)), (1, .int a1), (2, .int a2)]) hx hb dX10_leastBelow_50 rfl hl (by decide) rfl (fun ls hl => ?_)
            refine lv_iload_n hx hb dX10_leastBelow_51 rfl (lv_at hl 0 rfl) ?_
            refine lv_iconst (v := (-1)) hx hb dX10_leastBelow_52 (by decide) ?_
            refine lv_icmp_eq (tgt := 60) hx hb dX10_leastBelow_53 (by decide) (fun _ => ?_) (fun c => absurd (by decide) c)
            refine lv_aload_n hx hb dX10_leastBelow_60 rfl (lv_at hl 1 rfl) ?_
            refine lv_iload_n hx hb dX10_leastBelow_61 rfl (lv_at hl 2 rfl) ?_
            refine lv_iconst (v := 1) hx hb dX10_leastBelow_62 (by decide) ?_
            refine lv_isub hx hb dX10_leastBelow_63 ?_
            refine lv_topi (fun x23 ex23 => ?_)
            have ex23 : x23.toInt = a1.toInt - (1 : Int) := by rw [ex23]; exact wk_sub (show (-2147483648) ≤ a1.toInt - (1 : Int) by omega) (show a1.toInt - (1 : Int) ≤ 2147483647 by omega)
            refine lv_iload_n hx hb dX10_leastBelow_64 rfl (lv_at hl 3 rfl) ?_
            refine lv_iconst (v := 1) hx hb dX10_leastBelow_65 (by decide) ?_
            refine lv_iload_n hx hb dX10_leastBelow_66 rfl (lv_at hl 2 rfl) ?_
            refine lv_iconst (v := 1) hx hb dX10_leastBelow_67 (by decide) ?_
            refine lv_isub hx hb dX10_leastBelow_68 ?_
            refine lv_topi (fun x24 ex24 => ?_)
            have ex24 : x24.toInt = a1.toInt - (1 : Int) := by rw [ex24]; exact wk_sub (show (-2147483648) ≤ a1.toInt - (1 : Int) by omega) (show a1.toInt - (1 : Int) ≤ 2147483647 by omega)
            refine lv_ishl hx hb dX10_leastBelow_69 ?_
            refine lv_topi (fun x25 ex25 => ?_)
            have bx25 : 1 ≤ x25.toInt ∧ x25.toInt ≤ 32 := by rw [ex25]; exact wk_shl1 5 (by decide) (by omega) (by omega)
            refine lv_ior hx hb dX10_leastBelow_70 ?_
            refine lv_topi (fun x26 ex26 => ?_)
            have bx26 : 0 ≤ x26.toInt ∧ x26.toInt < 8192 := by rw [ex26]; exact wk_or 13 (by decide) (by omega) (by omega) (by omega) (by omega)
            have mx26 : a2.toInt ≤ x26.toInt ∧ x25.toInt ≤ x26.toInt := by rw [ex26]; exact wk_orL 13 (by decide) (by omega) (by omega) (by omega) (by omega)
            refine tk_Vi hC hK hw hT hA hE hSR kC_at158 (by decide) rfl (k_X10_leastBelow_8 l adK adV dC dI cy ad B hB0 (Int.le_trans hB1 (by decide)) qr s1   x23 (show 0 ≤ x23.toInt by first | with_reducible assumption | omega) (show x23.toInt ≤ 5 by first | with_reducible assumption | omega) x26 (show 0 ≤ x26.toInt by first | with_reducible assumption | omega) (show x26.toInt ≤ 8191 by first | with_reducible assumption | omega) w15 H.size hT ) (cwV 2 hC.2.2.2.2 uV_RX10_72 rfl rfl rfl (by decide +kernel) ⟨Nat.le_of_ble_eq_true rfl, Nat.le_of_ble_eq_true rfl⟩) rfl hl.1 rfl (Nat.le_of_ble_eq_true rfl) dX10_leastBelow_71 (fun r27 w29 H locs hp28 hw => ?_)
            obtain ⟨hT, k30, hg35⟩ := hp28
            have hF := hF.tr k30 (by decide)
            have c36 := k30.gi kC_at38 (by decide) c22
            rcases hg35 with ⟨g31, g32⟩ | ⟨rfl, ⟨x33, c34, rx33, tx33⟩⟩
            · exact tk_iret hC hr hlocks hK ⟨hT, hF, (Or.inl ⟨(show 0 ≤ r27.toInt by first | with_reducible assumption | omega), (show r27.toInt ≤ 8191 by first | with_reducible assumption | omega)⟩)⟩ hw dX10_leastBelow_74
            · have ex33 : x33.toInt = x8.toInt := by rw [← c36.symm.trans c34]
              exact tk_iret hC hr hlocks hK ⟨hT, hF, (Or.inr ⟨rfl, ⟨x8, c36, (show 1 ≤ x8.toInt by first | with_reducible assumption | omega), (show x8.toInt ≤ 6 from tx8)⟩⟩)⟩ hw dX10_leastBelow_74
        · have c11 : a1.toInt ≤ (0 : Int) := wk_ltF c11
          refine lv_iload_n hx hb dX10_leastBelow_40 rfl (lv_at hl 2 rfl) ?_
          exact tk_iret hC hr hlocks hK ⟨hT, hF, (Or.inl ⟨(show 0 ≤ a2.toInt from r4), (show a2.toInt ≤ 8191 from t5)⟩)⟩ hw dX10_leastBelow_41
      · have c10 : v9_3.toInt < x8.toInt := wk_leF c10
        refine lv_aload_n hx hb dX10_leastBelow_20 rfl (lv_at hl 0 rfl) ?_
        refine lv_iload_n hx hb dX10_leastBelow_21 rfl (lv_at hl 3 rfl) ?_
        refine tk_Vi hC hK hw hT hA hE hSR kC_at158 (by decide) rfl (k_X10_canDo_1 l adK adV dC dI cy ad B hB0 (Int.le_trans hB1 (by decide)) qr s1   v9_3 (show 0 ≤ v9_3.toInt from r6) (show v9_3.toInt ≤ 5 by first | with_reducible assumption | omega) w1 H.size hT ) (cwV 1 hC.2.2.2.2 uV_RX10_49 rfl rfl rfl (by decide +kernel) ⟨Nat.le_of_ble_eq_true rfl, Nat.le_of_ble_eq_true rfl⟩) rfl hl.1 rfl (Nat.le_of_ble_eq_true rfl) dX10_leastBelow_22 (fun r37 w39 H locs hp38 hw => ?_)
        obtain ⟨hT, k40, hg41⟩ := hp38
        have hF := hF.tr k40 (by decide)
        have c42 := k40.gi kC_at38 (by decide) c9
        rcases hg41 with rfl | rfl
        · refine lv_if_ne (tgt := 30) hx hb dX10_leastBelow_25 (by decide) (fun c => absurd (by decide) c) (fun _ => ?_)
          refine lv_iconst (v := (-1)) hx hb dX10_leastBelow_28 (by decide) ?_
          exact tk_iret hC hr hlocks hK ⟨hT, hF, (Or.inr ⟨rfl, ⟨x8, c42, (show 1 ≤ x8.toInt by first | with_reducible assumption | omega), (show x8.toInt ≤ 6 from tx8)⟩⟩)⟩ hw dX10_leastBelow_29
        · refine lv_if_ne (tgt := 30) hx hb dX10_leastBelow_25 (by decide) (fun _ => ?_) (fun c => absurd c (by decide))
          obtain ⟨x43, ex43⟩ : ∃ y : Int32, y = v9_3 + Int32.ofInt 1 := ⟨_, rfl⟩
          refine lv_iinc (v := x43) (lv' := [(3, .int x43), (0, .ref (ad 158)), (1, .int a1), (2, .int a2)]) hx hb dX10_leastBelow_30 hl (k := 3) rfl ex43.symm (by decide) rfl (fun ls hl => ?_)
          have ex43 : x43.toInt = v9_3.toInt + 1 := by rw [ex43]; exact wk_add (y := 1) (show -2147483648 ≤ v9_3.toInt + 1 by omega) (show v9_3.toInt + 1 ≤ 2147483647 by omega)
          refine lv_goto (tgt := 9) hx hb dX10_leastBelow_33 (by decide) ?_
          exact ih9 x43 H locs ls w39 (show 0 ≤ a1.toInt from r2) (show a1.toInt ≤ 6 from t3) (show 0 ≤ a2.toInt from r4) (show a2.toInt ≤ 8191 from t5) (show 0 ≤ x43.toInt by first | with_reducible assumption | omega) (show x43.toInt ≤ 6 by first | with_reducible assumption | omega) (show (6 - x43.toInt).toNat < n9 by first | exact tn_lt hm9 (by omega) (by omega) | omega) hw hT hF  (lv_sub hl [1, 2, 3, 0] rfl)
  refine lv_aload_n hx hb dX10_leastBelow_0 rfl (lv_at hl 0 rfl) ?_
  refine lv_iload_n hx hb dX10_leastBelow_1 rfl (lv_at hl 1 rfl) ?_
  refine lv_iload_n hx hb dX10_leastBelow_2 rfl (lv_at hl 2 rfl) ?_
  refine lv_iconst (v := (-1)) hx hb dX10_leastBelow_3 (by decide) ?_
  refine tk_Vv hC hK hw hT hA hE hSR kC_at158 (by decide) rfl (k_X10_layRoads_1 l adK adV dC dI cy ad B hB0 (Int.le_trans hB1 (by decide)) qr s1   a1 (show 0 ≤ a1.toInt from ra1) (show a1.toInt ≤ 12 from Int.le_trans ta1 (by decide)) a2 (show 0 ≤ a2.toInt from ra2) (show a2.toInt ≤ 8191 from ta2) ((-1)) (by decide) (by decide) w0 s.heap.size hT ) (cwV 3 hC.2.2.2.2 uV_RX10_42 rfl rfl rfl (by decide +kernel) ⟨Nat.le_of_ble_eq_true rfl, Nat.le_of_ble_eq_true rfl⟩) rfl hl.1 rfl (Nat.le_of_ble_eq_true rfl) dX10_leastBelow_4 (fun w46 H locs hp45 hw => ?_)
  obtain ⟨hT, k47, hg48⟩ := hp45
  have hF := hF.tr k47 (by decide)
  clear hg48
  refine lv_iconst (v := 0) hx hb dX10_leastBelow_7 (by decide) ?_
  refine lv_istore_n (lv' := [(3, .int 0), (0, .ref (ad 158)), (1, .int a1), (2, .int a2)]) hx hb dX10_leastBelow_8 rfl hl (by decide) rfl (fun ls hl => ?_)
  exact L9 ((6 - (0 : Int)).toNat + 1) 0 H locs ls w46 (show 0 ≤ a1.toInt from ra1) (show a1.toInt ≤ 6 from ta1) (show 0 ≤ a2.toInt from ra2) (show a2.toInt ≤ 8191 from ta2) (by decide) (by decide) (Nat.lt_succ_self _) hw hT hF  (lv_sub hl [1, 2, 3, 0] rfl)
abbrev P_X10_leastBelow_6 (ad : Nat → Nat) (cy : Nat → ClassId) (B : Int) (qr : Nat) (s1 : Int) (a1 : Int32) (a2 : Int32) (w0 : va_W) : Int32 → va_W → Prop := fun r u => TW ksC ad cy B qr s1 u ∧ FE ksC [(51, 0, 10)] w0 u ∧ ((0 ≤ r.toInt ∧ r.toInt ≤ 8191) ∨ (r = (-1) ∧ (∃ y : Int32, gi u 38 10 = y ∧ 1 ≤ y.toInt ∧ y.toInt ≤ 6)))
set_option maxHeartbeats 4000000 in
set_option maxRecDepth 100000 in
theorem k_X10_leastBelow_6 (l : Launch) (adK adV : Nat → Nat) (dC : Nat → ClassId) (dI : Nat → Nat → Nat) (cy : Nat → ClassId) (ad : Nat → Nat) (B : Int) (hB0 : 2147483648 ≤ B) (hB1 : B ≤ 1152921504606846976) (qr : Nat) (s1 : Int)  (a1 : Int32) (ra1 : 0 ≤ a1.toInt) (ta1 : a1.toInt ≤ 7) (a2 : Int32) (ra2 : 0 ≤ a2.toInt) (ta2 : a2.toInt ≤ 8191) (w0 : va_W) (sz : Nat) (hT : TW ksC ad cy B qr s1 w0)  : Met l yX10_leastBelow (wu yX10_leastBelow cX10_leastBelow 4 (some .int)) ({ frames := 10, cells := 0, slots := 0, locals := 220 }) (va_Pc [.ref (ad 158), .int a1, .int a2] (wpreS adK adV dC dI cy sz w0)) (va_Qi (P_X10_leastBelow_6 ad cy B qr s1 a1 a2 w0) (fun u : va_W => wpost dC dI cy (va_A w0 sz) u) (va_A w0 sz)) 0 0 (va_A w0 sz) := by
  refine Met.ofW (cc := cX10_leastBelow) (maxL := 4) (ret := (some .int)) (by decide) rfl ?_
  intro p e s m args below meth c s₁ Bk hml hv
  obtain ⟨rfl, ⟨hsz, hP, hK, hD0⟩, hE, hSR⟩ := hv
  have hx := Bk.exec
  have hb := Bk.bytes
  have hr := Bk.returns
  have hlocks := Bk.notSynchronized
  have hC : CallFix p m c cX10_leastBelow 4 s _ (wu yX10_leastBelow cX10_leastBelow 4 (some .int)) RX10 := ⟨hx, hb, hml, findClass_of_methodNamed Bk.named, atoms_spec (ws := (wu yX10_leastBelow cX10_leastBelow 4 (some .int))) Bk.pre⟩
  subst hsz
  have hD := hD0.self (sz := s.heap.size)
  generalize hAe : va_A w0 s.heap.size = A at hD hE ⊢
  have hA : ∀ q : Nat, s.heap.size ≤ q → A q := fun q h => by rw [← hAe]; exact Or.inr h
  have hw : Wd dC dI A s.heap s.heap [] w0 := ⟨hP, hD, va_S.rf⟩
  have hF : FE ksC [(51, 0, 10)] w0 w0 := FE.rf
  have hl := lv_entry ([.ref (ad 158), .int a1, .int a2]) (n := 4) (Nat.le_of_ble_eq_true rfl)
  rw [lg_entry_eq]
  generalize (lg_sl ([.ref (ad 158), .int a1, .int a2]) ++ List.replicate (4 - (lg_sl ([.ref (ad 158), .int a1, .int a2])).length) Slot.unset).toArray = ls at hl ⊢
  have hl : lv_has ls 4 [(0, .ref (ad 158)), (1, .int a1), (2, .int a2)] := hl
  generalize hloc : ([] : List Loc) = locs at hw ⊢
  have hinX10 : ∀ w ∈ u_ws RX10 TX10 5, w ∈ (wu yX10_leastBelow cX10_leastBelow 4 (some .int)) := fun _ h => List.mem_cons_of_mem _ (up_81 h)
  have hinX5 : ∀ w ∈ u_ws RX5 TX5 14, w ∈ (wu yX10_leastBelow cX10_leastBelow 4 (some .int)) := fun _ h => List.mem_cons_of_mem _ (up_76 h)
  have L9 : ∀ (n9 : Nat) (v9_3 : Int32) (H : Heap) (locs : List Loc) (ls : Array Slot) (w1 : va_W), 0 ≤ a1.toInt → a1.toInt ≤ 7 → 0 ≤ a2.toInt → a2.toInt ≤ 8191 → 0 ≤ v9_3.toInt → v9_3.toInt ≤ 6 → (6 - v9_3.toInt).toNat < n9 → Wd dC dI A s.heap H locs w1 → TW ksC ad cy B qr s1 w1 → FE ksC [(51, 0, 10)] w0 w1 → lv_has ls 4 [(0, .ref (ad 158)), (1, .int a1), (2, .int a2), (3, .int v9_3)] → W p l e ({ frames := 10, cells := 0, slots := 0, locals := 220 }) s m (List.toArray [.ref (ad 158), .int a1, .int a2]) below meth c H locs 0 0 (MQ below (va_Qi (P_X10_leastBelow_6 ad cy B qr s1 a1 a2 w0) (fun u : va_W => wpost dC dI cy A u) A) (List.toArray [.ref (ad 158), .int a1, .int a2]) s 0 0 A) (F0 m 9 ls []) := by
    intro n9
    induction n9 with
    | zero => intro v9_3 H locs ls w1 r2 t3 r4 t5 r6 t7 hm9 hw hT hF hl; omega
    | succ n9 ih9 =>
      intro v9_3 H locs ls w1 r2 t3 r4 t5 r6 t7 hm9 hw hT hF hl
      refine lv_iload_n hx hb dX10_leastBelow_9 rfl (lv_at hl 3 rfl) ?_
      refine lv_aload_n hx hb dX10_leastBelow_10 rfl (lv_at hl 0 rfl) ?_
      refine tk_getA hC hK hw hT hinX10 kC_at158 (by decide) rfl 0 (by decide) (List.mem_cons_of_mem _ uw_6_6) rfl rfl dX10_leastBelow_11 ?_
      refine tk_geti hC hK hw hT hinX5 kC_at38 (by decide) rfl 10 (by decide) (List.mem_cons_of_mem _ uw_60_6) rfl rfl dX10_leastBelow_14 (fun x8 c9 rx8 tx8 => ?_)
      refine lv_icmp_ge (tgt := 36) hx hb dX10_leastBelow_17 (by decide) (fun c10 => ?_) (fun c10 => ?_)
      · have c10 : x8.toInt ≤ v9_3.toInt := wk_le.mp c10
        refine lv_iload_n hx hb dX10_leastBelow_36 rfl (lv_at hl 1 rfl) ?_
        refine lv_if_gt (tgt := 42) hx hb dX10_leastBelow_37 (by decide) (fun c11 => ?_) (fun c11 => ?_)
        · have c11 : (0 : Int) < a1.toInt := wk_lt.mp c11
          refine lv_aload_n hx hb dX10_leastBelow_42 rfl (lv_at hl 0 rfl) ?_
          refine lv_iload_n hx hb dX10_leastBelow_43 rfl (lv_at hl 1 rfl) ?_
          refine lv_iconst (v := 1) hx hb dX10_leastBelow_44 (by decide) ?_
          refine lv_isub hx hb dX10_leastBelow_45 ?_
          refine lv_topi (fun x12 ex12 => ?_)
          have ex12 : x12.toInt = a1.toInt - (1 : Int) := by rw [ex12]; exact wk_sub (show (-2147483648) ≤ a1.toInt - (1 : Int) by omega) (show a1.toInt - (1 : Int) ≤ 2147483647 by omega)
          refine lv_iload_n hx hb dX10_leastBelow_46 rfl (lv_at hl 2 rfl) ?_
          refine tk_Vi hC hK hw hT hA hE hSR kC_at158 (by decide) rfl (k_X10_leastBelow_7 l adK adV dC dI cy ad B hB0 (Int.le_trans hB1 (by decide)) qr s1   x12 (show 0 ≤ x12.toInt by first | with_reducible assumption | omega) (show x12.toInt ≤ 6 by first | with_reducible assumption | omega) a2 (show 0 ≤ a2.toInt from r4) (show a2.toInt ≤ 8191 from t5) w1 H.size hT ) (cwV 2 hC.2.2.2.2 uV_RX10_72 rfl rfl rfl (by decide +kernel) ⟨Nat.le_of_ble_eq_true rfl, Nat.le_of_ble_eq_true rfl⟩) rfl hl.1 rfl (Nat.le_of_ble_eq_true rfl) dX10_leastBelow_47 (fun r13 w15 H locs hp14 hw => ?_)
          obtain ⟨hT, k16, hg21⟩ := hp14
          have hF := hF.tr k16 (by decide)
          have c22 := k16.gi kC_at38 (by decide) c9
          rcases hg21 with ⟨g17, g18⟩ | ⟨rfl, ⟨x19, c20, rx19, tx19⟩⟩
          · refine lv_istore_n (lv' := [(3, .int r13), (0, .ref (ad 158)), (1, .int a1), (2, .int a2)]) hx hb dX10_leastBelow_50 rfl hl (by decide) rfl (fun ls hl => ?_)
            refine lv_iload_n hx hb dX10_leastBelow_51 rfl (lv_at hl 0 rfl) ?_
            refine lv_iconst (v := (-1)) hx hb dX10_leastBelow_52 (by decide) ?_
            refine lv_icmp_eq (tgt := 60) hx hb dX10_leastBelow_53 (by decide) (fun c => absurd c (fun h => absurd (show r13.toInt = (-1 : Int) from wk_eq.mp h) (by omega))) (fun _ => ?_)
            refine lv_iload_n hx hb dX10_leastBelow_56 rfl (lv_at hl 0 rfl) ?_
            refine lv_goto (tgt := 74) hx hb dX10_leastBelow_57 (by decide) ?_
            exact tk_iret hC hr hlocks hK ⟨hT, hF, (Or.inl ⟨(show 0 ≤ r13.toInt by first | with_reducible assumption | omega), (show r13.toInt ≤ 8191 by first | with_reducible assumption | omega)⟩)⟩ hw dX10_leastBelow_74
          · have ex19 : x19.toInt = x8.toInt := by rw [← c22.symm.trans c20]
            refine lv_istore_n (lv' := [(3, .int (-1)), (0, .ref (ad 158)), (1, .int a1), (2, .int a2)]) hx hb dX10_leastBelow_50 rfl hl (by decide) rfl (fun ls hl => ?_)
            refine lv_iload_n hx hb dX10_leastBelow_51 rfl (lv_at hl 0 rfl) ?_
            refine lv_iconst (v := (-1)) hx hb dX10_leastBelow_52 (by decide) ?_
            refine lv_icmp_eq (tgt := 60) hx hb dX10_leastBelow_53 (by decide) (fun _ => ?_) (fun c => absurd (by decide) c)
            refine lv_aload_n hx hb dX10_leastBelow_60 rfl (lv_at hl 1 rfl) ?_
            refine lv_iload_n hx hb dX10_leastBelow_61 rfl (lv_at hl 2 rfl) ?_
            refine lv_iconst (v := 1) hx hb dX10_leastBelow_62 (by decide) ?_
            refine lv_isub hx hb dX10_leastBelow_63 ?_
            refine lv_topi (fun x23 ex23 => ?_)
            have ex23 : x23.toInt = a1.toInt - (1 : Int) := by rw [ex23]; exact wk_sub (show (-2147483648) ≤ a1.toInt - (1 : Int) by omega) (show a1.toInt - (1 : Int) ≤ 2147483647 by omega)
            refine lv_iload_n hx hb dX10_leastBelow_64 rfl (lv_at hl 3 rfl) ?_
            refine lv_iconst (v := 1) hx hb dX10_leastBelow_65 (by decide) ?_
            refine lv_iload_n hx hb dX10_leastBelow_66 rfl (lv_at hl 2 rfl) ?_
            refine lv_iconst (v := 1) hx hb dX10_leastBelow_67 (by decide) ?_
            refine lv_isub hx hb dX10_leastBelow_68 ?_
            refine lv_topi (fun x24 ex24 => ?_)
            have ex24 : x24.toInt = a1.toInt - (1 : Int) := by rw [ex24]; exact wk_sub (show (-2147483648) ≤ a1.toInt - (1 : Int) by omega) (show a1.toInt - (1 : Int) ≤ 2147483647 by omega)
            refine lv_ishl hx hb dX10_leastBelow_69 ?_
            refine lv_topi (fun x25 ex25 => ?_)
            have bx25 : 1 ≤ x25.toInt ∧ x25.toInt ≤ 64 := by rw [ex25]; exact wk_shl1 6 (by decide) (by omega) (by omega)
            refine lv_ior hx hb dX10_leastBelow_70 ?_
            refine lv_topi (fun x26 ex26 => ?_)
            have bx26 : 0 ≤ x26.toInt ∧ x26.toInt < 8192 := by rw [ex26]; exact wk_or 13 (by decide) (by omega) (by omega) (by omega) (by omega)
            have mx26 : a2.toInt ≤ x26.toInt ∧ x25.toInt ≤ x26.toInt := by rw [ex26]; exact wk_orL 13 (by decide) (by omega) (by omega) (by omega) (by omega)
            refine tk_Vi hC hK hw hT hA hE hSR kC_at158 (by decide) rfl (k_X10_leastBelow_7 l adK adV dC dI cy ad B hB0 (Int.le_trans hB1 (by decide)) qr s1   x23 (show 0 ≤ x23.toInt by first | with_reducible assumption | omega) (show x23.toInt ≤ 6 by first | with_reducible assumption | omega) x26 (show 0 ≤ x26.toInt by first | with_reducible assumption | omega) (show x26.toInt ≤ 8191 by first | with_reducible assumption | omega) w15 H.size hT ) (cwV 2 hC.2.2.2.2 uV_RX10_72 rfl rfl rfl (by decide +kernel) ⟨Nat.le_of_ble_eq_true rfl, Nat.le_of_ble_eq_true rfl⟩) rfl hl.1 rfl (Nat.le_of_ble_eq_true rfl) dX10_leastBelow_71 (fun r27 w29 H locs hp28 hw => ?_)
            obtain ⟨hT, k30, hg35⟩ := hp28
            have hF := hF.tr k30 (by decide)
            have c36 := k30.gi kC_at38 (by decide) c22
            rcases hg35 with ⟨g31, g32⟩ | ⟨rfl, ⟨x33, c34, rx33, tx33⟩⟩
            · exact tk_iret hC hr hlocks hK ⟨hT, hF, (Or.inl ⟨(show 0 ≤ r27.toInt by first | with_reducible assumption | omega), (show r27.toInt ≤ 8191 by first | with_reducible assumption | omega)⟩)⟩ hw dX10_leastBelow_74
            · have ex33 : x33.toInt = x8.toInt := by rw [← c36.symm.trans c34]
              exact tk_iret hC hr hlocks hK ⟨hT, hF, (Or.inr ⟨rfl, ⟨x8, c36, (show 1 ≤ x8.toInt by first | with_reducible assumption | omega), (show x8.toInt ≤ 6 from tx8)⟩⟩)⟩ hw dX10_leastBelow_74
        · have c11 : a1.toInt ≤ (0 : Int) := wk_ltF c11
          refine lv_iload_n hx hb dX10_leastBelow_40 rfl (lv_at hl 2 rfl) ?_
          exact tk_iret hC hr hlocks hK ⟨hT, hF, (Or.inl ⟨(show 0 ≤ a2.toInt from r4), (show a2.toInt ≤ 8191 from t5)⟩)⟩ hw dX10_leastBelow_41
      · have c10 : v9_3.toInt < x8.toInt := wk_leF c10
        refine lv_aload_n hx hb dX10_leastBelow_20 rfl (lv_at hl 0 rfl) ?_
        refine lv_iload_n hx hb dX10_leastBelow_21 rfl (lv_at hl 3 rfl) ?_
        refine tk_Vi hC hK hw hT hA hE hSR kC_at158 (by decide) rfl (k_X10_canDo_1 l adK adV dC dI cy ad B hB0 (Int.le_trans hB1 (by decide)) qr s1   v9_3 (show 0 ≤ v9_3.toInt from r6) (show v9_3.toInt ≤ 5 by first | with_reducible assumption | omega) w1 H.size hT ) (cwV 1 hC.2.2.2.2 uV_RX10_49 rfl rfl rfl (by decide +kernel) ⟨Nat.le_of_ble_eq_true rfl, Nat.le_of_ble_eq_true rfl⟩) rfl hl.1 rfl (Nat.le_of_ble_eq_true rfl) dX10_leastBelow_22 (fun r37 w39 H locs hp38 hw => ?_)
        obtain ⟨hT, k40, hg41⟩ := hp38
        have hF := hF.tr k40 (by decide)
        have c42 := k40.gi kC_at38 (by decide) c9
        rcases hg41 with rfl | rfl
        · refine lv_if_ne (tgt := 30) hx hb dX10_leastBelow_25 (by decide) (fun c => absurd (by decide) c) (fun _ => ?_)
          refine lv_iconst (v := (-1)) hx hb dX10_leastBelow_28 (by decide) ?_
          exact tk_iret hC hr hlocks hK ⟨hT, hF, (Or.inr ⟨rfl, ⟨x8, c42, (show 1 ≤ x8.toInt by first | with_reducible assumption | omega), (show x8.toInt ≤ 6 from tx8)⟩⟩)⟩ hw dX10_leastBelow_29
        · refine lv_if_ne (tgt := 30) hx hb dX10_leastBelow_25 (by decide) (fun _ => ?_) (fun c => absurd c (by decide))
          obtain ⟨x43, ex43⟩ : ∃ y : Int32, y = v9_3 + Int32.ofInt 1 := ⟨_, rfl⟩
          refine lv_iinc (v := x43) (lv' := [(3, .int x43), (0, .ref (ad 158)), (1, .int a1), (2, .int a2)]) hx hb dX10_leastBelow_30 hl (k := 3) rfl ex43.symm (by decide) rfl (fun ls hl => ?_)
          have ex43 : x43.toInt = v9_3.toInt + 1 := by rw [ex43]; exact wk_add (y := 1) (show -2147483648 ≤ v9_3.toInt + 1 by omega) (show v9_3.toInt + 1 ≤ 2147483647 by omega)
          refine lv_goto (tgt := 9) hx hb dX10_leastBelow_33 (by decide) ?_
          exact ih9 x43 H locs ls w39 (show 0 ≤ a1.toInt from r2) (show a1.toInt ≤ 7 from t3) (show 0 ≤ a2.toInt from r4) (show a2.toInt ≤ 8191 from t5) (show 0 ≤ x43.toInt by first | with_reducible assumption | omega) (show x43.toInt ≤ 6 by first | with_reducible assumption | omega) (show (6 - x43.toInt).toNat < n9 by first | exact tn_lt hm9 (by omega) (by omega) | omega) hw hT hF  (lv_sub hl [1, 2, 3, 0] rfl)
  refine lv_aload_n hx hb dX10_leastBelow_0 rfl (lv_at hl 0 rfl) ?_
  refine lv_iload_n hx hb dX10_leastBelow_1 rfl (lv_at hl 1 rfl) ?_
  refine lv_iload_n hx hb dX10_leastBelow_2 rfl (lv_at hl 2 rfl) ?_
  refine lv_iconst (v := (-1)) hx hb dX10_leastBelow_3 (by decide) ?_
  refine tk_Vv hC hK hw hT hA hE hSR kC_at158 (by decide) rfl (k_X10_layRoads_1 l adK adV dC dI cy ad B hB0 (Int.le_trans hB1 (by decide)) qr s1   a1 (show 0 ≤ a1.toInt from ra1) (show a1.toInt ≤ 12 from Int.le_trans ta1 (by decide)) a2 (show 0 ≤ a2.toInt from ra2) (show a2.toInt ≤ 8191 from ta2) ((-1)) (by decide) (by decide) w0 s.heap.size hT ) (cwV 3 hC.2.2.2.2 uV_RX10_42 rfl rfl rfl (by decide +kernel) ⟨Nat.le_of_ble_eq_true rfl, Nat.le_of_ble_eq_true rfl⟩) rfl hl.1 rfl (Nat.le_of_ble_eq_true rfl) dX10_leastBelow_4 (fun w46 H locs hp45 hw => ?_)
  obtain ⟨hT, k47, hg48⟩ := hp45
  have hF := hF.tr k47 (by decide)
  clear hg48
  refine lv_iconst (v := 0) hx hb dX10_leastBelow_7 (by decide) ?_
  refine lv_istore_n (lv' := [(3, .int 0), (0, .ref (ad 158)), (1, .int a1), (2, .int a2)]) hx hb dX10_leastBelow_8 rfl hl (by decide) rfl (fun ls hl => ?_)
  exact L9 ((6 - (0 : Int)).toNat + 1) 0 H locs ls w46 (show 0 ≤ a1.toInt from ra1) (show a1.toInt ≤ 7 from ta1) (show 0 ≤ a2.toInt from ra2) (show a2.toInt ≤ 8191 from ta2) (by decide) (by decide) (Nat.lt_succ_self _) hw hT hF  (lv_sub hl [1, 2, 3, 0] rfl)
abbrev P_X10_leastBelow_5 (ad : Nat → Nat) (cy : Nat → ClassId) (B : Int) (qr : Nat) (s1 : Int) (a1 : Int32) (a2 : Int32) (w0 : va_W) : Int32 → va_W → Prop := fun r u => TW ksC ad cy B qr s1 u ∧ FE ksC [(51, 0, 10)] w0 u ∧ ((0 ≤ r.toInt ∧ r.toInt ≤ 8191) ∨ (r = (-1) ∧ (∃ y : Int32, gi u 38 10 = y ∧ 1 ≤ y.toInt ∧ y.toInt ≤ 6)))
set_option maxHeartbeats 4000000 in
set_option maxRecDepth 100000 in
theorem k_X10_leastBelow_5 (l : Launch) (adK adV : Nat → Nat) (dC : Nat → ClassId) (dI : Nat → Nat → Nat) (cy : Nat → ClassId) (ad : Nat → Nat) (B : Int) (hB0 : 2147483648 ≤ B) (hB1 : B ≤ 1152921504606846976) (qr : Nat) (s1 : Int)  (a1 : Int32) (ra1 : 0 ≤ a1.toInt) (ta1 : a1.toInt ≤ 8) (a2 : Int32) (ra2 : 0 ≤ a2.toInt) (ta2 : a2.toInt ≤ 8191) (w0 : va_W) (sz : Nat) (hT : TW ksC ad cy B qr s1 w0)  : Met l yX10_leastBelow (wu yX10_leastBelow cX10_leastBelow 4 (some .int)) ({ frames := 11, cells := 0, slots := 0, locals := 243 }) (va_Pc [.ref (ad 158), .int a1, .int a2] (wpreS adK adV dC dI cy sz w0)) (va_Qi (P_X10_leastBelow_5 ad cy B qr s1 a1 a2 w0) (fun u : va_W => wpost dC dI cy (va_A w0 sz) u) (va_A w0 sz)) 0 0 (va_A w0 sz) := by
  refine Met.ofW (cc := cX10_leastBelow) (maxL := 4) (ret := (some .int)) (by decide) rfl ?_
  intro p e s m args below meth c s₁ Bk hml hv
  obtain ⟨rfl, ⟨hsz, hP, hK, hD0⟩, hE, hSR⟩ := hv
  have hx := Bk.exec
  have hb := Bk.bytes
  have hr := Bk.returns
  have hlocks := Bk.notSynchronized
  have hC : CallFix p m c cX10_leastBelow 4 s _ (wu yX10_leastBelow cX10_leastBelow 4 (some .int)) RX10 := ⟨hx, hb, hml, findClass_of_methodNamed Bk.named, atoms_spec (ws := (wu yX10_leastBelow cX10_leastBelow 4 (some .int))) Bk.pre⟩
  subst hsz
  have hD := hD0.self (sz := s.heap.size)
  generalize hAe : va_A w0 s.heap.size = A at hD hE ⊢
  have hA : ∀ q : Nat, s.heap.size ≤ q → A q := fun q h => by rw [← hAe]; exact Or.inr h
  have hw : Wd dC dI A s.heap s.heap [] w0 := ⟨hP, hD, va_S.rf⟩
  have hF : FE ksC [(51, 0, 10)] w0 w0 := FE.rf
  have hl := lv_entry ([.ref (ad 158), .int a1, .int a2]) (n := 4) (Nat.le_of_ble_eq_true rfl)
  rw [lg_entry_eq]
  generalize (lg_sl ([.ref (ad 158), .int a1, .int a2]) ++ List.replicate (4 - (lg_sl ([.ref (ad 158), .int a1, .int a2])).length) Slot.unset).toArray = ls at hl ⊢
  have hl : lv_has ls 4 [(0, .ref (ad 158)), (1, .int a1), (2, .int a2)] := hl
  generalize hloc : ([] : List Loc) = locs at hw ⊢
  have hinX10 : ∀ w ∈ u_ws RX10 TX10 5, w ∈ (wu yX10_leastBelow cX10_leastBelow 4 (some .int)) := fun _ h => List.mem_cons_of_mem _ (up_81 h)
  have hinX5 : ∀ w ∈ u_ws RX5 TX5 14, w ∈ (wu yX10_leastBelow cX10_leastBelow 4 (some .int)) := fun _ h => List.mem_cons_of_mem _ (up_76 h)
  have L9 : ∀ (n9 : Nat) (v9_3 : Int32) (H : Heap) (locs : List Loc) (ls : Array Slot) (w1 : va_W), 0 ≤ a1.toInt → a1.toInt ≤ 8 → 0 ≤ a2.toInt → a2.toInt ≤ 8191 → 0 ≤ v9_3.toInt → v9_3.toInt ≤ 6 → (6 - v9_3.toInt).toNat < n9 → Wd dC dI A s.heap H locs w1 → TW ksC ad cy B qr s1 w1 → FE ksC [(51, 0, 10)] w0 w1 → lv_has ls 4 [(0, .ref (ad 158)), (1, .int a1), (2, .int a2), (3, .int v9_3)] → W p l e ({ frames := 11, cells := 0, slots := 0, locals := 243 }) s m (List.toArray [.ref (ad 158), .int a1, .int a2]) below meth c H locs 0 0 (MQ below (va_Qi (P_X10_leastBelow_5 ad cy B qr s1 a1 a2 w0) (fun u : va_W => wpost dC dI cy A u) A) (List.toArray [.ref (ad 158), .int a1, .int a2]) s 0 0 A) (F0 m 9 ls []) := by
    intro n9
    induction n9 with
    | zero => intro v9_3 H locs ls w1 r2 t3 r4 t5 r6 t7 hm9 hw hT hF hl; omega
    | succ n9 ih9 =>
      intro v9_3 H locs ls w1 r2 t3 r4 t5 r6 t7 hm9 hw hT hF hl
      refine lv_iload_n hx hb dX10_leastBelow_9 rfl (lv_at hl 3 rfl) ?_
      refine lv_aload_n hx hb dX10_leastBelow_10 rfl (lv_at hl 0 rfl) ?_
      refine tk_getA hC hK hw hT hinX10 kC_at158 (by decide) rfl 0 (by decide) (List.mem_cons_of_mem _ uw_6_6) rfl rfl dX10_leastBelow_11 ?_
      refine tk_geti hC hK hw hT hinX5 kC_at38 (by decide) rfl 10 (by decide) (List.mem_cons_of_mem _ uw_60_6) rfl rfl dX10_leastBelow_14 (fun x8 c9 rx8 tx8 => ?_)
      refine lv_icmp_ge (tgt := 36) hx hb dX10_leastBelow_17 (by decide) (fun c10 => ?_) (fun c10 => ?_)
      · have c10 : x8.toInt ≤ v9_3.toInt := wk_le.mp c10
        refine lv_iload_n hx hb dX10_leastBelow_36 rfl (lv_at hl 1 rfl) ?_
        refine lv_if_gt (tgt := 42) hx hb dX10_leastBelow_37 (by decide) (fun c11 => ?_) (fun c11 => ?_)
        · have c11 : (0 : Int) < a1.toInt := wk_lt.mp c11
          refine lv_aload_n hx hb dX10_leastBelow_42 rfl (lv_at hl 0 rfl) ?_
          refine lv_iload_n hx hb dX10_leastBelow_43 rfl (lv_at hl 1 rfl) ?_
          refine lv_iconst (v := 1) hx hb dX10_leastBelow_44 (by decide) ?_
          refine lv_isub hx hb dX10_leastBelow_45 ?_
          refine lv_topi (fun x12 ex12 => ?_)
          have ex12 : x12.toInt = a1.toInt - (1 : Int) := by rw [ex12]; exact wk_sub (show (-2147483648) ≤ a1.toInt - (1 : Int) by omega) (show a1.toInt - (1 : Int) ≤ 2147483647 by omega)
          refine lv_iload_n hx hb dX10_leastBelow_46 rfl (lv_at hl 2 rfl) ?_
          refine tk_Vi hC hK hw hT hA hE hSR kC_at158 (by decide) rfl (k_X10_leastBelow_6 l adK adV dC dI cy ad B hB0 (Int.le_trans hB1 (by decide)) qr s1   x12 (show 0 ≤ x12.toInt by first | with_reducible assumption | omega) (show x12.toInt ≤ 7 by first | with_reducible assumption | omega) a2 (show 0 ≤ a2.toInt from r4) (show a2.toInt ≤ 8191 from t5) w1 H.size hT ) (cwV 2 hC.2.2.2.2 uV_RX10_72 rfl rfl rfl (by decide +kernel) ⟨Nat.le_of_ble_eq_true rfl, Nat.le_of_ble_eq_true rfl⟩) rfl hl.1 rfl (Nat.le_of_ble_eq_true rfl) dX10_leastBelow_47 (fun r13 w15 H locs hp14 hw => ?_)
          obtain ⟨hT, k16, hg21⟩ := hp14
          have hF := hF.tr k16 (by decide)
          have c22 := k16.gi kC_at38 (by decide) c9
          rcases hg21 with ⟨g17, g18⟩ | ⟨rfl, ⟨x19, c20, rx19, tx19⟩⟩
          · refine lv_istore_n (lv' := [(3, .int r13), (0, .ref (ad 158)), (1, .int a1), (2, .int a2)]) hx hb dX10_leastBelow_50 rfl hl (by decide) rfl (fun ls hl => ?_)
            refine lv_iload_n hx hb dX10_leastBelow_51 rfl (lv_at hl 0 rfl) ?_
            refine lv_iconst (v := (-1)) hx hb dX10_leastBelow_52 (by decide) ?_
            refine lv_icmp_eq (tgt := 60) hx hb dX10_leastBelow_53 (by decide) (fun c => absurd c (fun h => absurd (show r13.toInt = (-1 : Int) from wk_eq.mp h) (by omega))) (fun _ => ?_)
            refine lv_iload_n hx hb dX10_leastBelow_56 rfl (lv_at hl 0 rfl) ?_
            refine lv_goto (tgt := 74) hx hb dX10_leastBelow_57 (by decide) ?_
            exact tk_iret hC hr hlocks hK ⟨hT, hF, (Or.inl ⟨(show 0 ≤ r13.toInt by first | with_reducible assumption | omega), (show r13.toInt ≤ 8191 by first | with_reducible assumption | omega)⟩)⟩ hw dX10_leastBelow_74
          · have ex19 : x19.toInt = x8.toInt := by rw [← c22.symm.trans c20]
            refine lv_istore_n (lv' := [(3, .int (-1)), (0, .ref (ad 158)), (1, .int a1), (2, .int a2)]) hx hb dX10_leastBelow_50 rfl hl (by decide) rfl (fun ls hl => ?_)
            refine lv_iload_n hx hb dX10_leastBelow_51 rfl (lv_at hl 0 rfl) ?_
            refine lv_iconst (v := (-1)) hx hb dX10_leastBelow_52 (by decide) ?_
            refine lv_icmp_eq (tgt := 60) hx hb dX10_leastBelow_53 (by decide) (fun _ => ?_) (fun c => absurd (by decide) c)
            refine lv_aload_n hx hb dX10_leastBelow_60 rfl (lv_at hl 1 rfl) ?_
            refine lv_iload_n hx hb dX10_leastBelow_61 rfl (lv_at hl 2 rfl) ?_
            refine lv_iconst (v := 1) hx hb dX10_leastBelow_62 (by decide) ?_
            refine lv_isub hx hb dX10_leastBelow_63 ?_
            refine lv_topi (fun x23 ex23 => ?_)
            have ex23 : x23.toInt = a1.toInt - (1 : Int) := by rw [ex23]; exact wk_sub (show (-2147483648) ≤ a1.toInt - (1 : Int) by omega) (show a1.toInt - (1 : Int) ≤ 2147483647 by omega)
            refine lv_iload_n hx hb dX10_leastBelow_64 rfl (lv_at hl 3 rfl) ?_
            refine lv_iconst (v := 1) hx hb dX10_leastBelow_65 (by decide) ?_
            refine lv_iload_n hx hb dX10_leastBelow_66 rfl (lv_at hl 2 rfl) ?_
            refine lv_iconst (v := 1) hx hb dX10_leastBelow_67 (by decide) ?_
            refine lv_isub hx hb dX10_leastBelow_68 ?_
            refine lv_topi (fun x24 ex24 => ?_)
            have ex24 : x24.toInt = a1.toInt - (1 : Int) := by rw [ex24]; exact wk_sub (show (-2147483648) ≤ a1.toInt - (1 : Int) by omega) (show a1.toInt - (1 : Int) ≤ 2147483647 by omega)
            refine lv_ishl hx hb dX10_leastBelow_69 ?_
            refine lv_topi (fun x25 ex25 => ?_)
            have bx25 : 1 ≤ x25.toInt ∧ x25.toInt ≤ 128 := by rw [ex25]; exact wk_shl1 7 (by decide) (by omega) (by omega)
            refine lv_ior hx hb dX10_leastBelow_70 ?_
            refine lv_topi (fun x26 ex26 => ?_)
            have bx26 : 0 ≤ x26.toInt ∧ x26.toInt < 8192 := by rw [ex26]; exact wk_or 13 (by decide) (by omega) (by omega) (by omega) (by omega)
            have mx26 : a2.toInt ≤ x26.toInt ∧ x25.toInt ≤ x26.toInt := by rw [ex26]; exact wk_orL 13 (by decide) (by omega) (by omega) (by omega) (by omega)
            refine tk_Vi hC hK hw hT hA hE hSR kC_at158 (by decide) rfl (k_X10_leastBelow_6 l adK adV dC dI cy ad B hB0 (Int.le_trans hB1 (by decide)) qr s1   x23 (show 0 ≤ x23.toInt by first | with_reducible assumption | omega) (show x23.toInt ≤ 7 by first | with_reducible assumption | omega) x26 (show 0 ≤ x26.toInt by first | with_reducible assumption | omega) (show x26.toInt ≤ 8191 by first | with_reducible assumption | omega) w15 H.size hT ) (cwV 2 hC.2.2.2.2 uV_RX10_72 rfl rfl rfl (by decide +kernel) ⟨Nat.le_of_ble_eq_true rfl, Nat.le_of_ble_eq_true rfl⟩) rfl hl.1 rfl (Nat.le_of_ble_eq_true rfl) dX10_leastBelow_71 (fun r27 w29 H locs hp28 hw => ?_)
            obtain ⟨hT, k30, hg35⟩ := hp28
            have hF := hF.tr k30 (by decide)
            have c36 := k30.gi kC_at38 (by decide) c22
            rcases hg35 with ⟨g31, g32⟩ | ⟨rfl, ⟨x33, c34, rx33, tx33⟩⟩
            · exact tk_iret hC hr hlocks hK ⟨hT, hF, (Or.inl ⟨(show 0 ≤ r27.toInt by first | with_reducible assumption | omega), (show r27.toInt ≤ 8191 by first | with_reducible assumption | omega)⟩)⟩ hw dX10_leastBelow_74
            · have ex33 : x33.toInt = x8.toInt := by rw [← c36.symm.trans c34]
              exact tk_iret hC hr hlocks hK ⟨hT, hF, (Or.inr ⟨rfl, ⟨x8, c36, (show 1 ≤ x8.toInt by first | with_reducible assumption | omega), (show x8.toInt ≤ 6 from tx8)⟩⟩)⟩ hw dX10_leastBelow_74
        · have c11 : a1.toInt ≤ (0 : Int) := wk_ltF c11
          refine lv_iload_n hx hb dX10_leastBelow_40 rfl (lv_at hl 2 rfl) ?_
          exact tk_iret hC hr hlocks hK ⟨hT, hF, (Or.inl ⟨(show 0 ≤ a2.toInt from r4), (show a2.toInt ≤ 8191 from t5)⟩)⟩ hw dX10_leastBelow_41
      · have c10 : v9_3.toInt < x8.toInt := wk_leF c10
        refine lv_aload_n hx hb dX10_leastBelow_20 rfl (lv_at hl 0 rfl) ?_
        refine lv_iload_n hx hb dX10_leastBelow_21 rfl (lv_at hl 3 rfl) ?_
        refine tk_Vi hC hK hw hT hA hE hSR kC_at158 (by decide) rfl (k_X10_canDo_1 l adK adV dC dI cy ad B hB0 (Int.le_trans hB1 (by decide)) qr s1   v9_3 (show 0 ≤ v9_3.toInt from r6) (show v9_3.toInt ≤ 5 by first | with_reducible assumption | omega) w1 H.size hT ) (cwV 1 hC.2.2.2.2 uV_RX10_49 rfl rfl rfl (by decide +kernel) ⟨Nat.le_of_ble_eq_true rfl, Nat.le_of_ble_eq_true rfl⟩) rfl hl.1 rfl (Nat.le_of_ble_eq_true rfl) dX10_leastBelow_22 (fun r37 w39 H locs hp38 hw => ?_)
        obtain ⟨hT, k40, hg41⟩ := hp38
        have hF := hF.tr k40 (by decide)
        have c42 := k40.gi kC_at38 (by decide) c9
        rcases hg41 with rfl | rfl
        · refine lv_if_ne (tgt := 30) hx hb dX10_leastBelow_25 (by decide) (fun c => absurd (by decide) c) (fun _ => ?_)
          refine lv_iconst (v := (-1)) hx hb dX10_leastBelow_28 (by decide) ?_
          exact tk_iret hC hr hlocks hK ⟨hT, hF, (Or.inr ⟨rfl, ⟨x8, c42, (show 1 ≤ x8.toInt by first | with_reducible assumption | omega), (show x8.toInt ≤ 6 from tx8)⟩⟩)⟩ hw dX10_leastBelow_29
        · refine lv_if_ne (tgt := 30) hx hb dX10_leastBelow_25 (by decide) (fun _ => ?_) (fun c => absurd c (by decide))
          obtain ⟨x43, ex43⟩ : ∃ y : Int32, y = v9_3 + Int32.ofInt 1 := ⟨_, rfl⟩
          refine lv_iinc (v := x43) (lv' := [(3, .int x43), (0, .ref (ad 158)), (1, .int a1), (2, .int a2)]) hx hb dX10_leastBelow_30 hl (k := 3) rfl ex43.symm (by decide) rfl (fun ls hl => ?_)
          have ex43 : x43.toInt = v9_3.toInt + 1 := by rw [ex43]; exact wk_add (y := 1) (show -2147483648 ≤ v9_3.toInt + 1 by omega) (show v9_3.toInt + 1 ≤ 2147483647 by omega)
          refine lv_goto (tgt := 9) hx hb dX10_leastBelow_33 (by decide) ?_
          exact ih9 x43 H locs ls w39 (show 0 ≤ a1.toInt from r2) (show a1.toInt ≤ 8 from t3) (show 0 ≤ a2.toInt from r4) (show a2.toInt ≤ 8191 from t5) (show 0 ≤ x43.toInt by first | with_reducible assumption | omega) (show x43.toInt ≤ 6 by first | with_reducible assumption | omega) (show (6 - x43.toInt).toNat < n9 by first | exact tn_lt hm9 (by omega) (by omega) | omega) hw hT hF  (lv_sub hl [1, 2, 3, 0] rfl)
  refine lv_aload_n hx hb dX10_leastBelow_0 rfl (lv_at hl 0 rfl) ?_
  refine lv_iload_n hx hb dX10_leastBelow_1 rfl (lv_at hl 1 rfl) ?_
  refine lv_iload_n hx hb dX10_leastBelow_2 rfl (lv_at hl 2 rfl) ?_
  refine lv_iconst (v := (-1)) hx hb dX10_leastBelow_3 (by decide) ?_
  refine tk_Vv hC hK hw hT hA hE hSR kC_at158 (by decide) rfl (k_X10_layRoads_1 l adK adV dC dI cy ad B hB0 (Int.le_trans hB1 (by decide)) qr s1   a1 (show 0 ≤ a1.toInt from ra1) (show a1.toInt ≤ 12 from Int.le_trans ta1 (by decide)) a2 (show 0 ≤ a2.toInt from ra2) (show a2.toInt ≤ 8191 from ta2) ((-1)) (by decide) (by decide) w0 s.heap.size hT ) (cwV 3 hC.2.2.2.2 uV_RX10_42 rfl rfl rfl (by decide +kernel) ⟨Nat.le_of_ble_eq_true rfl, Nat.le_of_ble_eq_true rfl⟩) rfl hl.1 rfl (Nat.le_of_ble_eq_true rfl) dX10_leastBelow_4 (fun w46 H locs hp45 hw => ?_)
  obtain ⟨hT, k47, hg48⟩ := hp45
  have hF := hF.tr k47 (by decide)
  clear hg48
  refine lv_iconst (v := 0) hx hb dX10_leastBelow_7 (by decide) ?_
  refine lv_istore_n (lv' := [(3, .int 0), (0, .ref (ad 158)), (1, .int a1), (2, .int a2)]) hx hb dX10_leastBelow_8 rfl hl (by decide) rfl (fun ls hl => ?_)
  exact L9 ((6 - (0 : Int)).toNat + 1) 0 H locs ls w46 (show 0 ≤ a1.toInt from ra1) (show a1.toInt ≤ 8 from ta1) (show 0 ≤ a2.toInt from ra2) (show a2.toInt ≤ 8191 from ta2) (by decide) (by decide) (Nat.lt_succ_self _) hw hT hF  (lv_sub hl [1, 2, 3, 0] rfl)
