abbrev P_X8_fittingMaps_1 (ad : Nat → Nat) (cy : Nat → ClassId) (B : Int) (qr : Nat) (s1 : Int) (q1_ : Nat) (w0 : va_W) : Int32 → va_W → Prop := fun r u => TW ksC ad cy (B + 3600) qr s1 u ∧ FE ksC [(1, 4, 4), (1, 5, 5), (1, 6, 6), (1, 7, 7), (1, 8, 8), (9, 0, 0), (9, 1, 1), (9, 2, 2), (9, 3, 3), (9, 4, 4), (9, 5, 5), (9, 6, 6), (9, 7, 7), (9, 8, 8), (45, 0, 64)] w0 u ∧ ((0 ≤ r.toInt ∧ r.toInt ≤ 15))
set_option maxHeartbeats 4000000 in
set_option maxRecDepth 100000 in
theorem k_X8_fittingMaps_1 (l : Launch) (adK adV : Nat → Nat) (dC : Nat → ClassId) (dI : Nat → Nat → Nat) (cy : Nat → ClassId) (ad : Nat → Nat) (B : Int) (hB0 : 2147483648 ≤ B) (hB1 : B ≤ 1152921504606843385) (qr : Nat) (s1 : Int)  (q1_ : Nat) (hkq1_ : ksC[q1_]? = some 9) (w0 : va_W) (sz : Nat) (hT : TW ksC ad cy B qr s1 w0)  : Met l yX8_fittingMaps (wu yX8_fittingMaps cX8_fittingMaps 4 (some .int)) ({ frames := 7, cells := 0, slots := 0, locals := 158 }) (va_Pc [.ref (ad 151), .ref (ad q1_)] (wpreS adK adV dC dI cy sz w0)) (va_Qi (P_X8_fittingMaps_1 ad cy B qr s1 q1_ w0) (fun u : va_W => wpost dC dI cy (va_A w0 sz) u) (va_A w0 sz)) 0 0 (va_A w0 sz) := by
  refine Met.ofW (cc := cX8_fittingMaps) (maxL := 4) (ret := (some .int)) (by decide) rfl ?_
  intro p e s m args below meth c s₁ Bk hml hv
  obtain ⟨rfl, ⟨hsz, hP, hK, hD0⟩, hE, hSR⟩ := hv
  have hx := Bk.exec
  have hb := Bk.bytes
  have hr := Bk.returns
  have hlocks := Bk.notSynchronized
  have hC : CallFix p m c cX8_fittingMaps 4 s _ (wu yX8_fittingMaps cX8_fittingMaps 4 (some .int)) RX8 := ⟨hx, hb, hml, findClass_of_methodNamed Bk.named, atoms_spec (ws := (wu yX8_fittingMaps cX8_fittingMaps 4 (some .int))) Bk.pre⟩
  subst hsz
  have hD := hD0.self (sz := s.heap.size)
  generalize hAe : va_A w0 s.heap.size = A at hD hE ⊢
  have hA : ∀ q : Nat, s.heap.size ≤ q → A q := fun q h => by rw [← hAe]; exact Or.inr h
  have hw : Wd dC dI A s.heap s.heap [] w0 := ⟨hP, hD, va_S.rf⟩
  have hF : FE ksC [(1, 4, 4), (1, 5, 5), (1, 6, 6), (1, 7, 7), (1, 8, 8), (9, 0, 0), (9, 1, 1), (9, 2, 2), (9, 3, 3), (9, 4, 4), (9, 5, 5), (9, 6, 6), (9, 7, 7), (9, 8, 8), (45, 0, 64)] w0 w0 := FE.rf
  have hl := lv_entry ([.ref (ad 151), .ref (ad q1_)]) (n := 4) (Nat.le_of_ble_eq_true rfl)
  rw [lg_entry_eq]
  generalize (lg_sl ([.ref (ad 151), .ref (ad q1_)]) ++ List.replicate (4 - (lg_sl ([.ref (ad 151), .ref (ad q1_)])).length) Slot.unset).toArray = ls at hl ⊢
  have hl : lv_has ls 4 [(0, .ref (ad 151)), (1, .ref (ad q1_))] := hl
  generalize hloc : ([] : List Loc) = locs at hw ⊢
  have hinX8 : ∀ w ∈ u_ws RX8 TX8 8, w ∈ (wu yX8_fittingMaps cX8_fittingMaps 4 (some .int)) := fun _ h => List.mem_cons_of_mem _ (up_79 h)
  have hinX5 : ∀ w ∈ u_ws RX5 TX5 14, w ∈ (wu yX8_fittingMaps cX8_fittingMaps 4 (some .int)) := fun _ h => List.mem_cons_of_mem _ (up_76 h)
  have hinX9 : ∀ w ∈ u_ws RX9 TX9 9, w ∈ (wu yX8_fittingMaps cX8_fittingMaps 4 (some .int)) := fun _ h => List.mem_cons_of_mem _ (up_82 h)
  have L4 : ∀ (n4 : Nat) (v4_2 : Int32) (v4_3 : Int32) (H : Heap) (locs : List Loc) (ls : Array Slot) (w1 : va_W), 0 ≤ v4_2.toInt → v4_2.toInt ≤ 15 → 0 ≤ v4_3.toInt → v4_3.toInt ≤ 4 → (4 - v4_3.toInt).toNat < n4 → Wd dC dI A s.heap H locs w1 → TW ksC ad cy (B + 0 + 900 * v4_3.toInt) qr s1 w1 → FE ksC [(1, 4, 4), (1, 5, 5), (1, 6, 6), (1, 7, 7), (1, 8, 8), (9, 0, 0), (9, 1, 1), (9, 2, 2), (9, 3, 3), (9, 4, 4), (9, 5, 5), (9, 6, 6), (9, 7, 7), (9, 8, 8), (45, 0, 64)] w0 w1 → lv_has ls 4 [(0, .ref (ad 151)), (1, .ref (ad q1_)), (2, .int v4_2), (3, .int v4_3)] → W p l e ({ frames := 7, cells := 0, slots := 0, locals := 158 }) s m (List.toArray [.ref (ad 151), .ref (ad q1_)]) below meth c H locs 0 0 (MQ below (va_Qi (P_X8_fittingMaps_1 ad cy B qr s1 q1_ w0) (fun u : va_W => wpost dC dI cy A u) A) (List.toArray [.ref (ad 151), .ref (ad q1_)]) s 0 0 A) (F0 m 4 ls []) := by
    intro n4
    induction n4 with
    | zero => intro v4_2 v4_3 H locs ls w1 r2 t3 r4 t5 hm4 hw hT hF hl; omega
    | succ n4 ih4 =>
      intro v4_2 v4_3 H locs ls w1 r2 t3 r4 t5 hm4 hw hT hF hl
      have J44 : ∀ (v44_2 : Int32) (f44_38_8 : Int32) (H : Heap) (locs : List Loc) (ls : Array Slot) (w6 : va_W), 0 ≤ v44_2.toInt → v44_2.toInt ≤ 15 → 0 ≤ v4_3.toInt → v4_3.toInt ≤ 3 → 0 ≤ v4_3.toInt → v4_3.toInt ≤ 3 → 1 ≤ f44_38_8.toInt → f44_38_8.toInt ≤ 4 → Wd dC dI A s.heap H locs w6 → TW ksC ad cy (B + 900 + 900 * v4_3.toInt) qr s1 w6 → FE ksC [(1, 4, 4), (1, 5, 5), (1, 6, 6), (1, 7, 7), (1, 8, 8), (9, 0, 0), (9, 1, 1), (9, 2, 2), (9, 3, 3), (9, 4, 4), (9, 5, 5), (9, 6, 6), (9, 7, 7), (9, 8, 8), (45, 0, 64)] w0 w6 → gi w6 152 2 = v4_3 → gi w6 38 8 = f44_38_8 → lv_has ls 4 [(0, .ref (ad 151)), (1, .ref (ad q1_)), (2, .int v44_2), (3, .int v4_3)] → W p l e ({ frames := 7, cells := 0, slots := 0, locals := 158 }) s m (List.toArray [.ref (ad 151), .ref (ad q1_)]) below meth c H locs 0 0 (MQ below (va_Qi (P_X8_fittingMaps_1 ad cy B qr s1 q1_ w0) (fun u : va_W => wpost dC dI cy A u) A) (List.toArray [.ref (ad 151), .ref (ad q1_)]) s 0 0 A) (F0 m 44 ls []) := by
        intro v44_2 f44_38_8 H locs ls w6 r7 t8 r9 t10 r11 t12 r14 t15 hw hT hF c13 c16 hl
        obtain ⟨x17, ex17⟩ : ∃ y : Int32, y = v4_3 + Int32.ofInt 1 := ⟨_, rfl⟩
        refine lv_iinc (v := x17) (lv' := [(3, .int x17), (0, .ref (ad 151)), (1, .ref (ad q1_)), (2, .int v44_2)]) hx hb dX8_fittingMaps_44 hl (k := 3) rfl ex17.symm (by decide) rfl (fun ls hl => ?_)
        have ex17 : x17.toInt = v4_3.toInt + 1 := by rw [ex17]; exact wk_add (y := 1) (show -2147483648 ≤ v4_3.toInt + 1 by omega) (show v4_3.toInt + 1 ≤ 2147483647 by omega)
        refine lv_goto (tgt := 4) hx hb dX8_fittingMaps_47 (by decide) ?_
        exact ih4 v44_2 x17 H locs ls w6 (show 0 ≤ v44_2.toInt from r7) (show v44_2.toInt ≤ 15 from t8) (show 0 ≤ x17.toInt by first | with_reducible assumption | omega) (show x17.toInt ≤ 4 by first | with_reducible assumption | omega) (show (4 - x17.toInt).toNat < n4 by first | exact tn_lt hm4 (by omega) (by omega) | omega) hw (hT.up (show (B + 900 + 900 * v4_3.toInt) ≤ (B + 0 + 900 * x17.toInt) by omega)) hF  (lv_sub hl [1, 2, 3, 0] rfl)
      refine lv_iload_n hx hb dX8_fittingMaps_4 rfl (lv_at hl 3 rfl) ?_
      refine lv_aload_n hx hb dX8_fittingMaps_5 rfl (lv_at hl 0 rfl) ?_
      refine tk_getA hC hK hw hT hinX8 kC_at151 (by decide) rfl 0 (by decide) (List.mem_cons_of_mem _ uw_5_11) rfl rfl dX8_fittingMaps_6 ?_
      refine tk_geti hC hK hw hT hinX5 kC_at38 (by decide) rfl 8 (by decide) (List.mem_cons_of_mem _ uw_65_2) rfl rfl dX8_fittingMaps_9 (fun x18 c19 rx18 tx18 => ?_)
      refine lv_icmp_ge (tgt := 50) hx hb dX8_fittingMaps_12 (by decide) (fun c20 => ?_) (fun c20 => ?_)
      · have c20 : x18.toInt ≤ v4_3.toInt := wk_le.mp c20
        refine lv_iload_n hx hb dX8_fittingMaps_50 rfl (lv_at hl 2 rfl) ?_
        exact tk_iret hC hr hlocks hK ⟨(hT.up (show (B + 0 + 900 * v4_3.toInt) ≤ (B + 3600) by omega)), hF, ⟨(show 0 ≤ v4_2.toInt from r2), (show v4_2.toInt ≤ 15 from t3)⟩⟩ hw dX8_fittingMaps_51
      · have c20 : v4_3.toInt < x18.toInt := wk_leF c20
        refine lv_aload_n hx hb dX8_fittingMaps_15 rfl (lv_at hl 0 rfl) ?_
        refine tk_getA hC hK hw hT hinX8 kC_at151 (by decide) rfl 3 (by decide) (List.mem_cons_of_mem _ uw_5_8) rfl rfl dX8_fittingMaps_16 ?_
        refine lv_aload_n hx hb dX8_fittingMaps_19 rfl (lv_at hl 1 rfl) ?_
        refine tk_Vv hC hK hw hT hA hE hSR kC_at152 (by decide) rfl (k_X9_copyFrom_1 l adK adV dC dI cy ad (B + 0 + 900 * v4_3.toInt) (by omega) (by omega) qr s1   q1_ hkq1_ w1 H.size hT ) (cwV 1 hC.2.2.2.2 uV_RX8_37 rfl rfl rfl (by decide +kernel) ⟨Nat.le_of_ble_eq_true rfl, Nat.le_of_ble_eq_true rfl⟩) rfl hl.1 rfl (Nat.le_of_ble_eq_true rfl) dX8_fittingMaps_20 (fun w23 H locs hp22 hw => ?_)
        obtain ⟨hT, k24, hg25⟩ := hp22
        have hF := hF.tr k24 (by decide)
        have c26 := k24.gi kC_at38 (by decide) c19
        clear hg25
        refine lv_aload_n hx hb dX8_fittingMaps_23 rfl (lv_at hl 0 rfl) ?_
        refine tk_getA hC hK hw hT hinX8 kC_at151 (by decide) rfl 3 (by decide) (List.mem_cons_of_mem _ uw_5_8) rfl rfl dX8_fittingMaps_24 ?_
        refine lv_iload_n hx hb dX8_fittingMaps_27 rfl (lv_at hl 3 rfl) ?_
        refine tk_puti hC hK hw hT hinX9 tyX9_ok nmX9 kC_at152 (by decide) rfl rfl 2 (by decide) (List.mem_cons_of_mem _ uw_56_13) rfl rfl rfl rfl (show 0 ≤ v4_3.toInt from r4) (show v4_3.toInt ≤ 3 by first | with_reducible assumption | omega) dX8_fittingMaps_28 (fun H locs w27 hw hT k29 c28 => ?_)
        have hF := hF.put kC_at152 (k := 2) (by decide) k29
        have c30 := k29.gi (Or.inr (by decide)) c26
        refine lv_aload_n hx hb dX8_fittingMaps_31 rfl (lv_at hl 0 rfl) ?_
        refine tk_Vi hC hK hw hT hA hE hSR kC_at151 (by decide) rfl (k_X8_ghostComesAsTold_1 l adK adV dC dI cy ad (B + 0 + 900 * v4_3.toInt) (by omega) (by omega) qr s1    w27 H.size hT ) (cwV 0 hC.2.2.2.2 uV_RX8_155 rfl rfl rfl (by decide +kernel) ⟨Nat.le_of_ble_eq_true rfl, Nat.le_of_ble_eq_true rfl⟩) rfl hl.1 rfl (Nat.le_of_ble_eq_true rfl) dX8_fittingMaps_32 (fun r31 w33 H locs hp32 hw => ?_)
        obtain ⟨hT, k34, hg35⟩ := hp32
        have hT := hT.up (B' := (B + 900 + 900 * v4_3.toInt)) (by omega)
        have hF := hF.tr k34 (by decide)
        have c36 := k34.gi kC_at38 (by decide) c30
        have c37 := k34.gi kC_at152 (by decide) c28
        rcases hg35 with rfl | rfl
        · refine lv_if_eq (tgt := 44) hx hb dX8_fittingMaps_35 (by decide) (fun _ => ?_) (fun c => absurd (by decide) c)
          exact J44 v4_2 x18 H locs ls w33 (show 0 ≤ v4_2.toInt from r2) (show v4_2.toInt ≤ 15 from t3) (show 0 ≤ v4_3.toInt from r4) (show v4_3.toInt ≤ 3 by first | with_reducible assumption | omega) (show 0 ≤ v4_3.toInt from r4) (show v4_3.toInt ≤ 3 by first | with_reducible assumption | omega) (show 1 ≤ x18.toInt by first | with_reducible assumption | omega) (show x18.toInt ≤ 4 from tx18)  hw hT hF c37 c36 (lv_sub hl [0, 1, 2, 3] rfl)
        · refine lv_if_eq (tgt := 44) hx hb dX8_fittingMaps_35 (by decide) (fun c => absurd c (by decide)) (fun _ => ?_)
          refine lv_iload_n hx hb dX8_fittingMaps_38 rfl (lv_at hl 2 rfl) ?_
          refine lv_iconst (v := 1) hx hb dX8_fittingMaps_39 (by decide) ?_
          refine lv_iload_n hx hb dX8_fittingMaps_40 rfl (lv_at hl 3 rfl) ?_
          refine lv_ishl hx hb dX8_fittingMaps_41 ?_
          refine lv_topi (fun x38 ex38 => ?_)
          have bx38 : 1 ≤ x38.toInt ∧ x38.toInt ≤ 8 := by rw [ex38]; exact wk_shl1 3 (by decide) (by omega) (by omega)
          refine lv_ior hx hb dX8_fittingMaps_42 ?_
          refine lv_topi (fun x39 ex39 => ?_)
          have bx39 : 0 ≤ x39.toInt ∧ x39.toInt < 16 := by rw [ex39]; exact wk_or 4 (by decide) (by omega) (by omega) (by omega) (by omega)
          have mx39 : v4_2.toInt ≤ x39.toInt ∧ x38.toInt ≤ x39.toInt := by rw [ex39]; exact wk_orL 4 (by decide) (by omega) (by omega) (by omega) (by omega)
          refine lv_istore_n (lv' := [(2, .int x39), (0, .ref (ad 151)), (1, .ref (ad q1_)), (3, .int v4_3)]) hx hb dX8_fittingMaps_43 rfl hl (by decide) rfl (fun ls hl => ?_)
          exact J44 x39 x18 H locs ls w33 (show 0 ≤ x39.toInt by first | with_reducible assumption | omega) (show x39.toInt ≤ 15 by first | with_reducible assumption | omega) (show 0 ≤ v4_3.toInt from r4) (show v4_3.toInt ≤ 3 by first | with_reducible assumption | omega) (show 0 ≤ v4_3.toInt from r4) (show v4_3.toInt ≤ 3 by first | with_reducible assumption | omega) (show 1 ≤ x18.toInt by first | with_reducible assumption | omega) (show x18.toInt ≤ 4 from tx18)  hw hT hF c37 c36 (lv_sub hl [1, 2, 0, 3] rfl)
  refine lv_iconst (v := 0) hx hb dX8_fittingMaps_0 (by decide) ?_
  refine lv_istore_n (lv' := [(2, .int 0), (0, .ref (ad 151)), (1, .ref (ad q1_))]) hx hb dX8_fittingMaps_1 rfl hl (by decide) rfl (fun ls hl => ?_)
  refine lv_iconst (v := 0) hx hb dX8_fittingMaps_2 (by decide) ?_
  refine lv_istore_n (lv' := [(3, .int 0), (2, .int 0), (0, .ref (ad 151)), (1, .ref (ad q1_))]) hx hb dX8_fittingMaps_3 rfl hl (by decide) rfl (fun ls hl => ?_)
  exact L4 ((4 - (0 : Int)).toNat + 1) 0 0 s.heap locs ls w0 (by decide) (by decide) (by decide) (by decide) (Nat.lt_succ_self _) hw (hT.up (show B ≤ (B + 0 + 900 * (0 : Int32).toInt) by rw [show (0 : Int32).toInt = 0 by decide]; omega)) hF  (lv_sub hl [2, 3, 1, 0] rfl)
abbrev P_X11_had_1 (ad : Nat → Nat) (cy : Nat → ClassId) (B : Int) (qr : Nat) (s1 : Int) (a1 : Int32) (w0 : va_W) : Int32 → va_W → Prop := fun r u => TW ksC ad cy (B + 3600) qr s1 u ∧ FA ksC [(1, 4, 4), (1, 5, 5), (1, 6, 6), (1, 7, 7), (1, 8, 8), (9, 0, 0), (9, 1, 1), (9, 2, 2), (9, 3, 3), (9, 4, 4), (9, 5, 5), (9, 6, 6), (9, 7, 7), (9, 8, 8), (42, 0, 1100), (43, 0, 1100), (44, 0, 11), (45, 0, 64)] w0 u ∧ ((0 ≤ r.toInt ∧ r.toInt ≤ 15 ∧ 0 ≤ a1.toInt ∧ a1.toInt ≤ 3 ∧ (∃ y : Int32, gi u 38 9 = y ∧ 1 ≤ y.toInt ∧ y.toInt ≤ 4)) ∨ (r = (-1)))
set_option maxHeartbeats 4000000 in
set_option maxRecDepth 100000 in
theorem k_X11_had_1 (l : Launch) (adK adV : Nat → Nat) (dC : Nat → ClassId) (dI : Nat → Nat → Nat) (cy : Nat → ClassId) (ad : Nat → Nat) (B : Int) (hB0 : 2147483648 ≤ B) (hB1 : B ≤ 1152921504606843385) (qr : Nat) (s1 : Int)  (a1 : Int32) (w0 : va_W) (sz : Nat) (hT : TW ksC ad cy B qr s1 w0)  : Met l yX11_had (wu yX11_had cX11_had 2 (some .int)) ({ frames := 8, cells := 0, slots := 0, locals := 181 }) (va_Pc [.ref (ad 0), .int a1] (wpreS adK adV dC dI cy sz w0)) (va_Qi (P_X11_had_1 ad cy B qr s1 a1 w0) (fun u : va_W => wpost dC dI cy (va_A w0 sz) u) (va_A w0 sz)) 0 0 (va_A w0 sz) := by
  refine Met.ofW (cc := cX11_had) (maxL := 2) (ret := (some .int)) (by decide) rfl ?_
  intro p e s m args below meth c s₁ Bk hml hv
  obtain ⟨rfl, ⟨hsz, hP, hK, hD0⟩, hE, hSR⟩ := hv
  have hx := Bk.exec
  have hb := Bk.bytes
  have hr := Bk.returns
  have hlocks := Bk.notSynchronized
  have hC : CallFix p m c cX11_had 2 s _ (wu yX11_had cX11_had 2 (some .int)) RX11 := ⟨hx, hb, hml, findClass_of_methodNamed Bk.named, atoms_spec (ws := (wu yX11_had cX11_had 2 (some .int))) Bk.pre⟩
  subst hsz
  have hD := hD0.self (sz := s.heap.size)
  generalize hAe : va_A w0 s.heap.size = A at hD hE ⊢
  have hA : ∀ q : Nat, s.heap.size ≤ q → A q := fun q h => by rw [← hAe]; exact Or.inr h
  have hw : Wd dC dI A s.heap s.heap [] w0 := ⟨hP, hD, va_S.rf⟩
  have hF : FA ksC [(1, 4, 4), (1, 5, 5), (1, 6, 6), (1, 7, 7), (1, 8, 8), (9, 0, 0), (9, 1, 1), (9, 2, 2), (9, 3, 3), (9, 4, 4), (9, 5, 5), (9, 6, 6), (9, 7, 7), (9, 8, 8), (42, 0, 1100), (43, 0, 1100), (44, 0, 11), (45, 0, 64)] w0 w0 := FA.rf
  have hl := lv_entry ([.ref (ad 0), .int a1]) (n := 2) (Nat.le_of_ble_eq_true rfl)
  rw [lg_entry_eq]
  generalize (lg_sl ([.ref (ad 0), .int a1]) ++ List.replicate (2 - (lg_sl ([.ref (ad 0), .int a1])).length) Slot.unset).toArray = ls at hl ⊢
  have hl : lv_has ls 2 [(0, .ref (ad 0)), (1, .int a1)] := hl
  generalize hloc : ([] : List Loc) = locs at hw ⊢
  have hinX11 : ∀ w ∈ u_ws RX11 TX11 13, w ∈ (wu yX11_had cX11_had 2 (some .int)) := fun _ h => List.mem_cons_of_mem _ (up_70 h)
  have hinX5 : ∀ w ∈ u_ws RX5 TX5 14, w ∈ (wu yX11_had cX11_had 2 (some .int)) := fun _ h => List.mem_cons_of_mem _ (up_76 h)
  refine lv_aload_n hx hb dX11_had_0 rfl (lv_at hl 0 rfl) ?_
  refine lv_iload_n hx hb dX11_had_1 rfl (lv_at hl 1 rfl) ?_
  refine tk_Vi hC hK hw hT hA hE hSR kC_at0 (by decide) rfl (k_X11_hasWalker_1 l adK adV dC dI cy ad B hB0 (Int.le_trans hB1 (by decide)) qr s1   a1 w0 s.heap.size hT ) (cwV 1 hC.2.2.2.2 uV_RX11_205 rfl rfl rfl (by decide +kernel) ⟨Nat.le_of_ble_eq_true rfl, Nat.le_of_ble_eq_true rfl⟩) rfl hl.1 rfl (Nat.le_of_ble_eq_true rfl) dX11_had_2 (fun r1 w3 H locs hp2 hw => ?_)
  obtain ⟨hT, k4, hg9⟩ := hp2
  have hF := hF.tr k4 (by decide)
  rcases hg9 with rfl | ⟨rfl, g5, g6, ⟨x7, c8, rx7, tx7⟩⟩
  · refine lv_if_ne (tgt := 10) hx hb dX11_had_5 (by decide) (fun c => absurd (by decide) c) (fun _ => ?_)
    refine lv_iconst (v := (-1)) hx hb dX11_had_8 (by decide) ?_
    exact tk_iret hC hr hlocks hK ⟨(hT.up (show B ≤ (B + 3600) by omega)), hF, (Or.inr rfl)⟩ hw dX11_had_9
  · refine lv_if_ne (tgt := 10) hx hb dX11_had_5 (by decide) (fun _ => ?_) (fun c => absurd c (by decide))
    refine lv_aload_n hx hb dX11_had_10 rfl (lv_at hl 0 rfl) ?_
    refine tk_getA hC hK hw hT hinX11 kC_at0 (by decide) rfl 7 (by decide) (List.mem_cons_of_mem _ uw_1_14) rfl rfl dX11_had_11 ?_
    refine tk_Vv hC hK hw hT hA hE hSR kC_at145 (by decide) rfl (kz_X0_refreshAll_1 l adK adV dC dI cy ad B hB0 (Int.le_trans hB1 (by decide)) qr s1    w3 H.size hT ) (cwV 0 hC.2.2.2.2 uV_RX11_212 rfl rfl rfl (by decide +kernel) ⟨Nat.le_of_ble_eq_true rfl, Nat.le_of_ble_eq_true rfl⟩) rfl hl.1 rfl (Nat.le_of_ble_eq_true rfl) dX11_had_14 (fun w12 H locs hp11 hw => ?_)
    obtain ⟨hT, k13, hev, hg14⟩ := hp11
    have hF := hF.ra k13 hev (by decide)
    have c15 := k13.gi kC_at38 (by decide) c8
    clear hg14
    refine lv_aload_n hx hb dX11_had_17 rfl (lv_at hl 0 rfl) ?_
    refine tk_getA hC hK hw hT hinX11 kC_at0 (by decide) rfl 9 (by decide) (List.mem_cons_of_mem _ uw_1_22) rfl rfl dX11_had_18 ?_
    refine lv_aload_n hx hb dX11_had_21 rfl (lv_at hl 0 rfl) ?_
    refine tk_getA hC hK hw hT hinX11 kC_at0 (by decide) rfl 4 (by decide) (List.mem_cons_of_mem _ uw_1_7) rfl rfl dX11_had_22 ?_
    refine tk_getO hC hK hw hT hinX5 kC_at38 (by decide) rfl 2 (by decide) (List.mem_cons_of_mem _ uw_39_0) rfl rfl dX11_had_25 ?_
    refine lv_iload_n hx hb dX11_had_28 rfl (lv_at hl 1 rfl) ?_
    refine tk_aald hC hK hw hT kC_at49 rfl (by decide) rfl (show 0 ≤ a1.toInt by first | with_reducible assumption | omega) (show a1.toInt < 4 by first | with_reducible assumption | omega) dX11_had_29 (fun j16 hj16 gj16 => ?_)
    refine tk_Vi hC hK hw hT hA hE hSR kC_at151 (by decide) rfl (k_X8_fittingMaps_1 l adK adV dC dI cy ad B hB0 (Int.le_trans hB1 (by decide)) qr s1   (el 33 49 j16) (kC_el33 kC_at49 hj16) w12 H.size hT ) (cwV 1 hC.2.2.2.2 uV_RX11_288 rfl rfl rfl (by decide +kernel) ⟨Nat.le_of_ble_eq_true rfl, Nat.le_of_ble_eq_true rfl⟩) rfl hl.1 rfl (Nat.le_of_ble_eq_true rfl) dX11_had_30 (fun r17 w19 H locs hp18 hw => ?_)
    obtain ⟨hT, k20, hg23⟩ := hp18
    have hF := hF.tr k20 (by decide)
    have c24 := k20.gi kC_at38 (by decide) c15
    obtain ⟨g21, g22⟩ := hg23
    exact tk_iret hC hr hlocks hK ⟨hT, hF, (Or.inl ⟨(show 0 ≤ r17.toInt by first | with_reducible assumption | omega), (show r17.toInt ≤ 15 by first | with_reducible assumption | omega), (show 0 ≤ a1.toInt by first | with_reducible assumption | omega), (show a1.toInt ≤ 3 by first | with_reducible assumption | omega), ⟨x7, c24, (show 1 ≤ x7.toInt by first | with_reducible assumption | omega), (show x7.toInt ≤ 4 by first | with_reducible assumption | omega)⟩⟩)⟩ hw dX11_had_33
abbrev P_X11_count_1 (ad : Nat → Nat) (cy : Nat → ClassId) (B : Int) (qr : Nat) (s1 : Int) (a1 : Int32) (w0 : va_W) : Int32 → va_W → Prop := fun r u => TW ksC ad cy B qr s1 u ∧ FE ksC ([] : List (Nat × Nat × Nat)) w0 u ∧ (((-1) ≤ r.toInt ∧ r.toInt ≤ 10 ∧ 0 ≤ a1.toInt ∧ a1.toInt ≤ 0) ∨ (0 ≤ r.toInt ∧ 1 ≤ a1.toInt ∧ a1.toInt ≤ 11) ∨ (r = (-1)))
set_option maxHeartbeats 4000000 in
set_option maxRecDepth 100000 in
theorem k_X11_count_1 (l : Launch) (adK adV : Nat → Nat) (dC : Nat → ClassId) (dI : Nat → Nat → Nat) (cy : Nat → ClassId) (ad : Nat → Nat) (B : Int) (hB0 : 2147483648 ≤ B) (hB1 : B ≤ 1152921504606846976) (qr : Nat) (s1 : Int)  (a1 : Int32) (w0 : va_W) (sz : Nat) (hT : TW ksC ad cy B qr s1 w0)  : Met l yX11_count (wu yX11_count cX11_count 2 (some .int)) ({ frames := 1, cells := 0, slots := 0, locals := 12 }) (va_Pc [.ref (ad 0), .int a1] (wpreS adK adV dC dI cy sz w0)) (va_Qi (P_X11_count_1 ad cy B qr s1 a1 w0) (fun u : va_W => wpost dC dI cy (va_A w0 sz) u) (va_A w0 sz)) 0 0 (va_A w0 sz) := by
  refine Met.ofW (cc := cX11_count) (maxL := 2) (ret := (some .int)) (by decide) rfl ?_
  intro p e s m args below meth c s₁ Bk hml hv
  obtain ⟨rfl, ⟨hsz, hP, hK, hD0⟩, hE, hSR⟩ := hv
  have hx := Bk.exec
  have hb := Bk.bytes
  have hr := Bk.returns
  have hlocks := Bk.notSynchronized
  have hC : CallFix p m c cX11_count 2 s _ (wu yX11_count cX11_count 2 (some .int)) RX11 := ⟨hx, hb, hml, findClass_of_methodNamed Bk.named, atoms_spec (ws := (wu yX11_count cX11_count 2 (some .int))) Bk.pre⟩
  subst hsz
  have hD := hD0.self (sz := s.heap.size)
  generalize hAe : va_A w0 s.heap.size = A at hD hE ⊢
  have hA : ∀ q : Nat, s.heap.size ≤ q → A q := fun q h => by rw [← hAe]; exact Or.inr h
  have hw : Wd dC dI A s.heap s.heap [] w0 := ⟨hP, hD, va_S.rf⟩
  have hF : FE ksC ([] : List (Nat × Nat × Nat)) w0 w0 := FE.rf
  have hl := lv_entry ([.ref (ad 0), .int a1]) (n := 2) (Nat.le_of_ble_eq_true rfl)
  rw [lg_entry_eq]
  generalize (lg_sl ([.ref (ad 0), .int a1]) ++ List.replicate (2 - (lg_sl ([.ref (ad 0), .int a1])).length) Slot.unset).toArray = ls at hl ⊢
  have hl : lv_has ls 2 [(0, .ref (ad 0)), (1, .int a1)] := hl
  generalize hloc : ([] : List Loc) = locs at hw ⊢
  have hinX11 : ∀ w ∈ u_ws RX11 TX11 13, w ∈ (wu yX11_count cX11_count 2 (some .int)) := fun _ h => List.mem_cons_of_mem _ (up_70 h)
  have hinX5 : ∀ w ∈ u_ws RX5 TX5 14, w ∈ (wu yX11_count cX11_count 2 (some .int)) := fun _ h => List.mem_cons_of_mem _ (up_76 h)
  have hinX7 : ∀ w ∈ u_ws RX7 TX7 12, w ∈ (wu yX11_count cX11_count 2 (some .int)) := fun _ h => List.mem_cons_of_mem _ (up_73 h)
  have hinX6 : ∀ w ∈ u_ws RX6 TX6 5, w ∈ (wu yX11_count cX11_count 2 (some .int)) := fun _ h => List.mem_cons_of_mem _ (up_72 h)
  refine lv_iload_n hx hb dX11_count_0 rfl (lv_at hl 1 rfl) ?_
  rcases (show a1.toInt = 0 ∨ a1.toInt = 1 ∨ a1.toInt = 2 ∨ a1.toInt = 3 ∨ a1.toInt = 4 ∨ a1.toInt = 5 ∨ a1.toInt = 6 ∨ a1.toInt = 7 ∨ a1.toInt = 8 ∨ a1.toInt = 9 ∨ a1.toInt = 10 ∨ a1.toInt = 11 ∨ (a1.toInt < 0 ∨ 11 < a1.toInt) by omega) with c1 | c1 | c1 | c1 | c1 | c1 | c1 | c1 | c1 | c1 | c1 | c1 | c1
  · refine lv_tableIn (off := 63) (tgt := 64) hx hb dX11_count_1 (by omega) (by omega) (by rw [c1]; rfl) (by decide) ?_
    refine lv_aload_n hx hb dX11_count_64 rfl (lv_at hl 0 rfl) ?_
    refine tk_getA hC hK hw hT hinX11 kC_at0 (by decide) rfl 4 (by decide) (List.mem_cons_of_mem _ uw_1_7) rfl rfl dX11_count_65 ?_
    refine tk_getO hC hK hw hT hinX5 kC_at38 (by decide) rfl 0 (by decide) (List.mem_cons_of_mem _ uw_9_1) rfl rfl dX11_count_68 ?_
    refine tk_geti hC hK hw hT hinX7 kC_at39 (by decide) rfl 8 (by decide) (List.mem_cons_of_mem _ uw_35_23) rfl rfl dX11_count_71 (fun x2 c3 rx2 tx2 => ?_)
    exact tk_iret hC hr hlocks hK ⟨hT, hF, (Or.inl ⟨(show (-1) ≤ x2.toInt from rx2), (show x2.toInt ≤ 10 from tx2), (show 0 ≤ a1.toInt by first | with_reducible assumption | omega), (show a1.toInt ≤ 0 by first | with_reducible assumption | omega)⟩)⟩ hw dX11_count_74
  · refine lv_tableIn (off := 74) (tgt := 75) hx hb dX11_count_1 (by omega) (by omega) (by rw [c1]; rfl) (by decide) ?_
    refine lv_aload_n hx hb dX11_count_75 rfl (lv_at hl 0 rfl) ?_
    refine tk_getA hC hK hw hT hinX11 kC_at0 (by decide) rfl 4 (by decide) (List.mem_cons_of_mem _ uw_1_7) rfl rfl dX11_count_76 ?_
    refine tk_getO hC hK hw hT hinX5 kC_at38 (by decide) rfl 0 (by decide) (List.mem_cons_of_mem _ uw_9_1) rfl rfl dX11_count_79 ?_
    refine tk_geti hC hK hw hT hinX7 kC_at39 (by decide) rfl 9 (by decide) (List.mem_cons_of_mem _ uw_9_2) rfl rfl dX11_count_82 (fun x4 c5 rx4 tx4 => ?_)
    exact tk_iret hC hr hlocks hK ⟨hT, hF, (Or.inr (Or.inl ⟨(show 0 ≤ x4.toInt from rx4), (show 1 ≤ a1.toInt by first | with_reducible assumption | omega), (show a1.toInt ≤ 11 by first | with_reducible assumption | omega)⟩))⟩ hw dX11_count_85
  · refine lv_tableIn (off := 85) (tgt := 86) hx hb dX11_count_1 (by omega) (by omega) (by rw [c1]; rfl) (by decide) ?_
    refine lv_aload_n hx hb dX11_count_86 rfl (lv_at hl 0 rfl) ?_
    refine tk_getA hC hK hw hT hinX11 kC_at0 (by decide) rfl 4 (by decide) (List.mem_cons_of_mem _ uw_1_7) rfl rfl dX11_count_87 ?_
    refine tk_getO hC hK hw hT hinX5 kC_at38 (by decide) rfl 0 (by decide) (List.mem_cons_of_mem _ uw_9_1) rfl rfl dX11_count_90 ?_
    refine tk_geti hC hK hw hT hinX7 kC_at39 (by decide) rfl 10 (by decide) (List.mem_cons_of_mem _ uw_68_17) rfl rfl dX11_count_93 (fun x6 c7 rx6 tx6 => ?_)
    exact tk_iret hC hr hlocks hK ⟨hT, hF, (Or.inr (Or.inl ⟨(show 0 ≤ x6.toInt from rx6), (show 1 ≤ a1.toInt by first | with_reducible assumption | omega), (show a1.toInt ≤ 11 by first | with_reducible assumption | omega)⟩))⟩ hw dX11_count_96
  · refine lv_tableIn (off := 96) (tgt := 97) hx hb dX11_count_1 (by omega) (by omega) (by rw [c1]; rfl) (by decide) ?_
    refine lv_aload_n hx hb dX11_count_97 rfl (lv_at hl 0 rfl) ?_
    refine tk_getA hC hK hw hT hinX11 kC_at0 (by decide) rfl 4 (by decide) (List.mem_cons_of_mem _ uw_1_7) rfl rfl dX11_count_98 ?_
    refine tk_getO hC hK hw hT hinX5 kC_at38 (by decide) rfl 0 (by decide) (List.mem_cons_of_mem _ uw_9_1) rfl rfl dX11_count_101 ?_
    refine tk_geti hC hK hw hT hinX7 kC_at39 (by decide) rfl 11 (by decide) (List.mem_cons_of_mem _ uw_68_18) rfl rfl dX11_count_104 (fun x8 c9 rx8 tx8 => ?_)
    exact tk_iret hC hr hlocks hK ⟨hT, hF, (Or.inr (Or.inl ⟨(show 0 ≤ x8.toInt from rx8), (show 1 ≤ a1.toInt by first | with_reducible assumption | omega), (show a1.toInt ≤ 11 by first | with_reducible assumption | omega)⟩))⟩ hw dX11_count_107
  · refine lv_tableIn (off := 107) (tgt := 108) hx hb dX11_count_1 (by omega) (by omega) (by rw [c1]; rfl) (by decide) ?_
    refine lv_aload_n hx hb dX11_count_108 rfl (lv_at hl 0 rfl) ?_
    refine tk_geti hC hK hw hT hinX11 kC_at0 (by decide) rfl 12 (by decide) (List.mem_cons_of_mem _ uw_26_12) rfl rfl dX11_count_109 (fun x10 c11 rx10 tx10 => ?_)
    exact tk_iret hC hr hlocks hK ⟨hT, hF, (Or.inr (Or.inl ⟨(show 0 ≤ x10.toInt from rx10), (show 1 ≤ a1.toInt by first | with_reducible assumption | omega), (show a1.toInt ≤ 11 by first | with_reducible assumption | omega)⟩))⟩ hw dX11_count_112
  · refine lv_tableIn (off := 112) (tgt := 113) hx hb dX11_count_1 (by omega) (by omega) (by rw [c1]; rfl) (by decide) ?_
    refine lv_aload_n hx hb dX11_count_113 rfl (lv_at hl 0 rfl) ?_
    refine tk_getA hC hK hw hT hinX11 kC_at0 (by decide) rfl 4 (by decide) (List.mem_cons_of_mem _ uw_1_7) rfl rfl dX11_count_114 ?_
    refine tk_geti hC hK hw hT hinX5 kC_at38 (by decide) rfl 8 (by decide) (List.mem_cons_of_mem _ uw_33_12) rfl rfl dX11_count_117 (fun x12 c13 rx12 tx12 => ?_)
    exact tk_iret hC hr hlocks hK ⟨hT, hF, (Or.inr (Or.inl ⟨(show 0 ≤ x12.toInt from rx12), (show 1 ≤ a1.toInt by first | with_reducible assumption | omega), (show a1.toInt ≤ 11 by first | with_reducible assumption | omega)⟩))⟩ hw dX11_count_120
  · refine lv_tableIn (off := 120) (tgt := 121) hx hb dX11_count_1 (by omega) (by omega) (by rw [c1]; rfl) (by decide) ?_
    refine lv_aload_n hx hb dX11_count_121 rfl (lv_at hl 0 rfl) ?_
    refine tk_getA hC hK hw hT hinX11 kC_at0 (by decide) rfl 4 (by decide) (List.mem_cons_of_mem _ uw_1_7) rfl rfl dX11_count_122 ?_
    refine tk_geti hC hK hw hT hinX5 kC_at38 (by decide) rfl 9 (by decide) (List.mem_cons_of_mem _ uw_38_23) rfl rfl dX11_count_125 (fun x14 c15 rx14 tx14 => ?_)
    exact tk_iret hC hr hlocks hK ⟨hT, hF, (Or.inr (Or.inl ⟨(show 0 ≤ x14.toInt from rx14), (show 1 ≤ a1.toInt by first | with_reducible assumption | omega), (show a1.toInt ≤ 11 by first | with_reducible assumption | omega)⟩))⟩ hw dX11_count_128
  · refine lv_tableIn (off := 128) (tgt := 129) hx hb dX11_count_1 (by omega) (by omega) (by rw [c1]; rfl) (by decide) ?_
    refine lv_aload_n hx hb dX11_count_129 rfl (lv_at hl 0 rfl) ?_
    refine tk_getA hC hK hw hT hinX11 kC_at0 (by decide) rfl 4 (by decide) (List.mem_cons_of_mem _ uw_1_7) rfl rfl dX11_count_130 ?_
    refine tk_geti hC hK hw hT hinX5 kC_at38 (by decide) rfl 10 (by decide) (List.mem_cons_of_mem _ uw_59_8) rfl rfl dX11_count_133 (fun x16 c17 rx16 tx16 => ?_)
    exact tk_iret hC hr hlocks hK ⟨hT, hF, (Or.inr (Or.inl ⟨(show 0 ≤ x16.toInt from rx16), (show 1 ≤ a1.toInt by first | with_reducible assumption | omega), (show a1.toInt ≤ 11 by first | with_reducible assumption | omega)⟩))⟩ hw dX11_count_136
  · refine lv_tableIn (off := 136) (tgt := 137) hx hb dX11_count_1 (by omega) (by omega) (by rw [c1]; rfl) (by decide) ?_
    refine lv_aload_n hx hb dX11_count_137 rfl (lv_at hl 0 rfl) ?_
    refine tk_getA hC hK hw hT hinX11 kC_at0 (by decide) rfl 4 (by decide) (List.mem_cons_of_mem _ uw_1_7) rfl rfl dX11_count_138 ?_
    refine tk_geti hC hK hw hT hinX5 kC_at38 (by decide) rfl 11 (by decide) (List.mem_cons_of_mem _ uw_62_14) rfl rfl dX11_count_141 (fun x18 c19 rx18 tx18 => ?_)
    exact tk_iret hC hr hlocks hK ⟨hT, hF, (Or.inr (Or.inl ⟨(show 0 ≤ x18.toInt from rx18), (show 1 ≤ a1.toInt by first | with_reducible assumption | omega), (show a1.toInt ≤ 11 by first | with_reducible assumption | omega)⟩))⟩ hw dX11_count_144
  · refine lv_tableIn (off := 144) (tgt := 145) hx hb dX11_count_1 (by omega) (by omega) (by rw [c1]; rfl) (by decide) ?_
    refine lv_aload_n hx hb dX11_count_145 rfl (lv_at hl 0 rfl) ?_
    refine tk_getA hC hK hw hT hinX11 kC_at0 (by decide) rfl 4 (by decide) (List.mem_cons_of_mem _ uw_1_7) rfl rfl dX11_count_146 ?_
    refine tk_geti hC hK hw hT hinX5 kC_at38 (by decide) rfl 12 (by decide) (List.mem_cons_of_mem _ uw_64_12) rfl rfl dX11_count_149 (fun x20 c21 rx20 tx20 => ?_)
    exact tk_iret hC hr hlocks hK ⟨hT, hF, (Or.inr (Or.inl ⟨(show 0 ≤ x20.toInt from rx20), (show 1 ≤ a1.toInt by first | with_reducible assumption | omega), (show a1.toInt ≤ 11 by first | with_reducible assumption | omega)⟩))⟩ hw dX11_count_152
  · refine lv_tableIn (off := 152) (tgt := 153) hx hb dX11_count_1 (by omega) (by omega) (by rw [c1]; rfl) (by decide) ?_
    refine lv_aload_n hx hb dX11_count_153 rfl (lv_at hl 0 rfl) ?_
    refine tk_getA hC hK hw hT hinX11 kC_at0 (by decide) rfl 4 (by decide) (List.mem_cons_of_mem _ uw_1_7) rfl rfl dX11_count_154 ?_
    refine tk_geti hC hK hw hT hinX5 kC_at38 (by decide) rfl 13 (by decide) (List.mem_cons_of_mem _ uw_67_0) rfl rfl dX11_count_157 (fun x22 c23 rx22 tx22 => ?_)
    exact tk_iret hC hr hlocks hK ⟨hT, hF, (Or.inr (Or.inl ⟨(show 0 ≤ x22.toInt from rx22), (show 1 ≤ a1.toInt by first | with_reducible assumption | omega), (show a1.toInt ≤ 11 by first | with_reducible assumption | omega)⟩))⟩ hw dX11_count_160
  · refine lv_tableIn (off := 160) (tgt := 161) hx hb dX11_count_1 (by omega) (by omega) (by rw [c1]; rfl) (by decide) ?_
    refine lv_aload_n hx hb dX11_count_161 rfl (lv_at hl 0 rfl) ?_
    refine tk_getA hC hK hw hT hinX11 kC_at0 (by decide) rfl 0 (by decide) (List.mem_cons_of_mem _ uw_0_15) rfl rfl dX11_count_162 ?_
    refine tk_geti hC hK hw hT hinX6 kC_at1 (by decide) rfl 2 (by decide) (List.mem_cons_of_mem _ uw_7_17) rfl rfl dX11_count_165 (fun x24 c25 rx24 tx24 => ?_)
    exact tk_iret hC hr hlocks hK ⟨hT, hF, (Or.inr (Or.inl ⟨(show 0 ≤ x24.toInt from rx24), (show 1 ≤ a1.toInt by first | with_reducible assumption | omega), (show a1.toInt ≤ 11 by first | with_reducible assumption | omega)⟩))⟩ hw dX11_count_168
  · refine lv_tableOut (tgt := 169) hx hb dX11_count_1 c1 (by decide) ?_
    refine lv_iconst (v := (-1)) hx hb dX11_count_169 (by decide) ?_
    exact tk_iret hC hr hlocks hK ⟨hT, hF, (Or.inr (Or.inr rfl))⟩ hw dX11_count_170
abbrev P_X7_openHours_11 (ad : Nat → Nat) (cy : Nat → ClassId) (B : Int) (qr : Nat) (s1 : Int) (a1 : Int32) (a3 : Int64) (w0 : va_W) : Int32 → va_W → Prop := fun r u => TW ksC ad cy B qr s1 u ∧ FE ksC ([] : List (Nat × Nat × Nat)) w0 u ∧ ((0 ≤ r.toInt ∧ r.toInt ≤ 16777215))
set_option maxHeartbeats 4000000 in
set_option maxRecDepth 100000 in
theorem k_X7_openHours_11 (l : Launch) (adK adV : Nat → Nat) (dC : Nat → ClassId) (dI : Nat → Nat → Nat) (cy : Nat → ClassId) (ad : Nat → Nat) (B : Int) (hB0 : 2147483648 ≤ B) (hB1 : B ≤ 1152921504606846976) (qr : Nat) (s1 : Int)  (a1 : Int32) (ra1 : 0 ≤ a1.toInt) (ta1 : a1.toInt ≤ 11) (a3 : Int64) (ra3 : 0 ≤ a3.toInt) (ta3 : a3.toInt ≤ 4254) (w0 : va_W) (sz : Nat) (hT : TW ksC ad cy B qr s1 w0)  : Met l yX7_openHours (wu yX7_openHours cX7_openHours 8 (some .int)) ({ frames := 1, cells := 0, slots := 0, locals := 12 }) (va_Pc [.ref (ad 39), .int a1, .int 0, .long a3, .int 1] (wpreS adK adV dC dI cy sz w0)) (va_Qi (P_X7_openHours_11 ad cy B qr s1 a1 a3 w0) (fun u : va_W => wpost dC dI cy (va_A w0 sz) u) (va_A w0 sz)) 0 0 (va_A w0 sz) := by
  refine Met.ofW (cc := cX7_openHours) (maxL := 8) (ret := (some .int)) (by decide) rfl ?_
  intro p e s m args below meth c s₁ Bk hml hv
  obtain ⟨rfl, ⟨hsz, hP, hK, hD0⟩, hE, hSR⟩ := hv
  have hx := Bk.exec
  have hb := Bk.bytes
  have hr := Bk.returns
  have hlocks := Bk.notSynchronized
  have hC : CallFix p m c cX7_openHours 8 s _ (wu yX7_openHours cX7_openHours 8 (some .int)) RX7 := ⟨hx, hb, hml, findClass_of_methodNamed Bk.named, atoms_spec (ws := (wu yX7_openHours cX7_openHours 8 (some .int))) Bk.pre⟩
  subst hsz
  have hD := hD0.self (sz := s.heap.size)
  generalize hAe : va_A w0 s.heap.size = A at hD hE ⊢
  have hA : ∀ q : Nat, s.heap.size ≤ q → A q := fun q h => by rw [← hAe]; exact Or.inr h
  have hw : Wd dC dI A s.heap s.heap [] w0 := ⟨hP, hD, va_S.rf⟩
  have hF : FE ksC ([] : List (Nat × Nat × Nat)) w0 w0 := FE.rf
  have hl := lv_entry ([.ref (ad 39), .int a1, .int 0, .long a3, .int 1]) (n := 8) (Nat.le_of_ble_eq_true rfl)
  rw [lg_entry_eq]
  generalize (lg_sl ([.ref (ad 39), .int a1, .int 0, .long a3, .int 1]) ++ List.replicate (8 - (lg_sl ([.ref (ad 39), .int a1, .int 0, .long a3, .int 1])).length) Slot.unset).toArray = ls at hl ⊢
  have hl : lv_has ls 8 [(0, .ref (ad 39)), (1, .int a1), (2, .int 0), (3, .long a3), (5, .int 1)] := hl
  generalize hloc : ([] : List Loc) = locs at hw ⊢
  have hinX7 : ∀ w ∈ u_ws RX7 TX7 12, w ∈ (wu yX7_openHours cX7_openHours 8 (some .int)) := fun _ h => List.mem_cons_of_mem _ (up_73 h)
  have J93 : ∀ (v93_6 : Int32) (v93_7 : Int32) (H : Heap) (locs : List Loc) (ls : Array Slot) (w1 : va_W), 0 ≤ a1.toInt → a1.toInt ≤ 11 → 0 ≤ a3.toInt → a3.toInt ≤ 4254 → 0 ≤ v93_7.toInt → v93_7.toInt ≤ 8 → Wd dC dI A s.heap H locs w1 → TW ksC ad cy B qr s1 w1 → FE ksC ([] : List (Nat × Nat × Nat)) w0 w1 → lv_has ls 8 [(0, .ref (ad 39)), (1, .int a1), (2, .int 0), (3, .long a3), (5, .int 1), (6, .int v93_6), (7, .int v93_7)] → W p l e ({ frames := 1, cells := 0, slots := 0, locals := 12 }) s m (List.toArray [.ref (ad 39), .int a1, .int 0, .long a3, .int 1]) below meth c H locs 0 0 (MQ below (va_Qi (P_X7_openHours_11 ad cy B qr s1 a1 a3 w0) (fun u : va_W => wpost dC dI cy A u) A) (List.toArray [.ref (ad 39), .int a1, .int 0, .long a3, .int 1]) s 0 0 A) (F0 m 93 ls []) := by
    intro v93_6 v93_7 H locs ls w1 r2 t3 r4 t5 r6 t7 hw hT hF hl
    refine lv_ldc (v := 16777215) hx hb hC.2.2.2.1 (hC.2.2.2.2 _ (List.mem_cons_of_mem _ uw_31_17)) dX7_openHours_93 ?_
    refine lv_aload_n hx hb dX7_openHours_95 rfl (lv_at hl 0 rfl) ?_
    refine tk_getO hC hK hw hT hinX7 kC_at39 (by decide) rfl 3 (by decide) (List.mem_cons_of_mem _ uw_2_20) rfl rfl dX7_openHours_96 ?_
    refine lv_iload_n hx hb dX7_openHours_99 rfl (lv_at hl 1 rfl) ?_
    refine tk_iald hC hK hw hT kC_at43 rfl rfl (show 0 ≤ a1.toInt from r2) (show a1.toInt < 13 from Int.lt_of_le_of_lt t3 (by decide)) dX7_openHours_100 (fun x8 c9 rx8 tx8 => ?_)
    refine lv_iconst (v := (-1)) hx hb dX7_openHours_101 (by decide) ?_
    refine lv_ixor hx hb dX7_openHours_102 ?_
    refine lv_topi (fun x10 ex10 => ?_)
    refine lv_iand hx hb dX7_openHours_103 ?_
    refine lv_topi (fun x11 ex11 => ?_)
    have bx11 : 0 ≤ x11.toInt ∧ x11.toInt ≤ (16777215 : Int) := by rw [ex11]; exact wk_andC (by decide)
    exact tk_iret hC hr hlocks hK ⟨hT, hF, ⟨(show 0 ≤ x11.toInt by first | with_reducible assumption | omega), (show x11.toInt ≤ 16777215 by first | with_reducible assumption | omega)⟩⟩ hw dX7_openHours_104
  have L44 : ∀ (n44 : Nat) (v44_6 : Int32) (v44_7 : Int32) (H : Heap) (locs : List Loc) (ls : Array Slot) (w12 : va_W), 0 ≤ a1.toInt → a1.toInt ≤ 11 → 0 ≤ a3.toInt → a3.toInt ≤ 4254 → 0 ≤ v44_7.toInt → v44_7.toInt ≤ 8 → (8 - v44_7.toInt).toNat < n44 → Wd dC dI A s.heap H locs w12 → TW ksC ad cy B qr s1 w12 → FE ksC ([] : List (Nat × Nat × Nat)) w0 w12 → lv_has ls 8 [(0, .ref (ad 39)), (1, .int a1), (2, .int 0), (3, .long a3), (5, .int 1), (6, .int v44_6), (7, .int v44_7)] → W p l e ({ frames := 1, cells := 0, slots := 0, locals := 12 }) s m (List.toArray [.ref (ad 39), .int a1, .int 0, .long a3, .int 1]) below meth c H locs 0 0 (MQ below (va_Qi (P_X7_openHours_11 ad cy B qr s1 a1 a3 w0) (fun u : va_W => wpost dC dI cy A u) A) (List.toArray [.ref (ad 39), .int a1, .int 0, .long a3, .int 1]) s 0 0 A) (F0 m 44 ls []) := by
    intro n44
    induction n44 with
    | zero => intro v44_6 v44_7 H locs ls w12 r13 t14 r15 t16 r17 t18 hm44 hw hT hF hl; omega
    | succ n44 ih44 =>
      intro v44_6 v44_7 H locs ls w12 r13 t14 r15 t16 r17 t18 hm44 hw hT hF hl
      have J81 : ∀ (H : Heap) (locs : List Loc) (ls : Array Slot) (w19 : va_W), 0 ≤ a1.toInt → a1.toInt ≤ 11 → 0 ≤ a3.toInt → a3.toInt ≤ 4254 → 0 ≤ v44_7.toInt → v44_7.toInt ≤ 7 → Wd dC dI A s.heap H locs w19 → TW ksC ad cy B qr s1 w19 → FE ksC ([] : List (Nat × Nat × Nat)) w0 w19 → lv_has ls 8 [(0, .ref (ad 39)), (1, .int a1), (2, .int 0), (3, .long a3), (5, .int 1), (6, .int v44_6), (7, .int v44_7)] → W p l e ({ frames := 1, cells := 0, slots := 0, locals := 12 }) s m (List.toArray [.ref (ad 39), .int a1, .int 0, .long a3, .int 1]) below meth c H locs 0 0 (MQ below (va_Qi (P_X7_openHours_11 ad cy B qr s1 a1 a3 w0) (fun u : va_W => wpost dC dI cy A u) A) (List.toArray [.ref (ad 39), .int a1, .int 0, .long a3, .int 1]) s 0 0 A) (F0 m 81 ls []) := by
        intro H locs ls w19 r20 t21 r22 t23 r24 t25 hw hT hF hl
        refine lv_iload hx hb dX7_openHours_81 (lv_at hl 5 rfl) ?_
        refine lv_iconst (v := 1) hx hb dX7_openHours_83 (by decide) ?_
        refine lv_ishr hx hb dX7_openHours_84 ?_
        refine lv_topi (fun x26 ex26 => ?_)
        refine lv_istore (lv' := [(6, .int x26), (0, .ref (ad 39)), (1, .int a1), (2, .int 0), (3, .long a3), (5, .int 1), (7, .int v44_7)]) hx hb dX7_openHours_85 hl (by decide) rfl (fun ls hl => ?_)
        obtain ⟨x27, ex27⟩ : ∃ y : Int32, y = v44_7 + Int32.ofInt 1 := ⟨_, rfl⟩
        refine lv_iinc (v := x27) (lv' := [(7, .int x27), (6, .int x26), (0, .ref (ad 39)), (1, .int a1), (2, .int 0), (3, .long a3), (5, .int 1)]) hx hb dX7_openHours_87 hl (k := 6) rfl ex27.symm (by decide) rfl (fun ls hl => ?_)
        have ex27 : x27.toInt = v44_7.toInt + 1 := by rw [ex27]; exact wk_add (y := 1) (show -2147483648 ≤ v44_7.toInt + 1 by omega) (show v44_7.toInt + 1 ≤ 2147483647 by omega)
        refine lv_goto (tgt := 44) hx hb dX7_openHours_90 (by decide) ?_
        exact ih44 x26 x27 H locs ls w19 (show 0 ≤ a1.toInt from r20) (show a1.toInt ≤ 11 from t21) (show 0 ≤ a3.toInt from r22) (show a3.toInt ≤ 4254 from t23) (show 0 ≤ x27.toInt by first | with_reducible assumption | omega) (show x27.toInt ≤ 8 by first | with_reducible assumption | omega) (show (8 - x27.toInt).toNat < n44 by first | exact tn_lt hm44 (by omega) (by omega) | omega) hw hT hF  (lv_sub hl [2, 3, 4, 5, 6, 1, 0] rfl)
      refine lv_iload hx hb dX7_openHours_44 (lv_at hl 5 rfl) ?_
      refine lv_if_eq (tgt := 93) hx hb dX7_openHours_46 (by decide) (fun c28 => ?_) (fun c28 => ?_)
      · have c28 : v44_6.toInt = (0 : Int) := wk_eq.mp c28
        exact J93 v44_6 v44_7 H locs ls w12 (show 0 ≤ a1.toInt from r13) (show a1.toInt ≤ 11 from t14) (show 0 ≤ a3.toInt from r15) (show a3.toInt ≤ 4254 from t16) (show 0 ≤ v44_7.toInt from r17) (show v44_7.toInt ≤ 8 from t18)  hw hT hF  (lv_sub hl [0, 1, 2, 3, 4, 5, 6] rfl)
      · have c28 : ¬ v44_6.toInt = (0 : Int) := wk_eqF c28
        refine lv_iload hx hb dX7_openHours_49 (lv_at hl 6 rfl) ?_
        refine lv_bipush (v := 8) hx hb dX7_openHours_51 (by decide) ?_
        refine lv_icmp_ge (tgt := 93) hx hb dX7_openHours_53 (by decide) (fun c29 => ?_) (fun c29 => ?_)
        · have c29 : (8 : Int) ≤ v44_7.toInt := wk_le.mp c29
          exact J93 v44_6 v44_7 H locs ls w12 (show 0 ≤ a1.toInt from r13) (show a1.toInt ≤ 11 from t14) (show 0 ≤ a3.toInt from r15) (show a3.toInt ≤ 4254 from t16) (show 0 ≤ v44_7.toInt from r17) (show v44_7.toInt ≤ 8 from t18)  hw hT hF  (lv_sub hl [0, 1, 2, 3, 4, 5, 6] rfl)
        · have c29 : v44_7.toInt < (8 : Int) := wk_leF c29
          refine lv_iload hx hb dX7_openHours_56 (lv_at hl 5 rfl) ?_
          refine lv_iconst (v := 1) hx hb dX7_openHours_58 (by decide) ?_
          refine lv_iand hx hb dX7_openHours_59 ?_
          refine lv_topi (fun x30 ex30 => ?_)
          have bx30 : 0 ≤ x30.toInt ∧ x30.toInt ≤ (1 : Int) := by rw [ex30]; exact wk_and (by decide)
          refine lv_if_eq (tgt := 81) hx hb dX7_openHours_60 (by decide) (fun c31 => ?_) (fun c31 => ?_)
          · have c31 : x30.toInt = (0 : Int) := wk_eq.mp c31
            exact J81  H locs ls w12 (show 0 ≤ a1.toInt from r13) (show a1.toInt ≤ 11 from t14) (show 0 ≤ a3.toInt from r15) (show a3.toInt ≤ 4254 from t16) (show 0 ≤ v44_7.toInt from r17) (show v44_7.toInt ≤ 7 by first | with_reducible assumption | omega)  hw hT hF  (lv_sub hl [0, 1, 2, 3, 4, 5, 6] rfl)
          · have c31 : ¬ x30.toInt = (0 : Int) := wk_eqF c31
            refine lv_aload_n hx hb dX7_openHours_63 rfl (lv_at hl 0 rfl) ?_
            refine tk_getO hC hK hw hT hinX7 kC_at39 (by decide) rfl 6 (by decide) (List.mem_cons_of_mem _ uw_2_23) rfl rfl dX7_openHours_64 ?_
            refine lv_iload hx hb dX7_openHours_67 (lv_at hl 6 rfl) ?_
            refine tk_iald hC hK hw hT kC_at46 rfl rfl (show 0 ≤ v44_7.toInt from r17) (show v44_7.toInt < 8 from c29) dX7_openHours_69 (fun x32 c33 rx32 tx32 => ?_)
            refine lv_lload_n hx hb dX7_openHours_70 rfl (lv_at hl 3 rfl) ?_
            refine lv_ldc2 (v := 360) hx hb hC.2.2.2.1 (hC.2.2.2.2 _ (List.mem_cons_of_mem _ uw_31_16)) dX7_openHours_71 ?_
            refine lv_lrem hx hb dX7_openHours_74 (by decide) ?_
            refine lv_topl (fun x34 ex34 => ?_)
            have ex34 : x34.toInt = a3.toInt % (360 : Int) := by rw [ex34]; exact wk_reml (show 0 ≤ a3.toInt from r15) (show 0 < (360 : Int) by decide)
            refine lv_l2i hx hb dX7_openHours_75 rfl ?_
            refine lv_topi (fun x35 ex35 => ?_)
            have ex35 : x35.toInt = x34.toInt := by rw [ex35]; exact wk_l2i (by omega) (by omega)
            refine lv_icmp_ne (tgt := 81) hx hb dX7_openHours_76 (by decide) (fun c36 => ?_) (fun c36 => ?_)
            · have c36 : ¬ x32.toInt = x35.toInt := wk_eqF c36
              exact J81  H locs ls w12 (show 0 ≤ a1.toInt from r13) (show a1.toInt ≤ 11 from t14) (show 0 ≤ a3.toInt from r15) (show a3.toInt ≤ 4254 from t16) (show 0 ≤ v44_7.toInt from r17) (show v44_7.toInt ≤ 7 by first | with_reducible assumption | omega)  hw hT hF  (lv_sub hl [0, 1, 2, 3, 4, 5, 6] rfl)
            · have c36 : x32.toInt = x35.toInt := wk_eq.mp c36
              refine lv_iconst (v := 0) hx hb dX7_openHours_79 (by decide) ?_
              exact tk_iret hC hr hlocks hK ⟨hT, hF, ⟨(by decide), (by decide)⟩⟩ hw dX7_openHours_80
  refine lv_aload_n hx hb dX7_openHours_0 rfl (lv_at hl 0 rfl) ?_
  refine tk_getO hC hK hw hT hinX7 kC_at39 (by decide) rfl 4 (by decide) (List.mem_cons_of_mem _ uw_2_21) rfl rfl dX7_openHours_1 ?_
  refine lv_iconst (v := 2) hx hb dX7_openHours_4 (by decide) ?_
  refine lv_iload_n hx hb dX7_openHours_5 rfl (lv_at hl 1 rfl) ?_
  refine lv_imul hx hb dX7_openHours_6 ?_
  refine lv_topi (fun x37 ex37 => ?_)
  have ex37 : x37.toInt = (2 : Int) * a1.toInt := by rw [ex37]; exact wk_mul (show (-2147483648) ≤ (2 : Int) * a1.toInt by omega) (show (2 : Int) * a1.toInt ≤ 2147483647 by omega)
  refine lv_iload_n hx hb dX7_openHours_7 rfl (lv_at hl 2 rfl) ?_
  refine lv_iadd hx hb dX7_openHours_8 ?_
  refine lv_topi (fun x38 ex38 => ?_)
  have ex38 : x38.toInt = x37.toInt + (0 : Int) := by rw [ex38]; exact wk_add (show (-2147483648) ≤ x37.toInt + (0 : Int) by omega) (show x37.toInt + (0 : Int) ≤ 2147483647 by omega)
  refine tk_iald hC hK hw hT kC_at44 rfl rfl (show 0 ≤ x38.toInt by first | with_reducible assumption | omega) (show x38.toInt < 26 by first | with_reducible assumption | omega) dX7_openHours_9 (fun x39 c40 rx39 tx39 => ?_)
  refine lv_lload_n hx hb dX7_openHours_10 rfl (lv_at hl 3 rfl) ?_
  refine lv_ldc2 (v := 7) hx hb hC.2.2.2.1 (hC.2.2.2.2 _ (List.mem_cons_of_mem _ uw_31_15)) dX7_openHours_11 ?_
  refine lv_lrem hx hb dX7_openHours_14 (by decide) ?_
  refine lv_topl (fun x41 ex41 => ?_)
  have ex41 : x41.toInt = a3.toInt % (7 : Int) := by rw [ex41]; exact wk_reml (show 0 ≤ a3.toInt from ra3) (show 0 < (7 : Int) by decide)
  refine lv_l2i hx hb dX7_openHours_15 rfl ?_
  refine lv_topi (fun x42 ex42 => ?_)
  have ex42 : x42.toInt = x41.toInt := by rw [ex42]; exact wk_l2i (by omega) (by omega)
  refine lv_ishr hx hb dX7_openHours_16 ?_
  refine lv_topi (fun x43 ex43 => ?_)
  refine lv_iconst (v := 1) hx hb dX7_openHours_17 (by decide) ?_
  refine lv_iand hx hb dX7_openHours_18 ?_
  refine lv_topi (fun x44 ex44 => ?_)
  have bx44 : 0 ≤ x44.toInt ∧ x44.toInt ≤ (1 : Int) := by rw [ex44]; exact wk_and (by decide)
  refine lv_if_ne (tgt := 24) hx hb dX7_openHours_19 (by decide) (fun c45 => ?_) (fun c45 => ?_)
  · have c45 : ¬ x44.toInt = (0 : Int) := wk_eqF c45
    refine lv_iload hx hb dX7_openHours_24 (lv_at hl 4 rfl) ?_
    refine lv_if_eq (tgt := 38) hx hb dX7_openHours_26 (by decide) (fun c => absurd c (by decide)) (fun _ => ?_)
    refine lv_aload_n hx hb dX7_openHours_29 rfl (lv_at hl 0 rfl) ?_
    refine tk_getO hC hK hw hT hinX7 kC_at39 (by decide) rfl 7 (by decide) (List.mem_cons_of_mem _ uw_3_0) rfl rfl dX7_openHours_30 ?_
    refine lv_iload_n hx hb dX7_openHours_33 rfl (lv_at hl 1 rfl) ?_
    refine tk_iald hC hK hw hT kC_at47 rfl rfl (show 0 ≤ a1.toInt from ra1) (show a1.toInt < 13 from Int.lt_of_le_of_lt ta1 (by decide)) dX7_openHours_34 (fun x46 c47 rx46 tx46 => ?_)
    refine lv_goto (tgt := 39) hx hb dX7_openHours_35 (by decide) ?_
    refine lv_istore (lv' := [(6, .int x46), (0, .ref (ad 39)), (1, .int a1), (2, .int 0), (3, .long a3), (5, .int 1)]) hx hb dX7_openHours_39 hl (by decide) rfl (fun ls hl => ?_)
    refine lv_iconst (v := 0) hx hb dX7_openHours_41 (by decide) ?_
    refine lv_istore (lv' := [(7, .int 0), (6, .int x46), (0, .ref (ad 39)), (1, .int a1), (2, .int 0), (3, .long a3), (5, .int 1)]) hx hb dX7_openHours_42 hl (by decide) rfl (fun ls hl => ?_)
    exact L44 ((8 - (0 : Int)).toNat + 1) x46 0 s.heap locs ls w0 (show 0 ≤ a1.toInt from ra1) (show a1.toInt ≤ 11 from ta1) (show 0 ≤ a3.toInt from ra3) (show a3.toInt ≤ 4254 from ta3) (by decide) (by decide) (Nat.lt_succ_self _) hw hT hF  (lv_sub hl [2, 3, 4, 5, 6, 1, 0] rfl)
  · have c45 : x44.toInt = (0 : Int) := wk_eq.mp c45
    refine lv_iconst (v := 0) hx hb dX7_openHours_22 (by decide) ?_
    exact tk_iret hC hr hlocks hK ⟨hT, hF, ⟨(by decide), (by decide)⟩⟩ hw dX7_openHours_23
abbrev P_X7_firstOpen_5 (ad : Nat → Nat) (cy : Nat → ClassId) (B : Int) (qr : Nat) (s1 : Int) (a1 : Int32) (a3 : Int32) (a4 : Int32) (w0 : va_W) : Int32 → va_W → Prop := fun r u => TW ksC ad cy B qr s1 u ∧ FE ksC ([] : List (Nat × Nat × Nat)) w0 u ∧ ((0 ≤ r.toInt ∧ r.toInt ≤ 102119 ∧ 0 ≤ a4.toInt) ∨ (r = (-1)))
set_option maxHeartbeats 4000000 in
set_option maxRecDepth 100000 in
theorem k_X7_firstOpen_5 (l : Launch) (adK adV : Nat → Nat) (dC : Nat → ClassId) (dI : Nat → Nat → Nat) (cy : Nat → ClassId) (ad : Nat → Nat) (B : Int) (hB0 : 2147483648 ≤ B) (hB1 : B ≤ 1152921504606846976) (qr : Nat) (s1 : Int)  (a1 : Int32) (ra1 : 0 ≤ a1.toInt) (ta1 : a1.toInt ≤ 11) (a3 : Int32) (ra3 : (-1) ≤ a3.toInt) (ta3 : a3.toInt ≤ 102119) (a4 : Int32) (ra4 : (-1) ≤ a4.toInt) (ta4 : a4.toInt ≤ 102119) (w0 : va_W) (sz : Nat) (hT : TW ksC ad cy B qr s1 w0)  : Met l yX7_firstOpen (wu yX7_firstOpen cX7_firstOpen 10 (some .int)) ({ frames := 2, cells := 0, slots := 0, locals := 39 }) (va_Pc [.ref (ad 39), .int a1, .int 0, .int a3, .int a4] (wpreS adK adV dC dI cy sz w0)) (va_Qi (P_X7_firstOpen_5 ad cy B qr s1 a1 a3 a4 w0) (fun u : va_W => wpost dC dI cy (va_A w0 sz) u) (va_A w0 sz)) 0 0 (va_A w0 sz) := by
  refine Met.ofW (cc := cX7_firstOpen) (maxL := 10) (ret := (some .int)) (by decide) rfl ?_
  intro p e s m args below meth c s₁ Bk hml hv
  obtain ⟨rfl, ⟨hsz, hP, hK, hD0⟩, hE, hSR⟩ := hv
  have hx := Bk.exec
  have hb := Bk.bytes
  have hr := Bk.returns
  have hlocks := Bk.notSynchronized
  have hC : CallFix p m c cX7_firstOpen 10 s _ (wu yX7_firstOpen cX7_firstOpen 10 (some .int)) RX7 := ⟨hx, hb, hml, findClass_of_methodNamed Bk.named, atoms_spec (ws := (wu yX7_firstOpen cX7_firstOpen 10 (some .int))) Bk.pre⟩
  subst hsz
  have hD := hD0.self (sz := s.heap.size)
  generalize hAe : va_A w0 s.heap.size = A at hD hE ⊢
  have hA : ∀ q : Nat, s.heap.size ≤ q → A q := fun q h => by rw [← hAe]; exact Or.inr h
  have hw : Wd dC dI A s.heap s.heap [] w0 := ⟨hP, hD, va_S.rf⟩
  have hF : FE ksC ([] : List (Nat × Nat × Nat)) w0 w0 := FE.rf
  have hl := lv_entry ([.ref (ad 39), .int a1, .int 0, .int a3, .int a4]) (n := 10) (Nat.le_of_ble_eq_true rfl)
  rw [lg_entry_eq]
  generalize (lg_sl ([.ref (ad 39), .int a1, .int 0, .int a3, .int a4]) ++ List.replicate (10 - (lg_sl ([.ref (ad 39), .int a1, .int 0, .int a3, .int a4])).length) Slot.unset).toArray = ls at hl ⊢
  have hl : lv_has ls 10 [(0, .ref (ad 39)), (1, .int a1), (2, .int 0), (3, .int a3), (4, .int a4)] := hl
  generalize hloc : ([] : List Loc) = locs at hw ⊢
  have L25 : ∀ (n25 : Nat) (v25_5 : Int32) (v25_6 : Int32) (H : Heap) (locs : List Loc) (ls : Array Slot) (w1 : va_W), 0 ≤ a1.toInt → a1.toInt ≤ 11 → (-1) ≤ a3.toInt → a3.toInt ≤ 102119 → (-1) ≤ a4.toInt → a4.toInt ≤ 102119 → 0 ≤ v25_6.toInt → v25_6.toInt ≤ 4255 → (4255 - v25_6.toInt).toNat < n25 → Wd dC dI A s.heap H locs w1 → TW ksC ad cy B qr s1 w1 → FE ksC ([] : List (Nat × Nat × Nat)) w0 w1 → lv_has ls 10 [(0, .ref (ad 39)), (1, .int a1), (2, .int 0), (3, .int a3), (4, .int a4), (5, .int v25_5), (6, .int v25_6)] → W p l e ({ frames := 2, cells := 0, slots := 0, locals := 39 }) s m (List.toArray [.ref (ad 39), .int a1, .int 0, .int a3, .int a4]) below meth c H locs 0 0 (MQ below (va_Qi (P_X7_firstOpen_5 ad cy B qr s1 a1 a3 a4 w0) (fun u : va_W => wpost dC dI cy A u) A) (List.toArray [.ref (ad 39), .int a1, .int 0, .int a3, .int a4]) s 0 0 A) (F0 m 25 ls []) := by
    intro n25
    induction n25 with
    | zero => intro v25_5 v25_6 H locs ls w1 r2 t3 r4 t5 r6 t7 r8 t9 hm25 hw hT hF hl; omega
    | succ n25 ih25 =>
      intro v25_5 v25_6 H locs ls w1 r2 t3 r4 t5 r6 t7 r8 t9 hm25 hw hT hF hl
      have J108 : ∀ (v108_7 : Int32) (v108_8 : Int32) (H : Heap) (locs : List Loc) (ls : Array Slot) (w10 : va_W), 0 ≤ a1.toInt → a1.toInt ≤ 11 → (-1) ≤ a3.toInt → a3.toInt ≤ 102119 → 0 ≤ a4.toInt → a4.toInt ≤ 102119 → 0 ≤ v25_6.toInt → v25_6.toInt ≤ 4254 → 0 ≤ v108_7.toInt → v108_7.toInt ≤ 16777215 → 0 ≤ v108_8.toInt → v108_8.toInt ≤ 24 → Wd dC dI A s.heap H locs w10 → TW ksC ad cy B qr s1 w10 → FE ksC ([] : List (Nat × Nat × Nat)) w0 w10 → lv_has ls 10 [(0, .ref (ad 39)), (1, .int a1), (2, .int 0), (3, .int a3), (4, .int a4), (5, .int (-1)), (6, .int v25_6), (7, .int v108_7), (8, .int v108_8)] → W p l e ({ frames := 2, cells := 0, slots := 0, locals := 39 }) s m (List.toArray [.ref (ad 39), .int a1, .int 0, .int a3, .int a4]) below meth c H locs 0 0 (MQ below (va_Qi (P_X7_firstOpen_5 ad cy B qr s1 a1 a3 a4 w0) (fun u : va_W => wpost dC dI cy A u) A) (List.toArray [.ref (ad 39), .int a1, .int 0, .int a3, .int a4]) s 0 0 A) (F0 m 108 ls []) := by
        intro v108_7 v108_8 H locs ls w10 r11 t12 r13 t14 r15 t16 r17 t18 r19 t20 r21 t22 hw hT hF hl
        obtain ⟨x23, ex23⟩ : ∃ y : Int32, y = v25_6 + Int32.ofInt 1 := ⟨_, rfl⟩
        refine lv_iinc (v := x23) (lv' := [(6, .int x23), (0, .ref (ad 39)), (1, .int a1), (2, .int 0), (3, .int a3), (4, .int a4), (5, .int (-1)), (7, .int v108_7), (8, .int v108_8)]) hx hb dX7_firstOpen_108 hl (k := 6) rfl ex23.symm (by decide) rfl (fun ls hl => ?_)
        have ex23 : x23.toInt = v25_6.toInt + 1 := by rw [ex23]; exact wk_add (y := 1) (show -2147483648 ≤ v25_6.toInt + 1 by omega) (show v25_6.toInt + 1 ≤ 2147483647 by omega)
        refine lv_goto (tgt := 25) hx hb dX7_firstOpen_111 (by decide) ?_
        exact ih25 (-1) x23 H locs ls w10 (show 0 ≤ a1.toInt from r11) (show a1.toInt ≤ 11 from t12) (show (-1) ≤ a3.toInt from r13) (show a3.toInt ≤ 102119 from t14) (show (-1) ≤ a4.toInt from r6) (show a4.toInt ≤ 102119 from t16) (show 0 ≤ x23.toInt by first | with_reducible assumption | omega) (show x23.toInt ≤ 4255 by first | with_reducible assumption | omega) (show (4255 - x23.toInt).toNat < n25 by first | exact tn_lt hm25 (by omega) (by omega) | omega) hw hT hF  (lv_sub hl [1, 2, 3, 4, 5, 6, 0] rfl)
      have L56 : ∀ (n56 : Nat) (v56_7 : Int32) (v56_8 : Int32) (H : Heap) (locs : List Loc) (ls : Array Slot) (w24 : va_W), 0 ≤ a1.toInt → a1.toInt ≤ 11 → (-1) ≤ a3.toInt → a3.toInt ≤ 102119 → 0 ≤ a4.toInt → a4.toInt ≤ 102119 → 0 ≤ v25_6.toInt → v25_6.toInt ≤ 4254 → 0 ≤ v56_7.toInt → v56_7.toInt ≤ 16777215 → 0 ≤ v56_8.toInt → v56_8.toInt ≤ 24 → (24 - v56_8.toInt).toNat < n56 → Wd dC dI A s.heap H locs w24 → TW ksC ad cy B qr s1 w24 → FE ksC ([] : List (Nat × Nat × Nat)) w0 w24 → lv_has ls 10 [(0, .ref (ad 39)), (1, .int a1), (2, .int 0), (3, .int a3), (4, .int a4), (5, .int (-1)), (6, .int v25_6), (7, .int v56_7), (8, .int v56_8)] → W p l e ({ frames := 2, cells := 0, slots := 0, locals := 39 }) s m (List.toArray [.ref (ad 39), .int a1, .int 0, .int a3, .int a4]) below meth c H locs 0 0 (MQ below (va_Qi (P_X7_firstOpen_5 ad cy B qr s1 a1 a3 a4 w0) (fun u : va_W => wpost dC dI cy A u) A) (List.toArray [.ref (ad 39), .int a1, .int 0, .int a3, .int a4]) s 0 0 A) (F0 m 56 ls []) := by
        intro n56
        induction n56 with
        | zero => intro v56_7 v56_8 H locs ls w24 r25 t26 r27 t28 r29 t30 r31 t32 r33 t34 r35 t36 hm56 hw hT hF hl; omega
        | succ n56 ih56 =>
          intro v56_7 v56_8 H locs ls w24 r25 t26 r27 t28 r29 t30 r31 t32 r33 t34 r35 t36 hm56 hw hT hF hl
          refine lv_iload hx hb dX7_firstOpen_56 (lv_at hl 7 rfl) ?_
          refine lv_if_eq (tgt := 108) hx hb dX7_firstOpen_58 (by decide) (fun c37 => ?_) (fun c37 => ?_)
          · have c37 : v56_7.toInt = (0 : Int) := wk_eq.mp c37
            exact J108 v56_7 v56_8 H locs ls w24 (show 0 ≤ a1.toInt from r25) (show a1.toInt ≤ 11 from t26) (show (-1) ≤ a3.toInt from r27) (show a3.toInt ≤ 102119 from t28) (show 0 ≤ a4.toInt from r29) (show a4.toInt ≤ 102119 from t30) (show 0 ≤ v25_6.toInt from r31) (show v25_6.toInt ≤ 4254 from t32) (show 0 ≤ v56_7.toInt from r33) (show v56_7.toInt ≤ 16777215 from t34) (show 0 ≤ v56_8.toInt from r35) (show v56_8.toInt ≤ 24 from t36)  hw hT hF  (lv_sub hl [0, 1, 2, 3, 4, 5, 6, 7, 8] rfl)
          · have c37 : ¬ v56_7.toInt = (0 : Int) := wk_eqF c37
            refine lv_iload hx hb dX7_firstOpen_61 (lv_at hl 8 rfl) ?_
            refine lv_bipush (v := 24) hx hb dX7_firstOpen_63 (by decide) ?_
            refine lv_icmp_ge (tgt := 108) hx hb dX7_firstOpen_65 (by decide) (fun c38 => ?_) (fun c38 => ?_)
            · have c38 : (24 : Int) ≤ v56_8.toInt := wk_le.mp c38
              exact J108 v56_7 v56_8 H locs ls w24 (show 0 ≤ a1.toInt from r25) (show a1.toInt ≤ 11 from t26) (show (-1) ≤ a3.toInt from r27) (show a3.toInt ≤ 102119 from t28) (show 0 ≤ a4.toInt from r29) (show a4.toInt ≤ 102119 from t30) (show 0 ≤ v25_6.toInt from r31) (show v25_6.toInt ≤ 4254 from t32) (show 0 ≤ v56_7.toInt from r33) (show v56_7.toInt ≤ 16777215 from t34) (show 0 ≤ v56_8.toInt from r35) (show v56_8.toInt ≤ 24 from t36)  hw hT hF  (lv_sub hl [0, 1, 2, 3, 4, 5, 6, 7, 8] rfl)
            · have c38 : v56_8.toInt < (24 : Int) := wk_leF c38
              refine lv_iload hx hb dX7_firstOpen_68 (lv_at hl 7 rfl) ?_
              refine lv_iload hx hb dX7_firstOpen_70 (lv_at hl 8 rfl) ?_
              refine lv_ishr hx hb dX7_firstOpen_72 ?_
              refine lv_topi (fun x39 ex39 => ?_)
              have bx39 : 0 ≤ x39.toInt ∧ x39.toInt ≤ v56_7.toInt := by rw [ex39]; exact wk_shr (by omega)
              refine lv_iconst (v := 1) hx hb dX7_firstOpen_73 (by decide) ?_
              refine lv_iand hx hb dX7_firstOpen_74 ?_
              refine lv_topi (fun x40 ex40 => ?_)
              have bx40 : 0 ≤ x40.toInt ∧ x40.toInt ≤ (1 : Int) := by rw [ex40]; exact wk_and (by decide)
              refine lv_if_eq (tgt := 102) hx hb dX7_firstOpen_75 (by decide) (fun c41 => ?_) (fun c41 => ?_)
              · have c41 : x40.toInt = (0 : Int) := wk_eq.mp c41
                obtain ⟨x42, ex42⟩ : ∃ y : Int32, y = v56_8 + Int32.ofInt 1 := ⟨_, rfl⟩
                refine lv_iinc (v := x42) (lv' := [(8, .int x42), (0, .ref (ad 39)), (1, .int a1), (2, .int 0), (3, .int a3), (4, .int a4), (5, .int (-1)), (6, .int v25_6), (7, .int v56_7)]) hx hb dX7_firstOpen_102 hl (k := 8) rfl ex42.symm (by decide) rfl (fun ls hl => ?_)
                have ex42 : x42.toInt = v56_8.toInt + 1 := by rw [ex42]; exact wk_add (y := 1) (show -2147483648 ≤ v56_8.toInt + 1 by omega) (show v56_8.toInt + 1 ≤ 2147483647 by omega)
                refine lv_goto (tgt := 56) hx hb dX7_firstOpen_105 (by decide) ?_
                exact ih56 v56_7 x42 H locs ls w24 (show 0 ≤ a1.toInt from r25) (show a1.toInt ≤ 11 from t26) (show (-1) ≤ a3.toInt from r27) (show a3.toInt ≤ 102119 from t28) (show 0 ≤ a4.toInt from r29) (show a4.toInt ≤ 102119 from t30) (show 0 ≤ v25_6.toInt from r31) (show v25_6.toInt ≤ 4254 from t32) (show 0 ≤ v56_7.toInt from r33) (show v56_7.toInt ≤ 16777215 from t34) (show 0 ≤ x42.toInt by first | with_reducible assumption | omega) (show x42.toInt ≤ 24 by first | with_reducible assumption | omega) (show (24 - x42.toInt).toNat < n56 by first | exact tn_lt hm56 (by omega) (by omega) | omega) hw hT hF  (lv_sub hl [1, 2, 3, 4, 5, 6, 7, 8, 0] rfl)
              · have c41 : ¬ x40.toInt = (0 : Int) := wk_eqF c41
                refine lv_iload hx hb dX7_firstOpen_78 (lv_at hl 6 rfl) ?_
                refine lv_bipush (v := 24) hx hb dX7_firstOpen_80 (by decide) ?_
                refine lv_imul hx hb dX7_firstOpen_82 ?_
                refine lv_topi (fun x43 ex43 => ?_)
                have ex43 : x43.toInt = v25_6.toInt * (24 : Int) := by rw [ex43]; exact wk_mul (show (-2147483648) ≤ v25_6.toInt * (24 : Int) by omega) (show v25_6.toInt * (24 : Int) ≤ 2147483647 by omega)
                refine lv_iload hx hb dX7_firstOpen_83 (lv_at hl 8 rfl) ?_
                refine lv_iadd hx hb dX7_firstOpen_85 ?_
                refine lv_topi (fun x44 ex44 => ?_)
                have ex44 : x44.toInt = x43.toInt + v56_8.toInt := by rw [ex44]; exact wk_add (show (-2147483648) ≤ x43.toInt + v56_8.toInt by omega) (show x43.toInt + v56_8.toInt ≤ 2147483647 by omega)
                refine lv_istore (lv' := [(9, .int x44), (0, .ref (ad 39)), (1, .int a1), (2, .int 0), (3, .int a3), (4, .int a4), (5, .int (-1)), (6, .int v25_6), (7, .int v56_7), (8, .int v56_8)]) hx hb dX7_firstOpen_86 hl (by decide) rfl (fun ls hl => ?_)
                refine lv_iload hx hb dX7_firstOpen_88 (lv_at hl 0 rfl) ?_
                refine lv_iload hx hb dX7_firstOpen_90 (lv_at hl 5 rfl) ?_
                refine lv_icmp_gt (tgt := 100) hx hb dX7_firstOpen_92 (by decide) (fun c45 => ?_) (fun c45 => ?_)
                · have c45 : a4.toInt < x44.toInt := wk_lt.mp c45
                  refine lv_iconst (v := (-1)) hx hb dX7_firstOpen_100 (by decide) ?_
                  exact tk_iret hC hr hlocks hK ⟨hT, hF, (Or.inr rfl)⟩ hw dX7_firstOpen_101
                · have c45 : x44.toInt ≤ a4.toInt := wk_ltF c45
                  refine lv_iload hx hb dX7_firstOpen_95 (lv_at hl 0 rfl) ?_
                  refine lv_goto (tgt := 101) hx hb dX7_firstOpen_97 (by decide) ?_
                  exact tk_iret hC hr hlocks hK ⟨hT, hF, (Or.inl ⟨(show 0 ≤ x44.toInt by first | with_reducible assumption | omega), (show x44.toInt ≤ 102119 by first | with_reducible assumption | omega), (show 0 ≤ a4.toInt from r29)⟩)⟩ hw dX7_firstOpen_101
      refine lv_iload hx hb dX7_firstOpen_25 (lv_at hl 6 rfl) ?_
      refine lv_bipush (v := 24) hx hb dX7_firstOpen_27 (by decide) ?_
      refine lv_imul hx hb dX7_firstOpen_29 ?_
      refine lv_topi (fun x46 ex46 => ?_)
      have ex46 : x46.toInt = v25_6.toInt * (24 : Int) := by rw [ex46]; exact wk_mul (show (-2147483648) ≤ v25_6.toInt * (24 : Int) by omega) (show v25_6.toInt * (24 : Int) ≤ 2147483647 by omega)
      refine lv_iload hx hb dX7_firstOpen_30 (lv_at hl 4 rfl) ?_
      refine lv_icmp_gt (tgt := 114) hx hb dX7_firstOpen_32 (by decide) (fun c47 => ?_) (fun c47 => ?_)
      · have c47 : a4.toInt < x46.toInt := wk_lt.mp c47
        refine lv_iconst (v := (-1)) hx hb dX7_firstOpen_114 (by decide) ?_
        exact tk_iret hC hr hlocks hK ⟨hT, hF, (Or.inr rfl)⟩ hw dX7_firstOpen_115
      · have c47 : x46.toInt ≤ a4.toInt := wk_ltF c47
        refine lv_aload_n hx hb dX7_firstOpen_35 rfl (lv_at hl 0 rfl) ?_
        refine lv_iload_n hx hb dX7_firstOpen_36 rfl (lv_at hl 1 rfl) ?_
        refine lv_iload_n hx hb dX7_firstOpen_37 rfl (lv_at hl 2 rfl) ?_
        refine lv_iload hx hb dX7_firstOpen_38 (lv_at hl 6 rfl) ?_
        refine lv_i2l hx hb dX7_firstOpen_40 rfl ?_
        refine lv_topl (fun x48 ex48 => ?_)
        have ex48 : x48.toInt = v25_6.toInt := by rw [ex48]; exact wk_i2l _
        have bx48 := wk_i32 v25_6
        refine lv_iconst (v := 1) hx hb dX7_firstOpen_41 (by decide) ?_
        refine tk_Vi hC hK hw hT hA hE hSR kC_at39 (by decide) rfl (k_X7_openHours_11 l adK adV dC dI cy ad B hB0 (Int.le_trans hB1 (by decide)) qr s1   a1 (show 0 ≤ a1.toInt from r2) (show a1.toInt ≤ 11 from t3) x48 (show 0 ≤ x48.toInt by first | with_reducible assumption | omega) (show x48.toInt ≤ 4254 by first | with_reducible assumption | omega) w1 H.size hT ) (cwV 4 hC.2.2.2.2 uV_RX7_148 rfl rfl rfl (by decide +kernel) ⟨Nat.le_of_ble_eq_true rfl, Nat.le_of_ble_eq_true rfl⟩) rfl hl.1 rfl (Nat.le_of_ble_eq_true rfl) dX7_firstOpen_42 (fun r49 w51 H locs hp50 hw => ?_)
        obtain ⟨hT, k52, hg55⟩ := hp50
        have hF := hF.tr k52 (by decide)
        obtain ⟨g53, g54⟩ := hg55
        refine lv_iload hx hb dX7_firstOpen_45 (lv_at hl 5 rfl) ?_
        refine lv_iand hx hb dX7_firstOpen_47 ?_
        refine lv_topi (fun x56 ex56 => ?_)
        have bx56 : 0 ≤ x56.toInt ∧ x56.toInt ≤ r49.toInt := by rw [ex56]; exact wk_andC (by omega)
        refine lv_istore (lv' := [(7, .int x56), (0, .ref (ad 39)), (1, .int a1), (2, .int 0), (3, .int a3), (4, .int a4), (5, .int v25_5), (6, .int v25_6)]) hx hb dX7_firstOpen_48 hl (by decide) rfl (fun ls hl => ?_)
        refine lv_iconst (v := (-1)) hx hb dX7_firstOpen_50 (by decide) ?_
        refine lv_istore (lv' := [(5, .int (-1)), (7, .int x56), (0, .ref (ad 39)), (1, .int a1), (2, .int 0), (3, .int a3), (4, .int a4), (6, .int v25_6)]) hx hb dX7_firstOpen_51 hl (by decide) rfl (fun ls hl => ?_)
        refine lv_iconst (v := 0) hx hb dX7_firstOpen_53 (by decide) ?_
        refine lv_istore (lv' := [(8, .int 0), (5, .int (-1)), (7, .int x56), (0, .ref (ad 39)), (1, .int a1), (2, .int 0), (3, .int a3), (4, .int a4), (6, .int v25_6)]) hx hb dX7_firstOpen_54 hl (by decide) rfl (fun ls hl => ?_)
        exact L56 ((24 - (0 : Int)).toNat + 1) x56 0 H locs ls w51 (show 0 ≤ a1.toInt from r2) (show a1.toInt ≤ 11 from t3) (show (-1) ≤ a3.toInt from r4) (show a3.toInt ≤ 102119 from t5) (show 0 ≤ a4.toInt by first | with_reducible assumption | omega) (show a4.toInt ≤ 102119 from t7) (show 0 ≤ v25_6.toInt from r8) (show v25_6.toInt ≤ 4254 by first | with_reducible assumption | omega) (show 0 ≤ x56.toInt by first | with_reducible assumption | omega) (show x56.toInt ≤ 16777215 by first | with_reducible assumption | omega) (by decide) (by decide) (Nat.lt_succ_self _) hw hT hF  (lv_sub hl [3, 4, 5, 6, 7, 1, 8, 2, 0] rfl)
  refine lv_aload_n hx hb dX7_firstOpen_0 rfl (lv_at hl 0 rfl) ?_
  refine lv_iload_n hx hb dX7_firstOpen_1 rfl (lv_at hl 1 rfl) ?_
  refine lv_iload_n hx hb dX7_firstOpen_2 rfl (lv_at hl 2 rfl) ?_
  refine tk_Vi hC hK hw hT hA hE hSR kC_at39 (by decide) rfl (k_X7_isNeverOpen_1 l adK adV dC dI cy ad B hB0 (Int.le_trans hB1 (by decide)) qr s1   a1 (show 0 ≤ a1.toInt from ra1) (show a1.toInt ≤ 11 from ta1) w0 s.heap.size hT ) (cwV 2 hC.2.2.2.2 uV_RX7_152 rfl rfl rfl (by decide +kernel) ⟨Nat.le_of_ble_eq_true rfl, Nat.le_of_ble_eq_true rfl⟩) rfl hl.1 rfl (Nat.le_of_ble_eq_true rfl) dX7_firstOpen_3 (fun r57 w59 H locs hp58 hw => ?_)
  obtain ⟨hT, k60, hg61⟩ := hp58
  have hF := hF.tr k60 (by decide)
  rcases hg61 with rfl | rfl
  · refine lv_if_eq (tgt := 11) hx hb dX7_firstOpen_6 (by decide) (fun _ => ?_) (fun c => absurd (by decide) c)
    refine lv_iconst (v := (-1)) hx hb dX7_firstOpen_11 (by decide) ?_
    refine lv_iload_n hx hb dX7_firstOpen_12 rfl (lv_at hl 3 rfl) ?_
    refine lv_bipush (v := 24) hx hb dX7_firstOpen_13 (by decide) ?_
    refine lv_irem hx hb dX7_firstOpen_15 (by decide) ?_
    refine lv_topi (fun x62 ex62 => ?_)
    refine lv_ishl hx hb dX7_firstOpen_16 ?_
    refine lv_topi (fun x63 ex63 => ?_)
    refine lv_istore (lv' := [(5, .int x63), (0, .ref (ad 39)), (1, .int a1), (2, .int 0), (3, .int a3), (4, .int a4)]) hx hb dX7_firstOpen_17 hl (by decide) rfl (fun ls hl => ?_)
    refine lv_iload_n hx hb dX7_firstOpen_19 rfl (lv_at hl 4 rfl) ?_
    refine lv_bipush (v := 24) hx hb dX7_firstOpen_20 (by decide) ?_
    refine lv_idiv hx hb dX7_firstOpen_22 (by decide) ?_
    refine lv_topi (fun x64 ex64 => ?_)
    have bx64 : -(1 / (24 : Int)) ≤ x64.toInt ∧ x64.toInt ≤ 102119 / (24 : Int) := by rw [ex64]; exact wk_divB (m := 1) (n := 102119) (show 0 < (24 : Int) by decide) (by decide) (by decide) (by omega) (by omega)
    refine lv_istore (lv' := [(6, .int x64), (5, .int x63), (0, .ref (ad 39)), (1, .int a1), (2, .int 0), (3, .int a3), (4, .int a4)]) hx hb dX7_firstOpen_23 hl (by decide) rfl (fun ls hl => ?_)
    exact L25 ((4255 - x64.toInt).toNat + 1) x63 x64 H locs ls w59 (show 0 ≤ a1.toInt from ra1) (show a1.toInt ≤ 11 from ta1) (show (-1) ≤ a3.toInt from ra3) (show a3.toInt ≤ 102119 from ta3) (show (-1) ≤ a4.toInt from ra4) (show a4.toInt ≤ 102119 from ta4) (show 0 ≤ x64.toInt by first | with_reducible assumption | omega) (show x64.toInt ≤ 4255 by first | with_reducible assumption | omega) (Nat.lt_succ_self _) hw hT hF  (lv_sub hl [2, 3, 4, 5, 6, 1, 0] rfl)
  · refine lv_if_eq (tgt := 11) hx hb dX7_firstOpen_6 (by decide) (fun c => absurd c (by decide)) (fun _ => ?_)
    refine lv_iconst (v := (-1)) hx hb dX7_firstOpen_9 (by decide) ?_
    exact tk_iret hC hr hlocks hK ⟨hT, hF, (Or.inr rfl)⟩ hw dX7_firstOpen_10
abbrev P_X7_openHours_12 (ad : Nat → Nat) (cy : Nat → ClassId) (B : Int) (qr : Nat) (s1 : Int) (a1 : Int32) (a3 : Int64) (w0 : va_W) : Int32 → va_W → Prop := fun r u => TW ksC ad cy B qr s1 u ∧ FE ksC ([] : List (Nat × Nat × Nat)) w0 u ∧ ((0 ≤ r.toInt ∧ r.toInt ≤ 16777215))
set_option maxHeartbeats 4000000 in
set_option maxRecDepth 100000 in
theorem k_X7_openHours_12 (l : Launch) (adK adV : Nat → Nat) (dC : Nat → ClassId) (dI : Nat → Nat → Nat) (cy : Nat → ClassId) (ad : Nat → Nat) (B : Int) (hB0 : 2147483648 ≤ B) (hB1 : B ≤ 1152921504606846976) (qr : Nat) (s1 : Int)  (a1 : Int32) (ra1 : 0 ≤ a1.toInt) (ta1 : a1.toInt ≤ 11) (a3 : Int64) (ra3 : 0 ≤ a3.toInt) (ta3 : a3.toInt ≤ 4254) (w0 : va_W) (sz : Nat) (hT : TW ksC ad cy B qr s1 w0)  : Met l yX7_openHours (wu yX7_openHours cX7_openHours 8 (some .int)) ({ frames := 1, cells := 0, slots := 0, locals := 12 }) (va_Pc [.ref (ad 39), .int a1, .int 1, .long a3, .int 1] (wpreS adK adV dC dI cy sz w0)) (va_Qi (P_X7_openHours_12 ad cy B qr s1 a1 a3 w0) (fun u : va_W => wpost dC dI cy (va_A w0 sz) u) (va_A w0 sz)) 0 0 (va_A w0 sz) := by
  refine Met.ofW (cc := cX7_openHours) (maxL := 8) (ret := (some .int)) (by decide) rfl ?_
  intro p e s m args below meth c s₁ Bk hml hv
  obtain ⟨rfl, ⟨hsz, hP, hK, hD0⟩, hE, hSR⟩ := hv
  have hx := Bk.exec
  have hb := Bk.bytes
  have hr := Bk.returns
  have hlocks := Bk.notSynchronized
  have hC : CallFix p m c cX7_openHours 8 s _ (wu yX7_openHours cX7_openHours 8 (some .int)) RX7 := ⟨hx, hb, hml, findClass_of_methodNamed Bk.named, atoms_spec (ws := (wu yX7_openHours cX7_openHours 8 (some .int))) Bk.pre⟩
  subst hsz
  have hD := hD0.self (sz := s.heap.size)
  generalize hAe : va_A w0 s.heap.size = A at hD hE ⊢
  have hA : ∀ q : Nat, s.heap.size ≤ q → A q := fun q h => by rw [← hAe]; exact Or.inr h
  have hw : Wd dC dI A s.heap s.heap [] w0 := ⟨hP, hD, va_S.rf⟩
  have hF : FE ksC ([] : List (Nat × Nat × Nat)) w0 w0 := FE.rf
  have hl := lv_entry ([.ref (ad 39), .int a1, .int 1, .long a3, .int 1]) (n := 8) (Nat.le_of_ble_eq_true rfl)
  rw [lg_entry_eq]
  generalize (lg_sl ([.ref (ad 39), .int a1, .int 1, .long a3, .int 1]) ++ List.replicate (8 - (lg_sl ([.ref (ad 39), .int a1, .int 1, .long a3, .int 1])).length) Slot.unset).toArray = ls at hl ⊢
  have hl : lv_has ls 8 [(0, .ref (ad 39)), (1, .int a1), (2, .int 1), (3, .long a3), (5, .int 1)] := hl
  generalize hloc : ([] : List Loc) = locs at hw ⊢
  have hinX7 : ∀ w ∈ u_ws RX7 TX7 12, w ∈ (wu yX7_openHours cX7_openHours 8 (some .int)) := fun _ h => List.mem_cons_of_mem _ (up_73 h)
  have J93 : ∀ (v93_6 : Int32) (v93_7 : Int32) (H : Heap) (locs : List Loc) (ls : Array Slot) (w1 : va_W), 0 ≤ a1.toInt → a1.toInt ≤ 11 → 0 ≤ a3.toInt → a3.toInt ≤ 4254 → 0 ≤ v93_7.toInt → v93_7.toInt ≤ 8 → Wd dC dI A s.heap H locs w1 → TW ksC ad cy B qr s1 w1 → FE ksC ([] : List (Nat × Nat × Nat)) w0 w1 → lv_has ls 8 [(0, .ref (ad 39)), (1, .int a1), (2, .int 1), (3, .long a3), (5, .int 1), (6, .int v93_6), (7, .int v93_7)] → W p l e ({ frames := 1, cells := 0, slots := 0, locals := 12 }) s m (List.toArray [.ref (ad 39), .int a1, .int 1, .long a3, .int 1]) below meth c H locs 0 0 (MQ below (va_Qi (P_X7_openHours_12 ad cy B qr s1 a1 a3 w0) (fun u : va_W => wpost dC dI cy A u) A) (List.toArray [.ref (ad 39), .int a1, .int 1, .long a3, .int 1]) s 0 0 A) (F0 m 93 ls []) := by
    intro v93_6 v93_7 H locs ls w1 r2 t3 r4 t5 r6 t7 hw hT hF hl
    refine lv_ldc (v := 16777215) hx hb hC.2.2.2.1 (hC.2.2.2.2 _ (List.mem_cons_of_mem _ uw_31_17)) dX7_openHours_93 ?_
    refine lv_aload_n hx hb dX7_openHours_95 rfl (lv_at hl 0 rfl) ?_
    refine tk_getO hC hK hw hT hinX7 kC_at39 (by decide) rfl 3 (by decide) (List.mem_cons_of_mem _ uw_2_20) rfl rfl dX7_openHours_96 ?_
    refine lv_iload_n hx hb dX7_openHours_99 rfl (lv_at hl 1 rfl) ?_
    refine tk_iald hC hK hw hT kC_at43 rfl rfl (show 0 ≤ a1.toInt from r2) (show a1.toInt < 13 from Int.lt_of_le_of_lt t3 (by decide)) dX7_openHours_100 (fun x8 c9 rx8 tx8 => ?_)
    refine lv_iconst (v := (-1)) hx hb dX7_openHours_101 (by decide) ?_
    refine lv_ixor hx hb dX7_openHours_102 ?_
    refine lv_topi (fun x10 ex10 => ?_)
    refine lv_iand hx hb dX7_openHours_103 ?_
    refine lv_topi (fun x11 ex11 => ?_)
    have bx11 : 0 ≤ x11.toInt ∧ x11.toInt ≤ (16777215 : Int) := by rw [ex11]; exact wk_andC (by decide)
    exact tk_iret hC hr hlocks hK ⟨hT, hF, ⟨(show 0 ≤ x11.toInt by first | with_reducible assumption | omega), (show x11.toInt ≤ 16777215 by first | with_reducible assumption | omega)⟩⟩ hw dX7_openHours_104
  have L44 : ∀ (n44 : Nat) (v44_6 : Int32) (v44_7 : Int32) (H : Heap) (locs : List Loc) (ls : Array Slot) (w12 : va_W), 0 ≤ a1.toInt → a1.toInt ≤ 11 → 0 ≤ a3.toInt → a3.toInt ≤ 4254 → 0 ≤ v44_7.toInt → v44_7.toInt ≤ 8 → (8 - v44_7.toInt).toNat < n44 → Wd dC dI A s.heap H locs w12 → TW ksC ad cy B qr s1 w12 → FE ksC ([] : List (Nat × Nat × Nat)) w0 w12 → lv_has ls 8 [(0, .ref (ad 39)), (1, .int a1), (2, .int 1), (3, .long a3), (5, .int 1), (6, .int v44_6), (7, .int v44_7)] → W p l e ({ frames := 1, cells := 0, slots := 0, locals := 12 }) s m (List.toArray [.ref (ad 39), .int a1, .int 1, .long a3, .int 1]) below meth c H locs 0 0 (MQ below (va_Qi (P_X7_openHours_12 ad cy B qr s1 a1 a3 w0) (fun u : va_W => wpost dC dI cy A u) A) (List.toArray [.ref (ad 39), .int a1, .int 1, .long a3, .int 1]) s 0 0 A) (F0 m 44 ls []) := by
    intro n44
    induction n44 with
    | zero => intro v44_6 v44_7 H locs ls w12 r13 t14 r15 t16 r17 t18 hm44 hw hT hF hl; omega
    | succ n44 ih44 =>
      intro v44_6 v44_7 H locs ls w12 r13 t14 r15 t16 r17 t18 hm44 hw hT hF hl
      have J81 : ∀ (H : Heap) (locs : List Loc) (ls : Array Slot) (w19 : va_W), 0 ≤ a1.toInt → a1.toInt ≤ 11 → 0 ≤ a3.toInt → a3.toInt ≤ 4254 → 0 ≤ v44_7.toInt → v44_7.toInt ≤ 7 → Wd dC dI A s.heap H locs w19 → TW ksC ad cy B qr s1 w19 → FE ksC ([] : List (Nat × Nat × Nat)) w0 w19 → lv_has ls 8 [(0, .ref (ad 39)), (1, .int a1), (2, .int 1), (3, .long a3), (5, .int 1), (6, .int v44_6), (7, .int v44_7)] → W p l e ({ frames := 1, cells := 0, slots := 0, locals := 12 }) s m (List.toArray [.ref (ad 39), .int a1, .int 1, .long a3, .int 1]) below meth c H locs 0 0 (MQ below (va_Qi (P_X7_openHours_12 ad cy B qr s1 a1 a3 w0) (fun u : va_W => wpost dC dI cy A u) A) (List.toArray [.ref (ad 39), .int a1, .int 1, .long a3, .int 1]) s 0 0 A) (F0 m 81 ls []) := by
        intro H locs ls w19 r20 t21 r22 t23 r24 t25 hw hT hF hl
        refine lv_iload hx hb dX7_openHours_81 (lv_at hl 5 rfl) ?_
        refine lv_iconst (v := 1) hx hb dX7_openHours_83 (by decide) ?_
        refine lv_ishr hx hb dX7_openHours_84 ?_
        refine lv_topi (fun x26 ex26 => ?_)
        refine lv_istore (lv' := [(6, .int x26), (0, .ref (ad 39)), (1, .int a1), (2, .int 1), (3, .long a3), (5, .int 1), (7, .int v44_7)]) hx hb dX7_openHours_85 hl (by decide) rfl (fun ls hl => ?_)
        obtain ⟨x27, ex27⟩ : ∃ y : Int32, y = v44_7 + Int32.ofInt 1 := ⟨_, rfl⟩
        refine lv_iinc (v := x27) (lv' := [(7, .int x27), (6, .int x26), (0, .ref (ad 39)), (1, .int a1), (2, .int 1), (3, .long a3), (5, .int 1)]) hx hb dX7_openHours_87 hl (k := 6) rfl ex27.symm (by decide) rfl (fun ls hl => ?_)
        have ex27 : x27.toInt = v44_7.toInt + 1 := by rw [ex27]; exact wk_add (y := 1) (show -2147483648 ≤ v44_7.toInt + 1 by omega) (show v44_7.toInt + 1 ≤ 2147483647 by omega)
        refine lv_goto (tgt := 44) hx hb dX7_openHours_90 (by decide) ?_
        exact ih44 x26 x27 H locs ls w19 (show 0 ≤ a1.toInt from r20) (show a1.toInt ≤ 11 from t21) (show 0 ≤ a3.toInt from r22) (show a3.toInt ≤ 4254 from t23) (show 0 ≤ x27.toInt by first | with_reducible assumption | omega) (show x27.toInt ≤ 8 by first | with_reducible assumption | omega) (show (8 - x27.toInt).toNat < n44 by first | exact tn_lt hm44 (by omega) (by omega) | omega) hw hT hF  (lv_sub hl [2, 3, 4, 5, 6, 1, 0] rfl)
      refine lv_iload hx hb dX7_openHours_44 (lv_at hl 5 rfl) ?_
      refine lv_if_eq (tgt := 93) hx hb dX7_openHours_46 (by decide) (fun c28 => ?_) (fun c28 => ?_)
      · have c28 : v44_6.toInt = (0 : Int) := wk_eq.mp c28
        exact J93 v44_6 v44_7 H locs ls w12 (show 0 ≤ a1.toInt from r13) (show a1.toInt ≤ 11 from t14) (show 0 ≤ a3.toInt from r15) (show a3.toInt ≤ 4254 from t16) (show 0 ≤ v44_7.toInt from r17) (show v44_7.toInt ≤ 8 from t18)  hw hT hF  (lv_sub hl [0, 1, 2, 3, 4, 5, 6] rfl)
      · have c28 : ¬ v44_6.toInt = (0 : Int) := wk_eqF c28
        refine lv_iload hx hb dX7_openHours_49 (lv_at hl 6 rfl) ?_
        refine lv_bipush (v := 8) hx hb dX7_openHours_51 (by decide) ?_
        refine lv_icmp_ge (tgt := 93) hx hb dX7_openHours_53 (by decide) (fun c29 => ?_) (fun c29 => ?_)
        · have c29 : (8 : Int) ≤ v44_7.toInt := wk_le.mp c29
          exact J93 v44_6 v44_7 H locs ls w12 (show 0 ≤ a1.toInt from r13) (show a1.toInt ≤ 11 from t14) (show 0 ≤ a3.toInt from r15) (show a3.toInt ≤ 4254 from t16) (show 0 ≤ v44_7.toInt from r17) (show v44_7.toInt ≤ 8 from t18)  hw hT hF  (lv_sub hl [0, 1, 2, 3, 4, 5, 6] rfl)
        · have c29 : v44_7.toInt < (8 : Int) := wk_leF c29
          refine lv_iload hx hb dX7_openHours_56 (lv_at hl 5 rfl) ?_
          refine lv_iconst (v := 1) hx hb dX7_openHours_58 (by decide) ?_
          refine lv_iand hx hb dX7_openHours_59 ?_
          refine lv_topi (fun x30 ex30 => ?_)
          have bx30 : 0 ≤ x30.toInt ∧ x30.toInt ≤ (1 : Int) := by rw [ex30]; exact wk_and (by decide)
          refine lv_if_eq (tgt := 81) hx hb dX7_openHours_60 (by decide) (fun c31 => ?_) (fun c31 => ?_)
          · have c31 : x30.toInt = (0 : Int) := wk_eq.mp c31
            exact J81  H locs ls w12 (show 0 ≤ a1.toInt from r13) (show a1.toInt ≤ 11 from t14) (show 0 ≤ a3.toInt from r15) (show a3.toInt ≤ 4254 from t16) (show 0 ≤ v44_7.toInt from r17) (show v44_7.toInt ≤ 7 by first | with_reducible assumption | omega)  hw hT hF  (lv_sub hl [0, 1, 2, 3, 4, 5, 6] rfl)
          · have c31 : ¬ x30.toInt = (0 : Int) := wk_eqF c31
            refine lv_aload_n hx hb dX7_openHours_63 rfl (lv_at hl 0 rfl) ?_
            refine tk_getO hC hK hw hT hinX7 kC_at39 (by decide) rfl 6 (by decide) (List.mem_cons_of_mem _ uw_2_23) rfl rfl dX7_openHours_64 ?_
            refine lv_iload hx hb dX7_openHours_67 (lv_at hl 6 rfl) ?_
            refine tk_iald hC hK hw hT kC_at46 rfl rfl (show 0 ≤ v44_7.toInt from r17) (show v44_7.toInt < 8 from c29) dX7_openHours_69 (fun x32 c33 rx32 tx32 => ?_)
            refine lv_lload_n hx hb dX7_openHours_70 rfl (lv_at hl 3 rfl) ?_
            refine lv_ldc2 (v := 360) hx hb hC.2.2.2.1 (hC.2.2.2.2 _ (List.mem_cons_of_mem _ uw_31_16)) dX7_openHours_71 ?_
            refine lv_lrem hx hb dX7_openHours_74 (by decide) ?_
            refine lv_topl (fun x34 ex34 => ?_)
            have ex34 : x34.toInt = a3.toInt % (360 : Int) := by rw [ex34]; exact wk_reml (show 0 ≤ a3.toInt from r15) (show 0 < (360 : Int) by decide)
            refine lv_l2i hx hb dX7_openHours_75 rfl ?_
            refine lv_topi (fun x35 ex35 => ?_)
            have ex35 : x35.toInt = x34.toInt := by rw [ex35]; exact wk_l2i (by omega) (by omega)
            refine lv_icmp_ne (tgt := 81) hx hb dX7_openHours_76 (by decide) (fun c36 => ?_) (fun c36 => ?_)
            · have c36 : ¬ x32.toInt = x35.toInt := wk_eqF c36
              exact J81  H locs ls w12 (show 0 ≤ a1.toInt from r13) (show a1.toInt ≤ 11 from t14) (show 0 ≤ a3.toInt from r15) (show a3.toInt ≤ 4254 from t16) (show 0 ≤ v44_7.toInt from r17) (show v44_7.toInt ≤ 7 by first | with_reducible assumption | omega)  hw hT hF  (lv_sub hl [0, 1, 2, 3, 4, 5, 6] rfl)
            · have c36 : x32.toInt = x35.toInt := wk_eq.mp c36
              refine lv_iconst (v := 0) hx hb dX7_openHours_79 (by decide) ?_
              exact tk_iret hC hr hlocks hK ⟨hT, hF, ⟨(by decide), (by decide)⟩⟩ hw dX7_openHours_80
  refine lv_aload_n hx hb dX7_openHours_0 rfl (lv_at hl 0 rfl) ?_
  refine tk_getO hC hK hw hT hinX7 kC_at39 (by decide) rfl 4 (by decide) (List.mem_cons_of_mem _ uw_2_21) rfl rfl dX7_openHours_1 ?_
  refine lv_iconst (v := 2) hx hb dX7_openHours_4 (by decide) ?_
  refine lv_iload_n hx hb dX7_openHours_5 rfl (lv_at hl 1 rfl) ?_
  refine lv_imul hx hb dX7_openHours_6 ?_
  refine lv_topi (fun x37 ex37 => ?_)
  have ex37 : x37.toInt = (2 : Int) * a1.toInt := by rw [ex37]; exact wk_mul (show (-2147483648) ≤ (2 : Int) * a1.toInt by omega) (show (2 : Int) * a1.toInt ≤ 2147483647 by omega)
  refine lv_iload_n hx hb dX7_openHours_7 rfl (lv_at hl 2 rfl) ?_
  refine lv_iadd hx hb dX7_openHours_8 ?_
  refine lv_topi (fun x38 ex38 => ?_)
  have ex38 : x38.toInt = x37.toInt + (1 : Int) := by rw [ex38]; exact wk_add (show (-2147483648) ≤ x37.toInt + (1 : Int) by omega) (show x37.toInt + (1 : Int) ≤ 2147483647 by omega)
  refine tk_iald hC hK hw hT kC_at44 rfl rfl (show 0 ≤ x38.toInt by first | with_reducible assumption | omega) (show x38.toInt < 26 by first | with_reducible assumption | omega) dX7_openHours_9 (fun x39 c40 rx39 tx39 => ?_)
  refine lv_lload_n hx hb dX7_openHours_10 rfl (lv_at hl 3 rfl) ?_
  refine lv_ldc2 (v := 7) hx hb hC.2.2.2.1 (hC.2.2.2.2 _ (List.mem_cons_of_mem _ uw_31_15)) dX7_openHours_11 ?_
  refine lv_lrem hx hb dX7_openHours_14 (by decide) ?_
  refine lv_topl (fun x41 ex41 => ?_)
  have ex41 : x41.toInt = a3.toInt % (7 : Int) := by rw [ex41]; exact wk_reml (show 0 ≤ a3.toInt from ra3) (show 0 < (7 : Int) by decide)
  refine lv_l2i hx hb dX7_openHours_15 rfl ?_
  refine lv_topi (fun x42 ex42 => ?_)
  have ex42 : x42.toInt = x41.toInt := by rw [ex42]; exact wk_l2i (by omega) (by omega)
  refine lv_ishr hx hb dX7_openHours_16 ?_
  refine lv_topi (fun x43 ex43 => ?_)
  refine lv_iconst (v := 1) hx hb dX7_openHours_17 (by decide) ?_
  refine lv_iand hx hb dX7_openHours_18 ?_
  refine lv_topi (fun x44 ex44 => ?_)
  have bx44 : 0 ≤ x44.toInt ∧ x44.toInt ≤ (1 : Int) := by rw [ex44]; exact wk_and (by decide)
  refine lv_if_ne (tgt := 24) hx hb dX7_openHours_19 (by decide) (fun c45 => ?_) (fun c45 => ?_)
  · have c45 : ¬ x44.toInt = (0 : Int) := wk_eqF c45
    refine lv_iload hx hb dX7_openHours_24 (lv_at hl 4 rfl) ?_
    refine lv_if_eq (tgt := 38) hx hb dX7_openHours_26 (by decide) (fun c => absurd c (by decide)) (fun _ => ?_)
    refine lv_aload_n hx hb dX7_openHours_29 rfl (lv_at hl 0 rfl) ?_
    refine tk_getO hC hK hw hT hinX7 kC_at39 (by decide) rfl 7 (by decide) (List.mem_cons_of_mem _ uw_3_0) rfl rfl dX7_openHours_30 ?_
    refine lv_iload_n hx hb dX7_openHours_33 rfl (lv_at hl 1 rfl) ?_
    refine tk_iald hC hK hw hT kC_at47 rfl rfl (show 0 ≤ a1.toInt from ra1) (show a1.toInt < 13 from Int.lt_of_le_of_lt ta1 (by decide)) dX7_openHours_34 (fun x46 c47 rx46 tx46 => ?_)
    refine lv_goto (tgt := 39) hx hb dX7_openHours_35 (by decide) ?_
    refine lv_istore (lv' := [(6, .int x46), (0, .ref (ad 39)), (1, .int a1), (2, .int 1), (3, .long a3), (5, .int 1)]) hx hb dX7_openHours_39 hl (by decide) rfl (fun ls hl => ?_)
    refine lv_iconst (v := 0) hx hb dX7_openHours_41 (by decide) ?_
    refine lv_istore (lv' := [(7, .int 0), (6, .int x46), (0, .ref (ad 39)), (1, .int a1), (2, .int 1), (3, .long a3), (5, .int 1)]) hx hb dX7_openHours_42 hl (by decide) rfl (fun ls hl => ?_)
    exact L44 ((8 - (0 : Int)).toNat + 1) x46 0 s.heap locs ls w0 (show 0 ≤ a1.toInt from ra1) (show a1.toInt ≤ 11 from ta1) (show 0 ≤ a3.toInt from ra3) (show a3.toInt ≤ 4254 from ta3) (by decide) (by decide) (Nat.lt_succ_self _) hw hT hF  (lv_sub hl [2, 3, 4, 5, 6, 1, 0] rfl)
  · have c45 : x44.toInt = (0 : Int) := wk_eq.mp c45
    refine lv_iconst (v := 0) hx hb dX7_openHours_22 (by decide) ?_
    exact tk_iret hC hr hlocks hK ⟨hT, hF, ⟨(by decide), (by decide)⟩⟩ hw dX7_openHours_23
abbrev P_X7_firstOpen_6 (ad : Nat → Nat) (cy : Nat → ClassId) (B : Int) (qr : Nat) (s1 : Int) (a1 : Int32) (a3 : Int32) (a4 : Int32) (w0 : va_W) : Int32 → va_W → Prop := fun r u => TW ksC ad cy B qr s1 u ∧ FE ksC ([] : List (Nat × Nat × Nat)) w0 u ∧ ((0 ≤ r.toInt ∧ r.toInt ≤ 102119 ∧ 0 ≤ a4.toInt) ∨ (r = (-1)))
set_option maxHeartbeats 4000000 in
set_option maxRecDepth 100000 in
theorem k_X7_firstOpen_6 (l : Launch) (adK adV : Nat → Nat) (dC : Nat → ClassId) (dI : Nat → Nat → Nat) (cy : Nat → ClassId) (ad : Nat → Nat) (B : Int) (hB0 : 2147483648 ≤ B) (hB1 : B ≤ 1152921504606846976) (qr : Nat) (s1 : Int)  (a1 : Int32) (ra1 : 0 ≤ a1.toInt) (ta1 : a1.toInt ≤ 11) (a3 : Int32) (ra3 : (-1) ≤ a3.toInt) (ta3 : a3.toInt ≤ 102119) (a4 : Int32) (ra4 : (-1) ≤ a4.toInt) (ta4 : a4.toInt ≤ 102119) (w0 : va_W) (sz : Nat) (hT : TW ksC ad cy B qr s1 w0)  : Met l yX7_firstOpen (wu yX7_firstOpen cX7_firstOpen 10 (some .int)) ({ frames := 2, cells := 0, slots := 0, locals := 39 }) (va_Pc [.ref (ad 39), .int a1, .int 1, .int a3, .int a4] (wpreS adK adV dC dI cy sz w0)) (va_Qi (P_X7_firstOpen_6 ad cy B qr s1 a1 a3 a4 w0) (fun u : va_W => wpost dC dI cy (va_A w0 sz) u) (va_A w0 sz)) 0 0 (va_A w0 sz) := by
  refine Met.ofW (cc := cX7_firstOpen) (maxL := 10) (ret := (some .int)) (by decide) rfl ?_
  intro p e s m args below meth c s₁ Bk hml hv
  obtain ⟨rfl, ⟨hsz, hP, hK, hD0⟩, hE, hSR⟩ := hv
  have hx := Bk.exec
  have hb := Bk.bytes
  have hr := Bk.returns
  have hlocks := Bk.notSynchronized
  have hC : CallFix p m c cX7_firstOpen 10 s _ (wu yX7_firstOpen cX7_firstOpen 10 (some .int)) RX7 := ⟨hx, hb, hml, findClass_of_methodNamed Bk.named, atoms_spec (ws := (wu yX7_firstOpen cX7_firstOpen 10 (some .int))) Bk.pre⟩
  subst hsz
  have hD := hD0.self (sz := s.heap.size)
  generalize hAe : va_A w0 s.heap.size = A at hD hE ⊢
  have hA : ∀ q : Nat, s.heap.size ≤ q → A q := fun q h => by rw [← hAe]; exact Or.inr h
  have hw : Wd dC dI A s.heap s.heap [] w0 := ⟨hP, hD, va_S.rf⟩
  have hF : FE ksC ([] : List (Nat × Nat × Nat)) w0 w0 := FE.rf
  have hl := lv_entry ([.ref (ad 39), .int a1, .int 1, .int a3, .int a4]) (n := 10) (Nat.le_of_ble_eq_true rfl)
  rw [lg_entry_eq]
  generalize (lg_sl ([.ref (ad 39), .int a1, .int 1, .int a3, .int a4]) ++ List.replicate (10 - (lg_sl ([.ref (ad 39), .int a1, .int 1, .int a3, .int a4])).length) Slot.unset).toArray = ls at hl ⊢
  have hl : lv_has ls 10 [(0, .ref (ad 39)), (1, .int a1), (2, .int 1), (3, .int a3), (4, .int a4)] := hl
  generalize hloc : ([] : List Loc) = locs at hw ⊢
  have L25 : ∀ (n25 : Nat) (v25_5 : Int32) (v25_6 : Int32) (H : Heap) (locs : List Loc) (ls : Array Slot) (w1 : va_W), 0 ≤ a1.toInt → a1.toInt ≤ 11 → (-1) ≤ a3.toInt → a3.toInt ≤ 102119 → (-1) ≤ a4.toInt → a4.toInt ≤ 102119 → 0 ≤ v25_6.toInt → v25_6.toInt ≤ 4255 → (4255 - v25_6.toInt).toNat < n25 → Wd dC dI A s.heap H locs w1 → TW ksC ad cy B qr s1 w1 → FE ksC ([] : List (Nat × Nat × Nat)) w0 w1 → lv_has ls 10 [(0, .ref (ad 39)), (1, .int a1), (2, .int 1), (3, .int a3), (4, .int a4), (5, .int v25_5), (6, .int v25_6)] → W p l e ({ frames := 2, cells := 0, slots := 0, locals := 39 }) s m (List.toArray [.ref (ad 39), .int a1, .int 1, .int a3, .int a4]) below meth c H locs 0 0 (MQ below (va_Qi (P_X7_firstOpen_6 ad cy B qr s1 a1 a3 a4 w0) (fun u : va_W => wpost dC dI cy A u) A) (List.toArray [.ref (ad 39), .int a1, .int 1, .int a3, .int a4]) s 0 0 A) (F0 m 25 ls []) := by
    intro n25
    induction n25 with
    | zero => intro v25_5 v25_6 H locs ls w1 r2 t3 r4 t5 r6 t7 r8 t9 hm25 hw hT hF hl; omega
    | succ n25 ih25 =>
      intro v25_5 v25_6 H locs ls w1 r2 t3 r4 t5 r6 t7 r8 t9 hm25 hw hT hF hl
      have J108 : ∀ (v108_7 : Int32) (v108_8 : Int32) (H : Heap) (locs : List Loc) (ls : Array Slot) (w10 : va_W), 0 ≤ a1.toInt → a1.toInt ≤ 11 → (-1) ≤ a3.toInt → a3.toInt ≤ 102119 → 0 ≤ a4.toInt → a4.toInt ≤ 102119 → 0 ≤ v25_6.toInt → v25_6.toInt ≤ 4254 → 0 ≤ v108_7.toInt → v108_7.toInt ≤ 16777215 → 0 ≤ v108_8.toInt → v108_8.toInt ≤ 24 → Wd dC dI A s.heap H locs w10 → TW ksC ad cy B qr s1 w10 → FE ksC ([] : List (Nat × Nat × Nat)) w0 w10 → lv_has ls 10 [(0, .ref (ad 39)), (1, .int a1), (2, .int 1), (3, .int a3), (4, .int a4), (5, .int (-1)), (6, .int v25_6), (7, .int v108_7), (8, .int v108_8)] → W p l e ({ frames := 2, cells := 0, slots := 0, locals := 39 }) s m (List.toArray [.ref (ad 39), .int a1, .int 1, .int a3, .int a4]) below meth c H locs 0 0 (MQ below (va_Qi (P_X7_firstOpen_6 ad cy B qr s1 a1 a3 a4 w0) (fun u : va_W => wpost dC dI cy A u) A) (List.toArray [.ref (ad 39), .int a1, .int 1, .int a3, .int a4]) s 0 0 A) (F0 m 108 ls []) := by
        intro v108_7 v108_8 H locs ls w10 r11 t12 r13 t14 r15 t16 r17 t18 r19 t20 r21 t22 hw hT hF hl
        obtain ⟨x23, ex23⟩ : ∃ y : Int32, y = v25_6 + Int32.ofInt 1 := ⟨_, rfl⟩
        refine lv_iinc (v := x23) (lv' := [(6, .int x23), (0, .ref (ad 39)), (1, .int a1), (2, .int 1), (3, .int a3), (4, .int a4), (5, .int (-1)), (7, .int v108_7), (8, .int v108_8)]) hx hb dX7_firstOpen_108 hl (k := 6) rfl ex23.symm (by decide) rfl (fun ls hl => ?_)
        have ex23 : x23.toInt = v25_6.toInt + 1 := by rw [ex23]; exact wk_add (y := 1) (show -2147483648 ≤ v25_6.toInt + 1 by omega) (show v25_6.toInt + 1 ≤ 2147483647 by omega)
        refine lv_goto (tgt := 25) hx hb dX7_firstOpen_111 (by decide) ?_
        exact ih25 (-1) x23 H locs ls w10 (show 0 ≤ a1.toInt from r11) (show a1.toInt ≤ 11 from t12) (show (-1) ≤ a3.toInt from r13) (show a3.toInt ≤ 102119 from t14) (show (-1) ≤ a4.toInt from r6) (show a4.toInt ≤ 102119 from t16) (show 0 ≤ x23.toInt by first | with_reducible assumption | omega) (show x23.toInt ≤ 4255 by first | with_reducible assumption | omega) (show (4255 - x23.toInt).toNat < n25 by first | exact tn_lt hm25 (by omega) (by omega) | omega) hw hT hF  (lv_sub hl [1, 2, 3, 4, 5, 6, 0] rfl)
      have L56 : ∀ (n56 : Nat) (v56_7 : Int32) (v56_8 : Int32) (H : Heap) (locs : List Loc) (ls : Array Slot) (w24 : va_W), 0 ≤ a1.toInt → a1.toInt ≤ 11 → (-1) ≤ a3.toInt → a3.toInt ≤ 102119 → 0 ≤ a4.toInt → a4.toInt ≤ 102119 → 0 ≤ v25_6.toInt → v25_6.toInt ≤ 4254 → 0 ≤ v56_7.toInt → v56_7.toInt ≤ 16777215 → 0 ≤ v56_8.toInt → v56_8.toInt ≤ 24 → (24 - v56_8.toInt).toNat < n56 → Wd dC dI A s.heap H locs w24 → TW ksC ad cy B qr s1 w24 → FE ksC ([] : List (Nat × Nat × Nat)) w0 w24 → lv_has ls 10 [(0, .ref (ad 39)), (1, .int a1), (2, .int 1), (3, .int a3), (4, .int a4), (5, .int (-1)), (6, .int v25_6), (7, .int v56_7), (8, .int v56_8)] → W p l e ({ frames := 2, cells := 0, slots := 0, locals := 39 }) s m (List.toArray [.ref (ad 39), .int a1, .int 1, .int a3, .int a4]) below meth c H locs 0 0 (MQ below (va_Qi (P_X7_firstOpen_6 ad cy B qr s1 a1 a3 a4 w0) (fun u : va_W => wpost dC dI cy A u) A) (List.toArray [.ref (ad 39), .int a1, .int 1, .int a3, .int a4]) s 0 0 A) (F0 m 56 ls []) := by
        intro n56
        induction n56 with
        | zero => intro v56_7 v56_8 H locs ls w24 r25 t26 r27 t28 r29 t30 r31 t32 r33 t34 r35 t36 hm56 hw hT hF hl; omega
        | succ n56 ih56 =>
          intro v56_7 v56_8 H locs ls w24 r25 t26 r27 t28 r29 t30 r31 t32 r33 t34 r35 t36 hm56 hw hT hF hl
          refine lv_iload hx hb dX7_firstOpen_56 (lv_at hl 7 rfl) ?_
          refine lv_if_eq (tgt := 108) hx hb dX7_firstOpen_58 (by decide) (fun c37 => ?_) (fun c37 => ?_)
          · have c37 : v56_7.toInt = (0 : Int) := wk_eq.mp c37
            exact J108 v56_7 v56_8 H locs ls w24 (show 0 ≤ a1.toInt from r25) (show a1.toInt ≤ 11 from t26) (show (-1) ≤ a3.toInt from r27) (show a3.toInt ≤ 102119 from t28) (show 0 ≤ a4.toInt from r29) (show a4.toInt ≤ 102119 from t30) (show 0 ≤ v25_6.toInt from r31) (show v25_6.toInt ≤ 4254 from t32) (show 0 ≤ v56_7.toInt from r33) (show v56_7.toInt ≤ 16777215 from t34) (show 0 ≤ v56_8.toInt from r35) (show v56_8.toInt ≤ 24 from t36)  hw hT hF  (lv_sub hl [0, 1, 2, 3, 4, 5, 6, 7, 8] rfl)
          · have c37 : ¬ v56_7.toInt = (0 : Int) := wk_eqF c37
            refine lv_iload hx hb dX7_firstOpen_61 (lv_at hl 8 rfl) ?_
            refine lv_bipush (v := 24) hx hb dX7_firstOpen_63 (by decide) ?_
            refine lv_icmp_ge (tgt := 108) hx hb dX7_firstOpen_65 (by decide) (fun c38 => ?_) (fun c38 => ?_)
            · have c38 : (24 : Int) ≤ v56_8.toInt := wk_le.mp c38
              exact J108 v56_7 v56_8 H locs ls w24 (show 0 ≤ a1.toInt from r25) (show a1.toInt ≤ 11 from t26) (show (-1) ≤ a3.toInt from r27) (show a3.toInt ≤ 102119 from t28) (show 0 ≤ a4.toInt from r29) (show a4.toInt ≤ 102119 from t30) (show 0 ≤ v25_6.toInt from r31) (show v25_6.toInt ≤ 4254 from t32) (show 0 ≤ v56_7.toInt from r33) (show v56_7.toInt ≤ 16777215 from t34) (show 0 ≤ v56_8.toInt from r35) (show v56_8.toInt ≤ 24 from t36)  hw hT hF  (lv_sub hl [0, 1, 2, 3, 4, 5, 6, 7, 8] rfl)
            · have c38 : v56_8.toInt < (24 : Int) := wk_leF c38
              refine lv_iload hx hb dX7_firstOpen_68 (lv_at hl 7 rfl) ?_
              refine lv_iload hx hb dX7_firstOpen_70 (lv_at hl 8 rfl) ?_
              refine lv_ishr hx hb dX7_firstOpen_72 ?_
              refine lv_topi (fun x39 ex39 => ?_)
              have bx39 : 0 ≤ x39.toInt ∧ x39.toInt ≤ v56_7.toInt := by rw [ex39]; exact wk_shr (by omega)
              refine lv_iconst (v := 1) hx hb dX7_firstOpen_73 (by decide) ?_
              refine lv_iand hx hb dX7_firstOpen_74 ?_
              refine lv_topi (fun x40 ex40 => ?_)
              have bx40 : 0 ≤ x40.toInt ∧ x40.toInt ≤ (1 : Int) := by rw [ex40]; exact wk_and (by decide)
              refine lv_if_eq (tgt := 102) hx hb dX7_firstOpen_75 (by decide) (fun c41 => ?_) (fun c41 => ?_)
              · have c41 : x40.toInt = (0 : Int) := wk_eq.mp c41
                obtain ⟨x42, ex42⟩ : ∃ y : Int32, y = v56_8 + Int32.ofInt 1 := ⟨_, rfl⟩
                refine lv_iinc (v := x42) (lv' := [(8, .int x42), (0, .ref (ad 39)), (1, .int a1), (2, .int 1), (3, .int a3), (4, .int a4), (5, .int (-1)), (6, .int v25_6), (7, .int v56_7)]) hx hb dX7_firstOpen_102 hl (k := 8) rfl ex42.symm (by decide) rfl (fun ls hl => ?_)
                have ex42 : x42.toInt = v56_8.toInt + 1 := by rw [ex42]; exact wk_add (y := 1) (show -2147483648 ≤ v56_8.toInt + 1 by omega) (show v56_8.toInt + 1 ≤ 2147483647 by omega)
                refine lv_goto (tgt := 56) hx hb dX7_firstOpen_105 (by decide) ?_
                exact ih56 v56_7 x42 H locs ls w24 (show 0 ≤ a1.toInt from r25) (show a1.toInt ≤ 11 from t26) (show (-1) ≤ a3.toInt from r27) (show a3.toInt ≤ 102119 from t28) (show 0 ≤ a4.toInt from r29) (show a4.toInt ≤ 102119 from t30) (show 0 ≤ v25_6.toInt from r31) (show v25_6.toInt ≤ 4254 from t32) (show 0 ≤ v56_7.toInt from r33) (show v56_7.toInt ≤ 16777215 from t34) (show 0 ≤ x42.toInt by first | with_reducible assumption | omega) (show x42.toInt ≤ 24 by first | with_reducible assumption | omega) (show (24 - x42.toInt).toNat < n56 by first | exact tn_lt hm56 (by omega) (by omega) | omega) hw hT hF  (lv_sub hl [1, 2, 3, 4, 5, 6, 7, 8, 0] rfl)
              · have c41 : ¬ x40.toInt = (0 : Int) := wk_eqF c41
                refine lv_iload hx hb dX7_firstOpen_78 (lv_at hl 6 rfl) ?_
                refine lv_bipush (v := 24) hx hb dX7_firstOpen_80 (by decide) ?_
                refine lv_imul hx hb dX7_firstOpen_82 ?_
                refine lv_topi (fun x43 ex43 => ?_)
                have ex43 : x43.toInt = v25_6.toInt * (24 : Int) := by rw [ex43]; exact wk_mul (show (-2147483648) ≤ v25_6.toInt * (24 : Int) by omega) (show v25_6.toInt * (24 : Int) ≤ 2147483647 by omega)
                refine lv_iload hx hb dX7_firstOpen_83 (lv_at hl 8 rfl) ?_
                refine lv_iadd hx hb dX7_firstOpen_85 ?_
                refine lv_topi (fun x44 ex44 => ?_)
                have ex44 : x44.toInt = x43.toInt + v56_8.toInt := by rw [ex44]; exact wk_add (show (-2147483648) ≤ x43.toInt + v56_8.toInt by omega) (show x43.toInt + v56_8.toInt ≤ 2147483647 by omega)
                refine lv_istore (lv' := [(9, .int x44), (0, .ref (ad 39)), (1, .int a1), (2, .int 1), (3, .int a3), (4, .int a4), (5, .int (-1)), (6, .int v25_6), (7, .int v56_7), (8, .int v56_8)]) hx hb dX7_firstOpen_86 hl (by decide) rfl (fun ls hl => ?_)
                refine lv_iload hx hb dX7_firstOpen_88 (lv_at hl 0 rfl) ?_
                refine lv_iload hx hb dX7_firstOpen_90 (lv_at hl 5 rfl) ?_
                refine lv_icmp_gt (tgt := 100) hx hb dX7_firstOpen_92 (by decide) (fun c45 => ?_) (fun c45 => ?_)
                · have c45 : a4.toInt < x44.toInt := wk_lt.mp c45
                  refine lv_iconst (v := (-1)) hx hb dX7_firstOpen_100 (by decide) ?_
                  exact tk_iret hC hr hlocks hK ⟨hT, hF, (Or.inr rfl)⟩ hw dX7_firstOpen_101
                · have c45 : x44.toInt ≤ a4.toInt := wk_ltF c45
                  refine lv_iload hx hb dX7_firstOpen_95 (lv_at hl 0 rfl) ?_
                  refine lv_goto (tgt := 101) hx hb dX7_firstOpen_97 (by decide) ?_
                  exact tk_iret hC hr hlocks hK ⟨hT, hF, (Or.inl ⟨(show 0 ≤ x44.toInt by first | with_reducible assumption | omega), (show x44.toInt ≤ 102119 by first | with_reducible assumption | omega), (show 0 ≤ a4.toInt from r29)⟩)⟩ hw dX7_firstOpen_101
      refine lv_iload hx hb dX7_firstOpen_25 (lv_at hl 6 rfl) ?_
      refine lv_bipush (v := 24) hx hb dX7_firstOpen_27 (by decide) ?_
      refine lv_imul hx hb dX7_firstOpen_29 ?_
      refine lv_topi (fun x46 ex46 => ?_)
      have ex46 : x46.toInt = v25_6.toInt * (24 : Int) := by rw [ex46]; exact wk_mul (show (-2147483648) ≤ v25_6.toInt * (24 : Int) by omega) (show v25_6.toInt * (24 : Int) ≤ 2147483647 by omega)
      refine lv_iload hx hb dX7_firstOpen_30 (lv_at hl 4 rfl) ?_
      refine lv_icmp_gt (tgt := 114) hx hb dX7_firstOpen_32 (by decide) (fun c47 => ?_) (fun c47 => ?_)
      · have c47 : a4.toInt < x46.toInt := wk_lt.mp c47
        refine lv_iconst (v := (-1)) hx hb dX7_firstOpen_114 (by decide) ?_
        exact tk_iret hC hr hlocks hK ⟨hT, hF, (Or.inr rfl)⟩ hw dX7_firstOpen_115
      · have c47 : x46.toInt ≤ a4.toInt := wk_ltF c47
        refine lv_aload_n hx hb dX7_firstOpen_35 rfl (lv_at hl 0 rfl) ?_
        refine lv_iload_n hx hb dX7_firstOpen_36 rfl (lv_at hl 1 rfl) ?_
        refine lv_iload_n hx hb dX7_firstOpen_37 rfl (lv_at hl 2 rfl) ?_
        refine lv_iload hx hb dX7_firstOpen_38 (lv_at hl 6 rfl) ?_
        refine lv_i2l hx hb dX7_firstOpen_40 rfl ?_
        refine lv_topl (fun x48 ex48 => ?_)
        have ex48 : x48.toInt = v25_6.toInt := by rw [ex48]; exact wk_i2l _
        have bx48 := wk_i32 v25_6
        refine lv_iconst (v := 1) hx hb dX7_firstOpen_41 (by decide) ?_
        refine tk_Vi hC hK hw hT hA hE hSR kC_at39 (by decide) rfl (k_X7_openHours_12 l adK adV dC dI cy ad B hB0 (Int.le_trans hB1 (by decide)) qr s1   a1 (show 0 ≤ a1.toInt from r2) (show a1.toInt ≤ 11 from t3) x48 (show 0 ≤ x48.toInt by first | with_reducible assumption | omega) (show x48.toInt ≤ 4254 by first | with_reducible assumption | omega) w1 H.size hT ) (cwV 4 hC.2.2.2.2 uV_RX7_148 rfl rfl rfl (by decide +kernel) ⟨Nat.le_of_ble_eq_true rfl, Nat.le_of_ble_eq_true rfl⟩) rfl hl.1 rfl (Nat.le_of_ble_eq_true rfl) dX7_firstOpen_42 (fun r49 w51 H locs hp50 hw => ?_)
        obtain ⟨hT, k52, hg55⟩ := hp50
        have hF := hF.tr k52 (by decide)
        obtain ⟨g53, g54⟩ := hg55
        refine lv_iload hx hb dX7_firstOpen_45 (lv_at hl 5 rfl) ?_
        refine lv_iand hx hb dX7_firstOpen_47 ?_
        refine lv_topi (fun x56 ex56 => ?_)
        have bx56 : 0 ≤ x56.toInt ∧ x56.toInt ≤ r49.toInt := by rw [ex56]; exact wk_andC (by omega)
        refine lv_istore (lv' := [(7, .int x56), (0, .ref (ad 39)), (1, .int a1), (2, .int 1), (3, .int a3), (4, .int a4), (5, .int v25_5), (6, .int v25_6)]) hx hb dX7_firstOpen_48 hl (by decide) rfl (fun ls hl => ?_)
        refine lv_iconst (v := (-1)) hx hb dX7_firstOpen_50 (by decide) ?_
        refine lv_istore (lv' := [(5, .int (-1)), (7, .int x56), (0, .ref (ad 39)), (1, .int a1), (2, .int 1), (3, .int a3), (4, .int a4), (6, .int v25_6)]) hx hb dX7_firstOpen_51 hl (by decide) rfl (fun ls hl => ?_)
        refine lv_iconst (v := 0) hx hb dX7_firstOpen_53 (by decide) ?_
        refine lv_istore (lv' := [(8, .int 0), (5, .int (-1)), (7, .int x56), (0, .ref (ad 39)), (1, .int a1), (2, .int 1), (3, .int a3), (4, .int a4), (6, .int v25_6)]) hx hb dX7_firstOpen_54 hl (by decide) rfl (fun ls hl => ?_)
        exact L56 ((24 - (0 : Int)).toNat + 1) x56 0 H locs ls w51 (show 0 ≤ a1.toInt from r2) (show a1.toInt ≤ 11 from t3) (show (-1) ≤ a3.toInt from r4) (show a3.toInt ≤ 102119 from t5) (show 0 ≤ a4.toInt by first | with_reducible assumption | omega) (show a4.toInt ≤ 102119 from t7) (show 0 ≤ v25_6.toInt from r8) (show v25_6.toInt ≤ 4254 by first | with_reducible assumption | omega) (show 0 ≤ x56.toInt by first | with_reducible assumption | omega) (show x56.toInt ≤ 16777215 by first | with_reducible assumption | omega) (by decide) (by decide) (Nat.lt_succ_self _) hw hT hF  (lv_sub hl [3, 4, 5, 6, 7, 1, 8, 2, 0] rfl)
  refine lv_aload_n hx hb dX7_firstOpen_0 rfl (lv_at hl 0 rfl) ?_
  refine lv_iload_n hx hb dX7_firstOpen_1 rfl (lv_at hl 1 rfl) ?_
  refine lv_iload_n hx hb dX7_firstOpen_2 rfl (lv_at hl 2 rfl) ?_
  refine tk_Vi hC hK hw hT hA hE hSR kC_at39 (by decide) rfl (k_X7_isNeverOpen_2 l adK adV dC dI cy ad B hB0 (Int.le_trans hB1 (by decide)) qr s1   a1 (show 0 ≤ a1.toInt from ra1) (show a1.toInt ≤ 11 from ta1) w0 s.heap.size hT ) (cwV 2 hC.2.2.2.2 uV_RX7_152 rfl rfl rfl (by decide +kernel) ⟨Nat.le_of_ble_eq_true rfl, Nat.le_of_ble_eq_true rfl⟩) rfl hl.1 rfl (Nat.le_of_ble_eq_true rfl) dX7_firstOpen_3 (fun r57 w59 H locs hp58 hw => ?_)
  obtain ⟨hT, k60, hg61⟩ := hp58
  have hF := hF.tr k60 (by decide)
  rcases hg61 with rfl | rfl
  · refine lv_if_eq (tgt := 11) hx hb dX7_firstOpen_6 (by decide) (fun _ => ?_) (fun c => absurd (by decide) c)
    refine lv_iconst (v := (-1)) hx hb dX7_firstOpen_11 (by decide) ?_
    refine lv_iload_n hx hb dX7_firstOpen_12 rfl (lv_at hl 3 rfl) ?_
    refine lv_bipush (v := 24) hx hb dX7_firstOpen_13 (by decide) ?_
    refine lv_irem hx hb dX7_firstOpen_15 (by decide) ?_
    refine lv_topi (fun x62 ex62 => ?_)
    refine lv_ishl hx hb dX7_firstOpen_16 ?_
    refine lv_topi (fun x63 ex63 => ?_)
    refine lv_istore (lv' := [(5, .int x63), (0, .ref (ad 39)), (1, .int a1), (2, .int 1), (3, .int a3), (4, .int a4)]) hx hb dX7_firstOpen_17 hl (by decide) rfl (fun ls hl => ?_)
    refine lv_iload_n hx hb dX7_firstOpen_19 rfl (lv_at hl 4 rfl) ?_
    refine lv_bipush (v := 24) hx hb dX7_firstOpen_20 (by decide) ?_
    refine lv_idiv hx hb dX7_firstOpen_22 (by decide) ?_
    refine lv_topi (fun x64 ex64 => ?_)
    have bx64 : -(1 / (24 : Int)) ≤ x64.toInt ∧ x64.toInt ≤ 102119 / (24 : Int) := by rw [ex64]; exact wk_divB (m := 1) (n := 102119) (show 0 < (24 : Int) by decide) (by decide) (by decide) (by omega) (by omega)
    refine lv_istore (lv' := [(6, .int x64), (5, .int x63), (0, .ref (ad 39)), (1, .int a1), (2, .int 1), (3, .int a3), (4, .int a4)]) hx hb dX7_firstOpen_23 hl (by decide) rfl (fun ls hl => ?_)
    exact L25 ((4255 - x64.toInt).toNat + 1) x63 x64 H locs ls w59 (show 0 ≤ a1.toInt from ra1) (show a1.toInt ≤ 11 from ta1) (show (-1) ≤ a3.toInt from ra3) (show a3.toInt ≤ 102119 from ta3) (show (-1) ≤ a4.toInt from ra4) (show a4.toInt ≤ 102119 from ta4) (show 0 ≤ x64.toInt by first | with_reducible assumption | omega) (show x64.toInt ≤ 4255 by first | with_reducible assumption | omega) (Nat.lt_succ_self _) hw hT hF  (lv_sub hl [2, 3, 4, 5, 6, 1, 0] rfl)
  · refine lv_if_eq (tgt := 11) hx hb dX7_firstOpen_6 (by decide) (fun c => absurd c (by decide)) (fun _ => ?_)
    refine lv_iconst (v := (-1)) hx hb dX7_firstOpen_9 (by decide) ?_
    exact tk_iret hC hr hlocks hK ⟨hT, hF, (Or.inr rfl)⟩ hw dX7_firstOpen_10
abbrev P_X4_leastStreet_1 (ad : Nat → Nat) (cy : Nat → ClassId) (B : Int) (qr : Nat) (s1 : Int) (a1 : Int32) (a2 : Int32) (w0 : va_W) : Int32 → va_W → Prop := fun r u => TW ksC ad cy B qr s1 u ∧ FE ksC ([] : List (Nat × Nat × Nat)) w0 u ∧ ((0 ≤ r.toInt ∧ r.toInt ≤ 11 ∧ a2.toInt ≤ 102119 ∧ (∃ y : Int32, gi u 39 9 = y ∧ 1 ≤ y.toInt ∧ y.toInt ≤ 12) ∧ gi u 40 (2 * r.toInt + 0).toNat = a1) ∨ (0 ≤ r.toInt ∧ r.toInt ≤ 11 ∧ a2.toInt ≤ 102119 ∧ (∃ y : Int32, gi u 39 9 = y ∧ 1 ≤ y.toInt ∧ y.toInt ≤ 12) ∧ gi u 40 (2 * r.toInt + 1).toNat = a1) ∨ (r = (-1)))
set_option maxHeartbeats 4000000 in
set_option maxRecDepth 100000 in
theorem k_X4_leastStreet_1 (l : Launch) (adK adV : Nat → Nat) (dC : Nat → ClassId) (dI : Nat → Nat → Nat) (cy : Nat → ClassId) (ad : Nat → Nat) (B : Int) (hB0 : 2147483648 ≤ B) (hB1 : B ≤ 1152921504606846976) (qr : Nat) (s1 : Int)  (a1 : Int32) (ra1 : 0 ≤ a1.toInt) (ta1 : a1.toInt ≤ 9) (a2 : Int32) (ra2 : (-1) ≤ a2.toInt) (ta2 : a2.toInt ≤ 102128) (w0 : va_W) (sz : Nat) (hT : TW ksC ad cy B qr s1 w0)  : Met l yX4_leastStreet (wu yX4_leastStreet cX4_leastStreet 6 (some .int)) ({ frames := 3, cells := 0, slots := 0, locals := 68 }) (va_Pc [.ref (ad 155), .int a1, .int a2] (wpreS adK adV dC dI cy sz w0)) (va_Qi (P_X4_leastStreet_1 ad cy B qr s1 a1 a2 w0) (fun u : va_W => wpost dC dI cy (va_A w0 sz) u) (va_A w0 sz)) 0 0 (va_A w0 sz) := by
  refine Met.ofW (cc := cX4_leastStreet) (maxL := 6) (ret := (some .int)) (by decide) rfl ?_
  intro p e s m args below meth c s₁ Bk hml hv
  obtain ⟨rfl, ⟨hsz, hP, hK, hD0⟩, hE, hSR⟩ := hv
  have hx := Bk.exec
  have hb := Bk.bytes
  have hr := Bk.returns
  have hlocks := Bk.notSynchronized
  have hC : CallFix p m c cX4_leastStreet 6 s _ (wu yX4_leastStreet cX4_leastStreet 6 (some .int)) RX4 := ⟨hx, hb, hml, findClass_of_methodNamed Bk.named, atoms_spec (ws := (wu yX4_leastStreet cX4_leastStreet 6 (some .int))) Bk.pre⟩
  subst hsz
  have hD := hD0.self (sz := s.heap.size)
  generalize hAe : va_A w0 s.heap.size = A at hD hE ⊢
  have hA : ∀ q : Nat, s.heap.size ≤ q → A q := fun q h => by rw [← hAe]; exact Or.inr h
  have hw : Wd dC dI A s.heap s.heap [] w0 := ⟨hP, hD, va_S.rf⟩
  have hF : FE ksC ([] : List (Nat × Nat × Nat)) w0 w0 := FE.rf
  have hl := lv_entry ([.ref (ad 155), .int a1, .int a2]) (n := 6) (Nat.le_of_ble_eq_true rfl)
  rw [lg_entry_eq]
  generalize (lg_sl ([.ref (ad 155), .int a1, .int a2]) ++ List.replicate (6 - (lg_sl ([.ref (ad 155), .int a1, .int a2])).length) Slot.unset).toArray = ls at hl ⊢
  have hl : lv_has ls 6 [(0, .ref (ad 155)), (1, .int a1), (2, .int a2)] := hl
  generalize hloc : ([] : List Loc) = locs at hw ⊢
  have hinX4 : ∀ w ∈ u_ws RX4 TX4 4, w ∈ (wu yX4_leastStreet cX4_leastStreet 6 (some .int)) := fun _ h => List.mem_cons_of_mem _ (up_80 h)
  have hinX7 : ∀ w ∈ u_ws RX7 TX7 12, w ∈ (wu yX4_leastStreet cX4_leastStreet 6 (some .int)) := fun _ h => List.mem_cons_of_mem _ (up_73 h)
  have L2 : ∀ (n2 : Nat) (v2_3 : Int32) (H : Heap) (locs : List Loc) (ls : Array Slot) (w1 : va_W), 0 ≤ a1.toInt → a1.toInt ≤ 9 → (-1) ≤ a2.toInt → a2.toInt ≤ 102128 → 0 ≤ v2_3.toInt → v2_3.toInt ≤ 12 → (12 - v2_3.toInt).toNat < n2 → Wd dC dI A s.heap H locs w1 → TW ksC ad cy B qr s1 w1 → FE ksC ([] : List (Nat × Nat × Nat)) w0 w1 → lv_has ls 6 [(0, .ref (ad 155)), (1, .int a1), (2, .int a2), (3, .int v2_3)] → W p l e ({ frames := 3, cells := 0, slots := 0, locals := 68 }) s m (List.toArray [.ref (ad 155), .int a1, .int a2]) below meth c H locs 0 0 (MQ below (va_Qi (P_X4_leastStreet_1 ad cy B qr s1 a1 a2 w0) (fun u : va_W => wpost dC dI cy A u) A) (List.toArray [.ref (ad 155), .int a1, .int a2]) s 0 0 A) (F0 m 2 ls []) := by
    intro n2
    induction n2 with
    | zero => intro v2_3 H locs ls w1 r2 t3 r4 t5 r6 t7 hm2 hw hT hF hl; omega
    | succ n2 ih2 =>
      intro v2_3 H locs ls w1 r2 t3 r4 t5 r6 t7 hm2 hw hT hF hl
      refine lv_iload_n hx hb dX4_leastStreet_2 rfl (lv_at hl 3 rfl) ?_
      refine lv_aload_n hx hb dX4_leastStreet_3 rfl (lv_at hl 0 rfl) ?_
      refine tk_getA hC hK hw hT hinX4 kC_at155 (by decide) rfl 1 (by decide) (List.mem_cons_of_mem _ uw_5_23) rfl rfl dX4_leastStreet_4 ?_
      refine tk_geti hC hK hw hT hinX7 kC_at39 (by decide) rfl 9 (by decide) (List.mem_cons_of_mem _ uw_51_18) rfl rfl dX4_leastStreet_7 (fun x8 c9 rx8 tx8 => ?_)
      refine lv_icmp_ge (tgt := 88) hx hb dX4_leastStreet_10 (by decide) (fun c10 => ?_) (fun c10 => ?_)
      · have c10 : x8.toInt ≤ v2_3.toInt := wk_le.mp c10
        refine lv_iconst (v := (-1)) hx hb dX4_leastStreet_88 (by decide) ?_
        exact tk_iret hC hr hlocks hK ⟨hT, hF, (Or.inr (Or.inr rfl))⟩ hw dX4_leastStreet_89
      · have c10 : v2_3.toInt < x8.toInt := wk_leF c10
        refine lv_aload_n hx hb dX4_leastStreet_13 rfl (lv_at hl 0 rfl) ?_
        refine tk_getA hC hK hw hT hinX4 kC_at155 (by decide) rfl 1 (by decide) (List.mem_cons_of_mem _ uw_5_23) rfl rfl dX4_leastStreet_14 ?_
        refine lv_iload_n hx hb dX4_leastStreet_17 rfl (lv_at hl 3 rfl) ?_
        refine lv_iload_n hx hb dX4_leastStreet_18 rfl (lv_at hl 1 rfl) ?_
        refine tk_Vi hC hK hw hT hA hE hSR kC_at39 (by decide) rfl (k_X7_sideOf_2 l adK adV dC dI cy ad B hB0 (Int.le_trans hB1 (by decide)) qr s1   v2_3 (show 0 ≤ v2_3.toInt from r6) (show v2_3.toInt ≤ 11 by first | with_reducible assumption | omega) a1 (show 0 ≤ a1.toInt from r2) (show a1.toInt ≤ 9 from t3) w1 H.size hT ) (cwV 2 hC.2.2.2.2 uV_RX4_47 rfl rfl rfl (by decide +kernel) ⟨Nat.le_of_ble_eq_true rfl, Nat.le_of_ble_eq_true rfl⟩) rfl hl.1 rfl (Nat.le_of_ble_eq_true rfl) dX4_leastStreet_19 (fun r11 w13 H locs hp12 hw => ?_)
        obtain ⟨hT, k14, hg17⟩ := hp12
        have hF := hF.tr k14 (by decide)
        have c18 := k14.gi kC_at39 (by decide) c9
        rcases hg17 with rfl | ⟨rfl, c15⟩ | ⟨rfl, c16⟩
        · refine lv_istore (lv' := [(4, .int (-1)), (0, .ref (ad 155)), (1, .int a1), (2, .int a2), (3, .int v2_3)]) hx hb dX4_leastStreet_22 hl (by decide) rfl (fun ls hl => ?_)
          refine lv_iload hx hb dX4_leastStreet_24 (lv_at hl 0 rfl) ?_
          refine lv_iconst (v := (-1)) hx hb dX4_leastStreet_26 (by decide) ?_
          refine lv_icmp_eq (tgt := 82) hx hb dX4_leastStreet_27 (by decide) (fun _ => ?_) (fun c => absurd (by decide) c)
          obtain ⟨x19, ex19⟩ : ∃ y : Int32, y = v2_3 + Int32.ofInt 1 := ⟨_, rfl⟩
          refine lv_iinc (v := x19) (lv' := [(3, .int x19), (4, .int (-1)), (0, .ref (ad 155)), (1, .int a1), (2, .int a2)]) hx hb dX4_leastStreet_82 hl (k := 4) rfl ex19.symm (by decide) rfl (fun ls hl => ?_)
          have ex19 : x19.toInt = v2_3.toInt + 1 := by rw [ex19]; exact wk_add (y := 1) (show -2147483648 ≤ v2_3.toInt + 1 by omega) (show v2_3.toInt + 1 ≤ 2147483647 by omega)
          refine lv_goto (tgt := 2) hx hb dX4_leastStreet_85 (by decide) ?_
          exact ih2 x19 H locs ls w13 (show 0 ≤ a1.toInt from r2) (show a1.toInt ≤ 9 from t3) (show (-1) ≤ a2.toInt from r4) (show a2.toInt ≤ 102128 from t5) (show 0 ≤ x19.toInt by first | with_reducible assumption | omega) (show x19.toInt ≤ 12 by first | with_reducible assumption | omega) (show (12 - x19.toInt).toNat < n2 by first | exact tn_lt hm2 (by omega) (by omega) | omega) hw hT hF  (lv_sub hl [2, 3, 4, 0] rfl)
        · refine lv_istore (lv' := [(4, .int 0), (0, .ref (ad 155)), (1, .int a1), (2, .int a2), (3, .int v2_3)]) hx hb dX4_leastStreet_22 hl (by decide) rfl (fun ls hl => ?_)
          refine lv_iload hx hb dX4_leastStreet_24 (lv_at hl 0 rfl) ?_
          refine lv_iconst (v := (-1)) hx hb dX4_leastStreet_26 (by decide) ?_
          refine lv_icmp_eq (tgt := 82) hx hb dX4_leastStreet_27 (by decide) (fun c => absurd c (by decide)) (fun _ => ?_)
          refine lv_aload_n hx hb dX4_leastStreet_30 rfl (lv_at hl 1 rfl) ?_
          refine tk_getA hC hK hw hT hinX4 kC_at155 (by decide) rfl 2 (by decide) (List.mem_cons_of_mem _ uw_5_19) rfl rfl dX4_leastStreet_31 ?_
          refine lv_aload_n hx hb dX4_leastStreet_34 rfl (lv_at hl 1 rfl) ?_
          refine tk_getA hC hK hw hT hinX4 kC_at155 (by decide) rfl 1 (by decide) (List.mem_cons_of_mem _ uw_5_23) rfl rfl dX4_leastStreet_35 ?_
          refine lv_iload_n hx hb dX4_leastStreet_38 rfl (lv_at hl 4 rfl) ?_
          refine lv_iload hx hb dX4_leastStreet_39 (lv_at hl 0 rfl) ?_
          refine tk_Vi hC hK hw hT hA hE hSR kC_at39 (by decide) rfl (k_X7_cornerAcross_2 l adK adV dC dI cy ad B hB0 (Int.le_trans hB1 (by decide)) qr s1   v2_3 (show 0 ≤ v2_3.toInt from r6) (show v2_3.toInt ≤ 11 by first | with_reducible assumption | omega) w13 H.size hT ) (cwV 2 hC.2.2.2.2 uV_RX4_51 rfl rfl rfl (by decide +kernel) ⟨Nat.le_of_ble_eq_true rfl, Nat.le_of_ble_eq_true rfl⟩) rfl hl.1 rfl (Nat.le_of_ble_eq_true rfl) dX4_leastStreet_41 (fun r20 w22 H locs hp21 hw => ?_)
          obtain ⟨hT, k23, hg26⟩ := hp21
          have hF := hF.tr k23 (by decide)
          have c27 := k23.gi kC_at39 (by decide) c18
          have c28 := k23.gi kC_at40 rfl c15
          obtain ⟨g24, g25⟩ := hg26
          refine tk_iald hC hK hw hT kC_at156 rfl rfl (show 0 ≤ r20.toInt by first | with_reducible assumption | omega) (show r20.toInt < 10 by first | with_reducible assumption | omega) dX4_leastStreet_44 (fun x29 c30 rx29 tx29 => ?_)
          refine lv_aload_n hx hb dX4_leastStreet_45 rfl (lv_at hl 1 rfl) ?_
          refine tk_getA hC hK hw hT hinX4 kC_at155 (by decide) rfl 1 (by decide) (List.mem_cons_of_mem _ uw_5_23) rfl rfl dX4_leastStreet_46 ?_
          refine tk_getO hC hK hw hT hinX7 kC_at39 (by decide) rfl 1 (by decide) (List.mem_cons_of_mem _ uw_50_7) rfl rfl dX4_leastStreet_49 ?_
          refine lv_iload_n hx hb dX4_leastStreet_52 rfl (lv_at hl 4 rfl) ?_
          refine tk_iald hC hK hw hT kC_at41 rfl rfl (show 0 ≤ v2_3.toInt from r6) (show v2_3.toInt < 13 from Int.lt_of_le_of_lt t7 (by decide)) dX4_leastStreet_53 (fun x31 c32 rx31 tx31 => ?_)
          refine lv_isub hx hb dX4_leastStreet_54 ?_
          refine lv_topi (fun x33 ex33 => ?_)
          have ex33 : x33.toInt = x29.toInt - x31.toInt := by rw [ex33]; exact wk_sub (show (-2147483648) ≤ x29.toInt - x31.toInt by omega) (show x29.toInt - x31.toInt ≤ 2147483647 by omega)
          refine lv_istore (lv' := [(5, .int x33), (4, .int 0), (0, .ref (ad 155)), (1, .int a1), (2, .int a2), (3, .int v2_3)]) hx hb dX4_leastStreet_55 hl (by decide) rfl (fun ls hl => ?_)
          refine lv_iload hx hb dX4_leastStreet_57 (lv_at hl 0 rfl) ?_
          refine lv_iload_n hx hb dX4_leastStreet_59 rfl (lv_at hl 4 rfl) ?_
          refine lv_icmp_lt (tgt := 82) hx hb dX4_leastStreet_60 (by decide) (fun c34 => ?_) (fun c34 => ?_)
          · have c34 : x33.toInt < a2.toInt := wk_lt.mp c34
            obtain ⟨x35, ex35⟩ : ∃ y : Int32, y = v2_3 + Int32.ofInt 1 := ⟨_, rfl⟩
            refine lv_iinc (v := x35) (lv' := [(3, .int x35), (5, .int x33), (4, .int 0), (0, .ref (ad 155)), (1, .int a1), (2, .int a2)]) hx hb dX4_leastStreet_82 hl (k := 5) rfl ex35.symm (by decide) rfl (fun ls hl => ?_)
            have ex35 : x35.toInt = v2_3.toInt + 1 := by rw [ex35]; exact wk_add (y := 1) (show -2147483648 ≤ v2_3.toInt + 1 by omega) (show v2_3.toInt + 1 ≤ 2147483647 by omega)
            refine lv_goto (tgt := 2) hx hb dX4_leastStreet_85 (by decide) ?_
            exact ih2 x35 H locs ls w22 (show 0 ≤ a1.toInt from r2) (show a1.toInt ≤ 9 from t3) (show (-1) ≤ a2.toInt from r4) (show a2.toInt ≤ 102128 from t5) (show 0 ≤ x35.toInt by first | with_reducible assumption | omega) (show x35.toInt ≤ 12 by first | with_reducible assumption | omega) (show (12 - x35.toInt).toNat < n2 by first | exact tn_lt hm2 (by omega) (by omega) | omega) hw hT hF  (lv_sub hl [3, 4, 5, 0] rfl)
          · have c34 : a2.toInt ≤ x33.toInt := wk_ltF c34
            refine lv_aload_n hx hb dX4_leastStreet_63 rfl (lv_at hl 2 rfl) ?_
            refine tk_getA hC hK hw hT hinX4 kC_at155 (by decide) rfl 1 (by decide) (List.mem_cons_of_mem _ uw_5_23) rfl rfl dX4_leastStreet_64 ?_
            refine lv_iload_n hx hb dX4_leastStreet_67 rfl (lv_at hl 5 rfl) ?_
            refine lv_iload hx hb dX4_leastStreet_68 (lv_at hl 1 rfl) ?_
            refine lv_iload_n hx hb dX4_leastStreet_70 rfl (lv_at hl 4 rfl) ?_
            refine lv_iload hx hb dX4_leastStreet_71 (lv_at hl 0 rfl) ?_
            refine tk_Vi hC hK hw hT hA hE hSR kC_at39 (by decide) rfl (k_X7_firstOpen_5 l adK adV dC dI cy ad B hB0 (Int.le_trans hB1 (by decide)) qr s1   v2_3 (show 0 ≤ v2_3.toInt from r6) (show v2_3.toInt ≤ 11 by first | with_reducible assumption | omega) a2 (show (-1) ≤ a2.toInt from r4) (show a2.toInt ≤ 102119 by first | with_reducible assumption | omega) x33 (show (-1) ≤ x33.toInt by first | with_reducible assumption | omega) (show x33.toInt ≤ 102119 by first | with_reducible assumption | omega) w22 H.size hT ) (cwV 4 hC.2.2.2.2 uV_RX4_57 rfl rfl rfl (by decide +kernel) ⟨Nat.le_of_ble_eq_true rfl, Nat.le_of_ble_eq_true rfl⟩) rfl hl.1 rfl (Nat.le_of_ble_eq_true rfl) dX4_leastStreet_73 (fun r36 w38 H locs hp37 hw => ?_)
            obtain ⟨hT, k39, hg43⟩ := hp37
            have hF := hF.tr k39 (by decide)
            have c44 := k39.gi kC_at39 (by decide) c27
            have c45 := k39.gi kC_at40 rfl c28
            rcases hg43 with ⟨g40, g41, g42⟩ | rfl
            · refine lv_iconst (v := (-1)) hx hb dX4_leastStreet_76 (by decide) ?_
              refine lv_icmp_eq (tgt := 82) hx hb dX4_leastStreet_77 (by decide) (fun c => absurd c (fun h => absurd (show r36.toInt = (-1 : Int) from wk_eq.mp h) (by omega))) (fun _ => ?_)
              refine lv_iload_n hx hb dX4_leastStreet_80 rfl (lv_at hl 5 rfl) ?_
              exact tk_iret hC hr hlocks hK ⟨hT, hF, (Or.inl ⟨(show 0 ≤ v2_3.toInt from r6), (show v2_3.toInt ≤ 11 by first | with_reducible assumption | omega), (show a2.toInt ≤ 102119 by first | with_reducible assumption | omega), ⟨x8, c44, (show 1 ≤ x8.toInt by first | with_reducible assumption | omega), (show x8.toInt ≤ 12 from tx8)⟩, c45⟩)⟩ hw dX4_leastStreet_81
            · refine lv_iconst (v := (-1)) hx hb dX4_leastStreet_76 (by decide) ?_
              refine lv_icmp_eq (tgt := 82) hx hb dX4_leastStreet_77 (by decide) (fun _ => ?_) (fun c => absurd (by decide) c)
              obtain ⟨x46, ex46⟩ : ∃ y : Int32, y = v2_3 + Int32.ofInt 1 := ⟨_, rfl⟩
              refine lv_iinc (v := x46) (lv' := [(3, .int x46), (5, .int x33), (4, .int 0), (0, .ref (ad 155)), (1, .int a1), (2, .int a2)]) hx hb dX4_leastStreet_82 hl (k := 5) rfl ex46.symm (by decide) rfl (fun ls hl => ?_)
              have ex46 : x46.toInt = v2_3.toInt + 1 := by rw [ex46]; exact wk_add (y := 1) (show -2147483648 ≤ v2_3.toInt + 1 by omega) (show v2_3.toInt + 1 ≤ 2147483647 by omega)
              refine lv_goto (tgt := 2) hx hb dX4_leastStreet_85 (by decide) ?_
              exact ih2 x46 H locs ls w38 (show 0 ≤ a1.toInt from r2) (show a1.toInt ≤ 9 from t3) (show (-1) ≤ a2.toInt from r4) (show a2.toInt ≤ 102128 from t5) (show 0 ≤ x46.toInt by first | with_reducible assumption | omega) (show x46.toInt ≤ 12 by first | with_reducible assumption | omega) (show (12 - x46.toInt).toNat < n2 by first | exact tn_lt hm2 (by omega) (by omega) | omega) hw hT hF  (lv_sub hl [3, 4, 5, 0] rfl)
        · refine lv_istore (lv' := [(4, .int 1), (0, .ref (ad 155)), (1, .int a1), (2, .int a2), (3, .int v2_3)]) hx hb dX4_leastStreet_22 hl (by decide) rfl (fun ls hl => ?_)
          refine lv_iload hx hb dX4_leastStreet_24 (lv_at hl 0 rfl) ?_
          refine lv_iconst (v := (-1)) hx hb dX4_leastStreet_26 (by decide) ?_
          refine lv_icmp_eq (tgt := 82) hx hb dX4_leastStreet_27 (by decide) (fun c => absurd c (by decide)) (fun _ => ?_)
          refine lv_aload_n hx hb dX4_leastStreet_30 rfl (lv_at hl 1 rfl) ?_
          refine tk_getA hC hK hw hT hinX4 kC_at155 (by decide) rfl 2 (by decide) (List.mem_cons_of_mem _ uw_5_19) rfl rfl dX4_leastStreet_31 ?_
          refine lv_aload_n hx hb dX4_leastStreet_34 rfl (lv_at hl 1 rfl) ?_
          refine tk_getA hC hK hw hT hinX4 kC_at155 (by decide) rfl 1 (by decide) (List.mem_cons_of_mem _ uw_5_23) rfl rfl dX4_leastStreet_35 ?_
          refine lv_iload_n hx hb dX4_leastStreet_38 rfl (lv_at hl 4 rfl) ?_
          refine lv_iload hx hb dX4_leastStreet_39 (lv_at hl 0 rfl) ?_
          refine tk_Vi hC hK hw hT hA hE hSR kC_at39 (by decide) rfl (k_X7_cornerAcross_3 l adK adV dC dI cy ad B hB0 (Int.le_trans hB1 (by decide)) qr s1   v2_3 (show 0 ≤ v2_3.toInt from r6) (show v2_3.toInt ≤ 11 by first | with_reducible assumption | omega) w13 H.size hT ) (cwV 2 hC.2.2.2.2 uV_RX4_51 rfl rfl rfl (by decide +kernel) ⟨Nat.le_of_ble_eq_true rfl, Nat.le_of_ble_eq_true rfl⟩) rfl hl.1 rfl (Nat.le_of_ble_eq_true rfl) dX4_leastStreet_41 (fun r47 w49 H locs hp48 hw => ?_)
          obtain ⟨hT, k50, hg53⟩ := hp48
          have hF := hF.tr k50 (by decide)
          have c54 := k50.gi kC_at39 (by decide) c18
          have c55 := k50.gi kC_at40 rfl c16
          obtain ⟨g51, g52⟩ := hg53
          refine tk_iald hC hK hw hT kC_at156 rfl rfl (show 0 ≤ r47.toInt by first | with_reducible assumption | omega) (show r47.toInt < 10 by first | with_reducible assumption | omega) dX4_leastStreet_44 (fun x56 c57 rx56 tx56 => ?_)
          refine lv_aload_n hx hb dX4_leastStreet_45 rfl (lv_at hl 1 rfl) ?_
          refine tk_getA hC hK hw hT hinX4 kC_at155 (by decide) rfl 1 (by decide) (List.mem_cons_of_mem _ uw_5_23) rfl rfl dX4_leastStreet_46 ?_
          refine tk_getO hC hK hw hT hinX7 kC_at39 (by decide) rfl 1 (by decide) (List.mem_cons_of_mem _ uw_50_7) rfl rfl dX4_leastStreet_49 ?_
          refine lv_iload_n hx hb dX4_leastStreet_52 rfl (lv_at hl 4 rfl) ?_
          refine tk_iald hC hK hw hT kC_at41 rfl rfl (show 0 ≤ v2_3.toInt from r6) (show v2_3.toInt < 13 from Int.lt_of_le_of_lt t7 (by decide)) dX4_leastStreet_53 (fun x58 c59 rx58 tx58 => ?_)
          refine lv_isub hx hb dX4_leastStreet_54 ?_
          refine lv_topi (fun x60 ex60 => ?_)
          have ex60 : x60.toInt = x56.toInt - x58.toInt := by rw [ex60]; exact wk_sub (show (-2147483648) ≤ x56.toInt - x58.toInt by omega) (show x56.toInt - x58.toInt ≤ 2147483647 by omega)
          refine lv_istore (lv' := [(5, .int x60), (4, .int 1), (0, .ref (ad 155)), (1, .int a1), (2, .int a2), (3, .int v2_3)]) hx hb dX4_leastStreet_55 hl (by decide) rfl (fun ls hl => ?_)
          refine lv_iload hx hb dX4_leastStreet_57 (lv_at hl 0 rfl) ?_
          refine lv_iload_n hx hb dX4_leastStreet_59 rfl (lv_at hl 4 rfl) ?_
          refine lv_icmp_lt (tgt := 82) hx hb dX4_leastStreet_60 (by decide) (fun c61 => ?_) (fun c61 => ?_)
          · have c61 : x60.toInt < a2.toInt := wk_lt.mp c61
            obtain ⟨x62, ex62⟩ : ∃ y : Int32, y = v2_3 + Int32.ofInt 1 := ⟨_, rfl⟩
            refine lv_iinc (v := x62) (lv' := [(3, .int x62), (5, .int x60), (4, .int 1), (0, .ref (ad 155)), (1, .int a1), (2, .int a2)]) hx hb dX4_leastStreet_82 hl (k := 5) rfl ex62.symm (by decide) rfl (fun ls hl => ?_)
            have ex62 : x62.toInt = v2_3.toInt + 1 := by rw [ex62]; exact wk_add (y := 1) (show -2147483648 ≤ v2_3.toInt + 1 by omega) (show v2_3.toInt + 1 ≤ 2147483647 by omega)
            refine lv_goto (tgt := 2) hx hb dX4_leastStreet_85 (by decide) ?_
            exact ih2 x62 H locs ls w49 (show 0 ≤ a1.toInt from r2) (show a1.toInt ≤ 9 from t3) (show (-1) ≤ a2.toInt from r4) (show a2.toInt ≤ 102128 from t5) (show 0 ≤ x62.toInt by first | with_reducible assumption | omega) (show x62.toInt ≤ 12 by first | with_reducible assumption | omega) (show (12 - x62.toInt).toNat < n2 by first | exact tn_lt hm2 (by omega) (by omega) | omega) hw hT hF  (lv_sub hl [3, 4, 5, 0] rfl)
          · have c61 : a2.toInt ≤ x60.toInt := wk_ltF c61
            refine lv_aload_n hx hb dX4_leastStreet_63 rfl (lv_at hl 2 rfl) ?_
            refine tk_getA hC hK hw hT hinX4 kC_at155 (by decide) rfl 1 (by decide) (List.mem_cons_of_mem _ uw_5_23) rfl rfl dX4_leastStreet_64 ?_
            refine lv_iload_n hx hb dX4_leastStreet_67 rfl (lv_at hl 5 rfl) ?_
            refine lv_iload hx hb dX4_leastStreet_68 (lv_at hl 1 rfl) ?_
            refine lv_iload_n hx hb dX4_leastStreet_70 rfl (lv_at hl 4 rfl) ?_
            refine lv_iload hx hb dX4_leastStreet_71 (lv_at hl 0 rfl) ?_
            refine tk_Vi hC hK hw hT hA hE hSR kC_at39 (by decide) rfl (k_X7_firstOpen_6 l adK adV dC dI cy ad B hB0 (Int.le_trans hB1 (by decide)) qr s1   v2_3 (show 0 ≤ v2_3.toInt from r6) (show v2_3.toInt ≤ 11 by first | with_reducible assumption | omega) a2 (show (-1) ≤ a2.toInt from r4) (show a2.toInt ≤ 102119 by first | with_reducible assumption | omega) x60 (show (-1) ≤ x60.toInt by first | with_reducible assumption | omega) (show x60.toInt ≤ 102119 by first | with_reducible assumption | omega) w49 H.size hT ) (cwV 4 hC.2.2.2.2 uV_RX4_57 rfl rfl rfl (by decide +kernel) ⟨Nat.le_of_ble_eq_true rfl, Nat.le_of_ble_eq_true rfl⟩) rfl hl.1 rfl (Nat.le_of_ble_eq_true rfl) dX4_leastStreet_73 (fun r63 w65 H locs hp64 hw => ?_)
            obtain ⟨hT, k66, hg70⟩ := hp64
            have hF := hF.tr k66 (by decide)
            have c71 := k66.gi kC_at39 (by decide) c54
            have c72 := k66.gi kC_at40 rfl c55
            rcases hg70 with ⟨g67, g68, g69⟩ | rfl
            · refine lv_iconst (v := (-1)) hx hb dX4_leastStreet_76 (by decide) ?_
              refine lv_icmp_eq (tgt := 82) hx hb dX4_leastStreet_77 (by decide) (fun c => absurd c (fun h => absurd (show r63.toInt = (-1 : Int) from wk_eq.mp h) (by omega))) (fun _ => ?_)
              refine lv_iload_n hx hb dX4_leastStreet_80 rfl (lv_at hl 5 rfl) ?_
              exact tk_iret hC hr hlocks hK ⟨hT, hF, (Or.inr (Or.inl ⟨(show 0 ≤ v2_3.toInt from r6), (show v2_3.toInt ≤ 11 by first | with_reducible assumption | omega), (show a2.toInt ≤ 102119 by first | with_reducible assumption | omega), ⟨x8, c71, (show 1 ≤ x8.toInt by first | with_reducible assumption | omega), (show x8.toInt ≤ 12 from tx8)⟩, c72⟩))⟩ hw dX4_leastStreet_81
            · refine lv_iconst (v := (-1)) hx hb dX4_leastStreet_76 (by decide) ?_
              refine lv_icmp_eq (tgt := 82) hx hb dX4_leastStreet_77 (by decide) (fun _ => ?_) (fun c => absurd (by decide) c)
              obtain ⟨x73, ex73⟩ : ∃ y : Int32, y = v2_3 + Int32.ofInt 1 := ⟨_, rfl⟩
              refine lv_iinc (v := x73) (lv' := [(3, .int x73), (5, .int x60), (4, .int 1), (0, .ref (ad 155)), (1, .int a1), (2, .int a2)]) hx hb dX4_leastStreet_82 hl (k := 5) rfl ex73.symm (by decide) rfl (fun ls hl => ?_)
              have ex73 : x73.toInt = v2_3.toInt + 1 := by rw [ex73]; exact wk_add (y := 1) (show -2147483648 ≤ v2_3.toInt + 1 by omega) (show v2_3.toInt + 1 ≤ 2147483647 by omega)
              refine lv_goto (tgt := 2) hx hb dX4_leastStreet_85 (by decide) ?_
              exact ih2 x73 H locs ls w65 (show 0 ≤ a1.toInt from r2) (show a1.toInt ≤ 9 from t3) (show (-1) ≤ a2.toInt from r4) (show a2.toInt ≤ 102128 from t5) (show 0 ≤ x73.toInt by first | with_reducible assumption | omega) (show x73.toInt ≤ 12 by first | with_reducible assumption | omega) (show (12 - x73.toInt).toNat < n2 by first | exact tn_lt hm2 (by omega) (by omega) | omega) hw hT hF  (lv_sub hl [3, 4, 5, 0] rfl)
  refine lv_iconst (v := 0) hx hb dX4_leastStreet_0 (by decide) ?_
  refine lv_istore_n (lv' := [(3, .int 0), (0, .ref (ad 155)), (1, .int a1), (2, .int a2)]) hx hb dX4_leastStreet_1 rfl hl (by decide) rfl (fun ls hl => ?_)
  exact L2 ((12 - (0 : Int)).toNat + 1) 0 s.heap locs ls w0 (show 0 ≤ a1.toInt from ra1) (show a1.toInt ≤ 9 from ta1) (show (-1) ≤ a2.toInt from ra2) (show a2.toInt ≤ 102128 from ta2) (by decide) (by decide) (Nat.lt_succ_self _) hw hT hF  (lv_sub hl [1, 2, 3, 0] rfl)
abbrev P_X7_sideOf_6 (ad : Nat → Nat) (cy : Nat → ClassId) (B : Int) (qr : Nat) (s1 : Int) (a1 : Int32) (a2 : Int32) (w0 : va_W) : Int32 → va_W → Prop := fun r u => TW ksC ad cy B qr s1 u ∧ FE ksC ([] : List (Nat × Nat × Nat)) w0 u ∧ ((r = 0 ∧ gi u 40 (2 * a1.toInt + 0).toNat = a2))
set_option maxHeartbeats 4000000 in
set_option maxRecDepth 100000 in
theorem k_X7_sideOf_6 (l : Launch) (adK adV : Nat → Nat) (dC : Nat → ClassId) (dI : Nat → Nat → Nat) (cy : Nat → ClassId) (ad : Nat → Nat) (B : Int) (hB0 : 2147483648 ≤ B) (hB1 : B ≤ 1152921504606846976) (qr : Nat) (s1 : Int)  (a1 : Int32) (ra1 : 0 ≤ a1.toInt) (ta1 : a1.toInt ≤ 11) (a2 : Int32) (ra2 : 0 ≤ a2.toInt) (ta2 : a2.toInt ≤ 9) (w0 : va_W) (sz : Nat) (hT : TW ksC ad cy B qr s1 w0) (cf0_ : gi w0 40 (2 * a1.toInt + 0).toNat = a2) : Met l yX7_sideOf (wu yX7_sideOf cX7_sideOf 3 (some .int)) ({ frames := 1, cells := 0, slots := 0, locals := 12 }) (va_Pc [.ref (ad 39), .int a1, .int a2] (wpreS adK adV dC dI cy sz w0)) (va_Qi (P_X7_sideOf_6 ad cy B qr s1 a1 a2 w0) (fun u : va_W => wpost dC dI cy (va_A w0 sz) u) (va_A w0 sz)) 0 0 (va_A w0 sz) := by
  refine Met.ofW (cc := cX7_sideOf) (maxL := 3) (ret := (some .int)) (by decide) rfl ?_
  intro p e s m args below meth c s₁ Bk hml hv
  obtain ⟨rfl, ⟨hsz, hP, hK, hD0⟩, hE, hSR⟩ := hv
  have hx := Bk.exec
  have hb := Bk.bytes
  have hr := Bk.returns
  have hlocks := Bk.notSynchronized
  have hC : CallFix p m c cX7_sideOf 3 s _ (wu yX7_sideOf cX7_sideOf 3 (some .int)) RX7 := ⟨hx, hb, hml, findClass_of_methodNamed Bk.named, atoms_spec (ws := (wu yX7_sideOf cX7_sideOf 3 (some .int))) Bk.pre⟩
  subst hsz
  have hD := hD0.self (sz := s.heap.size)
  generalize hAe : va_A w0 s.heap.size = A at hD hE ⊢
  have hA : ∀ q : Nat, s.heap.size ≤ q → A q := fun q h => by rw [← hAe]; exact Or.inr h
  have hw : Wd dC dI A s.heap s.heap [] w0 := ⟨hP, hD, va_S.rf⟩
  have hF : FE ksC ([] : List (Nat × Nat × Nat)) w0 w0 := FE.rf
  have hl := lv_entry ([.ref (ad 39), .int a1, .int a2]) (n := 3) (Nat.le_of_ble_eq_true rfl)
  rw [lg_entry_eq]
  generalize (lg_sl ([.ref (ad 39), .int a1, .int a2]) ++ List.replicate (3 - (lg_sl ([.ref (ad 39), .int a1, .int a2])).length) Slot.unset).toArray = ls at hl ⊢
  have hl : lv_has ls 3 [(0, .ref (ad 39)), (1, .int a1), (2, .int a2)] := hl
  generalize hloc : ([] : List Loc) = locs at hw ⊢
  have hinX7 : ∀ w ∈ u_ws RX7 TX7 12, w ∈ (wu yX7_sideOf cX7_sideOf 3 (some .int)) := fun _ h => List.mem_cons_of_mem _ (up_73 h)
  refine lv_aload_n hx hb dX7_sideOf_0 rfl (lv_at hl 0 rfl) ?_
  refine tk_getO hC hK hw hT hinX7 kC_at39 (by decide) rfl 0 (by decide) (List.mem_cons_of_mem _ uw_2_17) rfl rfl dX7_sideOf_1 ?_
  refine lv_iconst (v := 2) hx hb dX7_sideOf_4 (by decide) ?_
  refine lv_iload_n hx hb dX7_sideOf_5 rfl (lv_at hl 1 rfl) ?_
  refine lv_imul hx hb dX7_sideOf_6 ?_
  refine lv_topi (fun x1 ex1 => ?_)
  have ex1 : x1.toInt = (2 : Int) * a1.toInt := by rw [ex1]; exact wk_mul (show (-2147483648) ≤ (2 : Int) * a1.toInt by omega) (show (2 : Int) * a1.toInt ≤ 2147483647 by omega)
  refine tk_iald hC hK hw hT kC_at40 rfl rfl (show 0 ≤ x1.toInt by first | with_reducible assumption | omega) (show x1.toInt < 26 by first | with_reducible assumption | omega) dX7_sideOf_7 (fun x2 c3 rx2 tx2 => ?_)
  have c3 : gi w0 40 (2 * a1.toInt + 0).toNat = x2 := (congrArg (gi w0 40) (congrArg Int.toNat (show 2 * a1.toInt + 0 = x1.toInt by first | exact Int.le_antisymm (by omega) (by omega) | omega))).trans c3
  refine wk_top a2 (c3.symm.trans cf0_) ?_
  refine lv_iload_n hx hb dX7_sideOf_8 rfl (lv_at hl 2 rfl) ?_
  refine lv_icmp_ne (tgt := 14) hx hb dX7_sideOf_9 (by decide) (fun c => (c (wk_eq.mpr (show a2.toInt = a2.toInt from rfl))).elim) (fun _ => ?_)
  refine lv_iconst (v := 0) hx hb dX7_sideOf_12 (by decide) ?_
  exact tk_iret hC hr hlocks hK ⟨hT, hF, ⟨rfl, cf0_⟩⟩ hw dX7_sideOf_13
abbrev P_X7_firstOpen_7 (ad : Nat → Nat) (cy : Nat → ClassId) (B : Int) (qr : Nat) (s1 : Int) (a1 : Int32) (a3 : Int32) (a4 : Int32) (w0 : va_W) : Int32 → va_W → Prop := fun r u => TW ksC ad cy B qr s1 u ∧ FE ksC ([] : List (Nat × Nat × Nat)) w0 u ∧ ((0 ≤ r.toInt ∧ r.toInt ≤ 102119) ∨ (r = (-1)))
set_option maxHeartbeats 4000000 in
set_option maxRecDepth 100000 in
theorem k_X7_firstOpen_7 (l : Launch) (adK adV : Nat → Nat) (dC : Nat → ClassId) (dI : Nat → Nat → Nat) (cy : Nat → ClassId) (ad : Nat → Nat) (B : Int) (hB0 : 2147483648 ≤ B) (hB1 : B ≤ 1152921504606846976) (qr : Nat) (s1 : Int)  (a1 : Int32) (ra1 : 0 ≤ a1.toInt) (ta1 : a1.toInt ≤ 11) (a3 : Int32) (ra3 : (-1) ≤ a3.toInt) (ta3 : a3.toInt ≤ 102119) (a4 : Int32) (ra4 : 0 ≤ a4.toInt) (ta4 : a4.toInt ≤ 102119) (w0 : va_W) (sz : Nat) (hT : TW ksC ad cy B qr s1 w0)  : Met l yX7_firstOpen (wu yX7_firstOpen cX7_firstOpen 10 (some .int)) ({ frames := 2, cells := 0, slots := 0, locals := 39 }) (va_Pc [.ref (ad 39), .int a1, .int 0, .int a3, .int a4] (wpreS adK adV dC dI cy sz w0)) (va_Qi (P_X7_firstOpen_7 ad cy B qr s1 a1 a3 a4 w0) (fun u : va_W => wpost dC dI cy (va_A w0 sz) u) (va_A w0 sz)) 0 0 (va_A w0 sz) := by
  refine Met.ofW (cc := cX7_firstOpen) (maxL := 10) (ret := (some .int)) (by decide) rfl ?_
  intro p e s m args below meth c s₁ Bk hml hv
  obtain ⟨rfl, ⟨hsz, hP, hK, hD0⟩, hE, hSR⟩ := hv
  have hx := Bk.exec
  have hb := Bk.bytes
  have hr := Bk.returns
  have hlocks := Bk.notSynchronized
  have hC : CallFix p m c cX7_firstOpen 10 s _ (wu yX7_firstOpen cX7_firstOpen 10 (some .int)) RX7 := ⟨hx, hb, hml, findClass_of_methodNamed Bk.named, atoms_spec (ws := (wu yX7_firstOpen cX7_firstOpen 10 (some .int))) Bk.pre⟩
  subst hsz
  have hD := hD0.self (sz := s.heap.size)
  generalize hAe : va_A w0 s.heap.size = A at hD hE ⊢
  have hA : ∀ q : Nat, s.heap.size ≤ q → A q := fun q h => by rw [← hAe]; exact Or.inr h
  have hw : Wd dC dI A s.heap s.heap [] w0 := ⟨hP, hD, va_S.rf⟩
  have hF : FE ksC ([] : List (Nat × Nat × Nat)) w0 w0 := FE.rf
  have hl := lv_entry ([.ref (ad 39), .int a1, .int 0, .int a3, .int a4]) (n := 10) (Nat.le_of_ble_eq_true rfl)
  rw [lg_entry_eq]
  generalize (lg_sl ([.ref (ad 39), .int a1, .int 0, .int a3, .int a4]) ++ List.replicate (10 - (lg_sl ([.ref (ad 39), .int a1, .int 0, .int a3, .int a4])).length) Slot.unset).toArray = ls at hl ⊢
  have hl : lv_has ls 10 [(0, .ref (ad 39)), (1, .int a1), (2, .int 0), (3, .int a3), (4, .int a4)] := hl
  generalize hloc : ([] : List Loc) = locs at hw ⊢
  have L25 : ∀ (n25 : Nat) (v25_5 : Int32) (v25_6 : Int32) (H : Heap) (locs : List Loc) (ls : Array Slot) (w1 : va_W), 0 ≤ a1.toInt → a1.toInt ≤ 11 → (-1) ≤ a3.toInt → a3.toInt ≤ 102119 → 0 ≤ a4.toInt → a4.toInt ≤ 102119 → 0 ≤ v25_6.toInt → v25_6.toInt ≤ 4255 → (4255 - v25_6.toInt).toNat < n25 → Wd dC dI A s.heap H locs w1 → TW ksC ad cy B qr s1 w1 → FE ksC ([] : List (Nat × Nat × Nat)) w0 w1 → lv_has ls 10 [(0, .ref (ad 39)), (1, .int a1), (2, .int 0), (3, .int a3), (4, .int a4), (5, .int v25_5), (6, .int v25_6)] → W p l e ({ frames := 2, cells := 0, slots := 0, locals := 39 }) s m (List.toArray [.ref (ad 39), .int a1, .int 0, .int a3, .int a4]) below meth c H locs 0 0 (MQ below (va_Qi (P_X7_firstOpen_7 ad cy B qr s1 a1 a3 a4 w0) (fun u : va_W => wpost dC dI cy A u) A) (List.toArray [.ref (ad 39), .int a1, .int 0, .int a3, .int a4]) s 0 0 A) (F0 m 25 ls []) := by
    intro n25
    induction n25 with
    | zero => intro v25_5 v25_6 H locs ls w1 r2 t3 r4 t5 r6 t7 r8 t9 hm25 hw hT hF hl; omega
    | succ n25 ih25 =>
      intro v25_5 v25_6 H locs ls w1 r2 t3 r4 t5 r6 t7 r8 t9 hm25 hw hT hF hl
      have J108 : ∀ (v108_7 : Int32) (v108_8 : Int32) (H : Heap) (locs : List Loc) (ls : Array Slot) (w10 : va_W), 0 ≤ a1.toInt → a1.toInt ≤ 11 → (-1) ≤ a3.toInt → a3.toInt ≤ 102119 → 0 ≤ a4.toInt → a4.toInt ≤ 102119 → 0 ≤ v25_6.toInt → v25_6.toInt ≤ 4254 → 0 ≤ v108_7.toInt → v108_7.toInt ≤ 16777215 → 0 ≤ v108_8.toInt → v108_8.toInt ≤ 24 → Wd dC dI A s.heap H locs w10 → TW ksC ad cy B qr s1 w10 → FE ksC ([] : List (Nat × Nat × Nat)) w0 w10 → lv_has ls 10 [(0, .ref (ad 39)), (1, .int a1), (2, .int 0), (3, .int a3), (4, .int a4), (5, .int (-1)), (6, .int v25_6), (7, .int v108_7), (8, .int v108_8)] → W p l e ({ frames := 2, cells := 0, slots := 0, locals := 39 }) s m (List.toArray [.ref (ad 39), .int a1, .int 0, .int a3, .int a4]) below meth c H locs 0 0 (MQ below (va_Qi (P_X7_firstOpen_7 ad cy B qr s1 a1 a3 a4 w0) (fun u : va_W => wpost dC dI cy A u) A) (List.toArray [.ref (ad 39), .int a1, .int 0, .int a3, .int a4]) s 0 0 A) (F0 m 108 ls []) := by
        intro v108_7 v108_8 H locs ls w10 r11 t12 r13 t14 r15 t16 r17 t18 r19 t20 r21 t22 hw hT hF hl
        obtain ⟨x23, ex23⟩ : ∃ y : Int32, y = v25_6 + Int32.ofInt 1 := ⟨_, rfl⟩
        refine lv_iinc (v := x23) (lv' := [(6, .int x23), (0, .ref (ad 39)), (1, .int a1), (2, .int 0), (3, .int a3), (4, .int a4), (5, .int (-1)), (7, .int v108_7), (8, .int v108_8)]) hx hb dX7_firstOpen_108 hl (k := 6) rfl ex23.symm (by decide) rfl (fun ls hl => ?_)
        have ex23 : x23.toInt = v25_6.toInt + 1 := by rw [ex23]; exact wk_add (y := 1) (show -2147483648 ≤ v25_6.toInt + 1 by omega) (show v25_6.toInt + 1 ≤ 2147483647 by omega)
        refine lv_goto (tgt := 25) hx hb dX7_firstOpen_111 (by decide) ?_
        exact ih25 (-1) x23 H locs ls w10 (show 0 ≤ a1.toInt from r11) (show a1.toInt ≤ 11 from t12) (show (-1) ≤ a3.toInt from r13) (show a3.toInt ≤ 102119 from t14) (show 0 ≤ a4.toInt from r15) (show a4.toInt ≤ 102119 from t16) (show 0 ≤ x23.toInt by first | with_reducible assumption | omega) (show x23.toInt ≤ 4255 by first | with_reducible assumption | omega) (show (4255 - x23.toInt).toNat < n25 by first | exact tn_lt hm25 (by omega) (by omega) | omega) hw hT hF  (lv_sub hl [1, 2, 3, 4, 5, 6, 0] rfl)
      have L56 : ∀ (n56 : Nat) (v56_7 : Int32) (v56_8 : Int32) (H : Heap) (locs : List Loc) (ls : Array Slot) (w24 : va_W), 0 ≤ a1.toInt → a1.toInt ≤ 11 → (-1) ≤ a3.toInt → a3.toInt ≤ 102119 → 0 ≤ a4.toInt → a4.toInt ≤ 102119 → 0 ≤ v25_6.toInt → v25_6.toInt ≤ 4254 → 0 ≤ v56_7.toInt → v56_7.toInt ≤ 16777215 → 0 ≤ v56_8.toInt → v56_8.toInt ≤ 24 → (24 - v56_8.toInt).toNat < n56 → Wd dC dI A s.heap H locs w24 → TW ksC ad cy B qr s1 w24 → FE ksC ([] : List (Nat × Nat × Nat)) w0 w24 → lv_has ls 10 [(0, .ref (ad 39)), (1, .int a1), (2, .int 0), (3, .int a3), (4, .int a4), (5, .int (-1)), (6, .int v25_6), (7, .int v56_7), (8, .int v56_8)] → W p l e ({ frames := 2, cells := 0, slots := 0, locals := 39 }) s m (List.toArray [.ref (ad 39), .int a1, .int 0, .int a3, .int a4]) below meth c H locs 0 0 (MQ below (va_Qi (P_X7_firstOpen_7 ad cy B qr s1 a1 a3 a4 w0) (fun u : va_W => wpost dC dI cy A u) A) (List.toArray [.ref (ad 39), .int a1, .int 0, .int a3, .int a4]) s 0 0 A) (F0 m 56 ls []) := by
        intro n56
        induction n56 with
        | zero => intro v56_7 v56_8 H locs ls w24 r25 t26 r27 t28 r29 t30 r31 t32 r33 t34 r35 t36 hm56 hw hT hF hl; omega
        | succ n56 ih56 =>
          intro v56_7 v56_8 H locs ls w24 r25 t26 r27 t28 r29 t30 r31 t32 r33 t34 r35 t36 hm56 hw hT hF hl
          refine lv_iload hx hb dX7_firstOpen_56 (lv_at hl 7 rfl) ?_
          refine lv_if_eq (tgt := 108) hx hb dX7_firstOpen_58 (by decide) (fun c37 => ?_) (fun c37 => ?_)
          · have c37 : v56_7.toInt = (0 : Int) := wk_eq.mp c37
            exact J108 v56_7 v56_8 H locs ls w24 (show 0 ≤ a1.toInt from r25) (show a1.toInt ≤ 11 from t26) (show (-1) ≤ a3.toInt from r27) (show a3.toInt ≤ 102119 from t28) (show 0 ≤ a4.toInt from r29) (show a4.toInt ≤ 102119 from t30) (show 0 ≤ v25_6.toInt from r31) (show v25_6.toInt ≤ 4254 from t32) (show 0 ≤ v56_7.toInt from r33) (show v56_7.toInt ≤ 16777215 from t34) (show 0 ≤ v56_8.toInt from r35) (show v56_8.toInt ≤ 24 from t36)  hw hT hF  (lv_sub hl [0, 1, 2, 3, 4, 5, 6, 7, 8] rfl)
          · have c37 : ¬ v56_7.toInt = (0 : Int) := wk_eqF c37
            refine lv_iload hx hb dX7_firstOpen_61 (lv_at hl 8 rfl) ?_
            refine lv_bipush (v := 24) hx hb dX7_firstOpen_63 (by decide) ?_
            refine lv_icmp_ge (tgt := 108) hx hb dX7_firstOpen_65 (by decide) (fun c38 => ?_) (fun c38 => ?_)
            · have c38 : (24 : Int) ≤ v56_8.toInt := wk_le.mp c38
              exact J108 v56_7 v56_8 H locs ls w24 (show 0 ≤ a1.toInt from r25) (show a1.toInt ≤ 11 from t26) (show (-1) ≤ a3.toInt from r27) (show a3.toInt ≤ 102119 from t28) (show 0 ≤ a4.toInt from r29) (show a4.toInt ≤ 102119 from t30) (show 0 ≤ v25_6.toInt from r31) (show v25_6.toInt ≤ 4254 from t32) (show 0 ≤ v56_7.toInt from r33) (show v56_7.toInt ≤ 16777215 from t34) (show 0 ≤ v56_8.toInt from r35) (show v56_8.toInt ≤ 24 from t36)  hw hT hF  (lv_sub hl [0, 1, 2, 3, 4, 5, 6, 7, 8] rfl)
            · have c38 : v56_8.toInt < (24 : Int) := wk_leF c38
              refine lv_iload hx hb dX7_firstOpen_68 (lv_at hl 7 rfl) ?_
              refine lv_iload hx hb dX7_firstOpen_70 (lv_at hl 8 rfl) ?_
              refine lv_ishr hx hb dX7_firstOpen_72 ?_
              refine lv_topi (fun x39 ex39 => ?_)
              have bx39 : 0 ≤ x39.toInt ∧ x39.toInt ≤ v56_7.toInt := by rw [ex39]; exact wk_shr (by omega)
              refine lv_iconst (v := 1) hx hb dX7_firstOpen_73 (by decide) ?_
              refine lv_iand hx hb dX7_firstOpen_74 ?_
              refine lv_topi (fun x40 ex40 => ?_)
              have bx40 : 0 ≤ x40.toInt ∧ x40.toInt ≤ (1 : Int) := by rw [ex40]; exact wk_and (by decide)
              refine lv_if_eq (tgt := 102) hx hb dX7_firstOpen_75 (by decide) (fun c41 => ?_) (fun c41 => ?_)
              · have c41 : x40.toInt = (0 : Int) := wk_eq.mp c41
                obtain ⟨x42, ex42⟩ : ∃ y : Int32, y = v56_8 + Int32.ofInt 1 := ⟨_, rfl⟩
                refine lv_iinc (v := x42) (lv' := [(8, .int x42), (0, .ref (ad 39)), (1, .int a1), (2, .int 0), (3, .int a3), (4, .int a4), (5, .int (-1)), (6, .int v25_6), (7, .int v56_7)]) hx hb dX7_firstOpen_102 hl (k := 8) rfl ex42.symm (by decide) rfl (fun ls hl => ?_)
                have ex42 : x42.toInt = v56_8.toInt + 1 := by rw [ex42]; exact wk_add (y := 1) (show -2147483648 ≤ v56_8.toInt + 1 by omega) (show v56_8.toInt + 1 ≤ 2147483647 by omega)
                refine lv_goto (tgt := 56) hx hb dX7_firstOpen_105 (by decide) ?_
                exact ih56 v56_7 x42 H locs ls w24 (show 0 ≤ a1.toInt from r25) (show a1.toInt ≤ 11 from t26) (show (-1) ≤ a3.toInt from r27) (show a3.toInt ≤ 102119 from t28) (show 0 ≤ a4.toInt from r29) (show a4.toInt ≤ 102119 from t30) (show 0 ≤ v25_6.toInt from r31) (show v25_6.toInt ≤ 4254 from t32) (show 0 ≤ v56_7.toInt from r33) (show v56_7.toInt ≤ 16777215 from t34) (show 0 ≤ x42.toInt by first | with_reducible assumption | omega) (show x42.toInt ≤ 24 by first | with_reducible assumption | omega) (show (24 - x42.toInt).toNat < n56 by first | exact tn_lt hm56 (by omega) (by omega) | omega) hw hT hF  (lv_sub hl [1, 2, 3, 4, 5, 6, 7, 8, 0] rfl)
              · have c41 : ¬ x40.toInt = (0 : Int) := wk_eqF c41
                refine lv_iload hx hb dX7_firstOpen_78 (lv_at hl 6 rfl) ?_
                refine lv_bipush (v := 24) hx hb dX7_firstOpen_80 (by decide) ?_
                refine lv_imul hx hb dX7_firstOpen_82 ?_
                refine lv_topi (fun x43 ex43 => ?_)
                have ex43 : x43.toInt = v25_6.toInt * (24 : Int) := by rw [ex43]; exact wk_mul (show (-2147483648) ≤ v25_6.toInt * (24 : Int) by omega) (show v25_6.toInt * (24 : Int) ≤ 2147483647 by omega)
                refine lv_iload hx hb dX7_firstOpen_83 (lv_at hl 8 rfl) ?_
                refine lv_iadd hx hb dX7_firstOpen_85 ?_
                refine lv_topi (fun x44 ex44 => ?_)
                have ex44 : x44.toInt = x43.toInt + v56_8.toInt := by rw [ex44]; exact wk_add (show (-2147483648) ≤ x43.toInt + v56_8.toInt by omega) (show x43.toInt + v56_8.toInt ≤ 2147483647 by omega)
                refine lv_istore (lv' := [(9, .int x44), (0, .ref (ad 39)), (1, .int a1), (2, .int 0), (3, .int a3), (4, .int a4), (5, .int (-1)), (6, .int v25_6), (7, .int v56_7), (8, .int v56_8)]) hx hb dX7_firstOpen_86 hl (by decide) rfl (fun ls hl => ?_)
                refine lv_iload hx hb dX7_firstOpen_88 (lv_at hl 0 rfl) ?_
                refine lv_iload hx hb dX7_firstOpen_90 (lv_at hl 5 rfl) ?_
                refine lv_icmp_gt (tgt := 100) hx hb dX7_firstOpen_92 (by decide) (fun c45 => ?_) (fun c45 => ?_)
                · have c45 : a4.toInt < x44.toInt := wk_lt.mp c45
                  refine lv_iconst (v := (-1)) hx hb dX7_firstOpen_100 (by decide) ?_
                  exact tk_iret hC hr hlocks hK ⟨hT, hF, (Or.inr rfl)⟩ hw dX7_firstOpen_101
                · have c45 : x44.toInt ≤ a4.toInt := wk_ltF c45
                  refine lv_iload hx hb dX7_firstOpen_95 (lv_at hl 0 rfl) ?_
                  refine lv_goto (tgt := 101) hx hb dX7_firstOpen_97 (by decide) ?_
                  exact tk_iret hC hr hlocks hK ⟨hT, hF, (Or.inl ⟨(show 0 ≤ x44.toInt by first | with_reducible assumption | omega), (show x44.toInt ≤ 102119 by first | with_reducible assumption | omega)⟩)⟩ hw dX7_firstOpen_101
      refine lv_iload hx hb dX7_firstOpen_25 (lv_at hl 6 rfl) ?_
      refine lv_bipush (v := 24) hx hb dX7_firstOpen_27 (by decide) ?_
      refine lv_imul hx hb dX7_firstOpen_29 ?_
      refine lv_topi (fun x46 ex46 => ?_)
      have ex46 : x46.toInt = v25_6.toInt * (24 : Int) := by rw [ex46]; exact wk_mul (show (-2147483648) ≤ v25_6.toInt * (24 : Int) by omega) (show v25_6.toInt * (24 : Int) ≤ 2147483647 by omega)
      refine lv_iload hx hb dX7_firstOpen_30 (lv_at hl 4 rfl) ?_
      refine lv_icmp_gt (tgt := 114) hx hb dX7_firstOpen_32 (by decide) (fun c47 => ?_) (fun c47 => ?_)
      · have c47 : a4.toInt < x46.toInt := wk_lt.mp c47
        refine lv_iconst (v := (-1)) hx hb dX7_firstOpen_114 (by decide) ?_
        exact tk_iret hC hr hlocks hK ⟨hT, hF, (Or.inr rfl)⟩ hw dX7_firstOpen_115
      · have c47 : x46.toInt ≤ a4.toInt := wk_ltF c47
        refine lv_aload_n hx hb dX7_firstOpen_35 rfl (lv_at hl 0 rfl) ?_
        refine lv_iload_n hx hb dX7_firstOpen_36 rfl (lv_at hl 1 rfl) ?_
        refine lv_iload_n hx hb dX7_firstOpen_37 rfl (lv_at hl 2 rfl) ?_
        refine lv_iload hx hb dX7_firstOpen_38 (lv_at hl 6 rfl) ?_
        refine lv_i2l hx hb dX7_firstOpen_40 rfl ?_
        refine lv_topl (fun x48 ex48 => ?_)
        have ex48 : x48.toInt = v25_6.toInt := by rw [ex48]; exact wk_i2l _
        have bx48 := wk_i32 v25_6
        refine lv_iconst (v := 1) hx hb dX7_firstOpen_41 (by decide) ?_
        refine tk_Vi hC hK hw hT hA hE hSR kC_at39 (by decide) rfl (k_X7_openHours_11 l adK adV dC dI cy ad B hB0 (Int.le_trans hB1 (by decide)) qr s1   a1 (show 0 ≤ a1.toInt from r2) (show a1.toInt ≤ 11 from t3) x48 (show 0 ≤ x48.toInt by first | with_reducible assumption | omega) (show x48.toInt ≤ 4254 by first | with_reducible assumption | omega) w1 H.size hT ) (cwV 4 hC.2.2.2.2 uV_RX7_148 rfl rfl rfl (by decide +kernel) ⟨Nat.le_of_ble_eq_true rfl, Nat.le_of_ble_eq_true rfl⟩) rfl hl.1 rfl (Nat.le_of_ble_eq_true rfl) dX7_firstOpen_42 (fun r49 w51 H locs hp50 hw => ?_)
        obtain ⟨hT, k52, hg55⟩ := hp50
        have hF := hF.tr k52 (by decide)
        obtain ⟨g53, g54⟩ := hg55
        refine lv_iload hx hb dX7_firstOpen_45 (lv_at hl 5 rfl) ?_
        refine lv_iand hx hb dX7_firstOpen_47 ?_
        refine lv_topi (fun x56 ex56 => ?_)
        have bx56 : 0 ≤ x56.toInt ∧ x56.toInt ≤ r49.toInt := by rw [ex56]; exact wk_andC (by omega)
        refine lv_istore (lv' := [(7, .int x56), (0, .ref (ad 39)), (1, .int a1), (2, .int 0), (3, .int a3), (4, .int a4), (5, .int v25_5), (6, .int v25_6)]) hx hb dX7_firstOpen_48 hl (by decide) rfl (fun ls hl => ?_)
        refine lv_iconst (v := (-1)) hx hb dX7_firstOpen_50 (by decide) ?_
        refine lv_istore (lv' := [(5, .int (-1)), (7, .int x56), (0, .ref (ad 39)), (1, .int a1), (2, .int 0), (3, .int a3), (4, .int a4), (6, .int v25_6)]) hx hb dX7_firstOpen_51 hl (by decide) rfl (fun ls hl => ?_)
        refine lv_iconst (v := 0) hx hb dX7_firstOpen_53 (by decide) ?_
        refine lv_istore (lv' := [(8, .int 0), (5, .int (-1)), (7, .int x56), (0, .ref (ad 39)), (1, .int a1), (2, .int 0), (3, .int a3), (4, .int a4), (6, .int v25_6)]) hx hb dX7_firstOpen_54 hl (by decide) rfl (fun ls hl => ?_)
        exact L56 ((24 - (0 : Int)).toNat + 1) x56 0 H locs ls w51 (show 0 ≤ a1.toInt from r2) (show a1.toInt ≤ 11 from t3) (show (-1) ≤ a3.toInt from r4) (show a3.toInt ≤ 102119 from t5) (show 0 ≤ a4.toInt from r6) (show a4.toInt ≤ 102119 from t7) (show 0 ≤ v25_6.toInt from r8) (show v25_6.toInt ≤ 4254 by first | with_reducible assumption | omega) (show 0 ≤ x56.toInt by first | with_reducible assumption | omega) (show x56.toInt ≤ 16777215 by first | with_reducible assumption | omega) (by decide) (by decide) (Nat.lt_succ_self _) hw hT hF  (lv_sub hl [3, 4, 5, 6, 7, 1, 8, 2, 0] rfl)
  refine lv_aload_n hx hb dX7_firstOpen_0 rfl (lv_at hl 0 rfl) ?_
  refine lv_iload_n hx hb dX7_firstOpen_1 rfl (lv_at hl 1 rfl) ?_
  refine lv_iload_n hx hb dX7_firstOpen_2 rfl (lv_at hl 2 rfl) ?_
  refine tk_Vi hC hK hw hT hA hE hSR kC_at39 (by decide) rfl (k_X7_isNeverOpen_1 l adK adV dC dI cy ad B hB0 (Int.le_trans hB1 (by decide)) qr s1   a1 (show 0 ≤ a1.toInt from ra1) (show a1.toInt ≤ 11 from ta1) w0 s.heap.size hT ) (cwV 2 hC.2.2.2.2 uV_RX7_152 rfl rfl rfl (by decide +kernel) ⟨Nat.le_of_ble_eq_true rfl, Nat.le_of_ble_eq_true rfl⟩) rfl hl.1 rfl (Nat.le_of_ble_eq_true rfl) dX7_firstOpen_3 (fun r57 w59 H locs hp58 hw => ?_)
  obtain ⟨hT, k60, hg61⟩ := hp58
  have hF := hF.tr k60 (by decide)
  rcases hg61 with rfl | rfl
  · refine lv_if_eq (tgt := 11) hx hb dX7_firstOpen_6 (by decide) (fun _ => ?_) (fun c => absurd (by decide) c)
    refine lv_iconst (v := (-1)) hx hb dX7_firstOpen_11 (by decide) ?_
    refine lv_iload_n hx hb dX7_firstOpen_12 rfl (lv_at hl 3 rfl) ?_
    refine lv_bipush (v := 24) hx hb dX7_firstOpen_13 (by decide) ?_
    refine lv_irem hx hb dX7_firstOpen_15 (by decide) ?_
    refine lv_topi (fun x62 ex62 => ?_)
    refine lv_ishl hx hb dX7_firstOpen_16 ?_
    refine lv_topi (fun x63 ex63 => ?_)
    refine lv_istore (lv' := [(5, .int x63), (0, .ref (ad 39)), (1, .int a1), (2, .int 0), (3, .int a3), (4, .int a4)]) hx hb dX7_firstOpen_17 hl (by decide) rfl (fun ls hl => ?_)
    refine lv_iload_n hx hb dX7_firstOpen_19 rfl (lv_at hl 4 rfl) ?_
    refine lv_bipush (v := 24) hx hb dX7_firstOpen_20 (by decide) ?_
    refine lv_idiv hx hb dX7_firstOpen_22 (by decide) ?_
    refine lv_topi (fun x64 ex64 => ?_)
    have bx64 : -(1 / (24 : Int)) ≤ x64.toInt ∧ x64.toInt ≤ 102119 / (24 : Int) := by rw [ex64]; exact wk_divB (m := 1) (n := 102119) (show 0 < (24 : Int) by decide) (by decide) (by decide) (by omega) (by omega)
    refine lv_istore (lv' := [(6, .int x64), (5, .int x63), (0, .ref (ad 39)), (1, .int a1), (2, .int 0), (3, .int a3), (4, .int a4)]) hx hb dX7_firstOpen_23 hl (by decide) rfl (fun ls hl => ?_)
    exact L25 ((4255 - x64.toInt).toNat + 1) x63 x64 H locs ls w59 (show 0 ≤ a1.toInt from ra1) (show a1.toInt ≤ 11 from ta1) (show (-1) ≤ a3.toInt from ra3) (show a3.toInt ≤ 102119 from ta3) (show 0 ≤ a4.toInt from ra4) (show a4.toInt ≤ 102119 from ta4) (show 0 ≤ x64.toInt by first | with_reducible assumption | omega) (show x64.toInt ≤ 4255 by first | with_reducible assumption | omega) (Nat.lt_succ_self _) hw hT hF  (lv_sub hl [2, 3, 4, 5, 6, 1, 0] rfl)
  · refine lv_if_eq (tgt := 11) hx hb dX7_firstOpen_6 (by decide) (fun c => absurd c (by decide)) (fun _ => ?_)
    refine lv_iconst (v := (-1)) hx hb dX7_firstOpen_9 (by decide) ?_
    exact tk_iret hC hr hlocks hK ⟨hT, hF, (Or.inr rfl)⟩ hw dX7_firstOpen_10
