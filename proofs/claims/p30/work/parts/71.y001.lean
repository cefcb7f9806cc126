abbrev Py_X0_refreshAll_1 (ad : Nat → Nat) (cy : Nat → ClassId) (B : Int) (qr : Nat) (s1 : Int)  (w0 : va_W) : va_W → Prop := fun u => TW ksC ad cy B qr s1 u ∧ FE ksC [(42, 0, 1100), (43, 0, 1100), (44, 0, 11)] w0 u ∧ Ev (fun n => m_X0_refreshAll n 145 (sL w0)) (0, sL u) ∧ ((True))
set_option maxHeartbeats 4000000 in
set_option maxRecDepth 100000 in
theorem ky_X0_refreshAll_1 (l : Launch) (adK adV : Nat → Nat) (dC : Nat → ClassId) (dI : Nat → Nat → Nat) (cy : Nat → ClassId) (ad : Nat → Nat) (B : Int) (hB0 : 2147483648 ≤ B) (hB1 : B ≤ 1152921504606846976) (qr : Nat) (s1 : Int)   (w0 : va_W) (sz : Nat) (hT : TW ksC ad cy B qr s1 w0)  : Met l yX0_refreshAll (wu yX0_refreshAll cX0_refreshAll 2 none) ({ frames := 5, cells := 0, slots := 0, locals := 109 }) (va_Pc [.ref (ad 145)] (wpreS adK adV dC dI cy sz w0)) (va_Qv (Py_X0_refreshAll_1 ad cy B qr s1  w0) (fun u : va_W => wpost dC dI cy (va_A w0 sz) u) (va_A w0 sz)) 0 0 (va_A w0 sz) := by
  refine Met.ofW (cc := cX0_refreshAll) (maxL := 2) (ret := none) (by decide) rfl ?_
  intro p e s m args below meth c s₁ Bk hml hv
  obtain ⟨rfl, ⟨hsz, hP, hK, hD0⟩, hE, hSR⟩ := hv
  have hx := Bk.exec
  have hb := Bk.bytes
  have hr := Bk.returns
  have hlocks := Bk.notSynchronized
  have hC : CallFix p m c cX0_refreshAll 2 s _ (wu yX0_refreshAll cX0_refreshAll 2 none) RX0 := ⟨hx, hb, hml, findClass_of_methodNamed Bk.named, atoms_spec (ws := (wu yX0_refreshAll cX0_refreshAll 2 none)) Bk.pre⟩
  subst hsz
  have hD := hD0.self (sz := s.heap.size)
  generalize hAe : va_A w0 s.heap.size = A at hD hE ⊢
  have hA : ∀ q : Nat, s.heap.size ≤ q → A q := fun q h => by rw [← hAe]; exact Or.inr h
  have hw : Wd dC dI A s.heap s.heap [] w0 := ⟨hP, hD, va_S.rf⟩
  have hF : FE ksC [(42, 0, 1100), (43, 0, 1100), (44, 0, 11)] w0 w0 := FE.rf
  have hl := lv_entry ([.ref (ad 145)]) (n := 2) (Nat.le_of_ble_eq_true rfl)
  rw [lg_entry_eq]
  generalize (lg_sl ([.ref (ad 145)]) ++ List.replicate (2 - (lg_sl ([.ref (ad 145)])).length) Slot.unset).toArray = ls at hl ⊢
  have hl : lv_has ls 2 [(0, .ref (ad 145))] := hl
  generalize hloc : ([] : List Loc) = locs at hw ⊢
  have hinX0 : ∀ w ∈ u_ws RX0 TX0 4, w ∈ (wu yX0_refreshAll cX0_refreshAll 2 none) := fun _ h => List.mem_cons_of_mem _ (up_77 h)
  have hinX5 : ∀ w ∈ u_ws RX5 TX5 14, w ∈ (wu yX0_refreshAll cX0_refreshAll 2 none) := fun _ h => List.mem_cons_of_mem _ (up_76 h)
  have L2 : ∀ (n2 : Nat) (v2_1 : Int32) (H : Heap) (locs : List Loc) (ls : Array Slot) (w1 : va_W), 0 ≤ v2_1.toInt → v2_1.toInt ≤ 11 → (11 - v2_1.toInt).toNat < n2 → Wd dC dI A s.heap H locs w1 → TW ksC ad cy B qr s1 w1 → FE ksC [(42, 0, 1100), (43, 0, 1100), (44, 0, 11)] w0 w1 → TT (fun n => m_X0_refreshAll n 145 (sL w0)) (fun n => j_X0_refreshAll 145 n 2 [v2_1.toInt] (sL w1)) → lv_has ls 2 [(0, .ref (ad 145)), (1, .int v2_1)] → W p l e ({ frames := 5, cells := 0, slots := 0, locals := 109 }) s m (List.toArray [.ref (ad 145)]) below meth c H locs 0 0 (MQ below (va_Qv (Py_X0_refreshAll_1 ad cy B qr s1  w0) (fun u : va_W => wpost dC dI cy A u) A) (List.toArray [.ref (ad 145)]) s 0 0 A) (F0 m 2 ls []) := by
    intro n2
    induction n2 with
    | zero => intro v2_1 H locs ls w1 r2 t3 hm2 hw hT hF hM hl; omega
    | succ n2 ih2 =>
      intro v2_1 H locs ls w1 r2 t3 hm2 hw hT hF hM hl
      have J29 : ∀ (f29_38_8 : Int32) (H : Heap) (locs : List Loc) (ls : Array Slot) (w4 : va_W), 0 ≤ v2_1.toInt → v2_1.toInt ≤ 10 → 0 ≤ f29_38_8.toInt → f29_38_8.toInt ≤ 4 → Wd dC dI A s.heap H locs w4 → TW ksC ad cy B qr s1 w4 → FE ksC [(42, 0, 1100), (43, 0, 1100), (44, 0, 11)] w0 w4 → gi w4 38 8 = f29_38_8 → TT (fun n => m_X0_refreshAll n 145 (sL w0)) (fun n => b_X0_refreshAll_29 (j_X0_refreshAll 145 n) n 145 (v2_1.toInt) (sL w4)) → lv_has ls 2 [(0, .ref (ad 145)), (1, .int v2_1)] → W p l e ({ frames := 5, cells := 0, slots := 0, locals := 109 }) s m (List.toArray [.ref (ad 145)]) below meth c H locs 0 0 (MQ below (va_Qv (Py_X0_refreshAll_1 ad cy B qr s1  w0) (fun u : va_W => wpost dC dI cy A u) A) (List.toArray [.ref (ad 145)]) s 0 0 A) (F0 m 29 ls []) := by
        intro f29_38_8 H locs ls w4 r5 t6 r7 t8 hw hT hF c9 hM hl
        obtain ⟨x10, ex10⟩ : ∃ y : Int32, y = v2_1 + Int32.ofInt 1 := ⟨_, rfl⟩
        have erx10 := ex10
        refine lv_iinc (v := x10) (lv' := [(1, .int x10), (0, .ref (ad 145))]) hx hb dX0_refreshAll_29 hl (k := 1) rfl ex10.symm (by decide) rfl (fun ls hl => ?_)
        have ex10 : x10.toInt = v2_1.toInt + 1 := by rw [ex10]; exact wk_add (y := 1) (show -2147483648 ≤ v2_1.toInt + 1 by omega) (show v2_1.toInt + 1 ≤ 2147483647 by omega)
        replace hM := hM.lt ex10.symm
        refine lv_goto (tgt := 2) hx hb dX0_refreshAll_32 (by decide) ?_
        exact ih2 x10 H locs ls w4 (show 0 ≤ x10.toInt by first | with_reducible assumption | omega) (show x10.toInt ≤ 11 by first | with_reducible assumption | omega) (show (11 - x10.toInt).toNat < n2 by first | exact tn_lt hm2 (by omega) (by omega) | omega) hw hT hF hM (lv_sub hl [1, 0] rfl)
      have J24 : ∀ (f24_38_8 : Int32) (H : Heap) (locs : List Loc) (ls : Array Slot) (w11 : va_W), 0 ≤ v2_1.toInt → v2_1.toInt ≤ 10 → 0 ≤ f24_38_8.toInt → f24_38_8.toInt ≤ 4 → Wd dC dI A s.heap H locs w11 → TW ksC ad cy B qr s1 w11 → FE ksC [(42, 0, 1100), (43, 0, 1100), (44, 0, 11)] w0 w11 → gi w11 38 8 = f24_38_8 → TT (fun n => m_X0_refreshAll n 145 (sL w0)) (fun n => b_X0_refreshAll_24 (j_X0_refreshAll 145 n) n 145 (v2_1.toInt) (sL w11)) → lv_has ls 2 [(0, .ref (ad 145)), (1, .int v2_1)] → W p l e ({ frames := 5, cells := 0, slots := 0, locals := 109 }) s m (List.toArray [.ref (ad 145)]) below meth c H locs 0 0 (MQ below (va_Qv (Py_X0_refreshAll_1 ad cy B qr s1  w0) (fun u : va_W => wpost dC dI cy A u) A) (List.toArray [.ref (ad 145)]) s 0 0 A) (F0 m 24 ls []) := by
        intro f24_38_8 H locs ls w11 r12 t13 r14 t15 hw hT hF c16 hM hl
        refine lv_aload_n hx hb dX0_refreshAll_24 rfl (lv_at hl 0 rfl) ?_
        refine lv_iload_n hx hb dX0_refreshAll_25 rfl (lv_at hl 1 rfl) ?_
        refine tk_Vv hC hK hw hT hA hE hSR kC_at145 (by decide) rfl (ky_X0_refresh_1 l adK adV dC dI cy ad B hB0 (Int.le_trans hB1 (by decide)) qr s1   v2_1 (show 0 ≤ v2_1.toInt from r12) (show v2_1.toInt ≤ 10 from t13) w11 H.size hT ) (cwV 1 hC.2.2.2.2 uV_RX0_34 rfl rfl rfl (by decide +kernel) ⟨Nat.le_of_ble_eq_true rfl, Nat.le_of_ble_eq_true rfl⟩) rfl hl.1 rfl (Nat.le_of_ble_eq_true rfl) dX0_refreshAll_26 (fun w19 H locs hp18 hw => ?_)
        obtain ⟨hT, k20, hv22, hg21⟩ := hp18
        have hF := hF.tr k20 (by decide)
        have c23 := k20.gi kC_at38 (by decide) c16
        clear hg21
        replace hM := hM.call hv22 rfl
        exact J29 f24_38_8 H locs ls w19 (show 0 ≤ v2_1.toInt from r12) (show v2_1.toInt ≤ 10 from t13) (show 0 ≤ f24_38_8.toInt from r14) (show f24_38_8.toInt ≤ 4 from t15)  hw hT hF c23 hM (lv_sub hl [0, 1] rfl)
      replace hM := hM.suc (fun _ => e_X0_refreshAll_2)
      refine lv_iload_n hx hb dX0_refreshAll_2 rfl (lv_at hl 1 rfl) ?_
      refine lv_bipush (v := 11) hx hb dX0_refreshAll_3 (by decide) ?_
      refine lv_icmp_ge (tgt := 35) hx hb dX0_refreshAll_5 (by decide) (fun c24 => ?_) (fun c24 => ?_)
      · have c24 : (11 : Int) ≤ v2_1.toInt := wk_le.mp c24
        replace hM := hM.pos c24
        exact tk_vret hC hr hlocks hK ⟨hT, hF, hM.ret rfl, trivial⟩ hw dX0_refreshAll_35
      · have c24 : v2_1.toInt < (11 : Int) := wk_leF c24
        replace hM := hM.neg (Int.not_le.mpr c24)
        refine lv_iload_n hx hb dX0_refreshAll_8 rfl (lv_at hl 1 rfl) ?_
        refine lv_aload_n hx hb dX0_refreshAll_9 rfl (lv_at hl 0 rfl) ?_
        refine tk_getA hC hK hw hT hinX0 kC_at145 (by decide) rfl 0 (by decide) (List.mem_cons_of_mem _ uw_4_17) rfl rfl dX0_refreshAll_10 ?_
        refine tk_geti hC hK hw hT hinX5 kC_at38 (by decide) rfl 8 (by decide) (List.mem_cons_of_mem _ uw_41_17) rfl rfl dX0_refreshAll_13 (fun x25 c26 rx25 tx25 => ?_)
        replace hM := hM.rd (sL_at (kC_lt kC_at38) c26)
        refine lv_icmp_lt (tgt := 24) hx hb dX0_refreshAll_16 (by decide) (fun c27 => ?_) (fun c27 => ?_)
        · have c27 : v2_1.toInt < x25.toInt := wk_lt.mp c27
          replace hM := hM.pos c27
          exact J24 x25 H locs ls w1 (show 0 ≤ v2_1.toInt from r2) (show v2_1.toInt ≤ 10 by first | with_reducible assumption | omega) (show 0 ≤ x25.toInt from rx25) (show x25.toInt ≤ 4 from tx25)  hw hT hF c26 hM (lv_sub hl [0, 1] rfl)
        · have c27 : x25.toInt ≤ v2_1.toInt := wk_ltF c27
          replace hM := hM.neg (Int.not_lt.mpr c27)
          refine lv_iload_n hx hb dX0_refreshAll_19 rfl (lv_at hl 1 rfl) ?_
          refine lv_iconst (v := 4) hx hb dX0_refreshAll_20 (by decide) ?_
          refine lv_icmp_lt (tgt := 29) hx hb dX0_refreshAll_21 (by decide) (fun c28 => ?_) (fun c28 => ?_)
          · have c28 : v2_1.toInt < (4 : Int) := wk_lt.mp c28
            replace hM := hM.pos c28
            exact J29 x25 H locs ls w1 (show 0 ≤ v2_1.toInt from r2) (show v2_1.toInt ≤ 10 by first | with_reducible assumption | omega) (show 0 ≤ x25.toInt from rx25) (show x25.toInt ≤ 4 from tx25)  hw hT hF c26 hM (lv_sub hl [0, 1] rfl)
          · have c28 : (4 : Int) ≤ v2_1.toInt := wk_ltF c28
            replace hM := hM.neg (Int.not_lt.mpr c28)
            exact J24 x25 H locs ls w1 (show 0 ≤ v2_1.toInt from r2) (show v2_1.toInt ≤ 10 by first | with_reducible assumption | omega) (show 0 ≤ x25.toInt from rx25) (show x25.toInt ≤ 4 from tx25)  hw hT hF c26 hM (lv_sub hl [0, 1] rfl)
  have hM : TT (fun n => m_X0_refreshAll n 145 (sL w0)) (fun n => m_X0_refreshAll n 145 (sL w0)) := TT.rf
  refine lv_iconst (v := 0) hx hb dX0_refreshAll_0 (by decide) ?_
  refine lv_istore_n (lv' := [(1, .int 0), (0, .ref (ad 145))]) hx hb dX0_refreshAll_1 rfl hl (by decide) rfl (fun ls hl => ?_)
  exact L2 ((11 - (0 : Int)).toNat + 1) 0 s.heap locs ls w0 (by decide) (by decide) (Nat.lt_succ_self _) hw hT hF hM (lv_sub hl [1, 0] rfl)
abbrev Py_X8_drawBelow_1 (ad : Nat → Nat) (cy : Nat → ClassId) (B : Int) (qr : Nat) (s1 : Int) (a1 : Int32) (w0 : va_W) : Int32 → va_W → Prop := fun r u => TW ksC ad cy B qr s1 u ∧ FE ksC [(8, 7, 7)] w0 u ∧ Ev (fun n => m_X8_drawBelow n 151 a1.toInt (sL w0)) (r.toInt, sL u) ∧ ((0 ≤ r.toInt ∧ r.toInt ≤ 9))
set_option maxHeartbeats 4000000 in
set_option maxRecDepth 100000 in
theorem ky_X8_drawBelow_1 (l : Launch) (adK adV : Nat → Nat) (dC : Nat → ClassId) (dI : Nat → Nat → Nat) (cy : Nat → ClassId) (ad : Nat → Nat) (B : Int) (hB0 : 2147483648 ≤ B) (hB1 : B ≤ 1152921504606846976) (qr : Nat) (s1 : Int)  (a1 : Int32) (ra1 : (-1) ≤ a1.toInt) (ta1 : a1.toInt ≤ 10) (w0 : va_W) (sz : Nat) (hT : TW ksC ad cy B qr s1 w0)  : Met l yX8_drawBelow (wu yX8_drawBelow cX8_drawBelow 2 (some .int)) ({ frames := 1, cells := 0, slots := 0, locals := 12 }) (va_Pc [.ref (ad 151), .int a1] (wpreS adK adV dC dI cy sz w0)) (va_Qi (Py_X8_drawBelow_1 ad cy B qr s1 a1 w0) (fun u : va_W => wpost dC dI cy (va_A w0 sz) u) (va_A w0 sz)) 0 0 (va_A w0 sz) := by
  refine Met.ofW (cc := cX8_drawBelow) (maxL := 2) (ret := (some .int)) (by decide) rfl ?_
  intro p e s m args below meth c s₁ Bk hml hv
  obtain ⟨rfl, ⟨hsz, hP, hK, hD0⟩, hE, hSR⟩ := hv
  have hx := Bk.exec
  have hb := Bk.bytes
  have hr := Bk.returns
  have hlocks := Bk.notSynchronized
  have hC : CallFix p m c cX8_drawBelow 2 s _ (wu yX8_drawBelow cX8_drawBelow 2 (some .int)) RX8 := ⟨hx, hb, hml, findClass_of_methodNamed Bk.named, atoms_spec (ws := (wu yX8_drawBelow cX8_drawBelow 2 (some .int))) Bk.pre⟩
  subst hsz
  have hD := hD0.self (sz := s.heap.size)
  generalize hAe : va_A w0 s.heap.size = A at hD hE ⊢
  have hA : ∀ q : Nat, s.heap.size ≤ q → A q := fun q h => by rw [← hAe]; exact Or.inr h
  have hw : Wd dC dI A s.heap s.heap [] w0 := ⟨hP, hD, va_S.rf⟩
  have hF : FE ksC [(8, 7, 7)] w0 w0 := FE.rf
  have hl := lv_entry ([.ref (ad 151), .int a1]) (n := 2) (Nat.le_of_ble_eq_true rfl)
  rw [lg_entry_eq]
  generalize (lg_sl ([.ref (ad 151), .int a1]) ++ List.replicate (2 - (lg_sl ([.ref (ad 151), .int a1])).length) Slot.unset).toArray = ls at hl ⊢
  have hl : lv_has ls 2 [(0, .ref (ad 151)), (1, .int a1)] := hl
  generalize hloc : ([] : List Loc) = locs at hw ⊢
  have hinX8 : ∀ w ∈ u_ws RX8 TX8 8, w ∈ (wu yX8_drawBelow cX8_drawBelow 2 (some .int)) := fun _ h => List.mem_cons_of_mem _ (up_79 h)
  have hM : TT (fun n => m_X8_drawBelow n 151 a1.toInt (sL w0)) (fun n => m_X8_drawBelow n 151 a1.toInt (sL w0)) := TT.rf
  refine lv_aload_n hx hb dX8_drawBelow_0 rfl (lv_at hl 0 rfl) ?_
  refine lv_aload_n hx hb dX8_drawBelow_1 rfl (lv_at hl 0 rfl) ?_
  refine tk_geti hC hK hw hT hinX8 kC_at151 (by decide) rfl 7 (by decide) (List.mem_cons_of_mem _ uw_67_14) rfl rfl dX8_drawBelow_2 (fun x1 c2 rx1 tx1 => ?_)
  replace hM := hM.rd (sL_at (kC_lt kC_at151) c2)
  refine lv_i2l hx hb dX8_drawBelow_5 rfl ?_
  refine lv_topl (fun x3 ex3 => ?_)
  have ex3 : x3.toInt = x1.toInt := by rw [ex3]; exact wk_i2l _
  have bx3 := wk_i32 x1
  replace hM := hM.lt ex3.symm
  refine lv_ldc2 (v := 1103515245) hx hb hC.2.2.2.1 (hC.2.2.2.2 _ (List.mem_cons_of_mem _ uw_67_19)) dX8_drawBelow_6 ?_
  refine lv_lmul hx hb dX8_drawBelow_9 ?_
  refine lv_topl (fun x4 ex4 => ?_)
  have ezx4 := ex4
  have ex4 : x4.toInt = x3.toInt * (1103515245 : Int) := by rw [ex4]; exact wk_mull (show (-9223372036854775808) ≤ x3.toInt * (1103515245 : Int) by omega) (show x3.toInt * (1103515245 : Int) ≤ 9223372036854775807 by omega)
  replace hM := hM.lt ex4.symm
  refine lv_ldc2 (v := 12345) hx hb hC.2.2.2.1 (hC.2.2.2.2 _ (List.mem_cons_of_mem _ uw_67_20)) dX8_drawBelow_10 ?_
  refine lv_ladd hx hb dX8_drawBelow_13 ?_
  refine lv_topl (fun x5 ex5 => ?_)
  have ezx5 := ex5
  have ex5 : x5.toInt = x4.toInt + (12345 : Int) := by rw [ex5]; exact wk_addl (show (-9223372036854775808) ≤ x4.toInt + (12345 : Int) by omega) (show x4.toInt + (12345 : Int) ≤ 9223372036854775807 by omega)
  replace hM := hM.lt ex5.symm
  refine lv_ldc2 (v := 2147483647) hx hb hC.2.2.2.1 (hC.2.2.2.2 _ (List.mem_cons_of_mem _ uw_67_21)) dX8_drawBelow_14 ?_
  refine lv_land hx hb dX8_drawBelow_17 ?_
  refine lv_topl (fun x6 ex6 => ?_)
  have ezx6 := ex6
  have bx6 : 0 ≤ x6.toInt ∧ x6.toInt ≤ (2147483647 : Int) := by rw [ex6]; exact wk_andl (by decide)
  replace hM := hM.lt (o64_e (f := fun x y => x &&& y) ezx6 rfl (by decide))
  refine lv_l2i hx hb dX8_drawBelow_18 rfl ?_
  refine lv_topi (fun x7 ex7 => ?_)
  have ex7 : x7.toInt = x6.toInt := by rw [ex7]; exact wk_l2i (by omega) (by omega)
  replace hM := hM.lt ex7.symm
  have hTq := hT
  refine tk_puti hC hK hw hT hinX8 tyX8_ok nmX8 kC_at151 (by decide) rfl rfl 7 (by decide) (List.mem_cons_of_mem _ uw_67_14) rfl rfl rfl rfl (show 0 ≤ x7.toInt by first | with_reducible assumption | omega) (wk_i32 x7).2 dX8_drawBelow_19 (fun H locs w8 hw hT k10 c9 => ?_)
  replace hM := hM.wr (sL_upf hTq hT kC_at151 (kC_lt kC_at151) (by decide) rfl k10 c9 rfl)
  have hF := hF.put kC_at151 (k := 7) (by decide) k10
  refine lv_iload_n hx hb dX8_drawBelow_22 rfl (lv_at hl 1 rfl) ?_
  refine lv_if_le (tgt := 38) hx hb dX8_drawBelow_23 (by decide) (fun c11 => ?_) (fun c11 => ?_)
  · have c11 : a1.toInt ≤ (0 : Int) := wk_le.mp c11
    replace hM := hM.pos c11
    refine lv_iconst (v := 0) hx hb dX8_drawBelow_38 (by decide) ?_
    exact tk_iret hC hr hlocks hK ⟨hT, hF, hM.ret (by decide), ⟨(by decide), (by decide)⟩⟩ hw dX8_drawBelow_39
  · have c11 : (0 : Int) < a1.toInt := wk_leF c11
    replace hM := hM.neg (Int.not_le.mpr c11)
    refine lv_aload_n hx hb dX8_drawBelow_26 rfl (lv_at hl 0 rfl) ?_
    refine tk_geti hC hK hw hT hinX8 kC_at151 (by decide) rfl 7 (by decide) (List.mem_cons_of_mem _ uw_67_14) rfl rfl dX8_drawBelow_27 (fun x12 c13 rx12 tx12 => ?_)
    refine wk_top x7 (c13.symm.trans c9) ?_
    replace hM := hM.rd (sL_at (kC_lt kC_at151) c9)
    refine lv_bipush (v := 16) hx hb dX8_drawBelow_30 (by decide) ?_
    refine lv_ishr hx hb dX8_drawBelow_32 ?_
    refine lv_topi (fun x14 ex14 => ?_)
    have ezx14 := ex14
    have bx14 : 0 ≤ x14.toInt ∧ x14.toInt ≤ x7.toInt := by rw [ex14]; exact wk_shr (by omega)
    replace hM := hM.lt (o32_e (f := fun x y => x >>> (y &&& 31)) ezx14 rfl (by decide))
    refine lv_iload_n hx hb dX8_drawBelow_33 rfl (lv_at hl 1 rfl) ?_
    refine lv_irem hx hb dX8_drawBelow_34 (fun h => absurd (show a1.toInt = 0 from wk_eq.mp h) (by omega)) ?_
    refine lv_topi (fun x15 ex15 => ?_)
    have ezx15 := ex15
    have bx15 : 0 ≤ x15.toInt ∧ x15.toInt < a1.toInt := by rw [ex15]; exact wk_remR (by omega) (by omega)
    replace hM := hM.lt (o32_e (f := fun x y => x - x / y * y) ezx15 rfl rfl)
    refine lv_goto (tgt := 39) hx hb dX8_drawBelow_35 (by decide) ?_
    exact tk_iret hC hr hlocks hK ⟨hT, hF, hM.ret rfl, ⟨(show 0 ≤ x15.toInt by first | with_reducible assumption | omega), (show x15.toInt ≤ 9 by first | with_reducible assumption | omega)⟩⟩ hw dX8_drawBelow_39
abbrev Py_X8_drawBelow_2 (ad : Nat → Nat) (cy : Nat → ClassId) (B : Int) (qr : Nat) (s1 : Int) (a1 : Int32) (w0 : va_W) : Int32 → va_W → Prop := fun r u => TW ksC ad cy B qr s1 u ∧ FE ksC [(8, 7, 7)] w0 u ∧ Ev (fun n => m_X8_drawBelow n 151 a1.toInt (sL w0)) (r.toInt, sL u) ∧ ((0 ≤ r.toInt ∧ r.toInt ≤ 3))
set_option maxHeartbeats 4000000 in
set_option maxRecDepth 100000 in
theorem ky_X8_drawBelow_2 (l : Launch) (adK adV : Nat → Nat) (dC : Nat → ClassId) (dI : Nat → Nat → Nat) (cy : Nat → ClassId) (ad : Nat → Nat) (B : Int) (hB0 : 2147483648 ≤ B) (hB1 : B ≤ 1152921504606846976) (qr : Nat) (s1 : Int)  (a1 : Int32) (ra1 : 0 ≤ a1.toInt) (ta1 : a1.toInt ≤ 4) (w0 : va_W) (sz : Nat) (hT : TW ksC ad cy B qr s1 w0)  : Met l yX8_drawBelow (wu yX8_drawBelow cX8_drawBelow 2 (some .int)) ({ frames := 1, cells := 0, slots := 0, locals := 12 }) (va_Pc [.ref (ad 151), .int a1] (wpreS adK adV dC dI cy sz w0)) (va_Qi (Py_X8_drawBelow_2 ad cy B qr s1 a1 w0) (fun u : va_W => wpost dC dI cy (va_A w0 sz) u) (va_A w0 sz)) 0 0 (va_A w0 sz) := by
  refine Met.ofW (cc := cX8_drawBelow) (maxL := 2) (ret := (some .int)) (by decide) rfl ?_
  intro p e s m args below meth c s₁ Bk hml hv
  obtain ⟨rfl, ⟨hsz, hP, hK, hD0⟩, hE, hSR⟩ := hv
  have hx := Bk.exec
  have hb := Bk.bytes
  have hr := Bk.returns
  have hlocks := Bk.notSynchronized
  have hC : CallFix p m c cX8_drawBelow 2 s _ (wu yX8_drawBelow cX8_drawBelow 2 (some .int)) RX8 := ⟨hx, hb, hml, findClass_of_methodNamed Bk.named, atoms_spec (ws := (wu yX8_drawBelow cX8_drawBelow 2 (some .int))) Bk.pre⟩
  subst hsz
  have hD := hD0.self (sz := s.heap.size)
  generalize hAe : va_A w0 s.heap.size = A at hD hE ⊢
  have hA : ∀ q : Nat, s.heap.size ≤ q → A q := fun q h => by rw [← hAe]; exact Or.inr h
  have hw : Wd dC dI A s.heap s.heap [] w0 := ⟨hP, hD, va_S.rf⟩
  have hF : FE ksC [(8, 7, 7)] w0 w0 := FE.rf
  have hl := lv_entry ([.ref (ad 151), .int a1]) (n := 2) (Nat.le_of_ble_eq_true rfl)
  rw [lg_entry_eq]
  generalize (lg_sl ([.ref (ad 151), .int a1]) ++ List.replicate (2 - (lg_sl ([.ref (ad 151), .int a1])).length) Slot.unset).toArray = ls at hl ⊢
  have hl : lv_has ls 2 [(0, .ref (ad 151)), (1, .int a1)] := hl
  generalize hloc : ([] : List Loc) = locs at hw ⊢
  have hinX8 : ∀ w ∈ u_ws RX8 TX8 8, w ∈ (wu yX8_drawBelow cX8_drawBelow 2 (some .int)) := fun _ h => List.mem_cons_of_mem _ (up_79 h)
  have hM : TT (fun n => m_X8_drawBelow n 151 a1.toInt (sL w0)) (fun n => m_X8_drawBelow n 151 a1.toInt (sL w0)) := TT.rf
  refine lv_aload_n hx hb dX8_drawBelow_0 rfl (lv_at hl 0 rfl) ?_
  refine lv_aload_n hx hb dX8_drawBelow_1 rfl (lv_at hl 0 rfl) ?_
  refine tk_geti hC hK hw hT hinX8 kC_at151 (by decide) rfl 7 (by decide) (List.mem_cons_of_mem _ uw_67_14) rfl rfl dX8_drawBelow_2 (fun x1 c2 rx1 tx1 => ?_)
  replace hM := hM.rd (sL_at (kC_lt kC_at151) c2)
  refine lv_i2l hx hb dX8_drawBelow_5 rfl ?_
  refine lv_topl (fun x3 ex3 => ?_)
  have ex3 : x3.toInt = x1.toInt := by rw [ex3]; exact wk_i2l _
  have bx3 := wk_i32 x1
  replace hM := hM.lt ex3.symm
  refine lv_ldc2 (v := 1103515245) hx hb hC.2.2.2.1 (hC.2.2.2.2 _ (List.mem_cons_of_mem _ uw_67_19)) dX8_drawBelow_6 ?_
  refine lv_lmul hx hb dX8_drawBelow_9 ?_
  refine lv_topl (fun x4 ex4 => ?_)
  have ezx4 := ex4
  have ex4 : x4.toInt = x3.toInt * (1103515245 : Int) := by rw [ex4]; exact wk_mull (show (-9223372036854775808) ≤ x3.toInt * (1103515245 : Int) by omega) (show x3.toInt * (1103515245 : Int) ≤ 9223372036854775807 by omega)
  replace hM := hM.lt ex4.symm
  refine lv_ldc2 (v := 12345) hx hb hC.2.2.2.1 (hC.2.2.2.2 _ (List.mem_cons_of_mem _ uw_67_20)) dX8_drawBelow_10 ?_
  refine lv_ladd hx hb dX8_drawBelow_13 ?_
  refine lv_topl (fun x5 ex5 => ?_)
  have ezx5 := ex5
  have ex5 : x5.toInt = x4.toInt + (12345 : Int) := by rw [ex5]; exact wk_addl (show (-9223372036854775808) ≤ x4.toInt + (12345 : Int) by omega) (show x4.toInt + (12345 : Int) ≤ 9223372036854775807 by omega)
  replace hM := hM.lt ex5.symm
  refine lv_ldc2 (v := 2147483647) hx hb hC.2.2.2.1 (hC.2.2.2.2 _ (List.mem_cons_of_mem _ uw_67_21)) dX8_drawBelow_14 ?_
  refine lv_land hx hb dX8_drawBelow_17 ?_
  refine lv_topl (fun x6 ex6 => ?_)
  have ezx6 := ex6
  have bx6 : 0 ≤ x6.toInt ∧ x6.toInt ≤ (2147483647 : Int) := by rw [ex6]; exact wk_andl (by decide)
  replace hM := hM.lt (o64_e (f := fun x y => x &&& y) ezx6 rfl (by decide))
  refine lv_l2i hx hb dX8_drawBelow_18 rfl ?_
  refine lv_topi (fun x7 ex7 => ?_)
  have ex7 : x7.toInt = x6.toInt := by rw [ex7]; exact wk_l2i (by omega) (by omega)
  replace hM := hM.lt ex7.symm
  have hTq := hT
  refine tk_puti hC hK hw hT hinX8 tyX8_ok nmX8 kC_at151 (by decide) rfl rfl 7 (by decide) (List.mem_cons_of_mem _ uw_67_14) rfl rfl rfl rfl (show 0 ≤ x7.toInt by first | with_reducible assumption | omega) (wk_i32 x7).2 dX8_drawBelow_19 (fun H locs w8 hw hT k10 c9 => ?_)
  replace hM := hM.wr (sL_upf hTq hT kC_at151 (kC_lt kC_at151) (by decide) rfl k10 c9 rfl)
  have hF := hF.put kC_at151 (k := 7) (by decide) k10
  refine lv_iload_n hx hb dX8_drawBelow_22 rfl (lv_at hl 1 rfl) ?_
  refine lv_if_le (tgt := 38) hx hb dX8_drawBelow_23 (by decide) (fun c11 => ?_) (fun c11 => ?_)
  · have c11 : a1.toInt ≤ (0 : Int) := wk_le.mp c11
    replace hM := hM.pos c11
    refine lv_iconst (v := 0) hx hb dX8_drawBelow_38 (by decide) ?_
    exact tk_iret hC hr hlocks hK ⟨hT, hF, hM.ret (by decide), ⟨(by decide), (by decide)⟩⟩ hw dX8_drawBelow_39
  · have c11 : (0 : Int) < a1.toInt := wk_leF c11
    replace hM := hM.neg (Int.not_le.mpr c11)
    refine lv_aload_n hx hb dX8_drawBelow_26 rfl (lv_at hl 0 rfl) ?_
    refine tk_geti hC hK hw hT hinX8 kC_at151 (by decide) rfl 7 (by decide) (List.mem_cons_of_mem _ uw_67_14) rfl rfl dX8_drawBelow_27 (fun x12 c13 rx12 tx12 => ?_)
    refine wk_top x7 (c13.symm.trans c9) ?_
    replace hM := hM.rd (sL_at (kC_lt kC_at151) c9)
    refine lv_bipush (v := 16) hx hb dX8_drawBelow_30 (by decide) ?_
    refine lv_ishr hx hb dX8_drawBelow_32 ?_
    refine lv_topi (fun x14 ex14 => ?_)
    have ezx14 := ex14
    have bx14 : 0 ≤ x14.toInt ∧ x14.toInt ≤ x7.toInt := by rw [ex14]; exact wk_shr (by omega)
    replace hM := hM.lt (o32_e (f := fun x y => x >>> (y &&& 31)) ezx14 rfl (by decide))
    refine lv_iload_n hx hb dX8_drawBelow_33 rfl (lv_at hl 1 rfl) ?_
    refine lv_irem hx hb dX8_drawBelow_34 (fun h => absurd (show a1.toInt = 0 from wk_eq.mp h) (by omega)) ?_
    refine lv_topi (fun x15 ex15 => ?_)
    have ezx15 := ex15
    have bx15 : 0 ≤ x15.toInt ∧ x15.toInt < a1.toInt := by rw [ex15]; exact wk_remR (by omega) (by omega)
    replace hM := hM.lt (o32_e (f := fun x y => x - x / y * y) ezx15 rfl rfl)
    refine lv_goto (tgt := 39) hx hb dX8_drawBelow_35 (by decide) ?_
    exact tk_iret hC hr hlocks hK ⟨hT, hF, hM.ret rfl, ⟨(show 0 ≤ x15.toInt by first | with_reducible assumption | omega), (show x15.toInt ≤ 3 by first | with_reducible assumption | omega)⟩⟩ hw dX8_drawBelow_39
abbrev Py_X8_drawBelow_3 (ad : Nat → Nat) (cy : Nat → ClassId) (B : Int) (qr : Nat) (s1 : Int)  (w0 : va_W) : Int32 → va_W → Prop := fun r u => TW ksC ad cy B qr s1 u ∧ FE ksC [(8, 7, 7)] w0 u ∧ Ev (fun n => m_X8_drawBelow n 151 168 (sL w0)) (r.toInt, sL u) ∧ ((0 ≤ r.toInt ∧ r.toInt ≤ 167))
set_option maxHeartbeats 4000000 in
set_option maxRecDepth 100000 in
theorem ky_X8_drawBelow_3 (l : Launch) (adK adV : Nat → Nat) (dC : Nat → ClassId) (dI : Nat → Nat → Nat) (cy : Nat → ClassId) (ad : Nat → Nat) (B : Int) (hB0 : 2147483648 ≤ B) (hB1 : B ≤ 1152921504606846976) (qr : Nat) (s1 : Int)   (w0 : va_W) (sz : Nat) (hT : TW ksC ad cy B qr s1 w0)  : Met l yX8_drawBelow (wu yX8_drawBelow cX8_drawBelow 2 (some .int)) ({ frames := 1, cells := 0, slots := 0, locals := 12 }) (va_Pc [.ref (ad 151), .int 168] (wpreS adK adV dC dI cy sz w0)) (va_Qi (Py_X8_drawBelow_3 ad cy B qr s1  w0) (fun u : va_W => wpost dC dI cy (va_A w0 sz) u) (va_A w0 sz)) 0 0 (va_A w0 sz) := by
  refine Met.ofW (cc := cX8_drawBelow) (maxL := 2) (ret := (some .int)) (by decide) rfl ?_
  intro p e s m args below meth c s₁ Bk hml hv
  obtain ⟨rfl, ⟨hsz, hP, hK, hD0⟩, hE, hSR⟩ := hv
  have hx := Bk.exec
  have hb := Bk.bytes
  have hr := Bk.returns
  have hlocks := Bk.notSynchronized
  have hC : CallFix p m c cX8_drawBelow 2 s _ (wu yX8_drawBelow cX8_drawBelow 2 (some .int)) RX8 := ⟨hx, hb, hml, findClass_of_methodNamed Bk.named, atoms_spec (ws := (wu yX8_drawBelow cX8_drawBelow 2 (some .int))) Bk.pre⟩
  subst hsz
  have hD := hD0.self (sz := s.heap.size)
  generalize hAe : va_A w0 s.heap.size = A at hD hE ⊢
  have hA : ∀ q : Nat, s.heap.size ≤ q → A q := fun q h => by rw [← hAe]; exact Or.inr h
  have hw : Wd dC dI A s.heap s.heap [] w0 := ⟨hP, hD, va_S.rf⟩
  have hF : FE ksC [(8, 7, 7)] w0 w0 := FE.rf
  have hl := lv_entry ([.ref (ad 151), .int 168]) (n := 2) (Nat.le_of_ble_eq_true rfl)
  rw [lg_entry_eq]
  generalize (lg_sl ([.ref (ad 151), .int 168]) ++ List.replicate (2 - (lg_sl ([.ref (ad 151), .int 168])).length) Slot.unset).toArray = ls at hl ⊢
  have hl : lv_has ls 2 [(0, .ref (ad 151)), (1, .int 168)] := hl
  generalize hloc : ([] : List Loc) = locs at hw ⊢
  have hinX8 : ∀ w ∈ u_ws RX8 TX8 8, w ∈ (wu yX8_drawBelow cX8_drawBelow 2 (some .int)) := fun _ h => List.mem_cons_of_mem _ (up_79 h)
  have hM : TT (fun n => m_X8_drawBelow n 151 168 (sL w0)) (fun n => m_X8_drawBelow n 151 168 (sL w0)) := TT.rf
  refine lv_aload_n hx hb dX8_drawBelow_0 rfl (lv_at hl 0 rfl) ?_
  refine lv_aload_n hx hb dX8_drawBelow_1 rfl (lv_at hl 0 rfl) ?_
  refine tk_geti hC hK hw hT hinX8 kC_at151 (by decide) rfl 7 (by decide) (List.mem_cons_of_mem _ uw_67_14) rfl rfl dX8_drawBelow_2 (fun x1 c2 rx1 tx1 => ?_)
  replace hM := hM.rd (sL_at (kC_lt kC_at151) c2)
  refine lv_i2l hx hb dX8_drawBelow_5 rfl ?_
  refine lv_topl (fun x3 ex3 => ?_)
  have ex3 : x3.toInt = x1.toInt := by rw [ex3]; exact wk_i2l _
  have bx3 := wk_i32 x1
  replace hM := hM.lt ex3.symm
  refine lv_ldc2 (v := 1103515245) hx hb hC.2.2.2.1 (hC.2.2.2.2 _ (List.mem_cons_of_mem _ uw_67_19)) dX8_drawBelow_6 ?_
  refine lv_lmul hx hb dX8_drawBelow_9 ?_
  refine lv_topl (fun x4 ex4 => ?_)
  have ezx4 := ex4
  have ex4 : x4.toInt = x3.toInt * (1103515245 : Int) := by rw [ex4]; exact wk_mull (show (-9223372036854775808) ≤ x3.toInt * (1103515245 : Int) by omega) (show x3.toInt * (1103515245 : Int) ≤ 9223372036854775807 by omega)
  replace hM := hM.lt ex4.symm
  refine lv_ldc2 (v := 12345) hx hb hC.2.2.2.1 (hC.2.2.2.2 _ (List.mem_cons_of_mem _ uw_67_20)) dX8_drawBelow_10 ?_
  refine lv_ladd hx hb dX8_drawBelow_13 ?_
  refine lv_topl (fun x5 ex5 => ?_)
  have ezx5 := ex5
  have ex5 : x5.toInt = x4.toInt + (12345 : Int) := by rw [ex5]; exact wk_addl (show (-9223372036854775808) ≤ x4.toInt + (12345 : Int) by omega) (show x4.toInt + (12345 : Int) ≤ 9223372036854775807 by omega)
  replace hM := hM.lt ex5.symm
  refine lv_ldc2 (v := 2147483647) hx hb hC.2.2.2.1 (hC.2.2.2.2 _ (List.mem_cons_of_mem _ uw_67_21)) dX8_drawBelow_14 ?_
  refine lv_land hx hb dX8_drawBelow_17 ?_
  refine lv_topl (fun x6 ex6 => ?_)
  have ezx6 := ex6
  have bx6 : 0 ≤ x6.toInt ∧ x6.toInt ≤ (2147483647 : Int) := by rw [ex6]; exact wk_andl (by decide)
  replace hM := hM.lt (o64_e (f := fun x y => x &&& y) ezx6 rfl (by decide))
  refine lv_l2i hx hb dX8_drawBelow_18 rfl ?_
  refine lv_topi (fun x7 ex7 => ?_)
  have ex7 : x7.toInt = x6.toInt := by rw [ex7]; exact wk_l2i (by omega) (by omega)
  replace hM := hM.lt ex7.symm
  have hTq := hT
  refine tk_puti hC hK hw hT hinX8 tyX8_ok nmX8 kC_at151 (by decide) rfl rfl 7 (by decide) (List.mem_cons_of_mem _ uw_67_14) rfl rfl rfl rfl (show 0 ≤ x7.toInt by first | with_reducible assumption | omega) (wk_i32 x7).2 dX8_drawBelow_19 (fun H locs w8 hw hT k10 c9 => ?_)
  replace hM := hM.wr (sL_upf hTq hT kC_at151 (kC_lt kC_at151) (by decide) rfl k10 c9 rfl)
  have hF := hF.put kC_at151 (k := 7) (by decide) k10
  refine lv_iload_n hx hb dX8_drawBelow_22 rfl (lv_at hl 1 rfl) ?_
  refine lv_if_le (tgt := 38) hx hb dX8_drawBelow_23 (by decide) (fun c => absurd c (by decide)) (fun _ => ?_)
  replace hM := hM.neg (by decide)
  refine lv_aload_n hx hb dX8_drawBelow_26 rfl (lv_at hl 0 rfl) ?_
  refine tk_geti hC hK hw hT hinX8 kC_at151 (by decide) rfl 7 (by decide) (List.mem_cons_of_mem _ uw_67_14) rfl rfl dX8_drawBelow_27 (fun x11 c12 rx11 tx11 => ?_)
  refine wk_top x7 (c12.symm.trans c9) ?_
  replace hM := hM.rd (sL_at (kC_lt kC_at151) c9)
  refine lv_bipush (v := 16) hx hb dX8_drawBelow_30 (by decide) ?_
  refine lv_ishr hx hb dX8_drawBelow_32 ?_
  refine lv_topi (fun x13 ex13 => ?_)
  have ezx13 := ex13
  have bx13 : 0 ≤ x13.toInt ∧ x13.toInt ≤ x7.toInt := by rw [ex13]; exact wk_shr (by omega)
  replace hM := hM.lt (o32_e (f := fun x y => x >>> (y &&& 31)) ezx13 rfl (by decide))
  refine lv_iload_n hx hb dX8_drawBelow_33 rfl (lv_at hl 1 rfl) ?_
  refine lv_irem hx hb dX8_drawBelow_34 (by decide) ?_
  refine lv_topi (fun x14 ex14 => ?_)
  have ezx14 := ex14
  have ex14 : x14.toInt = x13.toInt % (168 : Int) := by rw [ex14]; exact wk_rem (show 0 ≤ x13.toInt by first | with_reducible assumption | omega) (show 0 < (168 : Int) by decide)
  replace hM := hM.lt (o32_e (f := fun x y => x - x / y * y) ezx14 rfl (by decide))
  refine lv_goto (tgt := 39) hx hb dX8_drawBelow_35 (by decide) ?_
  exact tk_iret hC hr hlocks hK ⟨hT, hF, hM.ret rfl, ⟨(show 0 ≤ x14.toInt by first | with_reducible assumption | omega), (show x14.toInt ≤ 167 by first | with_reducible assumption | omega)⟩⟩ hw dX8_drawBelow_39
abbrev Py_X9_setOut_1 (ad : Nat → Nat) (cy : Nat → ClassId) (B : Int) (qr : Nat) (s1 : Int) (a1 : Int32) (a2 : Int32) (a3 : Int32) (a4 : Int32) (a5 : Int64) (w0 : va_W) : va_W → Prop := fun u => TW ksC ad cy B qr s1 u ∧ FE ksC [(9, 0, 0), (9, 1, 1), (9, 2, 2), (9, 3, 3), (9, 4, 4), (9, 5, 5), (9, 6, 6), (9, 7, 7), (9, 8, 8)] w0 u ∧ Ev (fun n => m_X9_setOutL n 152 a1.toInt a2.toInt a3.toInt a4.toInt a5.toInt (sL w0)) (0, sL u) ∧ (((∃ y : Int32, gi u 152 3 = y ∧ (-1) ≤ y.toInt ∧ y.toInt ≤ 5) ∧ (∃ y : Int32, gi u 152 5 = y ∧ 0 ≤ y.toInt ∧ y.toInt ≤ 0) ∧ (∃ y : Int32, gi u 152 6 = y ∧ 0 ≤ y.toInt ∧ y.toInt ≤ 0) ∧ (∃ y : Int32, gi u 152 7 = y ∧ (-1) ≤ y.toInt ∧ y.toInt ≤ (-1))))
set_option maxHeartbeats 4000000 in
set_option maxRecDepth 100000 in
theorem ky_X9_setOut_1 (l : Launch) (adK adV : Nat → Nat) (dC : Nat → ClassId) (dI : Nat → Nat → Nat) (cy : Nat → ClassId) (ad : Nat → Nat) (B : Int) (hB0 : 2147483648 ≤ B) (hB1 : B ≤ 1152921504606846976) (qr : Nat) (s1 : Int)  (a1 : Int32) (ra1 : 0 ≤ a1.toInt) (ta1 : a1.toInt ≤ 9) (a2 : Int32) (ra2 : 0 ≤ a2.toInt) (ta2 : a2.toInt ≤ 9) (a3 : Int32) (ra3 : 0 ≤ a3.toInt) (ta3 : a3.toInt ≤ 3) (a4 : Int32) (ra4 : (-1) ≤ a4.toInt) (ta4 : a4.toInt ≤ 5) (a5 : Int64) (ra5 : 0 ≤ a5.toInt) (ta5 : a5.toInt ≤ 167) (w0 : va_W) (sz : Nat) (hT : TW ksC ad cy B qr s1 w0)  : Met l yX9_setOut (wu yX9_setOut cX9_setOut 7 none) ({ frames := 1, cells := 0, slots := 0, locals := 12 }) (va_Pc [.ref (ad 152), .int a1, .int a2, .int a3, .int a4, .long a5] (wpreS adK adV dC dI cy sz w0)) (va_Qv (Py_X9_setOut_1 ad cy B qr s1 a1 a2 a3 a4 a5 w0) (fun u : va_W => wpost dC dI cy (va_A w0 sz) u) (va_A w0 sz)) 0 0 (va_A w0 sz) := by
  refine Met.ofW (cc := cX9_setOut) (maxL := 7) (ret := none) (by decide) rfl ?_
  intro p e s m args below meth c s₁ Bk hml hv
  obtain ⟨rfl, ⟨hsz, hP, hK, hD0⟩, hE, hSR⟩ := hv
  have hx := Bk.exec
  have hb := Bk.bytes
  have hr := Bk.returns
  have hlocks := Bk.notSynchronized
  have hC : CallFix p m c cX9_setOut 7 s _ (wu yX9_setOut cX9_setOut 7 none) RX9 := ⟨hx, hb, hml, findClass_of_methodNamed Bk.named, atoms_spec (ws := (wu yX9_setOut cX9_setOut 7 none)) Bk.pre⟩
  subst hsz
  have hD := hD0.self (sz := s.heap.size)
  generalize hAe : va_A w0 s.heap.size = A at hD hE ⊢
  have hA : ∀ q : Nat, s.heap.size ≤ q → A q := fun q h => by rw [← hAe]; exact Or.inr h
  have hw : Wd dC dI A s.heap s.heap [] w0 := ⟨hP, hD, va_S.rf⟩
  have hF : FE ksC [(9, 0, 0), (9, 1, 1), (9, 2, 2), (9, 3, 3), (9, 4, 4), (9, 5, 5), (9, 6, 6), (9, 7, 7), (9, 8, 8)] w0 w0 := FE.rf
  have hl := lv_entry ([.ref (ad 152), .int a1, .int a2, .int a3, .int a4, .long a5]) (n := 7) (Nat.le_of_ble_eq_true rfl)
  rw [lg_entry_eq]
  generalize (lg_sl ([.ref (ad 152), .int a1, .int a2, .int a3, .int a4, .long a5]) ++ List.replicate (7 - (lg_sl ([.ref (ad 152), .int a1, .int a2, .int a3, .int a4, .long a5])).length) Slot.unset).toArray = ls at hl ⊢
  have hl : lv_has ls 7 [(0, .ref (ad 152)), (1, .int a1), (2, .int a2), (3, .int a3), (4, .int a4), (5, .long a5)] := hl
  generalize hloc : ([] : List Loc) = locs at hw ⊢
  have hinX9 : ∀ w ∈ u_ws RX9 TX9 9, w ∈ (wu yX9_setOut cX9_setOut 7 none) := fun _ h => List.mem_cons_of_mem _ (up_82 h)
  have hM : TT (fun n => m_X9_setOutL n 152 a1.toInt a2.toInt a3.toInt a4.toInt a5.toInt (sL w0)) (fun n => m_X9_setOutL n 152 a1.toInt a2.toInt a3.toInt a4.toInt a5.toInt (sL w0)) := TT.rf
  refine lv_aload_n hx hb dX9_setOut_0 rfl (lv_at hl 0 rfl) ?_
  refine lv_iload_n hx hb dX9_setOut_1 rfl (lv_at hl 1 rfl) ?_
  have hTq := hT
  refine tk_puti hC hK hw hT hinX9 tyX9_ok nmX9 kC_at152 (by decide) rfl rfl 0 (by decide) (List.mem_cons_of_mem _ uw_39_9) rfl rfl rfl rfl (show 0 ≤ a1.toInt from ra1) (show a1.toInt ≤ 9 from ta1) dX9_setOut_2 (fun H locs w1 hw hT k3 c2 => ?_)
  replace hM := hM.wr (sL_upf hTq hT kC_at152 (kC_lt kC_at152) (by decide) rfl k3 c2 rfl)
  have hF := hF.put kC_at152 (k := 0) (by decide) k3
  refine lv_aload_n hx hb dX9_setOut_5 rfl (lv_at hl 0 rfl) ?_
  refine lv_iload_n hx hb dX9_setOut_6 rfl (lv_at hl 2 rfl) ?_
  have hTq := hT
  refine tk_puti hC hK hw hT hinX9 tyX9_ok nmX9 kC_at152 (by decide) rfl rfl 1 (by decide) (List.mem_cons_of_mem _ uw_39_10) rfl rfl rfl rfl (show 0 ≤ a2.toInt from ra2) (show a2.toInt ≤ 9 from ta2) dX9_setOut_7 (fun H locs w4 hw hT k6 c5 => ?_)
  replace hM := hM.wr (sL_upf hTq hT kC_at152 (kC_lt kC_at152) (by decide) rfl k6 c5 rfl)
  have hF := hF.put kC_at152 (k := 1) (by decide) k6
  have c7 := k6.gi (Or.inr (by decide)) c2
  refine lv_aload_n hx hb dX9_setOut_10 rfl (lv_at hl 0 rfl) ?_
  refine lv_iload_n hx hb dX9_setOut_11 rfl (lv_at hl 3 rfl) ?_
  have hTq := hT
  refine tk_puti hC hK hw hT hinX9 tyX9_ok nmX9 kC_at152 (by decide) rfl rfl 2 (by decide) (List.mem_cons_of_mem _ uw_39_11) rfl rfl rfl rfl (show 0 ≤ a3.toInt from ra3) (show a3.toInt ≤ 3 from ta3) dX9_setOut_12 (fun H locs w8 hw hT k10 c9 => ?_)
  replace hM := hM.wr (sL_upf hTq hT kC_at152 (kC_lt kC_at152) (by decide) rfl k10 c9 rfl)
  have hF := hF.put kC_at152 (k := 2) (by decide) k10
  have c11 := k10.gi (Or.inr (by decide)) c7
  have c12 := k10.gi (Or.inr (by decide)) c5
  refine lv_aload_n hx hb dX9_setOut_15 rfl (lv_at hl 0 rfl) ?_
  refine lv_iload hx hb dX9_setOut_16 (lv_at hl 4 rfl) ?_
  have hTq := hT
  refine tk_puti hC hK hw hT hinX9 tyX9_ok nmX9 kC_at152 (by decide) rfl rfl 3 (by decide) (List.mem_cons_of_mem _ uw_39_12) rfl rfl rfl rfl (wk_i32 a4).1 (wk_i32 a4).2 dX9_setOut_18 (fun H locs w13 hw hT k15 c14 => ?_)
  replace hM := hM.wr (sL_upf hTq hT kC_at152 (kC_lt kC_at152) (by decide) rfl k15 c14 rfl)
  have hF := hF.put kC_at152 (k := 3) (by decide) k15
  have c16 := k15.gi (Or.inr (by decide)) c11
  have c17 := k15.gi (Or.inr (by decide)) c12
  have c18 := k15.gi (Or.inr (by decide)) c9
  refine lv_aload_n hx hb dX9_setOut_21 rfl (lv_at hl 0 rfl) ?_
  refine lv_lload hx hb dX9_setOut_22 (lv_at hl 5 rfl) ?_
  have hTq := hT
  refine tk_putB hC hK hw hT hinX9 tyX9_ok nmX9 kC_at152 (by decide) rfl rfl 4 (by decide) (List.mem_cons_of_mem _ uw_39_13) rfl rfl rfl rfl (show 0 ≤ a5.toInt from ra5) (show a5.toInt ≤ B by omega) dX9_setOut_24 (fun H locs w19 hw hT k21 c20 => ?_)
  replace hM := hM.wr (sL_upl hTq hT kC_at152 (kC_lt kC_at152) (by decide) rfl (by decide) k21 c20 rfl)
  have hF := hF.put kC_at152 (k := 4) (by decide) k21
  have c22 := k21.gi (Or.inr (by decide)) c16
  have c23 := k21.gi (Or.inr (by decide)) c17
  have c24 := k21.gi (Or.inr (by decide)) c18
  have c25 := k21.gi (Or.inr (by decide)) c14
  refine lv_aload_n hx hb dX9_setOut_27 rfl (lv_at hl 0 rfl) ?_
  refine lv_iconst (v := 0) hx hb dX9_setOut_28 (by decide) ?_
  have hTq := hT
  refine tk_puti hC hK hw hT hinX9 tyX9_ok nmX9 kC_at152 (by decide) rfl rfl 5 (by decide) (List.mem_cons_of_mem _ uw_39_14) rfl rfl rfl rfl (by decide) (by decide) dX9_setOut_29 (fun H locs w26 hw hT k28 c27 => ?_)
  replace hM := hM.wr (sL_upf hTq hT kC_at152 (kC_lt kC_at152) (by decide) rfl k28 c27 (by decide))
  have hF := hF.put kC_at152 (k := 5) (by decide) k28
  have c29 := k28.gi (Or.inr (by decide)) c22
  have c30 := k28.gi (Or.inr (by decide)) c23
  have c31 := k28.gi (Or.inr (by decide)) c24
  have c32 := k28.gi (Or.inr (by decide)) c25
  have c33 := k28.gl (Or.inr (by decide)) c20
  refine lv_aload_n hx hb dX9_setOut_32 rfl (lv_at hl 0 rfl) ?_
  refine lv_iconst (v := 0) hx hb dX9_setOut_33 (by decide) ?_
  have hTq := hT
  refine tk_puti hC hK hw hT hinX9 tyX9_ok nmX9 kC_at152 (by decide) rfl rfl 6 (by decide) (List.mem_cons_of_mem _ uw_39_15) rfl rfl rfl rfl (by decide) (by decide) dX9_setOut_34 (fun H locs w34 hw hT k36 c35 => ?_)
  replace hM := hM.wr (sL_upf hTq hT kC_at152 (kC_lt kC_at152) (by decide) rfl k36 c35 (by decide))
  have hF := hF.put kC_at152 (k := 6) (by decide) k36
  have c37 := k36.gi (Or.inr (by decide)) c29
  have c38 := k36.gi (Or.inr (by decide)) c30
  have c39 := k36.gi (Or.inr (by decide)) c31
  have c40 := k36.gi (Or.inr (by decide)) c32
  have c41 := k36.gl (Or.inr (by decide)) c33
  have c42 := k36.gi (Or.inr (by decide)) c27
  refine lv_aload_n hx hb dX9_setOut_37 rfl (lv_at hl 0 rfl) ?_
  refine lv_iconst (v := (-1)) hx hb dX9_setOut_38 (by decide) ?_
  have hTq := hT
  refine tk_puti hC hK hw hT hinX9 tyX9_ok nmX9 kC_at152 (by decide) rfl rfl 7 (by decide) (List.mem_cons_of_mem _ uw_39_16) rfl rfl rfl rfl (by decide) (by decide) dX9_setOut_39 (fun H locs w43 hw hT k45 c44 => ?_)
  replace hM := hM.wr (sL_upf hTq hT kC_at152 (kC_lt kC_at152) (by decide) rfl k45 c44 (by decide))
  have hF := hF.put kC_at152 (k := 7) (by decide) k45
  have c46 := k45.gi (Or.inr (by decide)) c37
  have c47 := k45.gi (Or.inr (by decide)) c38
  have c48 := k45.gi (Or.inr (by decide)) c39
  have c49 := k45.gi (Or.inr (by decide)) c40
  have c50 := k45.gl (Or.inr (by decide)) c41
  have c51 := k45.gi (Or.inr (by decide)) c42
  have c52 := k45.gi (Or.inr (by decide)) c35
  refine lv_aload_n hx hb dX9_setOut_42 rfl (lv_at hl 0 rfl) ?_
  refine lv_ldc2 (v := (-1)) hx hb hC.2.2.2.1 (hC.2.2.2.2 _ (List.mem_cons_of_mem _ uw_39_17)) dX9_setOut_43 ?_
  have hTq := hT
  refine tk_putl hC hK hw hT hinX9 tyX9_ok nmX9 kC_at152 (by decide) rfl rfl 8 (by decide) (List.mem_cons_of_mem _ uw_39_18) rfl rfl rfl rfl (by decide) (by decide) dX9_setOut_46 (fun H locs w53 hw hT k55 c54 => ?_)
  replace hM := hM.wr (sL_upl hTq hT kC_at152 (kC_lt kC_at152) (by decide) rfl (by decide) k55 c54 (by decide))
  have hF := hF.put kC_at152 (k := 8) (by decide) k55
  have c56 := k55.gi (Or.inr (by decide)) c46
  have c57 := k55.gi (Or.inr (by decide)) c47
  have c58 := k55.gi (Or.inr (by decide)) c48
  have c59 := k55.gi (Or.inr (by decide)) c49
  have c60 := k55.gl (Or.inr (by decide)) c50
  have c61 := k55.gi (Or.inr (by decide)) c51
  have c62 := k55.gi (Or.inr (by decide)) c52
  have c63 := k55.gi (Or.inr (by decide)) c44
  exact tk_vret hC hr hlocks hK ⟨hT, hF, hM.ret rfl, ⟨⟨a4, c59, (show (-1) ≤ a4.toInt from ra4), (show a4.toInt ≤ 5 from ta4)⟩, ⟨0, c61, (by decide), (by decide)⟩, ⟨0, c62, (by decide), (by decide)⟩, ⟨(-1), c63, (by decide), (by decide)⟩⟩⟩ hw dX9_setOut_49
abbrev Py_X0_spot_2 (ad : Nat → Nat) (cy : Nat → ClassId) (B : Int) (qr : Nat) (s1 : Int) (a0 : Int32) (a1 : Int32) (a2 : Int32) (w0 : va_W) : Int32 → va_W → Prop := fun r u => TW ksC ad cy B qr s1 u ∧ FE ksC ([] : List (Nat × Nat × Nat)) w0 u ∧ Ev (fun n => m_X0_spot n a0.toInt a1.toInt a2.toInt (sL w0)) (r.toInt, sL u) ∧ ((0 ≤ r.toInt ∧ r.toInt ≤ 399))
set_option maxHeartbeats 4000000 in
set_option maxRecDepth 100000 in
theorem ky_X0_spot_2 (l : Launch) (adK adV : Nat → Nat) (dC : Nat → ClassId) (dI : Nat → Nat → Nat) (cy : Nat → ClassId) (ad : Nat → Nat) (B : Int) (hB0 : 2147483648 ≤ B) (hB1 : B ≤ 1152921504606846976) (qr : Nat) (s1 : Int)  (a0 : Int32) (ra0 : 0 ≤ a0.toInt) (ta0 : a0.toInt ≤ 3) (a1 : Int32) (ra1 : 0 ≤ a1.toInt) (ta1 : a1.toInt ≤ 9) (a2 : Int32) (ra2 : 0 ≤ a2.toInt) (ta2 : a2.toInt ≤ 9) (w0 : va_W) (sz : Nat) (hT : TW ksC ad cy B qr s1 w0)  : Met l yX0_spot (wu yX0_spot cX0_spot 3 (some .int)) ({ frames := 1, cells := 0, slots := 0, locals := 12 }) (va_Pc [.int a0, .int a1, .int a2] (wpreS adK adV dC dI cy sz w0)) (va_Qi (Py_X0_spot_2 ad cy B qr s1 a0 a1 a2 w0) (fun u : va_W => wpost dC dI cy (va_A w0 sz) u) (va_A w0 sz)) 0 0 (va_A w0 sz) := by
  refine Met.ofW (cc := cX0_spot) (maxL := 3) (ret := (some .int)) (by decide) rfl ?_
  intro p e s m args below meth c s₁ Bk hml hv
  obtain ⟨rfl, ⟨hsz, hP, hK, hD0⟩, hE, hSR⟩ := hv
  have hx := Bk.exec
  have hb := Bk.bytes
  have hr := Bk.returns
  have hlocks := Bk.notSynchronized
  have hC : CallFix p m c cX0_spot 3 s _ (wu yX0_spot cX0_spot 3 (some .int)) RX0 := ⟨hx, hb, hml, findClass_of_methodNamed Bk.named, atoms_spec (ws := (wu yX0_spot cX0_spot 3 (some .int))) Bk.pre⟩
  subst hsz
  have hD := hD0.self (sz := s.heap.size)
  generalize hAe : va_A w0 s.heap.size = A at hD hE ⊢
  have hA : ∀ q : Nat, s.heap.size ≤ q → A q := fun q h => by rw [← hAe]; exact Or.inr h
  have hw : Wd dC dI A s.heap s.heap [] w0 := ⟨hP, hD, va_S.rf⟩
  have hF : FE ksC ([] : List (Nat × Nat × Nat)) w0 w0 := FE.rf
  have hl := lv_entry ([.int a0, .int a1, .int a2]) (n := 3) (Nat.le_of_ble_eq_true rfl)
  rw [lg_entry_eq]
  generalize (lg_sl ([.int a0, .int a1, .int a2]) ++ List.replicate (3 - (lg_sl ([.int a0, .int a1, .int a2])).length) Slot.unset).toArray = ls at hl ⊢
  have hl : lv_has ls 3 [(0, .int a0), (1, .int a1), (2, .int a2)] := hl
  generalize hloc : ([] : List Loc) = locs at hw ⊢
  have hM : TT (fun n => m_X0_spot n a0.toInt a1.toInt a2.toInt (sL w0)) (fun n => m_X0_spot n a0.toInt a1.toInt a2.toInt (sL w0)) := TT.rf
  refine lv_iload_n hx hb dX0_spot_0 rfl (lv_at hl 0 rfl) ?_
  refine lv_bipush (v := 100) hx hb dX0_spot_1 (by decide) ?_
  refine lv_imul hx hb dX0_spot_3 ?_
  refine lv_topi (fun x1 ex1 => ?_)
  have ezx1 := ex1
  have ex1 : x1.toInt = a0.toInt * (100 : Int) := by rw [ex1]; exact wk_mul (show (-2147483648) ≤ a0.toInt * (100 : Int) by omega) (show a0.toInt * (100 : Int) ≤ 2147483647 by omega)
  replace hM := hM.lt ex1.symm
  refine lv_iload_n hx hb dX0_spot_4 rfl (lv_at hl 1 rfl) ?_
  refine lv_bipush (v := 10) hx hb dX0_spot_5 (by decide) ?_
  refine lv_imul hx hb dX0_spot_7 ?_
  refine lv_topi (fun x2 ex2 => ?_)
  have ezx2 := ex2
  have ex2 : x2.toInt = a1.toInt * (10 : Int) := by rw [ex2]; exact wk_mul (show (-2147483648) ≤ a1.toInt * (10 : Int) by omega) (show a1.toInt * (10 : Int) ≤ 2147483647 by omega)
  replace hM := hM.lt ex2.symm
  refine lv_iadd hx hb dX0_spot_8 ?_
  refine lv_topi (fun x3 ex3 => ?_)
  have ezx3 := ex3
  have ex3 : x3.toInt = x1.toInt + x2.toInt := by rw [ex3]; exact wk_add (show (-2147483648) ≤ x1.toInt + x2.toInt by omega) (show x1.toInt + x2.toInt ≤ 2147483647 by omega)
  replace hM := hM.lt ex3.symm
  refine lv_iload_n hx hb dX0_spot_9 rfl (lv_at hl 2 rfl) ?_
  refine lv_iadd hx hb dX0_spot_10 ?_
  refine lv_topi (fun x4 ex4 => ?_)
  have ezx4 := ex4
  have ex4 : x4.toInt = x3.toInt + a2.toInt := by rw [ex4]; exact wk_add (show (-2147483648) ≤ x3.toInt + a2.toInt by omega) (show x3.toInt + a2.toInt ≤ 2147483647 by omega)
  replace hM := hM.lt ex4.symm
  exact tk_iret hC hr hlocks hK ⟨hT, hF, hM.ret rfl, ⟨(show 0 ≤ x4.toInt by first | with_reducible assumption | omega), (show x4.toInt ≤ 399 by first | with_reducible assumption | omega)⟩⟩ hw dX0_spot_11
abbrev Py_X0_streetBy_1 (ad : Nat → Nat) (cy : Nat → ClassId) (B : Int) (qr : Nat) (s1 : Int) (a1 : Int32) (a2 : Int32) (a3 : Int32) (w0 : va_W) : Int32 → va_W → Prop := fun r u => TW ksC ad cy B qr s1 u ∧ FE ksC ([] : List (Nat × Nat × Nat)) w0 u ∧ Ev (fun n => m_X0_streetBy n 145 a1.toInt a2.toInt a3.toInt (sL w0)) (r.toInt, sL u) ∧ (((-1) ≤ r.toInt ∧ r.toInt ≤ 11))
set_option maxHeartbeats 4000000 in
set_option maxRecDepth 100000 in
theorem ky_X0_streetBy_1 (l : Launch) (adK adV : Nat → Nat) (dC : Nat → ClassId) (dI : Nat → Nat → Nat) (cy : Nat → ClassId) (ad : Nat → Nat) (B : Int) (hB0 : 2147483648 ≤ B) (hB1 : B ≤ 1152921504606846976) (qr : Nat) (s1 : Int)  (a1 : Int32) (ra1 : 0 ≤ a1.toInt) (ta1 : a1.toInt ≤ 3) (a2 : Int32) (ra2 : 0 ≤ a2.toInt) (ta2 : a2.toInt ≤ 9) (a3 : Int32) (ra3 : 0 ≤ a3.toInt) (ta3 : a3.toInt ≤ 9) (w0 : va_W) (sz : Nat) (hT : TW ksC ad cy B qr s1 w0)  : Met l yX0_streetBy (wu yX0_streetBy cX0_streetBy 4 (some .int)) ({ frames := 2, cells := 0, slots := 0, locals := 34 }) (va_Pc [.ref (ad 145), .int a1, .int a2, .int a3] (wpreS adK adV dC dI cy sz w0)) (va_Qi (Py_X0_streetBy_1 ad cy B qr s1 a1 a2 a3 w0) (fun u : va_W => wpost dC dI cy (va_A w0 sz) u) (va_A w0 sz)) 0 0 (va_A w0 sz) := by
  refine Met.ofW (cc := cX0_streetBy) (maxL := 4) (ret := (some .int)) (by decide) rfl ?_
  intro p e s m args below meth c s₁ Bk hml hv
  obtain ⟨rfl, ⟨hsz, hP, hK, hD0⟩, hE, hSR⟩ := hv
  have hx := Bk.exec
  have hb := Bk.bytes
  have hr := Bk.returns
  have hlocks := Bk.notSynchronized
  have hC : CallFix p m c cX0_streetBy 4 s _ (wu yX0_streetBy cX0_streetBy 4 (some .int)) RX0 := ⟨hx, hb, hml, findClass_of_methodNamed Bk.named, atoms_spec (ws := (wu yX0_streetBy cX0_streetBy 4 (some .int))) Bk.pre⟩
  subst hsz
  have hD := hD0.self (sz := s.heap.size)
  generalize hAe : va_A w0 s.heap.size = A at hD hE ⊢
  have hA : ∀ q : Nat, s.heap.size ≤ q → A q := fun q h => by rw [← hAe]; exact Or.inr h
  have hw : Wd dC dI A s.heap s.heap [] w0 := ⟨hP, hD, va_S.rf⟩
  have hF : FE ksC ([] : List (Nat × Nat × Nat)) w0 w0 := FE.rf
  have hl := lv_entry ([.ref (ad 145), .int a1, .int a2, .int a3]) (n := 4) (Nat.le_of_ble_eq_true rfl)
  rw [lg_entry_eq]
  generalize (lg_sl ([.ref (ad 145), .int a1, .int a2, .int a3]) ++ List.replicate (4 - (lg_sl ([.ref (ad 145), .int a1, .int a2, .int a3])).length) Slot.unset).toArray = ls at hl ⊢
  have hl : lv_has ls 4 [(0, .ref (ad 145)), (1, .int a1), (2, .int a2), (3, .int a3)] := hl
  generalize hloc : ([] : List Loc) = locs at hw ⊢
  have hinX0 : ∀ w ∈ u_ws RX0 TX0 4, w ∈ (wu yX0_streetBy cX0_streetBy 4 (some .int)) := fun _ h => List.mem_cons_of_mem _ (up_77 h)
  have hM : TT (fun n => m_X0_streetBy n 145 a1.toInt a2.toInt a3.toInt (sL w0)) (fun n => m_X0_streetBy n 145 a1.toInt a2.toInt a3.toInt (sL w0)) := TT.rf
  refine lv_aload_n hx hb dX0_streetBy_0 rfl (lv_at hl 0 rfl) ?_
  refine tk_getA hC hK hw hT hinX0 kC_at145 (by decide) rfl 2 (by decide) (List.mem_cons_of_mem _ uw_4_15) rfl rfl dX0_streetBy_1 ?_
  refine lv_iload_n hx hb dX0_streetBy_4 rfl (lv_at hl 1 rfl) ?_
  refine lv_iload_n hx hb dX0_streetBy_5 rfl (lv_at hl 2 rfl) ?_
  refine lv_iload_n hx hb dX0_streetBy_6 rfl (lv_at hl 3 rfl) ?_
  refine tk_Si hC hK hw hT hA hE hSR (ky_X0_spot_2 l adK adV dC dI cy ad B hB0 (Int.le_trans hB1 (by decide)) qr s1   a1 (show 0 ≤ a1.toInt from ra1) (show a1.toInt ≤ 3 from ta1) a2 (show 0 ≤ a2.toInt from ra2) (show a2.toInt ≤ 9 from ta2) a3 (show 0 ≤ a3.toInt from ra3) (show a3.toInt ≤ 9 from ta3) w0 s.heap.size hT ) (va_cwS 3 hC.2.2.2.2 uS_RX0_47 rfl rfl rfl (by decide +kernel) ⟨Nat.le_of_ble_eq_true rfl, Nat.le_of_ble_eq_true rfl⟩) rfl hl.1 rfl (Nat.le_of_ble_eq_true rfl) dX0_streetBy_7 (fun r1 w3 H locs hp2 hw => ?_)
  obtain ⟨hT, k4, hv8, hg7⟩ := hp2
  have hF := hF.tr k4 (by decide)
  obtain ⟨g5, g6⟩ := hg7
  replace hM := hM.call hv8 rfl
  refine tk_iald hC hK hw hT kC_at147 rfl rfl (show 0 ≤ r1.toInt by first | with_reducible assumption | omega) (show r1.toInt < 1100 by first | with_reducible assumption | omega) dX0_streetBy_10 (fun x9 c10 rx9 tx9 => ?_)
  have hox9 := c10
  replace hM := hM.rd (sL_at (kC_lt kC_at147) hox9)
  exact tk_iret hC hr hlocks hK ⟨hT, hF, hM.ret rfl, ⟨(show (-1) ≤ x9.toInt from rx9), (show x9.toInt ≤ 11 from tx9)⟩⟩ hw dX0_streetBy_11
abbrev Py_X0_hoursBy_1 (ad : Nat → Nat) (cy : Nat → ClassId) (B : Int) (qr : Nat) (s1 : Int) (a1 : Int32) (a2 : Int32) (a3 : Int32) (w0 : va_W) : Int32 → va_W → Prop := fun r u => TW ksC ad cy B qr s1 u ∧ FE ksC ([] : List (Nat × Nat × Nat)) w0 u ∧ Ev (fun n => m_X0_hoursBy n 145 a1.toInt a2.toInt a3.toInt (sL w0)) (r.toInt, sL u) ∧ ((0 ≤ r.toInt ∧ r.toInt ≤ 999999) ∨ (r = (-1)))
set_option maxHeartbeats 4000000 in
set_option maxRecDepth 100000 in
theorem ky_X0_hoursBy_1 (l : Launch) (adK adV : Nat → Nat) (dC : Nat → ClassId) (dI : Nat → Nat → Nat) (cy : Nat → ClassId) (ad : Nat → Nat) (B : Int) (hB0 : 2147483648 ≤ B) (hB1 : B ≤ 1152921504606846976) (qr : Nat) (s1 : Int)  (a1 : Int32) (ra1 : 0 ≤ a1.toInt) (ta1 : a1.toInt ≤ 3) (a2 : Int32) (ra2 : 0 ≤ a2.toInt) (ta2 : a2.toInt ≤ 9) (a3 : Int32) (ra3 : 0 ≤ a3.toInt) (ta3 : a3.toInt ≤ 9) (w0 : va_W) (sz : Nat) (hT : TW ksC ad cy B qr s1 w0)  : Met l yX0_hoursBy (wu yX0_hoursBy cX0_hoursBy 5 (some .int)) ({ frames := 2, cells := 0, slots := 0, locals := 34 }) (va_Pc [.ref (ad 145), .int a1, .int a2, .int a3] (wpreS adK adV dC dI cy sz w0)) (va_Qi (Py_X0_hoursBy_1 ad cy B qr s1 a1 a2 a3 w0) (fun u : va_W => wpost dC dI cy (va_A w0 sz) u) (va_A w0 sz)) 0 0 (va_A w0 sz) := by
  refine Met.ofW (cc := cX0_hoursBy) (maxL := 5) (ret := (some .int)) (by decide) rfl ?_
  intro p e s m args below meth c s₁ Bk hml hv
  obtain ⟨rfl, ⟨hsz, hP, hK, hD0⟩, hE, hSR⟩ := hv
  have hx := Bk.exec
  have hb := Bk.bytes
  have hr := Bk.returns
  have hlocks := Bk.notSynchronized
  have hC : CallFix p m c cX0_hoursBy 5 s _ (wu yX0_hoursBy cX0_hoursBy 5 (some .int)) RX0 := ⟨hx, hb, hml, findClass_of_methodNamed Bk.named, atoms_spec (ws := (wu yX0_hoursBy cX0_hoursBy 5 (some .int))) Bk.pre⟩
  subst hsz
  have hD := hD0.self (sz := s.heap.size)
  generalize hAe : va_A w0 s.heap.size = A at hD hE ⊢
  have hA : ∀ q : Nat, s.heap.size ≤ q → A q := fun q h => by rw [← hAe]; exact Or.inr h
  have hw : Wd dC dI A s.heap s.heap [] w0 := ⟨hP, hD, va_S.rf⟩
  have hF : FE ksC ([] : List (Nat × Nat × Nat)) w0 w0 := FE.rf
  have hl := lv_entry ([.ref (ad 145), .int a1, .int a2, .int a3]) (n := 5) (Nat.le_of_ble_eq_true rfl)
  rw [lg_entry_eq]
  generalize (lg_sl ([.ref (ad 145), .int a1, .int a2, .int a3]) ++ List.replicate (5 - (lg_sl ([.ref (ad 145), .int a1, .int a2, .int a3])).length) Slot.unset).toArray = ls at hl ⊢
  have hl : lv_has ls 5 [(0, .ref (ad 145)), (1, .int a1), (2, .int a2), (3, .int a3)] := hl
  generalize hloc : ([] : List Loc) = locs at hw ⊢
  have hinX0 : ∀ w ∈ u_ws RX0 TX0 4, w ∈ (wu yX0_hoursBy cX0_hoursBy 5 (some .int)) := fun _ h => List.mem_cons_of_mem _ (up_77 h)
  have hM : TT (fun n => m_X0_hoursBy n 145 a1.toInt a2.toInt a3.toInt (sL w0)) (fun n => m_X0_hoursBy n 145 a1.toInt a2.toInt a3.toInt (sL w0)) := TT.rf
  refine lv_aload_n hx hb dX0_hoursBy_0 rfl (lv_at hl 0 rfl) ?_
  refine tk_getA hC hK hw hT hinX0 kC_at145 (by decide) rfl 1 (by decide) (List.mem_cons_of_mem _ uw_4_14) rfl rfl dX0_hoursBy_1 ?_
  refine lv_iload_n hx hb dX0_hoursBy_4 rfl (lv_at hl 1 rfl) ?_
  refine lv_iload_n hx hb dX0_hoursBy_5 rfl (lv_at hl 2 rfl) ?_
  refine lv_iload_n hx hb dX0_hoursBy_6 rfl (lv_at hl 3 rfl) ?_
  refine tk_Si hC hK hw hT hA hE hSR (ky_X0_spot_2 l adK adV dC dI cy ad B hB0 (Int.le_trans hB1 (by decide)) qr s1   a1 (show 0 ≤ a1.toInt from ra1) (show a1.toInt ≤ 3 from ta1) a2 (show 0 ≤ a2.toInt from ra2) (show a2.toInt ≤ 9 from ta2) a3 (show 0 ≤ a3.toInt from ra3) (show a3.toInt ≤ 9 from ta3) w0 s.heap.size hT ) (va_cwS 3 hC.2.2.2.2 uS_RX0_47 rfl rfl rfl (by decide +kernel) ⟨Nat.le_of_ble_eq_true rfl, Nat.le_of_ble_eq_true rfl⟩) rfl hl.1 rfl (Nat.le_of_ble_eq_true rfl) dX0_hoursBy_7 (fun r1 w3 H locs hp2 hw => ?_)
  obtain ⟨hT, k4, hv8, hg7⟩ := hp2
  have hF := hF.tr k4 (by decide)
  obtain ⟨g5, g6⟩ := hg7
  replace hM := hM.call hv8 rfl
  refine tk_iald hC hK hw hT kC_at146 rfl rfl (show 0 ≤ r1.toInt by first | with_reducible assumption | omega) (show r1.toInt < 1100 by first | with_reducible assumption | omega) dX0_hoursBy_10 (fun x9 c10 rx9 tx9 => ?_)
  have hox9 := c10
  replace hM := hM.rd (sL_at (kC_lt kC_at146) hox9)
  refine lv_istore (lv' := [(4, .int x9), (0, .ref (ad 145)), (1, .int a1), (2, .int a2), (3, .int a3)]) hx hb dX0_hoursBy_11 hl (by decide) rfl (fun ls hl => ?_)
  refine lv_iload hx hb dX0_hoursBy_13 (lv_at hl 0 rfl) ?_
  refine lv_ldc (v := 1000000) hx hb hC.2.2.2.1 (hC.2.2.2.2 _ (List.mem_cons_of_mem _ uw_36_8)) dX0_hoursBy_15 ?_
  refine lv_icmp_lt (tgt := 24) hx hb dX0_hoursBy_17 (by decide) (fun c11 => ?_) (fun c11 => ?_)
  · have c11 : x9.toInt < (1000000 : Int) := wk_lt.mp c11
    replace hM := hM.pos c11
    refine lv_iload hx hb dX0_hoursBy_24 (lv_at hl 0 rfl) ?_
    exact tk_iret hC hr hlocks hK ⟨hT, hF, hM.ret rfl, (Or.inl ⟨(show 0 ≤ x9.toInt from rx9), (show x9.toInt ≤ 999999 by first | with_reducible assumption | omega)⟩)⟩ hw dX0_hoursBy_26
  · have c11 : (1000000 : Int) ≤ x9.toInt := wk_ltF c11
    replace hM := hM.neg (Int.not_lt.mpr c11)
    refine lv_iconst (v := (-1)) hx hb dX0_hoursBy_20 (by decide) ?_
    refine lv_goto (tgt := 26) hx hb dX0_hoursBy_21 (by decide) ?_
    exact tk_iret hC hr hlocks hK ⟨hT, hF, hM.ret (by decide), (Or.inr rfl)⟩ hw dX0_hoursBy_26
abbrev Py_X7_sideOf_1 (ad : Nat → Nat) (cy : Nat → ClassId) (B : Int) (qr : Nat) (s1 : Int) (a1 : Int32) (a2 : Int32) (w0 : va_W) : Int32 → va_W → Prop := fun r u => TW ksC ad cy B qr s1 u ∧ FE ksC ([] : List (Nat × Nat × Nat)) w0 u ∧ Ev (fun n => m_X7_sideOf n 39 a1.toInt a2.toInt (sL w0)) (r.toInt, sL u) ∧ ((r = (-1)) ∨ (r = 0 ∧ gi u 40 (2 * a1.toInt + 0).toNat = a2) ∨ (r = 1 ∧ gi u 40 (2 * a1.toInt + 1).toNat = a2))
set_option maxHeartbeats 4000000 in
set_option maxRecDepth 100000 in
theorem ky_X7_sideOf_1 (l : Launch) (adK adV : Nat → Nat) (dC : Nat → ClassId) (dI : Nat → Nat → Nat) (cy : Nat → ClassId) (ad : Nat → Nat) (B : Int) (hB0 : 2147483648 ≤ B) (hB1 : B ≤ 1152921504606846976) (qr : Nat) (s1 : Int)  (a1 : Int32) (ra1 : 0 ≤ a1.toInt) (ta1 : a1.toInt ≤ 11) (a2 : Int32) (ra2 : 0 ≤ a2.toInt) (ta2 : a2.toInt ≤ 9) (w0 : va_W) (sz : Nat) (hT : TW ksC ad cy B qr s1 w0)  : Met l yX7_sideOf (wu yX7_sideOf cX7_sideOf 3 (some .int)) ({ frames := 1, cells := 0, slots := 0, locals := 12 }) (va_Pc [.ref (ad 39), .int a1, .int a2] (wpreS adK adV dC dI cy sz w0)) (va_Qi (Py_X7_sideOf_1 ad cy B qr s1 a1 a2 w0) (fun u : va_W => wpost dC dI cy (va_A w0 sz) u) (va_A w0 sz)) 0 0 (va_A w0 sz) := by
  refine Met.ofW (cc := cX7_sideOf) (maxL := 3) (ret := (some .int)) (by decide) rfl ?_
  intro p e s m args below meth c s₁ Bk hml hv
  obtain ⟨rfl, ⟨hsz, hP, hK, hD0⟩, hE, hSR⟩ := hv
  have hx := Bk.exec
  have hb := Bk.bytes
  have hr := Bk.returns
  have hlocks := Bk.notSynchronized
  have hC : CallFix p m c cX7_sideOf 3 s _ (wu yX7_sideOf cX7_sideOf 3 (some .int)) RX7 := ⟨hx, hb, hml, findClass_of_methodNamed Bk.named, atoms_spec (ws := (wu yX7_sideOf cX7_sideOf 3 (some .int))) Bk.pre⟩
  subst hsz
  have hD := hD0.self (sz := s.heap.size)
  generalize hAe : va_A w0 s.heap.size = A at hD hE ⊢
  have hA : ∀ q : Nat, s.heap.size ≤ q → A q := fun q h => by rw [← hAe]; exact Or.inr h
  have hw : Wd dC dI A s.heap s.heap [] w0 := ⟨hP, hD, va_S.rf⟩
  have hF : FE ksC ([] : List (Nat × Nat × Nat)) w0 w0 := FE.rf
  have hl := lv_entry ([.ref (ad 39), .int a1, .int a2]) (n := 3) (Nat.le_of_ble_eq_true rfl)
  rw [lg_entry_eq]
  generalize (lg_sl ([.ref (ad 39), .int a1, .int a2]) ++ List.replicate (3 - (lg_sl ([.ref (ad 39), .int a1, .int a2])).length) Slot.unset).toArray = ls at hl ⊢
  have hl : lv_has ls 3 [(0, .ref (ad 39)), (1, .int a1), (2, .int a2)] := hl
  generalize hloc : ([] : List Loc) = locs at hw ⊢
  have hinX7 : ∀ w ∈ u_ws RX7 TX7 12, w ∈ (wu yX7_sideOf cX7_sideOf 3 (some .int)) := fun _ h => List.mem_cons_of_mem _ (up_73 h)
  have hM : TT (fun n => m_X7_sideOf n 39 a1.toInt a2.toInt (sL w0)) (fun n => m_X7_sideOf n 39 a1.toInt a2.toInt (sL w0)) := TT.rf
  refine lv_aload_n hx hb dX7_sideOf_0 rfl (lv_at hl 0 rfl) ?_
  refine tk_getO hC hK hw hT hinX7 kC_at39 (by decide) rfl 0 (by decide) (List.mem_cons_of_mem _ uw_2_17) rfl rfl dX7_sideOf_1 ?_
  refine lv_iconst (v := 2) hx hb dX7_sideOf_4 (by decide) ?_
  refine lv_iload_n hx hb dX7_sideOf_5 rfl (lv_at hl 1 rfl) ?_
  refine lv_imul hx hb dX7_sideOf_6 ?_
  refine lv_topi (fun x1 ex1 => ?_)
  have ezx1 := ex1
  have ex1 : x1.toInt = (2 : Int) * a1.toInt := by rw [ex1]; exact wk_mul (show (-2147483648) ≤ (2 : Int) * a1.toInt by omega) (show (2 : Int) * a1.toInt ≤ 2147483647 by omega)
  replace hM := hM.lt ex1.symm
  refine tk_iald hC hK hw hT kC_at40 rfl rfl (show 0 ≤ x1.toInt by first | with_reducible assumption | omega) (show x1.toInt < 26 by first | with_reducible assumption | omega) dX7_sideOf_7 (fun x2 c3 rx2 tx2 => ?_)
  have hox2 := c3
  replace hM := hM.rd (sL_at (kC_lt kC_at40) hox2)
  have c3 : gi w0 40 (2 * a1.toInt + 0).toNat = x2 := (congrArg (gi w0 40) (congrArg Int.toNat (show 2 * a1.toInt + 0 = x1.toInt by first | exact Int.le_antisymm (by omega) (by omega) | omega))).trans c3
  refine lv_iload_n hx hb dX7_sideOf_8 rfl (lv_at hl 2 rfl) ?_
  refine lv_icmp_ne (tgt := 14) hx hb dX7_sideOf_9 (by decide) (fun c4 => ?_) (fun c4 => ?_)
  · have c4 : ¬ x2.toInt = a2.toInt := wk_eqF c4
    replace hM := hM.pos c4
    refine lv_aload_n hx hb dX7_sideOf_14 rfl (lv_at hl 0 rfl) ?_
    refine tk_getO hC hK hw hT hinX7 kC_at39 (by decide) rfl 0 (by decide) (List.mem_cons_of_mem _ uw_2_17) rfl rfl dX7_sideOf_15 ?_
    refine lv_iconst (v := 2) hx hb dX7_sideOf_18 (by decide) ?_
    refine lv_iload_n hx hb dX7_sideOf_19 rfl (lv_at hl 1 rfl) ?_
    refine lv_imul hx hb dX7_sideOf_20 ?_
    refine lv_topi (fun x5 ex5 => ?_)
    have ezx5 := ex5
    have ex5 : x5.toInt = (2 : Int) * a1.toInt := by rw [ex5]; exact wk_mul (show (-2147483648) ≤ (2 : Int) * a1.toInt by omega) (show (2 : Int) * a1.toInt ≤ 2147483647 by omega)
    replace hM := hM.lt ex5.symm
    refine lv_iconst (v := 1) hx hb dX7_sideOf_21 (by decide) ?_
    refine lv_iadd hx hb dX7_sideOf_22 ?_
    refine lv_topi (fun x6 ex6 => ?_)
    have ezx6 := ex6
    have ex6 : x6.toInt = x5.toInt + (1 : Int) := by rw [ex6]; exact wk_add (show (-2147483648) ≤ x5.toInt + (1 : Int) by omega) (show x5.toInt + (1 : Int) ≤ 2147483647 by omega)
    replace hM := hM.lt ex6.symm
    refine tk_iald hC hK hw hT kC_at40 rfl rfl (show 0 ≤ x6.toInt by first | with_reducible assumption | omega) (show x6.toInt < 26 by first | with_reducible assumption | omega) dX7_sideOf_23 (fun x7 c8 rx7 tx7 => ?_)
    have hox7 := c8
    replace hM := hM.rd (sL_at (kC_lt kC_at40) hox7)
    have c8 : gi w0 40 (2 * a1.toInt + 1).toNat = x7 := (congrArg (gi w0 40) (congrArg Int.toNat (show 2 * a1.toInt + 1 = x6.toInt by first | exact Int.le_antisymm (by omega) (by omega) | omega))).trans c8
    refine lv_iload_n hx hb dX7_sideOf_24 rfl (lv_at hl 2 rfl) ?_
    refine lv_icmp_ne (tgt := 32) hx hb dX7_sideOf_25 (by decide) (fun c9 => ?_) (fun c9 => ?_)
    · have c9 : ¬ x7.toInt = a2.toInt := wk_eqF c9
      replace hM := hM.pos c9
      refine lv_iconst (v := (-1)) hx hb dX7_sideOf_32 (by decide) ?_
      exact tk_iret hC hr hlocks hK ⟨hT, hF, hM.ret (by decide), (Or.inl rfl)⟩ hw dX7_sideOf_33
    · have c9 : x7.toInt = a2.toInt := wk_eq.mp c9
      replace hM := hM.neg (fun q => q c9)
      refine lv_iconst (v := 1) hx hb dX7_sideOf_28 (by decide) ?_
      refine lv_goto (tgt := 33) hx hb dX7_sideOf_29 (by decide) ?_
      exact tk_iret hC hr hlocks hK ⟨hT, hF, hM.ret (by decide), (Or.inr (Or.inr ⟨rfl, (c8.trans (wk_eq.mpr (show x7.toInt = a2.toInt by first | exact Int.le_antisymm (by omega) (by omega) | omega)))⟩))⟩ hw dX7_sideOf_33
  · have c4 : x2.toInt = a2.toInt := wk_eq.mp c4
    replace hM := hM.neg (fun q => q c4)
    refine lv_iconst (v := 0) hx hb dX7_sideOf_12 (by decide) ?_
    exact tk_iret hC hr hlocks hK ⟨hT, hF, hM.ret (by decide), (Or.inr (Or.inl ⟨rfl, (c3.trans (wk_eq.mpr (show x2.toInt = a2.toInt by first | exact Int.le_antisymm (by omega) (by omega) | omega)))⟩))⟩ hw dX7_sideOf_13
abbrev Py_X7_openHours_1 (ad : Nat → Nat) (cy : Nat → ClassId) (B : Int) (qr : Nat) (s1 : Int) (a1 : Int32) (a3 : Int64) (w0 : va_W) : Int32 → va_W → Prop := fun r u => TW ksC ad cy B qr s1 u ∧ FE ksC ([] : List (Nat × Nat × Nat)) w0 u ∧ Ev (fun n => m_X7_openHours n 39 a1.toInt 0 a3.toInt 0 (sL w0)) (r.toInt, sL u) ∧ ((0 ≤ r.toInt ∧ r.toInt ≤ 16777215))
set_option maxHeartbeats 4000000 in
set_option maxRecDepth 100000 in
theorem ky_X7_openHours_1 (l : Launch) (adK adV : Nat → Nat) (dC : Nat → ClassId) (dI : Nat → Nat → Nat) (cy : Nat → ClassId) (ad : Nat → Nat) (B : Int) (hB0 : 2147483648 ≤ B) (hB1 : B ≤ 1152921504606846976) (qr : Nat) (s1 : Int)  (a1 : Int32) (ra1 : 0 ≤ a1.toInt) (ta1 : a1.toInt ≤ 11) (a3 : Int64) (ra3 : 0 ≤ a3.toInt) (ta3 : a3.toInt ≤ 96076792050570581) (w0 : va_W) (sz : Nat) (hT : TW ksC ad cy B qr s1 w0)  : Met l yX7_openHours (wu yX7_openHours cX7_openHours 8 (some .int)) ({ frames := 1, cells := 0, slots := 0, locals := 12 }) (va_Pc [.ref (ad 39), .int a1, .int 0, .long a3, .int 0] (wpreS adK adV dC dI cy sz w0)) (va_Qi (Py_X7_openHours_1 ad cy B qr s1 a1 a3 w0) (fun u : va_W => wpost dC dI cy (va_A w0 sz) u) (va_A w0 sz)) 0 0 (va_A w0 sz) := by
  refine Met.ofW (cc := cX7_openHours) (maxL := 8) (ret := (some .int)) (by decide) rfl ?_
  intro p e s m args below meth c s₁ Bk hml hv
  obtain ⟨rfl, ⟨hsz, hP, hK, hD0⟩, hE, hSR⟩ := hv
  have hx := Bk.exec
  have hb := Bk.bytes
  have hr := Bk.returns
  have hlocks := Bk.notSynchronized
  have hC : CallFix p m c cX7_openHours 8 s _ (wu yX7_openHours cX7_openHours 8 (some .int)) RX7 := ⟨hx, hb, hml, findClass_of_methodNamed Bk.named, atoms_spec (ws := (wu yX7_openHours cX7_openHours 8 (some .int))) Bk.pre⟩
  subst hsz
  have hD := hD0.self (sz := s.heap.size)
  generalize hAe : va_A w0 s.heap.size = A at hD hE ⊢
  have hA : ∀ q : Nat, s.heap.size ≤ q → A q := fun q h => by rw [← hAe]; exact Or.inr h
  have hw : Wd dC dI A s.heap s.heap [] w0 := ⟨hP, hD, va_S.rf⟩
  have hF : FE ksC ([] : List (Nat × Nat × Nat)) w0 w0 := FE.rf
  have hl := lv_entry ([.ref (ad 39), .int a1, .int 0, .long a3, .int 0]) (n := 8) (Nat.le_of_ble_eq_true rfl)
  rw [lg_entry_eq]
  generalize (lg_sl ([.ref (ad 39), .int a1, .int 0, .long a3, .int 0]) ++ List.replicate (8 - (lg_sl ([.ref (ad 39), .int a1, .int 0, .long a3, .int 0])).length) Slot.unset).toArray = ls at hl ⊢
  have hl : lv_has ls 8 [(0, .ref (ad 39)), (1, .int a1), (2, .int 0), (3, .long a3), (5, .int 0)] := hl
  generalize hloc : ([] : List Loc) = locs at hw ⊢
  have hinX7 : ∀ w ∈ u_ws RX7 TX7 12, w ∈ (wu yX7_openHours cX7_openHours 8 (some .int)) := fun _ h => List.mem_cons_of_mem _ (up_73 h)
  have J93 : ∀ (H : Heap) (locs : List Loc) (ls : Array Slot) (w1 : va_W), 0 ≤ a1.toInt → a1.toInt ≤ 11 → 0 ≤ a3.toInt → a3.toInt ≤ 96076792050570581 → Wd dC dI A s.heap H locs w1 → TW ksC ad cy B qr s1 w1 → FE ksC ([] : List (Nat × Nat × Nat)) w0 w1 → TT (fun n => m_X7_openHours n 39 a1.toInt 0 a3.toInt 0 (sL w0)) (fun n => b_X7_openHours_93 (j_X7_openHours 39 n) n 39 (a1.toInt) (sL w1)) → lv_has ls 8 [(0, .ref (ad 39)), (1, .int a1), (2, .int 0), (3, .long a3), (5, .int 0), (6, .int 0), (7, .int 0)] → W p l e ({ frames := 1, cells := 0, slots := 0, locals := 12 }) s m (List.toArray [.ref (ad 39), .int a1, .int 0, .long a3, .int 0]) below meth c H locs 0 0 (MQ below (va_Qi (Py_X7_openHours_1 ad cy B qr s1 a1 a3 w0) (fun u : va_W => wpost dC dI cy A u) A) (List.toArray [.ref (ad 39), .int a1, .int 0, .long a3, .int 0]) s 0 0 A) (F0 m 93 ls []) := by
    intro H locs ls w1 r2 t3 r4 t5 hw hT hF hM hl
    refine lv_ldc (v := 16777215) hx hb hC.2.2.2.1 (hC.2.2.2.2 _ (List.mem_cons_of_mem _ uw_31_17)) dX7_openHours_93 ?_
    refine lv_aload_n hx hb dX7_openHours_95 rfl (lv_at hl 0 rfl) ?_
    refine tk_getO hC hK hw hT hinX7 kC_at39 (by decide) rfl 3 (by decide) (List.mem_cons_of_mem _ uw_2_20) rfl rfl dX7_openHours_96 ?_
    refine lv_iload_n hx hb dX7_openHours_99 rfl (lv_at hl 1 rfl) ?_
    refine tk_iald hC hK hw hT kC_at43 rfl rfl (show 0 ≤ a1.toInt from r2) (show a1.toInt < 13 from Int.lt_of_le_of_lt t3 (by decide)) dX7_openHours_100 (fun x6 c7 rx6 tx6 => ?_)
    have hox6 := c7
    replace hM := hM.rd (sL_at (kC_lt kC_at43) hox6)
    refine lv_iconst (v := (-1)) hx hb dX7_openHours_101 (by decide) ?_
    refine lv_ixor hx hb dX7_openHours_102 ?_
    refine lv_topi (fun x8 ex8 => ?_)
    have ezx8 := ex8
    replace hM := hM.lt (o32_e (f := fun x y => x ^^^ y) ezx8 rfl (by decide))
    refine lv_iand hx hb dX7_openHours_103 ?_
    refine lv_topi (fun x9 ex9 => ?_)
    have ezx9 := ex9
    have bx9 : 0 ≤ x9.toInt ∧ x9.toInt ≤ (16777215 : Int) := by rw [ex9]; exact wk_andC (by decide)
    replace hM := hM.lt (o32_e (f := fun x y => x &&& y) ezx9 (by decide) rfl)
    exact tk_iret hC hr hlocks hK ⟨hT, hF, hM.ret rfl, ⟨(show 0 ≤ x9.toInt by first | with_reducible assumption | omega), (show x9.toInt ≤ 16777215 by first | with_reducible assumption | omega)⟩⟩ hw dX7_openHours_104
  have L44 : ∀ (H : Heap) (locs : List Loc) (ls : Array Slot) (w10 : va_W), 0 ≤ a1.toInt → a1.toInt ≤ 11 → 0 ≤ a3.toInt → a3.toInt ≤ 96076792050570581 → Wd dC dI A s.heap H locs w10 → TW ksC ad cy B qr s1 w10 → FE ksC ([] : List (Nat × Nat × Nat)) w0 w10 → TT (fun n => m_X7_openHours n 39 a1.toInt 0 a3.toInt 0 (sL w0)) (fun n => j_X7_openHours 39 n 44 [a1.toInt, a3.toInt, (0 : Int), (0 : Int)] (sL w10)) → lv_has ls 8 [(0, .ref (ad 39)), (1, .int a1), (2, .int 0), (3, .long a3), (5, .int 0), (6, .int 0), (7, .int 0)] → W p l e ({ frames := 1, cells := 0, slots := 0, locals := 12 }) s m (List.toArray [.ref (ad 39), .int a1, .int 0, .long a3, .int 0]) below meth c H locs 0 0 (MQ below (va_Qi (Py_X7_openHours_1 ad cy B qr s1 a1 a3 w0) (fun u : va_W => wpost dC dI cy A u) A) (List.toArray [.ref (ad 39), .int a1, .int 0, .long a3, .int 0]) s 0 0 A) (F0 m 44 ls []) := by
    intro H locs ls w10 r11 t12 r13 t14 hw hT hF hM hl
    replace hM := hM.suc (fun _ => e_X7_openHours_44)
    refine lv_iload hx hb dX7_openHours_44 (lv_at hl 5 rfl) ?_
    refine lv_if_eq (tgt := 93) hx hb dX7_openHours_46 (by decide) (fun _ => ?_) (fun c => absurd (by decide) c)
    replace hM := hM.pos (by decide)
    exact J93  H locs ls w10 (show 0 ≤ a1.toInt from r11) (show a1.toInt ≤ 11 from t12) (show 0 ≤ a3.toInt from r13) (show a3.toInt ≤ 96076792050570581 from t14)  hw hT hF hM (lv_sub hl [0, 1, 2, 3, 4, 5, 6] rfl)
  have hM : TT (fun n => m_X7_openHours n 39 a1.toInt 0 a3.toInt 0 (sL w0)) (fun n => m_X7_openHours n 39 a1.toInt 0 a3.toInt 0 (sL w0)) := TT.rf
  refine lv_aload_n hx hb dX7_openHours_0 rfl (lv_at hl 0 rfl) ?_
  refine tk_getO hC hK hw hT hinX7 kC_at39 (by decide) rfl 4 (by decide) (List.mem_cons_of_mem _ uw_2_21) rfl rfl dX7_openHours_1 ?_
  refine lv_iconst (v := 2) hx hb dX7_openHours_4 (by decide) ?_
  refine lv_iload_n hx hb dX7_openHours_5 rfl (lv_at hl 1 rfl) ?_
  refine lv_imul hx hb dX7_openHours_6 ?_
  refine lv_topi (fun x15 ex15 => ?_)
  have ezx15 := ex15
  have ex15 : x15.toInt = (2 : Int) * a1.toInt := by rw [ex15]; exact wk_mul (show (-2147483648) ≤ (2 : Int) * a1.toInt by omega) (show (2 : Int) * a1.toInt ≤ 2147483647 by omega)
  replace hM := hM.lt ex15.symm
  refine lv_iload_n hx hb dX7_openHours_7 rfl (lv_at hl 2 rfl) ?_
  refine lv_iadd hx hb dX7_openHours_8 ?_
  refine lv_topi (fun x16 ex16 => ?_)
  have ezx16 := ex16
  have ex16 : x16.toInt = x15.toInt + (0 : Int) := by rw [ex16]; exact wk_add (show (-2147483648) ≤ x15.toInt + (0 : Int) by omega) (show x15.toInt + (0 : Int) ≤ 2147483647 by omega)
  replace hM := hM.lt ex16.symm
  refine tk_iald hC hK hw hT kC_at44 rfl rfl (show 0 ≤ x16.toInt by first | with_reducible assumption | omega) (show x16.toInt < 26 by first | with_reducible assumption | omega) dX7_openHours_9 (fun x17 c18 rx17 tx17 => ?_)
  have hox17 := c18
  replace hM := hM.rd (sL_at (kC_lt kC_at44) hox17)
  refine lv_lload_n hx hb dX7_openHours_10 rfl (lv_at hl 3 rfl) ?_
  refine lv_ldc2 (v := 7) hx hb hC.2.2.2.1 (hC.2.2.2.2 _ (List.mem_cons_of_mem _ uw_31_15)) dX7_openHours_11 ?_
  refine lv_lrem hx hb dX7_openHours_14 (by decide) ?_
  refine lv_topl (fun x19 ex19 => ?_)
  have ezx19 := ex19
  have ex19 : x19.toInt = a3.toInt % (7 : Int) := by rw [ex19]; exact wk_reml (show 0 ≤ a3.toInt from ra3) (show 0 < (7 : Int) by decide)
  replace hM := hM.lt ex19.symm
  refine lv_l2i hx hb dX7_openHours_15 rfl ?_
  refine lv_topi (fun x20 ex20 => ?_)
  have ex20 : x20.toInt = x19.toInt := by rw [ex20]; exact wk_l2i (by omega) (by omega)
  replace hM := hM.lt ex20.symm
  refine lv_ishr hx hb dX7_openHours_16 ?_
  refine lv_topi (fun x21 ex21 => ?_)
  have ezx21 := ex21
  replace hM := hM.lt (o32_e (f := fun x y => x >>> (y &&& 31)) ezx21 rfl rfl)
  refine lv_iconst (v := 1) hx hb dX7_openHours_17 (by decide) ?_
  refine lv_iand hx hb dX7_openHours_18 ?_
  refine lv_topi (fun x22 ex22 => ?_)
  have ezx22 := ex22
  have bx22 : 0 ≤ x22.toInt ∧ x22.toInt ≤ (1 : Int) := by rw [ex22]; exact wk_and (by decide)
  replace hM := hM.lt (o32_e (f := fun x y => x &&& y) ezx22 rfl (by decide))
  refine lv_if_ne (tgt := 24) hx hb dX7_openHours_19 (by decide) (fun c23 => ?_) (fun c23 => ?_)
  · have c23 : ¬ x22.toInt = (0 : Int) := wk_eqF c23
    replace hM := hM.pos c23
    refine lv_iload hx hb dX7_openHours_24 (lv_at hl 4 rfl) ?_
    refine lv_if_eq (tgt := 38) hx hb dX7_openHours_26 (by decide) (fun _ => ?_) (fun c => absurd (by decide) c)
    replace hM := hM.pos (by decide)
    refine lv_iconst (v := 0) hx hb dX7_openHours_38 (by decide) ?_
    refine lv_istore (lv' := [(6, .int 0), (0, .ref (ad 39)), (1, .int a1), (2, .int 0), (3, .long a3), (5, .int 0)]) hx hb dX7_openHours_39 hl (by decide) rfl (fun ls hl => ?_)
    refine lv_iconst (v := 0) hx hb dX7_openHours_41 (by decide) ?_
    refine lv_istore (lv' := [(7, .int 0), (6, .int 0), (0, .ref (ad 39)), (1, .int a1), (2, .int 0), (3, .long a3), (5, .int 0)]) hx hb dX7_openHours_42 hl (by decide) rfl (fun ls hl => ?_)
    exact L44  s.heap locs ls w0 (show 0 ≤ a1.toInt from ra1) (show a1.toInt ≤ 11 from ta1) (show 0 ≤ a3.toInt from ra3) (show a3.toInt ≤ 96076792050570581 from ta3)  hw hT hF hM (lv_sub hl [2, 3, 4, 5, 6, 1, 0] rfl)
  · have c23 : x22.toInt = (0 : Int) := wk_eq.mp c23
    replace hM := hM.neg (fun q => q c23)
    refine lv_iconst (v := 0) hx hb dX7_openHours_22 (by decide) ?_
    exact tk_iret hC hr hlocks hK ⟨hT, hF, hM.ret (by decide), ⟨(by decide), (by decide)⟩⟩ hw dX7_openHours_23
abbrev Py_X7_isOpen_1 (ad : Nat → Nat) (cy : Nat → ClassId) (B : Int) (qr : Nat) (s1 : Int) (a1 : Int32) (a3 : Int64) (w0 : va_W) : Int32 → va_W → Prop := fun r u => TW ksC ad cy B qr s1 u ∧ FE ksC ([] : List (Nat × Nat × Nat)) w0 u ∧ Ev (fun n => m_X7_isOpen n 39 a1.toInt 0 a3.toInt 0 (sL w0)) (r.toInt, sL u) ∧ ((r = 0) ∨ (r = 1))
set_option maxHeartbeats 4000000 in
set_option maxRecDepth 100000 in
theorem ky_X7_isOpen_1 (l : Launch) (adK adV : Nat → Nat) (dC : Nat → ClassId) (dI : Nat → Nat → Nat) (cy : Nat → ClassId) (ad : Nat → Nat) (B : Int) (hB0 : 2147483648 ≤ B) (hB1 : B ≤ 1152921504606846976) (qr : Nat) (s1 : Int)  (a1 : Int32) (ra1 : 0 ≤ a1.toInt) (ta1 : a1.toInt ≤ 11) (a3 : Int64) (ra3 : 0 ≤ a3.toInt) (ta3 : a3.toInt ≤ 2305843009213693952) (w0 : va_W) (sz : Nat) (hT : TW ksC ad cy B qr s1 w0)  : Met l yX7_isOpen (wu yX7_isOpen cX7_isOpen 7 (some .boolean)) ({ frames := 2, cells := 0, slots := 0, locals := 39 }) (va_Pc [.ref (ad 39), .int a1, .int 0, .long a3, .int 0] (wpreS adK adV dC dI cy sz w0)) (va_Qi (Py_X7_isOpen_1 ad cy B qr s1 a1 a3 w0) (fun u : va_W => wpost dC dI cy (va_A w0 sz) u) (va_A w0 sz)) 0 0 (va_A w0 sz) := by
  refine Met.ofW (cc := cX7_isOpen) (maxL := 7) (ret := (some .boolean)) (by decide) rfl ?_
  intro p e s m args below meth c s₁ Bk hml hv
  obtain ⟨rfl, ⟨hsz, hP, hK, hD0⟩, hE, hSR⟩ := hv
  have hx := Bk.exec
  have hb := Bk.bytes
  have hr := Bk.returns
  have hlocks := Bk.notSynchronized
  have hC : CallFix p m c cX7_isOpen 7 s _ (wu yX7_isOpen cX7_isOpen 7 (some .boolean)) RX7 := ⟨hx, hb, hml, findClass_of_methodNamed Bk.named, atoms_spec (ws := (wu yX7_isOpen cX7_isOpen 7 (some .boolean))) Bk.pre⟩
  subst hsz
  have hD := hD0.self (sz := s.heap.size)
  generalize hAe : va_A w0 s.heap.size = A at hD hE ⊢
  have hA : ∀ q : Nat, s.heap.size ≤ q → A q := fun q h => by rw [← hAe]; exact Or.inr h
  have hw : Wd dC dI A s.heap s.heap [] w0 := ⟨hP, hD, va_S.rf⟩
  have hF : FE ksC ([] : List (Nat × Nat × Nat)) w0 w0 := FE.rf
  have hl := lv_entry ([.ref (ad 39), .int a1, .int 0, .long a3, .int 0]) (n := 7) (Nat.le_of_ble_eq_true rfl)
  rw [lg_entry_eq]
  generalize (lg_sl ([.ref (ad 39), .int a1, .int 0, .long a3, .int 0]) ++ List.replicate (7 - (lg_sl ([.ref (ad 39), .int a1, .int 0, .long a3, .int 0])).length) Slot.unset).toArray = ls at hl ⊢
  have hl : lv_has ls 7 [(0, .ref (ad 39)), (1, .int a1), (2, .int 0), (3, .long a3), (5, .int 0)] := hl
  generalize hloc : ([] : List Loc) = locs at hw ⊢
  have hM : TT (fun n => m_X7_isOpen n 39 a1.toInt 0 a3.toInt 0 (sL w0)) (fun n => m_X7_isOpen n 39 a1.toInt 0 a3.toInt 0 (sL w0)) := TT.rf
  refine lv_aload_n hx hb dX7_isOpen_0 rfl (lv_at hl 0 rfl) ?_
  refine lv_iload_n hx hb dX7_isOpen_1 rfl (lv_at hl 1 rfl) ?_
  refine lv_iload_n hx hb dX7_isOpen_2 rfl (lv_at hl 2 rfl) ?_
  refine lv_lload_n hx hb dX7_isOpen_3 rfl (lv_at hl 3 rfl) ?_
  refine lv_ldc2 (v := 24) hx hb hC.2.2.2.1 (hC.2.2.2.2 _ (List.mem_cons_of_mem _ uw_31_10)) dX7_isOpen_4 ?_
  refine lv_ldiv hx hb dX7_isOpen_7 (by decide) ?_
  refine lv_topl (fun x1 ex1 => ?_)
  have ezx1 := ex1
  have ex1 : x1.toInt = a3.toInt / (24 : Int) := by rw [ex1]; exact wk_divl (show 0 ≤ a3.toInt from ra3) (show 0 < (24 : Int) by decide)
  replace hM := hM.lt ex1.symm
  refine lv_iload hx hb dX7_isOpen_8 (lv_at hl 4 rfl) ?_
  refine tk_Vi hC hK hw hT hA hE hSR kC_at39 (by decide) rfl (ky_X7_openHours_1 l adK adV dC dI cy ad B hB0 (Int.le_trans hB1 (by decide)) qr s1   a1 (show 0 ≤ a1.toInt from ra1) (show a1.toInt ≤ 11 from ta1) x1 (show 0 ≤ x1.toInt by first | with_reducible assumption | omega) (show x1.toInt ≤ 96076792050570581 by first | with_reducible assumption | omega) w0 s.heap.size hT ) (cwV 4 hC.2.2.2.2 uV_RX7_148 rfl rfl rfl (by decide +kernel) ⟨Nat.le_of_ble_eq_true rfl, Nat.le_of_ble_eq_true rfl⟩) rfl hl.1 rfl (Nat.le_of_ble_eq_true rfl) dX7_isOpen_10 (fun r2 w4 H locs hp3 hw => ?_)
  obtain ⟨hT, k5, hv9, hg8⟩ := hp3
  have hF := hF.tr k5 (by decide)
  obtain ⟨g6, g7⟩ := hg8
  replace hM := hM.call hv9 rfl
  refine lv_istore (lv' := [(6, .int r2), (0, .ref (ad 39)), (1, .int a1), (2, .int 0), (3, .long a3), (5, .int 0)]) hx hb dX7_isOpen_13 hl (by decide) rfl (fun ls hl => ?_)
  refine lv_iload hx hb dX7_isOpen_15 (lv_at hl 0 rfl) ?_
  refine lv_lload_n hx hb dX7_isOpen_17 rfl (lv_at hl 4 rfl) ?_
  refine lv_ldc2 (v := 24) hx hb hC.2.2.2.1 (hC.2.2.2.2 _ (List.mem_cons_of_mem _ uw_31_10)) dX7_isOpen_18 ?_
  refine lv_lrem hx hb dX7_isOpen_21 (by decide) ?_
  refine lv_topl (fun x10 ex10 => ?_)
  have ezx10 := ex10
  have ex10 : x10.toInt = a3.toInt % (24 : Int) := by rw [ex10]; exact wk_reml (show 0 ≤ a3.toInt from ra3) (show 0 < (24 : Int) by decide)
  replace hM := hM.lt ex10.symm
  refine lv_l2i hx hb dX7_isOpen_22 rfl ?_
  refine lv_topi (fun x11 ex11 => ?_)
  have ex11 : x11.toInt = x10.toInt := by rw [ex11]; exact wk_l2i (by omega) (by omega)
  replace hM := hM.lt ex11.symm
  refine lv_ishr hx hb dX7_isOpen_23 ?_
  refine lv_topi (fun x12 ex12 => ?_)
  have ezx12 := ex12
  have bx12 : 0 ≤ x12.toInt ∧ x12.toInt ≤ r2.toInt := by rw [ex12]; exact wk_shr (by omega)
  replace hM := hM.lt (o32_e (f := fun x y => x >>> (y &&& 31)) ezx12 rfl rfl)
  refine lv_iconst (v := 1) hx hb dX7_isOpen_24 (by decide) ?_
  refine lv_iand hx hb dX7_isOpen_25 ?_
  refine lv_topi (fun x13 ex13 => ?_)
  have ezx13 := ex13
  have bx13 : 0 ≤ x13.toInt ∧ x13.toInt ≤ (1 : Int) := by rw [ex13]; exact wk_and (by decide)
  replace hM := hM.lt (o32_e (f := fun x y => x &&& y) ezx13 rfl (by decide))
  refine lv_if_eq (tgt := 33) hx hb dX7_isOpen_26 (by decide) (fun c14 => ?_) (fun c14 => ?_)
  · have c14 : x13.toInt = (0 : Int) := wk_eq.mp c14
    replace hM := hM.pos c14
    refine lv_iconst (v := 0) hx hb dX7_isOpen_33 (by decide) ?_
    exact tk_zret hC hr rfl hlocks hK ⟨hT, hF, hM.ret (by decide), (Or.inl rfl)⟩ hw dX7_isOpen_34
  · have c14 : ¬ x13.toInt = (0 : Int) := wk_eqF c14
    replace hM := hM.neg c14
    refine lv_iconst (v := 1) hx hb dX7_isOpen_29 (by decide) ?_
    refine lv_goto (tgt := 34) hx hb dX7_isOpen_30 (by decide) ?_
    exact tk_zret hC hr rfl hlocks hK ⟨hT, hF, hM.ret (by decide), (Or.inr rfl)⟩ hw dX7_isOpen_34
abbrev Py_X7_openHours_2 (ad : Nat → Nat) (cy : Nat → ClassId) (B : Int) (qr : Nat) (s1 : Int) (a1 : Int32) (a3 : Int64) (w0 : va_W) : Int32 → va_W → Prop := fun r u => TW ksC ad cy B qr s1 u ∧ FE ksC ([] : List (Nat × Nat × Nat)) w0 u ∧ Ev (fun n => m_X7_openHours n 39 a1.toInt 0 a3.toInt 1 (sL w0)) (r.toInt, sL u) ∧ ((0 ≤ r.toInt ∧ r.toInt ≤ 16777215))
set_option maxHeartbeats 4000000 in
set_option maxRecDepth 100000 in
theorem ky_X7_openHours_2 (l : Launch) (adK adV : Nat → Nat) (dC : Nat → ClassId) (dI : Nat → Nat → Nat) (cy : Nat → ClassId) (ad : Nat → Nat) (B : Int) (hB0 : 2147483648 ≤ B) (hB1 : B ≤ 1152921504606846976) (qr : Nat) (s1 : Int)  (a1 : Int32) (ra1 : 0 ≤ a1.toInt) (ta1 : a1.toInt ≤ 11) (a3 : Int64) (ra3 : 0 ≤ a3.toInt) (ta3 : a3.toInt ≤ 96076792050570581) (w0 : va_W) (sz : Nat) (hT : TW ksC ad cy B qr s1 w0)  : Met l yX7_openHours (wu yX7_openHours cX7_openHours 8 (some .int)) ({ frames := 1, cells := 0, slots := 0, locals := 12 }) (va_Pc [.ref (ad 39), .int a1, .int 0, .long a3, .int 1] (wpreS adK adV dC dI cy sz w0)) (va_Qi (Py_X7_openHours_2 ad cy B qr s1 a1 a3 w0) (fun u : va_W => wpost dC dI cy (va_A w0 sz) u) (va_A w0 sz)) 0 0 (va_A w0 sz) := by
  refine Met.ofW (cc := cX7_openHours) (maxL := 8) (ret := (some .int)) (by decide) rfl ?_
  intro p e s m args below meth c s₁ Bk hml hv
  obtain ⟨rfl, ⟨hsz, hP, hK, hD0⟩, hE, hSR⟩ := hv
  have hx := Bk.exec
  have hb := Bk.bytes
  have hr := Bk.returns
  have hlocks := Bk.notSynchronized
  have hC : CallFix p m c cX7_openHours 8 s _ (wu yX7_openHours cX7_openHours 8 (some .int)) RX7 := ⟨hx, hb, hml, findClass_of_methodNamed Bk.named, atoms_spec (ws := (wu yX7_openHours cX7_openHours 8 (some .int))) Bk.pre⟩
  subst hsz
  have hD := hD0.self (sz := s.heap.size)
  generalize hAe : va_A w0 s.heap.size = A at hD hE ⊢
  have hA : ∀ q : Nat, s.heap.size ≤ q → A q := fun q h => by rw [← hAe]; exact Or.inr h
  have hw : Wd dC dI A s.heap s.heap [] w0 := ⟨hP, hD, va_S.rf⟩
  have hF : FE ksC ([] : List (Nat × Nat × Nat)) w0 w0 := FE.rf
  have hl := lv_entry ([.ref (ad 39), .int a1, .int 0, .long a3, .int 1]) (n := 8) (Nat.le_of_ble_eq_true rfl)
  rw [lg_entry_eq]
  generalize (lg_sl ([.ref (ad 39), .int a1, .int 0, .long a3, .int 1]) ++ List.replicate (8 - (lg_sl ([.ref (ad 39), .int a1, .int 0, .long a3, .int 1])).length) Slot.unset).toArray = ls at hl ⊢
  have hl : lv_has ls 8 [(0, .ref (ad 39)), (1, .int a1), (2, .int 0), (3, .long a3), (5, .int 1)] := hl
  generalize hloc : ([] : List Loc) = locs at hw ⊢
  have hinX7 : ∀ w ∈ u_ws RX7 TX7 12, w ∈ (wu yX7_openHours cX7_openHours 8 (some .int)) := fun _ h => List.mem_cons_of_mem _ (up_73 h)
  have J93 : ∀ (v93_6 : Int32) (v93_7 : Int32) (H : Heap) (locs : List Loc) (ls : Array Slot) (w1 : va_W), 0 ≤ a1.toInt → a1.toInt ≤ 11 → 0 ≤ a3.toInt → a3.toInt ≤ 96076792050570581 → 0 ≤ v93_7.toInt → v93_7.toInt ≤ 8 → Wd dC dI A s.heap H locs w1 → TW ksC ad cy B qr s1 w1 → FE ksC ([] : List (Nat × Nat × Nat)) w0 w1 → TT (fun n => m_X7_openHours n 39 a1.toInt 0 a3.toInt 1 (sL w0)) (fun n => b_X7_openHours_93 (j_X7_openHours 39 n) n 39 (a1.toInt) (sL w1)) → lv_has ls 8 [(0, .ref (ad 39)), (1, .int a1), (2, .int 0), (3, .long a3), (5, .int 1), (6, .int v93_6), (7, .int v93_7)] → W p l e ({ frames := 1, cells := 0, slots := 0, locals := 12 }) s m (List.toArray [.ref (ad 39), .int a1, .int 0, .long a3, .int 1]) below meth c H locs 0 0 (MQ below (va_Qi (Py_X7_openHours_2 ad cy B qr s1 a1 a3 w0) (fun u : va_W => wpost dC dI cy A u) A) (List.toArray [.ref (ad 39), .int a1, .int 0, .long a3, .int 1]) s 0 0 A) (F0 m 93 ls []) := by
    intro v93_6 v93_7 H locs ls w1 r2 t3 r4 t5 r6 t7 hw hT hF hM hl
    refine lv_ldc (v := 16777215) hx hb hC.2.2.2.1 (hC.2.2.2.2 _ (List.mem_cons_of_mem _ uw_31_17)) dX7_openHours_93 ?_
    refine lv_aload_n hx hb dX7_openHours_95 rfl (lv_at hl 0 rfl) ?_
    refine tk_getO hC hK hw hT hinX7 kC_at39 (by decide) rfl 3 (by decide) (List.mem_cons_of_mem _ uw_2_20) rfl rfl dX7_openHours_96 ?_
    refine lv_iload_n hx hb dX7_openHours_99 rfl (lv_at hl 1 rfl) ?_
    refine tk_iald hC hK hw hT kC_at43 rfl rfl (show 0 ≤ a1.toInt from r2) (show a1.toInt < 13 from Int.lt_of_le_of_lt t3 (by decide)) dX7_openHours_100 (fun x8 c9 rx8 tx8 => ?_)
    have hox8 := c9
    replace hM := hM.rd (sL_at (kC_lt kC_at43) hox8)
    refine lv_iconst (v := (-1)) hx hb dX7_openHours_101 (by decide) ?_
    refine lv_ixor hx hb dX7_openHours_102 ?_
    refine lv_topi (fun x10 ex10 => ?_)
    have ezx10 := ex10
    replace hM := hM.lt (o32_e (f := fun x y => x ^^^ y) ezx10 rfl (by decide))
    refine lv_iand hx hb dX7_openHours_103 ?_
    refine lv_topi (fun x11 ex11 => ?_)
    have ezx11 := ex11
    have bx11 : 0 ≤ x11.toInt ∧ x11.toInt ≤ (16777215 : Int) := by rw [ex11]; exact wk_andC (by decide)
    replace hM := hM.lt (o32_e (f := fun x y => x &&& y) ezx11 (by decide) rfl)
    exact tk_iret hC hr hlocks hK ⟨hT, hF, hM.ret rfl, ⟨(show 0 ≤ x11.toInt by first | with_reducible assumption | omega), (show x11.toInt ≤ 16777215 by first | with_reducible assumption | omega)⟩⟩ hw dX7_openHours_104
  have L44 : ∀ (n44 : Nat) (v44_6 : Int32) (v44_7 : Int32) (H : Heap) (locs : List Loc) (ls : Array Slot) (w12 : va_W), 0 ≤ a1.toInt → a1.toInt ≤ 11 → 0 ≤ a3.toInt → a3.toInt ≤ 96076792050570581 → 0 ≤ v44_7.toInt → v44_7.toInt ≤ 8 → (8 - v44_7.toInt).toNat < n44 → Wd dC dI A s.heap H locs w12 → TW ksC ad cy B qr s1 w12 → FE ksC ([] : List (Nat × Nat × Nat)) w0 w12 → TT (fun n => m_X7_openHours n 39 a1.toInt 0 a3.toInt 1 (sL w0)) (fun n => j_X7_openHours 39 n 44 [a1.toInt, a3.toInt, v44_6.toInt, v44_7.toInt] (sL w12)) → lv_has ls 8 [(0, .ref (ad 39)), (1, .int a1), (2, .int 0), (3, .long a3), (5, .int 1), (6, .int v44_6), (7, .int v44_7)] → W p l e ({ frames := 1, cells := 0, slots := 0, locals := 12 }) s m (List.toArray [.ref (ad 39), .int a1, .int 0, .long a3, .int 1]) below meth c H locs 0 0 (MQ below (va_Qi (Py_X7_openHours_2 ad cy B qr s1 a1 a3 w0) (fun u : va_W => wpost dC dI cy A u) A) (List.toArray [.ref (ad 39), .int a1, .int 0, .long a3, .int 1]) s 0 0 A) (F0 m 44 ls []) := by
    intro n44
    induction n44 with
    | zero => intro v44_6 v44_7 H locs ls w12 r13 t14 r15 t16 r17 t18 hm44 hw hT hF hM hl; omega
    | succ n44 ih44 =>
      intro v44_6 v44_7 H locs ls w12 r13 t14 r15 t16 r17 t18 hm44 hw hT hF hM hl
      have J81 : ∀ (H : Heap) (locs : List Loc) (ls : Array Slot) (w19 : va_W), 0 ≤ a1.toInt → a1.toInt ≤ 11 → 0 ≤ a3.toInt → a3.toInt ≤ 96076792050570581 → 0 ≤ v44_7.toInt → v44_7.toInt ≤ 7 → Wd dC dI A s.heap H locs w19 → TW ksC ad cy B qr s1 w19 → FE ksC ([] : List (Nat × Nat × Nat)) w0 w19 → TT (fun n => m_X7_openHours n 39 a1.toInt 0 a3.toInt 1 (sL w0)) (fun n => b_X7_openHours_81 (j_X7_openHours 39 n) n 39 (a1.toInt) (a3.toInt) (v44_6.toInt) (v44_7.toInt) (sL w19)) → lv_has ls 8 [(0, .ref (ad 39)), (1, .int a1), (2, .int 0), (3, .long a3), (5, .int 1), (6, .int v44_6), (7, .int v44_7)] → W p l e ({ frames := 1, cells := 0, slots := 0, locals := 12 }) s m (List.toArray [.ref (ad 39), .int a1, .int 0, .long a3, .int 1]) below meth c H locs 0 0 (MQ below (va_Qi (Py_X7_openHours_2 ad cy B qr s1 a1 a3 w0) (fun u : va_W => wpost dC dI cy A u) A) (List.toArray [.ref (ad 39), .int a1, .int 0, .long a3, .int 1]) s 0 0 A) (F0 m 81 ls []) := by
        intro H locs ls w19 r20 t21 r22 t23 r24 t25 hw hT hF hM hl
        refine lv_iload hx hb dX7_openHours_81 (lv_at hl 5 rfl) ?_
        refine lv_iconst (v := 1) hx hb dX7_openHours_83 (by decide) ?_
        refine lv_ishr hx hb dX7_openHours_84 ?_
        refine lv_topi (fun x26 ex26 => ?_)
        have ezx26 := ex26
        replace hM := hM.lt (o32_e (f := fun x y => x >>> (y &&& 31)) ezx26 rfl (by decide))
        refine lv_istore (lv' := [(6, .int x26), (0, .ref (ad 39)), (1, .int a1), (2, .int 0), (3, .long a3), (5, .int 1), (7, .int v44_7)]) hx hb dX7_openHours_85 hl (by decide) rfl (fun ls hl => ?_)
        obtain ⟨x27, ex27⟩ : ∃ y : Int32, y = v44_7 + Int32.ofInt 1 := ⟨_, rfl⟩
        have erx27 := ex27
        refine lv_iinc (v := x27) (lv' := [(7, .int x27), (6, .int x26), (0, .ref (ad 39)), (1, .int a1), (2, .int 0), (3, .long a3), (5, .int 1)]) hx hb dX7_openHours_87 hl (k := 6) rfl ex27.symm (by decide) rfl (fun ls hl => ?_)
        have ex27 : x27.toInt = v44_7.toInt + 1 := by rw [ex27]; exact wk_add (y := 1) (show -2147483648 ≤ v44_7.toInt + 1 by omega) (show v44_7.toInt + 1 ≤ 2147483647 by omega)
        replace hM := hM.lt ex27.symm
        refine lv_goto (tgt := 44) hx hb dX7_openHours_90 (by decide) ?_
        exact ih44 x26 x27 H locs ls w19 (show 0 ≤ a1.toInt from r20) (show a1.toInt ≤ 11 from t21) (show 0 ≤ a3.toInt from r22) (show a3.toInt ≤ 96076792050570581 from t23) (show 0 ≤ x27.toInt by first | with_reducible assumption | omega) (show x27.toInt ≤ 8 by first | with_reducible assumption | omega) (show (8 - x27.toInt).toNat < n44 by first | exact tn_lt hm44 (by omega) (by omega) | omega) hw hT hF hM (lv_sub hl [2, 3, 4, 5, 6, 1, 0] rfl)
      replace hM := hM.suc (fun _ => e_X7_openHours_44)
      refine lv_iload hx hb dX7_openHours_44 (lv_at hl 5 rfl) ?_
      refine lv_if_eq (tgt := 93) hx hb dX7_openHours_46 (by decide) (fun c28 => ?_) (fun c28 => ?_)
      · have c28 : v44_6.toInt = (0 : Int) := wk_eq.mp c28
        replace hM := hM.pos c28
        exact J93 v44_6 v44_7 H locs ls w12 (show 0 ≤ a1.toInt from r13) (show a1.toInt ≤ 11 from t14) (show 0 ≤ a3.toInt from r15) (show a3.toInt ≤ 96076792050570581 from t16) (show 0 ≤ v44_7.toInt from r17) (show v44_7.toInt ≤ 8 from t18)  hw hT hF hM (lv_sub hl [0, 1, 2, 3, 4, 5, 6] rfl)
      · have c28 : ¬ v44_6.toInt = (0 : Int) := wk_eqF c28
        replace hM := hM.neg c28
        refine lv_iload hx hb dX7_openHours_49 (lv_at hl 6 rfl) ?_
        refine lv_bipush (v := 8) hx hb dX7_openHours_51 (by decide) ?_
        refine lv_icmp_ge (tgt := 93) hx hb dX7_openHours_53 (by decide) (fun c29 => ?_) (fun c29 => ?_)
        · have c29 : (8 : Int) ≤ v44_7.toInt := wk_le.mp c29
          replace hM := hM.pos c29
          exact J93 v44_6 v44_7 H locs ls w12 (show 0 ≤ a1.toInt from r13) (show a1.toInt ≤ 11 from t14) (show 0 ≤ a3.toInt from r15) (show a3.toInt ≤ 96076792050570581 from t16) (show 0 ≤ v44_7.toInt from r17) (show v44_7.toInt ≤ 8 from t18)  hw hT hF hM (lv_sub hl [0, 1, 2, 3, 4, 5, 6] rfl)
        · have c29 : v44_7.toInt < (8 : Int) := wk_leF c29
          replace hM := hM.neg (Int.not_le.mpr c29)
          refine lv_iload hx hb dX7_openHours_56 (lv_at hl 5 rfl) ?_
          refine lv_iconst (v := 1) hx hb dX7_openHours_58 (by decide) ?_
          refine lv_iand hx hb dX7_openHours_59 ?_
          refine lv_topi (fun x30 ex30 => ?_)
          have ezx30 := ex30
          have bx30 : 0 ≤ x30.toInt ∧ x30.toInt ≤ (1 : Int) := by rw [ex30]; exact wk_and (by decide)
          replace hM := hM.lt (o32_e (f := fun x y => x &&& y) ezx30 rfl (by decide))
          refine lv_if_eq (tgt := 81) hx hb dX7_openHours_60 (by decide) (fun c31 => ?_) (fun c31 => ?_)
          · have c31 : x30.toInt = (0 : Int) := wk_eq.mp c31
            replace hM := hM.pos c31
            exact J81  H locs ls w12 (show 0 ≤ a1.toInt from r13) (show a1.toInt ≤ 11 from t14) (show 0 ≤ a3.toInt from r15) (show a3.toInt ≤ 96076792050570581 from t16) (show 0 ≤ v44_7.toInt from r17) (show v44_7.toInt ≤ 7 by first | with_reducible assumption | omega)  hw hT hF hM (lv_sub hl [0, 1, 2, 3, 4, 5, 6] rfl)
          · have c31 : ¬ x30.toInt = (0 : Int) := wk_eqF c31
            replace hM := hM.neg c31
            refine lv_aload_n hx hb dX7_openHours_63 rfl (lv_at hl 0 rfl) ?_
            refine tk_getO hC hK hw hT hinX7 kC_at39 (by decide) rfl 6 (by decide) (List.mem_cons_of_mem _ uw_2_23) rfl rfl dX7_openHours_64 ?_
            refine lv_iload hx hb dX7_openHours_67 (lv_at hl 6 rfl) ?_
            refine tk_iald hC hK hw hT kC_at46 rfl rfl (show 0 ≤ v44_7.toInt from r17) (show v44_7.toInt < 8 by first | with_reducible assumption | omega) dX7_openHours_69 (fun x32 c33 rx32 tx32 => ?_)
            have hox32 := c33
            replace hM := hM.rd (sL_at (kC_lt kC_at46) hox32)
            refine lv_lload_n hx hb dX7_openHours_70 rfl (lv_at hl 3 rfl) ?_
            refine lv_ldc2 (v := 360) hx hb hC.2.2.2.1 (hC.2.2.2.2 _ (List.mem_cons_of_mem _ uw_31_16)) dX7_openHours_71 ?_
            refine lv_lrem hx hb dX7_openHours_74 (by decide) ?_
            refine lv_topl (fun x34 ex34 => ?_)
            have ezx34 := ex34
            have ex34 : x34.toInt = a3.toInt % (360 : Int) := by rw [ex34]; exact wk_reml (show 0 ≤ a3.toInt from r15) (show 0 < (360 : Int) by decide)
            replace hM := hM.lt ex34.symm
            refine lv_l2i hx hb dX7_openHours_75 rfl ?_
            refine lv_topi (fun x35 ex35 => ?_)
            have ex35 : x35.toInt = x34.toInt := by rw [ex35]; exact wk_l2i (by omega) (by omega)
            replace hM := hM.lt ex35.symm
            refine lv_icmp_ne (tgt := 81) hx hb dX7_openHours_76 (by decide) (fun c36 => ?_) (fun c36 => ?_)
            · have c36 : ¬ x32.toInt = x35.toInt := wk_eqF c36
              replace hM := hM.pos c36
              exact J81  H locs ls w12 (show 0 ≤ a1.toInt from r13) (show a1.toInt ≤ 11 from t14) (show 0 ≤ a3.toInt from r15) (show a3.toInt ≤ 96076792050570581 from t16) (show 0 ≤ v44_7.toInt from r17) (show v44_7.toInt ≤ 7 by first | with_reducible assumption | omega)  hw hT hF hM (lv_sub hl [0, 1, 2, 3, 4, 5, 6] rfl)
            · have c36 : x32.toInt = x35.toInt := wk_eq.mp c36
              replace hM := hM.neg (fun q => q c36)
              refine lv_iconst (v := 0) hx hb dX7_openHours_79 (by decide) ?_
              exact tk_iret hC hr hlocks hK ⟨hT, hF, hM.ret (by decide), ⟨(by decide), (by decide)⟩⟩ hw dX7_openHours_80
  have hM : TT (fun n => m_X7_openHours n 39 a1.toInt 0 a3.toInt 1 (sL w0)) (fun n => m_X7_openHours n 39 a1.toInt 0 a3.toInt 1 (sL w0)) := TT.rf
  refine lv_aload_n hx hb dX7_openHours_0 rfl (lv_at hl 0 rfl) ?_
  refine tk_getO hC hK hw hT hinX7 kC_at39 (by decide) rfl 4 (by decide) (List.mem_cons_of_mem _ uw_2_21) rfl rfl dX7_openHours_1 ?_
  refine lv_iconst (v := 2) hx hb dX7_openHours_4 (by decide) ?_
  refine lv_iload_n hx hb dX7_openHours_5 rfl (lv_at hl 1 rfl) ?_
  refine lv_imul hx hb dX7_openHours_6 ?_
  refine lv_topi (fun x37 ex37 => ?_)
  have ezx37 := ex37
  have ex37 : x37.toInt = (2 : Int) * a1.toInt := by rw [ex37]; exact wk_mul (show (-2147483648) ≤ (2 : Int) * a1.toInt by omega) (show (2 : Int) * a1.toInt ≤ 2147483647 by omega)
  replace hM := hM.lt ex37.symm
  refine lv_iload_n hx hb dX7_openHours_7 rfl (lv_at hl 2 rfl) ?_
  refine lv_iadd hx hb dX7_openHours_8 ?_
  refine lv_topi (fun x38 ex38 => ?_)
  have ezx38 := ex38
  have ex38 : x38.toInt = x37.toInt + (0 : Int) := by rw [ex38]; exact wk_add (show (-2147483648) ≤ x37.toInt + (0 : Int) by omega) (show x37.toInt + (0 : Int) ≤ 2147483647 by omega)
  replace hM := hM.lt ex38.symm
  refine tk_iald hC hK hw hT kC_at44 rfl rfl (show 0 ≤ x38.toInt by first | with_reducible assumption | omega) (show x38.toInt < 26 by first | with_reducible assumption | omega) dX7_openHours_9 (fun x39 c40 rx39 tx39 => ?_)
  have hox39 := c40
  replace hM := hM.rd (sL_at (kC_lt kC_at44) hox39)
  refine lv_lload_n hx hb dX7_openHours_10 rfl (lv_at hl 3 rfl) ?_
  refine lv_ldc2 (v := 7) hx hb hC.2.2.2.1 (hC.2.2.2.2 _ (List.mem_cons_of_mem _ uw_31_15)) dX7_openHours_11 ?_
  refine lv_lrem hx hb dX7_openHours_14 (by decide) ?_
  refine lv_topl (fun x41 ex41 => ?_)
  have ezx41 := ex41
  have ex41 : x41.toInt = a3.toInt % (7 : Int) := by rw [ex41]; exact wk_reml (show 0 ≤ a3.toInt from ra3) (show 0 < (7 : Int) by decide)
  replace hM := hM.lt ex41.symm
  refine lv_l2i hx hb dX7_openHours_15 rfl ?_
  refine lv_topi (fun x42 ex42 => ?_)
  have ex42 : x42.toInt = x41.toInt := by rw [ex42]; exact wk_l2i (by omega) (by omega)
  replace hM := hM.lt ex42.symm
  refine lv_ishr hx hb dX7_openHours_16 ?_
  refine lv_topi (fun x43 ex43 => ?_)
  have ezx43 := ex43
  replace hM := hM.lt (o32_e (f := fun x y => x >>> (y &&& 31)) ezx43 rfl rfl)
  refine lv_iconst (v := 1) hx hb dX7_openHours_17 (by decide) ?_
  refine lv_iand hx hb dX7_openHours_18 ?_
  refine lv_topi (fun x44 ex44 => ?_)
  have ezx44 := ex44
  have bx44 : 0 ≤ x44.toInt ∧ x44.toInt ≤ (1 : Int) := by rw [ex44]; exact wk_and (by decide)
  replace hM := hM.lt (o32_e (f := fun x y => x &&& y) ezx44 rfl (by decide))
  refine lv_if_ne (tgt := 24) hx hb dX7_openHours_19 (by decide) (fun c45 => ?_) (fun c45 => ?_)
  · have c45 : ¬ x44.toInt = (0 : Int) := wk_eqF c45
    replace hM := hM.pos c45
    refine lv_iload hx hb dX7_openHours_24 (lv_at hl 4 rfl) ?_
    refine lv_if_eq (tgt := 38) hx hb dX7_openHours_26 (by decide) (fun c => absurd c (by decide)) (fun _ => ?_)
    replace hM := hM.neg (by decide)
    refine lv_aload_n hx hb dX7_openHours_29 rfl (lv_at hl 0 rfl) ?_
    refine tk_getO hC hK hw hT hinX7 kC_at39 (by decide) rfl 7 (by decide) (List.mem_cons_of_mem _ uw_3_0) rfl rfl dX7_openHours_30 ?_
    refine lv_iload_n hx hb dX7_openHours_33 rfl (lv_at hl 1 rfl) ?_
    refine tk_iald hC hK hw hT kC_at47 rfl rfl (show 0 ≤ a1.toInt from ra1) (show a1.toInt < 13 from Int.lt_of_le_of_lt ta1 (by decide)) dX7_openHours_34 (fun x46 c47 rx46 tx46 => ?_)
    have hox46 := c47
    replace hM := hM.rd (sL_at (kC_lt kC_at47) hox46)
    refine lv_goto (tgt := 39) hx hb dX7_openHours_35 (by decide) ?_
    refine lv_istore (lv' := [(6, .int x46), (0, .ref (ad 39)), (1, .int a1), (2, .int 0), (3, .long a3), (5, .int 1)]) hx hb dX7_openHours_39 hl (by decide) rfl (fun ls hl => ?_)
    refine lv_iconst (v := 0) hx hb dX7_openHours_41 (by decide) ?_
    refine lv_istore (lv' := [(7, .int 0), (6, .int x46), (0, .ref (ad 39)), (1, .int a1), (2, .int 0), (3, .long a3), (5, .int 1)]) hx hb dX7_openHours_42 hl (by decide) rfl (fun ls hl => ?_)
    exact L44 ((8 - (0 : Int)).toNat + 1) x46 0 s.heap locs ls w0 (show 0 ≤ a1.toInt from ra1) (show a1.toInt ≤ 11 from ta1) (show 0 ≤ a3.toInt from ra3) (show a3.toInt ≤ 96076792050570581 from ta3) (by decide) (by decide) (Nat.lt_succ_self _) hw hT hF hM (lv_sub hl [2, 3, 4, 5, 6, 1, 0] rfl)
  · have c45 : x44.toInt = (0 : Int) := wk_eq.mp c45
    replace hM := hM.neg (fun q => q c45)
    refine lv_iconst (v := 0) hx hb dX7_openHours_22 (by decide) ?_
    exact tk_iret hC hr hlocks hK ⟨hT, hF, hM.ret (by decide), ⟨(by decide), (by decide)⟩⟩ hw dX7_openHours_23
abbrev Py_X7_isOpen_2 (ad : Nat → Nat) (cy : Nat → ClassId) (B : Int) (qr : Nat) (s1 : Int) (a1 : Int32) (a3 : Int64) (w0 : va_W) : Int32 → va_W → Prop := fun r u => TW ksC ad cy B qr s1 u ∧ FE ksC ([] : List (Nat × Nat × Nat)) w0 u ∧ Ev (fun n => m_X7_isOpen n 39 a1.toInt 0 a3.toInt 1 (sL w0)) (r.toInt, sL u) ∧ ((r = 0) ∨ (r = 1))
set_option maxHeartbeats 4000000 in
set_option maxRecDepth 100000 in
theorem ky_X7_isOpen_2 (l : Launch) (adK adV : Nat → Nat) (dC : Nat → ClassId) (dI : Nat → Nat → Nat) (cy : Nat → ClassId) (ad : Nat → Nat) (B : Int) (hB0 : 2147483648 ≤ B) (hB1 : B ≤ 1152921504606846976) (qr : Nat) (s1 : Int)  (a1 : Int32) (ra1 : 0 ≤ a1.toInt) (ta1 : a1.toInt ≤ 11) (a3 : Int64) (ra3 : 0 ≤ a3.toInt) (ta3 : a3.toInt ≤ 2305843009213693952) (w0 : va_W) (sz : Nat) (hT : TW ksC ad cy B qr s1 w0)  : Met l yX7_isOpen (wu yX7_isOpen cX7_isOpen 7 (some .boolean)) ({ frames := 2, cells := 0, slots := 0, locals := 39 }) (va_Pc [.ref (ad 39), .int a1, .int 0, .long a3, .int 1] (wpreS adK adV dC dI cy sz w0)) (va_Qi (Py_X7_isOpen_2 ad cy B qr s1 a1 a3 w0) (fun u : va_W => wpost dC dI cy (va_A w0 sz) u) (va_A w0 sz)) 0 0 (va_A w0 sz) := by
  refine Met.ofW (cc := cX7_isOpen) (maxL := 7) (ret := (some .boolean)) (by decide) rfl ?_
  intro p e s m args below meth c s₁ Bk hml hv
  obtain ⟨rfl, ⟨hsz, hP, hK, hD0⟩, hE, hSR⟩ := hv
  have hx := Bk.exec
  have hb := Bk.bytes
  have hr := Bk.returns
  have hlocks := Bk.notSynchronized
  have hC : CallFix p m c cX7_isOpen 7 s _ (wu yX7_isOpen cX7_isOpen 7 (some .boolean)) RX7 := ⟨hx, hb, hml, findClass_of_methodNamed Bk.named, atoms_spec (ws := (wu yX7_isOpen cX7_isOpen 7 (some .boolean))) Bk.pre⟩
  subst hsz
  have hD := hD0.self (sz := s.heap.size)
  generalize hAe : va_A w0 s.heap.size = A at hD hE ⊢
  have hA : ∀ q : Nat, s.heap.size ≤ q → A q := fun q h => by rw [← hAe]; exact Or.inr h
  have hw : Wd dC dI A s.heap s.heap [] w0 := ⟨hP, hD, va_S.rf⟩
  have hF : FE ksC ([] : List (Nat × Nat × Nat)) w0 w0 := FE.rf
  have hl := lv_entry ([.ref (ad 39), .int a1, .int 0, .long a3, .int 1]) (n := 7) (Nat.le_of_ble_eq_true rfl)
  rw [lg_entry_eq]
  generalize (lg_sl ([.ref (ad 39), .int a1, .int 0, .long a3, .int 1]) ++ List.replicate (7 - (lg_sl ([.ref (ad 39), .int a1, .int 0, .long a3, .int 1])).length) Slot.unset).toArray = ls at hl ⊢
  have hl : lv_has ls 7 [(0, .ref (ad 39)), (1, .int a1), (2, .int 0), (3, .long a3), (5, .int 1)] := hl
  generalize hloc : ([] : List Loc) = locs at hw ⊢
  have hM : TT (fun n => m_X7_isOpen n 39 a1.toInt 0 a3.toInt 1 (sL w0)) (fun n => m_X7_isOpen n 39 a1.toInt 0 a3.toInt 1 (sL w0)) := TT.rf
  refine lv_aload_n hx hb dX7_isOpen_0 rfl (lv_at hl 0 rfl) ?_
  refine lv_iload_n hx hb dX7_isOpen_1 rfl (lv_at hl 1 rfl) ?_
  refine lv_iload_n hx hb dX7_isOpen_2 rfl (lv_at hl 2 rfl) ?_
  refine lv_lload_n hx hb dX7_isOpen_3 rfl (lv_at hl 3 rfl) ?_
  refine lv_ldc2 (v := 24) hx hb hC.2.2.2.1 (hC.2.2.2.2 _ (List.mem_cons_of_mem _ uw_31_10)) dX7_isOpen_4 ?_
  refine lv_ldiv hx hb dX7_isOpen_7 (by decide) ?_
  refine lv_topl (fun x1 ex1 => ?_)
  have ezx1 := ex1
  have ex1 : x1.toInt = a3.toInt / (24 : Int) := by rw [ex1]; exact wk_divl (show 0 ≤ a3.toInt from ra3) (show 0 < (24 : Int) by decide)
  replace hM := hM.lt ex1.symm
  refine lv_iload hx hb dX7_isOpen_8 (lv_at hl 4 rfl) ?_
  refine tk_Vi hC hK hw hT hA hE hSR kC_at39 (by decide) rfl (ky_X7_openHours_2 l adK adV dC dI cy ad B hB0 (Int.le_trans hB1 (by decide)) qr s1   a1 (show 0 ≤ a1.toInt from ra1) (show a1.toInt ≤ 11 from ta1) x1 (show 0 ≤ x1.toInt by first | with_reducible assumption | omega) (show x1.toInt ≤ 96076792050570581 by first | with_reducible assumption | omega) w0 s.heap.size hT ) (cwV 4 hC.2.2.2.2 uV_RX7_148 rfl rfl rfl (by decide +kernel) ⟨Nat.le_of_ble_eq_true rfl, Nat.le_of_ble_eq_true rfl⟩) rfl hl.1 rfl (Nat.le_of_ble_eq_true rfl) dX7_isOpen_10 (fun r2 w4 H locs hp3 hw => ?_)
  obtain ⟨hT, k5, hv9, hg8⟩ := hp3
  have hF := hF.tr k5 (by decide)
  obtain ⟨g6, g7⟩ := hg8
  replace hM := hM.call hv9 rfl
  refine lv_istore (lv' := [(6, .int r2), (0, .ref (ad 39)), (1, .int a1), (2, .int 0), (3, .long a3), (5, .int 1)]) hx hb dX7_isOpen_13 hl (by decide) rfl (fun ls hl => ?_)
  refine lv_iload hx hb dX7_isOpen_15 (lv_at hl 0 rfl) ?_
  refine lv_lload_n hx hb dX7_isOpen_17 rfl (lv_at hl 4 rfl) ?_
  refine lv_ldc2 (v := 24) hx hb hC.2.2.2.1 (hC.2.2.2.2 _ (List.mem_cons_of_mem _ uw_31_10)) dX7_isOpen_18 ?_
  refine lv_lrem hx hb dX7_isOpen_21 (by decide) ?_
  refine lv_topl (fun x10 ex10 => ?_)
  have ezx10 := ex10
  have ex10 : x10.toInt = a3.toInt % (24 : Int) := by rw [ex10]; exact wk_reml (show 0 ≤ a3.toInt from ra3) (show 0 < (24 : Int) by decide)
  replace hM := hM.lt ex10.symm
  refine lv_l2i hx hb dX7_isOpen_22 rfl ?_
  refine lv_topi (fun x11 ex11 => ?_)
  have ex11 : x11.toInt = x10.toInt := by rw [ex11]; exact wk_l2i (by omega) (by omega)
  replace hM := hM.lt ex11.symm
  refine lv_ishr hx hb dX7_isOpen_23 ?_
  refine lv_topi (fun x12 ex12 => ?_)
  have ezx12 := ex12
  have bx12 : 0 ≤ x12.toInt ∧ x12.toInt ≤ r2.toInt := by rw [ex12]; exact wk_shr (by omega)
  replace hM := hM.lt (o32_e (f := fun x y => x >>> (y &&& 31)) ezx12 rfl rfl)
  refine lv_iconst (v := 1) hx hb dX7_isOpen_24 (by decide) ?_
  refine lv_iand hx hb dX7_isOpen_25 ?_
  refine lv_topi (fun x13 ex13 => ?_)
  have ezx13 := ex13
  have bx13 : 0 ≤ x13.toInt ∧ x13.toInt ≤ (1 : Int) := by rw [ex13]; exact wk_and (by decide)
  replace hM := hM.lt (o32_e (f := fun x y => x &&& y) ezx13 rfl (by decide))
  refine lv_if_eq (tgt := 33) hx hb dX7_isOpen_26 (by decide) (fun c14 => ?_) (fun c14 => ?_)
  · have c14 : x13.toInt = (0 : Int) := wk_eq.mp c14
    replace hM := hM.pos c14
    refine lv_iconst (v := 0) hx hb dX7_isOpen_33 (by decide) ?_
    exact tk_zret hC hr rfl hlocks hK ⟨hT, hF, hM.ret (by decide), (Or.inl rfl)⟩ hw dX7_isOpen_34
  · have c14 : ¬ x13.toInt = (0 : Int) := wk_eqF c14
    replace hM := hM.neg c14
    refine lv_iconst (v := 1) hx hb dX7_isOpen_29 (by decide) ?_
    refine lv_goto (tgt := 34) hx hb dX7_isOpen_30 (by decide) ?_
    exact tk_zret hC hr rfl hlocks hK ⟨hT, hF, hM.ret (by decide), (Or.inr rfl)⟩ hw dX7_isOpen_34
abbrev Py_X7_openHours_3 (ad : Nat → Nat) (cy : Nat → ClassId) (B : Int) (qr : Nat) (s1 : Int) (a1 : Int32) (a3 : Int64) (w0 : va_W) : Int32 → va_W → Prop := fun r u => TW ksC ad cy B qr s1 u ∧ FE ksC ([] : List (Nat × Nat × Nat)) w0 u ∧ Ev (fun n => m_X7_openHours n 39 a1.toInt 1 a3.toInt 0 (sL w0)) (r.toInt, sL u) ∧ ((0 ≤ r.toInt ∧ r.toInt ≤ 16777215))
set_option maxHeartbeats 4000000 in
set_option maxRecDepth 100000 in
theorem ky_X7_openHours_3 (l : Launch) (adK adV : Nat → Nat) (dC : Nat → ClassId) (dI : Nat → Nat → Nat) (cy : Nat → ClassId) (ad : Nat → Nat) (B : Int) (hB0 : 2147483648 ≤ B) (hB1 : B ≤ 1152921504606846976) (qr : Nat) (s1 : Int)  (a1 : Int32) (ra1 : 0 ≤ a1.toInt) (ta1 : a1.toInt ≤ 11) (a3 : Int64) (ra3 : 0 ≤ a3.toInt) (ta3 : a3.toInt ≤ 96076792050570581) (w0 : va_W) (sz : Nat) (hT : TW ksC ad cy B qr s1 w0)  : Met l yX7_openHours (wu yX7_openHours cX7_openHours 8 (some .int)) ({ frames := 1, cells := 0, slots := 0, locals := 12 }) (va_Pc [.ref (ad 39), .int a1, .int 1, .long a3, .int 0] (wpreS adK adV dC dI cy sz w0)) (va_Qi (Py_X7_openHours_3 ad cy B qr s1 a1 a3 w0) (fun u : va_W => wpost dC dI cy (va_A w0 sz) u) (va_A w0 sz)) 0 0 (va_A w0 sz) := by
  refine Met.ofW (cc := cX7_openHours) (maxL := 8) (ret := (some .int)) (by decide) rfl ?_
  intro p e s m args below meth c s₁ Bk hml hv
  obtain ⟨rfl, ⟨hsz, hP, hK, hD0⟩, hE, hSR⟩ := hv
  have hx := Bk.exec
  have hb := Bk.bytes
  have hr := Bk.returns
  have hlocks := Bk.notSynchronized
  have hC : CallFix p m c cX7_openHours 8 s _ (wu yX7_openHours cX7_openHours 8 (some .int)) RX7 := ⟨hx, hb, hml, findClass_of_methodNamed Bk.named, atoms_spec (ws := (wu yX7_openHours cX7_openHours 8 (some .int))) Bk.pre⟩
  subst hsz
  have hD := hD0.self (sz := s.heap.size)
  generalize hAe : va_A w0 s.heap.size = A at hD hE ⊢
  have hA : ∀ q : Nat, s.heap.size ≤ q → A q := fun q h => by rw [← hAe]; exact Or.inr h
  have hw : Wd dC dI A s.heap s.heap [] w0 := ⟨hP, hD, va_S.rf⟩
  have hF : FE ksC ([] : List (Nat × Nat × Nat)) w0 w0 := FE.rf
  have hl := lv_entry ([.ref (ad 39), .int a1, .int 1, .long a3, .int 0]) (n := 8) (Nat.le_of_ble_eq_true rfl)
  rw [lg_entry_eq]
  generalize (lg_sl ([.ref (ad 39), .int a1, .int 1, .long a3, .int 0]) ++ List.replicate (8 - (lg_sl ([.ref (ad 39), .int a1, .int 1, .long a3, .int 0])).length) Slot.unset).toArray = ls at hl ⊢
  have hl : lv_has ls 8 [(0, .ref (ad 39)), (1, .int a1), (2, .int 1), (3, .long a3), (5, .int 0)] := hl
  generalize hloc : ([] : List Loc) = locs at hw ⊢
  have hinX7 : ∀ w ∈ u_ws RX7 TX7 12, w ∈ (wu yX7_openHours cX7_openHours 8 (some .int)) := fun _ h => List.mem_cons_of_mem _ (up_73 h)
  have J93 : ∀ (H : Heap) (locs : List Loc) (ls : Array Slot) (w1 : va_W), 0 ≤ a1.toInt → a1.toInt ≤ 11 → 0 ≤ a3.toInt → a3.toInt ≤ 96076792050570581 → Wd dC dI A s.heap H locs w1 → TW ksC ad cy B qr s1 w1 → FE ksC ([] : List (Nat × Nat × Nat)) w0 w1 → TT (fun n => m_X7_openHours n 39 a1.toInt 1 a3.toInt 0 (sL w0)) (fun n => b_X7_openHours_93 (j_X7_openHours 39 n) n 39 (a1.toInt) (sL w1)) → lv_has ls 8 [(0, .ref (ad 39)), (1, .int a1), (2, .int 1), (3, .long a3), (5, .int 0), (6, .int 0), (7, .int 0)] → W p l e ({ frames := 1, cells := 0, slots := 0, locals := 12 }) s m (List.toArray [.ref (ad 39), .int a1, .int 1, .long a3, .int 0]) below meth c H locs 0 0 (MQ below (va_Qi (Py_X7_openHours_3 ad cy B qr s1 a1 a3 w0) (fun u : va_W => wpost dC dI cy A u) A) (List.toArray [.ref (ad 39), .int a1, .int 1, .long a3, .int 0]) s 0 0 A) (F0 m 93 ls []) := by
    intro H locs ls w1 r2 t3 r4 t5 hw hT hF hM hl
    refine lv_ldc (v := 16777215) hx hb hC.2.2.2.1 (hC.2.2.2.2 _ (List.mem_cons_of_mem _ uw_31_17)) dX7_openHours_93 ?_
    refine lv_aload_n hx hb dX7_openHours_95 rfl (lv_at hl 0 rfl) ?_
    refine tk_getO hC hK hw hT hinX7 kC_at39 (by decide) rfl 3 (by decide) (List.mem_cons_of_mem _ uw_2_20) rfl rfl dX7_openHours_96 ?_
    refine lv_iload_n hx hb dX7_openHours_99 rfl (lv_at hl 1 rfl) ?_
    refine tk_iald hC hK hw hT kC_at43 rfl rfl (show 0 ≤ a1.toInt from r2) (show a1.toInt < 13 from Int.lt_of_le_of_lt t3 (by decide)) dX7_openHours_100 (fun x6 c7 rx6 tx6 => ?_)
    have hox6 := c7
    replace hM := hM.rd (sL_at (kC_lt kC_at43) hox6)
    refine lv_iconst (v := (-1)) hx hb dX7_openHours_101 (by decide) ?_
    refine lv_ixor hx hb dX7_openHours_102 ?_
    refine lv_topi (fun x8 ex8 => ?_)
    have ezx8 := ex8
    replace hM := hM.lt (o32_e (f := fun x y => x ^^^ y) ezx8 rfl (by decide))
    refine lv_iand hx hb dX7_openHours_103 ?_
    refine lv_topi (fun x9 ex9 => ?_)
    have ezx9 := ex9
    have bx9 : 0 ≤ x9.toInt ∧ x9.toInt ≤ (16777215 : Int) := by rw [ex9]; exact wk_andC (by decide)
    replace hM := hM.lt (o32_e (f := fun x y => x &&& y) ezx9 (by decide) rfl)
    exact tk_iret hC hr hlocks hK ⟨hT, hF, hM.ret rfl, ⟨(show 0 ≤ x9.toInt by first | with_reducible assumption | omega), (show x9.toInt ≤ 16777215 by first | with_reducible assumption | omega)⟩⟩ hw dX7_openHours_104
  have L44 : ∀ (H : Heap) (locs : List Loc) (ls : Array Slot) (w10 : va_W), 0 ≤ a1.toInt → a1.toInt ≤ 11 → 0 ≤ a3.toInt → a3.toInt ≤ 96076792050570581 → Wd dC dI A s.heap H locs w10 → TW ksC ad cy B qr s1 w10 → FE ksC ([] : List (Nat × Nat × Nat)) w0 w10 → TT (fun n => m_X7_openHours n 39 a1.toInt 1 a3.toInt 0 (sL w0)) (fun n => j_X7_openHours 39 n 44 [a1.toInt, a3.toInt, (0 : Int), (0 : Int)] (sL w10)) → lv_has ls 8 [(0, .ref (ad 39)), (1, .int a1), (2, .int 1), (3, .long a3), (5, .int 0), (6, .int 0), (7, .int 0)] → W p l e ({ frames := 1, cells := 0, slots := 0, locals := 12 }) s m (List.toArray [.ref (ad 39), .int a1, .int 1, .long a3, .int 0]) below meth c H locs 0 0 (MQ below (va_Qi (Py_X7_openHours_3 ad cy B qr s1 a1 a3 w0) (fun u : va_W => wpost dC dI cy A u) A) (List.toArray [.ref (ad 39), .int a1, .int 1, .long a3, .int 0]) s 0 0 A) (F0 m 44 ls []) := by
    intro H locs ls w10 r11 t12 r13 t14 hw hT hF hM hl
    replace hM := hM.suc (fun _ => e_X7_openHours_44)
    refine lv_iload hx hb dX7_openHours_44 (lv_at hl 5 rfl) ?_
    refine lv_if_eq (tgt := 93) hx hb dX7_openHours_46 (by decide) (fun _ => ?_) (fun c => absurd (by decide) c)
    replace hM := hM.pos (by decide)
    exact J93  H locs ls w10 (show 0 ≤ a1.toInt from r11) (show a1.toInt ≤ 11 from t12) (show 0 ≤ a3.toInt from r13) (show a3.toInt ≤ 96076792050570581 from t14)  hw hT hF hM (lv_sub hl [0, 1, 2, 3, 4, 5, 6] rfl)
  have hM : TT (fun n => m_X7_openHours n 39 a1.toInt 1 a3.toInt 0 (sL w0)) (fun n => m_X7_openHours n 39 a1.toInt 1 a3.toInt 0 (sL w0)) := TT.rf
  refine lv_aload_n hx hb dX7_openHours_0 rfl (lv_at hl 0 rfl) ?_
  refine tk_getO hC hK hw hT hinX7 kC_at39 (by decide) rfl 4 (by decide) (List.mem_cons_of_mem _ uw_2_21) rfl rfl dX7_openHours_1 ?_
  refine lv_iconst (v := 2) hx hb dX7_openHours_4 (by decide) ?_
  refine lv_iload_n hx hb dX7_openHours_5 rfl (lv_at hl 1 rfl) ?_
  refine lv_imul hx hb dX7_openHours_6 ?_
  refine lv_topi (fun x15 ex15 => ?_)
  have ezx15 := ex15
  have ex15 : x15.toInt = (2 : Int) * a1.toInt := by rw [ex15]; exact wk_mul (show (-2147483648) ≤ (2 : Int) * a1.toInt by omega) (show (2 : Int) * a1.toInt ≤ 2147483647 by omega)
  replace hM := hM.lt ex15.symm
  refine lv_iload_n hx hb dX7_openHours_7 rfl (lv_at hl 2 rfl) ?_
  refine lv_iadd hx hb dX7_openHours_8 ?_
  refine lv_topi (fun x16 ex16 => ?_)
  have ezx16 := ex16
  have ex16 : x16.toInt = x15.toInt + (1 : Int) := by rw [ex16]; exact wk_add (show (-2147483648) ≤ x15.toInt + (1 : Int) by omega) (show x15.toInt + (1 : Int) ≤ 2147483647 by omega)
  replace hM := hM.lt ex16.symm
  refine tk_iald hC hK hw hT kC_at44 rfl rfl (show 0 ≤ x16.toInt by first | with_reducible assumption | omega) (show x16.toInt < 26 by first | with_reducible assumption | omega) dX7_openHours_9 (fun x17 c18 rx17 tx17 => ?_)
  have hox17 := c18
  replace hM := hM.rd (sL_at (kC_lt kC_at44) hox17)
  refine lv_lload_n hx hb dX7_openHours_10 rfl (lv_at hl 3 rfl) ?_
  refine lv_ldc2 (v := 7) hx hb hC.2.2.2.1 (hC.2.2.2.2 _ (List.mem_cons_of_mem _ uw_31_15)) dX7_openHours_11 ?_
  refine lv_lrem hx hb dX7_openHours_14 (by decide) ?_
  refine lv_topl (fun x19 ex19 => ?_)
  have ezx19 := ex19
  have ex19 : x19.toInt = a3.toInt % (7 : Int) := by rw [ex19]; exact wk_reml (show 0 ≤ a3.toInt from ra3) (show 0 < (7 : Int) by decide)
  replace hM := hM.lt ex19.symm
  refine lv_l2i hx hb dX7_openHours_15 rfl ?_
  refine lv_topi (fun x20 ex20 => ?_)
  have ex20 : x20.toInt = x19.toInt := by rw [ex20]; exact wk_l2i (by omega) (by omega)
  replace hM := hM.lt ex20.symm
  refine lv_ishr hx hb dX7_openHours_16 ?_
  refine lv_topi (fun x21 ex21 => ?_)
  have ezx21 := ex21
  replace hM := hM.lt (o32_e (f := fun x y => x >>> (y &&& 31)) ezx21 rfl rfl)
  refine lv_iconst (v := 1) hx hb dX7_openHours_17 (by decide) ?_
  refine lv_iand hx hb dX7_openHours_18 ?_
  refine lv_topi (fun x22 ex22 => ?_)
  have ezx22 := ex22
  have bx22 : 0 ≤ x22.toInt ∧ x22.toInt ≤ (1 : Int) := by rw [ex22]; exact wk_and (by decide)
  replace hM := hM.lt (o32_e (f := fun x y => x &&& y) ezx22 rfl (by decide))
  refine lv_if_ne (tgt := 24) hx hb dX7_openHours_19 (by decide) (fun c23 => ?_) (fun c23 => ?_)
  · have c23 : ¬ x22.toInt = (0 : Int) := wk_eqF c23
    replace hM := hM.pos c23
    refine lv_iload hx hb dX7_openHours_24 (lv_at hl 4 rfl) ?_
    refine lv_if_eq (tgt := 38) hx hb dX7_openHours_26 (by decide) (fun _ => ?_) (fun c => absurd (by decide) c)
    replace hM := hM.pos (by decide)
    refine lv_iconst (v := 0) hx hb dX7_openHours_38 (by decide) ?_
    refine lv_istore (lv' := [(6, .int 0), (0, .ref (ad 39)), (1, .int a1), (2, .int 1), (3, .long a3), (5, .int 0)]) hx hb dX7_openHours_39 hl (by decide) rfl (fun ls hl => ?_)
    refine lv_iconst (v := 0) hx hb dX7_openHours_41 (by decide) ?_
    refine lv_istore (lv' := [(7, .int 0), (6, .int 0), (0, .ref (ad 39)), (1, .int a1), (2, .int 1), (3, .long a3), (5, .int 0)]) hx hb dX7_openHours_42 hl (by decide) rfl (fun ls hl => ?_)
    exact L44  s.heap locs ls w0 (show 0 ≤ a1.toInt from ra1) (show a1.toInt ≤ 11 from ta1) (show 0 ≤ a3.toInt from ra3) (show a3.toInt ≤ 96076792050570581 from ta3)  hw hT hF hM (lv_sub hl [2, 3, 4, 5, 6, 1, 0] rfl)
  · have c23 : x22.toInt = (0 : Int) := wk_eq.mp c23
    replace hM := hM.neg (fun q => q c23)
    refine lv_iconst (v := 0) hx hb dX7_openHours_22 (by decide) ?_
    exact tk_iret hC hr hlocks hK ⟨hT, hF, hM.ret (by decide), ⟨(by decide), (by decide)⟩⟩ hw dX7_openHours_23
abbrev Py_X7_isOpen_3 (ad : Nat → Nat) (cy : Nat → ClassId) (B : Int) (qr : Nat) (s1 : Int) (a1 : Int32) (a3 : Int64) (w0 : va_W) : Int32 → va_W → Prop := fun r u => TW ksC ad cy B qr s1 u ∧ FE ksC ([] : List (Nat × Nat × Nat)) w0 u ∧ Ev (fun n => m_X7_isOpen n 39 a1.toInt 1 a3.toInt 0 (sL w0)) (r.toInt, sL u) ∧ ((r = 0) ∨ (r = 1))
set_option maxHeartbeats 4000000 in
set_option maxRecDepth 100000 in
theorem ky_X7_isOpen_3 (l : Launch) (adK adV : Nat → Nat) (dC : Nat → ClassId) (dI : Nat → Nat → Nat) (cy : Nat → ClassId) (ad : Nat → Nat) (B : Int) (hB0 : 2147483648 ≤ B) (hB1 : B ≤ 1152921504606846976) (qr : Nat) (s1 : Int)  (a1 : Int32) (ra1 : 0 ≤ a1.toInt) (ta1 : a1.toInt ≤ 11) (a3 : Int64) (ra3 : 0 ≤ a3.toInt) (ta3 : a3.toInt ≤ 2305843009213693952) (w0 : va_W) (sz : Nat) (hT : TW ksC ad cy B qr s1 w0)  : Met l yX7_isOpen (wu yX7_isOpen cX7_isOpen 7 (some .boolean)) ({ frames := 2, cells := 0, slots := 0, locals := 39 }) (va_Pc [.ref (ad 39), .int a1, .int 1, .long a3, .int 0] (wpreS adK adV dC dI cy sz w0)) (va_Qi (Py_X7_isOpen_3 ad cy B qr s1 a1 a3 w0) (fun u : va_W => wpost dC dI cy (va_A w0 sz) u) (va_A w0 sz)) 0 0 (va_A w0 sz) := by
  refine Met.ofW (cc := cX7_isOpen) (maxL := 7) (ret := (some .boolean)) (by decide) rfl ?_
  intro p e s m args below meth c s₁ Bk hml hv
  obtain ⟨rfl, ⟨hsz, hP, hK, hD0⟩, hE, hSR⟩ := hv
  have hx := Bk.exec
  have hb := Bk.bytes
  have hr := Bk.returns
  have hlocks := Bk.notSynchronized
  have hC : CallFix p m c cX7_isOpen 7 s _ (wu yX7_isOpen cX7_isOpen 7 (some .boolean)) RX7 := ⟨hx, hb, hml, findClass_of_methodNamed Bk.named, atoms_spec (ws := (wu yX7_isOpen cX7_isOpen 7 (some .boolean))) Bk.pre⟩
  subst hsz
  have hD := hD0.self (sz := s.heap.size)
  generalize hAe : va_A w0 s.heap.size = A at hD hE ⊢
  have hA : ∀ q : Nat, s.heap.size ≤ q → A q := fun q h => by rw [← hAe]; exact Or.inr h
  have hw : Wd dC dI A s.heap s.heap [] w0 := ⟨hP, hD, va_S.rf⟩
  have hF : FE ksC ([] : List (Nat × Nat × Nat)) w0 w0 := FE.rf
  have hl := lv_entry ([.ref (ad 39), .int a1, .int 1, .long a3, .int 0]) (n := 7) (Nat.le_of_ble_eq_true rfl)
  rw [lg_entry_eq]
  generalize (lg_sl ([.ref (ad 39), .int a1, .int 1, .long a3, .int 0]) ++ List.replicate (7 - (lg_sl ([.ref (ad 39), .int a1, .int 1, .long a3, .int 0])).length) Slot.unset).toArray = ls at hl ⊢
  have hl : lv_has ls 7 [(0, .ref (ad 39)), (1, .int a1), (2, .int 1), (3, .long a3), (5, .int 0)] := hl
  generalize hloc : ([] : List Loc) = locs at hw ⊢
  have hM : TT (fun n => m_X7_isOpen n 39 a1.toInt 1 a3.toInt 0 (sL w0)) (fun n => m_X7_isOpen n 39 a1.toInt 1 a3.toInt 0 (sL w0)) := TT.rf
  refine lv_aload_n hx hb dX7_isOpen_0 rfl (lv_at hl 0 rfl) ?_
  refine lv_iload_n hx hb dX7_isOpen_1 rfl (lv_at hl 1 rfl) ?_
  refine lv_iload_n hx hb dX7_isOpen_2 rfl (lv_at hl 2 rfl) ?_
  refine lv_lload_n hx hb dX7_isOpen_3 rfl (lv_at hl 3 rfl) ?_
  refine lv_ldc2 (v := 24) hx hb hC.2.2.2.1 (hC.2.2.2.2 _ (List.mem_cons_of_mem _ uw_31_10)) dX7_isOpen_4 ?_
  refine lv_ldiv hx hb dX7_isOpen_7 (by decide) ?_
  refine lv_topl (fun x1 ex1 => ?_)
  have ezx1 := ex1
  have ex1 : x1.toInt = a3.toInt / (24 : Int) := by rw [ex1]; exact wk_divl (show 0 ≤ a3.toInt from ra3) (show 0 < (24 : Int) by decide)
  replace hM := hM.lt ex1.symm
  refine lv_iload hx hb dX7_isOpen_8 (lv_at hl 4 rfl) ?_
  refine tk_Vi hC hK hw hT hA hE hSR kC_at39 (by decide) rfl (ky_X7_openHours_3 l adK adV dC dI cy ad B hB0 (Int.le_trans hB1 (by decide)) qr s1   a1 (show 0 ≤ a1.toInt from ra1) (show a1.toInt ≤ 11 from ta1) x1 (show 0 ≤ x1.toInt by first | with_reducible assumption | omega) (show x1.toInt ≤ 96076792050570581 by first | with_reducible assumption | omega) w0 s.heap.size hT ) (cwV 4 hC.2.2.2.2 uV_RX7_148 rfl rfl rfl (by decide +kernel) ⟨Nat.le_of_ble_eq_true rfl, Nat.le_of_ble_eq_true rfl⟩) rfl hl.1 rfl (Nat.le_of_ble_eq_true rfl) dX7_isOpen_10 (fun r2 w4 H locs hp3 hw => ?_)
  obtain ⟨hT, k5, hv9, hg8⟩ := hp3
  have hF := hF.tr k5 (by decide)
  obtain ⟨g6, g7⟩ := hg8
  replace hM := hM.call hv9 rfl
  refine lv_istore (lv' := [(6, .int r2), (0, .ref (ad 39)), (1, .int a1), (2, .int 1), (3, .long a3), (5, .int 0)]) hx hb dX7_isOpen_13 hl (by decide) rfl (fun ls hl => ?_)
  refine lv_iload hx hb dX7_isOpen_15 (lv_at hl 0 rfl) ?_
  refine lv_lload_n hx hb dX7_isOpen_17 rfl (lv_at hl 4 rfl) ?_
  refine lv_ldc2 (v := 24) hx hb hC.2.2.2.1 (hC.2.2.2.2 _ (List.mem_cons_of_mem _ uw_31_10)) dX7_isOpen_18 ?_
  refine lv_lrem hx hb dX7_isOpen_21 (by decide) ?_
  refine lv_topl (fun x10 ex10 => ?_)
  have ezx10 := ex10
  have ex10 : x10.toInt = a3.toInt % (24 : Int) := by rw [ex10]; exact wk_reml (show 0 ≤ a3.toInt from ra3) (show 0 < (24 : Int) by decide)
  replace hM := hM.lt ex10.symm
  refine lv_l2i hx hb dX7_isOpen_22 rfl ?_
  refine lv_topi (fun x11 ex11 => ?_)
  have ex11 : x11.toInt = x10.toInt := by rw [ex11]; exact wk_l2i (by omega) (by omega)
  replace hM := hM.lt ex11.symm
  refine lv_ishr hx hb dX7_isOpen_23 ?_
  refine lv_topi (fun x12 ex12 => ?_)
  have ezx12 := ex12
  have bx12 : 0 ≤ x12.toInt ∧ x12.toInt ≤ r2.toInt := by rw [ex12]; exact wk_shr (by omega)
  replace hM := hM.lt (o32_e (f := fun x y => x >>> (y &&& 31)) ezx12 rfl rfl)
  refine lv_iconst (v := 1) hx hb dX7_isOpen_24 (by decide) ?_
  refine lv_iand hx hb dX7_isOpen_25 ?_
  refine lv_topi (fun x13 ex13 => ?_)
  have ezx13 := ex13
  have bx13 : 0 ≤ x13.toInt ∧ x13.toInt ≤ (1 : Int) := by rw [ex13]; exact wk_and (by decide)
  replace hM := hM.lt (o32_e (f := fun x y => x &&& y) ezx13 rfl (by decide))
  refine lv_if_eq (tgt := 33) hx hb dX7_isOpen_26 (by decide) (fun c14 => ?_) (fun c14 => ?_)
  · have c14 : x13.toInt = (0 : Int) := wk_eq.mp c14
    replace hM := hM.pos c14
    refine lv_iconst (v := 0) hx hb dX7_isOpen_33 (by decide) ?_
    exact tk_zret hC hr rfl hlocks hK ⟨hT, hF, hM.ret (by decide), (Or.inl rfl)⟩ hw dX7_isOpen_34
  · have c14 : ¬ x13.toInt = (0 : Int) := wk_eqF c14
    replace hM := hM.neg c14
    refine lv_iconst (v := 1) hx hb dX7_isOpen_29 (by decide) ?_
    refine lv_goto (tgt := 34) hx hb dX7_isOpen_30 (by decide) ?_
    exact tk_zret hC hr rfl hlocks hK ⟨hT, hF, hM.ret (by decide), (Or.inr rfl)⟩ hw dX7_isOpen_34
abbrev Py_X7_openHours_4 (ad : Nat → Nat) (cy : Nat → ClassId) (B : Int) (qr : Nat) (s1 : Int) (a1 : Int32) (a3 : Int64) (w0 : va_W) : Int32 → va_W → Prop := fun r u => TW ksC ad cy B qr s1 u ∧ FE ksC ([] : List (Nat × Nat × Nat)) w0 u ∧ Ev (fun n => m_X7_openHours n 39 a1.toInt 1 a3.toInt 1 (sL w0)) (r.toInt, sL u) ∧ ((0 ≤ r.toInt ∧ r.toInt ≤ 16777215))
set_option maxHeartbeats 4000000 in
set_option maxRecDepth 100000 in
theorem ky_X7_openHours_4 (l : Launch) (adK adV : Nat → Nat) (dC : Nat → ClassId) (dI : Nat → Nat → Nat) (cy : Nat → ClassId) (ad : Nat → Nat) (B : Int) (hB0 : 2147483648 ≤ B) (hB1 : B ≤ 1152921504606846976) (qr : Nat) (s1 : Int)  (a1 : Int32) (ra1 : 0 ≤ a1.toInt) (ta1 : a1.toInt ≤ 11) (a3 : Int64) (ra3 : 0 ≤ a3.toInt) (ta3 : a3.toInt ≤ 96076792050570581) (w0 : va_W) (sz : Nat) (hT : TW ksC ad cy B qr s1 w0)  : Met l yX7_openHours (wu yX7_openHours cX7_openHours 8 (some .int)) ({ frames := 1, cells := 0, slots := 0, locals := 12 }) (va_Pc [.ref (ad 39), .int a1, .int 1, .long a3, .int 1] (wpreS adK adV dC dI cy sz w0)) (va_Qi (Py_X7_openHours_4 ad cy B qr s1 a1 a3 w0) (fun u : va_W => wpost dC dI cy (va_A w0 sz) u) (va_A w0 sz)) 0 0 (va_A w0 sz) := by
  refine Met.ofW (cc := cX7_openHours) (maxL := 8) (ret := (some .int)) (by decide) rfl ?_
  intro p e s m args below meth c s₁ Bk hml hv
  obtain ⟨rfl, ⟨hsz, hP, hK, hD0⟩, hE, hSR⟩ := hv
  have hx := Bk.exec
  have hb := Bk.bytes
  have hr := Bk.returns
  have hlocks := Bk.notSynchronized
  have hC : CallFix p m c cX7_openHours 8 s _ (wu yX7_openHours cX7_openHours 8 (some .int)) RX7 := ⟨hx, hb, hml, findClass_of_methodNamed Bk.named, atoms_spec (ws := (wu yX7_openHours cX7_openHours 8 (some .int))) Bk.pre⟩
  subst hsz
  have hD := hD0.self (sz := s.heap.size)
  generalize hAe : va_A w0 s.heap.size = A at hD hE ⊢
  have hA : ∀ q : Nat, s.heap.size ≤ q → A q := fun q h => by rw [← hAe]; exact Or.inr h
  have hw : Wd dC dI A s.heap s.heap [] w0 := ⟨hP, hD, va_S.rf⟩
  have hF : FE ksC ([] : List (Nat × Nat × Nat)) w0 w0 := FE.rf
  have hl := lv_entry ([.ref (ad 39), .int a1, .int 1, .long a3, .int 1]) (n := 8) (Nat.le_of_ble_eq_true rfl)
  rw [lg_entry_eq]
  generalize (lg_sl ([.ref (ad 39), .int a1, .int 1, .long a3, .int 1]) ++ List.replicate (8 - (lg_sl ([.ref (ad 39), .int a1, .int 1, .long a3, .int 1])).length) Slot.unset).toArray = ls at hl ⊢
  have hl : lv_has ls 8 [(0, .ref (ad 39)), (1, .int a1), (2, .int 1), (3, .long a3), (5, .int 1)] := hl
  generalize hloc : ([] : List Loc) = locs at hw ⊢
  have hinX7 : ∀ w ∈ u_ws RX7 TX7 12, w ∈ (wu yX7_openHours cX7_openHours 8 (some .int)) := fun _ h => List.mem_cons_of_mem _ (up_73 h)
  have J93 : ∀ (v93_6 : Int32) (v93_7 : Int32) (H : Heap) (locs : List Loc) (ls : Array Slot) (w1 : va_W), 0 ≤ a1.toInt → a1.toInt ≤ 11 → 0 ≤ a3.toInt → a3.toInt ≤ 96076792050570581 → 0 ≤ v93_7.toInt → v93_7.toInt ≤ 8 → Wd dC dI A s.heap H locs w1 → TW ksC ad cy B qr s1 w1 → FE ksC ([] : List (Nat × Nat × Nat)) w0 w1 → TT (fun n => m_X7_openHours n 39 a1.toInt 1 a3.toInt 1 (sL w0)) (fun n => b_X7_openHours_93 (j_X7_openHours 39 n) n 39 (a1.toInt) (sL w1)) → lv_has ls 8 [(0, .ref (ad 39)), (1, .int a1), (2, .int 1), (3, .long a3), (5, .int 1), (6, .int v93_6), (7, .int v93_7)] → W p l e ({ frames := 1, cells := 0, slots := 0, locals := 12 }) s m (List.toArray [.ref (ad 39), .int a1, .int 1, .long a3, .int 1]) below meth c H locs 0 0 (MQ below (va_Qi (Py_X7_openHours_4 ad cy B qr s1 a1 a3 w0) (fun u : va_W => wpost dC dI cy A u) A) (List.toArray [.ref (ad 39), .int a1, .int 1, .long a3, .int 1]) s 0 0 A) (F0 m 93 ls []) := by
    intro v93_6 v93_7 H locs ls w1 r2 t3 r4 t5 r6 t7 hw hT hF hM hl
    refine lv_ldc (v := 16777215) hx hb hC.2.2.2.1 (hC.2.2.2.2 _ (List.mem_cons_of_mem _ uw_31_17)) dX7_openHours_93 ?_
    refine lv_aload_n hx hb dX7_openHours_95 rfl (lv_at hl 0 rfl) ?_
    refine tk_getO hC hK hw hT hinX7 kC_at39 (by decide) rfl 3 (by decide) (List.mem_cons_of_mem _ uw_2_20) rfl rfl dX7_openHours_96 ?_
    refine lv_iload_n hx hb dX7_openHours_99 rfl (lv_at hl 1 rfl) ?_
    refine tk_iald hC hK hw hT kC_at43 rfl rfl (show 0 ≤ a1.toInt from r2) (show a1.toInt < 13 from Int.lt_of_le_of_lt t3 (by decide)) dX7_openHours_100 (fun x8 c9 rx8 tx8 => ?_)
    have hox8 := c9
    replace hM := hM.rd (sL_at (kC_lt kC_at43) hox8)
    refine lv_iconst (v := (-1)) hx hb dX7_openHours_101 (by decide) ?_
    refine lv_ixor hx hb dX7_openHours_102 ?_
    refine lv_topi (fun x10 ex10 => ?_)
    have ezx10 := ex10
    replace hM := hM.lt (o32_e (f := fun x y => x ^^^ y) ezx10 rfl (by decide))
    refine lv_iand hx hb dX7_openHours_103 ?_
    refine lv_topi (fun x11 ex11 => ?_)
    have ezx11 := ex11
    have bx11 : 0 ≤ x11.toInt ∧ x11.toInt ≤ (16777215 : Int) := by rw [ex11]; exact wk_andC (by decide)
    replace hM := hM.lt (o32_e (f := fun x y => x &&& y) ezx11 (by decide) rfl)
    exact tk_iret hC hr hlocks hK ⟨hT, hF, hM.ret rfl, ⟨(show 0 ≤ x11.toInt by first | with_reducible assumption | omega), (show x11.toInt ≤ 16777215 by first | with_reducible assumption | omega)⟩⟩ hw dX7_openHours_104
  have L44 : ∀ (n44 : Nat) (v44_6 : Int32) (v44_7 : Int32) (H : Heap) (locs : List Loc) (ls : Array Slot) (w12 : va_W), 0 ≤ a1.toInt → a1.toInt ≤ 11 → 0 ≤ a3.toInt → a3.toInt ≤ 96076792050570581 → 0 ≤ v44_7.toInt → v44_7.toInt ≤ 8 → (8 - v44_7.toInt).toNat < n44 → Wd dC dI A s.heap H locs w12 → TW ksC ad cy B qr s1 w12 → FE ksC ([] : List (Nat × Nat × Nat)) w0 w12 → TT (fun n => m_X7_openHours n 39 a1.toInt 1 a3.toInt 1 (sL w0)) (fun n => j_X7_openHours 39 n 44 [a1.toInt, a3.toInt, v44_6.toInt, v44_7.toInt] (sL w12)) → lv_has ls 8 [(0, .ref (ad 39)), (1, .int a1), (2, .int 1), (3, .long a3), (5, .int 1), (6, .int v44_6), (7, .int v44_7)] → W p l e ({ frames := 1, cells := 0, slots := 0, locals := 12 }) s m (List.toArray [.ref (ad 39), .int a1, .int 1, .long a3, .int 1]) below meth c H locs 0 0 (MQ below (va_Qi (Py_X7_openHours_4 ad cy B qr s1 a1 a3 w0) (fun u : va_W => wpost dC dI cy A u) A) (List.toArray [.ref (ad 39), .int a1, .int 1, .long a3, .int 1]) s 0 0 A) (F0 m 44 ls []) := by
    intro n44
    induction n44 with
    | zero => intro v44_6 v44_7 H locs ls w12 r13 t14 r15 t16 r17 t18 hm44 hw hT hF hM hl; omega
    | succ n44 ih44 =>
      intro v44_6 v44_7 H locs ls w12 r13 t14 r15 t16 r17 t18 hm44 hw hT hF hM hl
      have J81 : ∀ (H : Heap) (locs : List Loc) (ls : Array Slot) (w19 : va_W), 0 ≤ a1.toInt → a1.toInt ≤ 11 → 0 ≤ a3.toInt → a3.toInt ≤ 96076792050570581 → 0 ≤ v44_7.toInt → v44_7.toInt ≤ 7 → Wd dC dI A s.heap H locs w19 → TW ksC ad cy B qr s1 w19 → FE ksC ([] : List (Nat × Nat × Nat)) w0 w19 → TT (fun n => m_X7_openHours n 39 a1.toInt 1 a3.toInt 1 (sL w0)) (fun n => b_X7_openHours_81 (j_X7_openHours 39 n) n 39 (a1.toInt) (a3.toInt) (v44_6.toInt) (v44_7.toInt) (sL w19)) → lv_has ls 8 [(0, .ref (ad 39)), (1, .int a1), (2, .int 1), (3, .long a3), (5, .int 1), (6, .int v44_6), (7, .int v44_7)] → W p l e ({ frames := 1, cells := 0, slots := 0, locals := 12 }) s m (List.toArray [.ref (ad 39), .int a1, .int 1, .long a3, .int 1]) below meth c H locs 0 0 (MQ below (va_Qi (Py_X7_openHours_4 ad cy B qr s1 a1 a3 w0) (fun u : va_W => wpost dC dI cy A u) A) (List.toArray [.ref (ad 39), .int a1, .int 1, .long a3, .int 1]) s 0 0 A) (F0 m 81 ls []) := by
        intro H locs ls w19 r20 t21 r22 t23 r24 t25 hw hT hF hM hl
        refine lv_iload hx hb dX7_openHours_81 (lv_at hl 5 rfl) ?_
        refine lv_iconst (v := 1) hx hb dX7_openHours_83 (by decide) ?_
        refine lv_ishr hx hb dX7_openHours_84 ?_
        refine lv_topi (fun x26 ex26 => ?_)
        have ezx26 := ex26
        replace hM := hM.lt (o32_e (f := fun x y => x >>> (y &&& 31)) ezx26 rfl (by decide))
        refine lv_istore (lv' := [(6, .int x26), (0, .ref (ad 39)), (1, .int a1), (2, .int 1), (3, .long a3), (5, .int 1), (7, .int v44_7)]) hx hb dX7_openHours_85 hl (by decide) rfl (fun ls hl => ?_)
        obtain ⟨x27, ex27⟩ : ∃ y : Int32, y = v44_7 + Int32.ofInt 1 := ⟨_, rfl⟩
        have erx27 := ex27
        refine lv_iinc (v := x27) (lv' := [(7, .int x27), (6, .int x26), (0, .ref (ad 39)), (1, .int a1), (2, .int 1), (3, .long a3), (5, .int 1)]) hx hb dX7_openHours_87 hl (k := 6) rfl ex27.symm (by decide) rfl (fun ls hl => ?_)
        have ex27 : x27.toInt = v44_7.toInt + 1 := by rw [ex27]; exact wk_add (y := 1) (show -2147483648 ≤ v44_7.toInt + 1 by omega) (show v44_7.toInt + 1 ≤ 2147483647 by omega)
        replace hM := hM.lt ex27.symm
        refine lv_goto (tgt := 44) hx hb dX7_openHours_90 (by decide) ?_
        exact ih44 x26 x27 H locs ls w19 (show 0 ≤ a1.toInt from r20) (show a1.toInt ≤ 11 from t21) (show 0 ≤ a3.toInt from r22) (show a3.toInt ≤ 96076792050570581 from t23) (show 0 ≤ x27.toInt by first | with_reducible assumption | omega) (show x27.toInt ≤ 8 by first | with_reducible assumption | omega) (show (8 - x27.toInt).toNat < n44 by first | exact tn_lt hm44 (by omega) (by omega) | omega) hw hT hF hM (lv_sub hl [2, 3, 4, 5, 6, 1, 0] rfl)
      replace hM := hM.suc (fun _ => e_X7_openHours_44)
      refine lv_iload hx hb dX7_openHours_44 (lv_at hl 5 rfl) ?_
      refine lv_if_eq (tgt := 93) hx hb dX7_openHours_46 (by decide) (fun c28 => ?_) (fun c28 => ?_)
      · have c28 : v44_6.toInt = (0 : Int) := wk_eq.mp c28
        replace hM := hM.pos c28
        exact J93 v44_6 v44_7 H locs ls w12 (show 0 ≤ a1.toInt from r13) (show a1.toInt ≤ 11 from t14) (show 0 ≤ a3.toInt from r15) (show a3.toInt ≤ 96076792050570581 from t16) (show 0 ≤ v44_7.toInt from r17) (show v44_7.toInt ≤ 8 from t18)  hw hT hF hM (lv_sub hl [0, 1, 2, 3, 4, 5, 6] rfl)
      · have c28 : ¬ v44_6.toInt = (0 : Int) := wk_eqF c28
        replace hM := hM.neg c28
        refine lv_iload hx hb dX7_openHours_49 (lv_at hl 6 rfl) ?_
        refine lv_bipush (v := 8) hx hb dX7_openHours_51 (by decide) ?_
        refine lv_icmp_ge (tgt := 93) hx hb dX7_openHours_53 (by decide) (fun c29 => ?_) (fun c29 => ?_)
        · have c29 : (8 : Int) ≤ v44_7.toInt := wk_le.mp c29
          replace hM := hM.pos c29
          exact J93 v44_6 v44_7 H locs ls w12 (show 0 ≤ a1.toInt from r13) (show a1.toInt ≤ 11 from t14) (show 0 ≤ a3.toInt from r15) (show a3.toInt ≤ 96076792050570581 from t16) (show 0 ≤ v44_7.toInt from r17) (show v44_7.toInt ≤ 8 from t18)  hw hT hF hM (lv_sub hl [0, 1, 2, 3, 4, 5, 6] rfl)
        · have c29 : v44_7.toInt < (8 : Int) := wk_leF c29
          replace hM := hM.neg (Int.not_le.mpr c29)
          refine lv_iload hx hb dX7_openHours_56 (lv_at hl 5 rfl) ?_
          refine lv_iconst (v := 1) hx hb dX7_openHours_58 (by decide) ?_
          refine lv_iand hx hb dX7_openHours_59 ?_
          refine lv_topi (fun x30 ex30 => ?_)
          have ezx30 := ex30
          have bx30 : 0 ≤ x30.toInt ∧ x30.toInt ≤ (1 : Int) := by rw [ex30]; exact wk_and (by decide)
          replace hM := hM.lt (o32_e (f := fun x y => x &&& y) ezx30 rfl (by decide))
          refine lv_if_eq (tgt := 81) hx hb dX7_openHours_60 (by decide) (fun c31 => ?_) (fun c31 => ?_)
          · have c31 : x30.toInt = (0 : Int) := wk_eq.mp c31
            replace hM := hM.pos c31
            exact J81  H locs ls w12 (show 0 ≤ a1.toInt from r13) (show a1.toInt ≤ 11 from t14) (show 0 ≤ a3.toInt from r15) (show a3.toInt ≤ 96076792050570581 from t16) (show 0 ≤ v44_7.toInt from r17) (show v44_7.toInt ≤ 7 by first | with_reducible assumption | omega)  hw hT hF hM (lv_sub hl [0, 1, 2, 3, 4, 5, 6] rfl)
          · have c31 : ¬ x30.toInt = (0 : Int) := wk_eqF c31
            replace hM := hM.neg c31
            refine lv_aload_n hx hb dX7_openHours_63 rfl (lv_at hl 0 rfl) ?_
            refine tk_getO hC hK hw hT hinX7 kC_at39 (by decide) rfl 6 (by decide) (List.mem_cons_of_mem _ uw_2_23) rfl rfl dX7_openHours_64 ?_
            refine lv_iload hx hb dX7_openHours_67 (lv_at hl 6 rfl) ?_
            refine tk_iald hC hK hw hT kC_at46 rfl rfl (show 0 ≤ v44_7.toInt from r17) (show v44_7.toInt < 8 by first | with_reducible assumption | omega) dX7_openHours_69 (fun x32 c33 rx32 tx32 => ?_)
            have hox32 := c33
            replace hM := hM.rd (sL_at (kC_lt kC_at46) hox32)
            refine lv_lload_n hx hb dX7_openHours_70 rfl (lv_at hl 3 rfl) ?_
            refine lv_ldc2 (v := 360) hx hb hC.2.2.2.1 (hC.2.2.2.2 _ (List.mem_cons_of_mem _ uw_31_16)) dX7_openHours_71 ?_
            refine lv_lrem hx hb dX7_openHours_74 (by decide) ?_
            refine lv_topl (fun x34 ex34 => ?_)
            have ezx34 := ex34
            have ex34 : x34.toInt = a3.toInt % (360 : Int) := by rw [ex34]; exact wk_reml (show 0 ≤ a3.toInt from r15) (show 0 < (360 : Int) by decide)
            replace hM := hM.lt ex34.symm
            refine lv_l2i hx hb dX7_openHours_75 rfl ?_
            refine lv_topi (fun x35 ex35 => ?_)
            have ex35 : x35.toInt = x34.toInt := by rw [ex35]; exact wk_l2i (by omega) (by omega)
            replace hM := hM.lt ex35.symm
            refine lv_icmp_ne (tgt := 81) hx hb dX7_openHours_76 (by decide) (fun c36 => ?_) (fun c36 => ?_)
            · have c36 : ¬ x32.toInt = x35.toInt := wk_eqF c36
              replace hM := hM.pos c36
              exact J81  H locs ls w12 (show 0 ≤ a1.toInt from r13) (show a1.toInt ≤ 11 from t14) (show 0 ≤ a3.toInt from r15) (show a3.toInt ≤ 96076792050570581 from t16) (show 0 ≤ v44_7.toInt from r17) (show v44_7.toInt ≤ 7 by first | with_reducible assumption | omega)  hw hT hF hM (lv_sub hl [0, 1, 2, 3, 4, 5, 6] rfl)
            · have c36 : x32.toInt = x35.toInt := wk_eq.mp c36
              replace hM := hM.neg (fun q => q c36)
              refine lv_iconst (v := 0) hx hb dX7_openHours_79 (by decide) ?_
              exact tk_iret hC hr hlocks hK ⟨hT, hF, hM.ret (by decide), ⟨(by decide), (by decide)⟩⟩ hw dX7_openHours_80
  have hM : TT (fun n => m_X7_openHours n 39 a1.toInt 1 a3.toInt 1 (sL w0)) (fun n => m_X7_openHours n 39 a1.toInt 1 a3.toInt 1 (sL w0)) := TT.rf
  refine lv_aload_n hx hb dX7_openHours_0 rfl (lv_at hl 0 rfl) ?_
  refine tk_getO hC hK hw hT hinX7 kC_at39 (by decide) rfl 4 (by decide) (List.mem_cons_of_mem _ uw_2_21) rfl rfl dX7_openHours_1 ?_
  refine lv_iconst (v := 2) hx hb dX7_openHours_4 (by decide) ?_
  refine lv_iload_n hx hb dX7_openHours_5 rfl (lv_at hl 1 rfl) ?_
  refine lv_imul hx hb dX7_openHours_6 ?_
  refine lv_topi (fun x37 ex37 => ?_)
  have ezx37 := ex37
  have ex37 : x37.toInt = (2 : Int) * a1.toInt := by rw [ex37]; exact wk_mul (show (-2147483648) ≤ (2 : Int) * a1.toInt by omega) (show (2 : Int) * a1.toInt ≤ 2147483647 by omega)
  replace hM := hM.lt ex37.symm
  refine lv_iload_n hx hb dX7_openHours_7 rfl (lv_at hl 2 rfl) ?_
  refine lv_iadd hx hb dX7_openHours_8 ?_
  refine lv_topi (fun x38 ex38 => ?_)
  have ezx38 := ex38
  have ex38 : x38.toInt = x37.toInt + (1 : Int) := by rw [ex38]; exact wk_add (show (-2147483648) ≤ x37.toInt + (1 : Int) by omega) (show x37.toInt + (1 : Int) ≤ 2147483647 by omega)
  replace hM := hM.lt ex38.symm
  refine tk_iald hC hK hw hT kC_at44 rfl rfl (show 0 ≤ x38.toInt by first | with_reducible assumption | omega) (show x38.toInt < 26 by first | with_reducible assumption | omega) dX7_openHours_9 (fun x39 c40 rx39 tx39 => ?_)
  have hox39 := c40
  replace hM := hM.rd (sL_at (kC_lt kC_at44) hox39)
  refine lv_lload_n hx hb dX7_openHours_10 rfl (lv_at hl 3 rfl) ?_
  refine lv_ldc2 (v := 7) hx hb hC.2.2.2.1 (hC.2.2.2.2 _ (List.mem_cons_of_mem _ uw_31_15)) dX7_openHours_11 ?_
  refine lv_lrem hx hb dX7_openHours_14 (by decide) ?_
  refine lv_topl (fun x41 ex41 => ?_)
  have ezx41 := ex41
  have ex41 : x41.toInt = a3.toInt % (7 : Int) := by rw [ex41]; exact wk_reml (show 0 ≤ a3.toInt from ra3) (show 0 < (7 : Int) by decide)
  replace hM := hM.lt ex41.symm
  refine lv_l2i hx hb dX7_openHours_15 rfl ?_
  refine lv_topi (fun x42 ex42 => ?_)
  have ex42 : x42.toInt = x41.toInt := by rw [ex42]; exact wk_l2i (by omega) (by omega)
  replace hM := hM.lt ex42.symm
  refine lv_ishr hx hb dX7_openHours_16 ?_
  refine lv_topi (fun x43 ex43 => ?_)
  have ezx43 := ex43
  replace hM := hM.lt (o32_e (f := fun x y => x >>> (y &&& 31)) ezx43 rfl rfl)
  refine lv_iconst (v := 1) hx hb dX7_openHours_17 (by decide) ?_
  refine lv_iand hx hb dX7_openHours_18 ?_
  refine lv_topi (fun x44 ex44 => ?_)
  have ezx44 := ex44
  have bx44 : 0 ≤ x44.toInt ∧ x44.toInt ≤ (1 : Int) := by rw [ex44]; exact wk_and (by decide)
  replace hM := hM.lt (o32_e (f := fun x y => x &&& y) ezx44 rfl (by decide))
  refine lv_if_ne (tgt := 24) hx hb dX7_openHours_19 (by decide) (fun c45 => ?_) (fun c45 => ?_)
  · have c45 : ¬ x44.toInt = (0 : Int) := wk_eqF c45
    replace hM := hM.pos c45
    refine lv_iload hx hb dX7_openHours_24 (lv_at hl 4 rfl) ?_
    refine lv_if_eq (tgt := 38) hx hb dX7_openHours_26 (by decide) (fun c => absurd c (by decide)) (fun _ => ?_)
    replace hM := hM.neg (by decide)
    refine lv_aload_n hx hb dX7_openHours_29 rfl (lv_at hl 0 rfl) ?_
    refine tk_getO hC hK hw hT hinX7 kC_at39 (by decide) rfl 7 (by decide) (List.mem_cons_of_mem _ uw_3_0) rfl rfl dX7_openHours_30 ?_
    refine lv_iload_n hx hb dX7_openHours_33 rfl (lv_at hl 1 rfl) ?_
    refine tk_iald hC hK hw hT kC_at47 rfl rfl (show 0 ≤ a1.toInt from ra1) (show a1.toInt < 13 from Int.lt_of_le_of_lt ta1 (by decide)) dX7_openHours_34 (fun x46 c47 rx46 tx46 => ?_)
    have hox46 := c47
    replace hM := hM.rd (sL_at (kC_lt kC_at47) hox46)
    refine lv_goto (tgt := 39) hx hb dX7_openHours_35 (by decide) ?_
    refine lv_istore (lv' := [(6, .int x46), (0, .ref (ad 39)), (1, .int a1), (2, .int 1), (3, .long a3), (5, .int 1)]) hx hb dX7_openHours_39 hl (by decide) rfl (fun ls hl => ?_)
    refine lv_iconst (v := 0) hx hb dX7_openHours_41 (by decide) ?_
    refine lv_istore (lv' := [(7, .int 0), (6, .int x46), (0, .ref (ad 39)), (1, .int a1), (2, .int 1), (3, .long a3), (5, .int 1)]) hx hb dX7_openHours_42 hl (by decide) rfl (fun ls hl => ?_)
    exact L44 ((8 - (0 : Int)).toNat + 1) x46 0 s.heap locs ls w0 (show 0 ≤ a1.toInt from ra1) (show a1.toInt ≤ 11 from ta1) (show 0 ≤ a3.toInt from ra3) (show a3.toInt ≤ 96076792050570581 from ta3) (by decide) (by decide) (Nat.lt_succ_self _) hw hT hF hM (lv_sub hl [2, 3, 4, 5, 6, 1, 0] rfl)
  · have c45 : x44.toInt = (0 : Int) := wk_eq.mp c45
    replace hM := hM.neg (fun q => q c45)
    refine lv_iconst (v := 0) hx hb dX7_openHours_22 (by decide) ?_
    exact tk_iret hC hr hlocks hK ⟨hT, hF, hM.ret (by decide), ⟨(by decide), (by decide)⟩⟩ hw dX7_openHours_23
