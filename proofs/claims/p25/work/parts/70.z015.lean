abbrev Pz_X4_tellBest_1 (ad : Nat → Nat) (cy : Nat → ClassId) (B : Int) (qr : Nat) (s1 : Int) (a1 : Int32) (a2 : Int32) (a3 : Int32) (w0 : va_W) : Int32 → va_W → Prop := fun r u => TW ksC ad cy B qr s1 u ∧ FE ksC [(24, 0, 26), (25, 0, 13), (26, 0, 91), (27, 0, 13), (28, 0, 26), (31, 0, 13), (48, 0, 10), (49, 0, 10)] w0 u ∧ Ev (fun n => m_X4_tellBest n 155 a1.toInt a2.toInt a3.toInt (sI w0)) (r.toInt, sI u) ∧ ((r.toInt ≤ 14007 ∧ 2 ≤ a3.toInt) ∨ (0 ≤ r.toInt ∧ r.toInt ≤ 9 ∧ a3.toInt ≤ 1))
set_option maxHeartbeats 4000000 in
set_option maxRecDepth 100000 in
theorem kz_X4_tellBest_1 (l : Launch) (adK adV : Nat → Nat) (dC : Nat → ClassId) (dI : Nat → Nat → Nat) (cy : Nat → ClassId) (ad : Nat → Nat) (B : Int) (hB0 : 2147483648 ≤ B) (hB1 : B ≤ 1152921504606846976) (qr : Nat) (s1 : Int)  (a1 : Int32) (ra1 : 1 ≤ a1.toInt) (ta1 : a1.toInt ≤ 9) (a2 : Int32) (ra2 : 0 ≤ a2.toInt) (ta2 : a2.toInt ≤ 99999) (a3 : Int32) (ra3 : 0 ≤ a3.toInt) (ta3 : a3.toInt ≤ 2) (w0 : va_W) (sz : Nat) (hT : TW ksC ad cy B qr s1 w0)  : Met l yX4_tellBest (wu yX4_tellBest cX4_tellBest 10 (some .int)) ({ frames := 6, cells := 0, slots := 0, locals := 147 }) (va_Pc [.ref (ad 155), .int a1, .int a2, .int a3] (wpreS adK adV dC dI cy sz w0)) (va_Qi (Pz_X4_tellBest_1 ad cy B qr s1 a1 a2 a3 w0) (fun u : va_W => wpost dC dI cy (va_A w0 sz) u) (va_A w0 sz)) 0 0 (va_A w0 sz) := by
  refine Met.ofW (cc := cX4_tellBest) (maxL := 10) (ret := (some .int)) (by decide) rfl ?_
  intro p e s m args below meth c s₁ Bk hml hv
  obtain ⟨rfl, ⟨hsz, hP, hK, hD0⟩, hE, hSR⟩ := hv
  have hx := Bk.exec
  have hb := Bk.bytes
  have hr := Bk.returns
  have hlocks := Bk.notSynchronized
  have hC : CallFix p m c cX4_tellBest 10 s _ (wu yX4_tellBest cX4_tellBest 10 (some .int)) RX4 := ⟨hx, hb, hml, findClass_of_methodNamed Bk.named, atoms_spec (ws := (wu yX4_tellBest cX4_tellBest 10 (some .int))) Bk.pre⟩
  subst hsz
  have hD := hD0.self (sz := s.heap.size)
  generalize hAe : va_A w0 s.heap.size = A at hD hE ⊢
  have hA : ∀ q : Nat, s.heap.size ≤ q → A q := fun q h => by rw [← hAe]; exact Or.inr h
  have hw : Wd dC dI A s.heap s.heap [] w0 := ⟨hP, hD, va_S.rf⟩
  have hF : FE ksC [(24, 0, 26), (25, 0, 13), (26, 0, 91), (27, 0, 13), (28, 0, 26), (31, 0, 13), (48, 0, 10), (49, 0, 10)] w0 w0 := FE.rf
  have hl := lv_entry ([.ref (ad 155), .int a1, .int a2, .int a3]) (n := 10) (Nat.le_of_ble_eq_true rfl)
  rw [lg_entry_eq]
  generalize (lg_sl ([.ref (ad 155), .int a1, .int a2, .int a3]) ++ List.replicate (10 - (lg_sl ([.ref (ad 155), .int a1, .int a2, .int a3])).length) Slot.unset).toArray = ls at hl ⊢
  have hl : lv_has ls 10 [(0, .ref (ad 155)), (1, .int a1), (2, .int a2), (3, .int a3)] := hl
  generalize hloc : ([] : List Loc) = locs at hw ⊢
  have hinX4 : ∀ w ∈ u_ws RX4 TX4 4, w ∈ (wu yX4_tellBest cX4_tellBest 10 (some .int)) := fun _ h => List.mem_cons_of_mem _ (up_80 h)
  have hinX7 : ∀ w ∈ u_ws RX7 TX7 12, w ∈ (wu yX4_tellBest cX4_tellBest 10 (some .int)) := fun _ h => List.mem_cons_of_mem _ (up_73 h)
  have L14 : ∀ (n14 : Nat) (v14_4 : Int32) (v14_5 : Int32) (v14_6 : Int32) (v14_7 : Int32) (H : Heap) (locs : List Loc) (ls : Array Slot) (w1 : va_W), 1 ≤ a1.toInt → a1.toInt ≤ 9 → 0 ≤ a2.toInt → a2.toInt ≤ 99999 → 0 ≤ a3.toInt → a3.toInt ≤ 2 → 0 ≤ v14_4.toInt → v14_4.toInt ≤ 9 → 1 ≤ v14_5.toInt → v14_5.toInt ≤ 9 → v14_6.toInt ≤ 14007 → 0 ≤ v14_7.toInt → v14_7.toInt ≤ 10 → (10 - v14_7.toInt).toNat < n14 → Wd dC dI A s.heap H locs w1 → TW ksC ad cy B qr s1 w1 → FE ksC [(24, 0, 26), (25, 0, 13), (26, 0, 91), (27, 0, 13), (28, 0, 26), (31, 0, 13), (48, 0, 10), (49, 0, 10)] w0 w1 → TT (fun n => m_X4_tellBest n 155 a1.toInt a2.toInt a3.toInt (sI w0)) (fun n => j_X4_tellBest 155 n 14 [a1.toInt, a2.toInt, a3.toInt, v14_4.toInt, v14_5.toInt, v14_6.toInt, v14_7.toInt] (sI w1)) → lv_has ls 10 [(0, .ref (ad 155)), (1, .int a1), (2, .int a2), (3, .int a3), (4, .int v14_4), (5, .int v14_5), (6, .int v14_6), (7, .int v14_7)] → W p l e ({ frames := 6, cells := 0, slots := 0, locals := 147 }) s m (List.toArray [.ref (ad 155), .int a1, .int a2, .int a3]) below meth c H locs 0 0 (MQ below (va_Qi (Pz_X4_tellBest_1 ad cy B qr s1 a1 a2 a3 w0) (fun u : va_W => wpost dC dI cy A u) A) (List.toArray [.ref (ad 155), .int a1, .int a2, .int a3]) s 0 0 A) (F0 m 14 ls []) := by
    intro n14
    induction n14 with
    | zero => intro v14_4 v14_5 v14_6 v14_7 H locs ls w1 r2 t3 r4 t5 r6 t7 r8 t9 r10 t11 t12 r13 t14 hm14 hw hT hF hM hl; omega
    | succ n14 ih14 =>
      intro v14_4 v14_5 v14_6 v14_7 H locs ls w1 r2 t3 r4 t5 r6 t7 r8 t9 r10 t11 t12 r13 t14 hm14 hw hT hF hM hl
      have L32 : ∀ (n32 : Nat) (v32_4 : Int32) (v32_5 : Int32) (v32_6 : Int32) (v32_8 : Int32) (f32_39_8 : Int32) (H : Heap) (locs : List Loc) (ls : Array Slot) (w15 : va_W), 1 ≤ a1.toInt → a1.toInt ≤ 9 → 0 ≤ a2.toInt → a2.toInt ≤ 99999 → 0 ≤ a3.toInt → a3.toInt ≤ 2 → 0 ≤ v32_4.toInt → v32_4.toInt ≤ 9 → 1 ≤ v32_5.toInt → v32_5.toInt ≤ 9 → v32_6.toInt ≤ 14007 → 0 ≤ v14_7.toInt → v14_7.toInt ≤ 9 → 1 ≤ v32_8.toInt → v32_8.toInt ≤ 10 → 1 ≤ f32_39_8.toInt → f32_39_8.toInt ≤ 10 → (10 - v32_8.toInt).toNat < n32 → Wd dC dI A s.heap H locs w15 → TW ksC ad cy B qr s1 w15 → FE ksC [(24, 0, 26), (25, 0, 13), (26, 0, 91), (27, 0, 13), (28, 0, 26), (31, 0, 13), (48, 0, 10), (49, 0, 10)] w0 w15 → gi w15 39 8 = f32_39_8 → TT (fun n => m_X4_tellBest n 155 a1.toInt a2.toInt a3.toInt (sI w0)) (fun n => j_X4_tellBest 155 n 32 [a1.toInt, a2.toInt, a3.toInt, v32_4.toInt, v32_5.toInt, v32_6.toInt, v14_7.toInt, v32_8.toInt] (sI w15)) → lv_has ls 10 [(0, .ref (ad 155)), (1, .int a1), (2, .int a2), (3, .int a3), (4, .int v32_4), (5, .int v32_5), (6, .int v32_6), (7, .int v14_7), (8, .int v32_8)] → W p l e ({ frames := 6, cells := 0, slots := 0, locals := 147 }) s m (List.toArray [.ref (ad 155), .int a1, .int a2, .int a3]) below meth c H locs 0 0 (MQ below (va_Qi (Pz_X4_tellBest_1 ad cy B qr s1 a1 a2 a3 w0) (fun u : va_W => wpost dC dI cy A u) A) (List.toArray [.ref (ad 155), .int a1, .int a2, .int a3]) s 0 0 A) (F0 m 32 ls []) := by
        intro n32
        induction n32 with
        | zero => intro v32_4 v32_5 v32_6 v32_8 f32_39_8 H locs ls w15 r16 t17 r18 t19 r20 t21 r22 t23 r24 t25 t26 r27 t28 r29 t30 r31 t32 hm32 hw hT hF c33 hM hl; omega
        | succ n32 ih32 =>
          intro v32_4 v32_5 v32_6 v32_8 f32_39_8 H locs ls w15 r16 t17 r18 t19 r20 t21 r22 t23 r24 t25 t26 r27 t28 r29 t30 r31 t32 hm32 hw hT hF c33 hM hl
          have J84 : ∀ (v84_4 : Int32) (v84_5 : Int32) (v84_6 : Int32) (v84_9 : Int32) (H : Heap) (locs : List Loc) (ls : Array Slot) (w34 : va_W), 1 ≤ a1.toInt → a1.toInt ≤ 9 → 0 ≤ a2.toInt → a2.toInt ≤ 99999 → 0 ≤ a3.toInt → a3.toInt ≤ 2 → 0 ≤ v84_4.toInt → v84_4.toInt ≤ 9 → 1 ≤ v84_5.toInt → v84_5.toInt ≤ 9 → v84_6.toInt ≤ 14007 → 0 ≤ v14_7.toInt → v14_7.toInt ≤ 9 → 1 ≤ v32_8.toInt → v32_8.toInt ≤ 9 → 2 ≤ f32_39_8.toInt → f32_39_8.toInt ≤ 10 → Wd dC dI A s.heap H locs w34 → TW ksC ad cy B qr s1 w34 → FE ksC [(24, 0, 26), (25, 0, 13), (26, 0, 91), (27, 0, 13), (28, 0, 26), (31, 0, 13), (48, 0, 10), (49, 0, 10)] w0 w34 → gi w34 39 8 = f32_39_8 → TT (fun n => m_X4_tellBest n 155 a1.toInt a2.toInt a3.toInt (sI w0)) (fun n => b_X4_tellBest_84 (j_X4_tellBest 155 n) n 155 (a1.toInt) (a2.toInt) (a3.toInt) (v84_4.toInt) (v84_5.toInt) (v84_6.toInt) (v14_7.toInt) (v32_8.toInt) (sI w34)) → lv_has ls 10 [(0, .ref (ad 155)), (1, .int a1), (2, .int a2), (3, .int a3), (4, .int v84_4), (5, .int v84_5), (6, .int v84_6), (7, .int v14_7), (8, .int v32_8), (9, .int v84_9)] → W p l e ({ frames := 6, cells := 0, slots := 0, locals := 147 }) s m (List.toArray [.ref (ad 155), .int a1, .int a2, .int a3]) below meth c H locs 0 0 (MQ below (va_Qi (Pz_X4_tellBest_1 ad cy B qr s1 a1 a2 a3 w0) (fun u : va_W => wpost dC dI cy A u) A) (List.toArray [.ref (ad 155), .int a1, .int a2, .int a3]) s 0 0 A) (F0 m 84 ls []) := by
            intro v84_4 v84_5 v84_6 v84_9 H locs ls w34 r35 t36 r37 t38 r39 t40 r41 t42 r43 t44 t45 r46 t47 r48 t49 r50 t51 hw hT hF c52 hM hl
            obtain ⟨x53, ex53⟩ : ∃ y : Int32, y = v32_8 + Int32.ofInt 1 := ⟨_, rfl⟩
            have erx53 := ex53
            refine lv_iinc (v := x53) (lv' := [(8, .int x53), (0, .ref (ad 155)), (1, .int a1), (2, .int a2), (3, .int a3), (4, .int v84_4), (5, .int v84_5), (6, .int v84_6), (7, .int v14_7), (9, .int v84_9)]) hx hb dX4_tellBest_84 hl (k := 8) rfl ex53.symm (by decide) rfl (fun ls hl => ?_)
            have ex53 : x53.toInt = v32_8.toInt + 1 := by rw [ex53]; exact wk_add (y := 1) (show -2147483648 ≤ v32_8.toInt + 1 by omega) (show v32_8.toInt + 1 ≤ 2147483647 by omega)
            replace hM := hM.lt ex53.symm
            refine lv_goto (tgt := 32) hx hb dX4_tellBest_87 (by decide) ?_
            exact ih32 v84_4 v84_5 v84_6 x53 f32_39_8 H locs ls w34 (show 1 ≤ a1.toInt from r35) (show a1.toInt ≤ 9 from t36) (show 0 ≤ a2.toInt from r37) (show a2.toInt ≤ 99999 from t38) (show 0 ≤ a3.toInt from r39) (show a3.toInt ≤ 2 from t40) (show 0 ≤ v84_4.toInt from r41) (show v84_4.toInt ≤ 9 from t42) (show 1 ≤ v84_5.toInt from r43) (show v84_5.toInt ≤ 9 from t44) (show v84_6.toInt ≤ 14007 from t45) (show 0 ≤ v14_7.toInt from r46) (show v14_7.toInt ≤ 9 from t47) (show 1 ≤ x53.toInt by first | with_reducible assumption | omega) (show x53.toInt ≤ 10 by first | with_reducible assumption | omega) (show 1 ≤ f32_39_8.toInt from r31) (show f32_39_8.toInt ≤ 10 from t51) (show (10 - x53.toInt).toNat < n32 by omega) hw hT hF c52 hM (lv_sub hl [1, 2, 3, 4, 5, 6, 7, 8, 0] rfl)
          replace hM := hM.suc (fun _ => e_X4_tellBest_32)
          refine lv_iload hx hb dX4_tellBest_32 (lv_at hl 8 rfl) ?_
          refine lv_aload_n hx hb dX4_tellBest_34 rfl (lv_at hl 0 rfl) ?_
          refine tk_getA hC hK hw hT hinX4 kC_at155 (by decide) rfl 1 (by decide) (List.mem_cons_of_mem _ uw_5_23) rfl rfl dX4_tellBest_35 ?_
          refine tk_geti hC hK hw hT hinX7 kC_at39 (by decide) rfl 8 (by decide) (List.mem_cons_of_mem _ uw_49_18) rfl rfl dX4_tellBest_38 (fun x54 c55 rx54 tx54 => ?_)
          refine wk_top f32_39_8 (c55.symm.trans c33) ?_
          replace hM := hM.rd (sI_at c33)
          refine lv_icmp_ge (tgt := 90) hx hb dX4_tellBest_41 (by decide) (fun c56 => ?_) (fun c56 => ?_)
          · have c56 : f32_39_8.toInt ≤ v32_8.toInt := wk_le.mp c56
            replace hM := hM.pos c56
            obtain ⟨x57, ex57⟩ : ∃ y : Int32, y = v14_7 + Int32.ofInt 1 := ⟨_, rfl⟩
            have erx57 := ex57
            refine lv_iinc (v := x57) (lv' := [(7, .int x57), (0, .ref (ad 155)), (1, .int a1), (2, .int a2), (3, .int a3), (4, .int v32_4), (5, .int v32_5), (6, .int v32_6), (8, .int v32_8)]) hx hb dX4_tellBest_90 hl (k := 7) rfl ex57.symm (by decide) rfl (fun ls hl => ?_)
            have ex57 : x57.toInt = v14_7.toInt + 1 := by rw [ex57]; exact wk_add (y := 1) (show -2147483648 ≤ v14_7.toInt + 1 by omega) (show v14_7.toInt + 1 ≤ 2147483647 by omega)
            replace hM := hM.lt ex57.symm
            refine lv_goto (tgt := 14) hx hb dX4_tellBest_93 (by decide) ?_
            exact ih14 v32_4 v32_5 v32_6 x57 H locs ls w15 (show 1 ≤ a1.toInt from r16) (show a1.toInt ≤ 9 from t17) (show 0 ≤ a2.toInt from r18) (show a2.toInt ≤ 99999 from t19) (show 0 ≤ a3.toInt from r20) (show a3.toInt ≤ 2 from t21) (show 0 ≤ v32_4.toInt from r22) (show v32_4.toInt ≤ 9 from t23) (show 1 ≤ v32_5.toInt from r24) (show v32_5.toInt ≤ 9 from t25) (show v32_6.toInt ≤ 14007 from t26) (show 0 ≤ x57.toInt by first | with_reducible assumption | omega) (show x57.toInt ≤ 10 by first | with_reducible assumption | omega) (show (10 - x57.toInt).toNat < n14 by omega) hw hT hF hM (lv_sub hl [1, 2, 3, 4, 5, 6, 7, 0] rfl)
          · have c56 : v32_8.toInt < f32_39_8.toInt := wk_leF c56
            replace hM := hM.neg (Int.not_le.mpr c56)
            refine lv_aload_n hx hb dX4_tellBest_44 rfl (lv_at hl 0 rfl) ?_
            refine tk_getA hC hK hw hT hinX4 kC_at155 (by decide) rfl 1 (by decide) (List.mem_cons_of_mem _ uw_5_23) rfl rfl dX4_tellBest_45 ?_
            refine lv_iload hx hb dX4_tellBest_48 (lv_at hl 7 rfl) ?_
            refine lv_iload hx hb dX4_tellBest_50 (lv_at hl 8 rfl) ?_
            refine lv_iload_n hx hb dX4_tellBest_52 rfl (lv_at hl 1 rfl) ?_
            refine tk_Vv hC hK hw hT hA hE hSR kC_at39 (by decide) rfl (kz_X7_tryStreet_1 l adK adV dC dI cy ad B hB0 (Int.le_trans hB1 (by decide)) qr s1   v14_7 (show 0 ≤ v14_7.toInt from r27) (show v14_7.toInt ≤ 9 from t28) v32_8 (show 1 ≤ v32_8.toInt from r29) (show v32_8.toInt ≤ 9 by first | with_reducible assumption | omega) a1 (show 1 ≤ a1.toInt from r16) (show a1.toInt ≤ 9 from t17) w15 H.size hT ) (cwV 3 hC.2.2.2.2 uV_RX4_87 rfl rfl rfl (by decide +kernel) ⟨Nat.le_of_ble_eq_true rfl, Nat.le_of_ble_eq_true rfl⟩) rfl hl.1 rfl (Nat.le_of_ble_eq_true rfl) dX4_tellBest_53 (fun w60 H locs hp59 hw => ?_)
            obtain ⟨hT, k61, hv63, hg62⟩ := hp59
            have hF := hF.tr k61 (by decide)
            have c64 := k61.gi kC_at39 (by decide) c33
            clear hg62
            replace hM := hM.call hv63 rfl
            refine lv_aload_n hx hb dX4_tellBest_56 rfl (lv_at hl 0 rfl) ?_
            refine lv_iload_n hx hb dX4_tellBest_57 rfl (lv_at hl 2 rfl) ?_
            refine lv_iload hx hb dX4_tellBest_58 (lv_at hl 6 rfl) ?_
            refine tk_Vi hC hK hw hT hA hE hSR kC_at155 (by decide) rfl (kz_X4_sumOfErrands_1 l adK adV dC dI cy ad B hB0 (Int.le_trans hB1 (by decide)) qr s1   a2 (show 0 ≤ a2.toInt from r18) (show a2.toInt ≤ 99999 from t19) v32_6 (show v32_6.toInt ≤ 14007 from t26) w60 H.size hT ) (cwV 2 hC.2.2.2.2 uV_RX4_90 rfl rfl rfl (by decide +kernel) ⟨Nat.le_of_ble_eq_true rfl, Nat.le_of_ble_eq_true rfl⟩) rfl hl.1 rfl (Nat.le_of_ble_eq_true rfl) dX4_tellBest_60 (fun r65 w67 H locs hp66 hw => ?_)
            obtain ⟨hT, k68, hv70, hg69⟩ := hp66
            have hF := hF.tr k68 (by decide)
            have c71 := k68.gi kC_at39 (by decide) c64
            clear hg69
            replace hM := hM.call hv70 rfl
            refine lv_istore (lv' := [(9, .int r65), (0, .ref (ad 155)), (1, .int a1), (2, .int a2), (3, .int a3), (4, .int v32_4), (5, .int v32_5), (6, .int v32_6), (7, .int v14_7), (8, .int v32_8)]) hx hb dX4_tellBest_63 hl (by decide) rfl (fun ls hl => ?_)
            refine lv_iload hx hb dX4_tellBest_65 (lv_at hl 0 rfl) ?_
            refine lv_iload hx hb dX4_tellBest_67 (lv_at hl 7 rfl) ?_
            refine lv_icmp_ge (tgt := 84) hx hb dX4_tellBest_69 (by decide) (fun c72 => ?_) (fun c72 => ?_)
            · have c72 : v32_6.toInt ≤ r65.toInt := wk_le.mp c72
              replace hM := hM.pos c72
              exact J84 v32_4 v32_5 v32_6 r65 H locs ls w67 (show 1 ≤ a1.toInt from r16) (show a1.toInt ≤ 9 from t17) (show 0 ≤ a2.toInt from r18) (show a2.toInt ≤ 99999 from t19) (show 0 ≤ a3.toInt from r20) (show a3.toInt ≤ 2 from t21) (show 0 ≤ v32_4.toInt from r22) (show v32_4.toInt ≤ 9 from t23) (show 1 ≤ v32_5.toInt from r24) (show v32_5.toInt ≤ 9 from t25) (show v32_6.toInt ≤ 14007 from t26) (show 0 ≤ v14_7.toInt from r27) (show v14_7.toInt ≤ 9 from t28) (show 1 ≤ v32_8.toInt from r29) (show v32_8.toInt ≤ 9 by first | with_reducible assumption | omega) (show 2 ≤ f32_39_8.toInt by first | with_reducible assumption | omega) (show f32_39_8.toInt ≤ 10 from t32)  hw hT hF c71 hM (lv_sub hl [1, 2, 3, 4, 5, 6, 7, 8, 9, 0] rfl)
            · have c72 : r65.toInt < v32_6.toInt := wk_leF c72
              replace hM := hM.neg (Int.not_le.mpr c72)
              refine lv_iload hx hb dX4_tellBest_72 (lv_at hl 0 rfl) ?_
              refine lv_istore (lv' := [(6, .int r65), (9, .int r65), (0, .ref (ad 155)), (1, .int a1), (2, .int a2), (3, .int a3), (4, .int v32_4), (5, .int v32_5), (7, .int v14_7), (8, .int v32_8)]) hx hb dX4_tellBest_74 hl (by decide) rfl (fun ls hl => ?_)
              refine lv_iload hx hb dX4_tellBest_76 (lv_at hl 8 rfl) ?_
              refine lv_istore (lv' := [(4, .int v14_7), (6, .int r65), (9, .int r65), (0, .ref (ad 155)), (1, .int a1), (2, .int a2), (3, .int a3), (5, .int v32_5), (7, .int v14_7), (8, .int v32_8)]) hx hb dX4_tellBest_78 hl (by decide) rfl (fun ls hl => ?_)
              refine lv_iload hx hb dX4_tellBest_80 (lv_at hl 9 rfl) ?_
              refine lv_istore (lv' := [(5, .int v32_8), (4, .int v14_7), (6, .int r65), (9, .int r65), (0, .ref (ad 155)), (1, .int a1), (2, .int a2), (3, .int a3), (7, .int v14_7), (8, .int v32_8)]) hx hb dX4_tellBest_82 hl (by decide) rfl (fun ls hl => ?_)
              exact J84 v14_7 v32_8 r65 r65 H locs ls w67 (show 1 ≤ a1.toInt from r16) (show a1.toInt ≤ 9 from t17) (show 0 ≤ a2.toInt from r18) (show a2.toInt ≤ 99999 from t19) (show 0 ≤ a3.toInt from r20) (show a3.toInt ≤ 2 from t21) (show 0 ≤ v14_7.toInt from r27) (show v14_7.toInt ≤ 9 from t28) (show 1 ≤ v32_8.toInt from r29) (show v32_8.toInt ≤ 9 by first | with_reducible assumption | omega) (show r65.toInt ≤ 14007 by first | with_reducible assumption | omega) (show 0 ≤ v14_7.toInt from r27) (show v14_7.toInt ≤ 9 from t28) (show 1 ≤ v32_8.toInt from r29) (show v32_8.toInt ≤ 9 by first | with_reducible assumption | omega) (show 2 ≤ f32_39_8.toInt by first | with_reducible assumption | omega) (show f32_39_8.toInt ≤ 10 from t32)  hw hT hF c71 hM (lv_sub hl [4, 5, 6, 7, 1, 0, 2, 8, 9, 3] rfl)
      replace hM := hM.suc (fun _ => e_X4_tellBest_14)
      refine lv_iload hx hb dX4_tellBest_14 (lv_at hl 7 rfl) ?_
      refine lv_aload_n hx hb dX4_tellBest_16 rfl (lv_at hl 0 rfl) ?_
      refine tk_getA hC hK hw hT hinX4 kC_at155 (by decide) rfl 1 (by decide) (List.mem_cons_of_mem _ uw_5_23) rfl rfl dX4_tellBest_17 ?_
      refine tk_geti hC hK hw hT hinX7 kC_at39 (by decide) rfl 8 (by decide) (List.mem_cons_of_mem _ uw_49_18) rfl rfl dX4_tellBest_20 (fun x73 c74 rx73 tx73 => ?_)
      replace hM := hM.rd (sI_at c74)
      refine lv_icmp_ge (tgt := 96) hx hb dX4_tellBest_23 (by decide) (fun c75 => ?_) (fun c75 => ?_)
      · have c75 : x73.toInt ≤ v14_7.toInt := wk_le.mp c75
        replace hM := hM.pos c75
        refine lv_iload_n hx hb dX4_tellBest_96 rfl (lv_at hl 3 rfl) ?_
        refine lv_iconst (v := 2) hx hb dX4_tellBest_97 (by decide) ?_
        refine lv_icmp_ne (tgt := 104) hx hb dX4_tellBest_98 (by decide) (fun c76 => ?_) (fun c76 => ?_)
        · have c76 : ¬ a3.toInt = (2 : Int) := wk_eqF c76
          replace hM := hM.pos c76
          refine lv_iload_n hx hb dX4_tellBest_104 rfl (lv_at hl 3 rfl) ?_
          refine lv_if_ne (tgt := 113) hx hb dX4_tellBest_105 (by decide) (fun c77 => ?_) (fun c77 => ?_)
          · have c77 : ¬ a3.toInt = (0 : Int) := wk_eqF c77
            replace hM := hM.pos c77
            refine lv_iload hx hb dX4_tellBest_113 (lv_at hl 5 rfl) ?_
            exact tk_iret hC hr hlocks hK ⟨hT, hF, hM.ret rfl, (Or.inr ⟨(show 0 ≤ v14_5.toInt from Int.le_trans (by decide) r10), (show v14_5.toInt ≤ 9 from t11), (show a3.toInt ≤ 1 by first | with_reducible assumption | omega)⟩)⟩ hw dX4_tellBest_115
          · have c77 : a3.toInt = (0 : Int) := wk_eq.mp c77
            replace hM := hM.neg (fun q => q c77)
            refine lv_iload hx hb dX4_tellBest_108 (lv_at hl 4 rfl) ?_
            refine lv_goto (tgt := 115) hx hb dX4_tellBest_110 (by decide) ?_
            exact tk_iret hC hr hlocks hK ⟨hT, hF, hM.ret rfl, (Or.inr ⟨(show 0 ≤ v14_4.toInt from r8), (show v14_4.toInt ≤ 9 from t9), (show a3.toInt ≤ 1 by first | with_reducible assumption | omega)⟩)⟩ hw dX4_tellBest_115
        · have c76 : a3.toInt = (2 : Int) := wk_eq.mp c76
          replace hM := hM.neg (fun q => q c76)
          refine lv_iload hx hb dX4_tellBest_101 (lv_at hl 6 rfl) ?_
          exact tk_iret hC hr hlocks hK ⟨hT, hF, hM.ret rfl, (Or.inl ⟨(show v14_6.toInt ≤ 14007 from t12), (show 2 ≤ a3.toInt by first | with_reducible assumption | omega)⟩)⟩ hw dX4_tellBest_103
      · have c75 : v14_7.toInt < x73.toInt := wk_leF c75
        replace hM := hM.neg (Int.not_le.mpr c75)
        refine lv_iload hx hb dX4_tellBest_26 (lv_at hl 7 rfl) ?_
        refine lv_iconst (v := 1) hx hb dX4_tellBest_28 (by decide) ?_
        refine lv_iadd hx hb dX4_tellBest_29 ?_
        refine lv_topi (fun x78 ex78 => ?_)
        have ezx78 := ex78
        have ex78 : x78.toInt = v14_7.toInt + (1 : Int) := by rw [ex78]; exact wk_add (show (-2147483648) ≤ v14_7.toInt + (1 : Int) by omega) (show v14_7.toInt + (1 : Int) ≤ 2147483647 by omega)
        replace hM := hM.lt ex78.symm
        refine lv_istore (lv' := [(8, .int x78), (0, .ref (ad 155)), (1, .int a1), (2, .int a2), (3, .int a3), (4, .int v14_4), (5, .int v14_5), (6, .int v14_6), (7, .int v14_7)]) hx hb dX4_tellBest_30 hl (by decide) rfl (fun ls hl => ?_)
        exact L32 ((10 - x78.toInt).toNat + 1) v14_4 v14_5 v14_6 x78 x73 H locs ls w1 (show 1 ≤ a1.toInt from r2) (show a1.toInt ≤ 9 from t3) (show 0 ≤ a2.toInt from r4) (show a2.toInt ≤ 99999 from t5) (show 0 ≤ a3.toInt from r6) (show a3.toInt ≤ 2 from t7) (show 0 ≤ v14_4.toInt from r8) (show v14_4.toInt ≤ 9 from t9) (show 1 ≤ v14_5.toInt from r10) (show v14_5.toInt ≤ 9 from t11) (show v14_6.toInt ≤ 14007 from t12) (show 0 ≤ v14_7.toInt from r13) (show v14_7.toInt ≤ 9 by first | with_reducible assumption | omega) (show 1 ≤ x78.toInt by first | with_reducible assumption | omega) (show x78.toInt ≤ 10 by first | with_reducible assumption | omega) (show 1 ≤ x73.toInt by first | with_reducible assumption | omega) (show x73.toInt ≤ 10 from tx73) (Nat.lt_succ_self _) hw hT hF c74 hM (lv_sub hl [1, 2, 3, 4, 5, 6, 7, 8, 0] rfl)
  have hM : TT (fun n => m_X4_tellBest n 155 a1.toInt a2.toInt a3.toInt (sI w0)) (fun n => m_X4_tellBest n 155 a1.toInt a2.toInt a3.toInt (sI w0)) := TT.rf
  refine lv_iconst (v := 0) hx hb dX4_tellBest_0 (by decide) ?_
  refine lv_istore (lv' := [(4, .int 0), (0, .ref (ad 155)), (1, .int a1), (2, .int a2), (3, .int a3)]) hx hb dX4_tellBest_1 hl (by decide) rfl (fun ls hl => ?_)
  refine lv_iconst (v := 1) hx hb dX4_tellBest_3 (by decide) ?_
  refine lv_istore (lv' := [(5, .int 1), (4, .int 0), (0, .ref (ad 155)), (1, .int a1), (2, .int a2), (3, .int a3)]) hx hb dX4_tellBest_4 hl (by decide) rfl (fun ls hl => ?_)
  refine lv_sipush (v := 14007) hx hb dX4_tellBest_6 (by decide) ?_
  refine lv_istore (lv' := [(6, .int 14007), (5, .int 1), (4, .int 0), (0, .ref (ad 155)), (1, .int a1), (2, .int a2), (3, .int a3)]) hx hb dX4_tellBest_9 hl (by decide) rfl (fun ls hl => ?_)
  refine lv_iconst (v := 0) hx hb dX4_tellBest_11 (by decide) ?_
  refine lv_istore (lv' := [(7, .int 0), (6, .int 14007), (5, .int 1), (4, .int 0), (0, .ref (ad 155)), (1, .int a1), (2, .int a2), (3, .int a3)]) hx hb dX4_tellBest_12 hl (by decide) rfl (fun ls hl => ?_)
  exact L14 ((10 - (0 : Int)).toNat + 1) 0 1 14007 0 s.heap locs ls w0 (show 1 ≤ a1.toInt from ra1) (show a1.toInt ≤ 9 from ta1) (show 0 ≤ a2.toInt from ra2) (show a2.toInt ≤ 99999 from ta2) (show 0 ≤ a3.toInt from ra3) (show a3.toInt ≤ 2 from ta3) (by decide) (by decide) (by decide) (by decide) (by decide) (by decide) (by decide) (Nat.lt_succ_self _) hw hT hF hM (lv_sub hl [4, 5, 6, 7, 3, 2, 1, 0] rfl)
abbrev Pz_X11_built_1 (ad : Nat → Nat) (cy : Nat → ClassId) (B : Int) (qr : Nat) (s1 : Int) (a1 : Int32) (a2 : Int32) (a3 : Int32) (w0 : va_W) : Int32 → va_W → Prop := fun r u => TW ksC ad cy B qr s1 u ∧ FE ksC [(24, 0, 26), (25, 0, 13), (26, 0, 91), (27, 0, 13), (28, 0, 26), (31, 0, 13), (48, 0, 10), (49, 0, 10)] w0 u ∧ Ev (fun n => m_X11_built n 0 a1.toInt a2.toInt a3.toInt (sI w0)) (r.toInt, sI u) ∧ ((r.toInt ≤ 14007 ∧ 1 ≤ a1.toInt ∧ a1.toInt ≤ 9 ∧ 0 ≤ a2.toInt ∧ a2.toInt ≤ 99999 ∧ 2 ≤ a3.toInt ∧ a3.toInt ≤ 2 ∧ (∃ y : Int32, gi u 39 8 = y ∧ 1 ≤ y.toInt ∧ y.toInt ≤ 10)) ∨ (0 ≤ r.toInt ∧ r.toInt ≤ 9 ∧ 1 ≤ a1.toInt ∧ a1.toInt ≤ 9 ∧ 0 ≤ a2.toInt ∧ a2.toInt ≤ 99999 ∧ 0 ≤ a3.toInt ∧ a3.toInt ≤ 1 ∧ (∃ y : Int32, gi u 39 8 = y ∧ 1 ≤ y.toInt ∧ y.toInt ≤ 10)) ∨ (r = (-1)))
set_option maxHeartbeats 4000000 in
set_option maxRecDepth 100000 in
theorem kz_X11_built_1 (l : Launch) (adK adV : Nat → Nat) (dC : Nat → ClassId) (dI : Nat → Nat → Nat) (cy : Nat → ClassId) (ad : Nat → Nat) (B : Int) (hB0 : 2147483648 ≤ B) (hB1 : B ≤ 1152921504606846976) (qr : Nat) (s1 : Int)  (a1 : Int32) (a2 : Int32) (a3 : Int32) (w0 : va_W) (sz : Nat) (hT : TW ksC ad cy B qr s1 w0)  : Met l yX11_built (wu yX11_built cX11_built 4 (some .int)) ({ frames := 7, cells := 0, slots := 0, locals := 176 }) (va_Pc [.ref (ad 0), .int a1, .int a2, .int a3] (wpreS adK adV dC dI cy sz w0)) (va_Qi (Pz_X11_built_1 ad cy B qr s1 a1 a2 a3 w0) (fun u : va_W => wpost dC dI cy (va_A w0 sz) u) (va_A w0 sz)) 0 0 (va_A w0 sz) := by
  refine Met.ofW (cc := cX11_built) (maxL := 4) (ret := (some .int)) (by decide) rfl ?_
  intro p e s m args below meth c s₁ Bk hml hv
  obtain ⟨rfl, ⟨hsz, hP, hK, hD0⟩, hE, hSR⟩ := hv
  have hx := Bk.exec
  have hb := Bk.bytes
  have hr := Bk.returns
  have hlocks := Bk.notSynchronized
  have hC : CallFix p m c cX11_built 4 s _ (wu yX11_built cX11_built 4 (some .int)) RX11 := ⟨hx, hb, hml, findClass_of_methodNamed Bk.named, atoms_spec (ws := (wu yX11_built cX11_built 4 (some .int))) Bk.pre⟩
  subst hsz
  have hD := hD0.self (sz := s.heap.size)
  generalize hAe : va_A w0 s.heap.size = A at hD hE ⊢
  have hA : ∀ q : Nat, s.heap.size ≤ q → A q := fun q h => by rw [← hAe]; exact Or.inr h
  have hw : Wd dC dI A s.heap s.heap [] w0 := ⟨hP, hD, va_S.rf⟩
  have hF : FE ksC [(24, 0, 26), (25, 0, 13), (26, 0, 91), (27, 0, 13), (28, 0, 26), (31, 0, 13), (48, 0, 10), (49, 0, 10)] w0 w0 := FE.rf
  have hl := lv_entry ([.ref (ad 0), .int a1, .int a2, .int a3]) (n := 4) (Nat.le_of_ble_eq_true rfl)
  rw [lg_entry_eq]
  generalize (lg_sl ([.ref (ad 0), .int a1, .int a2, .int a3]) ++ List.replicate (4 - (lg_sl ([.ref (ad 0), .int a1, .int a2, .int a3])).length) Slot.unset).toArray = ls at hl ⊢
  have hl : lv_has ls 4 [(0, .ref (ad 0)), (1, .int a1), (2, .int a2), (3, .int a3)] := hl
  generalize hloc : ([] : List Loc) = locs at hw ⊢
  have hinX11 : ∀ w ∈ u_ws RX11 TX11 13, w ∈ (wu yX11_built cX11_built 4 (some .int)) := fun _ h => List.mem_cons_of_mem _ (up_70 h)
  have J28 : ∀ (f28_39_8 : Int32) (H : Heap) (locs : List Loc) (ls : Array Slot) (w1 : va_W), (-1) ≤ f28_39_8.toInt → f28_39_8.toInt ≤ 10 → Wd dC dI A s.heap H locs w1 → TW ksC ad cy B qr s1 w1 → FE ksC [(24, 0, 26), (25, 0, 13), (26, 0, 91), (27, 0, 13), (28, 0, 26), (31, 0, 13), (48, 0, 10), (49, 0, 10)] w0 w1 → gi w1 39 8 = f28_39_8 → TT (fun n => m_X11_built n 0 a1.toInt a2.toInt a3.toInt (sI w0)) (fun n => b_X11_built_28 n 0 (sI w1)) → lv_has ls 4 [(0, .ref (ad 0)), (1, .int a1), (2, .int a2), (3, .int a3)] → W p l e ({ frames := 7, cells := 0, slots := 0, locals := 176 }) s m (List.toArray [.ref (ad 0), .int a1, .int a2, .int a3]) below meth c H locs 0 0 (MQ below (va_Qi (Pz_X11_built_1 ad cy B qr s1 a1 a2 a3 w0) (fun u : va_W => wpost dC dI cy A u) A) (List.toArray [.ref (ad 0), .int a1, .int a2, .int a3]) s 0 0 A) (F0 m 28 ls []) := by
    intro f28_39_8 H locs ls w1 r2 t3 hw hT hF c4 hM hl
    refine lv_iconst (v := (-1)) hx hb dX11_built_28 (by decide) ?_
    exact tk_iret hC hr hlocks hK ⟨hT, hF, hM.ret (by decide), (Or.inr (Or.inr rfl))⟩ hw dX11_built_29
  have J39 : ∀ (f39_39_8 : Int32) (H : Heap) (locs : List Loc) (ls : Array Slot) (w5 : va_W), 1 ≤ a1.toInt → a1.toInt ≤ 9 → 0 ≤ a2.toInt → a2.toInt ≤ 99999 → 1 ≤ f39_39_8.toInt → f39_39_8.toInt ≤ 10 → Wd dC dI A s.heap H locs w5 → TW ksC ad cy B qr s1 w5 → FE ksC [(24, 0, 26), (25, 0, 13), (26, 0, 91), (27, 0, 13), (28, 0, 26), (31, 0, 13), (48, 0, 10), (49, 0, 10)] w0 w5 → gi w5 39 8 = f39_39_8 → TT (fun n => m_X11_built n 0 a1.toInt a2.toInt a3.toInt (sI w0)) (fun n => b_X11_built_39 n 0 (sI w5)) → lv_has ls 4 [(0, .ref (ad 0)), (1, .int a1), (2, .int a2), (3, .int a3)] → W p l e ({ frames := 7, cells := 0, slots := 0, locals := 176 }) s m (List.toArray [.ref (ad 0), .int a1, .int a2, .int a3]) below meth c H locs 0 0 (MQ below (va_Qi (Pz_X11_built_1 ad cy B qr s1 a1 a2 a3 w0) (fun u : va_W => wpost dC dI cy A u) A) (List.toArray [.ref (ad 0), .int a1, .int a2, .int a3]) s 0 0 A) (F0 m 39 ls []) := by
    intro f39_39_8 H locs ls w5 r6 t7 r8 t9 r10 t11 hw hT hF c12 hM hl
    refine lv_iconst (v := (-1)) hx hb dX11_built_39 (by decide) ?_
    refine lv_goto (tgt := 53) hx hb dX11_built_40 (by decide) ?_
    exact tk_iret hC hr hlocks hK ⟨hT, hF, hM.ret (by decide), (Or.inr (Or.inr rfl))⟩ hw dX11_built_53
  have hM : TT (fun n => m_X11_built n 0 a1.toInt a2.toInt a3.toInt (sI w0)) (fun n => m_X11_built n 0 a1.toInt a2.toInt a3.toInt (sI w0)) := TT.rf
  refine lv_aload_n hx hb dX11_built_0 rfl (lv_at hl 0 rfl) ?_
  refine tk_getA hC hK hw hT hinX11 kC_at0 (by decide) rfl 4 (by decide) (List.mem_cons_of_mem _ uw_1_7) rfl rfl dX11_built_1 ?_
  refine tk_Vi hC hK hw hT hA hE hSR kC_at38 (by decide) rfl (kz_X5_hasTown_1 l adK adV dC dI cy ad B hB0 (Int.le_trans hB1 (by decide)) qr s1    w0 s.heap.size hT ) (cwV 0 hC.2.2.2.2 uV_RX11_158 rfl rfl rfl (by decide +kernel) ⟨Nat.le_of_ble_eq_true rfl, Nat.le_of_ble_eq_true rfl⟩) rfl hl.1 rfl (Nat.le_of_ble_eq_true rfl) dX11_built_4 (fun r13 w15 H locs hp14 hw => ?_)
  obtain ⟨hT, k16, hv22, hg21⟩ := hp14
  have hF := hF.tr k16 (by decide)
  rcases hg21 with ⟨rfl, ⟨x17, c18, rx17, tx17⟩⟩ | ⟨rfl, ⟨x19, c20, rx19, tx19⟩⟩
  · replace hM := hM.call (r' := 0) hv22 (by decide)
    refine lv_if_eq (tgt := 28) hx hb dX11_built_7 (by decide) (fun _ => ?_) (fun c => absurd (by decide) c)
    replace hM := hM.pos (by decide)
    exact J28 x17 H locs ls w15 (show (-1) ≤ x17.toInt by first | with_reducible assumption | omega) (show x17.toInt ≤ 10 by first | with_reducible assumption | omega)  hw hT hF c18 hM (lv_sub hl [0, 1, 2, 3] rfl)
  · replace hM := hM.call (r' := 1) hv22 (by decide)
    refine lv_if_eq (tgt := 28) hx hb dX11_built_7 (by decide) (fun c => absurd c (by decide)) (fun _ => ?_)
    replace hM := hM.neg (by decide)
    refine lv_iload_n hx hb dX11_built_10 rfl (lv_at hl 1 rfl) ?_
    refine lv_iconst (v := 1) hx hb dX11_built_11 (by decide) ?_
    refine lv_icmp_lt (tgt := 28) hx hb dX11_built_12 (by decide) (fun c23 => ?_) (fun c23 => ?_)
    · have c23 : a1.toInt < (1 : Int) := wk_lt.mp c23
      replace hM := hM.pos c23
      exact J28 x19 H locs ls w15 (show (-1) ≤ x19.toInt by first | with_reducible assumption | omega) (show x19.toInt ≤ 10 by first | with_reducible assumption | omega)  hw hT hF c20 hM (lv_sub hl [0, 1, 2, 3] rfl)
    · have c23 : (1 : Int) ≤ a1.toInt := wk_ltF c23
      replace hM := hM.neg (Int.not_lt.mpr c23)
      refine lv_iload_n hx hb dX11_built_15 rfl (lv_at hl 1 rfl) ?_
      refine lv_bipush (v := 9) hx hb dX11_built_16 (by decide) ?_
      refine lv_icmp_gt (tgt := 28) hx hb dX11_built_18 (by decide) (fun c24 => ?_) (fun c24 => ?_)
      · have c24 : (9 : Int) < a1.toInt := wk_lt.mp c24
        replace hM := hM.pos c24
        exact J28 x19 H locs ls w15 (show (-1) ≤ x19.toInt by first | with_reducible assumption | omega) (show x19.toInt ≤ 10 by first | with_reducible assumption | omega)  hw hT hF c20 hM (lv_sub hl [0, 1, 2, 3] rfl)
      · have c24 : a1.toInt ≤ (9 : Int) := wk_ltF c24
        replace hM := hM.neg (Int.not_lt.mpr c24)
        refine lv_iload_n hx hb dX11_built_21 rfl (lv_at hl 2 rfl) ?_
        refine tk_Si hC hK hw hT hA hE hSR (kz_X11_isAskedHour_1 l adK adV dC dI cy ad B hB0 (Int.le_trans hB1 (by decide)) qr s1   a2 w15 H.size hT ) (va_cwS 1 hC.2.2.2.2 uS_RX11_222 rfl rfl rfl (by decide +kernel) ⟨Nat.le_of_ble_eq_true rfl, Nat.le_of_ble_eq_true rfl⟩) rfl hl.1 rfl (Nat.le_of_ble_eq_true rfl) dX11_built_22 (fun r25 w27 H locs hp26 hw => ?_)
        obtain ⟨hT, k28, hv32, hg31⟩ := hp26
        have hF := hF.tr k28 (by decide)
        have c33 := k28.gi kC_at39 (by decide) c20
        rcases hg31 with rfl | ⟨rfl, g29, g30⟩
        · replace hM := hM.call (r' := 0) hv32 (by decide)
          refine lv_if_ne (tgt := 30) hx hb dX11_built_25 (by decide) (fun c => absurd (by decide) c) (fun _ => ?_)
          replace hM := hM.neg (by decide)
          exact J28 x19 H locs ls w27 (show (-1) ≤ x19.toInt by first | with_reducible assumption | omega) (show x19.toInt ≤ 10 by first | with_reducible assumption | omega)  hw hT hF c33 hM (lv_sub hl [0, 1, 2, 3] rfl)
        · replace hM := hM.call (r' := 1) hv32 (by decide)
          refine lv_if_ne (tgt := 30) hx hb dX11_built_25 (by decide) (fun _ => ?_) (fun c => absurd c (by decide))
          replace hM := hM.pos (by decide)
          refine lv_iload_n hx hb dX11_built_30 rfl (lv_at hl 3 rfl) ?_
          refine lv_if_lt (tgt := 39) hx hb dX11_built_31 (by decide) (fun c34 => ?_) (fun c34 => ?_)
          · have c34 : a3.toInt < (0 : Int) := wk_lt.mp c34
            replace hM := hM.pos c34
            exact J39 x19 H locs ls w27 (show 1 ≤ a1.toInt by first | with_reducible assumption | omega) (show a1.toInt ≤ 9 by first | with_reducible assumption | omega) (show 0 ≤ a2.toInt by first | with_reducible assumption | omega) (show a2.toInt ≤ 99999 by first | with_reducible assumption | omega) (show 1 ≤ x19.toInt by first | with_reducible assumption | omega) (show x19.toInt ≤ 10 by first | with_reducible assumption | omega)  hw hT hF c33 hM (lv_sub hl [0, 1, 2, 3] rfl)
          · have c34 : (0 : Int) ≤ a3.toInt := wk_ltF c34
            replace hM := hM.neg (Int.not_lt.mpr c34)
            refine lv_iload_n hx hb dX11_built_34 rfl (lv_at hl 3 rfl) ?_
            refine lv_iconst (v := 2) hx hb dX11_built_35 (by decide) ?_
            refine lv_icmp_le (tgt := 43) hx hb dX11_built_36 (by decide) (fun c35 => ?_) (fun c35 => ?_)
            · have c35 : a3.toInt ≤ (2 : Int) := wk_le.mp c35
              replace hM := hM.pos c35
              refine lv_aload_n hx hb dX11_built_43 rfl (lv_at hl 0 rfl) ?_
              refine tk_getA hC hK hw hT hinX11 kC_at0 (by decide) rfl 10 (by decide) (List.mem_cons_of_mem _ uw_2_2) rfl rfl dX11_built_44 ?_
              refine lv_iload_n hx hb dX11_built_47 rfl (lv_at hl 1 rfl) ?_
              refine lv_iload_n hx hb dX11_built_48 rfl (lv_at hl 2 rfl) ?_
              refine lv_iload_n hx hb dX11_built_49 rfl (lv_at hl 3 rfl) ?_
              refine tk_Vi hC hK hw hT hA hE hSR kC_at155 (by decide) rfl (kz_X4_tellBest_1 l adK adV dC dI cy ad B hB0 (Int.le_trans hB1 (by decide)) qr s1   a1 (show 1 ≤ a1.toInt by first | with_reducible assumption | omega) (show a1.toInt ≤ 9 by first | with_reducible assumption | omega) a2 (show 0 ≤ a2.toInt by first | with_reducible assumption | omega) (show a2.toInt ≤ 99999 by first | with_reducible assumption | omega) a3 (show 0 ≤ a3.toInt by first | with_reducible assumption | omega) (show a3.toInt ≤ 2 by first | with_reducible assumption | omega) w27 H.size hT ) (cwV 3 hC.2.2.2.2 uV_RX11_292 rfl rfl rfl (by decide +kernel) ⟨Nat.le_of_ble_eq_true rfl, Nat.le_of_ble_eq_true rfl⟩) rfl hl.1 rfl (Nat.le_of_ble_eq_true rfl) dX11_built_50 (fun r36 w38 H locs hp37 hw => ?_)
              obtain ⟨hT, k39, hv46, hg45⟩ := hp37
              have hF := hF.tr k39 (by decide)
              have c47 := k39.gi kC_at39 (by decide) c33
              rcases hg45 with ⟨g40, g41⟩ | ⟨g42, g43, g44⟩
              · replace hM := hM.call hv46 rfl
                exact tk_iret hC hr hlocks hK ⟨hT, hF, hM.ret rfl, (Or.inl ⟨(show r36.toInt ≤ 14007 by first | with_reducible assumption | omega), (show 1 ≤ a1.toInt by first | with_reducible assumption | omega), (show a1.toInt ≤ 9 by first | with_reducible assumption | omega), (show 0 ≤ a2.toInt by first | with_reducible assumption | omega), (show a2.toInt ≤ 99999 by first | with_reducible assumption | omega), (show 2 ≤ a3.toInt by first | with_reducible assumption | omega), (show a3.toInt ≤ 2 by first | with_reducible assumption | omega), ⟨x19, c47, (show 1 ≤ x19.toInt by first | with_reducible assumption | omega), (show x19.toInt ≤ 10 by first | with_reducible assumption | omega)⟩⟩)⟩ hw dX11_built_53
              · replace hM := hM.call hv46 rfl
                exact tk_iret hC hr hlocks hK ⟨hT, hF, hM.ret rfl, (Or.inr (Or.inl ⟨(show 0 ≤ r36.toInt by first | with_reducible assumption | omega), (show r36.toInt ≤ 9 by first | with_reducible assumption | omega), (show 1 ≤ a1.toInt by first | with_reducible assumption | omega), (show a1.toInt ≤ 9 by first | with_reducible assumption | omega), (show 0 ≤ a2.toInt by first | with_reducible assumption | omega), (show a2.toInt ≤ 99999 by first | with_reducible assumption | omega), (show 0 ≤ a3.toInt by first | with_reducible assumption | omega), (show a3.toInt ≤ 1 by first | with_reducible assumption | omega), ⟨x19, c47, (show 1 ≤ x19.toInt by first | with_reducible assumption | omega), (show x19.toInt ≤ 10 by first | with_reducible assumption | omega)⟩⟩))⟩ hw dX11_built_53
            · have c35 : (2 : Int) < a3.toInt := wk_leF c35
              replace hM := hM.neg (Int.not_le.mpr c35)
              exact J39 x19 H locs ls w27 (show 1 ≤ a1.toInt by first | with_reducible assumption | omega) (show a1.toInt ≤ 9 by first | with_reducible assumption | omega) (show 0 ≤ a2.toInt by first | with_reducible assumption | omega) (show a2.toInt ≤ 99999 by first | with_reducible assumption | omega) (show 1 ≤ x19.toInt by first | with_reducible assumption | omega) (show x19.toInt ≤ 10 by first | with_reducible assumption | omega)  hw hT hF c33 hM (lv_sub hl [0, 1, 2, 3] rfl)
abbrev Pz_X5_fitsSights_1 (ad : Nat → Nat) (cy : Nat → ClassId) (B : Int) (qr : Nat) (s1 : Int) (a1 : Int32) (w0 : va_W) : Int32 → va_W → Prop := fun r u => TW ksC ad cy B qr s1 u ∧ FE ksC ([] : List (Nat × Nat × Nat)) w0 u ∧ Ev (fun n => m_X5_fitsSights n 38 a1.toInt (sI w0)) (r.toInt, sI u) ∧ ((r = 0 ∧ (∃ y : Int32, gi u 38 11 = y ∧ 1 ≤ y.toInt ∧ y.toInt ≤ 12)) ∨ (r = 1))
set_option maxHeartbeats 4000000 in
set_option maxRecDepth 100000 in
theorem kz_X5_fitsSights_1 (l : Launch) (adK adV : Nat → Nat) (dC : Nat → ClassId) (dI : Nat → Nat → Nat) (cy : Nat → ClassId) (ad : Nat → Nat) (B : Int) (hB0 : 2147483648 ≤ B) (hB1 : B ≤ 1152921504606846976) (qr : Nat) (s1 : Int)  (a1 : Int32) (ra1 : 0 ≤ a1.toInt) (ta1 : a1.toInt ≤ 6) (w0 : va_W) (sz : Nat) (hT : TW ksC ad cy B qr s1 w0)  : Met l yX5_fitsSights (wu yX5_fitsSights cX5_fitsSights 3 (some .boolean)) ({ frames := 2, cells := 0, slots := 0, locals := 34 }) (va_Pc [.ref (ad 38), .int a1] (wpreS adK adV dC dI cy sz w0)) (va_Qi (Pz_X5_fitsSights_1 ad cy B qr s1 a1 w0) (fun u : va_W => wpost dC dI cy (va_A w0 sz) u) (va_A w0 sz)) 0 0 (va_A w0 sz) := by
  refine Met.ofW (cc := cX5_fitsSights) (maxL := 3) (ret := (some .boolean)) (by decide) rfl ?_
  intro p e s m args below meth c s₁ Bk hml hv
  obtain ⟨rfl, ⟨hsz, hP, hK, hD0⟩, hE, hSR⟩ := hv
  have hx := Bk.exec
  have hb := Bk.bytes
  have hr := Bk.returns
  have hlocks := Bk.notSynchronized
  have hC : CallFix p m c cX5_fitsSights 3 s _ (wu yX5_fitsSights cX5_fitsSights 3 (some .boolean)) RX5 := ⟨hx, hb, hml, findClass_of_methodNamed Bk.named, atoms_spec (ws := (wu yX5_fitsSights cX5_fitsSights 3 (some .boolean))) Bk.pre⟩
  subst hsz
  have hD := hD0.self (sz := s.heap.size)
  generalize hAe : va_A w0 s.heap.size = A at hD hE ⊢
  have hA : ∀ q : Nat, s.heap.size ≤ q → A q := fun q h => by rw [← hAe]; exact Or.inr h
  have hw : Wd dC dI A s.heap s.heap [] w0 := ⟨hP, hD, va_S.rf⟩
  have hF : FE ksC ([] : List (Nat × Nat × Nat)) w0 w0 := FE.rf
  have hl := lv_entry ([.ref (ad 38), .int a1]) (n := 3) (Nat.le_of_ble_eq_true rfl)
  rw [lg_entry_eq]
  generalize (lg_sl ([.ref (ad 38), .int a1]) ++ List.replicate (3 - (lg_sl ([.ref (ad 38), .int a1])).length) Slot.unset).toArray = ls at hl ⊢
  have hl : lv_has ls 3 [(0, .ref (ad 38)), (1, .int a1)] := hl
  generalize hloc : ([] : List Loc) = locs at hw ⊢
  have hinX5 : ∀ w ∈ u_ws RX5 TX5 14, w ∈ (wu yX5_fitsSights cX5_fitsSights 3 (some .boolean)) := fun _ h => List.mem_cons_of_mem _ (up_76 h)
  have L2 : ∀ (n2 : Nat) (v2_2 : Int32) (H : Heap) (locs : List Loc) (ls : Array Slot) (w1 : va_W), 0 ≤ a1.toInt → a1.toInt ≤ 6 → 0 ≤ v2_2.toInt → v2_2.toInt ≤ 12 → (12 - v2_2.toInt).toNat < n2 → Wd dC dI A s.heap H locs w1 → TW ksC ad cy B qr s1 w1 → FE ksC ([] : List (Nat × Nat × Nat)) w0 w1 → TT (fun n => m_X5_fitsSights n 38 a1.toInt (sI w0)) (fun n => j_X5_fitsSights 38 n 2 [a1.toInt, v2_2.toInt] (sI w1)) → lv_has ls 3 [(0, .ref (ad 38)), (1, .int a1), (2, .int v2_2)] → W p l e ({ frames := 2, cells := 0, slots := 0, locals := 34 }) s m (List.toArray [.ref (ad 38), .int a1]) below meth c H locs 0 0 (MQ below (va_Qi (Pz_X5_fitsSights_1 ad cy B qr s1 a1 w0) (fun u : va_W => wpost dC dI cy A u) A) (List.toArray [.ref (ad 38), .int a1]) s 0 0 A) (F0 m 2 ls []) := by
    intro n2
    induction n2 with
    | zero => intro v2_2 H locs ls w1 r2 t3 r4 t5 hm2 hw hT hF hM hl; omega
    | succ n2 ih2 =>
      intro v2_2 H locs ls w1 r2 t3 r4 t5 hm2 hw hT hF hM hl
      replace hM := hM.suc (fun _ => e_X5_fitsSights_2)
      refine lv_iload_n hx hb dX5_fitsSights_2 rfl (lv_at hl 2 rfl) ?_
      refine lv_aload_n hx hb dX5_fitsSights_3 rfl (lv_at hl 0 rfl) ?_
      refine tk_geti hC hK hw hT hinX5 kC_at38 (by decide) rfl 11 (by decide) (List.mem_cons_of_mem _ uw_18_13) rfl rfl dX5_fitsSights_4 (fun x6 c7 rx6 tx6 => ?_)
      replace hM := hM.rd (sI_at c7)
      refine lv_icmp_ge (tgt := 41) hx hb dX5_fitsSights_7 (by decide) (fun c8 => ?_) (fun c8 => ?_)
      · have c8 : x6.toInt ≤ v2_2.toInt := wk_le.mp c8
        replace hM := hM.pos c8
        refine lv_iconst (v := 1) hx hb dX5_fitsSights_41 (by decide) ?_
        exact tk_zret hC hr rfl hlocks hK ⟨hT, hF, hM.ret (by decide), (Or.inr rfl)⟩ hw dX5_fitsSights_42
      · have c8 : v2_2.toInt < x6.toInt := wk_leF c8
        replace hM := hM.neg (Int.not_le.mpr c8)
        refine lv_aload_n hx hb dX5_fitsSights_10 rfl (lv_at hl 0 rfl) ?_
        refine tk_getO hC hK hw hT hinX5 kC_at38 (by decide) rfl 0 (by decide) (List.mem_cons_of_mem _ uw_3_18) rfl rfl dX5_fitsSights_11 ?_
        refine lv_aload_n hx hb dX5_fitsSights_14 rfl (lv_at hl 0 rfl) ?_
        refine tk_getO hC hK hw hT hinX5 kC_at38 (by decide) rfl 5 (by decide) (List.mem_cons_of_mem _ uw_4_0) rfl rfl dX5_fitsSights_15 ?_
        refine lv_iload_n hx hb dX5_fitsSights_18 rfl (lv_at hl 2 rfl) ?_
        refine tk_iald hC hK hw hT kC_at52 rfl rfl (show 0 ≤ v2_2.toInt from r4) (show v2_2.toInt < 12 by first | with_reducible assumption | omega) dX5_fitsSights_19 (fun x9 c10 rx9 tx9 => ?_)
        have hox9 := c10
        replace hM := hM.rd (sI_at hox9)
        refine lv_iload_n hx hb dX5_fitsSights_20 rfl (lv_at hl 1 rfl) ?_
        refine tk_Vi hC hK hw hT hA hE hSR kC_at39 (by decide) rfl (kz_X7_signOn_1 l adK adV dC dI cy ad B hB0 (Int.le_trans hB1 (by decide)) qr s1   x9 (show 0 ≤ x9.toInt from rx9) (show x9.toInt ≤ 11 from tx9) a1 (show 0 ≤ a1.toInt from r2) (show a1.toInt ≤ 6 from t3) w1 H.size hT ) (cwV 2 hC.2.2.2.2 uV_RX5_86 rfl rfl rfl (by decide +kernel) ⟨Nat.le_of_ble_eq_true rfl, Nat.le_of_ble_eq_true rfl⟩) rfl hl.1 rfl (Nat.le_of_ble_eq_true rfl) dX5_fitsSights_21 (fun r11 w13 H locs hp12 hw => ?_)
        obtain ⟨hT, k14, hv18, hg17⟩ := hp12
        have hF := hF.tr k14 (by decide)
        have c19 := k14.gi kC_at38 (by decide) c7
        obtain ⟨g15, g16⟩ := hg17
        replace hM := hM.call hv18 rfl
        refine lv_aload_n hx hb dX5_fitsSights_24 rfl (lv_at hl 0 rfl) ?_
        refine tk_getO hC hK hw hT hinX5 kC_at38 (by decide) rfl 6 (by decide) (List.mem_cons_of_mem _ uw_4_1) rfl rfl dX5_fitsSights_25 ?_
        refine lv_iload_n hx hb dX5_fitsSights_28 rfl (lv_at hl 2 rfl) ?_
        refine tk_iald hC hK hw hT kC_at53 rfl rfl (show 0 ≤ v2_2.toInt from r4) (show v2_2.toInt < 12 by first | with_reducible assumption | omega) dX5_fitsSights_29 (fun x20 c21 rx20 tx20 => ?_)
        have hox20 := c21
        replace hM := hM.rd (sI_at hox20)
        refine lv_icmp_eq (tgt := 35) hx hb dX5_fitsSights_30 (by decide) (fun c22 => ?_) (fun c22 => ?_)
        · have c22 : r11.toInt = x20.toInt := wk_eq.mp c22
          replace hM := hM.pos c22
          obtain ⟨x23, ex23⟩ : ∃ y : Int32, y = v2_2 + Int32.ofInt 1 := ⟨_, rfl⟩
          have erx23 := ex23
          refine lv_iinc (v := x23) (lv' := [(2, .int x23), (0, .ref (ad 38)), (1, .int a1)]) hx hb dX5_fitsSights_35 hl (k := 2) rfl ex23.symm (by decide) rfl (fun ls hl => ?_)
          have ex23 : x23.toInt = v2_2.toInt + 1 := by rw [ex23]; exact wk_add (y := 1) (show -2147483648 ≤ v2_2.toInt + 1 by omega) (show v2_2.toInt + 1 ≤ 2147483647 by omega)
          replace hM := hM.lt ex23.symm
          refine lv_goto (tgt := 2) hx hb dX5_fitsSights_38 (by decide) ?_
          exact ih2 x23 H locs ls w13 (show 0 ≤ a1.toInt from r2) (show a1.toInt ≤ 6 from t3) (show 0 ≤ x23.toInt by first | with_reducible assumption | omega) (show x23.toInt ≤ 12 by first | with_reducible assumption | omega) (show (12 - x23.toInt).toNat < n2 by omega) hw hT hF hM (lv_sub hl [1, 2, 0] rfl)
        · have c22 : ¬ r11.toInt = x20.toInt := wk_eqF c22
          replace hM := hM.neg c22
          refine lv_iconst (v := 0) hx hb dX5_fitsSights_33 (by decide) ?_
          exact tk_zret hC hr rfl hlocks hK ⟨hT, hF, hM.ret (by decide), (Or.inl ⟨rfl, ⟨x6, c19, (show 1 ≤ x6.toInt by first | with_reducible assumption | omega), (show x6.toInt ≤ 12 from tx6)⟩⟩)⟩ hw dX5_fitsSights_34
  have hM : TT (fun n => m_X5_fitsSights n 38 a1.toInt (sI w0)) (fun n => m_X5_fitsSights n 38 a1.toInt (sI w0)) := TT.rf
  refine lv_iconst (v := 0) hx hb dX5_fitsSights_0 (by decide) ?_
  refine lv_istore_n (lv' := [(2, .int 0), (0, .ref (ad 38)), (1, .int a1)]) hx hb dX5_fitsSights_1 rfl hl (by decide) rfl (fun ls hl => ?_)
  exact L2 ((12 - (0 : Int)).toNat + 1) 0 s.heap locs ls w0 (show 0 ≤ a1.toInt from ra1) (show a1.toInt ≤ 6 from ta1) (by decide) (by decide) (Nat.lt_succ_self _) hw hT hF hM (lv_sub hl [1, 2, 0] rfl)
abbrev Pz_X5_fittingDays_1 (ad : Nat → Nat) (cy : Nat → ClassId) (B : Int) (qr : Nat) (s1 : Int)  (w0 : va_W) : Int32 → va_W → Prop := fun r u => TW ksC ad cy B qr s1 u ∧ FE ksC ([] : List (Nat × Nat × Nat)) w0 u ∧ Ev (fun n => m_X5_fittingDays n 38 (sI w0)) (r.toInt, sI u) ∧ ((0 ≤ r.toInt ∧ r.toInt ≤ 127))
set_option maxHeartbeats 4000000 in
set_option maxRecDepth 100000 in
theorem kz_X5_fittingDays_1 (l : Launch) (adK adV : Nat → Nat) (dC : Nat → ClassId) (dI : Nat → Nat → Nat) (cy : Nat → ClassId) (ad : Nat → Nat) (B : Int) (hB0 : 2147483648 ≤ B) (hB1 : B ≤ 1152921504606846976) (qr : Nat) (s1 : Int)   (w0 : va_W) (sz : Nat) (hT : TW ksC ad cy B qr s1 w0)  : Met l yX5_fittingDays (wu yX5_fittingDays cX5_fittingDays 3 (some .int)) ({ frames := 3, cells := 0, slots := 0, locals := 56 }) (va_Pc [.ref (ad 38)] (wpreS adK adV dC dI cy sz w0)) (va_Qi (Pz_X5_fittingDays_1 ad cy B qr s1  w0) (fun u : va_W => wpost dC dI cy (va_A w0 sz) u) (va_A w0 sz)) 0 0 (va_A w0 sz) := by
  refine Met.ofW (cc := cX5_fittingDays) (maxL := 3) (ret := (some .int)) (by decide) rfl ?_
  intro p e s m args below meth c s₁ Bk hml hv
  obtain ⟨rfl, ⟨hsz, hP, hK, hD0⟩, hE, hSR⟩ := hv
  have hx := Bk.exec
  have hb := Bk.bytes
  have hr := Bk.returns
  have hlocks := Bk.notSynchronized
  have hC : CallFix p m c cX5_fittingDays 3 s _ (wu yX5_fittingDays cX5_fittingDays 3 (some .int)) RX5 := ⟨hx, hb, hml, findClass_of_methodNamed Bk.named, atoms_spec (ws := (wu yX5_fittingDays cX5_fittingDays 3 (some .int))) Bk.pre⟩
  subst hsz
  have hD := hD0.self (sz := s.heap.size)
  generalize hAe : va_A w0 s.heap.size = A at hD hE ⊢
  have hA : ∀ q : Nat, s.heap.size ≤ q → A q := fun q h => by rw [← hAe]; exact Or.inr h
  have hw : Wd dC dI A s.heap s.heap [] w0 := ⟨hP, hD, va_S.rf⟩
  have hF : FE ksC ([] : List (Nat × Nat × Nat)) w0 w0 := FE.rf
  have hl := lv_entry ([.ref (ad 38)]) (n := 3) (Nat.le_of_ble_eq_true rfl)
  rw [lg_entry_eq]
  generalize (lg_sl ([.ref (ad 38)]) ++ List.replicate (3 - (lg_sl ([.ref (ad 38)])).length) Slot.unset).toArray = ls at hl ⊢
  have hl : lv_has ls 3 [(0, .ref (ad 38))] := hl
  generalize hloc : ([] : List Loc) = locs at hw ⊢
  have L4 : ∀ (n4 : Nat) (v4_1 : Int32) (v4_2 : Int32) (H : Heap) (locs : List Loc) (ls : Array Slot) (w1 : va_W), 0 ≤ v4_1.toInt → v4_1.toInt ≤ 127 → 0 ≤ v4_2.toInt → v4_2.toInt ≤ 7 → (7 - v4_2.toInt).toNat < n4 → Wd dC dI A s.heap H locs w1 → TW ksC ad cy B qr s1 w1 → FE ksC ([] : List (Nat × Nat × Nat)) w0 w1 → TT (fun n => m_X5_fittingDays n 38 (sI w0)) (fun n => j_X5_fittingDays 38 n 4 [v4_1.toInt, v4_2.toInt] (sI w1)) → lv_has ls 3 [(0, .ref (ad 38)), (1, .int v4_1), (2, .int v4_2)] → W p l e ({ frames := 3, cells := 0, slots := 0, locals := 56 }) s m (List.toArray [.ref (ad 38)]) below meth c H locs 0 0 (MQ below (va_Qi (Pz_X5_fittingDays_1 ad cy B qr s1  w0) (fun u : va_W => wpost dC dI cy A u) A) (List.toArray [.ref (ad 38)]) s 0 0 A) (F0 m 4 ls []) := by
    intro n4
    induction n4 with
    | zero => intro v4_1 v4_2 H locs ls w1 r2 t3 r4 t5 hm4 hw hT hF hM hl; omega
    | succ n4 ih4 =>
      intro v4_1 v4_2 H locs ls w1 r2 t3 r4 t5 hm4 hw hT hF hM hl
      have J24 : ∀ (v24_1 : Int32) (H : Heap) (locs : List Loc) (ls : Array Slot) (w6 : va_W), 0 ≤ v24_1.toInt → v24_1.toInt ≤ 127 → 0 ≤ v4_2.toInt → v4_2.toInt ≤ 6 → Wd dC dI A s.heap H locs w6 → TW ksC ad cy B qr s1 w6 → FE ksC ([] : List (Nat × Nat × Nat)) w0 w6 → TT (fun n => m_X5_fittingDays n 38 (sI w0)) (fun n => b_X5_fittingDays_24 (j_X5_fittingDays 38 n) n 38 (v24_1.toInt) (v4_2.toInt) (sI w6)) → lv_has ls 3 [(0, .ref (ad 38)), (1, .int v24_1), (2, .int v4_2)] → W p l e ({ frames := 3, cells := 0, slots := 0, locals := 56 }) s m (List.toArray [.ref (ad 38)]) below meth c H locs 0 0 (MQ below (va_Qi (Pz_X5_fittingDays_1 ad cy B qr s1  w0) (fun u : va_W => wpost dC dI cy A u) A) (List.toArray [.ref (ad 38)]) s 0 0 A) (F0 m 24 ls []) := by
        intro v24_1 H locs ls w6 r7 t8 r9 t10 hw hT hF hM hl
        obtain ⟨x11, ex11⟩ : ∃ y : Int32, y = v4_2 + Int32.ofInt 1 := ⟨_, rfl⟩
        have erx11 := ex11
        refine lv_iinc (v := x11) (lv' := [(2, .int x11), (0, .ref (ad 38)), (1, .int v24_1)]) hx hb dX5_fittingDays_24 hl (k := 2) rfl ex11.symm (by decide) rfl (fun ls hl => ?_)
        have ex11 : x11.toInt = v4_2.toInt + 1 := by rw [ex11]; exact wk_add (y := 1) (show -2147483648 ≤ v4_2.toInt + 1 by omega) (show v4_2.toInt + 1 ≤ 2147483647 by omega)
        replace hM := hM.lt ex11.symm
        refine lv_goto (tgt := 4) hx hb dX5_fittingDays_27 (by decide) ?_
        exact ih4 v24_1 x11 H locs ls w6 (show 0 ≤ v24_1.toInt from r7) (show v24_1.toInt ≤ 127 from t8) (show 0 ≤ x11.toInt by first | with_reducible assumption | omega) (show x11.toInt ≤ 7 by first | with_reducible assumption | omega) (show (7 - x11.toInt).toNat < n4 by omega) hw hT hF hM (lv_sub hl [1, 2, 0] rfl)
      replace hM := hM.suc (fun _ => e_X5_fittingDays_4)
      refine lv_iload_n hx hb dX5_fittingDays_4 rfl (lv_at hl 2 rfl) ?_
      refine lv_bipush (v := 7) hx hb dX5_fittingDays_5 (by decide) ?_
      refine lv_icmp_ge (tgt := 30) hx hb dX5_fittingDays_7 (by decide) (fun c12 => ?_) (fun c12 => ?_)
      · have c12 : (7 : Int) ≤ v4_2.toInt := wk_le.mp c12
        replace hM := hM.pos c12
        refine lv_iload_n hx hb dX5_fittingDays_30 rfl (lv_at hl 1 rfl) ?_
        exact tk_iret hC hr hlocks hK ⟨hT, hF, hM.ret rfl, ⟨(show 0 ≤ v4_1.toInt from r2), (show v4_1.toInt ≤ 127 from t3)⟩⟩ hw dX5_fittingDays_31
      · have c12 : v4_2.toInt < (7 : Int) := wk_leF c12
        replace hM := hM.neg (Int.not_le.mpr c12)
        refine lv_aload_n hx hb dX5_fittingDays_10 rfl (lv_at hl 0 rfl) ?_
        refine lv_iload_n hx hb dX5_fittingDays_11 rfl (lv_at hl 2 rfl) ?_
        refine tk_Vi hC hK hw hT hA hE hSR kC_at38 (by decide) rfl (kz_X5_fitsSights_1 l adK adV dC dI cy ad B hB0 (Int.le_trans hB1 (by decide)) qr s1   v4_2 (show 0 ≤ v4_2.toInt from r4) (show v4_2.toInt ≤ 6 by first | with_reducible assumption | omega) w1 H.size hT ) (cwV 1 hC.2.2.2.2 uV_RX5_82 rfl rfl rfl (by decide +kernel) ⟨Nat.le_of_ble_eq_true rfl, Nat.le_of_ble_eq_true rfl⟩) rfl hl.1 rfl (Nat.le_of_ble_eq_true rfl) dX5_fittingDays_12 (fun r13 w15 H locs hp14 hw => ?_)
        obtain ⟨hT, k16, hv20, hg19⟩ := hp14
        have hF := hF.tr k16 (by decide)
        rcases hg19 with ⟨rfl, ⟨x17, c18, rx17, tx17⟩⟩ | rfl
        · replace hM := hM.call (r' := 0) hv20 (by decide)
          refine lv_if_eq (tgt := 24) hx hb dX5_fittingDays_15 (by decide) (fun _ => ?_) (fun c => absurd (by decide) c)
          replace hM := hM.pos (by decide)
          exact J24 v4_1 H locs ls w15 (show 0 ≤ v4_1.toInt from r2) (show v4_1.toInt ≤ 127 from t3) (show 0 ≤ v4_2.toInt from r4) (show v4_2.toInt ≤ 6 by first | with_reducible assumption | omega)  hw hT hF hM (lv_sub hl [0, 1, 2] rfl)
        · replace hM := hM.call (r' := 1) hv20 (by decide)
          refine lv_if_eq (tgt := 24) hx hb dX5_fittingDays_15 (by decide) (fun c => absurd c (by decide)) (fun _ => ?_)
          replace hM := hM.neg (by decide)
          refine lv_iload_n hx hb dX5_fittingDays_18 rfl (lv_at hl 1 rfl) ?_
          refine lv_iconst (v := 1) hx hb dX5_fittingDays_19 (by decide) ?_
          refine lv_iload_n hx hb dX5_fittingDays_20 rfl (lv_at hl 2 rfl) ?_
          refine lv_ishl hx hb dX5_fittingDays_21 ?_
          refine lv_topi (fun x21 ex21 => ?_)
          have ezx21 := ex21
          have bx21 : 1 ≤ x21.toInt ∧ x21.toInt ≤ 64 := by rw [ex21]; exact wk_shl1 6 (by decide) (by omega) (by omega)
          replace hM := hM.lt (o32_e (f := fun x y => x <<< (y &&& 31)) ezx21 (by decide) rfl)
          refine lv_ior hx hb dX5_fittingDays_22 ?_
          refine lv_topi (fun x22 ex22 => ?_)
          have ezx22 := ex22
          have bx22 : 0 ≤ x22.toInt ∧ x22.toInt < 128 := by rw [ex22]; exact wk_or 7 (by decide) (by omega) (by omega) (by omega) (by omega)
          have mx22 : v4_1.toInt ≤ x22.toInt ∧ x21.toInt ≤ x22.toInt := by rw [ex22]; exact wk_orL 7 (by decide) (by omega) (by omega) (by omega) (by omega)
          replace hM := hM.lt (o32_e (f := fun x y => x ||| y) ezx22 rfl rfl)
          refine lv_istore_n (lv' := [(1, .int x22), (0, .ref (ad 38)), (2, .int v4_2)]) hx hb dX5_fittingDays_23 rfl hl (by decide) rfl (fun ls hl => ?_)
          exact J24 x22 H locs ls w15 (show 0 ≤ x22.toInt by first | with_reducible assumption | omega) (show x22.toInt ≤ 127 by first | with_reducible assumption | omega) (show 0 ≤ v4_2.toInt from r4) (show v4_2.toInt ≤ 6 by first | with_reducible assumption | omega)  hw hT hF hM (lv_sub hl [1, 0, 2] rfl)
  have hM : TT (fun n => m_X5_fittingDays n 38 (sI w0)) (fun n => m_X5_fittingDays n 38 (sI w0)) := TT.rf
  refine lv_iconst (v := 0) hx hb dX5_fittingDays_0 (by decide) ?_
  refine lv_istore_n (lv' := [(1, .int 0), (0, .ref (ad 38))]) hx hb dX5_fittingDays_1 rfl hl (by decide) rfl (fun ls hl => ?_)
  refine lv_iconst (v := 0) hx hb dX5_fittingDays_2 (by decide) ?_
  refine lv_istore_n (lv' := [(2, .int 0), (1, .int 0), (0, .ref (ad 38))]) hx hb dX5_fittingDays_3 rfl hl (by decide) rfl (fun ls hl => ?_)
  exact L4 ((7 - (0 : Int)).toNat + 1) 0 0 s.heap locs ls w0 (by decide) (by decide) (by decide) (by decide) (Nat.lt_succ_self _) hw hT hF hM (lv_sub hl [2, 1, 0] rfl)
abbrev Pz_X5_mostAlike_1 (ad : Nat → Nat) (cy : Nat → ClassId) (B : Int) (qr : Nat) (s1 : Int) (a1 : Int32) (a2 : Int32) (w0 : va_W) : Int32 → va_W → Prop := fun r u => TW ksC ad cy B qr s1 u ∧ FE ksC ([] : List (Nat × Nat × Nat)) w0 u ∧ Ev (fun n => m_X5_mostAlike n 38 a1.toInt a2.toInt (sI w0)) (r.toInt, sI u) ∧ ((0 ≤ r.toInt))
set_option maxHeartbeats 4000000 in
set_option maxRecDepth 100000 in
theorem kz_X5_mostAlike_1 (l : Launch) (adK adV : Nat → Nat) (dC : Nat → ClassId) (dI : Nat → Nat → Nat) (cy : Nat → ClassId) (ad : Nat → Nat) (B : Int) (hB0 : 2147483648 ≤ B) (hB1 : B ≤ 1152921504606846976) (qr : Nat) (s1 : Int)  (a1 : Int32) (ra1 : 0 ≤ a1.toInt) (ta1 : a1.toInt ≤ 11) (a2 : Int32) (ra2 : 1 ≤ a2.toInt) (ta2 : a2.toInt ≤ 127) (w0 : va_W) (sz : Nat) (hT : TW ksC ad cy B qr s1 w0)  : Met l yX5_mostAlike (wu yX5_mostAlike cX5_mostAlike 7 (some .int)) ({ frames := 2, cells := 0, slots := 0, locals := 34 }) (va_Pc [.ref (ad 38), .int a1, .int a2] (wpreS adK adV dC dI cy sz w0)) (va_Qi (Pz_X5_mostAlike_1 ad cy B qr s1 a1 a2 w0) (fun u : va_W => wpost dC dI cy (va_A w0 sz) u) (va_A w0 sz)) 0 0 (va_A w0 sz) := by
  refine Met.ofW (cc := cX5_mostAlike) (maxL := 7) (ret := (some .int)) (by decide) rfl ?_
  intro p e s m args below meth c s₁ Bk hml hv
  obtain ⟨rfl, ⟨hsz, hP, hK, hD0⟩, hE, hSR⟩ := hv
  have hx := Bk.exec
  have hb := Bk.bytes
  have hr := Bk.returns
  have hlocks := Bk.notSynchronized
  have hC : CallFix p m c cX5_mostAlike 7 s _ (wu yX5_mostAlike cX5_mostAlike 7 (some .int)) RX5 := ⟨hx, hb, hml, findClass_of_methodNamed Bk.named, atoms_spec (ws := (wu yX5_mostAlike cX5_mostAlike 7 (some .int))) Bk.pre⟩
  subst hsz
  have hD := hD0.self (sz := s.heap.size)
  generalize hAe : va_A w0 s.heap.size = A at hD hE ⊢
  have hA : ∀ q : Nat, s.heap.size ≤ q → A q := fun q h => by rw [← hAe]; exact Or.inr h
  have hw : Wd dC dI A s.heap s.heap [] w0 := ⟨hP, hD, va_S.rf⟩
  have hF : FE ksC ([] : List (Nat × Nat × Nat)) w0 w0 := FE.rf
  have hl := lv_entry ([.ref (ad 38), .int a1, .int a2]) (n := 7) (Nat.le_of_ble_eq_true rfl)
  rw [lg_entry_eq]
  generalize (lg_sl ([.ref (ad 38), .int a1, .int a2]) ++ List.replicate (7 - (lg_sl ([.ref (ad 38), .int a1, .int a2])).length) Slot.unset).toArray = ls at hl ⊢
  have hl : lv_has ls 7 [(0, .ref (ad 38)), (1, .int a1), (2, .int a2)] := hl
  generalize hloc : ([] : List Loc) = locs at hw ⊢
  have hinX5 : ∀ w ∈ u_ws RX5 TX5 14, w ∈ (wu yX5_mostAlike cX5_mostAlike 7 (some .int)) := fun _ h => List.mem_cons_of_mem _ (up_76 h)
  have L5 : ∀ (n5 : Nat) (v5_3 : Int32) (v5_4 : Int32) (H : Heap) (locs : List Loc) (ls : Array Slot) (w1 : va_W), 0 ≤ a1.toInt → a1.toInt ≤ 11 → 1 ≤ a2.toInt → a2.toInt ≤ 127 → 0 ≤ v5_3.toInt → 0 ≤ v5_4.toInt → v5_4.toInt ≤ 4 → (4 - v5_4.toInt).toNat < n5 → Wd dC dI A s.heap H locs w1 → TW ksC ad cy B qr s1 w1 → FE ksC ([] : List (Nat × Nat × Nat)) w0 w1 → TT (fun n => m_X5_mostAlike n 38 a1.toInt a2.toInt (sI w0)) (fun n => j_X5_mostAlike 38 n 5 [a1.toInt, a2.toInt, v5_3.toInt, v5_4.toInt] (sI w1)) → lv_has ls 7 [(0, .ref (ad 38)), (1, .int a1), (2, .int a2), (3, .int v5_3), (4, .int v5_4)] → W p l e ({ frames := 2, cells := 0, slots := 0, locals := 34 }) s m (List.toArray [.ref (ad 38), .int a1, .int a2]) below meth c H locs 0 0 (MQ below (va_Qi (Pz_X5_mostAlike_1 ad cy B qr s1 a1 a2 w0) (fun u : va_W => wpost dC dI cy A u) A) (List.toArray [.ref (ad 38), .int a1, .int a2]) s 0 0 A) (F0 m 5 ls []) := by
    intro n5
    induction n5 with
    | zero => intro v5_3 v5_4 H locs ls w1 r2 t3 r4 t5 r6 r7 t8 hm5 hw hT hF hM hl; omega
    | succ n5 ih5 =>
      intro v5_3 v5_4 H locs ls w1 r2 t3 r4 t5 r6 r7 t8 hm5 hw hT hF hM hl
      have L17 : ∀ (n17 : Nat) (v17_5 : Int32) (v17_6 : Int32) (H : Heap) (locs : List Loc) (ls : Array Slot) (w9 : va_W), 0 ≤ a1.toInt → a1.toInt ≤ 11 → 1 ≤ a2.toInt → a2.toInt ≤ 127 → 0 ≤ v5_3.toInt → 0 ≤ v5_4.toInt → v5_4.toInt ≤ 3 → 0 ≤ v17_6.toInt → v17_6.toInt ≤ 7 → (7 - v17_6.toInt).toNat < n17 → Wd dC dI A s.heap H locs w9 → TW ksC ad cy B qr s1 w9 → FE ksC ([] : List (Nat × Nat × Nat)) w0 w9 → TT (fun n => m_X5_mostAlike n 38 a1.toInt a2.toInt (sI w0)) (fun n => j_X5_mostAlike 38 n 17 [a1.toInt, a2.toInt, v5_3.toInt, v5_4.toInt, v17_5.toInt, v17_6.toInt] (sI w9)) → lv_has ls 7 [(0, .ref (ad 38)), (1, .int a1), (2, .int a2), (3, .int v5_3), (4, .int v5_4), (5, .int v17_5), (6, .int v17_6)] → W p l e ({ frames := 2, cells := 0, slots := 0, locals := 34 }) s m (List.toArray [.ref (ad 38), .int a1, .int a2]) below meth c H locs 0 0 (MQ below (va_Qi (Pz_X5_mostAlike_1 ad cy B qr s1 a1 a2 w0) (fun u : va_W => wpost dC dI cy A u) A) (List.toArray [.ref (ad 38), .int a1, .int a2]) s 0 0 A) (F0 m 17 ls []) := by
        intro n17
        induction n17 with
        | zero => intro v17_5 v17_6 H locs ls w9 r10 t11 r12 t13 r14 r15 t16 r17 t18 hm17 hw hT hF hM hl; omega
        | succ n17 ih17 =>
          intro v17_5 v17_6 H locs ls w9 r10 t11 r12 t13 r14 r15 t16 r17 t18 hm17 hw hT hF hM hl
          have J51 : ∀ (v51_5 : Int32) (H : Heap) (locs : List Loc) (ls : Array Slot) (w19 : va_W), 0 ≤ a1.toInt → a1.toInt ≤ 11 → 1 ≤ a2.toInt → a2.toInt ≤ 127 → 0 ≤ v5_3.toInt → 0 ≤ v5_4.toInt → v5_4.toInt ≤ 3 → 0 ≤ v17_6.toInt → v17_6.toInt ≤ 6 → Wd dC dI A s.heap H locs w19 → TW ksC ad cy B qr s1 w19 → FE ksC ([] : List (Nat × Nat × Nat)) w0 w19 → TT (fun n => m_X5_mostAlike n 38 a1.toInt a2.toInt (sI w0)) (fun n => b_X5_mostAlike_51 (j_X5_mostAlike 38 n) n 38 (a1.toInt) (a2.toInt) (v5_3.toInt) (v5_4.toInt) (v51_5.toInt) (v17_6.toInt) (sI w19)) → lv_has ls 7 [(0, .ref (ad 38)), (1, .int a1), (2, .int a2), (3, .int v5_3), (4, .int v5_4), (5, .int v51_5), (6, .int v17_6)] → W p l e ({ frames := 2, cells := 0, slots := 0, locals := 34 }) s m (List.toArray [.ref (ad 38), .int a1, .int a2]) below meth c H locs 0 0 (MQ below (va_Qi (Pz_X5_mostAlike_1 ad cy B qr s1 a1 a2 w0) (fun u : va_W => wpost dC dI cy A u) A) (List.toArray [.ref (ad 38), .int a1, .int a2]) s 0 0 A) (F0 m 51 ls []) := by
            intro v51_5 H locs ls w19 r20 t21 r22 t23 r24 r25 t26 r27 t28 hw hT hF hM hl
            obtain ⟨x29, ex29⟩ : ∃ y : Int32, y = v17_6 + Int32.ofInt 1 := ⟨_, rfl⟩
            have erx29 := ex29
            refine lv_iinc (v := x29) (lv' := [(6, .int x29), (0, .ref (ad 38)), (1, .int a1), (2, .int a2), (3, .int v5_3), (4, .int v5_4), (5, .int v51_5)]) hx hb dX5_mostAlike_51 hl (k := 6) rfl ex29.symm (by decide) rfl (fun ls hl => ?_)
            have ex29 : x29.toInt = v17_6.toInt + 1 := by rw [ex29]; exact wk_add (y := 1) (show -2147483648 ≤ v17_6.toInt + 1 by omega) (show v17_6.toInt + 1 ≤ 2147483647 by omega)
            replace hM := hM.lt ex29.symm
            refine lv_goto (tgt := 17) hx hb dX5_mostAlike_54 (by decide) ?_
            exact ih17 v51_5 x29 H locs ls w19 (show 0 ≤ a1.toInt from r20) (show a1.toInt ≤ 11 from t21) (show 1 ≤ a2.toInt from r22) (show a2.toInt ≤ 127 from t23) (show 0 ≤ v5_3.toInt from r24) (show 0 ≤ v5_4.toInt from r25) (show v5_4.toInt ≤ 3 from t26) (show 0 ≤ x29.toInt by first | with_reducible assumption | omega) (show x29.toInt ≤ 7 by first | with_reducible assumption | omega) (show (7 - x29.toInt).toNat < n17 by omega) hw hT hF hM (lv_sub hl [1, 2, 3, 4, 5, 6, 0] rfl)
          replace hM := hM.suc (fun _ => e_X5_mostAlike_17)
          refine lv_iload hx hb dX5_mostAlike_17 (lv_at hl 6 rfl) ?_
          refine lv_bipush (v := 7) hx hb dX5_mostAlike_19 (by decide) ?_
          refine lv_icmp_ge (tgt := 57) hx hb dX5_mostAlike_21 (by decide) (fun c30 => ?_) (fun c30 => ?_)
          · have c30 : (7 : Int) ≤ v17_6.toInt := wk_le.mp c30
            replace hM := hM.pos c30
            refine lv_iload_n hx hb dX5_mostAlike_57 rfl (lv_at hl 3 rfl) ?_
            refine lv_iload hx hb dX5_mostAlike_58 (lv_at hl 5 rfl) ?_
            refine va_mmax hx hb (hC.2.2.1.trans hl.1.symm) hC.2.2.2.1 (hC.2.2.2.2 _ (List.mem_cons_of_mem _ uw_63_19)) (hC.2.2.2.2 _ (List.mem_cons_of_mem _ uw_14_15)) (hC.2.2.2.2 _ (List.mem_cons_of_mem _ uw_14_16)) (hC.2.2.2.2 _ (List.mem_cons_of_mem _ uw_14_17)) (Nat.le_of_ble_eq_true rfl) (Nat.le_of_ble_eq_true rfl) (Nat.zero_le _) (Nat.zero_le _) dX5_mostAlike_60 ?_
            refine lv_topi (fun x31 ex31 => ?_)
            have bx31 : (x31.toInt = v5_3.toInt ∧ v17_5.toInt ≤ v5_3.toInt) ∨ (x31.toInt = v17_5.toInt ∧ v5_3.toInt < v17_5.toInt) := by rw [ex31]; exact wk_max
            replace hM := hM.lt (mMax_e bx31)
            refine lv_istore_n (lv' := [(3, .int x31), (0, .ref (ad 38)), (1, .int a1), (2, .int a2), (4, .int v5_4), (5, .int v17_5), (6, .int v17_6)]) hx hb dX5_mostAlike_63 rfl hl (by decide) rfl (fun ls hl => ?_)
            obtain ⟨x32, ex32⟩ : ∃ y : Int32, y = v5_4 + Int32.ofInt 1 := ⟨_, rfl⟩
            have erx32 := ex32
            refine lv_iinc (v := x32) (lv' := [(4, .int x32), (3, .int x31), (0, .ref (ad 38)), (1, .int a1), (2, .int a2), (5, .int v17_5), (6, .int v17_6)]) hx hb dX5_mostAlike_64 hl (k := 4) rfl ex32.symm (by decide) rfl (fun ls hl => ?_)
            have ex32 : x32.toInt = v5_4.toInt + 1 := by rw [ex32]; exact wk_add (y := 1) (show -2147483648 ≤ v5_4.toInt + 1 by omega) (show v5_4.toInt + 1 ≤ 2147483647 by omega)
            replace hM := hM.lt ex32.symm
            refine lv_goto (tgt := 5) hx hb dX5_mostAlike_67 (by decide) ?_
            exact ih5 x31 x32 H locs ls w9 (show 0 ≤ a1.toInt from r10) (show a1.toInt ≤ 11 from t11) (show 1 ≤ a2.toInt from r12) (show a2.toInt ≤ 127 from t13) (show 0 ≤ x31.toInt by first | with_reducible assumption | omega) (show 0 ≤ x32.toInt by first | with_reducible assumption | omega) (show x32.toInt ≤ 4 by first | with_reducible assumption | omega) (show (4 - x32.toInt).toNat < n5 by omega) hw hT hF hM (lv_sub hl [2, 3, 4, 1, 0] rfl)
          · have c30 : v17_6.toInt < (7 : Int) := wk_leF c30
            replace hM := hM.neg (Int.not_le.mpr c30)
            refine lv_iload_n hx hb dX5_mostAlike_24 rfl (lv_at hl 2 rfl) ?_
            refine lv_iload hx hb dX5_mostAlike_25 (lv_at hl 6 rfl) ?_
            refine lv_ishr hx hb dX5_mostAlike_27 ?_
            refine lv_topi (fun x33 ex33 => ?_)
            have ezx33 := ex33
            have bx33 : 0 ≤ x33.toInt ∧ x33.toInt ≤ a2.toInt := by rw [ex33]; exact wk_shr (by omega)
            replace hM := hM.lt (o32_e (f := fun x y => x >>> (y &&& 31)) ezx33 rfl rfl)
            refine lv_iconst (v := 1) hx hb dX5_mostAlike_28 (by decide) ?_
            refine lv_iand hx hb dX5_mostAlike_29 ?_
            refine lv_topi (fun x34 ex34 => ?_)
            have ezx34 := ex34
            have bx34 : 0 ≤ x34.toInt ∧ x34.toInt ≤ (1 : Int) := by rw [ex34]; exact wk_and (by decide)
            replace hM := hM.lt (o32_e (f := fun x y => x &&& y) ezx34 rfl (by decide))
            refine lv_if_eq (tgt := 51) hx hb dX5_mostAlike_30 (by decide) (fun c35 => ?_) (fun c35 => ?_)
            · have c35 : x34.toInt = (0 : Int) := wk_eq.mp c35
              replace hM := hM.pos c35
              exact J51 v17_5 H locs ls w9 (show 0 ≤ a1.toInt from r10) (show a1.toInt ≤ 11 from t11) (show 1 ≤ a2.toInt from r12) (show a2.toInt ≤ 127 from t13) (show 0 ≤ v5_3.toInt from r14) (show 0 ≤ v5_4.toInt from r15) (show v5_4.toInt ≤ 3 from t16) (show 0 ≤ v17_6.toInt from r17) (show v17_6.toInt ≤ 6 by first | with_reducible assumption | omega)  hw hT hF hM (lv_sub hl [0, 1, 2, 3, 4, 5, 6] rfl)
            · have c35 : ¬ x34.toInt = (0 : Int) := wk_eqF c35
              replace hM := hM.neg c35
              refine lv_aload_n hx hb dX5_mostAlike_33 rfl (lv_at hl 0 rfl) ?_
              refine tk_getO hC hK hw hT hinX5 kC_at38 (by decide) rfl 0 (by decide) (List.mem_cons_of_mem _ uw_3_18) rfl rfl dX5_mostAlike_34 ?_
              refine lv_iload_n hx hb dX5_mostAlike_37 rfl (lv_at hl 1 rfl) ?_
              refine lv_iload hx hb dX5_mostAlike_38 (lv_at hl 6 rfl) ?_
              refine tk_Vi hC hK hw hT hA hE hSR kC_at39 (by decide) rfl (kz_X7_signOn_1 l adK adV dC dI cy ad B hB0 (Int.le_trans hB1 (by decide)) qr s1   a1 (show 0 ≤ a1.toInt from r10) (show a1.toInt ≤ 11 from t11) v17_6 (show 0 ≤ v17_6.toInt from r17) (show v17_6.toInt ≤ 6 by first | with_reducible assumption | omega) w9 H.size hT ) (cwV 2 hC.2.2.2.2 uV_RX5_86 rfl rfl rfl (by decide +kernel) ⟨Nat.le_of_ble_eq_true rfl, Nat.le_of_ble_eq_true rfl⟩) rfl hl.1 rfl (Nat.le_of_ble_eq_true rfl) dX5_mostAlike_40 (fun r36 w38 H locs hp37 hw => ?_)
              obtain ⟨hT, k39, hv43, hg42⟩ := hp37
              have hF := hF.tr k39 (by decide)
              obtain ⟨g40, g41⟩ := hg42
              replace hM := hM.call hv43 rfl
              refine lv_iload hx hb dX5_mostAlike_43 (lv_at hl 4 rfl) ?_
              refine lv_icmp_ne (tgt := 51) hx hb dX5_mostAlike_45 (by decide) (fun c44 => ?_) (fun c44 => ?_)
              · have c44 : ¬ r36.toInt = v5_4.toInt := wk_eqF c44
                replace hM := hM.pos c44
                exact J51 v17_5 H locs ls w38 (show 0 ≤ a1.toInt from r10) (show a1.toInt ≤ 11 from t11) (show 1 ≤ a2.toInt from r12) (show a2.toInt ≤ 127 from t13) (show 0 ≤ v5_3.toInt from r14) (show 0 ≤ v5_4.toInt from r15) (show v5_4.toInt ≤ 3 from t16) (show 0 ≤ v17_6.toInt from r17) (show v17_6.toInt ≤ 6 by first | with_reducible assumption | omega)  hw hT hF hM (lv_sub hl [0, 1, 2, 3, 4, 5, 6] rfl)
              · have c44 : r36.toInt = v5_4.toInt := wk_eq.mp c44
                replace hM := hM.neg (fun q => q c44)
                have nx46 := wk_i32 v17_5
                obtain ⟨x45, ex45⟩ : ∃ y : Int32, y = v17_5 + Int32.ofInt 1 := ⟨_, rfl⟩
                have erx45 := ex45
                refine lv_iinc (v := x45) (lv' := [(5, .int x45), (0, .ref (ad 38)), (1, .int a1), (2, .int a2), (3, .int v5_3), (4, .int v5_4), (6, .int v17_6)]) hx hb dX5_mostAlike_48 hl (k := 5) rfl ex45.symm (by decide) rfl (fun ls hl => ?_)
                replace hM := hM.lt (o32_e (f := fun x y => x + y) erx45 rfl (by decide))
                exact J51 x45 H locs ls w38 (show 0 ≤ a1.toInt from r10) (show a1.toInt ≤ 11 from t11) (show 1 ≤ a2.toInt from r12) (show a2.toInt ≤ 127 from t13) (show 0 ≤ v5_3.toInt from r14) (show 0 ≤ v5_4.toInt from r15) (show v5_4.toInt ≤ 3 from t16) (show 0 ≤ v17_6.toInt from r17) (show v17_6.toInt ≤ 6 by first | with_reducible assumption | omega)  hw hT hF hM (lv_sub hl [1, 2, 3, 4, 5, 0, 6] rfl)
      replace hM := hM.suc (fun _ => e_X5_mostAlike_5)
      refine lv_iload hx hb dX5_mostAlike_5 (lv_at hl 4 rfl) ?_
      refine lv_iconst (v := 3) hx hb dX5_mostAlike_7 (by decide) ?_
      refine lv_icmp_gt (tgt := 70) hx hb dX5_mostAlike_8 (by decide) (fun c47 => ?_) (fun c47 => ?_)
      · have c47 : (3 : Int) < v5_4.toInt := wk_lt.mp c47
        replace hM := hM.pos c47
        refine lv_iload_n hx hb dX5_mostAlike_70 rfl (lv_at hl 3 rfl) ?_
        exact tk_iret hC hr hlocks hK ⟨hT, hF, hM.ret rfl, (show 0 ≤ v5_3.toInt from r6)⟩ hw dX5_mostAlike_71
      · have c47 : v5_4.toInt ≤ (3 : Int) := wk_ltF c47
        replace hM := hM.neg (Int.not_lt.mpr c47)
        refine lv_iconst (v := 0) hx hb dX5_mostAlike_11 (by decide) ?_
        refine lv_istore (lv' := [(5, .int 0), (0, .ref (ad 38)), (1, .int a1), (2, .int a2), (3, .int v5_3), (4, .int v5_4)]) hx hb dX5_mostAlike_12 hl (by decide) rfl (fun ls hl => ?_)
        refine lv_iconst (v := 0) hx hb dX5_mostAlike_14 (by decide) ?_
        refine lv_istore (lv' := [(6, .int 0), (5, .int 0), (0, .ref (ad 38)), (1, .int a1), (2, .int a2), (3, .int v5_3), (4, .int v5_4)]) hx hb dX5_mostAlike_15 hl (by decide) rfl (fun ls hl => ?_)
        exact L17 ((7 - (0 : Int)).toNat + 1) 0 0 H locs ls w1 (show 0 ≤ a1.toInt from r2) (show a1.toInt ≤ 11 from t3) (show 1 ≤ a2.toInt from r4) (show a2.toInt ≤ 127 from t5) (show 0 ≤ v5_3.toInt from r6) (show 0 ≤ v5_4.toInt from r7) (show v5_4.toInt ≤ 3 by first | with_reducible assumption | omega) (by decide) (by decide) (Nat.lt_succ_self _) hw hT hF hM (lv_sub hl [2, 3, 4, 5, 6, 1, 0] rfl)
  have hM : TT (fun n => m_X5_mostAlike n 38 a1.toInt a2.toInt (sI w0)) (fun n => m_X5_mostAlike n 38 a1.toInt a2.toInt (sI w0)) := TT.rf
  refine lv_iconst (v := 0) hx hb dX5_mostAlike_0 (by decide) ?_
  refine lv_istore_n (lv' := [(3, .int 0), (0, .ref (ad 38)), (1, .int a1), (2, .int a2)]) hx hb dX5_mostAlike_1 rfl hl (by decide) rfl (fun ls hl => ?_)
  refine lv_iconst (v := 0) hx hb dX5_mostAlike_2 (by decide) ?_
  refine lv_istore (lv' := [(4, .int 0), (3, .int 0), (0, .ref (ad 38)), (1, .int a1), (2, .int a2)]) hx hb dX5_mostAlike_3 hl (by decide) rfl (fun ls hl => ?_)
  exact L5 ((4 - (0 : Int)).toNat + 1) 0 0 s.heap locs ls w0 (show 0 ≤ a1.toInt from ra1) (show a1.toInt ≤ 11 from ta1) (show 1 ≤ a2.toInt from ra2) (show a2.toInt ≤ 127 from ta2) (by decide) (by decide) (by decide) (Nat.lt_succ_self _) hw hT hF hM (lv_sub hl [2, 3, 4, 1, 0] rfl)
abbrev Pz_X5_streetToLookAt_1 (ad : Nat → Nat) (cy : Nat → ClassId) (B : Int) (qr : Nat) (s1 : Int) (a1 : Int32) (w0 : va_W) : Int32 → va_W → Prop := fun r u => TW ksC ad cy B qr s1 u ∧ FE ksC ([] : List (Nat × Nat × Nat)) w0 u ∧ Ev (fun n => m_X5_streetToLookAt n 38 a1.toInt (sI w0)) (r.toInt, sI u) ∧ (((-2) ≤ r.toInt ∧ r.toInt ≤ 11))
set_option maxHeartbeats 4000000 in
set_option maxRecDepth 100000 in
theorem kz_X5_streetToLookAt_1 (l : Launch) (adK adV : Nat → Nat) (dC : Nat → ClassId) (dI : Nat → Nat → Nat) (cy : Nat → ClassId) (ad : Nat → Nat) (B : Int) (hB0 : 2147483648 ≤ B) (hB1 : B ≤ 1152921504606846976) (qr : Nat) (s1 : Int)  (a1 : Int32) (ra1 : 1 ≤ a1.toInt) (ta1 : a1.toInt ≤ 127) (w0 : va_W) (sz : Nat) (hT : TW ksC ad cy B qr s1 w0)  : Met l yX5_streetToLookAt (wu yX5_streetToLookAt cX5_streetToLookAt 6 (some .int)) ({ frames := 3, cells := 0, slots := 0, locals := 60 }) (va_Pc [.ref (ad 38), .int a1] (wpreS adK adV dC dI cy sz w0)) (va_Qi (Pz_X5_streetToLookAt_1 ad cy B qr s1 a1 w0) (fun u : va_W => wpost dC dI cy (va_A w0 sz) u) (va_A w0 sz)) 0 0 (va_A w0 sz) := by
  refine Met.ofW (cc := cX5_streetToLookAt) (maxL := 6) (ret := (some .int)) (by decide) rfl ?_
  intro p e s m args below meth c s₁ Bk hml hv
  obtain ⟨rfl, ⟨hsz, hP, hK, hD0⟩, hE, hSR⟩ := hv
  have hx := Bk.exec
  have hb := Bk.bytes
  have hr := Bk.returns
  have hlocks := Bk.notSynchronized
  have hC : CallFix p m c cX5_streetToLookAt 6 s _ (wu yX5_streetToLookAt cX5_streetToLookAt 6 (some .int)) RX5 := ⟨hx, hb, hml, findClass_of_methodNamed Bk.named, atoms_spec (ws := (wu yX5_streetToLookAt cX5_streetToLookAt 6 (some .int))) Bk.pre⟩
  subst hsz
  have hD := hD0.self (sz := s.heap.size)
  generalize hAe : va_A w0 s.heap.size = A at hD hE ⊢
  have hA : ∀ q : Nat, s.heap.size ≤ q → A q := fun q h => by rw [← hAe]; exact Or.inr h
  have hw : Wd dC dI A s.heap s.heap [] w0 := ⟨hP, hD, va_S.rf⟩
  have hF : FE ksC ([] : List (Nat × Nat × Nat)) w0 w0 := FE.rf
  have hl := lv_entry ([.ref (ad 38), .int a1]) (n := 6) (Nat.le_of_ble_eq_true rfl)
  rw [lg_entry_eq]
  generalize (lg_sl ([.ref (ad 38), .int a1]) ++ List.replicate (6 - (lg_sl ([.ref (ad 38), .int a1])).length) Slot.unset).toArray = ls at hl ⊢
  have hl : lv_has ls 6 [(0, .ref (ad 38)), (1, .int a1)] := hl
  generalize hloc : ([] : List Loc) = locs at hw ⊢
  have hinX5 : ∀ w ∈ u_ws RX5 TX5 14, w ∈ (wu yX5_streetToLookAt cX5_streetToLookAt 6 (some .int)) := fun _ h => List.mem_cons_of_mem _ (up_76 h)
  have hinX7 : ∀ w ∈ u_ws RX7 TX7 12, w ∈ (wu yX5_streetToLookAt cX5_streetToLookAt 6 (some .int)) := fun _ h => List.mem_cons_of_mem _ (up_73 h)
  have L9 : ∀ (n9 : Nat) (v9_2 : Int32) (v9_3 : Int32) (v9_4 : Int32) (H : Heap) (locs : List Loc) (ls : Array Slot) (w1 : va_W), 1 ≤ a1.toInt → a1.toInt ≤ 127 → (-2) ≤ v9_2.toInt → v9_2.toInt ≤ 11 → 0 ≤ v9_3.toInt → v9_3.toInt ≤ 8 → 0 ≤ v9_4.toInt → v9_4.toInt ≤ 12 → (12 - v9_4.toInt).toNat < n9 → Wd dC dI A s.heap H locs w1 → TW ksC ad cy B qr s1 w1 → FE ksC ([] : List (Nat × Nat × Nat)) w0 w1 → TT (fun n => m_X5_streetToLookAt n 38 a1.toInt (sI w0)) (fun n => j_X5_streetToLookAt 38 n 9 [a1.toInt, v9_2.toInt, v9_3.toInt, v9_4.toInt] (sI w1)) → lv_has ls 6 [(0, .ref (ad 38)), (1, .int a1), (2, .int v9_2), (3, .int v9_3), (4, .int v9_4)] → W p l e ({ frames := 3, cells := 0, slots := 0, locals := 60 }) s m (List.toArray [.ref (ad 38), .int a1]) below meth c H locs 0 0 (MQ below (va_Qi (Pz_X5_streetToLookAt_1 ad cy B qr s1 a1 w0) (fun u : va_W => wpost dC dI cy A u) A) (List.toArray [.ref (ad 38), .int a1]) s 0 0 A) (F0 m 9 ls []) := by
    intro n9
    induction n9 with
    | zero => intro v9_2 v9_3 v9_4 H locs ls w1 r2 t3 r4 t5 r6 t7 r8 t9 hm9 hw hT hF hM hl; omega
    | succ n9 ih9 =>
      intro v9_2 v9_3 v9_4 H locs ls w1 r2 t3 r4 t5 r6 t7 r8 t9 hm9 hw hT hF hM hl
      have J42 : ∀ (v42_2 : Int32) (v42_3 : Int32) (v42_5 : Int32) (f42_39_9 : Int32) (H : Heap) (locs : List Loc) (ls : Array Slot) (w10 : va_W), 1 ≤ a1.toInt → a1.toInt ≤ 127 → (-2) ≤ v42_2.toInt → v42_2.toInt ≤ 11 → 0 ≤ v42_3.toInt → v42_3.toInt ≤ 8 → 0 ≤ v9_4.toInt → v9_4.toInt ≤ 11 → 0 ≤ v42_5.toInt → 1 ≤ f42_39_9.toInt → f42_39_9.toInt ≤ 12 → Wd dC dI A s.heap H locs w10 → TW ksC ad cy B qr s1 w10 → FE ksC ([] : List (Nat × Nat × Nat)) w0 w10 → gi w10 39 9 = f42_39_9 → TT (fun n => m_X5_streetToLookAt n 38 a1.toInt (sI w0)) (fun n => b_X5_streetToLookAt_42 (j_X5_streetToLookAt 38 n) n 38 (a1.toInt) (v42_2.toInt) (v42_3.toInt) (v9_4.toInt) (sI w10)) → lv_has ls 6 [(0, .ref (ad 38)), (1, .int a1), (2, .int v42_2), (3, .int v42_3), (4, .int v9_4), (5, .int v42_5)] → W p l e ({ frames := 3, cells := 0, slots := 0, locals := 60 }) s m (List.toArray [.ref (ad 38), .int a1]) below meth c H locs 0 0 (MQ below (va_Qi (Pz_X5_streetToLookAt_1 ad cy B qr s1 a1 w0) (fun u : va_W => wpost dC dI cy A u) A) (List.toArray [.ref (ad 38), .int a1]) s 0 0 A) (F0 m 42 ls []) := by
        intro v42_2 v42_3 v42_5 f42_39_9 H locs ls w10 r11 t12 r13 t14 r15 t16 r17 t18 r19 r20 t21 hw hT hF c22 hM hl
        obtain ⟨x23, ex23⟩ : ∃ y : Int32, y = v9_4 + Int32.ofInt 1 := ⟨_, rfl⟩
        have erx23 := ex23
        refine lv_iinc (v := x23) (lv' := [(4, .int x23), (0, .ref (ad 38)), (1, .int a1), (2, .int v42_2), (3, .int v42_3), (5, .int v42_5)]) hx hb dX5_streetToLookAt_42 hl (k := 4) rfl ex23.symm (by decide) rfl (fun ls hl => ?_)
        have ex23 : x23.toInt = v9_4.toInt + 1 := by rw [ex23]; exact wk_add (y := 1) (show -2147483648 ≤ v9_4.toInt + 1 by omega) (show v9_4.toInt + 1 ≤ 2147483647 by omega)
        replace hM := hM.lt ex23.symm
        refine lv_goto (tgt := 9) hx hb dX5_streetToLookAt_45 (by decide) ?_
        exact ih9 v42_2 v42_3 x23 H locs ls w10 (show 1 ≤ a1.toInt from r11) (show a1.toInt ≤ 127 from t12) (show (-2) ≤ v42_2.toInt from r13) (show v42_2.toInt ≤ 11 from t14) (show 0 ≤ v42_3.toInt from r15) (show v42_3.toInt ≤ 8 from t16) (show 0 ≤ x23.toInt by first | with_reducible assumption | omega) (show x23.toInt ≤ 12 by first | with_reducible assumption | omega) (show (12 - x23.toInt).toNat < n9 by omega) hw hT hF hM (lv_sub hl [1, 2, 3, 4, 0] rfl)
      replace hM := hM.suc (fun _ => e_X5_streetToLookAt_9)
      refine lv_iload hx hb dX5_streetToLookAt_9 (lv_at hl 4 rfl) ?_
      refine lv_aload_n hx hb dX5_streetToLookAt_11 rfl (lv_at hl 0 rfl) ?_
      refine tk_getO hC hK hw hT hinX5 kC_at38 (by decide) rfl 0 (by decide) (List.mem_cons_of_mem _ uw_3_18) rfl rfl dX5_streetToLookAt_12 ?_
      refine tk_geti hC hK hw hT hinX7 kC_at39 (by decide) rfl 9 (by decide) (List.mem_cons_of_mem _ uw_63_14) rfl rfl dX5_streetToLookAt_15 (fun x24 c25 rx24 tx24 => ?_)
      replace hM := hM.rd (sI_at c25)
      refine lv_icmp_ge (tgt := 48) hx hb dX5_streetToLookAt_18 (by decide) (fun c26 => ?_) (fun c26 => ?_)
      · have c26 : x24.toInt ≤ v9_4.toInt := wk_le.mp c26
        replace hM := hM.pos c26
        refine lv_iload_n hx hb dX5_streetToLookAt_48 rfl (lv_at hl 2 rfl) ?_
        exact tk_iret hC hr hlocks hK ⟨hT, hF, hM.ret rfl, ⟨(show (-2) ≤ v9_2.toInt from r4), (show v9_2.toInt ≤ 11 from t5)⟩⟩ hw dX5_streetToLookAt_49
      · have c26 : v9_4.toInt < x24.toInt := wk_leF c26
        replace hM := hM.neg (Int.not_le.mpr c26)
        refine lv_aload_n hx hb dX5_streetToLookAt_21 rfl (lv_at hl 0 rfl) ?_
        refine lv_iload hx hb dX5_streetToLookAt_22 (lv_at hl 4 rfl) ?_
        refine lv_iload_n hx hb dX5_streetToLookAt_24 rfl (lv_at hl 1 rfl) ?_
        refine tk_Vi hC hK hw hT hA hE hSR kC_at38 (by decide) rfl (kz_X5_mostAlike_1 l adK adV dC dI cy ad B hB0 (Int.le_trans hB1 (by decide)) qr s1   v9_4 (show 0 ≤ v9_4.toInt from r8) (show v9_4.toInt ≤ 11 by first | with_reducible assumption | omega) a1 (show 1 ≤ a1.toInt from r2) (show a1.toInt ≤ 127 from t3) w1 H.size hT ) (cwV 2 hC.2.2.2.2 uV_RX5_93 rfl rfl rfl (by decide +kernel) ⟨Nat.le_of_ble_eq_true rfl, Nat.le_of_ble_eq_true rfl⟩) rfl hl.1 rfl (Nat.le_of_ble_eq_true rfl) dX5_streetToLookAt_25 (fun r27 w29 H locs hp28 hw => ?_)
        obtain ⟨hT, k30, hv33, hg32⟩ := hp28
        have hF := hF.tr k30 (by decide)
        have c34 := k30.gi kC_at39 (by decide) c25
        obtain g31 := hg32
        replace hM := hM.call hv33 rfl
        refine lv_istore (lv' := [(5, .int r27), (0, .ref (ad 38)), (1, .int a1), (2, .int v9_2), (3, .int v9_3), (4, .int v9_4)]) hx hb dX5_streetToLookAt_28 hl (by decide) rfl (fun ls hl => ?_)
        refine lv_iload hx hb dX5_streetToLookAt_30 (lv_at hl 0 rfl) ?_
        refine lv_iload_n hx hb dX5_streetToLookAt_32 rfl (lv_at hl 4 rfl) ?_
        refine lv_icmp_ge (tgt := 42) hx hb dX5_streetToLookAt_33 (by decide) (fun c35 => ?_) (fun c35 => ?_)
        · have c35 : v9_3.toInt ≤ r27.toInt := wk_le.mp c35
          replace hM := hM.pos c35
          exact J42 v9_2 v9_3 r27 x24 H locs ls w29 (show 1 ≤ a1.toInt from r2) (show a1.toInt ≤ 127 from t3) (show (-2) ≤ v9_2.toInt from r4) (show v9_2.toInt ≤ 11 from t5) (show 0 ≤ v9_3.toInt from r6) (show v9_3.toInt ≤ 8 from t7) (show 0 ≤ v9_4.toInt from r8) (show v9_4.toInt ≤ 11 by first | with_reducible assumption | omega) (show 0 ≤ r27.toInt by first | with_reducible assumption | omega) (show 1 ≤ x24.toInt by first | with_reducible assumption | omega) (show x24.toInt ≤ 12 from tx24)  hw hT hF c34 hM (lv_sub hl [1, 2, 3, 4, 5, 0] rfl)
        · have c35 : r27.toInt < v9_3.toInt := wk_leF c35
          replace hM := hM.neg (Int.not_le.mpr c35)
          refine lv_iload hx hb dX5_streetToLookAt_36 (lv_at hl 0 rfl) ?_
          refine lv_istore_n (lv' := [(3, .int r27), (5, .int r27), (0, .ref (ad 38)), (1, .int a1), (2, .int v9_2), (4, .int v9_4)]) hx hb dX5_streetToLookAt_38 rfl hl (by decide) rfl (fun ls hl => ?_)
          refine lv_iload hx hb dX5_streetToLookAt_39 (lv_at hl 5 rfl) ?_
          refine lv_istore_n (lv' := [(2, .int v9_4), (3, .int r27), (5, .int r27), (0, .ref (ad 38)), (1, .int a1), (4, .int v9_4)]) hx hb dX5_streetToLookAt_41 rfl hl (by decide) rfl (fun ls hl => ?_)
          exact J42 v9_4 r27 r27 x24 H locs ls w29 (show 1 ≤ a1.toInt from r2) (show a1.toInt ≤ 127 from t3) (show (-2) ≤ v9_4.toInt from Int.le_trans (by decide) r8) (show v9_4.toInt ≤ 11 by first | with_reducible assumption | omega) (show 0 ≤ r27.toInt by first | with_reducible assumption | omega) (show r27.toInt ≤ 8 by first | with_reducible assumption | omega) (show 0 ≤ v9_4.toInt from r8) (show v9_4.toInt ≤ 11 by first | with_reducible assumption | omega) (show 0 ≤ r27.toInt by first | with_reducible assumption | omega) (show 1 ≤ x24.toInt by first | with_reducible assumption | omega) (show x24.toInt ≤ 12 from tx24)  hw hT hF c34 hM (lv_sub hl [3, 4, 0, 1, 5, 2] rfl)
  have hM : TT (fun n => m_X5_streetToLookAt n 38 a1.toInt (sI w0)) (fun n => m_X5_streetToLookAt n 38 a1.toInt (sI w0)) := TT.rf
  refine lv_bipush (v := (-2)) hx hb dX5_streetToLookAt_0 (by decide) ?_
  refine lv_istore_n (lv' := [(2, .int (-2)), (0, .ref (ad 38)), (1, .int a1)]) hx hb dX5_streetToLookAt_2 rfl hl (by decide) rfl (fun ls hl => ?_)
  refine lv_bipush (v := 8) hx hb dX5_streetToLookAt_3 (by decide) ?_
  refine lv_istore_n (lv' := [(3, .int 8), (2, .int (-2)), (0, .ref (ad 38)), (1, .int a1)]) hx hb dX5_streetToLookAt_5 rfl hl (by decide) rfl (fun ls hl => ?_)
  refine lv_iconst (v := 0) hx hb dX5_streetToLookAt_6 (by decide) ?_
  refine lv_istore (lv' := [(4, .int 0), (3, .int 8), (2, .int (-2)), (0, .ref (ad 38)), (1, .int a1)]) hx hb dX5_streetToLookAt_7 hl (by decide) rfl (fun ls hl => ?_)
  exact L9 ((12 - (0 : Int)).toNat + 1) (-2) 8 0 s.heap locs ls w0 (show 1 ≤ a1.toInt from ra1) (show a1.toInt ≤ 127 from ta1) (by decide) (by decide) (by decide) (by decide) (by decide) (by decide) (Nat.lt_succ_self _) hw hT hF hM (lv_sub hl [3, 4, 2, 1, 0] rfl)
abbrev Pz_X11_weekdays_1 (ad : Nat → Nat) (cy : Nat → ClassId) (B : Int) (qr : Nat) (s1 : Int) (a1 : Int32) (w0 : va_W) : Int32 → va_W → Prop := fun r u => TW ksC ad cy B qr s1 u ∧ FE ksC ([] : List (Nat × Nat × Nat)) w0 u ∧ Ev (fun n => m_X11_weekdays n 0 a1.toInt (sI w0)) (r.toInt, sI u) ∧ (((-2) ≤ r.toInt ∧ r.toInt ≤ 11 ∧ 1 ≤ a1.toInt ∧ a1.toInt ≤ 1 ∧ (∃ y : Int32, gi u 39 8 = y ∧ 1 ≤ y.toInt ∧ y.toInt ≤ 10)) ∨ (r = (-2) ∧ 1 ≤ a1.toInt ∧ a1.toInt ≤ 1 ∧ (∃ y : Int32, gi u 39 8 = y ∧ 1 ≤ y.toInt ∧ y.toInt ≤ 10)) ∨ (0 ≤ r.toInt ∧ r.toInt ≤ 127 ∧ 0 ≤ a1.toInt ∧ a1.toInt ≤ 0 ∧ (∃ y : Int32, gi u 39 8 = y ∧ 1 ≤ y.toInt ∧ y.toInt ≤ 10)) ∨ (r = (-1)))
set_option maxHeartbeats 4000000 in
set_option maxRecDepth 100000 in
theorem kz_X11_weekdays_1 (l : Launch) (adK adV : Nat → Nat) (dC : Nat → ClassId) (dI : Nat → Nat → Nat) (cy : Nat → ClassId) (ad : Nat → Nat) (B : Int) (hB0 : 2147483648 ≤ B) (hB1 : B ≤ 1152921504606846976) (qr : Nat) (s1 : Int)  (a1 : Int32) (w0 : va_W) (sz : Nat) (hT : TW ksC ad cy B qr s1 w0)  : Met l yX11_weekdays (wu yX11_weekdays cX11_weekdays 3 (some .int)) ({ frames := 4, cells := 0, slots := 0, locals := 85 }) (va_Pc [.ref (ad 0), .int a1] (wpreS adK adV dC dI cy sz w0)) (va_Qi (Pz_X11_weekdays_1 ad cy B qr s1 a1 w0) (fun u : va_W => wpost dC dI cy (va_A w0 sz) u) (va_A w0 sz)) 0 0 (va_A w0 sz) := by
  refine Met.ofW (cc := cX11_weekdays) (maxL := 3) (ret := (some .int)) (by decide) rfl ?_
  intro p e s m args below meth c s₁ Bk hml hv
  obtain ⟨rfl, ⟨hsz, hP, hK, hD0⟩, hE, hSR⟩ := hv
  have hx := Bk.exec
  have hb := Bk.bytes
  have hr := Bk.returns
  have hlocks := Bk.notSynchronized
  have hC : CallFix p m c cX11_weekdays 3 s _ (wu yX11_weekdays cX11_weekdays 3 (some .int)) RX11 := ⟨hx, hb, hml, findClass_of_methodNamed Bk.named, atoms_spec (ws := (wu yX11_weekdays cX11_weekdays 3 (some .int))) Bk.pre⟩
  subst hsz
  have hD := hD0.self (sz := s.heap.size)
  generalize hAe : va_A w0 s.heap.size = A at hD hE ⊢
  have hA : ∀ q : Nat, s.heap.size ≤ q → A q := fun q h => by rw [← hAe]; exact Or.inr h
  have hw : Wd dC dI A s.heap s.heap [] w0 := ⟨hP, hD, va_S.rf⟩
  have hF : FE ksC ([] : List (Nat × Nat × Nat)) w0 w0 := FE.rf
  have hl := lv_entry ([.ref (ad 0), .int a1]) (n := 3) (Nat.le_of_ble_eq_true rfl)
  rw [lg_entry_eq]
  generalize (lg_sl ([.ref (ad 0), .int a1]) ++ List.replicate (3 - (lg_sl ([.ref (ad 0), .int a1])).length) Slot.unset).toArray = ls at hl ⊢
  have hl : lv_has ls 3 [(0, .ref (ad 0)), (1, .int a1)] := hl
  generalize hloc : ([] : List Loc) = locs at hw ⊢
  have hinX11 : ∀ w ∈ u_ws RX11 TX11 13, w ∈ (wu yX11_weekdays cX11_weekdays 3 (some .int)) := fun _ h => List.mem_cons_of_mem _ (up_70 h)
  have J19 : ∀ (f19_39_8 : Int32) (H : Heap) (locs : List Loc) (ls : Array Slot) (w1 : va_W), (-1) ≤ f19_39_8.toInt → f19_39_8.toInt ≤ 10 → Wd dC dI A s.heap H locs w1 → TW ksC ad cy B qr s1 w1 → FE ksC ([] : List (Nat × Nat × Nat)) w0 w1 → gi w1 39 8 = f19_39_8 → TT (fun n => m_X11_weekdays n 0 a1.toInt (sI w0)) (fun n => b_X11_weekdays_19 n 0 (sI w1)) → lv_has ls 3 [(0, .ref (ad 0)), (1, .int a1)] → W p l e ({ frames := 4, cells := 0, slots := 0, locals := 85 }) s m (List.toArray [.ref (ad 0), .int a1]) below meth c H locs 0 0 (MQ below (va_Qi (Pz_X11_weekdays_1 ad cy B qr s1 a1 w0) (fun u : va_W => wpost dC dI cy A u) A) (List.toArray [.ref (ad 0), .int a1]) s 0 0 A) (F0 m 19 ls []) := by
    intro f19_39_8 H locs ls w1 r2 t3 hw hT hF c4 hM hl
    refine lv_iconst (v := (-1)) hx hb dX11_weekdays_19 (by decide) ?_
    exact tk_iret hC hr hlocks hK ⟨hT, hF, hM.ret (by decide), (Or.inr (Or.inr (Or.inr rfl)))⟩ hw dX11_weekdays_20
  have hM : TT (fun n => m_X11_weekdays n 0 a1.toInt (sI w0)) (fun n => m_X11_weekdays n 0 a1.toInt (sI w0)) := TT.rf
  refine lv_aload_n hx hb dX11_weekdays_0 rfl (lv_at hl 0 rfl) ?_
  refine tk_getA hC hK hw hT hinX11 kC_at0 (by decide) rfl 4 (by decide) (List.mem_cons_of_mem _ uw_1_7) rfl rfl dX11_weekdays_1 ?_
  refine tk_Vi hC hK hw hT hA hE hSR kC_at38 (by decide) rfl (kz_X5_hasTown_1 l adK adV dC dI cy ad B hB0 (Int.le_trans hB1 (by decide)) qr s1    w0 s.heap.size hT ) (cwV 0 hC.2.2.2.2 uV_RX11_158 rfl rfl rfl (by decide +kernel) ⟨Nat.le_of_ble_eq_true rfl, Nat.le_of_ble_eq_true rfl⟩) rfl hl.1 rfl (Nat.le_of_ble_eq_true rfl) dX11_weekdays_4 (fun r5 w7 H locs hp6 hw => ?_)
  obtain ⟨hT, k8, hv14, hg13⟩ := hp6
  have hF := hF.tr k8 (by decide)
  rcases hg13 with ⟨rfl, ⟨x9, c10, rx9, tx9⟩⟩ | ⟨rfl, ⟨x11, c12, rx11, tx11⟩⟩
  · replace hM := hM.call (r' := 0) hv14 (by decide)
    refine lv_if_eq (tgt := 19) hx hb dX11_weekdays_7 (by decide) (fun _ => ?_) (fun c => absurd (by decide) c)
    replace hM := hM.pos (by decide)
    exact J19 x9 H locs ls w7 (show (-1) ≤ x9.toInt by first | with_reducible assumption | omega) (show x9.toInt ≤ 10 by first | with_reducible assumption | omega)  hw hT hF c10 hM (lv_sub hl [0, 1] rfl)
  · replace hM := hM.call (r' := 1) hv14 (by decide)
    refine lv_if_eq (tgt := 19) hx hb dX11_weekdays_7 (by decide) (fun c => absurd c (by decide)) (fun _ => ?_)
    replace hM := hM.neg (by decide)
    refine lv_iload_n hx hb dX11_weekdays_10 rfl (lv_at hl 1 rfl) ?_
    refine lv_if_lt (tgt := 19) hx hb dX11_weekdays_11 (by decide) (fun c15 => ?_) (fun c15 => ?_)
    · have c15 : a1.toInt < (0 : Int) := wk_lt.mp c15
      replace hM := hM.pos c15
      exact J19 x11 H locs ls w7 (show (-1) ≤ x11.toInt by first | with_reducible assumption | omega) (show x11.toInt ≤ 10 by first | with_reducible assumption | omega)  hw hT hF c12 hM (lv_sub hl [0, 1] rfl)
    · have c15 : (0 : Int) ≤ a1.toInt := wk_ltF c15
      replace hM := hM.neg (Int.not_lt.mpr c15)
      refine lv_iload_n hx hb dX11_weekdays_14 rfl (lv_at hl 1 rfl) ?_
      refine lv_iconst (v := 1) hx hb dX11_weekdays_15 (by decide) ?_
      refine lv_icmp_le (tgt := 21) hx hb dX11_weekdays_16 (by decide) (fun c16 => ?_) (fun c16 => ?_)
      · have c16 : a1.toInt ≤ (1 : Int) := wk_le.mp c16
        replace hM := hM.pos c16
        refine lv_aload_n hx hb dX11_weekdays_21 rfl (lv_at hl 0 rfl) ?_
        refine tk_getA hC hK hw hT hinX11 kC_at0 (by decide) rfl 4 (by decide) (List.mem_cons_of_mem _ uw_1_7) rfl rfl dX11_weekdays_22 ?_
        refine tk_Vi hC hK hw hT hA hE hSR kC_at38 (by decide) rfl (kz_X5_fittingDays_1 l adK adV dC dI cy ad B hB0 (Int.le_trans hB1 (by decide)) qr s1    w7 H.size hT ) (cwV 0 hC.2.2.2.2 uV_RX11_276 rfl rfl rfl (by decide +kernel) ⟨Nat.le_of_ble_eq_true rfl, Nat.le_of_ble_eq_true rfl⟩) rfl hl.1 rfl (Nat.le_of_ble_eq_true rfl) dX11_weekdays_25 (fun r17 w19 H locs hp18 hw => ?_)
        obtain ⟨hT, k20, hv24, hg23⟩ := hp18
        have hF := hF.tr k20 (by decide)
        have c25 := k20.gi kC_at39 (by decide) c12
        obtain ⟨g21, g22⟩ := hg23
        replace hM := hM.call hv24 rfl
        refine lv_istore_n (lv' := [(2, .int r17), (0, .ref (ad 0)), (1, .int a1)]) hx hb dX11_weekdays_28 rfl hl (by decide) rfl (fun ls hl => ?_)
        refine lv_iload_n hx hb dX11_weekdays_29 rfl (lv_at hl 2 rfl) ?_
        refine lv_if_ne (tgt := 35) hx hb dX11_weekdays_30 (by decide) (fun c26 => ?_) (fun c26 => ?_)
        · have c26 : ¬ a1.toInt = (0 : Int) := wk_eqF c26
          replace hM := hM.pos c26
          refine lv_iload_n hx hb dX11_weekdays_35 rfl (lv_at hl 0 rfl) ?_
          refine lv_if_ne (tgt := 44) hx hb dX11_weekdays_36 (by decide) (fun c27 => ?_) (fun c27 => ?_)
          · have c27 : ¬ r17.toInt = (0 : Int) := wk_eqF c27
            replace hM := hM.pos c27
            refine lv_aload_n hx hb dX11_weekdays_44 rfl (lv_at hl 1 rfl) ?_
            refine tk_getA hC hK hw hT hinX11 kC_at0 (by decide) rfl 4 (by decide) (List.mem_cons_of_mem _ uw_1_7) rfl rfl dX11_weekdays_45 ?_
            refine lv_iload_n hx hb dX11_weekdays_48 rfl (lv_at hl 0 rfl) ?_
            refine tk_Vi hC hK hw hT hA hE hSR kC_at38 (by decide) rfl (kz_X5_streetToLookAt_1 l adK adV dC dI cy ad B hB0 (Int.le_trans hB1 (by decide)) qr s1   r17 (show 1 ≤ r17.toInt by first | with_reducible assumption | omega) (show r17.toInt ≤ 127 by first | with_reducible assumption | omega) w19 H.size hT ) (cwV 1 hC.2.2.2.2 uV_RX11_279 rfl rfl rfl (by decide +kernel) ⟨Nat.le_of_ble_eq_true rfl, Nat.le_of_ble_eq_true rfl⟩) rfl hl.1 rfl (Nat.le_of_ble_eq_true rfl) dX11_weekdays_49 (fun r28 w30 H locs hp29 hw => ?_)
            obtain ⟨hT, k31, hv35, hg34⟩ := hp29
            have hF := hF.tr k31 (by decide)
            have c36 := k31.gi kC_at39 (by decide) c25
            obtain ⟨g32, g33⟩ := hg34
            replace hM := hM.call hv35 rfl
            exact tk_iret hC hr hlocks hK ⟨hT, hF, hM.ret rfl, (Or.inl ⟨(show (-2) ≤ r28.toInt by first | with_reducible assumption | omega), (show r28.toInt ≤ 11 by first | with_reducible assumption | omega), (show 1 ≤ a1.toInt by first | with_reducible assumption | omega), (show a1.toInt ≤ 1 by first | with_reducible assumption | omega), ⟨x11, c36, (show 1 ≤ x11.toInt by first | with_reducible assumption | omega), (show x11.toInt ≤ 10 by first | with_reducible assumption | omega)⟩⟩)⟩ hw dX11_weekdays_52
          · have c27 : r17.toInt = (0 : Int) := wk_eq.mp c27
            replace hM := hM.neg (fun q => q c27)
            refine lv_bipush (v := (-2)) hx hb dX11_weekdays_39 (by decide) ?_
            refine lv_goto (tgt := 52) hx hb dX11_weekdays_41 (by decide) ?_
            exact tk_iret hC hr hlocks hK ⟨hT, hF, hM.ret (by decide), (Or.inr (Or.inl ⟨rfl, (show 1 ≤ a1.toInt by first | with_reducible assumption | omega), (show a1.toInt ≤ 1 by first | with_reducible assumption | omega), ⟨x11, c25, (show 1 ≤ x11.toInt by first | with_reducible assumption | omega), (show x11.toInt ≤ 10 by first | with_reducible assumption | omega)⟩⟩))⟩ hw dX11_weekdays_52
        · have c26 : a1.toInt = (0 : Int) := wk_eq.mp c26
          replace hM := hM.neg (fun q => q c26)
          refine lv_iload_n hx hb dX11_weekdays_33 rfl (lv_at hl 0 rfl) ?_
          exact tk_iret hC hr hlocks hK ⟨hT, hF, hM.ret rfl, (Or.inr (Or.inr (Or.inl ⟨(show 0 ≤ r17.toInt by first | with_reducible assumption | omega), (show r17.toInt ≤ 127 by first | with_reducible assumption | omega), (show 0 ≤ a1.toInt by first | with_reducible assumption | omega), (show a1.toInt ≤ 0 by first | with_reducible assumption | omega), ⟨x11, c25, (show 1 ≤ x11.toInt by first | with_reducible assumption | omega), (show x11.toInt ≤ 10 by first | with_reducible assumption | omega)⟩⟩)))⟩ hw dX11_weekdays_34
      · have c16 : (1 : Int) < a1.toInt := wk_leF c16
        replace hM := hM.neg (Int.not_le.mpr c16)
        exact J19 x11 H locs ls w7 (show (-1) ≤ x11.toInt by first | with_reducible assumption | omega) (show x11.toInt ≤ 10 by first | with_reducible assumption | omega)  hw hT hF c12 hM (lv_sub hl [0, 1] rfl)
abbrev Pz_X12_four_1 (ad : Nat → Nat) (cy : Nat → ClassId) (B : Int) (qr : Nat) (s1 : Int) (a1 : Int32) (w0 : va_W) : va_W → Prop := fun u => TW ksM ad cy B qr 12 u ∧ FE ksM [(12, 1, 1), (60, 0, 400)] w0 u ∧ Ev (fun n => m_X12_four n 0 a1.toInt (sI w0)) (0, sI u) ∧ (((∃ y : Int32, gi u 0 1 = y ∧ 4 ≤ y.toInt ∧ y.toInt ≤ 384)))
set_option maxHeartbeats 4000000 in
set_option maxRecDepth 100000 in
theorem kz_X12_four_1 (l : Launch) (adK adV : Nat → Nat) (dC : Nat → ClassId) (dI : Nat → Nat → Nat) (cy : Nat → ClassId) (ad : Nat → Nat) (B : Int) (hB0 : 100000 ≤ B) (hB1 : B ≤ 1073741824) (qr : Nat) (s1 : Int)  (a1 : Int32) (w0 : va_W) (sz : Nat) (hT : TW ksM ad cy B qr 12 w0) (f0_ : Int32) (cf0_ : gi w0 0 1 = f0_) (rf0_ : 0 ≤ f0_.toInt) (tf0_ : f0_.toInt ≤ 380) : Met l yX12_four (wu yX12_four cX12_four 3 none) ({ frames := 1, cells := 0, slots := 0, locals := 12 }) (va_Pc [.ref (ad 0), .int a1] (wpreS adK adV dC dI cy sz w0)) (va_Qv (Pz_X12_four_1 ad cy B qr s1 a1 w0) (fun u : va_W => wpost dC dI cy (va_A w0 sz) u) (va_A w0 sz)) 0 0 (va_A w0 sz) := by
  refine Met.ofW (cc := cX12_four) (maxL := 3) (ret := none) (by decide) rfl ?_
  intro p e s m args below meth c s₁ Bk hml hv
  obtain ⟨rfl, ⟨hsz, hP, hK, hD0⟩, hE, hSR⟩ := hv
  have hx := Bk.exec
  have hb := Bk.bytes
  have hr := Bk.returns
  have hlocks := Bk.notSynchronized
  have hC : CallFix p m c cX12_four 3 s _ (wu yX12_four cX12_four 3 none) RX12 := ⟨hx, hb, hml, findClass_of_methodNamed Bk.named, atoms_spec (ws := (wu yX12_four cX12_four 3 none)) Bk.pre⟩
  subst hsz
  have hD := hD0.self (sz := s.heap.size)
  generalize hAe : va_A w0 s.heap.size = A at hD hE ⊢
  have hA : ∀ q : Nat, s.heap.size ≤ q → A q := fun q h => by rw [← hAe]; exact Or.inr h
  have hw : Wd dC dI A s.heap s.heap [] w0 := ⟨hP, hD, va_S.rf⟩
  have hF : FE ksM [(12, 1, 1), (60, 0, 400)] w0 w0 := FE.rf
  have hl := lv_entry ([.ref (ad 0), .int a1]) (n := 3) (Nat.le_of_ble_eq_true rfl)
  rw [lg_entry_eq]
  generalize (lg_sl ([.ref (ad 0), .int a1]) ++ List.replicate (3 - (lg_sl ([.ref (ad 0), .int a1])).length) Slot.unset).toArray = ls at hl ⊢
  have hl : lv_has ls 3 [(0, .ref (ad 0)), (1, .int a1)] := hl
  generalize hloc : ([] : List Loc) = locs at hw ⊢
  have hinX12 : ∀ w ∈ u_ws RX12 TX12 42, w ∈ (wu yX12_four cX12_four 3 none) := fun _ h => List.mem_cons_of_mem _ (up_71 h)
  have hM : TT (fun n => m_X12_four n 0 a1.toInt (sI w0)) (fun n => m_X12_four n 0 a1.toInt (sI w0)) := TT.rf
  refine lv_bipush (v := 24) hx hb dX12_four_0 (by decide) ?_
  refine lv_istore_n (lv' := [(2, .int 24), (0, .ref (ad 0)), (1, .int a1)]) hx hb dX12_four_2 rfl hl (by decide) rfl (fun ls hl => ?_)
  refine lv_iload_n hx hb dX12_four_3 rfl (lv_at hl 0 rfl) ?_
  refine lv_if_lt (tgt := 36) hx hb dX12_four_4 (by decide) (fun c => absurd c (by decide)) (fun _ => ?_)
  refine lv_aload_n hx hb dX12_four_7 rfl (lv_at hl 1 rfl) ?_
  refine tk_getA hC hK hw hT hinX12 kM_at0 (by decide) rfl 0 (by decide) (List.mem_cons_of_mem _ uw_6_14) rfl rfl dX12_four_8 ?_
  refine lv_aload_n hx hb dX12_four_11 rfl (lv_at hl 1 rfl) ?_
  refine tk_geti hC hK hw hT hinX12 kM_at0 (by decide) rfl 1 (by decide) (List.mem_cons_of_mem _ uw_8_7) rfl rfl dX12_four_12 (fun x1 c2 rx1 tx1 => ?_)
  refine wk_top f0_ (c2.symm.trans cf0_) ?_
  replace hM := hM.rd (sI_at cf0_)
  refine lv_iload_n hx hb dX12_four_15 rfl (lv_at hl 2 rfl) ?_
  refine lv_iload_n hx hb dX12_four_16 rfl (lv_at hl 0 rfl) ?_
  refine lv_ishr hx hb dX12_four_17 ?_
  refine lv_topi (fun x3 ex3 => ?_)
  have ezx3 := ex3
  replace hM := hM.lt (o32_e (f := fun x y => x >>> (y &&& 31)) ezx3 rfl (by decide))
  refine lv_i2b hx hb dX12_four_18 rfl ?_
  refine lv_topi (fun x4 ex4 => ?_)
  replace hM := hM.lt (mB_e ex4)
  refine tk_bastv hC hK hw hT kM_at1 (by decide) rfl rfl (show 0 ≤ f0_.toInt from rf0_) (show f0_.toInt < 400 from Int.lt_of_le_of_lt tf0_ (by decide)) dX12_four_19 (fun H locs w5 hw hT k7 c6 => ?_)
  obtain ⟨z8, ez8⟩ : ∃ z : Int32, z = x4.toInt8.toInt32 := ⟨_, rfl⟩
  have c6 := c6.trans ez8.symm
  replace hM := hM.lt (mB_e ez8)
  replace hM := hM.wr (sI_up k7 c6)
  have hF := hF.put kM_at1 (inE_of (a := 0) (b := 400) (by decide) (show 0 ≤ f0_.toInt.toNat by omega) (show f0_.toInt.toNat ≤ 400 by omega)) k7
  have c9 := k7.gi (Or.inl (tk_ne kM_at0 kM_at1 (by decide))) cf0_
  refine lv_aload_n hx hb dX12_four_20 rfl (lv_at hl 1 rfl) ?_
  refine lv_dup hx hb dX12_four_21 rfl ?_
  refine tk_geti hC hK hw hT hinX12 kM_at0 (by decide) rfl 1 (by decide) (List.mem_cons_of_mem _ uw_8_7) rfl rfl dX12_four_22 (fun x10 c11 rx10 tx10 => ?_)
  refine wk_top f0_ (c11.symm.trans c9) ?_
  replace hM := hM.rd (sI_at c9)
  refine lv_iconst (v := 1) hx hb dX12_four_25 (by decide) ?_
  refine lv_iadd hx hb dX12_four_26 ?_
  refine lv_topi (fun x12 ex12 => ?_)
  have ezx12 := ex12
  have ex12 : x12.toInt = f0_.toInt + (1 : Int) := by rw [ex12]; exact wk_add (show (-2147483648) ≤ f0_.toInt + (1 : Int) by omega) (show f0_.toInt + (1 : Int) ≤ 2147483647 by omega)
  replace hM := hM.lt ex12.symm
  refine tk_puti hC hK hw hT hinX12 tyX12_ok nmX12 kM_at0 (by decide) rfl rfl 1 (by decide) (List.mem_cons_of_mem _ uw_8_7) rfl rfl rfl rfl (show 0 ≤ x12.toInt by first | with_reducible assumption | omega) (show x12.toInt ≤ 400 by first | with_reducible assumption | omega) dX12_four_27 (fun H locs w13 hw hT k15 c14 => ?_)
  replace hM := hM.wr (sI_up k15 c14)
  have hF := hF.put kM_at0 (k := 1) (by decide) k15
  refine lv_iinc (v := 16) (lv' := [(2, .int 16), (0, .ref (ad 0)), (1, .int a1)]) hx hb dX12_four_30 hl (k := 0) rfl (by decide) (by decide) rfl (fun ls hl => ?_)
  refine lv_goto (tgt := 3) hx hb dX12_four_33 (by decide) ?_
  refine lv_iload_n hx hb dX12_four_3 rfl (lv_at hl 0 rfl) ?_
  refine lv_if_lt (tgt := 36) hx hb dX12_four_4 (by decide) (fun c => absurd c (by decide)) (fun _ => ?_)
  refine lv_aload_n hx hb dX12_four_7 rfl (lv_at hl 1 rfl) ?_
  refine tk_getA hC hK hw hT hinX12 kM_at0 (by decide) rfl 0 (by decide) (List.mem_cons_of_mem _ uw_6_14) rfl rfl dX12_four_8 ?_
  refine lv_aload_n hx hb dX12_four_11 rfl (lv_at hl 1 rfl) ?_
  refine tk_geti hC hK hw hT hinX12 kM_at0 (by decide) rfl 1 (by decide) (List.mem_cons_of_mem _ uw_8_7) rfl rfl dX12_four_12 (fun x16 c17 rx16 tx16 => ?_)
  refine wk_top x12 (c17.symm.trans c14) ?_
  replace hM := hM.rd (sI_at c14)
  refine lv_iload_n hx hb dX12_four_15 rfl (lv_at hl 2 rfl) ?_
  refine lv_iload_n hx hb dX12_four_16 rfl (lv_at hl 0 rfl) ?_
  refine lv_ishr hx hb dX12_four_17 ?_
  refine lv_topi (fun x18 ex18 => ?_)
  have ezx18 := ex18
  replace hM := hM.lt (o32_e (f := fun x y => x >>> (y &&& 31)) ezx18 rfl (by decide))
  refine lv_i2b hx hb dX12_four_18 rfl ?_
  refine lv_topi (fun x19 ex19 => ?_)
  replace hM := hM.lt (mB_e ex19)
  refine tk_bastv hC hK hw hT kM_at1 (by decide) rfl rfl (show 0 ≤ x12.toInt by first | with_reducible assumption | omega) (show x12.toInt < 400 by first | with_reducible assumption | omega) dX12_four_19 (fun H locs w20 hw hT k22 c21 => ?_)
  obtain ⟨z23, ez23⟩ : ∃ z : Int32, z = x19.toInt8.toInt32 := ⟨_, rfl⟩
  have c21 := c21.trans ez23.symm
  replace hM := hM.lt (mB_e ez23)
  replace hM := hM.wr (sI_up k22 c21)
  have hF := hF.put kM_at1 (inE_of (a := 0) (b := 400) (by decide) (show 0 ≤ x12.toInt.toNat by omega) (show x12.toInt.toNat ≤ 400 by omega)) k22
  have c24 := k22.gi (Or.inl (tk_ne kM_at0 kM_at1 (by decide))) c14
  refine lv_aload_n hx hb dX12_four_20 rfl (lv_at hl 1 rfl) ?_
  refine lv_dup hx hb dX12_four_21 rfl ?_
  refine tk_geti hC hK hw hT hinX12 kM_at0 (by decide) rfl 1 (by decide) (List.mem_cons_of_mem _ uw_8_7) rfl rfl dX12_four_22 (fun x25 c26 rx25 tx25 => ?_)
  refine wk_top x12 (c26.symm.trans c24) ?_
  replace hM := hM.rd (sI_at c24)
  refine lv_iconst (v := 1) hx hb dX12_four_25 (by decide) ?_
  refine lv_iadd hx hb dX12_four_26 ?_
  refine lv_topi (fun x27 ex27 => ?_)
  have ezx27 := ex27
  have ex27 : x27.toInt = x12.toInt + (1 : Int) := by rw [ex27]; exact wk_add (show (-2147483648) ≤ x12.toInt + (1 : Int) by omega) (show x12.toInt + (1 : Int) ≤ 2147483647 by omega)
  replace hM := hM.lt ex27.symm
  refine tk_puti hC hK hw hT hinX12 tyX12_ok nmX12 kM_at0 (by decide) rfl rfl 1 (by decide) (List.mem_cons_of_mem _ uw_8_7) rfl rfl rfl rfl (show 0 ≤ x27.toInt by first | with_reducible assumption | omega) (show x27.toInt ≤ 400 by first | with_reducible assumption | omega) dX12_four_27 (fun H locs w28 hw hT k30 c29 => ?_)
  replace hM := hM.wr (sI_up k30 c29)
  have hF := hF.put kM_at0 (k := 1) (by decide) k30
  refine lv_iinc (v := 8) (lv' := [(2, .int 8), (0, .ref (ad 0)), (1, .int a1)]) hx hb dX12_four_30 hl (k := 0) rfl (by decide) (by decide) rfl (fun ls hl => ?_)
  refine lv_goto (tgt := 3) hx hb dX12_four_33 (by decide) ?_
  refine lv_iload_n hx hb dX12_four_3 rfl (lv_at hl 0 rfl) ?_
  refine lv_if_lt (tgt := 36) hx hb dX12_four_4 (by decide) (fun c => absurd c (by decide)) (fun _ => ?_)
  refine lv_aload_n hx hb dX12_four_7 rfl (lv_at hl 1 rfl) ?_
  refine tk_getA hC hK hw hT hinX12 kM_at0 (by decide) rfl 0 (by decide) (List.mem_cons_of_mem _ uw_6_14) rfl rfl dX12_four_8 ?_
  refine lv_aload_n hx hb dX12_four_11 rfl (lv_at hl 1 rfl) ?_
  refine tk_geti hC hK hw hT hinX12 kM_at0 (by decide) rfl 1 (by decide) (List.mem_cons_of_mem _ uw_8_7) rfl rfl dX12_four_12 (fun x31 c32 rx31 tx31 => ?_)
  refine wk_top x27 (c32.symm.trans c29) ?_
  replace hM := hM.rd (sI_at c29)
  refine lv_iload_n hx hb dX12_four_15 rfl (lv_at hl 2 rfl) ?_
  refine lv_iload_n hx hb dX12_four_16 rfl (lv_at hl 0 rfl) ?_
  refine lv_ishr hx hb dX12_four_17 ?_
  refine lv_topi (fun x33 ex33 => ?_)
  have ezx33 := ex33
  replace hM := hM.lt (o32_e (f := fun x y => x >>> (y &&& 31)) ezx33 rfl (by decide))
  refine lv_i2b hx hb dX12_four_18 rfl ?_
  refine lv_topi (fun x34 ex34 => ?_)
  replace hM := hM.lt (mB_e ex34)
  refine tk_bastv hC hK hw hT kM_at1 (by decide) rfl rfl (show 0 ≤ x27.toInt by first | with_reducible assumption | omega) (show x27.toInt < 400 by first | with_reducible assumption | omega) dX12_four_19 (fun H locs w35 hw hT k37 c36 => ?_)
  obtain ⟨z38, ez38⟩ : ∃ z : Int32, z = x34.toInt8.toInt32 := ⟨_, rfl⟩
  have c36 := c36.trans ez38.symm
  replace hM := hM.lt (mB_e ez38)
  replace hM := hM.wr (sI_up k37 c36)
  have hF := hF.put kM_at1 (inE_of (a := 0) (b := 400) (by decide) (show 0 ≤ x27.toInt.toNat by omega) (show x27.toInt.toNat ≤ 400 by omega)) k37
  have c39 := k37.gi (Or.inl (tk_ne kM_at0 kM_at1 (by decide))) c29
  refine lv_aload_n hx hb dX12_four_20 rfl (lv_at hl 1 rfl) ?_
  refine lv_dup hx hb dX12_four_21 rfl ?_
  refine tk_geti hC hK hw hT hinX12 kM_at0 (by decide) rfl 1 (by decide) (List.mem_cons_of_mem _ uw_8_7) rfl rfl dX12_four_22 (fun x40 c41 rx40 tx40 => ?_)
  refine wk_top x27 (c41.symm.trans c39) ?_
  replace hM := hM.rd (sI_at c39)
  refine lv_iconst (v := 1) hx hb dX12_four_25 (by decide) ?_
  refine lv_iadd hx hb dX12_four_26 ?_
  refine lv_topi (fun x42 ex42 => ?_)
  have ezx42 := ex42
  have ex42 : x42.toInt = x27.toInt + (1 : Int) := by rw [ex42]; exact wk_add (show (-2147483648) ≤ x27.toInt + (1 : Int) by omega) (show x27.toInt + (1 : Int) ≤ 2147483647 by omega)
  replace hM := hM.lt ex42.symm
  refine tk_puti hC hK hw hT hinX12 tyX12_ok nmX12 kM_at0 (by decide) rfl rfl 1 (by decide) (List.mem_cons_of_mem _ uw_8_7) rfl rfl rfl rfl (show 0 ≤ x42.toInt by first | with_reducible assumption | omega) (show x42.toInt ≤ 400 by first | with_reducible assumption | omega) dX12_four_27 (fun H locs w43 hw hT k45 c44 => ?_)
  replace hM := hM.wr (sI_up k45 c44)
  have hF := hF.put kM_at0 (k := 1) (by decide) k45
  refine lv_iinc (v := 0) (lv' := [(2, .int 0), (0, .ref (ad 0)), (1, .int a1)]) hx hb dX12_four_30 hl (k := 0) rfl (by decide) (by decide) rfl (fun ls hl => ?_)
  refine lv_goto (tgt := 3) hx hb dX12_four_33 (by decide) ?_
  refine lv_iload_n hx hb dX12_four_3 rfl (lv_at hl 0 rfl) ?_
  refine lv_if_lt (tgt := 36) hx hb dX12_four_4 (by decide) (fun c => absurd c (by decide)) (fun _ => ?_)
  refine lv_aload_n hx hb dX12_four_7 rfl (lv_at hl 1 rfl) ?_
  refine tk_getA hC hK hw hT hinX12 kM_at0 (by decide) rfl 0 (by decide) (List.mem_cons_of_mem _ uw_6_14) rfl rfl dX12_four_8 ?_
  refine lv_aload_n hx hb dX12_four_11 rfl (lv_at hl 1 rfl) ?_
  refine tk_geti hC hK hw hT hinX12 kM_at0 (by decide) rfl 1 (by decide) (List.mem_cons_of_mem _ uw_8_7) rfl rfl dX12_four_12 (fun x46 c47 rx46 tx46 => ?_)
  refine wk_top x42 (c47.symm.trans c44) ?_
  replace hM := hM.rd (sI_at c44)
  refine lv_iload_n hx hb dX12_four_15 rfl (lv_at hl 2 rfl) ?_
  refine lv_iload_n hx hb dX12_four_16 rfl (lv_at hl 0 rfl) ?_
  refine lv_ishr hx hb dX12_four_17 ?_
  refine lv_topi (fun x48 ex48 => ?_)
  have ezx48 := ex48
  replace hM := hM.lt (o32_e (f := fun x y => x >>> (y &&& 31)) ezx48 rfl (by decide))
  refine lv_i2b hx hb dX12_four_18 rfl ?_
  refine lv_topi (fun x49 ex49 => ?_)
  replace hM := hM.lt (mB_e ex49)
  refine tk_bastv hC hK hw hT kM_at1 (by decide) rfl rfl (show 0 ≤ x42.toInt by first | with_reducible assumption | omega) (show x42.toInt < 400 by first | with_reducible assumption | omega) dX12_four_19 (fun H locs w50 hw hT k52 c51 => ?_)
  obtain ⟨z53, ez53⟩ : ∃ z : Int32, z = x49.toInt8.toInt32 := ⟨_, rfl⟩
  have c51 := c51.trans ez53.symm
  replace hM := hM.lt (mB_e ez53)
  replace hM := hM.wr (sI_up k52 c51)
  have hF := hF.put kM_at1 (inE_of (a := 0) (b := 400) (by decide) (show 0 ≤ x42.toInt.toNat by omega) (show x42.toInt.toNat ≤ 400 by omega)) k52
  have c54 := k52.gi (Or.inl (tk_ne kM_at0 kM_at1 (by decide))) c44
  refine lv_aload_n hx hb dX12_four_20 rfl (lv_at hl 1 rfl) ?_
  refine lv_dup hx hb dX12_four_21 rfl ?_
  refine tk_geti hC hK hw hT hinX12 kM_at0 (by decide) rfl 1 (by decide) (List.mem_cons_of_mem _ uw_8_7) rfl rfl dX12_four_22 (fun x55 c56 rx55 tx55 => ?_)
  refine wk_top x42 (c56.symm.trans c54) ?_
  replace hM := hM.rd (sI_at c54)
  refine lv_iconst (v := 1) hx hb dX12_four_25 (by decide) ?_
  refine lv_iadd hx hb dX12_four_26 ?_
  refine lv_topi (fun x57 ex57 => ?_)
  have ezx57 := ex57
  have ex57 : x57.toInt = x42.toInt + (1 : Int) := by rw [ex57]; exact wk_add (show (-2147483648) ≤ x42.toInt + (1 : Int) by omega) (show x42.toInt + (1 : Int) ≤ 2147483647 by omega)
  replace hM := hM.lt ex57.symm
  refine tk_puti hC hK hw hT hinX12 tyX12_ok nmX12 kM_at0 (by decide) rfl rfl 1 (by decide) (List.mem_cons_of_mem _ uw_8_7) rfl rfl rfl rfl (show 0 ≤ x57.toInt by first | with_reducible assumption | omega) (show x57.toInt ≤ 400 by first | with_reducible assumption | omega) dX12_four_27 (fun H locs w58 hw hT k60 c59 => ?_)
  replace hM := hM.wr (sI_up k60 c59)
  have hF := hF.put kM_at0 (k := 1) (by decide) k60
  refine lv_iinc (v := (-8)) (lv' := [(2, .int (-8)), (0, .ref (ad 0)), (1, .int a1)]) hx hb dX12_four_30 hl (k := 0) rfl (by decide) (by decide) rfl (fun ls hl => ?_)
  refine lv_goto (tgt := 3) hx hb dX12_four_33 (by decide) ?_
  refine lv_iload_n hx hb dX12_four_3 rfl (lv_at hl 0 rfl) ?_
  refine lv_if_lt (tgt := 36) hx hb dX12_four_4 (by decide) (fun _ => ?_) (fun c => absurd (by decide) c)
  exact tk_vret hC hr hlocks hK ⟨hT, hF, hM.ret rfl, ⟨x57, c59, (show 4 ≤ x57.toInt by first | with_reducible assumption | omega), (show x57.toInt ≤ 384 by first | with_reducible assumption | omega)⟩⟩ hw dX12_four_36
abbrev Pz_X12_four_2 (ad : Nat → Nat) (cy : Nat → ClassId) (B : Int) (qr : Nat) (s1 : Int) (a1 : Int32) (w0 : va_W) : va_W → Prop := fun u => TW ksM ad cy B qr 12 u ∧ FE ksM [(12, 1, 1), (60, 0, 400)] w0 u ∧ Ev (fun n => m_X12_four n 0 a1.toInt (sI w0)) (0, sI u) ∧ (((∃ y : Int32, gi u 0 1 = y ∧ 8 ≤ y.toInt ∧ y.toInt ≤ 388)))
set_option maxHeartbeats 4000000 in
set_option maxRecDepth 100000 in
theorem kz_X12_four_2 (l : Launch) (adK adV : Nat → Nat) (dC : Nat → ClassId) (dI : Nat → Nat → Nat) (cy : Nat → ClassId) (ad : Nat → Nat) (B : Int) (hB0 : 100000 ≤ B) (hB1 : B ≤ 1073741824) (qr : Nat) (s1 : Int)  (a1 : Int32) (w0 : va_W) (sz : Nat) (hT : TW ksM ad cy B qr 12 w0) (f0_ : Int32) (cf0_ : gi w0 0 1 = f0_) (rf0_ : 4 ≤ f0_.toInt) (tf0_ : f0_.toInt ≤ 384) : Met l yX12_four (wu yX12_four cX12_four 3 none) ({ frames := 1, cells := 0, slots := 0, locals := 12 }) (va_Pc [.ref (ad 0), .int a1] (wpreS adK adV dC dI cy sz w0)) (va_Qv (Pz_X12_four_2 ad cy B qr s1 a1 w0) (fun u : va_W => wpost dC dI cy (va_A w0 sz) u) (va_A w0 sz)) 0 0 (va_A w0 sz) := by
  refine Met.ofW (cc := cX12_four) (maxL := 3) (ret := none) (by decide) rfl ?_
  intro p e s m args below meth c s₁ Bk hml hv
  obtain ⟨rfl, ⟨hsz, hP, hK, hD0⟩, hE, hSR⟩ := hv
  have hx := Bk.exec
  have hb := Bk.bytes
  have hr := Bk.returns
  have hlocks := Bk.notSynchronized
  have hC : CallFix p m c cX12_four 3 s _ (wu yX12_four cX12_four 3 none) RX12 := ⟨hx, hb, hml, findClass_of_methodNamed Bk.named, atoms_spec (ws := (wu yX12_four cX12_four 3 none)) Bk.pre⟩
  subst hsz
  have hD := hD0.self (sz := s.heap.size)
  generalize hAe : va_A w0 s.heap.size = A at hD hE ⊢
  have hA : ∀ q : Nat, s.heap.size ≤ q → A q := fun q h => by rw [← hAe]; exact Or.inr h
  have hw : Wd dC dI A s.heap s.heap [] w0 := ⟨hP, hD, va_S.rf⟩
  have hF : FE ksM [(12, 1, 1), (60, 0, 400)] w0 w0 := FE.rf
  have hl := lv_entry ([.ref (ad 0), .int a1]) (n := 3) (Nat.le_of_ble_eq_true rfl)
  rw [lg_entry_eq]
  generalize (lg_sl ([.ref (ad 0), .int a1]) ++ List.replicate (3 - (lg_sl ([.ref (ad 0), .int a1])).length) Slot.unset).toArray = ls at hl ⊢
  have hl : lv_has ls 3 [(0, .ref (ad 0)), (1, .int a1)] := hl
  generalize hloc : ([] : List Loc) = locs at hw ⊢
  have hinX12 : ∀ w ∈ u_ws RX12 TX12 42, w ∈ (wu yX12_four cX12_four 3 none) := fun _ h => List.mem_cons_of_mem _ (up_71 h)
  have hM : TT (fun n => m_X12_four n 0 a1.toInt (sI w0)) (fun n => m_X12_four n 0 a1.toInt (sI w0)) := TT.rf
  refine lv_bipush (v := 24) hx hb dX12_four_0 (by decide) ?_
  refine lv_istore_n (lv' := [(2, .int 24), (0, .ref (ad 0)), (1, .int a1)]) hx hb dX12_four_2 rfl hl (by decide) rfl (fun ls hl => ?_)
  refine lv_iload_n hx hb dX12_four_3 rfl (lv_at hl 0 rfl) ?_
  refine lv_if_lt (tgt := 36) hx hb dX12_four_4 (by decide) (fun c => absurd c (by decide)) (fun _ => ?_)
  refine lv_aload_n hx hb dX12_four_7 rfl (lv_at hl 1 rfl) ?_
  refine tk_getA hC hK hw hT hinX12 kM_at0 (by decide) rfl 0 (by decide) (List.mem_cons_of_mem _ uw_6_14) rfl rfl dX12_four_8 ?_
  refine lv_aload_n hx hb dX12_four_11 rfl (lv_at hl 1 rfl) ?_
  refine tk_geti hC hK hw hT hinX12 kM_at0 (by decide) rfl 1 (by decide) (List.mem_cons_of_mem _ uw_8_7) rfl rfl dX12_four_12 (fun x1 c2 rx1 tx1 => ?_)
  refine wk_top f0_ (c2.symm.trans cf0_) ?_
  replace hM := hM.rd (sI_at cf0_)
  refine lv_iload_n hx hb dX12_four_15 rfl (lv_at hl 2 rfl) ?_
  refine lv_iload_n hx hb dX12_four_16 rfl (lv_at hl 0 rfl) ?_
  refine lv_ishr hx hb dX12_four_17 ?_
  refine lv_topi (fun x3 ex3 => ?_)
  have ezx3 := ex3
  replace hM := hM.lt (o32_e (f := fun x y => x >>> (y &&& 31)) ezx3 rfl (by decide))
  refine lv_i2b hx hb dX12_four_18 rfl ?_
  refine lv_topi (fun x4 ex4 => ?_)
  replace hM := hM.lt (mB_e ex4)
  refine tk_bastv hC hK hw hT kM_at1 (by decide) rfl rfl (show 0 ≤ f0_.toInt from Int.le_trans (by decide) rf0_) (show f0_.toInt < 400 from Int.lt_of_le_of_lt tf0_ (by decide)) dX12_four_19 (fun H locs w5 hw hT k7 c6 => ?_)
  obtain ⟨z8, ez8⟩ : ∃ z : Int32, z = x4.toInt8.toInt32 := ⟨_, rfl⟩
  have c6 := c6.trans ez8.symm
  replace hM := hM.lt (mB_e ez8)
  replace hM := hM.wr (sI_up k7 c6)
  have hF := hF.put kM_at1 (inE_of (a := 0) (b := 400) (by decide) (show 0 ≤ f0_.toInt.toNat by omega) (show f0_.toInt.toNat ≤ 400 by omega)) k7
  have c9 := k7.gi (Or.inl (tk_ne kM_at0 kM_at1 (by decide))) cf0_
  refine lv_aload_n hx hb dX12_four_20 rfl (lv_at hl 1 rfl) ?_
  refine lv_dup hx hb dX12_four_21 rfl ?_
  refine tk_geti hC hK hw hT hinX12 kM_at0 (by decide) rfl 1 (by decide) (List.mem_cons_of_mem _ uw_8_7) rfl rfl dX12_four_22 (fun x10 c11 rx10 tx10 => ?_)
  refine wk_top f0_ (c11.symm.trans c9) ?_
  replace hM := hM.rd (sI_at c9)
  refine lv_iconst (v := 1) hx hb dX12_four_25 (by decide) ?_
  refine lv_iadd hx hb dX12_four_26 ?_
  refine lv_topi (fun x12 ex12 => ?_)
  have ezx12 := ex12
  have ex12 : x12.toInt = f0_.toInt + (1 : Int) := by rw [ex12]; exact wk_add (show (-2147483648) ≤ f0_.toInt + (1 : Int) by omega) (show f0_.toInt + (1 : Int) ≤ 2147483647 by omega)
  replace hM := hM.lt ex12.symm
  refine tk_puti hC hK hw hT hinX12 tyX12_ok nmX12 kM_at0 (by decide) rfl rfl 1 (by decide) (List.mem_cons_of_mem _ uw_8_7) rfl rfl rfl rfl (show 0 ≤ x12.toInt by first | with_reducible assumption | omega) (show x12.toInt ≤ 400 by first | with_reducible assumption | omega) dX12_four_27 (fun H locs w13 hw hT k15 c14 => ?_)
  replace hM := hM.wr (sI_up k15 c14)
  have hF := hF.put kM_at0 (k := 1) (by decide) k15
  refine lv_iinc (v := 16) (lv' := [(2, .int 16), (0, .ref (ad 0)), (1, .int a1)]) hx hb dX12_four_30 hl (k := 0) rfl (by decide) (by decide) rfl (fun ls hl => ?_)
  refine lv_goto (tgt := 3) hx hb dX12_four_33 (by decide) ?_
  refine lv_iload_n hx hb dX12_four_3 rfl (lv_at hl 0 rfl) ?_
  refine lv_if_lt (tgt := 36) hx hb dX12_four_4 (by decide) (fun c => absurd c (by decide)) (fun _ => ?_)
  refine lv_aload_n hx hb dX12_four_7 rfl (lv_at hl 1 rfl) ?_
  refine tk_getA hC hK hw hT hinX12 kM_at0 (by decide) rfl 0 (by decide) (List.mem_cons_of_mem _ uw_6_14) rfl rfl dX12_four_8 ?_
  refine lv_aload_n hx hb dX12_four_11 rfl (lv_at hl 1 rfl) ?_
  refine tk_geti hC hK hw hT hinX12 kM_at0 (by decide) rfl 1 (by decide) (List.mem_cons_of_mem _ uw_8_7) rfl rfl dX12_four_12 (fun x16 c17 rx16 tx16 => ?_)
  refine wk_top x12 (c17.symm.trans c14) ?_
  replace hM := hM.rd (sI_at c14)
  refine lv_iload_n hx hb dX12_four_15 rfl (lv_at hl 2 rfl) ?_
  refine lv_iload_n hx hb dX12_four_16 rfl (lv_at hl 0 rfl) ?_
  refine lv_ishr hx hb dX12_four_17 ?_
  refine lv_topi (fun x18 ex18 => ?_)
  have ezx18 := ex18
  replace hM := hM.lt (o32_e (f := fun x y => x >>> (y &&& 31)) ezx18 rfl (by decide))
  refine lv_i2b hx hb dX12_four_18 rfl ?_
  refine lv_topi (fun x19 ex19 => ?_)
  replace hM := hM.lt (mB_e ex19)
  refine tk_bastv hC hK hw hT kM_at1 (by decide) rfl rfl (show 0 ≤ x12.toInt by first | with_reducible assumption | omega) (show x12.toInt < 400 by first | with_reducible assumption | omega) dX12_four_19 (fun H locs w20 hw hT k22 c21 => ?_)
  obtain ⟨z23, ez23⟩ : ∃ z : Int32, z = x19.toInt8.toInt32 := ⟨_, rfl⟩
  have c21 := c21.trans ez23.symm
  replace hM := hM.lt (mB_e ez23)
  replace hM := hM.wr (sI_up k22 c21)
  have hF := hF.put kM_at1 (inE_of (a := 0) (b := 400) (by decide) (show 0 ≤ x12.toInt.toNat by omega) (show x12.toInt.toNat ≤ 400 by omega)) k22
  have c24 := k22.gi (Or.inl (tk_ne kM_at0 kM_at1 (by decide))) c14
  refine lv_aload_n hx hb dX12_four_20 rfl (lv_at hl 1 rfl) ?_
  refine lv_dup hx hb dX12_four_21 rfl ?_
  refine tk_geti hC hK hw hT hinX12 kM_at0 (by decide) rfl 1 (by decide) (List.mem_cons_of_mem _ uw_8_7) rfl rfl dX12_four_22 (fun x25 c26 rx25 tx25 => ?_)
  refine wk_top x12 (c26.symm.trans c24) ?_
  replace hM := hM.rd (sI_at c24)
  refine lv_iconst (v := 1) hx hb dX12_four_25 (by decide) ?_
  refine lv_iadd hx hb dX12_four_26 ?_
  refine lv_topi (fun x27 ex27 => ?_)
  have ezx27 := ex27
  have ex27 : x27.toInt = x12.toInt + (1 : Int) := by rw [ex27]; exact wk_add (show (-2147483648) ≤ x12.toInt + (1 : Int) by omega) (show x12.toInt + (1 : Int) ≤ 2147483647 by omega)
  replace hM := hM.lt ex27.symm
  refine tk_puti hC hK hw hT hinX12 tyX12_ok nmX12 kM_at0 (by decide) rfl rfl 1 (by decide) (List.mem_cons_of_mem _ uw_8_7) rfl rfl rfl rfl (show 0 ≤ x27.toInt by first | with_reducible assumption | omega) (show x27.toInt ≤ 400 by first | with_reducible assumption | omega) dX12_four_27 (fun H locs w28 hw hT k30 c29 => ?_)
  replace hM := hM.wr (sI_up k30 c29)
  have hF := hF.put kM_at0 (k := 1) (by decide) k30
  refine lv_iinc (v := 8) (lv' := [(2, .int 8), (0, .ref (ad 0)), (1, .int a1)]) hx hb dX12_four_30 hl (k := 0) rfl (by decide) (by decide) rfl (fun ls hl => ?_)
  refine lv_goto (tgt := 3) hx hb dX12_four_33 (by decide) ?_
  refine lv_iload_n hx hb dX12_four_3 rfl (lv_at hl 0 rfl) ?_
  refine lv_if_lt (tgt := 36) hx hb dX12_four_4 (by decide) (fun c => absurd c (by decide)) (fun _ => ?_)
  refine lv_aload_n hx hb dX12_four_7 rfl (lv_at hl 1 rfl) ?_
  refine tk_getA hC hK hw hT hinX12 kM_at0 (by decide) rfl 0 (by decide) (List.mem_cons_of_mem _ uw_6_14) rfl rfl dX12_four_8 ?_
  refine lv_aload_n hx hb dX12_four_11 rfl (lv_at hl 1 rfl) ?_
  refine tk_geti hC hK hw hT hinX12 kM_at0 (by decide) rfl 1 (by decide) (List.mem_cons_of_mem _ uw_8_7) rfl rfl dX12_four_12 (fun x31 c32 rx31 tx31 => ?_)
  refine wk_top x27 (c32.symm.trans c29) ?_
  replace hM := hM.rd (sI_at c29)
  refine lv_iload_n hx hb dX12_four_15 rfl (lv_at hl 2 rfl) ?_
  refine lv_iload_n hx hb dX12_four_16 rfl (lv_at hl 0 rfl) ?_
  refine lv_ishr hx hb dX12_four_17 ?_
  refine lv_topi (fun x33 ex33 => ?_)
  have ezx33 := ex33
  replace hM := hM.lt (o32_e (f := fun x y => x >>> (y &&& 31)) ezx33 rfl (by decide))
  refine lv_i2b hx hb dX12_four_18 rfl ?_
  refine lv_topi (fun x34 ex34 => ?_)
  replace hM := hM.lt (mB_e ex34)
  refine tk_bastv hC hK hw hT kM_at1 (by decide) rfl rfl (show 0 ≤ x27.toInt by first | with_reducible assumption | omega) (show x27.toInt < 400 by first | with_reducible assumption | omega) dX12_four_19 (fun H locs w35 hw hT k37 c36 => ?_)
  obtain ⟨z38, ez38⟩ : ∃ z : Int32, z = x34.toInt8.toInt32 := ⟨_, rfl⟩
  have c36 := c36.trans ez38.symm
  replace hM := hM.lt (mB_e ez38)
  replace hM := hM.wr (sI_up k37 c36)
  have hF := hF.put kM_at1 (inE_of (a := 0) (b := 400) (by decide) (show 0 ≤ x27.toInt.toNat by omega) (show x27.toInt.toNat ≤ 400 by omega)) k37
  have c39 := k37.gi (Or.inl (tk_ne kM_at0 kM_at1 (by decide))) c29
  refine lv_aload_n hx hb dX12_four_20 rfl (lv_at hl 1 rfl) ?_
  refine lv_dup hx hb dX12_four_21 rfl ?_
  refine tk_geti hC hK hw hT hinX12 kM_at0 (by decide) rfl 1 (by decide) (List.mem_cons_of_mem _ uw_8_7) rfl rfl dX12_four_22 (fun x40 c41 rx40 tx40 => ?_)
  refine wk_top x27 (c41.symm.trans c39) ?_
  replace hM := hM.rd (sI_at c39)
  refine lv_iconst (v := 1) hx hb dX12_four_25 (by decide) ?_
  refine lv_iadd hx hb dX12_four_26 ?_
  refine lv_topi (fun x42 ex42 => ?_)
  have ezx42 := ex42
  have ex42 : x42.toInt = x27.toInt + (1 : Int) := by rw [ex42]; exact wk_add (show (-2147483648) ≤ x27.toInt + (1 : Int) by omega) (show x27.toInt + (1 : Int) ≤ 2147483647 by omega)
  replace hM := hM.lt ex42.symm
  refine tk_puti hC hK hw hT hinX12 tyX12_ok nmX12 kM_at0 (by decide) rfl rfl 1 (by decide) (List.mem_cons_of_mem _ uw_8_7) rfl rfl rfl rfl (show 0 ≤ x42.toInt by first | with_reducible assumption | omega) (show x42.toInt ≤ 400 by first | with_reducible assumption | omega) dX12_four_27 (fun H locs w43 hw hT k45 c44 => ?_)
  replace hM := hM.wr (sI_up k45 c44)
  have hF := hF.put kM_at0 (k := 1) (by decide) k45
  refine lv_iinc (v := 0) (lv' := [(2, .int 0), (0, .ref (ad 0)), (1, .int a1)]) hx hb dX12_four_30 hl (k := 0) rfl (by decide) (by decide) rfl (fun ls hl => ?_)
  refine lv_goto (tgt := 3) hx hb dX12_four_33 (by decide) ?_
  refine lv_iload_n hx hb dX12_four_3 rfl (lv_at hl 0 rfl) ?_
  refine lv_if_lt (tgt := 36) hx hb dX12_four_4 (by decide) (fun c => absurd c (by decide)) (fun _ => ?_)
  refine lv_aload_n hx hb dX12_four_7 rfl (lv_at hl 1 rfl) ?_
  refine tk_getA hC hK hw hT hinX12 kM_at0 (by decide) rfl 0 (by decide) (List.mem_cons_of_mem _ uw_6_14) rfl rfl dX12_four_8 ?_
  refine lv_aload_n hx hb dX12_four_11 rfl (lv_at hl 1 rfl) ?_
  refine tk_geti hC hK hw hT hinX12 kM_at0 (by decide) rfl 1 (by decide) (List.mem_cons_of_mem _ uw_8_7) rfl rfl dX12_four_12 (fun x46 c47 rx46 tx46 => ?_)
  refine wk_top x42 (c47.symm.trans c44) ?_
  replace hM := hM.rd (sI_at c44)
  refine lv_iload_n hx hb dX12_four_15 rfl (lv_at hl 2 rfl) ?_
  refine lv_iload_n hx hb dX12_four_16 rfl (lv_at hl 0 rfl) ?_
  refine lv_ishr hx hb dX12_four_17 ?_
  refine lv_topi (fun x48 ex48 => ?_)
  have ezx48 := ex48
  replace hM := hM.lt (o32_e (f := fun x y => x >>> (y &&& 31)) ezx48 rfl (by decide))
  refine lv_i2b hx hb dX12_four_18 rfl ?_
  refine lv_topi (fun x49 ex49 => ?_)
  replace hM := hM.lt (mB_e ex49)
  refine tk_bastv hC hK hw hT kM_at1 (by decide) rfl rfl (show 0 ≤ x42.toInt by first | with_reducible assumption | omega) (show x42.toInt < 400 by first | with_reducible assumption | omega) dX12_four_19 (fun H locs w50 hw hT k52 c51 => ?_)
  obtain ⟨z53, ez53⟩ : ∃ z : Int32, z = x49.toInt8.toInt32 := ⟨_, rfl⟩
  have c51 := c51.trans ez53.symm
  replace hM := hM.lt (mB_e ez53)
  replace hM := hM.wr (sI_up k52 c51)
  have hF := hF.put kM_at1 (inE_of (a := 0) (b := 400) (by decide) (show 0 ≤ x42.toInt.toNat by omega) (show x42.toInt.toNat ≤ 400 by omega)) k52
  have c54 := k52.gi (Or.inl (tk_ne kM_at0 kM_at1 (by decide))) c44
  refine lv_aload_n hx hb dX12_four_20 rfl (lv_at hl 1 rfl) ?_
  refine lv_dup hx hb dX12_four_21 rfl ?_
  refine tk_geti hC hK hw hT hinX12 kM_at0 (by decide) rfl 1 (by decide) (List.mem_cons_of_mem _ uw_8_7) rfl rfl dX12_four_22 (fun x55 c56 rx55 tx55 => ?_)
  refine wk_top x42 (c56.symm.trans c54) ?_
  replace hM := hM.rd (sI_at c54)
  refine lv_iconst (v := 1) hx hb dX12_four_25 (by decide) ?_
  refine lv_iadd hx hb dX12_four_26 ?_
  refine lv_topi (fun x57 ex57 => ?_)
  have ezx57 := ex57
  have ex57 : x57.toInt = x42.toInt + (1 : Int) := by rw [ex57]; exact wk_add (show (-2147483648) ≤ x42.toInt + (1 : Int) by omega) (show x42.toInt + (1 : Int) ≤ 2147483647 by omega)
  replace hM := hM.lt ex57.symm
  refine tk_puti hC hK hw hT hinX12 tyX12_ok nmX12 kM_at0 (by decide) rfl rfl 1 (by decide) (List.mem_cons_of_mem _ uw_8_7) rfl rfl rfl rfl (show 0 ≤ x57.toInt by first | with_reducible assumption | omega) (show x57.toInt ≤ 400 by first | with_reducible assumption | omega) dX12_four_27 (fun H locs w58 hw hT k60 c59 => ?_)
  replace hM := hM.wr (sI_up k60 c59)
  have hF := hF.put kM_at0 (k := 1) (by decide) k60
  refine lv_iinc (v := (-8)) (lv' := [(2, .int (-8)), (0, .ref (ad 0)), (1, .int a1)]) hx hb dX12_four_30 hl (k := 0) rfl (by decide) (by decide) rfl (fun ls hl => ?_)
  refine lv_goto (tgt := 3) hx hb dX12_four_33 (by decide) ?_
  refine lv_iload_n hx hb dX12_four_3 rfl (lv_at hl 0 rfl) ?_
  refine lv_if_lt (tgt := 36) hx hb dX12_four_4 (by decide) (fun _ => ?_) (fun c => absurd (by decide) c)
  exact tk_vret hC hr hlocks hK ⟨hT, hF, hM.ret rfl, ⟨x57, c59, (show 8 ≤ x57.toInt by first | with_reducible assumption | omega), (show x57.toInt ≤ 388 by first | with_reducible assumption | omega)⟩⟩ hw dX12_four_36
abbrev Pz_X12_four_3 (ad : Nat → Nat) (cy : Nat → ClassId) (B : Int) (qr : Nat) (s1 : Int) (a1 : Int32) (w0 : va_W) : va_W → Prop := fun u => TW ksM ad cy B qr 12 u ∧ FE ksM [(12, 1, 1), (60, 0, 400)] w0 u ∧ Ev (fun n => m_X12_four n 0 a1.toInt (sI w0)) (0, sI u) ∧ (((∃ y : Int32, gi u 0 1 = y ∧ 12 ≤ y.toInt ∧ y.toInt ≤ 392)))
set_option maxHeartbeats 4000000 in
set_option maxRecDepth 100000 in
theorem kz_X12_four_3 (l : Launch) (adK adV : Nat → Nat) (dC : Nat → ClassId) (dI : Nat → Nat → Nat) (cy : Nat → ClassId) (ad : Nat → Nat) (B : Int) (hB0 : 100000 ≤ B) (hB1 : B ≤ 1073741824) (qr : Nat) (s1 : Int)  (a1 : Int32) (w0 : va_W) (sz : Nat) (hT : TW ksM ad cy B qr 12 w0) (f0_ : Int32) (cf0_ : gi w0 0 1 = f0_) (rf0_ : 8 ≤ f0_.toInt) (tf0_ : f0_.toInt ≤ 388) : Met l yX12_four (wu yX12_four cX12_four 3 none) ({ frames := 1, cells := 0, slots := 0, locals := 12 }) (va_Pc [.ref (ad 0), .int a1] (wpreS adK adV dC dI cy sz w0)) (va_Qv (Pz_X12_four_3 ad cy B qr s1 a1 w0) (fun u : va_W => wpost dC dI cy (va_A w0 sz) u) (va_A w0 sz)) 0 0 (va_A w0 sz) := by
  refine Met.ofW (cc := cX12_four) (maxL := 3) (ret := none) (by decide) rfl ?_
  intro p e s m args below meth c s₁ Bk hml hv
  obtain ⟨rfl, ⟨hsz, hP, hK, hD0⟩, hE, hSR⟩ := hv
  have hx := Bk.exec
  have hb := Bk.bytes
  have hr := Bk.returns
  have hlocks := Bk.notSynchronized
  have hC : CallFix p m c cX12_four 3 s _ (wu yX12_four cX12_four 3 none) RX12 := ⟨hx, hb, hml, findClass_of_methodNamed Bk.named, atoms_spec (ws := (wu yX12_four cX12_four 3 none)) Bk.pre⟩
  subst hsz
  have hD := hD0.self (sz := s.heap.size)
  generalize hAe : va_A w0 s.heap.size = A at hD hE ⊢
  have hA : ∀ q : Nat, s.heap.size ≤ q → A q := fun q h => by rw [← hAe]; exact Or.inr h
  have hw : Wd dC dI A s.heap s.heap [] w0 := ⟨hP, hD, va_S.rf⟩
  have hF : FE ksM [(12, 1, 1), (60, 0, 400)] w0 w0 := FE.rf
  have hl := lv_entry ([.ref (ad 0), .int a1]) (n := 3) (Nat.le_of_ble_eq_true rfl)
  rw [lg_entry_eq]
  generalize (lg_sl ([.ref (ad 0), .int a1]) ++ List.replicate (3 - (lg_sl ([.ref (ad 0), .int a1])).length) Slot.unset).toArray = ls at hl ⊢
  have hl : lv_has ls 3 [(0, .ref (ad 0)), (1, .int a1)] := hl
  generalize hloc : ([] : List Loc) = locs at hw ⊢
  have hinX12 : ∀ w ∈ u_ws RX12 TX12 42, w ∈ (wu yX12_four cX12_four 3 none) := fun _ h => List.mem_cons_of_mem _ (up_71 h)
  have hM : TT (fun n => m_X12_four n 0 a1.toInt (sI w0)) (fun n => m_X12_four n 0 a1.toInt (sI w0)) := TT.rf
  refine lv_bipush (v := 24) hx hb dX12_four_0 (by decide) ?_
  refine lv_istore_n (lv' := [(2, .int 24), (0, .ref (ad 0)), (1, .int a1)]) hx hb dX12_four_2 rfl hl (by decide) rfl (fun ls hl => ?_)
  refine lv_iload_n hx hb dX12_four_3 rfl (lv_at hl 0 rfl) ?_
  refine lv_if_lt (tgt := 36) hx hb dX12_four_4 (by decide) (fun c => absurd c (by decide)) (fun _ => ?_)
  refine lv_aload_n hx hb dX12_four_7 rfl (lv_at hl 1 rfl) ?_
  refine tk_getA hC hK hw hT hinX12 kM_at0 (by decide) rfl 0 (by decide) (List.mem_cons_of_mem _ uw_6_14) rfl rfl dX12_four_8 ?_
  refine lv_aload_n hx hb dX12_four_11 rfl (lv_at hl 1 rfl) ?_
  refine tk_geti hC hK hw hT hinX12 kM_at0 (by decide) rfl 1 (by decide) (List.mem_cons_of_mem _ uw_8_7) rfl rfl dX12_four_12 (fun x1 c2 rx1 tx1 => ?_)
  refine wk_top f0_ (c2.symm.trans cf0_) ?_
  replace hM := hM.rd (sI_at cf0_)
  refine lv_iload_n hx hb dX12_four_15 rfl (lv_at hl 2 rfl) ?_
  refine lv_iload_n hx hb dX12_four_16 rfl (lv_at hl 0 rfl) ?_
  refine lv_ishr hx hb dX12_four_17 ?_
  refine lv_topi (fun x3 ex3 => ?_)
  have ezx3 := ex3
  replace hM := hM.lt (o32_e (f := fun x y => x >>> (y &&& 31)) ezx3 rfl (by decide))
  refine lv_i2b hx hb dX12_four_18 rfl ?_
  refine lv_topi (fun x4 ex4 => ?_)
  replace hM := hM.lt (mB_e ex4)
  refine tk_bastv hC hK hw hT kM_at1 (by decide) rfl rfl (show 0 ≤ f0_.toInt from Int.le_trans (by decide) rf0_) (show f0_.toInt < 400 from Int.lt_of_le_of_lt tf0_ (by decide)) dX12_four_19 (fun H locs w5 hw hT k7 c6 => ?_)
  obtain ⟨z8, ez8⟩ : ∃ z : Int32, z = x4.toInt8.toInt32 := ⟨_, rfl⟩
  have c6 := c6.trans ez8.symm
  replace hM := hM.lt (mB_e ez8)
  replace hM := hM.wr (sI_up k7 c6)
  have hF := hF.put kM_at1 (inE_of (a := 0) (b := 400) (by decide) (show 0 ≤ f0_.toInt.toNat by omega) (show f0_.toInt.toNat ≤ 400 by omega)) k7
  have c9 := k7.gi (Or.inl (tk_ne kM_at0 kM_at1 (by decide))) cf0_
  refine lv_aload_n hx hb dX12_four_20 rfl (lv_at hl 1 rfl) ?_
  refine lv_dup hx hb dX12_four_21 rfl ?_
  refine tk_geti hC hK hw hT hinX12 kM_at0 (by decide) rfl 1 (by decide) (List.mem_cons_of_mem _ uw_8_7) rfl rfl dX12_four_22 (fun x10 c11 rx10 tx10 => ?_)
  refine wk_top f0_ (c11.symm.trans c9) ?_
  replace hM := hM.rd (sI_at c9)
  refine lv_iconst (v := 1) hx hb dX12_four_25 (by decide) ?_
  refine lv_iadd hx hb dX12_four_26 ?_
  refine lv_topi (fun x12 ex12 => ?_)
  have ezx12 := ex12
  have ex12 : x12.toInt = f0_.toInt + (1 : Int) := by rw [ex12]; exact wk_add (show (-2147483648) ≤ f0_.toInt + (1 : Int) by omega) (show f0_.toInt + (1 : Int) ≤ 2147483647 by omega)
  replace hM := hM.lt ex12.symm
  refine tk_puti hC hK hw hT hinX12 tyX12_ok nmX12 kM_at0 (by decide) rfl rfl 1 (by decide) (List.mem_cons_of_mem _ uw_8_7) rfl rfl rfl rfl (show 0 ≤ x12.toInt by first | with_reducible assumption | omega) (show x12.toInt ≤ 400 by first | with_reducible assumption | omega) dX12_four_27 (fun H locs w13 hw hT k15 c14 => ?_)
  replace hM := hM.wr (sI_up k15 c14)
  have hF := hF.put kM_at0 (k := 1) (by decide) k15
  refine lv_iinc (v := 16) (lv' := [(2, .int 16), (0, .ref (ad 0)), (1, .int a1)]) hx hb dX12_four_30 hl (k := 0) rfl (by decide) (by decide) rfl (fun ls hl => ?_)
  refine lv_goto (tgt := 3) hx hb dX12_four_33 (by decide) ?_
  refine lv_iload_n hx hb dX12_four_3 rfl (lv_at hl 0 rfl) ?_
  refine lv_if_lt (tgt := 36) hx hb dX12_four_4 (by decide) (fun c => absurd c (by decide)) (fun _ => ?_)
  refine lv_aload_n hx hb dX12_four_7 rfl (lv_at hl 1 rfl) ?_
  refine tk_getA hC hK hw hT hinX12 kM_at0 (by decide) rfl 0 (by decide) (List.mem_cons_of_mem _ uw_6_14) rfl rfl dX12_four_8 ?_
  refine lv_aload_n hx hb dX12_four_11 rfl (lv_at hl 1 rfl) ?_
  refine tk_geti hC hK hw hT hinX12 kM_at0 (by decide) rfl 1 (by decide) (List.mem_cons_of_mem _ uw_8_7) rfl rfl dX12_four_12 (fun x16 c17 rx16 tx16 => ?_)
  refine wk_top x12 (c17.symm.trans c14) ?_
  replace hM := hM.rd (sI_at c14)
  refine lv_iload_n hx hb dX12_four_15 rfl (lv_at hl 2 rfl) ?_
  refine lv_iload_n hx hb dX12_four_16 rfl (lv_at hl 0 rfl) ?_
  refine lv_ishr hx hb dX12_four_17 ?_
  refine lv_topi (fun x18 ex18 => ?_)
  have ezx18 := ex18
  replace hM := hM.lt (o32_e (f := fun x y => x >>> (y &&& 31)) ezx18 rfl (by decide))
  refine lv_i2b hx hb dX12_four_18 rfl ?_
  refine lv_topi (fun x19 ex19 => ?_)
  replace hM := hM.lt (mB_e ex19)
  refine tk_bastv hC hK hw hT kM_at1 (by decide) rfl rfl (show 0 ≤ x12.toInt by first | with_reducible assumption | omega) (show x12.toInt < 400 by first | with_reducible assumption | omega) dX12_four_19 (fun H locs w20 hw hT k22 c21 => ?_)
  obtain ⟨z23, ez23⟩ : ∃ z : Int32, z = x19.toInt8.toInt32 := ⟨_, rfl⟩
  have c21 := c21.trans ez23.symm
  replace hM := hM.lt (mB_e ez23)
  replace hM := hM.wr (sI_up k22 c21)
  have hF := hF.put kM_at1 (inE_of (a := 0) (b := 400) (by decide) (show 0 ≤ x12.toInt.toNat by omega) (show x12.toInt.toNat ≤ 400 by omega)) k22
  have c24 := k22.gi (Or.inl (tk_ne kM_at0 kM_at1 (by decide))) c14
  refine lv_aload_n hx hb dX12_four_20 rfl (lv_at hl 1 rfl) ?_
  refine lv_dup hx hb dX12_four_21 rfl ?_
  refine tk_geti hC hK hw hT hinX12 kM_at0 (by decide) rfl 1 (by decide) (List.mem_cons_of_mem _ uw_8_7) rfl rfl dX12_four_22 (fun x25 c26 rx25 tx25 => ?_)
  refine wk_top x12 (c26.symm.trans c24) ?_
  replace hM := hM.rd (sI_at c24)
  refine lv_iconst (v := 1) hx hb dX12_four_25 (by decide) ?_
  refine lv_iadd hx hb dX12_four_26 ?_
  refine lv_topi (fun x27 ex27 => ?_)
  have ezx27 := ex27
  have ex27 : x27.toInt = x12.toInt + (1 : Int) := by rw [ex27]; exact wk_add (show (-2147483648) ≤ x12.toInt + (1 : Int) by omega) (show x12.toInt + (1 : Int) ≤ 2147483647 by omega)
  replace hM := hM.lt ex27.symm
  refine tk_puti hC hK hw hT hinX12 tyX12_ok nmX12 kM_at0 (by decide) rfl rfl 1 (by decide) (List.mem_cons_of_mem _ uw_8_7) rfl rfl rfl rfl (show 0 ≤ x27.toInt by first | with_reducible assumption | omega) (show x27.toInt ≤ 400 by first | with_reducible assumption | omega) dX12_four_27 (fun H locs w28 hw hT k30 c29 => ?_)
  replace hM := hM.wr (sI_up k30 c29)
  have hF := hF.put kM_at0 (k := 1) (by decide) k30
  refine lv_iinc (v := 8) (lv' := [(2, .int 8), (0, .ref (ad 0)), (1, .int a1)]) hx hb dX12_four_30 hl (k := 0) rfl (by decide) (by decide) rfl (fun ls hl => ?_)
  refine lv_goto (tgt := 3) hx hb dX12_four_33 (by decide) ?_
  refine lv_iload_n hx hb dX12_four_3 rfl (lv_at hl 0 rfl) ?_
  refine lv_if_lt (tgt := 36) hx hb dX12_four_4 (by decide) (fun c => absurd c (by decide)) (fun _ => ?_)
  refine lv_aload_n hx hb dX12_four_7 rfl (lv_at hl 1 rfl) ?_
  refine tk_getA hC hK hw hT hinX12 kM_at0 (by decide) rfl 0 (by decide) (List.mem_cons_of_mem _ uw_6_14) rfl rfl dX12_four_8 ?_
  refine lv_aload_n hx hb dX12_four_11 rfl (lv_at hl 1 rfl) ?_
  refine tk_geti hC hK hw hT hinX12 kM_at0 (by decide) rfl 1 (by decide) (List.mem_cons_of_mem _ uw_8_7) rfl rfl dX12_four_12 (fun x31 c32 rx31 tx31 => ?_)
  refine wk_top x27 (c32.symm.trans c29) ?_
  replace hM := hM.rd (sI_at c29)
  refine lv_iload_n hx hb dX12_four_15 rfl (lv_at hl 2 rfl) ?_
  refine lv_iload_n hx hb dX12_four_16 rfl (lv_at hl 0 rfl) ?_
  refine lv_ishr hx hb dX12_four_17 ?_
  refine lv_topi (fun x33 ex33 => ?_)
  have ezx33 := ex33
  replace hM := hM.lt (o32_e (f := fun x y => x >>> (y &&& 31)) ezx33 rfl (by decide))
  refine lv_i2b hx hb dX12_four_18 rfl ?_
  refine lv_topi (fun x34 ex34 => ?_)
  replace hM := hM.lt (mB_e ex34)
  refine tk_bastv hC hK hw hT kM_at1 (by decide) rfl rfl (show 0 ≤ x27.toInt by first | with_reducible assumption | omega) (show x27.toInt < 400 by first | with_reducible assumption | omega) dX12_four_19 (fun H locs w35 hw hT k37 c36 => ?_)
  obtain ⟨z38, ez38⟩ : ∃ z : Int32, z = x34.toInt8.toInt32 := ⟨_, rfl⟩
  have c36 := c36.trans ez38.symm
  replace hM := hM.lt (mB_e ez38)
  replace hM := hM.wr (sI_up k37 c36)
  have hF := hF.put kM_at1 (inE_of (a := 0) (b := 400) (by decide) (show 0 ≤ x27.toInt.toNat by omega) (show x27.toInt.toNat ≤ 400 by omega)) k37
  have c39 := k37.gi (Or.inl (tk_ne kM_at0 kM_at1 (by decide))) c29
  refine lv_aload_n hx hb dX12_four_20 rfl (lv_at hl 1 rfl) ?_
  refine lv_dup hx hb dX12_four_21 rfl ?_
  refine tk_geti hC hK hw hT hinX12 kM_at0 (by decide) rfl 1 (by decide) (List.mem_cons_of_mem _ uw_8_7) rfl rfl dX12_four_22 (fun x40 c41 rx40 tx40 => ?_)
  refine wk_top x27 (c41.symm.trans c39) ?_
  replace hM := hM.rd (sI_at c39)
  refine lv_iconst (v := 1) hx hb dX12_four_25 (by decide) ?_
  refine lv_iadd hx hb dX12_four_26 ?_
  refine lv_topi (fun x42 ex42 => ?_)
  have ezx42 := ex42
  have ex42 : x42.toInt = x27.toInt + (1 : Int) := by rw [ex42]; exact wk_add (show (-2147483648) ≤ x27.toInt + (1 : Int) by omega) (show x27.toInt + (1 : Int) ≤ 2147483647 by omega)
  replace hM := hM.lt ex42.symm
  refine tk_puti hC hK hw hT hinX12 tyX12_ok nmX12 kM_at0 (by decide) rfl rfl 1 (by decide) (List.mem_cons_of_mem _ uw_8_7) rfl rfl rfl rfl (show 0 ≤ x42.toInt by first | with_reducible assumption | omega) (show x42.toInt ≤ 400 by first | with_reducible assumption | omega) dX12_four_27 (fun H locs w43 hw hT k45 c44 => ?_)
  replace hM := hM.wr (sI_up k45 c44)
  have hF := hF.put kM_at0 (k := 1) (by decide) k45
  refine lv_iinc (v := 0) (lv' := [(2, .int 0), (0, .ref (ad 0)), (1, .int a1)]) hx hb dX12_four_30 hl (k := 0) rfl (by decide) (by decide) rfl (fun ls hl => ?_)
  refine lv_goto (tgt := 3) hx hb dX12_four_33 (by decide) ?_
  refine lv_iload_n hx hb dX12_four_3 rfl (lv_at hl 0 rfl) ?_
  refine lv_if_lt (tgt := 36) hx hb dX12_four_4 (by decide) (fun c => absurd c (by decide)) (fun _ => ?_)
  refine lv_aload_n hx hb dX12_four_7 rfl (lv_at hl 1 rfl) ?_
  refine tk_getA hC hK hw hT hinX12 kM_at0 (by decide) rfl 0 (by decide) (List.mem_cons_of_mem _ uw_6_14) rfl rfl dX12_four_8 ?_
  refine lv_aload_n hx hb dX12_four_11 rfl (lv_at hl 1 rfl) ?_
  refine tk_geti hC hK hw hT hinX12 kM_at0 (by decide) rfl 1 (by decide) (List.mem_cons_of_mem _ uw_8_7) rfl rfl dX12_four_12 (fun x46 c47 rx46 tx46 => ?_)
  refine wk_top x42 (c47.symm.trans c44) ?_
  replace hM := hM.rd (sI_at c44)
  refine lv_iload_n hx hb dX12_four_15 rfl (lv_at hl 2 rfl) ?_
  refine lv_iload_n hx hb dX12_four_16 rfl (lv_at hl 0 rfl) ?_
  refine lv_ishr hx hb dX12_four_17 ?_
  refine lv_topi (fun x48 ex48 => ?_)
  have ezx48 := ex48
  replace hM := hM.lt (o32_e (f := fun x y => x >>> (y &&& 31)) ezx48 rfl (by decide))
  refine lv_i2b hx hb dX12_four_18 rfl ?_
  refine lv_topi (fun x49 ex49 => ?_)
  replace hM := hM.lt (mB_e ex49)
  refine tk_bastv hC hK hw hT kM_at1 (by decide) rfl rfl (show 0 ≤ x42.toInt by first | with_reducible assumption | omega) (show x42.toInt < 400 by first | with_reducible assumption | omega) dX12_four_19 (fun H locs w50 hw hT k52 c51 => ?_)
  obtain ⟨z53, ez53⟩ : ∃ z : Int32, z = x49.toInt8.toInt32 := ⟨_, rfl⟩
  have c51 := c51.trans ez53.symm
  replace hM := hM.lt (mB_e ez53)
  replace hM := hM.wr (sI_up k52 c51)
  have hF := hF.put kM_at1 (inE_of (a := 0) (b := 400) (by decide) (show 0 ≤ x42.toInt.toNat by omega) (show x42.toInt.toNat ≤ 400 by omega)) k52
  have c54 := k52.gi (Or.inl (tk_ne kM_at0 kM_at1 (by decide))) c44
  refine lv_aload_n hx hb dX12_four_20 rfl (lv_at hl 1 rfl) ?_
  refine lv_dup hx hb dX12_four_21 rfl ?_
  refine tk_geti hC hK hw hT hinX12 kM_at0 (by decide) rfl 1 (by decide) (List.mem_cons_of_mem _ uw_8_7) rfl rfl dX12_four_22 (fun x55 c56 rx55 tx55 => ?_)
  refine wk_top x42 (c56.symm.trans c54) ?_
  replace hM := hM.rd (sI_at c54)
  refine lv_iconst (v := 1) hx hb dX12_four_25 (by decide) ?_
  refine lv_iadd hx hb dX12_four_26 ?_
  refine lv_topi (fun x57 ex57 => ?_)
  have ezx57 := ex57
  have ex57 : x57.toInt = x42.toInt + (1 : Int) := by rw [ex57]; exact wk_add (show (-2147483648) ≤ x42.toInt + (1 : Int) by omega) (show x42.toInt + (1 : Int) ≤ 2147483647 by omega)
  replace hM := hM.lt ex57.symm
  refine tk_puti hC hK hw hT hinX12 tyX12_ok nmX12 kM_at0 (by decide) rfl rfl 1 (by decide) (List.mem_cons_of_mem _ uw_8_7) rfl rfl rfl rfl (show 0 ≤ x57.toInt by first | with_reducible assumption | omega) (show x57.toInt ≤ 400 by first | with_reducible assumption | omega) dX12_four_27 (fun H locs w58 hw hT k60 c59 => ?_)
  replace hM := hM.wr (sI_up k60 c59)
  have hF := hF.put kM_at0 (k := 1) (by decide) k60
  refine lv_iinc (v := (-8)) (lv' := [(2, .int (-8)), (0, .ref (ad 0)), (1, .int a1)]) hx hb dX12_four_30 hl (k := 0) rfl (by decide) (by decide) rfl (fun ls hl => ?_)
  refine lv_goto (tgt := 3) hx hb dX12_four_33 (by decide) ?_
  refine lv_iload_n hx hb dX12_four_3 rfl (lv_at hl 0 rfl) ?_
  refine lv_if_lt (tgt := 36) hx hb dX12_four_4 (by decide) (fun _ => ?_) (fun c => absurd (by decide) c)
  exact tk_vret hC hr hlocks hK ⟨hT, hF, hM.ret rfl, ⟨x57, c59, (show 12 ≤ x57.toInt by first | with_reducible assumption | omega), (show x57.toInt ≤ 392 by first | with_reducible assumption | omega)⟩⟩ hw dX12_four_36
