abbrev Pz_X4_tellBest_1 (ad : Nat → Nat) (cy : Nat → ClassId) (B : Int) (qr : Nat) (s1 : Int) (a1 : Int32) (a2 : Int32) (a3 : Int32) (w0 : va_W) : Int32 → va_W → Prop := fun r u => TW ksC ad cy B qr s1 u ∧ FE ksC [(24, 0, 26), (25, 0, 13), (26, 0, 91), (27, 0, 13), (28, 0, 26), (31, 0, 13), (48, 0, 10), (49, 0, 10)] w0 u ∧ Ev (fun n => m_X4_tellBest n 155 a1.toInt a2.toInt a3.toInt (sI w0)) (r.toInt, sI u) ∧ ((r.toInt ≤ 14007 ∧ 2 ≤ a3.toInt) ∨ (0 ≤ r.toInt ∧ r.toInt ≤ 9 ∧ a3.toInt ≤ 1))
set_option maxHeartbeats 4000000 in
set_option maxRecDepth 100000 in
theorem kz_X4_tellBest_1 (l : Launch) (adK adV : Nat → Nat) (dC : Nat → ClassId) (dI : Nat → Nat → Nat) (cy : Nat → ClassId) (ad : Nat → Nat) (B : Int) (hB0 : 2147483648 ≤ B) (hB1 : B ≤ 1152921504606846976) (qr : Nat) (s1 : Int)  (a1 : Int32) (ra1 : 1 ≤ a1.toInt) (ta1 : a1.toInt ≤ 9) (a2 : Int32) (ra2 : 0 ≤ a2.toInt) (ta2 : a2.toInt ≤ 99999) (a3 : Int32) (ra3 : 0 ≤ a3.toInt) (ta3 : a3.toInt ≤ 2) (w0 : va_W) (sz : Nat) (hT : TW ksC ad cy B qr s1 w0)  : Met l yX4_tellBest (wu yX4_tellBest cX4_tellBest 10 (some .int)) ({ frames := 6, cells := 0, slots := 0, locals := 147 }) (va_Pc [.ref (ad 155), .int a1, .int a2, .int a3] (wpreS adK adV dC dI cy sz w0)) (va_Qi (Pz_X4_tellBest_1 ad cy B qr s1 a1 a2 a3 w0) (fun u : va_W => wpost dC dI cy (va_A w0 sz) u) (va_A w0 sz)) 0 0 (va_A w0 sz) := by
  refine Met.ofW (cc := cX4_tellBest) (maxL := 10) (ret := (some .int)) (by decide) rfl ?_
  intro p e s m args below meth c s₁ Bk hml hv
  obtain ⟨rfl, ⟨hsz, hP, hK, hD0⟩, hE, hSR⟩ := hv
  have hx := Bk.exec
  have hb := Bk.bytes
  have hr := Bk.returns
  have hlocks := Bk.notSynchronized
  have hC : CallFix p m c cX4_tellBest 10 s _ (wu yX4_tellBest cX4_tellBest 10 (some .int)) RX4 := ⟨hx, hb, hml, findClass_of_methodNamed Bk.named, atoms_spec (ws := (wu yX4_tellBest cX4_tellBest 10 (some .int))) Bk.pre⟩
  subst hsz
  have hD := hD0.self (sz := s.heap.size)
  generalize hAe : va_A w0 s.heap.size = A at hD hE ⊢
  have hA : ∀ q : Nat, s.heap.size ≤ q → A q := fun q h => by rw [← hAe]; exact Or.inr h
  have hw : Wd dC dI A s.heap s.heap [] w0 := ⟨hP, hD, va_S.rf⟩
  have hF : FE ksC [(24, 0, 26), (25, 0, 13), (26, 0, 91), (27, 0, 13), (28, 0, 26), (31, 0, 13), (48, 0, 10), (49, 0, 10)] w0 w0 := FE.rf
  have hl := lv_entry ([.ref (ad 155), .int a1, .int a2, .int a3]) (n := 10) (Nat.le_of_ble_eq_true rfl)
  rw [lg_entry_eq]
  generalize (lg_sl ([.ref (ad 155), .int a1, .int a2, .int a3]) ++ List.replicate (10 - (lg_sl ([.ref (ad 155), .int a1, .int a2, .int a3])).length) Slot.unset).toArray = ls at hl ⊢
  have hl : lv_has ls 10 [(0, .ref (ad 155)), (1, .int a1), (2, .int a2), (3, .int a3)] := hl
  generalize hloc : ([] : List Loc) = locs at hw ⊢
  have hinX4 : ∀ w ∈ u_ws RX4 TX4 4, w ∈ (wu yX4_tellBest cX4_tellBest 10 (some .int)) := fun _ h => List.mem_cons_of_mem _ (up_80 h)
  have hinX7 : ∀ w ∈ u_ws RX7 TX7 12, w ∈ (wu yX4_tellBest cX4_tellBest 10 (some .int)) := fun _ h => List.mem_cons_of_mem _ (up_73 h)
  have L14 : ∀ (n14 : Nat) (v14_4 : Int32) (v14_5 : Int32) (v14_6 : Int32) (v14_7 : Int32) (H : Heap) (locs : List Loc) (ls : Array Slot) (w1 : va_W), 1 ≤ a1.toInt → a1.toInt ≤ 9 → 0 ≤ a2.toInt → a2.toInt ≤ 99999 → 0 ≤ a3.toInt → a3.toInt ≤ 2 → 0 ≤ v14_4.toInt → v14_4.toInt ≤ 9 → 1 ≤ v14_5.toInt → v14_5.toInt ≤ 9 → v14_6.toInt ≤ 14007 → 0 ≤ v14_7.toInt → v14_7.toInt ≤ 10 → (10 - v14_7.toInt).toNat < n14 → Wd dC dI A s.heap H locs w1 → TW ksC ad cy B qr s1 w1 → FE ksC [(24, 0, 26), (25, 0, 13), (26, 0, 91), (27, 0, 13), (28, 0, 26), (31, 0, 13), (48, 0, 10), (49, 0, 10)] w0 w1 → TT (fun n => m_X4_tellBest n 155 a1.toInt a2.toInt a3.toInt (sI w0)) (fun n => j_X4_tellBest 155 n 14 [a1.toInt, a2.toInt, a3.toInt, v14_4.toInt, v14_5.toInt, v14_6.toInt, v14_7.toInt] (sI w1)) → lv_has ls 10 [(0, .ref (ad 155)), (1, .int a1), (2, .int a2), (3, .int a3), (4, .int v14_4), (5, .int v14_5), (6, .int v14_6), (7, .int v14_7)] → W p l e ({ frames := 6, cells := 0, slots := 0, locals := 147 }) s m (List.toArray [.ref (ad 155), .int a1, .int a2, .int a3]) below meth c H locs 0 0 (MQ below (va_Qi (Pz_X4_tellBest_1 ad cy B qr s1 a1 a2 a3 w0) (fun u : va_W => wpost dC dI cy A u) A) (List.toArray [.ref (ad 155), .int a1, .int a2, .int a3]) s 0 0 A) (F0 m 14 ls []) := by
    intro n14
    induction n14 with
    | zero => intro v14_4 v14_5 v14_6 v14_7 H locs ls w1 r2 t3 r4 t5 r6 t7 r8 t9 r10 t11 t12 r13 t14 hm14 hw hT hF hM hl; omega
    | succ n14 ih14 =>
      intro v14_4 v14_5 v14_6 v14_7 H locs ls w1 r2 t3 r4 t5 r6 t7 r8 t9 r10 t11 t12 r13 t14 hm14 hw hT hF hM hl
      have L32 : ∀ (n32 : Nat) (v32_4 : Int32) (v32_5 : Int32) (v32_6 : Int32) (v32_8 : Int32) (f32_39_8 : Int32) (H : Heap) (locs : List Loc) (ls : Array Slot) (w15 : va_W), 1 ≤ a1.toInt → a1.toInt ≤ 9 → 0 ≤ a2.toInt → a2.toInt ≤ 99999 → 0 ≤ a3.toInt → a3.toInt ≤ 2 → 0 ≤ v32_4.toInt → v32_4.toInt ≤ 9 → 1 ≤ v32_5.toInt → v32_5.toInt ≤ 9 → v32_6.toInt ≤ 14007 → 0 ≤ v14_7.toInt → v14_7.toInt ≤ 9 → 1 ≤ v32_8.toInt → v32_8.toInt ≤ 10 → 1 ≤ f32_39_8.toInt → f32_39_8.toInt ≤ 10 → (10 - v32_8.toInt).toNat < n32 → Wd dC dI A s.heap H locs w15 → TW ksC ad cy B qr s1 w15 → FE ksC [(24, 0, 26), (25, 0, 13), (26, 0, 91), (27, 0, 13), (28, 0, 26), (31, 0, 13), (48, 0, 10), (49, 0, 10)] w0 w15 → gi w15 39 8 = f32_39_8 → TT (fun n => m_X4_tellBest n 155 a1.toInt a2.toInt a3.toInt (sI w0)) (fun n => j_X4_tellBest 155 n 32 [a1.toInt, a2.toInt, a3.toInt, v32_4.toInt, v32_5.toInt, v32_6.toInt, v14_7.toInt, v32_8.toInt] (sI w15)) → lv_has ls 10 [(0, .ref (ad 155)), (1, .int a1), (2, .int a2), (3, .int a3), (4, .int v32_4), (5, .int v32_5), (6, .int v32_6), (7, .int v14_7), (8, .int v32_8)] → W p l e ({ frames := 6, cells := 0, slots := 0, locals := 147 }) s m (List.toArray [.ref (ad 155), .int a1, .int a2, .int a3]) below meth c H locs 0 0 (MQ below (va_Qi (Pz_X4_tellBest_1 ad cy B qr s1 a1 a2 a3 w0) (fun u : va_W => wpost dC dI cy A u) A) (List.toArray [.ref (ad 155), .int a1, .int a2, .int a3]) s 0 0 A) (F0 m 32 ls []) := by
        intro n32
        induction n32 with
        | zero => intro v32_4 v32_5 v32_6 v32_8 f32_39_8 H locs ls w15 r16 t17 r18 t19 r20 t21 r22 t23 r24 t25 t26 r27 t28 r29 t30 r31 t32 hm32 hw hT hF c33 hM hl; omega
        | succ n32 ih32 =>
          intro v32_4 v32_5 v32_6 v32_8 f32_39_8 H locs ls w15 r16 t17 r18 t19 r20 t21 r22 t23 r24 t25 t26 r27 t28 r29 t30 r31 t32 hm32 hw hT hF c33 hM hl
          have J84 : ∀ (v84_4 : Int32) (v84_5 : Int32) (v84_6 : Int32) (v84_9 : Int32) (H : Heap) (locs : List Loc) (ls : Array Slot) (w34 : va_W), 1 ≤ a1.toInt → a1.toInt ≤ 9 → 0 ≤ a2.toInt → a2.toInt ≤ 99999 → 0 ≤ a3.toInt → a3.toInt ≤ 2 → 0 ≤ v84_4.toInt → v84_4.toInt ≤ 9 → 1 ≤ v84_5.toInt → v84_5.toInt ≤ 9 → v84_6.toInt ≤ 14007 → 0 ≤ v14_7.toInt → v14_7.toInt ≤ 9 → 1 ≤ v32_8.toInt → v32_8.toInt ≤ 9 → 2 ≤ f32_39_8.toInt → f32_39_8.toInt ≤ 10 → Wd dC dI A s.heap H locs w34 → TW ksC ad cy B qr s1 w34 → FE ksC [(24, 0, 26), (25, 0, 13), (26, 0, 91), (27, 0, 13), (28, 0, 26), (31, 0, 13), (48, 0, 10), (49, 0, 10)] w0 w34 → gi w34 39 8 = f32_39_8 → TT (fun n => m_X4_tellBest n 155 a1.toInt a2.toInt a3.toInt (sI w0)) (fun n => b_X4_tellBest_84 (j_X4_tellBest 155 n) n 155 (a1.toInt) (a2.toInt) (a3.toInt) (v84_4.toInt) (v84_5.toInt) (v84_6.toInt) (v14_7.toInt) (v32_8.toInt) (sI w34)) → lv_has ls 10 [(0, .ref (ad 155)), (1, .int a1), (2, .int a2), (3, .int a3), (4, .int v84_4), (5, .int v84_5), (6, .int v84_6), (7, .int v14_7), (8, .int v32_8), (9, .int v84_9)] → W p l e ({ frames := 6, cells := 0, slots := 0, locals := 147 }) s m (List.toArray [.ref (ad 155), .int a1, .int a2, .int a3]) below meth c H locs 0 0 (MQ below (va_Qi (Pz_X4_tellBest_1 ad cy B qr s1 a1 a2 a3 w0) (fun u : va_W => wpost dC dI cy A u) A) (List.toArray [.ref (ad 155), .int a1, .int a2, .int a3]) s 0 0 A) (F0 m 84 ls []) := by
            intro v84_4 v84_5 v84_6 v84_9 H locs ls w34 r35 t36 r37 t38 r39 t40 r41 t42 r43 t44 t45 r46 t47 r48 t49 r50 t51 hw hT hF c52 hM hl
            obtain ⟨x53, ex53⟩ : ∃ y : Int32, y = v32_8 + Int32.ofInt 1 := ⟨_, rfl⟩
            have erx53 := ex53
            refine lv_iinc (v := x53) (lv' := [(8, .int x53), (0, .ref (ad 155)), (1, .int a1), (2, .int a2), (3, .int a3), (4, .int v84_4), (5, .int v84_5), (6, .int v84_6), (7, .int v14_7), (9, .int v84_9)]) hx hb dX4_tellBest_84 hl (k := 8) rfl ex53.symm (by decide) rfl (fun ls hl => ?_)
            have ex53 : x53.toInt = v32_8.toInt + 1 := by rw [ex53]; exact wk_add (y := 1) (show -2147483648 ≤ v32_8.toInt + 1 by omega) (show v32_8.toInt + 1 ≤ 2147483647 by omega)
            replace hM := hM.lt ex53.symm
            refine lv_goto (tgt := 32) hx hb dX4_tellBest_87 (by decide) ?_
            exact ih32 v84_4 v84_5 v84_6 x53 f32_39_8 H locs ls w34 (show 1 ≤ a1.toInt from r35) (show a1.toInt ≤ 9 from t36) (show 0 ≤ a2.toInt from r37) (show a2.toInt ≤ 99999 from t38) (show 0 ≤ a3.toInt from r39) (show a3.toInt ≤ 2 from t40) (show 0 ≤ v84_4.toInt from r41) (show v84_4.toInt ≤ 9 from t42) (show 1 ≤ v84_5.toInt from r43) (show v84_5.toInt ≤ 9 from t44) (show v84_6.toInt ≤ 14007 from t45) (show 0 ≤ v14_7.toInt from r46) (show v14_7.toInt ≤ 9 from t47) (show 1 ≤ x53.toInt by first | with_reducible assumption | omega) (show x53.toInt ≤ 10 by first | with_reducible assumption | omega) (show 1 ≤ f32_39_8.toInt from r31) (show f32_39_8.toInt ≤ 10 from t51) (show (10 - x53.toInt).toNat < n32 by first | exact tn_lt hm32 (by omega) (by omega) | omega) hw hT hF c52 hM (lv_sub hl [1, 2, 3, 4, 5, 6, 7, 8, 0] rfl)
          replace hM := hM.suc (fun _ => e_X4_tellBest_32)
          refine lv_iload hx hb dX4_tellBest_32 (lv_at hl 8 rfl) ?_
          refine lv_aload_n hx hb dX4_tellBest_34 rfl (lv_at hl 0 rfl) ?_
          refine tk_getA hC hK hw hT hinX4 kC_at155 (by decide) rfl 1 (by decide) (List.mem_cons_of_mem _ uw_5_23) rfl rfl dX4_tellBest_35 ?_
          refine tk_geti hC hK hw hT hinX7 kC_at39 (by decide) rfl 8 (by decide) (List.mem_cons_of_mem _ uw_49_18) rfl rfl dX4_tellBest_38 (fun x54 c55 rx54 tx54 => ?_)
          refine wk_top f32_39_8 (c55.symm.trans c33) ?_
          replace hM := hM.rd (sI_at c33)
          refine lv_icmp_ge (tgt := 90) hx hb dX4_tellBest_41 (by decide) (fun c56 => ?_) (fun c56 => ?_)
          · have c56 : f32_39_8.toInt ≤ v32_8.toInt := wk_le.mp c56
            replace hM := hM.pos c56
            obtain ⟨x57, ex57⟩ : ∃ y : Int32, y = v14_7 + Int32.ofInt 1 := ⟨_, rfl⟩
            have erx57 := ex57
            refine lv_iinc (v := x57) (lv' := [(7, .int x57), (0, .ref (ad 155)), (1, .int a1), (2, .int a2), (3, .int a3), (4, .int v32_4), (5, .int v32_5), (6, .int v32_6), (8, .int v32_8)]) hx hb dX4_tellBest_90 hl (k := 7) rfl ex57.symm (by decide) rfl (fun ls hl => ?_)
            have ex57 : x57.toInt = v14_7.toInt + 1 := by rw [ex57]; exact wk_add (y := 1) (show -2147483648 ≤ v14_7.toInt + 1 by omega) (show v14_7.toInt + 1 ≤ 2147483647 by omega)
            replace hM := hM.lt ex57.symm
            refine lv_goto (tgt := 14) hx hb dX4_tellBest_93 (by decide) ?_
            exact ih14 v32_4 v32_5 v32_6 x57 H locs ls w15 (show 1 ≤ a1.toInt from r16) (show a1.toInt ≤ 9 from t17) (show 0 ≤ a2.toInt from r18) (show a2.toInt ≤ 99999 from t19) (show 0 ≤ a3.toInt from r20) (show a3.toInt ≤ 2 from t21) (show 0 ≤ v32_4.toInt from r22) (show v32_4.toInt ≤ 9 from t23) (show 1 ≤ v32_5.toInt from r24) (show v32_5.toInt ≤ 9 from t25) (show v32_6.toInt ≤ 14007 from t26) (show 0 ≤ x57.toInt by first | with_reducible assumption | omega) (show x57.toInt ≤ 10 by first | with_reducible assumption | omega) (show (10 - x57.toInt).toNat < n14 by first | exact tn_lt hm14 (by omega) (by omega) | omega) hw hT hF hM (lv_sub hl [1, 2, 3, 4, 5, 6, 7, 0] rfl)
          · have c56 : v32_8.toInt < f32_39_8.toInt := wk_leF c56
            replace hM := hM.neg (Int.not_le.mpr c56)
            refine lv_aload_n hx hb dX4_tellBest_44 rfl (lv_at hl 0 rfl) ?_
            refine tk_getA hC hK hw hT hinX4 kC_at155 (by decide) rfl 1 (by decide) (List.mem_cons_of_mem _ uw_5_23) rfl rfl dX4_tellBest_45 ?_
            refine lv_iload hx hb dX4_tellBest_48 (lv_at hl 7 rfl) ?_
            refine lv_iload hx hb dX4_tellBest_50 (lv_at hl 8 rfl) ?_
            refine lv_iload_n hx hb dX4_tellBest_52 rfl (lv_at hl 1 rfl) ?_
            refine tk_Vv hC hK hw hT hA hE hSR kC_at39 (by decide) rfl (kz_X7_tryStreet_1 l adK adV dC dI cy ad B hB0 (Int.le_trans hB1 (by decide)) qr s1   v14_7 (show 0 ≤ v14_7.toInt from r27) (show v14_7.toInt ≤ 9 from t28) v32_8 (show 1 ≤ v32_8.toInt from r29) (show v32_8.toInt ≤ 9 by first | with_reducible assumption | omega) a1 (show 1 ≤ a1.toInt from r16) (show a1.toInt ≤ 9 from t17) w15 H.size hT ) (cwV 3 hC.2.2.2.2 uV_RX4_87 rfl rfl rfl (by decide +kernel) ⟨Nat.le_of_ble_eq_true rfl, Nat.le_of_ble_eq_true rfl⟩) rfl hl.1 rfl (Nat.le_of_ble_eq_true rfl) dX4_tellBest_53 (fun w60 H locs hp59 hw => ?_)
            obtain ⟨hT, k61, hv63, hg62⟩ := hp59
            have hF := hF.tr k61 (by decide)
            have c64 := k61.gi kC_at39 (by decide) c33
            clear hg62
            replace hM := hM.call hv63 rfl
            refine lv_aload_n hx hb dX4_tellBest_56 rfl (lv_at hl 0 rfl) ?_
            refine lv_iload_n hx hb dX4_tellBest_57 rfl (lv_at hl 2 rfl) ?_
            refine lv_iload hx hb dX4_tellBest_58 (lv_at hl 6 rfl) ?_
            refine tk_Vi hC hK hw hT hA hE hSR kC_at155 (by decide) rfl (kz_X4_sumOfErrands_1 l adK adV dC dI cy ad B hB0 (Int.le_trans hB1 (by decide)) qr s1   a2 (show 0 ≤ a2.toInt from r18) (show a2.toInt ≤ 99999 from t19) v32_6 (show v32_6.toInt ≤ 14007 from t26) w60 H.size hT ) (cwV 2 hC.2.2.2.2 uV_RX4_90 rfl rfl rfl (by decide +kernel) ⟨Nat.le_of_ble_eq_true rfl, Nat.le_of_ble_eq_true rfl⟩) rfl hl.1 rfl (Nat.le_of_ble_eq_true rfl) dX4_tellBest_60 (fun r65 w67 H locs hp66 hw => ?_)
            obtain ⟨hT, k68, hv70, hg69⟩ := hp66
            have hF := hF.tr k68 (by decide)
            have c71 := k68.gi kC_at39 (by decide) c64
            clear hg69
            replace hM := hM.call hv70 rfl
            refine lv_istore (lv' := [(9, .int r65), (0, .ref (ad 155)), (1, .int a1), (2, .int a2), (3, .int a3), (4, .int v32_4), (5, .int v32_5), (6, .int v32_6), (7, .int v14_7), (8, .int v32_8)]) hx hb dX4_tellBest_63 hl (by decide) rfl (fun ls hl => ?_)
            refine lv_iload hx hb dX4_tellBest_65 (lv_at hl 0 rfl) ?_
            refine lv_iload hx hb dX4_tellBest_67 (lv_at hl 7 rfl) ?_
            refine lv_icmp_ge (tgt := 84) hx hb dX4_tellBest_69 (by decide) (fun c72 => ?_) (fun c72 => ?_)
            · have c72 : v32_6.toInt ≤ r65.toInt := wk_le.mp c72
              replace hM := hM.pos c72
              exact J84 v32_4 v32_5 v32_6 r65 H locs ls w67 (show 1 ≤ a1.toInt from r16) (show a1.toInt ≤ 9 from t17) (show 0 ≤ a2.toInt from r18) (show a2.toInt ≤ 99999 from t19) (show 0 ≤ a3.toInt from r20) (show a3.toInt ≤ 2 from t21) (show 0 ≤ v32_4.toInt from r22) (show v32_4.toInt ≤ 9 from t23) (show 1 ≤ v32_5.toInt from r24) (show v32_5.toInt ≤ 9 from t25) (show v32_6.toInt ≤ 14007 from t26) (show 0 ≤ v14_7.toInt from r27) (show v14_7.toInt ≤ 9 from t28) (show 1 ≤ v32_8.toInt from r29) (show v32_8.toInt ≤ 9 by first | with_reducible assumption | omega) (show 2 ≤ f32_39_8.toInt by first | with_reducible assumption | omega) (show f32_39_8.toInt ≤ 10 from t32)  hw hT hF c71 hM (lv_sub hl [1, 2, 3, 4, 5, 6, 7, 8, 9, 0] rfl)
            · have c72 : r65.toInt < v32_6.toInt := wk_leF c72
              replace hM := hM.neg (Int.not_le.mpr c72)
              refine lv_iload hx hb dX4_tellBest_72 (lv_at hl 0 rfl) ?_
              refine lv_istore (lv' := [(6, .int r65), (9, .int r65), (0, .ref (ad 155)), (1, .int a1), (2, .int a2), (3, .int a3), (4, .int v32_4), (5, .int v32_5), (7, .int v14_7), (8, .int v32_8)]) hx hb dX4_tellBest_74 hl (by decide) rfl (fun ls hl => ?_)
              refine lv_iload hx hb dX4_tellBest_76 (lv_at hl 8 rfl) ?_
              refine lv_istore (lv' := [(4, .int v14_7), (6, .int r65), (9, .int r65), (0, .ref (ad 155)), (1, .int a1), (2, .int a2), (3, .int a3), (5, .int v32_5), (7, .int v14_7), (8, .int v32_8)]) hx hb dX4_tellBest_78 hl (by decide) rfl (fun ls hl => ?_)
              refine lv_iload hx hb dX4_tellBest_80 (lv_at hl 9 rfl) ?_
              refine lv_istore (lv' := [(5, .int v32_8), (4, .int v14_7), (6, .int r65), (9, .int r65), (0, .ref (ad 155)), (1, .int a1), (2, .int a2), (3, .int a3), (7, .int v14_7), (8, .int v32_8)]) hx hb dX4_tellBest_82 hl (by decide) rfl (fun ls hl => ?_)
              exact J84 v14_7 v32_8 r65 r65 H locs ls w67 (show 1 ≤ a1.toInt from r16) (show a1.toInt ≤ 9 from t17) (show 0 ≤ a2.toInt from r18) (show a2.toInt ≤ 99999 from t19) (show 0 ≤ a3.toInt from r20) (show a3.toInt ≤ 2 from t21) (show 0 ≤ v14_7.toInt from r27) (show v14_7.toInt ≤ 9 from t28) (show 1 ≤ v32_8.toInt from r29) (show v32_8.toInt ≤ 9 by first | with_reducible assumption | omega) (show r65.toInt ≤ 14007 by first | with_reducible assumption | omega) (show 0 ≤ v14_7.toInt from r27) (show v14_7.toInt ≤ 9 from t28) (show 1 ≤ v32_8.toInt from r29) (show v32_8.toInt ≤ 9 by first | with_reducible assumption | omega) (show 2 ≤ f32_39_8.toInt by first | with_reducible assumption | omega) (show f32_39_8.toInt ≤ 10 from t32)  hw hT hF c71 hM (lv_sub hl [4, 5, 6, 7, 1, 0, 2, 8, 9, 3] rfl)
      replace hM := hM.suc (fun _ => e_X4_tellBest_14)
      refine lv_iload hx hb dX4_tellBest_14 (lv_at hl 7 rfl) ?_
      refine lv_aload_n hx hb dX4_tellBest_16 rfl (lv_at hl 0 rfl) ?_
      refine tk_getA hC hK hw hT hinX4 kC_at155 (by decide) rfl 1 (by decide) (List.mem_cons_of_mem _ uw_5_23) rfl rfl dX4_tellBest_17 ?_
      refine tk_geti hC hK hw hT hinX7 kC_at39 (by decide) rfl 8 (by decide) (List.mem_cons_of_mem _ uw_49_18) rfl rfl dX4_tellBest_20 (fun x73 c74 rx73 tx73 => ?_)
      replace hM := hM.rd (sI_at c74)
      refine lv_icmp_ge (tgt := 96) hx hb dX4_tellBest_23 (by decide) (fun c75 => ?_) (fun c75 => ?_)
      · have c75 : x73.toInt ≤ v14_7.toInt := wk_le.mp c75
        replace hM := hM.pos c75
        refine lv_iload_n hx hb dX4_tellBest_96 rfl (lv_at hl 3 rfl) ?_
        refine lv_iconst (v := 2) hx hb dX4_tellBest_97 (by decide) ?_
        refine lv_icmp_ne (tgt := 104) hx hb dX4_tellBest_98 (by decide) (fun c76 => ?_) (fun c76 => ?_)
        · have c76 : ¬ a3.toInt = (2 : Int) := wk_eqF c76
          replace hM := hM.pos c76
          refine lv_iload_n hx hb dX4_tellBest_104 rfl (lv_at hl 3 rfl) ?_
          refine lv_if_ne (tgt := 113) hx hb dX4_tellBest_105 (by decide) (fun c77 => ?_) (fun c77 => ?_)
          · have c77 : ¬ a3.toInt = (0 : Int) := wk_eqF c77
            replace hM := hM.pos c77
            refine lv_iload hx hb dX4_tellBest_113 (lv_at hl 5 rfl) ?_
            exact tk_iret hC hr hlocks hK ⟨hT, hF, hM.ret rfl, (Or.inr ⟨(show 0 ≤ v14_5.toInt from Int.le_trans (by decide) r10), (show v14_5.toInt ≤ 9 from t11), (show a3.toInt ≤ 1 by first | with_reducible assumption | omega)⟩)⟩ hw dX4_tellBest_115
          · have c77 : a3.toInt = (0 : Int) := wk_eq.mp c77
            replace hM := hM.neg (fun q => q c77)
            refine lv_iload hx hb dX4_tellBest_108 (lv_at hl 4 rfl) ?_
            refine lv_goto (tgt := 115) hx hb dX4_tellBest_110 (by decide) ?_
            exact tk_iret hC hr hlocks hK ⟨hT, hF, hM.ret rfl, (Or.inr ⟨(show 0 ≤ v14_4.toInt from r8), (show v14_4.toInt ≤ 9 from t9), (show a3.toInt ≤ 1 by first | with_reducible assumption | omega)⟩)⟩ hw dX4_tellBest_115
        · have c76 : a3.toInt = (2 : Int) := wk_eq.mp c76
          replace hM := hM.neg (fun q => q c76)
          refine lv_iload hx hb dX4_tellBest_101 (lv_at hl 6 rfl) ?_
          exact tk_iret hC hr hlocks hK ⟨hT, hF, hM.ret rfl, (Or.inl ⟨(show v14_6.toInt ≤ 14007 from t12), (show 2 ≤ a3.toInt by first | with_reducible assumption | omega)⟩)⟩ hw dX4_tellBest_103
      · have c75 : v14_7.toInt < x73.toInt := wk_leF c75
        replace hM := hM.neg (Int.not_le.mpr c75)
        refine lv_iload hx hb dX4_tellBest_26 (lv_at hl 7 rfl) ?_
        refine lv_iconst (v := 1) hx hb dX4_tellBest_28 (by decide) ?_
        refine lv_iadd hx hb dX4_tellBest_29 ?_
        refine lv_topi (fun x78 ex78 => ?_)
        have ezx78 := ex78
        have ex78 : x78.toInt = v14_7.toInt + (1 : Int) := by rw [ex78]; exact wk_add (show (-2147483648) ≤ v14_7.toInt + (1 : Int) by omega) (show v14_7.toInt + (1 : Int) ≤ 2147483647 by omega)
        replace hM := hM.lt ex78.symm
        refine lv_istore (lv' := [(8, .int x78), (0, .ref (ad 155)), (1, .int a1), (2, .int a2), (3, .int a3), (4, .int v14_4), (5, .int v14_5), (6, .int v14_6), (7, .int v14_7)]) hx hb dX4_tellBest_30 hl (by decide) rfl (fun ls hl => ?_)
        exact L32 ((10 - x78.toInt).toNat + 1) v14_4 v14_5 v14_6 x78 x73 H locs ls w1 (show 1 ≤ a1.toInt from r2) (show a1.toInt ≤ 9 from t3) (show 0 ≤ a2.toInt from r4) (show a2.toInt ≤ 99999 from t5) (show 0 ≤ a3.toInt from r6) (show a3.toInt ≤ 2 from t7) (show 0 ≤ v14_4.toInt from r8) (show v14_4.toInt ≤ 9 from t9) (show 1 ≤ v14_5.toInt from r10) (show v14_5.toInt ≤ 9 from t11) (show v14_6.toInt ≤ 14007 from t12) (show 0 ≤ v14_7.toInt from r13) (show v14_7.toInt ≤ 9 by first | with_reducible assumption | omega) (show 1 ≤ x78.toInt by first | with_reducible assumption | omega) (show x78.toInt ≤ 10 by first | with_reducible assumption | omega) (show 1 ≤ x73.toInt by first | with_reducible assumption | omega) (show x73.toInt ≤ 10 from tx73) (Nat.lt_succ_self _) hw hT hF c74 hM (lv_sub hl [1, 2, 3, 4, 5, 6, 7, 8, 0] rfl)
  have hM : TT (fun n => m_X4_tellBest n 155 a1.toInt a2.toInt a3.toInt (sI w0)) (fun n => m_X4_tellBest n 155 a1.toInt a2.toInt a3.toInt (sI w0)) := TT.rf
  refine lv_iconst (v := 0) hx hb dX4_tellBest_0 (by decide) ?_
  refine lv_istore (lv' := [(4, .int 0), (0, .ref (ad 155)), (1, .int a1), (2, .int a2), (3, .int a3)]) hx hb dX4_tellBest_1 hl (by decide) rfl (fun ls hl => ?_)
  refine lv_iconst (v := 1) hx hb dX4_tellBest_3 (by decide) ?_
  refine lv_istore (lv' := [(5, .int 1), (4, .int 0), (0, .ref (ad 155)), (1, .int a1), (2, .int a2), (3, .int a3)]) hx hb dX4_tellBest_4 hl (by decide) rfl (fun ls hl => ?_)
  refine lv_sipush (v := 14007) hx hb dX4_tellBest_6 (by decide) ?_
  refine lv_istore (lv' := [(6, .int 14007), (5, .int 1), (4, .int 0), (0, .ref (ad 155)), (1, .int a1), (2, .int a2), (3, .int a3)]) hx hb dX4_tellBest_9 hl (by decide) rfl (fun ls hl => ?_)
  refine lv_iconst (v := 0) hx hb dX4_tellBest_11 (by decide) ?_
  refine lv_istore (lv' := [(7, .int 0), (6, .int 14007), (5, .int 1), (4, .int 0), (0, .ref (ad 155)), (1, .int a1), (2, .int a2), (3, .int a3)]) hx hb dX4_tellBest_12 hl (by decide) rfl (fun ls hl => ?_)
  exact L14 ((10 - (0 : Int)).toNat + 1) 0 1 14007 0 s.heap locs ls w0 (show 1 ≤ a1.toInt from ra1) (show a1.toInt ≤ 9 from ta1) (show 0 ≤ a2.toInt from ra2) (show a2.toInt ≤ 99999 from ta2) (show 0 ≤ a3.toInt from ra3) (show a3.toInt ≤ 2 from ta3) (by decide) (by decide) (by decide) (by decide) (by decide) (by decide) (by decide) (Nat.lt_succ_self _) hw hT hF hM (lv_sub hl [4, 5, 6, 7, 3, 2, 1, 0] rfl)
abbrev Pz_X11_built_1 (ad : Nat → Nat) (cy : Nat → ClassId) (B : Int) (qr : Nat) (s1 : Int) (a1 : Int32) (a2 : Int32) (a3 : Int32) (w0 : va_W) : Int32 → va_W → Prop := fun r u => TW ksC ad cy B qr s1 u ∧ FE ksC [(24, 0, 26), (25, 0, 13), (26, 0, 91), (27, 0, 13), (28, 0, 26), (31, 0, 13), (48, 0, 10), (49, 0, 10)] w0 u ∧ Ev (fun n => m_X11_built n 0 a1.toInt a2.toInt a3.toInt (sI w0)) (r.toInt, sI u) ∧ ((r.toInt ≤ 14007 ∧ 1 ≤ a1.toInt ∧ a1.toInt ≤ 9 ∧ 0 ≤ a2.toInt ∧ a2.toInt ≤ 99999 ∧ 2 ≤ a3.toInt ∧ a3.toInt ≤ 2 ∧ (∃ y : Int32, gi u 39 8 = y ∧ 1 ≤ y.toInt ∧ y.toInt ≤ 10)) ∨ (0 ≤ r.toInt ∧ r.toInt ≤ 9 ∧ 1 ≤ a1.toInt ∧ a1.toInt ≤ 9 ∧ 0 ≤ a2.toInt ∧ a2.toInt ≤ 99999 ∧ 0 ≤ a3.toInt ∧ a3.toInt ≤ 1 ∧ (∃ y : Int32, gi u 39 8 = y ∧ 1 ≤ y.toInt ∧ y.toInt ≤ 10)) ∨ (r = (-1)))
set_option maxHeartbeats 4000000 in
set_option maxRecDepth 100000 in
theorem kz_X11_built_1 (l : Launch) (adK adV : Nat → Nat) (dC : Nat → ClassId) (dI : Nat → Nat → Nat) (cy : Nat → ClassId) (ad : Nat → Nat) (B : Int) (hB0 : 2147483648 ≤ B) (hB1 : B ≤ 1152921504606846976) (qr : Nat) (s1 : Int)  (a1 : Int32) (a2 : Int32) (a3 : Int32) (w0 : va_W) (sz : Nat) (hT : TW ksC ad cy B qr s1 w0)  : Met l yX11_built (wu yX11_built cX11_built 4 (some .int)) ({ frames := 7, cells := 0, slots := 0, locals := 176 }) (va_Pc [.ref (ad 0), .int a1, .int a2, .int a3] (wpreS adK adV dC dI cy sz w0)) (va_Qi (Pz_X11_built_1 ad cy B qr s1 a1 a2 a3 w0) (fun u : va_W => wpost dC dI cy (va_A w0 sz) u) (va_A w0 sz)) 0 0 (va_A w0 sz) := by
  refine Met.ofW (cc := cX11_built) (maxL := 4) (ret := (some .int)) (by decide) rfl ?_
  intro p e s m args below meth c s₁ Bk hml hv
  obtain ⟨rfl, ⟨hsz, hP, hK, hD0⟩, hE, hSR⟩ := hv
  have hx := Bk.exec
  have hb := Bk.bytes
  have hr := Bk.returns
  have hlocks := Bk.notSynchronized
  have hC : CallFix p m c cX11_built 4 s _ (wu yX11_built cX11_built 4 (some .int)) RX11 := ⟨hx, hb, hml, findClass_of_methodNamed Bk.named, atoms_spec (ws := (wu yX11_built cX11_built 4 (some .int))) Bk.pre⟩
  subst hsz
  have hD := hD0.self (sz := s.heap.size)
  generalize hAe : va_A w0 s.heap.size = A at hD hE ⊢
  have hA : ∀ q : Nat, s.heap.size ≤ q → A q := fun q h => by rw [← hAe]; exact Or.inr h
  have hw : Wd dC dI A s.heap s.heap [] w0 := ⟨hP, hD, va_S.rf⟩
  have hF : FE ksC [(24, 0, 26), (25, 0, 13), (26, 0, 91), (27, 0, 13), (28, 0, 26), (31, 0, 13), (48, 0, 10), (49, 0, 10)] w0 w0 := FE.rf
  have hl := lv_entry ([.ref (ad 0), .int a1, .int a2, .int a3]) (n := 4) (Nat.le_of_ble_eq_true rfl)
  rw [lg_entry_eq]
  generalize (lg_sl ([.ref (ad 0), .int a1, .int a2, .int a3]) ++ List.replicate (4 - (lg_sl ([.ref (ad 0), .int a1, .int a2, .int a3])).length) Slot.unset).toArray = ls at hl ⊢
  have hl : lv_has ls 4 [(0, .ref (ad 0)), (1, .int a1), (2, .int a2), (3, .int a3)] := hl
  generalize hloc : ([] : List Loc) = locs at hw ⊢
  have hinX11 : ∀ w ∈ u_ws RX11 TX11 13, w ∈ (wu yX11_built cX11_built 4 (some .int)) := fun _ h => List.mem_cons_of_mem _ (up_70 h)
  have J28 : ∀ (f28_39_8 : Int32) (H : Heap) (locs : List Loc) (ls : Array Slot) (w1 : va_W), (-1) ≤ f28_39_8.toInt → f28_39_8.toInt ≤ 10 → Wd dC dI A s.heap H locs w1 → TW ksC ad cy B qr s1 w1 → FE ksC [(24, 0, 26), (25, 0, 13), (26, 0, 91), (27, 0, 13), (28, 0, 26), (31, 0, 13), (48, 0, 10), (49, 0, 10)] w0 w1 → gi w1 39 8 = f28_39_8 → TT (fun n => m_X11_built n 0 a1.toInt a2.toInt a3.toInt (sI w0)) (fun n => b_X11_built_28 n 0 (sI w1)) → lv_has ls 4 [(0, .ref (ad 0)), (1, .int a1), (2, .int a2), (3, .int a3)] → W p l e ({ frames := 7, cells := 0, slots := 0, locals := 176 }) s m (List.toArray [.ref (ad 0), .int a1, .int a2, .int a3]) below meth c H locs 0 0 (MQ below (va_Qi (Pz_X11_built_1 ad cy B qr s1 a1 a2 a3 w0) (fun u : va_W => wpost dC dI cy A u) A) (List.toArray [.ref (ad 0), .int a1, .int a2, .int a3]) s 0 0 A) (F0 m 28 ls []) := by
    intro f28_39_8 H locs ls w1 r2 t3 hw hT hF c4 hM hl
    refine lv_iconst (v := (-1)) hx hb dX11_built_28 (by decide) ?_
    exact tk_iret hC hr hlocks hK ⟨hT, hF, hM.ret (by decide), (Or.inr (Or.inr rfl))⟩ hw dX11_built_29
  have J39 : ∀ (f39_39_8 : Int32) (H : Heap) (locs : List Loc) (ls : Array Slot) (w5 : va_W), 1 ≤ a1.toInt → a1.toInt ≤ 9 → 0 ≤ a2.toInt → a2.toInt ≤ 99999 → 1 ≤ f39_39_8.toInt → f39_39_8.toInt ≤ 10 → Wd dC dI A s.heap H locs w5 → TW ksC ad cy B qr s1 w5 → FE ksC [(24, 0, 26), (25, 0, 13), (26, 0, 91), (27, 0, 13), (28, 0, 26), (31, 0, 13), (48, 0, 10), (49, 0, 10)] w0 w5 → gi w5 39 8 = f39_39_8 → TT (fun n => m_X11_built n 0 a1.toInt a2.toInt a3.toInt (sI w0)) (fun n => b_X11_built_39 n 0 (sI w5)) → lv_has ls 4 [(0, .ref (ad 0)), (1, .int a1), (2, .int a2), (3, .int a3)] → W p l e ({ frames := 7, cells := 0, slots := 0, locals := 176 }) s m (List.toArray [.ref (ad 0), .int a1, .int a2, .int a3]) below meth c H locs 0 0 (MQ below (va_Qi (Pz_X11_built_1 ad cy B qr s1 a1 a2 a3 w0) (fun u : va_W => wpost dC dI cy A u) A) (List.toArray [.ref (ad 0), .int a1, .int a2, .int a3]) s 0 0 A) (F0 m 39 ls []) := by
    intro f39_39_8 H locs ls w5 r6 t7 r8 t9 r10 t11 hw hT hF c12 hM hl
    refine lv_iconst (v := (-1)) hx hb dX11_built_39 (by decide) ?_
    refine lv_goto (tgt := 53) hx hb dX11_built_40 (by decide) ?_
    exact tk_iret hC hr hlocks hK ⟨hT, hF, hM.ret (by decide), (Or.inr (Or.inr rfl))⟩ hw dX11_built_53
  have hM : TT (fun n => m_X11_built n 0 a1.toInt a2.toInt a3.toInt (sI w0)) (fun n => m_X11_built n 0 a1.toInt a2.toInt a3.toInt (sI w0)) := TT.rf
  refine lv_aload_n hx hb dX11_built_0 rfl (lv_at hl 0 rfl) ?_
  refine tk_getA hC hK hw hT hinX11 kC_at0 (by decide) rfl 4 (by decide) (List.mem_cons_of_mem _ uw_1_7) rfl rfl dX11_built_1 ?_
  refine tk_Vi hC hK hw hT hA hE hSR kC_at38 (by decide) rfl (kz_X5_hasTown_1 l adK adV dC dI cy ad B hB0 (Int.le_trans hB1 (by decide)) qr s1    w0 s.heap.size hT ) (cwV 0 hC.2.2.2.2 uV_RX11_158 rfl rfl rfl (by decide +kernel) ⟨Nat.le_of_ble_eq_true rfl, Nat.le_of_ble_eq_true rfl⟩) rfl hl.1 rfl (Nat.le_of_ble_eq_true rfl) dX11_built_4 (fun r13 w15 H locs hp14 hw => ?_)
  obtain ⟨hT, k16, hv22, hg21⟩ := hp14
  have hF := hF.tr k16 (by decide)
  rcases hg21 with ⟨rfl, ⟨x17, c18, rx17, tx17⟩⟩ | ⟨rfl, ⟨x19, c20, rx19, tx19⟩⟩
  · replace hM := hM.call (r' := 0) hv22 (by decide)
    refine lv_if_eq (tgt := 28) hx hb dX11_built_7 (by decide) (fun _ => ?_) (fun c => absurd (by decide) c)
    replace hM := hM.pos (by decide)
    exact J28 x17 H locs ls w15 (show (-1) ≤ x17.toInt by first | with_reducible assumption | omega) (show x17.toInt ≤ 10 by first | with_reducible assumption | omega)  hw hT hF c18 hM (lv_sub hl [0, 1, 2, 3] rfl)
  · replace hM := hM.call (r' := 1) hv22 (by decide)
    refine lv_if_eq (tgt := 28) hx hb dX11_built_7 (by decide) (fun c => absurd c (by decide)) (fun _ => ?_)
    replace hM := hM.neg (by decide)
    refine lv_iload_n hx hb dX11_built_10 rfl (lv_at hl 1 rfl) ?_
    refine lv_iconst (v := 1) hx hb dX11_built_11 (by decide) ?_
    refine lv_icmp_lt (tgt := 28) hx hb dX11_built_12 (by decide) (fun c23 => ?_) (fun c23 => ?_)
    · have c23 : a1.toInt < (1 : Int) := wk_lt.mp c23
      replace hM := hM.pos c23
      exact J28 x19 H locs ls w15 (show (-1) ≤ x19.toInt by first | with_reducible assumption | omega) (show x19.toInt ≤ 10 by first | with_reducible assumption | omega)  hw hT hF c20 hM (lv_sub hl [0, 1, 2, 3] rfl)
    · have c23 : (1 : Int) ≤ a1.toInt := wk_ltF c23
      replace hM := hM.neg (Int.not_lt.mpr c23)
      refine lv_iload_n hx hb dX11_built_15 rfl (lv_at hl 1 rfl) ?_
      refine lv_bipush (v := 9) hx hb dX11_built_16 (by decide) ?_
      refine lv_icmp_gt (tgt := 28) hx hb dX11_built_18 (by decide) (fun c24 => ?_) (fun c24 => ?_)
      · have c24 : (9 : Int) < a1.toInt := wk_lt.mp c24
        replace hM := hM.pos c24
        exact J28 x19 H locs ls w15 (show (-1) ≤ x19.toInt by first | with_reducible assumption | omega) (show x19.toInt ≤ 10 by first | with_reducible assumption | omega)  hw hT hF c20 hM (lv_sub hl [0, 1, 2, 3] rfl)
      · have c24 : a1.toInt ≤ (9 : Int) := wk_ltF c24
        replace hM := hM.neg (Int.not_lt.mpr c24)
        refine lv_iload_n hx hb dX11_built_21 rfl (lv_at hl 2 rfl) ?_
        refine tk_Si hC hK hw hT hA hE hSR (kz_X11_isAskedHour_1 l adK adV dC dI cy ad B hB0 (Int.le_trans hB1 (by decide)) qr s1   a2 w15 H.size hT ) (va_cwS 1 hC.2.2.2.2 uS_RX11_222 rfl rfl rfl (by decide +kernel) ⟨Nat.le_of_ble_eq_true rfl, Nat.le_of_ble_eq_true rfl⟩) rfl hl.1 rfl (Nat.le_of_ble_eq_true rfl) dX11_built_22 (fun r25 w27 H locs hp26 hw => ?_)
        obtain ⟨hT, k28, hv32, hg31⟩ := hp26
        have hF := hF.tr k28 (by decide)
        have c33 := k28.gi kC_at39 (by decide) c20
        rcases hg31 with rfl | ⟨rfl, g29, g30⟩
        · replace hM := hM.call (r' := 0) hv32 (by decide)
          refine lv_if_ne (tgt := 30) hx hb dX11_built_25 (by decide) (fun c => absurd (by decide) c) (fun _ => ?_)
          replace hM := hM.neg (by decide)
          exact J28 x19 H locs ls w27 (show (-1) ≤ x19.toInt by first | with_reducible assumption | omega) (show x19.toInt ≤ 10 by first | with_reducible assumption | omega)  hw hT hF c33 hM (lv_sub hl [0, 1, 2, 3] rfl)
        · replace hM := hM.call (r' := 1) hv32 (by decide)
          refine lv_if_ne (tgt := 30) hx hb dX11_built_25 (by decide) (fun _ => ?_) (fun c => absurd c (by decide))
          replace hM := hM.pos (by decide)
          refine lv_iload_n hx hb dX11_built_30 rfl (lv_at hl 3 rfl) ?_
          refine lv_if_lt (tgt := 39) hx hb dX11_built_31 (by decide) (fun c34 => ?_) (fun c34 => ?_)
          · have c34 : a3.toInt < (0 : Int) := wk_lt.mp c34
            replace hM := hM.pos c34
            exact J39 x19 H locs ls w27 (show 1 ≤ a1.toInt by first | with_reducible assumption | omega) (show a1.toInt ≤ 9 by first | with_reducible assumption | omega) (show 0 ≤ a2.toInt by first | with_reducible assumption | omega) (show a2.toInt ≤ 99999 by first | with_reducible assumption | omega) (show 1 ≤ x19.toInt by first | with_reducible assumption | omega) (show x19.toInt ≤ 10 by first | with_reducible assumption | omega)  hw hT hF c33 hM (lv_sub hl [0, 1, 2, 3] rfl)
          · have c34 : (0 : Int) ≤ a3.toInt := wk_ltF c34
            replace hM := hM.neg (Int.not_lt.mpr c34)
            refine lv_iload_n hx hb dX11_built_34 rfl (lv_at hl 3 rfl) ?_
            refine lv_iconst (v := 2) hx hb dX11_built_35 (by decide) ?_
            refine lv_icmp_le (tgt := 43) hx hb dX11_built_36 (by decide) (fun c35 => ?_) (fun c35 => ?_)
            · have c35 : a3.toInt ≤ (2 : Int) := wk_le.mp c35
              replace hM := hM.pos c35
              refine lv_aload_n hx hb dX11_built_43 rfl (lv_at hl 0 rfl) ?_
              refine tk_getA hC hK hw hT hinX11 kC_at0 (by decide) rfl 10 (by decide) (List.mem_cons_of_mem _ uw_2_2) rfl rfl dX11_built_44 ?_
              refine lv_iload_n hx hb dX11_built_47 rfl (lv_at hl 1 rfl) ?_
              refine lv_iload_n hx hb dX11_built_48 rfl (lv_at hl 2 rfl) ?_
              refine lv_iload_n hx hb dX11_built_49 rfl (lv_at hl 3 rfl) ?_
              refine tk_Vi hC hK hw hT hA hE hSR kC_at155 (by decide) rfl (kz_X4_tellBest_1 l adK adV dC dI cy ad B hB0 (Int.le_trans hB1 (by decide)) qr s1   a1 (show 1 ≤ a1.toInt by first | with_reducible assumption | omega) (show a1.toInt ≤ 9 by first | with_reducible assumption | omega) a2 (show 0 ≤ a2.toInt by first | with_reducible assumption | omega) (show a2.toInt ≤ 99999 by first | with_reducible assumption | omega) a3 (show 0 ≤ a3.toInt by first | with_reducible assumption | omega) (show a3.toInt ≤ 2 by first | with_reducible assumption | omega) w27 H.size hT ) (cwV 3 hC.2.2.2.2 uV_RX11_292 rfl rfl rfl (by decide +kernel) ⟨Nat.le_of_ble_eq_true rfl, Nat.le_of_ble_eq_true rfl⟩) rfl hl.1 rfl (Nat.le_of_ble_eq_true rfl) dX11_built_50 (fun r36 w38 H locs hp37 hw => ?_)
              obtain ⟨hT, k39, hv46, hg45⟩ := hp37
              have hF := hF.tr k39 (by decide)
              have c47 := k39.gi kC_at39 (by decide) c33
              rcases hg45 with ⟨g40, g41⟩ | ⟨g42, g43, g44⟩
              · replace hM := hM.call hv46 rfl
                exact tk_iret hC hr hlocks hK ⟨hT, hF, hM.ret rfl, (Or.inl ⟨(show r36.toInt ≤ 14007 by first | with_reducible assumption | omega), (show 1 ≤ a1.toInt by first | with_reducible assumption | omega), (show a1.toInt ≤ 9 by first | with_reducible assumption | omega), (show 0 ≤ a2.toInt by first | with_reducible assumption | omega), (show a2.toInt ≤ 99999 by first | with_reducible assumption | omega), (show 2 ≤ a3.toInt by first | with_reducible assumption | omega), (show a3.toInt ≤ 2 by first | with_reducible assumption | omega), ⟨x19, c47, (show 1 ≤ x19.toInt by first | with_reducible assumption | omega), (show x19.toInt ≤ 10 by first | with_reducible assumption | omega)⟩⟩)⟩ hw dX11_built_53
              · replace hM := hM.call hv46 rfl
                exact tk_iret hC hr hlocks hK ⟨hT, hF, hM.ret rfl, (Or.inr (Or.inl ⟨(show 0 ≤ r36.toInt by first | with_reducible assumption | omega), (show r36.toInt ≤ 9 by first | with_reducible assumption | omega), (show 1 ≤ a1.toInt by first | with_reducible assumption | omega), (show a1.toInt ≤ 9 by first | with_reducible assumption | omega), (show 0 ≤ a2.toInt by first | with_reducible assumption | omega), (show a2.toInt ≤ 99999 by first | with_reducible assumption | omega), (show 0 ≤ a3.toInt by first | with_reducible assumption | omega), (show a3.toInt ≤ 1 by first | with_reducible assumption | omega), ⟨x19, c47, (show 1 ≤ x19.toInt by first | with_reducible assumption | omega), (show x19.toInt ≤ 10 by first | with_reducible assumption | omega)⟩⟩))⟩ hw dX11_built_53
            · have c35 : (2 : Int) < a3.toInt := wk_leF c35
              replace hM := hM.neg (Int.not_le.mpr c35)
              exact J39 x19 H locs ls w27 (show 1 ≤ a1.toInt by first | with_reducible assumption | omega) (show a1.toInt ≤ 9 by first | with_reducible assumption | omega) (show 0 ≤ a2.toInt by first | with_reducible assumption | omega) (show a2.toInt ≤ 99999 by first | with_reducible assumption | omega) (show 1 ≤ x19.toInt by first | with_reducible assumption | omega) (show x19.toInt ≤ 10 by first | with_reducible assumption | omega)  hw hT hF c33 hM (lv_sub hl [0, 1, 2, 3] rfl)
abbrev Pz_X7_sideOf_4 (ad : Nat → Nat) (cy : Nat → ClassId) (B : Int) (qr : Nat) (s1 : Int) (a1 : Int32) (a2 : Int32) (w0 : va_W) : Int32 → va_W → Prop := fun r u => TW ksC ad cy B qr s1 u ∧ FE ksC ([] : List (Nat × Nat × Nat)) w0 u ∧ Ev (fun n => m_X7_sideOf n 39 a1.toInt a2.toInt (sI w0)) (r.toInt, sI u) ∧ ((r = (-1)) ∨ (r = 0 ∧ gi u 40 (2 * a1.toInt + 0).toNat = a2) ∨ (r = 1 ∧ gi u 40 (2 * a1.toInt + 1).toNat = a2))
set_option maxHeartbeats 4000000 in
set_option maxRecDepth 100000 in
theorem kz_X7_sideOf_4 (l : Launch) (adK adV : Nat → Nat) (dC : Nat → ClassId) (dI : Nat → Nat → Nat) (cy : Nat → ClassId) (ad : Nat → Nat) (B : Int) (hB0 : 2147483648 ≤ B) (hB1 : B ≤ 1152921504606846976) (qr : Nat) (s1 : Int)  (a1 : Int32) (ra1 : 0 ≤ a1.toInt) (ta1 : a1.toInt ≤ 11) (a2 : Int32) (ra2 : 0 ≤ a2.toInt) (ta2 : a2.toInt ≤ 9) (w0 : va_W) (sz : Nat) (hT : TW ksC ad cy B qr s1 w0)  : Met l yX7_sideOf (wu yX7_sideOf cX7_sideOf 3 (some .int)) ({ frames := 1, cells := 0, slots := 0, locals := 12 }) (va_Pc [.ref (ad 39), .int a1, .int a2] (wpreS adK adV dC dI cy sz w0)) (va_Qi (Pz_X7_sideOf_4 ad cy B qr s1 a1 a2 w0) (fun u : va_W => wpost dC dI cy (va_A w0 sz) u) (va_A w0 sz)) 0 0 (va_A w0 sz) := by
  refine Met.ofW (cc := cX7_sideOf) (maxL := 3) (ret := (some .int)) (by decide) rfl ?_
  intro p e s m args below meth c s₁ Bk hml hv
  obtain ⟨rfl, ⟨hsz, hP, hK, hD0⟩, hE, hSR⟩ := hv
  have hx := Bk.exec
  have hb := Bk.bytes
  have hr := Bk.returns
  have hlocks := Bk.notSynchronized
  have hC : CallFix p m c cX7_sideOf 3 s _ (wu yX7_sideOf cX7_sideOf 3 (some .int)) RX7 := ⟨hx, hb, hml, findClass_of_methodNamed Bk.named, atoms_spec (ws := (wu yX7_sideOf cX7_sideOf 3 (some .int))) Bk.pre⟩
  subst hsz
  have hD := hD0.self (sz := s.heap.size)
  generalize hAe : va_A w0 s.heap.size = A at hD hE ⊢
  have hA : ∀ q : Nat, s.heap.size ≤ q → A q := fun q h => by rw [← hAe]; exact Or.inr h
  have hw : Wd dC dI A s.heap s.heap [] w0 := ⟨hP, hD, va_S.rf⟩
  have hF : FE ksC ([] : List (Nat × Nat × Nat)) w0 w0 := FE.rf
  have hl := lv_entry ([.ref (ad 39), .int a1, .int a2]) (n := 3) (Nat.le_of_ble_eq_true rfl)
  rw [lg_entry_eq]
  generalize (lg_sl ([.ref (ad 39), .int a1, .int a2]) ++ List.replicate (3 - (lg_sl ([.ref (ad 39), .int a1, .int a2])).length) Slot.unset).toArray = ls at hl ⊢
  have hl : lv_has ls 3 [(0, .ref (ad 39)), (1, .int a1), (2, .int a2)] := hl
  generalize hloc : ([] : List Loc) = locs at hw ⊢
  have hinX7 : ∀ w ∈ u_ws RX7 TX7 12, w ∈ (wu yX7_sideOf cX7_sideOf 3 (some .int)) := fun _ h => List.mem_cons_of_mem _ (up_73 h)
  have hM : TT (fun n => m_X7_sideOf n 39 a1.toInt a2.toInt (sI w0)) (fun n => m_X7_sideOf n 39 a1.toInt a2.toInt (sI w0)) := TT.rf
  refine lv_aload_n hx hb dX7_sideOf_0 rfl (lv_at hl 0 rfl) ?_
  refine tk_getO hC hK hw hT hinX7 kC_at39 (by decide) rfl 0 (by decide) (List.mem_cons_of_mem _ uw_2_17) rfl rfl dX7_sideOf_1 ?_
  refine lv_iconst (v := 2) hx hb dX7_sideOf_4 (by decide) ?_
  refine lv_iload_n hx hb dX7_sideOf_5 rfl (lv_at hl 1 rfl) ?_
  refine lv_imul hx hb dX7_sideOf_6 ?_
  refine lv_topi (fun x1 ex1 => ?_)
  have ezx1 := ex1
  have ex1 : x1.toInt = (2 : Int) * a1.toInt := by rw [ex1]; exact wk_mul (show (-2147483648) ≤ (2 : Int) * a1.toInt by omega) (show (2 : Int) * a1.toInt ≤ 2147483647 by omega)
  replace hM := hM.lt ex1.symm
  refine tk_iald hC hK hw hT kC_at40 rfl rfl (show 0 ≤ x1.toInt by first | with_reducible assumption | omega) (show x1.toInt < 26 by first | with_reducible assumption | omega) dX7_sideOf_7 (fun x2 c3 rx2 tx2 => ?_)
  have hox2 := c3
  replace hM := hM.rd (sI_at hox2)
  have c3 : gi w0 40 (2 * a1.toInt + 0).toNat = x2 := (congrArg (gi w0 40) (congrArg Int.toNat (show 2 * a1.toInt + 0 = x1.toInt by first | exact Int.le_antisymm (by omega) (by omega) | omega))).trans c3
  refine lv_iload_n hx hb dX7_sideOf_8 rfl (lv_at hl 2 rfl) ?_
  refine lv_icmp_ne (tgt := 14) hx hb dX7_sideOf_9 (by decide) (fun c4 => ?_) (fun c4 => ?_)
  · have c4 : ¬ x2.toInt = a2.toInt := wk_eqF c4
    replace hM := hM.pos c4
    refine lv_aload_n hx hb dX7_sideOf_14 rfl (lv_at hl 0 rfl) ?_
    refine tk_getO hC hK hw hT hinX7 kC_at39 (by decide) rfl 0 (by decide) (List.mem_cons_of_mem _ uw_2_17) rfl rfl dX7_sideOf_15 ?_
    refine lv_iconst (v := 2) hx hb dX7_sideOf_18 (by decide) ?_
    refine lv_iload_n hx hb dX7_sideOf_19 rfl (lv_at hl 1 rfl) ?_
    refine lv_imul hx hb dX7_sideOf_20 ?_
    refine lv_topi (fun x5 ex5 => ?_)
    have ezx5 := ex5
    have ex5 : x5.toInt = (2 : Int) * a1.toInt := by rw [ex5]; exact wk_mul (show (-2147483648) ≤ (2 : Int) * a1.toInt by omega) (show (2 : Int) * a1.toInt ≤ 2147483647 by omega)
    replace hM := hM.lt ex5.symm
    refine lv_iconst (v := 1) hx hb dX7_sideOf_21 (by decide) ?_
    refine lv_iadd hx hb dX7_sideOf_22 ?_
    refine lv_topi (fun x6 ex6 => ?_)
    have ezx6 := ex6
    have ex6 : x6.toInt = x5.toInt + (1 : Int) := by rw [ex6]; exact wk_add (show (-2147483648) ≤ x5.toInt + (1 : Int) by omega) (show x5.toInt + (1 : Int) ≤ 2147483647 by omega)
    replace hM := hM.lt ex6.symm
    refine tk_iald hC hK hw hT kC_at40 rfl rfl (show 0 ≤ x6.toInt by first | with_reducible assumption | omega) (show x6.toInt < 26 by first | with_reducible assumption | omega) dX7_sideOf_23 (fun x7 c8 rx7 tx7 => ?_)
    have hox7 := c8
    replace hM := hM.rd (sI_at hox7)
    have c8 : gi w0 40 (2 * a1.toInt + 1).toNat = x7 := (congrArg (gi w0 40) (congrArg Int.toNat (show 2 * a1.toInt + 1 = x6.toInt by first | exact Int.le_antisymm (by omega) (by omega) | omega))).trans c8
    refine lv_iload_n hx hb dX7_sideOf_24 rfl (lv_at hl 2 rfl) ?_
    refine lv_icmp_ne (tgt := 32) hx hb dX7_sideOf_25 (by decide) (fun c9 => ?_) (fun c9 => ?_)
    · have c9 : ¬ x7.toInt = a2.toInt := wk_eqF c9
      replace hM := hM.pos c9
      refine lv_iconst (v := (-1)) hx hb dX7_sideOf_32 (by decide) ?_
      exact tk_iret hC hr hlocks hK ⟨hT, hF, hM.ret (by decide), (Or.inl rfl)⟩ hw dX7_sideOf_33
    · have c9 : x7.toInt = a2.toInt := wk_eq.mp c9
      replace hM := hM.neg (fun q => q c9)
      refine lv_iconst (v := 1) hx hb dX7_sideOf_28 (by decide) ?_
      refine lv_goto (tgt := 33) hx hb dX7_sideOf_29 (by decide) ?_
      exact tk_iret hC hr hlocks hK ⟨hT, hF, hM.ret (by decide), (Or.inr (Or.inr ⟨rfl, (c8.trans (wk_eq.mpr (show x7.toInt = a2.toInt by first | exact Int.le_antisymm (by omega) (by omega) | omega)))⟩))⟩ hw dX7_sideOf_33
  · have c4 : x2.toInt = a2.toInt := wk_eq.mp c4
    replace hM := hM.neg (fun q => q c4)
    refine lv_iconst (v := 0) hx hb dX7_sideOf_12 (by decide) ?_
    exact tk_iret hC hr hlocks hK ⟨hT, hF, hM.ret (by decide), (Or.inr (Or.inl ⟨rfl, (c3.trans (wk_eq.mpr (show x2.toInt = a2.toInt by first | exact Int.le_antisymm (by omega) (by omega) | omega)))⟩))⟩ hw dX7_sideOf_13
abbrev Pz_X7_cornerAcross_3 (ad : Nat → Nat) (cy : Nat → ClassId) (B : Int) (qr : Nat) (s1 : Int) (a1 : Int32) (w0 : va_W) : Int32 → va_W → Prop := fun r u => TW ksC ad cy B qr s1 u ∧ FE ksC ([] : List (Nat × Nat × Nat)) w0 u ∧ Ev (fun n => m_X7_cornerAcross n 39 a1.toInt 0 (sI w0)) (r.toInt, sI u) ∧ ((0 ≤ r.toInt ∧ r.toInt ≤ 9))
set_option maxHeartbeats 4000000 in
set_option maxRecDepth 100000 in
theorem kz_X7_cornerAcross_3 (l : Launch) (adK adV : Nat → Nat) (dC : Nat → ClassId) (dI : Nat → Nat → Nat) (cy : Nat → ClassId) (ad : Nat → Nat) (B : Int) (hB0 : 2147483648 ≤ B) (hB1 : B ≤ 1152921504606846976) (qr : Nat) (s1 : Int)  (a1 : Int32) (ra1 : 0 ≤ a1.toInt) (ta1 : a1.toInt ≤ 11) (w0 : va_W) (sz : Nat) (hT : TW ksC ad cy B qr s1 w0)  : Met l yX7_cornerAcross (wu yX7_cornerAcross cX7_cornerAcross 3 (some .int)) ({ frames := 1, cells := 0, slots := 0, locals := 12 }) (va_Pc [.ref (ad 39), .int a1, .int 0] (wpreS adK adV dC dI cy sz w0)) (va_Qi (Pz_X7_cornerAcross_3 ad cy B qr s1 a1 w0) (fun u : va_W => wpost dC dI cy (va_A w0 sz) u) (va_A w0 sz)) 0 0 (va_A w0 sz) := by
  refine Met.ofW (cc := cX7_cornerAcross) (maxL := 3) (ret := (some .int)) (by decide) rfl ?_
  intro p e s m args below meth c s₁ Bk hml hv
  obtain ⟨rfl, ⟨hsz, hP, hK, hD0⟩, hE, hSR⟩ := hv
  have hx := Bk.exec
  have hb := Bk.bytes
  have hr := Bk.returns
  have hlocks := Bk.notSynchronized
  have hC : CallFix p m c cX7_cornerAcross 3 s _ (wu yX7_cornerAcross cX7_cornerAcross 3 (some .int)) RX7 := ⟨hx, hb, hml, findClass_of_methodNamed Bk.named, atoms_spec (ws := (wu yX7_cornerAcross cX7_cornerAcross 3 (some .int))) Bk.pre⟩
  subst hsz
  have hD := hD0.self (sz := s.heap.size)
  generalize hAe : va_A w0 s.heap.size = A at hD hE ⊢
  have hA : ∀ q : Nat, s.heap.size ≤ q → A q := fun q h => by rw [← hAe]; exact Or.inr h
  have hw : Wd dC dI A s.heap s.heap [] w0 := ⟨hP, hD, va_S.rf⟩
  have hF : FE ksC ([] : List (Nat × Nat × Nat)) w0 w0 := FE.rf
  have hl := lv_entry ([.ref (ad 39), .int a1, .int 0]) (n := 3) (Nat.le_of_ble_eq_true rfl)
  rw [lg_entry_eq]
  generalize (lg_sl ([.ref (ad 39), .int a1, .int 0]) ++ List.replicate (3 - (lg_sl ([.ref (ad 39), .int a1, .int 0])).length) Slot.unset).toArray = ls at hl ⊢
  have hl : lv_has ls 3 [(0, .ref (ad 39)), (1, .int a1), (2, .int 0)] := hl
  generalize hloc : ([] : List Loc) = locs at hw ⊢
  have hinX7 : ∀ w ∈ u_ws RX7 TX7 12, w ∈ (wu yX7_cornerAcross cX7_cornerAcross 3 (some .int)) := fun _ h => List.mem_cons_of_mem _ (up_73 h)
  have hM : TT (fun n => m_X7_cornerAcross n 39 a1.toInt 0 (sI w0)) (fun n => m_X7_cornerAcross n 39 a1.toInt 0 (sI w0)) := TT.rf
  refine lv_aload_n hx hb dX7_cornerAcross_0 rfl (lv_at hl 0 rfl) ?_
  refine tk_getO hC hK hw hT hinX7 kC_at39 (by decide) rfl 0 (by decide) (List.mem_cons_of_mem _ uw_2_17) rfl rfl dX7_cornerAcross_1 ?_
  refine lv_iconst (v := 2) hx hb dX7_cornerAcross_4 (by decide) ?_
  refine lv_iload_n hx hb dX7_cornerAcross_5 rfl (lv_at hl 1 rfl) ?_
  refine lv_imul hx hb dX7_cornerAcross_6 ?_
  refine lv_topi (fun x1 ex1 => ?_)
  have ezx1 := ex1
  have ex1 : x1.toInt = (2 : Int) * a1.toInt := by rw [ex1]; exact wk_mul (show (-2147483648) ≤ (2 : Int) * a1.toInt by omega) (show (2 : Int) * a1.toInt ≤ 2147483647 by omega)
  replace hM := hM.lt ex1.symm
  refine lv_iconst (v := 1) hx hb dX7_cornerAcross_7 (by decide) ?_
  refine lv_iadd hx hb dX7_cornerAcross_8 ?_
  refine lv_topi (fun x2 ex2 => ?_)
  have ezx2 := ex2
  have ex2 : x2.toInt = x1.toInt + (1 : Int) := by rw [ex2]; exact wk_add (show (-2147483648) ≤ x1.toInt + (1 : Int) by omega) (show x1.toInt + (1 : Int) ≤ 2147483647 by omega)
  replace hM := hM.lt ex2.symm
  refine lv_iload_n hx hb dX7_cornerAcross_9 rfl (lv_at hl 2 rfl) ?_
  refine lv_isub hx hb dX7_cornerAcross_10 ?_
  refine lv_topi (fun x3 ex3 => ?_)
  have ezx3 := ex3
  have ex3 : x3.toInt = x2.toInt - (0 : Int) := by rw [ex3]; exact wk_sub (show (-2147483648) ≤ x2.toInt - (0 : Int) by omega) (show x2.toInt - (0 : Int) ≤ 2147483647 by omega)
  replace hM := hM.lt ex3.symm
  refine tk_iald hC hK hw hT kC_at40 rfl rfl (show 0 ≤ x3.toInt by first | with_reducible assumption | omega) (show x3.toInt < 26 by first | with_reducible assumption | omega) dX7_cornerAcross_11 (fun x4 c5 rx4 tx4 => ?_)
  have hox4 := c5
  replace hM := hM.rd (sI_at hox4)
  have c5 : gi w0 40 (2 * a1.toInt + 1).toNat = x4 := (congrArg (gi w0 40) (congrArg Int.toNat (show 2 * a1.toInt + 1 = x3.toInt by first | exact Int.le_antisymm (by omega) (by omega) | omega))).trans c5
  exact tk_iret hC hr hlocks hK ⟨hT, hF, hM.ret rfl, ⟨(show 0 ≤ x4.toInt from rx4), (show x4.toInt ≤ 9 from tx4)⟩⟩ hw dX7_cornerAcross_12
abbrev Pz_X7_openHours_3 (ad : Nat → Nat) (cy : Nat → ClassId) (B : Int) (qr : Nat) (s1 : Int) (a1 : Int32) (a3 : Int64) (w0 : va_W) : Int32 → va_W → Prop := fun r u => TW ksC ad cy B qr s1 u ∧ FE ksC ([] : List (Nat × Nat × Nat)) w0 u ∧ Ev (fun n => m_X7_openHours n 39 a1.toInt 0 a3.toInt 1 (sI w0)) (r.toInt, sI u) ∧ ((0 ≤ r.toInt ∧ r.toInt ≤ 16777215))
set_option maxHeartbeats 4000000 in
set_option maxRecDepth 100000 in
theorem kz_X7_openHours_3 (l : Launch) (adK adV : Nat → Nat) (dC : Nat → ClassId) (dI : Nat → Nat → Nat) (cy : Nat → ClassId) (ad : Nat → Nat) (B : Int) (hB0 : 2147483648 ≤ B) (hB1 : B ≤ 1152921504606846976) (qr : Nat) (s1 : Int)  (a1 : Int32) (ra1 : 0 ≤ a1.toInt) (ta1 : a1.toInt ≤ 11) (a3 : Int64) (ra3 : 0 ≤ a3.toInt) (ta3 : a3.toInt ≤ 4249) (w0 : va_W) (sz : Nat) (hT : TW ksC ad cy B qr s1 w0)  : Met l yX7_openHours (wu yX7_openHours cX7_openHours 8 (some .int)) ({ frames := 1, cells := 0, slots := 0, locals := 12 }) (va_Pc [.ref (ad 39), .int a1, .int 0, .long a3, .int 1] (wpreS adK adV dC dI cy sz w0)) (va_Qi (Pz_X7_openHours_3 ad cy B qr s1 a1 a3 w0) (fun u : va_W => wpost dC dI cy (va_A w0 sz) u) (va_A w0 sz)) 0 0 (va_A w0 sz) := by
  refine Met.ofW (cc := cX7_openHours) (maxL := 8) (ret := (some .int)) (by decide) rfl ?_
  intro p e s m args below meth c s₁ Bk hml hv
  obtain ⟨rfl, ⟨hsz, hP, hK, hD0⟩, hE, hSR⟩ := hv
  have hx := Bk.exec
  have hb := Bk.bytes
  have hr := Bk.returns
  have hlocks := Bk.notSynchronized
  have hC : CallFix p m c cX7_openHours 8 s _ (wu yX7_openHours cX7_openHours 8 (some .int)) RX7 := ⟨hx, hb, hml, findClass_of_methodNamed Bk.named, atoms_spec (ws := (wu yX7_openHours cX7_openHours 8 (some .int))) Bk.pre⟩
  subst hsz
  have hD := hD0.self (sz := s.heap.size)
  generalize hAe : va_A w0 s.heap.size = A at hD hE ⊢
  have hA : ∀ q : Nat, s.heap.size ≤ q → A q := fun q h => by rw [← hAe]; exact Or.inr h
  have hw : Wd dC dI A s.heap s.heap [] w0 := ⟨hP, hD, va_S.rf⟩
  have hF : FE ksC ([] : List (Nat × Nat × Nat)) w0 w0 := FE.rf
  have hl := lv_entry ([.ref (ad 39), .int a1, .int 0, .long a3, .int 1]) (n := 8) (Nat.le_of_ble_eq_true rfl)
  rw [lg_entry_eq]
  generalize (lg_sl ([.ref (ad 39), .int a1, .int 0, .long a3, .int 1]) ++ List.replicate (8 - (lg_sl ([.ref (ad 39), .int a1, .int 0, .long a3, .int 1])).length) Slot.unset).toArray = ls at hl ⊢
  have hl : lv_has ls 8 [(0, .ref (ad 39)), (1, .int a1), (2, .int 0), (3, .long a3), (5, .int 1)] := hl
  generalize hloc : ([] : List Loc) = locs at hw ⊢
  have hinX7 : ∀ w ∈ u_ws RX7 TX7 12, w ∈ (wu yX7_openHours cX7_openHours 8 (some .int)) := fun _ h => List.mem_cons_of_mem _ (up_73 h)
  have J93 : ∀ (v93_6 : Int32) (v93_7 : Int32) (H : Heap) (locs : List Loc) (ls : Array Slot) (w1 : va_W), 0 ≤ a1.toInt → a1.toInt ≤ 11 → 0 ≤ a3.toInt → a3.toInt ≤ 4249 → 0 ≤ v93_7.toInt → v93_7.toInt ≤ 8 → Wd dC dI A s.heap H locs w1 → TW ksC ad cy B qr s1 w1 → FE ksC ([] : List (Nat × Nat × Nat)) w0 w1 → TT (fun n => m_X7_openHours n 39 a1.toInt 0 a3.toInt 1 (sI w0)) (fun n => b_X7_openHours_93 (j_X7_openHours 39 n) n 39 (a1.toInt) (sI w1)) → lv_has ls 8 [(0, .ref (ad 39)), (1, .int a1), (2, .int 0), (3, .long a3), (5, .int 1), (6, .int v93_6), (7, .int v93_7)] → W p l e ({ frames := 1, cells := 0, slots := 0, locals := 12 }) s m (List.toArray [.ref (ad 39), .int a1, .int 0, .long a3, .int 1]) below meth c H locs 0 0 (MQ below (va_Qi (Pz_X7_openHours_3 ad cy B qr s1 a1 a3 w0) (fun u : va_W => wpost dC dI cy A u) A) (List.toArray [.ref (ad 39), .int a1, .int 0, .long a3, .int 1]) s 0 0 A) (F0 m 93 ls []) := by
    intro v93_6 v93_7 H locs ls w1 r2 t3 r4 t5 r6 t7 hw hT hF hM hl
    refine lv_ldc (v := 16777215) hx hb hC.2.2.2.1 (hC.2.2.2.2 _ (List.mem_cons_of_mem _ uw_31_17)) dX7_openHours_93 ?_
    refine lv_aload_n hx hb dX7_openHours_95 rfl (lv_at hl 0 rfl) ?_
    refine tk_getO hC hK hw hT hinX7 kC_at39 (by decide) rfl 3 (by decide) (List.mem_cons_of_mem _ uw_2_20) rfl rfl dX7_openHours_96 ?_
    refine lv_iload_n hx hb dX7_openHours_99 rfl (lv_at hl 1 rfl) ?_
    refine tk_iald hC hK hw hT kC_at43 rfl rfl (show 0 ≤ a1.toInt from r2) (show a1.toInt < 13 from Int.lt_of_le_of_lt t3 (by decide)) dX7_openHours_100 (fun x8 c9 rx8 tx8 => ?_)
    have hox8 := c9
    replace hM := hM.rd (sI_at hox8)
    refine lv_iconst (v := (-1)) hx hb dX7_openHours_101 (by decide) ?_
    refine lv_ixor hx hb dX7_openHours_102 ?_
    refine lv_topi (fun x10 ex10 => ?_)
    have ezx10 := ex10
    replace hM := hM.lt (o32_e (f := fun x y => x ^^^ y) ezx10 rfl (by decide))
    refine lv_iand hx hb dX7_openHours_103 ?_
    refine lv_topi (fun x11 ex11 => ?_)
    have ezx11 := ex11
    have bx11 : 0 ≤ x11.toInt ∧ x11.toInt ≤ (16777215 : Int) := by rw [ex11]; exact wk_andC (by decide)
    replace hM := hM.lt (o32_e (f := fun x y => x &&& y) ezx11 (by decide) rfl)
    exact tk_iret hC hr hlocks hK ⟨hT, hF, hM.ret rfl, ⟨(show 0 ≤ x11.toInt by first | with_reducible assumption | omega), (show x11.toInt ≤ 16777215 by first | with_reducible assumption | omega)⟩⟩ hw dX7_openHours_104
  have L44 : ∀ (n44 : Nat) (v44_6 : Int32) (v44_7 : Int32) (H : Heap) (locs : List Loc) (ls : Array Slot) (w12 : va_W), 0 ≤ a1.toInt → a1.toInt ≤ 11 → 0 ≤ a3.toInt → a3.toInt ≤ 4249 → 0 ≤ v44_7.toInt → v44_7.toInt ≤ 8 → (8 - v44_7.toInt).toNat < n44 → Wd dC dI A s.heap H locs w12 → TW ksC ad cy B qr s1 w12 → FE ksC ([] : List (Nat × Nat × Nat)) w0 w12 → TT (fun n => m_X7_openHours n 39 a1.toInt 0 a3.toInt 1 (sI w0)) (fun n => j_X7_openHours 39 n 44 [a1.toInt, a3.toInt, v44_6.toInt, v44_7.toInt] (sI w12)) → lv_has ls 8 [(0, .ref (ad 39)), (1, .int a1), (2, .int 0), (3, .long a3), (5, .int 1), (6, .int v44_6), (7, .int v44_7)] → W p l e ({ frames := 1, cells := 0, slots := 0, locals := 12 }) s m (List.toArray [.ref (ad 39), .int a1, .int 0, .long a3, .int 1]) below meth c H locs 0 0 (MQ below (va_Qi (Pz_X7_openHours_3 ad cy B qr s1 a1 a3 w0) (fun u : va_W => wpost dC dI cy A u) A) (List.toArray [.ref (ad 39), .int a1, .int 0, .long a3, .int 1]) s 0 0 A) (F0 m 44 ls []) := by
    intro n44
    induction n44 with
    | zero => intro v44_6 v44_7 H locs ls w12 r13 t14 r15 t16 r17 t18 hm44 hw hT hF hM hl; omega
    | succ n44 ih44 =>
      intro v44_6 v44_7 H locs ls w12 r13 t14 r15 t16 r17 t18 hm44 hw hT hF hM hl
      have J81 : ∀ (H : Heap) (locs : List Loc) (ls : Array Slot) (w19 : va_W), 0 ≤ a1.toInt → a1.toInt ≤ 11 → 0 ≤ a3.toInt → a3.toInt ≤ 4249 → 0 ≤ v44_7.toInt → v44_7.toInt ≤ 7 → Wd dC dI A s.heap H locs w19 → TW ksC ad cy B qr s1 w19 → FE ksC ([] : List (Nat × Nat × Nat)) w0 w19 → TT (fun n => m_X7_openHours n 39 a1.toInt 0 a3.toInt 1 (sI w0)) (fun n => b_X7_openHours_81 (j_X7_openHours 39 n) n 39 (a1.toInt) (a3.toInt) (v44_6.toInt) (v44_7.toInt) (sI w19)) → lv_has ls 8 [(0, .ref (ad 39)), (1, .int a1), (2, .int 0), (3, .long a3), (5, .int 1), (6, .int v44_6), (7, .int v44_7)] → W p l e ({ frames := 1, cells := 0, slots := 0, locals := 12 }) s m (List.toArray [.ref (ad 39), .int a1, .int 0, .long a3, .int 1]) below meth c H locs 0 0 (MQ below (va_Qi (Pz_X7_openHours_3 ad cy B qr s1 a1 a3 w0) (fun u : va_W => wpost dC dI cy A u) A) (List.toArray [.ref (ad 39), .int a1, .int 0, .long a3, .int 1]) s 0 0 A) (F0 m 81 ls []) := by
        intro H locs ls w19 r20 t21 r22 t23 r24 t25 hw hT hF hM hl
        refine lv_iload hx hb dX7_openHours_81 (lv_at hl 5 rfl) ?_
        refine lv_iconst (v := 1) hx hb dX7_openHours_83 (by decide) ?_
        refine lv_ishr hx hb dX7_openHours_84 ?_
        refine lv_topi (fun x26 ex26 => ?_)
        have ezx26 := ex26
        replace hM := hM.lt (o32_e (f := fun x y => x >>> (y &&& 31)) ezx26 rfl (by decide))
        refine lv_istore (lv' := [(6, .int x26), (0, .ref (ad 39)), (1, .int a1), (2, .int 0), (3, .long a3), (5, .int 1), (7, .int v44_7)]) hx hb dX7_openHours_85 hl (by decide) rfl (fun ls hl => ?_)
        obtain ⟨x27, ex27⟩ : ∃ y : Int32, y = v44_7 + Int32.ofInt 1 := ⟨_, rfl⟩
        have erx27 := ex27
        refine lv_iinc (v := x27) (lv' := [(7, .int x27), (6, .int x26), (0, .ref (ad 39)), (1, .int a1), (2, .int 0), (3, .long a3), (5, .int 1)]) hx hb dX7_openHours_87 hl (k := 6) rfl ex27.symm (by decide) rfl (fun ls hl => ?_)
        have ex27 : x27.toInt = v44_7.toInt + 1 := by rw [ex27]; exact wk_add (y := 1) (show -2147483648 ≤ v44_7.toInt + 1 by omega) (show v44_7.toInt + 1 ≤ 2147483647 by omega)
        replace hM := hM.lt ex27.symm
        refine lv_goto (tgt := 44) hx hb dX7_openHours_90 (by decide) ?_
        exact ih44 x26 x27 H locs ls w19 (show 0 ≤ a1.toInt from r20) (show a1.toInt ≤ 11 from t21) (show 0 ≤ a3.toInt from r22) (show a3.toInt ≤ 4249 from t23) (show 0 ≤ x27.toInt by first | with_reducible assumption | omega) (show x27.toInt ≤ 8 by first | with_reducible assumption | omega) (show (8 - x27.toInt).toNat < n44 by first | exact tn_lt hm44 (by omega) (by omega) | omega) hw hT hF hM (lv_sub hl [2, 3, 4, 5, 6, 1, 0] rfl)
      replace hM := hM.suc (fun _ => e_X7_openHours_44)
      refine lv_iload hx hb dX7_openHours_44 (lv_at hl 5 rfl) ?_
      refine lv_if_eq (tgt := 93) hx hb dX7_openHours_46 (by decide) (fun c28 => ?_) (fun c28 => ?_)
      · have c28 : v44_6.toInt = (0 : Int) := wk_eq.mp c28
        replace hM := hM.pos c28
        exact J93 v44_6 v44_7 H locs ls w12 (show 0 ≤ a1.toInt from r13) (show a1.toInt ≤ 11 from t14) (show 0 ≤ a3.toInt from r15) (show a3.toInt ≤ 4249 from t16) (show 0 ≤ v44_7.toInt from r17) (show v44_7.toInt ≤ 8 from t18)  hw hT hF hM (lv_sub hl [0, 1, 2, 3, 4, 5, 6] rfl)
      · have c28 : ¬ v44_6.toInt = (0 : Int) := wk_eqF c28
        replace hM := hM.neg c28
        refine lv_iload hx hb dX7_openHours_49 (lv_at hl 6 rfl) ?_
        refine lv_bipush (v := 8) hx hb dX7_openHours_51 (by decide) ?_
        refine lv_icmp_ge (tgt := 93) hx hb dX7_openHours_53 (by decide) (fun c29 => ?_) (fun c29 => ?_)
        · have c29 : (8 : Int) ≤ v44_7.toInt := wk_le.mp c29
          replace hM := hM.pos c29
          exact J93 v44_6 v44_7 H locs ls w12 (show 0 ≤ a1.toInt from r13) (show a1.toInt ≤ 11 from t14) (show 0 ≤ a3.toInt from r15) (show a3.toInt ≤ 4249 from t16) (show 0 ≤ v44_7.toInt from r17) (show v44_7.toInt ≤ 8 from t18)  hw hT hF hM (lv_sub hl [0, 1, 2, 3, 4, 5, 6] rfl)
        · have c29 : v44_7.toInt < (8 : Int) := wk_leF c29
          replace hM := hM.neg (Int.not_le.mpr c29)
          refine lv_iload hx hb dX7_openHours_56 (lv_at hl 5 rfl) ?_
          refine lv_iconst (v := 1) hx hb dX7_openHours_58 (by decide) ?_
          refine lv_iand hx hb dX7_openHours_59 ?_
          refine lv_topi (fun x30 ex30 => ?_)
          have ezx30 := ex30
          have bx30 : 0 ≤ x30.toInt ∧ x30.toInt ≤ (1 : Int) := by rw [ex30]; exact wk_and (by decide)
          replace hM := hM.lt (o32_e (f := fun x y => x &&& y) ezx30 rfl (by decide))
          refine lv_if_eq (tgt := 81) hx hb dX7_openHours_60 (by decide) (fun c31 => ?_) (fun c31 => ?_)
          · have c31 : x30.toInt = (0 : Int) := wk_eq.mp c31
            replace hM := hM.pos c31
            exact J81  H locs ls w12 (show 0 ≤ a1.toInt from r13) (show a1.toInt ≤ 11 from t14) (show 0 ≤ a3.toInt from r15) (show a3.toInt ≤ 4249 from t16) (show 0 ≤ v44_7.toInt from r17) (show v44_7.toInt ≤ 7 by first | with_reducible assumption | omega)  hw hT hF hM (lv_sub hl [0, 1, 2, 3, 4, 5, 6] rfl)
          · have c31 : ¬ x30.toInt = (0 : Int) := wk_eqF c31
            replace hM := hM.neg c31
            refine lv_aload_n hx hb dX7_openHours_63 rfl (lv_at hl 0 rfl) ?_
            refine tk_getO hC hK hw hT hinX7 kC_at39 (by decide) rfl 6 (by decide) (List.mem_cons_of_mem _ uw_2_23) rfl rfl dX7_openHours_64 ?_
            refine lv_iload hx hb dX7_openHours_67 (lv_at hl 6 rfl) ?_
            refine tk_iald hC hK hw hT kC_at46 rfl rfl (show 0 ≤ v44_7.toInt from r17) (show v44_7.toInt < 8 by first | with_reducible assumption | omega) dX7_openHours_69 (fun x32 c33 rx32 tx32 => ?_)
            have hox32 := c33
            replace hM := hM.rd (sI_at hox32)
            refine lv_lload_n hx hb dX7_openHours_70 rfl (lv_at hl 3 rfl) ?_
            refine lv_ldc2 (v := 360) hx hb hC.2.2.2.1 (hC.2.2.2.2 _ (List.mem_cons_of_mem _ uw_31_16)) dX7_openHours_71 ?_
            refine lv_lrem hx hb dX7_openHours_74 (by decide) ?_
            refine lv_topl (fun x34 ex34 => ?_)
            have ezx34 := ex34
            have ex34 : x34.toInt = a3.toInt % (360 : Int) := by rw [ex34]; exact wk_reml (show 0 ≤ a3.toInt from r15) (show 0 < (360 : Int) by decide)
            replace hM := hM.lt ex34.symm
            refine lv_l2i hx hb dX7_openHours_75 rfl ?_
            refine lv_topi (fun x35 ex35 => ?_)
            have ex35 : x35.toInt = x34.toInt := by rw [ex35]; exact wk_l2i (by omega) (by omega)
            replace hM := hM.lt ex35.symm
            refine lv_icmp_ne (tgt := 81) hx hb dX7_openHours_76 (by decide) (fun c36 => ?_) (fun c36 => ?_)
            · have c36 : ¬ x32.toInt = x35.toInt := wk_eqF c36
              replace hM := hM.pos c36
              exact J81  H locs ls w12 (show 0 ≤ a1.toInt from r13) (show a1.toInt ≤ 11 from t14) (show 0 ≤ a3.toInt from r15) (show a3.toInt ≤ 4249 from t16) (show 0 ≤ v44_7.toInt from r17) (show v44_7.toInt ≤ 7 by first | with_reducible assumption | omega)  hw hT hF hM (lv_sub hl [0, 1, 2, 3, 4, 5, 6] rfl)
            · have c36 : x32.toInt = x35.toInt := wk_eq.mp c36
              replace hM := hM.neg (fun q => q c36)
              refine lv_iconst (v := 0) hx hb dX7_openHours_79 (by decide) ?_
              exact tk_iret hC hr hlocks hK ⟨hT, hF, hM.ret (by decide), ⟨(by decide), (by decide)⟩⟩ hw dX7_openHours_80
  have hM : TT (fun n => m_X7_openHours n 39 a1.toInt 0 a3.toInt 1 (sI w0)) (fun n => m_X7_openHours n 39 a1.toInt 0 a3.toInt 1 (sI w0)) := TT.rf
  refine lv_aload_n hx hb dX7_openHours_0 rfl (lv_at hl 0 rfl) ?_
  refine tk_getO hC hK hw hT hinX7 kC_at39 (by decide) rfl 4 (by decide) (List.mem_cons_of_mem _ uw_2_21) rfl rfl dX7_openHours_1 ?_
  refine lv_iconst (v := 2) hx hb dX7_openHours_4 (by decide) ?_
  refine lv_iload_n hx hb dX7_openHours_5 rfl (lv_at hl 1 rfl) ?_
  refine lv_imul hx hb dX7_openHours_6 ?_
  refine lv_topi (fun x37 ex37 => ?_)
  have ezx37 := ex37
  have ex37 : x37.toInt = (2 : Int) * a1.toInt := by rw [ex37]; exact wk_mul (show (-2147483648) ≤ (2 : Int) * a1.toInt by omega) (show (2 : Int) * a1.toInt ≤ 2147483647 by omega)
  replace hM := hM.lt ex37.symm
  refine lv_iload_n hx hb dX7_openHours_7 rfl (lv_at hl 2 rfl) ?_
  refine lv_iadd hx hb dX7_openHours_8 ?_
  refine lv_topi (fun x38 ex38 => ?_)
  have ezx38 := ex38
  have ex38 : x38.toInt = x37.toInt + (0 : Int) := by rw [ex38]; exact wk_add (show (-2147483648) ≤ x37.toInt + (0 : Int) by omega) (show x37.toInt + (0 : Int) ≤ 2147483647 by omega)
  replace hM := hM.lt ex38.symm
  refine tk_iald hC hK hw hT kC_at44 rfl rfl (show 0 ≤ x38.toInt by first | with_reducible assumption | omega) (show x38.toInt < 26 by first | with_reducible assumption | omega) dX7_openHours_9 (fun x39 c40 rx39 tx39 => ?_)
  have hox39 := c40
  replace hM := hM.rd (sI_at hox39)
  refine lv_lload_n hx hb dX7_openHours_10 rfl (lv_at hl 3 rfl) ?_
  refine lv_ldc2 (v := 7) hx hb hC.2.2.2.1 (hC.2.2.2.2 _ (List.mem_cons_of_mem _ uw_31_15)) dX7_openHours_11 ?_
  refine lv_lrem hx hb dX7_openHours_14 (by decide) ?_
  refine lv_topl (fun x41 ex41 => ?_)
  have ezx41 := ex41
  have ex41 : x41.toInt = a3.toInt % (7 : Int) := by rw [ex41]; exact wk_reml (show 0 ≤ a3.toInt from ra3) (show 0 < (7 : Int) by decide)
  replace hM := hM.lt ex41.symm
  refine lv_l2i hx hb dX7_openHours_15 rfl ?_
  refine lv_topi (fun x42 ex42 => ?_)
  have ex42 : x42.toInt = x41.toInt := by rw [ex42]; exact wk_l2i (by omega) (by omega)
  replace hM := hM.lt ex42.symm
  refine lv_ishr hx hb dX7_openHours_16 ?_
  refine lv_topi (fun x43 ex43 => ?_)
  have ezx43 := ex43
  replace hM := hM.lt (o32_e (f := fun x y => x >>> (y &&& 31)) ezx43 rfl rfl)
  refine lv_iconst (v := 1) hx hb dX7_openHours_17 (by decide) ?_
  refine lv_iand hx hb dX7_openHours_18 ?_
  refine lv_topi (fun x44 ex44 => ?_)
  have ezx44 := ex44
  have bx44 : 0 ≤ x44.toInt ∧ x44.toInt ≤ (1 : Int) := by rw [ex44]; exact wk_and (by decide)
  replace hM := hM.lt (o32_e (f := fun x y => x &&& y) ezx44 rfl (by decide))
  refine lv_if_ne (tgt := 24) hx hb dX7_openHours_19 (by decide) (fun c45 => ?_) (fun c45 => ?_)
  · have c45 : ¬ x44.toInt = (0 : Int) := wk_eqF c45
    replace hM := hM.pos c45
    refine lv_iload hx hb dX7_openHours_24 (lv_at hl 4 rfl) ?_
    refine lv_if_eq (tgt := 38) hx hb dX7_openHours_26 (by decide) (fun c => absurd c (by decide)) (fun _ => ?_)
    replace hM := hM.neg (by decide)
    refine lv_aload_n hx hb dX7_openHours_29 rfl (lv_at hl 0 rfl) ?_
    refine tk_getO hC hK hw hT hinX7 kC_at39 (by decide) rfl 7 (by decide) (List.mem_cons_of_mem _ uw_3_0) rfl rfl dX7_openHours_30 ?_
    refine lv_iload_n hx hb dX7_openHours_33 rfl (lv_at hl 1 rfl) ?_
    refine tk_iald hC hK hw hT kC_at47 rfl rfl (show 0 ≤ a1.toInt from ra1) (show a1.toInt < 13 from Int.lt_of_le_of_lt ta1 (by decide)) dX7_openHours_34 (fun x46 c47 rx46 tx46 => ?_)
    have hox46 := c47
    replace hM := hM.rd (sI_at hox46)
    refine lv_goto (tgt := 39) hx hb dX7_openHours_35 (by decide) ?_
    refine lv_istore (lv' := [(6, .int x46), (0, .ref (ad 39)), (1, .int a1), (2, .int 0), (3, .long a3), (5, .int 1)]) hx hb dX7_openHours_39 hl (by decide) rfl (fun ls hl => ?_)
    refine lv_iconst (v := 0) hx hb dX7_openHours_41 (by decide) ?_
    refine lv_istore (lv' := [(7, .int 0), (6, .int x46), (0, .ref (ad 39)), (1, .int a1), (2, .int 0), (3, .long a3), (5, .int 1)]) hx hb dX7_openHours_42 hl (by decide) rfl (fun ls hl => ?_)
    exact L44 ((8 - (0 : Int)).toNat + 1) x46 0 s.heap locs ls w0 (show 0 ≤ a1.toInt from ra1) (show a1.toInt ≤ 11 from ta1) (show 0 ≤ a3.toInt from ra3) (show a3.toInt ≤ 4249 from ta3) (by decide) (by decide) (Nat.lt_succ_self _) hw hT hF hM (lv_sub hl [2, 3, 4, 5, 6, 1, 0] rfl)
  · have c45 : x44.toInt = (0 : Int) := wk_eq.mp c45
    replace hM := hM.neg (fun q => q c45)
    refine lv_iconst (v := 0) hx hb dX7_openHours_22 (by decide) ?_
    exact tk_iret hC hr hlocks hK ⟨hT, hF, hM.ret (by decide), ⟨(by decide), (by decide)⟩⟩ hw dX7_openHours_23
abbrev Pz_X7_isNeverOpen_3 (ad : Nat → Nat) (cy : Nat → ClassId) (B : Int) (qr : Nat) (s1 : Int) (a1 : Int32) (w0 : va_W) : Int32 → va_W → Prop := fun r u => TW ksC ad cy B qr s1 u ∧ FE ksC ([] : List (Nat × Nat × Nat)) w0 u ∧ Ev (fun n => m_X7_isNeverOpen n 39 a1.toInt 0 (sI w0)) (r.toInt, sI u) ∧ ((r = 0) ∨ (r = 1))
set_option maxHeartbeats 4000000 in
set_option maxRecDepth 100000 in
theorem kz_X7_isNeverOpen_3 (l : Launch) (adK adV : Nat → Nat) (dC : Nat → ClassId) (dI : Nat → Nat → Nat) (cy : Nat → ClassId) (ad : Nat → Nat) (B : Int) (hB0 : 2147483648 ≤ B) (hB1 : B ≤ 1152921504606846976) (qr : Nat) (s1 : Int)  (a1 : Int32) (ra1 : 0 ≤ a1.toInt) (ta1 : a1.toInt ≤ 11) (w0 : va_W) (sz : Nat) (hT : TW ksC ad cy B qr s1 w0)  : Met l yX7_isNeverOpen (wu yX7_isNeverOpen cX7_isNeverOpen 3 (some .boolean)) ({ frames := 1, cells := 0, slots := 0, locals := 12 }) (va_Pc [.ref (ad 39), .int a1, .int 0] (wpreS adK adV dC dI cy sz w0)) (va_Qi (Pz_X7_isNeverOpen_3 ad cy B qr s1 a1 w0) (fun u : va_W => wpost dC dI cy (va_A w0 sz) u) (va_A w0 sz)) 0 0 (va_A w0 sz) := by
  refine Met.ofW (cc := cX7_isNeverOpen) (maxL := 3) (ret := (some .boolean)) (by decide) rfl ?_
  intro p e s m args below meth c s₁ Bk hml hv
  obtain ⟨rfl, ⟨hsz, hP, hK, hD0⟩, hE, hSR⟩ := hv
  have hx := Bk.exec
  have hb := Bk.bytes
  have hr := Bk.returns
  have hlocks := Bk.notSynchronized
  have hC : CallFix p m c cX7_isNeverOpen 3 s _ (wu yX7_isNeverOpen cX7_isNeverOpen 3 (some .boolean)) RX7 := ⟨hx, hb, hml, findClass_of_methodNamed Bk.named, atoms_spec (ws := (wu yX7_isNeverOpen cX7_isNeverOpen 3 (some .boolean))) Bk.pre⟩
  subst hsz
  have hD := hD0.self (sz := s.heap.size)
  generalize hAe : va_A w0 s.heap.size = A at hD hE ⊢
  have hA : ∀ q : Nat, s.heap.size ≤ q → A q := fun q h => by rw [← hAe]; exact Or.inr h
  have hw : Wd dC dI A s.heap s.heap [] w0 := ⟨hP, hD, va_S.rf⟩
  have hF : FE ksC ([] : List (Nat × Nat × Nat)) w0 w0 := FE.rf
  have hl := lv_entry ([.ref (ad 39), .int a1, .int 0]) (n := 3) (Nat.le_of_ble_eq_true rfl)
  rw [lg_entry_eq]
  generalize (lg_sl ([.ref (ad 39), .int a1, .int 0]) ++ List.replicate (3 - (lg_sl ([.ref (ad 39), .int a1, .int 0])).length) Slot.unset).toArray = ls at hl ⊢
  have hl : lv_has ls 3 [(0, .ref (ad 39)), (1, .int a1), (2, .int 0)] := hl
  generalize hloc : ([] : List Loc) = locs at hw ⊢
  have hinX7 : ∀ w ∈ u_ws RX7 TX7 12, w ∈ (wu yX7_isNeverOpen cX7_isNeverOpen 3 (some .boolean)) := fun _ h => List.mem_cons_of_mem _ (up_73 h)
  have J24 : ∀ (H : Heap) (locs : List Loc) (ls : Array Slot) (w1 : va_W), 0 ≤ a1.toInt → a1.toInt ≤ 11 → Wd dC dI A s.heap H locs w1 → TW ksC ad cy B qr s1 w1 → FE ksC ([] : List (Nat × Nat × Nat)) w0 w1 → TT (fun n => m_X7_isNeverOpen n 39 a1.toInt 0 (sI w0)) (fun n => b_X7_isNeverOpen_24 n 39 (sI w1)) → lv_has ls 3 [(0, .ref (ad 39)), (1, .int a1), (2, .int 0)] → W p l e ({ frames := 1, cells := 0, slots := 0, locals := 12 }) s m (List.toArray [.ref (ad 39), .int a1, .int 0]) below meth c H locs 0 0 (MQ below (va_Qi (Pz_X7_isNeverOpen_3 ad cy B qr s1 a1 w0) (fun u : va_W => wpost dC dI cy A u) A) (List.toArray [.ref (ad 39), .int a1, .int 0]) s 0 0 A) (F0 m 24 ls []) := by
    intro H locs ls w1 r2 t3 hw hT hF hM hl
    refine lv_iconst (v := 1) hx hb dX7_isNeverOpen_24 (by decide) ?_
    refine lv_goto (tgt := 29) hx hb dX7_isNeverOpen_25 (by decide) ?_
    exact tk_zret hC hr rfl hlocks hK ⟨hT, hF, hM.ret (by decide), (Or.inr rfl)⟩ hw dX7_isNeverOpen_29
  have hM : TT (fun n => m_X7_isNeverOpen n 39 a1.toInt 0 (sI w0)) (fun n => m_X7_isNeverOpen n 39 a1.toInt 0 (sI w0)) := TT.rf
  refine lv_aload_n hx hb dX7_isNeverOpen_0 rfl (lv_at hl 0 rfl) ?_
  refine tk_getO hC hK hw hT hinX7 kC_at39 (by decide) rfl 4 (by decide) (List.mem_cons_of_mem _ uw_2_21) rfl rfl dX7_isNeverOpen_1 ?_
  refine lv_iconst (v := 2) hx hb dX7_isNeverOpen_4 (by decide) ?_
  refine lv_iload_n hx hb dX7_isNeverOpen_5 rfl (lv_at hl 1 rfl) ?_
  refine lv_imul hx hb dX7_isNeverOpen_6 ?_
  refine lv_topi (fun x4 ex4 => ?_)
  have ezx4 := ex4
  have ex4 : x4.toInt = (2 : Int) * a1.toInt := by rw [ex4]; exact wk_mul (show (-2147483648) ≤ (2 : Int) * a1.toInt by omega) (show (2 : Int) * a1.toInt ≤ 2147483647 by omega)
  replace hM := hM.lt ex4.symm
  refine lv_iload_n hx hb dX7_isNeverOpen_7 rfl (lv_at hl 2 rfl) ?_
  refine lv_iadd hx hb dX7_isNeverOpen_8 ?_
  refine lv_topi (fun x5 ex5 => ?_)
  have ezx5 := ex5
  have ex5 : x5.toInt = x4.toInt + (0 : Int) := by rw [ex5]; exact wk_add (show (-2147483648) ≤ x4.toInt + (0 : Int) by omega) (show x4.toInt + (0 : Int) ≤ 2147483647 by omega)
  replace hM := hM.lt ex5.symm
  refine tk_iald hC hK hw hT kC_at44 rfl rfl (show 0 ≤ x5.toInt by first | with_reducible assumption | omega) (show x5.toInt < 26 by first | with_reducible assumption | omega) dX7_isNeverOpen_9 (fun x6 c7 rx6 tx6 => ?_)
  have hox6 := c7
  replace hM := hM.rd (sI_at hox6)
  refine lv_if_eq (tgt := 24) hx hb dX7_isNeverOpen_10 (by decide) (fun c8 => ?_) (fun c8 => ?_)
  · have c8 : x6.toInt = (0 : Int) := wk_eq.mp c8
    replace hM := hM.pos c8
    exact J24  s.heap locs ls w0 (show 0 ≤ a1.toInt from ra1) (show a1.toInt ≤ 11 from ta1)  hw hT hF hM (lv_sub hl [0, 1, 2] rfl)
  · have c8 : ¬ x6.toInt = (0 : Int) := wk_eqF c8
    replace hM := hM.neg c8
    refine lv_aload_n hx hb dX7_isNeverOpen_13 rfl (lv_at hl 0 rfl) ?_
    refine tk_getO hC hK hw hT hinX7 kC_at39 (by decide) rfl 3 (by decide) (List.mem_cons_of_mem _ uw_2_20) rfl rfl dX7_isNeverOpen_14 ?_
    refine lv_iload_n hx hb dX7_isNeverOpen_17 rfl (lv_at hl 1 rfl) ?_
    refine tk_iald hC hK hw hT kC_at43 rfl rfl (show 0 ≤ a1.toInt from ra1) (show a1.toInt < 13 from Int.lt_of_le_of_lt ta1 (by decide)) dX7_isNeverOpen_18 (fun x9 c10 rx9 tx9 => ?_)
    have hox9 := c10
    replace hM := hM.rd (sI_at hox9)
    refine lv_ldc (v := 16777215) hx hb hC.2.2.2.1 (hC.2.2.2.2 _ (List.mem_cons_of_mem _ uw_31_17)) dX7_isNeverOpen_19 ?_
    refine lv_icmp_ne (tgt := 28) hx hb dX7_isNeverOpen_21 (by decide) (fun c11 => ?_) (fun c11 => ?_)
    · have c11 : ¬ x9.toInt = (16777215 : Int) := wk_eqF c11
      replace hM := hM.pos c11
      refine lv_iconst (v := 0) hx hb dX7_isNeverOpen_28 (by decide) ?_
      exact tk_zret hC hr rfl hlocks hK ⟨hT, hF, hM.ret (by decide), (Or.inl rfl)⟩ hw dX7_isNeverOpen_29
    · have c11 : x9.toInt = (16777215 : Int) := wk_eq.mp c11
      replace hM := hM.neg (fun q => q c11)
      exact J24  s.heap locs ls w0 (show 0 ≤ a1.toInt from ra1) (show a1.toInt ≤ 11 from ta1)  hw hT hF hM (lv_sub hl [0, 1, 2] rfl)
abbrev Pz_X7_firstOpen_3 (ad : Nat → Nat) (cy : Nat → ClassId) (B : Int) (qr : Nat) (s1 : Int) (a1 : Int32) (a3 : Int32) (a4 : Int32) (w0 : va_W) : Int32 → va_W → Prop := fun r u => TW ksC ad cy B qr s1 u ∧ FE ksC ([] : List (Nat × Nat × Nat)) w0 u ∧ Ev (fun n => m_X7_firstOpen n 39 a1.toInt 0 a3.toInt a4.toInt (sI w0)) (r.toInt, sI u) ∧ ((0 ≤ r.toInt ∧ r.toInt ≤ 101999) ∨ (r = (-1)))
set_option maxHeartbeats 4000000 in
set_option maxRecDepth 100000 in
theorem kz_X7_firstOpen_3 (l : Launch) (adK adV : Nat → Nat) (dC : Nat → ClassId) (dI : Nat → Nat → Nat) (cy : Nat → ClassId) (ad : Nat → Nat) (B : Int) (hB0 : 2147483648 ≤ B) (hB1 : B ≤ 1152921504606846976) (qr : Nat) (s1 : Int)  (a1 : Int32) (ra1 : 0 ≤ a1.toInt) (ta1 : a1.toInt ≤ 11) (a3 : Int32) (ra3 : (-1) ≤ a3.toInt) (ta3 : a3.toInt ≤ 102119) (a4 : Int32) (ra4 : 1991 ≤ a4.toInt) (ta4 : a4.toInt ≤ 101999) (w0 : va_W) (sz : Nat) (hT : TW ksC ad cy B qr s1 w0)  : Met l yX7_firstOpen (wu yX7_firstOpen cX7_firstOpen 10 (some .int)) ({ frames := 2, cells := 0, slots := 0, locals := 39 }) (va_Pc [.ref (ad 39), .int a1, .int 0, .int a3, .int a4] (wpreS adK adV dC dI cy sz w0)) (va_Qi (Pz_X7_firstOpen_3 ad cy B qr s1 a1 a3 a4 w0) (fun u : va_W => wpost dC dI cy (va_A w0 sz) u) (va_A w0 sz)) 0 0 (va_A w0 sz) := by
  refine Met.ofW (cc := cX7_firstOpen) (maxL := 10) (ret := (some .int)) (by decide) rfl ?_
  intro p e s m args below meth c s₁ Bk hml hv
  obtain ⟨rfl, ⟨hsz, hP, hK, hD0⟩, hE, hSR⟩ := hv
  have hx := Bk.exec
  have hb := Bk.bytes
  have hr := Bk.returns
  have hlocks := Bk.notSynchronized
  have hC : CallFix p m c cX7_firstOpen 10 s _ (wu yX7_firstOpen cX7_firstOpen 10 (some .int)) RX7 := ⟨hx, hb, hml, findClass_of_methodNamed Bk.named, atoms_spec (ws := (wu yX7_firstOpen cX7_firstOpen 10 (some .int))) Bk.pre⟩
  subst hsz
  have hD := hD0.self (sz := s.heap.size)
  generalize hAe : va_A w0 s.heap.size = A at hD hE ⊢
  have hA : ∀ q : Nat, s.heap.size ≤ q → A q := fun q h => by rw [← hAe]; exact Or.inr h
  have hw : Wd dC dI A s.heap s.heap [] w0 := ⟨hP, hD, va_S.rf⟩
  have hF : FE ksC ([] : List (Nat × Nat × Nat)) w0 w0 := FE.rf
  have hl := lv_entry ([.ref (ad 39), .int a1, .int 0, .int a3, .int a4]) (n := 10) (Nat.le_of_ble_eq_true rfl)
  rw [lg_entry_eq]
  generalize (lg_sl ([.ref (ad 39), .int a1, .int 0, .int a3, .int a4]) ++ List.replicate (10 - (lg_sl ([.ref (ad 39), .int a1, .int 0, .int a3, .int a4])).length) Slot.unset).toArray = ls at hl ⊢
  have hl : lv_has ls 10 [(0, .ref (ad 39)), (1, .int a1), (2, .int 0), (3, .int a3), (4, .int a4)] := hl
  generalize hloc : ([] : List Loc) = locs at hw ⊢
  have L25 : ∀ (n25 : Nat) (v25_5 : Int32) (v25_6 : Int32) (H : Heap) (locs : List Loc) (ls : Array Slot) (w1 : va_W), 0 ≤ a1.toInt → a1.toInt ≤ 11 → (-1) ≤ a3.toInt → a3.toInt ≤ 102119 → 1991 ≤ a4.toInt → a4.toInt ≤ 101999 → 0 ≤ v25_6.toInt → v25_6.toInt ≤ 4254 → (4254 - v25_6.toInt).toNat < n25 → Wd dC dI A s.heap H locs w1 → TW ksC ad cy B qr s1 w1 → FE ksC ([] : List (Nat × Nat × Nat)) w0 w1 → TT (fun n => m_X7_firstOpen n 39 a1.toInt 0 a3.toInt a4.toInt (sI w0)) (fun n => j_X7_firstOpen 39 n 25 [a1.toInt, (0 : Int), a4.toInt, v25_5.toInt, v25_6.toInt] (sI w1)) → lv_has ls 10 [(0, .ref (ad 39)), (1, .int a1), (2, .int 0), (3, .int a3), (4, .int a4), (5, .int v25_5), (6, .int v25_6)] → W p l e ({ frames := 2, cells := 0, slots := 0, locals := 39 }) s m (List.toArray [.ref (ad 39), .int a1, .int 0, .int a3, .int a4]) below meth c H locs 0 0 (MQ below (va_Qi (Pz_X7_firstOpen_3 ad cy B qr s1 a1 a3 a4 w0) (fun u : va_W => wpost dC dI cy A u) A) (List.toArray [.ref (ad 39), .int a1, .int 0, .int a3, .int a4]) s 0 0 A) (F0 m 25 ls []) := by
    intro n25
    induction n25 with
    | zero => intro v25_5 v25_6 H locs ls w1 r2 t3 r4 t5 r6 t7 r8 t9 hm25 hw hT hF hM hl; omega
    | succ n25 ih25 =>
      intro v25_5 v25_6 H locs ls w1 r2 t3 r4 t5 r6 t7 r8 t9 hm25 hw hT hF hM hl
      have J108 : ∀ (v108_7 : Int32) (v108_8 : Int32) (H : Heap) (locs : List Loc) (ls : Array Slot) (w10 : va_W), 0 ≤ a1.toInt → a1.toInt ≤ 11 → (-1) ≤ a3.toInt → a3.toInt ≤ 102119 → 1991 ≤ a4.toInt → a4.toInt ≤ 101999 → 0 ≤ v25_6.toInt → v25_6.toInt ≤ 4249 → 0 ≤ v108_7.toInt → v108_7.toInt ≤ 16777215 → 0 ≤ v108_8.toInt → v108_8.toInt ≤ 24 → Wd dC dI A s.heap H locs w10 → TW ksC ad cy B qr s1 w10 → FE ksC ([] : List (Nat × Nat × Nat)) w0 w10 → TT (fun n => m_X7_firstOpen n 39 a1.toInt 0 a3.toInt a4.toInt (sI w0)) (fun n => b_X7_firstOpen_108 (j_X7_firstOpen 39 n) n 39 (a1.toInt) (0 : Int) (a4.toInt) (-1 : Int) (v25_6.toInt) (sI w10)) → lv_has ls 10 [(0, .ref (ad 39)), (1, .int a1), (2, .int 0), (3, .int a3), (4, .int a4), (5, .int (-1)), (6, .int v25_6), (7, .int v108_7), (8, .int v108_8)] → W p l e ({ frames := 2, cells := 0, slots := 0, locals := 39 }) s m (List.toArray [.ref (ad 39), .int a1, .int 0, .int a3, .int a4]) below meth c H locs 0 0 (MQ below (va_Qi (Pz_X7_firstOpen_3 ad cy B qr s1 a1 a3 a4 w0) (fun u : va_W => wpost dC dI cy A u) A) (List.toArray [.ref (ad 39), .int a1, .int 0, .int a3, .int a4]) s 0 0 A) (F0 m 108 ls []) := by
        intro v108_7 v108_8 H locs ls w10 r11 t12 r13 t14 r15 t16 r17 t18 r19 t20 r21 t22 hw hT hF hM hl
        obtain ⟨x23, ex23⟩ : ∃ y : Int32, y = v25_6 + Int32.ofInt 1 := ⟨_, rfl⟩
        have erx23 := ex23
        refine lv_iinc (v := x23) (lv' := [(6, .int x23), (0, .ref (ad 39)), (1, .int a1), (2, .int 0), (3, .int a3), (4, .int a4), (5, .int (-1)), (7, .int v108_7), (8, .int v108_8)]) hx hb dX7_firstOpen_108 hl (k := 6) rfl ex23.symm (by decide) rfl (fun ls hl => ?_)
        have ex23 : x23.toInt = v25_6.toInt + 1 := by rw [ex23]; exact wk_add (y := 1) (show -2147483648 ≤ v25_6.toInt + 1 by omega) (show v25_6.toInt + 1 ≤ 2147483647 by omega)
        replace hM := hM.lt ex23.symm
        refine lv_goto (tgt := 25) hx hb dX7_firstOpen_111 (by decide) ?_
        exact ih25 (-1) x23 H locs ls w10 (show 0 ≤ a1.toInt from r11) (show a1.toInt ≤ 11 from t12) (show (-1) ≤ a3.toInt from r13) (show a3.toInt ≤ 102119 from t14) (show 1991 ≤ a4.toInt from r15) (show a4.toInt ≤ 101999 from t16) (show 0 ≤ x23.toInt by first | with_reducible assumption | omega) (show x23.toInt ≤ 4254 by first | with_reducible assumption | omega) (show (4254 - x23.toInt).toNat < n25 by first | exact tn_lt hm25 (by omega) (by omega) | omega) hw hT hF hM (lv_sub hl [1, 2, 3, 4, 5, 6, 0] rfl)
      have L56 : ∀ (n56 : Nat) (v56_7 : Int32) (v56_8 : Int32) (H : Heap) (locs : List Loc) (ls : Array Slot) (w24 : va_W), 0 ≤ a1.toInt → a1.toInt ≤ 11 → (-1) ≤ a3.toInt → a3.toInt ≤ 102119 → 1991 ≤ a4.toInt → a4.toInt ≤ 101999 → 0 ≤ v25_6.toInt → v25_6.toInt ≤ 4249 → 0 ≤ v56_7.toInt → v56_7.toInt ≤ 16777215 → 0 ≤ v56_8.toInt → v56_8.toInt ≤ 24 → (24 - v56_8.toInt).toNat < n56 → Wd dC dI A s.heap H locs w24 → TW ksC ad cy B qr s1 w24 → FE ksC ([] : List (Nat × Nat × Nat)) w0 w24 → TT (fun n => m_X7_firstOpen n 39 a1.toInt 0 a3.toInt a4.toInt (sI w0)) (fun n => j_X7_firstOpen 39 n 56 [a1.toInt, (0 : Int), a4.toInt, (-1 : Int), v25_6.toInt, v56_7.toInt, v56_8.toInt] (sI w24)) → lv_has ls 10 [(0, .ref (ad 39)), (1, .int a1), (2, .int 0), (3, .int a3), (4, .int a4), (5, .int (-1)), (6, .int v25_6), (7, .int v56_7), (8, .int v56_8)] → W p l e ({ frames := 2, cells := 0, slots := 0, locals := 39 }) s m (List.toArray [.ref (ad 39), .int a1, .int 0, .int a3, .int a4]) below meth c H locs 0 0 (MQ below (va_Qi (Pz_X7_firstOpen_3 ad cy B qr s1 a1 a3 a4 w0) (fun u : va_W => wpost dC dI cy A u) A) (List.toArray [.ref (ad 39), .int a1, .int 0, .int a3, .int a4]) s 0 0 A) (F0 m 56 ls []) := by
        intro n56
        induction n56 with
        | zero => intro v56_7 v56_8 H locs ls w24 r25 t26 r27 t28 r29 t30 r31 t32 r33 t34 r35 t36 hm56 hw hT hF hM hl; omega
        | succ n56 ih56 =>
          intro v56_7 v56_8 H locs ls w24 r25 t26 r27 t28 r29 t30 r31 t32 r33 t34 r35 t36 hm56 hw hT hF hM hl
          replace hM := hM.suc (fun _ => e_X7_firstOpen_56)
          refine lv_iload hx hb dX7_firstOpen_56 (lv_at hl 7 rfl) ?_
          refine lv_if_eq (tgt := 108) hx hb dX7_firstOpen_58 (by decide) (fun c37 => ?_) (fun c37 => ?_)
          · have c37 : v56_7.toInt = (0 : Int) := wk_eq.mp c37
            replace hM := hM.pos c37
            exact J108 v56_7 v56_8 H locs ls w24 (show 0 ≤ a1.toInt from r25) (show a1.toInt ≤ 11 from t26) (show (-1) ≤ a3.toInt from r27) (show a3.toInt ≤ 102119 from t28) (show 1991 ≤ a4.toInt from r29) (show a4.toInt ≤ 101999 from t30) (show 0 ≤ v25_6.toInt from r31) (show v25_6.toInt ≤ 4249 from t32) (show 0 ≤ v56_7.toInt from r33) (show v56_7.toInt ≤ 16777215 from t34) (show 0 ≤ v56_8.toInt from r35) (show v56_8.toInt ≤ 24 from t36)  hw hT hF hM (lv_sub hl [0, 1, 2, 3, 4, 5, 6, 7, 8] rfl)
          · have c37 : ¬ v56_7.toInt = (0 : Int) := wk_eqF c37
            replace hM := hM.neg c37
            refine lv_iload hx hb dX7_firstOpen_61 (lv_at hl 8 rfl) ?_
            refine lv_bipush (v := 24) hx hb dX7_firstOpen_63 (by decide) ?_
            refine lv_icmp_ge (tgt := 108) hx hb dX7_firstOpen_65 (by decide) (fun c38 => ?_) (fun c38 => ?_)
            · have c38 : (24 : Int) ≤ v56_8.toInt := wk_le.mp c38
              replace hM := hM.pos c38
              exact J108 v56_7 v56_8 H locs ls w24 (show 0 ≤ a1.toInt from r25) (show a1.toInt ≤ 11 from t26) (show (-1) ≤ a3.toInt from r27) (show a3.toInt ≤ 102119 from t28) (show 1991 ≤ a4.toInt from r29) (show a4.toInt ≤ 101999 from t30) (show 0 ≤ v25_6.toInt from r31) (show v25_6.toInt ≤ 4249 from t32) (show 0 ≤ v56_7.toInt from r33) (show v56_7.toInt ≤ 16777215 from t34) (show 0 ≤ v56_8.toInt from r35) (show v56_8.toInt ≤ 24 from t36)  hw hT hF hM (lv_sub hl [0, 1, 2, 3, 4, 5, 6, 7, 8] rfl)
            · have c38 : v56_8.toInt < (24 : Int) := wk_leF c38
              replace hM := hM.neg (Int.not_le.mpr c38)
              refine lv_iload hx hb dX7_firstOpen_68 (lv_at hl 7 rfl) ?_
              refine lv_iload hx hb dX7_firstOpen_70 (lv_at hl 8 rfl) ?_
              refine lv_ishr hx hb dX7_firstOpen_72 ?_
              refine lv_topi (fun x39 ex39 => ?_)
              have ezx39 := ex39
              have bx39 : 0 ≤ x39.toInt ∧ x39.toInt ≤ v56_7.toInt := by rw [ex39]; exact wk_shr (by omega)
              replace hM := hM.lt (o32_e (f := fun x y => x >>> (y &&& 31)) ezx39 rfl rfl)
              refine lv_iconst (v := 1) hx hb dX7_firstOpen_73 (by decide) ?_
              refine lv_iand hx hb dX7_firstOpen_74 ?_
              refine lv_topi (fun x40 ex40 => ?_)
              have ezx40 := ex40
              have bx40 : 0 ≤ x40.toInt ∧ x40.toInt ≤ (1 : Int) := by rw [ex40]; exact wk_and (by decide)
              replace hM := hM.lt (o32_e (f := fun x y => x &&& y) ezx40 rfl (by decide))
              refine lv_if_eq (tgt := 102) hx hb dX7_firstOpen_75 (by decide) (fun c41 => ?_) (fun c41 => ?_)
              · have c41 : x40.toInt = (0 : Int) := wk_eq.mp c41
                replace hM := hM.pos c41
                obtain ⟨x42, ex42⟩ : ∃ y : Int32, y = v56_8 + Int32.ofInt 1 := ⟨_, rfl⟩
                have erx42 := ex42
                refine lv_iinc (v := x42) (lv' := [(8, .int x42), (0, .ref (ad 39)), (1, .int a1), (2, .int 0), (3, .int a3), (4, .int a4), (5, .int (-1)), (6, .int v25_6), (7, .int v56_7)]) hx hb dX7_firstOpen_102 hl (k := 8) rfl ex42.symm (by decide) rfl (fun ls hl => ?_)
                have ex42 : x42.toInt = v56_8.toInt + 1 := by rw [ex42]; exact wk_add (y := 1) (show -2147483648 ≤ v56_8.toInt + 1 by omega) (show v56_8.toInt + 1 ≤ 2147483647 by omega)
                replace hM := hM.lt ex42.symm
                refine lv_goto (tgt := 56) hx hb dX7_firstOpen_105 (by decide) ?_
                exact ih56 v56_7 x42 H locs ls w24 (show 0 ≤ a1.toInt from r25) (show a1.toInt ≤ 11 from t26) (show (-1) ≤ a3.toInt from r27) (show a3.toInt ≤ 102119 from t28) (show 1991 ≤ a4.toInt from r29) (show a4.toInt ≤ 101999 from t30) (show 0 ≤ v25_6.toInt from r31) (show v25_6.toInt ≤ 4249 from t32) (show 0 ≤ v56_7.toInt from r33) (show v56_7.toInt ≤ 16777215 from t34) (show 0 ≤ x42.toInt by first | with_reducible assumption | omega) (show x42.toInt ≤ 24 by first | with_reducible assumption | omega) (show (24 - x42.toInt).toNat < n56 by first | exact tn_lt hm56 (by omega) (by omega) | omega) hw hT hF hM (lv_sub hl [1, 2, 3, 4, 5, 6, 7, 8, 0] rfl)
              · have c41 : ¬ x40.toInt = (0 : Int) := wk_eqF c41
                replace hM := hM.neg c41
                refine lv_iload hx hb dX7_firstOpen_78 (lv_at hl 6 rfl) ?_
                refine lv_bipush (v := 24) hx hb dX7_firstOpen_80 (by decide) ?_
                refine lv_imul hx hb dX7_firstOpen_82 ?_
                refine lv_topi (fun x43 ex43 => ?_)
                have ezx43 := ex43
                have ex43 : x43.toInt = v25_6.toInt * (24 : Int) := by rw [ex43]; exact wk_mul (show (-2147483648) ≤ v25_6.toInt * (24 : Int) by omega) (show v25_6.toInt * (24 : Int) ≤ 2147483647 by omega)
                replace hM := hM.lt ex43.symm
                refine lv_iload hx hb dX7_firstOpen_83 (lv_at hl 8 rfl) ?_
                refine lv_iadd hx hb dX7_firstOpen_85 ?_
                refine lv_topi (fun x44 ex44 => ?_)
                have ezx44 := ex44
                have ex44 : x44.toInt = x43.toInt + v56_8.toInt := by rw [ex44]; exact wk_add (show (-2147483648) ≤ x43.toInt + v56_8.toInt by omega) (show x43.toInt + v56_8.toInt ≤ 2147483647 by omega)
                replace hM := hM.lt ex44.symm
                refine lv_istore (lv' := [(9, .int x44), (0, .ref (ad 39)), (1, .int a1), (2, .int 0), (3, .int a3), (4, .int a4), (5, .int (-1)), (6, .int v25_6), (7, .int v56_7), (8, .int v56_8)]) hx hb dX7_firstOpen_86 hl (by decide) rfl (fun ls hl => ?_)
                refine lv_iload hx hb dX7_firstOpen_88 (lv_at hl 0 rfl) ?_
                refine lv_iload hx hb dX7_firstOpen_90 (lv_at hl 5 rfl) ?_
                refine lv_icmp_gt (tgt := 100) hx hb dX7_firstOpen_92 (by decide) (fun c45 => ?_) (fun c45 => ?_)
                · have c45 : a4.toInt < x44.toInt := wk_lt.mp c45
                  replace hM := hM.pos c45
                  refine lv_iconst (v := (-1)) hx hb dX7_firstOpen_100 (by decide) ?_
                  exact tk_iret hC hr hlocks hK ⟨hT, hF, hM.ret (by decide), (Or.inr rfl)⟩ hw dX7_firstOpen_101
                · have c45 : x44.toInt ≤ a4.toInt := wk_ltF c45
                  replace hM := hM.neg (Int.not_lt.mpr c45)
                  refine lv_iload hx hb dX7_firstOpen_95 (lv_at hl 0 rfl) ?_
                  refine lv_goto (tgt := 101) hx hb dX7_firstOpen_97 (by decide) ?_
                  exact tk_iret hC hr hlocks hK ⟨hT, hF, hM.ret rfl, (Or.inl ⟨(show 0 ≤ x44.toInt by first | with_reducible assumption | omega), (show x44.toInt ≤ 101999 by first | with_reducible assumption | omega)⟩)⟩ hw dX7_firstOpen_101
      replace hM := hM.suc (fun _ => e_X7_firstOpen_25)
      refine lv_iload hx hb dX7_firstOpen_25 (lv_at hl 6 rfl) ?_
      refine lv_bipush (v := 24) hx hb dX7_firstOpen_27 (by decide) ?_
      refine lv_imul hx hb dX7_firstOpen_29 ?_
      refine lv_topi (fun x46 ex46 => ?_)
      have ezx46 := ex46
      have ex46 : x46.toInt = v25_6.toInt * (24 : Int) := by rw [ex46]; exact wk_mul (show (-2147483648) ≤ v25_6.toInt * (24 : Int) by omega) (show v25_6.toInt * (24 : Int) ≤ 2147483647 by omega)
      replace hM := hM.lt ex46.symm
      refine lv_iload hx hb dX7_firstOpen_30 (lv_at hl 4 rfl) ?_
      refine lv_icmp_gt (tgt := 114) hx hb dX7_firstOpen_32 (by decide) (fun c47 => ?_) (fun c47 => ?_)
      · have c47 : a4.toInt < x46.toInt := wk_lt.mp c47
        replace hM := hM.pos c47
        refine lv_iconst (v := (-1)) hx hb dX7_firstOpen_114 (by decide) ?_
        exact tk_iret hC hr hlocks hK ⟨hT, hF, hM.ret (by decide), (Or.inr rfl)⟩ hw dX7_firstOpen_115
      · have c47 : x46.toInt ≤ a4.toInt := wk_ltF c47
        replace hM := hM.neg (Int.not_lt.mpr c47)
        refine lv_aload_n hx hb dX7_firstOpen_35 rfl (lv_at hl 0 rfl) ?_
        refine lv_iload_n hx hb dX7_firstOpen_36 rfl (lv_at hl 1 rfl) ?_
        refine lv_iload_n hx hb dX7_firstOpen_37 rfl (lv_at hl 2 rfl) ?_
        refine lv_iload hx hb dX7_firstOpen_38 (lv_at hl 6 rfl) ?_
        refine lv_i2l hx hb dX7_firstOpen_40 rfl ?_
        refine lv_topl (fun x48 ex48 => ?_)
        have ex48 : x48.toInt = v25_6.toInt := by rw [ex48]; exact wk_i2l _
        have bx48 := wk_i32 v25_6
        replace hM := hM.lt ex48.symm
        refine lv_iconst (v := 1) hx hb dX7_firstOpen_41 (by decide) ?_
        refine tk_Vi hC hK hw hT hA hE hSR kC_at39 (by decide) rfl (kz_X7_openHours_3 l adK adV dC dI cy ad B hB0 (Int.le_trans hB1 (by decide)) qr s1   a1 (show 0 ≤ a1.toInt from r2) (show a1.toInt ≤ 11 from t3) x48 (show 0 ≤ x48.toInt by first | with_reducible assumption | omega) (show x48.toInt ≤ 4249 by first | with_reducible assumption | omega) w1 H.size hT ) (cwV 4 hC.2.2.2.2 uV_RX7_148 rfl rfl rfl (by decide +kernel) ⟨Nat.le_of_ble_eq_true rfl, Nat.le_of_ble_eq_true rfl⟩) rfl hl.1 rfl (Nat.le_of_ble_eq_true rfl) dX7_firstOpen_42 (fun r49 w51 H locs hp50 hw => ?_)
        obtain ⟨hT, k52, hv56, hg55⟩ := hp50
        have hF := hF.tr k52 (by decide)
        obtain ⟨g53, g54⟩ := hg55
        replace hM := hM.call hv56 rfl
        refine lv_iload hx hb dX7_firstOpen_45 (lv_at hl 5 rfl) ?_
        refine lv_iand hx hb dX7_firstOpen_47 ?_
        refine lv_topi (fun x57 ex57 => ?_)
        have ezx57 := ex57
        have bx57 : 0 ≤ x57.toInt ∧ x57.toInt ≤ r49.toInt := by rw [ex57]; exact wk_andC (by omega)
        replace hM := hM.lt (o32_e (f := fun x y => x &&& y) ezx57 rfl rfl)
        refine lv_istore (lv' := [(7, .int x57), (0, .ref (ad 39)), (1, .int a1), (2, .int 0), (3, .int a3), (4, .int a4), (5, .int v25_5), (6, .int v25_6)]) hx hb dX7_firstOpen_48 hl (by decide) rfl (fun ls hl => ?_)
        refine lv_iconst (v := (-1)) hx hb dX7_firstOpen_50 (by decide) ?_
        refine lv_istore (lv' := [(5, .int (-1)), (7, .int x57), (0, .ref (ad 39)), (1, .int a1), (2, .int 0), (3, .int a3), (4, .int a4), (6, .int v25_6)]) hx hb dX7_firstOpen_51 hl (by decide) rfl (fun ls hl => ?_)
        refine lv_iconst (v := 0) hx hb dX7_firstOpen_53 (by decide) ?_
        refine lv_istore (lv' := [(8, .int 0), (5, .int (-1)), (7, .int x57), (0, .ref (ad 39)), (1, .int a1), (2, .int 0), (3, .int a3), (4, .int a4), (6, .int v25_6)]) hx hb dX7_firstOpen_54 hl (by decide) rfl (fun ls hl => ?_)
        exact L56 ((24 - (0 : Int)).toNat + 1) x57 0 H locs ls w51 (show 0 ≤ a1.toInt from r2) (show a1.toInt ≤ 11 from t3) (show (-1) ≤ a3.toInt from r4) (show a3.toInt ≤ 102119 from t5) (show 1991 ≤ a4.toInt from r6) (show a4.toInt ≤ 101999 from t7) (show 0 ≤ v25_6.toInt from r8) (show v25_6.toInt ≤ 4249 by first | with_reducible assumption | omega) (show 0 ≤ x57.toInt by first | with_reducible assumption | omega) (show x57.toInt ≤ 16777215 by first | with_reducible assumption | omega) (by decide) (by decide) (Nat.lt_succ_self _) hw hT hF hM (lv_sub hl [3, 4, 5, 6, 7, 1, 8, 2, 0] rfl)
  have hM : TT (fun n => m_X7_firstOpen n 39 a1.toInt 0 a3.toInt a4.toInt (sI w0)) (fun n => m_X7_firstOpen n 39 a1.toInt 0 a3.toInt a4.toInt (sI w0)) := TT.rf
  refine lv_aload_n hx hb dX7_firstOpen_0 rfl (lv_at hl 0 rfl) ?_
  refine lv_iload_n hx hb dX7_firstOpen_1 rfl (lv_at hl 1 rfl) ?_
  refine lv_iload_n hx hb dX7_firstOpen_2 rfl (lv_at hl 2 rfl) ?_
  refine tk_Vi hC hK hw hT hA hE hSR kC_at39 (by decide) rfl (kz_X7_isNeverOpen_3 l adK adV dC dI cy ad B hB0 (Int.le_trans hB1 (by decide)) qr s1   a1 (show 0 ≤ a1.toInt from ra1) (show a1.toInt ≤ 11 from ta1) w0 s.heap.size hT ) (cwV 2 hC.2.2.2.2 uV_RX7_152 rfl rfl rfl (by decide +kernel) ⟨Nat.le_of_ble_eq_true rfl, Nat.le_of_ble_eq_true rfl⟩) rfl hl.1 rfl (Nat.le_of_ble_eq_true rfl) dX7_firstOpen_3 (fun r58 w60 H locs hp59 hw => ?_)
  obtain ⟨hT, k61, hv63, hg62⟩ := hp59
  have hF := hF.tr k61 (by decide)
  rcases hg62 with rfl | rfl
  · replace hM := hM.call (r' := 0) hv63 (by decide)
    refine lv_if_eq (tgt := 11) hx hb dX7_firstOpen_6 (by decide) (fun _ => ?_) (fun c => absurd (by decide) c)
    replace hM := hM.pos (by decide)
    refine lv_iconst (v := (-1)) hx hb dX7_firstOpen_11 (by decide) ?_
    refine lv_iload_n hx hb dX7_firstOpen_12 rfl (lv_at hl 3 rfl) ?_
    refine lv_bipush (v := 24) hx hb dX7_firstOpen_13 (by decide) ?_
    refine lv_irem hx hb dX7_firstOpen_15 (by decide) ?_
    refine lv_topi (fun x64 ex64 => ?_)
    have ezx64 := ex64
    replace hM := hM.lt (o32_e (f := fun x y => x - x / y * y) ezx64 rfl (by decide))
    refine lv_ishl hx hb dX7_firstOpen_16 ?_
    refine lv_topi (fun x65 ex65 => ?_)
    have ezx65 := ex65
    replace hM := hM.lt (o32_e (f := fun x y => x <<< (y &&& 31)) ezx65 (by decide) rfl)
    refine lv_istore (lv' := [(5, .int x65), (0, .ref (ad 39)), (1, .int a1), (2, .int 0), (3, .int a3), (4, .int a4)]) hx hb dX7_firstOpen_17 hl (by decide) rfl (fun ls hl => ?_)
    refine lv_iload_n hx hb dX7_firstOpen_19 rfl (lv_at hl 4 rfl) ?_
    refine lv_bipush (v := 24) hx hb dX7_firstOpen_20 (by decide) ?_
    refine lv_idiv hx hb dX7_firstOpen_22 (by decide) ?_
    refine lv_topi (fun x66 ex66 => ?_)
    have ezx66 := ex66
    have bx66 : -(1 / (24 : Int)) ≤ x66.toInt ∧ x66.toInt ≤ 102119 / (24 : Int) := by rw [ex66]; exact wk_divB (m := 1) (n := 102119) (show 0 < (24 : Int) by decide) (by decide) (by decide) (by omega) (by omega)
    replace hM := hM.lt (o32_e (f := fun x y => x / y) ezx66 rfl (by decide))
    refine lv_istore (lv' := [(6, .int x66), (5, .int x65), (0, .ref (ad 39)), (1, .int a1), (2, .int 0), (3, .int a3), (4, .int a4)]) hx hb dX7_firstOpen_23 hl (by decide) rfl (fun ls hl => ?_)
    exact L25 ((4254 - x66.toInt).toNat + 1) x65 x66 H locs ls w60 (show 0 ≤ a1.toInt from ra1) (show a1.toInt ≤ 11 from ta1) (show (-1) ≤ a3.toInt from ra3) (show a3.toInt ≤ 102119 from ta3) (show 1991 ≤ a4.toInt from ra4) (show a4.toInt ≤ 101999 from ta4) (show 0 ≤ x66.toInt by first | with_reducible assumption | omega) (show x66.toInt ≤ 4254 by first | with_reducible assumption | omega) (Nat.lt_succ_self _) hw hT hF hM (lv_sub hl [2, 3, 4, 5, 6, 1, 0] rfl)
  · replace hM := hM.call (r' := 1) hv63 (by decide)
    refine lv_if_eq (tgt := 11) hx hb dX7_firstOpen_6 (by decide) (fun c => absurd c (by decide)) (fun _ => ?_)
    replace hM := hM.neg (by decide)
    refine lv_iconst (v := (-1)) hx hb dX7_firstOpen_9 (by decide) ?_
    exact tk_iret hC hr hlocks hK ⟨hT, hF, hM.ret (by decide), (Or.inr rfl)⟩ hw dX7_firstOpen_10
abbrev Pz_X7_cornerAcross_4 (ad : Nat → Nat) (cy : Nat → ClassId) (B : Int) (qr : Nat) (s1 : Int) (a1 : Int32) (w0 : va_W) : Int32 → va_W → Prop := fun r u => TW ksC ad cy B qr s1 u ∧ FE ksC ([] : List (Nat × Nat × Nat)) w0 u ∧ Ev (fun n => m_X7_cornerAcross n 39 a1.toInt 1 (sI w0)) (r.toInt, sI u) ∧ ((0 ≤ r.toInt ∧ r.toInt ≤ 9))
set_option maxHeartbeats 4000000 in
set_option maxRecDepth 100000 in
theorem kz_X7_cornerAcross_4 (l : Launch) (adK adV : Nat → Nat) (dC : Nat → ClassId) (dI : Nat → Nat → Nat) (cy : Nat → ClassId) (ad : Nat → Nat) (B : Int) (hB0 : 2147483648 ≤ B) (hB1 : B ≤ 1152921504606846976) (qr : Nat) (s1 : Int)  (a1 : Int32) (ra1 : 0 ≤ a1.toInt) (ta1 : a1.toInt ≤ 11) (w0 : va_W) (sz : Nat) (hT : TW ksC ad cy B qr s1 w0)  : Met l yX7_cornerAcross (wu yX7_cornerAcross cX7_cornerAcross 3 (some .int)) ({ frames := 1, cells := 0, slots := 0, locals := 12 }) (va_Pc [.ref (ad 39), .int a1, .int 1] (wpreS adK adV dC dI cy sz w0)) (va_Qi (Pz_X7_cornerAcross_4 ad cy B qr s1 a1 w0) (fun u : va_W => wpost dC dI cy (va_A w0 sz) u) (va_A w0 sz)) 0 0 (va_A w0 sz) := by
  refine Met.ofW (cc := cX7_cornerAcross) (maxL := 3) (ret := (some .int)) (by decide) rfl ?_
  intro p e s m args below meth c s₁ Bk hml hv
  obtain ⟨rfl, ⟨hsz, hP, hK, hD0⟩, hE, hSR⟩ := hv
  have hx := Bk.exec
  have hb := Bk.bytes
  have hr := Bk.returns
  have hlocks := Bk.notSynchronized
  have hC : CallFix p m c cX7_cornerAcross 3 s _ (wu yX7_cornerAcross cX7_cornerAcross 3 (some .int)) RX7 := ⟨hx, hb, hml, findClass_of_methodNamed Bk.named, atoms_spec (ws := (wu yX7_cornerAcross cX7_cornerAcross 3 (some .int))) Bk.pre⟩
  subst hsz
  have hD := hD0.self (sz := s.heap.size)
  generalize hAe : va_A w0 s.heap.size = A at hD hE ⊢
  have hA : ∀ q : Nat, s.heap.size ≤ q → A q := fun q h => by rw [← hAe]; exact Or.inr h
  have hw : Wd dC dI A s.heap s.heap [] w0 := ⟨hP, hD, va_S.rf⟩
  have hF : FE ksC ([] : List (Nat × Nat × Nat)) w0 w0 := FE.rf
  have hl := lv_entry ([.ref (ad 39), .int a1, .int 1]) (n := 3) (Nat.le_of_ble_eq_true rfl)
  rw [lg_entry_eq]
  generalize (lg_sl ([.ref (ad 39), .int a1, .int 1]) ++ List.replicate (3 - (lg_sl ([.ref (ad 39), .int a1, .int 1])).length) Slot.unset).toArray = ls at hl ⊢
  have hl : lv_has ls 3 [(0, .ref (ad 39)), (1, .int a1), (2, .int 1)] := hl
  generalize hloc : ([] : List Loc) = locs at hw ⊢
  have hinX7 : ∀ w ∈ u_ws RX7 TX7 12, w ∈ (wu yX7_cornerAcross cX7_cornerAcross 3 (some .int)) := fun _ h => List.mem_cons_of_mem _ (up_73 h)
  have hM : TT (fun n => m_X7_cornerAcross n 39 a1.toInt 1 (sI w0)) (fun n => m_X7_cornerAcross n 39 a1.toInt 1 (sI w0)) := TT.rf
  refine lv_aload_n hx hb dX7_cornerAcross_0 rfl (lv_at hl 0 rfl) ?_
  refine tk_getO hC hK hw hT hinX7 kC_at39 (by decide) rfl 0 (by decide) (List.mem_cons_of_mem _ uw_2_17) rfl rfl dX7_cornerAcross_1 ?_
  refine lv_iconst (v := 2) hx hb dX7_cornerAcross_4 (by decide) ?_
  refine lv_iload_n hx hb dX7_cornerAcross_5 rfl (lv_at hl 1 rfl) ?_
  refine lv_imul hx hb dX7_cornerAcross_6 ?_
  refine lv_topi (fun x1 ex1 => ?_)
  have ezx1 := ex1
  have ex1 : x1.toInt = (2 : Int) * a1.toInt := by rw [ex1]; exact wk_mul (show (-2147483648) ≤ (2 : Int) * a1.toInt by omega) (show (2 : Int) * a1.toInt ≤ 2147483647 by omega)
  replace hM := hM.lt ex1.symm
  refine lv_iconst (v := 1) hx hb dX7_cornerAcross_7 (by decide) ?_
  refine lv_iadd hx hb dX7_cornerAcross_8 ?_
  refine lv_topi (fun x2 ex2 => ?_)
  have ezx2 := ex2
  have ex2 : x2.toInt = x1.toInt + (1 : Int) := by rw [ex2]; exact wk_add (show (-2147483648) ≤ x1.toInt + (1 : Int) by omega) (show x1.toInt + (1 : Int) ≤ 2147483647 by omega)
  replace hM := hM.lt ex2.symm
  refine lv_iload_n hx hb dX7_cornerAcross_9 rfl (lv_at hl 2 rfl) ?_
  refine lv_isub hx hb dX7_cornerAcross_10 ?_
  refine lv_topi (fun x3 ex3 => ?_)
  have ezx3 := ex3
  have ex3 : x3.toInt = x2.toInt - (1 : Int) := by rw [ex3]; exact wk_sub (show (-2147483648) ≤ x2.toInt - (1 : Int) by omega) (show x2.toInt - (1 : Int) ≤ 2147483647 by omega)
  replace hM := hM.lt ex3.symm
  refine tk_iald hC hK hw hT kC_at40 rfl rfl (show 0 ≤ x3.toInt by first | with_reducible assumption | omega) (show x3.toInt < 26 by first | with_reducible assumption | omega) dX7_cornerAcross_11 (fun x4 c5 rx4 tx4 => ?_)
  have hox4 := c5
  replace hM := hM.rd (sI_at hox4)
  have c5 : gi w0 40 (2 * a1.toInt + 0).toNat = x4 := (congrArg (gi w0 40) (congrArg Int.toNat (show 2 * a1.toInt + 0 = x3.toInt by first | exact Int.le_antisymm (by omega) (by omega) | omega))).trans c5
  exact tk_iret hC hr hlocks hK ⟨hT, hF, hM.ret rfl, ⟨(show 0 ≤ x4.toInt from rx4), (show x4.toInt ≤ 9 from tx4)⟩⟩ hw dX7_cornerAcross_12
abbrev Pz_X7_openHours_4 (ad : Nat → Nat) (cy : Nat → ClassId) (B : Int) (qr : Nat) (s1 : Int) (a1 : Int32) (a3 : Int64) (w0 : va_W) : Int32 → va_W → Prop := fun r u => TW ksC ad cy B qr s1 u ∧ FE ksC ([] : List (Nat × Nat × Nat)) w0 u ∧ Ev (fun n => m_X7_openHours n 39 a1.toInt 1 a3.toInt 1 (sI w0)) (r.toInt, sI u) ∧ ((0 ≤ r.toInt ∧ r.toInt ≤ 16777215))
set_option maxHeartbeats 4000000 in
set_option maxRecDepth 100000 in
theorem kz_X7_openHours_4 (l : Launch) (adK adV : Nat → Nat) (dC : Nat → ClassId) (dI : Nat → Nat → Nat) (cy : Nat → ClassId) (ad : Nat → Nat) (B : Int) (hB0 : 2147483648 ≤ B) (hB1 : B ≤ 1152921504606846976) (qr : Nat) (s1 : Int)  (a1 : Int32) (ra1 : 0 ≤ a1.toInt) (ta1 : a1.toInt ≤ 11) (a3 : Int64) (ra3 : 0 ≤ a3.toInt) (ta3 : a3.toInt ≤ 4249) (w0 : va_W) (sz : Nat) (hT : TW ksC ad cy B qr s1 w0)  : Met l yX7_openHours (wu yX7_openHours cX7_openHours 8 (some .int)) ({ frames := 1, cells := 0, slots := 0, locals := 12 }) (va_Pc [.ref (ad 39), .int a1, .int 1, .long a3, .int 1] (wpreS adK adV dC dI cy sz w0)) (va_Qi (Pz_X7_openHours_4 ad cy B qr s1 a1 a3 w0) (fun u : va_W => wpost dC dI cy (va_A w0 sz) u) (va_A w0 sz)) 0 0 (va_A w0 sz) := by
  refine Met.ofW (cc := cX7_openHours) (maxL := 8) (ret := (some .int)) (by decide) rfl ?_
  intro p e s m args below meth c s₁ Bk hml hv
  obtain ⟨rfl, ⟨hsz, hP, hK, hD0⟩, hE, hSR⟩ := hv
  have hx := Bk.exec
  have hb := Bk.bytes
  have hr := Bk.returns
  have hlocks := Bk.notSynchronized
  have hC : CallFix p m c cX7_openHours 8 s _ (wu yX7_openHours cX7_openHours 8 (some .int)) RX7 := ⟨hx, hb, hml, findClass_of_methodNamed Bk.named, atoms_spec (ws := (wu yX7_openHours cX7_openHours 8 (some .int))) Bk.pre⟩
  subst hsz
  have hD := hD0.self (sz := s.heap.size)
  generalize hAe : va_A w0 s.heap.size = A at hD hE ⊢
  have hA : ∀ q : Nat, s.heap.size ≤ q → A q := fun q h => by rw [← hAe]; exact Or.inr h
  have hw : Wd dC dI A s.heap s.heap [] w0 := ⟨hP, hD, va_S.rf⟩
  have hF : FE ksC ([] : List (Nat × Nat × Nat)) w0 w0 := FE.rf
  have hl := lv_entry ([.ref (ad 39), .int a1, .int 1, .long a3, .int 1]) (n := 8) (Nat.le_of_ble_eq_true rfl)
  rw [lg_entry_eq]
  generalize (lg_sl ([.ref (ad 39), .int a1, .int 1, .long a3, .int 1]) ++ List.replicate (8 - (lg_sl ([.ref (ad 39), .int a1, .int 1, .long a3, .int 1])).length) Slot.unset).toArray = ls at hl ⊢
  have hl : lv_has ls 8 [(0, .ref (ad 39)), (1, .int a1), (2, .int 1), (3, .long a3), (5, .int 1)] := hl
  generalize hloc : ([] : List Loc) = locs at hw ⊢
  have hinX7 : ∀ w ∈ u_ws RX7 TX7 12, w ∈ (wu yX7_openHours cX7_openHours 8 (some .int)) := fun _ h => List.mem_cons_of_mem _ (up_73 h)
  have J93 : ∀ (v93_6 : Int32) (v93_7 : Int32) (H : Heap) (locs : List Loc) (ls : Array Slot) (w1 : va_W), 0 ≤ a1.toInt → a1.toInt ≤ 11 → 0 ≤ a3.toInt → a3.toInt ≤ 4249 → 0 ≤ v93_7.toInt → v93_7.toInt ≤ 8 → Wd dC dI A s.heap H locs w1 → TW ksC ad cy B qr s1 w1 → FE ksC ([] : List (Nat × Nat × Nat)) w0 w1 → TT (fun n => m_X7_openHours n 39 a1.toInt 1 a3.toInt 1 (sI w0)) (fun n => b_X7_openHours_93 (j_X7_openHours 39 n) n 39 (a1.toInt) (sI w1)) → lv_has ls 8 [(0, .ref (ad 39)), (1, .int a1), (2, .int 1), (3, .long a3), (5, .int 1), (6, .int v93_6), (7, .int v93_7)] → W p l e ({ frames := 1, cells := 0, slots := 0, locals := 12 }) s m (List.toArray [.ref (ad 39), .int a1, .int 1, .long a3, .int 1]) below meth c H locs 0 0 (MQ below (va_Qi (Pz_X7_openHours_4 ad cy B qr s1 a1 a3 w0) (fun u : va_W => wpost dC dI cy A u) A) (List.toArray [.ref (ad 39), .int a1, .int 1, .long a3, .int 1]) s 0 0 A) (F0 m 93 ls []) := by
    intro v93_6 v93_7 H locs ls w1 r2 t3 r4 t5 r6 t7 hw hT hF hM hl
    refine lv_ldc (v := 16777215) hx hb hC.2.2.2.1 (hC.2.2.2.2 _ (List.mem_cons_of_mem _ uw_31_17)) dX7_openHours_93 ?_
    refine lv_aload_n hx hb dX7_openHours_95 rfl (lv_at hl 0 rfl) ?_
    refine tk_getO hC hK hw hT hinX7 kC_at39 (by decide) rfl 3 (by decide) (List.mem_cons_of_mem _ uw_2_20) rfl rfl dX7_openHours_96 ?_
    refine lv_iload_n hx hb dX7_openHours_99 rfl (lv_at hl 1 rfl) ?_
    refine tk_iald hC hK hw hT kC_at43 rfl rfl (show 0 ≤ a1.toInt from r2) (show a1.toInt < 13 from Int.lt_of_le_of_lt t3 (by decide)) dX7_openHours_100 (fun x8 c9 rx8 tx8 => ?_)
    have hox8 := c9
    replace hM := hM.rd (sI_at hox8)
    refine lv_iconst (v := (-1)) hx hb dX7_openHours_101 (by decide) ?_
    refine lv_ixor hx hb dX7_openHours_102 ?_
    refine lv_topi (fun x10 ex10 => ?_)
    have ezx10 := ex10
    replace hM := hM.lt (o32_e (f := fun x y => x ^^^ y) ezx10 rfl (by decide))
    refine lv_iand hx hb dX7_openHours_103 ?_
    refine lv_topi (fun x11 ex11 => ?_)
    have ezx11 := ex11
    have bx11 : 0 ≤ x11.toInt ∧ x11.toInt ≤ (16777215 : Int) := by rw [ex11]; exact wk_andC (by decide)
    replace hM := hM.lt (o32_e (f := fun x y => x &&& y) ezx11 (by decide) rfl)
    exact tk_iret hC hr hlocks hK ⟨hT, hF, hM.ret rfl, ⟨(show 0 ≤ x11.toInt by first | with_reducible assumption | omega), (show x11.toInt ≤ 16777215 by first | with_reducible assumption | omega)⟩⟩ hw dX7_openHours_104
  have L44 : ∀ (n44 : Nat) (v44_6 : Int32) (v44_7 : Int32) (H : Heap) (locs : List Loc) (ls : Array Slot) (w12 : va_W), 0 ≤ a1.toInt → a1.toInt ≤ 11 → 0 ≤ a3.toInt → a3.toInt ≤ 4249 → 0 ≤ v44_7.toInt → v44_7.toInt ≤ 8 → (8 - v44_7.toInt).toNat < n44 → Wd dC dI A s.heap H locs w12 → TW ksC ad cy B qr s1 w12 → FE ksC ([] : List (Nat × Nat × Nat)) w0 w12 → TT (fun n => m_X7_openHours n 39 a1.toInt 1 a3.toInt 1 (sI w0)) (fun n => j_X7_openHours 39 n 44 [a1.toInt, a3.toInt, v44_6.toInt, v44_7.toInt] (sI w12)) → lv_has ls 8 [(0, .ref (ad 39)), (1, .int a1), (2, .int 1), (3, .long a3), (5, .int 1), (6, .int v44_6), (7, .int v44_7)] → W p l e ({ frames := 1, cells := 0, slots := 0, locals := 12 }) s m (List.toArray [.ref (ad 39), .int a1, .int 1, .long a3, .int 1]) below meth c H locs 0 0 (MQ below (va_Qi (Pz_X7_openHours_4 ad cy B qr s1 a1 a3 w0) (fun u : va_W => wpost dC dI cy A u) A) (List.toArray [.ref (ad 39), .int a1, .int 1, .long a3, .int 1]) s 0 0 A) (F0 m 44 ls []) := by
    intro n44
    induction n44 with
    | zero => intro v44_6 v44_7 H locs ls w12 r13 t14 r15 t16 r17 t18 hm44 hw hT hF hM hl; omega
    | succ n44 ih44 =>
      intro v44_6 v44_7 H locs ls w12 r13 t14 r15 t16 r17 t18 hm44 hw hT hF hM hl
      have J81 : ∀ (H : Heap) (locs : List Loc) (ls : Array Slot) (w19 : va_W), 0 ≤ a1.toInt → a1.toInt ≤ 11 → 0 ≤ a3.toInt → a3.toInt ≤ 4249 → 0 ≤ v44_7.toInt → v44_7.toInt ≤ 7 → Wd dC dI A s.heap H locs w19 → TW ksC ad cy B qr s1 w19 → FE ksC ([] : List (Nat × Nat × Nat)) w0 w19 → TT (fun n => m_X7_openHours n 39 a1.toInt 1 a3.toInt 1 (sI w0)) (fun n => b_X7_openHours_81 (j_X7_openHours 39 n) n 39 (a1.toInt) (a3.toInt) (v44_6.toInt) (v44_7.toInt) (sI w19)) → lv_has ls 8 [(0, .ref (ad 39)), (1, .int a1), (2, .int 1), (3, .long a3), (5, .int 1), (6, .int v44_6), (7, .int v44_7)] → W p l e ({ frames := 1, cells := 0, slots := 0, locals := 12 }) s m (List.toArray [.ref (ad 39), .int a1, .int 1, .long a3, .int 1]) below meth c H locs 0 0 (MQ below (va_Qi (Pz_X7_openHours_4 ad cy B qr s1 a1 a3 w0) (fun u : va_W => wpost dC dI cy A u) A) (List.toArray [.ref (ad 39), .int a1, .int 1, .long a3, .int 1]) s 0 0 A) (F0 m 81 ls []) := by
        intro H locs ls w19 r20 t21 r22 t23 r24 t25 hw hT hF hM hl
        refine lv_iload hx hb dX7_openHours_81 (lv_at hl 5 rfl) ?_
        refine lv_iconst (v := 1) hx hb dX7_openHours_83 (by decide) ?_
        refine lv_ishr hx hb dX7_openHours_84 ?_
        refine lv_topi (fun x26 ex26 => ?_)
        have ezx26 := ex26
        replace hM := hM.lt (o32_e (f := fun x y => x >>> (y &&& 31)) ezx26 rfl (by decide))
        refine lv_istore (lv' := [(6, .int x26), (0, .ref (ad 39)), (1, .int a1), (2, .int 1), (3, .long a3), (5, .int 1), (7, .int v44_7)]) hx hb dX7_openHours_85 hl (by decide) rfl (fun ls hl => ?_)
        obtain ⟨x27, ex27⟩ : ∃ y : Int32, y = v44_7 + Int32.ofInt 1 := ⟨_, rfl⟩
        have erx27 := ex27
        refine lv_iinc (v := x27) (lv' := [(7, .int x27), (6, .int x26), (0, .ref (ad 39)), (1, .int a1), (2, .int 1), (3, .long a3), (5, .int 1)]) hx hb dX7_openHours_87 hl (k := 6) rfl ex27.symm (by decide) rfl (fun ls hl => ?_)
        have ex27 : x27.toInt = v44_7.toInt + 1 := by rw [ex27]; exact wk_add (y := 1) (show -2147483648 ≤ v44_7.toInt + 1 by omega) (show v44_7.toInt + 1 ≤ 2147483647 by omega)
        replace hM := hM.lt ex27.symm
        refine lv_goto (tgt := 44) hx hb dX7_openHours_90 (by decide) ?_
        exact ih44 x26 x27 H locs ls w19 (show 0 ≤ a1.toInt from r20) (show a1.toInt ≤ 11 from t21) (show 0 ≤ a3.toInt from r22) (show a3.toInt ≤ 4249 from t23) (show 0 ≤ x27.toInt by first | with_reducible assumption | omega) (show x27.toInt ≤ 8 by first | with_reducible assumption | omega) (show (8 - x27.toInt).toNat < n44 by first | exact tn_lt hm44 (by omega) (by omega) | omega) hw hT hF hM (lv_sub hl [2, 3, 4, 5, 6, 1, 0] rfl)
      replace hM := hM.suc (fun _ => e_X7_openHours_44)
      refine lv_iload hx hb dX7_openHours_44 (lv_at hl 5 rfl) ?_
      refine lv_if_eq (tgt := 93) hx hb dX7_openHours_46 (by decide) (fun c28 => ?_) (fun c28 => ?_)
      · have c28 : v44_6.toInt = (0 : Int) := wk_eq.mp c28
        replace hM := hM.pos c28
        exact J93 v44_6 v44_7 H locs ls w12 (show 0 ≤ a1.toInt from r13) (show a1.toInt ≤ 11 from t14) (show 0 ≤ a3.toInt from r15) (show a3.toInt ≤ 4249 from t16) (show 0 ≤ v44_7.toInt from r17) (show v44_7.toInt ≤ 8 from t18)  hw hT hF hM (lv_sub hl [0, 1, 2, 3, 4, 5, 6] rfl)
      · have c28 : ¬ v44_6.toInt = (0 : Int) := wk_eqF c28
        replace hM := hM.neg c28
        refine lv_iload hx hb dX7_openHours_49 (lv_at hl 6 rfl) ?_
        refine lv_bipush (v := 8) hx hb dX7_openHours_51 (by decide) ?_
        refine lv_icmp_ge (tgt := 93) hx hb dX7_openHours_53 (by decide) (fun c29 => ?_) (fun c29 => ?_)
        · have c29 : (8 : Int) ≤ v44_7.toInt := wk_le.mp c29
          replace hM := hM.pos c29
          exact J93 v44_6 v44_7 H locs ls w12 (show 0 ≤ a1.toInt from r13) (show a1.toInt ≤ 11 from t14) (show 0 ≤ a3.toInt from r15) (show a3.toInt ≤ 4249 from t16) (show 0 ≤ v44_7.toInt from r17) (show v44_7.toInt ≤ 8 from t18)  hw hT hF hM (lv_sub hl [0, 1, 2, 3, 4, 5, 6] rfl)
        · have c29 : v44_7.toInt < (8 : Int) := wk_leF c29
          replace hM := hM.neg (Int.not_le.mpr c29)
          refine lv_iload hx hb dX7_openHours_56 (lv_at hl 5 rfl) ?_
          refine lv_iconst (v := 1) hx hb dX7_openHours_58 (by decide) ?_
          refine lv_iand hx hb dX7_openHours_59 ?_
          refine lv_topi (fun x30 ex30 => ?_)
          have ezx30 := ex30
          have bx30 : 0 ≤ x30.toInt ∧ x30.toInt ≤ (1 : Int) := by rw [ex30]; exact wk_and (by decide)
          replace hM := hM.lt (o32_e (f := fun x y => x &&& y) ezx30 rfl (by decide))
          refine lv_if_eq (tgt := 81) hx hb dX7_openHours_60 (by decide) (fun c31 => ?_) (fun c31 => ?_)
          · have c31 : x30.toInt = (0 : Int) := wk_eq.mp c31
            replace hM := hM.pos c31
            exact J81  H locs ls w12 (show 0 ≤ a1.toInt from r13) (show a1.toInt ≤ 11 from t14) (show 0 ≤ a3.toInt from r15) (show a3.toInt ≤ 4249 from t16) (show 0 ≤ v44_7.toInt from r17) (show v44_7.toInt ≤ 7 by first | with_reducible assumption | omega)  hw hT hF hM (lv_sub hl [0, 1, 2, 3, 4, 5, 6] rfl)
          · have c31 : ¬ x30.toInt = (0 : Int) := wk_eqF c31
            replace hM := hM.neg c31
            refine lv_aload_n hx hb dX7_openHours_63 rfl (lv_at hl 0 rfl) ?_
            refine tk_getO hC hK hw hT hinX7 kC_at39 (by decide) rfl 6 (by decide) (List.mem_cons_of_mem _ uw_2_23) rfl rfl dX7_openHours_64 ?_
            refine lv_iload hx hb dX7_openHours_67 (lv_at hl 6 rfl) ?_
            refine tk_iald hC hK hw hT kC_at46 rfl rfl (show 0 ≤ v44_7.toInt from r17) (show v44_7.toInt < 8 by first | with_reducible assumption | omega) dX7_openHours_69 (fun x32 c33 rx32 tx32 => ?_)
            have hox32 := c33
            replace hM := hM.rd (sI_at hox32)
            refine lv_lload_n hx hb dX7_openHours_70 rfl (lv_at hl 3 rfl) ?_
            refine lv_ldc2 (v := 360) hx hb hC.2.2.2.1 (hC.2.2.2.2 _ (List.mem_cons_of_mem _ uw_31_16)) dX7_openHours_71 ?_
            refine lv_lrem hx hb dX7_openHours_74 (by decide) ?_
            refine lv_topl (fun x34 ex34 => ?_)
            have ezx34 := ex34
            have ex34 : x34.toInt = a3.toInt % (360 : Int) := by rw [ex34]; exact wk_reml (show 0 ≤ a3.toInt from r15) (show 0 < (360 : Int) by decide)
            replace hM := hM.lt ex34.symm
            refine lv_l2i hx hb dX7_openHours_75 rfl ?_
            refine lv_topi (fun x35 ex35 => ?_)
            have ex35 : x35.toInt = x34.toInt := by rw [ex35]; exact wk_l2i (by omega) (by omega)
            replace hM := hM.lt ex35.symm
            refine lv_icmp_ne (tgt := 81) hx hb dX7_openHours_76 (by decide) (fun c36 => ?_) (fun c36 => ?_)
            · have c36 : ¬ x32.toInt = x35.toInt := wk_eqF c36
              replace hM := hM.pos c36
              exact J81  H locs ls w12 (show 0 ≤ a1.toInt from r13) (show a1.toInt ≤ 11 from t14) (show 0 ≤ a3.toInt from r15) (show a3.toInt ≤ 4249 from t16) (show 0 ≤ v44_7.toInt from r17) (show v44_7.toInt ≤ 7 by first | with_reducible assumption | omega)  hw hT hF hM (lv_sub hl [0, 1, 2, 3, 4, 5, 6] rfl)
            · have c36 : x32.toInt = x35.toInt := wk_eq.mp c36
              replace hM := hM.neg (fun q => q c36)
              refine lv_iconst (v := 0) hx hb dX7_openHours_79 (by decide) ?_
              exact tk_iret hC hr hlocks hK ⟨hT, hF, hM.ret (by decide), ⟨(by decide), (by decide)⟩⟩ hw dX7_openHours_80
  have hM : TT (fun n => m_X7_openHours n 39 a1.toInt 1 a3.toInt 1 (sI w0)) (fun n => m_X7_openHours n 39 a1.toInt 1 a3.toInt 1 (sI w0)) := TT.rf
  refine lv_aload_n hx hb dX7_openHours_0 rfl (lv_at hl 0 rfl) ?_
  refine tk_getO hC hK hw hT hinX7 kC_at39 (by decide) rfl 4 (by decide) (List.mem_cons_of_mem _ uw_2_21) rfl rfl dX7_openHours_1 ?_
  refine lv_iconst (v := 2) hx hb dX7_openHours_4 (by decide) ?_
  refine lv_iload_n hx hb dX7_openHours_5 rfl (lv_at hl 1 rfl) ?_
  refine lv_imul hx hb dX7_openHours_6 ?_
  refine lv_topi (fun x37 ex37 => ?_)
  have ezx37 := ex37
  have ex37 : x37.toInt = (2 : Int) * a1.toInt := by rw [ex37]; exact wk_mul (show (-2147483648) ≤ (2 : Int) * a1.toInt by omega) (show (2 : Int) * a1.toInt ≤ 2147483647 by omega)
  replace hM := hM.lt ex37.symm
  refine lv_iload_n hx hb dX7_openHours_7 rfl (lv_at hl 2 rfl) ?_
  refine lv_iadd hx hb dX7_openHours_8 ?_
  refine lv_topi (fun x38 ex38 => ?_)
  have ezx38 := ex38
  have ex38 : x38.toInt = x37.toInt + (1 : Int) := by rw [ex38]; exact wk_add (show (-2147483648) ≤ x37.toInt + (1 : Int) by omega) (show x37.toInt + (1 : Int) ≤ 2147483647 by omega)
  replace hM := hM.lt ex38.symm
  refine tk_iald hC hK hw hT kC_at44 rfl rfl (show 0 ≤ x38.toInt by first | with_reducible assumption | omega) (show x38.toInt < 26 by first | with_reducible assumption | omega) dX7_openHours_9 (fun x39 c40 rx39 tx39 => ?_)
  have hox39 := c40
  replace hM := hM.rd (sI_at hox39)
  refine lv_lload_n hx hb dX7_openHours_10 rfl (lv_at hl 3 rfl) ?_
  refine lv_ldc2 (v := 7) hx hb hC.2.2.2.1 (hC.2.2.2.2 _ (List.mem_cons_of_mem _ uw_31_15)) dX7_openHours_11 ?_
  refine lv_lrem hx hb dX7_openHours_14 (by decide) ?_
  refine lv_topl (fun x41 ex41 => ?_)
  have ezx41 := ex41
  have ex41 : x41.toInt = a3.toInt % (7 : Int) := by rw [ex41]; exact wk_reml (show 0 ≤ a3.toInt from ra3) (show 0 < (7 : Int) by decide)
  replace hM := hM.lt ex41.symm
  refine lv_l2i hx hb dX7_openHours_15 rfl ?_
  refine lv_topi (fun x42 ex42 => ?_)
  have ex42 : x42.toInt = x41.toInt := by rw [ex42]; exact wk_l2i (by omega) (by omega)
  replace hM := hM.lt ex42.symm
  refine lv_ishr hx hb dX7_openHours_16 ?_
  refine lv_topi (fun x43 ex43 => ?_)
  have ezx43 := ex43
  replace hM := hM.lt (o32_e (f := fun x y => x >>> (y &&& 31)) ezx43 rfl rfl)
  refine lv_iconst (v := 1) hx hb dX7_openHours_17 (by decide) ?_
  refine lv_iand hx hb dX7_openHours_18 ?_
  refine lv_topi (fun x44 ex44 => ?_)
  have ezx44 := ex44
  have bx44 : 0 ≤ x44.toInt ∧ x44.toInt ≤ (1 : Int) := by rw [ex44]; exact wk_and (by decide)
  replace hM := hM.lt (o32_e (f := fun x y => x &&& y) ezx44 rfl (by decide))
  refine lv_if_ne (tgt := 24) hx hb dX7_openHours_19 (by decide) (fun c45 => ?_) (fun c45 => ?_)
  · have c45 : ¬ x44.toInt = (0 : Int) := wk_eqF c45
    replace hM := hM.pos c45
    refine lv_iload hx hb dX7_openHours_24 (lv_at hl 4 rfl) ?_
    refine lv_if_eq (tgt := 38) hx hb dX7_openHours_26 (by decide) (fun c => absurd c (by decide)) (fun _ => ?_)
    replace hM := hM.neg (by decide)
    refine lv_aload_n hx hb dX7_openHours_29 rfl (lv_at hl 0 rfl) ?_
    refine tk_getO hC hK hw hT hinX7 kC_at39 (by decide) rfl 7 (by decide) (List.mem_cons_of_mem _ uw_3_0) rfl rfl dX7_openHours_30 ?_
    refine lv_iload_n hx hb dX7_openHours_33 rfl (lv_at hl 1 rfl) ?_
    refine tk_iald hC hK hw hT kC_at47 rfl rfl (show 0 ≤ a1.toInt from ra1) (show a1.toInt < 13 from Int.lt_of_le_of_lt ta1 (by decide)) dX7_openHours_34 (fun x46 c47 rx46 tx46 => ?_)
    have hox46 := c47
    replace hM := hM.rd (sI_at hox46)
    refine lv_goto (tgt := 39) hx hb dX7_openHours_35 (by decide) ?_
    refine lv_istore (lv' := [(6, .int x46), (0, .ref (ad 39)), (1, .int a1), (2, .int 1), (3, .long a3), (5, .int 1)]) hx hb dX7_openHours_39 hl (by decide) rfl (fun ls hl => ?_)
    refine lv_iconst (v := 0) hx hb dX7_openHours_41 (by decide) ?_
    refine lv_istore (lv' := [(7, .int 0), (6, .int x46), (0, .ref (ad 39)), (1, .int a1), (2, .int 1), (3, .long a3), (5, .int 1)]) hx hb dX7_openHours_42 hl (by decide) rfl (fun ls hl => ?_)
    exact L44 ((8 - (0 : Int)).toNat + 1) x46 0 s.heap locs ls w0 (show 0 ≤ a1.toInt from ra1) (show a1.toInt ≤ 11 from ta1) (show 0 ≤ a3.toInt from ra3) (show a3.toInt ≤ 4249 from ta3) (by decide) (by decide) (Nat.lt_succ_self _) hw hT hF hM (lv_sub hl [2, 3, 4, 5, 6, 1, 0] rfl)
  · have c45 : x44.toInt = (0 : Int) := wk_eq.mp c45
    replace hM := hM.neg (fun q => q c45)
    refine lv_iconst (v := 0) hx hb dX7_openHours_22 (by decide) ?_
    exact tk_iret hC hr hlocks hK ⟨hT, hF, hM.ret (by decide), ⟨(by decide), (by decide)⟩⟩ hw dX7_openHours_23
abbrev Pz_X7_isNeverOpen_4 (ad : Nat → Nat) (cy : Nat → ClassId) (B : Int) (qr : Nat) (s1 : Int) (a1 : Int32) (w0 : va_W) : Int32 → va_W → Prop := fun r u => TW ksC ad cy B qr s1 u ∧ FE ksC ([] : List (Nat × Nat × Nat)) w0 u ∧ Ev (fun n => m_X7_isNeverOpen n 39 a1.toInt 1 (sI w0)) (r.toInt, sI u) ∧ ((r = 0) ∨ (r = 1))
set_option maxHeartbeats 4000000 in
set_option maxRecDepth 100000 in
theorem kz_X7_isNeverOpen_4 (l : Launch) (adK adV : Nat → Nat) (dC : Nat → ClassId) (dI : Nat → Nat → Nat) (cy : Nat → ClassId) (ad : Nat → Nat) (B : Int) (hB0 : 2147483648 ≤ B) (hB1 : B ≤ 1152921504606846976) (qr : Nat) (s1 : Int)  (a1 : Int32) (ra1 : 0 ≤ a1.toInt) (ta1 : a1.toInt ≤ 11) (w0 : va_W) (sz : Nat) (hT : TW ksC ad cy B qr s1 w0)  : Met l yX7_isNeverOpen (wu yX7_isNeverOpen cX7_isNeverOpen 3 (some .boolean)) ({ frames := 1, cells := 0, slots := 0, locals := 12 }) (va_Pc [.ref (ad 39), .int a1, .int 1] (wpreS adK adV dC dI cy sz w0)) (va_Qi (Pz_X7_isNeverOpen_4 ad cy B qr s1 a1 w0) (fun u : va_W => wpost dC dI cy (va_A w0 sz) u) (va_A w0 sz)) 0 0 (va_A w0 sz) := by
  refine Met.ofW (cc := cX7_isNeverOpen) (maxL := 3) (ret := (some .boolean)) (by decide) rfl ?_
  intro p e s m args below meth c s₁ Bk hml hv
  obtain ⟨rfl, ⟨hsz, hP, hK, hD0⟩, hE, hSR⟩ := hv
  have hx := Bk.exec
  have hb := Bk.bytes
  have hr := Bk.returns
  have hlocks := Bk.notSynchronized
  have hC : CallFix p m c cX7_isNeverOpen 3 s _ (wu yX7_isNeverOpen cX7_isNeverOpen 3 (some .boolean)) RX7 := ⟨hx, hb, hml, findClass_of_methodNamed Bk.named, atoms_spec (ws := (wu yX7_isNeverOpen cX7_isNeverOpen 3 (some .boolean))) Bk.pre⟩
  subst hsz
  have hD := hD0.self (sz := s.heap.size)
  generalize hAe : va_A w0 s.heap.size = A at hD hE ⊢
  have hA : ∀ q : Nat, s.heap.size ≤ q → A q := fun q h => by rw [← hAe]; exact Or.inr h
  have hw : Wd dC dI A s.heap s.heap [] w0 := ⟨hP, hD, va_S.rf⟩
  have hF : FE ksC ([] : List (Nat × Nat × Nat)) w0 w0 := FE.rf
  have hl := lv_entry ([.ref (ad 39), .int a1, .int 1]) (n := 3) (Nat.le_of_ble_eq_true rfl)
  rw [lg_entry_eq]
  generalize (lg_sl ([.ref (ad 39), .int a1, .int 1]) ++ List.replicate (3 - (lg_sl ([.ref (ad 39), .int a1, .int 1])).length) Slot.unset).toArray = ls at hl ⊢
  have hl : lv_has ls 3 [(0, .ref (ad 39)), (1, .int a1), (2, .int 1)] := hl
  generalize hloc : ([] : List Loc) = locs at hw ⊢
  have hinX7 : ∀ w ∈ u_ws RX7 TX7 12, w ∈ (wu yX7_isNeverOpen cX7_isNeverOpen 3 (some .boolean)) := fun _ h => List.mem_cons_of_mem _ (up_73 h)
  have J24 : ∀ (H : Heap) (locs : List Loc) (ls : Array Slot) (w1 : va_W), 0 ≤ a1.toInt → a1.toInt ≤ 11 → Wd dC dI A s.heap H locs w1 → TW ksC ad cy B qr s1 w1 → FE ksC ([] : List (Nat × Nat × Nat)) w0 w1 → TT (fun n => m_X7_isNeverOpen n 39 a1.toInt 1 (sI w0)) (fun n => b_X7_isNeverOpen_24 n 39 (sI w1)) → lv_has ls 3 [(0, .ref (ad 39)), (1, .int a1), (2, .int 1)] → W p l e ({ frames := 1, cells := 0, slots := 0, locals := 12 }) s m (List.toArray [.ref (ad 39), .int a1, .int 1]) below meth c H locs 0 0 (MQ below (va_Qi (Pz_X7_isNeverOpen_4 ad cy B qr s1 a1 w0) (fun u : va_W => wpost dC dI cy A u) A) (List.toArray [.ref (ad 39), .int a1, .int 1]) s 0 0 A) (F0 m 24 ls []) := by
    intro H locs ls w1 r2 t3 hw hT hF hM hl
    refine lv_iconst (v := 1) hx hb dX7_isNeverOpen_24 (by decide) ?_
    refine lv_goto (tgt := 29) hx hb dX7_isNeverOpen_25 (by decide) ?_
    exact tk_zret hC hr rfl hlocks hK ⟨hT, hF, hM.ret (by decide), (Or.inr rfl)⟩ hw dX7_isNeverOpen_29
  have hM : TT (fun n => m_X7_isNeverOpen n 39 a1.toInt 1 (sI w0)) (fun n => m_X7_isNeverOpen n 39 a1.toInt 1 (sI w0)) := TT.rf
  refine lv_aload_n hx hb dX7_isNeverOpen_0 rfl (lv_at hl 0 rfl) ?_
  refine tk_getO hC hK hw hT hinX7 kC_at39 (by decide) rfl 4 (by decide) (List.mem_cons_of_mem _ uw_2_21) rfl rfl dX7_isNeverOpen_1 ?_
  refine lv_iconst (v := 2) hx hb dX7_isNeverOpen_4 (by decide) ?_
  refine lv_iload_n hx hb dX7_isNeverOpen_5 rfl (lv_at hl 1 rfl) ?_
  refine lv_imul hx hb dX7_isNeverOpen_6 ?_
  refine lv_topi (fun x4 ex4 => ?_)
  have ezx4 := ex4
  have ex4 : x4.toInt = (2 : Int) * a1.toInt := by rw [ex4]; exact wk_mul (show (-2147483648) ≤ (2 : Int) * a1.toInt by omega) (show (2 : Int) * a1.toInt ≤ 2147483647 by omega)
  replace hM := hM.lt ex4.symm
  refine lv_iload_n hx hb dX7_isNeverOpen_7 rfl (lv_at hl 2 rfl) ?_
  refine lv_iadd hx hb dX7_isNeverOpen_8 ?_
  refine lv_topi (fun x5 ex5 => ?_)
  have ezx5 := ex5
  have ex5 : x5.toInt = x4.toInt + (1 : Int) := by rw [ex5]; exact wk_add (show (-2147483648) ≤ x4.toInt + (1 : Int) by omega) (show x4.toInt + (1 : Int) ≤ 2147483647 by omega)
  replace hM := hM.lt ex5.symm
  refine tk_iald hC hK hw hT kC_at44 rfl rfl (show 0 ≤ x5.toInt by first | with_reducible assumption | omega) (show x5.toInt < 26 by first | with_reducible assumption | omega) dX7_isNeverOpen_9 (fun x6 c7 rx6 tx6 => ?_)
  have hox6 := c7
  replace hM := hM.rd (sI_at hox6)
  refine lv_if_eq (tgt := 24) hx hb dX7_isNeverOpen_10 (by decide) (fun c8 => ?_) (fun c8 => ?_)
  · have c8 : x6.toInt = (0 : Int) := wk_eq.mp c8
    replace hM := hM.pos c8
    exact J24  s.heap locs ls w0 (show 0 ≤ a1.toInt from ra1) (show a1.toInt ≤ 11 from ta1)  hw hT hF hM (lv_sub hl [0, 1, 2] rfl)
  · have c8 : ¬ x6.toInt = (0 : Int) := wk_eqF c8
    replace hM := hM.neg c8
    refine lv_aload_n hx hb dX7_isNeverOpen_13 rfl (lv_at hl 0 rfl) ?_
    refine tk_getO hC hK hw hT hinX7 kC_at39 (by decide) rfl 3 (by decide) (List.mem_cons_of_mem _ uw_2_20) rfl rfl dX7_isNeverOpen_14 ?_
    refine lv_iload_n hx hb dX7_isNeverOpen_17 rfl (lv_at hl 1 rfl) ?_
    refine tk_iald hC hK hw hT kC_at43 rfl rfl (show 0 ≤ a1.toInt from ra1) (show a1.toInt < 13 from Int.lt_of_le_of_lt ta1 (by decide)) dX7_isNeverOpen_18 (fun x9 c10 rx9 tx9 => ?_)
    have hox9 := c10
    replace hM := hM.rd (sI_at hox9)
    refine lv_ldc (v := 16777215) hx hb hC.2.2.2.1 (hC.2.2.2.2 _ (List.mem_cons_of_mem _ uw_31_17)) dX7_isNeverOpen_19 ?_
    refine lv_icmp_ne (tgt := 28) hx hb dX7_isNeverOpen_21 (by decide) (fun c11 => ?_) (fun c11 => ?_)
    · have c11 : ¬ x9.toInt = (16777215 : Int) := wk_eqF c11
      replace hM := hM.pos c11
      refine lv_iconst (v := 0) hx hb dX7_isNeverOpen_28 (by decide) ?_
      exact tk_zret hC hr rfl hlocks hK ⟨hT, hF, hM.ret (by decide), (Or.inl rfl)⟩ hw dX7_isNeverOpen_29
    · have c11 : x9.toInt = (16777215 : Int) := wk_eq.mp c11
      replace hM := hM.neg (fun q => q c11)
      exact J24  s.heap locs ls w0 (show 0 ≤ a1.toInt from ra1) (show a1.toInt ≤ 11 from ta1)  hw hT hF hM (lv_sub hl [0, 1, 2] rfl)
abbrev Pz_X7_firstOpen_4 (ad : Nat → Nat) (cy : Nat → ClassId) (B : Int) (qr : Nat) (s1 : Int) (a1 : Int32) (a3 : Int32) (a4 : Int32) (w0 : va_W) : Int32 → va_W → Prop := fun r u => TW ksC ad cy B qr s1 u ∧ FE ksC ([] : List (Nat × Nat × Nat)) w0 u ∧ Ev (fun n => m_X7_firstOpen n 39 a1.toInt 1 a3.toInt a4.toInt (sI w0)) (r.toInt, sI u) ∧ ((0 ≤ r.toInt ∧ r.toInt ≤ 101999) ∨ (r = (-1)))
set_option maxHeartbeats 4000000 in
set_option maxRecDepth 100000 in
theorem kz_X7_firstOpen_4 (l : Launch) (adK adV : Nat → Nat) (dC : Nat → ClassId) (dI : Nat → Nat → Nat) (cy : Nat → ClassId) (ad : Nat → Nat) (B : Int) (hB0 : 2147483648 ≤ B) (hB1 : B ≤ 1152921504606846976) (qr : Nat) (s1 : Int)  (a1 : Int32) (ra1 : 0 ≤ a1.toInt) (ta1 : a1.toInt ≤ 11) (a3 : Int32) (ra3 : (-1) ≤ a3.toInt) (ta3 : a3.toInt ≤ 102119) (a4 : Int32) (ra4 : 1991 ≤ a4.toInt) (ta4 : a4.toInt ≤ 101999) (w0 : va_W) (sz : Nat) (hT : TW ksC ad cy B qr s1 w0)  : Met l yX7_firstOpen (wu yX7_firstOpen cX7_firstOpen 10 (some .int)) ({ frames := 2, cells := 0, slots := 0, locals := 39 }) (va_Pc [.ref (ad 39), .int a1, .int 1, .int a3, .int a4] (wpreS adK adV dC dI cy sz w0)) (va_Qi (Pz_X7_firstOpen_4 ad cy B qr s1 a1 a3 a4 w0) (fun u : va_W => wpost dC dI cy (va_A w0 sz) u) (va_A w0 sz)) 0 0 (va_A w0 sz) := by
  refine Met.ofW (cc := cX7_firstOpen) (maxL := 10) (ret := (some .int)) (by decide) rfl ?_
  intro p e s m args below meth c s₁ Bk hml hv
  obtain ⟨rfl, ⟨hsz, hP, hK, hD0⟩, hE, hSR⟩ := hv
  have hx := Bk.exec
  have hb := Bk.bytes
  have hr := Bk.returns
  have hlocks := Bk.notSynchronized
  have hC : CallFix p m c cX7_firstOpen 10 s _ (wu yX7_firstOpen cX7_firstOpen 10 (some .int)) RX7 := ⟨hx, hb, hml, findClass_of_methodNamed Bk.named, atoms_spec (ws := (wu yX7_firstOpen cX7_firstOpen 10 (some .int))) Bk.pre⟩
  subst hsz
  have hD := hD0.self (sz := s.heap.size)
  generalize hAe : va_A w0 s.heap.size = A at hD hE ⊢
  have hA : ∀ q : Nat, s.heap.size ≤ q → A q := fun q h => by rw [← hAe]; exact Or.inr h
  have hw : Wd dC dI A s.heap s.heap [] w0 := ⟨hP, hD, va_S.rf⟩
  have hF : FE ksC ([] : List (Nat × Nat × Nat)) w0 w0 := FE.rf
  have hl := lv_entry ([.ref (ad 39), .int a1, .int 1, .int a3, .int a4]) (n := 10) (Nat.le_of_ble_eq_true rfl)
  rw [lg_entry_eq]
  generalize (lg_sl ([.ref (ad 39), .int a1, .int 1, .int a3, .int a4]) ++ List.replicate (10 - (lg_sl ([.ref (ad 39), .int a1, .int 1, .int a3, .int a4])).length) Slot.unset).toArray = ls at hl ⊢
  have hl : lv_has ls 10 [(0, .ref (ad 39)), (1, .int a1), (2, .int 1), (3, .int a3), (4, .int a4)] := hl
  generalize hloc : ([] : List Loc) = locs at hw ⊢
  have L25 : ∀ (n25 : Nat) (v25_5 : Int32) (v25_6 : Int32) (H : Heap) (locs : List Loc) (ls : Array Slot) (w1 : va_W), 0 ≤ a1.toInt → a1.toInt ≤ 11 → (-1) ≤ a3.toInt → a3.toInt ≤ 102119 → 1991 ≤ a4.toInt → a4.toInt ≤ 101999 → 0 ≤ v25_6.toInt → v25_6.toInt ≤ 4254 → (4254 - v25_6.toInt).toNat < n25 → Wd dC dI A s.heap H locs w1 → TW ksC ad cy B qr s1 w1 → FE ksC ([] : List (Nat × Nat × Nat)) w0 w1 → TT (fun n => m_X7_firstOpen n 39 a1.toInt 1 a3.toInt a4.toInt (sI w0)) (fun n => j_X7_firstOpen 39 n 25 [a1.toInt, (1 : Int), a4.toInt, v25_5.toInt, v25_6.toInt] (sI w1)) → lv_has ls 10 [(0, .ref (ad 39)), (1, .int a1), (2, .int 1), (3, .int a3), (4, .int a4), (5, .int v25_5), (6, .int v25_6)] → W p l e ({ frames := 2, cells := 0, slots := 0, locals := 39 }) s m (List.toArray [.ref (ad 39), .int a1, .int 1, .int a3, .int a4]) below meth c H locs 0 0 (MQ below (va_Qi (Pz_X7_firstOpen_4 ad cy B qr s1 a1 a3 a4 w0) (fun u : va_W => wpost dC dI cy A u) A) (List.toArray [.ref (ad 39), .int a1, .int 1, .int a3, .int a4]) s 0 0 A) (F0 m 25 ls []) := by
    intro n25
    induction n25 with
    | zero => intro v25_5 v25_6 H locs ls w1 r2 t3 r4 t5 r6 t7 r8 t9 hm25 hw hT hF hM hl; omega
    | succ n25 ih25 =>
      intro v25_5 v25_6 H locs ls w1 r2 t3 r4 t5 r6 t7 r8 t9 hm25 hw hT hF hM hl
      have J108 : ∀ (v108_7 : Int32) (v108_8 : Int32) (H : Heap) (locs : List Loc) (ls : Array Slot) (w10 : va_W), 0 ≤ a1.toInt → a1.toInt ≤ 11 → (-1) ≤ a3.toInt → a3.toInt ≤ 102119 → 1991 ≤ a4.toInt → a4.toInt ≤ 101999 → 0 ≤ v25_6.toInt → v25_6.toInt ≤ 4249 → 0 ≤ v108_7.toInt → v108_7.toInt ≤ 16777215 → 0 ≤ v108_8.toInt → v108_8.toInt ≤ 24 → Wd dC dI A s.heap H locs w10 → TW ksC ad cy B qr s1 w10 → FE ksC ([] : List (Nat × Nat × Nat)) w0 w10 → TT (fun n => m_X7_firstOpen n 39 a1.toInt 1 a3.toInt a4.toInt (sI w0)) (fun n => b_X7_firstOpen_108 (j_X7_firstOpen 39 n) n 39 (a1.toInt) (1 : Int) (a4.toInt) (-1 : Int) (v25_6.toInt) (sI w10)) → lv_has ls 10 [(0, .ref (ad 39)), (1, .int a1), (2, .int 1), (3, .int a3), (4, .int a4), (5, .int (-1)), (6, .int v25_6), (7, .int v108_7), (8, .int v108_8)] → W p l e ({ frames := 2, cells := 0, slots := 0, locals := 39 }) s m (List.toArray [.ref (ad 39), .int a1, .int 1, .int a3, .int a4]) below meth c H locs 0 0 (MQ below (va_Qi (Pz_X7_firstOpen_4 ad cy B qr s1 a1 a3 a4 w0) (fun u : va_W => wpost dC dI cy A u) A) (List.toArray [.ref (ad 39), .int a1, .int 1, .int a3, .int a4]) s 0 0 A) (F0 m 108 ls []) := by
        intro v108_7 v108_8 H locs ls w10 r11 t12 r13 t14 r15 t16 r17 t18 r19 t20 r21 t22 hw hT hF hM hl
        obtain ⟨x23, ex23⟩ : ∃ y : Int32, y = v25_6 + Int32.ofInt 1 := ⟨_, rfl⟩
        have erx23 := ex23
        refine lv_iinc (v := x23) (lv' := [(6, .int x23), (0, .ref (ad 39)), (1, .int a1), (2, .int 1), (3, .int a3), (4, .int a4), (5, .int (-1)), (7, .int v108_7), (8, .int v108_8)]) hx hb dX7_firstOpen_108 hl (k := 6) rfl ex23.symm (by decide) rfl (fun ls hl => ?_)
        have ex23 : x23.toInt = v25_6.toInt + 1 := by rw [ex23]; exact wk_add (y := 1) (show -2147483648 ≤ v25_6.toInt + 1 by omega) (show v25_6.toInt + 1 ≤ 2147483647 by omega)
        replace hM := hM.lt ex23.symm
        refine lv_goto (tgt := 25) hx hb dX7_firstOpen_111 (by decide) ?_
        exact ih25 (-1) x23 H locs ls w10 (show 0 ≤ a1.toInt from r11) (show a1.toInt ≤ 11 from t12) (show (-1) ≤ a3.toInt from r13) (show a3.toInt ≤ 102119 from t14) (show 1991 ≤ a4.toInt from r15) (show a4.toInt ≤ 101999 from t16) (show 0 ≤ x23.toInt by first | with_reducible assumption | omega) (show x23.toInt ≤ 4254 by first | with_reducible assumption | omega) (show (4254 - x23.toInt).toNat < n25 by first | exact tn_lt hm25 (by omega) (by omega) | omega) hw hT hF hM (lv_sub hl [1, 2, 3, 4, 5, 6, 0] rfl)
      have L56 : ∀ (n56 : Nat) (v56_7 : Int32) (v56_8 : Int32) (H : Heap) (locs : List Loc) (ls : Array Slot) (w24 : va_W), 0 ≤ a1.toInt → a1.toInt ≤ 11 → (-1) ≤ a3.toInt → a3.toInt ≤ 102119 → 1991 ≤ a4.toInt → a4.toInt ≤ 101999 → 0 ≤ v25_6.toInt → v25_6.toInt ≤ 4249 → 0 ≤ v56_7.toInt → v56_7.toInt ≤ 16777215 → 0 ≤ v56_8.toInt → v56_8.toInt ≤ 24 → (24 - v56_8.toInt).toNat < n56 → Wd dC dI A s.heap H locs w24 → TW ksC ad cy B qr s1 w24 → FE ksC ([] : List (Nat × Nat × Nat)) w0 w24 → TT (fun n => m_X7_firstOpen n 39 a1.toInt 1 a3.toInt a4.toInt (sI w0)) (fun n => j_X7_firstOpen 39 n 56 [a1.toInt, (1 : Int), a4.toInt, (-1 : Int), v25_6.toInt, v56_7.toInt, v56_8.toInt] (sI w24)) → lv_has ls 10 [(0, .ref (ad 39)), (1, .int a1), (2, .int 1), (3, .int a3), (4, .int a4), (5, .int (-1)), (6, .int v25_6), (7, .int v56_7), (8, .int v56_8)] → W p l e ({ frames := 2, cells := 0, slots := 0, locals := 39 }) s m (List.toArray [.ref (ad 39), .int a1, .int 1, .int a3, .int a4]) below meth c H locs 0 0 (MQ below (va_Qi (Pz_X7_firstOpen_4 ad cy B qr s1 a1 a3 a4 w0) (fun u : va_W => wpost dC dI cy A u) A) (List.toArray [.ref (ad 39), .int a1, .int 1, .int a3, .int a4]) s 0 0 A) (F0 m 56 ls []) := by
        intro n56
        induction n56 with
        | zero => intro v56_7 v56_8 H locs ls w24 r25 t26 r27 t28 r29 t30 r31 t32 r33 t34 r35 t36 hm56 hw hT hF hM hl; omega
        | succ n56 ih56 =>
          intro v56_7 v56_8 H locs ls w24 r25 t26 r27 t28 r29 t30 r31 t32 r33 t34 r35 t36 hm56 hw hT hF hM hl
          replace hM := hM.suc (fun _ => e_X7_firstOpen_56)
          refine lv_iload hx hb dX7_firstOpen_56 (lv_at hl 7 rfl) ?_
          refine lv_if_eq (tgt := 108) hx hb dX7_firstOpen_58 (by decide) (fun c37 => ?_) (fun c37 => ?_)
          · have c37 : v56_7.toInt = (0 : Int) := wk_eq.mp c37
            replace hM := hM.pos c37
            exact J108 v56_7 v56_8 H locs ls w24 (show 0 ≤ a1.toInt from r25) (show a1.toInt ≤ 11 from t26) (show (-1) ≤ a3.toInt from r27) (show a3.toInt ≤ 102119 from t28) (show 1991 ≤ a4.toInt from r29) (show a4.toInt ≤ 101999 from t30) (show 0 ≤ v25_6.toInt from r31) (show v25_6.toInt ≤ 4249 from t32) (show 0 ≤ v56_7.toInt from r33) (show v56_7.toInt ≤ 16777215 from t34) (show 0 ≤ v56_8.toInt from r35) (show v56_8.toInt ≤ 24 from t36)  hw hT hF hM (lv_sub hl [0, 1, 2, 3, 4, 5, 6, 7, 8] rfl)
          · have c37 : ¬ v56_7.toInt = (0 : Int) := wk_eqF c37
            replace hM := hM.neg c37
            refine lv_iload hx hb dX7_firstOpen_61 (lv_at hl 8 rfl) ?_
            refine lv_bipush (v := 24) hx hb dX7_firstOpen_63 (by decide) ?_
            refine lv_icmp_ge (tgt := 108) hx hb dX7_firstOpen_65 (by decide) (fun c38 => ?_) (fun c38 => ?_)
            · have c38 : (24 : Int) ≤ v56_8.toInt := wk_le.mp c38
              replace hM := hM.pos c38
              exact J108 v56_7 v56_8 H locs ls w24 (show 0 ≤ a1.toInt from r25) (show a1.toInt ≤ 11 from t26) (show (-1) ≤ a3.toInt from r27) (show a3.toInt ≤ 102119 from t28) (show 1991 ≤ a4.toInt from r29) (show a4.toInt ≤ 101999 from t30) (show 0 ≤ v25_6.toInt from r31) (show v25_6.toInt ≤ 4249 from t32) (show 0 ≤ v56_7.toInt from r33) (show v56_7.toInt ≤ 16777215 from t34) (show 0 ≤ v56_8.toInt from r35) (show v56_8.toInt ≤ 24 from t36)  hw hT hF hM (lv_sub hl [0, 1, 2, 3, 4, 5, 6, 7, 8] rfl)
            · have c38 : v56_8.toInt < (24 : Int) := wk_leF c38
              replace hM := hM.neg (Int.not_le.mpr c38)
              refine lv_iload hx hb dX7_firstOpen_68 (lv_at hl 7 rfl) ?_
              refine lv_iload hx hb dX7_firstOpen_70 (lv_at hl 8 rfl) ?_
              refine lv_ishr hx hb dX7_firstOpen_72 ?_
              refine lv_topi (fun x39 ex39 => ?_)
              have ezx39 := ex39
              have bx39 : 0 ≤ x39.toInt ∧ x39.toInt ≤ v56_7.toInt := by rw [ex39]; exact wk_shr (by omega)
              replace hM := hM.lt (o32_e (f := fun x y => x >>> (y &&& 31)) ezx39 rfl rfl)
              refine lv_iconst (v := 1) hx hb dX7_firstOpen_73 (by decide) ?_
              refine lv_iand hx hb dX7_firstOpen_74 ?_
              refine lv_topi (fun x40 ex40 => ?_)
              have ezx40 := ex40
              have bx40 : 0 ≤ x40.toInt ∧ x40.toInt ≤ (1 : Int) := by rw [ex40]; exact wk_and (by decide)
              replace hM := hM.lt (o32_e (f := fun x y => x &&& y) ezx40 rfl (by decide))
              refine lv_if_eq (tgt := 102) hx hb dX7_firstOpen_75 (by decide) (fun c41 => ?_) (fun c41 => ?_)
              · have c41 : x40.toInt = (0 : Int) := wk_eq.mp c41
                replace hM := hM.pos c41
                obtain ⟨x42, ex42⟩ : ∃ y : Int32, y = v56_8 + Int32.ofInt 1 := ⟨_, rfl⟩
                have erx42 := ex42
                refine lv_iinc (v := x42) (lv' := [(8, .int x42), (0, .ref (ad 39)), (1, .int a1), (2, .int 1), (3, .int a3), (4, .int a4), (5, .int (-1)), (6, .int v25_6), (7, .int v56_7)]) hx hb dX7_firstOpen_102 hl (k := 8) rfl ex42.symm (by decide) rfl (fun ls hl => ?_)
                have ex42 : x42.toInt = v56_8.toInt + 1 := by rw [ex42]; exact wk_add (y := 1) (show -2147483648 ≤ v56_8.toInt + 1 by omega) (show v56_8.toInt + 1 ≤ 2147483647 by omega)
                replace hM := hM.lt ex42.symm
                refine lv_goto (tgt := 56) hx hb dX7_firstOpen_105 (by decide) ?_
                exact ih56 v56_7 x42 H locs ls w24 (show 0 ≤ a1.toInt from r25) (show a1.toInt ≤ 11 from t26) (show (-1) ≤ a3.toInt from r27) (show a3.toInt ≤ 102119 from t28) (show 1991 ≤ a4.toInt from r29) (show a4.toInt ≤ 101999 from t30) (show 0 ≤ v25_6.toInt from r31) (show v25_6.toInt ≤ 4249 from t32) (show 0 ≤ v56_7.toInt from r33) (show v56_7.toInt ≤ 16777215 from t34) (show 0 ≤ x42.toInt by first | with_reducible assumption | omega) (show x42.toInt ≤ 24 by first | with_reducible assumption | omega) (show (24 - x42.toInt).toNat < n56 by first | exact tn_lt hm56 (by omega) (by omega) | omega) hw hT hF hM (lv_sub hl [1, 2, 3, 4, 5, 6, 7, 8, 0] rfl)
              · have c41 : ¬ x40.toInt = (0 : Int) := wk_eqF c41
                replace hM := hM.neg c41
                refine lv_iload hx hb dX7_firstOpen_78 (lv_at hl 6 rfl) ?_
                refine lv_bipush (v := 24) hx hb dX7_firstOpen_80 (by decide) ?_
                refine lv_imul hx hb dX7_firstOpen_82 ?_
                refine lv_topi (fun x43 ex43 => ?_)
                have ezx43 := ex43
                have ex43 : x43.toInt = v25_6.toInt * (24 : Int) := by rw [ex43]; exact wk_mul (show (-2147483648) ≤ v25_6.toInt * (24 : Int) by omega) (show v25_6.toInt * (24 : Int) ≤ 2147483647 by omega)
                replace hM := hM.lt ex43.symm
                refine lv_iload hx hb dX7_firstOpen_83 (lv_at hl 8 rfl) ?_
                refine lv_iadd hx hb dX7_firstOpen_85 ?_
                refine lv_topi (fun x44 ex44 => ?_)
                have ezx44 := ex44
                have ex44 : x44.toInt = x43.toInt + v56_8.toInt := by rw [ex44]; exact wk_add (show (-2147483648) ≤ x43.toInt + v56_8.toInt by omega) (show x43.toInt + v56_8.toInt ≤ 2147483647 by omega)
                replace hM := hM.lt ex44.symm
                refine lv_istore (lv' := [(9, .int x44), (0, .ref (ad 39)), (1, .int a1), (2, .int 1), (3, .int a3), (4, .int a4), (5, .int (-1)), (6, .int v25_6), (7, .int v56_7), (8, .int v56_8)]) hx hb dX7_firstOpen_86 hl (by decide) rfl (fun ls hl => ?_)
                refine lv_iload hx hb dX7_firstOpen_88 (lv_at hl 0 rfl) ?_
                refine lv_iload hx hb dX7_firstOpen_90 (lv_at hl 5 rfl) ?_
                refine lv_icmp_gt (tgt := 100) hx hb dX7_firstOpen_92 (by decide) (fun c45 => ?_) (fun c45 => ?_)
                · have c45 : a4.toInt < x44.toInt := wk_lt.mp c45
                  replace hM := hM.pos c45
                  refine lv_iconst (v := (-1)) hx hb dX7_firstOpen_100 (by decide) ?_
                  exact tk_iret hC hr hlocks hK ⟨hT, hF, hM.ret (by decide), (Or.inr rfl)⟩ hw dX7_firstOpen_101
                · have c45 : x44.toInt ≤ a4.toInt := wk_ltF c45
                  replace hM := hM.neg (Int.not_lt.mpr c45)
                  refine lv_iload hx hb dX7_firstOpen_95 (lv_at hl 0 rfl) ?_
                  refine lv_goto (tgt := 101) hx hb dX7_firstOpen_97 (by decide) ?_
                  exact tk_iret hC hr hlocks hK ⟨hT, hF, hM.ret rfl, (Or.inl ⟨(show 0 ≤ x44.toInt by first | with_reducible assumption | omega), (show x44.toInt ≤ 101999 by first | with_reducible assumption | omega)⟩)⟩ hw dX7_firstOpen_101
      replace hM := hM.suc (fun _ => e_X7_firstOpen_25)
      refine lv_iload hx hb dX7_firstOpen_25 (lv_at hl 6 rfl) ?_
      refine lv_bipush (v := 24) hx hb dX7_firstOpen_27 (by decide) ?_
      refine lv_imul hx hb dX7_firstOpen_29 ?_
      refine lv_topi (fun x46 ex46 => ?_)
      have ezx46 := ex46
      have ex46 : x46.toInt = v25_6.toInt * (24 : Int) := by rw [ex46]; exact wk_mul (show (-2147483648) ≤ v25_6.toInt * (24 : Int) by omega) (show v25_6.toInt * (24 : Int) ≤ 2147483647 by omega)
      replace hM := hM.lt ex46.symm
      refine lv_iload hx hb dX7_firstOpen_30 (lv_at hl 4 rfl) ?_
      refine lv_icmp_gt (tgt := 114) hx hb dX7_firstOpen_32 (by decide) (fun c47 => ?_) (fun c47 => ?_)
      · have c47 : a4.toInt < x46.toInt := wk_lt.mp c47
        replace hM := hM.pos c47
        refine lv_iconst (v := (-1)) hx hb dX7_firstOpen_114 (by decide) ?_
        exact tk_iret hC hr hlocks hK ⟨hT, hF, hM.ret (by decide), (Or.inr rfl)⟩ hw dX7_firstOpen_115
      · have c47 : x46.toInt ≤ a4.toInt := wk_ltF c47
        replace hM := hM.neg (Int.not_lt.mpr c47)
        refine lv_aload_n hx hb dX7_firstOpen_35 rfl (lv_at hl 0 rfl) ?_
        refine lv_iload_n hx hb dX7_firstOpen_36 rfl (lv_at hl 1 rfl) ?_
        refine lv_iload_n hx hb dX7_firstOpen_37 rfl (lv_at hl 2 rfl) ?_
        refine lv_iload hx hb dX7_firstOpen_38 (lv_at hl 6 rfl) ?_
        refine lv_i2l hx hb dX7_firstOpen_40 rfl ?_
        refine lv_topl (fun x48 ex48 => ?_)
        have ex48 : x48.toInt = v25_6.toInt := by rw [ex48]; exact wk_i2l _
        have bx48 := wk_i32 v25_6
        replace hM := hM.lt ex48.symm
        refine lv_iconst (v := 1) hx hb dX7_firstOpen_41 (by decide) ?_
        refine tk_Vi hC hK hw hT hA hE hSR kC_at39 (by decide) rfl (kz_X7_openHours_4 l adK adV dC dI cy ad B hB0 (Int.le_trans hB1 (by decide)) qr s1   a1 (show 0 ≤ a1.toInt from r2) (show a1.toInt ≤ 11 from t3) x48 (show 0 ≤ x48.toInt by first | with_reducible assumption | omega) (show x48.toInt ≤ 4249 by first | with_reducible assumption | omega) w1 H.size hT ) (cwV 4 hC.2.2.2.2 uV_RX7_148 rfl rfl rfl (by decide +kernel) ⟨Nat.le_of_ble_eq_true rfl, Nat.le_of_ble_eq_true rfl⟩) rfl hl.1 rfl (Nat.le_of_ble_eq_true rfl) dX7_firstOpen_42 (fun r49 w51 H locs hp50 hw => ?_)
        obtain ⟨hT, k52, hv56, hg55⟩ := hp50
        have hF := hF.tr k52 (by decide)
        obtain ⟨g53, g54⟩ := hg55
        replace hM := hM.call hv56 rfl
        refine lv_iload hx hb dX7_firstOpen_45 (lv_at hl 5 rfl) ?_
        refine lv_iand hx hb dX7_firstOpen_47 ?_
        refine lv_topi (fun x57 ex57 => ?_)
        have ezx57 := ex57
        have bx57 : 0 ≤ x57.toInt ∧ x57.toInt ≤ r49.toInt := by rw [ex57]; exact wk_andC (by omega)
        replace hM := hM.lt (o32_e (f := fun x y => x &&& y) ezx57 rfl rfl)
        refine lv_istore (lv' := [(7, .int x57), (0, .ref (ad 39)), (1, .int a1), (2, .int 1), (3, .int a3), (4, .int a4), (5, .int v25_5), (6, .int v25_6)]) hx hb dX7_firstOpen_48 hl (by decide) rfl (fun ls hl => ?_)
        refine lv_iconst (v := (-1)) hx hb dX7_firstOpen_50 (by decide) ?_
        refine lv_istore (lv' := [(5, .int (-1)), (7, .int x57), (0, .ref (ad 39)), (1, .int a1), (2, .int 1), (3, .int a3), (4, .int a4), (6, .int v25_6)]) hx hb dX7_firstOpen_51 hl (by decide) rfl (fun ls hl => ?_)
        refine lv_iconst (v := 0) hx hb dX7_firstOpen_53 (by decide) ?_
        refine lv_istore (lv' := [(8, .int 0), (5, .int (-1)), (7, .int x57), (0, .ref (ad 39)), (1, .int a1), (2, .int 1), (3, .int a3), (4, .int a4), (6, .int v25_6)]) hx hb dX7_firstOpen_54 hl (by decide) rfl (fun ls hl => ?_)
        exact L56 ((24 - (0 : Int)).toNat + 1) x57 0 H locs ls w51 (show 0 ≤ a1.toInt from r2) (show a1.toInt ≤ 11 from t3) (show (-1) ≤ a3.toInt from r4) (show a3.toInt ≤ 102119 from t5) (show 1991 ≤ a4.toInt from r6) (show a4.toInt ≤ 101999 from t7) (show 0 ≤ v25_6.toInt from r8) (show v25_6.toInt ≤ 4249 by first | with_reducible assumption | omega) (show 0 ≤ x57.toInt by first | with_reducible assumption | omega) (show x57.toInt ≤ 16777215 by first | with_reducible assumption | omega) (by decide) (by decide) (Nat.lt_succ_self _) hw hT hF hM (lv_sub hl [3, 4, 5, 6, 7, 1, 8, 2, 0] rfl)
  have hM : TT (fun n => m_X7_firstOpen n 39 a1.toInt 1 a3.toInt a4.toInt (sI w0)) (fun n => m_X7_firstOpen n 39 a1.toInt 1 a3.toInt a4.toInt (sI w0)) := TT.rf
  refine lv_aload_n hx hb dX7_firstOpen_0 rfl (lv_at hl 0 rfl) ?_
  refine lv_iload_n hx hb dX7_firstOpen_1 rfl (lv_at hl 1 rfl) ?_
  refine lv_iload_n hx hb dX7_firstOpen_2 rfl (lv_at hl 2 rfl) ?_
  refine tk_Vi hC hK hw hT hA hE hSR kC_at39 (by decide) rfl (kz_X7_isNeverOpen_4 l adK adV dC dI cy ad B hB0 (Int.le_trans hB1 (by decide)) qr s1   a1 (show 0 ≤ a1.toInt from ra1) (show a1.toInt ≤ 11 from ta1) w0 s.heap.size hT ) (cwV 2 hC.2.2.2.2 uV_RX7_152 rfl rfl rfl (by decide +kernel) ⟨Nat.le_of_ble_eq_true rfl, Nat.le_of_ble_eq_true rfl⟩) rfl hl.1 rfl (Nat.le_of_ble_eq_true rfl) dX7_firstOpen_3 (fun r58 w60 H locs hp59 hw => ?_)
  obtain ⟨hT, k61, hv63, hg62⟩ := hp59
  have hF := hF.tr k61 (by decide)
  rcases hg62 with rfl | rfl
  · replace hM := hM.call (r' := 0) hv63 (by decide)
    refine lv_if_eq (tgt := 11) hx hb dX7_firstOpen_6 (by decide) (fun _ => ?_) (fun c => absurd (by decide) c)
    replace hM := hM.pos (by decide)
    refine lv_iconst (v := (-1)) hx hb dX7_firstOpen_11 (by decide) ?_
    refine lv_iload_n hx hb dX7_firstOpen_12 rfl (lv_at hl 3 rfl) ?_
    refine lv_bipush (v := 24) hx hb dX7_firstOpen_13 (by decide) ?_
    refine lv_irem hx hb dX7_firstOpen_15 (by decide) ?_
    refine lv_topi (fun x64 ex64 => ?_)
    have ezx64 := ex64
    replace hM := hM.lt (o32_e (f := fun x y => x - x / y * y) ezx64 rfl (by decide))
    refine lv_ishl hx hb dX7_firstOpen_16 ?_
    refine lv_topi (fun x65 ex65 => ?_)
    have ezx65 := ex65
    replace hM := hM.lt (o32_e (f := fun x y => x <<< (y &&& 31)) ezx65 (by decide) rfl)
    refine lv_istore (lv' := [(5, .int x65), (0, .ref (ad 39)), (1, .int a1), (2, .int 1), (3, .int a3), (4, .int a4)]) hx hb dX7_firstOpen_17 hl (by decide) rfl (fun ls hl => ?_)
    refine lv_iload_n hx hb dX7_firstOpen_19 rfl (lv_at hl 4 rfl) ?_
    refine lv_bipush (v := 24) hx hb dX7_firstOpen_20 (by decide) ?_
    refine lv_idiv hx hb dX7_firstOpen_22 (by decide) ?_
    refine lv_topi (fun x66 ex66 => ?_)
    have ezx66 := ex66
    have bx66 : -(1 / (24 : Int)) ≤ x66.toInt ∧ x66.toInt ≤ 102119 / (24 : Int) := by rw [ex66]; exact wk_divB (m := 1) (n := 102119) (show 0 < (24 : Int) by decide) (by decide) (by decide) (by omega) (by omega)
    replace hM := hM.lt (o32_e (f := fun x y => x / y) ezx66 rfl (by decide))
    refine lv_istore (lv' := [(6, .int x66), (5, .int x65), (0, .ref (ad 39)), (1, .int a1), (2, .int 1), (3, .int a3), (4, .int a4)]) hx hb dX7_firstOpen_23 hl (by decide) rfl (fun ls hl => ?_)
    exact L25 ((4254 - x66.toInt).toNat + 1) x65 x66 H locs ls w60 (show 0 ≤ a1.toInt from ra1) (show a1.toInt ≤ 11 from ta1) (show (-1) ≤ a3.toInt from ra3) (show a3.toInt ≤ 102119 from ta3) (show 1991 ≤ a4.toInt from ra4) (show a4.toInt ≤ 101999 from ta4) (show 0 ≤ x66.toInt by first | with_reducible assumption | omega) (show x66.toInt ≤ 4254 by first | with_reducible assumption | omega) (Nat.lt_succ_self _) hw hT hF hM (lv_sub hl [2, 3, 4, 5, 6, 1, 0] rfl)
  · replace hM := hM.call (r' := 1) hv63 (by decide)
    refine lv_if_eq (tgt := 11) hx hb dX7_firstOpen_6 (by decide) (fun c => absurd c (by decide)) (fun _ => ?_)
    replace hM := hM.neg (by decide)
    refine lv_iconst (v := (-1)) hx hb dX7_firstOpen_9 (by decide) ?_
    exact tk_iret hC hr hlocks hK ⟨hT, hF, hM.ret (by decide), (Or.inr rfl)⟩ hw dX7_firstOpen_10
