abbrev Pz_X4_tellBest_1 (ad : Nat → Nat) (cy : Nat → ClassId) (B : Int) (qr : Nat) (s1 : Int) (a1 : Int32) (a2 : Int32) (a3 : Int32) (w0 : va_W) : Int32 → va_W → Prop := fun r u => TW ksC ad cy B qr s1 u ∧ FE ksC [(24, 0, 26), (25, 0, 13), (26, 0, 91), (27, 0, 13), (28, 0, 26), (31, 0, 13), (48, 0, 10), (49, 0, 10)] w0 u ∧ Ev (fun n => m_X4_tellBest n 155 a1.toInt a2.toInt a3.toInt (sI w0)) (r.toInt, sI u) ∧ ((r.toInt ≤ 14007 ∧ 2 ≤ a3.toInt) ∨ (0 ≤ r.toInt ∧ r.toInt ≤ 9 ∧ a3.toInt ≤ 1))
set_option maxHeartbeats 4000000 in
set_option maxRecDepth 100000 in
theorem kz_X4_tellBest_1 (l : Launch) (adK adV : Nat → Nat) (dC : Nat → ClassId) (dI : Nat → Nat → Nat) (cy : Nat → ClassId) (ad : Nat → Nat) (B : Int) (hB0 : 2147483648 ≤ B) (hB1 : B ≤ 1152921504606846976) (qr : Nat) (s1 : Int)  (a1 : Int32) (ra1 : 1 ≤ a1.toInt) (ta1 : a1.toInt ≤ 9) (a2 : Int32) (ra2 : 0 ≤ a2.toInt) (ta2 : a2.toInt ≤ 99999) (a3 : Int32) (ra3 : 0 ≤ a3.toInt) (ta3 : a3.toInt ≤ 2) (w0 : va_W) (sz : Nat) (hT : TW ksC ad cy B qr s1 w0)  : Met l yX4_tellBest (wu yX4_tellBest cX4_tellBest 10 (some .int)) ({ frames := 6, cells := 0, slots := 0, locals := 147 }) (va_Pc [.ref (ad 155), .int a1, .int a2, .int a3] (wpreS adK adV dC dI cy sz w0)) (va_Qi (Pz_X4_tellBest_1 ad cy B qr s1 a1 a2 a3 w0) (fun u : va_W => wpost dC dI cy (va_A w0 sz) u) (va_A w0 sz)) 0 0 (va_A w0 sz) := by
  refine Met.ofW (cc := cX4_tellBest) (maxL := 10) (ret := (some .int)) (by decide) rfl ?_
  intro p e s m args below meth c s₁ Bk hml hv
  obtain ⟨rfl, ⟨hsz, hP, hK, hD0⟩, hE, hSR⟩ := hv
  have hx := Bk.exec
  have hb := Bk.bytes
  have hr := Bk.returns
  have hlocks := Bk.notSynchronized
  have hC : CallFix p m c cX4_tellBest 10 s _ (wu yX4_tellBest cX4_tellBest 10 (some .int)) RX4 := ⟨hx, hb, hml, findClass_of_methodNamed Bk.named, atoms_spec (ws := (wu yX4_tellBest cX4_tellBest 10 (some .int))) Bk.pre⟩
  subst hsz
  have hD := hD0.self (sz := s.heap.size)
  generalize hAe : va_A w0 s.heap.size = A at hD hE ⊢
  have hA : ∀ q : Nat, s.heap.size ≤ q → A q := fun q h => by rw [← hAe]; exact Or.inr h
  have hw : Wd dC dI A s.heap s.heap [] w0 := ⟨hP, hD, va_S.rf⟩
  have hF : FE ksC [(24, 0, 26), (25, 0, 13), (26, 0, 91), (27, 0, 13), (28, 0, 26), (31, 0, 13), (48, 0, 10), (49, 0, 10)] w0 w0 := FE.rf
  have hl := lv_entry ([.ref (ad 155), .int a1, .int a2, .int a3]) (n := 10) (Nat.le_of_ble_eq_true rfl)
  rw [lg_entry_eq]
  generalize (lg_sl ([.ref (ad 155), .int a1, .int a2, .int a3]) ++ List.replicate (10 - (lg_sl ([.ref (ad 155), .int a1, .int a2, .int a3])).length) Slot.unset).toArray = ls at hl ⊢
  have hl : lv_has ls 10 [(0, .ref (ad 155)), (1, .int a1), (2, .int a2), (3, .int a3)] := hl
  generalize hloc : ([] : List Loc) = locs at hw ⊢
  have hinX4 : ∀ w ∈ u_ws RX4 TX4 4, w ∈ (wu yX4_tellBest cX4_tellBest 10 (some .int)) := fun _ h => List.mem_cons_of_mem _ (up_80 h)
  have hinX7 : ∀ w ∈ u_ws RX7 TX7 12, w ∈ (wu yX4_tellBest cX4_tellBest 10 (some .int)) := fun _ h => List.mem_cons_of_mem _ (up_73 h)
  have L14 : ∀ (n14 : Nat) (v14_4 : Int32) (v14_5 : Int32) (v14_6 : Int32) (v14_7 : Int32) (H : Heap) (locs : List Loc) (ls : Array Slot) (w1 : va_W), 1 ≤ a1.toInt → a1.toInt ≤ 9 → 0 ≤ a2.toInt → a2.toInt ≤ 99999 → 0 ≤ a3.toInt → a3.toInt ≤ 2 → 0 ≤ v14_4.toInt → v14_4.toInt ≤ 9 → 1 ≤ v14_5.toInt → v14_5.toInt ≤ 9 → v14_6.toInt ≤ 14007 → 0 ≤ v14_7.toInt → v14_7.toInt ≤ 10 → (10 - v14_7.toInt).toNat < n14 → Wd dC dI A s.heap H locs w1 → TW ksC ad cy B qr s1 w1 → FE ksC [(24, 0, 26), (25, 0, 13), (26, 0, 91), (27, 0, 13), (28, 0, 26), (31, 0, 13), (48, 0, 10), (49, 0, 10)] w0 w1 → TT (fun n => m_X4_tellBest n 155 a1.toInt a2.toInt a3.toInt (sI w0)) (fun n => j_X4_tellBest 155 n 14 [a1.toInt, a2.toInt, a3.toInt, v14_4.toInt, v14_5.toInt, v14_6.toInt, v14_7.toInt] (sI w1)) → lv_has ls 10 [(0, .ref (ad 155)), (1, .int a1), (2, .int a2), (3, .int a3), (4, .int v14_4), (5, .int v14_5), (6, .int v14_6), (7, .int v14_7)] → W p l e ({ frames := 6, cells := 0, slots := 0, locals := 147 }) s m (List.toArray [.ref (ad 155), .int a1, .int a2, .int a3]) below meth c H locs 0 0 (MQ below (va_Qi (Pz_X4_tellBest_1 ad cy B qr s1 a1 a2 a3 w0) (fun u : va_W => wpost dC dI cy A u) A) (List.toArray [.ref (ad 155), .int a1, .int a2, .int a3]) s 0 0 A) (F0 m 14 ls []) := by
    intro n14
    induction n14 with
    | zero => intro v14_4 v14_5 v14_6 v14_7 H locs ls w1 r2 t3 r4 t5 r6 t7 r8 t9 r10 t11 t12 r13 t14 hm14 hw hT hF hM hl; omega
    | succ n14 ih14 =>
      intro v14_4 v14_5 v14_6 v14_7 H locs ls w1 r2 t3 r4 t5 r6 t7 r8 t9 r10 t11 t12 r13 t14 hm14 hw hT hF hM hl
      have L32 : ∀ (n32 : Nat) (v32_4 : Int32) (v32_5 : Int32) (v32_6 : Int32) (v32_8 : Int32) (f32_39_8 : Int32) (H : Heap) (locs : List Loc) (ls : Array Slot) (w15 : va_W), 1 ≤ a1.toInt → a1.toInt ≤ 9 → 0 ≤ a2.toInt → a2.toInt ≤ 99999 → 0 ≤ a3.toInt → a3.toInt ≤ 2 → 0 ≤ v32_4.toInt → v32_4.toInt ≤ 9 → 1 ≤ v32_5.toInt → v32_5.toInt ≤ 9 → v32_6.toInt ≤ 14007 → 0 ≤ v14_7.toInt → v14_7.toInt ≤ 9 → 1 ≤ v32_8.toInt → v32_8.toInt ≤ 10 → 1 ≤ f32_39_8.toInt → f32_39_8.toInt ≤ 10 → (10 - v32_8.toInt).toNat < n32 → Wd dC dI A s.heap H locs w15 → TW ksC ad cy B qr s1 w15 → FE ksC [(24, 0, 26), (25, 0, 13), (26, 0, 91), (27, 0, 13), (28, 0, 26), (31, 0, 13), (48, 0, 10), (49, 0, 10)] w0 w15 → gi w15 39 8 = f32_39_8 → TT (fun n => m_X4_tellBest n 155 a1.toInt a2.toInt a3.toInt (sI w0)) (fun n => j_X4_tellBest 155 n 32 [a1.toInt, a2.toInt, a3.toInt, v32_4.toInt, v32_5.toInt, v32_6.toInt, v14_7.toInt, v32_8.toInt] (sI w15)) → lv_has ls 10 [(0, .ref (ad 155)), (1, .int a1), (2, .int a2), (3, .int a3), (4, .int v32_4), (5, .int v32_5), (6, .int v32_6), (7, .int v14_7), (8, .int v32_8)] → W p l e ({ frames := 6, cells := 0, slots := 0, locals := 147 }) s m (List.toArray [.ref (ad 155), .int a1, .int a2, .int a3]) below meth c H locs 0 0 (MQ below (va_Qi (Pz_X4_tellBest_1 ad cy B qr s1 a1 a2 a3 w0) (fun u : va_W => wpost dC dI cy A u) A) (List.toArray [.ref (ad 155), .int a1, .int a2, .int a3]) s 0 0 A) (F0 m 32 ls []) := by
        intro n32
        induction n32 with
        | zero => intro v32_4 v32_5 v32_6 v32_8 f32_39_8 H locs ls w15 r16 t17 r18 t19 r20 t21 r22 t23 r24 t25 t26 r27 t28 r29 t30 r31 t32 hm32 hw hT hF c33 hM hl; omega
        | succ n32 ih32 =>
          intro v32_4 v32_5 v32_6 v32_8 f32_39_8 H locs ls w15 r16 t17 r18 t19 r20 t21 r22 t23 r24 t25 t26 r27 t28 r29 t30 r31 t32 hm32 hw hT hF c33 hM hl
          have J84 : ∀ (v84_4 : Int32) (v84_5 : Int32) (v84_6 : Int32) (v84_9 : Int32) (H : Heap) (locs : List Loc) (ls : Array Slot) (w34 : va_W), 1 ≤ a1.toInt → a1.toInt ≤ 9 → 0 ≤ a2.toInt → a2.toInt ≤ 99999 → 0 ≤ a3.toInt → a3.toInt ≤ 2 → 0 ≤ v84_4.toInt → v84_4.toInt ≤ 9 → 1 ≤ v84_5.toInt → v84_5.toInt ≤ 9 → v84_6.toInt ≤ 14007 → 0 ≤ v14_7.toInt → v14_7.toInt ≤ 9 → 1 ≤ v32_8.toInt → v32_8.toInt ≤ 9 → 2 ≤ f32_39_8.toInt → f32_39_8.toInt ≤ 10 → Wd dC dI A s.heap H locs w34 → TW ksC ad cy B qr s1 w34 → FE ksC [(24, 0, 26), (25, 0, 13), (26, 0, 91), (27, 0, 13), (28, 0, 26), (31, 0, 13), (48, 0, 10), (49, 0, 10)] w0 w34 → gi w34 39 8 = f32_39_8 → TT (fun n => m_X4_tellBest n 155 a1.toInt a2.toInt a3.toInt (sI w0)) (fun n => b_X4_tellBest_84 (j_X4_tellBest 155 n) n 155 (a1.toInt) (a2.toInt) (a3.toInt) (v84_4.toInt) (v84_5.toInt) (v84_6.toInt) (v14_7.toInt) (v32_8.toInt) (sI w34)) → lv_has ls 10 [(0, .ref (ad 155)), (1, .int a1), (2, .int a2), (3, .int a3), (4, .int v84_4), (5, .int v84_5), (6, .int v84_6), (7, .int v14_7), (8, .int v32_8), (9, .int v84_9)] → W p l e ({ frames := 6, cells := 0, slots := 0, locals := 147 }) s m (List.toArray [.ref (ad 155), .int a1, .int a2, .int a3]) below meth c H locs 0 0 (MQ below (va_Qi (Pz_X4_tellBest_1 ad cy B qr s1 a1 a2 a3 w0) (fun u : va_W => wpost dC dI cy A u) A) (List.toArray [.ref (ad 155), .int a1, .int a2, .int a3]) s 0 0 A) (F0 m 84 ls []) := by
            intro v84_4 v84_5 v84_6 v84_9 H locs ls w34 r35 t36 r37 t38 r39 t40 r41 t42 r43 t44 t45 r46 t47 r48 t49 r50 t51 hw hT hF c52 hM hl
            obtain ⟨x53, ex53⟩ : ∃ y : Int32, y = v32_8 + Int32.ofInt 1 := ⟨_, rfl⟩
            have erx53 := ex53
            refine lv_iinc (v := x53) (lv' := [(8, .int x53), (0, .ref (ad 155)), (1, .int a1), (2, .int a2), (3, .int a3), (4, .int v84_4), (5, .int v84_5), (6, .int v84_6), (7, .int v14_7), (9, .int v84_9)]) hx hb dX4_tellBest_84 hl (k := 8) rfl ex53.symm (by decide) rfl (fun ls hl => ?_)
            have ex53 : x53.toInt = v32_8.toInt + 1 := by rw [ex53]; exact wk_add (y := 1) (show -2147483648 ≤ v32_8.toInt + 1 by omega) (show v32_8.toInt + 1 ≤ 2147483647 by omega)
            replace hM := hM.lt ex53.symm
            refine lv_goto (tgt := 32) hx hb dX4_tellBest_87 (by decide) ?_
            exact ih32 v84_4 v84_5 v84_6 x53 f32_39_8 H locs ls w34 (show 1 ≤ a1.toInt from r35) (show a1.toInt ≤ 9 from t36) (show 0 ≤ a2.toInt from r37) (show a2.toInt ≤ 99999 from t38) (show 0 ≤ a3.toInt from r39) (show a3.toInt ≤ 2 from t40) (show 0 ≤ v84_4.toInt from r41) (show v84_4.toInt ≤ 9 from t42) (show 1 ≤ v84_5.toInt from r43) (show v84_5.toInt ≤ 9 from t44) (show v84_6.toInt ≤ 14007 from t45) (show 0 ≤ v14_7.toInt from r46) (show v14_7.toInt ≤ 9 from t47) (show 1 ≤ x53.toInt by first | with_reducible assumption | omega) (show x53.toInt ≤ 10 by first | with_reducible assumption | omega) (show 1 ≤ f32_39_8.toInt from r31) (show f32_39_8.toInt ≤ 10 from t51) (show (10 - x53.toInt).toNat < n32 by first | exact tn_lt hm32 (by omega) (by omega) | omega) hw hT hF c52 hM (lv_sub hl [1, 2, 3, 4, 5, 6, 7, 8, 0] rfl)
          replace hM := hM.suc (fun _ => e_X4_tellBest_32)
          refine lv_iload hx hb dX4_tellBest_32 (lv_at hl 8 rfl) ?_
          refine lv_aload_n hx hb dX4_tellBest_34 rfl (lv_at hl 0 rfl) ?_
          refine tk_getA hC hK hw hT hinX4 kC_at155 (by decide) rfl 1 (by decide) (List.mem_cons_of_mem _ uw_5_23) rfl rfl dX4_tellBest_35 ?_
          refine tk_geti hC hK hw hT hinX7 kC_at39 (by decide) rfl 8 (by decide) (List.mem_cons_of_mem _ uw_49_18) rfl rfl dX4_tellBest_38 (fun x54 c55 rx54 tx54 => ?_)
          refine wk_top f32_39_8 (c55.symm.trans c33) ?_
          replace hM := hM.rd (sI_at c33)
          refine lv_icmp_ge (tgt := 90) hx hb dX4_tellBest_41 (by decide) (fun c56 => ?_) (fun c56 => ?_)
          · have c56 : f32_39_8.toInt ≤ v32_8.toInt := wk_le.mp c56
            replace hM := hM.pos c56
            obtain ⟨x57, ex57⟩ : ∃ y : Int32, y = v14_7 + Int32.ofInt 1 := ⟨_, rfl⟩
            have erx57 := ex57
            refine lv_iinc (v := x57) (lv' := [(7, .int x57), (0, .ref (ad 155)), (1, .int a1), (2, .int a2), (3, .int a3), (4, .int v32_4), (5, .int v32_5), (6, .int v32_6), (8, .int v32_8)]) hx hb dX4_tellBest_90 hl (k := 7) rfl ex57.symm (by decide) rfl (fun ls hl => ?_)
            have ex57 : x57.toInt = v14_7.toInt + 1 := by rw [ex57]; exact wk_add (y := 1) (show -2147483648 ≤ v14_7.toInt + 1 by omega) (show v14_7.toInt + 1 ≤ 2147483647 by omega)
            replace hM := hM.lt ex57.symm
            refine lv_goto (tgt := 14) hx hb dX4_tellBest_93 (by decide) ?_
            exact ih14 v32_4 v32_5 v32_6 x57 H locs ls w15 (show 1 ≤ a1.toInt from r16) (show a1.toInt ≤ 9 from t17) (show 0 ≤ a2.toInt from r18) (show a2.toInt ≤ 99999 from t19) (show 0 ≤ a3.toInt from r20) (show a3.toInt ≤ 2 from t21) (show 0 ≤ v32_4.toInt from r22) (show v32_4.toInt ≤ 9 from t23) (show 1 ≤ v32_5.toInt from r24) (show v32_5.toInt ≤ 9 from t25) (show v32_6.toInt ≤ 14007 from t26) (show 0 ≤ x57.toInt by first | with_reducible assumption | omega) (show x57.toInt ≤ 10 by first | with_reducible assumption | omega) (show (10 - x57.toInt).toNat < n14 by first | exact tn_lt hm14 (by omega) (by omega) | omega) hw hT hF hM (lv_sub hl [1, 2, 3, 4, 5, 6, 7, 0] rfl)
          · have c56 : v32_8.toInt < f32_39_8.toInt := wk_leF c56
            replace hM := hM.neg (Int.not_le.mpr c56)
            refine lv_aload_n hx hb dX4_tellBest_44 rfl (lv_at hl 0 rfl) ?_
            refine tk_getA hC hK hw hT hinX4 kC_at155 (by decide) rfl 1 (by decide) (List.mem_cons_of_mem _ uw_5_23) rfl rfl dX4_tellBest_45 ?_
            refine lv_iload hx hb dX4_tellBest_48 (lv_at hl 7 rfl) ?_
            refine lv_iload hx hb dX4_tellBest_50 (lv_at hl 8 rfl) ?_
            refine lv_iload_n hx hb dX4_tellBest_52 rfl (lv_at hl 1 rfl) ?_
            refine tk_Vv hC hK hw hT hA hE hSR kC_at39 (by decide) rfl (kz_X7_tryStreet_1 l adK adV dC dI cy ad B hB0 (Int.le_trans hB1 (by decide)) qr s1   v14_7 (show 0 ≤ v14_7.toInt from r27) (show v14_7.toInt ≤ 9 from t28) v32_8 (show 1 ≤ v32_8.toInt from r29) (show v32_8.toInt ≤ 9 by first | with_reducible assumption | omega) a1 (show 1 ≤ a1.toInt from r16) (show a1.toInt ≤ 9 from t17) w15 H.size hT ) (cwV 3 hC.2.2.2.2 uV_RX4_87 rfl rfl rfl (by decide +kernel) ⟨Nat.le_of_ble_eq_true rfl, Nat.le_of_ble_eq_true rfl⟩) rfl hl.1 rfl (Nat.le_of_ble_eq_true rfl) dX4_tellBest_53 (fun w60 H locs hp59 hw => ?_)
            obtain ⟨hT, k61, hv63, hg62⟩ := hp59
            have hF := hF.tr k61 (by decide)
            have c64 := k61.gi kC_at39 (by decide) c33
            clear hg62
            replace hM := hM.call hv63 rfl
            refine lv_aload_n hx hb dX4_tellBest_56 rfl (lv_at hl 0 rfl) ?_
            refine lv_iload_n hx hb dX4_tellBest_57 rfl (lv_at hl 2 rfl) ?_
            refine lv_iload hx hb dX4_tellBest_58 (lv_at hl 6 rfl) ?_
            refine tk_Vi hC hK hw hT hA hE hSR kC_at155 (by decide) rfl (kz_X4_sumOfErrands_1 l adK adV dC dI cy ad B hB0 (Int.le_trans hB1 (by decide)) qr s1   a2 (show 0 ≤ a2.toInt from r18) (show a2.toInt ≤ 99999 from t19) v32_6 (show v32_6.toInt ≤ 14007 from t26) w60 H.size hT ) (cwV 2 hC.2.2.2.2 uV_RX4_90 rfl rfl rfl (by decide +kernel) ⟨Nat.le_of_ble_eq_true rfl, Nat.le_of_ble_eq_true rfl⟩) rfl hl.1 rfl (Nat.le_of_ble_eq_true rfl) dX4_tellBest_60 (fun r65 w67 H locs hp66 hw => ?_)
            obtain ⟨hT, k68, hv70, hg69⟩ := hp66
            have hF := hF.tr k68 (by decide)
            have c71 := k68.gi kC_at39 (by decide) c64
            clear hg69
            replace hM := hM.call hv70 rfl
            refine lv_istore (lv' := [(9, .int r65), (0, .ref (ad 155)), (1, .int a1), (2, .int a2), (3, .int a3), (4, .int v32_4), (5, .int v32_5), (6, .int v32_6), (7, .int v14_7), (8, .int v32_8)]) hx hb dX4_tellBest_63 hl (by decide) rfl (fun ls hl => ?_)
            refine lv_iload hx hb dX4_tellBest_65 (lv_at hl 0 rfl) ?_
            refine lv_iload hx hb dX4_tellBest_67 (lv_at hl 7 rfl) ?_
            refine lv_icmp_ge (tgt := 84) hx hb dX4_tellBest_69 (by decide) (fun c72 => ?_) (fun c72 => ?_)
            · have c72 : v32_6.toInt ≤ r65.toInt := wk_le.mp c72
              replace hM := hM.pos c72
              exact J84 v32_4 v32_5 v32_6 r65 H locs ls w67 (show 1 ≤ a1.toInt from r16) (show a1.toInt ≤ 9 from t17) (show 0 ≤ a2.toInt from r18) (show a2.toInt ≤ 99999 from t19) (show 0 ≤ a3.toInt from r20) (show a3.toInt ≤ 2 from t21) (show 0 ≤ v32_4.toInt from r22) (show v32_4.toInt ≤ 9 from t23) (show 1 ≤ v32_5.toInt from r24) (show v32_5.toInt ≤ 9 from t25) (show v32_6.toInt ≤ 14007 from t26) (show 0 ≤ v14_7.toInt from r27) (show v14_7.toInt ≤ 9 from t28) (show 1 ≤ v32_8.toInt from r29) (show v32_8.toInt ≤ 9 by first | with_reducible assumption | omega) (show 2 ≤ f32_39_8.toInt by first | with_reducible assumption | omega) (show f32_39_8.toInt ≤ 10 from t32)  hw hT hF c71 hM (lv_sub hl [1, 2, 3, 4, 5, 6, 7, 8, 9, 0] rfl)
            · have c72 : r65.toInt < v32_6.toInt := wk_leF c72
              replace hM := hM.neg (Int.not_le.mpr c72)
              refine lv_iload hx hb dX4_tellBest_72 (lv_at hl 0 rfl) ?_
              refine lv_istore (lv' := [(6, .int r65), (9, .int r65), (0, .ref (ad 155)), (1, .int a1), (2, .int a2), (3, .int a3), (4, .int v32_4), (5, .int v32_5), (7, .int v14_7), (8, .int v32_8)]) hx hb dX4_tellBest_74 hl (by decide) rfl (fun ls hl => ?_)
              refine lv_iload hx hb dX4_tellBest_76 (lv_at hl 8 rfl) ?_
              refine lv_istore (lv' := [(4, .int v14_7), (6, .int r65), (9, .int r65), (0, .ref (ad 155)), (1, .int a1), (2, .int a2), (3, .int a3), (5, .int v32_5), (7, .int v14_7), (8, .int v32_8)]) hx hb dX4_tellBest_78 hl (by decide) rfl (fun ls hl => ?_)
              refine lv_iload hx hb dX4_tellBest_80 (lv_at hl 9 rfl) ?_
              refine lv_istore (lv' := [(5, .int v32_8), (4, .int v14_7), (6, .int r65), (9, .int r65), (0, .ref (ad 155)), (1, .int a1), (2, .int a2), (3, .int a3), (7, .int v14_7), (8, .int v32_8)]) hx hb dX4_tellBest_82 hl (by decide) rfl (fun ls hl => ?_)
              exact J84 v14_7 v32_8 r65 r65 H locs ls w67 (show 1 ≤ a1.toInt from r16) (show a1.toInt ≤ 9 from t17) (show 0 ≤ a2.toInt from r18) (show a2.toInt ≤ 99999 from t19) (show 0 ≤ a3.toInt from r20) (show a3.toInt ≤ 2 from t21) (show 0 ≤ v14_7.toInt from r27) (show v14_7.toInt ≤ 9 from t28) (show 1 ≤ v32_8.toInt from r29) (show v32_8.toInt ≤ 9 by first | with_reducible assumption | omega) (show r65.toInt ≤ 14007 by first | with_reducible assumption | omega) (show 0 ≤ v14_7.toInt from r27) (show v14_7.toInt ≤ 9 from t28) (show 1 ≤ v32_8.toInt from r29) (show v32_8.toInt ≤ 9 by first | with_reducible assumption | omega) (show 2 ≤ f32_39_8.toInt by first | with_reducible assumption | omega) (show f32_39_8.toInt ≤ 10 from t32)  hw hT hF c71 hM (lv_sub hl [4, 5, 6, 7, 1, 0, 2, 8, 9, 3] rfl)
      replace hM := hM.suc (fun _ => e_X4_tellBest_14)
      refine lv_iload hx hb dX4_tellBest_14 (lv_at hl 7 rfl) ?_
      refine lv_aload_n hx hb dX4_tellBest_16 rfl (lv_at hl 0 rfl) ?_
      refine tk_getA hC hK hw hT hinX4 kC_at155 (by decide) rfl 1 (by decide) (List.mem_cons_of_mem _ uw_5_23) rfl rfl dX4_tellBest_17 ?_
      refine tk_geti hC hK hw hT hinX7 kC_at39 (by decide) rfl 8 (by decide) (List.mem_cons_of_mem _ uw_49_18) rfl rfl dX4_tellBest_20 (fun x73 c74 rx73 tx73 => ?_)
      replace hM := hM.rd (sI_at c74)
      refine lv_icmp_ge (tgt := 96) hx hb dX4_tellBest_23 (by decide) (fun c75 => ?_) (fun c75 => ?_)
      · have c75 : x73.toInt ≤ v14_7.toInt := wk_le.mp c75
        replace hM := hM.pos c75
        refine lv_iload_n hx hb dX4_tellBest_96 rfl (lv_at hl 3 rfl) ?_
        refine lv_iconst (v := 2) hx hb dX4_tellBest_97 (by decide) ?_
        refine lv_icmp_ne (tgt := 104) hx hb dX4_tellBest_98 (by decide) (fun c76 => ?_) (fun c76 => ?_)
        · have c76 : ¬ a3.toInt = (2 : Int) := wk_eqF c76
          replace hM := hM.pos c76
          refine lv_iload_n hx hb dX4_tellBest_104 rfl (lv_at hl 3 rfl) ?_
          refine lv_if_ne (tgt := 113) hx hb dX4_tellBest_105 (by decide) (fun c77 => ?_) (fun c77 => ?_)
          · have c77 : ¬ a3.toInt = (0 : Int) := wk_eqF c77
            replace hM := hM.pos c77
            refine lv_iload hx hb dX4_tellBest_113 (lv_at hl 5 rfl) ?_
            exact tk_iret hC hr hlocks hK ⟨hT, hF, hM.ret rfl, (Or.inr ⟨(show 0 ≤ v14_5.toInt from Int.le_trans (by decide) r10), (show v14_5.toInt ≤ 9 from t11), (show a3.toInt ≤ 1 by first | with_reducible assumption | omega)⟩)⟩ hw dX4_tellBest_115
          · have c77 : a3.toInt = (0 : Int) := wk_eq.mp c77
            replace hM := hM.neg (fun q => q c77)
            refine lv_iload hx hb dX4_tellBest_108 (lv_at hl 4 rfl) ?_
            refine lv_goto (tgt := 115) hx hb dX4_tellBest_110 (by decide) ?_
            exact tk_iret hC hr hlocks hK ⟨hT, hF, hM.ret rfl, (Or.inr ⟨(show 0 ≤ v14_4.toInt from r8), (show v14_4.toInt ≤ 9 from t9), (show a3.toInt ≤ 1 by first | with_reducible assumption | omega)⟩)⟩ hw dX4_tellBest_115
        · have c76 : a3.toInt = (2 : Int) := wk_eq.mp c76
          replace hM := hM.neg (fun q => q c76)
          refine lv_iload hx hb dX4_tellBest_101 (lv_at hl 6 rfl) ?_
          exact tk_iret hC hr hlocks hK ⟨hT, hF, hM.ret rfl, (Or.inl ⟨(show v14_6.toInt ≤ 14007 from t12), (show 2 ≤ a3.toInt by first | with_reducible assumption | omega)⟩)⟩ hw dX4_tellBest_103
      · have c75 : v14_7.toInt < x73.toInt := wk_leF c75
        replace hM := hM.neg (Int.not_le.mpr c75)
        refine lv_iload hx hb dX4_tellBest_26 (lv_at hl 7 rfl) ?_
        refine lv_iconst (v := 1) hx hb dX4_tellBest_28 (by decide) ?_
        refine lv_iadd hx hb dX4_tellBest_29 ?_
        refine lv_topi (fun x78 ex78 => ?_)
        have ezx78 := ex78
        have ex78 : x78.toInt = v14_7.toInt + (1 : Int) := by rw [ex78]; exact wk_add (show (-2147483648) ≤ v14_7.toInt + (1 : Int) by omega) (show v14_7.toInt + (1 : Int) ≤ 2147483647 by omega)
        replace hM := hM.lt ex78.symm
        refine lv_istore (lv' := [(8, .int x78), (0, .ref (ad 155)), (1, .int a1), (2, .int a2), (3, .int a3), (4, .int v14_4), (5, .int v14_5), (6, .int v14_6), (7, .int v14_7)]) hx hb dX4_tellBest_30 hl (by decide) rfl (fun ls hl => ?_)
        exact L32 ((10 - x78.toInt).toNat + 1) v14_4 v14_5 v14_6 x78 x73 H locs ls w1 (show 1 ≤ a1.toInt from r2) (show a1.toInt ≤ 9 from t3) (show 0 ≤ a2.toInt from r4) (show a2.toInt ≤ 99999 from t5) (show 0 ≤ a3.toInt from r6) (show a3.toInt ≤ 2 from t7) (show 0 ≤ v14_4.toInt from r8) (show v14_4.toInt ≤ 9 from t9) (show 1 ≤ v14_5.toInt from r10) (show v14_5.toInt ≤ 9 from t11) (show v14_6.toInt ≤ 14007 from t12) (show 0 ≤ v14_7.toInt from r13) (show v14_7.toInt ≤ 9 by first | with_reducible assumption | omega) (show 1 ≤ x78.toInt by first | with_reducible assumption | omega) (show x78.toInt ≤ 10 by first | with_reducible assumption | omega) (show 1 ≤ x73.toInt by first | with_reducible assumption | omega) (show x73.toInt ≤ 10 from tx73) (Nat.lt_succ_self _) hw hT hF c74 hM (lv_sub hl [1, 2, 3, 4, 5, 6, 7, 8, 0] rfl)
  have hM : TT (fun n => m_X4_tellBest n 155 a1.toInt a2.toInt a3.toInt (sI w0)) (fun n => m_X4_tellBest n 155 a1.toInt a2.toInt a3.toInt (sI w0)) := TT.rf
  refine lv_iconst (v := 0) hx hb dX4_tellBest_0 (by decide) ?_
  refine lv_istore (lv' := [(4, .int 0), (0, .ref (ad 155)), (1, .int a1), (2, .int a2), (3, .int a3)]) hx hb dX4_tellBest_1 hl (by decide) rfl (fun ls hl => ?_)
  refine lv_iconst (v := 1) hx hb dX4_tellBest_3 (by decide) ?_
  refine lv_istore (lv' := [(5, .int 1), (4, .int 0), (0, .ref (ad 155)), (1, .int a1), (2, .int a2), (3, .int a3)]) hx hb dX4_tellBest_4 hl (by decide) rfl (fun ls hl => ?_)
  refine lv_sipush (v := 14007) hx hb dX4_tellBest_6 (by decide) ?_
  refine lv_istore (lv' := [(6, .int 14007), (5, .int 1), (4, .int 0), (0, .ref (ad 155)), (1, .int a1), (2, .int a2), (3, .int a3)]) hx hb dX4_tellBest_9 hl (by decide) rfl (fun ls hl => ?_)
  refine lv_iconst (v := 0) hx hb dX4_tellBest_11 (by decide) ?_
  refine lv_istore (lv' := [(7, .int 0), (6, .int 14007), (5, .int 1), (4, .int 0), (0, .ref (ad 155)), (1, .int a1), (2, .int a2), (3, .int a3)]) hx hb dX4_tellBest_12 hl (by decide) rfl (fun ls hl => ?_)
  exact L14 ((10 - (0 : Int)).toNat + 1) 0 1 14007 0 s.heap locs ls w0 (show 1 ≤ a1.toInt from ra1) (show a1.toInt ≤ 9 from ta1) (show 0 ≤ a2.toInt from ra2) (show a2.toInt ≤ 99999 from ta2) (show 0 ≤ a3.toInt from ra3) (show a3.toInt ≤ 2 from ta3) (by decide) (by decide) (by decide) (by decide) (by decide) (by decide) (by decide) (Nat.lt_succ_self _) hw hT hF hM (lv_sub hl [4, 5, 6, 7, 3, 2, 1, 0] rfl)
abbrev Pz_X11_built_1 (ad : Nat → Nat) (cy : Nat → ClassId) (B : Int) (qr : Nat) (s1 : Int) (a1 : Int32) (a2 : Int32) (a3 : Int32) (w0 : va_W) : Int32 → va_W → Prop := fun r u => TW ksC ad cy B qr s1 u ∧ FE ksC [(24, 0, 26), (25, 0, 13), (26, 0, 91), (27, 0, 13), (28, 0, 26), (31, 0, 13), (48, 0, 10), (49, 0, 10)] w0 u ∧ Ev (fun n => m_X11_built n 0 a1.toInt a2.toInt a3.toInt (sI w0)) (r.toInt, sI u) ∧ ((r.toInt ≤ 14007 ∧ 1 ≤ a1.toInt ∧ a1.toInt ≤ 9 ∧ 0 ≤ a2.toInt ∧ a2.toInt ≤ 99999 ∧ 2 ≤ a3.toInt ∧ a3.toInt ≤ 2 ∧ (∃ y : Int32, gi u 39 8 = y ∧ 1 ≤ y.toInt ∧ y.toInt ≤ 10)) ∨ (0 ≤ r.toInt ∧ r.toInt ≤ 9 ∧ 1 ≤ a1.toInt ∧ a1.toInt ≤ 9 ∧ 0 ≤ a2.toInt ∧ a2.toInt ≤ 99999 ∧ 0 ≤ a3.toInt ∧ a3.toInt ≤ 1 ∧ (∃ y : Int32, gi u 39 8 = y ∧ 1 ≤ y.toInt ∧ y.toInt ≤ 10)) ∨ (r = (-1)))
set_option maxHeartbeats 4000000 in
set_option maxRecDepth 100000 in
theorem kz_X11_built_1 (l : Launch) (adK adV : Nat → Nat) (dC : Nat → ClassId) (dI : Nat → Nat → Nat) (cy : Nat → ClassId) (ad : Nat → Nat) (B : Int) (hB0 : 2147483648 ≤ B) (hB1 : B ≤ 1152921504606846976) (qr : Nat) (s1 : Int)  (a1 : Int32) (a2 : Int32) (a3 : Int32) (w0 : va_W) (sz : Nat) (hT : TW ksC ad cy B qr s1 w0)  : Met l yX11_built (wu yX11_built cX11_built 4 (some .int)) ({ frames := 7, cells := 0, slots := 0, locals := 176 }) (va_Pc [.ref (ad 0), .int a1, .int a2, .int a3] (wpreS adK adV dC dI cy sz w0)) (va_Qi (Pz_X11_built_1 ad cy B qr s1 a1 a2 a3 w0) (fun u : va_W => wpost dC dI cy (va_A w0 sz) u) (va_A w0 sz)) 0 0 (va_A w0 sz) := by
  refine Met.ofW (cc := cX11_built) (maxL := 4) (ret := (some .int)) (by decide) rfl ?_
  intro p e s m args below meth c s₁ Bk hml hv
  obtain ⟨rfl, ⟨hsz, hP, hK, hD0⟩, hE, hSR⟩ := hv
  have hx := Bk.exec
  have hb := Bk.bytes
  have hr := Bk.returns
  have hlocks := Bk.notSynchronized
  have hC : CallFix p m c cX11_built 4 s _ (wu yX11_built cX11_built 4 (some .int)) RX11 := ⟨hx, hb, hml, findClass_of_methodNamed Bk.named, atoms_spec (ws := (wu yX11_built cX11_built 4 (some .int))) Bk.pre⟩
  subst hsz
  have hD := hD0.self (sz := s.heap.size)
  generalize hAe : va_A w0 s.heap.size = A at hD hE ⊢
  have hA : ∀ q : Nat, s.heap.size ≤ q → A q := fun q h => by rw [← hAe]; exact Or.inr h
  have hw : Wd dC dI A s.heap s.heap [] w0 := ⟨hP, hD, va_S.rf⟩
  have hF : FE ksC [(24, 0, 26), (25, 0, 13), (26, 0, 91), (27, 0, 13), (28, 0, 26), (31, 0, 13), (48, 0, 10), (49, 0, 10)] w0 w0 := FE.rf
  have hl := lv_entry ([.ref (ad 0), .int a1, .int a2, .int a3]) (n := 4) (Nat.le_of_ble_eq_true rfl)
  rw [lg_entry_eq]
  generalize (lg_sl ([.ref (ad 0), .int a1, .int a2, .int a3]) ++ List.replicate (4 - (lg_sl ([.ref (ad 0), .int a1, .int a2, .int a3])).length) Slot.unset).toArray = ls at hl ⊢
  have hl : lv_has ls 4 [(0, .ref (ad 0)), (1, .int a1), (2, .int a2), (3, .int a3)] := hl
  generalize hloc : ([] : List Loc) = locs at hw ⊢
  have hinX11 : ∀ w ∈ u_ws RX11 TX11 13, w ∈ (wu yX11_built cX11_built 4 (some .int)) := fun _ h => List.mem_cons_of_mem _ (up_70 h)
  have J28 : ∀ (f28_39_8 : Int32) (H : Heap) (locs : List Loc) (ls : Array Slot) (w1 : va_W), (-1) ≤ f28_39_8.toInt → f28_39_8.toInt ≤ 10 → Wd dC dI A s.heap H locs w1 → TW ksC ad cy B qr s1 w1 → FE ksC [(24, 0, 26), (25, 0, 13), (26, 0, 91), (27, 0, 13), (28, 0, 26), (31, 0, 13), (48, 0, 10), (49, 0, 10)] w0 w1 → gi w1 39 8 = f28_39_8 → TT (fun n => m_X11_built n 0 a1.toInt a2.toInt a3.toInt (sI w0)) (fun n => b_X11_built_28 n 0 (sI w1)) → lv_has ls 4 [(0, .ref (ad 0)), (1, .int a1), (2, .int a2), (3, .int a3)] → W p l e ({ frames := 7, cells := 0, slots := 0, locals := 176 }) s m (List.toArray [.ref (ad 0), .int a1, .int a2, .int a3]) below meth c H locs 0 0 (MQ below (va_Qi (Pz_X11_built_1 ad cy B qr s1 a1 a2 a3 w0) (fun u : va_W => wpost dC dI cy A u) A) (List.toArray [.ref (ad 0), .int a1, .int a2, .int a3]) s 0 0 A) (F0 m 28 ls []) := by
    intro f28_39_8 H locs ls w1 r2 t3 hw hT hF c4 hM hl
    refine lv_iconst (v := (-1)) hx hb dX11_built_28 (by decide) ?_
    exact tk_iret hC hr hlocks hK ⟨hT, hF, hM.ret (by decide), (Or.inr (Or.inr rfl))⟩ hw dX11_built_29
  have J39 : ∀ (f39_39_8 : Int32) (H : Heap) (locs : List Loc) (ls : Array Slot) (w5 : va_W), 1 ≤ a1.toInt → a1.toInt ≤ 9 → 0 ≤ a2.toInt → a2.toInt ≤ 99999 → 1 ≤ f39_39_8.toInt → f39_39_8.toInt ≤ 10 → Wd dC dI A s.heap H locs w5 → TW ksC ad cy B qr s1 w5 → FE ksC [(24, 0, 26), (25, 0, 13), (26, 0, 91), (27, 0, 13), (28, 0, 26), (31, 0, 13), (48, 0, 10), (49, 0, 10)] w0 w5 → gi w5 39 8 = f39_39_8 → TT (fun n => m_X11_built n 0 a1.toInt a2.toInt a3.toInt (sI w0)) (fun n => b_X11_built_39 n 0 (sI w5)) → lv_has ls 4 [(0, .ref (ad 0)), (1, .int a1), (2, .int a2), (3, .int a3)] → W p l e ({ frames := 7, cells := 0, slots := 0, locals := 176 }) s m (List.toArray [.ref (ad 0), .int a1, .int a2, .int a3]) below meth c H locs 0 0 (MQ below (va_Qi (Pz_X11_built_1 ad cy B qr s1 a1 a2 a3 w0) (fun u : va_W => wpost dC dI cy A u) A) (List.toArray [.ref (ad 0), .int a1, .int a2, .int a3]) s 0 0 A) (F0 m 39 ls []) := by
    intro f39_39_8 H locs ls w5 r6 t7 r8 t9 r10 t11 hw hT hF c12 hM hl
    refine lv_iconst (v := (-1)) hx hb dX11_built_39 (by decide) ?_
    refine lv_goto (tgt := 53) hx hb dX11_built_40 (by decide) ?_
    exact tk_iret hC hr hlocks hK ⟨hT, hF, hM.ret (by decide), (Or.inr (Or.inr rfl))⟩ hw dX11_built_53
  have hM : TT (fun n => m_X11_built n 0 a1.toInt a2.toInt a3.toInt (sI w0)) (fun n => m_X11_built n 0 a1.toInt a2.toInt a3.toInt (sI w0)) := TT.rf
  refine lv_aload_n hx hb dX11_built_0 rfl (lv_at hl 0 rfl) ?_
  refine tk_getA hC hK hw hT hinX11 kC_at0 (by decide) rfl 4 (by decide) (List.mem_cons_of_mem _ uw_1_7) rfl rfl dX11_built_1 ?_
  refine tk_Vi hC hK hw hT hA hE hSR kC_at38 (by decide) rfl (kz_X5_hasTown_1 l adK adV dC dI cy ad B hB0 (Int.le_trans hB1 (by decide)) qr s1    w0 s.heap.size hT ) (cwV 0 hC.2.2.2.2 uV_RX11_158 rfl rfl rfl (by decide +kernel) ⟨Nat.le_of_ble_eq_true rfl, Nat.le_of_ble_eq_true rfl⟩) rfl hl.1 rfl (Nat.le_of_ble_eq_true rfl) dX11_built_4 (fun r13 w15 H locs hp14 hw => ?_)
  obtain ⟨hT, k16, hv22, hg21⟩ := hp14
  have hF := hF.tr k16 (by decide)
  rcases hg21 with ⟨rfl, ⟨x17, c18, rx17, tx17⟩⟩ | ⟨rfl, ⟨x19, c20, rx19, tx19⟩⟩
  · replace hM := hM.call (r' := 0) hv22 (by decide)
    refine lv_if_eq (tgt := 28) hx hb dX11_built_7 (by decide) (fun _ => ?_) (fun c => absurd (by decide) c)
    replace hM := hM.pos (by decide)
    exact J28 x17 H locs ls w15 (show (-1) ≤ x17.toInt by first | with_reducible assumption | omega) (show x17.toInt ≤ 10 by first | with_reducible assumption | omega)  hw hT hF c18 hM (lv_sub hl [0, 1, 2, 3] rfl)
  · replace hM := hM.call (r' := 1) hv22 (by decide)
    refine lv_if_eq (tgt := 28) hx hb dX11_built_7 (by decide) (fun c => absurd c (by decide)) (fun _ => ?_)
    replace hM := hM.neg (by decide)
    refine lv_iload_n hx hb dX11_built_10 rfl (lv_at hl 1 rfl) ?_
    refine lv_iconst (v := 1) hx hb dX11_built_11 (by decide) ?_
    refine lv_icmp_lt (tgt := 28) hx hb dX11_built_12 (by decide) (fun c23 => ?_) (fun c23 => ?_)
    · have c23 : a1.toInt < (1 : Int) := wk_lt.mp c23
      replace hM := hM.pos c23
      exact J28 x19 H locs ls w15 (show (-1) ≤ x19.toInt by first | with_reducible assumption | omega) (show x19.toInt ≤ 10 by first | with_reducible assumption | omega)  hw hT hF c20 hM (lv_sub hl [0, 1, 2, 3] rfl)
    · have c23 : (1 : Int) ≤ a1.toInt := wk_ltF c23
      replace hM := hM.neg (Int.not_lt.mpr c23)
      refine lv_iload_n hx hb dX11_built_15 rfl (lv_at hl 1 rfl) ?_
      refine lv_bipush (v := 9) hx hb dX11_built_16 (by decide) ?_
      refine lv_icmp_gt (tgt := 28) hx hb dX11_built_18 (by decide) (fun c24 => ?_) (fun c24 => ?_)
      · have c24 : (9 : Int) < a1.toInt := wk_lt.mp c24
        replace hM := hM.pos c24
        exact J28 x19 H locs ls w15 (show (-1) ≤ x19.toInt by first | with_reducible assumption | omega) (show x19.toInt ≤ 10 by first | with_reducible assumption | omega)  hw hT hF c20 hM (lv_sub hl [0, 1, 2, 3] rfl)
      · have c24 : a1.toInt ≤ (9 : Int) := wk_ltF c24
        replace hM := hM.neg (Int.not_lt.mpr c24)
        refine lv_iload_n hx hb dX11_built_21 rfl (lv_at hl 2 rfl) ?_
        refine tk_Si hC hK hw hT hA hE hSR (kz_X11_isAskedHour_1 l adK adV dC dI cy ad B hB0 (Int.le_trans hB1 (by decide)) qr s1   a2 w15 H.size hT ) (va_cwS 1 hC.2.2.2.2 uS_RX11_222 rfl rfl rfl (by decide +kernel) ⟨Nat.le_of_ble_eq_true rfl, Nat.le_of_ble_eq_true rfl⟩) rfl hl.1 rfl (Nat.le_of_ble_eq_true rfl) dX11_built_22 (fun r25 w27 H locs hp26 hw => ?_)
        obtain ⟨hT, k28, hv32, hg31⟩ := hp26
        have hF := hF.tr k28 (by decide)
        have c33 := k28.gi kC_at39 (by decide) c20
        rcases hg31 with rfl | ⟨rfl, g29, g30⟩
        · replace hM := hM.call (r' := 0) hv32 (by decide)
          refine lv_if_ne (tgt := 30) hx hb dX11_built_25 (by decide) (fun c => absurd (by decide) c) (fun _ => ?_)
          replace hM := hM.neg (by decide)
          exact J28 x19 H locs ls w27 (show (-1) ≤ x19.toInt by first | with_reducible assumption | omega) (show x19.toInt ≤ 10 by first | with_reducible assumption | omega)  hw hT hF c33 hM (lv_sub hl [0, 1, 2, 3] rfl)
        · replace hM := hM.call (r' := 1) hv32 (by decide)
          refine lv_if_ne (tgt := 30) hx hb dX11_built_25 (by decide) (fun _ => ?_) (fun c => absurd c (by decide))
          replace hM := hM.pos (by decide)
          refine lv_iload_n hx hb dX11_built_30 rfl (lv_at hl 3 rfl) ?_
          refine lv_if_lt (tgt := 39) hx hb dX11_built_31 (by decide) (fun c34 => ?_) (fun c34 => ?_)
          · have c34 : a3.toInt < (0 : Int) := wk_lt.mp c34
            replace hM := hM.pos c34
            exact J39 x19 H locs ls w27 (show 1 ≤ a1.toInt by first | with_reducible assumption | omega) (show a1.toInt ≤ 9 by first | with_reducible assumption | omega) (show 0 ≤ a2.toInt by first | with_reducible assumption | omega) (show a2.toInt ≤ 99999 by first | with_reducible assumption | omega) (show 1 ≤ x19.toInt by first | with_reducible assumption | omega) (show x19.toInt ≤ 10 by first | with_reducible assumption | omega)  hw hT hF c33 hM (lv_sub hl [0, 1, 2, 3] rfl)
          · have c34 : (0 : Int) ≤ a3.toInt := wk_ltF c34
            replace hM := hM.neg (Int.not_lt.mpr c34)
            refine lv_iload_n hx hb dX11_built_34 rfl (lv_at hl 3 rfl) ?_
            refine lv_iconst (v := 2) hx hb dX11_built_35 (by decide) ?_
            refine lv_icmp_le (tgt := 43) hx hb dX11_built_36 (by decide) (fun c35 => ?_) (fun c35 => ?_)
            · have c35 : a3.toInt ≤ (2 : Int) := wk_le.mp c35
              replace hM := hM.pos c35
              refine lv_aload_n hx hb dX11_built_43 rfl (lv_at hl 0 rfl) ?_
              refine tk_getA hC hK hw hT hinX11 kC_at0 (by decide) rfl 10 (by decide) (List.mem_cons_of_mem _ uw_2_2) rfl rfl dX11_built_44 ?_
              refine lv_iload_n hx hb dX11_built_47 rfl (lv_at hl 1 rfl) ?_
              refine lv_iload_n hx hb dX11_built_48 rfl (lv_at hl 2 rfl) ?_
              refine lv_iload_n hx hb dX11_built_49 rfl (lv_at hl 3 rfl) ?_
              refine tk_Vi hC hK hw hT hA hE hSR kC_at155 (by decide) rfl (kz_X4_tellBest_1 l adK adV dC dI cy ad B hB0 (Int.le_trans hB1 (by decide)) qr s1   a1 (show 1 ≤ a1.toInt by first | with_reducible assumption | omega) (show a1.toInt ≤ 9 by first | with_reducible assumption | omega) a2 (show 0 ≤ a2.toInt by first | with_reducible assumption | omega) (show a2.toInt ≤ 99999 by first | with_reducible assumption | omega) a3 (show 0 ≤ a3.toInt by first | with_reducible assumption | omega) (show a3.toInt ≤ 2 by first | with_reducible assumption | omega) w27 H.size hT ) (cwV 3 hC.2.2.2.2 uV_RX11_292 rfl rfl rfl (by decide +kernel) ⟨Nat.le_of_ble_eq_true rfl, Nat.le_of_ble_eq_true rfl⟩) rfl hl.1 rfl (Nat.le_of_ble_eq_true rfl) dX11_built_50 (fun r36 w38 H locs hp37 hw => ?_)
              obtain ⟨hT, k39, hv46, hg45⟩ := hp37
              have hF := hF.tr k39 (by decide)
              have c47 := k39.gi kC_at39 (by decide) c33
              rcases hg45 with ⟨g40, g41⟩ | ⟨g42, g43, g44⟩
              · replace hM := hM.call hv46 rfl
                exact tk_iret hC hr hlocks hK ⟨hT, hF, hM.ret rfl, (Or.inl ⟨(show r36.toInt ≤ 14007 by first | with_reducible assumption | omega), (show 1 ≤ a1.toInt by first | with_reducible assumption | omega), (show a1.toInt ≤ 9 by first | with_reducible assumption | omega), (show 0 ≤ a2.toInt by first | with_reducible assumption | omega), (show a2.toInt ≤ 99999 by first | with_reducible assumption | omega), (show 2 ≤ a3.toInt by first | with_reducible assumption | omega), (show a3.toInt ≤ 2 by first | with_reducible assumption | omega), ⟨x19, c47, (show 1 ≤ x19.toInt by first | with_reducible assumption | omega), (show x19.toInt ≤ 10 by first | with_reducible assumption | omega)⟩⟩)⟩ hw dX11_built_53
              · replace hM := hM.call hv46 rfl
                exact tk_iret hC hr hlocks hK ⟨hT, hF, hM.ret rfl, (Or.inr (Or.inl ⟨(show 0 ≤ r36.toInt by first | with_reducible assumption | omega), (show r36.toInt ≤ 9 by first | with_reducible assumption | omega), (show 1 ≤ a1.toInt by first | with_reducible assumption | omega), (show a1.toInt ≤ 9 by first | with_reducible assumption | omega), (show 0 ≤ a2.toInt by first | with_reducible assumption | omega), (show a2.toInt ≤ 99999 by first | with_reducible assumption | omega), (show 0 ≤ a3.toInt by first | with_reducible assumption | omega), (show a3.toInt ≤ 1 by first | with_reducible assumption | omega), ⟨x19, c47, (show 1 ≤ x19.toInt by first | with_reducible assumption | omega), (show x19.toInt ≤ 10 by first | with_reducible assumption | omega)⟩⟩))⟩ hw dX11_built_53
            · have c35 : (2 : Int) < a3.toInt := wk_leF c35
              replace hM := hM.neg (Int.not_le.mpr c35)
              exact J39 x19 H locs ls w27 (show 1 ≤ a1.toInt by first | with_reducible assumption | omega) (show a1.toInt ≤ 9 by first | with_reducible assumption | omega) (show 0 ≤ a2.toInt by first | with_reducible assumption | omega) (show a2.toInt ≤ 99999 by first | with_reducible assumption | omega) (show 1 ≤ x19.toInt by first | with_reducible assumption | omega) (show x19.toInt ≤ 10 by first | with_reducible assumption | omega)  hw hT hF c33 hM (lv_sub hl [0, 1, 2, 3] rfl)
abbrev Pz_X7_cornerAcross_3 (ad : Nat → Nat) (cy : Nat → ClassId) (B : Int) (qr : Nat) (s1 : Int) (a1 : Int32) (a2 : Int32) (w0 : va_W) : Int32 → va_W → Prop := fun r u => TW ksC ad cy B qr s1 u ∧ FE ksC ([] : List (Nat × Nat × Nat)) w0 u ∧ Ev (fun n => m_X7_cornerAcross n 39 a1.toInt a2.toInt (sI w0)) (r.toInt, sI u) ∧ ((0 ≤ r.toInt ∧ r.toInt ≤ 9))
set_option maxHeartbeats 4000000 in
set_option maxRecDepth 100000 in
theorem kz_X7_cornerAcross_3 (l : Launch) (adK adV : Nat → Nat) (dC : Nat → ClassId) (dI : Nat → Nat → Nat) (cy : Nat → ClassId) (ad : Nat → Nat) (B : Int) (hB0 : 2147483648 ≤ B) (hB1 : B ≤ 1152921504606846976) (qr : Nat) (s1 : Int)  (a1 : Int32) (ra1 : 0 ≤ a1.toInt) (ta1 : a1.toInt ≤ 11) (a2 : Int32) (ra2 : 0 ≤ a2.toInt) (ta2 : a2.toInt ≤ 1) (w0 : va_W) (sz : Nat) (hT : TW ksC ad cy B qr s1 w0)  : Met l yX7_cornerAcross (wu yX7_cornerAcross cX7_cornerAcross 3 (some .int)) ({ frames := 1, cells := 0, slots := 0, locals := 12 }) (va_Pc [.ref (ad 39), .int a1, .int a2] (wpreS adK adV dC dI cy sz w0)) (va_Qi (Pz_X7_cornerAcross_3 ad cy B qr s1 a1 a2 w0) (fun u : va_W => wpost dC dI cy (va_A w0 sz) u) (va_A w0 sz)) 0 0 (va_A w0 sz) := by
  refine Met.ofW (cc := cX7_cornerAcross) (maxL := 3) (ret := (some .int)) (by decide) rfl ?_
  intro p e s m args below meth c s₁ Bk hml hv
  obtain ⟨rfl, ⟨hsz, hP, hK, hD0⟩, hE, hSR⟩ := hv
  have hx := Bk.exec
  have hb := Bk.bytes
  have hr := Bk.returns
  have hlocks := Bk.notSynchronized
  have hC : CallFix p m c cX7_cornerAcross 3 s _ (wu yX7_cornerAcross cX7_cornerAcross 3 (some .int)) RX7 := ⟨hx, hb, hml, findClass_of_methodNamed Bk.named, atoms_spec (ws := (wu yX7_cornerAcross cX7_cornerAcross 3 (some .int))) Bk.pre⟩
  subst hsz
  have hD := hD0.self (sz := s.heap.size)
  generalize hAe : va_A w0 s.heap.size = A at hD hE ⊢
  have hA : ∀ q : Nat, s.heap.size ≤ q → A q := fun q h => by rw [← hAe]; exact Or.inr h
  have hw : Wd dC dI A s.heap s.heap [] w0 := ⟨hP, hD, va_S.rf⟩
  have hF : FE ksC ([] : List (Nat × Nat × Nat)) w0 w0 := FE.rf
  have hl := lv_entry ([.ref (ad 39), .int a1, .int a2]) (n := 3) (Nat.le_of_ble_eq_true rfl)
  rw [lg_entry_eq]
  generalize (lg_sl ([.ref (ad 39), .int a1, .int a2]) ++ List.replicate (3 - (lg_sl ([.ref (ad 39), .int a1, .int a2])).length) Slot.unset).toArray = ls at hl ⊢
  have hl : lv_has ls 3 [(0, .ref (ad 39)), (1, .int a1), (2, .int a2)] := hl
  generalize hloc : ([] : List Loc) = locs at hw ⊢
  have hinX7 : ∀ w ∈ u_ws RX7 TX7 12, w ∈ (wu yX7_cornerAcross cX7_cornerAcross 3 (some .int)) := fun _ h => List.mem_cons_of_mem _ (up_73 h)
  have hM : TT (fun n => m_X7_cornerAcross n 39 a1.toInt a2.toInt (sI w0)) (fun n => m_X7_cornerAcross n 39 a1.toInt a2.toInt (sI w0)) := TT.rf
  refine lv_aload_n hx hb dX7_cornerAcross_0 rfl (lv_at hl 0 rfl) ?_
  refine tk_getO hC hK hw hT hinX7 kC_at39 (by decide) rfl 0 (by decide) (List.mem_cons_of_mem _ uw_2_17) rfl rfl dX7_cornerAcross_1 ?_
  refine lv_iconst (v := 2) hx hb dX7_cornerAcross_4 (by decide) ?_
  refine lv_iload_n hx hb dX7_cornerAcross_5 rfl (lv_at hl 1 rfl) ?_
  refine lv_imul hx hb dX7_cornerAcross_6 ?_
  refine lv_topi (fun x1 ex1 => ?_)
  have ezx1 := ex1
  have ex1 : x1.toInt = (2 : Int) * a1.toInt := by rw [ex1]; exact wk_mul (show (-2147483648) ≤ (2 : Int) * a1.toInt by omega) (show (2 : Int) * a1.toInt ≤ 2147483647 by omega)
  replace hM := hM.lt ex1.symm
  refine lv_iconst (v := 1) hx hb dX7_cornerAcross_7 (by decide) ?_
  refine lv_iadd hx hb dX7_cornerAcross_8 ?_
  refine lv_topi (fun x2 ex2 => ?_)
  have ezx2 := ex2
  have ex2 : x2.toInt = x1.toInt + (1 : Int) := by rw [ex2]; exact wk_add (show (-2147483648) ≤ x1.toInt + (1 : Int) by omega) (show x1.toInt + (1 : Int) ≤ 2147483647 by omega)
  replace hM := hM.lt ex2.symm
  refine lv_iload_n hx hb dX7_cornerAcross_9 rfl (lv_at hl 2 rfl) ?_
  refine lv_isub hx hb dX7_cornerAcross_10 ?_
  refine lv_topi (fun x3 ex3 => ?_)
  have ezx3 := ex3
  have ex3 : x3.toInt = x2.toInt - a2.toInt := by rw [ex3]; exact wk_sub (show (-2147483648) ≤ x2.toInt - a2.toInt by omega) (show x2.toInt - a2.toInt ≤ 2147483647 by omega)
  replace hM := hM.lt ex3.symm
  refine tk_iald hC hK hw hT kC_at40 rfl rfl (show 0 ≤ x3.toInt by first | with_reducible assumption | omega) (show x3.toInt < 26 by first | with_reducible assumption | omega) dX7_cornerAcross_11 (fun x4 c5 rx4 tx4 => ?_)
  have hox4 := c5
  replace hM := hM.rd (sI_at hox4)
  have c5 : gi w0 40 (1 * x3.toInt + 0).toNat = x4 := (congrArg (gi w0 40) (congrArg Int.toNat (show 1 * x3.toInt + 0 = x3.toInt by first | exact Int.le_antisymm (by omega) (by omega) | omega))).trans c5
  exact tk_iret hC hr hlocks hK ⟨hT, hF, hM.ret rfl, ⟨(show 0 ≤ x4.toInt from rx4), (show x4.toInt ≤ 9 from tx4)⟩⟩ hw dX7_cornerAcross_12
abbrev Pz_X0_spot_1 (ad : Nat → Nat) (cy : Nat → ClassId) (B : Int) (qr : Nat) (s1 : Int) (a0 : Int32) (a1 : Int32) (a2 : Int32) (w0 : va_W) : Int32 → va_W → Prop := fun r u => TW ksC ad cy B qr s1 u ∧ FE ksC ([] : List (Nat × Nat × Nat)) w0 u ∧ Ev (fun n => m_X0_spot n a0.toInt a1.toInt a2.toInt (sI w0)) (r.toInt, sI u) ∧ ((0 ≤ r.toInt ∧ r.toInt ≤ 399))
set_option maxHeartbeats 4000000 in
set_option maxRecDepth 100000 in
theorem kz_X0_spot_1 (l : Launch) (adK adV : Nat → Nat) (dC : Nat → ClassId) (dI : Nat → Nat → Nat) (cy : Nat → ClassId) (ad : Nat → Nat) (B : Int) (hB0 : 2147483648 ≤ B) (hB1 : B ≤ 1152921504606846976) (qr : Nat) (s1 : Int)  (a0 : Int32) (ra0 : 0 ≤ a0.toInt) (ta0 : a0.toInt ≤ 3) (a1 : Int32) (ra1 : 0 ≤ a1.toInt) (ta1 : a1.toInt ≤ 9) (a2 : Int32) (ra2 : 0 ≤ a2.toInt) (ta2 : a2.toInt ≤ 9) (w0 : va_W) (sz : Nat) (hT : TW ksC ad cy B qr s1 w0)  : Met l yX0_spot (wu yX0_spot cX0_spot 3 (some .int)) ({ frames := 1, cells := 0, slots := 0, locals := 12 }) (va_Pc [.int a0, .int a1, .int a2] (wpreS adK adV dC dI cy sz w0)) (va_Qi (Pz_X0_spot_1 ad cy B qr s1 a0 a1 a2 w0) (fun u : va_W => wpost dC dI cy (va_A w0 sz) u) (va_A w0 sz)) 0 0 (va_A w0 sz) := by
  refine Met.ofW (cc := cX0_spot) (maxL := 3) (ret := (some .int)) (by decide) rfl ?_
  intro p e s m args below meth c s₁ Bk hml hv
  obtain ⟨rfl, ⟨hsz, hP, hK, hD0⟩, hE, hSR⟩ := hv
  have hx := Bk.exec
  have hb := Bk.bytes
  have hr := Bk.returns
  have hlocks := Bk.notSynchronized
  have hC : CallFix p m c cX0_spot 3 s _ (wu yX0_spot cX0_spot 3 (some .int)) RX0 := ⟨hx, hb, hml, findClass_of_methodNamed Bk.named, atoms_spec (ws := (wu yX0_spot cX0_spot 3 (some .int))) Bk.pre⟩
  subst hsz
  have hD := hD0.self (sz := s.heap.size)
  generalize hAe : va_A w0 s.heap.size = A at hD hE ⊢
  have hA : ∀ q : Nat, s.heap.size ≤ q → A q := fun q h => by rw [← hAe]; exact Or.inr h
  have hw : Wd dC dI A s.heap s.heap [] w0 := ⟨hP, hD, va_S.rf⟩
  have hF : FE ksC ([] : List (Nat × Nat × Nat)) w0 w0 := FE.rf
  have hl := lv_entry ([.int a0, .int a1, .int a2]) (n := 3) (Nat.le_of_ble_eq_true rfl)
  rw [lg_entry_eq]
  generalize (lg_sl ([.int a0, .int a1, .int a2]) ++ List.replicate (3 - (lg_sl ([.int a0, .int a1, .int a2])).length) Slot.unset).toArray = ls at hl ⊢
  have hl : lv_has ls 3 [(0, .int a0), (1, .int a1), (2, .int a2)] := hl
  generalize hloc : ([] : List Loc) = locs at hw ⊢
  have hM : TT (fun n => m_X0_spot n a0.toInt a1.toInt a2.toInt (sI w0)) (fun n => m_X0_spot n a0.toInt a1.toInt a2.toInt (sI w0)) := TT.rf
  refine lv_iload_n hx hb dX0_spot_0 rfl (lv_at hl 0 rfl) ?_
  refine lv_bipush (v := 100) hx hb dX0_spot_1 (by decide) ?_
  refine lv_imul hx hb dX0_spot_3 ?_
  refine lv_topi (fun x1 ex1 => ?_)
  have ezx1 := ex1
  have ex1 : x1.toInt = a0.toInt * (100 : Int) := by rw [ex1]; exact wk_mul (show (-2147483648) ≤ a0.toInt * (100 : Int) by omega) (show a0.toInt * (100 : Int) ≤ 2147483647 by omega)
  replace hM := hM.lt ex1.symm
  refine lv_iload_n hx hb dX0_spot_4 rfl (lv_at hl 1 rfl) ?_
  refine lv_bipush (v := 10) hx hb dX0_spot_5 (by decide) ?_
  refine lv_imul hx hb dX0_spot_7 ?_
  refine lv_topi (fun x2 ex2 => ?_)
  have ezx2 := ex2
  have ex2 : x2.toInt = a1.toInt * (10 : Int) := by rw [ex2]; exact wk_mul (show (-2147483648) ≤ a1.toInt * (10 : Int) by omega) (show a1.toInt * (10 : Int) ≤ 2147483647 by omega)
  replace hM := hM.lt ex2.symm
  refine lv_iadd hx hb dX0_spot_8 ?_
  refine lv_topi (fun x3 ex3 => ?_)
  have ezx3 := ex3
  have ex3 : x3.toInt = x1.toInt + x2.toInt := by rw [ex3]; exact wk_add (show (-2147483648) ≤ x1.toInt + x2.toInt by omega) (show x1.toInt + x2.toInt ≤ 2147483647 by omega)
  replace hM := hM.lt ex3.symm
  refine lv_iload_n hx hb dX0_spot_9 rfl (lv_at hl 2 rfl) ?_
  refine lv_iadd hx hb dX0_spot_10 ?_
  refine lv_topi (fun x4 ex4 => ?_)
  have ezx4 := ex4
  have ex4 : x4.toInt = x3.toInt + a2.toInt := by rw [ex4]; exact wk_add (show (-2147483648) ≤ x3.toInt + a2.toInt by omega) (show x3.toInt + a2.toInt ≤ 2147483647 by omega)
  replace hM := hM.lt ex4.symm
  exact tk_iret hC hr hlocks hK ⟨hT, hF, hM.ret rfl, ⟨(show 0 ≤ x4.toInt by first | with_reducible assumption | omega), (show x4.toInt ≤ 399 by first | with_reducible assumption | omega)⟩⟩ hw dX0_spot_11
abbrev Pz_X0_signOf_1 (ad : Nat → Nat) (cy : Nat → ClassId) (B : Int) (qr : Nat) (s1 : Int) (a1 : Int32) (a2 : Int32) (w0 : va_W) : Int32 → va_W → Prop := fun r u => TW ksC ad cy B qr s1 u ∧ FE ksC ([] : List (Nat × Nat × Nat)) w0 u ∧ Ev (fun n => m_X0_signOf n 145 a1.toInt a2.toInt (sI w0)) (r.toInt, sI u) ∧ ((True))
set_option maxHeartbeats 4000000 in
set_option maxRecDepth 100000 in
theorem kz_X0_signOf_1 (l : Launch) (adK adV : Nat → Nat) (dC : Nat → ClassId) (dI : Nat → Nat → Nat) (cy : Nat → ClassId) (ad : Nat → Nat) (B : Int) (hB0 : 2147483648 ≤ B) (hB1 : B ≤ 1152921504606846976) (qr : Nat) (s1 : Int)  (a1 : Int32) (ra1 : 0 ≤ a1.toInt) (ta1 : a1.toInt ≤ 3) (a2 : Int32) (ra2 : 0 ≤ a2.toInt) (ta2 : a2.toInt ≤ 11) (w0 : va_W) (sz : Nat) (hT : TW ksC ad cy B qr s1 w0)  : Met l yX0_signOf (wu yX0_signOf cX0_signOf 3 (some .int)) ({ frames := 1, cells := 0, slots := 0, locals := 12 }) (va_Pc [.ref (ad 145), .int a1, .int a2] (wpreS adK adV dC dI cy sz w0)) (va_Qi (Pz_X0_signOf_1 ad cy B qr s1 a1 a2 w0) (fun u : va_W => wpost dC dI cy (va_A w0 sz) u) (va_A w0 sz)) 0 0 (va_A w0 sz) := by
  refine Met.ofW (cc := cX0_signOf) (maxL := 3) (ret := (some .int)) (by decide) rfl ?_
  intro p e s m args below meth c s₁ Bk hml hv
  obtain ⟨rfl, ⟨hsz, hP, hK, hD0⟩, hE, hSR⟩ := hv
  have hx := Bk.exec
  have hb := Bk.bytes
  have hr := Bk.returns
  have hlocks := Bk.notSynchronized
  have hC : CallFix p m c cX0_signOf 3 s _ (wu yX0_signOf cX0_signOf 3 (some .int)) RX0 := ⟨hx, hb, hml, findClass_of_methodNamed Bk.named, atoms_spec (ws := (wu yX0_signOf cX0_signOf 3 (some .int))) Bk.pre⟩
  subst hsz
  have hD := hD0.self (sz := s.heap.size)
  generalize hAe : va_A w0 s.heap.size = A at hD hE ⊢
  have hA : ∀ q : Nat, s.heap.size ≤ q → A q := fun q h => by rw [← hAe]; exact Or.inr h
  have hw : Wd dC dI A s.heap s.heap [] w0 := ⟨hP, hD, va_S.rf⟩
  have hF : FE ksC ([] : List (Nat × Nat × Nat)) w0 w0 := FE.rf
  have hl := lv_entry ([.ref (ad 145), .int a1, .int a2]) (n := 3) (Nat.le_of_ble_eq_true rfl)
  rw [lg_entry_eq]
  generalize (lg_sl ([.ref (ad 145), .int a1, .int a2]) ++ List.replicate (3 - (lg_sl ([.ref (ad 145), .int a1, .int a2])).length) Slot.unset).toArray = ls at hl ⊢
  have hl : lv_has ls 3 [(0, .ref (ad 145)), (1, .int a1), (2, .int a2)] := hl
  generalize hloc : ([] : List Loc) = locs at hw ⊢
  have hinX0 : ∀ w ∈ u_ws RX0 TX0 4, w ∈ (wu yX0_signOf cX0_signOf 3 (some .int)) := fun _ h => List.mem_cons_of_mem _ (up_77 h)
  have hinX5 : ∀ w ∈ u_ws RX5 TX5 14, w ∈ (wu yX0_signOf cX0_signOf 3 (some .int)) := fun _ h => List.mem_cons_of_mem _ (up_76 h)
  have hM : TT (fun n => m_X0_signOf n 145 a1.toInt a2.toInt (sI w0)) (fun n => m_X0_signOf n 145 a1.toInt a2.toInt (sI w0)) := TT.rf
  refine lv_iload_n hx hb dX0_signOf_0 rfl (lv_at hl 1 rfl) ?_
  refine lv_iconst (v := 4) hx hb dX0_signOf_1 (by decide) ?_
  refine lv_icmp_ge (tgt := 20) hx hb dX0_signOf_2 (by decide) (fun c => absurd c (fun h => absurd (show (4 : Int) ≤ a1.toInt from wk_le.mp h) (by omega))) (fun _ => ?_)
  replace hM := hM.neg (by omega)
  refine lv_aload_n hx hb dX0_signOf_5 rfl (lv_at hl 0 rfl) ?_
  refine tk_getA hC hK hw hT hinX0 kC_at145 (by decide) rfl 0 (by decide) (List.mem_cons_of_mem _ uw_4_17) rfl rfl dX0_signOf_6 ?_
  refine tk_getO hC hK hw hT hinX5 kC_at38 (by decide) rfl 1 (by decide) (List.mem_cons_of_mem _ uw_36_19) rfl rfl dX0_signOf_9 ?_
  refine lv_iload_n hx hb dX0_signOf_12 rfl (lv_at hl 1 rfl) ?_
  refine lv_bipush (v := 12) hx hb dX0_signOf_13 (by decide) ?_
  refine lv_imul hx hb dX0_signOf_15 ?_
  refine lv_topi (fun x1 ex1 => ?_)
  have ezx1 := ex1
  have ex1 : x1.toInt = a1.toInt * (12 : Int) := by rw [ex1]; exact wk_mul (show (-2147483648) ≤ a1.toInt * (12 : Int) by omega) (show a1.toInt * (12 : Int) ≤ 2147483647 by omega)
  replace hM := hM.lt ex1.symm
  refine lv_iload_n hx hb dX0_signOf_16 rfl (lv_at hl 2 rfl) ?_
  refine lv_iadd hx hb dX0_signOf_17 ?_
  refine lv_topi (fun x2 ex2 => ?_)
  have ezx2 := ex2
  have ex2 : x2.toInt = x1.toInt + a2.toInt := by rw [ex2]; exact wk_add (show (-2147483648) ≤ x1.toInt + a2.toInt by omega) (show x1.toInt + a2.toInt ≤ 2147483647 by omega)
  replace hM := hM.lt ex2.symm
  refine tk_iald hC hK hw hT kC_at48 rfl rfl (show 0 ≤ x2.toInt by first | with_reducible assumption | omega) (show x2.toInt < 48 by first | with_reducible assumption | omega) dX0_signOf_18 (fun x3 c4 rx3 tx3 => ?_)
  have hox3 := c4
  replace hM := hM.rd (sI_at hox3)
  exact tk_iret hC hr hlocks hK ⟨hT, hF, hM.ret rfl, trivial⟩ hw dX0_signOf_19
abbrev Pz_X0_drawStreets_1 (ad : Nat → Nat) (cy : Nat → ClassId) (B : Int) (qr : Nat) (s1 : Int) (a1 : Int32) (w0 : va_W) : va_W → Prop := fun u => TW ksC ad cy B qr s1 u ∧ FE ksC [(42, 0, 1100), (43, 0, 1100)] w0 u ∧ Ev (fun n => m_X0_drawStreets n 145 a1.toInt (sI w0)) (0, sI u) ∧ ((True))
set_option maxHeartbeats 4000000 in
set_option maxRecDepth 100000 in
theorem kz_X0_drawStreets_1 (l : Launch) (adK adV : Nat → Nat) (dC : Nat → ClassId) (dI : Nat → Nat → Nat) (cy : Nat → ClassId) (ad : Nat → Nat) (B : Int) (hB0 : 2147483648 ≤ B) (hB1 : B ≤ 1152921504606846976) (qr : Nat) (s1 : Int)  (a1 : Int32) (ra1 : 0 ≤ a1.toInt) (ta1 : a1.toInt ≤ 3) (w0 : va_W) (sz : Nat) (hT : TW ksC ad cy B qr s1 w0)  : Met l yX0_drawStreets (wu yX0_drawStreets cX0_drawStreets 7 none) ({ frames := 2, cells := 0, slots := 0, locals := 34 }) (va_Pc [.ref (ad 145), .int a1] (wpreS adK adV dC dI cy sz w0)) (va_Qv (Pz_X0_drawStreets_1 ad cy B qr s1 a1 w0) (fun u : va_W => wpost dC dI cy (va_A w0 sz) u) (va_A w0 sz)) 0 0 (va_A w0 sz) := by
  refine Met.ofW (cc := cX0_drawStreets) (maxL := 7) (ret := none) (by decide) rfl ?_
  intro p e s m args below meth c s₁ Bk hml hv
  obtain ⟨rfl, ⟨hsz, hP, hK, hD0⟩, hE, hSR⟩ := hv
  have hx := Bk.exec
  have hb := Bk.bytes
  have hr := Bk.returns
  have hlocks := Bk.notSynchronized
  have hC : CallFix p m c cX0_drawStreets 7 s _ (wu yX0_drawStreets cX0_drawStreets 7 none) RX0 := ⟨hx, hb, hml, findClass_of_methodNamed Bk.named, atoms_spec (ws := (wu yX0_drawStreets cX0_drawStreets 7 none)) Bk.pre⟩
  subst hsz
  have hD := hD0.self (sz := s.heap.size)
  generalize hAe : va_A w0 s.heap.size = A at hD hE ⊢
  have hA : ∀ q : Nat, s.heap.size ≤ q → A q := fun q h => by rw [← hAe]; exact Or.inr h
  have hw : Wd dC dI A s.heap s.heap [] w0 := ⟨hP, hD, va_S.rf⟩
  have hF : FE ksC [(42, 0, 1100), (43, 0, 1100)] w0 w0 := FE.rf
  have hl := lv_entry ([.ref (ad 145), .int a1]) (n := 7) (Nat.le_of_ble_eq_true rfl)
  rw [lg_entry_eq]
  generalize (lg_sl ([.ref (ad 145), .int a1]) ++ List.replicate (7 - (lg_sl ([.ref (ad 145), .int a1])).length) Slot.unset).toArray = ls at hl ⊢
  have hl : lv_has ls 7 [(0, .ref (ad 145)), (1, .int a1)] := hl
  generalize hloc : ([] : List Loc) = locs at hw ⊢
  have hinX7 : ∀ w ∈ u_ws RX7 TX7 12, w ∈ (wu yX0_drawStreets cX0_drawStreets 7 none) := fun _ h => List.mem_cons_of_mem _ (up_73 h)
  have hinX0 : ∀ w ∈ u_ws RX0 TX0 4, w ∈ (wu yX0_drawStreets cX0_drawStreets 7 none) := fun _ h => List.mem_cons_of_mem _ (up_77 h)
  have hinX5 : ∀ w ∈ u_ws RX5 TX5 14, w ∈ (wu yX0_drawStreets cX0_drawStreets 7 none) := fun _ h => List.mem_cons_of_mem _ (up_76 h)
  have L72 : ∀ (n72 : Nat) (v72_3 : Int32) (H : Heap) (locs : List Loc) (ls : Array Slot) (w1 : va_W), 0 ≤ a1.toInt → a1.toInt ≤ 3 → 0 ≤ v72_3.toInt → v72_3.toInt ≤ 12 → (12 - v72_3.toInt).toNat < n72 → Wd dC dI A s.heap H locs w1 → TW ksC ad cy B qr s1 w1 → FE ksC [(42, 0, 1100), (43, 0, 1100)] w0 w1 → TT (fun n => m_X0_drawStreets n 145 a1.toInt (sI w0)) (fun n => j_X0_drawStreets 145 n 72 [a1.toInt, v72_3.toInt] (sI w1)) → lv_has ls 7 [(0, .ref (ad 145)), (1, .int a1), (2, .ref (ad 39)), (3, .int v72_3)] → W p l e ({ frames := 2, cells := 0, slots := 0, locals := 34 }) s m (List.toArray [.ref (ad 145), .int a1]) below meth c H locs 0 0 (MQ below (va_Qv (Pz_X0_drawStreets_1 ad cy B qr s1 a1 w0) (fun u : va_W => wpost dC dI cy A u) A) (List.toArray [.ref (ad 145), .int a1]) s 0 0 A) (F0 m 72 ls []) := by
    intro n72
    induction n72 with
    | zero => intro v72_3 H locs ls w1 r2 t3 r4 t5 hm72 hw hT hF hM hl; omega
    | succ n72 ih72 =>
      intro v72_3 H locs ls w1 r2 t3 r4 t5 hm72 hw hT hF hM hl
      have L91 : ∀ (n91 : Nat) (v91_4 : Int32) (v91_5 : Int32) (f91_39_9 : Int32) (H : Heap) (locs : List Loc) (ls : Array Slot) (w6 : va_W), 0 ≤ a1.toInt → a1.toInt ≤ 3 → 0 ≤ v72_3.toInt → v72_3.toInt ≤ 11 → 0 ≤ v91_5.toInt → v91_5.toInt ≤ 2 → 1 ≤ f91_39_9.toInt → f91_39_9.toInt ≤ 12 → (2 - v91_5.toInt).toNat < n91 → Wd dC dI A s.heap H locs w6 → TW ksC ad cy B qr s1 w6 → FE ksC [(42, 0, 1100), (43, 0, 1100)] w0 w6 → gi w6 39 9 = f91_39_9 → TT (fun n => m_X0_drawStreets n 145 a1.toInt (sI w0)) (fun n => j_X0_drawStreets 145 n 91 [a1.toInt, v72_3.toInt, v91_4.toInt, v91_5.toInt] (sI w6)) → lv_has ls 7 [(0, .ref (ad 145)), (1, .int a1), (2, .ref (ad 39)), (3, .int v72_3), (4, .int v91_4), (5, .int v91_5)] → W p l e ({ frames := 2, cells := 0, slots := 0, locals := 34 }) s m (List.toArray [.ref (ad 145), .int a1]) below meth c H locs 0 0 (MQ below (va_Qv (Pz_X0_drawStreets_1 ad cy B qr s1 a1 w0) (fun u : va_W => wpost dC dI cy A u) A) (List.toArray [.ref (ad 145), .int a1]) s 0 0 A) (F0 m 91 ls []) := by
        intro n91
        induction n91 with
        | zero => intro v91_4 v91_5 f91_39_9 H locs ls w6 r7 t8 r9 t10 r11 t12 r13 t14 hm91 hw hT hF c15 hM hl; omega
        | succ n91 ih91 =>
          intro v91_4 v91_5 f91_39_9 H locs ls w6 r7 t8 r9 t10 r11 t12 r13 t14 hm91 hw hT hF c15 hM hl
          have J158 : ∀ (v158_6 : Int32) (H : Heap) (locs : List Loc) (ls : Array Slot) (w16 : va_W), 0 ≤ a1.toInt → a1.toInt ≤ 3 → 0 ≤ v72_3.toInt → v72_3.toInt ≤ 11 → 0 ≤ v91_5.toInt → v91_5.toInt ≤ 1 → 0 ≤ v158_6.toInt → v158_6.toInt ≤ 399 → 1 ≤ f91_39_9.toInt → f91_39_9.toInt ≤ 12 → Wd dC dI A s.heap H locs w16 → TW ksC ad cy B qr s1 w16 → FE ksC [(42, 0, 1100), (43, 0, 1100)] w0 w16 → gi w16 39 9 = f91_39_9 → TT (fun n => m_X0_drawStreets n 145 a1.toInt (sI w0)) (fun n => b_X0_drawStreets_158 (j_X0_drawStreets 145 n) n 145 (a1.toInt) (v72_3.toInt) (v91_4.toInt) (v91_5.toInt) (sI w16)) → lv_has ls 7 [(0, .ref (ad 145)), (1, .int a1), (2, .ref (ad 39)), (3, .int v72_3), (4, .int v91_4), (5, .int v91_5), (6, .int v158_6)] → W p l e ({ frames := 2, cells := 0, slots := 0, locals := 34 }) s m (List.toArray [.ref (ad 145), .int a1]) below meth c H locs 0 0 (MQ below (va_Qv (Pz_X0_drawStreets_1 ad cy B qr s1 a1 w0) (fun u : va_W => wpost dC dI cy A u) A) (List.toArray [.ref (ad 145), .int a1]) s 0 0 A) (F0 m 158 ls []) := by
            intro v158_6 H locs ls w16 r17 t18 r19 t20 r21 t22 r23 t24 r25 t26 hw hT hF c27 hM hl
            obtain ⟨x28, ex28⟩ : ∃ y : Int32, y = v91_5 + Int32.ofInt 1 := ⟨_, rfl⟩
            have erx28 := ex28
            refine lv_iinc (v := x28) (lv' := [(5, .int x28), (0, .ref (ad 145)), (1, .int a1), (2, .ref (ad 39)), (3, .int v72_3), (4, .int v91_4), (6, .int v158_6)]) hx hb dX0_drawStreets_158 hl (k := 5) rfl ex28.symm (by decide) rfl (fun ls hl => ?_)
            have ex28 : x28.toInt = v91_5.toInt + 1 := by rw [ex28]; exact wk_add (y := 1) (show -2147483648 ≤ v91_5.toInt + 1 by omega) (show v91_5.toInt + 1 ≤ 2147483647 by omega)
            replace hM := hM.lt ex28.symm
            refine lv_goto (tgt := 91) hx hb dX0_drawStreets_161 (by decide) ?_
            exact ih91 v91_4 x28 f91_39_9 H locs ls w16 (show 0 ≤ a1.toInt from r17) (show a1.toInt ≤ 3 from t18) (show 0 ≤ v72_3.toInt from r19) (show v72_3.toInt ≤ 11 from t20) (show 0 ≤ x28.toInt by first | with_reducible assumption | omega) (show x28.toInt ≤ 2 by first | with_reducible assumption | omega) (show 1 ≤ f91_39_9.toInt from r25) (show f91_39_9.toInt ≤ 12 from t26) (show (2 - x28.toInt).toNat < n91 by first | exact tn_lt hm91 (by omega) (by omega) | omega) hw hT hF c27 hM (lv_sub hl [1, 2, 3, 4, 5, 0] rfl)
          replace hM := hM.suc (fun _ => e_X0_drawStreets_91)
          refine lv_iload hx hb dX0_drawStreets_91 (lv_at hl 5 rfl) ?_
          refine lv_iconst (v := 2) hx hb dX0_drawStreets_93 (by decide) ?_
          refine lv_icmp_ge (tgt := 164) hx hb dX0_drawStreets_94 (by decide) (fun c29 => ?_) (fun c29 => ?_)
          · have c29 : (2 : Int) ≤ v91_5.toInt := wk_le.mp c29
            replace hM := hM.pos c29
            obtain ⟨x30, ex30⟩ : ∃ y : Int32, y = v72_3 + Int32.ofInt 1 := ⟨_, rfl⟩
            have erx30 := ex30
            refine lv_iinc (v := x30) (lv' := [(3, .int x30), (0, .ref (ad 145)), (1, .int a1), (2, .ref (ad 39)), (4, .int v91_4), (5, .int v91_5)]) hx hb dX0_drawStreets_164 hl (k := 3) rfl ex30.symm (by decide) rfl (fun ls hl => ?_)
            have ex30 : x30.toInt = v72_3.toInt + 1 := by rw [ex30]; exact wk_add (y := 1) (show -2147483648 ≤ v72_3.toInt + 1 by omega) (show v72_3.toInt + 1 ≤ 2147483647 by omega)
            replace hM := hM.lt ex30.symm
            refine lv_goto (tgt := 72) hx hb dX0_drawStreets_167 (by decide) ?_
            exact ih72 x30 H locs ls w6 (show 0 ≤ a1.toInt from r7) (show a1.toInt ≤ 3 from t8) (show 0 ≤ x30.toInt by first | with_reducible assumption | omega) (show x30.toInt ≤ 12 by first | with_reducible assumption | omega) (show (12 - x30.toInt).toNat < n72 by first | exact tn_lt hm72 (by omega) (by omega) | omega) hw hT hF hM (lv_sub hl [1, 2, 3, 0] rfl)
          · have c29 : v91_5.toInt < (2 : Int) := wk_leF c29
            replace hM := hM.neg (Int.not_le.mpr c29)
            refine lv_iload_n hx hb dX0_drawStreets_97 rfl (lv_at hl 1 rfl) ?_
            refine lv_aload_n hx hb dX0_drawStreets_98 rfl (lv_at hl 2 rfl) ?_
            refine lv_iload_n hx hb dX0_drawStreets_99 rfl (lv_at hl 3 rfl) ?_
            refine lv_iconst (v := 1) hx hb dX0_drawStreets_100 (by decide) ?_
            refine lv_iload hx hb dX0_drawStreets_101 (lv_at hl 5 rfl) ?_
            refine lv_isub hx hb dX0_drawStreets_103 ?_
            refine lv_topi (fun x31 ex31 => ?_)
            have ezx31 := ex31
            have ex31 : x31.toInt = (1 : Int) - v91_5.toInt := by rw [ex31]; exact wk_sub (show (-2147483648) ≤ (1 : Int) - v91_5.toInt by omega) (show (1 : Int) - v91_5.toInt ≤ 2147483647 by omega)
            replace hM := hM.lt ex31.symm
            refine tk_Vi hC hK hw hT hA hE hSR kC_at39 (by decide) rfl (kz_X7_cornerAcross_3 l adK adV dC dI cy ad B hB0 (Int.le_trans hB1 (by decide)) qr s1   v72_3 (show 0 ≤ v72_3.toInt from r9) (show v72_3.toInt ≤ 11 from t10) x31 (show 0 ≤ x31.toInt by first | with_reducible assumption | omega) (show x31.toInt ≤ 1 by first | with_reducible assumption | omega) w6 H.size hT ) (cwV 2 hC.2.2.2.2 uV_RX0_71 rfl rfl rfl (by decide +kernel) ⟨Nat.le_of_ble_eq_true rfl, Nat.le_of_ble_eq_true rfl⟩) rfl hl.1 rfl (Nat.le_of_ble_eq_true rfl) dX0_drawStreets_104 (fun r32 w34 H locs hp33 hw => ?_)
            obtain ⟨hT, k35, hv39, hg38⟩ := hp33
            have hF := hF.tr k35 (by decide)
            have c40 := k35.gi kC_at39 (by decide) c15
            obtain ⟨g36, g37⟩ := hg38
            replace hM := hM.call hv39 rfl
            refine lv_aload_n hx hb dX0_drawStreets_107 rfl (lv_at hl 2 rfl) ?_
            refine lv_iload_n hx hb dX0_drawStreets_108 rfl (lv_at hl 3 rfl) ?_
            refine lv_iload hx hb dX0_drawStreets_109 (lv_at hl 5 rfl) ?_
            refine tk_Vi hC hK hw hT hA hE hSR kC_at39 (by decide) rfl (kz_X7_cornerAcross_3 l adK adV dC dI cy ad B hB0 (Int.le_trans hB1 (by decide)) qr s1   v72_3 (show 0 ≤ v72_3.toInt from r9) (show v72_3.toInt ≤ 11 from t10) v91_5 (show 0 ≤ v91_5.toInt from r11) (show v91_5.toInt ≤ 1 by first | with_reducible assumption | omega) w34 H.size hT ) (cwV 2 hC.2.2.2.2 uV_RX0_71 rfl rfl rfl (by decide +kernel) ⟨Nat.le_of_ble_eq_true rfl, Nat.le_of_ble_eq_true rfl⟩) rfl hl.1 rfl (Nat.le_of_ble_eq_true rfl) dX0_drawStreets_111 (fun r41 w43 H locs hp42 hw => ?_)
            obtain ⟨hT, k44, hv48, hg47⟩ := hp42
            have hF := hF.tr k44 (by decide)
            have c49 := k44.gi kC_at39 (by decide) c40
            obtain ⟨g45, g46⟩ := hg47
            replace hM := hM.call hv48 rfl
            refine tk_Si hC hK hw hT hA hE hSR (kz_X0_spot_1 l adK adV dC dI cy ad B hB0 (Int.le_trans hB1 (by decide)) qr s1   a1 (show 0 ≤ a1.toInt from r7) (show a1.toInt ≤ 3 from t8) r32 (show 0 ≤ r32.toInt by first | with_reducible assumption | omega) (show r32.toInt ≤ 9 by first | with_reducible assumption | omega) r41 (show 0 ≤ r41.toInt by first | with_reducible assumption | omega) (show r41.toInt ≤ 9 by first | with_reducible assumption | omega) w43 H.size hT ) (va_cwS 3 hC.2.2.2.2 uS_RX0_47 rfl rfl rfl (by decide +kernel) ⟨Nat.le_of_ble_eq_true rfl, Nat.le_of_ble_eq_true rfl⟩) rfl hl.1 rfl (Nat.le_of_ble_eq_true rfl) dX0_drawStreets_114 (fun r50 w52 H locs hp51 hw => ?_)
            obtain ⟨hT, k53, hv57, hg56⟩ := hp51
            have hF := hF.tr k53 (by decide)
            have c58 := k53.gi kC_at39 (by decide) c49
            obtain ⟨g54, g55⟩ := hg56
            replace hM := hM.call hv57 rfl
            refine lv_istore (lv' := [(6, .int r50), (0, .ref (ad 145)), (1, .int a1), (2, .ref (ad 39)), (3, .int v72_3), (4, .int v91_4), (5, .int v91_5)]) hx hb dX0_drawStreets_117 hl (by decide) rfl (fun ls hl => ?_)
            refine lv_iload hx hb dX0_drawStreets_119 (lv_at hl 5 rfl) ?_
            refine lv_iload hx hb dX0_drawStreets_121 (lv_at hl 6 rfl) ?_
            refine lv_ishr hx hb dX0_drawStreets_123 ?_
            refine lv_topi (fun x59 ex59 => ?_)
            have ezx59 := ex59
            replace hM := hM.lt (o32_e (f := fun x y => x >>> (y &&& 31)) ezx59 rfl rfl)
            refine lv_iconst (v := 1) hx hb dX0_drawStreets_124 (by decide) ?_
            refine lv_iand hx hb dX0_drawStreets_125 ?_
            refine lv_topi (fun x60 ex60 => ?_)
            have ezx60 := ex60
            have bx60 : 0 ≤ x60.toInt ∧ x60.toInt ≤ (1 : Int) := by rw [ex60]; exact wk_and (by decide)
            replace hM := hM.lt (o32_e (f := fun x y => x &&& y) ezx60 rfl (by decide))
            refine lv_if_eq (tgt := 158) hx hb dX0_drawStreets_126 (by decide) (fun c61 => ?_) (fun c61 => ?_)
            · have c61 : x60.toInt = (0 : Int) := wk_eq.mp c61
              replace hM := hM.pos c61
              exact J158 r50 H locs ls w52 (show 0 ≤ a1.toInt from r7) (show a1.toInt ≤ 3 from t8) (show 0 ≤ v72_3.toInt from r9) (show v72_3.toInt ≤ 11 from t10) (show 0 ≤ v91_5.toInt from r11) (show v91_5.toInt ≤ 1 by first | with_reducible assumption | omega) (show 0 ≤ r50.toInt by first | with_reducible assumption | omega) (show r50.toInt ≤ 399 by first | with_reducible assumption | omega) (show 1 ≤ f91_39_9.toInt from r13) (show f91_39_9.toInt ≤ 12 from t14)  hw hT hF c58 hM (lv_sub hl [1, 2, 3, 4, 5, 6, 0] rfl)
            · have c61 : ¬ x60.toInt = (0 : Int) := wk_eqF c61
              replace hM := hM.neg c61
              refine lv_aload_n hx hb dX0_drawStreets_129 rfl (lv_at hl 3 rfl) ?_
              refine tk_getO hC hK hw hT hinX7 kC_at39 (by decide) rfl 1 (by decide) (List.mem_cons_of_mem _ uw_36_11) rfl rfl dX0_drawStreets_130 ?_
              refine lv_iload_n hx hb dX0_drawStreets_133 rfl (lv_at hl 4 rfl) ?_
              refine tk_iald hC hK hw hT kC_at41 rfl rfl (show 0 ≤ v72_3.toInt from r9) (show v72_3.toInt < 13 from Int.lt_of_le_of_lt t10 (by decide)) dX0_drawStreets_134 (fun x62 c63 rx62 tx62 => ?_)
              have hox62 := c63
              replace hM := hM.rd (sI_at hox62)
              refine lv_aload_n hx hb dX0_drawStreets_135 rfl (lv_at hl 1 rfl) ?_
              refine tk_getA hC hK hw hT hinX0 kC_at145 (by decide) rfl 1 (by decide) (List.mem_cons_of_mem _ uw_4_14) rfl rfl dX0_drawStreets_136 ?_
              refine lv_iload hx hb dX0_drawStreets_139 (lv_at hl 0 rfl) ?_
              refine tk_iald hC hK hw hT kC_at146 rfl rfl (show 0 ≤ r50.toInt by first | with_reducible assumption | omega) (show r50.toInt < 1100 by first | with_reducible assumption | omega) dX0_drawStreets_141 (fun x64 c65 rx64 tx64 => ?_)
              have hox64 := c65
              replace hM := hM.rd (sI_at hox64)
              refine lv_icmp_ge (tgt := 158) hx hb dX0_drawStreets_142 (by decide) (fun c66 => ?_) (fun c66 => ?_)
              · have c66 : x64.toInt ≤ x62.toInt := wk_le.mp c66
                replace hM := hM.pos c66
                exact J158 r50 H locs ls w52 (show 0 ≤ a1.toInt from r7) (show a1.toInt ≤ 3 from t8) (show 0 ≤ v72_3.toInt from r9) (show v72_3.toInt ≤ 11 from t10) (show 0 ≤ v91_5.toInt from r11) (show v91_5.toInt ≤ 1 by first | with_reducible assumption | omega) (show 0 ≤ r50.toInt by first | with_reducible assumption | omega) (show r50.toInt ≤ 399 by first | with_reducible assumption | omega) (show 1 ≤ f91_39_9.toInt from r13) (show f91_39_9.toInt ≤ 12 from t14)  hw hT hF c58 hM (lv_sub hl [1, 2, 3, 4, 5, 6, 0] rfl)
              · have c66 : x62.toInt < x64.toInt := wk_leF c66
                replace hM := hM.neg (Int.not_le.mpr c66)
                refine lv_aload_n hx hb dX0_drawStreets_145 rfl (lv_at hl 1 rfl) ?_
                refine tk_getA hC hK hw hT hinX0 kC_at145 (by decide) rfl 1 (by decide) (List.mem_cons_of_mem _ uw_4_14) rfl rfl dX0_drawStreets_146 ?_
                refine lv_iload hx hb dX0_drawStreets_149 (lv_at hl 0 rfl) ?_
                refine lv_aload_n hx hb dX0_drawStreets_151 rfl (lv_at hl 3 rfl) ?_
                refine tk_getO hC hK hw hT hinX7 kC_at39 (by decide) rfl 1 (by decide) (List.mem_cons_of_mem _ uw_36_11) rfl rfl dX0_drawStreets_152 ?_
                refine lv_iload_n hx hb dX0_drawStreets_155 rfl (lv_at hl 4 rfl) ?_
                refine tk_iald hC hK hw hT kC_at41 rfl rfl (show 0 ≤ v72_3.toInt from r9) (show v72_3.toInt < 13 from Int.lt_of_le_of_lt t10 (by decide)) dX0_drawStreets_156 (fun x67 c68 rx67 tx67 => ?_)
                have hox67 := c68
                replace hM := hM.rd (sI_at hox67)
                refine tk_iast hC hK hw hT kC_at146 (by decide) rfl rfl (show 0 ≤ r50.toInt by first | with_reducible assumption | omega) (show r50.toInt < 1100 by first | with_reducible assumption | omega) (show 0 ≤ x67.toInt from rx67) (show x67.toInt ≤ 1000000 from Int.le_trans tx67 (by decide)) dX0_drawStreets_157 (fun H locs w69 hw hT k71 c70 => ?_)
                replace hM := hM.wr (sI_up k71 c70)
                have hF := hF.put kC_at146 (inE_of (a := 0) (b := 1100) (by decide) (show 0 ≤ r50.toInt.toNat by omega) (show r50.toInt.toNat ≤ 1100 by omega)) k71
                have c72 := k71.gi (Or.inl (tk_ne kC_at39 kC_at146 (by decide))) c58
                exact J158 r50 H locs ls w69 (show 0 ≤ a1.toInt from r7) (show a1.toInt ≤ 3 from t8) (show 0 ≤ v72_3.toInt from r9) (show v72_3.toInt ≤ 11 from t10) (show 0 ≤ v91_5.toInt from r11) (show v91_5.toInt ≤ 1 by first | with_reducible assumption | omega) (show 0 ≤ r50.toInt by first | with_reducible assumption | omega) (show r50.toInt ≤ 399 by first | with_reducible assumption | omega) (show 1 ≤ f91_39_9.toInt from r13) (show f91_39_9.toInt ≤ 12 from t14)  hw hT hF c72 hM (lv_sub hl [1, 2, 3, 4, 5, 6, 0] rfl)
      replace hM := hM.suc (fun _ => e_X0_drawStreets_72)
      refine lv_iload_n hx hb dX0_drawStreets_72 rfl (lv_at hl 3 rfl) ?_
      refine lv_aload_n hx hb dX0_drawStreets_73 rfl (lv_at hl 2 rfl) ?_
      refine tk_geti hC hK hw hT hinX7 kC_at39 (by decide) rfl 9 (by decide) (List.mem_cons_of_mem _ uw_36_10) rfl rfl dX0_drawStreets_74 (fun x73 c74 rx73 tx73 => ?_)
      replace hM := hM.rd (sI_at c74)
      refine lv_icmp_ge (tgt := 170) hx hb dX0_drawStreets_77 (by decide) (fun c75 => ?_) (fun c75 => ?_)
      · have c75 : x73.toInt ≤ v72_3.toInt := wk_le.mp c75
        replace hM := hM.pos c75
        exact tk_vret hC hr hlocks hK ⟨hT, hF, hM.ret rfl, trivial⟩ hw dX0_drawStreets_170
      · have c75 : v72_3.toInt < x73.toInt := wk_leF c75
        replace hM := hM.neg (Int.not_le.mpr c75)
        refine lv_aload_n hx hb dX0_drawStreets_80 rfl (lv_at hl 0 rfl) ?_
        refine lv_iload_n hx hb dX0_drawStreets_81 rfl (lv_at hl 1 rfl) ?_
        refine lv_iload_n hx hb dX0_drawStreets_82 rfl (lv_at hl 3 rfl) ?_
        refine tk_Vi hC hK hw hT hA hE hSR kC_at145 (by decide) rfl (kz_X0_signOf_1 l adK adV dC dI cy ad B hB0 (Int.le_trans hB1 (by decide)) qr s1   a1 (show 0 ≤ a1.toInt from r2) (show a1.toInt ≤ 3 from t3) v72_3 (show 0 ≤ v72_3.toInt from r4) (show v72_3.toInt ≤ 11 by first | with_reducible assumption | omega) w1 H.size hT ) (cwV 2 hC.2.2.2.2 uV_RX0_68 rfl rfl rfl (by decide +kernel) ⟨Nat.le_of_ble_eq_true rfl, Nat.le_of_ble_eq_true rfl⟩) rfl hl.1 rfl (Nat.le_of_ble_eq_true rfl) dX0_drawStreets_83 (fun r76 w78 H locs hp77 hw => ?_)
        obtain ⟨hT, k79, hv81, hg80⟩ := hp77
        have hF := hF.tr k79 (by decide)
        have c82 := k79.gi kC_at39 (by decide) c74
        clear hg80
        replace hM := hM.call hv81 rfl
        refine lv_istore (lv' := [(4, .int r76), (0, .ref (ad 145)), (1, .int a1), (2, .ref (ad 39)), (3, .int v72_3)]) hx hb dX0_drawStreets_86 hl (by decide) rfl (fun ls hl => ?_)
        refine lv_iconst (v := 0) hx hb dX0_drawStreets_88 (by decide) ?_
        refine lv_istore (lv' := [(5, .int 0), (4, .int r76), (0, .ref (ad 145)), (1, .int a1), (2, .ref (ad 39)), (3, .int v72_3)]) hx hb dX0_drawStreets_89 hl (by decide) rfl (fun ls hl => ?_)
        exact L91 ((2 - (0 : Int)).toNat + 1) r76 0 x73 H locs ls w78 (show 0 ≤ a1.toInt from r2) (show a1.toInt ≤ 3 from t3) (show 0 ≤ v72_3.toInt from r4) (show v72_3.toInt ≤ 11 by first | with_reducible assumption | omega) (by decide) (by decide) (show 1 ≤ x73.toInt by first | with_reducible assumption | omega) (show x73.toInt ≤ 12 from tx73) (Nat.lt_succ_self _) hw hT hF c82 hM (lv_sub hl [2, 3, 4, 5, 1, 0] rfl)
  have L2 : ∀ (n2 : Nat) (v2_2 : Int32) (H : Heap) (locs : List Loc) (ls : Array Slot) (w83 : va_W), 0 ≤ a1.toInt → a1.toInt ≤ 3 → 0 ≤ v2_2.toInt → v2_2.toInt ≤ 10 → (10 - v2_2.toInt).toNat < n2 → Wd dC dI A s.heap H locs w83 → TW ksC ad cy B qr s1 w83 → FE ksC [(42, 0, 1100), (43, 0, 1100)] w0 w83 → TT (fun n => m_X0_drawStreets n 145 a1.toInt (sI w0)) (fun n => j_X0_drawStreets 145 n 2 [a1.toInt, v2_2.toInt] (sI w83)) → lv_has ls 7 [(0, .ref (ad 145)), (1, .int a1), (2, .int v2_2)] → W p l e ({ frames := 2, cells := 0, slots := 0, locals := 34 }) s m (List.toArray [.ref (ad 145), .int a1]) below meth c H locs 0 0 (MQ below (va_Qv (Pz_X0_drawStreets_1 ad cy B qr s1 a1 w0) (fun u : va_W => wpost dC dI cy A u) A) (List.toArray [.ref (ad 145), .int a1]) s 0 0 A) (F0 m 2 ls []) := by
    intro n2
    induction n2 with
    | zero => intro v2_2 H locs ls w83 r84 t85 r86 t87 hm2 hw hT hF hM hl; omega
    | succ n2 ih2 =>
      intro v2_2 H locs ls w83 r84 t85 r86 t87 hm2 hw hT hF hM hl
      have L10 : ∀ (n10 : Nat) (v10_3 : Int32) (H : Heap) (locs : List Loc) (ls : Array Slot) (w88 : va_W), 0 ≤ a1.toInt → a1.toInt ≤ 3 → 0 ≤ v2_2.toInt → v2_2.toInt ≤ 9 → 0 ≤ v10_3.toInt → v10_3.toInt ≤ 10 → (10 - v10_3.toInt).toNat < n10 → Wd dC dI A s.heap H locs w88 → TW ksC ad cy B qr s1 w88 → FE ksC [(42, 0, 1100), (43, 0, 1100)] w0 w88 → TT (fun n => m_X0_drawStreets n 145 a1.toInt (sI w0)) (fun n => j_X0_drawStreets 145 n 10 [a1.toInt, v2_2.toInt, v10_3.toInt] (sI w88)) → lv_has ls 7 [(0, .ref (ad 145)), (1, .int a1), (2, .int v2_2), (3, .int v10_3)] → W p l e ({ frames := 2, cells := 0, slots := 0, locals := 34 }) s m (List.toArray [.ref (ad 145), .int a1]) below meth c H locs 0 0 (MQ below (va_Qv (Pz_X0_drawStreets_1 ad cy B qr s1 a1 w0) (fun u : va_W => wpost dC dI cy A u) A) (List.toArray [.ref (ad 145), .int a1]) s 0 0 A) (F0 m 10 ls []) := by
        intro n10
        induction n10 with
        | zero => intro v10_3 H locs ls w88 r89 t90 r91 t92 r93 t94 hm10 hw hT hF hM hl; omega
        | succ n10 ih10 =>
          intro v10_3 H locs ls w88 r89 t90 r91 t92 r93 t94 hm10 hw hT hF hM hl
          replace hM := hM.suc (fun _ => e_X0_drawStreets_10)
          refine lv_iload_n hx hb dX0_drawStreets_10 rfl (lv_at hl 3 rfl) ?_
          refine lv_bipush (v := 10) hx hb dX0_drawStreets_11 (by decide) ?_
          refine lv_icmp_ge (tgt := 56) hx hb dX0_drawStreets_13 (by decide) (fun c95 => ?_) (fun c95 => ?_)
          · have c95 : (10 : Int) ≤ v10_3.toInt := wk_le.mp c95
            replace hM := hM.pos c95
            obtain ⟨x96, ex96⟩ : ∃ y : Int32, y = v2_2 + Int32.ofInt 1 := ⟨_, rfl⟩
            have erx96 := ex96
            refine lv_iinc (v := x96) (lv' := [(2, .int x96), (0, .ref (ad 145)), (1, .int a1), (3, .int v10_3)]) hx hb dX0_drawStreets_56 hl (k := 2) rfl ex96.symm (by decide) rfl (fun ls hl => ?_)
            have ex96 : x96.toInt = v2_2.toInt + 1 := by rw [ex96]; exact wk_add (y := 1) (show -2147483648 ≤ v2_2.toInt + 1 by omega) (show v2_2.toInt + 1 ≤ 2147483647 by omega)
            replace hM := hM.lt ex96.symm
            refine lv_goto (tgt := 2) hx hb dX0_drawStreets_59 (by decide) ?_
            exact ih2 x96 H locs ls w88 (show 0 ≤ a1.toInt from r89) (show a1.toInt ≤ 3 from t90) (show 0 ≤ x96.toInt by first | with_reducible assumption | omega) (show x96.toInt ≤ 10 by first | with_reducible assumption | omega) (show (10 - x96.toInt).toNat < n2 by first | exact tn_lt hm2 (by omega) (by omega) | omega) hw hT hF hM (lv_sub hl [1, 2, 0] rfl)
          · have c95 : v10_3.toInt < (10 : Int) := wk_leF c95
            replace hM := hM.neg (Int.not_le.mpr c95)
            refine lv_aload_n hx hb dX0_drawStreets_16 rfl (lv_at hl 0 rfl) ?_
            refine tk_getA hC hK hw hT hinX0 kC_at145 (by decide) rfl 1 (by decide) (List.mem_cons_of_mem _ uw_4_14) rfl rfl dX0_drawStreets_17 ?_
            refine lv_iload_n hx hb dX0_drawStreets_20 rfl (lv_at hl 1 rfl) ?_
            refine lv_iload_n hx hb dX0_drawStreets_21 rfl (lv_at hl 2 rfl) ?_
            refine lv_iload_n hx hb dX0_drawStreets_22 rfl (lv_at hl 3 rfl) ?_
            refine tk_Si hC hK hw hT hA hE hSR (kz_X0_spot_1 l adK adV dC dI cy ad B hB0 (Int.le_trans hB1 (by decide)) qr s1   a1 (show 0 ≤ a1.toInt from r89) (show a1.toInt ≤ 3 from t90) v2_2 (show 0 ≤ v2_2.toInt from r91) (show v2_2.toInt ≤ 9 from t92) v10_3 (show 0 ≤ v10_3.toInt from r93) (show v10_3.toInt ≤ 9 by first | with_reducible assumption | omega) w88 H.size hT ) (va_cwS 3 hC.2.2.2.2 uS_RX0_47 rfl rfl rfl (by decide +kernel) ⟨Nat.le_of_ble_eq_true rfl, Nat.le_of_ble_eq_true rfl⟩) rfl hl.1 rfl (Nat.le_of_ble_eq_true rfl) dX0_drawStreets_23 (fun r97 w99 H locs hp98 hw => ?_)
            obtain ⟨hT, k100, hv104, hg103⟩ := hp98
            have hF := hF.tr k100 (by decide)
            obtain ⟨g101, g102⟩ := hg103
            replace hM := hM.call hv104 rfl
            refine lv_iload_n hx hb dX0_drawStreets_26 rfl (lv_at hl 2 rfl) ?_
            refine lv_iload_n hx hb dX0_drawStreets_27 rfl (lv_at hl 3 rfl) ?_
            refine lv_icmp_ne (tgt := 35) hx hb dX0_drawStreets_28 (by decide) (fun c105 => ?_) (fun c105 => ?_)
            · have c105 : ¬ v2_2.toInt = v10_3.toInt := wk_eqF c105
              replace hM := hM.pos c105
              refine lv_ldc (v := 1000000) hx hb hC.2.2.2.1 (hC.2.2.2.2 _ (List.mem_cons_of_mem _ uw_36_8)) dX0_drawStreets_35 ?_
              refine tk_iast hC hK hw hT kC_at146 (by decide) rfl rfl (show 0 ≤ r97.toInt by first | with_reducible assumption | omega) (show r97.toInt < 1100 by first | with_reducible assumption | omega) (by decide) (by decide) dX0_drawStreets_37 (fun H locs w106 hw hT k108 c107 => ?_)
              replace hM := hM.wr (sI_upc k108 c107 (by decide))
              have hF := hF.put kC_at146 (inE_of (a := 0) (b := 1100) (by decide) (show 0 ≤ r97.toInt.toNat by omega) (show r97.toInt.toNat ≤ 1100 by omega)) k108
              refine lv_aload_n hx hb dX0_drawStreets_38 rfl (lv_at hl 0 rfl) ?_
              refine tk_getA hC hK hw hT hinX0 kC_at145 (by decide) rfl 2 (by decide) (List.mem_cons_of_mem _ uw_4_15) rfl rfl dX0_drawStreets_39 ?_
              refine lv_iload_n hx hb dX0_drawStreets_42 rfl (lv_at hl 1 rfl) ?_
              refine lv_iload_n hx hb dX0_drawStreets_43 rfl (lv_at hl 2 rfl) ?_
              refine lv_iload_n hx hb dX0_drawStreets_44 rfl (lv_at hl 3 rfl) ?_
              refine tk_Si hC hK hw hT hA hE hSR (kz_X0_spot_1 l adK adV dC dI cy ad B hB0 (Int.le_trans hB1 (by decide)) qr s1   a1 (show 0 ≤ a1.toInt from r89) (show a1.toInt ≤ 3 from t90) v2_2 (show 0 ≤ v2_2.toInt from r91) (show v2_2.toInt ≤ 9 from t92) v10_3 (show 0 ≤ v10_3.toInt from r93) (show v10_3.toInt ≤ 9 by first | with_reducible assumption | omega) w106 H.size hT ) (va_cwS 3 hC.2.2.2.2 uS_RX0_47 rfl rfl rfl (by decide +kernel) ⟨Nat.le_of_ble_eq_true rfl, Nat.le_of_ble_eq_true rfl⟩) rfl hl.1 rfl (Nat.le_of_ble_eq_true rfl) dX0_drawStreets_45 (fun r109 w111 H locs hp110 hw => ?_)
              obtain ⟨hT, k112, hv116, hg115⟩ := hp110
              have hF := hF.tr k112 (by decide)
              obtain ⟨g113, g114⟩ := hg115
              replace hM := hM.call hv116 rfl
              refine lv_iconst (v := (-1)) hx hb dX0_drawStreets_48 (by decide) ?_
              refine tk_iast hC hK hw hT kC_at147 (by decide) rfl rfl (show 0 ≤ r109.toInt by first | with_reducible assumption | omega) (show r109.toInt < 1100 by first | with_reducible assumption | omega) (by decide) (by decide) dX0_drawStreets_49 (fun H locs w117 hw hT k119 c118 => ?_)
              replace hM := hM.wr (sI_upc k119 c118 (by decide))
              have hF := hF.put kC_at147 (inE_of (a := 0) (b := 1100) (by decide) (show 0 ≤ r109.toInt.toNat by omega) (show r109.toInt.toNat ≤ 1100 by omega)) k119
              obtain ⟨x120, ex120⟩ : ∃ y : Int32, y = v10_3 + Int32.ofInt 1 := ⟨_, rfl⟩
              have erx120 := ex120
              refine lv_iinc (v := x120) (lv' := [(3, .int x120), (0, .ref (ad 145)), (1, .int a1), (2, .int v2_2)]) hx hb dX0_drawStreets_50 hl (k := 3) rfl ex120.symm (by decide) rfl (fun ls hl => ?_)
              have ex120 : x120.toInt = v10_3.toInt + 1 := by rw [ex120]; exact wk_add (y := 1) (show -2147483648 ≤ v10_3.toInt + 1 by omega) (show v10_3.toInt + 1 ≤ 2147483647 by omega)
              replace hM := hM.lt ex120.symm
              refine lv_goto (tgt := 10) hx hb dX0_drawStreets_53 (by decide) ?_
              exact ih10 x120 H locs ls w117 (show 0 ≤ a1.toInt from r89) (show a1.toInt ≤ 3 from t90) (show 0 ≤ v2_2.toInt from r91) (show v2_2.toInt ≤ 9 from t92) (show 0 ≤ x120.toInt by first | with_reducible assumption | omega) (show x120.toInt ≤ 10 by first | with_reducible assumption | omega) (show (10 - x120.toInt).toNat < n10 by first | exact tn_lt hm10 (by omega) (by omega) | omega) hw hT hF hM (lv_sub hl [1, 2, 3, 0] rfl)
            · have c105 : v2_2.toInt = v10_3.toInt := wk_eq.mp c105
              replace hM := hM.neg (fun q => q c105)
              refine lv_iconst (v := 0) hx hb dX0_drawStreets_31 (by decide) ?_
              refine lv_goto (tgt := 37) hx hb dX0_drawStreets_32 (by decide) ?_
              refine tk_iast hC hK hw hT kC_at146 (by decide) rfl rfl (show 0 ≤ r97.toInt by first | with_reducible assumption | omega) (show r97.toInt < 1100 by first | with_reducible assumption | omega) (by decide) (by decide) dX0_drawStreets_37 (fun H locs w121 hw hT k123 c122 => ?_)
              replace hM := hM.wr (sI_upc k123 c122 (by decide))
              have hF := hF.put kC_at146 (inE_of (a := 0) (b := 1100) (by decide) (show 0 ≤ r97.toInt.toNat by omega) (show r97.toInt.toNat ≤ 1100 by omega)) k123
              refine lv_aload_n hx hb dX0_drawStreets_38 rfl (lv_at hl 0 rfl) ?_
              refine tk_getA hC hK hw hT hinX0 kC_at145 (by decide) rfl 2 (by decide) (List.mem_cons_of_mem _ uw_4_15) rfl rfl dX0_drawStreets_39 ?_
              refine lv_iload_n hx hb dX0_drawStreets_42 rfl (lv_at hl 1 rfl) ?_
              refine lv_iload_n hx hb dX0_drawStreets_43 rfl (lv_at hl 2 rfl) ?_
              refine lv_iload_n hx hb dX0_drawStreets_44 rfl (lv_at hl 3 rfl) ?_
              refine tk_Si hC hK hw hT hA hE hSR (kz_X0_spot_1 l adK adV dC dI cy ad B hB0 (Int.le_trans hB1 (by decide)) qr s1   a1 (show 0 ≤ a1.toInt from r89) (show a1.toInt ≤ 3 from t90) v2_2 (show 0 ≤ v2_2.toInt from r91) (show v2_2.toInt ≤ 9 from t92) v10_3 (show 0 ≤ v10_3.toInt from r93) (show v10_3.toInt ≤ 9 by first | with_reducible assumption | omega) w121 H.size hT ) (va_cwS 3 hC.2.2.2.2 uS_RX0_47 rfl rfl rfl (by decide +kernel) ⟨Nat.le_of_ble_eq_true rfl, Nat.le_of_ble_eq_true rfl⟩) rfl hl.1 rfl (Nat.le_of_ble_eq_true rfl) dX0_drawStreets_45 (fun r124 w126 H locs hp125 hw => ?_)
              obtain ⟨hT, k127, hv131, hg130⟩ := hp125
              have hF := hF.tr k127 (by decide)
              obtain ⟨g128, g129⟩ := hg130
              replace hM := hM.call hv131 rfl
              refine lv_iconst (v := (-1)) hx hb dX0_drawStreets_48 (by decide) ?_
              refine tk_iast hC hK hw hT kC_at147 (by decide) rfl rfl (show 0 ≤ r124.toInt by first | with_reducible assumption | omega) (show r124.toInt < 1100 by first | with_reducible assumption | omega) (by decide) (by decide) dX0_drawStreets_49 (fun H locs w132 hw hT k134 c133 => ?_)
              replace hM := hM.wr (sI_upc k134 c133 (by decide))
              have hF := hF.put kC_at147 (inE_of (a := 0) (b := 1100) (by decide) (show 0 ≤ r124.toInt.toNat by omega) (show r124.toInt.toNat ≤ 1100 by omega)) k134
              obtain ⟨x135, ex135⟩ : ∃ y : Int32, y = v10_3 + Int32.ofInt 1 := ⟨_, rfl⟩
              have erx135 := ex135
              refine lv_iinc (v := x135) (lv' := [(3, .int x135), (0, .ref (ad 145)), (1, .int a1), (2, .int v2_2)]) hx hb dX0_drawStreets_50 hl (k := 3) rfl ex135.symm (by decide) rfl (fun ls hl => ?_)
              have ex135 : x135.toInt = v10_3.toInt + 1 := by rw [ex135]; exact wk_add (y := 1) (show -2147483648 ≤ v10_3.toInt + 1 by omega) (show v10_3.toInt + 1 ≤ 2147483647 by omega)
              replace hM := hM.lt ex135.symm
              refine lv_goto (tgt := 10) hx hb dX0_drawStreets_53 (by decide) ?_
              exact ih10 x135 H locs ls w132 (show 0 ≤ a1.toInt from r89) (show a1.toInt ≤ 3 from t90) (show 0 ≤ v2_2.toInt from r91) (show v2_2.toInt ≤ 9 from t92) (show 0 ≤ x135.toInt by first | with_reducible assumption | omega) (show x135.toInt ≤ 10 by first | with_reducible assumption | omega) (show (10 - x135.toInt).toNat < n10 by first | exact tn_lt hm10 (by omega) (by omega) | omega) hw hT hF hM (lv_sub hl [1, 2, 3, 0] rfl)
      replace hM := hM.suc (fun _ => e_X0_drawStreets_2)
      refine lv_iload_n hx hb dX0_drawStreets_2 rfl (lv_at hl 2 rfl) ?_
      refine lv_bipush (v := 10) hx hb dX0_drawStreets_3 (by decide) ?_
      refine lv_icmp_ge (tgt := 62) hx hb dX0_drawStreets_5 (by decide) (fun c136 => ?_) (fun c136 => ?_)
      · have c136 : (10 : Int) ≤ v2_2.toInt := wk_le.mp c136
        replace hM := hM.pos c136
        refine lv_aload_n hx hb dX0_drawStreets_62 rfl (lv_at hl 0 rfl) ?_
        refine tk_getA hC hK hw hT hinX0 kC_at145 (by decide) rfl 0 (by decide) (List.mem_cons_of_mem _ uw_4_17) rfl rfl dX0_drawStreets_63 ?_
        refine tk_getO hC hK hw hT hinX5 kC_at38 (by decide) rfl 0 (by decide) (List.mem_cons_of_mem _ uw_36_9) rfl rfl dX0_drawStreets_66 ?_
        refine lv_astore_n (lv' := [(2, .ref (ad 39)), (0, .ref (ad 145)), (1, .int a1)]) hx hb dX0_drawStreets_69 rfl hl (by decide) rfl (fun ls hl => ?_)
        refine lv_iconst (v := 0) hx hb dX0_drawStreets_70 (by decide) ?_
        refine lv_istore_n (lv' := [(3, .int 0), (2, .ref (ad 39)), (0, .ref (ad 145)), (1, .int a1)]) hx hb dX0_drawStreets_71 rfl hl (by decide) rfl (fun ls hl => ?_)
        exact L72 ((12 - (0 : Int)).toNat + 1) 0 H locs ls w83 (show 0 ≤ a1.toInt from r84) (show a1.toInt ≤ 3 from t85) (by decide) (by decide) (Nat.lt_succ_self _) hw hT hF hM (lv_sub hl [2, 3, 1, 0] rfl)
      · have c136 : v2_2.toInt < (10 : Int) := wk_leF c136
        replace hM := hM.neg (Int.not_le.mpr c136)
        refine lv_iconst (v := 0) hx hb dX0_drawStreets_8 (by decide) ?_
        refine lv_istore_n (lv' := [(3, .int 0), (0, .ref (ad 145)), (1, .int a1), (2, .int v2_2)]) hx hb dX0_drawStreets_9 rfl hl (by decide) rfl (fun ls hl => ?_)
        exact L10 ((10 - (0 : Int)).toNat + 1) 0 H locs ls w83 (show 0 ≤ a1.toInt from r84) (show a1.toInt ≤ 3 from t85) (show 0 ≤ v2_2.toInt from r86) (show v2_2.toInt ≤ 9 by first | with_reducible assumption | omega) (by decide) (by decide) (Nat.lt_succ_self _) hw hT hF hM (lv_sub hl [1, 2, 3, 0] rfl)
  have hM : TT (fun n => m_X0_drawStreets n 145 a1.toInt (sI w0)) (fun n => m_X0_drawStreets n 145 a1.toInt (sI w0)) := TT.rf
  refine lv_iconst (v := 0) hx hb dX0_drawStreets_0 (by decide) ?_
  refine lv_istore_n (lv' := [(2, .int 0), (0, .ref (ad 145)), (1, .int a1)]) hx hb dX0_drawStreets_1 rfl hl (by decide) rfl (fun ls hl => ?_)
  exact L2 ((10 - (0 : Int)).toNat + 1) 0 s.heap locs ls w0 (show 0 ≤ a1.toInt from ra1) (show a1.toInt ≤ 3 from ta1) (by decide) (by decide) (Nat.lt_succ_self _) hw hT hF hM (lv_sub hl [1, 2, 0] rfl)
abbrev Pz_X0_drawHours_1 (ad : Nat → Nat) (cy : Nat → ClassId) (B : Int) (qr : Nat) (s1 : Int) (a1 : Int32) (w0 : va_W) : va_W → Prop := fun u => TW ksC ad cy B qr s1 u ∧ FE ksC [(42, 0, 1100)] w0 u ∧ Ev (fun n => m_X0_drawHours n 145 a1.toInt (sI w0)) (0, sI u) ∧ ((True))
set_option maxHeartbeats 4000000 in
set_option maxRecDepth 100000 in
theorem kz_X0_drawHours_1 (l : Launch) (adK adV : Nat → Nat) (dC : Nat → ClassId) (dI : Nat → Nat → Nat) (cy : Nat → ClassId) (ad : Nat → Nat) (B : Int) (hB0 : 2147483648 ≤ B) (hB1 : B ≤ 1152921504606846976) (qr : Nat) (s1 : Int)  (a1 : Int32) (ra1 : 0 ≤ a1.toInt) (ta1 : a1.toInt ≤ 3) (w0 : va_W) (sz : Nat) (hT : TW ksC ad cy B qr s1 w0)  : Met l yX0_drawHours (wu yX0_drawHours cX0_drawHours 9 none) ({ frames := 2, cells := 0, slots := 0, locals := 34 }) (va_Pc [.ref (ad 145), .int a1] (wpreS adK adV dC dI cy sz w0)) (va_Qv (Pz_X0_drawHours_1 ad cy B qr s1 a1 w0) (fun u : va_W => wpost dC dI cy (va_A w0 sz) u) (va_A w0 sz)) 0 0 (va_A w0 sz) := by
  refine Met.ofW (cc := cX0_drawHours) (maxL := 9) (ret := none) (by decide) rfl ?_
  intro p e s m args below meth c s₁ Bk hml hv
  obtain ⟨rfl, ⟨hsz, hP, hK, hD0⟩, hE, hSR⟩ := hv
  have hx := Bk.exec
  have hb := Bk.bytes
  have hr := Bk.returns
  have hlocks := Bk.notSynchronized
  have hC : CallFix p m c cX0_drawHours 9 s _ (wu yX0_drawHours cX0_drawHours 9 none) RX0 := ⟨hx, hb, hml, findClass_of_methodNamed Bk.named, atoms_spec (ws := (wu yX0_drawHours cX0_drawHours 9 none)) Bk.pre⟩
  subst hsz
  have hD := hD0.self (sz := s.heap.size)
  generalize hAe : va_A w0 s.heap.size = A at hD hE ⊢
  have hA : ∀ q : Nat, s.heap.size ≤ q → A q := fun q h => by rw [← hAe]; exact Or.inr h
  have hw : Wd dC dI A s.heap s.heap [] w0 := ⟨hP, hD, va_S.rf⟩
  have hF : FE ksC [(42, 0, 1100)] w0 w0 := FE.rf
  have hl := lv_entry ([.ref (ad 145), .int a1]) (n := 9) (Nat.le_of_ble_eq_true rfl)
  rw [lg_entry_eq]
  generalize (lg_sl ([.ref (ad 145), .int a1]) ++ List.replicate (9 - (lg_sl ([.ref (ad 145), .int a1])).length) Slot.unset).toArray = ls at hl ⊢
  have hl : lv_has ls 9 [(0, .ref (ad 145)), (1, .int a1)] := hl
  generalize hloc : ([] : List Loc) = locs at hw ⊢
  have hinX0 : ∀ w ∈ u_ws RX0 TX0 4, w ∈ (wu yX0_drawHours cX0_drawHours 9 none) := fun _ h => List.mem_cons_of_mem _ (up_77 h)
  have hinX5 : ∀ w ∈ u_ws RX5 TX5 14, w ∈ (wu yX0_drawHours cX0_drawHours 9 none) := fun _ h => List.mem_cons_of_mem _ (up_76 h)
  have hinX7 : ∀ w ∈ u_ws RX7 TX7 12, w ∈ (wu yX0_drawHours cX0_drawHours 9 none) := fun _ h => List.mem_cons_of_mem _ (up_73 h)
  have L13 : ∀ (n13 : Nat) (v13_2 : Int32) (v13_3 : Int32) (f13_39_8 : Int32) (H : Heap) (locs : List Loc) (ls : Array Slot) (w1 : va_W), 0 ≤ a1.toInt → a1.toInt ≤ 3 → (-1) ≤ v13_2.toInt → v13_2.toInt ≤ 10 → 0 ≤ v13_3.toInt → v13_3.toInt ≤ 10 → (-1) ≤ f13_39_8.toInt → f13_39_8.toInt ≤ 10 → (10 - v13_3.toInt).toNat < n13 → Wd dC dI A s.heap H locs w1 → TW ksC ad cy B qr s1 w1 → FE ksC [(42, 0, 1100)] w0 w1 → gi w1 39 8 = f13_39_8 → TT (fun n => m_X0_drawHours n 145 a1.toInt (sI w0)) (fun n => j_X0_drawHours 145 n 13 [a1.toInt, v13_2.toInt, v13_3.toInt] (sI w1)) → lv_has ls 9 [(0, .ref (ad 145)), (1, .int a1), (2, .int v13_2), (3, .int v13_3)] → W p l e ({ frames := 2, cells := 0, slots := 0, locals := 34 }) s m (List.toArray [.ref (ad 145), .int a1]) below meth c H locs 0 0 (MQ below (va_Qv (Pz_X0_drawHours_1 ad cy B qr s1 a1 w0) (fun u : va_W => wpost dC dI cy A u) A) (List.toArray [.ref (ad 145), .int a1]) s 0 0 A) (F0 m 13 ls []) := by
    intro n13
    induction n13 with
    | zero => intro v13_2 v13_3 f13_39_8 H locs ls w1 r2 t3 r4 t5 r6 t7 r8 t9 hm13 hw hT hF c10 hM hl; omega
    | succ n13 ih13 =>
      intro v13_2 v13_3 f13_39_8 H locs ls w1 r2 t3 r4 t5 r6 t7 r8 t9 hm13 hw hT hF c10 hM hl
      have L21 : ∀ (n21 : Nat) (v21_4 : Int32) (H : Heap) (locs : List Loc) (ls : Array Slot) (w11 : va_W), 0 ≤ a1.toInt → a1.toInt ≤ 3 → 1 ≤ v13_2.toInt → v13_2.toInt ≤ 10 → 0 ≤ v13_3.toInt → v13_3.toInt ≤ 9 → 0 ≤ v21_4.toInt → v21_4.toInt ≤ 10 → (-1) ≤ f13_39_8.toInt → f13_39_8.toInt ≤ 10 → (10 - v21_4.toInt).toNat < n21 → Wd dC dI A s.heap H locs w11 → TW ksC ad cy B qr s1 w11 → FE ksC [(42, 0, 1100)] w0 w11 → gi w11 39 8 = f13_39_8 → TT (fun n => m_X0_drawHours n 145 a1.toInt (sI w0)) (fun n => j_X0_drawHours 145 n 21 [a1.toInt, v13_2.toInt, v13_3.toInt, v21_4.toInt] (sI w11)) → lv_has ls 9 [(0, .ref (ad 145)), (1, .int a1), (2, .int v13_2), (3, .int v13_3), (4, .int v21_4)] → W p l e ({ frames := 2, cells := 0, slots := 0, locals := 34 }) s m (List.toArray [.ref (ad 145), .int a1]) below meth c H locs 0 0 (MQ below (va_Qv (Pz_X0_drawHours_1 ad cy B qr s1 a1 w0) (fun u : va_W => wpost dC dI cy A u) A) (List.toArray [.ref (ad 145), .int a1]) s 0 0 A) (F0 m 21 ls []) := by
        intro n21
        induction n21 with
        | zero => intro v21_4 H locs ls w11 r12 t13 r14 t15 r16 t17 r18 t19 r20 t21 hm21 hw hT hF c22 hM hl; omega
        | succ n21 ih21 =>
          intro v21_4 H locs ls w11 r12 t13 r14 t15 r16 t17 r18 t19 r20 t21 hm21 hw hT hF c22 hM hl
          have J111 : ∀ (v111_5 : Int32) (v111_6 : Int32) (H : Heap) (locs : List Loc) (ls : Array Slot) (w23 : va_W), 0 ≤ a1.toInt → a1.toInt ≤ 3 → 1 ≤ v13_2.toInt → v13_2.toInt ≤ 10 → 0 ≤ v13_3.toInt → v13_3.toInt ≤ 9 → 0 ≤ v21_4.toInt → v21_4.toInt ≤ 9 → 0 ≤ v111_5.toInt → v111_5.toInt ≤ 1000000 → 0 ≤ v111_6.toInt → v111_6.toInt ≤ 10 → (-1) ≤ f13_39_8.toInt → f13_39_8.toInt ≤ 10 → Wd dC dI A s.heap H locs w23 → TW ksC ad cy B qr s1 w23 → FE ksC [(42, 0, 1100)] w0 w23 → gi w23 39 8 = f13_39_8 → TT (fun n => m_X0_drawHours n 145 a1.toInt (sI w0)) (fun n => b_X0_drawHours_111 (j_X0_drawHours 145 n) n 145 (a1.toInt) (v13_2.toInt) (v13_3.toInt) (v21_4.toInt) (sI w23)) → lv_has ls 9 [(0, .ref (ad 145)), (1, .int a1), (2, .int v13_2), (3, .int v13_3), (4, .int v21_4), (5, .int v111_5), (6, .int v111_6)] → W p l e ({ frames := 2, cells := 0, slots := 0, locals := 34 }) s m (List.toArray [.ref (ad 145), .int a1]) below meth c H locs 0 0 (MQ below (va_Qv (Pz_X0_drawHours_1 ad cy B qr s1 a1 w0) (fun u : va_W => wpost dC dI cy A u) A) (List.toArray [.ref (ad 145), .int a1]) s 0 0 A) (F0 m 111 ls []) := by
            intro v111_5 v111_6 H locs ls w23 r24 t25 r26 t27 r28 t29 r30 t31 r32 t33 r34 t35 r36 t37 hw hT hF c38 hM hl
            obtain ⟨x39, ex39⟩ : ∃ y : Int32, y = v21_4 + Int32.ofInt 1 := ⟨_, rfl⟩
            have erx39 := ex39
            refine lv_iinc (v := x39) (lv' := [(4, .int x39), (0, .ref (ad 145)), (1, .int a1), (2, .int v13_2), (3, .int v13_3), (5, .int v111_5), (6, .int v111_6)]) hx hb dX0_drawHours_111 hl (k := 4) rfl ex39.symm (by decide) rfl (fun ls hl => ?_)
            have ex39 : x39.toInt = v21_4.toInt + 1 := by rw [ex39]; exact wk_add (y := 1) (show -2147483648 ≤ v21_4.toInt + 1 by omega) (show v21_4.toInt + 1 ≤ 2147483647 by omega)
            replace hM := hM.lt ex39.symm
            refine lv_goto (tgt := 21) hx hb dX0_drawHours_114 (by decide) ?_
            exact ih21 x39 H locs ls w23 (show 0 ≤ a1.toInt from r24) (show a1.toInt ≤ 3 from t25) (show 1 ≤ v13_2.toInt from r26) (show v13_2.toInt ≤ 10 from t27) (show 0 ≤ v13_3.toInt from r28) (show v13_3.toInt ≤ 9 from t29) (show 0 ≤ x39.toInt by first | with_reducible assumption | omega) (show x39.toInt ≤ 10 by first | with_reducible assumption | omega) (show (-1) ≤ f13_39_8.toInt from r36) (show f13_39_8.toInt ≤ 10 from t37) (show (10 - x39.toInt).toNat < n21 by first | exact tn_lt hm21 (by omega) (by omega) | omega) hw hT hF c38 hM (lv_sub hl [1, 2, 3, 4, 0] rfl)
          have L44 : ∀ (n44 : Nat) (v44_5 : Int32) (v44_6 : Int32) (H : Heap) (locs : List Loc) (ls : Array Slot) (w40 : va_W), 0 ≤ a1.toInt → a1.toInt ≤ 3 → 1 ≤ v13_2.toInt → v13_2.toInt ≤ 10 → 0 ≤ v13_3.toInt → v13_3.toInt ≤ 9 → 0 ≤ v21_4.toInt → v21_4.toInt ≤ 9 → 0 ≤ v44_5.toInt → v44_5.toInt ≤ 1000000 → 0 ≤ v44_6.toInt → v44_6.toInt ≤ 10 → (-1) ≤ f13_39_8.toInt → f13_39_8.toInt ≤ 10 → (10 - v44_6.toInt).toNat < n44 → Wd dC dI A s.heap H locs w40 → TW ksC ad cy B qr s1 w40 → FE ksC [(42, 0, 1100)] w0 w40 → gi w40 39 8 = f13_39_8 → TT (fun n => m_X0_drawHours n 145 a1.toInt (sI w0)) (fun n => j_X0_drawHours 145 n 44 [a1.toInt, v13_2.toInt, v13_3.toInt, v21_4.toInt, v44_5.toInt, v44_6.toInt] (sI w40)) → lv_has ls 9 [(0, .ref (ad 145)), (1, .int a1), (2, .int v13_2), (3, .int v13_3), (4, .int v21_4), (5, .int v44_5), (6, .int v44_6)] → W p l e ({ frames := 2, cells := 0, slots := 0, locals := 34 }) s m (List.toArray [.ref (ad 145), .int a1]) below meth c H locs 0 0 (MQ below (va_Qv (Pz_X0_drawHours_1 ad cy B qr s1 a1 w0) (fun u : va_W => wpost dC dI cy A u) A) (List.toArray [.ref (ad 145), .int a1]) s 0 0 A) (F0 m 44 ls []) := by
            intro n44
            induction n44 with
            | zero => intro v44_5 v44_6 H locs ls w40 r41 t42 r43 t44 r45 t46 r47 t48 r49 t50 r51 t52 r53 t54 hm44 hw hT hF c55 hM hl; omega
            | succ n44 ih44 =>
              intro v44_5 v44_6 H locs ls w40 r41 t42 r43 t44 r45 t46 r47 t48 r49 t50 r51 t52 r53 t54 hm44 hw hT hF c55 hM hl
              have J105 : ∀ (v105_7 : Int32) (v105_8 : Int32) (H : Heap) (locs : List Loc) (ls : Array Slot) (w56 : va_W), 0 ≤ a1.toInt → a1.toInt ≤ 3 → 1 ≤ v13_2.toInt → v13_2.toInt ≤ 10 → 0 ≤ v13_3.toInt → v13_3.toInt ≤ 9 → 0 ≤ v21_4.toInt → v21_4.toInt ≤ 9 → 0 ≤ v44_5.toInt → v44_5.toInt ≤ 999999 → 0 ≤ v44_6.toInt → v44_6.toInt ≤ 9 → 0 ≤ v105_7.toInt → v105_7.toInt ≤ 1999999 → 0 ≤ v105_8.toInt → v105_8.toInt ≤ 399 → (-1) ≤ f13_39_8.toInt → f13_39_8.toInt ≤ 10 → Wd dC dI A s.heap H locs w56 → TW ksC ad cy B qr s1 w56 → FE ksC [(42, 0, 1100)] w0 w56 → gi w56 39 8 = f13_39_8 → TT (fun n => m_X0_drawHours n 145 a1.toInt (sI w0)) (fun n => b_X0_drawHours_105 (j_X0_drawHours 145 n) n 145 (a1.toInt) (v13_2.toInt) (v13_3.toInt) (v21_4.toInt) (v44_5.toInt) (v44_6.toInt) (sI w56)) → lv_has ls 9 [(0, .ref (ad 145)), (1, .int a1), (2, .int v13_2), (3, .int v13_3), (4, .int v21_4), (5, .int v44_5), (6, .int v44_6), (7, .int v105_7), (8, .int v105_8)] → W p l e ({ frames := 2, cells := 0, slots := 0, locals := 34 }) s m (List.toArray [.ref (ad 145), .int a1]) below meth c H locs 0 0 (MQ below (va_Qv (Pz_X0_drawHours_1 ad cy B qr s1 a1 w0) (fun u : va_W => wpost dC dI cy A u) A) (List.toArray [.ref (ad 145), .int a1]) s 0 0 A) (F0 m 105 ls []) := by
                intro v105_7 v105_8 H locs ls w56 r57 t58 r59 t60 r61 t62 r63 t64 r65 t66 r67 t68 r69 t70 r71 t72 r73 t74 hw hT hF c75 hM hl
                obtain ⟨x76, ex76⟩ : ∃ y : Int32, y = v44_6 + Int32.ofInt 1 := ⟨_, rfl⟩
                have erx76 := ex76
                refine lv_iinc (v := x76) (lv' := [(6, .int x76), (0, .ref (ad 145)), (1, .int a1), (2, .int v13_2), (3, .int v13_3), (4, .int v21_4), (5, .int v44_5), (7, .int v105_7), (8, .int v105_8)]) hx hb dX0_drawHours_105 hl (k := 6) rfl ex76.symm (by decide) rfl (fun ls hl => ?_)
                have ex76 : x76.toInt = v44_6.toInt + 1 := by rw [ex76]; exact wk_add (y := 1) (show -2147483648 ≤ v44_6.toInt + 1 by omega) (show v44_6.toInt + 1 ≤ 2147483647 by omega)
                replace hM := hM.lt ex76.symm
                refine lv_goto (tgt := 44) hx hb dX0_drawHours_108 (by decide) ?_
                exact ih44 v44_5 x76 H locs ls w56 (show 0 ≤ a1.toInt from r57) (show a1.toInt ≤ 3 from t58) (show 1 ≤ v13_2.toInt from r59) (show v13_2.toInt ≤ 10 from t60) (show 0 ≤ v13_3.toInt from r61) (show v13_3.toInt ≤ 9 from t62) (show 0 ≤ v21_4.toInt from r63) (show v21_4.toInt ≤ 9 from t64) (show 0 ≤ v44_5.toInt from r65) (show v44_5.toInt ≤ 1000000 from t50) (show 0 ≤ x76.toInt by first | with_reducible assumption | omega) (show x76.toInt ≤ 10 by first | with_reducible assumption | omega) (show (-1) ≤ f13_39_8.toInt from r73) (show f13_39_8.toInt ≤ 10 from t74) (show (10 - x76.toInt).toNat < n44 by first | exact tn_lt hm44 (by omega) (by omega) | omega) hw hT hF c75 hM (lv_sub hl [1, 2, 3, 4, 5, 6, 0] rfl)
              replace hM := hM.suc (fun _ => e_X0_drawHours_44)
              refine lv_iload hx hb dX0_drawHours_44 (lv_at hl 5 rfl) ?_
              refine lv_ldc (v := 1000000) hx hb hC.2.2.2.1 (hC.2.2.2.2 _ (List.mem_cons_of_mem _ uw_36_8)) dX0_drawHours_46 ?_
              refine lv_icmp_ge (tgt := 111) hx hb dX0_drawHours_48 (by decide) (fun c77 => ?_) (fun c77 => ?_)
              · have c77 : (1000000 : Int) ≤ v44_5.toInt := wk_le.mp c77
                replace hM := hM.pos c77
                exact J111 v44_5 v44_6 H locs ls w40 (show 0 ≤ a1.toInt from r41) (show a1.toInt ≤ 3 from t42) (show 1 ≤ v13_2.toInt from r43) (show v13_2.toInt ≤ 10 from t44) (show 0 ≤ v13_3.toInt from r45) (show v13_3.toInt ≤ 9 from t46) (show 0 ≤ v21_4.toInt from r47) (show v21_4.toInt ≤ 9 from t48) (show 0 ≤ v44_5.toInt from r49) (show v44_5.toInt ≤ 1000000 from t50) (show 0 ≤ v44_6.toInt from r51) (show v44_6.toInt ≤ 10 from t52) (show (-1) ≤ f13_39_8.toInt from r53) (show f13_39_8.toInt ≤ 10 from t54)  hw hT hF c55 hM (lv_sub hl [0, 1, 2, 3, 4, 5, 6] rfl)
              · have c77 : v44_5.toInt < (1000000 : Int) := wk_leF c77
                replace hM := hM.neg (Int.not_le.mpr c77)
                refine lv_iload hx hb dX0_drawHours_51 (lv_at hl 6 rfl) ?_
                refine lv_iload_n hx hb dX0_drawHours_53 rfl (lv_at hl 2 rfl) ?_
                refine lv_icmp_ge (tgt := 111) hx hb dX0_drawHours_54 (by decide) (fun c78 => ?_) (fun c78 => ?_)
                · have c78 : v13_2.toInt ≤ v44_6.toInt := wk_le.mp c78
                  replace hM := hM.pos c78
                  exact J111 v44_5 v44_6 H locs ls w40 (show 0 ≤ a1.toInt from r41) (show a1.toInt ≤ 3 from t42) (show 1 ≤ v13_2.toInt from r43) (show v13_2.toInt ≤ 10 from t44) (show 0 ≤ v13_3.toInt from r45) (show v13_3.toInt ≤ 9 from t46) (show 0 ≤ v21_4.toInt from r47) (show v21_4.toInt ≤ 9 from t48) (show 0 ≤ v44_5.toInt from r49) (show v44_5.toInt ≤ 1000000 from t50) (show 0 ≤ v44_6.toInt from r51) (show v44_6.toInt ≤ 10 from t52) (show (-1) ≤ f13_39_8.toInt from r53) (show f13_39_8.toInt ≤ 10 from t54)  hw hT hF c55 hM (lv_sub hl [0, 1, 2, 3, 4, 5, 6] rfl)
                · have c78 : v44_6.toInt < v13_2.toInt := wk_leF c78
                  replace hM := hM.neg (Int.not_le.mpr c78)
                  refine lv_iload hx hb dX0_drawHours_57 (lv_at hl 5 rfl) ?_
                  refine lv_aload_n hx hb dX0_drawHours_59 rfl (lv_at hl 0 rfl) ?_
                  refine tk_getA hC hK hw hT hinX0 kC_at145 (by decide) rfl 1 (by decide) (List.mem_cons_of_mem _ uw_4_14) rfl rfl dX0_drawHours_60 ?_
                  refine lv_iload_n hx hb dX0_drawHours_63 rfl (lv_at hl 1 rfl) ?_
                  refine lv_iload_n hx hb dX0_drawHours_64 rfl (lv_at hl 3 rfl) ?_
                  refine lv_iload hx hb dX0_drawHours_65 (lv_at hl 6 rfl) ?_
                  refine tk_Si hC hK hw hT hA hE hSR (kz_X0_spot_1 l adK adV dC dI cy ad B hB0 (Int.le_trans hB1 (by decide)) qr s1   a1 (show 0 ≤ a1.toInt from r41) (show a1.toInt ≤ 3 from t42) v13_3 (show 0 ≤ v13_3.toInt from r45) (show v13_3.toInt ≤ 9 from t46) v44_6 (show 0 ≤ v44_6.toInt from r51) (show v44_6.toInt ≤ 9 by first | with_reducible assumption | omega) w40 H.size hT ) (va_cwS 3 hC.2.2.2.2 uS_RX0_47 rfl rfl rfl (by decide +kernel) ⟨Nat.le_of_ble_eq_true rfl, Nat.le_of_ble_eq_true rfl⟩) rfl hl.1 rfl (Nat.le_of_ble_eq_true rfl) dX0_drawHours_67 (fun r79 w81 H locs hp80 hw => ?_)
                  obtain ⟨hT, k82, hv86, hg85⟩ := hp80
                  have hF := hF.tr k82 (by decide)
                  have c87 := k82.gi kC_at39 (by decide) c55
                  obtain ⟨g83, g84⟩ := hg85
                  replace hM := hM.call hv86 rfl
                  refine tk_iald hC hK hw hT kC_at146 rfl rfl (show 0 ≤ r79.toInt by first | with_reducible assumption | omega) (show r79.toInt < 1100 by first | with_reducible assumption | omega) dX0_drawHours_70 (fun x88 c89 rx88 tx88 => ?_)
                  have hox88 := c89
                  replace hM := hM.rd (sI_at hox88)
                  refine lv_iadd hx hb dX0_drawHours_71 ?_
                  refine lv_topi (fun x90 ex90 => ?_)
                  have ezx90 := ex90
                  have ex90 : x90.toInt = v44_5.toInt + x88.toInt := by rw [ex90]; exact wk_add (show (-2147483648) ≤ v44_5.toInt + x88.toInt by omega) (show v44_5.toInt + x88.toInt ≤ 2147483647 by omega)
                  replace hM := hM.lt ex90.symm
                  refine lv_istore (lv' := [(7, .int x90), (0, .ref (ad 145)), (1, .int a1), (2, .int v13_2), (3, .int v13_3), (4, .int v21_4), (5, .int v44_5), (6, .int v44_6)]) hx hb dX0_drawHours_72 hl (by decide) rfl (fun ls hl => ?_)
                  refine lv_iload_n hx hb dX0_drawHours_74 rfl (lv_at hl 2 rfl) ?_
                  refine lv_iload hx hb dX0_drawHours_75 (lv_at hl 5 rfl) ?_
                  refine lv_iload hx hb dX0_drawHours_77 (lv_at hl 7 rfl) ?_
                  refine tk_Si hC hK hw hT hA hE hSR (kz_X0_spot_1 l adK adV dC dI cy ad B hB0 (Int.le_trans hB1 (by decide)) qr s1   a1 (show 0 ≤ a1.toInt from r41) (show a1.toInt ≤ 3 from t42) v21_4 (show 0 ≤ v21_4.toInt from r47) (show v21_4.toInt ≤ 9 from t48) v44_6 (show 0 ≤ v44_6.toInt from r51) (show v44_6.toInt ≤ 9 by first | with_reducible assumption | omega) w81 H.size hT ) (va_cwS 3 hC.2.2.2.2 uS_RX0_47 rfl rfl rfl (by decide +kernel) ⟨Nat.le_of_ble_eq_true rfl, Nat.le_of_ble_eq_true rfl⟩) rfl hl.1 rfl (Nat.le_of_ble_eq_true rfl) dX0_drawHours_79 (fun r91 w93 H locs hp92 hw => ?_)
                  obtain ⟨hT, k94, hv98, hg97⟩ := hp92
                  have hF := hF.tr k94 (by decide)
                  have c99 := k94.gi kC_at39 (by decide) c87
                  obtain ⟨g95, g96⟩ := hg97
                  replace hM := hM.call hv98 rfl
                  refine lv_istore (lv' := [(8, .int r91), (7, .int x90), (0, .ref (ad 145)), (1, .int a1), (2, .int v13_2), (3, .int v13_3), (4, .int v21_4), (5, .int v44_5), (6, .int v44_6)]) hx hb dX0_drawHours_82 hl (by decide) rfl (fun ls hl => ?_)
                  refine lv_iload hx hb dX0_drawHours_84 (lv_at hl 1 rfl) ?_
                  refine lv_aload_n hx hb dX0_drawHours_86 rfl (lv_at hl 2 rfl) ?_
                  refine tk_getA hC hK hw hT hinX0 kC_at145 (by decide) rfl 1 (by decide) (List.mem_cons_of_mem _ uw_4_14) rfl rfl dX0_drawHours_87 ?_
                  refine lv_iload hx hb dX0_drawHours_90 (lv_at hl 0 rfl) ?_
                  refine tk_iald hC hK hw hT kC_at146 rfl rfl (show 0 ≤ r91.toInt by first | with_reducible assumption | omega) (show r91.toInt < 1100 by first | with_reducible assumption | omega) dX0_drawHours_92 (fun x100 c101 rx100 tx100 => ?_)
                  have hox100 := c101
                  replace hM := hM.rd (sI_at hox100)
                  refine lv_icmp_ge (tgt := 105) hx hb dX0_drawHours_93 (by decide) (fun c102 => ?_) (fun c102 => ?_)
                  · have c102 : x100.toInt ≤ x90.toInt := wk_le.mp c102
                    replace hM := hM.pos c102
                    exact J105 x90 r91 H locs ls w93 (show 0 ≤ a1.toInt from r41) (show a1.toInt ≤ 3 from t42) (show 1 ≤ v13_2.toInt from r43) (show v13_2.toInt ≤ 10 from t44) (show 0 ≤ v13_3.toInt from r45) (show v13_3.toInt ≤ 9 from t46) (show 0 ≤ v21_4.toInt from r47) (show v21_4.toInt ≤ 9 from t48) (show 0 ≤ v44_5.toInt from r49) (show v44_5.toInt ≤ 999999 by first | with_reducible assumption | omega) (show 0 ≤ v44_6.toInt from r51) (show v44_6.toInt ≤ 9 by first | with_reducible assumption | omega) (show 0 ≤ x90.toInt by first | with_reducible assumption | omega) (show x90.toInt ≤ 1999999 by first | with_reducible assumption | omega) (show 0 ≤ r91.toInt by first | with_reducible assumption | omega) (show r91.toInt ≤ 399 by first | with_reducible assumption | omega) (show (-1) ≤ f13_39_8.toInt from r53) (show f13_39_8.toInt ≤ 10 from t54)  hw hT hF c99 hM (lv_sub hl [2, 3, 4, 5, 6, 7, 8, 1, 0] rfl)
                  · have c102 : x90.toInt < x100.toInt := wk_leF c102
                    replace hM := hM.neg (Int.not_le.mpr c102)
                    refine lv_aload_n hx hb dX0_drawHours_96 rfl (lv_at hl 2 rfl) ?_
                    refine tk_getA hC hK hw hT hinX0 kC_at145 (by decide) rfl 1 (by decide) (List.mem_cons_of_mem _ uw_4_14) rfl rfl dX0_drawHours_97 ?_
                    refine lv_iload hx hb dX0_drawHours_100 (lv_at hl 0 rfl) ?_
                    refine lv_iload hx hb dX0_drawHours_102 (lv_at hl 1 rfl) ?_
                    refine tk_iast hC hK hw hT kC_at146 (by decide) rfl rfl (show 0 ≤ r91.toInt by first | with_reducible assumption | omega) (show r91.toInt < 1100 by first | with_reducible assumption | omega) (show 0 ≤ x90.toInt by first | with_reducible assumption | omega) (show x90.toInt ≤ 1000000 by first | with_reducible assumption | omega) dX0_drawHours_104 (fun H locs w103 hw hT k105 c104 => ?_)
                    replace hM := hM.wr (sI_up k105 c104)
                    have hF := hF.put kC_at146 (inE_of (a := 0) (b := 1100) (by decide) (show 0 ≤ r91.toInt.toNat by omega) (show r91.toInt.toNat ≤ 1100 by omega)) k105
                    have c106 := k105.gi (Or.inl (tk_ne kC_at39 kC_at146 (by decide))) c99
                    exact J105 x90 r91 H locs ls w103 (show 0 ≤ a1.toInt from r41) (show a1.toInt ≤ 3 from t42) (show 1 ≤ v13_2.toInt from r43) (show v13_2.toInt ≤ 10 from t44) (show 0 ≤ v13_3.toInt from r45) (show v13_3.toInt ≤ 9 from t46) (show 0 ≤ v21_4.toInt from r47) (show v21_4.toInt ≤ 9 from t48) (show 0 ≤ v44_5.toInt from r49) (show v44_5.toInt ≤ 999999 by first | with_reducible assumption | omega) (show 0 ≤ v44_6.toInt from r51) (show v44_6.toInt ≤ 9 by first | with_reducible assumption | omega) (show 0 ≤ x90.toInt by first | with_reducible assumption | omega) (show x90.toInt ≤ 1999999 by first | with_reducible assumption | omega) (show 0 ≤ r91.toInt by first | with_reducible assumption | omega) (show r91.toInt ≤ 399 by first | with_reducible assumption | omega) (show (-1) ≤ f13_39_8.toInt from r53) (show f13_39_8.toInt ≤ 10 from t54)  hw hT hF c106 hM (lv_sub hl [2, 3, 4, 5, 6, 7, 8, 1, 0] rfl)
          replace hM := hM.suc (fun _ => e_X0_drawHours_21)
          refine lv_iload hx hb dX0_drawHours_21 (lv_at hl 4 rfl) ?_
          refine lv_iload_n hx hb dX0_drawHours_23 rfl (lv_at hl 2 rfl) ?_
          refine lv_icmp_ge (tgt := 117) hx hb dX0_drawHours_24 (by decide) (fun c107 => ?_) (fun c107 => ?_)
          · have c107 : v13_2.toInt ≤ v21_4.toInt := wk_le.mp c107
            replace hM := hM.pos c107
            obtain ⟨x108, ex108⟩ : ∃ y : Int32, y = v13_3 + Int32.ofInt 1 := ⟨_, rfl⟩
            have erx108 := ex108
            refine lv_iinc (v := x108) (lv' := [(3, .int x108), (0, .ref (ad 145)), (1, .int a1), (2, .int v13_2), (4, .int v21_4)]) hx hb dX0_drawHours_117 hl (k := 3) rfl ex108.symm (by decide) rfl (fun ls hl => ?_)
            have ex108 : x108.toInt = v13_3.toInt + 1 := by rw [ex108]; exact wk_add (y := 1) (show -2147483648 ≤ v13_3.toInt + 1 by omega) (show v13_3.toInt + 1 ≤ 2147483647 by omega)
            replace hM := hM.lt ex108.symm
            refine lv_goto (tgt := 13) hx hb dX0_drawHours_120 (by decide) ?_
            exact ih13 v13_2 x108 f13_39_8 H locs ls w11 (show 0 ≤ a1.toInt from r12) (show a1.toInt ≤ 3 from t13) (show (-1) ≤ v13_2.toInt from r4) (show v13_2.toInt ≤ 10 from t15) (show 0 ≤ x108.toInt by first | with_reducible assumption | omega) (show x108.toInt ≤ 10 by first | with_reducible assumption | omega) (show (-1) ≤ f13_39_8.toInt from r20) (show f13_39_8.toInt ≤ 10 from t21) (show (10 - x108.toInt).toNat < n13 by first | exact tn_lt hm13 (by omega) (by omega) | omega) hw hT hF c22 hM (lv_sub hl [1, 2, 3, 0] rfl)
          · have c107 : v21_4.toInt < v13_2.toInt := wk_leF c107
            replace hM := hM.neg (Int.not_le.mpr c107)
            refine lv_aload_n hx hb dX0_drawHours_27 rfl (lv_at hl 0 rfl) ?_
            refine tk_getA hC hK hw hT hinX0 kC_at145 (by decide) rfl 1 (by decide) (List.mem_cons_of_mem _ uw_4_14) rfl rfl dX0_drawHours_28 ?_
            refine lv_iload_n hx hb dX0_drawHours_31 rfl (lv_at hl 1 rfl) ?_
            refine lv_iload hx hb dX0_drawHours_32 (lv_at hl 4 rfl) ?_
            refine lv_iload_n hx hb dX0_drawHours_34 rfl (lv_at hl 3 rfl) ?_
            refine tk_Si hC hK hw hT hA hE hSR (kz_X0_spot_1 l adK adV dC dI cy ad B hB0 (Int.le_trans hB1 (by decide)) qr s1   a1 (show 0 ≤ a1.toInt from r12) (show a1.toInt ≤ 3 from t13) v21_4 (show 0 ≤ v21_4.toInt from r18) (show v21_4.toInt ≤ 9 by first | with_reducible assumption | omega) v13_3 (show 0 ≤ v13_3.toInt from r16) (show v13_3.toInt ≤ 9 from t17) w11 H.size hT ) (va_cwS 3 hC.2.2.2.2 uS_RX0_47 rfl rfl rfl (by decide +kernel) ⟨Nat.le_of_ble_eq_true rfl, Nat.le_of_ble_eq_true rfl⟩) rfl hl.1 rfl (Nat.le_of_ble_eq_true rfl) dX0_drawHours_35 (fun r109 w111 H locs hp110 hw => ?_)
            obtain ⟨hT, k112, hv116, hg115⟩ := hp110
            have hF := hF.tr k112 (by decide)
            have c117 := k112.gi kC_at39 (by decide) c22
            obtain ⟨g113, g114⟩ := hg115
            replace hM := hM.call hv116 rfl
            refine tk_iald hC hK hw hT kC_at146 rfl rfl (show 0 ≤ r109.toInt by first | with_reducible assumption | omega) (show r109.toInt < 1100 by first | with_reducible assumption | omega) dX0_drawHours_38 (fun x118 c119 rx118 tx118 => ?_)
            have hox118 := c119
            replace hM := hM.rd (sI_at hox118)
            refine lv_istore (lv' := [(5, .int x118), (0, .ref (ad 145)), (1, .int a1), (2, .int v13_2), (3, .int v13_3), (4, .int v21_4)]) hx hb dX0_drawHours_39 hl (by decide) rfl (fun ls hl => ?_)
            refine lv_iconst (v := 0) hx hb dX0_drawHours_41 (by decide) ?_
            refine lv_istore (lv' := [(6, .int 0), (5, .int x118), (0, .ref (ad 145)), (1, .int a1), (2, .int v13_2), (3, .int v13_3), (4, .int v21_4)]) hx hb dX0_drawHours_42 hl (by decide) rfl (fun ls hl => ?_)
            exact L44 ((10 - (0 : Int)).toNat + 1) x118 0 H locs ls w111 (show 0 ≤ a1.toInt from r12) (show a1.toInt ≤ 3 from t13) (show 1 ≤ v13_2.toInt from r14) (show v13_2.toInt ≤ 10 from t15) (show 0 ≤ v13_3.toInt from r16) (show v13_3.toInt ≤ 9 from t17) (show 0 ≤ v21_4.toInt from r18) (show v21_4.toInt ≤ 9 by first | with_reducible assumption | omega) (show 0 ≤ x118.toInt from rx118) (show x118.toInt ≤ 1000000 from tx118) (by decide) (by decide) (show (-1) ≤ f13_39_8.toInt from r20) (show f13_39_8.toInt ≤ 10 from t21) (Nat.lt_succ_self _) hw hT hF c117 hM (lv_sub hl [2, 3, 4, 5, 6, 1, 0] rfl)
      replace hM := hM.suc (fun _ => e_X0_drawHours_13)
      refine lv_iload_n hx hb dX0_drawHours_13 rfl (lv_at hl 3 rfl) ?_
      refine lv_iload_n hx hb dX0_drawHours_14 rfl (lv_at hl 2 rfl) ?_
      refine lv_icmp_ge (tgt := 123) hx hb dX0_drawHours_15 (by decide) (fun c120 => ?_) (fun c120 => ?_)
      · have c120 : v13_2.toInt ≤ v13_3.toInt := wk_le.mp c120
        replace hM := hM.pos c120
        exact tk_vret hC hr hlocks hK ⟨hT, hF, hM.ret rfl, trivial⟩ hw dX0_drawHours_123
      · have c120 : v13_3.toInt < v13_2.toInt := wk_leF c120
        replace hM := hM.neg (Int.not_le.mpr c120)
        refine lv_iconst (v := 0) hx hb dX0_drawHours_18 (by decide) ?_
        refine lv_istore (lv' := [(4, .int 0), (0, .ref (ad 145)), (1, .int a1), (2, .int v13_2), (3, .int v13_3)]) hx hb dX0_drawHours_19 hl (by decide) rfl (fun ls hl => ?_)
        exact L21 ((10 - (0 : Int)).toNat + 1) 0 H locs ls w1 (show 0 ≤ a1.toInt from r2) (show a1.toInt ≤ 3 from t3) (show 1 ≤ v13_2.toInt by first | with_reducible assumption | omega) (show v13_2.toInt ≤ 10 from t5) (show 0 ≤ v13_3.toInt from r6) (show v13_3.toInt ≤ 9 by first | with_reducible assumption | omega) (by decide) (by decide) (show (-1) ≤ f13_39_8.toInt from r8) (show f13_39_8.toInt ≤ 10 from t9) (Nat.lt_succ_self _) hw hT hF c10 hM (lv_sub hl [1, 2, 3, 4, 0] rfl)
  have hM : TT (fun n => m_X0_drawHours n 145 a1.toInt (sI w0)) (fun n => m_X0_drawHours n 145 a1.toInt (sI w0)) := TT.rf
  refine lv_aload_n hx hb dX0_drawHours_0 rfl (lv_at hl 0 rfl) ?_
  refine tk_getA hC hK hw hT hinX0 kC_at145 (by decide) rfl 0 (by decide) (List.mem_cons_of_mem _ uw_4_17) rfl rfl dX0_drawHours_1 ?_
  refine tk_getO hC hK hw hT hinX5 kC_at38 (by decide) rfl 0 (by decide) (List.mem_cons_of_mem _ uw_36_9) rfl rfl dX0_drawHours_4 ?_
  refine tk_geti hC hK hw hT hinX7 kC_at39 (by decide) rfl 8 (by decide) (List.mem_cons_of_mem _ uw_37_5) rfl rfl dX0_drawHours_7 (fun x121 c122 rx121 tx121 => ?_)
  replace hM := hM.rd (sI_at c122)
  refine lv_istore_n (lv' := [(2, .int x121), (0, .ref (ad 145)), (1, .int a1)]) hx hb dX0_drawHours_10 rfl hl (by decide) rfl (fun ls hl => ?_)
  refine lv_iconst (v := 0) hx hb dX0_drawHours_11 (by decide) ?_
  refine lv_istore_n (lv' := [(3, .int 0), (2, .int x121), (0, .ref (ad 145)), (1, .int a1)]) hx hb dX0_drawHours_12 rfl hl (by decide) rfl (fun ls hl => ?_)
  exact L13 ((10 - (0 : Int)).toNat + 1) x121 0 x121 s.heap locs ls w0 (show 0 ≤ a1.toInt from ra1) (show a1.toInt ≤ 3 from ta1) (show (-1) ≤ x121.toInt from rx121) (show x121.toInt ≤ 10 from tx121) (by decide) (by decide) (show (-1) ≤ x121.toInt from rx121) (show x121.toInt ≤ 10 from tx121) (Nat.lt_succ_self _) hw hT hF c122 hM (lv_sub hl [2, 3, 1, 0] rfl)
abbrev Pz_X0_drawFirstBy_1 (ad : Nat → Nat) (cy : Nat → ClassId) (B : Int) (qr : Nat) (s1 : Int) (a1 : Int32) (a2 : Int32) (a3 : Int32) (w0 : va_W) : va_W → Prop := fun u => TW ksC ad cy B qr s1 u ∧ FE ksC [(43, 0, 1100)] w0 u ∧ Ev (fun n => m_X0_drawFirstBy n 145 a1.toInt a2.toInt a3.toInt (sI w0)) (0, sI u) ∧ ((True))
set_option maxHeartbeats 4000000 in
set_option maxRecDepth 100000 in
theorem kz_X0_drawFirstBy_1 (l : Launch) (adK adV : Nat → Nat) (dC : Nat → ClassId) (dI : Nat → Nat → Nat) (cy : Nat → ClassId) (ad : Nat → Nat) (B : Int) (hB0 : 2147483648 ≤ B) (hB1 : B ≤ 1152921504606846976) (qr : Nat) (s1 : Int)  (a1 : Int32) (ra1 : 0 ≤ a1.toInt) (ta1 : a1.toInt ≤ 3) (a2 : Int32) (ra2 : 0 ≤ a2.toInt) (ta2 : a2.toInt ≤ 11) (a3 : Int32) (ra3 : 0 ≤ a3.toInt) (ta3 : a3.toInt ≤ 1) (w0 : va_W) (sz : Nat) (hT : TW ksC ad cy B qr s1 w0)  : Met l yX0_drawFirstBy (wu yX0_drawFirstBy cX0_drawFirstBy 10 none) ({ frames := 2, cells := 0, slots := 0, locals := 34 }) (va_Pc [.ref (ad 145), .int a1, .int a2, .int a3] (wpreS adK adV dC dI cy sz w0)) (va_Qv (Pz_X0_drawFirstBy_1 ad cy B qr s1 a1 a2 a3 w0) (fun u : va_W => wpost dC dI cy (va_A w0 sz) u) (va_A w0 sz)) 0 0 (va_A w0 sz) := by
  refine Met.ofW (cc := cX0_drawFirstBy) (maxL := 10) (ret := none) (by decide) rfl ?_
  intro p e s m args below meth c s₁ Bk hml hv
  obtain ⟨rfl, ⟨hsz, hP, hK, hD0⟩, hE, hSR⟩ := hv
  have hx := Bk.exec
  have hb := Bk.bytes
  have hr := Bk.returns
  have hlocks := Bk.notSynchronized
  have hC : CallFix p m c cX0_drawFirstBy 10 s _ (wu yX0_drawFirstBy cX0_drawFirstBy 10 none) RX0 := ⟨hx, hb, hml, findClass_of_methodNamed Bk.named, atoms_spec (ws := (wu yX0_drawFirstBy cX0_drawFirstBy 10 none)) Bk.pre⟩
  subst hsz
  have hD := hD0.self (sz := s.heap.size)
  generalize hAe : va_A w0 s.heap.size = A at hD hE ⊢
  have hA : ∀ q : Nat, s.heap.size ≤ q → A q := fun q h => by rw [← hAe]; exact Or.inr h
  have hw : Wd dC dI A s.heap s.heap [] w0 := ⟨hP, hD, va_S.rf⟩
  have hF : FE ksC [(43, 0, 1100)] w0 w0 := FE.rf
  have hl := lv_entry ([.ref (ad 145), .int a1, .int a2, .int a3]) (n := 10) (Nat.le_of_ble_eq_true rfl)
  rw [lg_entry_eq]
  generalize (lg_sl ([.ref (ad 145), .int a1, .int a2, .int a3]) ++ List.replicate (10 - (lg_sl ([.ref (ad 145), .int a1, .int a2, .int a3])).length) Slot.unset).toArray = ls at hl ⊢
  have hl : lv_has ls 10 [(0, .ref (ad 145)), (1, .int a1), (2, .int a2), (3, .int a3)] := hl
  generalize hloc : ([] : List Loc) = locs at hw ⊢
  have hinX7 : ∀ w ∈ u_ws RX7 TX7 12, w ∈ (wu yX0_drawFirstBy cX0_drawFirstBy 10 none) := fun _ h => List.mem_cons_of_mem _ (up_73 h)
  have hinX0 : ∀ w ∈ u_ws RX0 TX0 4, w ∈ (wu yX0_drawFirstBy cX0_drawFirstBy 10 none) := fun _ h => List.mem_cons_of_mem _ (up_77 h)
  have hinX5 : ∀ w ∈ u_ws RX5 TX5 14, w ∈ (wu yX0_drawFirstBy cX0_drawFirstBy 10 none) := fun _ h => List.mem_cons_of_mem _ (up_76 h)
  have L32 : ∀ (n32 : Nat) (v32_5 : Int32) (v32_6 : Int32) (v32_7 : Int32) (H : Heap) (locs : List Loc) (ls : Array Slot) (w1 : va_W), 0 ≤ a1.toInt → a1.toInt ≤ 3 → 0 ≤ a2.toInt → a2.toInt ≤ 11 → 0 ≤ a3.toInt → a3.toInt ≤ 1 → 0 ≤ v32_5.toInt → v32_5.toInt ≤ 9 → 0 ≤ v32_6.toInt → v32_6.toInt ≤ 9 → 0 ≤ v32_7.toInt → v32_7.toInt ≤ 10 → (10 - v32_7.toInt).toNat < n32 → Wd dC dI A s.heap H locs w1 → TW ksC ad cy B qr s1 w1 → FE ksC [(43, 0, 1100)] w0 w1 → TT (fun n => m_X0_drawFirstBy n 145 a1.toInt a2.toInt a3.toInt (sI w0)) (fun n => j_X0_drawFirstBy 145 n 32 [a1.toInt, a2.toInt, v32_5.toInt, v32_6.toInt, v32_7.toInt] (sI w1)) → lv_has ls 10 [(0, .ref (ad 145)), (1, .int a1), (2, .int a2), (3, .int a3), (4, .ref (ad 39)), (5, .int v32_5), (6, .int v32_6), (7, .int v32_7)] → W p l e ({ frames := 2, cells := 0, slots := 0, locals := 34 }) s m (List.toArray [.ref (ad 145), .int a1, .int a2, .int a3]) below meth c H locs 0 0 (MQ below (va_Qv (Pz_X0_drawFirstBy_1 ad cy B qr s1 a1 a2 a3 w0) (fun u : va_W => wpost dC dI cy A u) A) (List.toArray [.ref (ad 145), .int a1, .int a2, .int a3]) s 0 0 A) (F0 m 32 ls []) := by
    intro n32
    induction n32 with
    | zero => intro v32_5 v32_6 v32_7 H locs ls w1 r2 t3 r4 t5 r6 t7 r8 t9 r10 t11 r12 t13 hm32 hw hT hF hM hl; omega
    | succ n32 ih32 =>
      intro v32_5 v32_6 v32_7 H locs ls w1 r2 t3 r4 t5 r6 t7 r8 t9 r10 t11 r12 t13 hm32 hw hT hF hM hl
      have J102 : ∀ (v102_8 : Int32) (v102_9 : Int32) (f102_39_8 : Int32) (H : Heap) (locs : List Loc) (ls : Array Slot) (w14 : va_W), 0 ≤ a1.toInt → a1.toInt ≤ 3 → 0 ≤ a2.toInt → a2.toInt ≤ 11 → 0 ≤ a3.toInt → a3.toInt ≤ 1 → 0 ≤ v32_5.toInt → v32_5.toInt ≤ 9 → 0 ≤ v32_6.toInt → v32_6.toInt ≤ 9 → 0 ≤ v32_7.toInt → v32_7.toInt ≤ 9 → 0 ≤ v102_8.toInt → v102_8.toInt ≤ 1000000 → 0 ≤ v102_9.toInt → v102_9.toInt ≤ 399 → 1 ≤ f102_39_8.toInt → f102_39_8.toInt ≤ 10 → Wd dC dI A s.heap H locs w14 → TW ksC ad cy B qr s1 w14 → FE ksC [(43, 0, 1100)] w0 w14 → gi w14 39 8 = f102_39_8 → TT (fun n => m_X0_drawFirstBy n 145 a1.toInt a2.toInt a3.toInt (sI w0)) (fun n => b_X0_drawFirstBy_102 (j_X0_drawFirstBy 145 n) n 145 (a1.toInt) (a2.toInt) (v32_5.toInt) (v32_6.toInt) (v32_7.toInt) (sI w14)) → lv_has ls 10 [(0, .ref (ad 145)), (1, .int a1), (2, .int a2), (3, .int a3), (4, .ref (ad 39)), (5, .int v32_5), (6, .int v32_6), (7, .int v32_7), (8, .int v102_8), (9, .int v102_9)] → W p l e ({ frames := 2, cells := 0, slots := 0, locals := 34 }) s m (List.toArray [.ref (ad 145), .int a1, .int a2, .int a3]) below meth c H locs 0 0 (MQ below (va_Qv (Pz_X0_drawFirstBy_1 ad cy B qr s1 a1 a2 a3 w0) (fun u : va_W => wpost dC dI cy A u) A) (List.toArray [.ref (ad 145), .int a1, .int a2, .int a3]) s 0 0 A) (F0 m 102 ls []) := by
        intro v102_8 v102_9 f102_39_8 H locs ls w14 r15 t16 r17 t18 r19 t20 r21 t22 r23 t24 r25 t26 r27 t28 r29 t30 r31 t32 hw hT hF c33 hM hl
        obtain ⟨x34, ex34⟩ : ∃ y : Int32, y = v32_7 + Int32.ofInt 1 := ⟨_, rfl⟩
        have erx34 := ex34
        refine lv_iinc (v := x34) (lv' := [(7, .int x34), (0, .ref (ad 145)), (1, .int a1), (2, .int a2), (3, .int a3), (4, .ref (ad 39)), (5, .int v32_5), (6, .int v32_6), (8, .int v102_8), (9, .int v102_9)]) hx hb dX0_drawFirstBy_102 hl (k := 7) rfl ex34.symm (by decide) rfl (fun ls hl => ?_)
        have ex34 : x34.toInt = v32_7.toInt + 1 := by rw [ex34]; exact wk_add (y := 1) (show -2147483648 ≤ v32_7.toInt + 1 by omega) (show v32_7.toInt + 1 ≤ 2147483647 by omega)
        replace hM := hM.lt ex34.symm
        refine lv_goto (tgt := 32) hx hb dX0_drawFirstBy_105 (by decide) ?_
        exact ih32 v32_5 v32_6 x34 H locs ls w14 (show 0 ≤ a1.toInt from r15) (show a1.toInt ≤ 3 from t16) (show 0 ≤ a2.toInt from r17) (show a2.toInt ≤ 11 from t18) (show 0 ≤ a3.toInt from r19) (show a3.toInt ≤ 1 from t20) (show 0 ≤ v32_5.toInt from r21) (show v32_5.toInt ≤ 9 from t22) (show 0 ≤ v32_6.toInt from r23) (show v32_6.toInt ≤ 9 from t24) (show 0 ≤ x34.toInt by first | with_reducible assumption | omega) (show x34.toInt ≤ 10 by first | with_reducible assumption | omega) (show (10 - x34.toInt).toNat < n32 by first | exact tn_lt hm32 (by omega) (by omega) | omega) hw hT hF hM (lv_sub hl [1, 2, 3, 4, 5, 6, 7, 0] rfl)
      replace hM := hM.suc (fun _ => e_X0_drawFirstBy_32)
      refine lv_iload hx hb dX0_drawFirstBy_32 (lv_at hl 7 rfl) ?_
      refine lv_aload hx hb dX0_drawFirstBy_34 (lv_at hl 4 rfl) ?_
      refine tk_geti hC hK hw hT hinX7 kC_at39 (by decide) rfl 8 (by decide) (List.mem_cons_of_mem _ uw_37_5) rfl rfl dX0_drawFirstBy_36 (fun x35 c36 rx35 tx35 => ?_)
      replace hM := hM.rd (sI_at c36)
      refine lv_icmp_ge (tgt := 108) hx hb dX0_drawFirstBy_39 (by decide) (fun c37 => ?_) (fun c37 => ?_)
      · have c37 : x35.toInt ≤ v32_7.toInt := wk_le.mp c37
        replace hM := hM.pos c37
        exact tk_vret hC hr hlocks hK ⟨hT, hF, hM.ret rfl, trivial⟩ hw dX0_drawFirstBy_108
      · have c37 : v32_7.toInt < x35.toInt := wk_leF c37
        replace hM := hM.neg (Int.not_le.mpr c37)
        refine lv_aload_n hx hb dX0_drawFirstBy_42 rfl (lv_at hl 0 rfl) ?_
        refine tk_getA hC hK hw hT hinX0 kC_at145 (by decide) rfl 1 (by decide) (List.mem_cons_of_mem _ uw_4_14) rfl rfl dX0_drawFirstBy_43 ?_
        refine lv_iload_n hx hb dX0_drawFirstBy_46 rfl (lv_at hl 1 rfl) ?_
        refine lv_iload hx hb dX0_drawFirstBy_47 (lv_at hl 6 rfl) ?_
        refine lv_iload hx hb dX0_drawFirstBy_49 (lv_at hl 7 rfl) ?_
        refine tk_Si hC hK hw hT hA hE hSR (kz_X0_spot_1 l adK adV dC dI cy ad B hB0 (Int.le_trans hB1 (by decide)) qr s1   a1 (show 0 ≤ a1.toInt from r2) (show a1.toInt ≤ 3 from t3) v32_6 (show 0 ≤ v32_6.toInt from r10) (show v32_6.toInt ≤ 9 from t11) v32_7 (show 0 ≤ v32_7.toInt from r12) (show v32_7.toInt ≤ 9 by first | with_reducible assumption | omega) w1 H.size hT ) (va_cwS 3 hC.2.2.2.2 uS_RX0_47 rfl rfl rfl (by decide +kernel) ⟨Nat.le_of_ble_eq_true rfl, Nat.le_of_ble_eq_true rfl⟩) rfl hl.1 rfl (Nat.le_of_ble_eq_true rfl) dX0_drawFirstBy_51 (fun r38 w40 H locs hp39 hw => ?_)
        obtain ⟨hT, k41, hv45, hg44⟩ := hp39
        have hF := hF.tr k41 (by decide)
        have c46 := k41.gi kC_at39 (by decide) c36
        obtain ⟨g42, g43⟩ := hg44
        replace hM := hM.call hv45 rfl
        refine tk_iald hC hK hw hT kC_at146 rfl rfl (show 0 ≤ r38.toInt by first | with_reducible assumption | omega) (show r38.toInt < 1100 by first | with_reducible assumption | omega) dX0_drawFirstBy_54 (fun x47 c48 rx47 tx47 => ?_)
        have hox47 := c48
        replace hM := hM.rd (sI_at hox47)
        refine lv_istore (lv' := [(8, .int x47), (0, .ref (ad 145)), (1, .int a1), (2, .int a2), (3, .int a3), (4, .ref (ad 39)), (5, .int v32_5), (6, .int v32_6), (7, .int v32_7)]) hx hb dX0_drawFirstBy_55 hl (by decide) rfl (fun ls hl => ?_)
        refine lv_iload_n hx hb dX0_drawFirstBy_57 rfl (lv_at hl 2 rfl) ?_
        refine lv_iload hx hb dX0_drawFirstBy_58 (lv_at hl 6 rfl) ?_
        refine lv_iload hx hb dX0_drawFirstBy_60 (lv_at hl 8 rfl) ?_
        refine tk_Si hC hK hw hT hA hE hSR (kz_X0_spot_1 l adK adV dC dI cy ad B hB0 (Int.le_trans hB1 (by decide)) qr s1   a1 (show 0 ≤ a1.toInt from r2) (show a1.toInt ≤ 3 from t3) v32_5 (show 0 ≤ v32_5.toInt from r8) (show v32_5.toInt ≤ 9 from t9) v32_7 (show 0 ≤ v32_7.toInt from r12) (show v32_7.toInt ≤ 9 by first | with_reducible assumption | omega) w40 H.size hT ) (va_cwS 3 hC.2.2.2.2 uS_RX0_47 rfl rfl rfl (by decide +kernel) ⟨Nat.le_of_ble_eq_true rfl, Nat.le_of_ble_eq_true rfl⟩) rfl hl.1 rfl (Nat.le_of_ble_eq_true rfl) dX0_drawFirstBy_62 (fun r49 w51 H locs hp50 hw => ?_)
        obtain ⟨hT, k52, hv56, hg55⟩ := hp50
        have hF := hF.tr k52 (by decide)
        have c57 := k52.gi kC_at39 (by decide) c46
        obtain ⟨g53, g54⟩ := hg55
        replace hM := hM.call hv56 rfl
        refine lv_istore (lv' := [(9, .int r49), (8, .int x47), (0, .ref (ad 145)), (1, .int a1), (2, .int a2), (3, .int a3), (4, .ref (ad 39)), (5, .int v32_5), (6, .int v32_6), (7, .int v32_7)]) hx hb dX0_drawFirstBy_65 hl (by decide) rfl (fun ls hl => ?_)
        refine lv_iload hx hb dX0_drawFirstBy_67 (lv_at hl 1 rfl) ?_
        refine lv_ldc (v := 1000000) hx hb hC.2.2.2.1 (hC.2.2.2.2 _ (List.mem_cons_of_mem _ uw_36_8)) dX0_drawFirstBy_69 ?_
        refine lv_icmp_ge (tgt := 102) hx hb dX0_drawFirstBy_71 (by decide) (fun c58 => ?_) (fun c58 => ?_)
        · have c58 : (1000000 : Int) ≤ x47.toInt := wk_le.mp c58
          replace hM := hM.pos c58
          exact J102 x47 r49 x35 H locs ls w51 (show 0 ≤ a1.toInt from r2) (show a1.toInt ≤ 3 from t3) (show 0 ≤ a2.toInt from r4) (show a2.toInt ≤ 11 from t5) (show 0 ≤ a3.toInt from r6) (show a3.toInt ≤ 1 from t7) (show 0 ≤ v32_5.toInt from r8) (show v32_5.toInt ≤ 9 from t9) (show 0 ≤ v32_6.toInt from r10) (show v32_6.toInt ≤ 9 from t11) (show 0 ≤ v32_7.toInt from r12) (show v32_7.toInt ≤ 9 by first | with_reducible assumption | omega) (show 0 ≤ x47.toInt from rx47) (show x47.toInt ≤ 1000000 from tx47) (show 0 ≤ r49.toInt by first | with_reducible assumption | omega) (show r49.toInt ≤ 399 by first | with_reducible assumption | omega) (show 1 ≤ x35.toInt by first | with_reducible assumption | omega) (show x35.toInt ≤ 10 from tx35)  hw hT hF c57 hM (lv_sub hl [2, 3, 4, 5, 6, 7, 8, 9, 1, 0] rfl)
        · have c58 : x47.toInt < (1000000 : Int) := wk_leF c58
          replace hM := hM.neg (Int.not_le.mpr c58)
          refine lv_aload hx hb dX0_drawFirstBy_74 (lv_at hl 6 rfl) ?_
          refine tk_getO hC hK hw hT hinX7 kC_at39 (by decide) rfl 1 (by decide) (List.mem_cons_of_mem _ uw_36_11) rfl rfl dX0_drawFirstBy_76 ?_
          refine lv_iload_n hx hb dX0_drawFirstBy_79 rfl (lv_at hl 4 rfl) ?_
          refine tk_iald hC hK hw hT kC_at41 rfl rfl (show 0 ≤ a2.toInt from r4) (show a2.toInt < 13 from Int.lt_of_le_of_lt t5 (by decide)) dX0_drawFirstBy_80 (fun x59 c60 rx59 tx59 => ?_)
          have hox59 := c60
          replace hM := hM.rd (sI_at hox59)
          refine lv_iload hx hb dX0_drawFirstBy_81 (lv_at hl 1 rfl) ?_
          refine lv_iadd hx hb dX0_drawFirstBy_83 ?_
          refine lv_topi (fun x61 ex61 => ?_)
          have ezx61 := ex61
          have ex61 : x61.toInt = x59.toInt + x47.toInt := by rw [ex61]; exact wk_add (show (-2147483648) ≤ x59.toInt + x47.toInt by omega) (show x59.toInt + x47.toInt ≤ 2147483647 by omega)
          replace hM := hM.lt ex61.symm
          refine lv_aload_n hx hb dX0_drawFirstBy_84 rfl (lv_at hl 2 rfl) ?_
          refine tk_getA hC hK hw hT hinX0 kC_at145 (by decide) rfl 1 (by decide) (List.mem_cons_of_mem _ uw_4_14) rfl rfl dX0_drawFirstBy_85 ?_
          refine lv_iload hx hb dX0_drawFirstBy_88 (lv_at hl 0 rfl) ?_
          refine tk_iald hC hK hw hT kC_at146 rfl rfl (show 0 ≤ r49.toInt by first | with_reducible assumption | omega) (show r49.toInt < 1100 by first | with_reducible assumption | omega) dX0_drawFirstBy_90 (fun x62 c63 rx62 tx62 => ?_)
          have hox62 := c63
          replace hM := hM.rd (sI_at hox62)
          refine lv_icmp_ne (tgt := 102) hx hb dX0_drawFirstBy_91 (by decide) (fun c64 => ?_) (fun c64 => ?_)
          · have c64 : ¬ x61.toInt = x62.toInt := wk_eqF c64
            replace hM := hM.pos c64
            exact J102 x47 r49 x35 H locs ls w51 (show 0 ≤ a1.toInt from r2) (show a1.toInt ≤ 3 from t3) (show 0 ≤ a2.toInt from r4) (show a2.toInt ≤ 11 from t5) (show 0 ≤ a3.toInt from r6) (show a3.toInt ≤ 1 from t7) (show 0 ≤ v32_5.toInt from r8) (show v32_5.toInt ≤ 9 from t9) (show 0 ≤ v32_6.toInt from r10) (show v32_6.toInt ≤ 9 from t11) (show 0 ≤ v32_7.toInt from r12) (show v32_7.toInt ≤ 9 by first | with_reducible assumption | omega) (show 0 ≤ x47.toInt from rx47) (show x47.toInt ≤ 1000000 from tx47) (show 0 ≤ r49.toInt by first | with_reducible assumption | omega) (show r49.toInt ≤ 399 by first | with_reducible assumption | omega) (show 1 ≤ x35.toInt by first | with_reducible assumption | omega) (show x35.toInt ≤ 10 from tx35)  hw hT hF c57 hM (lv_sub hl [2, 3, 4, 5, 6, 7, 8, 9, 1, 0] rfl)
          · have c64 : x61.toInt = x62.toInt := wk_eq.mp c64
            replace hM := hM.neg (fun q => q c64)
            refine lv_aload_n hx hb dX0_drawFirstBy_94 rfl (lv_at hl 2 rfl) ?_
            refine tk_getA hC hK hw hT hinX0 kC_at145 (by decide) rfl 2 (by decide) (List.mem_cons_of_mem _ uw_4_15) rfl rfl dX0_drawFirstBy_95 ?_
            refine lv_iload hx hb dX0_drawFirstBy_98 (lv_at hl 0 rfl) ?_
            refine lv_iload_n hx hb dX0_drawFirstBy_100 rfl (lv_at hl 4 rfl) ?_
            refine tk_iast hC hK hw hT kC_at147 (by decide) rfl rfl (show 0 ≤ r49.toInt by first | with_reducible assumption | omega) (show r49.toInt < 1100 by first | with_reducible assumption | omega) (show (-1) ≤ a2.toInt from Int.le_trans (by decide) r4) (show a2.toInt ≤ 11 from t5) dX0_drawFirstBy_101 (fun H locs w65 hw hT k67 c66 => ?_)
            replace hM := hM.wr (sI_up k67 c66)
            have hF := hF.put kC_at147 (inE_of (a := 0) (b := 1100) (by decide) (show 0 ≤ r49.toInt.toNat by omega) (show r49.toInt.toNat ≤ 1100 by omega)) k67
            have c68 := k67.gi (Or.inl (tk_ne kC_at39 kC_at147 (by decide))) c57
            exact J102 x47 r49 x35 H locs ls w65 (show 0 ≤ a1.toInt from r2) (show a1.toInt ≤ 3 from t3) (show 0 ≤ a2.toInt from r4) (show a2.toInt ≤ 11 from t5) (show 0 ≤ a3.toInt from r6) (show a3.toInt ≤ 1 from t7) (show 0 ≤ v32_5.toInt from r8) (show v32_5.toInt ≤ 9 from t9) (show 0 ≤ v32_6.toInt from r10) (show v32_6.toInt ≤ 9 from t11) (show 0 ≤ v32_7.toInt from r12) (show v32_7.toInt ≤ 9 by first | with_reducible assumption | omega) (show 0 ≤ x47.toInt from rx47) (show x47.toInt ≤ 1000000 from tx47) (show 0 ≤ r49.toInt by first | with_reducible assumption | omega) (show r49.toInt ≤ 399 by first | with_reducible assumption | omega) (show 1 ≤ x35.toInt by first | with_reducible assumption | omega) (show x35.toInt ≤ 10 from tx35)  hw hT hF c68 hM (lv_sub hl [2, 3, 4, 5, 6, 7, 8, 9, 1, 0] rfl)
  have hM : TT (fun n => m_X0_drawFirstBy n 145 a1.toInt a2.toInt a3.toInt (sI w0)) (fun n => m_X0_drawFirstBy n 145 a1.toInt a2.toInt a3.toInt (sI w0)) := TT.rf
  refine lv_aload_n hx hb dX0_drawFirstBy_0 rfl (lv_at hl 0 rfl) ?_
  refine tk_getA hC hK hw hT hinX0 kC_at145 (by decide) rfl 0 (by decide) (List.mem_cons_of_mem _ uw_4_17) rfl rfl dX0_drawFirstBy_1 ?_
  refine tk_getO hC hK hw hT hinX5 kC_at38 (by decide) rfl 0 (by decide) (List.mem_cons_of_mem _ uw_36_9) rfl rfl dX0_drawFirstBy_4 ?_
  refine lv_astore (lv' := [(4, .ref (ad 39)), (0, .ref (ad 145)), (1, .int a1), (2, .int a2), (3, .int a3)]) hx hb dX0_drawFirstBy_7 hl (by decide) rfl (fun ls hl => ?_)
  refine lv_aload hx hb dX0_drawFirstBy_9 (lv_at hl 0 rfl) ?_
  refine lv_iload_n hx hb dX0_drawFirstBy_11 rfl (lv_at hl 3 rfl) ?_
  refine lv_iconst (v := 1) hx hb dX0_drawFirstBy_12 (by decide) ?_
  refine lv_iload_n hx hb dX0_drawFirstBy_13 rfl (lv_at hl 4 rfl) ?_
  refine lv_isub hx hb dX0_drawFirstBy_14 ?_
  refine lv_topi (fun x69 ex69 => ?_)
  have ezx69 := ex69
  have ex69 : x69.toInt = (1 : Int) - a3.toInt := by rw [ex69]; exact wk_sub (show (-2147483648) ≤ (1 : Int) - a3.toInt by omega) (show (1 : Int) - a3.toInt ≤ 2147483647 by omega)
  replace hM := hM.lt ex69.symm
  refine tk_Vi hC hK hw hT hA hE hSR kC_at39 (by decide) rfl (kz_X7_cornerAcross_3 l adK adV dC dI cy ad B hB0 (Int.le_trans hB1 (by decide)) qr s1   a2 (show 0 ≤ a2.toInt from ra2) (show a2.toInt ≤ 11 from ta2) x69 (show 0 ≤ x69.toInt by first | with_reducible assumption | omega) (show x69.toInt ≤ 1 by first | with_reducible assumption | omega) w0 s.heap.size hT ) (cwV 2 hC.2.2.2.2 uV_RX0_71 rfl rfl rfl (by decide +kernel) ⟨Nat.le_of_ble_eq_true rfl, Nat.le_of_ble_eq_true rfl⟩) rfl hl.1 rfl (Nat.le_of_ble_eq_true rfl) dX0_drawFirstBy_15 (fun r70 w72 H locs hp71 hw => ?_)
  obtain ⟨hT, k73, hv77, hg76⟩ := hp71
  have hF := hF.tr k73 (by decide)
  obtain ⟨g74, g75⟩ := hg76
  replace hM := hM.call hv77 rfl
  refine lv_istore (lv' := [(5, .int r70), (4, .ref (ad 39)), (0, .ref (ad 145)), (1, .int a1), (2, .int a2), (3, .int a3)]) hx hb dX0_drawFirstBy_18 hl (by decide) rfl (fun ls hl => ?_)
  refine lv_aload hx hb dX0_drawFirstBy_20 (lv_at hl 1 rfl) ?_
  refine lv_iload_n hx hb dX0_drawFirstBy_22 rfl (lv_at hl 4 rfl) ?_
  refine lv_iload_n hx hb dX0_drawFirstBy_23 rfl (lv_at hl 5 rfl) ?_
  refine tk_Vi hC hK hw hT hA hE hSR kC_at39 (by decide) rfl (kz_X7_cornerAcross_3 l adK adV dC dI cy ad B hB0 (Int.le_trans hB1 (by decide)) qr s1   a2 (show 0 ≤ a2.toInt from ra2) (show a2.toInt ≤ 11 from ta2) a3 (show 0 ≤ a3.toInt from ra3) (show a3.toInt ≤ 1 from ta3) w72 H.size hT ) (cwV 2 hC.2.2.2.2 uV_RX0_71 rfl rfl rfl (by decide +kernel) ⟨Nat.le_of_ble_eq_true rfl, Nat.le_of_ble_eq_true rfl⟩) rfl hl.1 rfl (Nat.le_of_ble_eq_true rfl) dX0_drawFirstBy_24 (fun r78 w80 H locs hp79 hw => ?_)
  obtain ⟨hT, k81, hv85, hg84⟩ := hp79
  have hF := hF.tr k81 (by decide)
  obtain ⟨g82, g83⟩ := hg84
  replace hM := hM.call hv85 rfl
  refine lv_istore (lv' := [(6, .int r78), (5, .int r70), (4, .ref (ad 39)), (0, .ref (ad 145)), (1, .int a1), (2, .int a2), (3, .int a3)]) hx hb dX0_drawFirstBy_27 hl (by decide) rfl (fun ls hl => ?_)
  refine lv_iconst (v := 0) hx hb dX0_drawFirstBy_29 (by decide) ?_
  refine lv_istore (lv' := [(7, .int 0), (6, .int r78), (5, .int r70), (4, .ref (ad 39)), (0, .ref (ad 145)), (1, .int a1), (2, .int a2), (3, .int a3)]) hx hb dX0_drawFirstBy_30 hl (by decide) rfl (fun ls hl => ?_)
  exact L32 ((10 - (0 : Int)).toNat + 1) r70 r78 0 H locs ls w80 (show 0 ≤ a1.toInt from ra1) (show a1.toInt ≤ 3 from ta1) (show 0 ≤ a2.toInt from ra2) (show a2.toInt ≤ 11 from ta2) (show 0 ≤ a3.toInt from ra3) (show a3.toInt ≤ 1 from ta3) (show 0 ≤ r70.toInt by first | with_reducible assumption | omega) (show r70.toInt ≤ 9 by first | with_reducible assumption | omega) (show 0 ≤ r78.toInt by first | with_reducible assumption | omega) (show r78.toInt ≤ 9 by first | with_reducible assumption | omega) (by decide) (by decide) (Nat.lt_succ_self _) hw hT hF hM (lv_sub hl [4, 5, 6, 7, 3, 2, 1, 0] rfl)
abbrev Pz_X0_drawFirst_1 (ad : Nat → Nat) (cy : Nat → ClassId) (B : Int) (qr : Nat) (s1 : Int) (a1 : Int32) (w0 : va_W) : va_W → Prop := fun u => TW ksC ad cy B qr s1 u ∧ FE ksC [(43, 0, 1100)] w0 u ∧ Ev (fun n => m_X0_drawFirst n 145 a1.toInt (sI w0)) (0, sI u) ∧ ((True))
set_option maxHeartbeats 4000000 in
set_option maxRecDepth 100000 in
theorem kz_X0_drawFirst_1 (l : Launch) (adK adV : Nat → Nat) (dC : Nat → ClassId) (dI : Nat → Nat → Nat) (cy : Nat → ClassId) (ad : Nat → Nat) (B : Int) (hB0 : 2147483648 ≤ B) (hB1 : B ≤ 1152921504606846976) (qr : Nat) (s1 : Int)  (a1 : Int32) (ra1 : 0 ≤ a1.toInt) (ta1 : a1.toInt ≤ 3) (w0 : va_W) (sz : Nat) (hT : TW ksC ad cy B qr s1 w0)  : Met l yX0_drawFirst (wu yX0_drawFirst cX0_drawFirst 6 none) ({ frames := 3, cells := 0, slots := 0, locals := 63 }) (va_Pc [.ref (ad 145), .int a1] (wpreS adK adV dC dI cy sz w0)) (va_Qv (Pz_X0_drawFirst_1 ad cy B qr s1 a1 w0) (fun u : va_W => wpost dC dI cy (va_A w0 sz) u) (va_A w0 sz)) 0 0 (va_A w0 sz) := by
  refine Met.ofW (cc := cX0_drawFirst) (maxL := 6) (ret := none) (by decide) rfl ?_
  intro p e s m args below meth c s₁ Bk hml hv
  obtain ⟨rfl, ⟨hsz, hP, hK, hD0⟩, hE, hSR⟩ := hv
  have hx := Bk.exec
  have hb := Bk.bytes
  have hr := Bk.returns
  have hlocks := Bk.notSynchronized
  have hC : CallFix p m c cX0_drawFirst 6 s _ (wu yX0_drawFirst cX0_drawFirst 6 none) RX0 := ⟨hx, hb, hml, findClass_of_methodNamed Bk.named, atoms_spec (ws := (wu yX0_drawFirst cX0_drawFirst 6 none)) Bk.pre⟩
  subst hsz
  have hD := hD0.self (sz := s.heap.size)
  generalize hAe : va_A w0 s.heap.size = A at hD hE ⊢
  have hA : ∀ q : Nat, s.heap.size ≤ q → A q := fun q h => by rw [← hAe]; exact Or.inr h
  have hw : Wd dC dI A s.heap s.heap [] w0 := ⟨hP, hD, va_S.rf⟩
  have hF : FE ksC [(43, 0, 1100)] w0 w0 := FE.rf
  have hl := lv_entry ([.ref (ad 145), .int a1]) (n := 6) (Nat.le_of_ble_eq_true rfl)
  rw [lg_entry_eq]
  generalize (lg_sl ([.ref (ad 145), .int a1]) ++ List.replicate (6 - (lg_sl ([.ref (ad 145), .int a1])).length) Slot.unset).toArray = ls at hl ⊢
  have hl : lv_has ls 6 [(0, .ref (ad 145)), (1, .int a1)] := hl
  generalize hloc : ([] : List Loc) = locs at hw ⊢
  have hinX0 : ∀ w ∈ u_ws RX0 TX0 4, w ∈ (wu yX0_drawFirst cX0_drawFirst 6 none) := fun _ h => List.mem_cons_of_mem _ (up_77 h)
  have hinX5 : ∀ w ∈ u_ws RX5 TX5 14, w ∈ (wu yX0_drawFirst cX0_drawFirst 6 none) := fun _ h => List.mem_cons_of_mem _ (up_76 h)
  have hinX7 : ∀ w ∈ u_ws RX7 TX7 12, w ∈ (wu yX0_drawFirst cX0_drawFirst 6 none) := fun _ h => List.mem_cons_of_mem _ (up_73 h)
  have L15 : ∀ (n15 : Nat) (v15_3 : Int32) (f15_39_9 : Int32) (H : Heap) (locs : List Loc) (ls : Array Slot) (w1 : va_W), 0 ≤ a1.toInt → a1.toInt ≤ 3 → (-1) ≤ v15_3.toInt → v15_3.toInt ≤ 11 → 0 ≤ f15_39_9.toInt → f15_39_9.toInt ≤ 12 → (v15_3.toInt - (-1)).toNat < n15 → Wd dC dI A s.heap H locs w1 → TW ksC ad cy B qr s1 w1 → FE ksC [(43, 0, 1100)] w0 w1 → gi w1 39 9 = f15_39_9 → TT (fun n => m_X0_drawFirst n 145 a1.toInt (sI w0)) (fun n => j_X0_drawFirst 145 n 15 [a1.toInt, v15_3.toInt] (sI w1)) → lv_has ls 6 [(0, .ref (ad 145)), (1, .int a1), (2, .ref (ad 39)), (3, .int v15_3)] → W p l e ({ frames := 3, cells := 0, slots := 0, locals := 63 }) s m (List.toArray [.ref (ad 145), .int a1]) below meth c H locs 0 0 (MQ below (va_Qv (Pz_X0_drawFirst_1 ad cy B qr s1 a1 w0) (fun u : va_W => wpost dC dI cy A u) A) (List.toArray [.ref (ad 145), .int a1]) s 0 0 A) (F0 m 15 ls []) := by
    intro n15
    induction n15 with
    | zero => intro v15_3 f15_39_9 H locs ls w1 r2 t3 r4 t5 r6 t7 hm15 hw hT hF c8 hM hl; omega
    | succ n15 ih15 =>
      intro v15_3 f15_39_9 H locs ls w1 r2 t3 r4 t5 r6 t7 hm15 hw hT hF c8 hM hl
      have L30 : ∀ (n30 : Nat) (v30_4 : Int32) (v30_5 : Int32) (H : Heap) (locs : List Loc) (ls : Array Slot) (w9 : va_W), 0 ≤ a1.toInt → a1.toInt ≤ 3 → 0 ≤ v15_3.toInt → v15_3.toInt ≤ 11 → 0 ≤ v30_5.toInt → v30_5.toInt ≤ 2 → 0 ≤ f15_39_9.toInt → f15_39_9.toInt ≤ 12 → (2 - v30_5.toInt).toNat < n30 → Wd dC dI A s.heap H locs w9 → TW ksC ad cy B qr s1 w9 → FE ksC [(43, 0, 1100)] w0 w9 → gi w9 39 9 = f15_39_9 → TT (fun n => m_X0_drawFirst n 145 a1.toInt (sI w0)) (fun n => j_X0_drawFirst 145 n 30 [a1.toInt, v15_3.toInt, v30_4.toInt, v30_5.toInt] (sI w9)) → lv_has ls 6 [(0, .ref (ad 145)), (1, .int a1), (2, .ref (ad 39)), (3, .int v15_3), (4, .int v30_4), (5, .int v30_5)] → W p l e ({ frames := 3, cells := 0, slots := 0, locals := 63 }) s m (List.toArray [.ref (ad 145), .int a1]) below meth c H locs 0 0 (MQ below (va_Qv (Pz_X0_drawFirst_1 ad cy B qr s1 a1 w0) (fun u : va_W => wpost dC dI cy A u) A) (List.toArray [.ref (ad 145), .int a1]) s 0 0 A) (F0 m 30 ls []) := by
        intro n30
        induction n30 with
        | zero => intro v30_4 v30_5 H locs ls w9 r10 t11 r12 t13 r14 t15 r16 t17 hm30 hw hT hF c18 hM hl; omega
        | succ n30 ih30 =>
          intro v30_4 v30_5 H locs ls w9 r10 t11 r12 t13 r14 t15 r16 t17 hm30 hw hT hF c18 hM hl
          have J54 : ∀ (H : Heap) (locs : List Loc) (ls : Array Slot) (w19 : va_W), 0 ≤ a1.toInt → a1.toInt ≤ 3 → 0 ≤ v15_3.toInt → v15_3.toInt ≤ 11 → 0 ≤ v30_5.toInt → v30_5.toInt ≤ 1 → 0 ≤ f15_39_9.toInt → f15_39_9.toInt ≤ 12 → Wd dC dI A s.heap H locs w19 → TW ksC ad cy B qr s1 w19 → FE ksC [(43, 0, 1100)] w0 w19 → gi w19 39 9 = f15_39_9 → TT (fun n => m_X0_drawFirst n 145 a1.toInt (sI w0)) (fun n => b_X0_drawFirst_54 (j_X0_drawFirst 145 n) n 145 (a1.toInt) (v15_3.toInt) (v30_4.toInt) (v30_5.toInt) (sI w19)) → lv_has ls 6 [(0, .ref (ad 145)), (1, .int a1), (2, .ref (ad 39)), (3, .int v15_3), (4, .int v30_4), (5, .int v30_5)] → W p l e ({ frames := 3, cells := 0, slots := 0, locals := 63 }) s m (List.toArray [.ref (ad 145), .int a1]) below meth c H locs 0 0 (MQ below (va_Qv (Pz_X0_drawFirst_1 ad cy B qr s1 a1 w0) (fun u : va_W => wpost dC dI cy A u) A) (List.toArray [.ref (ad 145), .int a1]) s 0 0 A) (F0 m 54 ls []) := by
            intro H locs ls w19 r20 t21 r22 t23 r24 t25 r26 t27 hw hT hF c28 hM hl
            obtain ⟨x29, ex29⟩ : ∃ y : Int32, y = v30_5 + Int32.ofInt 1 := ⟨_, rfl⟩
            have erx29 := ex29
            refine lv_iinc (v := x29) (lv' := [(5, .int x29), (0, .ref (ad 145)), (1, .int a1), (2, .ref (ad 39)), (3, .int v15_3), (4, .int v30_4)]) hx hb dX0_drawFirst_54 hl (k := 5) rfl ex29.symm (by decide) rfl (fun ls hl => ?_)
            have ex29 : x29.toInt = v30_5.toInt + 1 := by rw [ex29]; exact wk_add (y := 1) (show -2147483648 ≤ v30_5.toInt + 1 by omega) (show v30_5.toInt + 1 ≤ 2147483647 by omega)
            replace hM := hM.lt ex29.symm
            refine lv_goto (tgt := 30) hx hb dX0_drawFirst_57 (by decide) ?_
            exact ih30 v30_4 x29 H locs ls w19 (show 0 ≤ a1.toInt from r20) (show a1.toInt ≤ 3 from t21) (show 0 ≤ v15_3.toInt from r22) (show v15_3.toInt ≤ 11 from t23) (show 0 ≤ x29.toInt by first | with_reducible assumption | omega) (show x29.toInt ≤ 2 by first | with_reducible assumption | omega) (show 0 ≤ f15_39_9.toInt from r26) (show f15_39_9.toInt ≤ 12 from t27) (show (2 - x29.toInt).toNat < n30 by first | exact tn_lt hm30 (by omega) (by omega) | omega) hw hT hF c28 hM (lv_sub hl [1, 2, 3, 4, 5, 0] rfl)
          replace hM := hM.suc (fun _ => e_X0_drawFirst_30)
          refine lv_iload hx hb dX0_drawFirst_30 (lv_at hl 5 rfl) ?_
          refine lv_iconst (v := 2) hx hb dX0_drawFirst_32 (by decide) ?_
          refine lv_icmp_ge (tgt := 60) hx hb dX0_drawFirst_33 (by decide) (fun c30 => ?_) (fun c30 => ?_)
          · have c30 : (2 : Int) ≤ v30_5.toInt := wk_le.mp c30
            replace hM := hM.pos c30
            obtain ⟨x31, ex31⟩ : ∃ y : Int32, y = v15_3 + Int32.ofInt (-1) := ⟨_, rfl⟩
            have erx31 := ex31
            refine lv_iinc (v := x31) (lv' := [(3, .int x31), (0, .ref (ad 145)), (1, .int a1), (2, .ref (ad 39)), (4, .int v30_4), (5, .int v30_5)]) hx hb dX0_drawFirst_60 hl (k := 3) rfl ex31.symm (by decide) rfl (fun ls hl => ?_)
            have ex31 : x31.toInt = v15_3.toInt + (-1) := by rw [ex31]; exact wk_add (y := (-1)) (show -2147483648 ≤ v15_3.toInt + (-1) by omega) (show v15_3.toInt + (-1) ≤ 2147483647 by omega)
            replace hM := hM.lt ex31.symm
            refine lv_goto (tgt := 15) hx hb dX0_drawFirst_63 (by decide) ?_
            exact ih15 x31 f15_39_9 H locs ls w9 (show 0 ≤ a1.toInt from r10) (show a1.toInt ≤ 3 from t11) (show (-1) ≤ x31.toInt by first | with_reducible assumption | omega) (show x31.toInt ≤ 11 by first | with_reducible assumption | omega) (show 0 ≤ f15_39_9.toInt from r16) (show f15_39_9.toInt ≤ 12 from t17) (show (x31.toInt - (-1)).toNat < n15 by first | exact tn_lt hm15 (by omega) (by omega) | omega) hw hT hF c18 hM (lv_sub hl [1, 2, 3, 0] rfl)
          · have c30 : v30_5.toInt < (2 : Int) := wk_leF c30
            replace hM := hM.neg (Int.not_le.mpr c30)
            refine lv_iload hx hb dX0_drawFirst_36 (lv_at hl 4 rfl) ?_
            refine lv_iload hx hb dX0_drawFirst_38 (lv_at hl 5 rfl) ?_
            refine lv_ishr hx hb dX0_drawFirst_40 ?_
            refine lv_topi (fun x32 ex32 => ?_)
            have ezx32 := ex32
            replace hM := hM.lt (o32_e (f := fun x y => x >>> (y &&& 31)) ezx32 rfl rfl)
            refine lv_iconst (v := 1) hx hb dX0_drawFirst_41 (by decide) ?_
            refine lv_iand hx hb dX0_drawFirst_42 ?_
            refine lv_topi (fun x33 ex33 => ?_)
            have ezx33 := ex33
            have bx33 : 0 ≤ x33.toInt ∧ x33.toInt ≤ (1 : Int) := by rw [ex33]; exact wk_and (by decide)
            replace hM := hM.lt (o32_e (f := fun x y => x &&& y) ezx33 rfl (by decide))
            refine lv_if_eq (tgt := 54) hx hb dX0_drawFirst_43 (by decide) (fun c34 => ?_) (fun c34 => ?_)
            · have c34 : x33.toInt = (0 : Int) := wk_eq.mp c34
              replace hM := hM.pos c34
              exact J54  H locs ls w9 (show 0 ≤ a1.toInt from r10) (show a1.toInt ≤ 3 from t11) (show 0 ≤ v15_3.toInt from r12) (show v15_3.toInt ≤ 11 from t13) (show 0 ≤ v30_5.toInt from r14) (show v30_5.toInt ≤ 1 by first | with_reducible assumption | omega) (show 0 ≤ f15_39_9.toInt from r16) (show f15_39_9.toInt ≤ 12 from t17)  hw hT hF c18 hM (lv_sub hl [0, 1, 2, 3, 4, 5] rfl)
            · have c34 : ¬ x33.toInt = (0 : Int) := wk_eqF c34
              replace hM := hM.neg c34
              refine lv_aload_n hx hb dX0_drawFirst_46 rfl (lv_at hl 0 rfl) ?_
              refine lv_iload_n hx hb dX0_drawFirst_47 rfl (lv_at hl 1 rfl) ?_
              refine lv_iload_n hx hb dX0_drawFirst_48 rfl (lv_at hl 3 rfl) ?_
              refine lv_iload hx hb dX0_drawFirst_49 (lv_at hl 5 rfl) ?_
              refine tk_Vv hC hK hw hT hA hE hSR kC_at145 (by decide) rfl (kz_X0_drawFirstBy_1 l adK adV dC dI cy ad B hB0 (Int.le_trans hB1 (by decide)) qr s1   a1 (show 0 ≤ a1.toInt from r10) (show a1.toInt ≤ 3 from t11) v15_3 (show 0 ≤ v15_3.toInt from r12) (show v15_3.toInt ≤ 11 from t13) v30_5 (show 0 ≤ v30_5.toInt from r14) (show v30_5.toInt ≤ 1 by first | with_reducible assumption | omega) w9 H.size hT ) (cwV 3 hC.2.2.2.2 uV_RX0_78 rfl rfl rfl (by decide +kernel) ⟨Nat.le_of_ble_eq_true rfl, Nat.le_of_ble_eq_true rfl⟩) rfl hl.1 rfl (Nat.le_of_ble_eq_true rfl) dX0_drawFirst_51 (fun w37 H locs hp36 hw => ?_)
              obtain ⟨hT, k38, hv40, hg39⟩ := hp36
              have hF := hF.tr k38 (by decide)
              have c41 := k38.gi kC_at39 (by decide) c18
              clear hg39
              replace hM := hM.call hv40 rfl
              exact J54  H locs ls w37 (show 0 ≤ a1.toInt from r10) (show a1.toInt ≤ 3 from t11) (show 0 ≤ v15_3.toInt from r12) (show v15_3.toInt ≤ 11 from t13) (show 0 ≤ v30_5.toInt from r14) (show v30_5.toInt ≤ 1 by first | with_reducible assumption | omega) (show 0 ≤ f15_39_9.toInt from r16) (show f15_39_9.toInt ≤ 12 from t17)  hw hT hF c41 hM (lv_sub hl [0, 1, 2, 3, 4, 5] rfl)
      replace hM := hM.suc (fun _ => e_X0_drawFirst_15)
      refine lv_iload_n hx hb dX0_drawFirst_15 rfl (lv_at hl 3 rfl) ?_
      refine lv_if_lt (tgt := 66) hx hb dX0_drawFirst_16 (by decide) (fun c42 => ?_) (fun c42 => ?_)
      · have c42 : v15_3.toInt < (0 : Int) := wk_lt.mp c42
        replace hM := hM.pos c42
        exact tk_vret hC hr hlocks hK ⟨hT, hF, hM.ret rfl, trivial⟩ hw dX0_drawFirst_66
      · have c42 : (0 : Int) ≤ v15_3.toInt := wk_ltF c42
        replace hM := hM.neg (Int.not_lt.mpr c42)
        refine lv_aload_n hx hb dX0_drawFirst_19 rfl (lv_at hl 0 rfl) ?_
        refine lv_iload_n hx hb dX0_drawFirst_20 rfl (lv_at hl 1 rfl) ?_
        refine lv_iload_n hx hb dX0_drawFirst_21 rfl (lv_at hl 3 rfl) ?_
        refine tk_Vi hC hK hw hT hA hE hSR kC_at145 (by decide) rfl (kz_X0_signOf_1 l adK adV dC dI cy ad B hB0 (Int.le_trans hB1 (by decide)) qr s1   a1 (show 0 ≤ a1.toInt from r2) (show a1.toInt ≤ 3 from t3) v15_3 (show 0 ≤ v15_3.toInt by first | with_reducible assumption | omega) (show v15_3.toInt ≤ 11 from t5) w1 H.size hT ) (cwV 2 hC.2.2.2.2 uV_RX0_68 rfl rfl rfl (by decide +kernel) ⟨Nat.le_of_ble_eq_true rfl, Nat.le_of_ble_eq_true rfl⟩) rfl hl.1 rfl (Nat.le_of_ble_eq_true rfl) dX0_drawFirst_22 (fun r43 w45 H locs hp44 hw => ?_)
        obtain ⟨hT, k46, hv48, hg47⟩ := hp44
        have hF := hF.tr k46 (by decide)
        have c49 := k46.gi kC_at39 (by decide) c8
        clear hg47
        replace hM := hM.call hv48 rfl
        refine lv_istore (lv' := [(4, .int r43), (0, .ref (ad 145)), (1, .int a1), (2, .ref (ad 39)), (3, .int v15_3)]) hx hb dX0_drawFirst_25 hl (by decide) rfl (fun ls hl => ?_)
        refine lv_iconst (v := 0) hx hb dX0_drawFirst_27 (by decide) ?_
        refine lv_istore (lv' := [(5, .int 0), (4, .int r43), (0, .ref (ad 145)), (1, .int a1), (2, .ref (ad 39)), (3, .int v15_3)]) hx hb dX0_drawFirst_28 hl (by decide) rfl (fun ls hl => ?_)
        exact L30 ((2 - (0 : Int)).toNat + 1) r43 0 H locs ls w45 (show 0 ≤ a1.toInt from r2) (show a1.toInt ≤ 3 from t3) (show 0 ≤ v15_3.toInt by first | with_reducible assumption | omega) (show v15_3.toInt ≤ 11 from t5) (by decide) (by decide) (show 0 ≤ f15_39_9.toInt from r6) (show f15_39_9.toInt ≤ 12 from t7) (Nat.lt_succ_self _) hw hT hF c49 hM (lv_sub hl [2, 3, 4, 5, 1, 0] rfl)
  have hM : TT (fun n => m_X0_drawFirst n 145 a1.toInt (sI w0)) (fun n => m_X0_drawFirst n 145 a1.toInt (sI w0)) := TT.rf
  refine lv_aload_n hx hb dX0_drawFirst_0 rfl (lv_at hl 0 rfl) ?_
  refine tk_getA hC hK hw hT hinX0 kC_at145 (by decide) rfl 0 (by decide) (List.mem_cons_of_mem _ uw_4_17) rfl rfl dX0_drawFirst_1 ?_
  refine tk_getO hC hK hw hT hinX5 kC_at38 (by decide) rfl 0 (by decide) (List.mem_cons_of_mem _ uw_36_9) rfl rfl dX0_drawFirst_4 ?_
  refine lv_astore_n (lv' := [(2, .ref (ad 39)), (0, .ref (ad 145)), (1, .int a1)]) hx hb dX0_drawFirst_7 rfl hl (by decide) rfl (fun ls hl => ?_)
  refine lv_aload_n hx hb dX0_drawFirst_8 rfl (lv_at hl 0 rfl) ?_
  refine tk_geti hC hK hw hT hinX7 kC_at39 (by decide) rfl 9 (by decide) (List.mem_cons_of_mem _ uw_36_10) rfl rfl dX0_drawFirst_9 (fun x50 c51 rx50 tx50 => ?_)
  replace hM := hM.rd (sI_at c51)
  refine lv_iconst (v := 1) hx hb dX0_drawFirst_12 (by decide) ?_
  refine lv_isub hx hb dX0_drawFirst_13 ?_
  refine lv_topi (fun x52 ex52 => ?_)
  have ezx52 := ex52
  have ex52 : x52.toInt = x50.toInt - (1 : Int) := by rw [ex52]; exact wk_sub (show (-2147483648) ≤ x50.toInt - (1 : Int) by omega) (show x50.toInt - (1 : Int) ≤ 2147483647 by omega)
  replace hM := hM.lt ex52.symm
  refine lv_istore_n (lv' := [(3, .int x52), (2, .ref (ad 39)), (0, .ref (ad 145)), (1, .int a1)]) hx hb dX0_drawFirst_14 rfl hl (by decide) rfl (fun ls hl => ?_)
  exact L15 ((x52.toInt - (-1)).toNat + 1) x52 x50 s.heap locs ls w0 (show 0 ≤ a1.toInt from ra1) (show a1.toInt ≤ 3 from ta1) (show (-1) ≤ x52.toInt by first | with_reducible assumption | omega) (show x52.toInt ≤ 11 by first | with_reducible assumption | omega) (show 0 ≤ x50.toInt from rx50) (show x50.toInt ≤ 12 from tx50) (Nat.lt_succ_self _) hw hT hF c51 hM (lv_sub hl [2, 3, 1, 0] rfl)
