abbrev Pz_X0_drawHours_2 (ad : Nat → Nat) (cy : Nat → ClassId) (B : Int) (qr : Nat) (s1 : Int) (a1 : Int32) (w0 : va_W) : va_W → Prop := fun u => TW ksC ad cy B qr s1 u ∧ FE ksC [(42, 0, 1100)] w0 u ∧ Ev (fun n => m_X0_drawHours n 145 a1.toInt (sI w0)) (0, sI u) ∧ ((True))
set_option maxHeartbeats 4000000 in
set_option maxRecDepth 100000 in
theorem kz_X0_drawHours_2 (l : Launch) (adK adV : Nat → Nat) (dC : Nat → ClassId) (dI : Nat → Nat → Nat) (cy : Nat → ClassId) (ad : Nat → Nat) (B : Int) (hB0 : 2147483648 ≤ B) (hB1 : B ≤ 1152921504606846976) (qr : Nat) (s1 : Int)  (a1 : Int32) (ra1 : 0 ≤ a1.toInt) (ta1 : a1.toInt ≤ 10) (w0 : va_W) (sz : Nat) (hT : TW ksC ad cy B qr s1 w0)  : Met l yX0_drawHours (wu yX0_drawHours cX0_drawHours 9 none) ({ frames := 2, cells := 0, slots := 0, locals := 34 }) (va_Pc [.ref (ad 145), .int a1] (wpreS adK adV dC dI cy sz w0)) (va_Qv (Pz_X0_drawHours_2 ad cy B qr s1 a1 w0) (fun u : va_W => wpost dC dI cy (va_A w0 sz) u) (va_A w0 sz)) 0 0 (va_A w0 sz) := by
  refine Met.ofW (cc := cX0_drawHours) (maxL := 9) (ret := none) (by decide) rfl ?_
  intro p e s m args below meth c s₁ Bk hml hv
  obtain ⟨rfl, ⟨hsz, hP, hK, hD0⟩, hE, hSR⟩ := hv
  have hx := Bk.exec
  have hb := Bk.bytes
  have hr := Bk.returns
  have hlocks := Bk.notSynchronized
  have hC : CallFix p m c cX0_drawHours 9 s _ (wu yX0_drawHours cX0_drawHours 9 none) RX0 := ⟨hx, hb, hml, findClass_of_methodNamed Bk.named, atoms_spec (ws := (wu yX0_drawHours cX0_drawHours 9 none)) Bk.pre⟩
  subst hsz
  have hD := hD0.self (sz := s.heap.size)
  generalize hAe : va_A w0 s.heap.size = A at hD hE ⊢
  have hA : ∀ q : Nat, s.heap.size ≤ q → A q := fun q h => by rw [← hAe]; exact Or.inr h
  have hw : Wd dC dI A s.heap s.heap [] w0 := ⟨hP, hD, va_S.rf⟩
  have hF : FE ksC [(42, 0, 1100)] w0 w0 := FE.rf
  have hl := lv_entry ([.ref (ad 145), .int a1]) (n := 9) (Nat.le_of_ble_eq_true rfl)
  rw [lg_entry_eq]
  generalize (lg_sl ([.ref (ad 145), .int a1]) ++ List.replicate (9 - (lg_sl ([.ref (ad 145), .int a1])).length) Slot.unset).toArray = ls at hl ⊢
  have hl : lv_has ls 9 [(0, .ref (ad 145)), (1, .int a1)] := hl
  generalize hloc : ([] : List Loc) = locs at hw ⊢
  have hinX0 : ∀ w ∈ u_ws RX0 TX0 4, w ∈ (wu yX0_drawHours cX0_drawHours 9 none) := fun _ h => List.mem_cons_of_mem _ (up_77 h)
  have hinX5 : ∀ w ∈ u_ws RX5 TX5 14, w ∈ (wu yX0_drawHours cX0_drawHours 9 none) := fun _ h => List.mem_cons_of_mem _ (up_76 h)
  have hinX7 : ∀ w ∈ u_ws RX7 TX7 12, w ∈ (wu yX0_drawHours cX0_drawHours 9 none) := fun _ h => List.mem_cons_of_mem _ (up_73 h)
  have L13 : ∀ (n13 : Nat) (v13_2 : Int32) (v13_3 : Int32) (f13_39_8 : Int32) (H : Heap) (locs : List Loc) (ls : Array Slot) (w1 : va_W), 0 ≤ a1.toInt → a1.toInt ≤ 10 → (-1) ≤ v13_2.toInt → v13_2.toInt ≤ 10 → 0 ≤ v13_3.toInt → v13_3.toInt ≤ 10 → (-1) ≤ f13_39_8.toInt → f13_39_8.toInt ≤ 10 → (10 - v13_3.toInt).toNat < n13 → Wd dC dI A s.heap H locs w1 → TW ksC ad cy B qr s1 w1 → FE ksC [(42, 0, 1100)] w0 w1 → gi w1 39 8 = f13_39_8 → TT (fun n => m_X0_drawHours n 145 a1.toInt (sI w0)) (fun n => j_X0_drawHours 145 n 13 [a1.toInt, v13_2.toInt, v13_3.toInt] (sI w1)) → lv_has ls 9 [(0, .ref (ad 145)), (1, .int a1), (2, .int v13_2), (3, .int v13_3)] → W p l e ({ frames := 2, cells := 0, slots := 0, locals := 34 }) s m (List.toArray [.ref (ad 145), .int a1]) below meth c H locs 0 0 (MQ below (va_Qv (Pz_X0_drawHours_2 ad cy B qr s1 a1 w0) (fun u : va_W => wpost dC dI cy A u) A) (List.toArray [.ref (ad 145), .int a1]) s 0 0 A) (F0 m 13 ls []) := by
    intro n13
    induction n13 with
    | zero => intro v13_2 v13_3 f13_39_8 H locs ls w1 r2 t3 r4 t5 r6 t7 r8 t9 hm13 hw hT hF c10 hM hl; omega
    | succ n13 ih13 =>
      intro v13_2 v13_3 f13_39_8 H locs ls w1 r2 t3 r4 t5 r6 t7 r8 t9 hm13 hw hT hF c10 hM hl
      have L21 : ∀ (n21 : Nat) (v21_4 : Int32) (H : Heap) (locs : List Loc) (ls : Array Slot) (w11 : va_W), 0 ≤ a1.toInt → a1.toInt ≤ 10 → 1 ≤ v13_2.toInt → v13_2.toInt ≤ 10 → 0 ≤ v13_3.toInt → v13_3.toInt ≤ 9 → 0 ≤ v21_4.toInt → v21_4.toInt ≤ 10 → (-1) ≤ f13_39_8.toInt → f13_39_8.toInt ≤ 10 → (10 - v21_4.toInt).toNat < n21 → Wd dC dI A s.heap H locs w11 → TW ksC ad cy B qr s1 w11 → FE ksC [(42, 0, 1100)] w0 w11 → gi w11 39 8 = f13_39_8 → TT (fun n => m_X0_drawHours n 145 a1.toInt (sI w0)) (fun n => j_X0_drawHours 145 n 21 [a1.toInt, v13_2.toInt, v13_3.toInt, v21_4.toInt] (sI w11)) → lv_has ls 9 [(0, .ref (ad 145)), (1, .int a1), (2, .int v13_2), (3, .int v13_3), (4, .int v21_4)] → W p l e ({ frames := 2, cells := 0, slots := 0, locals := 34 }) s m (List.toArray [.ref (ad 145), .int a1]) below meth c H locs 0 0 (MQ below (va_Qv (Pz_X0_drawHours_2 ad cy B qr s1 a1 w0) (fun u : va_W => wpost dC dI cy A u) A) (List.toArray [.ref (ad 145), .int a1]) s 0 0 A) (F0 m 21 ls []) := by
        intro n21
        induction n21 with
        | zero => intro v21_4 H locs ls w11 r12 t13 r14 t15 r16 t17 r18 t19 r20 t21 hm21 hw hT hF c22 hM hl; omega
        | succ n21 ih21 =>
          intro v21_4 H locs ls w11 r12 t13 r14 t15 r16 t17 r18 t19 r20 t21 hm21 hw hT hF c22 hM hl
          have J111 : ∀ (v111_5 : Int32) (v111_6 : Int32) (H : Heap) (locs : List Loc) (ls : Array Slot) (w23 : va_W), 0 ≤ a1.toInt → a1.toInt ≤ 10 → 1 ≤ v13_2.toInt → v13_2.toInt ≤ 10 → 0 ≤ v13_3.toInt → v13_3.toInt ≤ 9 → 0 ≤ v21_4.toInt → v21_4.toInt ≤ 9 → 0 ≤ v111_5.toInt → v111_5.toInt ≤ 1000000 → 0 ≤ v111_6.toInt → v111_6.toInt ≤ 10 → (-1) ≤ f13_39_8.toInt → f13_39_8.toInt ≤ 10 → Wd dC dI A s.heap H locs w23 → TW ksC ad cy B qr s1 w23 → FE ksC [(42, 0, 1100)] w0 w23 → gi w23 39 8 = f13_39_8 → TT (fun n => m_X0_drawHours n 145 a1.toInt (sI w0)) (fun n => b_X0_drawHours_111 (j_X0_drawHours 145 n) n 145 (a1.toInt) (v13_2.toInt) (v13_3.toInt) (v21_4.toInt) (sI w23)) → lv_has ls 9 [(0, .ref (ad 145)), (1, .int a1), (2, .int v13_2), (3, .int v13_3), (4, .int v21_4), (5, .int v111_5), (6, .int v111_6)] → W p l e ({ frames := 2, cells := 0, slots := 0, locals := 34 }) s m (List.toArray [.ref (ad 145), .int a1]) below meth c H locs 0 0 (MQ below (va_Qv (Pz_X0_drawHours_2 ad cy B qr s1 a1 w0) (fun u : va_W => wpost dC dI cy A u) A) (List.toArray [.ref (ad 145), .int a1]) s 0 0 A) (F0 m 111 ls []) := by
            intro v111_5 v111_6 H locs ls w23 r24 t25 r26 t27 r28 t29 r30 t31 r32 t33 r34 t35 r36 t37 hw hT hF c38 hM hl
            obtain ⟨x39, ex39⟩ : ∃ y : Int32, y = v21_4 + Int32.ofInt 1 := ⟨_, rfl⟩
            have erx39 := ex39
            refine lv_iinc (v := x39) (lv' := [(4, .int x39), (0, .ref (ad 145)), (1, .int a1), (2, .int v13_2), (3, .int v13_3), (5, .int v111_5), (6, .int v111_6)]) hx hb dX0_drawHours_111 hl (k := 4) rfl ex39.symm (by decide) rfl (fun ls hl => ?_)
            have ex39 : x39.toInt = v21_4.toInt + 1 := by rw [ex39]; exact wk_add (y := 1) (show -2147483648 ≤ v21_4.toInt + 1 by omega) (show v21_4.toInt + 1 ≤ 2147483647 by omega)
            replace hM := hM.lt ex39.symm
            refine lv_goto (tgt := 21) hx hb dX0_drawHours_114 (by decide) ?_
            exact ih21 x39 H locs ls w23 (show 0 ≤ a1.toInt from r24) (show a1.toInt ≤ 10 from t25) (show 1 ≤ v13_2.toInt from r26) (show v13_2.toInt ≤ 10 from t27) (show 0 ≤ v13_3.toInt from r28) (show v13_3.toInt ≤ 9 from t29) (show 0 ≤ x39.toInt by first | with_reducible assumption | omega) (show x39.toInt ≤ 10 by first | with_reducible assumption | omega) (show (-1) ≤ f13_39_8.toInt from r36) (show f13_39_8.toInt ≤ 10 from t37) (show (10 - x39.toInt).toNat < n21 by first | exact tn_lt hm21 (by omega) (by omega) | omega) hw hT hF c38 hM (lv_sub hl [1, 2, 3, 4, 0] rfl)
          have L44 : ∀ (n44 : Nat) (v44_5 : Int32) (v44_6 : Int32) (H : Heap) (locs : List Loc) (ls : Array Slot) (w40 : va_W), 0 ≤ a1.toInt → a1.toInt ≤ 10 → 1 ≤ v13_2.toInt → v13_2.toInt ≤ 10 → 0 ≤ v13_3.toInt → v13_3.toInt ≤ 9 → 0 ≤ v21_4.toInt → v21_4.toInt ≤ 9 → 0 ≤ v44_5.toInt → v44_5.toInt ≤ 1000000 → 0 ≤ v44_6.toInt → v44_6.toInt ≤ 10 → (-1) ≤ f13_39_8.toInt → f13_39_8.toInt ≤ 10 → (10 - v44_6.toInt).toNat < n44 → Wd dC dI A s.heap H locs w40 → TW ksC ad cy B qr s1 w40 → FE ksC [(42, 0, 1100)] w0 w40 → gi w40 39 8 = f13_39_8 → TT (fun n => m_X0_drawHours n 145 a1.toInt (sI w0)) (fun n => j_X0_drawHours 145 n 44 [a1.toInt, v13_2.toInt, v13_3.toInt, v21_4.toInt, v44_5.toInt, v44_6.toInt] (sI w40)) → lv_has ls 9 [(0, .ref (ad 145)), (1, .int a1), (2, .int v13_2), (3, .int v13_3), (4, .int v21_4), (5, .int v44_5), (6, .int v44_6)] → W p l e ({ frames := 2, cells := 0, slots := 0, locals := 34 }) s m (List.toArray [.ref (ad 145), .int a1]) below meth c H locs 0 0 (MQ below (va_Qv (Pz_X0_drawHours_2 ad cy B qr s1 a1 w0) (fun u : va_W => wpost dC dI cy A u) A) (List.toArray [.ref (ad 145), .int a1]) s 0 0 A) (F0 m 44 ls []) := by
            intro n44
            induction n44 with
            | zero => intro v44_5 v44_6 H locs ls w40 r41 t42 r43 t44 r45 t46 r47 t48 r49 t50 r51 t52 r53 t54 hm44 hw hT hF c55 hM hl; omega
            | succ n44 ih44 =>
              intro v44_5 v44_6 H locs ls w40 r41 t42 r43 t44 r45 t46 r47 t48 r49 t50 r51 t52 r53 t54 hm44 hw hT hF c55 hM hl
              have J105 : ∀ (v105_7 : Int32) (v105_8 : Int32) (H : Heap) (locs : List Loc) (ls : Array Slot) (w56 : va_W), 0 ≤ a1.toInt → a1.toInt ≤ 10 → 1 ≤ v13_2.toInt → v13_2.toInt ≤ 10 → 0 ≤ v13_3.toInt → v13_3.toInt ≤ 9 → 0 ≤ v21_4.toInt → v21_4.toInt ≤ 9 → 0 ≤ v44_5.toInt → v44_5.toInt ≤ 999999 → 0 ≤ v44_6.toInt → v44_6.toInt ≤ 9 → 0 ≤ v105_7.toInt → v105_7.toInt ≤ 1999999 → 0 ≤ v105_8.toInt → v105_8.toInt ≤ 1099 → (-1) ≤ f13_39_8.toInt → f13_39_8.toInt ≤ 10 → Wd dC dI A s.heap H locs w56 → TW ksC ad cy B qr s1 w56 → FE ksC [(42, 0, 1100)] w0 w56 → gi w56 39 8 = f13_39_8 → TT (fun n => m_X0_drawHours n 145 a1.toInt (sI w0)) (fun n => b_X0_drawHours_105 (j_X0_drawHours 145 n) n 145 (a1.toInt) (v13_2.toInt) (v13_3.toInt) (v21_4.toInt) (v44_5.toInt) (v44_6.toInt) (sI w56)) → lv_has ls 9 [(0, .ref (ad 145)), (1, .int a1), (2, .int v13_2), (3, .int v13_3), (4, .int v21_4), (5, .int v44_5), (6, .int v44_6), (7, .int v105_7), (8, .int v105_8)] → W p l e ({ frames := 2, cells := 0, slots := 0, locals := 34 }) s m (List.toArray [.ref (ad 145), .int a1]) below meth c H locs 0 0 (MQ below (va_Qv (Pz_X0_drawHours_2 ad cy B qr s1 a1 w0) (fun u : va_W => wpost dC dI cy A u) A) (List.toArray [.ref (ad 145), .int a1]) s 0 0 A) (F0 m 105 ls []) := by
                intro v105_7 v105_8 H locs ls w56 r57 t58 r59 t60 r61 t62 r63 t64 r65 t66 r67 t68 r69 t70 r71 t72 r73 t74 hw hT hF c75 hM hl
                obtain ⟨x76, ex76⟩ : ∃ y : Int32, y = v44_6 + Int32.ofInt 1 := ⟨_, rfl⟩
                have erx76 := ex76
                refine lv_iinc (v := x76) (lv' := [(6, .int x76), (0, .ref (ad 145)), (1, .int a1), (2, .int v13_2), (3, .int v13_3), (4, .int v21_4), (5, .int v44_5), (7, .int v105_7), (8, .int v105_8)]) hx hb dX0_drawHours_105 hl (k := 6) rfl ex76.symm (by decide) rfl (fun ls hl => ?_)
                have ex76 : x76.toInt = v44_6.toInt + 1 := by rw [ex76]; exact wk_add (y := 1) (show -2147483648 ≤ v44_6.toInt + 1 by omega) (show v44_6.toInt + 1 ≤ 2147483647 by omega)
                replace hM := hM.lt ex76.symm
                refine lv_goto (tgt := 44) hx hb dX0_drawHours_108 (by decide) ?_
                exact ih44 v44_5 x76 H locs ls w56 (show 0 ≤ a1.toInt from r57) (show a1.toInt ≤ 10 from t58) (show 1 ≤ v13_2.toInt from r59) (show v13_2.toInt ≤ 10 from t60) (show 0 ≤ v13_3.toInt from r61) (show v13_3.toInt ≤ 9 from t62) (show 0 ≤ v21_4.toInt from r63) (show v21_4.toInt ≤ 9 from t64) (show 0 ≤ v44_5.toInt from r65) (show v44_5.toInt ≤ 1000000 from t50) (show 0 ≤ x76.toInt by first | with_reducible assumption | omega) (show x76.toInt ≤ 10 by first | with_reducible assumption | omega) (show (-1) ≤ f13_39_8.toInt from r73) (show f13_39_8.toInt ≤ 10 from t74) (show (10 - x76.toInt).toNat < n44 by first | exact tn_lt hm44 (by omega) (by omega) | omega) hw hT hF c75 hM (lv_sub hl [1, 2, 3, 4, 5, 6, 0] rfl)
              replace hM := hM.suc (fun _ => e_X0_drawHours_44)
              refine lv_iload hx hb dX0_drawHours_44 (lv_at hl 5 rfl) ?_
              refine lv_ldc (v := 1000000) hx hb hC.2.2.2.1 (hC.2.2.2.2 _ (List.mem_cons_of_mem _ uw_36_8)) dX0_drawHours_46 ?_
              refine lv_icmp_ge (tgt := 111) hx hb dX0_drawHours_48 (by decide) (fun c77 => ?_) (fun c77 => ?_)
              · have c77 : (1000000 : Int) ≤ v44_5.toInt := wk_le.mp c77
                replace hM := hM.pos c77
                exact J111 v44_5 v44_6 H locs ls w40 (show 0 ≤ a1.toInt from r41) (show a1.toInt ≤ 10 from t42) (show 1 ≤ v13_2.toInt from r43) (show v13_2.toInt ≤ 10 from t44) (show 0 ≤ v13_3.toInt from r45) (show v13_3.toInt ≤ 9 from t46) (show 0 ≤ v21_4.toInt from r47) (show v21_4.toInt ≤ 9 from t48) (show 0 ≤ v44_5.toInt from r49) (show v44_5.toInt ≤ 1000000 from t50) (show 0 ≤ v44_6.toInt from r51) (show v44_6.toInt ≤ 10 from t52) (show (-1) ≤ f13_39_8.toInt from r53) (show f13_39_8.toInt ≤ 10 from t54)  hw hT hF c55 hM (lv_sub hl [0, 1, 2, 3, 4, 5, 6] rfl)
              · have c77 : v44_5.toInt < (1000000 : Int) := wk_leF c77
                replace hM := hM.neg (Int.not_le.mpr c77)
                refine lv_iload hx hb dX0_drawHours_51 (lv_at hl 6 rfl) ?_
                refine lv_iload_n hx hb dX0_drawHours_53 rfl (lv_at hl 2 rfl) ?_
                refine lv_icmp_ge (tgt := 111) hx hb dX0_drawHours_54 (by decide) (fun c78 => ?_) (fun c78 => ?_)
                · have c78 : v13_2.toInt ≤ v44_6.toInt := wk_le.mp c78
                  replace hM := hM.pos c78
                  exact J111 v44_5 v44_6 H locs ls w40 (show 0 ≤ a1.toInt from r41) (show a1.toInt ≤ 10 from t42) (show 1 ≤ v13_2.toInt from r43) (show v13_2.toInt ≤ 10 from t44) (show 0 ≤ v13_3.toInt from r45) (show v13_3.toInt ≤ 9 from t46) (show 0 ≤ v21_4.toInt from r47) (show v21_4.toInt ≤ 9 from t48) (show 0 ≤ v44_5.toInt from r49) (show v44_5.toInt ≤ 1000000 from t50) (show 0 ≤ v44_6.toInt from r51) (show v44_6.toInt ≤ 10 from t52) (show (-1) ≤ f13_39_8.toInt from r53) (show f13_39_8.toInt ≤ 10 from t54)  hw hT hF c55 hM (lv_sub hl [0, 1, 2, 3, 4, 5, 6] rfl)
                · have c78 : v44_6.toInt < v13_2.toInt := wk_leF c78
                  replace hM := hM.neg (Int.not_le.mpr c78)
                  refine lv_iload hx hb dX0_drawHours_57 (lv_at hl 5 rfl) ?_
                  refine lv_aload_n hx hb dX0_drawHours_59 rfl (lv_at hl 0 rfl) ?_
                  refine tk_getA hC hK hw hT hinX0 kC_at145 (by decide) rfl 1 (by decide) (List.mem_cons_of_mem _ uw_4_14) rfl rfl dX0_drawHours_60 ?_
                  refine lv_iload_n hx hb dX0_drawHours_63 rfl (lv_at hl 1 rfl) ?_
                  refine lv_iload_n hx hb dX0_drawHours_64 rfl (lv_at hl 3 rfl) ?_
                  refine lv_iload hx hb dX0_drawHours_65 (lv_at hl 6 rfl) ?_
                  refine tk_Si hC hK hw hT hA hE hSR (kz_X0_spot_2 l adK adV dC dI cy ad B hB0 (Int.le_trans hB1 (by decide)) qr s1   a1 (show 0 ≤ a1.toInt from r41) (show a1.toInt ≤ 10 from t42) v13_3 (show 0 ≤ v13_3.toInt from r45) (show v13_3.toInt ≤ 9 from t46) v44_6 (show 0 ≤ v44_6.toInt from r51) (show v44_6.toInt ≤ 9 by first | with_reducible assumption | omega) w40 H.size hT ) (va_cwS 3 hC.2.2.2.2 uS_RX0_47 rfl rfl rfl (by decide +kernel) ⟨Nat.le_of_ble_eq_true rfl, Nat.le_of_ble_eq_true rfl⟩) rfl hl.1 rfl (Nat.le_of_ble_eq_true rfl) dX0_drawHours_67 (fun r79 w81 H locs hp80 hw => ?_)
                  obtain ⟨hT, k82, hv86, hg85⟩ := hp80
                  have hF := hF.tr k82 (by decide)
                  have c87 := k82.gi kC_at39 (by decide) c55
                  obtain ⟨g83, g84⟩ := hg85
                  replace hM := hM.call hv86 rfl
                  refine tk_iald hC hK hw hT kC_at146 rfl rfl (show 0 ≤ r79.toInt by first | with_reducible assumption | omega) (show r79.toInt < 1100 by first | with_reducible assumption | omega) dX0_drawHours_70 (fun x88 c89 rx88 tx88 => ?_)
                  have hox88 := c89
                  replace hM := hM.rd (sI_at hox88)
                  refine lv_iadd hx hb dX0_drawHours_71 ?_
                  refine lv_topi (fun x90 ex90 => ?_)
                  have ezx90 := ex90
                  have ex90 : x90.toInt = v44_5.toInt + x88.toInt := by rw [ex90]; exact wk_add (show (-2147483648) ≤ v44_5.toInt + x88.toInt by omega) (show v44_5.toInt + x88.toInt ≤ 2147483647 by omega)
                  replace hM := hM.lt ex90.symm
                  refine lv_istore (lv' := [(7, .int x90), (0, .ref (ad 145)), (1, .int a1), (2, .int v13_2), (3, .int v13_3), (4, .int v21_4), (5, .int v44_5), (6, .int v44_6)]) hx hb dX0_drawHours_72 hl (by decide) rfl (fun ls hl => ?_)
                  refine lv_iload_n hx hb dX0_drawHours_74 rfl (lv_at hl 2 rfl) ?_
                  refine lv_iload hx hb dX0_drawHours_75 (lv_at hl 5 rfl) ?_
                  refine lv_iload hx hb dX0_drawHours_77 (lv_at hl 7 rfl) ?_
                  refine tk_Si hC hK hw hT hA hE hSR (kz_X0_spot_2 l adK adV dC dI cy ad B hB0 (Int.le_trans hB1 (by decide)) qr s1   a1 (show 0 ≤ a1.toInt from r41) (show a1.toInt ≤ 10 from t42) v21_4 (show 0 ≤ v21_4.toInt from r47) (show v21_4.toInt ≤ 9 from t48) v44_6 (show 0 ≤ v44_6.toInt from r51) (show v44_6.toInt ≤ 9 by first | with_reducible assumption | omega) w81 H.size hT ) (va_cwS 3 hC.2.2.2.2 uS_RX0_47 rfl rfl rfl (by decide +kernel) ⟨Nat.le_of_ble_eq_true rfl, Nat.le_of_ble_eq_true rfl⟩) rfl hl.1 rfl (Nat.le_of_ble_eq_true rfl) dX0_drawHours_79 (fun r91 w93 H locs hp92 hw => ?_)
                  obtain ⟨hT, k94, hv98, hg97⟩ := hp92
                  have hF := hF.tr k94 (by decide)
                  have c99 := k94.gi kC_at39 (by decide) c87
                  obtain ⟨g95, g96⟩ := hg97
                  replace hM := hM.call hv98 rfl
                  refine lv_istore (lv' := [(8, .int r91), (7, .int x90), (0, .ref (ad 145)), (1, .int a1), (2, .int v13_2), (3, .int v13_3), (4, .int v21_4), (5, .int v44_5), (6, .int v44_6)]) hx hb dX0_drawHours_82 hl (by decide) rfl (fun ls hl => ?_)
                  refine lv_iload hx hb dX0_drawHours_84 (lv_at hl 1 rfl) ?_
                  refine lv_aload_n hx hb dX0_drawHours_86 rfl (lv_at hl 2 rfl) ?_
                  refine tk_getA hC hK hw hT hinX0 kC_at145 (by decide) rfl 1 (by decide) (List.mem_cons_of_mem _ uw_4_14) rfl rfl dX0_drawHours_87 ?_
                  refine lv_iload hx hb dX0_drawHours_90 (lv_at hl 0 rfl) ?_
                  refine tk_iald hC hK hw hT kC_at146 rfl rfl (show 0 ≤ r91.toInt by first | with_reducible assumption | omega) (show r91.toInt < 1100 by first | with_reducible assumption | omega) dX0_drawHours_92 (fun x100 c101 rx100 tx100 => ?_)
                  have hox100 := c101
                  replace hM := hM.rd (sI_at hox100)
                  refine lv_icmp_ge (tgt := 105) hx hb dX0_drawHours_93 (by decide) (fun c102 => ?_) (fun c102 => ?_)
                  · have c102 : x100.toInt ≤ x90.toInt := wk_le.mp c102
                    replace hM := hM.pos c102
                    exact J105 x90 r91 H locs ls w93 (show 0 ≤ a1.toInt from r41) (show a1.toInt ≤ 10 from t42) (show 1 ≤ v13_2.toInt from r43) (show v13_2.toInt ≤ 10 from t44) (show 0 ≤ v13_3.toInt from r45) (show v13_3.toInt ≤ 9 from t46) (show 0 ≤ v21_4.toInt from r47) (show v21_4.toInt ≤ 9 from t48) (show 0 ≤ v44_5.toInt from r49) (show v44_5.toInt ≤ 999999 by first | with_reducible assumption | omega) (show 0 ≤ v44_6.toInt from r51) (show v44_6.toInt ≤ 9 by first | with_reducible assumption | omega) (show 0 ≤ x90.toInt by first | with_reducible assumption | omega) (show x90.toInt ≤ 1999999 by first | with_reducible assumption | omega) (show 0 ≤ r91.toInt by first | with_reducible assumption | omega) (show r91.toInt ≤ 1099 by first | with_reducible assumption | omega) (show (-1) ≤ f13_39_8.toInt from r53) (show f13_39_8.toInt ≤ 10 from t54)  hw hT hF c99 hM (lv_sub hl [2, 3, 4, 5, 6, 7, 8, 1, 0] rfl)
                  · have c102 : x90.toInt < x100.toInt := wk_leF c102
                    replace hM := hM.neg (Int.not_le.mpr c102)
                    refine lv_aload_n hx hb dX0_drawHours_96 rfl (lv_at hl 2 rfl) ?_
                    refine tk_getA hC hK hw hT hinX0 kC_at145 (by decide) rfl 1 (by decide) (List.mem_cons_of_mem _ uw_4_14) rfl rfl dX0_drawHours_97 ?_
                    refine lv_iload hx hb dX0_drawHours_100 (lv_at hl 0 rfl) ?_
                    refine lv_iload hx hb dX0_drawHours_102 (lv_at hl 1 rfl) ?_
                    refine tk_iast hC hK hw hT kC_at146 (by decide) rfl rfl (show 0 ≤ r91.toInt by first | with_reducible assumption | omega) (show r91.toInt < 1100 by first | with_reducible assumption | omega) (show 0 ≤ x90.toInt by first | with_reducible assumption | omega) (show x90.toInt ≤ 1000000 by first | with_reducible assumption | omega) dX0_drawHours_104 (fun H locs w103 hw hT k105 c104 => ?_)
                    replace hM := hM.wr (sI_up k105 c104)
                    have hF := hF.put kC_at146 (inE_of (a := 0) (b := 1100) (by decide) (show 0 ≤ r91.toInt.toNat by omega) (show r91.toInt.toNat ≤ 1100 by omega)) k105
                    have c106 := k105.gi (Or.inl (tk_ne kC_at39 kC_at146 (by decide))) c99
                    exact J105 x90 r91 H locs ls w103 (show 0 ≤ a1.toInt from r41) (show a1.toInt ≤ 10 from t42) (show 1 ≤ v13_2.toInt from r43) (show v13_2.toInt ≤ 10 from t44) (show 0 ≤ v13_3.toInt from r45) (show v13_3.toInt ≤ 9 from t46) (show 0 ≤ v21_4.toInt from r47) (show v21_4.toInt ≤ 9 from t48) (show 0 ≤ v44_5.toInt from r49) (show v44_5.toInt ≤ 999999 by first | with_reducible assumption | omega) (show 0 ≤ v44_6.toInt from r51) (show v44_6.toInt ≤ 9 by first | with_reducible assumption | omega) (show 0 ≤ x90.toInt by first | with_reducible assumption | omega) (show x90.toInt ≤ 1999999 by first | with_reducible assumption | omega) (show 0 ≤ r91.toInt by first | with_reducible assumption | omega) (show r91.toInt ≤ 1099 by first | with_reducible assumption | omega) (show (-1) ≤ f13_39_8.toInt from r53) (show f13_39_8.toInt ≤ 10 from t54)  hw hT hF c106 hM (lv_sub hl [2, 3, 4, 5, 6, 7, 8, 1, 0] rfl)
          replace hM := hM.suc (fun _ => e_X0_drawHours_21)
          refine lv_iload hx hb dX0_drawHours_21 (lv_at hl 4 rfl) ?_
          refine lv_iload_n hx hb dX0_drawHours_23 rfl (lv_at hl 2 rfl) ?_
          refine lv_icmp_ge (tgt := 117) hx hb dX0_drawHours_24 (by decide) (fun c107 => ?_) (fun c107 => ?_)
          · have c107 : v13_2.toInt ≤ v21_4.toInt := wk_le.mp c107
            replace hM := hM.pos c107
            obtain ⟨x108, ex108⟩ : ∃ y : Int32, y = v13_3 + Int32.ofInt 1 := ⟨_, rfl⟩
            have erx108 := ex108
            refine lv_iinc (v := x108) (lv' := [(3, .int x108), (0, .ref (ad 145)), (1, .int a1), (2, .int v13_2), (4, .int v21_4)]) hx hb dX0_drawHours_117 hl (k := 3) rfl ex108.symm (by decide) rfl (fun ls hl => ?_)
            have ex108 : x108.toInt = v13_3.toInt + 1 := by rw [ex108]; exact wk_add (y := 1) (show -2147483648 ≤ v13_3.toInt + 1 by omega) (show v13_3.toInt + 1 ≤ 2147483647 by omega)
            replace hM := hM.lt ex108.symm
            refine lv_goto (tgt := 13) hx hb dX0_drawHours_120 (by decide) ?_
            exact ih13 v13_2 x108 f13_39_8 H locs ls w11 (show 0 ≤ a1.toInt from r12) (show a1.toInt ≤ 10 from t13) (show (-1) ≤ v13_2.toInt from r4) (show v13_2.toInt ≤ 10 from t15) (show 0 ≤ x108.toInt by first | with_reducible assumption | omega) (show x108.toInt ≤ 10 by first | with_reducible assumption | omega) (show (-1) ≤ f13_39_8.toInt from r20) (show f13_39_8.toInt ≤ 10 from t21) (show (10 - x108.toInt).toNat < n13 by first | exact tn_lt hm13 (by omega) (by omega) | omega) hw hT hF c22 hM (lv_sub hl [1, 2, 3, 0] rfl)
          · have c107 : v21_4.toInt < v13_2.toInt := wk_leF c107
            replace hM := hM.neg (Int.not_le.mpr c107)
            refine lv_aload_n hx hb dX0_drawHours_27 rfl (lv_at hl 0 rfl) ?_
            refine tk_getA hC hK hw hT hinX0 kC_at145 (by decide) rfl 1 (by decide) (List.mem_cons_of_mem _ uw_4_14) rfl rfl dX0_drawHours_28 ?_
            refine lv_iload_n hx hb dX0_drawHours_31 rfl (lv_at hl 1 rfl) ?_
            refine lv_iload hx hb dX0_drawHours_32 (lv_at hl 4 rfl) ?_
            refine lv_iload_n hx hb dX0_drawHours_34 rfl (lv_at hl 3 rfl) ?_
            refine tk_Si hC hK hw hT hA hE hSR (kz_X0_spot_2 l adK adV dC dI cy ad B hB0 (Int.le_trans hB1 (by decide)) qr s1   a1 (show 0 ≤ a1.toInt from r12) (show a1.toInt ≤ 10 from t13) v21_4 (show 0 ≤ v21_4.toInt from r18) (show v21_4.toInt ≤ 9 by first | with_reducible assumption | omega) v13_3 (show 0 ≤ v13_3.toInt from r16) (show v13_3.toInt ≤ 9 from t17) w11 H.size hT ) (va_cwS 3 hC.2.2.2.2 uS_RX0_47 rfl rfl rfl (by decide +kernel) ⟨Nat.le_of_ble_eq_true rfl, Nat.le_of_ble_eq_true rfl⟩) rfl hl.1 rfl (Nat.le_of_ble_eq_true rfl) dX0_drawHours_35 (fun r109 w111 H locs hp110 hw => ?_)
            obtain ⟨hT, k112, hv116, hg115⟩ := hp110
            have hF := hF.tr k112 (by decide)
            have c117 := k112.gi kC_at39 (by decide) c22
            obtain ⟨g113, g114⟩ := hg115
            replace hM := hM.call hv116 rfl
            refine tk_iald hC hK hw hT kC_at146 rfl rfl (show 0 ≤ r109.toInt by first | with_reducible assumption | omega) (show r109.toInt < 1100 by first | with_reducible assumption | omega) dX0_drawHours_38 (fun x118 c119 rx118 tx118 => ?_)
            have hox118 := c119
            replace hM := hM.rd (sI_at hox118)
            refine lv_istore (lv' := [(5, .int x118), (0, .ref (ad 145)), (1, .int a1), (2, .int v13_2), (3, .int v13_3), (4, .int v21_4)]) hx hb dX0_drawHours_39 hl (by decide) rfl (fun ls hl => ?_)
            refine lv_iconst (v := 0) hx hb dX0_drawHours_41 (by decide) ?_
            refine lv_istore (lv' := [(6, .int 0), (5, .int x118), (0, .ref (ad 145)), (1, .int a1), (2, .int v13_2), (3, .int v13_3), (4, .int v21_4)]) hx hb dX0_drawHours_42 hl (by decide) rfl (fun ls hl => ?_)
            exact L44 ((10 - (0 : Int)).toNat + 1) x118 0 H locs ls w111 (show 0 ≤ a1.toInt from r12) (show a1.toInt ≤ 10 from t13) (show 1 ≤ v13_2.toInt from r14) (show v13_2.toInt ≤ 10 from t15) (show 0 ≤ v13_3.toInt from r16) (show v13_3.toInt ≤ 9 from t17) (show 0 ≤ v21_4.toInt from r18) (show v21_4.toInt ≤ 9 by first | with_reducible assumption | omega) (show 0 ≤ x118.toInt from rx118) (show x118.toInt ≤ 1000000 from tx118) (by decide) (by decide) (show (-1) ≤ f13_39_8.toInt from r20) (show f13_39_8.toInt ≤ 10 from t21) (Nat.lt_succ_self _) hw hT hF c117 hM (lv_sub hl [2, 3, 4, 5, 6, 1, 0] rfl)
      replace hM := hM.suc (fun _ => e_X0_drawHours_13)
      refine lv_iload_n hx hb dX0_drawHours_13 rfl (lv_at hl 3 rfl) ?_
      refine lv_iload_n hx hb dX0_drawHours_14 rfl (lv_at hl 2 rfl) ?_
      refine lv_icmp_ge (tgt := 123) hx hb dX0_drawHours_15 (by decide) (fun c120 => ?_) (fun c120 => ?_)
      · have c120 : v13_2.toInt ≤ v13_3.toInt := wk_le.mp c120
        replace hM := hM.pos c120
        exact tk_vret hC hr hlocks hK ⟨hT, hF, hM.ret rfl, trivial⟩ hw dX0_drawHours_123
      · have c120 : v13_3.toInt < v13_2.toInt := wk_leF c120
        replace hM := hM.neg (Int.not_le.mpr c120)
        refine lv_iconst (v := 0) hx hb dX0_drawHours_18 (by decide) ?_
        refine lv_istore (lv' := [(4, .int 0), (0, .ref (ad 145)), (1, .int a1), (2, .int v13_2), (3, .int v13_3)]) hx hb dX0_drawHours_19 hl (by decide) rfl (fun ls hl => ?_)
        exact L21 ((10 - (0 : Int)).toNat + 1) 0 H locs ls w1 (show 0 ≤ a1.toInt from r2) (show a1.toInt ≤ 10 from t3) (show 1 ≤ v13_2.toInt by first | with_reducible assumption | omega) (show v13_2.toInt ≤ 10 from t5) (show 0 ≤ v13_3.toInt from r6) (show v13_3.toInt ≤ 9 by first | with_reducible assumption | omega) (by decide) (by decide) (show (-1) ≤ f13_39_8.toInt from r8) (show f13_39_8.toInt ≤ 10 from t9) (Nat.lt_succ_self _) hw hT hF c10 hM (lv_sub hl [1, 2, 3, 4, 0] rfl)
  have hM : TT (fun n => m_X0_drawHours n 145 a1.toInt (sI w0)) (fun n => m_X0_drawHours n 145 a1.toInt (sI w0)) := TT.rf
  refine lv_aload_n hx hb dX0_drawHours_0 rfl (lv_at hl 0 rfl) ?_
  refine tk_getA hC hK hw hT hinX0 kC_at145 (by decide) rfl 0 (by decide) (List.mem_cons_of_mem _ uw_4_17) rfl rfl dX0_drawHours_1 ?_
  refine tk_getO hC hK hw hT hinX5 kC_at38 (by decide) rfl 0 (by decide) (List.mem_cons_of_mem _ uw_36_9) rfl rfl dX0_drawHours_4 ?_
  refine tk_geti hC hK hw hT hinX7 kC_at39 (by decide) rfl 8 (by decide) (List.mem_cons_of_mem _ uw_37_5) rfl rfl dX0_drawHours_7 (fun x121 c122 rx121 tx121 => ?_)
  replace hM := hM.rd (sI_at c122)
  refine lv_istore_n (lv' := [(2, .int x121), (0, .ref (ad 145)), (1, .int a1)]) hx hb dX0_drawHours_10 rfl hl (by decide) rfl (fun ls hl => ?_)
  refine lv_iconst (v := 0) hx hb dX0_drawHours_11 (by decide) ?_
  refine lv_istore_n (lv' := [(3, .int 0), (2, .int x121), (0, .ref (ad 145)), (1, .int a1)]) hx hb dX0_drawHours_12 rfl hl (by decide) rfl (fun ls hl => ?_)
  exact L13 ((10 - (0 : Int)).toNat + 1) x121 0 x121 s.heap locs ls w0 (show 0 ≤ a1.toInt from ra1) (show a1.toInt ≤ 10 from ta1) (show (-1) ≤ x121.toInt from rx121) (show x121.toInt ≤ 10 from tx121) (by decide) (by decide) (show (-1) ≤ x121.toInt from rx121) (show x121.toInt ≤ 10 from tx121) (Nat.lt_succ_self _) hw hT hF c122 hM (lv_sub hl [2, 3, 1, 0] rfl)
abbrev Pz_X0_drawFirstBy_2 (ad : Nat → Nat) (cy : Nat → ClassId) (B : Int) (qr : Nat) (s1 : Int) (a1 : Int32) (a2 : Int32) (a3 : Int32) (w0 : va_W) : va_W → Prop := fun u => TW ksC ad cy B qr s1 u ∧ FE ksC [(43, 0, 1100)] w0 u ∧ Ev (fun n => m_X0_drawFirstBy n 145 a1.toInt a2.toInt a3.toInt (sI w0)) (0, sI u) ∧ ((True))
set_option maxHeartbeats 4000000 in
set_option maxRecDepth 100000 in
theorem kz_X0_drawFirstBy_2 (l : Launch) (adK adV : Nat → Nat) (dC : Nat → ClassId) (dI : Nat → Nat → Nat) (cy : Nat → ClassId) (ad : Nat → Nat) (B : Int) (hB0 : 2147483648 ≤ B) (hB1 : B ≤ 1152921504606846976) (qr : Nat) (s1 : Int)  (a1 : Int32) (ra1 : 0 ≤ a1.toInt) (ta1 : a1.toInt ≤ 10) (a2 : Int32) (ra2 : 0 ≤ a2.toInt) (ta2 : a2.toInt ≤ 11) (a3 : Int32) (ra3 : 0 ≤ a3.toInt) (ta3 : a3.toInt ≤ 1) (w0 : va_W) (sz : Nat) (hT : TW ksC ad cy B qr s1 w0)  : Met l yX0_drawFirstBy (wu yX0_drawFirstBy cX0_drawFirstBy 10 none) ({ frames := 2, cells := 0, slots := 0, locals := 34 }) (va_Pc [.ref (ad 145), .int a1, .int a2, .int a3] (wpreS adK adV dC dI cy sz w0)) (va_Qv (Pz_X0_drawFirstBy_2 ad cy B qr s1 a1 a2 a3 w0) (fun u : va_W => wpost dC dI cy (va_A w0 sz) u) (va_A w0 sz)) 0 0 (va_A w0 sz) := by
  refine Met.ofW (cc := cX0_drawFirstBy) (maxL := 10) (ret := none) (by decide) rfl ?_
  intro p e s m args below meth c s₁ Bk hml hv
  obtain ⟨rfl, ⟨hsz, hP, hK, hD0⟩, hE, hSR⟩ := hv
  have hx := Bk.exec
  have hb := Bk.bytes
  have hr := Bk.returns
  have hlocks := Bk.notSynchronized
  have hC : CallFix p m c cX0_drawFirstBy 10 s _ (wu yX0_drawFirstBy cX0_drawFirstBy 10 none) RX0 := ⟨hx, hb, hml, findClass_of_methodNamed Bk.named, atoms_spec (ws := (wu yX0_drawFirstBy cX0_drawFirstBy 10 none)) Bk.pre⟩
  subst hsz
  have hD := hD0.self (sz := s.heap.size)
  generalize hAe : va_A w0 s.heap.size = A at hD hE ⊢
  have hA : ∀ q : Nat, s.heap.size ≤ q → A q := fun q h => by rw [← hAe]; exact Or.inr h
  have hw : Wd dC dI A s.heap s.heap [] w0 := ⟨hP, hD, va_S.rf⟩
  have hF : FE ksC [(43, 0, 1100)] w0 w0 := FE.rf
  have hl := lv_entry ([.ref (ad 145), .int a1, .int a2, .int a3]) (n := 10) (Nat.le_of_ble_eq_true rfl)
  rw [lg_entry_eq]
  generalize (lg_sl ([.ref (ad 145), .int a1, .int a2, .int a3]) ++ List.replicate (10 - (lg_sl ([.ref (ad 145), .int a1, .int a2, .int a3])).length) Slot.unset).toArray = ls at hl ⊢
  have hl : lv_has ls 10 [(0, .ref (ad 145)), (1, .int a1), (2, .int a2), (3, .int a3)] := hl
  generalize hloc : ([] : List Loc) = locs at hw ⊢
  have hinX7 : ∀ w ∈ u_ws RX7 TX7 12, w ∈ (wu yX0_drawFirstBy cX0_drawFirstBy 10 none) := fun _ h => List.mem_cons_of_mem _ (up_73 h)
  have hinX0 : ∀ w ∈ u_ws RX0 TX0 4, w ∈ (wu yX0_drawFirstBy cX0_drawFirstBy 10 none) := fun _ h => List.mem_cons_of_mem _ (up_77 h)
  have hinX5 : ∀ w ∈ u_ws RX5 TX5 14, w ∈ (wu yX0_drawFirstBy cX0_drawFirstBy 10 none) := fun _ h => List.mem_cons_of_mem _ (up_76 h)
  have L32 : ∀ (n32 : Nat) (v32_5 : Int32) (v32_6 : Int32) (v32_7 : Int32) (H : Heap) (locs : List Loc) (ls : Array Slot) (w1 : va_W), 0 ≤ a1.toInt → a1.toInt ≤ 10 → 0 ≤ a2.toInt → a2.toInt ≤ 11 → 0 ≤ a3.toInt → a3.toInt ≤ 1 → 0 ≤ v32_5.toInt → v32_5.toInt ≤ 9 → 0 ≤ v32_6.toInt → v32_6.toInt ≤ 9 → 0 ≤ v32_7.toInt → v32_7.toInt ≤ 10 → (10 - v32_7.toInt).toNat < n32 → Wd dC dI A s.heap H locs w1 → TW ksC ad cy B qr s1 w1 → FE ksC [(43, 0, 1100)] w0 w1 → TT (fun n => m_X0_drawFirstBy n 145 a1.toInt a2.toInt a3.toInt (sI w0)) (fun n => j_X0_drawFirstBy 145 n 32 [a1.toInt, a2.toInt, v32_5.toInt, v32_6.toInt, v32_7.toInt] (sI w1)) → lv_has ls 10 [(0, .ref (ad 145)), (1, .int a1), (2, .int a2), (3, .int a3), (4, .ref (ad 39)), (5, .int v32_5), (6, .int v32_6), (7, .int v32_7)] → W p l e ({ frames := 2, cells := 0, slots := 0, locals := 34 }) s m (List.toArray [.ref (ad 145), .int a1, .int a2, .int a3]) below meth c H locs 0 0 (MQ below (va_Qv (Pz_X0_drawFirstBy_2 ad cy B qr s1 a1 a2 a3 w0) (fun u : va_W => wpost dC dI cy A u) A) (List.toArray [.ref (ad 145), .int a1, .int a2, .int a3]) s 0 0 A) (F0 m 32 ls []) := by
    intro n32
    induction n32 with
    | zero => intro v32_5 v32_6 v32_7 H locs ls w1 r2 t3 r4 t5 r6 t7 r8 t9 r10 t11 r12 t13 hm32 hw hT hF hM hl; omega
    | succ n32 ih32 =>
      intro v32_5 v32_6 v32_7 H locs ls w1 r2 t3 r4 t5 r6 t7 r8 t9 r10 t11 r12 t13 hm32 hw hT hF hM hl
      have J102 : ∀ (v102_8 : Int32) (v102_9 : Int32) (f102_39_8 : Int32) (H : Heap) (locs : List Loc) (ls : Array Slot) (w14 : va_W), 0 ≤ a1.toInt → a1.toInt ≤ 10 → 0 ≤ a2.toInt → a2.toInt ≤ 11 → 0 ≤ a3.toInt → a3.toInt ≤ 1 → 0 ≤ v32_5.toInt → v32_5.toInt ≤ 9 → 0 ≤ v32_6.toInt → v32_6.toInt ≤ 9 → 0 ≤ v32_7.toInt → v32_7.toInt ≤ 9 → 0 ≤ v102_8.toInt → v102_8.toInt ≤ 1000000 → 0 ≤ v102_9.toInt → v102_9.toInt ≤ 1099 → 1 ≤ f102_39_8.toInt → f102_39_8.toInt ≤ 10 → Wd dC dI A s.heap H locs w14 → TW ksC ad cy B qr s1 w14 → FE ksC [(43, 0, 1100)] w0 w14 → gi w14 39 8 = f102_39_8 → TT (fun n => m_X0_drawFirstBy n 145 a1.toInt a2.toInt a3.toInt (sI w0)) (fun n => b_X0_drawFirstBy_102 (j_X0_drawFirstBy 145 n) n 145 (a1.toInt) (a2.toInt) (v32_5.toInt) (v32_6.toInt) (v32_7.toInt) (sI w14)) → lv_has ls 10 [(0, .ref (ad 145)), (1, .int a1), (2, .int a2), (3, .int a3), (4, .ref (ad 39)), (5, .int v32_5), (6, .int v32_6), (7, .int v32_7), (8, .int v102_8), (9, .int v102_9)] → W p l e ({ frames := 2, cells := 0, slots := 0, locals := 34 }) s m (List.toArray [.ref (ad 145), .int a1, .int a2, .int a3]) below meth c H locs 0 0 (MQ below (va_Qv (Pz_X0_drawFirstBy_2 ad cy B qr s1 a1 a2 a3 w0) (fun u : va_W => wpost dC dI cy A u) A) (List.toArray [.ref (ad 145), .int a1, .int a2, .int a3]) s 0 0 A) (F0 m 102 ls []) := by
        intro v102_8 v102_9 f102_39_8 H locs ls w14 r15 t16 r17 t18 r19 t20 r21 t22 r23 t24 r25 t26 r27 t28 r29 t30 r31 t32 hw hT hF c33 hM hl
        obtain ⟨x34, ex34⟩ : ∃ y : Int32, y = v32_7 + Int32.ofInt 1 := ⟨_, rfl⟩
        have erx34 := ex34
        refine lv_iinc (v := x34) (lv' := [(7, .int x34), (0, .ref (ad 145)), (1, .int a1), (2, .int a2), (3, .int a3), (4, .ref (ad 39)), (5, .int v32_5), (6, .int v32_6), (8, .int v102_8), (9, .int v102_9)]) hx hb dX0_drawFirstBy_102 hl (k := 7) rfl ex34.symm (by decide) rfl (fun ls hl => ?_)
        have ex34 : x34.toInt = v32_7.toInt + 1 := by rw [ex34]; exact wk_add (y := 1) (show -2147483648 ≤ v32_7.toInt + 1 by omega) (show v32_7.toInt + 1 ≤ 2147483647 by omega)
        replace hM := hM.lt ex34.symm
        refine lv_goto (tgt := 32) hx hb dX0_drawFirstBy_105 (by decide) ?_
        exact ih32 v32_5 v32_6 x34 H locs ls w14 (show 0 ≤ a1.toInt from r15) (show a1.toInt ≤ 10 from t16) (show 0 ≤ a2.toInt from r17) (show a2.toInt ≤ 11 from t18) (show 0 ≤ a3.toInt from r19) (show a3.toInt ≤ 1 from t20) (show 0 ≤ v32_5.toInt from r21) (show v32_5.toInt ≤ 9 from t22) (show 0 ≤ v32_6.toInt from r23) (show v32_6.toInt ≤ 9 from t24) (show 0 ≤ x34.toInt by first | with_reducible assumption | omega) (show x34.toInt ≤ 10 by first | with_reducible assumption | omega) (show (10 - x34.toInt).toNat < n32 by first | exact tn_lt hm32 (by omega) (by omega) | omega) hw hT hF hM (lv_sub hl [1, 2, 3, 4, 5, 6, 7, 0] rfl)
      replace hM := hM.suc (fun _ => e_X0_drawFirstBy_32)
      refine lv_iload hx hb dX0_drawFirstBy_32 (lv_at hl 7 rfl) ?_
      refine lv_aload hx hb dX0_drawFirstBy_34 (lv_at hl 4 rfl) ?_
      refine tk_geti hC hK hw hT hinX7 kC_at39 (by decide) rfl 8 (by decide) (List.mem_cons_of_mem _ uw_37_5) rfl rfl dX0_drawFirstBy_36 (fun x35 c36 rx35 tx35 => ?_)
      replace hM := hM.rd (sI_at c36)
      refine lv_icmp_ge (tgt := 108) hx hb dX0_drawFirstBy_39 (by decide) (fun c37 => ?_) (fun c37 => ?_)
      · have c37 : x35.toInt ≤ v32_7.toInt := wk_le.mp c37
        replace hM := hM.pos c37
        exact tk_vret hC hr hlocks hK ⟨hT, hF, hM.ret rfl, trivial⟩ hw dX0_drawFirstBy_108
      · have c37 : v32_7.toInt < x35.toInt := wk_leF c37
        replace hM := hM.neg (Int.not_le.mpr c37)
        refine lv_aload_n hx hb dX0_drawFirstBy_42 rfl (lv_at hl 0 rfl) ?_
        refine tk_getA hC hK hw hT hinX0 kC_at145 (by decide) rfl 1 (by decide) (List.mem_cons_of_mem _ uw_4_14) rfl rfl dX0_drawFirstBy_43 ?_
        refine lv_iload_n hx hb dX0_drawFirstBy_46 rfl (lv_at hl 1 rfl) ?_
        refine lv_iload hx hb dX0_drawFirstBy_47 (lv_at hl 6 rfl) ?_
        refine lv_iload hx hb dX0_drawFirstBy_49 (lv_at hl 7 rfl) ?_
        refine tk_Si hC hK hw hT hA hE hSR (kz_X0_spot_2 l adK adV dC dI cy ad B hB0 (Int.le_trans hB1 (by decide)) qr s1   a1 (show 0 ≤ a1.toInt from r2) (show a1.toInt ≤ 10 from t3) v32_6 (show 0 ≤ v32_6.toInt from r10) (show v32_6.toInt ≤ 9 from t11) v32_7 (show 0 ≤ v32_7.toInt from r12) (show v32_7.toInt ≤ 9 by first | with_reducible assumption | omega) w1 H.size hT ) (va_cwS 3 hC.2.2.2.2 uS_RX0_47 rfl rfl rfl (by decide +kernel) ⟨Nat.le_of_ble_eq_true rfl, Nat.le_of_ble_eq_true rfl⟩) rfl hl.1 rfl (Nat.le_of_ble_eq_true rfl) dX0_drawFirstBy_51 (fun r38 w40 H locs hp39 hw => ?_)
        obtain ⟨hT, k41, hv45, hg44⟩ := hp39
        have hF := hF.tr k41 (by decide)
        have c46 := k41.gi kC_at39 (by decide) c36
        obtain ⟨g42, g43⟩ := hg44
        replace hM := hM.call hv45 rfl
        refine tk_iald hC hK hw hT kC_at146 rfl rfl (show 0 ≤ r38.toInt by first | with_reducible assumption | omega) (show r38.toInt < 1100 by first | with_reducible assumption | omega) dX0_drawFirstBy_54 (fun x47 c48 rx47 tx47 => ?_)
        have hox47 := c48
        replace hM := hM.rd (sI_at hox47)
        refine lv_istore (lv' := [(8, .int x47), (0, .ref (ad 145)), (1, .int a1), (2, .int a2), (3, .int a3), (4, .ref (ad 39)), (5, .int v32_5), (6, .int v32_6), (7, .int v32_7)]) hx hb dX0_drawFirstBy_55 hl (by decide) rfl (fun ls hl => ?_)
        refine lv_iload_n hx hb dX0_drawFirstBy_57 rfl (lv_at hl 2 rfl) ?_
        refine lv_iload hx hb dX0_drawFirstBy_58 (lv_at hl 6 rfl) ?_
        refine lv_iload hx hb dX0_drawFirstBy_60 (lv_at hl 8 rfl) ?_
        refine tk_Si hC hK hw hT hA hE hSR (kz_X0_spot_2 l adK adV dC dI cy ad B hB0 (Int.le_trans hB1 (by decide)) qr s1   a1 (show 0 ≤ a1.toInt from r2) (show a1.toInt ≤ 10 from t3) v32_5 (show 0 ≤ v32_5.toInt from r8) (show v32_5.toInt ≤ 9 from t9) v32_7 (show 0 ≤ v32_7.toInt from r12) (show v32_7.toInt ≤ 9 by first | with_reducible assumption | omega) w40 H.size hT ) (va_cwS 3 hC.2.2.2.2 uS_RX0_47 rfl rfl rfl (by decide +kernel) ⟨Nat.le_of_ble_eq_true rfl, Nat.le_of_ble_eq_true rfl⟩) rfl hl.1 rfl (Nat.le_of_ble_eq_true rfl) dX0_drawFirstBy_62 (fun r49 w51 H locs hp50 hw => ?_)
        obtain ⟨hT, k52, hv56, hg55⟩ := hp50
        have hF := hF.tr k52 (by decide)
        have c57 := k52.gi kC_at39 (by decide) c46
        obtain ⟨g53, g54⟩ := hg55
        replace hM := hM.call hv56 rfl
        refine lv_istore (lv' := [(9, .int r49), (8, .int x47), (0, .ref (ad 145)), (1, .int a1), (2, .int a2), (3, .int a3), (4, .ref (ad 39)), (5, .int v32_5), (6, .int v32_6), (7, .int v32_7)]) hx hb dX0_drawFirstBy_65 hl (by decide) rfl (fun ls hl => ?_)
        refine lv_iload hx hb dX0_drawFirstBy_67 (lv_at hl 1 rfl) ?_
        refine lv_ldc (v := 1000000) hx hb hC.2.2.2.1 (hC.2.2.2.2 _ (List.mem_cons_of_mem _ uw_36_8)) dX0_drawFirstBy_69 ?_
        refine lv_icmp_ge (tgt := 102) hx hb dX0_drawFirstBy_71 (by decide) (fun c58 => ?_) (fun c58 => ?_)
        · have c58 : (1000000 : Int) ≤ x47.toInt := wk_le.mp c58
          replace hM := hM.pos c58
          exact J102 x47 r49 x35 H locs ls w51 (show 0 ≤ a1.toInt from r2) (show a1.toInt ≤ 10 from t3) (show 0 ≤ a2.toInt from r4) (show a2.toInt ≤ 11 from t5) (show 0 ≤ a3.toInt from r6) (show a3.toInt ≤ 1 from t7) (show 0 ≤ v32_5.toInt from r8) (show v32_5.toInt ≤ 9 from t9) (show 0 ≤ v32_6.toInt from r10) (show v32_6.toInt ≤ 9 from t11) (show 0 ≤ v32_7.toInt from r12) (show v32_7.toInt ≤ 9 by first | with_reducible assumption | omega) (show 0 ≤ x47.toInt from rx47) (show x47.toInt ≤ 1000000 from tx47) (show 0 ≤ r49.toInt by first | with_reducible assumption | omega) (show r49.toInt ≤ 1099 by first | with_reducible assumption | omega) (show 1 ≤ x35.toInt by first | with_reducible assumption | omega) (show x35.toInt ≤ 10 from tx35)  hw hT hF c57 hM (lv_sub hl [2, 3, 4, 5, 6, 7, 8, 9, 1, 0] rfl)
        · have c58 : x47.toInt < (1000000 : Int) := wk_leF c58
          replace hM := hM.neg (Int.not_le.mpr c58)
          refine lv_aload hx hb dX0_drawFirstBy_74 (lv_at hl 6 rfl) ?_
          refine tk_getO hC hK hw hT hinX7 kC_at39 (by decide) rfl 1 (by decide) (List.mem_cons_of_mem _ uw_36_11) rfl rfl dX0_drawFirstBy_76 ?_
          refine lv_iload_n hx hb dX0_drawFirstBy_79 rfl (lv_at hl 4 rfl) ?_
          refine tk_iald hC hK hw hT kC_at41 rfl rfl (show 0 ≤ a2.toInt from r4) (show a2.toInt < 13 from Int.lt_of_le_of_lt t5 (by decide)) dX0_drawFirstBy_80 (fun x59 c60 rx59 tx59 => ?_)
          have hox59 := c60
          replace hM := hM.rd (sI_at hox59)
          refine lv_iload hx hb dX0_drawFirstBy_81 (lv_at hl 1 rfl) ?_
          refine lv_iadd hx hb dX0_drawFirstBy_83 ?_
          refine lv_topi (fun x61 ex61 => ?_)
          have ezx61 := ex61
          have ex61 : x61.toInt = x59.toInt + x47.toInt := by rw [ex61]; exact wk_add (show (-2147483648) ≤ x59.toInt + x47.toInt by omega) (show x59.toInt + x47.toInt ≤ 2147483647 by omega)
          replace hM := hM.lt ex61.symm
          refine lv_aload_n hx hb dX0_drawFirstBy_84 rfl (lv_at hl 2 rfl) ?_
          refine tk_getA hC hK hw hT hinX0 kC_at145 (by decide) rfl 1 (by decide) (List.mem_cons_of_mem _ uw_4_14) rfl rfl dX0_drawFirstBy_85 ?_
          refine lv_iload hx hb dX0_drawFirstBy_88 (lv_at hl 0 rfl) ?_
          refine tk_iald hC hK hw hT kC_at146 rfl rfl (show 0 ≤ r49.toInt by first | with_reducible assumption | omega) (show r49.toInt < 1100 by first | with_reducible assumption | omega) dX0_drawFirstBy_90 (fun x62 c63 rx62 tx62 => ?_)
          have hox62 := c63
          replace hM := hM.rd (sI_at hox62)
          refine lv_icmp_ne (tgt := 102) hx hb dX0_drawFirstBy_91 (by decide) (fun c64 => ?_) (fun c64 => ?_)
          · have c64 : ¬ x61.toInt = x62.toInt := wk_eqF c64
            replace hM := hM.pos c64
            exact J102 x47 r49 x35 H locs ls w51 (show 0 ≤ a1.toInt from r2) (show a1.toInt ≤ 10 from t3) (show 0 ≤ a2.toInt from r4) (show a2.toInt ≤ 11 from t5) (show 0 ≤ a3.toInt from r6) (show a3.toInt ≤ 1 from t7) (show 0 ≤ v32_5.toInt from r8) (show v32_5.toInt ≤ 9 from t9) (show 0 ≤ v32_6.toInt from r10) (show v32_6.toInt ≤ 9 from t11) (show 0 ≤ v32_7.toInt from r12) (show v32_7.toInt ≤ 9 by first | with_reducible assumption | omega) (show 0 ≤ x47.toInt from rx47) (show x47.toInt ≤ 1000000 from tx47) (show 0 ≤ r49.toInt by first | with_reducible assumption | omega) (show r49.toInt ≤ 1099 by first | with_reducible assumption | omega) (show 1 ≤ x35.toInt by first | with_reducible assumption | omega) (show x35.toInt ≤ 10 from tx35)  hw hT hF c57 hM (lv_sub hl [2, 3, 4, 5, 6, 7, 8, 9, 1, 0] rfl)
          · have c64 : x61.toInt = x62.toInt := wk_eq.mp c64
            replace hM := hM.neg (fun q => q c64)
            refine lv_aload_n hx hb dX0_drawFirstBy_94 rfl (lv_at hl 2 rfl) ?_
            refine tk_getA hC hK hw hT hinX0 kC_at145 (by decide) rfl 2 (by decide) (List.mem_cons_of_mem _ uw_4_15) rfl rfl dX0_drawFirstBy_95 ?_
            refine lv_iload hx hb dX0_drawFirstBy_98 (lv_at hl 0 rfl) ?_
            refine lv_iload_n hx hb dX0_drawFirstBy_100 rfl (lv_at hl 4 rfl) ?_
            refine tk_iast hC hK hw hT kC_at147 (by decide) rfl rfl (show 0 ≤ r49.toInt by first | with_reducible assumption | omega) (show r49.toInt < 1100 by first | with_reducible assumption | omega) (show (-1) ≤ a2.toInt from Int.le_trans (by decide) r4) (show a2.toInt ≤ 11 from t5) dX0_drawFirstBy_101 (fun H locs w65 hw hT k67 c66 => ?_)
            replace hM := hM.wr (sI_up k67 c66)
            have hF := hF.put kC_at147 (inE_of (a := 0) (b := 1100) (by decide) (show 0 ≤ r49.toInt.toNat by omega) (show r49.toInt.toNat ≤ 1100 by omega)) k67
            have c68 := k67.gi (Or.inl (tk_ne kC_at39 kC_at147 (by decide))) c57
            exact J102 x47 r49 x35 H locs ls w65 (show 0 ≤ a1.toInt from r2) (show a1.toInt ≤ 10 from t3) (show 0 ≤ a2.toInt from r4) (show a2.toInt ≤ 11 from t5) (show 0 ≤ a3.toInt from r6) (show a3.toInt ≤ 1 from t7) (show 0 ≤ v32_5.toInt from r8) (show v32_5.toInt ≤ 9 from t9) (show 0 ≤ v32_6.toInt from r10) (show v32_6.toInt ≤ 9 from t11) (show 0 ≤ v32_7.toInt from r12) (show v32_7.toInt ≤ 9 by first | with_reducible assumption | omega) (show 0 ≤ x47.toInt from rx47) (show x47.toInt ≤ 1000000 from tx47) (show 0 ≤ r49.toInt by first | with_reducible assumption | omega) (show r49.toInt ≤ 1099 by first | with_reducible assumption | omega) (show 1 ≤ x35.toInt by first | with_reducible assumption | omega) (show x35.toInt ≤ 10 from tx35)  hw hT hF c68 hM (lv_sub hl [2, 3, 4, 5, 6, 7, 8, 9, 1, 0] rfl)
  have hM : TT (fun n => m_X0_drawFirstBy n 145 a1.toInt a2.toInt a3.toInt (sI w0)) (fun n => m_X0_drawFirstBy n 145 a1.toInt a2.toInt a3.toInt (sI w0)) := TT.rf
  refine lv_aload_n hx hb dX0_drawFirstBy_0 rfl (lv_at hl 0 rfl) ?_
  refine tk_getA hC hK hw hT hinX0 kC_at145 (by decide) rfl 0 (by decide) (List.mem_cons_of_mem _ uw_4_17) rfl rfl dX0_drawFirstBy_1 ?_
  refine tk_getO hC hK hw hT hinX5 kC_at38 (by decide) rfl 0 (by decide) (List.mem_cons_of_mem _ uw_36_9) rfl rfl dX0_drawFirstBy_4 ?_
  refine lv_astore (lv' := [(4, .ref (ad 39)), (0, .ref (ad 145)), (1, .int a1), (2, .int a2), (3, .int a3)]) hx hb dX0_drawFirstBy_7 hl (by decide) rfl (fun ls hl => ?_)
  refine lv_aload hx hb dX0_drawFirstBy_9 (lv_at hl 0 rfl) ?_
  refine lv_iload_n hx hb dX0_drawFirstBy_11 rfl (lv_at hl 3 rfl) ?_
  refine lv_iconst (v := 1) hx hb dX0_drawFirstBy_12 (by decide) ?_
  refine lv_iload_n hx hb dX0_drawFirstBy_13 rfl (lv_at hl 4 rfl) ?_
  refine lv_isub hx hb dX0_drawFirstBy_14 ?_
  refine lv_topi (fun x69 ex69 => ?_)
  have ezx69 := ex69
  have ex69 : x69.toInt = (1 : Int) - a3.toInt := by rw [ex69]; exact wk_sub (show (-2147483648) ≤ (1 : Int) - a3.toInt by omega) (show (1 : Int) - a3.toInt ≤ 2147483647 by omega)
  replace hM := hM.lt ex69.symm
  refine tk_Vi hC hK hw hT hA hE hSR kC_at39 (by decide) rfl (kz_X7_cornerAcross_3 l adK adV dC dI cy ad B hB0 (Int.le_trans hB1 (by decide)) qr s1   a2 (show 0 ≤ a2.toInt from ra2) (show a2.toInt ≤ 11 from ta2) x69 (show 0 ≤ x69.toInt by first | with_reducible assumption | omega) (show x69.toInt ≤ 1 by first | with_reducible assumption | omega) w0 s.heap.size hT ) (cwV 2 hC.2.2.2.2 uV_RX0_71 rfl rfl rfl (by decide +kernel) ⟨Nat.le_of_ble_eq_true rfl, Nat.le_of_ble_eq_true rfl⟩) rfl hl.1 rfl (Nat.le_of_ble_eq_true rfl) dX0_drawFirstBy_15 (fun r70 w72 H locs hp71 hw => ?_)
  obtain ⟨hT, k73, hv77, hg76⟩ := hp71
  have hF := hF.tr k73 (by decide)
  obtain ⟨g74, g75⟩ := hg76
  replace hM := hM.call hv77 rfl
  refine lv_istore (lv' := [(5, .int r70), (4, .ref (ad 39)), (0, .ref (ad 145)), (1, .int a1), (2, .int a2), (3, .int a3)]) hx hb dX0_drawFirstBy_18 hl (by decide) rfl (fun ls hl => ?_)
  refine lv_aload hx hb dX0_drawFirstBy_20 (lv_at hl 1 rfl) ?_
  refine lv_iload_n hx hb dX0_drawFirstBy_22 rfl (lv_at hl 4 rfl) ?_
  refine lv_iload_n hx hb dX0_drawFirstBy_23 rfl (lv_at hl 5 rfl) ?_
  refine tk_Vi hC hK hw hT hA hE hSR kC_at39 (by decide) rfl (kz_X7_cornerAcross_3 l adK adV dC dI cy ad B hB0 (Int.le_trans hB1 (by decide)) qr s1   a2 (show 0 ≤ a2.toInt from ra2) (show a2.toInt ≤ 11 from ta2) a3 (show 0 ≤ a3.toInt from ra3) (show a3.toInt ≤ 1 from ta3) w72 H.size hT ) (cwV 2 hC.2.2.2.2 uV_RX0_71 rfl rfl rfl (by decide +kernel) ⟨Nat.le_of_ble_eq_true rfl, Nat.le_of_ble_eq_true rfl⟩) rfl hl.1 rfl (Nat.le_of_ble_eq_true rfl) dX0_drawFirstBy_24 (fun r78 w80 H locs hp79 hw => ?_)
  obtain ⟨hT, k81, hv85, hg84⟩ := hp79
  have hF := hF.tr k81 (by decide)
  obtain ⟨g82, g83⟩ := hg84
  replace hM := hM.call hv85 rfl
  refine lv_istore (lv' := [(6, .int r78), (5, .int r70), (4, .ref (ad 39)), (0, .ref (ad 145)), (1, .int a1), (2, .int a2), (3, .int a3)]) hx hb dX0_drawFirstBy_27 hl (by decide) rfl (fun ls hl => ?_)
  refine lv_iconst (v := 0) hx hb dX0_drawFirstBy_29 (by decide) ?_
  refine lv_istore (lv' := [(7, .int 0), (6, .int r78), (5, .int r70), (4, .ref (ad 39)), (0, .ref (ad 145)), (1, .int a1), (2, .int a2), (3, .int a3)]) hx hb dX0_drawFirstBy_30 hl (by decide) rfl (fun ls hl => ?_)
  exact L32 ((10 - (0 : Int)).toNat + 1) r70 r78 0 H locs ls w80 (show 0 ≤ a1.toInt from ra1) (show a1.toInt ≤ 10 from ta1) (show 0 ≤ a2.toInt from ra2) (show a2.toInt ≤ 11 from ta2) (show 0 ≤ a3.toInt from ra3) (show a3.toInt ≤ 1 from ta3) (show 0 ≤ r70.toInt by first | with_reducible assumption | omega) (show r70.toInt ≤ 9 by first | with_reducible assumption | omega) (show 0 ≤ r78.toInt by first | with_reducible assumption | omega) (show r78.toInt ≤ 9 by first | with_reducible assumption | omega) (by decide) (by decide) (Nat.lt_succ_self _) hw hT hF hM (lv_sub hl [4, 5, 6, 7, 3, 2, 1, 0] rfl)
abbrev Pz_X0_drawFirst_2 (ad : Nat → Nat) (cy : Nat → ClassId) (B : Int) (qr : Nat) (s1 : Int) (a1 : Int32) (w0 : va_W) : va_W → Prop := fun u => TW ksC ad cy B qr s1 u ∧ FE ksC [(43, 0, 1100)] w0 u ∧ Ev (fun n => m_X0_drawFirst n 145 a1.toInt (sI w0)) (0, sI u) ∧ ((True))
set_option maxHeartbeats 4000000 in
set_option maxRecDepth 100000 in
theorem kz_X0_drawFirst_2 (l : Launch) (adK adV : Nat → Nat) (dC : Nat → ClassId) (dI : Nat → Nat → Nat) (cy : Nat → ClassId) (ad : Nat → Nat) (B : Int) (hB0 : 2147483648 ≤ B) (hB1 : B ≤ 1152921504606846976) (qr : Nat) (s1 : Int)  (a1 : Int32) (ra1 : 0 ≤ a1.toInt) (ta1 : a1.toInt ≤ 10) (w0 : va_W) (sz : Nat) (hT : TW ksC ad cy B qr s1 w0)  : Met l yX0_drawFirst (wu yX0_drawFirst cX0_drawFirst 6 none) ({ frames := 3, cells := 0, slots := 0, locals := 63 }) (va_Pc [.ref (ad 145), .int a1] (wpreS adK adV dC dI cy sz w0)) (va_Qv (Pz_X0_drawFirst_2 ad cy B qr s1 a1 w0) (fun u : va_W => wpost dC dI cy (va_A w0 sz) u) (va_A w0 sz)) 0 0 (va_A w0 sz) := by
  refine Met.ofW (cc := cX0_drawFirst) (maxL := 6) (ret := none) (by decide) rfl ?_
  intro p e s m args below meth c s₁ Bk hml hv
  obtain ⟨rfl, ⟨hsz, hP, hK, hD0⟩, hE, hSR⟩ := hv
  have hx := Bk.exec
  have hb := Bk.bytes
  have hr := Bk.returns
  have hlocks := Bk.notSynchronized
  have hC : CallFix p m c cX0_drawFirst 6 s _ (wu yX0_drawFirst cX0_drawFirst 6 none) RX0 := ⟨hx, hb, hml, findClass_of_methodNamed Bk.named, atoms_spec (ws := (wu yX0_drawFirst cX0_drawFirst 6 none)) Bk.pre⟩
  subst hsz
  have hD := hD0.self (sz := s.heap.size)
  generalize hAe : va_A w0 s.heap.size = A at hD hE ⊢
  have hA : ∀ q : Nat, s.heap.size ≤ q → A q := fun q h => by rw [← hAe]; exact Or.inr h
  have hw : Wd dC dI A s.heap s.heap [] w0 := ⟨hP, hD, va_S.rf⟩
  have hF : FE ksC [(43, 0, 1100)] w0 w0 := FE.rf
  have hl := lv_entry ([.ref (ad 145), .int a1]) (n := 6) (Nat.le_of_ble_eq_true rfl)
  rw [lg_entry_eq]
  generalize (lg_sl ([.ref (ad 145), .int a1]) ++ List.replicate (6 - (lg_sl ([.ref (ad 145), .int a1])).length) Slot.unset).toArray = ls at hl ⊢
  have hl : lv_has ls 6 [(0, .ref (ad 145)), (1, .int a1)] := hl
  generalize hloc : ([] : List Loc) = locs at hw ⊢
  have hinX0 : ∀ w ∈ u_ws RX0 TX0 4, w ∈ (wu yX0_drawFirst cX0_drawFirst 6 none) := fun _ h => List.mem_cons_of_mem _ (up_77 h)
  have hinX5 : ∀ w ∈ u_ws RX5 TX5 14, w ∈ (wu yX0_drawFirst cX0_drawFirst 6 none) := fun _ h => List.mem_cons_of_mem _ (up_76 h)
  have hinX7 : ∀ w ∈ u_ws RX7 TX7 12, w ∈ (wu yX0_drawFirst cX0_drawFirst 6 none) := fun _ h => List.mem_cons_of_mem _ (up_73 h)
  have L15 : ∀ (n15 : Nat) (v15_3 : Int32) (f15_39_9 : Int32) (H : Heap) (locs : List Loc) (ls : Array Slot) (w1 : va_W), 0 ≤ a1.toInt → a1.toInt ≤ 10 → (-1) ≤ v15_3.toInt → v15_3.toInt ≤ 11 → 0 ≤ f15_39_9.toInt → f15_39_9.toInt ≤ 12 → (v15_3.toInt - (-1)).toNat < n15 → Wd dC dI A s.heap H locs w1 → TW ksC ad cy B qr s1 w1 → FE ksC [(43, 0, 1100)] w0 w1 → gi w1 39 9 = f15_39_9 → TT (fun n => m_X0_drawFirst n 145 a1.toInt (sI w0)) (fun n => j_X0_drawFirst 145 n 15 [a1.toInt, v15_3.toInt] (sI w1)) → lv_has ls 6 [(0, .ref (ad 145)), (1, .int a1), (2, .ref (ad 39)), (3, .int v15_3)] → W p l e ({ frames := 3, cells := 0, slots := 0, locals := 63 }) s m (List.toArray [.ref (ad 145), .int a1]) below meth c H locs 0 0 (MQ below (va_Qv (Pz_X0_drawFirst_2 ad cy B qr s1 a1 w0) (fun u : va_W => wpost dC dI cy A u) A) (List.toArray [.ref (ad 145), .int a1]) s 0 0 A) (F0 m 15 ls []) := by
    intro n15
    induction n15 with
    | zero => intro v15_3 f15_39_9 H locs ls w1 r2 t3 r4 t5 r6 t7 hm15 hw hT hF c8 hM hl; omega
    | succ n15 ih15 =>
      intro v15_3 f15_39_9 H locs ls w1 r2 t3 r4 t5 r6 t7 hm15 hw hT hF c8 hM hl
      have L30 : ∀ (n30 : Nat) (v30_4 : Int32) (v30_5 : Int32) (H : Heap) (locs : List Loc) (ls : Array Slot) (w9 : va_W), 0 ≤ a1.toInt → a1.toInt ≤ 10 → 0 ≤ v15_3.toInt → v15_3.toInt ≤ 11 → 0 ≤ v30_5.toInt → v30_5.toInt ≤ 2 → 0 ≤ f15_39_9.toInt → f15_39_9.toInt ≤ 12 → (2 - v30_5.toInt).toNat < n30 → Wd dC dI A s.heap H locs w9 → TW ksC ad cy B qr s1 w9 → FE ksC [(43, 0, 1100)] w0 w9 → gi w9 39 9 = f15_39_9 → TT (fun n => m_X0_drawFirst n 145 a1.toInt (sI w0)) (fun n => j_X0_drawFirst 145 n 30 [a1.toInt, v15_3.toInt, v30_4.toInt, v30_5.toInt] (sI w9)) → lv_has ls 6 [(0, .ref (ad 145)), (1, .int a1), (2, .ref (ad 39)), (3, .int v15_3), (4, .int v30_4), (5, .int v30_5)] → W p l e ({ frames := 3, cells := 0, slots := 0, locals := 63 }) s m (List.toArray [.ref (ad 145), .int a1]) below meth c H locs 0 0 (MQ below (va_Qv (Pz_X0_drawFirst_2 ad cy B qr s1 a1 w0) (fun u : va_W => wpost dC dI cy A u) A) (List.toArray [.ref (ad 145), .int a1]) s 0 0 A) (F0 m 30 ls []) := by
        intro n30
        induction n30 with
        | zero => intro v30_4 v30_5 H locs ls w9 r10 t11 r12 t13 r14 t15 r16 t17 hm30 hw hT hF c18 hM hl; omega
        | succ n30 ih30 =>
          intro v30_4 v30_5 H locs ls w9 r10 t11 r12 t13 r14 t15 r16 t17 hm30 hw hT hF c18 hM hl
          have J54 : ∀ (H : Heap) (locs : List Loc) (ls : Array Slot) (w19 : va_W), 0 ≤ a1.toInt → a1.toInt ≤ 10 → 0 ≤ v15_3.toInt → v15_3.toInt ≤ 11 → 0 ≤ v30_5.toInt → v30_5.toInt ≤ 1 → 0 ≤ f15_39_9.toInt → f15_39_9.toInt ≤ 12 → Wd dC dI A s.heap H locs w19 → TW ksC ad cy B qr s1 w19 → FE ksC [(43, 0, 1100)] w0 w19 → gi w19 39 9 = f15_39_9 → TT (fun n => m_X0_drawFirst n 145 a1.toInt (sI w0)) (fun n => b_X0_drawFirst_54 (j_X0_drawFirst 145 n) n 145 (a1.toInt) (v15_3.toInt) (v30_4.toInt) (v30_5.toInt) (sI w19)) → lv_has ls 6 [(0, .ref (ad 145)), (1, .int a1), (2, .ref (ad 39)), (3, .int v15_3), (4, .int v30_4), (5, .int v30_5)] → W p l e ({ frames := 3, cells := 0, slots := 0, locals := 63 }) s m (List.toArray [.ref (ad 145), .int a1]) below meth c H locs 0 0 (MQ below (va_Qv (Pz_X0_drawFirst_2 ad cy B qr s1 a1 w0) (fun u : va_W => wpost dC dI cy A u) A) (List.toArray [.ref (ad 145), .int a1]) s 0 0 A) (F0 m 54 ls []) := by
            intro H locs ls w19 r20 t21 r22 t23 r24 t25 r26 t27 hw hT hF c28 hM hl
            obtain ⟨x29, ex29⟩ : ∃ y : Int32, y = v30_5 + Int32.ofInt 1 := ⟨_, rfl⟩
            have erx29 := ex29
            refine lv_iinc (v := x29) (lv' := [(5, .int x29), (0, .ref (ad 145)), (1, .int a1), (2, .ref (ad 39)), (3, .int v15_3), (4, .int v30_4)]) hx hb dX0_drawFirst_54 hl (k := 5) rfl ex29.symm (by decide) rfl (fun ls hl => ?_)
            have ex29 : x29.toInt = v30_5.toInt + 1 := by rw [ex29]; exact wk_add (y := 1) (show -2147483648 ≤ v30_5.toInt + 1 by omega) (show v30_5.toInt + 1 ≤ 2147483647 by omega)
            replace hM := hM.lt ex29.symm
            refine lv_goto (tgt := 30) hx hb dX0_drawFirst_57 (by decide) ?_
            exact ih30 v30_4 x29 H locs ls w19 (show 0 ≤ a1.toInt from r20) (show a1.toInt ≤ 10 from t21) (show 0 ≤ v15_3.toInt from r22) (show v15_3.toInt ≤ 11 from t23) (show 0 ≤ x29.toInt by first | with_reducible assumption | omega) (show x29.toInt ≤ 2 by first | with_reducible assumption | omega) (show 0 ≤ f15_39_9.toInt from r26) (show f15_39_9.toInt ≤ 12 from t27) (show (2 - x29.toInt).toNat < n30 by first | exact tn_lt hm30 (by omega) (by omega) | omega) hw hT hF c28 hM (lv_sub hl [1, 2, 3, 4, 5, 0] rfl)
          replace hM := hM.suc (fun _ => e_X0_drawFirst_30)
          refine lv_iload hx hb dX0_drawFirst_30 (lv_at hl 5 rfl) ?_
          refine lv_iconst (v := 2) hx hb dX0_drawFirst_32 (by decide) ?_
          refine lv_icmp_ge (tgt := 60) hx hb dX0_drawFirst_33 (by decide) (fun c30 => ?_) (fun c30 => ?_)
          · have c30 : (2 : Int) ≤ v30_5.toInt := wk_le.mp c30
            replace hM := hM.pos c30
            obtain ⟨x31, ex31⟩ : ∃ y : Int32, y = v15_3 + Int32.ofInt (-1) := ⟨_, rfl⟩
            have erx31 := ex31
            refine lv_iinc (v := x31) (lv' := [(3, .int x31), (0, .ref (ad 145)), (1, .int a1), (2, .ref (ad 39)), (4, .int v30_4), (5, .int v30_5)]) hx hb dX0_drawFirst_60 hl (k := 3) rfl ex31.symm (by decide) rfl (fun ls hl => ?_)
            have ex31 : x31.toInt = v15_3.toInt + (-1) := by rw [ex31]; exact wk_add (y := (-1)) (show -2147483648 ≤ v15_3.toInt + (-1) by omega) (show v15_3.toInt + (-1) ≤ 2147483647 by omega)
            replace hM := hM.lt ex31.symm
            refine lv_goto (tgt := 15) hx hb dX0_drawFirst_63 (by decide) ?_
            exact ih15 x31 f15_39_9 H locs ls w9 (show 0 ≤ a1.toInt from r10) (show a1.toInt ≤ 10 from t11) (show (-1) ≤ x31.toInt by first | with_reducible assumption | omega) (show x31.toInt ≤ 11 by first | with_reducible assumption | omega) (show 0 ≤ f15_39_9.toInt from r16) (show f15_39_9.toInt ≤ 12 from t17) (show (x31.toInt - (-1)).toNat < n15 by first | exact tn_lt hm15 (by omega) (by omega) | omega) hw hT hF c18 hM (lv_sub hl [1, 2, 3, 0] rfl)
          · have c30 : v30_5.toInt < (2 : Int) := wk_leF c30
            replace hM := hM.neg (Int.not_le.mpr c30)
            refine lv_iload hx hb dX0_drawFirst_36 (lv_at hl 4 rfl) ?_
            refine lv_iload hx hb dX0_drawFirst_38 (lv_at hl 5 rfl) ?_
            refine lv_ishr hx hb dX0_drawFirst_40 ?_
            refine lv_topi (fun x32 ex32 => ?_)
            have ezx32 := ex32
            replace hM := hM.lt (o32_e (f := fun x y => x >>> (y &&& 31)) ezx32 rfl rfl)
            refine lv_iconst (v := 1) hx hb dX0_drawFirst_41 (by decide) ?_
            refine lv_iand hx hb dX0_drawFirst_42 ?_
            refine lv_topi (fun x33 ex33 => ?_)
            have ezx33 := ex33
            have bx33 : 0 ≤ x33.toInt ∧ x33.toInt ≤ (1 : Int) := by rw [ex33]; exact wk_and (by decide)
            replace hM := hM.lt (o32_e (f := fun x y => x &&& y) ezx33 rfl (by decide))
            refine lv_if_eq (tgt := 54) hx hb dX0_drawFirst_43 (by decide) (fun c34 => ?_) (fun c34 => ?_)
            · have c34 : x33.toInt = (0 : Int) := wk_eq.mp c34
              replace hM := hM.pos c34
              exact J54  H locs ls w9 (show 0 ≤ a1.toInt from r10) (show a1.toInt ≤ 10 from t11) (show 0 ≤ v15_3.toInt from r12) (show v15_3.toInt ≤ 11 from t13) (show 0 ≤ v30_5.toInt from r14) (show v30_5.toInt ≤ 1 by first | with_reducible assumption | omega) (show 0 ≤ f15_39_9.toInt from r16) (show f15_39_9.toInt ≤ 12 from t17)  hw hT hF c18 hM (lv_sub hl [0, 1, 2, 3, 4, 5] rfl)
            · have c34 : ¬ x33.toInt = (0 : Int) := wk_eqF c34
              replace hM := hM.neg c34
              refine lv_aload_n hx hb dX0_drawFirst_46 rfl (lv_at hl 0 rfl) ?_
              refine lv_iload_n hx hb dX0_drawFirst_47 rfl (lv_at hl 1 rfl) ?_
              refine lv_iload_n hx hb dX0_drawFirst_48 rfl (lv_at hl 3 rfl) ?_
              refine lv_iload hx hb dX0_drawFirst_49 (lv_at hl 5 rfl) ?_
              refine tk_Vv hC hK hw hT hA hE hSR kC_at145 (by decide) rfl (kz_X0_drawFirstBy_2 l adK adV dC dI cy ad B hB0 (Int.le_trans hB1 (by decide)) qr s1   a1 (show 0 ≤ a1.toInt from r10) (show a1.toInt ≤ 10 from t11) v15_3 (show 0 ≤ v15_3.toInt from r12) (show v15_3.toInt ≤ 11 from t13) v30_5 (show 0 ≤ v30_5.toInt from r14) (show v30_5.toInt ≤ 1 by first | with_reducible assumption | omega) w9 H.size hT ) (cwV 3 hC.2.2.2.2 uV_RX0_78 rfl rfl rfl (by decide +kernel) ⟨Nat.le_of_ble_eq_true rfl, Nat.le_of_ble_eq_true rfl⟩) rfl hl.1 rfl (Nat.le_of_ble_eq_true rfl) dX0_drawFirst_51 (fun w37 H locs hp36 hw => ?_)
              obtain ⟨hT, k38, hv40, hg39⟩ := hp36
              have hF := hF.tr k38 (by decide)
              have c41 := k38.gi kC_at39 (by decide) c18
              clear hg39
              replace hM := hM.call hv40 rfl
              exact J54  H locs ls w37 (show 0 ≤ a1.toInt from r10) (show a1.toInt ≤ 10 from t11) (show 0 ≤ v15_3.toInt from r12) (show v15_3.toInt ≤ 11 from t13) (show 0 ≤ v30_5.toInt from r14) (show v30_5.toInt ≤ 1 by first | with_reducible assumption | omega) (show 0 ≤ f15_39_9.toInt from r16) (show f15_39_9.toInt ≤ 12 from t17)  hw hT hF c41 hM (lv_sub hl [0, 1, 2, 3, 4, 5] rfl)
      replace hM := hM.suc (fun _ => e_X0_drawFirst_15)
      refine lv_iload_n hx hb dX0_drawFirst_15 rfl (lv_at hl 3 rfl) ?_
      refine lv_if_lt (tgt := 66) hx hb dX0_drawFirst_16 (by decide) (fun c42 => ?_) (fun c42 => ?_)
      · have c42 : v15_3.toInt < (0 : Int) := wk_lt.mp c42
        replace hM := hM.pos c42
        exact tk_vret hC hr hlocks hK ⟨hT, hF, hM.ret rfl, trivial⟩ hw dX0_drawFirst_66
      · have c42 : (0 : Int) ≤ v15_3.toInt := wk_ltF c42
        replace hM := hM.neg (Int.not_lt.mpr c42)
        refine lv_aload_n hx hb dX0_drawFirst_19 rfl (lv_at hl 0 rfl) ?_
        refine lv_iload_n hx hb dX0_drawFirst_20 rfl (lv_at hl 1 rfl) ?_
        refine lv_iload_n hx hb dX0_drawFirst_21 rfl (lv_at hl 3 rfl) ?_
        refine tk_Vi hC hK hw hT hA hE hSR kC_at145 (by decide) rfl (kz_X0_signOf_2 l adK adV dC dI cy ad B hB0 (Int.le_trans hB1 (by decide)) qr s1   a1 (show 0 ≤ a1.toInt from r2) (show a1.toInt ≤ 10 from t3) v15_3 (show 0 ≤ v15_3.toInt by first | with_reducible assumption | omega) (show v15_3.toInt ≤ 11 from t5) w1 H.size hT ) (cwV 2 hC.2.2.2.2 uV_RX0_68 rfl rfl rfl (by decide +kernel) ⟨Nat.le_of_ble_eq_true rfl, Nat.le_of_ble_eq_true rfl⟩) rfl hl.1 rfl (Nat.le_of_ble_eq_true rfl) dX0_drawFirst_22 (fun r43 w45 H locs hp44 hw => ?_)
        obtain ⟨hT, k46, hv52, hg51⟩ := hp44
        have hF := hF.tr k46 (by decide)
        have c53 := k46.gi kC_at39 (by decide) c8
        rcases hg51 with g47 | ⟨g48, g49, g50⟩
        · replace hM := hM.call hv52 rfl
          refine lv_istore (lv' := [(4, .int r43), (0, .ref (ad 145)), (1, .int a1), (2, .ref (ad 39)), (3, .int v15_3)]) hx hb dX0_drawFirst_25 hl (by decide) rfl (fun ls hl => ?_)
          refine lv_iconst (v := 0) hx hb dX0_drawFirst_27 (by decide) ?_
          refine lv_istore (lv' := [(5, .int 0), (4, .int r43), (0, .ref (ad 145)), (1, .int a1), (2, .ref (ad 39)), (3, .int v15_3)]) hx hb dX0_drawFirst_28 hl (by decide) rfl (fun ls hl => ?_)
          exact L30 ((2 - (0 : Int)).toNat + 1) r43 0 H locs ls w45 (show 0 ≤ a1.toInt from r2) (show a1.toInt ≤ 10 from t3) (show 0 ≤ v15_3.toInt by first | with_reducible assumption | omega) (show v15_3.toInt ≤ 11 from t5) (by decide) (by decide) (show 0 ≤ f15_39_9.toInt from r6) (show f15_39_9.toInt ≤ 12 from t7) (Nat.lt_succ_self _) hw hT hF c53 hM (lv_sub hl [2, 3, 4, 5, 1, 0] rfl)
        · replace hM := hM.call hv52 rfl
          refine lv_istore (lv' := [(4, .int r43), (0, .ref (ad 145)), (1, .int a1), (2, .ref (ad 39)), (3, .int v15_3)]) hx hb dX0_drawFirst_25 hl (by decide) rfl (fun ls hl => ?_)
          refine lv_iconst (v := 0) hx hb dX0_drawFirst_27 (by decide) ?_
          refine lv_istore (lv' := [(5, .int 0), (4, .int r43), (0, .ref (ad 145)), (1, .int a1), (2, .ref (ad 39)), (3, .int v15_3)]) hx hb dX0_drawFirst_28 hl (by decide) rfl (fun ls hl => ?_)
          exact L30 ((2 - (0 : Int)).toNat + 1) r43 0 H locs ls w45 (show 0 ≤ a1.toInt from r2) (show a1.toInt ≤ 10 from t3) (show 0 ≤ v15_3.toInt by first | with_reducible assumption | omega) (show v15_3.toInt ≤ 11 from t5) (by decide) (by decide) (show 0 ≤ f15_39_9.toInt from r6) (show f15_39_9.toInt ≤ 12 from t7) (Nat.lt_succ_self _) hw hT hF c53 hM (lv_sub hl [2, 3, 4, 5, 1, 0] rfl)
  have hM : TT (fun n => m_X0_drawFirst n 145 a1.toInt (sI w0)) (fun n => m_X0_drawFirst n 145 a1.toInt (sI w0)) := TT.rf
  refine lv_aload_n hx hb dX0_drawFirst_0 rfl (lv_at hl 0 rfl) ?_
  refine tk_getA hC hK hw hT hinX0 kC_at145 (by decide) rfl 0 (by decide) (List.mem_cons_of_mem _ uw_4_17) rfl rfl dX0_drawFirst_1 ?_
  refine tk_getO hC hK hw hT hinX5 kC_at38 (by decide) rfl 0 (by decide) (List.mem_cons_of_mem _ uw_36_9) rfl rfl dX0_drawFirst_4 ?_
  refine lv_astore_n (lv' := [(2, .ref (ad 39)), (0, .ref (ad 145)), (1, .int a1)]) hx hb dX0_drawFirst_7 rfl hl (by decide) rfl (fun ls hl => ?_)
  refine lv_aload_n hx hb dX0_drawFirst_8 rfl (lv_at hl 0 rfl) ?_
  refine tk_geti hC hK hw hT hinX7 kC_at39 (by decide) rfl 9 (by decide) (List.mem_cons_of_mem _ uw_36_10) rfl rfl dX0_drawFirst_9 (fun x54 c55 rx54 tx54 => ?_)
  replace hM := hM.rd (sI_at c55)
  refine lv_iconst (v := 1) hx hb dX0_drawFirst_12 (by decide) ?_
  refine lv_isub hx hb dX0_drawFirst_13 ?_
  refine lv_topi (fun x56 ex56 => ?_)
  have ezx56 := ex56
  have ex56 : x56.toInt = x54.toInt - (1 : Int) := by rw [ex56]; exact wk_sub (show (-2147483648) ≤ x54.toInt - (1 : Int) by omega) (show x54.toInt - (1 : Int) ≤ 2147483647 by omega)
  replace hM := hM.lt ex56.symm
  refine lv_istore_n (lv' := [(3, .int x56), (2, .ref (ad 39)), (0, .ref (ad 145)), (1, .int a1)]) hx hb dX0_drawFirst_14 rfl hl (by decide) rfl (fun ls hl => ?_)
  exact L15 ((x56.toInt - (-1)).toNat + 1) x56 x54 s.heap locs ls w0 (show 0 ≤ a1.toInt from ra1) (show a1.toInt ≤ 10 from ta1) (show (-1) ≤ x56.toInt by first | with_reducible assumption | omega) (show x56.toInt ≤ 11 by first | with_reducible assumption | omega) (show 0 ≤ x54.toInt from rx54) (show x54.toInt ≤ 12 from tx54) (Nat.lt_succ_self _) hw hT hF c55 hM (lv_sub hl [2, 3, 1, 0] rfl)
abbrev Pz_X0_refresh_2 (ad : Nat → Nat) (cy : Nat → ClassId) (B : Int) (qr : Nat) (s1 : Int) (a1 : Int32) (w0 : va_W) : va_W → Prop := fun u => TW ksC ad cy B qr s1 u ∧ FE ksC [(42, 0, 1100), (43, 0, 1100), (44, 0, 11)] w0 u ∧ Ev (fun n => m_X0_refresh n 145 a1.toInt (sI w0)) (0, sI u) ∧ ((True))
set_option maxHeartbeats 4000000 in
set_option maxRecDepth 100000 in
theorem kz_X0_refresh_2 (l : Launch) (adK adV : Nat → Nat) (dC : Nat → ClassId) (dI : Nat → Nat → Nat) (cy : Nat → ClassId) (ad : Nat → Nat) (B : Int) (hB0 : 2147483648 ≤ B) (hB1 : B ≤ 1152921504606846976) (qr : Nat) (s1 : Int)  (a1 : Int32) (ra1 : 0 ≤ a1.toInt) (ta1 : a1.toInt ≤ 10) (w0 : va_W) (sz : Nat) (hT : TW ksC ad cy B qr s1 w0)  : Met l yX0_refresh (wu yX0_refresh cX0_refresh 2 none) ({ frames := 4, cells := 0, slots := 0, locals := 88 }) (va_Pc [.ref (ad 145), .int a1] (wpreS adK adV dC dI cy sz w0)) (va_Qv (Pz_X0_refresh_2 ad cy B qr s1 a1 w0) (fun u : va_W => wpost dC dI cy (va_A w0 sz) u) (va_A w0 sz)) 0 0 (va_A w0 sz) := by
  refine Met.ofW (cc := cX0_refresh) (maxL := 2) (ret := none) (by decide) rfl ?_
  intro p e s m args below meth c s₁ Bk hml hv
  obtain ⟨rfl, ⟨hsz, hP, hK, hD0⟩, hE, hSR⟩ := hv
  have hx := Bk.exec
  have hb := Bk.bytes
  have hr := Bk.returns
  have hlocks := Bk.notSynchronized
  have hC : CallFix p m c cX0_refresh 2 s _ (wu yX0_refresh cX0_refresh 2 none) RX0 := ⟨hx, hb, hml, findClass_of_methodNamed Bk.named, atoms_spec (ws := (wu yX0_refresh cX0_refresh 2 none)) Bk.pre⟩
  subst hsz
  have hD := hD0.self (sz := s.heap.size)
  generalize hAe : va_A w0 s.heap.size = A at hD hE ⊢
  have hA : ∀ q : Nat, s.heap.size ≤ q → A q := fun q h => by rw [← hAe]; exact Or.inr h
  have hw : Wd dC dI A s.heap s.heap [] w0 := ⟨hP, hD, va_S.rf⟩
  have hF : FE ksC [(42, 0, 1100), (43, 0, 1100), (44, 0, 11)] w0 w0 := FE.rf
  have hl := lv_entry ([.ref (ad 145), .int a1]) (n := 2) (Nat.le_of_ble_eq_true rfl)
  rw [lg_entry_eq]
  generalize (lg_sl ([.ref (ad 145), .int a1]) ++ List.replicate (2 - (lg_sl ([.ref (ad 145), .int a1])).length) Slot.unset).toArray = ls at hl ⊢
  have hl : lv_has ls 2 [(0, .ref (ad 145)), (1, .int a1)] := hl
  generalize hloc : ([] : List Loc) = locs at hw ⊢
  have hinX0 : ∀ w ∈ u_ws RX0 TX0 4, w ∈ (wu yX0_refresh cX0_refresh 2 none) := fun _ h => List.mem_cons_of_mem _ (up_77 h)
  have J31 : ∀ (H : Heap) (locs : List Loc) (ls : Array Slot) (w1 : va_W), 0 ≤ a1.toInt → a1.toInt ≤ 10 → Wd dC dI A s.heap H locs w1 → TW ksC ad cy B qr s1 w1 → FE ksC [(42, 0, 1100), (43, 0, 1100), (44, 0, 11)] w0 w1 → TT (fun n => m_X0_refresh n 145 a1.toInt (sI w0)) (fun n => b_X0_refresh_31 n 145 (sI w1)) → lv_has ls 2 [(0, .ref (ad 145)), (1, .int a1)] → W p l e ({ frames := 4, cells := 0, slots := 0, locals := 88 }) s m (List.toArray [.ref (ad 145), .int a1]) below meth c H locs 0 0 (MQ below (va_Qv (Pz_X0_refresh_2 ad cy B qr s1 a1 w0) (fun u : va_W => wpost dC dI cy A u) A) (List.toArray [.ref (ad 145), .int a1]) s 0 0 A) (F0 m 31 ls []) := by
    intro H locs ls w1 r2 t3 hw hT hF hM hl
    exact tk_vret hC hr hlocks hK ⟨hT, hF, hM.ret rfl, trivial⟩ hw dX0_refresh_31
  have hM : TT (fun n => m_X0_refresh n 145 a1.toInt (sI w0)) (fun n => m_X0_refresh n 145 a1.toInt (sI w0)) := TT.rf
  refine lv_aload_n hx hb dX0_refresh_0 rfl (lv_at hl 0 rfl) ?_
  refine tk_getA hC hK hw hT hinX0 kC_at145 (by decide) rfl 3 (by decide) (List.mem_cons_of_mem _ uw_4_16) rfl rfl dX0_refresh_1 ?_
  refine lv_iload_n hx hb dX0_refresh_4 rfl (lv_at hl 1 rfl) ?_
  refine tk_zald hC hK hw hT kC_at148 rfl rfl (show 0 ≤ a1.toInt from ra1) (show a1.toInt < 11 from Int.lt_of_le_of_lt ta1 (by decide)) dX0_refresh_5 (fun x4 c5 rx4 tx4 => ?_)
  have hox4 := c5
  replace hM := hM.rd (sI_at hox4)
  refine lv_if_ne (tgt := 31) hx hb dX0_refresh_6 (by decide) (fun c6 => ?_) (fun c6 => ?_)
  · have c6 : ¬ x4.toInt = (0 : Int) := wk_eqF c6
    replace hM := hM.pos c6
    exact J31  s.heap locs ls w0 (show 0 ≤ a1.toInt from ra1) (show a1.toInt ≤ 10 from ta1)  hw hT hF hM (lv_sub hl [0, 1] rfl)
  · have c6 : x4.toInt = (0 : Int) := wk_eq.mp c6
    replace hM := hM.neg (fun q => q c6)
    refine lv_aload_n hx hb dX0_refresh_9 rfl (lv_at hl 0 rfl) ?_
    refine lv_iload_n hx hb dX0_refresh_10 rfl (lv_at hl 1 rfl) ?_
    refine tk_Vv hC hK hw hT hA hE hSR kC_at145 (by decide) rfl (kz_X0_drawStreets_2 l adK adV dC dI cy ad B hB0 (Int.le_trans hB1 (by decide)) qr s1   a1 (show 0 ≤ a1.toInt from ra1) (show a1.toInt ≤ 10 from ta1) w0 s.heap.size hT ) (cwV 1 hC.2.2.2.2 uV_RX0_38 rfl rfl rfl (by decide +kernel) ⟨Nat.le_of_ble_eq_true rfl, Nat.le_of_ble_eq_true rfl⟩) rfl hl.1 rfl (Nat.le_of_ble_eq_true rfl) dX0_refresh_11 (fun w9 H locs hp8 hw => ?_)
    obtain ⟨hT, k10, hv12, hg11⟩ := hp8
    have hF := hF.tr k10 (by decide)
    clear hg11
    replace hM := hM.call hv12 rfl
    refine lv_aload_n hx hb dX0_refresh_14 rfl (lv_at hl 0 rfl) ?_
    refine lv_iload_n hx hb dX0_refresh_15 rfl (lv_at hl 1 rfl) ?_
    refine tk_Vv hC hK hw hT hA hE hSR kC_at145 (by decide) rfl (kz_X0_drawHours_2 l adK adV dC dI cy ad B hB0 (Int.le_trans hB1 (by decide)) qr s1   a1 (show 0 ≤ a1.toInt from ra1) (show a1.toInt ≤ 10 from ta1) w9 H.size hT ) (cwV 1 hC.2.2.2.2 uV_RX0_41 rfl rfl rfl (by decide +kernel) ⟨Nat.le_of_ble_eq_true rfl, Nat.le_of_ble_eq_true rfl⟩) rfl hl.1 rfl (Nat.le_of_ble_eq_true rfl) dX0_refresh_16 (fun w15 H locs hp14 hw => ?_)
    obtain ⟨hT, k16, hv18, hg17⟩ := hp14
    have hF := hF.tr k16 (by decide)
    clear hg17
    replace hM := hM.call hv18 rfl
    refine lv_aload_n hx hb dX0_refresh_19 rfl (lv_at hl 0 rfl) ?_
    refine lv_iload_n hx hb dX0_refresh_20 rfl (lv_at hl 1 rfl) ?_
    refine tk_Vv hC hK hw hT hA hE hSR kC_at145 (by decide) rfl (kz_X0_drawFirst_2 l adK adV dC dI cy ad B hB0 (Int.le_trans hB1 (by decide)) qr s1   a1 (show 0 ≤ a1.toInt from ra1) (show a1.toInt ≤ 10 from ta1) w15 H.size hT ) (cwV 1 hC.2.2.2.2 uV_RX0_44 rfl rfl rfl (by decide +kernel) ⟨Nat.le_of_ble_eq_true rfl, Nat.le_of_ble_eq_true rfl⟩) rfl hl.1 rfl (Nat.le_of_ble_eq_true rfl) dX0_refresh_21 (fun w21 H locs hp20 hw => ?_)
    obtain ⟨hT, k22, hv24, hg23⟩ := hp20
    have hF := hF.tr k22 (by decide)
    clear hg23
    replace hM := hM.call hv24 rfl
    refine lv_aload_n hx hb dX0_refresh_24 rfl (lv_at hl 0 rfl) ?_
    refine tk_getA hC hK hw hT hinX0 kC_at145 (by decide) rfl 3 (by decide) (List.mem_cons_of_mem _ uw_4_16) rfl rfl dX0_refresh_25 ?_
    refine lv_iload_n hx hb dX0_refresh_28 rfl (lv_at hl 1 rfl) ?_
    refine lv_iconst (v := 1) hx hb dX0_refresh_29 (by decide) ?_
    refine tk_zast hC hK hw hT kC_at148 (by decide) rfl rfl (show 0 ≤ a1.toInt from ra1) (show a1.toInt < 11 from Int.lt_of_le_of_lt ta1 (by decide)) (by decide) (by decide) dX0_refresh_30 (fun H locs w25 hw hT k27 c26 => ?_)
    replace hM := hM.wr (sI_upc k27 c26 (by decide))
    have hF := hF.put kC_at148 (inE_of (a := 0) (b := 11) (by decide) (show 0 ≤ a1.toInt.toNat by omega) (show a1.toInt.toNat ≤ 11 by omega)) k27
    exact J31  H locs ls w25 (show 0 ≤ a1.toInt from ra1) (show a1.toInt ≤ 10 from ta1)  hw hT hF hM (lv_sub hl [0, 1] rfl)
abbrev Pz_X0_refreshAll_1 (ad : Nat → Nat) (cy : Nat → ClassId) (B : Int) (qr : Nat) (s1 : Int)  (w0 : va_W) : va_W → Prop := fun u => TW ksC ad cy B qr s1 u ∧ FE ksC [(42, 0, 1100), (43, 0, 1100), (44, 0, 11)] w0 u ∧ Ev (fun n => m_X0_refreshAll n 145 (sI w0)) (0, sI u) ∧ ((True))
set_option maxHeartbeats 4000000 in
set_option maxRecDepth 100000 in
theorem kz_X0_refreshAll_1 (l : Launch) (adK adV : Nat → Nat) (dC : Nat → ClassId) (dI : Nat → Nat → Nat) (cy : Nat → ClassId) (ad : Nat → Nat) (B : Int) (hB0 : 2147483648 ≤ B) (hB1 : B ≤ 1152921504606846976) (qr : Nat) (s1 : Int)   (w0 : va_W) (sz : Nat) (hT : TW ksC ad cy B qr s1 w0)  : Met l yX0_refreshAll (wu yX0_refreshAll cX0_refreshAll 2 none) ({ frames := 5, cells := 0, slots := 0, locals := 109 }) (va_Pc [.ref (ad 145)] (wpreS adK adV dC dI cy sz w0)) (va_Qv (Pz_X0_refreshAll_1 ad cy B qr s1  w0) (fun u : va_W => wpost dC dI cy (va_A w0 sz) u) (va_A w0 sz)) 0 0 (va_A w0 sz) := by
  refine Met.ofW (cc := cX0_refreshAll) (maxL := 2) (ret := none) (by decide) rfl ?_
  intro p e s m args below meth c s₁ Bk hml hv
  obtain ⟨rfl, ⟨hsz, hP, hK, hD0⟩, hE, hSR⟩ := hv
  have hx := Bk.exec
  have hb := Bk.bytes
  have hr := Bk.returns
  have hlocks := Bk.notSynchronized
  have hC : CallFix p m c cX0_refreshAll 2 s _ (wu yX0_refreshAll cX0_refreshAll 2 none) RX0 := ⟨hx, hb, hml, findClass_of_methodNamed Bk.named, atoms_spec (ws := (wu yX0_refreshAll cX0_refreshAll 2 none)) Bk.pre⟩
  subst hsz
  have hD := hD0.self (sz := s.heap.size)
  generalize hAe : va_A w0 s.heap.size = A at hD hE ⊢
  have hA : ∀ q : Nat, s.heap.size ≤ q → A q := fun q h => by rw [← hAe]; exact Or.inr h
  have hw : Wd dC dI A s.heap s.heap [] w0 := ⟨hP, hD, va_S.rf⟩
  have hF : FE ksC [(42, 0, 1100), (43, 0, 1100), (44, 0, 11)] w0 w0 := FE.rf
  have hl := lv_entry ([.ref (ad 145)]) (n := 2) (Nat.le_of_ble_eq_true rfl)
  rw [lg_entry_eq]
  generalize (lg_sl ([.ref (ad 145)]) ++ List.replicate (2 - (lg_sl ([.ref (ad 145)])).length) Slot.unset).toArray = ls at hl ⊢
  have hl : lv_has ls 2 [(0, .ref (ad 145))] := hl
  generalize hloc : ([] : List Loc) = locs at hw ⊢
  have hinX0 : ∀ w ∈ u_ws RX0 TX0 4, w ∈ (wu yX0_refreshAll cX0_refreshAll 2 none) := fun _ h => List.mem_cons_of_mem _ (up_77 h)
  have hinX5 : ∀ w ∈ u_ws RX5 TX5 14, w ∈ (wu yX0_refreshAll cX0_refreshAll 2 none) := fun _ h => List.mem_cons_of_mem _ (up_76 h)
  have L2 : ∀ (n2 : Nat) (v2_1 : Int32) (H : Heap) (locs : List Loc) (ls : Array Slot) (w1 : va_W), 0 ≤ v2_1.toInt → v2_1.toInt ≤ 11 → (11 - v2_1.toInt).toNat < n2 → Wd dC dI A s.heap H locs w1 → TW ksC ad cy B qr s1 w1 → FE ksC [(42, 0, 1100), (43, 0, 1100), (44, 0, 11)] w0 w1 → TT (fun n => m_X0_refreshAll n 145 (sI w0)) (fun n => j_X0_refreshAll 145 n 2 [v2_1.toInt] (sI w1)) → lv_has ls 2 [(0, .ref (ad 145)), (1, .int v2_1)] → W p l e ({ frames := 5, cells := 0, slots := 0, locals := 109 }) s m (List.toArray [.ref (ad 145)]) below meth c H locs 0 0 (MQ below (va_Qv (Pz_X0_refreshAll_1 ad cy B qr s1  w0) (fun u : va_W => wpost dC dI cy A u) A) (List.toArray [.ref (ad 145)]) s 0 0 A) (F0 m 2 ls []) := by
    intro n2
    induction n2 with
    | zero => intro v2_1 H locs ls w1 r2 t3 hm2 hw hT hF hM hl; omega
    | succ n2 ih2 =>
      intro v2_1 H locs ls w1 r2 t3 hm2 hw hT hF hM hl
      have J29 : ∀ (f29_38_8 : Int32) (H : Heap) (locs : List Loc) (ls : Array Slot) (w4 : va_W), 0 ≤ v2_1.toInt → v2_1.toInt ≤ 10 → 0 ≤ f29_38_8.toInt → f29_38_8.toInt ≤ 4 → Wd dC dI A s.heap H locs w4 → TW ksC ad cy B qr s1 w4 → FE ksC [(42, 0, 1100), (43, 0, 1100), (44, 0, 11)] w0 w4 → gi w4 38 8 = f29_38_8 → TT (fun n => m_X0_refreshAll n 145 (sI w0)) (fun n => b_X0_refreshAll_29 (j_X0_refreshAll 145 n) n 145 (v2_1.toInt) (sI w4)) → lv_has ls 2 [(0, .ref (ad 145)), (1, .int v2_1)] → W p l e ({ frames := 5, cells := 0, slots := 0, locals := 109 }) s m (List.toArray [.ref (ad 145)]) below meth c H locs 0 0 (MQ below (va_Qv (Pz_X0_refreshAll_1 ad cy B qr s1  w0) (fun u : va_W => wpost dC dI cy A u) A) (List.toArray [.ref (ad 145)]) s 0 0 A) (F0 m 29 ls []) := by
        intro f29_38_8 H locs ls w4 r5 t6 r7 t8 hw hT hF c9 hM hl
        obtain ⟨x10, ex10⟩ : ∃ y : Int32, y = v2_1 + Int32.ofInt 1 := ⟨_, rfl⟩
        have erx10 := ex10
        refine lv_iinc (v := x10) (lv' := [(1, .int x10), (0, .ref (ad 145))]) hx hb dX0_refreshAll_29 hl (k := 1) rfl ex10.symm (by decide) rfl (fun ls hl => ?_)
        have ex10 : x10.toInt = v2_1.toInt + 1 := by rw [ex10]; exact wk_add (y := 1) (show -2147483648 ≤ v2_1.toInt + 1 by omega) (show v2_1.toInt + 1 ≤ 2147483647 by omega)
        replace hM := hM.lt ex10.symm
        refine lv_goto (tgt := 2) hx hb dX0_refreshAll_32 (by decide) ?_
        exact ih2 x10 H locs ls w4 (show 0 ≤ x10.toInt by first | with_reducible assumption | omega) (show x10.toInt ≤ 11 by first | with_reducible assumption | omega) (show (11 - x10.toInt).toNat < n2 by first | exact tn_lt hm2 (by omega) (by omega) | omega) hw hT hF hM (lv_sub hl [1, 0] rfl)
      have J24 : ∀ (f24_38_8 : Int32) (H : Heap) (locs : List Loc) (ls : Array Slot) (w11 : va_W), 0 ≤ v2_1.toInt → v2_1.toInt ≤ 10 → 0 ≤ f24_38_8.toInt → f24_38_8.toInt ≤ 4 → Wd dC dI A s.heap H locs w11 → TW ksC ad cy B qr s1 w11 → FE ksC [(42, 0, 1100), (43, 0, 1100), (44, 0, 11)] w0 w11 → gi w11 38 8 = f24_38_8 → TT (fun n => m_X0_refreshAll n 145 (sI w0)) (fun n => b_X0_refreshAll_24 (j_X0_refreshAll 145 n) n 145 (v2_1.toInt) (sI w11)) → lv_has ls 2 [(0, .ref (ad 145)), (1, .int v2_1)] → W p l e ({ frames := 5, cells := 0, slots := 0, locals := 109 }) s m (List.toArray [.ref (ad 145)]) below meth c H locs 0 0 (MQ below (va_Qv (Pz_X0_refreshAll_1 ad cy B qr s1  w0) (fun u : va_W => wpost dC dI cy A u) A) (List.toArray [.ref (ad 145)]) s 0 0 A) (F0 m 24 ls []) := by
        intro f24_38_8 H locs ls w11 r12 t13 r14 t15 hw hT hF c16 hM hl
        refine lv_aload_n hx hb dX0_refreshAll_24 rfl (lv_at hl 0 rfl) ?_
        refine lv_iload_n hx hb dX0_refreshAll_25 rfl (lv_at hl 1 rfl) ?_
        refine tk_Vv hC hK hw hT hA hE hSR kC_at145 (by decide) rfl (kz_X0_refresh_2 l adK adV dC dI cy ad B hB0 (Int.le_trans hB1 (by decide)) qr s1   v2_1 (show 0 ≤ v2_1.toInt from r12) (show v2_1.toInt ≤ 10 from t13) w11 H.size hT ) (cwV 1 hC.2.2.2.2 uV_RX0_34 rfl rfl rfl (by decide +kernel) ⟨Nat.le_of_ble_eq_true rfl, Nat.le_of_ble_eq_true rfl⟩) rfl hl.1 rfl (Nat.le_of_ble_eq_true rfl) dX0_refreshAll_26 (fun w19 H locs hp18 hw => ?_)
        obtain ⟨hT, k20, hv22, hg21⟩ := hp18
        have hF := hF.tr k20 (by decide)
        have c23 := k20.gi kC_at38 (by decide) c16
        clear hg21
        replace hM := hM.call hv22 rfl
        exact J29 f24_38_8 H locs ls w19 (show 0 ≤ v2_1.toInt from r12) (show v2_1.toInt ≤ 10 from t13) (show 0 ≤ f24_38_8.toInt from r14) (show f24_38_8.toInt ≤ 4 from t15)  hw hT hF c23 hM (lv_sub hl [0, 1] rfl)
      replace hM := hM.suc (fun _ => e_X0_refreshAll_2)
      refine lv_iload_n hx hb dX0_refreshAll_2 rfl (lv_at hl 1 rfl) ?_
      refine lv_bipush (v := 11) hx hb dX0_refreshAll_3 (by decide) ?_
      refine lv_icmp_ge (tgt := 35) hx hb dX0_refreshAll_5 (by decide) (fun c24 => ?_) (fun c24 => ?_)
      · have c24 : (11 : Int) ≤ v2_1.toInt := wk_le.mp c24
        replace hM := hM.pos c24
        exact tk_vret hC hr hlocks hK ⟨hT, hF, hM.ret rfl, trivial⟩ hw dX0_refreshAll_35
      · have c24 : v2_1.toInt < (11 : Int) := wk_leF c24
        replace hM := hM.neg (Int.not_le.mpr c24)
        refine lv_iload_n hx hb dX0_refreshAll_8 rfl (lv_at hl 1 rfl) ?_
        refine lv_aload_n hx hb dX0_refreshAll_9 rfl (lv_at hl 0 rfl) ?_
        refine tk_getA hC hK hw hT hinX0 kC_at145 (by decide) rfl 0 (by decide) (List.mem_cons_of_mem _ uw_4_17) rfl rfl dX0_refreshAll_10 ?_
        refine tk_geti hC hK hw hT hinX5 kC_at38 (by decide) rfl 8 (by decide) (List.mem_cons_of_mem _ uw_41_17) rfl rfl dX0_refreshAll_13 (fun x25 c26 rx25 tx25 => ?_)
        replace hM := hM.rd (sI_at c26)
        refine lv_icmp_lt (tgt := 24) hx hb dX0_refreshAll_16 (by decide) (fun c27 => ?_) (fun c27 => ?_)
        · have c27 : v2_1.toInt < x25.toInt := wk_lt.mp c27
          replace hM := hM.pos c27
          exact J24 x25 H locs ls w1 (show 0 ≤ v2_1.toInt from r2) (show v2_1.toInt ≤ 10 by first | with_reducible assumption | omega) (show 0 ≤ x25.toInt from rx25) (show x25.toInt ≤ 4 from tx25)  hw hT hF c26 hM (lv_sub hl [0, 1] rfl)
        · have c27 : x25.toInt ≤ v2_1.toInt := wk_ltF c27
          replace hM := hM.neg (Int.not_lt.mpr c27)
          refine lv_iload_n hx hb dX0_refreshAll_19 rfl (lv_at hl 1 rfl) ?_
          refine lv_iconst (v := 4) hx hb dX0_refreshAll_20 (by decide) ?_
          refine lv_icmp_lt (tgt := 29) hx hb dX0_refreshAll_21 (by decide) (fun c28 => ?_) (fun c28 => ?_)
          · have c28 : v2_1.toInt < (4 : Int) := wk_lt.mp c28
            replace hM := hM.pos c28
            exact J29 x25 H locs ls w1 (show 0 ≤ v2_1.toInt from r2) (show v2_1.toInt ≤ 10 by first | with_reducible assumption | omega) (show 0 ≤ x25.toInt from rx25) (show x25.toInt ≤ 4 from tx25)  hw hT hF c26 hM (lv_sub hl [0, 1] rfl)
          · have c28 : (4 : Int) ≤ v2_1.toInt := wk_ltF c28
            replace hM := hM.neg (Int.not_lt.mpr c28)
            exact J24 x25 H locs ls w1 (show 0 ≤ v2_1.toInt from r2) (show v2_1.toInt ≤ 10 by first | with_reducible assumption | omega) (show 0 ≤ x25.toInt from rx25) (show x25.toInt ≤ 4 from tx25)  hw hT hF c26 hM (lv_sub hl [0, 1] rfl)
  have hM : TT (fun n => m_X0_refreshAll n 145 (sI w0)) (fun n => m_X0_refreshAll n 145 (sI w0)) := TT.rf
  refine lv_iconst (v := 0) hx hb dX0_refreshAll_0 (by decide) ?_
  refine lv_istore_n (lv' := [(1, .int 0), (0, .ref (ad 145))]) hx hb dX0_refreshAll_1 rfl hl (by decide) rfl (fun ls hl => ?_)
  exact L2 ((11 - (0 : Int)).toNat + 1) 0 s.heap locs ls w0 (by decide) (by decide) (Nat.lt_succ_self _) hw hT hF hM (lv_sub hl [1, 0] rfl)
