abbrev Py_X1_follow_2 (ad : Nat → Nat) (cy : Nat → ClassId) (B : Int) (qr : Nat) (s1 : Int)  (w0 : va_W) : va_W → Prop := fun u => TW ksC ad cy B qr s1 u ∧ FE ksC ([] : List (Nat × Nat × Nat)) w0 u ∧ Ev (fun n => m_X1_follow n 149 152 (-1) (sL w0)) (0, sL u) ∧ ((True))
set_option maxHeartbeats 4000000 in
set_option maxRecDepth 100000 in
theorem ky_X1_follow_2 (l : Launch) (adK adV : Nat → Nat) (dC : Nat → ClassId) (dI : Nat → Nat → Nat) (cy : Nat → ClassId) (ad : Nat → Nat) (B : Int) (hB0 : 2147483648 ≤ B) (hB1 : B ≤ 1152921504606846976) (qr : Nat) (s1 : Int)   (w0 : va_W) (sz : Nat) (hT : TW ksC ad cy B qr s1 w0)  : Met l yX1_follow (wu yX1_follow cX1_follow 4 none) ({ frames := 1, cells := 0, slots := 0, locals := 12 }) (va_Pc [.ref (ad 149), .ref (ad 152), .int (-1)] (wpreS adK adV dC dI cy sz w0)) (va_Qv (Py_X1_follow_2 ad cy B qr s1  w0) (fun u : va_W => wpost dC dI cy (va_A w0 sz) u) (va_A w0 sz)) 0 0 (va_A w0 sz) := by
  refine Met.ofW (cc := cX1_follow) (maxL := 4) (ret := none) (by decide) rfl ?_
  intro p e s m args below meth c s₁ Bk hml hv
  obtain ⟨rfl, ⟨hsz, hP, hK, hD0⟩, hE, hSR⟩ := hv
  have hx := Bk.exec
  have hb := Bk.bytes
  have hr := Bk.returns
  have hlocks := Bk.notSynchronized
  have hC : CallFix p m c cX1_follow 4 s _ (wu yX1_follow cX1_follow 4 none) RX1 := ⟨hx, hb, hml, findClass_of_methodNamed Bk.named, atoms_spec (ws := (wu yX1_follow cX1_follow 4 none)) Bk.pre⟩
  subst hsz
  have hD := hD0.self (sz := s.heap.size)
  generalize hAe : va_A w0 s.heap.size = A at hD hE ⊢
  have hA : ∀ q : Nat, s.heap.size ≤ q → A q := fun q h => by rw [← hAe]; exact Or.inr h
  have hw : Wd dC dI A s.heap s.heap [] w0 := ⟨hP, hD, va_S.rf⟩
  have hF : FE ksC ([] : List (Nat × Nat × Nat)) w0 w0 := FE.rf
  have hl := lv_entry ([.ref (ad 149), .ref (ad 152), .int (-1)]) (n := 4) (Nat.le_of_ble_eq_true rfl)
  rw [lg_entry_eq]
  generalize (lg_sl ([.ref (ad 149), .ref (ad 152), .int (-1)]) ++ List.replicate (4 - (lg_sl ([.ref (ad 149), .ref (ad 152), .int (-1)])).length) Slot.unset).toArray = ls at hl ⊢
  have hl : lv_has ls 4 [(0, .ref (ad 149)), (1, .ref (ad 152)), (2, .int (-1))] := hl
  generalize hloc : ([] : List Loc) = locs at hw ⊢
  have hM : TT (fun n => m_X1_follow n 149 152 (-1) (sL w0)) (fun n => m_X1_follow n 149 152 (-1) (sL w0)) := TT.rf
  refine lv_iload_n hx hb dX1_follow_0 rfl (lv_at hl 2 rfl) ?_
  refine lv_iconst (v := (-1)) hx hb dX1_follow_1 (by decide) ?_
  refine lv_icmp_ne (tgt := 6) hx hb dX1_follow_2 (by decide) (fun c => absurd (by decide) c) (fun _ => ?_)
  replace hM := hM.neg (by decide)
  exact tk_vret hC hr hlocks hK ⟨hT, hF, hM.ret rfl, trivial⟩ hw dX1_follow_5
abbrev Py_X1_lookAround_2 (ad : Nat → Nat) (cy : Nat → ClassId) (B : Int) (qr : Nat) (s1 : Int)  (w0 : va_W) : va_W → Prop := fun u => TW ksC ad cy B qr s1 u ∧ FE ksC [(1, 5, 5), (1, 6, 6), (1, 7, 7), (1, 8, 8)] w0 u ∧ Ev (fun n => m_X1_lookAround n 149 152 1 (sL w0)) (0, sL u) ∧ (((∃ y : Int32, gi u 149 8 = y ∧ 0 ≤ y.toInt ∧ y.toInt ≤ 999999)))
set_option maxHeartbeats 4000000 in
set_option maxRecDepth 100000 in
theorem ky_X1_lookAround_2 (l : Launch) (adK adV : Nat → Nat) (dC : Nat → ClassId) (dI : Nat → Nat → Nat) (cy : Nat → ClassId) (ad : Nat → Nat) (B : Int) (hB0 : 2147483648 ≤ B) (hB1 : B ≤ 1152921504606846976) (qr : Nat) (s1 : Int)   (w0 : va_W) (sz : Nat) (hT : TW ksC ad cy B qr s1 w0)  : Met l yX1_lookAround (wu yX1_lookAround cX1_lookAround 5 none) ({ frames := 4, cells := 0, slots := 0, locals := 88 }) (va_Pc [.ref (ad 149), .ref (ad 152), .int 1] (wpreS adK adV dC dI cy sz w0)) (va_Qv (Py_X1_lookAround_2 ad cy B qr s1  w0) (fun u : va_W => wpost dC dI cy (va_A w0 sz) u) (va_A w0 sz)) 0 0 (va_A w0 sz) := by
  refine Met.ofW (cc := cX1_lookAround) (maxL := 5) (ret := none) (by decide) rfl ?_
  intro p e s m args below meth c s₁ Bk hml hv
  obtain ⟨rfl, ⟨hsz, hP, hK, hD0⟩, hE, hSR⟩ := hv
  have hx := Bk.exec
  have hb := Bk.bytes
  have hr := Bk.returns
  have hlocks := Bk.notSynchronized
  have hC : CallFix p m c cX1_lookAround 5 s _ (wu yX1_lookAround cX1_lookAround 5 none) RX1 := ⟨hx, hb, hml, findClass_of_methodNamed Bk.named, atoms_spec (ws := (wu yX1_lookAround cX1_lookAround 5 none)) Bk.pre⟩
  subst hsz
  have hD := hD0.self (sz := s.heap.size)
  generalize hAe : va_A w0 s.heap.size = A at hD hE ⊢
  have hA : ∀ q : Nat, s.heap.size ≤ q → A q := fun q h => by rw [← hAe]; exact Or.inr h
  have hw : Wd dC dI A s.heap s.heap [] w0 := ⟨hP, hD, va_S.rf⟩
  have hF : FE ksC [(1, 5, 5), (1, 6, 6), (1, 7, 7), (1, 8, 8)] w0 w0 := FE.rf
  have hl := lv_entry ([.ref (ad 149), .ref (ad 152), .int 1]) (n := 5) (Nat.le_of_ble_eq_true rfl)
  rw [lg_entry_eq]
  generalize (lg_sl ([.ref (ad 149), .ref (ad 152), .int 1]) ++ List.replicate (5 - (lg_sl ([.ref (ad 149), .ref (ad 152), .int 1])).length) Slot.unset).toArray = ls at hl ⊢
  have hl : lv_has ls 5 [(0, .ref (ad 149)), (1, .ref (ad 152)), (2, .int 1)] := hl
  generalize hloc : ([] : List Loc) = locs at hw ⊢
  have hinX1 : ∀ w ∈ u_ws RX1 TX1 10, w ∈ (wu yX1_lookAround cX1_lookAround 5 none) := fun _ h => List.mem_cons_of_mem _ (up_78 h)
  have hinX5 : ∀ w ∈ u_ws RX5 TX5 14, w ∈ (wu yX1_lookAround cX1_lookAround 5 none) := fun _ h => List.mem_cons_of_mem _ (up_76 h)
  have hinX7 : ∀ w ∈ u_ws RX7 TX7 12, w ∈ (wu yX1_lookAround cX1_lookAround 5 none) := fun _ h => List.mem_cons_of_mem _ (up_73 h)
  have hinX9 : ∀ w ∈ u_ws RX9 TX9 9, w ∈ (wu yX1_lookAround cX1_lookAround 5 none) := fun _ h => List.mem_cons_of_mem _ (up_82 h)
  have J159 : ∀ (v159_3 : Int32) (v159_4 : Int32) (f159_149_5 : Int32) (f159_149_6 : Int32) (f159_149_7 : Int32) (f159_149_8 : Int32) (f159_152_0 : Int32) (f159_152_1 : Int32) (H : Heap) (locs : List Loc) (ls : Array Slot) (w1 : va_W), 0 ≤ v159_3.toInt → v159_3.toInt ≤ 10 → 0 ≤ v159_4.toInt → v159_4.toInt ≤ 12 → (-1) ≤ f159_149_5.toInt → f159_149_5.toInt ≤ 11 → 0 ≤ f159_149_6.toInt → f159_149_6.toInt ≤ 1 → (-1) ≤ f159_149_7.toInt → f159_149_7.toInt ≤ 11 → 0 ≤ f159_149_8.toInt → f159_149_8.toInt ≤ 999999 → 0 ≤ f159_152_0.toInt → f159_152_0.toInt ≤ 9 → 0 ≤ f159_152_1.toInt → f159_152_1.toInt ≤ 9 → Wd dC dI A s.heap H locs w1 → TW ksC ad cy B qr s1 w1 → FE ksC [(1, 5, 5), (1, 6, 6), (1, 7, 7), (1, 8, 8)] w0 w1 → gi w1 149 5 = f159_149_5 → gi w1 149 6 = f159_149_6 → gi w1 149 7 = f159_149_7 → gi w1 149 8 = f159_149_8 → gi w1 152 0 = f159_152_0 → gi w1 152 1 = f159_152_1 → TT (fun n => m_X1_lookAround n 149 152 1 (sL w0)) (fun n => b_X1_lookAround_159 (j_X1_lookAround 149 152 n) n 149 152 (sL w1)) → lv_has ls 5 [(0, .ref (ad 149)), (1, .ref (ad 152)), (2, .int 1), (3, .int v159_3), (4, .int v159_4)] → W p l e ({ frames := 4, cells := 0, slots := 0, locals := 88 }) s m (List.toArray [.ref (ad 149), .ref (ad 152), .int 1]) below meth c H locs 0 0 (MQ below (va_Qv (Py_X1_lookAround_2 ad cy B qr s1  w0) (fun u : va_W => wpost dC dI cy A u) A) (List.toArray [.ref (ad 149), .ref (ad 152), .int 1]) s 0 0 A) (F0 m 159 ls []) := by
    intro v159_3 v159_4 f159_149_5 f159_149_6 f159_149_7 f159_149_8 f159_152_0 f159_152_1 H locs ls w1 r2 t3 r4 t5 r6 t7 r9 t10 r12 t13 r15 t16 r18 t19 r21 t22 hw hT hF c8 c11 c14 c17 c20 c23 hM hl
    exact tk_vret hC hr hlocks hK ⟨hT, hF, hM.ret rfl, ⟨f159_149_8, c17, (show 0 ≤ f159_149_8.toInt from r15), (show f159_149_8.toInt ≤ 999999 from t16)⟩⟩ hw dX1_lookAround_159
  have L110 : ∀ (n110 : Nat) (v110_3 : Int32) (v110_4 : Int32) (f110_149_5 : Int32) (f110_149_6 : Int32) (f110_149_7 : Int32) (f110_149_8 : Int32) (f110_152_0 : Int32) (f110_152_1 : Int32) (H : Heap) (locs : List Loc) (ls : Array Slot) (w24 : va_W), 0 ≤ v110_3.toInt → v110_3.toInt ≤ 10 → 0 ≤ v110_4.toInt → v110_4.toInt ≤ 12 → (-1) ≤ f110_149_5.toInt → f110_149_5.toInt ≤ 11 → 0 ≤ f110_149_6.toInt → f110_149_6.toInt ≤ 1 → (-1) ≤ f110_149_7.toInt → f110_149_7.toInt ≤ 11 → 0 ≤ f110_149_8.toInt → f110_149_8.toInt ≤ 999999 → 0 ≤ f110_152_0.toInt → f110_152_0.toInt ≤ 9 → 0 ≤ f110_152_1.toInt → f110_152_1.toInt ≤ 9 → (12 - v110_4.toInt).toNat < n110 → Wd dC dI A s.heap H locs w24 → TW ksC ad cy B qr s1 w24 → FE ksC [(1, 5, 5), (1, 6, 6), (1, 7, 7), (1, 8, 8)] w0 w24 → gi w24 149 5 = f110_149_5 → gi w24 149 6 = f110_149_6 → gi w24 149 7 = f110_149_7 → gi w24 149 8 = f110_149_8 → gi w24 152 0 = f110_152_0 → gi w24 152 1 = f110_152_1 → TT (fun n => m_X1_lookAround n 149 152 1 (sL w0)) (fun n => j_X1_lookAround 149 152 n 110 [(1 : Int), v110_4.toInt] (sL w24)) → lv_has ls 5 [(0, .ref (ad 149)), (1, .ref (ad 152)), (2, .int 1), (3, .int v110_3), (4, .int v110_4)] → W p l e ({ frames := 4, cells := 0, slots := 0, locals := 88 }) s m (List.toArray [.ref (ad 149), .ref (ad 152), .int 1]) below meth c H locs 0 0 (MQ below (va_Qv (Py_X1_lookAround_2 ad cy B qr s1  w0) (fun u : va_W => wpost dC dI cy A u) A) (List.toArray [.ref (ad 149), .ref (ad 152), .int 1]) s 0 0 A) (F0 m 110 ls []) := by
    intro n110
    induction n110 with
    | zero => intro v110_3 v110_4 f110_149_5 f110_149_6 f110_149_7 f110_149_8 f110_152_0 f110_152_1 H locs ls w24 r25 t26 r27 t28 r29 t30 r32 t33 r35 t36 r38 t39 r41 t42 r44 t45 hm110 hw hT hF c31 c34 c37 c40 c43 c46 hM hl; omega
    | succ n110 ih110 =>
      intro v110_3 v110_4 f110_149_5 f110_149_6 f110_149_7 f110_149_8 f110_152_0 f110_152_1 H locs ls w24 r25 t26 r27 t28 r29 t30 r32 t33 r35 t36 r38 t39 r41 t42 r44 t45 hm110 hw hT hF c31 c34 c37 c40 c43 c46 hM hl
      have J153 : ∀ (f153_149_7 : Int32) (f153_39_9 : Int32) (H : Heap) (locs : List Loc) (ls : Array Slot) (w47 : va_W), 0 ≤ v110_3.toInt → v110_3.toInt ≤ 10 → 0 ≤ v110_4.toInt → v110_4.toInt ≤ 11 → (-1) ≤ f110_149_5.toInt → f110_149_5.toInt ≤ 11 → 0 ≤ f110_149_6.toInt → f110_149_6.toInt ≤ 1 → (-1) ≤ f153_149_7.toInt → f153_149_7.toInt ≤ 11 → 0 ≤ f110_149_8.toInt → f110_149_8.toInt ≤ 999999 → 0 ≤ f110_152_0.toInt → f110_152_0.toInt ≤ 9 → 0 ≤ f110_152_1.toInt → f110_152_1.toInt ≤ 9 → 1 ≤ f153_39_9.toInt → f153_39_9.toInt ≤ 12 → Wd dC dI A s.heap H locs w47 → TW ksC ad cy B qr s1 w47 → FE ksC [(1, 5, 5), (1, 6, 6), (1, 7, 7), (1, 8, 8)] w0 w47 → gi w47 149 5 = f110_149_5 → gi w47 149 6 = f110_149_6 → gi w47 149 7 = f153_149_7 → gi w47 149 8 = f110_149_8 → gi w47 152 0 = f110_152_0 → gi w47 152 1 = f110_152_1 → gi w47 39 9 = f153_39_9 → TT (fun n => m_X1_lookAround n 149 152 1 (sL w0)) (fun n => b_X1_lookAround_153 (j_X1_lookAround 149 152 n) n 149 152 (1 : Int) (v110_4.toInt) (sL w47)) → lv_has ls 5 [(0, .ref (ad 149)), (1, .ref (ad 152)), (2, .int 1), (3, .int v110_3), (4, .int v110_4)] → W p l e ({ frames := 4, cells := 0, slots := 0, locals := 88 }) s m (List.toArray [.ref (ad 149), .ref (ad 152), .int 1]) below meth c H locs 0 0 (MQ below (va_Qv (Py_X1_lookAround_2 ad cy B qr s1  w0) (fun u : va_W => wpost dC dI cy A u) A) (List.toArray [.ref (ad 149), .ref (ad 152), .int 1]) s 0 0 A) (F0 m 153 ls []) := by
        intro f153_149_7 f153_39_9 H locs ls w47 r48 t49 r50 t51 r52 t53 r55 t56 r58 t59 r61 t62 r64 t65 r67 t68 r70 t71 hw hT hF c54 c57 c60 c63 c66 c69 c72 hM hl
        obtain ⟨x73, ex73⟩ : ∃ y : Int32, y = v110_4 + Int32.ofInt 1 := ⟨_, rfl⟩
        have erx73 := ex73
        refine lv_iinc (v := x73) (lv' := [(4, .int x73), (0, .ref (ad 149)), (1, .ref (ad 152)), (2, .int 1), (3, .int v110_3)]) hx hb dX1_lookAround_153 hl (k := 4) rfl ex73.symm (by decide) rfl (fun ls hl => ?_)
        have ex73 : x73.toInt = v110_4.toInt + 1 := by rw [ex73]; exact wk_add (y := 1) (show -2147483648 ≤ v110_4.toInt + 1 by omega) (show v110_4.toInt + 1 ≤ 2147483647 by omega)
        replace hM := hM.lt ex73.symm
        refine lv_goto (tgt := 110) hx hb dX1_lookAround_156 (by decide) ?_
        exact ih110 v110_3 x73 f110_149_5 f110_149_6 f153_149_7 f110_149_8 f110_152_0 f110_152_1 H locs ls w47 (show 0 ≤ v110_3.toInt from r48) (show v110_3.toInt ≤ 10 from t49) (show 0 ≤ x73.toInt by first | with_reducible assumption | omega) (show x73.toInt ≤ 12 by first | with_reducible assumption | omega) (show (-1) ≤ f110_149_5.toInt from r52) (show f110_149_5.toInt ≤ 11 from t53) (show 0 ≤ f110_149_6.toInt from r55) (show f110_149_6.toInt ≤ 1 from t56) (show (-1) ≤ f153_149_7.toInt from r58) (show f153_149_7.toInt ≤ 11 from t59) (show 0 ≤ f110_149_8.toInt from r61) (show f110_149_8.toInt ≤ 999999 from t62) (show 0 ≤ f110_152_0.toInt from r64) (show f110_152_0.toInt ≤ 9 from t65) (show 0 ≤ f110_152_1.toInt from r67) (show f110_152_1.toInt ≤ 9 from t68) (show (12 - x73.toInt).toNat < n110 by first | exact tn_lt hm110 (by omega) (by omega) | omega) hw hT hF c54 c57 c60 c63 c66 c69 hM (lv_sub hl [1, 2, 3, 4, 0] rfl)
      replace hM := hM.suc (fun _ => e_X1_lookAround_110)
      refine lv_iload_n hx hb dX1_lookAround_110 rfl (lv_at hl 2 rfl) ?_
      refine lv_if_eq (tgt := 159) hx hb dX1_lookAround_111 (by decide) (fun c => absurd c (by decide)) (fun _ => ?_)
      replace hM := hM.neg (by decide)
      refine lv_aload_n hx hb dX1_lookAround_114 rfl (lv_at hl 0 rfl) ?_
      refine tk_geti hC hK hw hT hinX1 kC_at149 (by decide) rfl 7 (by decide) (List.mem_cons_of_mem _ uw_42_7) rfl rfl dX1_lookAround_115 (fun x74 c75 rx74 tx74 => ?_)
      refine wk_top f110_149_7 (c75.symm.trans c37) ?_
      replace hM := hM.rd (sL_at (kC_lt kC_at149) c37)
      refine lv_iconst (v := (-1)) hx hb dX1_lookAround_118 (by decide) ?_
      refine lv_icmp_ne (tgt := 159) hx hb dX1_lookAround_119 (by decide) (fun c76 => ?_) (fun c76 => ?_)
      · have c76 : ¬ f110_149_7.toInt = (-1 : Int) := wk_eqF c76
        replace hM := hM.pos c76
        exact J159 v110_3 v110_4 f110_149_5 f110_149_6 f110_149_7 f110_149_8 f110_152_0 f110_152_1 H locs ls w24 (show 0 ≤ v110_3.toInt from r25) (show v110_3.toInt ≤ 10 from t26) (show 0 ≤ v110_4.toInt from r27) (show v110_4.toInt ≤ 12 from t28) (show (-1) ≤ f110_149_5.toInt from r29) (show f110_149_5.toInt ≤ 11 from t30) (show 0 ≤ f110_149_6.toInt from r32) (show f110_149_6.toInt ≤ 1 from t33) (show (-1) ≤ f110_149_7.toInt from r35) (show f110_149_7.toInt ≤ 11 from t36) (show 0 ≤ f110_149_8.toInt from r38) (show f110_149_8.toInt ≤ 999999 from t39) (show 0 ≤ f110_152_0.toInt from r41) (show f110_152_0.toInt ≤ 9 from t42) (show 0 ≤ f110_152_1.toInt from r44) (show f110_152_1.toInt ≤ 9 from t45)  hw hT hF c31 c34 c37 c40 c43 c46 hM (lv_sub hl [0, 1, 2, 3, 4] rfl)
      · have c76 : f110_149_7.toInt = (-1 : Int) := wk_eq.mp c76
        replace hM := hM.neg (fun q => q c76)
        refine lv_iload hx hb dX1_lookAround_122 (lv_at hl 4 rfl) ?_
        refine lv_aload_n hx hb dX1_lookAround_124 rfl (lv_at hl 0 rfl) ?_
        refine tk_getA hC hK hw hT hinX1 kC_at149 (by decide) rfl 0 (by decide) (List.mem_cons_of_mem _ uw_5_0) rfl rfl dX1_lookAround_125 ?_
        refine tk_getO hC hK hw hT hinX5 kC_at38 (by decide) rfl 0 (by decide) (List.mem_cons_of_mem _ uw_43_2) rfl rfl dX1_lookAround_128 ?_
        refine tk_geti hC hK hw hT hinX7 kC_at39 (by decide) rfl 9 (by decide) (List.mem_cons_of_mem _ uw_43_3) rfl rfl dX1_lookAround_131 (fun x77 c78 rx77 tx77 => ?_)
        replace hM := hM.rd (sL_at (kC_lt kC_at39) c78)
        refine lv_icmp_ge (tgt := 159) hx hb dX1_lookAround_134 (by decide) (fun c79 => ?_) (fun c79 => ?_)
        · have c79 : x77.toInt ≤ v110_4.toInt := wk_le.mp c79
          replace hM := hM.pos c79
          exact J159 v110_3 v110_4 f110_149_5 f110_149_6 f110_149_7 f110_149_8 f110_152_0 f110_152_1 H locs ls w24 (show 0 ≤ v110_3.toInt from r25) (show v110_3.toInt ≤ 10 from t26) (show 0 ≤ v110_4.toInt from r27) (show v110_4.toInt ≤ 12 from t28) (show (-1) ≤ f110_149_5.toInt from r29) (show f110_149_5.toInt ≤ 11 from t30) (show 0 ≤ f110_149_6.toInt from r32) (show f110_149_6.toInt ≤ 1 from t33) (show (-1) ≤ f110_149_7.toInt from r35) (show f110_149_7.toInt ≤ 11 from t36) (show 0 ≤ f110_149_8.toInt from r38) (show f110_149_8.toInt ≤ 999999 from t39) (show 0 ≤ f110_152_0.toInt from r41) (show f110_152_0.toInt ≤ 9 from t42) (show 0 ≤ f110_152_1.toInt from r44) (show f110_152_1.toInt ≤ 9 from t45)  hw hT hF c31 c34 c37 c40 c43 c46 hM (lv_sub hl [0, 1, 2, 3, 4] rfl)
        · have c79 : v110_4.toInt < x77.toInt := wk_leF c79
          replace hM := hM.neg (Int.not_le.mpr c79)
          refine lv_aload_n hx hb dX1_lookAround_137 rfl (lv_at hl 0 rfl) ?_
          refine lv_aload_n hx hb dX1_lookAround_138 rfl (lv_at hl 1 rfl) ?_
          refine lv_iload hx hb dX1_lookAround_139 (lv_at hl 4 rfl) ?_
          refine tk_Vi hC hK hw hT hA hE hSR kC_at149 (by decide) rfl (ky_X1_isOpenFor_1 l adK adV dC dI cy ad B hB0 (Int.le_trans hB1 (by decide)) qr s1   v110_4 (show 0 ≤ v110_4.toInt from r27) (show v110_4.toInt ≤ 11 by first | with_reducible assumption | omega) w24 H.size hT ) (cwV 2 hC.2.2.2.2 uV_RX1_110 rfl rfl rfl (by decide +kernel) ⟨Nat.le_of_ble_eq_true rfl, Nat.le_of_ble_eq_true rfl⟩) rfl hl.1 rfl (Nat.le_of_ble_eq_true rfl) dX1_lookAround_141 (fun r80 w82 H locs hp81 hw => ?_)
          obtain ⟨hT, k83, hv87, hg86⟩ := hp81
          have hF := hF.tr k83 (by decide)
          have c88 := k83.gi kC_at149 (by decide) c31
          have c89 := k83.gi kC_at149 (by decide) c34
          have c90 := k83.gi kC_at149 (by decide) c37
          have c91 := k83.gi kC_at149 (by decide) c40
          have c92 := k83.gi kC_at152 (by decide) c43
          have c93 := k83.gi kC_at152 (by decide) c46
          have c94 := k83.gi kC_at39 (by decide) c78
          rcases hg86 with rfl | ⟨rfl, ⟨x84, c85, rx84, tx84⟩⟩
          · replace hM := hM.call (r' := 0) hv87 (by decide)
            refine lv_if_eq (tgt := 153) hx hb dX1_lookAround_144 (by decide) (fun _ => ?_) (fun c => absurd (by decide) c)
            replace hM := hM.pos (by decide)
            exact J153 f110_149_7 x77 H locs ls w82 (show 0 ≤ v110_3.toInt from r25) (show v110_3.toInt ≤ 10 from t26) (show 0 ≤ v110_4.toInt from r27) (show v110_4.toInt ≤ 11 by first | with_reducible assumption | omega) (show (-1) ≤ f110_149_5.toInt from r29) (show f110_149_5.toInt ≤ 11 from t30) (show 0 ≤ f110_149_6.toInt from r32) (show f110_149_6.toInt ≤ 1 from t33) (show (-1) ≤ f110_149_7.toInt from r35) (show f110_149_7.toInt ≤ 11 from t36) (show 0 ≤ f110_149_8.toInt from r38) (show f110_149_8.toInt ≤ 999999 from t39) (show 0 ≤ f110_152_0.toInt from r41) (show f110_152_0.toInt ≤ 9 from t42) (show 0 ≤ f110_152_1.toInt from r44) (show f110_152_1.toInt ≤ 9 from t45) (show 1 ≤ x77.toInt by first | with_reducible assumption | omega) (show x77.toInt ≤ 12 from tx77)  hw hT hF c88 c89 c90 c91 c92 c93 c94 hM (lv_sub hl [0, 1, 2, 3, 4] rfl)
          · replace hM := hM.call (r' := 1) hv87 (by decide)
            refine lv_if_eq (tgt := 153) hx hb dX1_lookAround_144 (by decide) (fun c => absurd c (by decide)) (fun _ => ?_)
            replace hM := hM.neg (by decide)
            refine lv_aload_n hx hb dX1_lookAround_147 rfl (lv_at hl 0 rfl) ?_
            refine lv_iload hx hb dX1_lookAround_148 (lv_at hl 4 rfl) ?_
            have hTq := hT
            refine tk_puti hC hK hw hT hinX1 tyX1_ok nmX1 kC_at149 (by decide) rfl rfl 7 (by decide) (List.mem_cons_of_mem _ uw_42_7) rfl rfl rfl rfl (show (-1) ≤ v110_4.toInt from Int.le_trans (by decide) r27) (show v110_4.toInt ≤ 11 by first | with_reducible assumption | omega) dX1_lookAround_150 (fun H locs w95 hw hT k97 c96 => ?_)
            replace hM := hM.wr (sL_upf hTq hT kC_at149 (kC_lt kC_at149) (by decide) rfl k97 c96 rfl)
            have hF := hF.put kC_at149 (k := 7) (by decide) k97
            have c98 := k97.gi (Or.inr (by decide)) c88
            have c99 := k97.gi (Or.inr (by decide)) c89
            have c100 := k97.gi (Or.inr (by decide)) c91
            have c101 := k97.gi (Or.inr (by decide)) c92
            have c102 := k97.gi (Or.inr (by decide)) c93
            have c103 := k97.gi (Or.inr (by decide)) c94
            have c104 := k97.gi (Or.inr (by decide)) c85
            exact J153 v110_4 x77 H locs ls w95 (show 0 ≤ v110_3.toInt from r25) (show v110_3.toInt ≤ 10 from t26) (show 0 ≤ v110_4.toInt from r27) (show v110_4.toInt ≤ 11 by first | with_reducible assumption | omega) (show (-1) ≤ f110_149_5.toInt from r29) (show f110_149_5.toInt ≤ 11 from t30) (show 0 ≤ f110_149_6.toInt from r32) (show f110_149_6.toInt ≤ 1 from t33) (show (-1) ≤ v110_4.toInt from Int.le_trans (by decide) r27) (show v110_4.toInt ≤ 11 by first | with_reducible assumption | omega) (show 0 ≤ f110_149_8.toInt from r38) (show f110_149_8.toInt ≤ 999999 from t39) (show 0 ≤ f110_152_0.toInt from r41) (show f110_152_0.toInt ≤ 9 from t42) (show 0 ≤ f110_152_1.toInt from r44) (show f110_152_1.toInt ≤ 9 from t45) (show 1 ≤ x77.toInt by first | with_reducible assumption | omega) (show x77.toInt ≤ 12 from tx77)  hw hT hF c98 c99 c96 c100 c101 c102 c103 hM (lv_sub hl [0, 1, 2, 3, 4] rfl)
  have J24 : ∀ (H : Heap) (locs : List Loc) (ls : Array Slot) (w105 : va_W), Wd dC dI A s.heap H locs w105 → TW ksC ad cy B qr s1 w105 → FE ksC [(1, 5, 5), (1, 6, 6), (1, 7, 7), (1, 8, 8)] w0 w105 → TT (fun n => m_X1_lookAround n 149 152 1 (sL w0)) (fun n => b_X1_lookAround_24 (j_X1_lookAround 149 152 n) n 149 152 (1 : Int) (sL w105)) → lv_has ls 5 [(0, .ref (ad 149)), (1, .ref (ad 152)), (2, .int 1)] → W p l e ({ frames := 4, cells := 0, slots := 0, locals := 88 }) s m (List.toArray [.ref (ad 149), .ref (ad 152), .int 1]) below meth c H locs 0 0 (MQ below (va_Qv (Py_X1_lookAround_2 ad cy B qr s1  w0) (fun u : va_W => wpost dC dI cy A u) A) (List.toArray [.ref (ad 149), .ref (ad 152), .int 1]) s 0 0 A) (F0 m 24 ls []) := by
    intro H locs ls w105 hw hT hF hM hl
    refine lv_aload_n hx hb dX1_lookAround_24 rfl (lv_at hl 1 rfl) ?_
    refine tk_geti hC hK hw hT hinX9 kC_at152 (by decide) rfl 2 (by decide) (List.mem_cons_of_mem _ uw_42_21) rfl rfl dX1_lookAround_25 (fun x106 c107 rx106 tx106 => ?_)
    replace hM := hM.rd (sL_at (kC_lt kC_at152) c107)
    refine lv_istore_n (lv' := [(3, .int x106), (0, .ref (ad 149)), (1, .ref (ad 152)), (2, .int 1)]) hx hb dX1_lookAround_28 rfl hl (by decide) rfl (fun ls hl => ?_)
    refine lv_aload_n hx hb dX1_lookAround_29 rfl (lv_at hl 1 rfl) ?_
    refine lv_aload_n hx hb dX1_lookAround_30 rfl (lv_at hl 1 rfl) ?_
    refine tk_getA hC hK hw hT hinX1 kC_at149 (by decide) rfl 1 (by decide) (List.mem_cons_of_mem _ uw_5_1) rfl rfl dX1_lookAround_31 ?_
    refine lv_iload_n hx hb dX1_lookAround_34 rfl (lv_at hl 0 rfl) ?_
    refine lv_aload_n hx hb dX1_lookAround_35 rfl (lv_at hl 2 rfl) ?_
    refine tk_geti hC hK hw hT hinX9 kC_at152 (by decide) rfl 0 (by decide) (List.mem_cons_of_mem _ uw_42_22) rfl rfl dX1_lookAround_36 (fun x108 c109 rx108 tx108 => ?_)
    replace hM := hM.rd (sL_at (kC_lt kC_at152) c109)
    refine lv_aload_n hx hb dX1_lookAround_39 rfl (lv_at hl 2 rfl) ?_
    refine tk_geti hC hK hw hT hinX9 kC_at152 (by decide) rfl 1 (by decide) (List.mem_cons_of_mem _ uw_42_23) rfl rfl dX1_lookAround_40 (fun x110 c111 rx110 tx110 => ?_)
    replace hM := hM.rd (sL_at (kC_lt kC_at152) c111)
    refine tk_Vi hC hK hw hT hA hE hSR kC_at145 (by decide) rfl (ky_X0_streetBy_1 l adK adV dC dI cy ad B hB0 (Int.le_trans hB1 (by decide)) qr s1   x106 (show 0 ≤ x106.toInt from rx106) (show x106.toInt ≤ 3 from tx106) x108 (show 0 ≤ x108.toInt from rx108) (show x108.toInt ≤ 9 from tx108) x110 (show 0 ≤ x110.toInt from rx110) (show x110.toInt ≤ 9 from tx110) w105 H.size hT ) (cwV 3 hC.2.2.2.2 uV_RX1_106 rfl rfl rfl (by decide +kernel) ⟨Nat.le_of_ble_eq_true rfl, Nat.le_of_ble_eq_true rfl⟩) rfl hl.1 rfl (Nat.le_of_ble_eq_true rfl) dX1_lookAround_43 (fun r112 w114 H locs hp113 hw => ?_)
    obtain ⟨hT, k115, hv119, hg118⟩ := hp113
    have hF := hF.tr k115 (by decide)
    have c120 := k115.gi kC_at152 (by decide) c107
    have c121 := k115.gi kC_at152 (by decide) c109
    have c122 := k115.gi kC_at152 (by decide) c111
    obtain ⟨g116, g117⟩ := hg118
    replace hM := hM.call hv119 rfl
    have hTq := hT
    refine tk_puti hC hK hw hT hinX1 tyX1_ok nmX1 kC_at149 (by decide) rfl rfl 5 (by decide) (List.mem_cons_of_mem _ uw_42_6) rfl rfl rfl rfl (show (-1) ≤ r112.toInt by first | with_reducible assumption | omega) (show r112.toInt ≤ 11 by first | with_reducible assumption | omega) dX1_lookAround_46 (fun H locs w123 hw hT k125 c124 => ?_)
    replace hM := hM.wr (sL_upf hTq hT kC_at149 (kC_lt kC_at149) (by decide) rfl k125 c124 rfl)
    have hF := hF.put kC_at149 (k := 5) (by decide) k125
    have c126 := k125.gi (Or.inr (by decide)) c120
    have c127 := k125.gi (Or.inr (by decide)) c121
    have c128 := k125.gi (Or.inr (by decide)) c122
    refine lv_aload_n hx hb dX1_lookAround_49 rfl (lv_at hl 1 rfl) ?_
    refine lv_aload_n hx hb dX1_lookAround_50 rfl (lv_at hl 1 rfl) ?_
    refine tk_geti hC hK hw hT hinX1 kC_at149 (by decide) rfl 5 (by decide) (List.mem_cons_of_mem _ uw_42_6) rfl rfl dX1_lookAround_51 (fun x129 c130 rx129 tx129 => ?_)
    refine wk_top r112 (c130.symm.trans c124) ?_
    replace hM := hM.rd (sL_at (kC_lt kC_at149) c124)
    refine lv_iconst (v := (-1)) hx hb dX1_lookAround_54 (by decide) ?_
    refine lv_icmp_eq (tgt := 74) hx hb dX1_lookAround_55 (by decide) (fun c131 => ?_) (fun c131 => ?_)
    · have c131 : r112.toInt = (-1 : Int) := wk_eq.mp c131
      replace hM := hM.pos c131
      refine lv_iconst (v := 0) hx hb dX1_lookAround_74 (by decide) ?_
      have hTq := hT
      refine tk_putz hC hK hw hT hinX1 tyX1_ok nmX1 kC_at149 (by decide) rfl rfl 6 (by decide) (List.mem_cons_of_mem _ uw_42_5) rfl rfl rfl rfl (by decide) (by decide) dX1_lookAround_75 (fun H locs w132 hw hT k134 c133 => ?_)
      replace hM := hM.wr (sL_upf hTq hT kC_at149 (kC_lt kC_at149) (by decide) rfl k134 c133 (by decide))
      have hF := hF.put kC_at149 (k := 6) (by decide) k134
      have c135 := k134.gi (Or.inr (by decide)) c126
      have c136 := k134.gi (Or.inr (by decide)) c127
      have c137 := k134.gi (Or.inr (by decide)) c128
      have c138 := k134.gi (Or.inr (by decide)) c124
      refine lv_aload_n hx hb dX1_lookAround_78 rfl (lv_at hl 1 rfl) ?_
      refine lv_iconst (v := 0) hx hb dX1_lookAround_79 (by decide) ?_
      refine lv_aload_n hx hb dX1_lookAround_80 rfl (lv_at hl 1 rfl) ?_
      refine tk_getA hC hK hw hT hinX1 kC_at149 (by decide) rfl 1 (by decide) (List.mem_cons_of_mem _ uw_5_1) rfl rfl dX1_lookAround_81 ?_
      refine lv_iload_n hx hb dX1_lookAround_84 rfl (lv_at hl 0 rfl) ?_
      refine lv_aload_n hx hb dX1_lookAround_85 rfl (lv_at hl 2 rfl) ?_
      refine tk_geti hC hK hw hT hinX9 kC_at152 (by decide) rfl 0 (by decide) (List.mem_cons_of_mem _ uw_42_22) rfl rfl dX1_lookAround_86 (fun x139 c140 rx139 tx139 => ?_)
      refine wk_top x108 (c140.symm.trans c136) ?_
      replace hM := hM.rd (sL_at (kC_lt kC_at152) c136)
      refine lv_aload_n hx hb dX1_lookAround_89 rfl (lv_at hl 2 rfl) ?_
      refine tk_geti hC hK hw hT hinX9 kC_at152 (by decide) rfl 1 (by decide) (List.mem_cons_of_mem _ uw_42_23) rfl rfl dX1_lookAround_90 (fun x141 c142 rx141 tx141 => ?_)
      refine wk_top x110 (c142.symm.trans c137) ?_
      replace hM := hM.rd (sL_at (kC_lt kC_at152) c137)
      refine tk_Vi hC hK hw hT hA hE hSR kC_at145 (by decide) rfl (ky_X0_hoursBy_1 l adK adV dC dI cy ad B hB0 (Int.le_trans hB1 (by decide)) qr s1   x106 (show 0 ≤ x106.toInt from rx106) (show x106.toInt ≤ 3 from tx106) x108 (show 0 ≤ x108.toInt from rx108) (show x108.toInt ≤ 9 from tx108) x110 (show 0 ≤ x110.toInt from rx110) (show x110.toInt ≤ 9 from tx110) w132 H.size hT ) (cwV 3 hC.2.2.2.2 uV_RX1_114 rfl rfl rfl (by decide +kernel) ⟨Nat.le_of_ble_eq_true rfl, Nat.le_of_ble_eq_true rfl⟩) rfl hl.1 rfl (Nat.le_of_ble_eq_true rfl) dX1_lookAround_93 (fun r143 w145 H locs hp144 hw => ?_)
      obtain ⟨hT, k146, hv150, hg149⟩ := hp144
      have hF := hF.tr k146 (by decide)
      have c151 := k146.gi kC_at152 (by decide) c135
      have c152 := k146.gi kC_at152 (by decide) c136
      have c153 := k146.gi kC_at152 (by decide) c137
      have c154 := k146.gi kC_at149 (by decide) c138
      have c155 := k146.gi kC_at149 (by decide) c133
      rcases hg149 with ⟨g147, g148⟩ | rfl
      · replace hM := hM.call hv150 rfl
        refine va_mmax hx hb (hC.2.2.1.trans hl.1.symm) hC.2.2.2.1 (hC.2.2.2.2 _ (List.mem_cons_of_mem _ uw_43_0)) (hC.2.2.2.2 _ (List.mem_cons_of_mem _ uw_14_15)) (hC.2.2.2.2 _ (List.mem_cons_of_mem _ uw_14_16)) (hC.2.2.2.2 _ (List.mem_cons_of_mem _ uw_14_17)) (Nat.le_of_ble_eq_true rfl) (Nat.le_of_ble_eq_true rfl) (Nat.zero_le _) (Nat.zero_le _) dX1_lookAround_96 ?_
        refine lv_topi (fun x156 ex156 => ?_)
        have bx156 : (x156.toInt = (0 : Int) ∧ r143.toInt ≤ (0 : Int)) ∨ (x156.toInt = r143.toInt ∧ (0 : Int) < r143.toInt) := by rw [ex156]; exact wk_max
        replace hM := hM.lt (mMax_e bx156)
        have hTq := hT
        refine tk_puti hC hK hw hT hinX1 tyX1_ok nmX1 kC_at149 (by decide) rfl rfl 8 (by decide) (List.mem_cons_of_mem _ uw_43_1) rfl rfl rfl rfl (wk_i32 x156).1 (wk_i32 x156).2 dX1_lookAround_99 (fun H locs w157 hw hT k159 c158 => ?_)
        replace hM := hM.wr (sL_upf hTq hT kC_at149 (kC_lt kC_at149) (by decide) rfl k159 c158 rfl)
        have hF := hF.put kC_at149 (k := 8) (by decide) k159
        have c160 := k159.gi (Or.inr (by decide)) c151
        have c161 := k159.gi (Or.inr (by decide)) c152
        have c162 := k159.gi (Or.inr (by decide)) c153
        have c163 := k159.gi (Or.inr (by decide)) c154
        have c164 := k159.gi (Or.inr (by decide)) c155
        refine lv_aload_n hx hb dX1_lookAround_102 rfl (lv_at hl 1 rfl) ?_
        refine lv_iconst (v := (-1)) hx hb dX1_lookAround_103 (by decide) ?_
        have hTq := hT
        refine tk_puti hC hK hw hT hinX1 tyX1_ok nmX1 kC_at149 (by decide) rfl rfl 7 (by decide) (List.mem_cons_of_mem _ uw_42_7) rfl rfl rfl rfl (by decide) (by decide) dX1_lookAround_104 (fun H locs w165 hw hT k167 c166 => ?_)
        replace hM := hM.wr (sL_upf hTq hT kC_at149 (kC_lt kC_at149) (by decide) rfl k167 c166 (by decide))
        have hF := hF.put kC_at149 (k := 7) (by decide) k167
        have c168 := k167.gi (Or.inr (by decide)) c160
        have c169 := k167.gi (Or.inr (by decide)) c161
        have c170 := k167.gi (Or.inr (by decide)) c162
        have c171 := k167.gi (Or.inr (by decide)) c163
        have c172 := k167.gi (Or.inr (by decide)) c164
        have c173 := k167.gi (Or.inr (by decide)) c158
        refine lv_iconst (v := 0) hx hb dX1_lookAround_107 (by decide) ?_
        refine lv_istore (lv' := [(4, .int 0), (3, .int x106), (0, .ref (ad 149)), (1, .ref (ad 152)), (2, .int 1)]) hx hb dX1_lookAround_108 hl (by decide) rfl (fun ls hl => ?_)
        exact L110 ((12 - (0 : Int)).toNat + 1) x106 0 r112 0 (-1) x156 x108 x110 H locs ls w165 (show 0 ≤ x106.toInt from rx106) (show x106.toInt ≤ 10 from Int.le_trans tx106 (by decide)) (by decide) (by decide) (show (-1) ≤ r112.toInt by first | with_reducible assumption | omega) (show r112.toInt ≤ 11 by first | with_reducible assumption | omega) (by decide) (by decide) (by decide) (by decide) (show 0 ≤ x156.toInt by first | with_reducible assumption | omega) (show x156.toInt ≤ 999999 by first | with_reducible assumption | omega) (show 0 ≤ x108.toInt from rx108) (show x108.toInt ≤ 9 from tx108) (show 0 ≤ x110.toInt from rx110) (show x110.toInt ≤ 9 from tx110) (Nat.lt_succ_self _) hw hT hF c171 c172 c166 c173 c169 c170 hM (lv_sub hl [2, 3, 4, 1, 0] rfl)
      · replace hM := hM.call (r' := (-1)) hv150 (by decide)
        refine va_mmax hx hb (hC.2.2.1.trans hl.1.symm) hC.2.2.2.1 (hC.2.2.2.2 _ (List.mem_cons_of_mem _ uw_43_0)) (hC.2.2.2.2 _ (List.mem_cons_of_mem _ uw_14_15)) (hC.2.2.2.2 _ (List.mem_cons_of_mem _ uw_14_16)) (hC.2.2.2.2 _ (List.mem_cons_of_mem _ uw_14_17)) (Nat.le_of_ble_eq_true rfl) (Nat.le_of_ble_eq_true rfl) (Nat.zero_le _) (Nat.zero_le _) dX1_lookAround_96 ?_
        refine lv_topi (fun x174 ex174 => ?_)
        have bx174 : (x174.toInt = (0 : Int) ∧ (-1 : Int) ≤ (0 : Int)) ∨ (x174.toInt = (-1 : Int) ∧ (0 : Int) < (-1 : Int)) := by rw [ex174]; exact wk_max
        replace hM := hM.lt (mMax_e bx174)
        have hTq := hT
        refine tk_puti hC hK hw hT hinX1 tyX1_ok nmX1 kC_at149 (by decide) rfl rfl 8 (by decide) (List.mem_cons_of_mem _ uw_43_1) rfl rfl rfl rfl (wk_i32 x174).1 (wk_i32 x174).2 dX1_lookAround_99 (fun H locs w175 hw hT k177 c176 => ?_)
        replace hM := hM.wr (sL_upf hTq hT kC_at149 (kC_lt kC_at149) (by decide) rfl k177 c176 rfl)
        have hF := hF.put kC_at149 (k := 8) (by decide) k177
        have c178 := k177.gi (Or.inr (by decide)) c151
        have c179 := k177.gi (Or.inr (by decide)) c152
        have c180 := k177.gi (Or.inr (by decide)) c153
        have c181 := k177.gi (Or.inr (by decide)) c154
        have c182 := k177.gi (Or.inr (by decide)) c155
        refine lv_aload_n hx hb dX1_lookAround_102 rfl (lv_at hl 1 rfl) ?_
        refine lv_iconst (v := (-1)) hx hb dX1_lookAround_103 (by decide) ?_
        have hTq := hT
        refine tk_puti hC hK hw hT hinX1 tyX1_ok nmX1 kC_at149 (by decide) rfl rfl 7 (by decide) (List.mem_cons_of_mem _ uw_42_7) rfl rfl rfl rfl (by decide) (by decide) dX1_lookAround_104 (fun H locs w183 hw hT k185 c184 => ?_)
        replace hM := hM.wr (sL_upf hTq hT kC_at149 (kC_lt kC_at149) (by decide) rfl k185 c184 (by decide))
        have hF := hF.put kC_at149 (k := 7) (by decide) k185
        have c186 := k185.gi (Or.inr (by decide)) c178
        have c187 := k185.gi (Or.inr (by decide)) c179
        have c188 := k185.gi (Or.inr (by decide)) c180
        have c189 := k185.gi (Or.inr (by decide)) c181
        have c190 := k185.gi (Or.inr (by decide)) c182
        have c191 := k185.gi (Or.inr (by decide)) c176
        refine lv_iconst (v := 0) hx hb dX1_lookAround_107 (by decide) ?_
        refine lv_istore (lv' := [(4, .int 0), (3, .int x106), (0, .ref (ad 149)), (1, .ref (ad 152)), (2, .int 1)]) hx hb dX1_lookAround_108 hl (by decide) rfl (fun ls hl => ?_)
        exact L110 ((12 - (0 : Int)).toNat + 1) x106 0 r112 0 (-1) x174 x108 x110 H locs ls w183 (show 0 ≤ x106.toInt from rx106) (show x106.toInt ≤ 10 from Int.le_trans tx106 (by decide)) (by decide) (by decide) (show (-1) ≤ r112.toInt by first | with_reducible assumption | omega) (show r112.toInt ≤ 11 by first | with_reducible assumption | omega) (by decide) (by decide) (by decide) (by decide) (show 0 ≤ x174.toInt by first | with_reducible assumption | omega) (show x174.toInt ≤ 999999 by first | with_reducible assumption | omega) (show 0 ≤ x108.toInt from rx108) (show x108.toInt ≤ 9 from tx108) (show 0 ≤ x110.toInt from rx110) (show x110.toInt ≤ 9 from tx110) (Nat.lt_succ_self _) hw hT hF c189 c190 c184 c191 c187 c188 hM (lv_sub hl [2, 3, 4, 1, 0] rfl)
    · have c131 : ¬ r112.toInt = (-1 : Int) := wk_eqF c131
      replace hM := hM.neg c131
      refine lv_aload_n hx hb dX1_lookAround_58 rfl (lv_at hl 1 rfl) ?_
      refine lv_aload_n hx hb dX1_lookAround_59 rfl (lv_at hl 2 rfl) ?_
      refine lv_aload_n hx hb dX1_lookAround_60 rfl (lv_at hl 1 rfl) ?_
      refine tk_geti hC hK hw hT hinX1 kC_at149 (by decide) rfl 5 (by decide) (List.mem_cons_of_mem _ uw_42_6) rfl rfl dX1_lookAround_61 (fun x192 c193 rx192 tx192 => ?_)
      refine wk_top r112 (c193.symm.trans c124) ?_
      replace hM := hM.rd (sL_at (kC_lt kC_at149) c124)
      refine tk_Vi hC hK hw hT hA hE hSR kC_at149 (by decide) rfl (ky_X1_isOpenFor_1 l adK adV dC dI cy ad B hB0 (Int.le_trans hB1 (by decide)) qr s1   r112 (show 0 ≤ r112.toInt by first | with_reducible assumption | omega) (show r112.toInt ≤ 11 by first | with_reducible assumption | omega) w123 H.size hT ) (cwV 2 hC.2.2.2.2 uV_RX1_110 rfl rfl rfl (by decide +kernel) ⟨Nat.le_of_ble_eq_true rfl, Nat.le_of_ble_eq_true rfl⟩) rfl hl.1 rfl (Nat.le_of_ble_eq_true rfl) dX1_lookAround_64 (fun r194 w196 H locs hp195 hw => ?_)
      obtain ⟨hT, k197, hv201, hg200⟩ := hp195
      have hF := hF.tr k197 (by decide)
      have c202 := k197.gi kC_at152 (by decide) c126
      have c203 := k197.gi kC_at152 (by decide) c127
      have c204 := k197.gi kC_at152 (by decide) c128
      have c205 := k197.gi kC_at149 (by decide) c124
      rcases hg200 with rfl | ⟨rfl, ⟨x198, c199, rx198, tx198⟩⟩
      · replace hM := hM.call (r' := 0) hv201 (by decide)
        refine lv_if_eq (tgt := 74) hx hb dX1_lookAround_67 (by decide) (fun _ => ?_) (fun c => absurd (by decide) c)
        replace hM := hM.pos (by decide)
        refine lv_iconst (v := 0) hx hb dX1_lookAround_74 (by decide) ?_
        have hTq := hT
        refine tk_putz hC hK hw hT hinX1 tyX1_ok nmX1 kC_at149 (by decide) rfl rfl 6 (by decide) (List.mem_cons_of_mem _ uw_42_5) rfl rfl rfl rfl (by decide) (by decide) dX1_lookAround_75 (fun H locs w206 hw hT k208 c207 => ?_)
        replace hM := hM.wr (sL_upf hTq hT kC_at149 (kC_lt kC_at149) (by decide) rfl k208 c207 (by decide))
        have hF := hF.put kC_at149 (k := 6) (by decide) k208
        have c209 := k208.gi (Or.inr (by decide)) c202
        have c210 := k208.gi (Or.inr (by decide)) c203
        have c211 := k208.gi (Or.inr (by decide)) c204
        have c212 := k208.gi (Or.inr (by decide)) c205
        refine lv_aload_n hx hb dX1_lookAround_78 rfl (lv_at hl 1 rfl) ?_
        refine lv_iconst (v := 0) hx hb dX1_lookAround_79 (by decide) ?_
        refine lv_aload_n hx hb dX1_lookAround_80 rfl (lv_at hl 1 rfl) ?_
        refine tk_getA hC hK hw hT hinX1 kC_at149 (by decide) rfl 1 (by decide) (List.mem_cons_of_mem _ uw_5_1) rfl rfl dX1_lookAround_81 ?_
        refine lv_iload_n hx hb dX1_lookAround_84 rfl (lv_at hl 0 rfl) ?_
        refine lv_aload_n hx hb dX1_lookAround_85 rfl (lv_at hl 2 rfl) ?_
        refine tk_geti hC hK hw hT hinX9 kC_at152 (by decide) rfl 0 (by decide) (List.mem_cons_of_mem _ uw_42_22) rfl rfl dX1_lookAround_86 (fun x213 c214 rx213 tx213 => ?_)
        refine wk_top x108 (c214.symm.trans c210) ?_
        replace hM := hM.rd (sL_at (kC_lt kC_at152) c210)
        refine lv_aload_n hx hb dX1_lookAround_89 rfl (lv_at hl 2 rfl) ?_
        refine tk_geti hC hK hw hT hinX9 kC_at152 (by decide) rfl 1 (by decide) (List.mem_cons_of_mem _ uw_42_23) rfl rfl dX1_lookAround_90 (fun x215 c216 rx215 tx215 => ?_)
        refine wk_top x110 (c216.symm.trans c211) ?_
        replace hM := hM.rd (sL_at (kC_lt kC_at152) c211)
        refine tk_Vi hC hK hw hT hA hE hSR kC_at145 (by decide) rfl (ky_X0_hoursBy_1 l adK adV dC dI cy ad B hB0 (Int.le_trans hB1 (by decide)) qr s1   x106 (show 0 ≤ x106.toInt from rx106) (show x106.toInt ≤ 3 from tx106) x108 (show 0 ≤ x108.toInt from rx108) (show x108.toInt ≤ 9 from tx108) x110 (show 0 ≤ x110.toInt from rx110) (show x110.toInt ≤ 9 from tx110) w206 H.size hT ) (cwV 3 hC.2.2.2.2 uV_RX1_114 rfl rfl rfl (by decide +kernel) ⟨Nat.le_of_ble_eq_true rfl, Nat.le_of_ble_eq_true rfl⟩) rfl hl.1 rfl (Nat.le_of_ble_eq_true rfl) dX1_lookAround_93 (fun r217 w219 H locs hp218 hw => ?_)
        obtain ⟨hT, k220, hv224, hg223⟩ := hp218
        have hF := hF.tr k220 (by decide)
        have c225 := k220.gi kC_at152 (by decide) c209
        have c226 := k220.gi kC_at152 (by decide) c210
        have c227 := k220.gi kC_at152 (by decide) c211
        have c228 := k220.gi kC_at149 (by decide) c212
        have c229 := k220.gi kC_at149 (by decide) c207
        rcases hg223 with ⟨g221, g222⟩ | rfl
        · replace hM := hM.call hv224 rfl
          refine va_mmax hx hb (hC.2.2.1.trans hl.1.symm) hC.2.2.2.1 (hC.2.2.2.2 _ (List.mem_cons_of_mem _ uw_43_0)) (hC.2.2.2.2 _ (List.mem_cons_of_mem _ uw_14_15)) (hC.2.2.2.2 _ (List.mem_cons_of_mem _ uw_14_16)) (hC.2.2.2.2 _ (List.mem_cons_of_mem _ uw_14_17)) (Nat.le_of_ble_eq_true rfl) (Nat.le_of_ble_eq_true rfl) (Nat.zero_le _) (Nat.zero_le _) dX1_lookAround_96 ?_
          refine lv_topi (fun x230 ex230 => ?_)
          have bx230 : (x230.toInt = (0 : Int) ∧ r217.toInt ≤ (0 : Int)) ∨ (x230.toInt = r217.toInt ∧ (0 : Int) < r217.toInt) := by rw [ex230]; exact wk_max
          replace hM := hM.lt (mMax_e bx230)
          have hTq := hT
          refine tk_puti hC hK hw hT hinX1 tyX1_ok nmX1 kC_at149 (by decide) rfl rfl 8 (by decide) (List.mem_cons_of_mem _ uw_43_1) rfl rfl rfl rfl (wk_i32 x230).1 (wk_i32 x230).2 dX1_lookAround_99 (fun H locs w231 hw hT k233 c232 => ?_)
          replace hM := hM.wr (sL_upf hTq hT kC_at149 (kC_lt kC_at149) (by decide) rfl k233 c232 rfl)
          have hF := hF.put kC_at149 (k := 8) (by decide) k233
          have c234 := k233.gi (Or.inr (by decide)) c225
          have c235 := k233.gi (Or.inr (by decide)) c226
          have c236 := k233.gi (Or.inr (by decide)) c227
          have c237 := k233.gi (Or.inr (by decide)) c228
          have c238 := k233.gi (Or.inr (by decide)) c229
          refine lv_aload_n hx hb dX1_lookAround_102 rfl (lv_at hl 1 rfl) ?_
          refine lv_iconst (v := (-1)) hx hb dX1_lookAround_103 (by decide) ?_
          have hTq := hT
          refine tk_puti hC hK hw hT hinX1 tyX1_ok nmX1 kC_at149 (by decide) rfl rfl 7 (by decide) (List.mem_cons_of_mem _ uw_42_7) rfl rfl rfl rfl (by decide) (by decide) dX1_lookAround_104 (fun H locs w239 hw hT k241 c240 => ?_)
          replace hM := hM.wr (sL_upf hTq hT kC_at149 (kC_lt kC_at149) (by decide) rfl k241 c240 (by decide))
          have hF := hF.put kC_at149 (k := 7) (by decide) k241
          have c242 := k241.gi (Or.inr (by decide)) c234
          have c243 := k241.gi (Or.inr (by decide)) c235
          have c244 := k241.gi (Or.inr (by decide)) c236
          have c245 := k241.gi (Or.inr (by decide)) c237
          have c246 := k241.gi (Or.inr (by decide)) c238
          have c247 := k241.gi (Or.inr (by decide)) c232
          refine lv_iconst (v := 0) hx hb dX1_lookAround_107 (by decide) ?_
          refine lv_istore (lv' := [(4, .int 0), (3, .int x106), (0, .ref (ad 149)), (1, .ref (ad 152)), (2, .int 1)]) hx hb dX1_lookAround_108 hl (by decide) rfl (fun ls hl => ?_)
          exact L110 ((12 - (0 : Int)).toNat + 1) x106 0 r112 0 (-1) x230 x108 x110 H locs ls w239 (show 0 ≤ x106.toInt from rx106) (show x106.toInt ≤ 10 from Int.le_trans tx106 (by decide)) (by decide) (by decide) (show (-1) ≤ r112.toInt by first | with_reducible assumption | omega) (show r112.toInt ≤ 11 by first | with_reducible assumption | omega) (by decide) (by decide) (by decide) (by decide) (show 0 ≤ x230.toInt by first | with_reducible assumption | omega) (show x230.toInt ≤ 999999 by first | with_reducible assumption | omega) (show 0 ≤ x108.toInt from rx108) (show x108.toInt ≤ 9 from tx108) (show 0 ≤ x110.toInt from rx110) (show x110.toInt ≤ 9 from tx110) (Nat.lt_succ_self _) hw hT hF c245 c246 c240 c247 c243 c244 hM (lv_sub hl [2, 3, 4, 1, 0] rfl)
        · replace hM := hM.call (r' := (-1)) hv224 (by decide)
          refine va_mmax hx hb (hC.2.2.1.trans hl.1.symm) hC.2.2.2.1 (hC.2.2.2.2 _ (List.mem_cons_of_mem _ uw_43_0)) (hC.2.2.2.2 _ (List.mem_cons_of_mem _ uw_14_15)) (hC.2.2.2.2 _ (List.mem_cons_of_mem _ uw_14_16)) (hC.2.2.2.2 _ (List.mem_cons_of_mem _ uw_14_17)) (Nat.le_of_ble_eq_true rfl) (Nat.le_of_ble_eq_true rfl) (Nat.zero_le _) (Nat.zero_le _) dX1_lookAround_96 ?_
          refine lv_topi (fun x248 ex248 => ?_)
          have bx248 : (x248.toInt = (0 : Int) ∧ (-1 : Int) ≤ (0 : Int)) ∨ (x248.toInt = (-1 : Int) ∧ (0 : Int) < (-1 : Int)) := by rw [ex248]; exact wk_max
          replace hM := hM.lt (mMax_e bx248)
          have hTq := hT
          refine tk_puti hC hK hw hT hinX1 tyX1_ok nmX1 kC_at149 (by decide) rfl rfl 8 (by decide) (List.mem_cons_of_mem _ uw_43_1) rfl rfl rfl rfl (wk_i32 x248).1 (wk_i32 x248).2 dX1_lookAround_99 (fun H locs w249 hw hT k251 c250 => ?_)
          replace hM := hM.wr (sL_upf hTq hT kC_at149 (kC_lt kC_at149) (by decide) rfl k251 c250 rfl)
          have hF := hF.put kC_at149 (k := 8) (by decide) k251
          have c252 := k251.gi (Or.inr (by decide)) c225
          have c253 := k251.gi (Or.inr (by decide)) c226
          have c254 := k251.gi (Or.inr (by decide)) c227
          have c255 := k251.gi (Or.inr (by decide)) c228
          have c256 := k251.gi (Or.inr (by decide)) c229
          refine lv_aload_n hx hb dX1_lookAround_102 rfl (lv_at hl 1 rfl) ?_
          refine lv_iconst (v := (-1)) hx hb dX1_lookAround_103 (by decide) ?_
          have hTq := hT
          refine tk_puti hC hK hw hT hinX1 tyX1_ok nmX1 kC_at149 (by decide) rfl rfl 7 (by decide) (List.mem_cons_of_mem _ uw_42_7) rfl rfl rfl rfl (by decide) (by decide) dX1_lookAround_104 (fun H locs w257 hw hT k259 c258 => ?_)
          replace hM := hM.wr (sL_upf hTq hT kC_at149 (kC_lt kC_at149) (by decide) rfl k259 c258 (by decide))
          have hF := hF.put kC_at149 (k := 7) (by decide) k259
          have c260 := k259.gi (Or.inr (by decide)) c252
          have c261 := k259.gi (Or.inr (by decide)) c253
          have c262 := k259.gi (Or.inr (by decide)) c254
          have c263 := k259.gi (Or.inr (by decide)) c255
          have c264 := k259.gi (Or.inr (by decide)) c256
          have c265 := k259.gi (Or.inr (by decide)) c250
          refine lv_iconst (v := 0) hx hb dX1_lookAround_107 (by decide) ?_
          refine lv_istore (lv' := [(4, .int 0), (3, .int x106), (0, .ref (ad 149)), (1, .ref (ad 152)), (2, .int 1)]) hx hb dX1_lookAround_108 hl (by decide) rfl (fun ls hl => ?_)
          exact L110 ((12 - (0 : Int)).toNat + 1) x106 0 r112 0 (-1) x248 x108 x110 H locs ls w257 (show 0 ≤ x106.toInt from rx106) (show x106.toInt ≤ 10 from Int.le_trans tx106 (by decide)) (by decide) (by decide) (show (-1) ≤ r112.toInt by first | with_reducible assumption | omega) (show r112.toInt ≤ 11 by first | with_reducible assumption | omega) (by decide) (by decide) (by decide) (by decide) (show 0 ≤ x248.toInt by first | with_reducible assumption | omega) (show x248.toInt ≤ 999999 by first | with_reducible assumption | omega) (show 0 ≤ x108.toInt from rx108) (show x108.toInt ≤ 9 from tx108) (show 0 ≤ x110.toInt from rx110) (show x110.toInt ≤ 9 from tx110) (Nat.lt_succ_self _) hw hT hF c263 c264 c258 c265 c261 c262 hM (lv_sub hl [2, 3, 4, 1, 0] rfl)
      · replace hM := hM.call (r' := 1) hv201 (by decide)
        refine lv_if_eq (tgt := 74) hx hb dX1_lookAround_67 (by decide) (fun c => absurd c (by decide)) (fun _ => ?_)
        replace hM := hM.neg (by decide)
        refine lv_iconst (v := 1) hx hb dX1_lookAround_70 (by decide) ?_
        refine lv_goto (tgt := 75) hx hb dX1_lookAround_71 (by decide) ?_
        have hTq := hT
        refine tk_putz hC hK hw hT hinX1 tyX1_ok nmX1 kC_at149 (by decide) rfl rfl 6 (by decide) (List.mem_cons_of_mem _ uw_42_5) rfl rfl rfl rfl (by decide) (by decide) dX1_lookAround_75 (fun H locs w266 hw hT k268 c267 => ?_)
        replace hM := hM.wr (sL_upf hTq hT kC_at149 (kC_lt kC_at149) (by decide) rfl k268 c267 (by decide))
        have hF := hF.put kC_at149 (k := 6) (by decide) k268
        have c269 := k268.gi (Or.inr (by decide)) c202
        have c270 := k268.gi (Or.inr (by decide)) c203
        have c271 := k268.gi (Or.inr (by decide)) c204
        have c272 := k268.gi (Or.inr (by decide)) c205
        have c273 := k268.gi (Or.inr (by decide)) c199
        refine lv_aload_n hx hb dX1_lookAround_78 rfl (lv_at hl 1 rfl) ?_
        refine lv_iconst (v := 0) hx hb dX1_lookAround_79 (by decide) ?_
        refine lv_aload_n hx hb dX1_lookAround_80 rfl (lv_at hl 1 rfl) ?_
        refine tk_getA hC hK hw hT hinX1 kC_at149 (by decide) rfl 1 (by decide) (List.mem_cons_of_mem _ uw_5_1) rfl rfl dX1_lookAround_81 ?_
        refine lv_iload_n hx hb dX1_lookAround_84 rfl (lv_at hl 0 rfl) ?_
        refine lv_aload_n hx hb dX1_lookAround_85 rfl (lv_at hl 2 rfl) ?_
        refine tk_geti hC hK hw hT hinX9 kC_at152 (by decide) rfl 0 (by decide) (List.mem_cons_of_mem _ uw_42_22) rfl rfl dX1_lookAround_86 (fun x274 c275 rx274 tx274 => ?_)
        refine wk_top x108 (c275.symm.trans c270) ?_
        replace hM := hM.rd (sL_at (kC_lt kC_at152) c270)
        refine lv_aload_n hx hb dX1_lookAround_89 rfl (lv_at hl 2 rfl) ?_
        refine tk_geti hC hK hw hT hinX9 kC_at152 (by decide) rfl 1 (by decide) (List.mem_cons_of_mem _ uw_42_23) rfl rfl dX1_lookAround_90 (fun x276 c277 rx276 tx276 => ?_)
        refine wk_top x110 (c277.symm.trans c271) ?_
        replace hM := hM.rd (sL_at (kC_lt kC_at152) c271)
        refine tk_Vi hC hK hw hT hA hE hSR kC_at145 (by decide) rfl (ky_X0_hoursBy_1 l adK adV dC dI cy ad B hB0 (Int.le_trans hB1 (by decide)) qr s1   x106 (show 0 ≤ x106.toInt from rx106) (show x106.toInt ≤ 3 from tx106) x108 (show 0 ≤ x108.toInt from rx108) (show x108.toInt ≤ 9 from tx108) x110 (show 0 ≤ x110.toInt from rx110) (show x110.toInt ≤ 9 from tx110) w266 H.size hT ) (cwV 3 hC.2.2.2.2 uV_RX1_114 rfl rfl rfl (by decide +kernel) ⟨Nat.le_of_ble_eq_true rfl, Nat.le_of_ble_eq_true rfl⟩) rfl hl.1 rfl (Nat.le_of_ble_eq_true rfl) dX1_lookAround_93 (fun r278 w280 H locs hp279 hw => ?_)
        obtain ⟨hT, k281, hv285, hg284⟩ := hp279
        have hF := hF.tr k281 (by decide)
        have c286 := k281.gi kC_at152 (by decide) c269
        have c287 := k281.gi kC_at152 (by decide) c270
        have c288 := k281.gi kC_at152 (by decide) c271
        have c289 := k281.gi kC_at149 (by decide) c272
        have c290 := k281.gi kC_at149 (by decide) c273
        have c291 := k281.gi kC_at149 (by decide) c267
        rcases hg284 with ⟨g282, g283⟩ | rfl
        · replace hM := hM.call hv285 rfl
          refine va_mmax hx hb (hC.2.2.1.trans hl.1.symm) hC.2.2.2.1 (hC.2.2.2.2 _ (List.mem_cons_of_mem _ uw_43_0)) (hC.2.2.2.2 _ (List.mem_cons_of_mem _ uw_14_15)) (hC.2.2.2.2 _ (List.mem_cons_of_mem _ uw_14_16)) (hC.2.2.2.2 _ (List.mem_cons_of_mem _ uw_14_17)) (Nat.le_of_ble_eq_true rfl) (Nat.le_of_ble_eq_true rfl) (Nat.zero_le _) (Nat.zero_le _) dX1_lookAround_96 ?_
          refine lv_topi (fun x292 ex292 => ?_)
          have bx292 : (x292.toInt = (0 : Int) ∧ r278.toInt ≤ (0 : Int)) ∨ (x292.toInt = r278.toInt ∧ (0 : Int) < r278.toInt) := by rw [ex292]; exact wk_max
          replace hM := hM.lt (mMax_e bx292)
          have hTq := hT
          refine tk_puti hC hK hw hT hinX1 tyX1_ok nmX1 kC_at149 (by decide) rfl rfl 8 (by decide) (List.mem_cons_of_mem _ uw_43_1) rfl rfl rfl rfl (wk_i32 x292).1 (wk_i32 x292).2 dX1_lookAround_99 (fun H locs w293 hw hT k295 c294 => ?_)
          replace hM := hM.wr (sL_upf hTq hT kC_at149 (kC_lt kC_at149) (by decide) rfl k295 c294 rfl)
          have hF := hF.put kC_at149 (k := 8) (by decide) k295
          have c296 := k295.gi (Or.inr (by decide)) c286
          have c297 := k295.gi (Or.inr (by decide)) c287
          have c298 := k295.gi (Or.inr (by decide)) c288
          have c299 := k295.gi (Or.inr (by decide)) c289
          have c300 := k295.gi (Or.inr (by decide)) c290
          have c301 := k295.gi (Or.inr (by decide)) c291
          refine lv_aload_n hx hb dX1_lookAround_102 rfl (lv_at hl 1 rfl) ?_
          refine lv_iconst (v := (-1)) hx hb dX1_lookAround_103 (by decide) ?_
          have hTq := hT
          refine tk_puti hC hK hw hT hinX1 tyX1_ok nmX1 kC_at149 (by decide) rfl rfl 7 (by decide) (List.mem_cons_of_mem _ uw_42_7) rfl rfl rfl rfl (by decide) (by decide) dX1_lookAround_104 (fun H locs w302 hw hT k304 c303 => ?_)
          replace hM := hM.wr (sL_upf hTq hT kC_at149 (kC_lt kC_at149) (by decide) rfl k304 c303 (by decide))
          have hF := hF.put kC_at149 (k := 7) (by decide) k304
          have c305 := k304.gi (Or.inr (by decide)) c296
          have c306 := k304.gi (Or.inr (by decide)) c297
          have c307 := k304.gi (Or.inr (by decide)) c298
          have c308 := k304.gi (Or.inr (by decide)) c299
          have c309 := k304.gi (Or.inr (by decide)) c300
          have c310 := k304.gi (Or.inr (by decide)) c301
          have c311 := k304.gi (Or.inr (by decide)) c294
          refine lv_iconst (v := 0) hx hb dX1_lookAround_107 (by decide) ?_
          refine lv_istore (lv' := [(4, .int 0), (3, .int x106), (0, .ref (ad 149)), (1, .ref (ad 152)), (2, .int 1)]) hx hb dX1_lookAround_108 hl (by decide) rfl (fun ls hl => ?_)
          exact L110 ((12 - (0 : Int)).toNat + 1) x106 0 r112 1 (-1) x292 x108 x110 H locs ls w302 (show 0 ≤ x106.toInt from rx106) (show x106.toInt ≤ 10 from Int.le_trans tx106 (by decide)) (by decide) (by decide) (show (-1) ≤ r112.toInt by first | with_reducible assumption | omega) (show r112.toInt ≤ 11 by first | with_reducible assumption | omega) (by decide) (by decide) (by decide) (by decide) (show 0 ≤ x292.toInt by first | with_reducible assumption | omega) (show x292.toInt ≤ 999999 by first | with_reducible assumption | omega) (show 0 ≤ x108.toInt from rx108) (show x108.toInt ≤ 9 from tx108) (show 0 ≤ x110.toInt from rx110) (show x110.toInt ≤ 9 from tx110) (Nat.lt_succ_self _) hw hT hF c308 c310 c303 c311 c306 c307 hM (lv_sub hl [2, 3, 4, 1, 0] rfl)
        · replace hM := hM.call (r' := (-1)) hv285 (by decide)
          refine va_mmax hx hb (hC.2.2.1.trans hl.1.symm) hC.2.2.2.1 (hC.2.2.2.2 _ (List.mem_cons_of_mem _ uw_43_0)) (hC.2.2.2.2 _ (List.mem_cons_of_mem _ uw_14_15)) (hC.2.2.2.2 _ (List.mem_cons_of_mem _ uw_14_16)) (hC.2.2.2.2 _ (List.mem_cons_of_mem _ uw_14_17)) (Nat.le_of_ble_eq_true rfl) (Nat.le_of_ble_eq_true rfl) (Nat.zero_le _) (Nat.zero_le _) dX1_lookAround_96 ?_
          refine lv_topi (fun x312 ex312 => ?_)
          have bx312 : (x312.toInt = (0 : Int) ∧ (-1 : Int) ≤ (0 : Int)) ∨ (x312.toInt = (-1 : Int) ∧ (0 : Int) < (-1 : Int)) := by rw [ex312]; exact wk_max
          replace hM := hM.lt (mMax_e bx312)
          have hTq := hT
          refine tk_puti hC hK hw hT hinX1 tyX1_ok nmX1 kC_at149 (by decide) rfl rfl 8 (by decide) (List.mem_cons_of_mem _ uw_43_1) rfl rfl rfl rfl (wk_i32 x312).1 (wk_i32 x312).2 dX1_lookAround_99 (fun H locs w313 hw hT k315 c314 => ?_)
          replace hM := hM.wr (sL_upf hTq hT kC_at149 (kC_lt kC_at149) (by decide) rfl k315 c314 rfl)
          have hF := hF.put kC_at149 (k := 8) (by decide) k315
          have c316 := k315.gi (Or.inr (by decide)) c286
          have c317 := k315.gi (Or.inr (by decide)) c287
          have c318 := k315.gi (Or.inr (by decide)) c288
          have c319 := k315.gi (Or.inr (by decide)) c289
          have c320 := k315.gi (Or.inr (by decide)) c290
          have c321 := k315.gi (Or.inr (by decide)) c291
          refine lv_aload_n hx hb dX1_lookAround_102 rfl (lv_at hl 1 rfl) ?_
          refine lv_iconst (v := (-1)) hx hb dX1_lookAround_103 (by decide) ?_
          have hTq := hT
          refine tk_puti hC hK hw hT hinX1 tyX1_ok nmX1 kC_at149 (by decide) rfl rfl 7 (by decide) (List.mem_cons_of_mem _ uw_42_7) rfl rfl rfl rfl (by decide) (by decide) dX1_lookAround_104 (fun H locs w322 hw hT k324 c323 => ?_)
          replace hM := hM.wr (sL_upf hTq hT kC_at149 (kC_lt kC_at149) (by decide) rfl k324 c323 (by decide))
          have hF := hF.put kC_at149 (k := 7) (by decide) k324
          have c325 := k324.gi (Or.inr (by decide)) c316
          have c326 := k324.gi (Or.inr (by decide)) c317
          have c327 := k324.gi (Or.inr (by decide)) c318
          have c328 := k324.gi (Or.inr (by decide)) c319
          have c329 := k324.gi (Or.inr (by decide)) c320
          have c330 := k324.gi (Or.inr (by decide)) c321
          have c331 := k324.gi (Or.inr (by decide)) c314
          refine lv_iconst (v := 0) hx hb dX1_lookAround_107 (by decide) ?_
          refine lv_istore (lv' := [(4, .int 0), (3, .int x106), (0, .ref (ad 149)), (1, .ref (ad 152)), (2, .int 1)]) hx hb dX1_lookAround_108 hl (by decide) rfl (fun ls hl => ?_)
          exact L110 ((12 - (0 : Int)).toNat + 1) x106 0 r112 1 (-1) x312 x108 x110 H locs ls w322 (show 0 ≤ x106.toInt from rx106) (show x106.toInt ≤ 10 from Int.le_trans tx106 (by decide)) (by decide) (by decide) (show (-1) ≤ r112.toInt by first | with_reducible assumption | omega) (show r112.toInt ≤ 11 by first | with_reducible assumption | omega) (by decide) (by decide) (by decide) (by decide) (show 0 ≤ x312.toInt by first | with_reducible assumption | omega) (show x312.toInt ≤ 999999 by first | with_reducible assumption | omega) (show 0 ≤ x108.toInt from rx108) (show x108.toInt ≤ 9 from tx108) (show 0 ≤ x110.toInt from rx110) (show x110.toInt ≤ 9 from tx110) (Nat.lt_succ_self _) hw hT hF c328 c330 c323 c331 c326 c327 hM (lv_sub hl [2, 3, 4, 1, 0] rfl)
  have hM : TT (fun n => m_X1_lookAround n 149 152 1 (sL w0)) (fun n => m_X1_lookAround n 149 152 1 (sL w0)) := TT.rf
  refine lv_aload_n hx hb dX1_lookAround_0 rfl (lv_at hl 1 rfl) ?_
  refine tk_Vi hC hK hw hT hA hE hSR kC_at152 (by decide) rfl (ky_X9_askedToday_1 l adK adV dC dI cy ad B hB0 (Int.le_trans hB1 (by decide)) qr s1    w0 s.heap.size hT ) (cwV 0 hC.2.2.2.2 uV_RX1_85 rfl rfl rfl (by decide +kernel) ⟨Nat.le_of_ble_eq_true rfl, Nat.le_of_ble_eq_true rfl⟩) rfl hl.1 rfl (Nat.le_of_ble_eq_true rfl) dX1_lookAround_1 (fun r332 w334 H locs hp333 hw => ?_)
  obtain ⟨hT, k335, hv337, hg336⟩ := hp333
  have hF := hF.tr k335 (by decide)
  rcases hg336 with rfl | rfl
  · replace hM := hM.call (r' := 0) hv337 (by decide)
    refine lv_if_eq (tgt := 24) hx hb dX1_lookAround_4 (by decide) (fun _ => ?_) (fun c => absurd (by decide) c)
    replace hM := hM.pos (by decide)
    exact J24  H locs ls w334   hw hT hF hM (lv_sub hl [0, 1, 2] rfl)
  · replace hM := hM.call (r' := 1) hv337 (by decide)
    refine lv_if_eq (tgt := 24) hx hb dX1_lookAround_4 (by decide) (fun c => absurd c (by decide)) (fun _ => ?_)
    replace hM := hM.neg (by decide)
    refine lv_aload_n hx hb dX1_lookAround_7 rfl (lv_at hl 0 rfl) ?_
    refine tk_geti hC hK hw hT hinX1 kC_at149 (by decide) rfl 9 (by decide) (List.mem_cons_of_mem _ uw_42_20) rfl rfl dX1_lookAround_8 (fun x338 c339 rx338 tx338 => ?_)
    replace hM := hM.rd (sL_at (kC_lt kC_at149) c339)
    refine lv_if_ne (tgt := 24) hx hb dX1_lookAround_11 (by decide) (fun c340 => ?_) (fun c340 => ?_)
    · have c340 : ¬ x338.toInt = (0 : Int) := wk_eqF c340
      replace hM := hM.pos c340
      exact J24  H locs ls w334   hw hT hF hM (lv_sub hl [0, 1, 2] rfl)
    · have c340 : x338.toInt = (0 : Int) := wk_eq.mp c340
      replace hM := hM.neg (fun q => q c340)
      refine lv_aload_n hx hb dX1_lookAround_14 rfl (lv_at hl 1 rfl) ?_
      refine tk_Vl hC hK hw hT hA hE hSR kC_at152 (by decide) rfl (ky_X9_dayNow_1 l adK adV dC dI cy ad B hB0 (Int.le_trans hB1 (by decide)) qr s1    w334 H.size hT ) (cwV 0 hC.2.2.2.2 uV_RX1_68 rfl rfl rfl (by decide +kernel) ⟨Nat.le_of_ble_eq_true rfl, Nat.le_of_ble_eq_true rfl⟩) rfl hl.1 rfl (Nat.le_of_ble_eq_true rfl) dX1_lookAround_15 (fun r341 w343 H locs hp342 hw => ?_)
      obtain ⟨hT, k344, hv348, hg347⟩ := hp342
      have hF := hF.tr k344 (by decide)
      have c349 := k344.gi kC_at149 (by decide) c339
      obtain ⟨g345, g346⟩ := hg347
      replace hM := hM.call hv348 rfl
      refine tk_Si hC hK hw hT hA hE hSR (ky_X0_ofWeekday_1 l adK adV dC dI cy ad B hB0 (Int.le_trans hB1 (by decide)) qr s1   r341 (show 0 ≤ r341.toInt by first | with_reducible assumption | omega) (show r341.toInt ≤ 96076792050570581 by first | with_reducible assumption | omega) w343 H.size hT ) (va_cwS 1 hC.2.2.2.2 uS_RX1_91 rfl rfl rfl (by decide +kernel) ⟨Nat.le_of_ble_eq_true rfl, Nat.le_of_ble_eq_true rfl⟩) rfl hl.1 rfl (Nat.le_of_ble_eq_true rfl) dX1_lookAround_18 (fun r350 w352 H locs hp351 hw => ?_)
      obtain ⟨hT, k353, hv357, hg356⟩ := hp351
      have hF := hF.tr k353 (by decide)
      have c358 := k353.gi kC_at149 (by decide) c349
      obtain ⟨g354, g355⟩ := hg356
      replace hM := hM.call hv357 rfl
      refine lv_goto (tgt := 28) hx hb dX1_lookAround_21 (by decide) ?_
      refine lv_istore_n (lv' := [(3, .int r350), (0, .ref (ad 149)), (1, .ref (ad 152)), (2, .int 1)]) hx hb dX1_lookAround_28 rfl hl (by decide) rfl (fun ls hl => ?_)
      refine lv_aload_n hx hb dX1_lookAround_29 rfl (lv_at hl 1 rfl) ?_
      refine lv_aload_n hx hb dX1_lookAround_30 rfl (lv_at hl 1 rfl) ?_
      refine tk_getA hC hK hw hT hinX1 kC_at149 (by decide) rfl 1 (by decide) (List.mem_cons_of_mem _ uw_5_1) rfl rfl dX1_lookAround_31 ?_
      refine lv_iload_n hx hb dX1_lookAround_34 rfl (lv_at hl 0 rfl) ?_
      refine lv_aload_n hx hb dX1_lookAround_35 rfl (lv_at hl 2 rfl) ?_
      refine tk_geti hC hK hw hT hinX9 kC_at152 (by decide) rfl 0 (by decide) (List.mem_cons_of_mem _ uw_42_22) rfl rfl dX1_lookAround_36 (fun x359 c360 rx359 tx359 => ?_)
      replace hM := hM.rd (sL_at (kC_lt kC_at152) c360)
      refine lv_aload_n hx hb dX1_lookAround_39 rfl (lv_at hl 2 rfl) ?_
      refine tk_geti hC hK hw hT hinX9 kC_at152 (by decide) rfl 1 (by decide) (List.mem_cons_of_mem _ uw_42_23) rfl rfl dX1_lookAround_40 (fun x361 c362 rx361 tx361 => ?_)
      replace hM := hM.rd (sL_at (kC_lt kC_at152) c362)
      refine tk_Vi hC hK hw hT hA hE hSR kC_at145 (by decide) rfl (ky_X0_streetBy_2 l adK adV dC dI cy ad B hB0 (Int.le_trans hB1 (by decide)) qr s1   r350 (show 4 ≤ r350.toInt by first | with_reducible assumption | omega) (show r350.toInt ≤ 10 by first | with_reducible assumption | omega) x359 (show 0 ≤ x359.toInt from rx359) (show x359.toInt ≤ 9 from tx359) x361 (show 0 ≤ x361.toInt from rx361) (show x361.toInt ≤ 9 from tx361) w352 H.size hT ) (cwV 3 hC.2.2.2.2 uV_RX1_106 rfl rfl rfl (by decide +kernel) ⟨Nat.le_of_ble_eq_true rfl, Nat.le_of_ble_eq_true rfl⟩) rfl hl.1 rfl (Nat.le_of_ble_eq_true rfl) dX1_lookAround_43 (fun r363 w365 H locs hp364 hw => ?_)
      obtain ⟨hT, k366, hv370, hg369⟩ := hp364
      have hF := hF.tr k366 (by decide)
      have c371 := k366.gi kC_at149 (by decide) c358
      have c372 := k366.gi kC_at152 (by decide) c360
      have c373 := k366.gi kC_at152 (by decide) c362
      obtain ⟨g367, g368⟩ := hg369
      replace hM := hM.call hv370 rfl
      have hTq := hT
      refine tk_puti hC hK hw hT hinX1 tyX1_ok nmX1 kC_at149 (by decide) rfl rfl 5 (by decide) (List.mem_cons_of_mem _ uw_42_6) rfl rfl rfl rfl (show (-1) ≤ r363.toInt by first | with_reducible assumption | omega) (show r363.toInt ≤ 11 by first | with_reducible assumption | omega) dX1_lookAround_46 (fun H locs w374 hw hT k376 c375 => ?_)
      replace hM := hM.wr (sL_upf hTq hT kC_at149 (kC_lt kC_at149) (by decide) rfl k376 c375 rfl)
      have hF := hF.put kC_at149 (k := 5) (by decide) k376
      have c377 := k376.gi (Or.inr (by decide)) c371
      have c378 := k376.gi (Or.inr (by decide)) c372
      have c379 := k376.gi (Or.inr (by decide)) c373
      refine lv_aload_n hx hb dX1_lookAround_49 rfl (lv_at hl 1 rfl) ?_
      refine lv_aload_n hx hb dX1_lookAround_50 rfl (lv_at hl 1 rfl) ?_
      refine tk_geti hC hK hw hT hinX1 kC_at149 (by decide) rfl 5 (by decide) (List.mem_cons_of_mem _ uw_42_6) rfl rfl dX1_lookAround_51 (fun x380 c381 rx380 tx380 => ?_)
      refine wk_top r363 (c381.symm.trans c375) ?_
      replace hM := hM.rd (sL_at (kC_lt kC_at149) c375)
      refine lv_iconst (v := (-1)) hx hb dX1_lookAround_54 (by decide) ?_
      refine lv_icmp_eq (tgt := 74) hx hb dX1_lookAround_55 (by decide) (fun c382 => ?_) (fun c382 => ?_)
      · have c382 : r363.toInt = (-1 : Int) := wk_eq.mp c382
        replace hM := hM.pos c382
        refine lv_iconst (v := 0) hx hb dX1_lookAround_74 (by decide) ?_
        have hTq := hT
        refine tk_putz hC hK hw hT hinX1 tyX1_ok nmX1 kC_at149 (by decide) rfl rfl 6 (by decide) (List.mem_cons_of_mem _ uw_42_5) rfl rfl rfl rfl (by decide) (by decide) dX1_lookAround_75 (fun H locs w383 hw hT k385 c384 => ?_)
        replace hM := hM.wr (sL_upf hTq hT kC_at149 (kC_lt kC_at149) (by decide) rfl k385 c384 (by decide))
        have hF := hF.put kC_at149 (k := 6) (by decide) k385
        have c386 := k385.gi (Or.inr (by decide)) c377
        have c387 := k385.gi (Or.inr (by decide)) c378
        have c388 := k385.gi (Or.inr (by decide)) c379
        have c389 := k385.gi (Or.inr (by decide)) c375
        refine lv_aload_n hx hb dX1_lookAround_78 rfl (lv_at hl 1 rfl) ?_
        refine lv_iconst (v := 0) hx hb dX1_lookAround_79 (by decide) ?_
        refine lv_aload_n hx hb dX1_lookAround_80 rfl (lv_at hl 1 rfl) ?_
        refine tk_getA hC hK hw hT hinX1 kC_at149 (by decide) rfl 1 (by decide) (List.mem_cons_of_mem _ uw_5_1) rfl rfl dX1_lookAround_81 ?_
        refine lv_iload_n hx hb dX1_lookAround_84 rfl (lv_at hl 0 rfl) ?_
        refine lv_aload_n hx hb dX1_lookAround_85 rfl (lv_at hl 2 rfl) ?_
        refine tk_geti hC hK hw hT hinX9 kC_at152 (by decide) rfl 0 (by decide) (List.mem_cons_of_mem _ uw_42_22) rfl rfl dX1_lookAround_86 (fun x390 c391 rx390 tx390 => ?_)
        refine wk_top x359 (c391.symm.trans c387) ?_
        replace hM := hM.rd (sL_at (kC_lt kC_at152) c387)
        refine lv_aload_n hx hb dX1_lookAround_89 rfl (lv_at hl 2 rfl) ?_
        refine tk_geti hC hK hw hT hinX9 kC_at152 (by decide) rfl 1 (by decide) (List.mem_cons_of_mem _ uw_42_23) rfl rfl dX1_lookAround_90 (fun x392 c393 rx392 tx392 => ?_)
        refine wk_top x361 (c393.symm.trans c388) ?_
        replace hM := hM.rd (sL_at (kC_lt kC_at152) c388)
        refine tk_Vi hC hK hw hT hA hE hSR kC_at145 (by decide) rfl (ky_X0_hoursBy_2 l adK adV dC dI cy ad B hB0 (Int.le_trans hB1 (by decide)) qr s1   r350 (show 4 ≤ r350.toInt by first | with_reducible assumption | omega) (show r350.toInt ≤ 10 by first | with_reducible assumption | omega) x359 (show 0 ≤ x359.toInt from rx359) (show x359.toInt ≤ 9 from tx359) x361 (show 0 ≤ x361.toInt from rx361) (show x361.toInt ≤ 9 from tx361) w383 H.size hT ) (cwV 3 hC.2.2.2.2 uV_RX1_114 rfl rfl rfl (by decide +kernel) ⟨Nat.le_of_ble_eq_true rfl, Nat.le_of_ble_eq_true rfl⟩) rfl hl.1 rfl (Nat.le_of_ble_eq_true rfl) dX1_lookAround_93 (fun r394 w396 H locs hp395 hw => ?_)
        obtain ⟨hT, k397, hv401, hg400⟩ := hp395
        have hF := hF.tr k397 (by decide)
        have c402 := k397.gi kC_at149 (by decide) c386
        have c403 := k397.gi kC_at152 (by decide) c387
        have c404 := k397.gi kC_at152 (by decide) c388
        have c405 := k397.gi kC_at149 (by decide) c389
        have c406 := k397.gi kC_at149 (by decide) c384
        rcases hg400 with ⟨g398, g399⟩ | rfl
        · replace hM := hM.call hv401 rfl
          refine va_mmax hx hb (hC.2.2.1.trans hl.1.symm) hC.2.2.2.1 (hC.2.2.2.2 _ (List.mem_cons_of_mem _ uw_43_0)) (hC.2.2.2.2 _ (List.mem_cons_of_mem _ uw_14_15)) (hC.2.2.2.2 _ (List.mem_cons_of_mem _ uw_14_16)) (hC.2.2.2.2 _ (List.mem_cons_of_mem _ uw_14_17)) (Nat.le_of_ble_eq_true rfl) (Nat.le_of_ble_eq_true rfl) (Nat.zero_le _) (Nat.zero_le _) dX1_lookAround_96 ?_
          refine lv_topi (fun x407 ex407 => ?_)
          have bx407 : (x407.toInt = (0 : Int) ∧ r394.toInt ≤ (0 : Int)) ∨ (x407.toInt = r394.toInt ∧ (0 : Int) < r394.toInt) := by rw [ex407]; exact wk_max
          replace hM := hM.lt (mMax_e bx407)
          have hTq := hT
          refine tk_puti hC hK hw hT hinX1 tyX1_ok nmX1 kC_at149 (by decide) rfl rfl 8 (by decide) (List.mem_cons_of_mem _ uw_43_1) rfl rfl rfl rfl (wk_i32 x407).1 (wk_i32 x407).2 dX1_lookAround_99 (fun H locs w408 hw hT k410 c409 => ?_)
          replace hM := hM.wr (sL_upf hTq hT kC_at149 (kC_lt kC_at149) (by decide) rfl k410 c409 rfl)
          have hF := hF.put kC_at149 (k := 8) (by decide) k410
          have c411 := k410.gi (Or.inr (by decide)) c402
          have c412 := k410.gi (Or.inr (by decide)) c403
          have c413 := k410.gi (Or.inr (by decide)) c404
          have c414 := k410.gi (Or.inr (by decide)) c405
          have c415 := k410.gi (Or.inr (by decide)) c406
          refine lv_aload_n hx hb dX1_lookAround_102 rfl (lv_at hl 1 rfl) ?_
          refine lv_iconst (v := (-1)) hx hb dX1_lookAround_103 (by decide) ?_
          have hTq := hT
          refine tk_puti hC hK hw hT hinX1 tyX1_ok nmX1 kC_at149 (by decide) rfl rfl 7 (by decide) (List.mem_cons_of_mem _ uw_42_7) rfl rfl rfl rfl (by decide) (by decide) dX1_lookAround_104 (fun H locs w416 hw hT k418 c417 => ?_)
          replace hM := hM.wr (sL_upf hTq hT kC_at149 (kC_lt kC_at149) (by decide) rfl k418 c417 (by decide))
          have hF := hF.put kC_at149 (k := 7) (by decide) k418
          have c419 := k418.gi (Or.inr (by decide)) c411
          have c420 := k418.gi (Or.inr (by decide)) c412
          have c421 := k418.gi (Or.inr (by decide)) c413
          have c422 := k418.gi (Or.inr (by decide)) c414
          have c423 := k418.gi (Or.inr (by decide)) c415
          have c424 := k418.gi (Or.inr (by decide)) c409
          refine lv_iconst (v := 0) hx hb dX1_lookAround_107 (by decide) ?_
          refine lv_istore (lv' := [(4, .int 0), (3, .int r350), (0, .ref (ad 149)), (1, .ref (ad 152)), (2, .int 1)]) hx hb dX1_lookAround_108 hl (by decide) rfl (fun ls hl => ?_)
          exact L110 ((12 - (0 : Int)).toNat + 1) r350 0 r363 0 (-1) x407 x359 x361 H locs ls w416 (show 0 ≤ r350.toInt by first | with_reducible assumption | omega) (show r350.toInt ≤ 10 by first | with_reducible assumption | omega) (by decide) (by decide) (show (-1) ≤ r363.toInt by first | with_reducible assumption | omega) (show r363.toInt ≤ 11 by first | with_reducible assumption | omega) (by decide) (by decide) (by decide) (by decide) (show 0 ≤ x407.toInt by first | with_reducible assumption | omega) (show x407.toInt ≤ 999999 by first | with_reducible assumption | omega) (show 0 ≤ x359.toInt from rx359) (show x359.toInt ≤ 9 from tx359) (show 0 ≤ x361.toInt from rx361) (show x361.toInt ≤ 9 from tx361) (Nat.lt_succ_self _) hw hT hF c422 c423 c417 c424 c420 c421 hM (lv_sub hl [2, 3, 4, 1, 0] rfl)
        · replace hM := hM.call (r' := (-1)) hv401 (by decide)
          refine va_mmax hx hb (hC.2.2.1.trans hl.1.symm) hC.2.2.2.1 (hC.2.2.2.2 _ (List.mem_cons_of_mem _ uw_43_0)) (hC.2.2.2.2 _ (List.mem_cons_of_mem _ uw_14_15)) (hC.2.2.2.2 _ (List.mem_cons_of_mem _ uw_14_16)) (hC.2.2.2.2 _ (List.mem_cons_of_mem _ uw_14_17)) (Nat.le_of_ble_eq_true rfl) (Nat.le_of_ble_eq_true rfl) (Nat.zero_le _) (Nat.zero_le _) dX1_lookAround_96 ?_
          refine lv_topi (fun x425 ex425 => ?_)
          have bx425 : (x425.toInt = (0 : Int) ∧ (-1 : Int) ≤ (0 : Int)) ∨ (x425.toInt = (-1 : Int) ∧ (0 : Int) < (-1 : Int)) := by rw [ex425]; exact wk_max
          replace hM := hM.lt (mMax_e bx425)
          have hTq := hT
          refine tk_puti hC hK hw hT hinX1 tyX1_ok nmX1 kC_at149 (by decide) rfl rfl 8 (by decide) (List.mem_cons_of_mem _ uw_43_1) rfl rfl rfl rfl (wk_i32 x425).1 (wk_i32 x425).2 dX1_lookAround_99 (fun H locs w426 hw hT k428 c427 => ?_)
          replace hM := hM.wr (sL_upf hTq hT kC_at149 (kC_lt kC_at149) (by decide) rfl k428 c427 rfl)
          have hF := hF.put kC_at149 (k := 8) (by decide) k428
          have c429 := k428.gi (Or.inr (by decide)) c402
          have c430 := k428.gi (Or.inr (by decide)) c403
          have c431 := k428.gi (Or.inr (by decide)) c404
          have c432 := k428.gi (Or.inr (by decide)) c405
          have c433 := k428.gi (Or.inr (by decide)) c406
          refine lv_aload_n hx hb dX1_lookAround_102 rfl (lv_at hl 1 rfl) ?_
          refine lv_iconst (v := (-1)) hx hb dX1_lookAround_103 (by decide) ?_
          have hTq := hT
          refine tk_puti hC hK hw hT hinX1 tyX1_ok nmX1 kC_at149 (by decide) rfl rfl 7 (by decide) (List.mem_cons_of_mem _ uw_42_7) rfl rfl rfl rfl (by decide) (by decide) dX1_lookAround_104 (fun H locs w434 hw hT k436 c435 => ?_)
          replace hM := hM.wr (sL_upf hTq hT kC_at149 (kC_lt kC_at149) (by decide) rfl k436 c435 (by decide))
          have hF := hF.put kC_at149 (k := 7) (by decide) k436
          have c437 := k436.gi (Or.inr (by decide)) c429
          have c438 := k436.gi (Or.inr (by decide)) c430
          have c439 := k436.gi (Or.inr (by decide)) c431
          have c440 := k436.gi (Or.inr (by decide)) c432
          have c441 := k436.gi (Or.inr (by decide)) c433
          have c442 := k436.gi (Or.inr (by decide)) c427
          refine lv_iconst (v := 0) hx hb dX1_lookAround_107 (by decide) ?_
          refine lv_istore (lv' := [(4, .int 0), (3, .int r350), (0, .ref (ad 149)), (1, .ref (ad 152)), (2, .int 1)]) hx hb dX1_lookAround_108 hl (by decide) rfl (fun ls hl => ?_)
          exact L110 ((12 - (0 : Int)).toNat + 1) r350 0 r363 0 (-1) x425 x359 x361 H locs ls w434 (show 0 ≤ r350.toInt by first | with_reducible assumption | omega) (show r350.toInt ≤ 10 by first | with_reducible assumption | omega) (by decide) (by decide) (show (-1) ≤ r363.toInt by first | with_reducible assumption | omega) (show r363.toInt ≤ 11 by first | with_reducible assumption | omega) (by decide) (by decide) (by decide) (by decide) (show 0 ≤ x425.toInt by first | with_reducible assumption | omega) (show x425.toInt ≤ 999999 by first | with_reducible assumption | omega) (show 0 ≤ x359.toInt from rx359) (show x359.toInt ≤ 9 from tx359) (show 0 ≤ x361.toInt from rx361) (show x361.toInt ≤ 9 from tx361) (Nat.lt_succ_self _) hw hT hF c440 c441 c435 c442 c438 c439 hM (lv_sub hl [2, 3, 4, 1, 0] rfl)
      · have c382 : ¬ r363.toInt = (-1 : Int) := wk_eqF c382
        replace hM := hM.neg c382
        refine lv_aload_n hx hb dX1_lookAround_58 rfl (lv_at hl 1 rfl) ?_
        refine lv_aload_n hx hb dX1_lookAround_59 rfl (lv_at hl 2 rfl) ?_
        refine lv_aload_n hx hb dX1_lookAround_60 rfl (lv_at hl 1 rfl) ?_
        refine tk_geti hC hK hw hT hinX1 kC_at149 (by decide) rfl 5 (by decide) (List.mem_cons_of_mem _ uw_42_6) rfl rfl dX1_lookAround_61 (fun x443 c444 rx443 tx443 => ?_)
        refine wk_top r363 (c444.symm.trans c375) ?_
        replace hM := hM.rd (sL_at (kC_lt kC_at149) c375)
        refine tk_Vi hC hK hw hT hA hE hSR kC_at149 (by decide) rfl (ky_X1_isOpenFor_1 l adK adV dC dI cy ad B hB0 (Int.le_trans hB1 (by decide)) qr s1   r363 (show 0 ≤ r363.toInt by first | with_reducible assumption | omega) (show r363.toInt ≤ 11 by first | with_reducible assumption | omega) w374 H.size hT ) (cwV 2 hC.2.2.2.2 uV_RX1_110 rfl rfl rfl (by decide +kernel) ⟨Nat.le_of_ble_eq_true rfl, Nat.le_of_ble_eq_true rfl⟩) rfl hl.1 rfl (Nat.le_of_ble_eq_true rfl) dX1_lookAround_64 (fun r445 w447 H locs hp446 hw => ?_)
        obtain ⟨hT, k448, hv452, hg451⟩ := hp446
        have hF := hF.tr k448 (by decide)
        have c453 := k448.gi kC_at149 (by decide) c377
        have c454 := k448.gi kC_at152 (by decide) c378
        have c455 := k448.gi kC_at152 (by decide) c379
        have c456 := k448.gi kC_at149 (by decide) c375
        rcases hg451 with rfl | ⟨rfl, ⟨x449, c450, rx449, tx449⟩⟩
        · replace hM := hM.call (r' := 0) hv452 (by decide)
          refine lv_if_eq (tgt := 74) hx hb dX1_lookAround_67 (by decide) (fun _ => ?_) (fun c => absurd (by decide) c)
          replace hM := hM.pos (by decide)
          refine lv_iconst (v := 0) hx hb dX1_lookAround_74 (by decide) ?_
          have hTq := hT
          refine tk_putz hC hK hw hT hinX1 tyX1_ok nmX1 kC_at149 (by decide) rfl rfl 6 (by decide) (List.mem_cons_of_mem _ uw_42_5) rfl rfl rfl rfl (by decide) (by decide) dX1_lookAround_75 (fun H locs w457 hw hT k459 c458 => ?_)
          replace hM := hM.wr (sL_upf hTq hT kC_at149 (kC_lt kC_at149) (by decide) rfl k459 c458 (by decide))
          have hF := hF.put kC_at149 (k := 6) (by decide) k459
          have c460 := k459.gi (Or.inr (by decide)) c453
          have c461 := k459.gi (Or.inr (by decide)) c454
          have c462 := k459.gi (Or.inr (by decide)) c455
          have c463 := k459.gi (Or.inr (by decide)) c456
          refine lv_aload_n hx hb dX1_lookAround_78 rfl (lv_at hl 1 rfl) ?_
          refine lv_iconst (v := 0) hx hb dX1_lookAround_79 (by decide) ?_
          refine lv_aload_n hx hb dX1_lookAround_80 rfl (lv_at hl 1 rfl) ?_
          refine tk_getA hC hK hw hT hinX1 kC_at149 (by decide) rfl 1 (by decide) (List.mem_cons_of_mem _ uw_5_1) rfl rfl dX1_lookAround_81 ?_
          refine lv_iload_n hx hb dX1_lookAround_84 rfl (lv_at hl 0 rfl) ?_
          refine lv_aload_n hx hb dX1_lookAround_85 rfl (lv_at hl 2 rfl) ?_
          refine tk_geti hC hK hw hT hinX9 kC_at152 (by decide) rfl 0 (by decide) (List.mem_cons_of_mem _ uw_42_22) rfl rfl dX1_lookAround_86 (fun x464 c465 rx464 tx464 => ?_)
          refine wk_top x359 (c465.symm.trans c461) ?_
          replace hM := hM.rd (sL_at (kC_lt kC_at152) c461)
          refine lv_aload_n hx hb dX1_lookAround_89 rfl (lv_at hl 2 rfl) ?_
          refine tk_geti hC hK hw hT hinX9 kC_at152 (by decide) rfl 1 (by decide) (List.mem_cons_of_mem _ uw_42_23) rfl rfl dX1_lookAround_90 (fun x466 c467 rx466 tx466 => ?_)
          refine wk_top x361 (c467.symm.trans c462) ?_
          replace hM := hM.rd (sL_at (kC_lt kC_at152) c462)
          refine tk_Vi hC hK hw hT hA hE hSR kC_at145 (by decide) rfl (ky_X0_hoursBy_2 l adK adV dC dI cy ad B hB0 (Int.le_trans hB1 (by decide)) qr s1   r350 (show 4 ≤ r350.toInt by first | with_reducible assumption | omega) (show r350.toInt ≤ 10 by first | with_reducible assumption | omega) x359 (show 0 ≤ x359.toInt from rx359) (show x359.toInt ≤ 9 from tx359) x361 (show 0 ≤ x361.toInt from rx361) (show x361.toInt ≤ 9 from tx361) w457 H.size hT ) (cwV 3 hC.2.2.2.2 uV_RX1_114 rfl rfl rfl (by decide +kernel) ⟨Nat.le_of_ble_eq_true rfl, Nat.le_of_ble_eq_true rfl⟩) rfl hl.1 rfl (Nat.le_of_ble_eq_true rfl) dX1_lookAround_93 (fun r468 w470 H locs hp469 hw => ?_)
          obtain ⟨hT, k471, hv475, hg474⟩ := hp469
          have hF := hF.tr k471 (by decide)
          have c476 := k471.gi kC_at149 (by decide) c460
          have c477 := k471.gi kC_at152 (by decide) c461
          have c478 := k471.gi kC_at152 (by decide) c462
          have c479 := k471.gi kC_at149 (by decide) c463
          have c480 := k471.gi kC_at149 (by decide) c458
          rcases hg474 with ⟨g472, g473⟩ | rfl
          · replace hM := hM.call hv475 rfl
            refine va_mmax hx hb (hC.2.2.1.trans hl.1.symm) hC.2.2.2.1 (hC.2.2.2.2 _ (List.mem_cons_of_mem _ uw_43_0)) (hC.2.2.2.2 _ (List.mem_cons_of_mem _ uw_14_15)) (hC.2.2.2.2 _ (List.mem_cons_of_mem _ uw_14_16)) (hC.2.2.2.2 _ (List.mem_cons_of_mem _ uw_14_17)) (Nat.le_of_ble_eq_true rfl) (Nat.le_of_ble_eq_true rfl) (Nat.zero_le _) (Nat.zero_le _) dX1_lookAround_96 ?_
            refine lv_topi (fun x481 ex481 => ?_)
            have bx481 : (x481.toInt = (0 : Int) ∧ r468.toInt ≤ (0 : Int)) ∨ (x481.toInt = r468.toInt ∧ (0 : Int) < r468.toInt) := by rw [ex481]; exact wk_max
            replace hM := hM.lt (mMax_e bx481)
            have hTq := hT
            refine tk_puti hC hK hw hT hinX1 tyX1_ok nmX1 kC_at149 (by decide) rfl rfl 8 (by decide) (List.mem_cons_of_mem _ uw_43_1) rfl rfl rfl rfl (wk_i32 x481).1 (wk_i32 x481).2 dX1_lookAround_99 (fun H locs w482 hw hT k484 c483 => ?_)
            replace hM := hM.wr (sL_upf hTq hT kC_at149 (kC_lt kC_at149) (by decide) rfl k484 c483 rfl)
            have hF := hF.put kC_at149 (k := 8) (by decide) k484
            have c485 := k484.gi (Or.inr (by decide)) c476
            have c486 := k484.gi (Or.inr (by decide)) c477
            have c487 := k484.gi (Or.inr (by decide)) c478
            have c488 := k484.gi (Or.inr (by decide)) c479
            have c489 := k484.gi (Or.inr (by decide)) c480
            refine lv_aload_n hx hb dX1_lookAround_102 rfl (lv_at hl 1 rfl) ?_
            refine lv_iconst (v := (-1)) hx hb dX1_lookAround_103 (by decide) ?_
            have hTq := hT
            refine tk_puti hC hK hw hT hinX1 tyX1_ok nmX1 kC_at149 (by decide) rfl rfl 7 (by decide) (List.mem_cons_of_mem _ uw_42_7) rfl rfl rfl rfl (by decide) (by decide) dX1_lookAround_104 (fun H locs w490 hw hT k492 c491 => ?_)
            replace hM := hM.wr (sL_upf hTq hT kC_at149 (kC_lt kC_at149) (by decide) rfl k492 c491 (by decide))
            have hF := hF.put kC_at149 (k := 7) (by decide) k492
            have c493 := k492.gi (Or.inr (by decide)) c485
            have c494 := k492.gi (Or.inr (by decide)) c486
            have c495 := k492.gi (Or.inr (by decide)) c487
            have c496 := k492.gi (Or.inr (by decide)) c488
            have c497 := k492.gi (Or.inr (by decide)) c489
            have c498 := k492.gi (Or.inr (by decide)) c483
            refine lv_iconst (v := 0) hx hb dX1_lookAround_107 (by decide) ?_
            refine lv_istore (lv' := [(4, .int 0), (3, .int r350), (0, .ref (ad 149)), (1, .ref (ad 152)), (2, .int 1)]) hx hb dX1_lookAround_108 hl (by decide) rfl (fun ls hl => ?_)
            exact L110 ((12 - (0 : Int)).toNat + 1) r350 0 r363 0 (-1) x481 x359 x361 H locs ls w490 (show 0 ≤ r350.toInt by first | with_reducible assumption | omega) (show r350.toInt ≤ 10 by first | with_reducible assumption | omega) (by decide) (by decide) (show (-1) ≤ r363.toInt by first | with_reducible assumption | omega) (show r363.toInt ≤ 11 by first | with_reducible assumption | omega) (by decide) (by decide) (by decide) (by decide) (show 0 ≤ x481.toInt by first | with_reducible assumption | omega) (show x481.toInt ≤ 999999 by first | with_reducible assumption | omega) (show 0 ≤ x359.toInt from rx359) (show x359.toInt ≤ 9 from tx359) (show 0 ≤ x361.toInt from rx361) (show x361.toInt ≤ 9 from tx361) (Nat.lt_succ_self _) hw hT hF c496 c497 c491 c498 c494 c495 hM (lv_sub hl [2, 3, 4, 1, 0] rfl)
          · replace hM := hM.call (r' := (-1)) hv475 (by decide)
            refine va_mmax hx hb (hC.2.2.1.trans hl.1.symm) hC.2.2.2.1 (hC.2.2.2.2 _ (List.mem_cons_of_mem _ uw_43_0)) (hC.2.2.2.2 _ (List.mem_cons_of_mem _ uw_14_15)) (hC.2.2.2.2 _ (List.mem_cons_of_mem _ uw_14_16)) (hC.2.2.2.2 _ (List.mem_cons_of_mem _ uw_14_17)) (Nat.le_of_ble_eq_true rfl) (Nat.le_of_ble_eq_true rfl) (Nat.zero_le _) (Nat.zero_le _) dX1_lookAround_96 ?_
            refine lv_topi (fun x499 ex499 => ?_)
            have bx499 : (x499.toInt = (0 : Int) ∧ (-1 : Int) ≤ (0 : Int)) ∨ (x499.toInt = (-1 : Int) ∧ (0 : Int) < (-1 : Int)) := by rw [ex499]; exact wk_max
            replace hM := hM.lt (mMax_e bx499)
            have hTq := hT
            refine tk_puti hC hK hw hT hinX1 tyX1_ok nmX1 kC_at149 (by decide) rfl rfl 8 (by decide) (List.mem_cons_of_mem _ uw_43_1) rfl rfl rfl rfl (wk_i32 x499).1 (wk_i32 x499).2 dX1_lookAround_99 (fun H locs w500 hw hT k502 c501 => ?_)
            replace hM := hM.wr (sL_upf hTq hT kC_at149 (kC_lt kC_at149) (by decide) rfl k502 c501 rfl)
            have hF := hF.put kC_at149 (k := 8) (by decide) k502
            have c503 := k502.gi (Or.inr (by decide)) c476
            have c504 := k502.gi (Or.inr (by decide)) c477
            have c505 := k502.gi (Or.inr (by decide)) c478
            have c506 := k502.gi (Or.inr (by decide)) c479
            have c507 := k502.gi (Or.inr (by decide)) c480
            refine lv_aload_n hx hb dX1_lookAround_102 rfl (lv_at hl 1 rfl) ?_
            refine lv_iconst (v := (-1)) hx hb dX1_lookAround_103 (by decide) ?_
            have hTq := hT
            refine tk_puti hC hK hw hT hinX1 tyX1_ok nmX1 kC_at149 (by decide) rfl rfl 7 (by decide) (List.mem_cons_of_mem _ uw_42_7) rfl rfl rfl rfl (by decide) (by decide) dX1_lookAround_104 (fun H locs w508 hw hT k510 c509 => ?_)
            replace hM := hM.wr (sL_upf hTq hT kC_at149 (kC_lt kC_at149) (by decide) rfl k510 c509 (by decide))
            have hF := hF.put kC_at149 (k := 7) (by decide) k510
            have c511 := k510.gi (Or.inr (by decide)) c503
            have c512 := k510.gi (Or.inr (by decide)) c504
            have c513 := k510.gi (Or.inr (by decide)) c505
            have c514 := k510.gi (Or.inr (by decide)) c506
            have c515 := k510.gi (Or.inr (by decide)) c507
            have c516 := k510.gi (Or.inr (by decide)) c501
            refine lv_iconst (v := 0) hx hb dX1_lookAround_107 (by decide) ?_
            refine lv_istore (lv' := [(4, .int 0), (3, .int r350), (0, .ref (ad 149)), (1, .ref (ad 152)), (2, .int 1)]) hx hb dX1_lookAround_108 hl (by decide) rfl (fun ls hl => ?_)
            exact L110 ((12 - (0 : Int)).toNat + 1) r350 0 r363 0 (-1) x499 x359 x361 H locs ls w508 (show 0 ≤ r350.toInt by first | with_reducible assumption | omega) (show r350.toInt ≤ 10 by first | with_reducible assumption | omega) (by decide) (by decide) (show (-1) ≤ r363.toInt by first | with_reducible assumption | omega) (show r363.toInt ≤ 11 by first | with_reducible assumption | omega) (by decide) (by decide) (by decide) (by decide) (show 0 ≤ x499.toInt by first | with_reducible assumption | omega) (show x499.toInt ≤ 999999 by first | with_reducible assumption | omega) (show 0 ≤ x359.toInt from rx359) (show x359.toInt ≤ 9 from tx359) (show 0 ≤ x361.toInt from rx361) (show x361.toInt ≤ 9 from tx361) (Nat.lt_succ_self _) hw hT hF c514 c515 c509 c516 c512 c513 hM (lv_sub hl [2, 3, 4, 1, 0] rfl)
        · replace hM := hM.call (r' := 1) hv452 (by decide)
          have ex449 : x449.toInt = x338.toInt := by rw [← c453.symm.trans c450]
          refine lv_if_eq (tgt := 74) hx hb dX1_lookAround_67 (by decide) (fun c => absurd c (by decide)) (fun _ => ?_)
          replace hM := hM.neg (by decide)
          refine lv_iconst (v := 1) hx hb dX1_lookAround_70 (by decide) ?_
          refine lv_goto (tgt := 75) hx hb dX1_lookAround_71 (by decide) ?_
          have hTq := hT
          refine tk_putz hC hK hw hT hinX1 tyX1_ok nmX1 kC_at149 (by decide) rfl rfl 6 (by decide) (List.mem_cons_of_mem _ uw_42_5) rfl rfl rfl rfl (by decide) (by decide) dX1_lookAround_75 (fun H locs w517 hw hT k519 c518 => ?_)
          replace hM := hM.wr (sL_upf hTq hT kC_at149 (kC_lt kC_at149) (by decide) rfl k519 c518 (by decide))
          have hF := hF.put kC_at149 (k := 6) (by decide) k519
          have c520 := k519.gi (Or.inr (by decide)) c453
          have c521 := k519.gi (Or.inr (by decide)) c454
          have c522 := k519.gi (Or.inr (by decide)) c455
          have c523 := k519.gi (Or.inr (by decide)) c456
          refine lv_aload_n hx hb dX1_lookAround_78 rfl (lv_at hl 1 rfl) ?_
          refine lv_iconst (v := 0) hx hb dX1_lookAround_79 (by decide) ?_
          refine lv_aload_n hx hb dX1_lookAround_80 rfl (lv_at hl 1 rfl) ?_
          refine tk_getA hC hK hw hT hinX1 kC_at149 (by decide) rfl 1 (by decide) (List.mem_cons_of_mem _ uw_5_1) rfl rfl dX1_lookAround_81 ?_
          refine lv_iload_n hx hb dX1_lookAround_84 rfl (lv_at hl 0 rfl) ?_
          refine lv_aload_n hx hb dX1_lookAround_85 rfl (lv_at hl 2 rfl) ?_
          refine tk_geti hC hK hw hT hinX9 kC_at152 (by decide) rfl 0 (by decide) (List.mem_cons_of_mem _ uw_42_22) rfl rfl dX1_lookAround_86 (fun x524 c525 rx524 tx524 => ?_)
          refine wk_top x359 (c525.symm.trans c521) ?_
          replace hM := hM.rd (sL_at (kC_lt kC_at152) c521)
          refine lv_aload_n hx hb dX1_lookAround_89 rfl (lv_at hl 2 rfl) ?_
          refine tk_geti hC hK hw hT hinX9 kC_at152 (by decide) rfl 1 (by decide) (List.mem_cons_of_mem _ uw_42_23) rfl rfl dX1_lookAround_90 (fun x526 c527 rx526 tx526 => ?_)
          refine wk_top x361 (c527.symm.trans c522) ?_
          replace hM := hM.rd (sL_at (kC_lt kC_at152) c522)
          refine tk_Vi hC hK hw hT hA hE hSR kC_at145 (by decide) rfl (ky_X0_hoursBy_2 l adK adV dC dI cy ad B hB0 (Int.le_trans hB1 (by decide)) qr s1   r350 (show 4 ≤ r350.toInt by first | with_reducible assumption | omega) (show r350.toInt ≤ 10 by first | with_reducible assumption | omega) x359 (show 0 ≤ x359.toInt from rx359) (show x359.toInt ≤ 9 from tx359) x361 (show 0 ≤ x361.toInt from rx361) (show x361.toInt ≤ 9 from tx361) w517 H.size hT ) (cwV 3 hC.2.2.2.2 uV_RX1_114 rfl rfl rfl (by decide +kernel) ⟨Nat.le_of_ble_eq_true rfl, Nat.le_of_ble_eq_true rfl⟩) rfl hl.1 rfl (Nat.le_of_ble_eq_true rfl) dX1_lookAround_93 (fun r528 w530 H locs hp529 hw => ?_)
          obtain ⟨hT, k531, hv535, hg534⟩ := hp529
          have hF := hF.tr k531 (by decide)
          have c536 := k531.gi kC_at149 (by decide) c520
          have c537 := k531.gi kC_at152 (by decide) c521
          have c538 := k531.gi kC_at152 (by decide) c522
          have c539 := k531.gi kC_at149 (by decide) c523
          have c540 := k531.gi kC_at149 (by decide) c518
          rcases hg534 with ⟨g532, g533⟩ | rfl
          · replace hM := hM.call hv535 rfl
            refine va_mmax hx hb (hC.2.2.1.trans hl.1.symm) hC.2.2.2.1 (hC.2.2.2.2 _ (List.mem_cons_of_mem _ uw_43_0)) (hC.2.2.2.2 _ (List.mem_cons_of_mem _ uw_14_15)) (hC.2.2.2.2 _ (List.mem_cons_of_mem _ uw_14_16)) (hC.2.2.2.2 _ (List.mem_cons_of_mem _ uw_14_17)) (Nat.le_of_ble_eq_true rfl) (Nat.le_of_ble_eq_true rfl) (Nat.zero_le _) (Nat.zero_le _) dX1_lookAround_96 ?_
            refine lv_topi (fun x541 ex541 => ?_)
            have bx541 : (x541.toInt = (0 : Int) ∧ r528.toInt ≤ (0 : Int)) ∨ (x541.toInt = r528.toInt ∧ (0 : Int) < r528.toInt) := by rw [ex541]; exact wk_max
            replace hM := hM.lt (mMax_e bx541)
            have hTq := hT
            refine tk_puti hC hK hw hT hinX1 tyX1_ok nmX1 kC_at149 (by decide) rfl rfl 8 (by decide) (List.mem_cons_of_mem _ uw_43_1) rfl rfl rfl rfl (wk_i32 x541).1 (wk_i32 x541).2 dX1_lookAround_99 (fun H locs w542 hw hT k544 c543 => ?_)
            replace hM := hM.wr (sL_upf hTq hT kC_at149 (kC_lt kC_at149) (by decide) rfl k544 c543 rfl)
            have hF := hF.put kC_at149 (k := 8) (by decide) k544
            have c545 := k544.gi (Or.inr (by decide)) c536
            have c546 := k544.gi (Or.inr (by decide)) c537
            have c547 := k544.gi (Or.inr (by decide)) c538
            have c548 := k544.gi (Or.inr (by decide)) c539
            have c549 := k544.gi (Or.inr (by decide)) c540
            refine lv_aload_n hx hb dX1_lookAround_102 rfl (lv_at hl 1 rfl) ?_
            refine lv_iconst (v := (-1)) hx hb dX1_lookAround_103 (by decide) ?_
            have hTq := hT
            refine tk_puti hC hK hw hT hinX1 tyX1_ok nmX1 kC_at149 (by decide) rfl rfl 7 (by decide) (List.mem_cons_of_mem _ uw_42_7) rfl rfl rfl rfl (by decide) (by decide) dX1_lookAround_104 (fun H locs w550 hw hT k552 c551 => ?_)
            replace hM := hM.wr (sL_upf hTq hT kC_at149 (kC_lt kC_at149) (by decide) rfl k552 c551 (by decide))
            have hF := hF.put kC_at149 (k := 7) (by decide) k552
            have c553 := k552.gi (Or.inr (by decide)) c545
            have c554 := k552.gi (Or.inr (by decide)) c546
            have c555 := k552.gi (Or.inr (by decide)) c547
            have c556 := k552.gi (Or.inr (by decide)) c548
            have c557 := k552.gi (Or.inr (by decide)) c549
            have c558 := k552.gi (Or.inr (by decide)) c543
            refine lv_iconst (v := 0) hx hb dX1_lookAround_107 (by decide) ?_
            refine lv_istore (lv' := [(4, .int 0), (3, .int r350), (0, .ref (ad 149)), (1, .ref (ad 152)), (2, .int 1)]) hx hb dX1_lookAround_108 hl (by decide) rfl (fun ls hl => ?_)
            exact L110 ((12 - (0 : Int)).toNat + 1) r350 0 r363 1 (-1) x541 x359 x361 H locs ls w550 (show 0 ≤ r350.toInt by first | with_reducible assumption | omega) (show r350.toInt ≤ 10 by first | with_reducible assumption | omega) (by decide) (by decide) (show (-1) ≤ r363.toInt by first | with_reducible assumption | omega) (show r363.toInt ≤ 11 by first | with_reducible assumption | omega) (by decide) (by decide) (by decide) (by decide) (show 0 ≤ x541.toInt by first | with_reducible assumption | omega) (show x541.toInt ≤ 999999 by first | with_reducible assumption | omega) (show 0 ≤ x359.toInt from rx359) (show x359.toInt ≤ 9 from tx359) (show 0 ≤ x361.toInt from rx361) (show x361.toInt ≤ 9 from tx361) (Nat.lt_succ_self _) hw hT hF c556 c557 c551 c558 c554 c555 hM (lv_sub hl [2, 3, 4, 1, 0] rfl)
          · replace hM := hM.call (r' := (-1)) hv535 (by decide)
            refine va_mmax hx hb (hC.2.2.1.trans hl.1.symm) hC.2.2.2.1 (hC.2.2.2.2 _ (List.mem_cons_of_mem _ uw_43_0)) (hC.2.2.2.2 _ (List.mem_cons_of_mem _ uw_14_15)) (hC.2.2.2.2 _ (List.mem_cons_of_mem _ uw_14_16)) (hC.2.2.2.2 _ (List.mem_cons_of_mem _ uw_14_17)) (Nat.le_of_ble_eq_true rfl) (Nat.le_of_ble_eq_true rfl) (Nat.zero_le _) (Nat.zero_le _) dX1_lookAround_96 ?_
            refine lv_topi (fun x559 ex559 => ?_)
            have bx559 : (x559.toInt = (0 : Int) ∧ (-1 : Int) ≤ (0 : Int)) ∨ (x559.toInt = (-1 : Int) ∧ (0 : Int) < (-1 : Int)) := by rw [ex559]; exact wk_max
            replace hM := hM.lt (mMax_e bx559)
            have hTq := hT
            refine tk_puti hC hK hw hT hinX1 tyX1_ok nmX1 kC_at149 (by decide) rfl rfl 8 (by decide) (List.mem_cons_of_mem _ uw_43_1) rfl rfl rfl rfl (wk_i32 x559).1 (wk_i32 x559).2 dX1_lookAround_99 (fun H locs w560 hw hT k562 c561 => ?_)
            replace hM := hM.wr (sL_upf hTq hT kC_at149 (kC_lt kC_at149) (by decide) rfl k562 c561 rfl)
            have hF := hF.put kC_at149 (k := 8) (by decide) k562
            have c563 := k562.gi (Or.inr (by decide)) c536
            have c564 := k562.gi (Or.inr (by decide)) c537
            have c565 := k562.gi (Or.inr (by decide)) c538
            have c566 := k562.gi (Or.inr (by decide)) c539
            have c567 := k562.gi (Or.inr (by decide)) c540
            refine lv_aload_n hx hb dX1_lookAround_102 rfl (lv_at hl 1 rfl) ?_
            refine lv_iconst (v := (-1)) hx hb dX1_lookAround_103 (by decide) ?_
            have hTq := hT
            refine tk_puti hC hK hw hT hinX1 tyX1_ok nmX1 kC_at149 (by decide) rfl rfl 7 (by decide) (List.mem_cons_of_mem _ uw_42_7) rfl rfl rfl rfl (by decide) (by decide) dX1_lookAround_104 (fun H locs w568 hw hT k570 c569 => ?_)
            replace hM := hM.wr (sL_upf hTq hT kC_at149 (kC_lt kC_at149) (by decide) rfl k570 c569 (by decide))
            have hF := hF.put kC_at149 (k := 7) (by decide) k570
            have c571 := k570.gi (Or.inr (by decide)) c563
            have c572 := k570.gi (Or.inr (by decide)) c564
            have c573 := k570.gi (Or.inr (by decide)) c565
            have c574 := k570.gi (Or.inr (by decide)) c566
            have c575 := k570.gi (Or.inr (by decide)) c567
            have c576 := k570.gi (Or.inr (by decide)) c561
            refine lv_iconst (v := 0) hx hb dX1_lookAround_107 (by decide) ?_
            refine lv_istore (lv' := [(4, .int 0), (3, .int r350), (0, .ref (ad 149)), (1, .ref (ad 152)), (2, .int 1)]) hx hb dX1_lookAround_108 hl (by decide) rfl (fun ls hl => ?_)
            exact L110 ((12 - (0 : Int)).toNat + 1) r350 0 r363 1 (-1) x559 x359 x361 H locs ls w568 (show 0 ≤ r350.toInt by first | with_reducible assumption | omega) (show r350.toInt ≤ 10 by first | with_reducible assumption | omega) (by decide) (by decide) (show (-1) ≤ r363.toInt by first | with_reducible assumption | omega) (show r363.toInt ≤ 11 by first | with_reducible assumption | omega) (by decide) (by decide) (by decide) (by decide) (show 0 ≤ x559.toInt by first | with_reducible assumption | omega) (show x559.toInt ≤ 999999 by first | with_reducible assumption | omega) (show 0 ≤ x359.toInt from rx359) (show x359.toInt ≤ 9 from tx359) (show 0 ≤ x361.toInt from rx361) (show x361.toInt ≤ 9 from tx361) (Nat.lt_succ_self _) hw hT hF c574 c575 c569 c576 c572 c573 hM (lv_sub hl [2, 3, 4, 1, 0] rfl)
abbrev Py_X1_takeStep_1 (ad : Nat → Nat) (cy : Nat → ClassId) (B : Int) (qr : Nat) (s1 : Int)  (w0 : va_W) : Int32 → va_W → Prop := fun r u => TW ksC ad cy (B + 9) qr s1 u ∧ FE ksC [(1, 4, 4), (1, 5, 5), (1, 6, 6), (1, 7, 7), (1, 8, 8), (9, 0, 0), (9, 4, 4), (9, 5, 5), (9, 6, 6), (9, 7, 7), (9, 8, 8), (45, 0, 64)] w0 u ∧ Ev (fun n => m_X1_takeStep n 149 152 (sL w0)) (r.toInt, sL u) ∧ (((∃ y : Int32, gi u 149 8 = y ∧ 0 ≤ y.toInt ∧ y.toInt ≤ 999999)) ∨ (r = 4))
set_option maxHeartbeats 4000000 in
set_option maxRecDepth 100000 in
theorem ky_X1_takeStep_1 (l : Launch) (adK adV : Nat → Nat) (dC : Nat → ClassId) (dI : Nat → Nat → Nat) (cy : Nat → ClassId) (ad : Nat → Nat) (B : Int) (hB0 : 2147483648 ≤ B) (hB1 : B ≤ 1152921504606846976) (qr : Nat) (s1 : Int)   (w0 : va_W) (sz : Nat) (hT : TW ksC ad cy B qr s1 w0)  : Met l yX1_takeStep (wu yX1_takeStep cX1_takeStep 4 (some .int)) ({ frames := 5, cells := 0, slots := 0, locals := 112 }) (va_Pc [.ref (ad 149), .ref (ad 152)] (wpreS adK adV dC dI cy sz w0)) (va_Qi (Py_X1_takeStep_1 ad cy B qr s1  w0) (fun u : va_W => wpost dC dI cy (va_A w0 sz) u) (va_A w0 sz)) 0 0 (va_A w0 sz) := by
  refine Met.ofW (cc := cX1_takeStep) (maxL := 4) (ret := (some .int)) (by decide) rfl ?_
  intro p e s m args below meth c s₁ Bk hml hv
  obtain ⟨rfl, ⟨hsz, hP, hK, hD0⟩, hE, hSR⟩ := hv
  have hx := Bk.exec
  have hb := Bk.bytes
  have hr := Bk.returns
  have hlocks := Bk.notSynchronized
  have hC : CallFix p m c cX1_takeStep 4 s _ (wu yX1_takeStep cX1_takeStep 4 (some .int)) RX1 := ⟨hx, hb, hml, findClass_of_methodNamed Bk.named, atoms_spec (ws := (wu yX1_takeStep cX1_takeStep 4 (some .int))) Bk.pre⟩
  subst hsz
  have hD := hD0.self (sz := s.heap.size)
  generalize hAe : va_A w0 s.heap.size = A at hD hE ⊢
  have hA : ∀ q : Nat, s.heap.size ≤ q → A q := fun q h => by rw [← hAe]; exact Or.inr h
  have hw : Wd dC dI A s.heap s.heap [] w0 := ⟨hP, hD, va_S.rf⟩
  have hF : FE ksC [(1, 4, 4), (1, 5, 5), (1, 6, 6), (1, 7, 7), (1, 8, 8), (9, 0, 0), (9, 4, 4), (9, 5, 5), (9, 6, 6), (9, 7, 7), (9, 8, 8), (45, 0, 64)] w0 w0 := FE.rf
  have hl := lv_entry ([.ref (ad 149), .ref (ad 152)]) (n := 4) (Nat.le_of_ble_eq_true rfl)
  rw [lg_entry_eq]
  generalize (lg_sl ([.ref (ad 149), .ref (ad 152)]) ++ List.replicate (4 - (lg_sl ([.ref (ad 149), .ref (ad 152)])).length) Slot.unset).toArray = ls at hl ⊢
  have hl : lv_has ls 4 [(0, .ref (ad 149)), (1, .ref (ad 152))] := hl
  generalize hloc : ([] : List Loc) = locs at hw ⊢
  have hinX9 : ∀ w ∈ u_ws RX9 TX9 9, w ∈ (wu yX1_takeStep cX1_takeStep 4 (some .int)) := fun _ h => List.mem_cons_of_mem _ (up_82 h)
  have hinX1 : ∀ w ∈ u_ws RX1 TX1 10, w ∈ (wu yX1_takeStep cX1_takeStep 4 (some .int)) := fun _ h => List.mem_cons_of_mem _ (up_78 h)
  have hinX2 : ∀ w ∈ u_ws RX2 TX2 6, w ∈ (wu yX1_takeStep cX1_takeStep 4 (some .int)) := fun _ h => List.mem_cons_of_mem _ (up_74 h)
  have J155 : ∀ (v155_3 : Int32) (f155_149_8 : Int32) (f155_152_3 : Int32) (H : Heap) (locs : List Loc) (ls : Array Slot) (w1 : va_W), 0 ≤ f155_149_8.toInt → f155_149_8.toInt ≤ 999999 → Wd dC dI A s.heap H locs w1 → TW ksC ad cy (B + 9) qr s1 w1 → FE ksC [(1, 4, 4), (1, 5, 5), (1, 6, 6), (1, 7, 7), (1, 8, 8), (9, 0, 0), (9, 4, 4), (9, 5, 5), (9, 6, 6), (9, 7, 7), (9, 8, 8), (45, 0, 64)] w0 w1 → gi w1 149 8 = f155_149_8 → gi w1 152 3 = f155_152_3 → TT (fun n => m_X1_takeStep n 149 152 (sL w0)) (fun n => b_X1_takeStep_155 n 149 152 (v155_3.toInt) (sL w1)) → lv_has ls 4 [(0, .ref (ad 149)), (1, .ref (ad 152)), (3, .int v155_3)] → W p l e ({ frames := 5, cells := 0, slots := 0, locals := 112 }) s m (List.toArray [.ref (ad 149), .ref (ad 152)]) below meth c H locs 0 0 (MQ below (va_Qi (Py_X1_takeStep_1 ad cy B qr s1  w0) (fun u : va_W => wpost dC dI cy A u) A) (List.toArray [.ref (ad 149), .ref (ad 152)]) s 0 0 A) (F0 m 155 ls []) := by
    intro v155_3 f155_149_8 f155_152_3 H locs ls w1 r2 t3 hw hT hF c4 c5 hM hl
    refine lv_aload_n hx hb dX1_takeStep_155 rfl (lv_at hl 1 rfl) ?_
    refine lv_dup hx hb dX1_takeStep_156 rfl ?_
    refine tk_geti hC hK hw hT hinX9 kC_at152 (by decide) rfl 5 (by decide) (List.mem_cons_of_mem _ uw_42_11) rfl rfl dX1_takeStep_157 (fun x6 c7 rx6 tx6 => ?_)
    replace hM := hM.rd (sL_at (kC_lt kC_at152) c7)
    refine lv_iconst (v := 1) hx hb dX1_takeStep_160 (by decide) ?_
    refine lv_iadd hx hb dX1_takeStep_161 ?_
    have nx8 := wk_i32 x6
    refine lv_topi (fun x9 ex9 => ?_)
    have ezx9 := ex9
    replace hM := hM.lt (o32_e (f := fun x y => x + y) ezx9 rfl (by decide))
    have hTq := hT
    refine tk_puti hC hK hw hT hinX9 tyX9_ok nmX9 kC_at152 (by decide) rfl rfl 5 (by decide) (List.mem_cons_of_mem _ uw_42_11) rfl rfl rfl rfl (wk_i32 x9).1 (wk_i32 x9).2 dX1_takeStep_162 (fun H locs w10 hw hT k12 c11 => ?_)
    replace hM := hM.wr (sL_upf hTq hT kC_at152 (kC_lt kC_at152) (by decide) rfl k12 c11 rfl)
    have hF := hF.put kC_at152 (k := 5) (by decide) k12
    have c13 := k12.gi (Or.inr (by decide)) c4
    have c14 := k12.gi (Or.inr (by decide)) c5
    refine lv_iload_n hx hb dX1_takeStep_165 rfl (lv_at hl 2 rfl) ?_
    exact tk_iret hC hr hlocks hK ⟨hT, hF, hM.ret rfl, (Or.inl ⟨f155_149_8, c13, (show 0 ≤ f155_149_8.toInt from r2), (show f155_149_8.toInt ≤ 999999 from t3)⟩)⟩ hw dX1_takeStep_166
  have J145 : ∀ (v145_3 : Int32) (f145_149_8 : Int32) (f145_152_3 : Int32) (H : Heap) (locs : List Loc) (ls : Array Slot) (w15 : va_W), 0 ≤ f145_149_8.toInt → f145_149_8.toInt ≤ 999999 → Wd dC dI A s.heap H locs w15 → TW ksC ad cy B qr s1 w15 → FE ksC [(1, 4, 4), (1, 5, 5), (1, 6, 6), (1, 7, 7), (1, 8, 8), (9, 0, 0), (9, 4, 4), (9, 5, 5), (9, 6, 6), (9, 7, 7), (9, 8, 8), (45, 0, 64)] w0 w15 → gi w15 149 8 = f145_149_8 → gi w15 152 3 = f145_152_3 → TT (fun n => m_X1_takeStep n 149 152 (sL w0)) (fun n => b_X1_takeStep_145 n 149 152 (v145_3.toInt) (sL w15)) → lv_has ls 4 [(0, .ref (ad 149)), (1, .ref (ad 152)), (3, .int v145_3)] → W p l e ({ frames := 5, cells := 0, slots := 0, locals := 112 }) s m (List.toArray [.ref (ad 149), .ref (ad 152)]) below meth c H locs 0 0 (MQ below (va_Qi (Py_X1_takeStep_1 ad cy B qr s1  w0) (fun u : va_W => wpost dC dI cy A u) A) (List.toArray [.ref (ad 149), .ref (ad 152)]) s 0 0 A) (F0 m 145 ls []) := by
    intro v145_3 f145_149_8 f145_152_3 H locs ls w15 r16 t17 hw hT hF c18 c19 hM hl
    refine lv_aload_n hx hb dX1_takeStep_145 rfl (lv_at hl 1 rfl) ?_
    refine lv_dup hx hb dX1_takeStep_146 rfl ?_
    refine tk_getB hC hK hw hT hinX9 kC_at152 (by decide) rfl 4 (by decide) (List.mem_cons_of_mem _ uw_42_10) rfl rfl dX1_takeStep_147 (fun x20 c21 rx20 tx20 => ?_)
    replace hM := hM.rd (sL_atl (kC_lt kC_at152) c21)
    refine lv_lconst (v := 1) hx hb dX1_takeStep_150 (by decide) ?_
    refine lv_ladd hx hb dX1_takeStep_151 ?_
    refine lv_topl (fun x22 ex22 => ?_)
    have ezx22 := ex22
    have ex22 : x22.toInt = x20.toInt + (1 : Int) := by rw [ex22]; exact wk_addl (show (-9223372036854775808) ≤ x20.toInt + (1 : Int) by omega) (show x20.toInt + (1 : Int) ≤ 9223372036854775807 by omega)
    replace hM := hM.lt ex22.symm
    have hT := hT.up (show B ≤ (B + 1) by omega)
    have hTq := hT
    refine tk_putB hC hK hw hT hinX9 tyX9_ok nmX9 kC_at152 (by decide) rfl rfl 4 (by decide) (List.mem_cons_of_mem _ uw_42_10) rfl rfl rfl rfl (show 0 ≤ x22.toInt by first | with_reducible assumption | omega) (show x22.toInt ≤ (B + 1) by omega) dX1_takeStep_152 (fun H locs w23 hw hT k25 c24 => ?_)
    replace hM := hM.wr (sL_upl hTq hT kC_at152 (kC_lt kC_at152) (by decide) rfl (by decide) k25 c24 rfl)
    have hF := hF.put kC_at152 (k := 4) (by decide) k25
    have c26 := k25.gi (Or.inr (by decide)) c18
    have c27 := k25.gi (Or.inr (by decide)) c19
    exact J155 v145_3 f145_149_8 f145_152_3 H locs ls w23 (show 0 ≤ f145_149_8.toInt from r16) (show f145_149_8.toInt ≤ 999999 from t17)  hw (hT.up (show (B + 1) ≤ (B + 9) by omega)) hF c26 c27 hM (lv_sub hl [0, 1, 2] rfl)
  have J40 : ∀ (f40_152_3 : Int32) (H : Heap) (locs : List Loc) (ls : Array Slot) (w28 : va_W), Wd dC dI A s.heap H locs w28 → TW ksC ad cy B qr s1 w28 → FE ksC [(1, 4, 4), (1, 5, 5), (1, 6, 6), (1, 7, 7), (1, 8, 8), (9, 0, 0), (9, 4, 4), (9, 5, 5), (9, 6, 6), (9, 7, 7), (9, 8, 8), (45, 0, 64)] w0 w28 → gi w28 152 3 = f40_152_3 → TT (fun n => m_X1_takeStep n 149 152 (sL w0)) (fun n => b_X1_takeStep_40 n 149 152 (sL w28)) → lv_has ls 4 [(0, .ref (ad 149)), (1, .ref (ad 152))] → W p l e ({ frames := 5, cells := 0, slots := 0, locals := 112 }) s m (List.toArray [.ref (ad 149), .ref (ad 152)]) below meth c H locs 0 0 (MQ below (va_Qi (Py_X1_takeStep_1 ad cy B qr s1  w0) (fun u : va_W => wpost dC dI cy A u) A) (List.toArray [.ref (ad 149), .ref (ad 152)]) s 0 0 A) (F0 m 40 ls []) := by
    intro f40_152_3 H locs ls w28 hw hT hF c29 hM hl
    refine lv_null hx hb dX1_takeStep_40 ?_
    refine lv_astore_nN (lv' := [(2, .null), (0, .ref (ad 149)), (1, .ref (ad 152))]) hx hb dX1_takeStep_41 rfl hl (by decide) rfl (fun ls hl => ?_)
    refine lv_aload_n hx hb dX1_takeStep_42 rfl (lv_at hl 1 rfl) ?_
    refine lv_aload_n hx hb dX1_takeStep_43 rfl (lv_at hl 2 rfl) ?_
    refine lv_aload_nN hx hb dX1_takeStep_44 rfl (lv_at hl 0 rfl) ?_
    refine lv_ifnullN (tgt := 59) hx hb dX1_takeStep_45 (by decide) ?_
    refine lv_iconst (v := 0) hx hb dX1_takeStep_59 (by decide) ?_
    refine tk_Vv hC hK hw hT hA hE hSR kC_at149 (by decide) rfl (ky_X1_lookAround_1 l adK adV dC dI cy ad B hB0 (Int.le_trans hB1 (by decide)) qr s1    w28 H.size hT ) (cwV 2 hC.2.2.2.2 uV_RX1_47 rfl rfl rfl (by decide +kernel) ⟨Nat.le_of_ble_eq_true rfl, Nat.le_of_ble_eq_true rfl⟩) rfl hl.1 rfl (Nat.le_of_ble_eq_true rfl) dX1_takeStep_60 (fun w32 H locs hp31 hw => ?_)
    obtain ⟨hT, k33, hv39, hg38⟩ := hp31
    have hF := hF.tr k33 (by decide)
    have c40 := k33.gi kC_at152 (by decide) c29
    obtain ⟨⟨x34, c35, rx34, tx34⟩, ⟨x36, c37, rx36, tx36⟩⟩ := hg38
    replace hM := hM.call hv39 rfl
    refine lv_aload_nN hx hb dX1_takeStep_63 rfl (lv_at hl 0 rfl) ?_
    refine lv_ifnullN (tgt := 76) hx hb dX1_takeStep_64 (by decide) ?_
    refine lv_aload_n hx hb dX1_takeStep_76 rfl (lv_at hl 1 rfl) ?_
    refine tk_geti hC hK hw hT hinX1 kC_at149 (by decide) rfl 6 (by decide) (List.mem_cons_of_mem _ uw_42_5) rfl rfl dX1_takeStep_77 (fun x41 c42 rx41 tx41 => ?_)
    replace hM := hM.rd (sL_at (kC_lt kC_at149) c42)
    refine lv_if_eq (tgt := 87) hx hb dX1_takeStep_80 (by decide) (fun c43 => ?_) (fun c43 => ?_)
    · have c43 : x41.toInt = (0 : Int) := wk_eq.mp c43
      replace hM := hM.pos c43
      refine lv_iconst (v := 3) hx hb dX1_takeStep_87 (by decide) ?_
      refine lv_istore_n (lv' := [(3, .int 3), (2, .null), (0, .ref (ad 149)), (1, .ref (ad 152))]) hx hb dX1_takeStep_88 rfl hl (by decide) rfl (fun ls hl => ?_)
      refine lv_iload_n hx hb dX1_takeStep_89 rfl (lv_at hl 0 rfl) ?_
      refine lv_if_ne (tgt := 105) hx hb dX1_takeStep_90 (by decide) (fun _ => ?_) (fun c => absurd c (by decide))
      replace hM := hM.pos (by decide)
      refine lv_iload_n hx hb dX1_takeStep_105 rfl (lv_at hl 0 rfl) ?_
      refine lv_iconst (v := 1) hx hb dX1_takeStep_106 (by decide) ?_
      refine lv_icmp_ne (tgt := 122) hx hb dX1_takeStep_107 (by decide) (fun _ => ?_) (fun c => absurd c (by decide))
      replace hM := hM.pos (by decide)
      refine lv_iload_n hx hb dX1_takeStep_122 rfl (lv_at hl 0 rfl) ?_
      refine lv_iconst (v := 2) hx hb dX1_takeStep_123 (by decide) ?_
      refine lv_icmp_ne (tgt := 145) hx hb dX1_takeStep_124 (by decide) (fun _ => ?_) (fun c => absurd c (by decide))
      replace hM := hM.pos (by decide)
      exact J145 3 x36 f40_152_3 H locs ls w32 (show 0 ≤ x36.toInt by first | with_reducible assumption | omega) (show x36.toInt ≤ 999999 by first | with_reducible assumption | omega)  hw hT hF c37 c40 hM (lv_sub hl [2, 3, 0] rfl)
    · have c43 : ¬ x41.toInt = (0 : Int) := wk_eqF c43
      replace hM := hM.neg c43
      refine lv_iconst (v := 0) hx hb dX1_takeStep_83 (by decide) ?_
      refine lv_goto (tgt := 88) hx hb dX1_takeStep_84 (by decide) ?_
      refine lv_istore_n (lv' := [(3, .int 0), (2, .null), (0, .ref (ad 149)), (1, .ref (ad 152))]) hx hb dX1_takeStep_88 rfl hl (by decide) rfl (fun ls hl => ?_)
      refine lv_iload_n hx hb dX1_takeStep_89 rfl (lv_at hl 0 rfl) ?_
      refine lv_if_ne (tgt := 105) hx hb dX1_takeStep_90 (by decide) (fun c => absurd (by decide) c) (fun _ => ?_)
      replace hM := hM.neg (by decide)
      refine lv_aload_n hx hb dX1_takeStep_93 rfl (lv_at hl 2 rfl) ?_
      refine lv_aload_n hx hb dX1_takeStep_94 rfl (lv_at hl 3 rfl) ?_
      refine lv_aload_n hx hb dX1_takeStep_95 rfl (lv_at hl 2 rfl) ?_
      refine tk_geti hC hK hw hT hinX1 kC_at149 (by decide) rfl 5 (by decide) (List.mem_cons_of_mem _ uw_42_6) rfl rfl dX1_takeStep_96 (fun x44 c45 rx44 tx44 => ?_)
      replace hM := hM.rd (sL_at (kC_lt kC_at149) c45)
      refine tk_Vv hC hK hw hT hA hE hSR kC_at149 (by decide) rfl (ky_X1_follow_1 l adK adV dC dI cy ad B hB0 (Int.le_trans hB1 (by decide)) qr s1   x44 (show (-1) ≤ x44.toInt from rx44) (show x44.toInt ≤ 11 from tx44) w32 H.size hT ) (cwV 2 hC.2.2.2.2 uV_RX1_61 rfl rfl rfl (by decide +kernel) ⟨Nat.le_of_ble_eq_true rfl, Nat.le_of_ble_eq_true rfl⟩) rfl hl.1 rfl (Nat.le_of_ble_eq_true rfl) dX1_takeStep_99 (fun w48 H locs hp47 hw => ?_)
      obtain ⟨hT, k49, hv51, hg50⟩ := hp47
      have hF := hF.tr k49 (by decide)
      have c52 := k49.gi kC_at152 (by decide) c40
      have c53 := k49.gi kC_at149 (by decide) c35
      have c54 := k49.gi kC_at149 (by decide) c37
      have c55 := k49.gi kC_at149 (by decide) c42
      have c56 := k49.gi kC_at149 (by decide) c45
      clear hg50
      replace hM := hM.call hv51 rfl
      refine lv_goto (tgt := 155) hx hb dX1_takeStep_102 (by decide) ?_
      exact J155 0 x36 f40_152_3 H locs ls w48 (show 0 ≤ x36.toInt by first | with_reducible assumption | omega) (show x36.toInt ≤ 999999 by first | with_reducible assumption | omega)  hw hT hF c54 c52 hM (lv_sub hl [2, 3, 0] rfl)
  have hM : TT (fun n => m_X1_takeStep n 149 152 (sL w0)) (fun n => m_X1_takeStep n 149 152 (sL w0)) := TT.rf
  refine lv_aload_n hx hb dX1_takeStep_0 rfl (lv_at hl 1 rfl) ?_
  refine tk_Vi hC hK hw hT hA hE hSR kC_at152 (by decide) rfl (ky_X9_isAtGoal_1 l adK adV dC dI cy ad B hB0 (Int.le_trans hB1 (by decide)) qr s1    w0 s.heap.size hT ) (cwV 0 hC.2.2.2.2 uV_RX1_31 rfl rfl rfl (by decide +kernel) ⟨Nat.le_of_ble_eq_true rfl, Nat.le_of_ble_eq_true rfl⟩) rfl hl.1 rfl (Nat.le_of_ble_eq_true rfl) dX1_takeStep_1 (fun r57 w59 H locs hp58 hw => ?_)
  obtain ⟨hT, k60, hv62, hg61⟩ := hp58
  have hF := hF.tr k60 (by decide)
  rcases hg61 with rfl | rfl
  · replace hM := hM.call (r' := 0) hv62 (by decide)
    refine lv_if_eq (tgt := 9) hx hb dX1_takeStep_4 (by decide) (fun _ => ?_) (fun c => absurd (by decide) c)
    replace hM := hM.pos (by decide)
    refine lv_aload_n hx hb dX1_takeStep_9 rfl (lv_at hl 1 rfl) ?_
    refine tk_geti hC hK hw hT hinX9 kC_at152 (by decide) rfl 3 (by decide) (List.mem_cons_of_mem _ uw_42_3) rfl rfl dX1_takeStep_10 (fun x63 c64 rx63 tx63 => ?_)
    replace hM := hM.rd (sL_at (kC_lt kC_at152) c64)
    refine lv_if_lt (tgt := 40) hx hb dX1_takeStep_13 (by decide) (fun c65 => ?_) (fun c65 => ?_)
    · have c65 : x63.toInt < (0 : Int) := wk_lt.mp c65
      replace hM := hM.pos c65
      exact J40 x63 H locs ls w59   hw hT hF c64 hM (lv_sub hl [0, 1] rfl)
    · have c65 : (0 : Int) ≤ x63.toInt := wk_ltF c65
      replace hM := hM.neg (Int.not_lt.mpr c65)
      refine lv_aload_n hx hb dX1_takeStep_16 rfl (lv_at hl 1 rfl) ?_
      refine tk_geti hC hK hw hT hinX9 kC_at152 (by decide) rfl 3 (by decide) (List.mem_cons_of_mem _ uw_42_3) rfl rfl dX1_takeStep_17 (fun x66 c67 rx66 tx66 => ?_)
      refine wk_top x63 (c67.symm.trans c64) ?_
      replace hM := hM.rd (sL_at (kC_lt kC_at152) c64)
      refine lv_aload_n hx hb dX1_takeStep_20 rfl (lv_at hl 0 rfl) ?_
      refine tk_getA hC hK hw hT hinX1 kC_at149 (by decide) rfl 2 (by decide) (List.mem_cons_of_mem _ uw_5_2) rfl rfl dX1_takeStep_21 ?_
      refine tk_alenR (v := 6) hC hK hw hT kC_at4 rfl (by decide) rfl (by decide) dX1_takeStep_24 ?_
      refine lv_icmp_ge (tgt := 40) hx hb dX1_takeStep_25 (by decide) (fun c68 => ?_) (fun c68 => ?_)
      · have c68 : (6 : Int) ≤ x63.toInt := wk_le.mp c68
        replace hM := hM.pos c68
        exact J40 x63 H locs ls w59   hw hT hF c64 hM (lv_sub hl [0, 1] rfl)
      · have c68 : x63.toInt < (6 : Int) := wk_leF c68
        replace hM := hM.neg (Int.not_le.mpr c68)
        refine lv_aload_n hx hb dX1_takeStep_28 rfl (lv_at hl 0 rfl) ?_
        refine tk_getA hC hK hw hT hinX1 kC_at149 (by decide) rfl 2 (by decide) (List.mem_cons_of_mem _ uw_5_2) rfl rfl dX1_takeStep_29 ?_
        refine lv_aload_n hx hb dX1_takeStep_32 rfl (lv_at hl 1 rfl) ?_
        refine tk_geti hC hK hw hT hinX9 kC_at152 (by decide) rfl 3 (by decide) (List.mem_cons_of_mem _ uw_42_3) rfl rfl dX1_takeStep_33 (fun x69 c70 rx69 tx69 => ?_)
        refine wk_top x63 (c70.symm.trans c64) ?_
        replace hM := hM.rd (sL_at (kC_lt kC_at152) c64)
        refine tk_aald hC hK hw hT kC_at4 rfl (by decide) rfl (show 0 ≤ x63.toInt by first | with_reducible assumption | omega) (show x63.toInt < 6 by first | with_reducible assumption | omega) dX1_takeStep_36 (fun j71 hj71 gj71 => ?_)
        replace hM := hM.ix gj71
        refine lv_goto (tgt := 41) hx hb dX1_takeStep_37 (by decide) ?_
        refine lv_astore_n (lv' := [(2, .ref (ad (el 39 4 j71))), (0, .ref (ad 149)), (1, .ref (ad 152))]) hx hb dX1_takeStep_41 rfl hl (by decide) rfl (fun ls hl => ?_)
        refine lv_aload_n hx hb dX1_takeStep_42 rfl (lv_at hl 1 rfl) ?_
        refine lv_aload_n hx hb dX1_takeStep_43 rfl (lv_at hl 2 rfl) ?_
        refine lv_aload_n hx hb dX1_takeStep_44 rfl (lv_at hl 0 rfl) ?_
        refine lv_ifnull hx hb dX1_takeStep_45 ?_
        refine lv_aload_n hx hb dX1_takeStep_48 rfl (lv_at hl 0 rfl) ?_
        refine tk_geti hC hK hw hT hinX2 (kC_el39 kC_at4 hj71) (by decide) rfl 5 (by decide) (List.mem_cons_of_mem _ uw_42_4) rfl rfl dX1_takeStep_49 (fun x72 c73 rx72 tx72 => ?_)
        replace hM := hM.rd (sL_at (kC_lt (kC_el39 kC_at4 hj71)) c73)
        refine lv_if_eq (tgt := 59) hx hb dX1_takeStep_52 (by decide) (fun c74 => ?_) (fun c74 => ?_)
        · have c74 : x72.toInt = (0 : Int) := wk_eq.mp c74
          replace hM := hM.pos c74
          refine lv_iconst (v := 0) hx hb dX1_takeStep_59 (by decide) ?_
          refine tk_Vv hC hK hw hT hA hE hSR kC_at149 (by decide) rfl (ky_X1_lookAround_1 l adK adV dC dI cy ad B hB0 (Int.le_trans hB1 (by decide)) qr s1    w59 H.size hT ) (cwV 2 hC.2.2.2.2 uV_RX1_47 rfl rfl rfl (by decide +kernel) ⟨Nat.le_of_ble_eq_true rfl, Nat.le_of_ble_eq_true rfl⟩) rfl hl.1 rfl (Nat.le_of_ble_eq_true rfl) dX1_takeStep_60 (fun w77 H locs hp76 hw => ?_)
          obtain ⟨hT, k78, hv84, hg83⟩ := hp76
          have hF := hF.tr k78 (by decide)
          have c85 := k78.gi kC_at152 (by decide) c64
          have c86 := k78.gi (kC_el39 kC_at4 hj71) (by decide) c73
          obtain ⟨⟨x79, c80, rx79, tx79⟩, ⟨x81, c82, rx81, tx81⟩⟩ := hg83
          replace hM := hM.call hv84 rfl
          refine lv_aload_n hx hb dX1_takeStep_63 rfl (lv_at hl 0 rfl) ?_
          refine lv_ifnull hx hb dX1_takeStep_64 ?_
          refine lv_aload_n hx hb dX1_takeStep_67 rfl (lv_at hl 1 rfl) ?_
          refine lv_aload_n hx hb dX1_takeStep_68 rfl (lv_at hl 2 rfl) ?_
          refine lv_aload_n hx hb dX1_takeStep_69 rfl (lv_at hl 0 rfl) ?_
          refine tk_Vi hC hK hw hT hA hE hSR kC_at149 (by decide) rfl (ky_X1_chooseDeed_1 l adK adV dC dI cy ad B hB0 (Int.le_trans hB1 (by decide)) qr s1   (el 39 4 j71) (kC_el39 kC_at4 hj71) w77 H.size hT ) (cwV 2 hC.2.2.2.2 uV_RX1_51 rfl rfl rfl (by decide +kernel) ⟨Nat.le_of_ble_eq_true rfl, Nat.le_of_ble_eq_true rfl⟩) rfl hl.1 rfl (Nat.le_of_ble_eq_true rfl) dX1_takeStep_70 (fun r87 w89 H locs hp88 hw => ?_)
          obtain ⟨hT, k90, hv96, hg95⟩ := hp88
          have hF := hF.tr k90 (by decide)
          have c97 := k90.gi kC_at152 (by decide) c85
          have c98 := k90.gi (kC_el39 kC_at4 hj71) (by decide) c86
          have c99 := k90.gi kC_at149 (by decide) c80
          have c100 := k90.gi kC_at149 (by decide) c82
          rcases hg95 with ⟨x91, c92, rx91, tx91⟩ | ⟨g93, g94⟩
          · replace hM := hM.call hv96 rfl
            refine lv_goto (tgt := 88) hx hb dX1_takeStep_73 (by decide) ?_
            refine lv_istore_n (lv' := [(3, .int r87), (2, .ref (ad (el 39 4 j71))), (0, .ref (ad 149)), (1, .ref (ad 152))]) hx hb dX1_takeStep_88 rfl hl (by decide) rfl (fun ls hl => ?_)
            refine lv_iload_n hx hb dX1_takeStep_89 rfl (lv_at hl 0 rfl) ?_
            refine lv_if_ne (tgt := 105) hx hb dX1_takeStep_90 (by decide) (fun c101 => ?_) (fun c101 => ?_)
            · have c101 : ¬ r87.toInt = (0 : Int) := wk_eqF c101
              replace hM := hM.pos c101
              refine lv_iload_n hx hb dX1_takeStep_105 rfl (lv_at hl 0 rfl) ?_
              refine lv_iconst (v := 1) hx hb dX1_takeStep_106 (by decide) ?_
              refine lv_icmp_ne (tgt := 122) hx hb dX1_takeStep_107 (by decide) (fun c102 => ?_) (fun c102 => ?_)
              · have c102 : ¬ r87.toInt = (1 : Int) := wk_eqF c102
                replace hM := hM.pos c102
                refine lv_iload_n hx hb dX1_takeStep_122 rfl (lv_at hl 0 rfl) ?_
                refine lv_iconst (v := 2) hx hb dX1_takeStep_123 (by decide) ?_
                refine lv_icmp_ne (tgt := 145) hx hb dX1_takeStep_124 (by decide) (fun c103 => ?_) (fun c103 => ?_)
                · have c103 : ¬ r87.toInt = (2 : Int) := wk_eqF c103
                  replace hM := hM.pos c103
                  exact J145 r87 x81 x63 H locs ls w89 (show 0 ≤ x81.toInt by first | with_reducible assumption | omega) (show x81.toInt ≤ 999999 by first | with_reducible assumption | omega)  hw hT hF c100 c97 hM (lv_sub hl [2, 3, 0] rfl)
                · have c103 : r87.toInt = (2 : Int) := wk_eq.mp c103
                  replace hM := hM.neg (fun q => q c103)
                  refine lv_aload_n hx hb dX1_takeStep_127 rfl (lv_at hl 3 rfl) ?_
                  refine lv_aload_n hx hb dX1_takeStep_128 rfl (lv_at hl 3 rfl) ?_
                  refine tk_Vl hC hK hw hT hA hE hSR kC_at152 (by decide) rfl (ky_X9_dayNow_1 l adK adV dC dI cy ad B hB0 (Int.le_trans hB1 (by decide)) qr s1    w89 H.size hT ) (cwV 0 hC.2.2.2.2 uV_RX1_68 rfl rfl rfl (by decide +kernel) ⟨Nat.le_of_ble_eq_true rfl, Nat.le_of_ble_eq_true rfl⟩) rfl hl.1 rfl (Nat.le_of_ble_eq_true rfl) dX1_takeStep_129 (fun r104 w106 H locs hp105 hw => ?_)
                  obtain ⟨hT, k107, hv111, hg110⟩ := hp105
                  have hF := hF.tr k107 (by decide)
                  have c112 := k107.gi kC_at152 (by decide) c97
                  have c113 := k107.gi (kC_el39 kC_at4 hj71) (by decide) c98
                  have c114 := k107.gi kC_at149 (by decide) c99
                  have c115 := k107.gi kC_at149 (by decide) c100
                  have c116 := k107.gi (kC_el39 kC_at4 hj71) (by decide) c92
                  obtain ⟨g108, g109⟩ := hg110
                  replace hM := hM.call hv111 rfl
                  have hTq := hT
                  refine tk_putl hC hK hw hT hinX9 tyX9_ok nmX9 kC_at152 (by decide) rfl rfl 8 (by decide) (List.mem_cons_of_mem _ uw_42_8) rfl rfl rfl rfl (wk_i64 r104).1 (wk_i64 r104).2 dX1_takeStep_132 (fun H locs w117 hw hT k119 c118 => ?_)
                  replace hM := hM.wr (sL_upl hTq hT kC_at152 (kC_lt kC_at152) (by decide) rfl (by decide) k119 c118 rfl)
                  have hF := hF.put kC_at152 (k := 8) (by decide) k119
                  have c120 := k119.gi (Or.inr (by decide)) c112
                  have c121 := k119.gi (Or.inr (by decide)) c113
                  have c122 := k119.gi (Or.inr (by decide)) c114
                  have c123 := k119.gi (Or.inl (tk_ne kC_at149 kC_at152 (by decide))) c115
                  have c124 := k119.gi (Or.inr (by decide)) c116
                  refine lv_aload_n hx hb dX1_takeStep_135 rfl (lv_at hl 3 rfl) ?_
                  refine lv_dup hx hb dX1_takeStep_136 rfl ?_
                  refine tk_geti hC hK hw hT hinX9 kC_at152 (by decide) rfl 6 (by decide) (List.mem_cons_of_mem _ uw_42_9) rfl rfl dX1_takeStep_137 (fun x125 c126 rx125 tx125 => ?_)
                  replace hM := hM.rd (sL_at (kC_lt kC_at152) c126)
                  refine lv_iconst (v := 1) hx hb dX1_takeStep_140 (by decide) ?_
                  refine lv_iadd hx hb dX1_takeStep_141 ?_
                  have nx127 := wk_i32 x125
                  refine lv_topi (fun x128 ex128 => ?_)
                  have ezx128 := ex128
                  replace hM := hM.lt (o32_e (f := fun x y => x + y) ezx128 rfl (by decide))
                  have hTq := hT
                  refine tk_puti hC hK hw hT hinX9 tyX9_ok nmX9 kC_at152 (by decide) rfl rfl 6 (by decide) (List.mem_cons_of_mem _ uw_42_9) rfl rfl rfl rfl (wk_i32 x128).1 (wk_i32 x128).2 dX1_takeStep_142 (fun H locs w129 hw hT k131 c130 => ?_)
                  replace hM := hM.wr (sL_upf hTq hT kC_at152 (kC_lt kC_at152) (by decide) rfl k131 c130 rfl)
                  have hF := hF.put kC_at152 (k := 6) (by decide) k131
                  have c132 := k131.gi (Or.inr (by decide)) c120
                  have c133 := k131.gi (Or.inr (by decide)) c121
                  have c134 := k131.gi (Or.inr (by decide)) c122
                  have c135 := k131.gi (Or.inr (by decide)) c123
                  have c136 := k131.gi (Or.inr (by decide)) c124
                  have c137 := k131.gl (Or.inr (by decide)) c118
                  exact J145 r87 x81 x63 H locs ls w129 (show 0 ≤ x81.toInt by first | with_reducible assumption | omega) (show x81.toInt ≤ 999999 by first | with_reducible assumption | omega)  hw hT hF c135 c132 hM (lv_sub hl [2, 3, 0] rfl)
              · have c102 : r87.toInt = (1 : Int) := wk_eq.mp c102
                replace hM := hM.neg (fun q => q c102)
                refine lv_aload_n hx hb dX1_takeStep_110 rfl (lv_at hl 2 rfl) ?_
                refine lv_aload_n hx hb dX1_takeStep_111 rfl (lv_at hl 3 rfl) ?_
                refine lv_aload_n hx hb dX1_takeStep_112 rfl (lv_at hl 2 rfl) ?_
                refine tk_geti hC hK hw hT hinX1 kC_at149 (by decide) rfl 7 (by decide) (List.mem_cons_of_mem _ uw_42_7) rfl rfl dX1_takeStep_113 (fun x138 c139 rx138 tx138 => ?_)
                refine wk_top x79 (c139.symm.trans c99) ?_
                replace hM := hM.rd (sL_at (kC_lt kC_at149) c99)
                obtain rfl : x79 = (-1) := wk_eq.mpr (show x79.toInt = (-1) by first | exact Int.le_antisymm (by omega) (by omega) | omega)
                try simp only [show ((-1) : Int32).toInt = (-1) by decide] at hM
                refine tk_Vv hC hK hw hT hA hE hSR kC_at149 (by decide) rfl (ky_X1_follow_2 l adK adV dC dI cy ad B hB0 (Int.le_trans hB1 (by decide)) qr s1    w89 H.size hT ) (cwV 2 hC.2.2.2.2 uV_RX1_61 rfl rfl rfl (by decide +kernel) ⟨Nat.le_of_ble_eq_true rfl, Nat.le_of_ble_eq_true rfl⟩) rfl hl.1 rfl (Nat.le_of_ble_eq_true rfl) dX1_takeStep_116 (fun w142 H locs hp141 hw => ?_)
                obtain ⟨hT, k143, hv145, hg144⟩ := hp141
                have hF := hF.tr k143 (by decide)
                have c146 := k143.gi kC_at152 (by decide) c97
                have c147 := k143.gi (kC_el39 kC_at4 hj71) (by decide) c98
                have c148 := k143.gi kC_at149 (by decide) c99
                have c149 := k143.gi kC_at149 (by decide) c100
                have c150 := k143.gi (kC_el39 kC_at4 hj71) (by decide) c92
                clear hg144
                replace hM := hM.call hv145 rfl
                refine lv_goto (tgt := 155) hx hb dX1_takeStep_119 (by decide) ?_
                exact J155 r87 x81 x63 H locs ls w142 (show 0 ≤ x81.toInt by first | with_reducible assumption | omega) (show x81.toInt ≤ 999999 by first | with_reducible assumption | omega)  hw (hT.up (show B ≤ (B + 9) by omega)) hF c149 c146 hM (lv_sub hl [2, 3, 0] rfl)
            · have c101 : r87.toInt = (0 : Int) := wk_eq.mp c101
              replace hM := hM.neg (fun q => q c101)
              refine lv_aload_n hx hb dX1_takeStep_93 rfl (lv_at hl 2 rfl) ?_
              refine lv_aload_n hx hb dX1_takeStep_94 rfl (lv_at hl 3 rfl) ?_
              refine lv_aload_n hx hb dX1_takeStep_95 rfl (lv_at hl 2 rfl) ?_
              refine tk_geti hC hK hw hT hinX1 kC_at149 (by decide) rfl 5 (by decide) (List.mem_cons_of_mem _ uw_42_6) rfl rfl dX1_takeStep_96 (fun x151 c152 rx151 tx151 => ?_)
              replace hM := hM.rd (sL_at (kC_lt kC_at149) c152)
              refine tk_Vv hC hK hw hT hA hE hSR kC_at149 (by decide) rfl (ky_X1_follow_1 l adK adV dC dI cy ad B hB0 (Int.le_trans hB1 (by decide)) qr s1   x151 (show (-1) ≤ x151.toInt from rx151) (show x151.toInt ≤ 11 from tx151) w89 H.size hT ) (cwV 2 hC.2.2.2.2 uV_RX1_61 rfl rfl rfl (by decide +kernel) ⟨Nat.le_of_ble_eq_true rfl, Nat.le_of_ble_eq_true rfl⟩) rfl hl.1 rfl (Nat.le_of_ble_eq_true rfl) dX1_takeStep_99 (fun w155 H locs hp154 hw => ?_)
              obtain ⟨hT, k156, hv158, hg157⟩ := hp154
              have hF := hF.tr k156 (by decide)
              have c159 := k156.gi kC_at152 (by decide) c97
              have c160 := k156.gi (kC_el39 kC_at4 hj71) (by decide) c98
              have c161 := k156.gi kC_at149 (by decide) c99
              have c162 := k156.gi kC_at149 (by decide) c100
              have c163 := k156.gi (kC_el39 kC_at4 hj71) (by decide) c92
              have c164 := k156.gi kC_at149 (by decide) c152
              clear hg157
              replace hM := hM.call hv158 rfl
              refine lv_goto (tgt := 155) hx hb dX1_takeStep_102 (by decide) ?_
              exact J155 r87 x81 x63 H locs ls w155 (show 0 ≤ x81.toInt by first | with_reducible assumption | omega) (show x81.toInt ≤ 999999 by first | with_reducible assumption | omega)  hw hT hF c162 c159 hM (lv_sub hl [2, 3, 0] rfl)
          · replace hM := hM.call hv96 rfl
            refine lv_goto (tgt := 88) hx hb dX1_takeStep_73 (by decide) ?_
            refine lv_istore_n (lv' := [(3, .int r87), (2, .ref (ad (el 39 4 j71))), (0, .ref (ad 149)), (1, .ref (ad 152))]) hx hb dX1_takeStep_88 rfl hl (by decide) rfl (fun ls hl => ?_)
            refine lv_iload_n hx hb dX1_takeStep_89 rfl (lv_at hl 0 rfl) ?_
            refine lv_if_ne (tgt := 105) hx hb dX1_takeStep_90 (by decide) (fun c165 => ?_) (fun c165 => ?_)
            · have c165 : ¬ r87.toInt = (0 : Int) := wk_eqF c165
              replace hM := hM.pos c165
              refine lv_iload_n hx hb dX1_takeStep_105 rfl (lv_at hl 0 rfl) ?_
              refine lv_iconst (v := 1) hx hb dX1_takeStep_106 (by decide) ?_
              refine lv_icmp_ne (tgt := 122) hx hb dX1_takeStep_107 (by decide) (fun c166 => ?_) (fun c166 => ?_)
              · have c166 : ¬ r87.toInt = (1 : Int) := wk_eqF c166
                replace hM := hM.pos c166
                refine lv_iload_n hx hb dX1_takeStep_122 rfl (lv_at hl 0 rfl) ?_
                refine lv_iconst (v := 2) hx hb dX1_takeStep_123 (by decide) ?_
                refine lv_icmp_ne (tgt := 145) hx hb dX1_takeStep_124 (by decide) (fun c167 => ?_) (fun c167 => ?_)
                · have c167 : ¬ r87.toInt = (2 : Int) := wk_eqF c167
                  replace hM := hM.pos c167
                  exact J145 r87 x81 x63 H locs ls w89 (show 0 ≤ x81.toInt by first | with_reducible assumption | omega) (show x81.toInt ≤ 999999 by first | with_reducible assumption | omega)  hw hT hF c100 c97 hM (lv_sub hl [2, 3, 0] rfl)
                · have c167 : r87.toInt = (2 : Int) := wk_eq.mp c167
                  replace hM := hM.neg (fun q => q c167)
                  refine lv_aload_n hx hb dX1_takeStep_127 rfl (lv_at hl 3 rfl) ?_
                  refine lv_aload_n hx hb dX1_takeStep_128 rfl (lv_at hl 3 rfl) ?_
                  refine tk_Vl hC hK hw hT hA hE hSR kC_at152 (by decide) rfl (ky_X9_dayNow_1 l adK adV dC dI cy ad B hB0 (Int.le_trans hB1 (by decide)) qr s1    w89 H.size hT ) (cwV 0 hC.2.2.2.2 uV_RX1_68 rfl rfl rfl (by decide +kernel) ⟨Nat.le_of_ble_eq_true rfl, Nat.le_of_ble_eq_true rfl⟩) rfl hl.1 rfl (Nat.le_of_ble_eq_true rfl) dX1_takeStep_129 (fun r168 w170 H locs hp169 hw => ?_)
                  obtain ⟨hT, k171, hv175, hg174⟩ := hp169
                  have hF := hF.tr k171 (by decide)
                  have c176 := k171.gi kC_at152 (by decide) c97
                  have c177 := k171.gi (kC_el39 kC_at4 hj71) (by decide) c98
                  have c178 := k171.gi kC_at149 (by decide) c99
                  have c179 := k171.gi kC_at149 (by decide) c100
                  obtain ⟨g172, g173⟩ := hg174
                  replace hM := hM.call hv175 rfl
                  have hTq := hT
                  refine tk_putl hC hK hw hT hinX9 tyX9_ok nmX9 kC_at152 (by decide) rfl rfl 8 (by decide) (List.mem_cons_of_mem _ uw_42_8) rfl rfl rfl rfl (wk_i64 r168).1 (wk_i64 r168).2 dX1_takeStep_132 (fun H locs w180 hw hT k182 c181 => ?_)
                  replace hM := hM.wr (sL_upl hTq hT kC_at152 (kC_lt kC_at152) (by decide) rfl (by decide) k182 c181 rfl)
                  have hF := hF.put kC_at152 (k := 8) (by decide) k182
                  have c183 := k182.gi (Or.inr (by decide)) c176
                  have c184 := k182.gi (Or.inr (by decide)) c177
                  have c185 := k182.gi (Or.inr (by decide)) c178
                  have c186 := k182.gi (Or.inl (tk_ne kC_at149 kC_at152 (by decide))) c179
                  refine lv_aload_n hx hb dX1_takeStep_135 rfl (lv_at hl 3 rfl) ?_
                  refine lv_dup hx hb dX1_takeStep_136 rfl ?_
                  refine tk_geti hC hK hw hT hinX9 kC_at152 (by decide) rfl 6 (by decide) (List.mem_cons_of_mem _ uw_42_9) rfl rfl dX1_takeStep_137 (fun x187 c188 rx187 tx187 => ?_)
                  replace hM := hM.rd (sL_at (kC_lt kC_at152) c188)
                  refine lv_iconst (v := 1) hx hb dX1_takeStep_140 (by decide) ?_
                  refine lv_iadd hx hb dX1_takeStep_141 ?_
                  have nx189 := wk_i32 x187
                  refine lv_topi (fun x190 ex190 => ?_)
                  have ezx190 := ex190
                  replace hM := hM.lt (o32_e (f := fun x y => x + y) ezx190 rfl (by decide))
                  have hTq := hT
                  refine tk_puti hC hK hw hT hinX9 tyX9_ok nmX9 kC_at152 (by decide) rfl rfl 6 (by decide) (List.mem_cons_of_mem _ uw_42_9) rfl rfl rfl rfl (wk_i32 x190).1 (wk_i32 x190).2 dX1_takeStep_142 (fun H locs w191 hw hT k193 c192 => ?_)
                  replace hM := hM.wr (sL_upf hTq hT kC_at152 (kC_lt kC_at152) (by decide) rfl k193 c192 rfl)
                  have hF := hF.put kC_at152 (k := 6) (by decide) k193
                  have c194 := k193.gi (Or.inr (by decide)) c183
                  have c195 := k193.gi (Or.inr (by decide)) c184
                  have c196 := k193.gi (Or.inr (by decide)) c185
                  have c197 := k193.gi (Or.inr (by decide)) c186
                  have c198 := k193.gl (Or.inr (by decide)) c181
                  exact J145 r87 x81 x63 H locs ls w191 (show 0 ≤ x81.toInt by first | with_reducible assumption | omega) (show x81.toInt ≤ 999999 by first | with_reducible assumption | omega)  hw hT hF c197 c194 hM (lv_sub hl [2, 3, 0] rfl)
              · have c166 : r87.toInt = (1 : Int) := wk_eq.mp c166
                replace hM := hM.neg (fun q => q c166)
                refine lv_aload_n hx hb dX1_takeStep_110 rfl (lv_at hl 2 rfl) ?_
                refine lv_aload_n hx hb dX1_takeStep_111 rfl (lv_at hl 3 rfl) ?_
                refine lv_aload_n hx hb dX1_takeStep_112 rfl (lv_at hl 2 rfl) ?_
                refine tk_geti hC hK hw hT hinX1 kC_at149 (by decide) rfl 7 (by decide) (List.mem_cons_of_mem _ uw_42_7) rfl rfl dX1_takeStep_113 (fun x199 c200 rx199 tx199 => ?_)
                refine wk_top x79 (c200.symm.trans c99) ?_
                replace hM := hM.rd (sL_at (kC_lt kC_at149) c99)
                obtain rfl : x79 = (-1) := wk_eq.mpr (show x79.toInt = (-1) by first | exact Int.le_antisymm (by omega) (by omega) | omega)
                try simp only [show ((-1) : Int32).toInt = (-1) by decide] at hM
                refine tk_Vv hC hK hw hT hA hE hSR kC_at149 (by decide) rfl (ky_X1_follow_2 l adK adV dC dI cy ad B hB0 (Int.le_trans hB1 (by decide)) qr s1    w89 H.size hT ) (cwV 2 hC.2.2.2.2 uV_RX1_61 rfl rfl rfl (by decide +kernel) ⟨Nat.le_of_ble_eq_true rfl, Nat.le_of_ble_eq_true rfl⟩) rfl hl.1 rfl (Nat.le_of_ble_eq_true rfl) dX1_takeStep_116 (fun w203 H locs hp202 hw => ?_)
                obtain ⟨hT, k204, hv206, hg205⟩ := hp202
                have hF := hF.tr k204 (by decide)
                have c207 := k204.gi kC_at152 (by decide) c97
                have c208 := k204.gi (kC_el39 kC_at4 hj71) (by decide) c98
                have c209 := k204.gi kC_at149 (by decide) c99
                have c210 := k204.gi kC_at149 (by decide) c100
                clear hg205
                replace hM := hM.call hv206 rfl
                refine lv_goto (tgt := 155) hx hb dX1_takeStep_119 (by decide) ?_
                exact J155 r87 x81 x63 H locs ls w203 (show 0 ≤ x81.toInt by first | with_reducible assumption | omega) (show x81.toInt ≤ 999999 by first | with_reducible assumption | omega)  hw (hT.up (show B ≤ (B + 9) by omega)) hF c210 c207 hM (lv_sub hl [2, 3, 0] rfl)
            · have c165 : r87.toInt = (0 : Int) := wk_eq.mp c165
              replace hM := hM.neg (fun q => q c165)
              refine lv_aload_n hx hb dX1_takeStep_93 rfl (lv_at hl 2 rfl) ?_
              refine lv_aload_n hx hb dX1_takeStep_94 rfl (lv_at hl 3 rfl) ?_
              refine lv_aload_n hx hb dX1_takeStep_95 rfl (lv_at hl 2 rfl) ?_
              refine tk_geti hC hK hw hT hinX1 kC_at149 (by decide) rfl 5 (by decide) (List.mem_cons_of_mem _ uw_42_6) rfl rfl dX1_takeStep_96 (fun x211 c212 rx211 tx211 => ?_)
              replace hM := hM.rd (sL_at (kC_lt kC_at149) c212)
              refine tk_Vv hC hK hw hT hA hE hSR kC_at149 (by decide) rfl (ky_X1_follow_1 l adK adV dC dI cy ad B hB0 (Int.le_trans hB1 (by decide)) qr s1   x211 (show (-1) ≤ x211.toInt from rx211) (show x211.toInt ≤ 11 from tx211) w89 H.size hT ) (cwV 2 hC.2.2.2.2 uV_RX1_61 rfl rfl rfl (by decide +kernel) ⟨Nat.le_of_ble_eq_true rfl, Nat.le_of_ble_eq_true rfl⟩) rfl hl.1 rfl (Nat.le_of_ble_eq_true rfl) dX1_takeStep_99 (fun w215 H locs hp214 hw => ?_)
              obtain ⟨hT, k216, hv218, hg217⟩ := hp214
              have hF := hF.tr k216 (by decide)
              have c219 := k216.gi kC_at152 (by decide) c97
              have c220 := k216.gi (kC_el39 kC_at4 hj71) (by decide) c98
              have c221 := k216.gi kC_at149 (by decide) c99
              have c222 := k216.gi kC_at149 (by decide) c100
              have c223 := k216.gi kC_at149 (by decide) c212
              clear hg217
              replace hM := hM.call hv218 rfl
              refine lv_goto (tgt := 155) hx hb dX1_takeStep_102 (by decide) ?_
              exact J155 r87 x81 x63 H locs ls w215 (show 0 ≤ x81.toInt by first | with_reducible assumption | omega) (show x81.toInt ≤ 999999 by first | with_reducible assumption | omega)  hw hT hF c222 c219 hM (lv_sub hl [2, 3, 0] rfl)
        · have c74 : ¬ x72.toInt = (0 : Int) := wk_eqF c74
          replace hM := hM.neg c74
          refine lv_iconst (v := 1) hx hb dX1_takeStep_55 (by decide) ?_
          refine lv_goto (tgt := 60) hx hb dX1_takeStep_56 (by decide) ?_
          refine tk_Vv hC hK hw hT hA hE hSR kC_at149 (by decide) rfl (ky_X1_lookAround_2 l adK adV dC dI cy ad B hB0 (Int.le_trans hB1 (by decide)) qr s1    w59 H.size hT ) (cwV 2 hC.2.2.2.2 uV_RX1_47 rfl rfl rfl (by decide +kernel) ⟨Nat.le_of_ble_eq_true rfl, Nat.le_of_ble_eq_true rfl⟩) rfl hl.1 rfl (Nat.le_of_ble_eq_true rfl) dX1_takeStep_60 (fun w226 H locs hp225 hw => ?_)
          obtain ⟨hT, k227, hv231, hg230⟩ := hp225
          have hF := hF.tr k227 (by decide)
          have c232 := k227.gi kC_at152 (by decide) c64
          have c233 := k227.gi (kC_el39 kC_at4 hj71) (by decide) c73
          obtain ⟨x228, c229, rx228, tx228⟩ := hg230
          replace hM := hM.call hv231 rfl
          refine lv_aload_n hx hb dX1_takeStep_63 rfl (lv_at hl 0 rfl) ?_
          refine lv_ifnull hx hb dX1_takeStep_64 ?_
          refine lv_aload_n hx hb dX1_takeStep_67 rfl (lv_at hl 1 rfl) ?_
          refine lv_aload_n hx hb dX1_takeStep_68 rfl (lv_at hl 2 rfl) ?_
          refine lv_aload_n hx hb dX1_takeStep_69 rfl (lv_at hl 0 rfl) ?_
          refine tk_Vi hC hK hw hT hA hE hSR kC_at149 (by decide) rfl (ky_X1_chooseDeed_1 l adK adV dC dI cy ad B hB0 (Int.le_trans hB1 (by decide)) qr s1   (el 39 4 j71) (kC_el39 kC_at4 hj71) w226 H.size hT ) (cwV 2 hC.2.2.2.2 uV_RX1_51 rfl rfl rfl (by decide +kernel) ⟨Nat.le_of_ble_eq_true rfl, Nat.le_of_ble_eq_true rfl⟩) rfl hl.1 rfl (Nat.le_of_ble_eq_true rfl) dX1_takeStep_70 (fun r234 w236 H locs hp235 hw => ?_)
          obtain ⟨hT, k237, hv243, hg242⟩ := hp235
          have hF := hF.tr k237 (by decide)
          have c244 := k237.gi kC_at152 (by decide) c232
          have c245 := k237.gi (kC_el39 kC_at4 hj71) (by decide) c233
          have c246 := k237.gi kC_at149 (by decide) c229
          rcases hg242 with ⟨x238, c239, rx238, tx238⟩ | ⟨g240, g241⟩
          · replace hM := hM.call hv243 rfl
            refine lv_goto (tgt := 88) hx hb dX1_takeStep_73 (by decide) ?_
            refine lv_istore_n (lv' := [(3, .int r234), (2, .ref (ad (el 39 4 j71))), (0, .ref (ad 149)), (1, .ref (ad 152))]) hx hb dX1_takeStep_88 rfl hl (by decide) rfl (fun ls hl => ?_)
            refine lv_iload_n hx hb dX1_takeStep_89 rfl (lv_at hl 0 rfl) ?_
            refine lv_if_ne (tgt := 105) hx hb dX1_takeStep_90 (by decide) (fun c247 => ?_) (fun c247 => ?_)
            · have c247 : ¬ r234.toInt = (0 : Int) := wk_eqF c247
              replace hM := hM.pos c247
              refine lv_iload_n hx hb dX1_takeStep_105 rfl (lv_at hl 0 rfl) ?_
              refine lv_iconst (v := 1) hx hb dX1_takeStep_106 (by decide) ?_
              refine lv_icmp_ne (tgt := 122) hx hb dX1_takeStep_107 (by decide) (fun c248 => ?_) (fun c248 => ?_)
              · have c248 : ¬ r234.toInt = (1 : Int) := wk_eqF c248
                replace hM := hM.pos c248
                refine lv_iload_n hx hb dX1_takeStep_122 rfl (lv_at hl 0 rfl) ?_
                refine lv_iconst (v := 2) hx hb dX1_takeStep_123 (by decide) ?_
                refine lv_icmp_ne (tgt := 145) hx hb dX1_takeStep_124 (by decide) (fun c249 => ?_) (fun c249 => ?_)
                · have c249 : ¬ r234.toInt = (2 : Int) := wk_eqF c249
                  replace hM := hM.pos c249
                  exact J145 r234 x228 x63 H locs ls w236 (show 0 ≤ x228.toInt by first | with_reducible assumption | omega) (show x228.toInt ≤ 999999 by first | with_reducible assumption | omega)  hw hT hF c246 c244 hM (lv_sub hl [2, 3, 0] rfl)
                · have c249 : r234.toInt = (2 : Int) := wk_eq.mp c249
                  replace hM := hM.neg (fun q => q c249)
                  refine lv_aload_n hx hb dX1_takeStep_127 rfl (lv_at hl 3 rfl) ?_
                  refine lv_aload_n hx hb dX1_takeStep_128 rfl (lv_at hl 3 rfl) ?_
                  refine tk_Vl hC hK hw hT hA hE hSR kC_at152 (by decide) rfl (ky_X9_dayNow_1 l adK adV dC dI cy ad B hB0 (Int.le_trans hB1 (by decide)) qr s1    w236 H.size hT ) (cwV 0 hC.2.2.2.2 uV_RX1_68 rfl rfl rfl (by decide +kernel) ⟨Nat.le_of_ble_eq_true rfl, Nat.le_of_ble_eq_true rfl⟩) rfl hl.1 rfl (Nat.le_of_ble_eq_true rfl) dX1_takeStep_129 (fun r250 w252 H locs hp251 hw => ?_)
                  obtain ⟨hT, k253, hv257, hg256⟩ := hp251
                  have hF := hF.tr k253 (by decide)
                  have c258 := k253.gi kC_at152 (by decide) c244
                  have c259 := k253.gi (kC_el39 kC_at4 hj71) (by decide) c245
                  have c260 := k253.gi kC_at149 (by decide) c246
                  have c261 := k253.gi (kC_el39 kC_at4 hj71) (by decide) c239
                  obtain ⟨g254, g255⟩ := hg256
                  replace hM := hM.call hv257 rfl
                  have hTq := hT
                  refine tk_putl hC hK hw hT hinX9 tyX9_ok nmX9 kC_at152 (by decide) rfl rfl 8 (by decide) (List.mem_cons_of_mem _ uw_42_8) rfl rfl rfl rfl (wk_i64 r250).1 (wk_i64 r250).2 dX1_takeStep_132 (fun H locs w262 hw hT k264 c263 => ?_)
                  replace hM := hM.wr (sL_upl hTq hT kC_at152 (kC_lt kC_at152) (by decide) rfl (by decide) k264 c263 rfl)
                  have hF := hF.put kC_at152 (k := 8) (by decide) k264
                  have c265 := k264.gi (Or.inr (by decide)) c258
                  have c266 := k264.gi (Or.inr (by decide)) c259
                  have c267 := k264.gi (Or.inl (tk_ne kC_at149 kC_at152 (by decide))) c260
                  have c268 := k264.gi (Or.inr (by decide)) c261
                  refine lv_aload_n hx hb dX1_takeStep_135 rfl (lv_at hl 3 rfl) ?_
                  refine lv_dup hx hb dX1_takeStep_136 rfl ?_
                  refine tk_geti hC hK hw hT hinX9 kC_at152 (by decide) rfl 6 (by decide) (List.mem_cons_of_mem _ uw_42_9) rfl rfl dX1_takeStep_137 (fun x269 c270 rx269 tx269 => ?_)
                  replace hM := hM.rd (sL_at (kC_lt kC_at152) c270)
                  refine lv_iconst (v := 1) hx hb dX1_takeStep_140 (by decide) ?_
                  refine lv_iadd hx hb dX1_takeStep_141 ?_
                  have nx271 := wk_i32 x269
                  refine lv_topi (fun x272 ex272 => ?_)
                  have ezx272 := ex272
                  replace hM := hM.lt (o32_e (f := fun x y => x + y) ezx272 rfl (by decide))
                  have hTq := hT
                  refine tk_puti hC hK hw hT hinX9 tyX9_ok nmX9 kC_at152 (by decide) rfl rfl 6 (by decide) (List.mem_cons_of_mem _ uw_42_9) rfl rfl rfl rfl (wk_i32 x272).1 (wk_i32 x272).2 dX1_takeStep_142 (fun H locs w273 hw hT k275 c274 => ?_)
                  replace hM := hM.wr (sL_upf hTq hT kC_at152 (kC_lt kC_at152) (by decide) rfl k275 c274 rfl)
                  have hF := hF.put kC_at152 (k := 6) (by decide) k275
                  have c276 := k275.gi (Or.inr (by decide)) c265
                  have c277 := k275.gi (Or.inr (by decide)) c266
                  have c278 := k275.gi (Or.inr (by decide)) c267
                  have c279 := k275.gi (Or.inr (by decide)) c268
                  have c280 := k275.gl (Or.inr (by decide)) c263
                  exact J145 r234 x228 x63 H locs ls w273 (show 0 ≤ x228.toInt by first | with_reducible assumption | omega) (show x228.toInt ≤ 999999 by first | with_reducible assumption | omega)  hw hT hF c278 c276 hM (lv_sub hl [2, 3, 0] rfl)
              · have c248 : r234.toInt = (1 : Int) := wk_eq.mp c248
                replace hM := hM.neg (fun q => q c248)
                refine lv_aload_n hx hb dX1_takeStep_110 rfl (lv_at hl 2 rfl) ?_
                refine lv_aload_n hx hb dX1_takeStep_111 rfl (lv_at hl 3 rfl) ?_
                refine lv_aload_n hx hb dX1_takeStep_112 rfl (lv_at hl 2 rfl) ?_
                refine tk_geti hC hK hw hT hinX1 kC_at149 (by decide) rfl 7 (by decide) (List.mem_cons_of_mem _ uw_42_7) rfl rfl dX1_takeStep_113 (fun x281 c282 rx281 tx281 => ?_)
                replace hM := hM.rd (sL_at (kC_lt kC_at149) c282)
                refine tk_Vv hC hK hw hT hA hE hSR kC_at149 (by decide) rfl (ky_X1_follow_1 l adK adV dC dI cy ad B hB0 (Int.le_trans hB1 (by decide)) qr s1   x281 (show (-1) ≤ x281.toInt from rx281) (show x281.toInt ≤ 11 from tx281) w236 H.size hT ) (cwV 2 hC.2.2.2.2 uV_RX1_61 rfl rfl rfl (by decide +kernel) ⟨Nat.le_of_ble_eq_true rfl, Nat.le_of_ble_eq_true rfl⟩) rfl hl.1 rfl (Nat.le_of_ble_eq_true rfl) dX1_takeStep_116 (fun w285 H locs hp284 hw => ?_)
                obtain ⟨hT, k286, hv288, hg287⟩ := hp284
                have hF := hF.tr k286 (by decide)
                have c289 := k286.gi kC_at152 (by decide) c244
                have c290 := k286.gi (kC_el39 kC_at4 hj71) (by decide) c245
                have c291 := k286.gi kC_at149 (by decide) c246
                have c292 := k286.gi (kC_el39 kC_at4 hj71) (by decide) c239
                have c293 := k286.gi kC_at149 (by decide) c282
                clear hg287
                replace hM := hM.call hv288 rfl
                refine lv_goto (tgt := 155) hx hb dX1_takeStep_119 (by decide) ?_
                exact J155 r234 x228 x63 H locs ls w285 (show 0 ≤ x228.toInt by first | with_reducible assumption | omega) (show x228.toInt ≤ 999999 by first | with_reducible assumption | omega)  hw hT hF c291 c289 hM (lv_sub hl [2, 3, 0] rfl)
            · have c247 : r234.toInt = (0 : Int) := wk_eq.mp c247
              replace hM := hM.neg (fun q => q c247)
              refine lv_aload_n hx hb dX1_takeStep_93 rfl (lv_at hl 2 rfl) ?_
              refine lv_aload_n hx hb dX1_takeStep_94 rfl (lv_at hl 3 rfl) ?_
              refine lv_aload_n hx hb dX1_takeStep_95 rfl (lv_at hl 2 rfl) ?_
              refine tk_geti hC hK hw hT hinX1 kC_at149 (by decide) rfl 5 (by decide) (List.mem_cons_of_mem _ uw_42_6) rfl rfl dX1_takeStep_96 (fun x294 c295 rx294 tx294 => ?_)
              replace hM := hM.rd (sL_at (kC_lt kC_at149) c295)
              refine tk_Vv hC hK hw hT hA hE hSR kC_at149 (by decide) rfl (ky_X1_follow_1 l adK adV dC dI cy ad B hB0 (Int.le_trans hB1 (by decide)) qr s1   x294 (show (-1) ≤ x294.toInt from rx294) (show x294.toInt ≤ 11 from tx294) w236 H.size hT ) (cwV 2 hC.2.2.2.2 uV_RX1_61 rfl rfl rfl (by decide +kernel) ⟨Nat.le_of_ble_eq_true rfl, Nat.le_of_ble_eq_true rfl⟩) rfl hl.1 rfl (Nat.le_of_ble_eq_true rfl) dX1_takeStep_99 (fun w298 H locs hp297 hw => ?_)
              obtain ⟨hT, k299, hv301, hg300⟩ := hp297
              have hF := hF.tr k299 (by decide)
              have c302 := k299.gi kC_at152 (by decide) c244
              have c303 := k299.gi (kC_el39 kC_at4 hj71) (by decide) c245
              have c304 := k299.gi kC_at149 (by decide) c246
              have c305 := k299.gi (kC_el39 kC_at4 hj71) (by decide) c239
              have c306 := k299.gi kC_at149 (by decide) c295
              clear hg300
              replace hM := hM.call hv301 rfl
              refine lv_goto (tgt := 155) hx hb dX1_takeStep_102 (by decide) ?_
              exact J155 r234 x228 x63 H locs ls w298 (show 0 ≤ x228.toInt by first | with_reducible assumption | omega) (show x228.toInt ≤ 999999 by first | with_reducible assumption | omega)  hw hT hF c304 c302 hM (lv_sub hl [2, 3, 0] rfl)
          · replace hM := hM.call hv243 rfl
            refine lv_goto (tgt := 88) hx hb dX1_takeStep_73 (by decide) ?_
            refine lv_istore_n (lv' := [(3, .int r234), (2, .ref (ad (el 39 4 j71))), (0, .ref (ad 149)), (1, .ref (ad 152))]) hx hb dX1_takeStep_88 rfl hl (by decide) rfl (fun ls hl => ?_)
            refine lv_iload_n hx hb dX1_takeStep_89 rfl (lv_at hl 0 rfl) ?_
            refine lv_if_ne (tgt := 105) hx hb dX1_takeStep_90 (by decide) (fun c307 => ?_) (fun c307 => ?_)
            · have c307 : ¬ r234.toInt = (0 : Int) := wk_eqF c307
              replace hM := hM.pos c307
              refine lv_iload_n hx hb dX1_takeStep_105 rfl (lv_at hl 0 rfl) ?_
              refine lv_iconst (v := 1) hx hb dX1_takeStep_106 (by decide) ?_
              refine lv_icmp_ne (tgt := 122) hx hb dX1_takeStep_107 (by decide) (fun c308 => ?_) (fun c308 => ?_)
              · have c308 : ¬ r234.toInt = (1 : Int) := wk_eqF c308
                replace hM := hM.pos c308
                refine lv_iload_n hx hb dX1_takeStep_122 rfl (lv_at hl 0 rfl) ?_
                refine lv_iconst (v := 2) hx hb dX1_takeStep_123 (by decide) ?_
                refine lv_icmp_ne (tgt := 145) hx hb dX1_takeStep_124 (by decide) (fun c309 => ?_) (fun c309 => ?_)
                · have c309 : ¬ r234.toInt = (2 : Int) := wk_eqF c309
                  replace hM := hM.pos c309
                  exact J145 r234 x228 x63 H locs ls w236 (show 0 ≤ x228.toInt by first | with_reducible assumption | omega) (show x228.toInt ≤ 999999 by first | with_reducible assumption | omega)  hw hT hF c246 c244 hM (lv_sub hl [2, 3, 0] rfl)
                · have c309 : r234.toInt = (2 : Int) := wk_eq.mp c309
                  replace hM := hM.neg (fun q => q c309)
                  refine lv_aload_n hx hb dX1_takeStep_127 rfl (lv_at hl 3 rfl) ?_
                  refine lv_aload_n hx hb dX1_takeStep_128 rfl (lv_at hl 3 rfl) ?_
                  refine tk_Vl hC hK hw hT hA hE hSR kC_at152 (by decide) rfl (ky_X9_dayNow_1 l adK adV dC dI cy ad B hB0 (Int.le_trans hB1 (by decide)) qr s1    w236 H.size hT ) (cwV 0 hC.2.2.2.2 uV_RX1_68 rfl rfl rfl (by decide +kernel) ⟨Nat.le_of_ble_eq_true rfl, Nat.le_of_ble_eq_true rfl⟩) rfl hl.1 rfl (Nat.le_of_ble_eq_true rfl) dX1_takeStep_129 (fun r310 w312 H locs hp311 hw => ?_)
                  obtain ⟨hT, k313, hv317, hg316⟩ := hp311
                  have hF := hF.tr k313 (by decide)
                  have c318 := k313.gi kC_at152 (by decide) c244
                  have c319 := k313.gi (kC_el39 kC_at4 hj71) (by decide) c245
                  have c320 := k313.gi kC_at149 (by decide) c246
                  obtain ⟨g314, g315⟩ := hg316
                  replace hM := hM.call hv317 rfl
                  have hTq := hT
                  refine tk_putl hC hK hw hT hinX9 tyX9_ok nmX9 kC_at152 (by decide) rfl rfl 8 (by decide) (List.mem_cons_of_mem _ uw_42_8) rfl rfl rfl rfl (wk_i64 r310).1 (wk_i64 r310).2 dX1_takeStep_132 (fun H locs w321 hw hT k323 c322 => ?_)
                  replace hM := hM.wr (sL_upl hTq hT kC_at152 (kC_lt kC_at152) (by decide) rfl (by decide) k323 c322 rfl)
                  have hF := hF.put kC_at152 (k := 8) (by decide) k323
                  have c324 := k323.gi (Or.inr (by decide)) c318
                  have c325 := k323.gi (Or.inr (by decide)) c319
                  have c326 := k323.gi (Or.inl (tk_ne kC_at149 kC_at152 (by decide))) c320
                  refine lv_aload_n hx hb dX1_takeStep_135 rfl (lv_at hl 3 rfl) ?_
                  refine lv_dup hx hb dX1_takeStep_136 rfl ?_
                  refine tk_geti hC hK hw hT hinX9 kC_at152 (by decide) rfl 6 (by decide) (List.mem_cons_of_mem _ uw_42_9) rfl rfl dX1_takeStep_137 (fun x327 c328 rx327 tx327 => ?_)
                  replace hM := hM.rd (sL_at (kC_lt kC_at152) c328)
                  refine lv_iconst (v := 1) hx hb dX1_takeStep_140 (by decide) ?_
                  refine lv_iadd hx hb dX1_takeStep_141 ?_
                  have nx329 := wk_i32 x327
                  refine lv_topi (fun x330 ex330 => ?_)
                  have ezx330 := ex330
                  replace hM := hM.lt (o32_e (f := fun x y => x + y) ezx330 rfl (by decide))
                  have hTq := hT
                  refine tk_puti hC hK hw hT hinX9 tyX9_ok nmX9 kC_at152 (by decide) rfl rfl 6 (by decide) (List.mem_cons_of_mem _ uw_42_9) rfl rfl rfl rfl (wk_i32 x330).1 (wk_i32 x330).2 dX1_takeStep_142 (fun H locs w331 hw hT k333 c332 => ?_)
                  replace hM := hM.wr (sL_upf hTq hT kC_at152 (kC_lt kC_at152) (by decide) rfl k333 c332 rfl)
                  have hF := hF.put kC_at152 (k := 6) (by decide) k333
                  have c334 := k333.gi (Or.inr (by decide)) c324
                  have c335 := k333.gi (Or.inr (by decide)) c325
                  have c336 := k333.gi (Or.inr (by decide)) c326
                  have c337 := k333.gl (Or.inr (by decide)) c322
                  exact J145 r234 x228 x63 H locs ls w331 (show 0 ≤ x228.toInt by first | with_reducible assumption | omega) (show x228.toInt ≤ 999999 by first | with_reducible assumption | omega)  hw hT hF c336 c334 hM (lv_sub hl [2, 3, 0] rfl)
              · have c308 : r234.toInt = (1 : Int) := wk_eq.mp c308
                replace hM := hM.neg (fun q => q c308)
                refine lv_aload_n hx hb dX1_takeStep_110 rfl (lv_at hl 2 rfl) ?_
                refine lv_aload_n hx hb dX1_takeStep_111 rfl (lv_at hl 3 rfl) ?_
                refine lv_aload_n hx hb dX1_takeStep_112 rfl (lv_at hl 2 rfl) ?_
                refine tk_geti hC hK hw hT hinX1 kC_at149 (by decide) rfl 7 (by decide) (List.mem_cons_of_mem _ uw_42_7) rfl rfl dX1_takeStep_113 (fun x338 c339 rx338 tx338 => ?_)
                replace hM := hM.rd (sL_at (kC_lt kC_at149) c339)
                refine tk_Vv hC hK hw hT hA hE hSR kC_at149 (by decide) rfl (ky_X1_follow_1 l adK adV dC dI cy ad B hB0 (Int.le_trans hB1 (by decide)) qr s1   x338 (show (-1) ≤ x338.toInt from rx338) (show x338.toInt ≤ 11 from tx338) w236 H.size hT ) (cwV 2 hC.2.2.2.2 uV_RX1_61 rfl rfl rfl (by decide +kernel) ⟨Nat.le_of_ble_eq_true rfl, Nat.le_of_ble_eq_true rfl⟩) rfl hl.1 rfl (Nat.le_of_ble_eq_true rfl) dX1_takeStep_116 (fun w342 H locs hp341 hw => ?_)
                obtain ⟨hT, k343, hv345, hg344⟩ := hp341
                have hF := hF.tr k343 (by decide)
                have c346 := k343.gi kC_at152 (by decide) c244
                have c347 := k343.gi (kC_el39 kC_at4 hj71) (by decide) c245
                have c348 := k343.gi kC_at149 (by decide) c246
                have c349 := k343.gi kC_at149 (by decide) c339
                clear hg344
                replace hM := hM.call hv345 rfl
                refine lv_goto (tgt := 155) hx hb dX1_takeStep_119 (by decide) ?_
                exact J155 r234 x228 x63 H locs ls w342 (show 0 ≤ x228.toInt by first | with_reducible assumption | omega) (show x228.toInt ≤ 999999 by first | with_reducible assumption | omega)  hw hT hF c348 c346 hM (lv_sub hl [2, 3, 0] rfl)
            · have c307 : r234.toInt = (0 : Int) := wk_eq.mp c307
              replace hM := hM.neg (fun q => q c307)
              refine lv_aload_n hx hb dX1_takeStep_93 rfl (lv_at hl 2 rfl) ?_
              refine lv_aload_n hx hb dX1_takeStep_94 rfl (lv_at hl 3 rfl) ?_
              refine lv_aload_n hx hb dX1_takeStep_95 rfl (lv_at hl 2 rfl) ?_
              refine tk_geti hC hK hw hT hinX1 kC_at149 (by decide) rfl 5 (by decide) (List.mem_cons_of_mem _ uw_42_6) rfl rfl dX1_takeStep_96 (fun x350 c351 rx350 tx350 => ?_)
              replace hM := hM.rd (sL_at (kC_lt kC_at149) c351)
              refine tk_Vv hC hK hw hT hA hE hSR kC_at149 (by decide) rfl (ky_X1_follow_1 l adK adV dC dI cy ad B hB0 (Int.le_trans hB1 (by decide)) qr s1   x350 (show (-1) ≤ x350.toInt from rx350) (show x350.toInt ≤ 11 from tx350) w236 H.size hT ) (cwV 2 hC.2.2.2.2 uV_RX1_61 rfl rfl rfl (by decide +kernel) ⟨Nat.le_of_ble_eq_true rfl, Nat.le_of_ble_eq_true rfl⟩) rfl hl.1 rfl (Nat.le_of_ble_eq_true rfl) dX1_takeStep_99 (fun w354 H locs hp353 hw => ?_)
              obtain ⟨hT, k355, hv357, hg356⟩ := hp353
              have hF := hF.tr k355 (by decide)
              have c358 := k355.gi kC_at152 (by decide) c244
              have c359 := k355.gi (kC_el39 kC_at4 hj71) (by decide) c245
              have c360 := k355.gi kC_at149 (by decide) c246
              have c361 := k355.gi kC_at149 (by decide) c351
              clear hg356
              replace hM := hM.call hv357 rfl
              refine lv_goto (tgt := 155) hx hb dX1_takeStep_102 (by decide) ?_
              exact J155 r234 x228 x63 H locs ls w354 (show 0 ≤ x228.toInt by first | with_reducible assumption | omega) (show x228.toInt ≤ 999999 by first | with_reducible assumption | omega)  hw hT hF c360 c358 hM (lv_sub hl [2, 3, 0] rfl)
  · replace hM := hM.call (r' := 1) hv62 (by decide)
    refine lv_if_eq (tgt := 9) hx hb dX1_takeStep_4 (by decide) (fun c => absurd c (by decide)) (fun _ => ?_)
    replace hM := hM.neg (by decide)
    refine lv_iconst (v := 4) hx hb dX1_takeStep_7 (by decide) ?_
    exact tk_iret hC hr hlocks hK ⟨(hT.up (show B ≤ (B + 9) by omega)), hF, hM.ret (by decide), (Or.inr rfl)⟩ hw dX1_takeStep_8
