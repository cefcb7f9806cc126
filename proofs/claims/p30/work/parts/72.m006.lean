abbrev P_X1_follow_4 (ad : Nat → Nat) (cy : Nat → ClassId) (B : Int) (qr : Nat) (s1 : Int)  (w0 : va_W) : va_W → Prop := fun u => TW ksC ad cy B qr s1 u ∧ FE ksC ([] : List (Nat × Nat × Nat)) w0 u ∧ ((True))
set_option maxHeartbeats 4000000 in
set_option maxRecDepth 100000 in
theorem k_X1_follow_4 (l : Launch) (adK adV : Nat → Nat) (dC : Nat → ClassId) (dI : Nat → Nat → Nat) (cy : Nat → ClassId) (ad : Nat → Nat) (B : Int) (hB0 : 2147483648 ≤ B) (hB1 : B ≤ 1152921504606846976) (qr : Nat) (s1 : Int)   (w0 : va_W) (sz : Nat) (hT : TW ksC ad cy B qr s1 w0)  : Met l yX1_follow (wu yX1_follow cX1_follow 4 none) ({ frames := 1, cells := 0, slots := 0, locals := 12 }) (va_Pc [.ref (ad 149), .ref (ad 152), .int (-1)] (wpreS adK adV dC dI cy sz w0)) (va_Qv (P_X1_follow_4 ad cy B qr s1  w0) (fun u : va_W => wpost dC dI cy (va_A w0 sz) u) (va_A w0 sz)) 0 0 (va_A w0 sz) := by
  refine Met.ofW (cc := cX1_follow) (maxL := 4) (ret := none) (by decide) rfl ?_
  intro p e s m args below meth c s₁ Bk hml hv
  obtain ⟨rfl, ⟨hsz, hP, hK, hD0⟩, hE, hSR⟩ := hv
  have hx := Bk.exec
  have hb := Bk.bytes
  have hr := Bk.returns
  have hlocks := Bk.notSynchronized
  have hC : CallFix p m c cX1_follow 4 s _ (wu yX1_follow cX1_follow 4 none) RX1 := ⟨hx, hb, hml, findClass_of_methodNamed Bk.named, atoms_spec (ws := (wu yX1_follow cX1_follow 4 none)) Bk.pre⟩
  subst hsz
  have hD := hD0.self (sz := s.heap.size)
  generalize hAe : va_A w0 s.heap.size = A at hD hE ⊢
  have hA : ∀ q : Nat, s.heap.size ≤ q → A q := fun q h => by rw [← hAe]; exact Or.inr h
  have hw : Wd dC dI A s.heap s.heap [] w0 := ⟨hP, hD, va_S.rf⟩
  have hF : FE ksC ([] : List (Nat × Nat × Nat)) w0 w0 := FE.rf
  have hl := lv_entry ([.ref (ad 149), .ref (ad 152), .int (-1)]) (n := 4) (Nat.le_of_ble_eq_true rfl)
  rw [lg_entry_eq]
  generalize (lg_sl ([.ref (ad 149), .ref (ad 152), .int (-1)]) ++ List.replicate (4 - (lg_sl ([.ref (ad 149), .ref (ad 152), .int (-1)])).length) Slot.unset).toArray = ls at hl ⊢
  have hl : lv_has ls 4 [(0, .ref (ad 149)), (1, .ref (ad 152)), (2, .int (-1))] := hl
  generalize hloc : ([] : List Loc) = locs at hw ⊢
  refine lv_iload_n hx hb dX1_follow_0 rfl (lv_at hl 2 rfl) ?_
  refine lv_iconst (v := (-1)) hx hb dX1_follow_1 (by decide) ?_
  refine lv_icmp_ne (tgt := 6) hx hb dX1_follow_2 (by decide) (fun c => absurd (by decide) c) (fun _ => ?_)
  exact tk_vret hC hr hlocks hK ⟨hT, hF, trivial⟩ hw dX1_follow_5
abbrev P_X1_lookAround_4 (ad : Nat → Nat) (cy : Nat → ClassId) (B : Int) (qr : Nat) (s1 : Int)  (w0 : va_W) : va_W → Prop := fun u => TW ksC ad cy B qr s1 u ∧ FE ksC [(1, 5, 5), (1, 6, 6), (1, 7, 7), (1, 8, 8)] w0 u ∧ (((∃ y : Int32, gi u 149 8 = y ∧ 0 ≤ y.toInt ∧ y.toInt ≤ 999999)))
set_option maxHeartbeats 4000000 in
set_option maxRecDepth 100000 in
theorem k_X1_lookAround_4 (l : Launch) (adK adV : Nat → Nat) (dC : Nat → ClassId) (dI : Nat → Nat → Nat) (cy : Nat → ClassId) (ad : Nat → Nat) (B : Int) (hB0 : 2147483648 ≤ B) (hB1 : B ≤ 1152921504606846976) (qr : Nat) (s1 : Int)   (w0 : va_W) (sz : Nat) (hT : TW ksC ad cy B qr s1 w0)  : Met l yX1_lookAround (wu yX1_lookAround cX1_lookAround 5 none) ({ frames := 4, cells := 0, slots := 0, locals := 88 }) (va_Pc [.ref (ad 149), .ref (ad 152), .int 1] (wpreS adK adV dC dI cy sz w0)) (va_Qv (P_X1_lookAround_4 ad cy B qr s1  w0) (fun u : va_W => wpost dC dI cy (va_A w0 sz) u) (va_A w0 sz)) 0 0 (va_A w0 sz) := by
  refine Met.ofW (cc := cX1_lookAround) (maxL := 5) (ret := none) (by decide) rfl ?_
  intro p e s m args below meth c s₁ Bk hml hv
  obtain ⟨rfl, ⟨hsz, hP, hK, hD0⟩, hE, hSR⟩ := hv
  have hx := Bk.exec
  have hb := Bk.bytes
  have hr := Bk.returns
  have hlocks := Bk.notSynchronized
  have hC : CallFix p m c cX1_lookAround 5 s _ (wu yX1_lookAround cX1_lookAround 5 none) RX1 := ⟨hx, hb, hml, findClass_of_methodNamed Bk.named, atoms_spec (ws := (wu yX1_lookAround cX1_lookAround 5 none)) Bk.pre⟩
  subst hsz
  have hD := hD0.self (sz := s.heap.size)
  generalize hAe : va_A w0 s.heap.size = A at hD hE ⊢
  have hA : ∀ q : Nat, s.heap.size ≤ q → A q := fun q h => by rw [← hAe]; exact Or.inr h
  have hw : Wd dC dI A s.heap s.heap [] w0 := ⟨hP, hD, va_S.rf⟩
  have hF : FE ksC [(1, 5, 5), (1, 6, 6), (1, 7, 7), (1, 8, 8)] w0 w0 := FE.rf
  have hl := lv_entry ([.ref (ad 149), .ref (ad 152), .int 1]) (n := 5) (Nat.le_of_ble_eq_true rfl)
  rw [lg_entry_eq]
  generalize (lg_sl ([.ref (ad 149), .ref (ad 152), .int 1]) ++ List.replicate (5 - (lg_sl ([.ref (ad 149), .ref (ad 152), .int 1])).length) Slot.unset).toArray = ls at hl ⊢
  have hl : lv_has ls 5 [(0, .ref (ad 149)), (1, .ref (ad 152)), (2, .int 1)] := hl
  generalize hloc : ([] : List Loc) = locs at hw ⊢
  have hinX1 : ∀ w ∈ u_ws RX1 TX1 10, w ∈ (wu yX1_lookAround cX1_lookAround 5 none) := fun _ h => List.mem_cons_of_mem _ (up_78 h)
  have hinX5 : ∀ w ∈ u_ws RX5 TX5 14, w ∈ (wu yX1_lookAround cX1_lookAround 5 none) := fun _ h => List.mem_cons_of_mem _ (up_76 h)
  have hinX7 : ∀ w ∈ u_ws RX7 TX7 12, w ∈ (wu yX1_lookAround cX1_lookAround 5 none) := fun _ h => List.mem_cons_of_mem _ (up_73 h)
  have hinX9 : ∀ w ∈ u_ws RX9 TX9 9, w ∈ (wu yX1_lookAround cX1_lookAround 5 none) := fun _ h => List.mem_cons_of_mem _ (up_82 h)
  have J159 : ∀ (v159_3 : Int32) (v159_4 : Int32) (f159_149_5 : Int32) (f159_149_6 : Int32) (f159_149_7 : Int32) (f159_149_8 : Int32) (f159_152_0 : Int32) (f159_152_1 : Int32) (H : Heap) (locs : List Loc) (ls : Array Slot) (w1 : va_W), 0 ≤ v159_3.toInt → v159_3.toInt ≤ 10 → 0 ≤ v159_4.toInt → v159_4.toInt ≤ 12 → (-1) ≤ f159_149_5.toInt → f159_149_5.toInt ≤ 11 → 0 ≤ f159_149_6.toInt → f159_149_6.toInt ≤ 1 → (-1) ≤ f159_149_7.toInt → f159_149_7.toInt ≤ 11 → 0 ≤ f159_149_8.toInt → f159_149_8.toInt ≤ 999999 → 0 ≤ f159_152_0.toInt → f159_152_0.toInt ≤ 9 → 0 ≤ f159_152_1.toInt → f159_152_1.toInt ≤ 9 → Wd dC dI A s.heap H locs w1 → TW ksC ad cy B qr s1 w1 → FE ksC [(1, 5, 5), (1, 6, 6), (1, 7, 7), (1, 8, 8)] w0 w1 → gi w1 149 5 = f159_149_5 → gi w1 149 6 = f159_149_6 → gi w1 149 7 = f159_149_7 → gi w1 149 8 = f159_149_8 → gi w1 152 0 = f159_152_0 → gi w1 152 1 = f159_152_1 → lv_has ls 5 [(0, .ref (ad 149)), (1, .ref (ad 152)), (2, .int 1), (3, .int v159_3), (4, .int v159_4)] → W p l e ({ frames := 4, cells := 0, slots := 0, locals := 88 }) s m (List.toArray [.ref (ad 149), .ref (ad 152), .int 1]) below meth c H locs 0 0 (MQ below (va_Qv (P_X1_lookAround_4 ad cy B qr s1  w0) (fun u : va_W => wpost dC dI cy A u) A) (List.toArray [.ref (ad 149), .ref (ad 152), .int 1]) s 0 0 A) (F0 m 159 ls []) := by
    intro v159_3 v159_4 f159_149_5 f159_149_6 f159_149_7 f159_149_8 f159_152_0 f159_152_1 H locs ls w1 r2 t3 r4 t5 r6 t7 r9 t10 r12 t13 r15 t16 r18 t19 r21 t22 hw hT hF c8 c11 c14 c17 c20 c23 hl
    exact tk_vret hC hr hlocks hK ⟨hT, hF, ⟨f159_149_8, c17, (show 0 ≤ f159_149_8.toInt from r15), (show f159_149_8.toInt ≤ 999999 from t16)⟩⟩ hw dX1_lookAround_159
  have L110 : ∀ (n110 : Nat) (v110_3 : Int32) (v110_4 : Int32) (f110_149_5 : Int32) (f110_149_6 : Int32) (f110_149_7 : Int32) (f110_149_8 : Int32) (f110_152_0 : Int32) (f110_152_1 : Int32) (H : Heap) (locs : List Loc) (ls : Array Slot) (w24 : va_W), 0 ≤ v110_3.toInt → v110_3.toInt ≤ 10 → 0 ≤ v110_4.toInt → v110_4.toInt ≤ 12 → (-1) ≤ f110_149_5.toInt → f110_149_5.toInt ≤ 11 → 0 ≤ f110_149_6.toInt → f110_149_6.toInt ≤ 1 → (-1) ≤ f110_149_7.toInt → f110_149_7.toInt ≤ 11 → 0 ≤ f110_149_8.toInt → f110_149_8.toInt ≤ 999999 → 0 ≤ f110_152_0.toInt → f110_152_0.toInt ≤ 9 → 0 ≤ f110_152_1.toInt → f110_152_1.toInt ≤ 9 → (12 - v110_4.toInt).toNat < n110 → Wd dC dI A s.heap H locs w24 → TW ksC ad cy B qr s1 w24 → FE ksC [(1, 5, 5), (1, 6, 6), (1, 7, 7), (1, 8, 8)] w0 w24 → gi w24 149 5 = f110_149_5 → gi w24 149 6 = f110_149_6 → gi w24 149 7 = f110_149_7 → gi w24 149 8 = f110_149_8 → gi w24 152 0 = f110_152_0 → gi w24 152 1 = f110_152_1 → lv_has ls 5 [(0, .ref (ad 149)), (1, .ref (ad 152)), (2, .int 1), (3, .int v110_3), (4, .int v110_4)] → W p l e ({ frames := 4, cells := 0, slots := 0, locals := 88 }) s m (List.toArray [.ref (ad 149), .ref (ad 152), .int 1]) below meth c H locs 0 0 (MQ below (va_Qv (P_X1_lookAround_4 ad cy B qr s1  w0) (fun u : va_W => wpost dC dI cy A u) A) (List.toArray [.ref (ad 149), .ref (ad 152), .int 1]) s 0 0 A) (F0 m 110 ls []) := by
    intro n110
    induction n110 with
    | zero => intro v110_3 v110_4 f110_149_5 f110_149_6 f110_149_7 f110_149_8 f110_152_0 f110_152_1 H locs ls w24 r25 t26 r27 t28 r29 t30 r32 t33 r35 t36 r38 t39 r41 t42 r44 t45 hm110 hw hT hF c31 c34 c37 c40 c43 c46 hl; omega
    | succ n110 ih110 =>
      intro v110_3 v110_4 f110_149_5 f110_149_6 f110_149_7 f110_149_8 f110_152_0 f110_152_1 H locs ls w24 r25 t26 r27 t28 r29 t30 r32 t33 r35 t36 r38 t39 r41 t42 r44 t45 hm110 hw hT hF c31 c34 c37 c40 c43 c46 hl
      have J153 : ∀ (f153_149_7 : Int32) (f153_39_9 : Int32) (H : Heap) (locs : List Loc) (ls : Array Slot) (w47 : va_W), 0 ≤ v110_3.toInt → v110_3.toInt ≤ 10 → 0 ≤ v110_4.toInt → v110_4.toInt ≤ 11 → (-1) ≤ f110_149_5.toInt → f110_149_5.toInt ≤ 11 → 0 ≤ f110_149_6.toInt → f110_149_6.toInt ≤ 1 → (-1) ≤ f153_149_7.toInt → f153_149_7.toInt ≤ 11 → 0 ≤ f110_149_8.toInt → f110_149_8.toInt ≤ 999999 → 0 ≤ f110_152_0.toInt → f110_152_0.toInt ≤ 9 → 0 ≤ f110_152_1.toInt → f110_152_1.toInt ≤ 9 → 1 ≤ f153_39_9.toInt → f153_39_9.toInt ≤ 12 → Wd dC dI A s.heap H locs w47 → TW ksC ad cy B qr s1 w47 → FE ksC [(1, 5, 5), (1, 6, 6), (1, 7, 7), (1, 8, 8)] w0 w47 → gi w47 149 5 = f110_149_5 → gi w47 149 6 = f110_149_6 → gi w47 149 7 = f153_149_7 → gi w47 149 8 = f110_149_8 → gi w47 152 0 = f110_152_0 → gi w47 152 1 = f110_152_1 → gi w47 39 9 = f153_39_9 → lv_has ls 5 [(0, .ref (ad 149)), (1, .ref (ad 152)), (2, .int 1), (3, .int v110_3), (4, .int v110_4)] → W p l e ({ frames := 4, cells := 0, slots := 0, locals := 88 }) s m (List.toArray [.ref (ad 149), .ref (ad 152), .int 1]) below meth c H locs 0 0 (MQ below (va_Qv (P_X1_lookAround_4 ad cy B qr s1  w0) (fun u : va_W => wpost dC dI cy A u) A) (List.toArray [.ref (ad 149), .ref (ad 152), .int 1]) s 0 0 A) (F0 m 153 ls []) := by
        intro f153_149_7 f153_39_9 H locs ls w47 r48 t49 r50 t51 r52 t53 r55 t56 r58 t59 r61 t62 r64 t65 r67 t68 r70 t71 hw hT hF c54 c57 c60 c63 c66 c69 c72 hl
        obtain ⟨x73, ex73⟩ : ∃ y : Int32, y = v110_4 + Int32.ofInt 1 := ⟨_, rfl⟩
        refine lv_iinc (v := x73) (lv' := [(4, .int x73), (0, .ref (ad 149)), (1, .ref (ad 152)), (2, .int 1), (3, .int v110_3)]) hx hb dX1_lookAround_153 hl (k := 4) rfl ex73.symm (by decide) rfl (fun ls hl => ?_)
        have ex73 : x73.toInt = v110_4.toInt + 1 := by rw [ex73]; exact wk_add (y := 1) (show -2147483648 ≤ v110_4.toInt + 1 by omega) (show v110_4.toInt + 1 ≤ 2147483647 by omega)
        refine lv_goto (tgt := 110) hx hb dX1_lookAround_156 (by decide) ?_
        exact ih110 v110_3 x73 f110_149_5 f110_149_6 f153_149_7 f110_149_8 f110_152_0 f110_152_1 H locs ls w47 (show 0 ≤ v110_3.toInt from r48) (show v110_3.toInt ≤ 10 from t49) (show 0 ≤ x73.toInt by first | with_reducible assumption | omega) (show x73.toInt ≤ 12 by first | with_reducible assumption | omega) (show (-1) ≤ f110_149_5.toInt from r52) (show f110_149_5.toInt ≤ 11 from t53) (show 0 ≤ f110_149_6.toInt from r55) (show f110_149_6.toInt ≤ 1 from t56) (show (-1) ≤ f153_149_7.toInt from r58) (show f153_149_7.toInt ≤ 11 from t59) (show 0 ≤ f110_149_8.toInt from r61) (show f110_149_8.toInt ≤ 999999 from t62) (show 0 ≤ f110_152_0.toInt from r64) (show f110_152_0.toInt ≤ 9 from t65) (show 0 ≤ f110_152_1.toInt from r67) (show f110_152_1.toInt ≤ 9 from t68) (show (12 - x73.toInt).toNat < n110 by first | exact tn_lt hm110 (by omega) (by omega) | omega) hw hT hF c54 c57 c60 c63 c66 c69 (lv_sub hl [1, 2, 3, 4, 0] rfl)
      refine lv_iload_n hx hb dX1_lookAround_110 rfl (lv_at hl 2 rfl) ?_
      refine lv_if_eq (tgt := 159) hx hb dX1_lookAround_111 (by decide) (fun c => absurd c (by decide)) (fun _ => ?_)
      refine lv_aload_n hx hb dX1_lookAround_114 rfl (lv_at hl 0 rfl) ?_
      refine tk_geti hC hK hw hT hinX1 kC_at149 (by decide) rfl 7 (by decide) (List.mem_cons_of_mem _ uw_42_7) rfl rfl dX1_lookAround_115 (fun x74 c75 rx74 tx74 => ?_)
      refine wk_top f110_149_7 (c75.symm.trans c37) ?_
      refine lv_iconst (v := (-1)) hx hb dX1_lookAround_118 (by decide) ?_
      refine lv_icmp_ne (tgt := 159) hx hb dX1_lookAround_119 (by decide) (fun c76 => ?_) (fun c76 => ?_)
      · have c76 : ¬ f110_149_7.toInt = (-1 : Int) := wk_eqF c76
        exact J159 v110_3 v110_4 f110_149_5 f110_149_6 f110_149_7 f110_149_8 f110_152_0 f110_152_1 H locs ls w24 (show 0 ≤ v110_3.toInt from r25) (show v110_3.toInt ≤ 10 from t26) (show 0 ≤ v110_4.toInt from r27) (show v110_4.toInt ≤ 12 from t28) (show (-1) ≤ f110_149_5.toInt from r29) (show f110_149_5.toInt ≤ 11 from t30) (show 0 ≤ f110_149_6.toInt from r32) (show f110_149_6.toInt ≤ 1 from t33) (show (-1) ≤ f110_149_7.toInt from r35) (show f110_149_7.toInt ≤ 11 from t36) (show 0 ≤ f110_149_8.toInt from r38) (show f110_149_8.toInt ≤ 999999 from t39) (show 0 ≤ f110_152_0.toInt from r41) (show f110_152_0.toInt ≤ 9 from t42) (show 0 ≤ f110_152_1.toInt from r44) (show f110_152_1.toInt ≤ 9 from t45)  hw hT hF c31 c34 c37 c40 c43 c46 (lv_sub hl [0, 1, 2, 3, 4] rfl)
      · have c76 : f110_149_7.toInt = (-1 : Int) := wk_eq.mp c76
        refine lv_iload hx hb dX1_lookAround_122 (lv_at hl 4 rfl) ?_
        refine lv_aload_n hx hb dX1_lookAround_124 rfl (lv_at hl 0 rfl) ?_
        refine tk_getA hC hK hw hT hinX1 kC_at149 (by decide) rfl 0 (by decide) (List.mem_cons_of_mem _ uw_5_0) rfl rfl dX1_lookAround_125 ?_
        refine tk_getO hC hK hw hT hinX5 kC_at38 (by decide) rfl 0 (by decide) (List.mem_cons_of_mem _ uw_43_2) rfl rfl dX1_lookAround_128 ?_
        refine tk_geti hC hK hw hT hinX7 kC_at39 (by decide) rfl 9 (by decide) (List.mem_cons_of_mem _ uw_43_3) rfl rfl dX1_lookAround_131 (fun x77 c78 rx77 tx77 => ?_)
        refine lv_icmp_ge (tgt := 159) hx hb dX1_lookAround_134 (by decide) (fun c79 => ?_) (fun c79 => ?_)
        · have c79 : x77.toInt ≤ v110_4.toInt := wk_le.mp c79
          exact J159 v110_3 v110_4 f110_149_5 f110_149_6 f110_149_7 f110_149_8 f110_152_0 f110_152_1 H locs ls w24 (show 0 ≤ v110_3.toInt from r25) (show v110_3.toInt ≤ 10 from t26) (show 0 ≤ v110_4.toInt from r27) (show v110_4.toInt ≤ 12 from t28) (show (-1) ≤ f110_149_5.toInt from r29) (show f110_149_5.toInt ≤ 11 from t30) (show 0 ≤ f110_149_6.toInt from r32) (show f110_149_6.toInt ≤ 1 from t33) (show (-1) ≤ f110_149_7.toInt from r35) (show f110_149_7.toInt ≤ 11 from t36) (show 0 ≤ f110_149_8.toInt from r38) (show f110_149_8.toInt ≤ 999999 from t39) (show 0 ≤ f110_152_0.toInt from r41) (show f110_152_0.toInt ≤ 9 from t42) (show 0 ≤ f110_152_1.toInt from r44) (show f110_152_1.toInt ≤ 9 from t45)  hw hT hF c31 c34 c37 c40 c43 c46 (lv_sub hl [0, 1, 2, 3, 4] rfl)
        · have c79 : v110_4.toInt < x77.toInt := wk_leF c79
          refine lv_aload_n hx hb dX1_lookAround_137 rfl (lv_at hl 0 rfl) ?_
          refine lv_aload_n hx hb dX1_lookAround_138 rfl (lv_at hl 1 rfl) ?_
          refine lv_iload hx hb dX1_lookAround_139 (lv_at hl 4 rfl) ?_
          refine tk_Vi hC hK hw hT hA hE hSR kC_at149 (by decide) rfl (k_X1_isOpenFor_2 l adK adV dC dI cy ad B hB0 (Int.le_trans hB1 (by decide)) qr s1   v110_4 (show 0 ≤ v110_4.toInt from r27) (show v110_4.toInt ≤ 11 by first | with_reducible assumption | omega) w24 H.size hT ) (cwV 2 hC.2.2.2.2 uV_RX1_110 rfl rfl rfl (by decide +kernel) ⟨Nat.le_of_ble_eq_true rfl, Nat.le_of_ble_eq_true rfl⟩) rfl hl.1 rfl (Nat.le_of_ble_eq_true rfl) dX1_lookAround_141 (fun r80 w82 H locs hp81 hw => ?_)
          obtain ⟨hT, k83, hg86⟩ := hp81
          have hF := hF.tr k83 (by decide)
          have c87 := k83.gi kC_at149 (by decide) c31
          have c88 := k83.gi kC_at149 (by decide) c34
          have c89 := k83.gi kC_at149 (by decide) c37
          have c90 := k83.gi kC_at149 (by decide) c40
          have c91 := k83.gi kC_at152 (by decide) c43
          have c92 := k83.gi kC_at152 (by decide) c46
          have c93 := k83.gi kC_at39 (by decide) c78
          rcases hg86 with rfl | ⟨rfl, ⟨x84, c85, rx84, tx84⟩⟩
          · refine lv_if_eq (tgt := 153) hx hb dX1_lookAround_144 (by decide) (fun _ => ?_) (fun c => absurd (by decide) c)
            exact J153 f110_149_7 x77 H locs ls w82 (show 0 ≤ v110_3.toInt from r25) (show v110_3.toInt ≤ 10 from t26) (show 0 ≤ v110_4.toInt from r27) (show v110_4.toInt ≤ 11 by first | with_reducible assumption | omega) (show (-1) ≤ f110_149_5.toInt from r29) (show f110_149_5.toInt ≤ 11 from t30) (show 0 ≤ f110_149_6.toInt from r32) (show f110_149_6.toInt ≤ 1 from t33) (show (-1) ≤ f110_149_7.toInt from r35) (show f110_149_7.toInt ≤ 11 from t36) (show 0 ≤ f110_149_8.toInt from r38) (show f110_149_8.toInt ≤ 999999 from t39) (show 0 ≤ f110_152_0.toInt from r41) (show f110_152_0.toInt ≤ 9 from t42) (show 0 ≤ f110_152_1.toInt from r44) (show f110_152_1.toInt ≤ 9 from t45) (show 1 ≤ x77.toInt by first | with_reducible assumption | omega) (show x77.toInt ≤ 12 from tx77)  hw hT hF c87 c88 c89 c90 c91 c92 c93 (lv_sub hl [0, 1, 2, 3, 4] rfl)
          · refine lv_if_eq (tgt := 153) hx hb dX1_lookAround_144 (by decide) (fun c => absurd c (by decide)) (fun _ => ?_)
            refine lv_aload_n hx hb dX1_lookAround_147 rfl (lv_at hl 0 rfl) ?_
            refine lv_iload hx hb dX1_lookAround_148 (lv_at hl 4 rfl) ?_
            refine tk_puti hC hK hw hT hinX1 tyX1_ok nmX1 kC_at149 (by decide) rfl rfl 7 (by decide) (List.mem_cons_of_mem _ uw_42_7) rfl rfl rfl rfl (show (-1) ≤ v110_4.toInt from Int.le_trans (by decide) r27) (show v110_4.toInt ≤ 11 by first | with_reducible assumption | omega) dX1_lookAround_150 (fun H locs w94 hw hT k96 c95 => ?_)
            have hF := hF.put kC_at149 (k := 7) (by decide) k96
            have c97 := k96.gi (Or.inr (by decide)) c87
            have c98 := k96.gi (Or.inr (by decide)) c88
            have c99 := k96.gi (Or.inr (by decide)) c90
            have c100 := k96.gi (Or.inr (by decide)) c91
            have c101 := k96.gi (Or.inr (by decide)) c92
            have c102 := k96.gi (Or.inr (by decide)) c93
            have c103 := k96.gi (Or.inr (by decide)) c85
            exact J153 v110_4 x77 H locs ls w94 (show 0 ≤ v110_3.toInt from r25) (show v110_3.toInt ≤ 10 from t26) (show 0 ≤ v110_4.toInt from r27) (show v110_4.toInt ≤ 11 by first | with_reducible assumption | omega) (show (-1) ≤ f110_149_5.toInt from r29) (show f110_149_5.toInt ≤ 11 from t30) (show 0 ≤ f110_149_6.toInt from r32) (show f110_149_6.toInt ≤ 1 from t33) (show (-1) ≤ v110_4.toInt from Int.le_trans (by decide) r27) (show v110_4.toInt ≤ 11 by first | with_reducible assumption | omega) (show 0 ≤ f110_149_8.toInt from r38) (show f110_149_8.toInt ≤ 999999 from t39) (show 0 ≤ f110_152_0.toInt from r41) (show f110_152_0.toInt ≤ 9 from t42) (show 0 ≤ f110_152_1.toInt from r44) (show f110_152_1.toInt ≤ 9 from t45) (show 1 ≤ x77.toInt by first | with_reducible assumption | omega) (show x77.toInt ≤ 12 from tx77)  hw hT hF c97 c98 c95 c99 c100 c101 c102 (lv_sub hl [0, 1, 2, 3, 4] rfl)
  have J24 : ∀ (H : Heap) (locs : List Loc) (ls : Array Slot) (w104 : va_W), Wd dC dI A s.heap H locs w104 → TW ksC ad cy B qr s1 w104 → FE ksC [(1, 5, 5), (1, 6, 6), (1, 7, 7), (1, 8, 8)] w0 w104 → lv_has ls 5 [(0, .ref (ad 149)), (1, .ref (ad 152)), (2, .int 1)] → W p l e ({ frames := 4, cells := 0, slots := 0, locals := 88 }) s m (List.toArray [.ref (ad 149), .ref (ad 152), .int 1]) below meth c H locs 0 0 (MQ below (va_Qv (P_X1_lookAround_4 ad cy B qr s1  w0) (fun u : va_W => wpost dC dI cy A u) A) (List.toArray [.ref (ad 149), .ref (ad 152), .int 1]) s 0 0 A) (F0 m 24 ls []) := by
    intro H locs ls w104 hw hT hF hl
    refine lv_aload_n hx hb dX1_lookAround_24 rfl (lv_at hl 1 rfl) ?_
    refine tk_geti hC hK hw hT hinX9 kC_at152 (by decide) rfl 2 (by decide) (List.mem_cons_of_mem _ uw_42_21) rfl rfl dX1_lookAround_25 (fun x105 c106 rx105 tx105 => ?_)
    refine lv_istore_n (lv' := [(3, .int x105), (0, .ref (ad 149)), (1, .ref (ad 152)), (2, .int 1)]) hx hb dX1_lookAround_28 rfl hl (by decide) rfl (fun ls hl => ?_)
    refine lv_aload_n hx hb dX1_lookAround_29 rfl (lv_at hl 1 rfl) ?_
    refine lv_aload_n hx hb dX1_lookAround_30 rfl (lv_at hl 1 rfl) ?_
    refine tk_getA hC hK hw hT hinX1 kC_at149 (by decide) rfl 1 (by decide) (List.mem_cons_of_mem _ uw_5_1) rfl rfl dX1_lookAround_31 ?_
    refine lv_iload_n hx hb dX1_lookAround_34 rfl (lv_at hl 0 rfl) ?_
    refine lv_aload_n hx hb dX1_lookAround_35 rfl (lv_at hl 2 rfl) ?_
    refine tk_geti hC hK hw hT hinX9 kC_at152 (by decide) rfl 0 (by decide) (List.mem_cons_of_mem _ uw_42_22) rfl rfl dX1_lookAround_36 (fun x107 c108 rx107 tx107 => ?_)
    refine lv_aload_n hx hb dX1_lookAround_39 rfl (lv_at hl 2 rfl) ?_
    refine tk_geti hC hK hw hT hinX9 kC_at152 (by decide) rfl 1 (by decide) (List.mem_cons_of_mem _ uw_42_23) rfl rfl dX1_lookAround_40 (fun x109 c110 rx109 tx109 => ?_)
    refine tk_Vi hC hK hw hT hA hE hSR kC_at145 (by decide) rfl (k_X0_streetBy_1 l adK adV dC dI cy ad B hB0 (Int.le_trans hB1 (by decide)) qr s1   x105 (show 0 ≤ x105.toInt from rx105) (show x105.toInt ≤ 3 from tx105) x107 (show 0 ≤ x107.toInt from rx107) (show x107.toInt ≤ 9 from tx107) x109 (show 0 ≤ x109.toInt from rx109) (show x109.toInt ≤ 9 from tx109) w104 H.size hT ) (cwV 3 hC.2.2.2.2 uV_RX1_106 rfl rfl rfl (by decide +kernel) ⟨Nat.le_of_ble_eq_true rfl, Nat.le_of_ble_eq_true rfl⟩) rfl hl.1 rfl (Nat.le_of_ble_eq_true rfl) dX1_lookAround_43 (fun r111 w113 H locs hp112 hw => ?_)
    obtain ⟨hT, k114, hg117⟩ := hp112
    have hF := hF.tr k114 (by decide)
    have c118 := k114.gi kC_at152 (by decide) c106
    have c119 := k114.gi kC_at152 (by decide) c108
    have c120 := k114.gi kC_at152 (by decide) c110
    obtain ⟨g115, g116⟩ := hg117
    refine tk_puti hC hK hw hT hinX1 tyX1_ok nmX1 kC_at149 (by decide) rfl rfl 5 (by decide) (List.mem_cons_of_mem _ uw_42_6) rfl rfl rfl rfl (show (-1) ≤ r111.toInt by first | with_reducible assumption | omega) (show r111.toInt ≤ 11 by first | with_reducible assumption | omega) dX1_lookAround_46 (fun H locs w121 hw hT k123 c122 => ?_)
    have hF := hF.put kC_at149 (k := 5) (by decide) k123
    have c124 := k123.gi (Or.inr (by decide)) c118
    have c125 := k123.gi (Or.inr (by decide)) c119
    have c126 := k123.gi (Or.inr (by decide)) c120
    refine lv_aload_n hx hb dX1_lookAround_49 rfl (lv_at hl 1 rfl) ?_
    refine lv_aload_n hx hb dX1_lookAround_50 rfl (lv_at hl 1 rfl) ?_
    refine tk_geti hC hK hw hT hinX1 kC_at149 (by decide) rfl 5 (by decide) (List.mem_cons_of_mem _ uw_42_6) rfl rfl dX1_lookAround_51 (fun x127 c128 rx127 tx127 => ?_)
    refine wk_top r111 (c128.symm.trans c122) ?_
    refine lv_iconst (v := (-1)) hx hb dX1_lookAround_54 (by decide) ?_
    refine lv_icmp_eq (tgt := 74) hx hb dX1_lookAround_55 (by decide) (fun c129 => ?_) (fun c129 => ?_)
    · have c129 : r111.toInt = (-1 : Int) := wk_eq.mp c129
      refine lv_iconst (v := 0) hx hb dX1_lookAround_74 (by decide) ?_
      refine tk_putz hC hK hw hT hinX1 tyX1_ok nmX1 kC_at149 (by decide) rfl rfl 6 (by decide) (List.mem_cons_of_mem _ uw_42_5) rfl rfl rfl rfl (by decide) (by decide) dX1_lookAround_75 (fun H locs w130 hw hT k132 c131 => ?_)
      have hF := hF.put kC_at149 (k := 6) (by decide) k132
      have c133 := k132.gi (Or.inr (by decide)) c124
      have c134 := k132.gi (Or.inr (by decide)) c125
      have c135 := k132.gi (Or.inr (by decide)) c126
      have c136 := k132.gi (Or.inr (by decide)) c122
      refine lv_aload_n hx hb dX1_lookAround_78 rfl (lv_at hl 1 rfl) ?_
      refine lv_iconst (v := 0) hx hb dX1_lookAround_79 (by decide) ?_
      refine lv_aload_n hx hb dX1_lookAround_80 rfl (lv_at hl 1 rfl) ?_
      refine tk_getA hC hK hw hT hinX1 kC_at149 (by decide) rfl 1 (by decide) (List.mem_cons_of_mem _ uw_5_1) rfl rfl dX1_lookAround_81 ?_
      refine lv_iload_n hx hb dX1_lookAround_84 rfl (lv_at hl 0 rfl) ?_
      refine lv_aload_n hx hb dX1_lookAround_85 rfl (lv_at hl 2 rfl) ?_
      refine tk_geti hC hK hw hT hinX9 kC_at152 (by decide) rfl 0 (by decide) (List.mem_cons_of_mem _ uw_42_22) rfl rfl dX1_lookAround_86 (fun x137 c138 rx137 tx137 => ?_)
      refine wk_top x107 (c138.symm.trans c134) ?_
      refine lv_aload_n hx hb dX1_lookAround_89 rfl (lv_at hl 2 rfl) ?_
      refine tk_geti hC hK hw hT hinX9 kC_at152 (by decide) rfl 1 (by decide) (List.mem_cons_of_mem _ uw_42_23) rfl rfl dX1_lookAround_90 (fun x139 c140 rx139 tx139 => ?_)
      refine wk_top x109 (c140.symm.trans c135) ?_
      refine tk_Vi hC hK hw hT hA hE hSR kC_at145 (by decide) rfl (k_X0_hoursBy_1 l adK adV dC dI cy ad B hB0 (Int.le_trans hB1 (by decide)) qr s1   x105 (show 0 ≤ x105.toInt from rx105) (show x105.toInt ≤ 3 from tx105) x107 (show 0 ≤ x107.toInt from rx107) (show x107.toInt ≤ 9 from tx107) x109 (show 0 ≤ x109.toInt from rx109) (show x109.toInt ≤ 9 from tx109) w130 H.size hT ) (cwV 3 hC.2.2.2.2 uV_RX1_114 rfl rfl rfl (by decide +kernel) ⟨Nat.le_of_ble_eq_true rfl, Nat.le_of_ble_eq_true rfl⟩) rfl hl.1 rfl (Nat.le_of_ble_eq_true rfl) dX1_lookAround_93 (fun r141 w143 H locs hp142 hw => ?_)
      obtain ⟨hT, k144, hg147⟩ := hp142
      have hF := hF.tr k144 (by decide)
      have c148 := k144.gi kC_at152 (by decide) c133
      have c149 := k144.gi kC_at152 (by decide) c134
      have c150 := k144.gi kC_at152 (by decide) c135
      have c151 := k144.gi kC_at149 (by decide) c136
      have c152 := k144.gi kC_at149 (by decide) c131
      rcases hg147 with ⟨g145, g146⟩ | rfl
      · refine va_mmax hx hb (hC.2.2.1.trans hl.1.symm) hC.2.2.2.1 (hC.2.2.2.2 _ (List.mem_cons_of_mem _ uw_43_0)) (hC.2.2.2.2 _ (List.mem_cons_of_mem _ uw_14_15)) (hC.2.2.2.2 _ (List.mem_cons_of_mem _ uw_14_16)) (hC.2.2.2.2 _ (List.mem_cons_of_mem _ uw_14_17)) (Nat.le_of_ble_eq_true rfl) (Nat.le_of_ble_eq_true rfl) (Nat.zero_le _) (Nat.zero_le _) dX1_lookAround_96 ?_
        refine lv_topi (fun x153 ex153 => ?_)
        have bx153 : (x153.toInt = (0 : Int) ∧ r141.toInt ≤ (0 : Int)) ∨ (x153.toInt = r141.toInt ∧ (0 : Int) < r141.toInt) := by rw [ex153]; exact wk_max
        refine tk_puti hC hK hw hT hinX1 tyX1_ok nmX1 kC_at149 (by decide) rfl rfl 8 (by decide) (List.mem_cons_of_mem _ uw_43_1) rfl rfl rfl rfl (wk_i32 x153).1 (wk_i32 x153).2 dX1_lookAround_99 (fun H locs w154 hw hT k156 c155 => ?_)
        have hF := hF.put kC_at149 (k := 8) (by decide) k156
        have c157 := k156.gi (Or.inr (by decide)) c148
        have c158 := k156.gi (Or.inr (by decide)) c149
        have c159 := k156.gi (Or.inr (by decide)) c150
        have c160 := k156.gi (Or.inr (by decide)) c151
        have c161 := k156.gi (Or.inr (by decide)) c152
        refine lv_aload_n hx hb dX1_lookAround_102 rfl (lv_at hl 1 rfl) ?_
        refine lv_iconst (v := (-1)) hx hb dX1_lookAround_103 (by decide) ?_
        refine tk_puti hC hK hw hT hinX1 tyX1_ok nmX1 kC_at149 (by decide) rfl rfl 7 (by decide) (List.mem_cons_of_mem _ uw_42_7) rfl rfl rfl rfl (by decide) (by decide) dX1_lookAround_104 (fun H locs w162 hw hT k164 c163 => ?_)
        have hF := hF.put kC_at149 (k := 7) (by decide) k164
        have c165 := k164.gi (Or.inr (by decide)) c157
        have c166 := k164.gi (Or.inr (by decide)) c158
        have c167 := k164.gi (Or.inr (by decide)) c159
        have c168 := k164.gi (Or.inr (by decide)) c160
        have c169 := k164.gi (Or.inr (by decide)) c161
        have c170 := k164.gi (Or.inr (by decide)) c155
        refine lv_iconst (v := 0) hx hb dX1_lookAround_107 (by decide) ?_
        refine lv_istore (lv' := [(4, .int 0), (3, .int x105), (0, .ref (ad 149)), (1, .ref (ad 152)), (2, .int 1)]) hx hb dX1_lookAround_108 hl (by decide) rfl (fun ls hl => ?_)
        exact L110 ((12 - (0 : Int)).toNat + 1) x105 0 r111 0 (-1) x153 x107 x109 H locs ls w162 (show 0 ≤ x105.toInt from rx105) (show x105.toInt ≤ 10 from Int.le_trans tx105 (by decide)) (by decide) (by decide) (show (-1) ≤ r111.toInt by first | with_reducible assumption | omega) (show r111.toInt ≤ 11 by first | with_reducible assumption | omega) (by decide) (by decide) (by decide) (by decide) (show 0 ≤ x153.toInt by first | with_reducible assumption | omega) (show x153.toInt ≤ 999999 by first | with_reducible assumption | omega) (show 0 ≤ x107.toInt from rx107) (show x107.toInt ≤ 9 from tx107) (show 0 ≤ x109.toInt from rx109) (show x109.toInt ≤ 9 from tx109) (Nat.lt_succ_self _) hw hT hF c168 c169 c163 c170 c166 c167 (lv_sub hl [2, 3, 4, 1, 0] rfl)
      · refine va_mmax hx hb (hC.2.2.1.trans hl.1.symm) hC.2.2.2.1 (hC.2.2.2.2 _ (List.mem_cons_of_mem _ uw_43_0)) (hC.2.2.2.2 _ (List.mem_cons_of_mem _ uw_14_15)) (hC.2.2.2.2 _ (List.mem_cons_of_mem _ uw_14_16)) (hC.2.2.2.2 _ (List.mem_cons_of_mem _ uw_14_17)) (Nat.le_of_ble_eq_true rfl) (Nat.le_of_ble_eq_true rfl) (Nat.zero_le _) (Nat.zero_le _) dX1_lookAround_96 ?_
        refine lv_topi (fun x171 ex171 => ?_)
        have bx171 : (x171.toInt = (0 : Int) ∧ (-1 : Int) ≤ (0 : Int)) ∨ (x171.toInt = (-1 : Int) ∧ (0 : Int) < (-1 : Int)) := by rw [ex171]; exact wk_max
        refine tk_puti hC hK hw hT hinX1 tyX1_ok nmX1 kC_at149 (by decide) rfl rfl 8 (by decide) (List.mem_cons_of_mem _ uw_43_1) rfl rfl rfl rfl (wk_i32 x171).1 (wk_i32 x171).2 dX1_lookAround_99 (fun H locs w172 hw hT k174 c173 => ?_)
        have hF := hF.put kC_at149 (k := 8) (by decide) k174
        have c175 := k174.gi (Or.inr (by decide)) c148
        have c176 := k174.gi (Or.inr (by decide)) c149
        have c177 := k174.gi (Or.inr (by decide)) c150
        have c178 := k174.gi (Or.inr (by decide)) c151
        have c179 := k174.gi (Or.inr (by decide)) c152
        refine lv_aload_n hx hb dX1_lookAround_102 rfl (lv_at hl 1 rfl) ?_
        refine lv_iconst (v := (-1)) hx hb dX1_lookAround_103 (by decide) ?_
        refine tk_puti hC hK hw hT hinX1 tyX1_ok nmX1 kC_at149 (by decide) rfl rfl 7 (by decide) (List.mem_cons_of_mem _ uw_42_7) rfl rfl rfl rfl (by decide) (by decide) dX1_lookAround_104 (fun H locs w180 hw hT k182 c181 => ?_)
        have hF := hF.put kC_at149 (k := 7) (by decide) k182
        have c183 := k182.gi (Or.inr (by decide)) c175
        have c184 := k182.gi (Or.inr (by decide)) c176
        have c185 := k182.gi (Or.inr (by decide)) c177
        have c186 := k182.gi (Or.inr (by decide)) c178
        have c187 := k182.gi (Or.inr (by decide)) c179
        have c188 := k182.gi (Or.inr (by decide)) c173
        refine lv_iconst (v := 0) hx hb dX1_lookAround_107 (by decide) ?_
        refine lv_istore (lv' := [(4, .int 0), (3, .int x105), (0, .ref (ad 149)), (1, .ref (ad 152)), (2, .int 1)]) hx hb dX1_lookAround_108 hl (by decide) rfl (fun ls hl => ?_)
        exact L110 ((12 - (0 : Int)).toNat + 1) x105 0 r111 0 (-1) x171 x107 x109 H locs ls w180 (show 0 ≤ x105.toInt from rx105) (show x105.toInt ≤ 10 from Int.le_trans tx105 (by decide)) (by decide) (by decide) (show (-1) ≤ r111.toInt by first | with_reducible assumption | omega) (show r111.toInt ≤ 11 by first | with_reducible assumption | omega) (by decide) (by decide) (by decide) (by decide) (show 0 ≤ x171.toInt by first | with_reducible assumption | omega) (show x171.toInt ≤ 999999 by first | with_reducible assumption | omega) (show 0 ≤ x107.toInt from rx107) (show x107.toInt ≤ 9 from tx107) (show 0 ≤ x109.toInt from rx109) (show x109.toInt ≤ 9 from tx109) (Nat.lt_succ_self _) hw hT hF c186 c187 c181 c188 c184 c185 (lv_sub hl [2, 3, 4, 1, 0] rfl)
    · have c129 : ¬ r111.toInt = (-1 : Int) := wk_eqF c129
      refine lv_aload_n hx hb dX1_lookAround_58 rfl (lv_at hl 1 rfl) ?_
      refine lv_aload_n hx hb dX1_lookAround_59 rfl (lv_at hl 2 rfl) ?_
      refine lv_aload_n hx hb dX1_lookAround_60 rfl (lv_at hl 1 rfl) ?_
      refine tk_geti hC hK hw hT hinX1 kC_at149 (by decide) rfl 5 (by decide) (List.mem_cons_of_mem _ uw_42_6) rfl rfl dX1_lookAround_61 (fun x189 c190 rx189 tx189 => ?_)
      refine wk_top r111 (c190.symm.trans c122) ?_
      refine tk_Vi hC hK hw hT hA hE hSR kC_at149 (by decide) rfl (k_X1_isOpenFor_2 l adK adV dC dI cy ad B hB0 (Int.le_trans hB1 (by decide)) qr s1   r111 (show 0 ≤ r111.toInt by first | with_reducible assumption | omega) (show r111.toInt ≤ 11 by first | with_reducible assumption | omega) w121 H.size hT ) (cwV 2 hC.2.2.2.2 uV_RX1_110 rfl rfl rfl (by decide +kernel) ⟨Nat.le_of_ble_eq_true rfl, Nat.le_of_ble_eq_true rfl⟩) rfl hl.1 rfl (Nat.le_of_ble_eq_true rfl) dX1_lookAround_64 (fun r191 w193 H locs hp192 hw => ?_)
      obtain ⟨hT, k194, hg197⟩ := hp192
      have hF := hF.tr k194 (by decide)
      have c198 := k194.gi kC_at152 (by decide) c124
      have c199 := k194.gi kC_at152 (by decide) c125
      have c200 := k194.gi kC_at152 (by decide) c126
      have c201 := k194.gi kC_at149 (by decide) c122
      rcases hg197 with rfl | ⟨rfl, ⟨x195, c196, rx195, tx195⟩⟩
      · refine lv_if_eq (tgt := 74) hx hb dX1_lookAround_67 (by decide) (fun _ => ?_) (fun c => absurd (by decide) c)
        refine lv_iconst (v := 0) hx hb dX1_lookAround_74 (by decide) ?_
        refine tk_putz hC hK hw hT hinX1 tyX1_ok nmX1 kC_at149 (by decide) rfl rfl 6 (by decide) (List.mem_cons_of_mem _ uw_42_5) rfl rfl rfl rfl (by decide) (by decide) dX1_lookAround_75 (fun H locs w202 hw hT k204 c203 => ?_)
        have hF := hF.put kC_at149 (k := 6) (by decide) k204
        have c205 := k204.gi (Or.inr (by decide)) c198
        have c206 := k204.gi (Or.inr (by decide)) c199
        have c207 := k204.gi (Or.inr (by decide)) c200
        have c208 := k204.gi (Or.inr (by decide)) c201
        refine lv_aload_n hx hb dX1_lookAround_78 rfl (lv_at hl 1 rfl) ?_
        refine lv_iconst (v := 0) hx hb dX1_lookAround_79 (by decide) ?_
        refine lv_aload_n hx hb dX1_lookAround_80 rfl (lv_at hl 1 rfl) ?_
        refine tk_getA hC hK hw hT hinX1 kC_at149 (by decide) rfl 1 (by decide) (List.mem_cons_of_mem _ uw_5_1) rfl rfl dX1_lookAround_81 ?_
        refine lv_iload_n hx hb dX1_lookAround_84 rfl (lv_at hl 0 rfl) ?_
        refine lv_aload_n hx hb dX1_lookAround_85 rfl (lv_at hl 2 rfl) ?_
        refine tk_geti hC hK hw hT hinX9 kC_at152 (by decide) rfl 0 (by decide) (List.mem_cons_of_mem _ uw_42_22) rfl rfl dX1_lookAround_86 (fun x209 c210 rx209 tx209 => ?_)
        refine wk_top x107 (c210.symm.trans c206) ?_
        refine lv_aload_n hx hb dX1_lookAround_89 rfl (lv_at hl 2 rfl) ?_
        refine tk_geti hC hK hw hT hinX9 kC_at152 (by decide) rfl 1 (by decide) (List.mem_cons_of_mem _ uw_42_23) rfl rfl dX1_lookAround_90 (fun x211 c212 rx211 tx211 => ?_)
        refine wk_top x109 (c212.symm.trans c207) ?_
        refine tk_Vi hC hK hw hT hA hE hSR kC_at145 (by decide) rfl (k_X0_hoursBy_1 l adK adV dC dI cy ad B hB0 (Int.le_trans hB1 (by decide)) qr s1   x105 (show 0 ≤ x105.toInt from rx105) (show x105.toInt ≤ 3 from tx105) x107 (show 0 ≤ x107.toInt from rx107) (show x107.toInt ≤ 9 from tx107) x109 (show 0 ≤ x109.toInt from rx109) (show x109.toInt ≤ 9 from tx109) w202 H.size hT ) (cwV 3 hC.2.2.2.2 uV_RX1_114 rfl rfl rfl (by decide +kernel) ⟨Nat.le_of_ble_eq_true rfl, Nat.le_of_ble_eq_true rfl⟩) rfl hl.1 rfl (Nat.le_of_ble_eq_true rfl) dX1_lookAround_93 (fun r213 w215 H locs hp214 hw => ?_)
        obtain ⟨hT, k216, hg219⟩ := hp214
        have hF := hF.tr k216 (by decide)
        have c220 := k216.gi kC_at152 (by decide) c205
        have c221 := k216.gi kC_at152 (by decide) c206
        have c222 := k216.gi kC_at152 (by decide) c207
        have c223 := k216.gi kC_at149 (by decide) c208
        have c224 := k216.gi kC_at149 (by decide) c203
        rcases hg219 with ⟨g217, g218⟩ | rfl
        · refine va_mmax hx hb (hC.2.2.1.trans hl.1.symm) hC.2.2.2.1 (hC.2.2.2.2 _ (List.mem_cons_of_mem _ uw_43_0)) (hC.2.2.2.2 _ (List.mem_cons_of_mem _ uw_14_15)) (hC.2.2.2.2 _ (List.mem_cons_of_mem _ uw_14_16)) (hC.2.2.2.2 _ (List.mem_cons_of_mem _ uw_14_17)) (Nat.le_of_ble_eq_true rfl) (Nat.le_of_ble_eq_true rfl) (Nat.zero_le _) (Nat.zero_le _) dX1_lookAround_96 ?_
          refine lv_topi (fun x225 ex225 => ?_)
          have bx225 : (x225.toInt = (0 : Int) ∧ r213.toInt ≤ (0 : Int)) ∨ (x225.toInt = r213.toInt ∧ (0 : Int) < r213.toInt) := by rw [ex225]; exact wk_max
          refine tk_puti hC hK hw hT hinX1 tyX1_ok nmX1 kC_at149 (by decide) rfl rfl 8 (by decide) (List.mem_cons_of_mem _ uw_43_1) rfl rfl rfl rfl (wk_i32 x225).1 (wk_i32 x225).2 dX1_lookAround_99 (fun H locs w226 hw hT k228 c227 => ?_)
          have hF := hF.put kC_at149 (k := 8) (by decide) k228
          have c229 := k228.gi (Or.inr (by decide)) c220
          have c230 := k228.gi (Or.inr (by decide)) c221
          have c231 := k228.gi (Or.inr (by decide)) c222
          have c232 := k228.gi (Or.inr (by decide)) c223
          have c233 := k228.gi (Or.inr (by decide)) c224
          refine lv_aload_n hx hb dX1_lookAround_102 rfl (lv_at hl 1 rfl) ?_
          refine lv_iconst (v := (-1)) hx hb dX1_lookAround_103 (by decide) ?_
          refine tk_puti hC hK hw hT hinX1 tyX1_ok nmX1 kC_at149 (by decide) rfl rfl 7 (by decide) (List.mem_cons_of_mem _ uw_42_7) rfl rfl rfl rfl (by decide) (by decide) dX1_lookAround_104 (fun H locs w234 hw hT k236 c235 => ?_)
          have hF := hF.put kC_at149 (k := 7) (by decide) k236
          have c237 := k236.gi (Or.inr (by decide)) c229
          have c238 := k236.gi (Or.inr (by decide)) c230
          have c239 := k236.gi (Or.inr (by decide)) c231
          have c240 := k236.gi (Or.inr (by decide)) c232
          have c241 := k236.gi (Or.inr (by decide)) c233
          have c242 := k236.gi (Or.inr (by decide)) c227
          refine lv_iconst (v := 0) hx hb dX1_lookAround_107 (by decide) ?_
          refine lv_istore (lv' := [(4, .int 0), (3, .int x105), (0, .ref (ad 149)), (1, .ref (ad 152)), (2, .int 1)]) hx hb dX1_lookAround_108 hl (by decide) rfl (fun ls hl => ?_)
          exact L110 ((12 - (0 : Int)).toNat + 1) x105 0 r111 0 (-1) x225 x107 x109 H locs ls w234 (show 0 ≤ x105.toInt from rx105) (show x105.toInt ≤ 10 from Int.le_trans tx105 (by decide)) (by decide) (by decide) (show (-1) ≤ r111.toInt by first | with_reducible assumption | omega) (show r111.toInt ≤ 11 by first | with_reducible assumption | omega) (by decide) (by decide) (by decide) (by decide) (show 0 ≤ x225.toInt by first | with_reducible assumption | omega) (show x225.toInt ≤ 999999 by first | with_reducible assumption | omega) (show 0 ≤ x107.toInt from rx107) (show x107.toInt ≤ 9 from tx107) (show 0 ≤ x109.toInt from rx109) (show x109.toInt ≤ 9 from tx109) (Nat.lt_succ_self _) hw hT hF c240 c241 c235 c242 c238 c239 (lv_sub hl [2, 3, 4, 1, 0] rfl)
        · refine va_mmax hx hb (hC.2.2.1.trans hl.1.symm) hC.2.2.2.1 (hC.2.2.2.2 _ (List.mem_cons_of_mem _ uw_43_0)) (hC.2.2.2.2 _ (List.mem_cons_of_mem _ uw_14_15)) (hC.2.2.2.2 _ (List.mem_cons_of_mem _ uw_14_16)) (hC.2.2.2.2 _ (List.mem_cons_of_mem _ uw_14_17)) (Nat.le_of_ble_eq_true rfl) (Nat.le_of_ble_eq_true rfl) (Nat.zero_le _) (Nat.zero_le _) dX1_lookAround_96 ?_
          refine lv_topi (fun x243 ex243 => ?_)
          have bx243 : (x243.toInt = (0 : Int) ∧ (-1 : Int) ≤ (0 : Int)) ∨ (x243.toInt = (-1 : Int) ∧ (0 : Int) < (-1 : Int)) := by rw [ex243]; exact wk_max
          refine tk_puti hC hK hw hT hinX1 tyX1_ok nmX1 kC_at149 (by decide) rfl rfl 8 (by decide) (List.mem_cons_of_mem _ uw_43_1) rfl rfl rfl rfl (wk_i32 x243).1 (wk_i32 x243).2 dX1_lookAround_99 (fun H locs w244 hw hT k246 c245 => ?_)
          have hF := hF.put kC_at149 (k := 8) (by decide) k246
          have c247 := k246.gi (Or.inr (by decide)) c220
          have c248 := k246.gi (Or.inr (by decide)) c221
          have c249 := k246.gi (Or.inr (by decide)) c222
          have c250 := k246.gi (Or.inr (by decide)) c223
          have c251 := k246.gi (Or.inr (by decide)) c224
          refine lv_aload_n hx hb dX1_lookAround_102 rfl (lv_at hl 1 rfl) ?_
          refine lv_iconst (v := (-1)) hx hb dX1_lookAround_103 (by decide) ?_
          refine tk_puti hC hK hw hT hinX1 tyX1_ok nmX1 kC_at149 (by decide) rfl rfl 7 (by decide) (List.mem_cons_of_mem _ uw_42_7) rfl rfl rfl rfl (by decide) (by decide) dX1_lookAround_104 (fun H locs w252 hw hT k254 c253 => ?_)
          have hF := hF.put kC_at149 (k := 7) (by decide) k254
          have c255 := k254.gi (Or.inr (by decide)) c247
          have c256 := k254.gi (Or.inr (by decide)) c248
          have c257 := k254.gi (Or.inr (by decide)) c249
          have c258 := k254.gi (Or.inr (by decide)) c250
          have c259 := k254.gi (Or.inr (by decide)) c251
          have c260 := k254.gi (Or.inr (by decide)) c245
          refine lv_iconst (v := 0) hx hb dX1_lookAround_107 (by decide) ?_
          refine lv_istore (lv' := [(4, .int 0), (3, .int x105), (0, .ref (ad 149)), (1, .ref (ad 152)), (2, .int 1)]) hx hb dX1_lookAround_108 hl (by decide) rfl (fun ls hl => ?_)
          exact L110 ((12 - (0 : Int)).toNat + 1) x105 0 r111 0 (-1) x243 x107 x109 H locs ls w252 (show 0 ≤ x105.toInt from rx105) (show x105.toInt ≤ 10 from Int.le_trans tx105 (by decide)) (by decide) (by decide) (show (-1) ≤ r111.toInt by first | with_reducible assumption | omega) (show r111.toInt ≤ 11 by first | with_reducible assumption | omega) (by decide) (by decide) (by decide) (by decide) (show 0 ≤ x243.toInt by first | with_reducible assumption | omega) (show x243.toInt ≤ 999999 by first | with_reducible assumption | omega) (show 0 ≤ x107.toInt from rx107) (show x107.toInt ≤ 9 from tx107) (show 0 ≤ x109.toInt from rx109) (show x109.toInt ≤ 9 from tx109) (Nat.lt_succ_self _) hw hT hF c258 c259 c253 c260 c256 c257 (lv_sub hl [2, 3, 4, 1, 0] rfl)
      · refine lv_if_eq (tgt := 74) hx hb dX1_lookAround_67 (by decide) (fun c => absurd c (by decide)) (fun _ => ?_)
        refine lv_iconst (v := 1) hx hb dX1_lookAround_70 (by decide) ?_
        refine lv_goto (tgt := 75) hx hb dX1_lookAround_71 (by decide) ?_
        refine tk_putz hC hK hw hT hinX1 tyX1_ok nmX1 kC_at149 (by decide) rfl rfl 6 (by decide) (List.mem_cons_of_mem _ uw_42_5) rfl rfl rfl rfl (by decide) (by decide) dX1_lookAround_75 (fun H locs w261 hw hT k263 c262 => ?_)
        have hF := hF.put kC_at149 (k := 6) (by decide) k263
        have c264 := k263.gi (Or.inr (by decide)) c198
        have c265 := k263.gi (Or.inr (by decide)) c199
        have c266 := k263.gi (Or.inr (by decide)) c200
        have c267 := k263.gi (Or.inr (by decide)) c201
        have c268 := k263.gi (Or.inr (by decide)) c196
        refine lv_aload_n hx hb dX1_lookAround_78 rfl (lv_at hl 1 rfl) ?_
        refine lv_iconst (v := 0) hx hb dX1_lookAround_79 (by decide) ?_
        refine lv_aload_n hx hb dX1_lookAround_80 rfl (lv_at hl 1 rfl) ?_
        refine tk_getA hC hK hw hT hinX1 kC_at149 (by decide) rfl 1 (by decide) (List.mem_cons_of_mem _ uw_5_1) rfl rfl dX1_lookAround_81 ?_
        refine lv_iload_n hx hb dX1_lookAround_84 rfl (lv_at hl 0 rfl) ?_
        refine lv_aload_n hx hb dX1_lookAround_85 rfl (lv_at hl 2 rfl) ?_
        refine tk_geti hC hK hw hT hinX9 kC_at152 (by decide) rfl 0 (by decide) (List.mem_cons_of_mem _ uw_42_22) rfl rfl dX1_lookAround_86 (fun x269 c270 rx269 tx269 => ?_)
        refine wk_top x107 (c270.symm.trans c265) ?_
        refine lv_aload_n hx hb dX1_lookAround_89 rfl (lv_at hl 2 rfl) ?_
        refine tk_geti hC hK hw hT hinX9 kC_at152 (by decide) rfl 1 (by decide) (List.mem_cons_of_mem _ uw_42_23) rfl rfl dX1_lookAround_90 (fun x271 c272 rx271 tx271 => ?_)
        refine wk_top x109 (c272.symm.trans c266) ?_
        refine tk_Vi hC hK hw hT hA hE hSR kC_at145 (by decide) rfl (k_X0_hoursBy_1 l adK adV dC dI cy ad B hB0 (Int.le_trans hB1 (by decide)) qr s1   x105 (show 0 ≤ x105.toInt from rx105) (show x105.toInt ≤ 3 from tx105) x107 (show 0 ≤ x107.toInt from rx107) (show x107.toInt ≤ 9 from tx107) x109 (show 0 ≤ x109.toInt from rx109) (show x109.toInt ≤ 9 from tx109) w261 H.size hT ) (cwV 3 hC.2.2.2.2 uV_RX1_114 rfl rfl rfl (by decide +kernel) ⟨Nat.le_of_ble_eq_true rfl, Nat.le_of_ble_eq_true rfl⟩) rfl hl.1 rfl (Nat.le_of_ble_eq_true rfl) dX1_lookAround_93 (fun r273 w275 H locs hp274 hw => ?_)
        obtain ⟨hT, k276, hg279⟩ := hp274
        have hF := hF.tr k276 (by decide)
        have c280 := k276.gi kC_at152 (by decide) c264
        have c281 := k276.gi kC_at152 (by decide) c265
        have c282 := k276.gi kC_at152 (by decide) c266
        have c283 := k276.gi kC_at149 (by decide) c267
        have c284 := k276.gi kC_at149 (by decide) c268
        have c285 := k276.gi kC_at149 (by decide) c262
        rcases hg279 with ⟨g277, g278⟩ | rfl
        · refine va_mmax hx hb (hC.2.2.1.trans hl.1.symm) hC.2.2.2.1 (hC.2.2.2.2 _ (List.mem_cons_of_mem _ uw_43_0)) (hC.2.2.2.2 _ (List.mem_cons_of_mem _ uw_14_15)) (hC.2.2.2.2 _ (List.mem_cons_of_mem _ uw_14_16)) (hC.2.2.2.2 _ (List.mem_cons_of_mem _ uw_14_17)) (Nat.le_of_ble_eq_true rfl) (Nat.le_of_ble_eq_true rfl) (Nat.zero_le _) (Nat.zero_le _) dX1_lookAround_96 ?_
          refine lv_topi (fun x286 ex286 => ?_)
          have bx286 : (x286.toInt = (0 : Int) ∧ r273.toInt ≤ (0 : Int)) ∨ (x286.toInt = r273.toInt ∧ (0 : Int) < r273.toInt) := by rw [ex286]; exact wk_max
          refine tk_puti hC hK hw hT hinX1 tyX1_ok nmX1 kC_at149 (by decide) rfl rfl 8 (by decide) (List.mem_cons_of_mem _ uw_43_1) rfl rfl rfl rfl (wk_i32 x286).1 (wk_i32 x286).2 dX1_lookAround_99 (fun H locs w287 hw hT k289 c288 => ?_)
          have hF := hF.put kC_at149 (k := 8) (by decide) k289
          have c290 := k289.gi (Or.inr (by decide)) c280
          have c291 := k289.gi (Or.inr (by decide)) c281
          have c292 := k289.gi (Or.inr (by decide)) c282
          have c293 := k289.gi (Or.inr (by decide)) c283
          have c294 := k289.gi (Or.inr (by decide)) c284
          have c295 := k289.gi (Or.inr (by decide)) c285
          refine lv_aload_n hx hb dX1_lookAround_102 rfl (lv_at hl 1 rfl) ?_
          refine lv_iconst (v := (-1)) hx hb dX1_lookAround_103 (by decide) ?_
          refine tk_puti hC hK hw hT hinX1 tyX1_ok nmX1 kC_at149 (by decide) rfl rfl 7 (by decide) (List.mem_cons_of_mem _ uw_42_7) rfl rfl rfl rfl (by decide) (by decide) dX1_lookAround_104 (fun H locs w296 hw hT k298 c297 => ?_)
          have hF := hF.put kC_at149 (k := 7) (by decide) k298
          have c299 := k298.gi (Or.inr (by decide)) c290
          have c300 := k298.gi (Or.inr (by decide)) c291
          have c301 := k298.gi (Or.inr (by decide)) c292
          have c302 := k298.gi (Or.inr (by decide)) c293
          have c303 := k298.gi (Or.inr (by decide)) c294
          have c304 := k298.gi (Or.inr (by decide)) c295
          have c305 := k298.gi (Or.inr (by decide)) c288
          refine lv_iconst (v := 0) hx hb dX1_lookAround_107 (by decide) ?_
          refine lv_istore (lv' := [(4, .int 0), (3, .int x105), (0, .ref (ad 149)), (1, .ref (ad 152)), (2, .int 1)]) hx hb dX1_lookAround_108 hl (by decide) rfl (fun ls hl => ?_)
          exact L110 ((12 - (0 : Int)).toNat + 1) x105 0 r111 1 (-1) x286 x107 x109 H locs ls w296 (show 0 ≤ x105.toInt from rx105) (show x105.toInt ≤ 10 from Int.le_trans tx105 (by decide)) (by decide) (by decide) (show (-1) ≤ r111.toInt by first | with_reducible assumption | omega) (show r111.toInt ≤ 11 by first | with_reducible assumption | omega) (by decide) (by decide) (by decide) (by decide) (show 0 ≤ x286.toInt by first | with_reducible assumption | omega) (show x286.toInt ≤ 999999 by first | with_reducible assumption | omega) (show 0 ≤ x107.toInt from rx107) (show x107.toInt ≤ 9 from tx107) (show 0 ≤ x109.toInt from rx109) (show x109.toInt ≤ 9 from tx109) (Nat.lt_succ_self _) hw hT hF c302 c304 c297 c305 c300 c301 (lv_sub hl [2, 3, 4, 1, 0] rfl)
        · refine va_mmax hx hb (hC.2.2.1.trans hl.1.symm) hC.2.2.2.1 (hC.2.2.2.2 _ (List.mem_cons_of_mem _ uw_43_0)) (hC.2.2.2.2 _ (List.mem_cons_of_mem _ uw_14_15)) (hC.2.2.2.2 _ (List.mem_cons_of_mem _ uw_14_16)) (hC.2.2.2.2 _ (List.mem_cons_of_mem _ uw_14_17)) (Nat.le_of_ble_eq_true rfl) (Nat.le_of_ble_eq_true rfl) (Nat.zero_le _) (Nat.zero_le _) dX1_lookAround_96 ?_
          refine lv_topi (fun x306 ex306 => ?_)
          have bx306 : (x306.toInt = (0 : Int) ∧ (-1 : Int) ≤ (0 : Int)) ∨ (x306.toInt = (-1 : Int) ∧ (0 : Int) < (-1 : Int)) := by rw [ex306]; exact wk_max
          refine tk_puti hC hK hw hT hinX1 tyX1_ok nmX1 kC_at149 (by decide) rfl rfl 8 (by decide) (List.mem_cons_of_mem _ uw_43_1) rfl rfl rfl rfl (wk_i32 x306).1 (wk_i32 x306).2 dX1_lookAround_99 (fun H locs w307 hw hT k309 c308 => ?_)
          have hF := hF.put kC_at149 (k := 8) (by decide) k309
          have c310 := k309.gi (Or.inr (by decide)) c280
          have c311 := k309.gi (Or.inr (by decide)) c281
          have c312 := k309.gi (Or.inr (by decide)) c282
          have c313 := k309.gi (Or.inr (by decide)) c283
          have c314 := k309.gi (Or.inr (by decide)) c284
          have c315 := k309.gi (Or.inr (by decide)) c285
          refine lv_aload_n hx hb dX1_lookAround_102 rfl (lv_at hl 1 rfl) ?_
          refine lv_iconst (v := (-1)) hx hb dX1_lookAround_103 (by decide) ?_
          refine tk_puti hC hK hw hT hinX1 tyX1_ok nmX1 kC_at149 (by decide) rfl rfl 7 (by decide) (List.mem_cons_of_mem _ uw_42_7) rfl rfl rfl rfl (by decide) (by decide) dX1_lookAround_104 (fun H locs w316 hw hT k318 c317 => ?_)
          have hF := hF.put kC_at149 (k := 7) (by decide) k318
          have c319 := k318.gi (Or.inr (by decide)) c310
          have c320 := k318.gi (Or.inr (by decide)) c311
          have c321 := k318.gi (Or.inr (by decide)) c312
          have c322 := k318.gi (Or.inr (by decide)) c313
          have c323 := k318.gi (Or.inr (by decide)) c314
          have c324 := k318.gi (Or.inr (by decide)) c315
          have c325 := k318.gi (Or.inr (by decide)) c308
          refine lv_iconst (v := 0) hx hb dX1_lookAround_107 (by decide) ?_
          refine lv_istore (lv' := [(4, .int 0), (3, .int x105), (0, .ref (ad 149)), (1, .ref (ad 152)), (2, .int 1)]) hx hb dX1_lookAround_108 hl (by decide) rfl (fun ls hl => ?_)
          exact L110 ((12 - (0 : Int)).toNat + 1) x105 0 r111 1 (-1) x306 x107 x109 H locs ls w316 (show 0 ≤ x105.toInt from rx105) (show x105.toInt ≤ 10 from Int.le_trans tx105 (by decide)) (by decide) (by decide) (show (-1) ≤ r111.toInt by first | with_reducible assumption | omega) (show r111.toInt ≤ 11 by first | with_reducible assumption | omega) (by decide) (by decide) (by decide) (by decide) (show 0 ≤ x306.toInt by first | with_reducible assumption | omega) (show x306.toInt ≤ 999999 by first | with_reducible assumption | omega) (show 0 ≤ x107.toInt from rx107) (show x107.toInt ≤ 9 from tx107) (show 0 ≤ x109.toInt from rx109) (show x109.toInt ≤ 9 from tx109) (Nat.lt_succ_self _) hw hT hF c322 c324 c317 c325 c320 c321 (lv_sub hl [2, 3, 4, 1, 0] rfl)
  refine lv_aload_n hx hb dX1_lookAround_0 rfl (lv_at hl 1 rfl) ?_
  refine tk_Vi hC hK hw hT hA hE hSR kC_at152 (by decide) rfl (k_X9_askedToday_2 l adK adV dC dI cy ad B hB0 (Int.le_trans hB1 (by decide)) qr s1    w0 s.heap.size hT ) (cwV 0 hC.2.2.2.2 uV_RX1_85 rfl rfl rfl (by decide +kernel) ⟨Nat.le_of_ble_eq_true rfl, Nat.le_of_ble_eq_true rfl⟩) rfl hl.1 rfl (Nat.le_of_ble_eq_true rfl) dX1_lookAround_1 (fun r326 w328 H locs hp327 hw => ?_)
  obtain ⟨hT, k329, hg330⟩ := hp327
  have hF := hF.tr k329 (by decide)
  rcases hg330 with rfl | rfl
  · refine lv_if_eq (tgt := 24) hx hb dX1_lookAround_4 (by decide) (fun _ => ?_) (fun c => absurd (by decide) c)
    exact J24  H locs ls w328   hw hT hF  (lv_sub hl [0, 1, 2] rfl)
  · refine lv_if_eq (tgt := 24) hx hb dX1_lookAround_4 (by decide) (fun c => absurd c (by decide)) (fun _ => ?_)
    refine lv_aload_n hx hb dX1_lookAround_7 rfl (lv_at hl 0 rfl) ?_
    refine tk_geti hC hK hw hT hinX1 kC_at149 (by decide) rfl 9 (by decide) (List.mem_cons_of_mem _ uw_42_20) rfl rfl dX1_lookAround_8 (fun x331 c332 rx331 tx331 => ?_)
    refine lv_if_ne (tgt := 24) hx hb dX1_lookAround_11 (by decide) (fun c333 => ?_) (fun c333 => ?_)
    · have c333 : ¬ x331.toInt = (0 : Int) := wk_eqF c333
      exact J24  H locs ls w328   hw hT hF  (lv_sub hl [0, 1, 2] rfl)
    · have c333 : x331.toInt = (0 : Int) := wk_eq.mp c333
      refine lv_aload_n hx hb dX1_lookAround_14 rfl (lv_at hl 1 rfl) ?_
      refine tk_Vl hC hK hw hT hA hE hSR kC_at152 (by decide) rfl (k_X9_dayNow_2 l adK adV dC dI cy ad B hB0 (Int.le_trans hB1 (by decide)) qr s1    w328 H.size hT ) (cwV 0 hC.2.2.2.2 uV_RX1_68 rfl rfl rfl (by decide +kernel) ⟨Nat.le_of_ble_eq_true rfl, Nat.le_of_ble_eq_true rfl⟩) rfl hl.1 rfl (Nat.le_of_ble_eq_true rfl) dX1_lookAround_15 (fun r334 w336 H locs hp335 hw => ?_)
      obtain ⟨hT, k337, hg340⟩ := hp335
      have hF := hF.tr k337 (by decide)
      have c341 := k337.gi kC_at149 (by decide) c332
      obtain ⟨g338, g339⟩ := hg340
      refine tk_Si hC hK hw hT hA hE hSR (k_X0_ofWeekday_1 l adK adV dC dI cy ad B hB0 (Int.le_trans hB1 (by decide)) qr s1   r334 (show 0 ≤ r334.toInt by first | with_reducible assumption | omega) (show r334.toInt ≤ 96076792050570581 by first | with_reducible assumption | omega) w336 H.size hT ) (va_cwS 1 hC.2.2.2.2 uS_RX1_91 rfl rfl rfl (by decide +kernel) ⟨Nat.le_of_ble_eq_true rfl, Nat.le_of_ble_eq_true rfl⟩) rfl hl.1 rfl (Nat.le_of_ble_eq_true rfl) dX1_lookAround_18 (fun r342 w344 H locs hp343 hw => ?_)
      obtain ⟨hT, k345, hg348⟩ := hp343
      have hF := hF.tr k345 (by decide)
      have c349 := k345.gi kC_at149 (by decide) c341
      obtain ⟨g346, g347⟩ := hg348
      refine lv_goto (tgt := 28) hx hb dX1_lookAround_21 (by decide) ?_
      refine lv_istore_n (lv' := [(3, .int r342), (0, .ref (ad 149)), (1, .ref (ad 152)), (2, .int 1)]) hx hb dX1_lookAround_28 rfl hl (by decide) rfl (fun ls hl => ?_)
      refine lv_aload_n hx hb dX1_lookAround_29 rfl (lv_at hl 1 rfl) ?_
      refine lv_aload_n hx hb dX1_lookAround_30 rfl (lv_at hl 1 rfl) ?_
      refine tk_getA hC hK hw hT hinX1 kC_at149 (by decide) rfl 1 (by decide) (List.mem_cons_of_mem _ uw_5_1) rfl rfl dX1_lookAround_31 ?_
      refine lv_iload_n hx hb dX1_lookAround_34 rfl (lv_at hl 0 rfl) ?_
      refine lv_aload_n hx hb dX1_lookAround_35 rfl (lv_at hl 2 rfl) ?_
      refine tk_geti hC hK hw hT hinX9 kC_at152 (by decide) rfl 0 (by decide) (List.mem_cons_of_mem _ uw_42_22) rfl rfl dX1_lookAround_36 (fun x350 c351 rx350 tx350 => ?_)
      refine lv_aload_n hx hb dX1_lookAround_39 rfl (lv_at hl 2 rfl) ?_
      refine tk_geti hC hK hw hT hinX9 kC_at152 (by decide) rfl 1 (by decide) (List.mem_cons_of_mem _ uw_42_23) rfl rfl dX1_lookAround_40 (fun x352 c353 rx352 tx352 => ?_)
      refine tk_Vi hC hK hw hT hA hE hSR kC_at145 (by decide) rfl (k_X0_streetBy_2 l adK adV dC dI cy ad B hB0 (Int.le_trans hB1 (by decide)) qr s1   r342 (show 4 ≤ r342.toInt by first | with_reducible assumption | omega) (show r342.toInt ≤ 10 by first | with_reducible assumption | omega) x350 (show 0 ≤ x350.toInt from rx350) (show x350.toInt ≤ 9 from tx350) x352 (show 0 ≤ x352.toInt from rx352) (show x352.toInt ≤ 9 from tx352) w344 H.size hT ) (cwV 3 hC.2.2.2.2 uV_RX1_106 rfl rfl rfl (by decide +kernel) ⟨Nat.le_of_ble_eq_true rfl, Nat.le_of_ble_eq_true rfl⟩) rfl hl.1 rfl (Nat.le_of_ble_eq_true rfl) dX1_lookAround_43 (fun r354 w356 H locs hp355 hw => ?_)
      obtain ⟨hT, k357, hg360⟩ := hp355
      have hF := hF.tr k357 (by decide)
      have c361 := k357.gi kC_at149 (by decide) c349
      have c362 := k357.gi kC_at152 (by decide) c351
      have c363 := k357.gi kC_at152 (by decide) c353
      obtain ⟨g358, g359⟩ := hg360
      refine tk_puti hC hK hw hT hinX1 tyX1_ok nmX1 kC_at149 (by decide) rfl rfl 5 (by decide) (List.mem_cons_of_mem _ uw_42_6) rfl rfl rfl rfl (show (-1) ≤ r354.toInt by first | with_reducible assumption | omega) (show r354.toInt ≤ 11 by first | with_reducible assumption | omega) dX1_lookAround_46 (fun H locs w364 hw hT k366 c365 => ?_)
      have hF := hF.put kC_at149 (k := 5) (by decide) k366
      have c367 := k366.gi (Or.inr (by decide)) c361
      have c368 := k366.gi (Or.inr (by decide)) c362
      have c369 := k366.gi (Or.inr (by decide)) c363
      refine lv_aload_n hx hb dX1_lookAround_49 rfl (lv_at hl 1 rfl) ?_
      refine lv_aload_n hx hb dX1_lookAround_50 rfl (lv_at hl 1 rfl) ?_
      refine tk_geti hC hK hw hT hinX1 kC_at149 (by decide) rfl 5 (by decide) (List.mem_cons_of_mem _ uw_42_6) rfl rfl dX1_lookAround_51 (fun x370 c371 rx370 tx370 => ?_)
      refine wk_top r354 (c371.symm.trans c365) ?_
      refine lv_iconst (v := (-1)) hx hb dX1_lookAround_54 (by decide) ?_
      refine lv_icmp_eq (tgt := 74) hx hb dX1_lookAround_55 (by decide) (fun c372 => ?_) (fun c372 => ?_)
      · have c372 : r354.toInt = (-1 : Int) := wk_eq.mp c372
        refine lv_iconst (v := 0) hx hb dX1_lookAround_74 (by decide) ?_
        refine tk_putz hC hK hw hT hinX1 tyX1_ok nmX1 kC_at149 (by decide) rfl rfl 6 (by decide) (List.mem_cons_of_mem _ uw_42_5) rfl rfl rfl rfl (by decide) (by decide) dX1_lookAround_75 (fun H locs w373 hw hT k375 c374 => ?_)
        have hF := hF.put kC_at149 (k := 6) (by decide) k375
        have c376 := k375.gi (Or.inr (by decide)) c367
        have c377 := k375.gi (Or.inr (by decide)) c368
        have c378 := k375.gi (Or.inr (by decide)) c369
        have c379 := k375.gi (Or.inr (by decide)) c365
        refine lv_aload_n hx hb dX1_lookAround_78 rfl (lv_at hl 1 rfl) ?_
        refine lv_iconst (v := 0) hx hb dX1_lookAround_79 (by decide) ?_
        refine lv_aload_n hx hb dX1_lookAround_80 rfl (lv_at hl 1 rfl) ?_
        refine tk_getA hC hK hw hT hinX1 kC_at149 (by decide) rfl 1 (by decide) (List.mem_cons_of_mem _ uw_5_1) rfl rfl dX1_lookAround_81 ?_
        refine lv_iload_n hx hb dX1_lookAround_84 rfl (lv_at hl 0 rfl) ?_
        refine lv_aload_n hx hb dX1_lookAround_85 rfl (lv_at hl 2 rfl) ?_
        refine tk_geti hC hK hw hT hinX9 kC_at152 (by decide) rfl 0 (by decide) (List.mem_cons_of_mem _ uw_42_22) rfl rfl dX1_lookAround_86 (fun x380 c381 rx380 tx380 => ?_)
        refine wk_top x350 (c381.symm.trans c377) ?_
        refine lv_aload_n hx hb dX1_lookAround_89 rfl (lv_at hl 2 rfl) ?_
        refine tk_geti hC hK hw hT hinX9 kC_at152 (by decide) rfl 1 (by decide) (List.mem_cons_of_mem _ uw_42_23) rfl rfl dX1_lookAround_90 (fun x382 c383 rx382 tx382 => ?_)
        refine wk_top x352 (c383.symm.trans c378) ?_
        refine tk_Vi hC hK hw hT hA hE hSR kC_at145 (by decide) rfl (k_X0_hoursBy_2 l adK adV dC dI cy ad B hB0 (Int.le_trans hB1 (by decide)) qr s1   r342 (show 4 ≤ r342.toInt by first | with_reducible assumption | omega) (show r342.toInt ≤ 10 by first | with_reducible assumption | omega) x350 (show 0 ≤ x350.toInt from rx350) (show x350.toInt ≤ 9 from tx350) x352 (show 0 ≤ x352.toInt from rx352) (show x352.toInt ≤ 9 from tx352) w373 H.size hT ) (cwV 3 hC.2.2.2.2 uV_RX1_114 rfl rfl rfl (by decide +kernel) ⟨Nat.le_of_ble_eq_true rfl, Nat.le_of_ble_eq_true rfl⟩) rfl hl.1 rfl (Nat.le_of_ble_eq_true rfl) dX1_lookAround_93 (fun r384 w386 H locs hp385 hw => ?_)
        obtain ⟨hT, k387, hg390⟩ := hp385
        have hF := hF.tr k387 (by decide)
        have c391 := k387.gi kC_at149 (by decide) c376
        have c392 := k387.gi kC_at152 (by decide) c377
        have c393 := k387.gi kC_at152 (by decide) c378
        have c394 := k387.gi kC_at149 (by decide) c379
        have c395 := k387.gi kC_at149 (by decide) c374
        rcases hg390 with ⟨g388, g389⟩ | rfl
        · refine va_mmax hx hb (hC.2.2.1.trans hl.1.symm) hC.2.2.2.1 (hC.2.2.2.2 _ (List.mem_cons_of_mem _ uw_43_0)) (hC.2.2.2.2 _ (List.mem_cons_of_mem _ uw_14_15)) (hC.2.2.2.2 _ (List.mem_cons_of_mem _ uw_14_16)) (hC.2.2.2.2 _ (List.mem_cons_of_mem _ uw_14_17)) (Nat.le_of_ble_eq_true rfl) (Nat.le_of_ble_eq_true rfl) (Nat.zero_le _) (Nat.zero_le _) dX1_lookAround_96 ?_
          refine lv_topi (fun x396 ex396 => ?_)
          have bx396 : (x396.toInt = (0 : Int) ∧ r384.toInt ≤ (0 : Int)) ∨ (x396.toInt = r384.toInt ∧ (0 : Int) < r384.toInt) := by rw [ex396]; exact wk_max
          refine tk_puti hC hK hw hT hinX1 tyX1_ok nmX1 kC_at149 (by decide) rfl rfl 8 (by decide) (List.mem_cons_of_mem _ uw_43_1) rfl rfl rfl rfl (wk_i32 x396).1 (wk_i32 x396).2 dX1_lookAround_99 (fun H locs w397 hw hT k399 c398 => ?_)
          have hF := hF.put kC_at149 (k := 8) (by decide) k399
          have c400 := k399.gi (Or.inr (by decide)) c391
          have c401 := k399.gi (Or.inr (by decide)) c392
          have c402 := k399.gi (Or.inr (by decide)) c393
          have c403 := k399.gi (Or.inr (by decide)) c394
          have c404 := k399.gi (Or.inr (by decide)) c395
          refine lv_aload_n hx hb dX1_lookAround_102 rfl (lv_at hl 1 rfl) ?_
          refine lv_iconst (v := (-1)) hx hb dX1_lookAround_103 (by decide) ?_
          refine tk_puti hC hK hw hT hinX1 tyX1_ok nmX1 kC_at149 (by decide) rfl rfl 7 (by decide) (List.mem_cons_of_mem _ uw_42_7) rfl rfl rfl rfl (by decide) (by decide) dX1_lookAround_104 (fun H locs w405 hw hT k407 c406 => ?_)
          have hF := hF.put kC_at149 (k := 7) (by decide) k407
          have c408 := k407.gi (Or.inr (by decide)) c400
          have c409 := k407.gi (Or.inr (by decide)) c401
          have c410 := k407.gi (Or.inr (by decide)) c402
          have c411 := k407.gi (Or.inr (by decide)) c403
          have c412 := k407.gi (Or.inr (by decide)) c404
          have c413 := k407.gi (Or.inr (by decide)) c398
          refine lv_iconst (v := 0) hx hb dX1_lookAround_107 (by decide) ?_
          refine lv_istore (lv' := [(4, .int 0), (3, .int r342), (0, .ref (ad 149)), (1, .ref (ad 152)), (2, .int 1)]) hx hb dX1_lookAround_108 hl (by decide) rfl (fun ls hl => ?_)
          exact L110 ((12 - (0 : Int)).toNat + 1) r342 0 r354 0 (-1) x396 x350 x352 H locs ls w405 (show 0 ≤ r342.toInt by first | with_reducible assumption | omega) (show r342.toInt ≤ 10 by first | with_reducible assumption | omega) (by decide) (by decide) (show (-1) ≤ r354.toInt by first | with_reducible assumption | omega) (show r354.toInt ≤ 11 by first | with_reducible assumption | omega) (by decide) (by decide) (by decide) (by decide) (show 0 ≤ x396.toInt by first | with_reducible assumption | omega) (show x396.toInt ≤ 999999 by first | with_reducible assumption | omega) (show 0 ≤ x350.toInt from rx350) (show x350.toInt ≤ 9 from tx350) (show 0 ≤ x352.toInt from rx352) (show x352.toInt ≤ 9 from tx352) (Nat.lt_succ_self _) hw hT hF c411 c412 c406 c413 c409 c410 (lv_sub hl [2, 3, 4, 1, 0] rfl)
        · refine va_mmax hx hb (hC.2.2.1.trans hl.1.symm) hC.2.2.2.1 (hC.2.2.2.2 _ (List.mem_cons_of_mem _ uw_43_0)) (hC.2.2.2.2 _ (List.mem_cons_of_mem _ uw_14_15)) (hC.2.2.2.2 _ (List.mem_cons_of_mem _ uw_14_16)) (hC.2.2.2.2 _ (List.mem_cons_of_mem _ uw_14_17)) (Nat.le_of_ble_eq_true rfl) (Nat.le_of_ble_eq_true rfl) (Nat.zero_le _) (Nat.zero_le _) dX1_lookAround_96 ?_
          refine lv_topi (fun x414 ex414 => ?_)
          have bx414 : (x414.toInt = (0 : Int) ∧ (-1 : Int) ≤ (0 : Int)) ∨ (x414.toInt = (-1 : Int) ∧ (0 : Int) < (-1 : Int)) := by rw [ex414]; exact wk_max
          refine tk_puti hC hK hw hT hinX1 tyX1_ok nmX1 kC_at149 (by decide) rfl rfl 8 (by decide) (List.mem_cons_of_mem _ uw_43_1) rfl rfl rfl rfl (wk_i32 x414).1 (wk_i32 x414).2 dX1_lookAround_99 (fun H locs w415 hw hT k417 c416 => ?_)
          have hF := hF.put kC_at149 (k := 8) (by decide) k417
          have c418 := k417.gi (Or.inr (by decide)) c391
          have c419 := k417.gi (Or.inr (by decide)) c392
          have c420 := k417.gi (Or.inr (by decide)) c393
          have c421 := k417.gi (Or.inr (by decide)) c394
          have c422 := k417.gi (Or.inr (by decide)) c395
          refine lv_aload_n hx hb dX1_lookAround_102 rfl (lv_at hl 1 rfl) ?_
          refine lv_iconst (v := (-1)) hx hb dX1_lookAround_103 (by decide) ?_
          refine tk_puti hC hK hw hT hinX1 tyX1_ok nmX1 kC_at149 (by decide) rfl rfl 7 (by decide) (List.mem_cons_of_mem _ uw_42_7) rfl rfl rfl rfl (by decide) (by decide) dX1_lookAround_104 (fun H locs w423 hw hT k425 c424 => ?_)
          have hF := hF.put kC_at149 (k := 7) (by decide) k425
          have c426 := k425.gi (Or.inr (by decide)) c418
          have c427 := k425.gi (Or.inr (by decide)) c419
          have c428 := k425.gi (Or.inr (by decide)) c420
          have c429 := k425.gi (Or.inr (by decide)) c421
          have c430 := k425.gi (Or.inr (by decide)) c422
          have c431 := k425.gi (Or.inr (by decide)) c416
          refine lv_iconst (v := 0) hx hb dX1_lookAround_107 (by decide) ?_
          refine lv_istore (lv' := [(4, .int 0), (3, .int r342), (0, .ref (ad 149)), (1, .ref (ad 152)), (2, .int 1)]) hx hb dX1_lookAround_108 hl (by decide) rfl (fun ls hl => ?_)
          exact L110 ((12 - (0 : Int)).toNat + 1) r342 0 r354 0 (-1) x414 x350 x352 H locs ls w423 (show 0 ≤ r342.toInt by first | with_reducible assumption | omega) (show r342.toInt ≤ 10 by first | with_reducible assumption | omega) (by decide) (by decide) (show (-1) ≤ r354.toInt by first | with_reducible assumption | omega) (show r354.toInt ≤ 11 by first | with_reducible assumption | omega) (by decide) (by decide) (by decide) (by decide) (show 0 ≤ x414.toInt by first | with_reducible assumption | omega) (show x414.toInt ≤ 999999 by first | with_reducible assumption | omega) (show 0 ≤ x350.toInt from rx350) (show x350.toInt ≤ 9 from tx350) (show 0 ≤ x352.toInt from rx352) (show x352.toInt ≤ 9 from tx352) (Nat.lt_succ_self _) hw hT hF c429 c430 c424 c431 c427 c428 (lv_sub hl [2, 3, 4, 1, 0] rfl)
      · have c372 : ¬ r354.toInt = (-1 : Int) := wk_eqF c372
        refine lv_aload_n hx hb dX1_lookAround_58 rfl (lv_at hl 1 rfl) ?_
        refine lv_aload_n hx hb dX1_lookAround_59 rfl (lv_at hl 2 rfl) ?_
        refine lv_aload_n hx hb dX1_lookAround_60 rfl (lv_at hl 1 rfl) ?_
        refine tk_geti hC hK hw hT hinX1 kC_at149 (by decide) rfl 5 (by decide) (List.mem_cons_of_mem _ uw_42_6) rfl rfl dX1_lookAround_61 (fun x432 c433 rx432 tx432 => ?_)
        refine wk_top r354 (c433.symm.trans c365) ?_
        refine tk_Vi hC hK hw hT hA hE hSR kC_at149 (by decide) rfl (k_X1_isOpenFor_2 l adK adV dC dI cy ad B hB0 (Int.le_trans hB1 (by decide)) qr s1   r354 (show 0 ≤ r354.toInt by first | with_reducible assumption | omega) (show r354.toInt ≤ 11 by first | with_reducible assumption | omega) w364 H.size hT ) (cwV 2 hC.2.2.2.2 uV_RX1_110 rfl rfl rfl (by decide +kernel) ⟨Nat.le_of_ble_eq_true rfl, Nat.le_of_ble_eq_true rfl⟩) rfl hl.1 rfl (Nat.le_of_ble_eq_true rfl) dX1_lookAround_64 (fun r434 w436 H locs hp435 hw => ?_)
        obtain ⟨hT, k437, hg440⟩ := hp435
        have hF := hF.tr k437 (by decide)
        have c441 := k437.gi kC_at149 (by decide) c367
        have c442 := k437.gi kC_at152 (by decide) c368
        have c443 := k437.gi kC_at152 (by decide) c369
        have c444 := k437.gi kC_at149 (by decide) c365
        rcases hg440 with rfl | ⟨rfl, ⟨x438, c439, rx438, tx438⟩⟩
        · refine lv_if_eq (tgt := 74) hx hb dX1_lookAround_67 (by decide) (fun _ => ?_) (fun c => absurd (by decide) c)
          refine lv_iconst (v := 0) hx hb dX1_lookAround_74 (by decide) ?_
          refine tk_putz hC hK hw hT hinX1 tyX1_ok nmX1 kC_at149 (by decide) rfl rfl 6 (by decide) (List.mem_cons_of_mem _ uw_42_5) rfl rfl rfl rfl (by decide) (by decide) dX1_lookAround_75 (fun H locs w445 hw hT k447 c446 => ?_)
          have hF := hF.put kC_at149 (k := 6) (by decide) k447
          have c448 := k447.gi (Or.inr (by decide)) c441
          have c449 := k447.gi (Or.inr (by decide)) c442
          have c450 := k447.gi (Or.inr (by decide)) c443
          have c451 := k447.gi (Or.inr (by decide)) c444
          refine lv_aload_n hx hb dX1_lookAround_78 rfl (lv_at hl 1 rfl) ?_
          refine lv_iconst (v := 0) hx hb dX1_lookAround_79 (by decide) ?_
          refine lv_aload_n hx hb dX1_lookAround_80 rfl (lv_at hl 1 rfl) ?_
          refine tk_getA hC hK hw hT hinX1 kC_at149 (by decide) rfl 1 (by decide) (List.mem_cons_of_mem _ uw_5_1) rfl rfl dX1_lookAround_81 ?_
          refine lv_iload_n hx hb dX1_lookAround_84 rfl (lv_at hl 0 rfl) ?_
          refine lv_aload_n hx hb dX1_lookAround_85 rfl (lv_at hl 2 rfl) ?_
          refine tk_geti hC hK hw hT hinX9 kC_at152 (by decide) rfl 0 (by decide) (List.mem_cons_of_mem _ uw_42_22) rfl rfl dX1_lookAround_86 (fun x452 c453 rx452 tx452 => ?_)
          refine wk_top x350 (c453.symm.trans c449) ?_
          refine lv_aload_n hx hb dX1_lookAround_89 rfl (lv_at hl 2 rfl) ?_
          refine tk_geti hC hK hw hT hinX9 kC_at152 (by decide) rfl 1 (by decide) (List.mem_cons_of_mem _ uw_42_23) rfl rfl dX1_lookAround_90 (fun x454 c455 rx454 tx454 => ?_)
          refine wk_top x352 (c455.symm.trans c450) ?_
          refine tk_Vi hC hK hw hT hA hE hSR kC_at145 (by decide) rfl (k_X0_hoursBy_2 l adK adV dC dI cy ad B hB0 (Int.le_trans hB1 (by decide)) qr s1   r342 (show 4 ≤ r342.toInt by first | with_reducible assumption | omega) (show r342.toInt ≤ 10 by first | with_reducible assumption | omega) x350 (show 0 ≤ x350.toInt from rx350) (show x350.toInt ≤ 9 from tx350) x352 (show 0 ≤ x352.toInt from rx352) (show x352.toInt ≤ 9 from tx352) w445 H.size hT ) (cwV 3 hC.2.2.2.2 uV_RX1_114 rfl rfl rfl (by decide +kernel) ⟨Nat.le_of_ble_eq_true rfl, Nat.le_of_ble_eq_true rfl⟩) rfl hl.1 rfl (Nat.le_of_ble_eq_true rfl) dX1_lookAround_93 (fun r456 w458 H locs hp457 hw => ?_)
          obtain ⟨hT, k459, hg462⟩ := hp457
          have hF := hF.tr k459 (by decide)
          have c463 := k459.gi kC_at149 (by decide) c448
          have c464 := k459.gi kC_at152 (by decide) c449
          have c465 := k459.gi kC_at152 (by decide) c450
          have c466 := k459.gi kC_at149 (by decide) c451
          have c467 := k459.gi kC_at149 (by decide) c446
          rcases hg462 with ⟨g460, g461⟩ | rfl
          · refine va_mmax hx hb (hC.2.2.1.trans hl.1.symm) hC.2.2.2.1 (hC.2.2.2.2 _ (List.mem_cons_of_mem _ uw_43_0)) (hC.2.2.2.2 _ (List.mem_cons_of_mem _ uw_14_15)) (hC.2.2.2.2 _ (List.mem_cons_of_mem _ uw_14_16)) (hC.2.2.2.2 _ (List.mem_cons_of_mem _ uw_14_17)) (Nat.le_of_ble_eq_true rfl) (Nat.le_of_ble_eq_true rfl) (Nat.zero_le _) (Nat.zero_le _) dX1_lookAround_96 ?_
            refine lv_topi (fun x468 ex468 => ?_)
            have bx468 : (x468.toInt = (0 : Int) ∧ r456.toInt ≤ (0 : Int)) ∨ (x468.toInt = r456.toInt ∧ (0 : Int) < r456.toInt) := by rw [ex468]; exact wk_max
            refine tk_puti hC hK hw hT hinX1 tyX1_ok nmX1 kC_at149 (by decide) rfl rfl 8 (by decide) (List.mem_cons_of_mem _ uw_43_1) rfl rfl rfl rfl (wk_i32 x468).1 (wk_i32 x468).2 dX1_lookAround_99 (fun H locs w469 hw hT k471 c470 => ?_)
            have hF := hF.put kC_at149 (k := 8) (by decide) k471
            have c472 := k471.gi (Or.inr (by decide)) c463
            have c473 := k471.gi (Or.inr (by decide)) c464
            have c474 := k471.gi (Or.inr (by decide)) c465
            have c475 := k471.gi (Or.inr (by decide)) c466
            have c476 := k471.gi (Or.inr (by decide)) c467
            refine lv_aload_n hx hb dX1_lookAround_102 rfl (lv_at hl 1 rfl) ?_
            refine lv_iconst (v := (-1)) hx hb dX1_lookAround_103 (by decide) ?_
            refine tk_puti hC hK hw hT hinX1 tyX1_ok nmX1 kC_at149 (by decide) rfl rfl 7 (by decide) (List.mem_cons_of_mem _ uw_42_7) rfl rfl rfl rfl (by decide) (by decide) dX1_lookAround_104 (fun H locs w477 hw hT k479 c478 => ?_)
            have hF := hF.put kC_at149 (k := 7) (by decide) k479
            have c480 := k479.gi (Or.inr (by decide)) c472
            have c481 := k479.gi (Or.inr (by decide)) c473
            have c482 := k479.gi (Or.inr (by decide)) c474
            have c483 := k479.gi (Or.inr (by decide)) c475
            have c484 := k479.gi (Or.inr (by decide)) c476
            have c485 := k479.gi (Or.inr (by decide)) c470
            refine lv_iconst (v := 0) hx hb dX1_lookAround_107 (by decide) ?_
            refine lv_istore (lv' := [(4, .int 0), (3, .int r342), (0, .ref (ad 149)), (1, .ref (ad 152)), (2, .int 1)]) hx hb dX1_lookAround_108 hl (by decide) rfl (fun ls hl => ?_)
            exact L110 ((12 - (0 : Int)).toNat + 1) r342 0 r354 0 (-1) x468 x350 x352 H locs ls w477 (show 0 ≤ r342.toInt by first | with_reducible assumption | omega) (show r342.toInt ≤ 10 by first | with_reducible assumption | omega) (by decide) (by decide) (show (-1) ≤ r354.toInt by first | with_reducible assumption | omega) (show r354.toInt ≤ 11 by first | with_reducible assumption | omega) (by decide) (by decide) (by decide) (by decide) (show 0 ≤ x468.toInt by first | with_reducible assumption | omega) (show x468.toInt ≤ 999999 by first | with_reducible assumption | omega) (show 0 ≤ x350.toInt from rx350) (show x350.toInt ≤ 9 from tx350) (show 0 ≤ x352.toInt from rx352) (show x352.toInt ≤ 9 from tx352) (Nat.lt_succ_self _) hw hT hF c483 c484 c478 c485 c481 c482 (lv_sub hl [2, 3, 4, 1, 0] rfl)
          · refine va_mmax hx hb (hC.2.2.1.trans hl.1.symm) hC.2.2.2.1 (hC.2.2.2.2 _ (List.mem_cons_of_mem _ uw_43_0)) (hC.2.2.2.2 _ (List.mem_cons_of_mem _ uw_14_15)) (hC.2.2.2.2 _ (List.mem_cons_of_mem _ uw_14_16)) (hC.2.2.2.2 _ (List.mem_cons_of_mem _ uw_14_17)) (Nat.le_of_ble_eq_true rfl) (Nat.le_of_ble_eq_true rfl) (Nat.zero_le _) (Nat.zero_le _) dX1_lookAround_96 ?_
            refine lv_topi (fun x486 ex486 => ?_)
            have bx486 : (x486.toInt = (0 : Int) ∧ (-1 : Int) ≤ (0 : Int)) ∨ (x486.toInt = (-1 : Int) ∧ (0 : Int) < (-1 : Int)) := by rw [ex486]; exact wk_max
            refine tk_puti hC hK hw hT hinX1 tyX1_ok nmX1 kC_at149 (by decide) rfl rfl 8 (by decide) (List.mem_cons_of_mem _ uw_43_1) rfl rfl rfl rfl (wk_i32 x486).1 (wk_i32 x486).2 dX1_lookAround_99 (fun H locs w487 hw hT k489 c488 => ?_)
            have hF := hF.put kC_at149 (k := 8) (by decide) k489
            have c490 := k489.gi (Or.inr (by decide)) c463
            have c491 := k489.gi (Or.inr (by decide)) c464
            have c492 := k489.gi (Or.inr (by decide)) c465
            have c493 := k489.gi (Or.inr (by decide)) c466
            have c494 := k489.gi (Or.inr (by decide)) c467
            refine lv_aload_n hx hb dX1_lookAround_102 rfl (lv_at hl 1 rfl) ?_
            refine lv_iconst (v := (-1)) hx hb dX1_lookAround_103 (by decide) ?_
            refine tk_puti hC hK hw hT hinX1 tyX1_ok nmX1 kC_at149 (by decide) rfl rfl 7 (by decide) (List.mem_cons_of_mem _ uw_42_7) rfl rfl rfl rfl (by decide) (by decide) dX1_lookAround_104 (fun H locs w495 hw hT k497 c496 => ?_)
            have hF := hF.put kC_at149 (k := 7) (by decide) k497
            have c498 := k497.gi (Or.inr (by decide)) c490
            have c499 := k497.gi (Or.inr (by decide)) c491
            have c500 := k497.gi (Or.inr (by decide)) c492
            have c501 := k497.gi (Or.inr (by decide)) c493
            have c502 := k497.gi (Or.inr (by decide)) c494
            have c503 := k497.gi (Or.inr (by decide)) c488
            refine lv_iconst (v := 0) hx hb dX1_lookAround_107 (by decide) ?_
            refine lv_istore (lv' := [(4, .int 0), (3, .int r342), (0, .ref (ad 149)), (1, .ref (ad 152)), (2, .int 1)]) hx hb dX1_lookAround_108 hl (by decide) rfl (fun ls hl => ?_)
            exact L110 ((12 - (0 : Int)).toNat + 1) r342 0 r354 0 (-1) x486 x350 x352 H locs ls w495 (show 0 ≤ r342.toInt by first | with_reducible assumption | omega) (show r342.toInt ≤ 10 by first | with_reducible assumption | omega) (by decide) (by decide) (show (-1) ≤ r354.toInt by first | with_reducible assumption | omega) (show r354.toInt ≤ 11 by first | with_reducible assumption | omega) (by decide) (by decide) (by decide) (by decide) (show 0 ≤ x486.toInt by first | with_reducible assumption | omega) (show x486.toInt ≤ 999999 by first | with_reducible assumption | omega) (show 0 ≤ x350.toInt from rx350) (show x350.toInt ≤ 9 from tx350) (show 0 ≤ x352.toInt from rx352) (show x352.toInt ≤ 9 from tx352) (Nat.lt_succ_self _) hw hT hF c501 c502 c496 c503 c499 c500 (lv_sub hl [2, 3, 4, 1, 0] rfl)
        · have ex438 : x438.toInt = x331.toInt := by rw [← c441.symm.trans c439]
          refine lv_if_eq (tgt := 74) hx hb dX1_lookAround_67 (by decide) (fun c => absurd c (by decide)) (fun _ => ?_)
          refine lv_iconst (v := 1) hx hb dX1_lookAround_70 (by decide) ?_
          refine lv_goto (tgt := 75) hx hb dX1_lookAround_71 (by decide) ?_
          refine tk_putz hC hK hw hT hinX1 tyX1_ok nmX1 kC_at149 (by decide) rfl rfl 6 (by decide) (List.mem_cons_of_mem _ uw_42_5) rfl rfl rfl rfl (by decide) (by decide) dX1_lookAround_75 (fun H locs w504 hw hT k506 c505 => ?_)
          have hF := hF.put kC_at149 (k := 6) (by decide) k506
          have c507 := k506.gi (Or.inr (by decide)) c441
          have c508 := k506.gi (Or.inr (by decide)) c442
          have c509 := k506.gi (Or.inr (by decide)) c443
          have c510 := k506.gi (Or.inr (by decide)) c444
          refine lv_aload_n hx hb dX1_lookAround_78 rfl (lv_at hl 1 rfl) ?_
          refine lv_iconst (v := 0) hx hb dX1_lookAround_79 (by decide) ?_
          refine lv_aload_n hx hb dX1_lookAround_80 rfl (lv_at hl 1 rfl) ?_
          refine tk_getA hC hK hw hT hinX1 kC_at149 (by decide) rfl 1 (by decide) (List.mem_cons_of_mem _ uw_5_1) rfl rfl dX1_lookAround_81 ?_
          refine lv_iload_n hx hb dX1_lookAround_84 rfl (lv_at hl 0 rfl) ?_
          refine lv_aload_n hx hb dX1_lookAround_85 rfl (lv_at hl 2 rfl) ?_
          refine tk_geti hC hK hw hT hinX9 kC_at152 (by decide) rfl 0 (by decide) (List.mem_cons_of_mem _ uw_42_22) rfl rfl dX1_lookAround_86 (fun x511 c512 rx511 tx511 => ?_)
          refine wk_top x350 (c512.symm.trans c508) ?_
          refine lv_aload_n hx hb dX1_lookAround_89 rfl (lv_at hl 2 rfl) ?_
          refine tk_geti hC hK hw hT hinX9 kC_at152 (by decide) rfl 1 (by decide) (List.mem_cons_of_mem _ uw_42_23) rfl rfl dX1_lookAround_90 (fun x513 c514 rx513 tx513 => ?_)
          refine wk_top x352 (c514.symm.trans c509) ?_
          refine tk_Vi hC hK hw hT hA hE hSR kC_at145 (by decide) rfl (k_X0_hoursBy_2 l adK adV dC dI cy ad B hB0 (Int.le_trans hB1 (by decide)) qr s1   r342 (show 4 ≤ r342.toInt by first | with_reducible assumption | omega) (show r342.toInt ≤ 10 by first | with_reducible assumption | omega) x350 (show 0 ≤ x350.toInt from rx350) (show x350.toInt ≤ 9 from tx350) x352 (show 0 ≤ x352.toInt from rx352) (show x352.toInt ≤ 9 from tx352) w504 H.size hT ) (cwV 3 hC.2.2.2.2 uV_RX1_114 rfl rfl rfl (by decide +kernel) ⟨Nat.le_of_ble_eq_true rfl, Nat.le_of_ble_eq_true rfl⟩) rfl hl.1 rfl (Nat.le_of_ble_eq_true rfl) dX1_lookAround_93 (fun r515 w517 H locs hp516 hw => ?_)
          obtain ⟨hT, k518, hg521⟩ := hp516
          have hF := hF.tr k518 (by decide)
          have c522 := k518.gi kC_at149 (by decide) c507
          have c523 := k518.gi kC_at152 (by decide) c508
          have c524 := k518.gi kC_at152 (by decide) c509
          have c525 := k518.gi kC_at149 (by decide) c510
          have c526 := k518.gi kC_at149 (by decide) c505
          rcases hg521 with ⟨g519, g520⟩ | rfl
          · refine va_mmax hx hb (hC.2.2.1.trans hl.1.symm) hC.2.2.2.1 (hC.2.2.2.2 _ (List.mem_cons_of_mem _ uw_43_0)) (hC.2.2.2.2 _ (List.mem_cons_of_mem _ uw_14_15)) (hC.2.2.2.2 _ (List.mem_cons_of_mem _ uw_14_16)) (hC.2.2.2.2 _ (List.mem_cons_of_mem _ uw_14_17)) (Nat.le_of_ble_eq_true rfl) (Nat.le_of_ble_eq_true rfl) (Nat.zero_le _) (Nat.zero_le _) dX1_lookAround_96 ?_
            refine lv_topi (fun x527 ex527 => ?_)
            have bx527 : (x527.toInt = (0 : Int) ∧ r515.toInt ≤ (0 : Int)) ∨ (x527.toInt = r515.toInt ∧ (0 : Int) < r515.toInt) := by rw [ex527]; exact wk_max
            refine tk_puti hC hK hw hT hinX1 tyX1_ok nmX1 kC_at149 (by decide) rfl rfl 8 (by decide) (List.mem_cons_of_mem _ uw_43_1) rfl rfl rfl rfl (wk_i32 x527).1 (wk_i32 x527).2 dX1_lookAround_99 (fun H locs w528 hw hT k530 c529 => ?_)
            have hF := hF.put kC_at149 (k := 8) (by decide) k530
            have c531 := k530.gi (Or.inr (by decide)) c522
            have c532 := k530.gi (Or.inr (by decide)) c523
            have c533 := k530.gi (Or.inr (by decide)) c524
            have c534 := k530.gi (Or.inr (by decide)) c525
            have c535 := k530.gi (Or.inr (by decide)) c526
            refine lv_aload_n hx hb dX1_lookAround_102 rfl (lv_at hl 1 rfl) ?_
            refine lv_iconst (v := (-1)) hx hb dX1_lookAround_103 (by decide) ?_
            refine tk_puti hC hK hw hT hinX1 tyX1_ok nmX1 kC_at149 (by decide) rfl rfl 7 (by decide) (List.mem_cons_of_mem _ uw_42_7) rfl rfl rfl rfl (by decide) (by decide) dX1_lookAround_104 (fun H locs w536 hw hT k538 c537 => ?_)
            have hF := hF.put kC_at149 (k := 7) (by decide) k538
            have c539 := k538.gi (Or.inr (by decide)) c531
            have c540 := k538.gi (Or.inr (by decide)) c532
            have c541 := k538.gi (Or.inr (by decide)) c533
            have c542 := k538.gi (Or.inr (by decide)) c534
            have c543 := k538.gi (Or.inr (by decide)) c535
            have c544 := k538.gi (Or.inr (by decide)) c529
            refine lv_iconst (v := 0) hx hb dX1_lookAround_107 (by decide) ?_
            refine lv_istore (lv' := [(4, .int 0), (3, .int r342), (0, .ref (ad 149)), (1, .ref (ad 152)), (2, .int 1)]) hx hb dX1_lookAround_108 hl (by decide) rfl (fun ls hl => ?_)
            exact L110 ((12 - (0 : Int)).toNat + 1) r342 0 r354 1 (-1) x527 x350 x352 H locs ls w536 (show 0 ≤ r342.toInt by first | with_reducible assumption | omega) (show r342.toInt ≤ 10 by first | with_reducible assumption | omega) (by decide) (by decide) (show (-1) ≤ r354.toInt by first | with_reducible assumption | omega) (show r354.toInt ≤ 11 by first | with_reducible assumption | omega) (by decide) (by decide) (by decide) (by decide) (show 0 ≤ x527.toInt by first | with_reducible assumption | omega) (show x527.toInt ≤ 999999 by first | with_reducible assumption | omega) (show 0 ≤ x350.toInt from rx350) (show x350.toInt ≤ 9 from tx350) (show 0 ≤ x352.toInt from rx352) (show x352.toInt ≤ 9 from tx352) (Nat.lt_succ_self _) hw hT hF c542 c543 c537 c544 c540 c541 (lv_sub hl [2, 3, 4, 1, 0] rfl)
          · refine va_mmax hx hb (hC.2.2.1.trans hl.1.symm) hC.2.2.2.1 (hC.2.2.2.2 _ (List.mem_cons_of_mem _ uw_43_0)) (hC.2.2.2.2 _ (List.mem_cons_of_mem _ uw_14_15)) (hC.2.2.2.2 _ (List.mem_cons_of_mem _ uw_14_16)) (hC.2.2.2.2 _ (List.mem_cons_of_mem _ uw_14_17)) (Nat.le_of_ble_eq_true rfl) (Nat.le_of_ble_eq_true rfl) (Nat.zero_le _) (Nat.zero_le _) dX1_lookAround_96 ?_
            refine lv_topi (fun x545 ex545 => ?_)
            have bx545 : (x545.toInt = (0 : Int) ∧ (-1 : Int) ≤ (0 : Int)) ∨ (x545.toInt = (-1 : Int) ∧ (0 : Int) < (-1 : Int)) := by rw [ex545]; exact wk_max
            refine tk_puti hC hK hw hT hinX1 tyX1_ok nmX1 kC_at149 (by decide) rfl rfl 8 (by decide) (List.mem_cons_of_mem _ uw_43_1) rfl rfl rfl rfl (wk_i32 x545).1 (wk_i32 x545).2 dX1_lookAround_99 (fun H locs w546 hw hT k548 c547 => ?_)
            have hF := hF.put kC_at149 (k := 8) (by decide) k548
            have c549 := k548.gi (Or.inr (by decide)) c522
            have c550 := k548.gi (Or.inr (by decide)) c523
            have c551 := k548.gi (Or.inr (by decide)) c524
            have c552 := k548.gi (Or.inr (by decide)) c525
            have c553 := k548.gi (Or.inr (by decide)) c526
            refine lv_aload_n hx hb dX1_lookAround_102 rfl (lv_at hl 1 rfl) ?_
            refine lv_iconst (v := (-1)) hx hb dX1_lookAround_103 (by decide) ?_
            refine tk_puti hC hK hw hT hinX1 tyX1_ok nmX1 kC_at149 (by decide) rfl rfl 7 (by decide) (List.mem_cons_of_mem _ uw_42_7) rfl rfl rfl rfl (by decide) (by decide) dX1_lookAround_104 (fun H locs w554 hw hT k556 c555 => ?_)
            have hF := hF.put kC_at149 (k := 7) (by decide) k556
            have c557 := k556.gi (Or.inr (by decide)) c549
            have c558 := k556.gi (Or.inr (by decide)) c550
            have c559 := k556.gi (Or.inr (by decide)) c551
            have c560 := k556.gi (Or.inr (by decide)) c552
            have c561 := k556.gi (Or.inr (by decide)) c553
            have c562 := k556.gi (Or.inr (by decide)) c547
            refine lv_iconst (v := 0) hx hb dX1_lookAround_107 (by decide) ?_
            refine lv_istore (lv' := [(4, .int 0), (3, .int r342), (0, .ref (ad 149)), (1, .ref (ad 152)), (2, .int 1)]) hx hb dX1_lookAround_108 hl (by decide) rfl (fun ls hl => ?_)
            exact L110 ((12 - (0 : Int)).toNat + 1) r342 0 r354 1 (-1) x545 x350 x352 H locs ls w554 (show 0 ≤ r342.toInt by first | with_reducible assumption | omega) (show r342.toInt ≤ 10 by first | with_reducible assumption | omega) (by decide) (by decide) (show (-1) ≤ r354.toInt by first | with_reducible assumption | omega) (show r354.toInt ≤ 11 by first | with_reducible assumption | omega) (by decide) (by decide) (by decide) (by decide) (show 0 ≤ x545.toInt by first | with_reducible assumption | omega) (show x545.toInt ≤ 999999 by first | with_reducible assumption | omega) (show 0 ≤ x350.toInt from rx350) (show x350.toInt ≤ 9 from tx350) (show 0 ≤ x352.toInt from rx352) (show x352.toInt ≤ 9 from tx352) (Nat.lt_succ_self _) hw hT hF c560 c561 c555 c562 c558 c559 (lv_sub hl [2, 3, 4, 1, 0] rfl)
abbrev P_X1_takeStep_2 (ad : Nat → Nat) (cy : Nat → ClassId) (B : Int) (qr : Nat) (s1 : Int)  (w0 : va_W) : Int32 → va_W → Prop := fun r u => TW ksC ad cy (B + 9) qr s1 u ∧ FE ksC [(1, 4, 4), (1, 5, 5), (1, 6, 6), (1, 7, 7), (1, 8, 8), (9, 0, 0), (9, 4, 4), (9, 5, 5), (9, 6, 6), (9, 7, 7), (9, 8, 8), (45, 0, 64)] w0 u ∧ (((∃ y : Int32, gi u 149 8 = y ∧ 0 ≤ y.toInt ∧ y.toInt ≤ 999999)) ∨ (r = 4))
set_option maxHeartbeats 4000000 in
set_option maxRecDepth 100000 in
theorem k_X1_takeStep_2 (l : Launch) (adK adV : Nat → Nat) (dC : Nat → ClassId) (dI : Nat → Nat → Nat) (cy : Nat → ClassId) (ad : Nat → Nat) (B : Int) (hB0 : 2147483648 ≤ B) (hB1 : B ≤ 1152921504606846976) (qr : Nat) (s1 : Int)   (w0 : va_W) (sz : Nat) (hT : TW ksC ad cy B qr s1 w0)  : Met l yX1_takeStep (wu yX1_takeStep cX1_takeStep 4 (some .int)) ({ frames := 5, cells := 0, slots := 0, locals := 112 }) (va_Pc [.ref (ad 149), .ref (ad 152)] (wpreS adK adV dC dI cy sz w0)) (va_Qi (P_X1_takeStep_2 ad cy B qr s1  w0) (fun u : va_W => wpost dC dI cy (va_A w0 sz) u) (va_A w0 sz)) 0 0 (va_A w0 sz) := by
  refine Met.ofW (cc := cX1_takeStep) (maxL := 4) (ret := (some .int)) (by decide) rfl ?_
  intro p e s m args below meth c s₁ Bk hml hv
  obtain ⟨rfl, ⟨hsz, hP, hK, hD0⟩, hE, hSR⟩ := hv
  have hx := Bk.exec
  have hb := Bk.bytes
  have hr := Bk.returns
  have hlocks := Bk.notSynchronized
  have hC : CallFix p m c cX1_takeStep 4 s _ (wu yX1_takeStep cX1_takeStep 4 (some .int)) RX1 := ⟨hx, hb, hml, findClass_of_methodNamed Bk.named, atoms_spec (ws := (wu yX1_takeStep cX1_takeStep 4 (some .int))) Bk.pre⟩
  subst hsz
  have hD := hD0.self (sz := s.heap.size)
  generalize hAe : va_A w0 s.heap.size = A at hD hE ⊢
  have hA : ∀ q : Nat, s.heap.size ≤ q → A q := fun q h => by rw [← hAe]; exact Or.inr h
  have hw : Wd dC dI A s.heap s.heap [] w0 := ⟨hP, hD, va_S.rf⟩
  have hF : FE ksC [(1, 4, 4), (1, 5, 5), (1, 6, 6), (1, 7, 7), (1, 8, 8), (9, 0, 0), (9, 4, 4), (9, 5, 5), (9, 6, 6), (9, 7, 7), (9, 8, 8), (45, 0, 64)] w0 w0 := FE.rf
  have hl := lv_entry ([.ref (ad 149), .ref (ad 152)]) (n := 4) (Nat.le_of_ble_eq_true rfl)
  rw [lg_entry_eq]
  generalize (lg_sl ([.ref (ad 149), .ref (ad 152)]) ++ List.replicate (4 - (lg_sl ([.ref (ad 149), .ref (ad 152)])).length) Slot.unset).toArray = ls at hl ⊢
  have hl : lv_has ls 4 [(0, .ref (ad 149)), (1, .ref (ad 152))] := hl
  generalize hloc : ([] : List Loc) = locs at hw ⊢
  have hinX9 : ∀ w ∈ u_ws RX9 TX9 9, w ∈ (wu yX1_takeStep cX1_takeStep 4 (some .int)) := fun _ h => List.mem_cons_of_mem _ (up_82 h)
  have hinX1 : ∀ w ∈ u_ws RX1 TX1 10, w ∈ (wu yX1_takeStep cX1_takeStep 4 (some .int)) := fun _ h => List.mem_cons_of_mem _ (up_78 h)
  have hinX2 : ∀ w ∈ u_ws RX2 TX2 6, w ∈ (wu yX1_takeStep cX1_takeStep 4 (some .int)) := fun _ h => List.mem_cons_of_mem _ (up_74 h)
  have J155 : ∀ (v155_3 : Int32) (f155_149_8 : Int32) (f155_152_3 : Int32) (H : Heap) (locs : List Loc) (ls : Array Slot) (w1 : va_W), 0 ≤ f155_149_8.toInt → f155_149_8.toInt ≤ 999999 → Wd dC dI A s.heap H locs w1 → TW ksC ad cy (B + 9) qr s1 w1 → FE ksC [(1, 4, 4), (1, 5, 5), (1, 6, 6), (1, 7, 7), (1, 8, 8), (9, 0, 0), (9, 4, 4), (9, 5, 5), (9, 6, 6), (9, 7, 7), (9, 8, 8), (45, 0, 64)] w0 w1 → gi w1 149 8 = f155_149_8 → gi w1 152 3 = f155_152_3 → lv_has ls 4 [(0, .ref (ad 149)), (1, .ref (ad 152)), (3, .int v155_3)] → W p l e ({ frames := 5, cells := 0, slots := 0, locals := 112 }) s m (List.toArray [.ref (ad 149), .ref (ad 152)]) below meth c H locs 0 0 (MQ below (va_Qi (P_X1_takeStep_2 ad cy B qr s1  w0) (fun u : va_W => wpost dC dI cy A u) A) (List.toArray [.ref (ad 149), .ref (ad 152)]) s 0 0 A) (F0 m 155 ls []) := by
    intro v155_3 f155_149_8 f155_152_3 H locs ls w1 r2 t3 hw hT hF c4 c5 hl
    refine lv_aload_n hx hb dX1_takeStep_155 rfl (lv_at hl 1 rfl) ?_
    refine lv_dup hx hb dX1_takeStep_156 rfl ?_
    refine tk_geti hC hK hw hT hinX9 kC_at152 (by decide) rfl 5 (by decide) (List.mem_cons_of_mem _ uw_42_11) rfl rfl dX1_takeStep_157 (fun x6 c7 rx6 tx6 => ?_)
    refine lv_iconst (v := 1) hx hb dX1_takeStep_160 (by decide) ?_
    refine lv_iadd hx hb dX1_takeStep_161 ?_
    have nx8 := wk_i32 x6
    refine lv_topi (fun x9 ex9 => ?_)
    refine tk_puti hC hK hw hT hinX9 tyX9_ok nmX9 kC_at152 (by decide) rfl rfl 5 (by decide) (List.mem_cons_of_mem _ uw_42_11) rfl rfl rfl rfl (wk_i32 x9).1 (wk_i32 x9).2 dX1_takeStep_162 (fun H locs w10 hw hT k12 c11 => ?_)
    have hF := hF.put kC_at152 (k := 5) (by decide) k12
    have c13 := k12.gi (Or.inr (by decide)) c4
    have c14 := k12.gi (Or.inr (by decide)) c5
    refine lv_iload_n hx hb dX1_takeStep_165 rfl (lv_at hl 2 rfl) ?_
    exact tk_iret hC hr hlocks hK ⟨hT, hF, (Or.inl ⟨f155_149_8, c13, (show 0 ≤ f155_149_8.toInt from r2), (show f155_149_8.toInt ≤ 999999 from t3)⟩)⟩ hw dX1_takeStep_166
  have J145 : ∀ (v145_3 : Int32) (f145_149_8 : Int32) (f145_152_3 : Int32) (H : Heap) (locs : List Loc) (ls : Array Slot) (w15 : va_W), 0 ≤ f145_149_8.toInt → f145_149_8.toInt ≤ 999999 → Wd dC dI A s.heap H locs w15 → TW ksC ad cy B qr s1 w15 → FE ksC [(1, 4, 4), (1, 5, 5), (1, 6, 6), (1, 7, 7), (1, 8, 8), (9, 0, 0), (9, 4, 4), (9, 5, 5), (9, 6, 6), (9, 7, 7), (9, 8, 8), (45, 0, 64)] w0 w15 → gi w15 149 8 = f145_149_8 → gi w15 152 3 = f145_152_3 → lv_has ls 4 [(0, .ref (ad 149)), (1, .ref (ad 152)), (3, .int v145_3)] → W p l e ({ frames := 5, cells := 0, slots := 0, locals := 112 }) s m (List.toArray [.ref (ad 149), .ref (ad 152)]) below meth c H locs 0 0 (MQ below (va_Qi (P_X1_takeStep_2 ad cy B qr s1  w0) (fun u : va_W => wpost dC dI cy A u) A) (List.toArray [.ref (ad 149), .ref (ad 152)]) s 0 0 A) (F0 m 145 ls []) := by
    intro v145_3 f145_149_8 f145_152_3 H locs ls w15 r16 t17 hw hT hF c18 c19 hl
    refine lv_aload_n hx hb dX1_takeStep_145 rfl (lv_at hl 1 rfl) ?_
    refine lv_dup hx hb dX1_takeStep_146 rfl ?_
    refine tk_getB hC hK hw hT hinX9 kC_at152 (by decide) rfl 4 (by decide) (List.mem_cons_of_mem _ uw_42_10) rfl rfl dX1_takeStep_147 (fun x20 c21 rx20 tx20 => ?_)
    refine lv_lconst (v := 1) hx hb dX1_takeStep_150 (by decide) ?_
    refine lv_ladd hx hb dX1_takeStep_151 ?_
    refine lv_topl (fun x22 ex22 => ?_)
    have ex22 : x22.toInt = x20.toInt + (1 : Int) := by rw [ex22]; exact wk_addl (show (-9223372036854775808) ≤ x20.toInt + (1 : Int) by omega) (show x20.toInt + (1 : Int) ≤ 9223372036854775807 by omega)
    have hT := hT.up (show B ≤ (B + 1) by omega)
    refine tk_putB hC hK hw hT hinX9 tyX9_ok nmX9 kC_at152 (by decide) rfl rfl 4 (by decide) (List.mem_cons_of_mem _ uw_42_10) rfl rfl rfl rfl (show 0 ≤ x22.toInt by first | with_reducible assumption | omega) (show x22.toInt ≤ (B + 1) by omega) dX1_takeStep_152 (fun H locs w23 hw hT k25 c24 => ?_)
    have hF := hF.put kC_at152 (k := 4) (by decide) k25
    have c26 := k25.gi (Or.inr (by decide)) c18
    have c27 := k25.gi (Or.inr (by decide)) c19
    exact J155 v145_3 f145_149_8 f145_152_3 H locs ls w23 (show 0 ≤ f145_149_8.toInt from r16) (show f145_149_8.toInt ≤ 999999 from t17)  hw (hT.up (show (B + 1) ≤ (B + 9) by omega)) hF c26 c27 (lv_sub hl [0, 1, 2] rfl)
  have J40 : ∀ (f40_152_3 : Int32) (H : Heap) (locs : List Loc) (ls : Array Slot) (w28 : va_W), Wd dC dI A s.heap H locs w28 → TW ksC ad cy B qr s1 w28 → FE ksC [(1, 4, 4), (1, 5, 5), (1, 6, 6), (1, 7, 7), (1, 8, 8), (9, 0, 0), (9, 4, 4), (9, 5, 5), (9, 6, 6), (9, 7, 7), (9, 8, 8), (45, 0, 64)] w0 w28 → gi w28 152 3 = f40_152_3 → lv_has ls 4 [(0, .ref (ad 149)), (1, .ref (ad 152))] → W p l e ({ frames := 5, cells := 0, slots := 0, locals := 112 }) s m (List.toArray [.ref (ad 149), .ref (ad 152)]) below meth c H locs 0 0 (MQ below (va_Qi (P_X1_takeStep_2 ad cy B qr s1  w0) (fun u : va_W => wpost dC dI cy A u) A) (List.toArray [.ref (ad 149), .ref (ad 152)]) s 0 0 A) (F0 m 40 ls []) := by
    intro f40_152_3 H locs ls w28 hw hT hF c29 hl
    refine lv_null hx hb dX1_takeStep_40 ?_
    refine lv_astore_nN (lv' := [(2, .null), (0, .ref (ad 149)), (1, .ref (ad 152))]) hx hb dX1_takeStep_41 rfl hl (by decide) rfl (fun ls hl => ?_)
    refine lv_aload_n hx hb dX1_takeStep_42 rfl (lv_at hl 1 rfl) ?_
    refine lv_aload_n hx hb dX1_takeStep_43 rfl (lv_at hl 2 rfl) ?_
    refine lv_aload_nN hx hb dX1_takeStep_44 rfl (lv_at hl 0 rfl) ?_
    refine lv_ifnullN (tgt := 59) hx hb dX1_takeStep_45 (by decide) ?_
    refine lv_iconst (v := 0) hx hb dX1_takeStep_59 (by decide) ?_
    refine tk_Vv hC hK hw hT hA hE hSR kC_at149 (by decide) rfl (k_X1_lookAround_3 l adK adV dC dI cy ad B hB0 (Int.le_trans hB1 (by decide)) qr s1    w28 H.size hT ) (cwV 2 hC.2.2.2.2 uV_RX1_47 rfl rfl rfl (by decide +kernel) ⟨Nat.le_of_ble_eq_true rfl, Nat.le_of_ble_eq_true rfl⟩) rfl hl.1 rfl (Nat.le_of_ble_eq_true rfl) dX1_takeStep_60 (fun w32 H locs hp31 hw => ?_)
    obtain ⟨hT, k33, hg38⟩ := hp31
    have hF := hF.tr k33 (by decide)
    have c39 := k33.gi kC_at152 (by decide) c29
    obtain ⟨⟨x34, c35, rx34, tx34⟩, ⟨x36, c37, rx36, tx36⟩⟩ := hg38
    refine lv_aload_nN hx hb dX1_takeStep_63 rfl (lv_at hl 0 rfl) ?_
    refine lv_ifnullN (tgt := 76) hx hb dX1_takeStep_64 (by decide) ?_
    refine lv_aload_n hx hb dX1_takeStep_76 rfl (lv_at hl 1 rfl) ?_
    refine tk_geti hC hK hw hT hinX1 kC_at149 (by decide) rfl 6 (by decide) (List.mem_cons_of_mem _ uw_42_5) rfl rfl dX1_takeStep_77 (fun x40 c41 rx40 tx40 => ?_)
    refine lv_if_eq (tgt := 87) hx hb dX1_takeStep_80 (by decide) (fun c42 => ?_) (fun c42 => ?_)
    · have c42 : x40.toInt = (0 : Int) := wk_eq.mp c42
      refine lv_iconst (v := 3) hx hb dX1_takeStep_87 (by decide) ?_
      refine lv_istore_n (lv' := [(3, .int 3), (2, .null), (0, .ref (ad 149)), (1, .ref (ad 152))]) hx hb dX1_takeStep_88 rfl hl (by decide) rfl (fun ls hl => ?_)
      refine lv_iload_n hx hb dX1_takeStep_89 rfl (lv_at hl 0 rfl) ?_
      refine lv_if_ne (tgt := 105) hx hb dX1_takeStep_90 (by decide) (fun _ => ?_) (fun c => absurd c (by decide))
      refine lv_iload_n hx hb dX1_takeStep_105 rfl (lv_at hl 0 rfl) ?_
      refine lv_iconst (v := 1) hx hb dX1_takeStep_106 (by decide) ?_
      refine lv_icmp_ne (tgt := 122) hx hb dX1_takeStep_107 (by decide) (fun _ => ?_) (fun c => absurd c (by decide))
      refine lv_iload_n hx hb dX1_takeStep_122 rfl (lv_at hl 0 rfl) ?_
      refine lv_iconst (v := 2) hx hb dX1_takeStep_123 (by decide) ?_
      refine lv_icmp_ne (tgt := 145) hx hb dX1_takeStep_124 (by decide) (fun _ => ?_) (fun c => absurd c (by decide))
      exact J145 3 x36 f40_152_3 H locs ls w32 (show 0 ≤ x36.toInt by first | with_reducible assumption | omega) (show x36.toInt ≤ 999999 by first | with_reducible assumption | omega)  hw hT hF c37 c39 (lv_sub hl [2, 3, 0] rfl)
    · have c42 : ¬ x40.toInt = (0 : Int) := wk_eqF c42
      refine lv_iconst (v := 0) hx hb dX1_takeStep_83 (by decide) ?_
      refine lv_goto (tgt := 88) hx hb dX1_takeStep_84 (by decide) ?_
      refine lv_istore_n (lv' := [(3, .int 0), (2, .null), (0, .ref (ad 149)), (1, .ref (ad 152))]) hx hb dX1_takeStep_88 rfl hl (by decide) rfl (fun ls hl => ?_)
      refine lv_iload_n hx hb dX1_takeStep_89 rfl (lv_at hl 0 rfl) ?_
      refine lv_if_ne (tgt := 105) hx hb dX1_takeStep_90 (by decide) (fun c => absurd (by decide) c) (fun _ => ?_)
      refine lv_aload_n hx hb dX1_takeStep_93 rfl (lv_at hl 2 rfl) ?_
      refine lv_aload_n hx hb dX1_takeStep_94 rfl (lv_at hl 3 rfl) ?_
      refine lv_aload_n hx hb dX1_takeStep_95 rfl (lv_at hl 2 rfl) ?_
      refine tk_geti hC hK hw hT hinX1 kC_at149 (by decide) rfl 5 (by decide) (List.mem_cons_of_mem _ uw_42_6) rfl rfl dX1_takeStep_96 (fun x43 c44 rx43 tx43 => ?_)
      refine tk_Vv hC hK hw hT hA hE hSR kC_at149 (by decide) rfl (k_X1_follow_3 l adK adV dC dI cy ad B hB0 (Int.le_trans hB1 (by decide)) qr s1   x43 (show (-1) ≤ x43.toInt from rx43) (show x43.toInt ≤ 11 from tx43) w32 H.size hT ) (cwV 2 hC.2.2.2.2 uV_RX1_61 rfl rfl rfl (by decide +kernel) ⟨Nat.le_of_ble_eq_true rfl, Nat.le_of_ble_eq_true rfl⟩) rfl hl.1 rfl (Nat.le_of_ble_eq_true rfl) dX1_takeStep_99 (fun w47 H locs hp46 hw => ?_)
      obtain ⟨hT, k48, hg49⟩ := hp46
      have hF := hF.tr k48 (by decide)
      have c50 := k48.gi kC_at152 (by decide) c39
      have c51 := k48.gi kC_at149 (by decide) c35
      have c52 := k48.gi kC_at149 (by decide) c37
      have c53 := k48.gi kC_at149 (by decide) c41
      have c54 := k48.gi kC_at149 (by decide) c44
      clear hg49
      refine lv_goto (tgt := 155) hx hb dX1_takeStep_102 (by decide) ?_
      exact J155 0 x36 f40_152_3 H locs ls w47 (show 0 ≤ x36.toInt by first | with_reducible assumption | omega) (show x36.toInt ≤ 999999 by first | with_reducible assumption | omega)  hw hT hF c52 c50 (lv_sub hl [2, 3, 0] rfl)
  refine lv_aload_n hx hb dX1_takeStep_0 rfl (lv_at hl 1 rfl) ?_
  refine tk_Vi hC hK hw hT hA hE hSR kC_at152 (by decide) rfl (k_X9_isAtGoal_2 l adK adV dC dI cy ad B hB0 (Int.le_trans hB1 (by decide)) qr s1    w0 s.heap.size hT ) (cwV 0 hC.2.2.2.2 uV_RX1_31 rfl rfl rfl (by decide +kernel) ⟨Nat.le_of_ble_eq_true rfl, Nat.le_of_ble_eq_true rfl⟩) rfl hl.1 rfl (Nat.le_of_ble_eq_true rfl) dX1_takeStep_1 (fun r55 w57 H locs hp56 hw => ?_)
  obtain ⟨hT, k58, hg59⟩ := hp56
  have hF := hF.tr k58 (by decide)
  rcases hg59 with rfl | rfl
  · refine lv_if_eq (tgt := 9) hx hb dX1_takeStep_4 (by decide) (fun _ => ?_) (fun c => absurd (by decide) c)
    refine lv_aload_n hx hb dX1_takeStep_9 rfl (lv_at hl 1 rfl) ?_
    refine tk_geti hC hK hw hT hinX9 kC_at152 (by decide) rfl 3 (by decide) (List.mem_cons_of_mem _ uw_42_3) rfl rfl dX1_takeStep_10 (fun x60 c61 rx60 tx60 => ?_)
    refine lv_if_lt (tgt := 40) hx hb dX1_takeStep_13 (by decide) (fun c62 => ?_) (fun c62 => ?_)
    · have c62 : x60.toInt < (0 : Int) := wk_lt.mp c62
      exact J40 x60 H locs ls w57   hw hT hF c61 (lv_sub hl [0, 1] rfl)
    · have c62 : (0 : Int) ≤ x60.toInt := wk_ltF c62
      refine lv_aload_n hx hb dX1_takeStep_16 rfl (lv_at hl 1 rfl) ?_
      refine tk_geti hC hK hw hT hinX9 kC_at152 (by decide) rfl 3 (by decide) (List.mem_cons_of_mem _ uw_42_3) rfl rfl dX1_takeStep_17 (fun x63 c64 rx63 tx63 => ?_)
      refine wk_top x60 (c64.symm.trans c61) ?_
      refine lv_aload_n hx hb dX1_takeStep_20 rfl (lv_at hl 0 rfl) ?_
      refine tk_getA hC hK hw hT hinX1 kC_at149 (by decide) rfl 2 (by decide) (List.mem_cons_of_mem _ uw_5_2) rfl rfl dX1_takeStep_21 ?_
      refine tk_alenR (v := 6) hC hK hw hT kC_at4 rfl (by decide) rfl (by decide) dX1_takeStep_24 ?_
      refine lv_icmp_ge (tgt := 40) hx hb dX1_takeStep_25 (by decide) (fun c65 => ?_) (fun c65 => ?_)
      · have c65 : (6 : Int) ≤ x60.toInt := wk_le.mp c65
        exact J40 x60 H locs ls w57   hw hT hF c61 (lv_sub hl [0, 1] rfl)
      · have c65 : x60.toInt < (6 : Int) := wk_leF c65
        refine lv_aload_n hx hb dX1_takeStep_28 rfl (lv_at hl 0 rfl) ?_
        refine tk_getA hC hK hw hT hinX1 kC_at149 (by decide) rfl 2 (by decide) (List.mem_cons_of_mem _ uw_5_2) rfl rfl dX1_takeStep_29 ?_
        refine lv_aload_n hx hb dX1_takeStep_32 rfl (lv_at hl 1 rfl) ?_
        refine tk_geti hC hK hw hT hinX9 kC_at152 (by decide) rfl 3 (by decide) (List.mem_cons_of_mem _ uw_42_3) rfl rfl dX1_takeStep_33 (fun x66 c67 rx66 tx66 => ?_)
        refine wk_top x60 (c67.symm.trans c61) ?_
        refine tk_aald hC hK hw hT kC_at4 rfl (by decide) rfl (show 0 ≤ x60.toInt from c62) (show x60.toInt < 6 from c65) dX1_takeStep_36 (fun j68 hj68 gj68 => ?_)
        refine lv_goto (tgt := 41) hx hb dX1_takeStep_37 (by decide) ?_
        refine lv_astore_n (lv' := [(2, .ref (ad (el 39 4 j68))), (0, .ref (ad 149)), (1, .ref (ad 152))]) hx hb dX1_takeStep_41 rfl hl (by decide) rfl (fun ls hl => ?_)
        refine lv_aload_n hx hb dX1_takeStep_42 rfl (lv_at hl 1 rfl) ?_
        refine lv_aload_n hx hb dX1_takeStep_43 rfl (lv_at hl 2 rfl) ?_
        refine lv_aload_n hx hb dX1_takeStep_44 rfl (lv_at hl 0 rfl) ?_
        refine lv_ifnull hx hb dX1_takeStep_45 ?_
        refine lv_aload_n hx hb dX1_takeStep_48 rfl (lv_at hl 0 rfl) ?_
        refine tk_geti hC hK hw hT hinX2 (kC_el39 kC_at4 hj68) (by decide) rfl 5 (by decide) (List.mem_cons_of_mem _ uw_42_4) rfl rfl dX1_takeStep_49 (fun x69 c70 rx69 tx69 => ?_)
        refine lv_if_eq (tgt := 59) hx hb dX1_takeStep_52 (by decide) (fun c71 => ?_) (fun c71 => ?_)
        · have c71 : x69.toInt = (0 : Int) := wk_eq.mp c71
          refine lv_iconst (v := 0) hx hb dX1_takeStep_59 (by decide) ?_
          refine tk_Vv hC hK hw hT hA hE hSR kC_at149 (by decide) rfl (k_X1_lookAround_3 l adK adV dC dI cy ad B hB0 (Int.le_trans hB1 (by decide)) qr s1    w57 H.size hT ) (cwV 2 hC.2.2.2.2 uV_RX1_47 rfl rfl rfl (by decide +kernel) ⟨Nat.le_of_ble_eq_true rfl, Nat.le_of_ble_eq_true rfl⟩) rfl hl.1 rfl (Nat.le_of_ble_eq_true rfl) dX1_takeStep_60 (fun w74 H locs hp73 hw => ?_)
          obtain ⟨hT, k75, hg80⟩ := hp73
          have hF := hF.tr k75 (by decide)
          have c81 := k75.gi kC_at152 (by decide) c61
          have c82 := k75.gi (kC_el39 kC_at4 hj68) (by decide) c70
          obtain ⟨⟨x76, c77, rx76, tx76⟩, ⟨x78, c79, rx78, tx78⟩⟩ := hg80
          refine lv_aload_n hx hb dX1_takeStep_63 rfl (lv_at hl 0 rfl) ?_
          refine lv_ifnull hx hb dX1_takeStep_64 ?_
          refine lv_aload_n hx hb dX1_takeStep_67 rfl (lv_at hl 1 rfl) ?_
          refine lv_aload_n hx hb dX1_takeStep_68 rfl (lv_at hl 2 rfl) ?_
          refine lv_aload_n hx hb dX1_takeStep_69 rfl (lv_at hl 0 rfl) ?_
          refine tk_Vi hC hK hw hT hA hE hSR kC_at149 (by decide) rfl (k_X1_chooseDeed_2 l adK adV dC dI cy ad B hB0 (Int.le_trans hB1 (by decide)) qr s1   (el 39 4 j68) (kC_el39 kC_at4 hj68) w74 H.size hT ) (cwV 2 hC.2.2.2.2 uV_RX1_51 rfl rfl rfl (by decide +kernel) ⟨Nat.le_of_ble_eq_true rfl, Nat.le_of_ble_eq_true rfl⟩) rfl hl.1 rfl (Nat.le_of_ble_eq_true rfl) dX1_takeStep_70 (fun r83 w85 H locs hp84 hw => ?_)
          obtain ⟨hT, k86, hg91⟩ := hp84
          have hF := hF.tr k86 (by decide)
          have c92 := k86.gi kC_at152 (by decide) c81
          have c93 := k86.gi (kC_el39 kC_at4 hj68) (by decide) c82
          have c94 := k86.gi kC_at149 (by decide) c77
          have c95 := k86.gi kC_at149 (by decide) c79
          rcases hg91 with ⟨x87, c88, rx87, tx87⟩ | ⟨g89, g90⟩
          · refine lv_goto (tgt := 88) hx hb dX1_takeStep_73 (by decide) ?_
            refine lv_istore_n (lv' := [(3, .int r83), (2, .ref (ad (el 39 4 j68))), (0, .ref (ad 149)), (1, .ref (ad 152))]) hx hb dX1_takeStep_88 rfl hl (by decide) rfl (fun ls hl => ?_)
            refine lv_iload_n hx hb dX1_takeStep_89 rfl (lv_at hl 0 rfl) ?_
            refine lv_if_ne (tgt := 105) hx hb dX1_takeStep_90 (by decide) (fun c96 => ?_) (fun c96 => ?_)
            · have c96 : ¬ r83.toInt = (0 : Int) := wk_eqF c96
              refine lv_iload_n hx hb dX1_takeStep_105 rfl (lv_at hl 0 rfl) ?_
              refine lv_iconst (v := 1) hx hb dX1_takeStep_106 (by decide) ?_
              refine lv_icmp_ne (tgt := 122) hx hb dX1_takeStep_107 (by decide) (fun c97 => ?_) (fun c97 => ?_)
              · have c97 : ¬ r83.toInt = (1 : Int) := wk_eqF c97
                refine lv_iload_n hx hb dX1_takeStep_122 rfl (lv_at hl 0 rfl) ?_
                refine lv_iconst (v := 2) hx hb dX1_takeStep_123 (by decide) ?_
                refine lv_icmp_ne (tgt := 145) hx hb dX1_takeStep_124 (by decide) (fun c98 => ?_) (fun c98 => ?_)
                · have c98 : ¬ r83.toInt = (2 : Int) := wk_eqF c98
                  exact J145 r83 x78 x60 H locs ls w85 (show 0 ≤ x78.toInt by first | with_reducible assumption | omega) (show x78.toInt ≤ 999999 by first | with_reducible assumption | omega)  hw hT hF c95 c92 (lv_sub hl [2, 3, 0] rfl)
                · have c98 : r83.toInt = (2 : Int) := wk_eq.mp c98
                  refine lv_aload_n hx hb dX1_takeStep_127 rfl (lv_at hl 3 rfl) ?_
                  refine lv_aload_n hx hb dX1_takeStep_128 rfl (lv_at hl 3 rfl) ?_
                  refine tk_Vl hC hK hw hT hA hE hSR kC_at152 (by decide) rfl (k_X9_dayNow_2 l adK adV dC dI cy ad B hB0 (Int.le_trans hB1 (by decide)) qr s1    w85 H.size hT ) (cwV 0 hC.2.2.2.2 uV_RX1_68 rfl rfl rfl (by decide +kernel) ⟨Nat.le_of_ble_eq_true rfl, Nat.le_of_ble_eq_true rfl⟩) rfl hl.1 rfl (Nat.le_of_ble_eq_true rfl) dX1_takeStep_129 (fun r99 w101 H locs hp100 hw => ?_)
                  obtain ⟨hT, k102, hg105⟩ := hp100
                  have hF := hF.tr k102 (by decide)
                  have c106 := k102.gi kC_at152 (by decide) c92
                  have c107 := k102.gi (kC_el39 kC_at4 hj68) (by decide) c93
                  have c108 := k102.gi kC_at149 (by decide) c94
                  have c109 := k102.gi kC_at149 (by decide) c95
                  have c110 := k102.gi (kC_el39 kC_at4 hj68) (by decide) c88
                  obtain ⟨g103, g104⟩ := hg105
                  refine tk_putl hC hK hw hT hinX9 tyX9_ok nmX9 kC_at152 (by decide) rfl rfl 8 (by decide) (List.mem_cons_of_mem _ uw_42_8) rfl rfl rfl rfl (wk_i64 r99).1 (wk_i64 r99).2 dX1_takeStep_132 (fun H locs w111 hw hT k113 c112 => ?_)
                  have hF := hF.put kC_at152 (k := 8) (by decide) k113
                  have c114 := k113.gi (Or.inr (by decide)) c106
                  have c115 := k113.gi (Or.inr (by decide)) c107
                  have c116 := k113.gi (Or.inr (by decide)) c108
                  have c117 := k113.gi (Or.inl (tk_ne kC_at149 kC_at152 (by decide))) c109
                  have c118 := k113.gi (Or.inr (by decide)) c110
                  refine lv_aload_n hx hb dX1_takeStep_135 rfl (lv_at hl 3 rfl) ?_
                  refine lv_dup hx hb dX1_takeStep_136 rfl ?_
                  refine tk_geti hC hK hw hT hinX9 kC_at152 (by decide) rfl 6 (by decide) (List.mem_cons_of_mem _ uw_42_9) rfl rfl dX1_takeStep_137 (fun x119 c120 rx119 tx119 => ?_)
                  refine lv_iconst (v := 1) hx hb dX1_takeStep_140 (by decide) ?_
                  refine lv_iadd hx hb dX1_takeStep_141 ?_
                  have nx121 := wk_i32 x119
                  refine lv_topi (fun x122 ex122 => ?_)
                  refine tk_puti hC hK hw hT hinX9 tyX9_ok nmX9 kC_at152 (by decide) rfl rfl 6 (by decide) (List.mem_cons_of_mem _ uw_42_9) rfl rfl rfl rfl (wk_i32 x122).1 (wk_i32 x122).2 dX1_takeStep_142 (fun H locs w123 hw hT k125 c124 => ?_)
                  have hF := hF.put kC_at152 (k := 6) (by decide) k125
                  have c126 := k125.gi (Or.inr (by decide)) c114
                  have c127 := k125.gi (Or.inr (by decide)) c115
                  have c128 := k125.gi (Or.inr (by decide)) c116
                  have c129 := k125.gi (Or.inr (by decide)) c117
                  have c130 := k125.gi (Or.inr (by decide)) c118
                  have c131 := k125.gl (Or.inr (by decide)) c112
                  exact J145 r83 x78 x60 H locs ls w123 (show 0 ≤ x78.toInt by first | with_reducible assumption | omega) (show x78.toInt ≤ 999999 by first | with_reducible assumption | omega)  hw hT hF c129 c126 (lv_sub hl [2, 3, 0] rfl)
              · have c97 : r83.toInt = (1 : Int) := wk_eq.mp c97
                refine lv_aload_n hx hb dX1_takeStep_110 rfl (lv_at hl 2 rfl) ?_
                refine lv_aload_n hx hb dX1_takeStep_111 rfl (lv_at hl 3 rfl) ?_
                refine lv_aload_n hx hb dX1_takeStep_112 rfl (lv_at hl 2 rfl) ?_
                refine tk_geti hC hK hw hT hinX1 kC_at149 (by decide) rfl 7 (by decide) (List.mem_cons_of_mem _ uw_42_7) rfl rfl dX1_takeStep_113 (fun x132 c133 rx132 tx132 => ?_)
                refine wk_top x76 (c133.symm.trans c94) ?_
                obtain rfl : x76 = (-1) := wk_eq.mpr (show x76.toInt = (-1) by first | exact Int.le_antisymm (by omega) (by omega) | omega)
                refine tk_Vv hC hK hw hT hA hE hSR kC_at149 (by decide) rfl (k_X1_follow_4 l adK adV dC dI cy ad B hB0 (Int.le_trans hB1 (by decide)) qr s1    w85 H.size hT ) (cwV 2 hC.2.2.2.2 uV_RX1_61 rfl rfl rfl (by decide +kernel) ⟨Nat.le_of_ble_eq_true rfl, Nat.le_of_ble_eq_true rfl⟩) rfl hl.1 rfl (Nat.le_of_ble_eq_true rfl) dX1_takeStep_116 (fun w136 H locs hp135 hw => ?_)
                obtain ⟨hT, k137, hg138⟩ := hp135
                have hF := hF.tr k137 (by decide)
                have c139 := k137.gi kC_at152 (by decide) c92
                have c140 := k137.gi (kC_el39 kC_at4 hj68) (by decide) c93
                have c141 := k137.gi kC_at149 (by decide) c94
                have c142 := k137.gi kC_at149 (by decide) c95
                have c143 := k137.gi (kC_el39 kC_at4 hj68) (by decide) c88
                clear hg138
                refine lv_goto (tgt := 155) hx hb dX1_takeStep_119 (by decide) ?_
                exact J155 r83 x78 x60 H locs ls w136 (show 0 ≤ x78.toInt by first | with_reducible assumption | omega) (show x78.toInt ≤ 999999 by first | with_reducible assumption | omega)  hw (hT.up (show B ≤ (B + 9) by omega)) hF c142 c139 (lv_sub hl [2, 3, 0] rfl)
            · have c96 : r83.toInt = (0 : Int) := wk_eq.mp c96
              refine lv_aload_n hx hb dX1_takeStep_93 rfl (lv_at hl 2 rfl) ?_
              refine lv_aload_n hx hb dX1_takeStep_94 rfl (lv_at hl 3 rfl) ?_
              refine lv_aload_n hx hb dX1_takeStep_95 rfl (lv_at hl 2 rfl) ?_
              refine tk_geti hC hK hw hT hinX1 kC_at149 (by decide) rfl 5 (by decide) (List.mem_cons_of_mem _ uw_42_6) rfl rfl dX1_takeStep_96 (fun x144 c145 rx144 tx144 => ?_)
              refine tk_Vv hC hK hw hT hA hE hSR kC_at149 (by decide) rfl (k_X1_follow_3 l adK adV dC dI cy ad B hB0 (Int.le_trans hB1 (by decide)) qr s1   x144 (show (-1) ≤ x144.toInt from rx144) (show x144.toInt ≤ 11 from tx144) w85 H.size hT ) (cwV 2 hC.2.2.2.2 uV_RX1_61 rfl rfl rfl (by decide +kernel) ⟨Nat.le_of_ble_eq_true rfl, Nat.le_of_ble_eq_true rfl⟩) rfl hl.1 rfl (Nat.le_of_ble_eq_true rfl) dX1_takeStep_99 (fun w148 H locs hp147 hw => ?_)
              obtain ⟨hT, k149, hg150⟩ := hp147
              have hF := hF.tr k149 (by decide)
              have c151 := k149.gi kC_at152 (by decide) c92
              have c152 := k149.gi (kC_el39 kC_at4 hj68) (by decide) c93
              have c153 := k149.gi kC_at149 (by decide) c94
              have c154 := k149.gi kC_at149 (by decide) c95
              have c155 := k149.gi (kC_el39 kC_at4 hj68) (by decide) c88
              have c156 := k149.gi kC_at149 (by decide) c145
              clear hg150
              refine lv_goto (tgt := 155) hx hb dX1_takeStep_102 (by decide) ?_
              exact J155 r83 x78 x60 H locs ls w148 (show 0 ≤ x78.toInt by first | with_reducible assumption | omega) (show x78.toInt ≤ 999999 by first | with_reducible assumption | omega)  hw hT hF c154 c151 (lv_sub hl [2, 3, 0] rfl)
          · refine lv_goto (tgt := 88) hx hb dX1_takeStep_73 (by decide) ?_
            refine lv_istore_n (lv' := [(3, .int r83), (2, .ref (ad (el 39 4 j68))), (0, .ref (ad 149)), (1, .ref (ad 152))]) hx hb dX1_takeStep_88 rfl hl (by decide) rfl (fun ls hl => ?_)
            refine lv_iload_n hx hb dX1_takeStep_89 rfl (lv_at hl 0 rfl) ?_
            refine lv_if_ne (tgt := 105) hx hb dX1_takeStep_90 (by decide) (fun c157 => ?_) (fun c157 => ?_)
            · have c157 : ¬ r83.toInt = (0 : Int) := wk_eqF c157
              refine lv_iload_n hx hb dX1_takeStep_105 rfl (lv_at hl 0 rfl) ?_
              refine lv_iconst (v := 1) hx hb dX1_takeStep_106 (by decide) ?_
              refine lv_icmp_ne (tgt := 122) hx hb dX1_takeStep_107 (by decide) (fun c158 => ?_) (fun c158 => ?_)
              · have c158 : ¬ r83.toInt = (1 : Int) := wk_eqF c158
                refine lv_iload_n hx hb dX1_takeStep_122 rfl (lv_at hl 0 rfl) ?_
                refine lv_iconst (v := 2) hx hb dX1_takeStep_123 (by decide) ?_
                refine lv_icmp_ne (tgt := 145) hx hb dX1_takeStep_124 (by decide) (fun c159 => ?_) (fun c159 => ?_)
                · have c159 : ¬ r83.toInt = (2 : Int) := wk_eqF c159
                  exact J145 r83 x78 x60 H locs ls w85 (show 0 ≤ x78.toInt by first | with_reducible assumption | omega) (show x78.toInt ≤ 999999 by first | with_reducible assumption | omega)  hw hT hF c95 c92 (lv_sub hl [2, 3, 0] rfl)
                · have c159 : r83.toInt = (2 : Int) := wk_eq.mp c159
                  refine lv_aload_n hx hb dX1_takeStep_127 rfl (lv_at hl 3 rfl) ?_
                  refine lv_aload_n hx hb dX1_takeStep_128 rfl (lv_at hl 3 rfl) ?_
                  refine tk_Vl hC hK hw hT hA hE hSR kC_at152 (by decide) rfl (k_X9_dayNow_2 l adK adV dC dI cy ad B hB0 (Int.le_trans hB1 (by decide)) qr s1    w85 H.size hT ) (cwV 0 hC.2.2.2.2 uV_RX1_68 rfl rfl rfl (by decide +kernel) ⟨Nat.le_of_ble_eq_true rfl, Nat.le_of_ble_eq_true rfl⟩) rfl hl.1 rfl (Nat.le_of_ble_eq_true rfl) dX1_takeStep_129 (fun r160 w162 H locs hp161 hw => ?_)
                  obtain ⟨hT, k163, hg166⟩ := hp161
                  have hF := hF.tr k163 (by decide)
                  have c167 := k163.gi kC_at152 (by decide) c92
                  have c168 := k163.gi (kC_el39 kC_at4 hj68) (by decide) c93
                  have c169 := k163.gi kC_at149 (by decide) c94
                  have c170 := k163.gi kC_at149 (by decide) c95
                  obtain ⟨g164, g165⟩ := hg166
                  refine tk_putl hC hK hw hT hinX9 tyX9_ok nmX9 kC_at152 (by decide) rfl rfl 8 (by decide) (List.mem_cons_of_mem _ uw_42_8) rfl rfl rfl rfl (wk_i64 r160).1 (wk_i64 r160).2 dX1_takeStep_132 (fun H locs w171 hw hT k173 c172 => ?_)
                  have hF := hF.put kC_at152 (k := 8) (by decide) k173
                  have c174 := k173.gi (Or.inr (by decide)) c167
                  have c175 := k173.gi (Or.inr (by decide)) c168
                  have c176 := k173.gi (Or.inr (by decide)) c169
                  have c177 := k173.gi (Or.inl (tk_ne kC_at149 kC_at152 (by decide))) c170
                  refine lv_aload_n hx hb dX1_takeStep_135 rfl (lv_at hl 3 rfl) ?_
                  refine lv_dup hx hb dX1_takeStep_136 rfl ?_
                  refine tk_geti hC hK hw hT hinX9 kC_at152 (by decide) rfl 6 (by decide) (List.mem_cons_of_mem _ uw_42_9) rfl rfl dX1_takeStep_137 (fun x178 c179 rx178 tx178 => ?_)
                  refine lv_iconst (v := 1) hx hb dX1_takeStep_140 (by decide) ?_
                  refine lv_iadd hx hb dX1_takeStep_141 ?_
                  have nx180 := wk_i32 x178
                  refine lv_topi (fun x181 ex181 => ?_)
                  refine tk_puti hC hK hw hT hinX9 tyX9_ok nmX9 kC_at152 (by decide) rfl rfl 6 (by decide) (List.mem_cons_of_mem _ uw_42_9) rfl rfl rfl rfl (wk_i32 x181).1 (wk_i32 x181).2 dX1_takeStep_142 (fun H locs w182 hw hT k184 c183 => ?_)
                  have hF := hF.put kC_at152 (k := 6) (by decide) k184
                  have c185 := k184.gi (Or.inr (by decide)) c174
                  have c186 := k184.gi (Or.inr (by decide)) c175
                  have c187 := k184.gi (Or.inr (by decide)) c176
                  have c188 := k184.gi (Or.inr (by decide)) c177
                  have c189 := k184.gl (Or.inr (by decide)) c172
                  exact J145 r83 x78 x60 H locs ls w182 (show 0 ≤ x78.toInt by first | with_reducible assumption | omega) (show x78.toInt ≤ 999999 by first | with_reducible assumption | omega)  hw hT hF c188 c185 (lv_sub hl [2, 3, 0] rfl)
              · have c158 : r83.toInt = (1 : Int) := wk_eq.mp c158
                refine lv_aload_n hx hb dX1_takeStep_110 rfl (lv_at hl 2 rfl) ?_
                refine lv_aload_n hx hb dX1_takeStep_111 rfl (lv_at hl 3 rfl) ?_
                refine lv_aload_n hx hb dX1_takeStep_112 rfl (lv_at hl 2 rfl) ?_
                refine tk_geti hC hK hw hT hinX1 kC_at149 (by decide) rfl 7 (by decide) (List.mem_cons_of_mem _ uw_42_7) rfl rfl dX1_takeStep_113 (fun x190 c191 rx190 tx190 => ?_)
                refine wk_top x76 (c191.symm.trans c94) ?_
                obtain rfl : x76 = (-1) := wk_eq.mpr (show x76.toInt = (-1) by first | exact Int.le_antisymm (by omega) (by omega) | omega)
                refine tk_Vv hC hK hw hT hA hE hSR kC_at149 (by decide) rfl (k_X1_follow_4 l adK adV dC dI cy ad B hB0 (Int.le_trans hB1 (by decide)) qr s1    w85 H.size hT ) (cwV 2 hC.2.2.2.2 uV_RX1_61 rfl rfl rfl (by decide +kernel) ⟨Nat.le_of_ble_eq_true rfl, Nat.le_of_ble_eq_true rfl⟩) rfl hl.1 rfl (Nat.le_of_ble_eq_true rfl) dX1_takeStep_116 (fun w194 H locs hp193 hw => ?_)
                obtain ⟨hT, k195, hg196⟩ := hp193
                have hF := hF.tr k195 (by decide)
                have c197 := k195.gi kC_at152 (by decide) c92
                have c198 := k195.gi (kC_el39 kC_at4 hj68) (by decide) c93
                have c199 := k195.gi kC_at149 (by decide) c94
                have c200 := k195.gi kC_at149 (by decide) c95
                clear hg196
                refine lv_goto (tgt := 155) hx hb dX1_takeStep_119 (by decide) ?_
                exact J155 r83 x78 x60 H locs ls w194 (show 0 ≤ x78.toInt by first | with_reducible assumption | omega) (show x78.toInt ≤ 999999 by first | with_reducible assumption | omega)  hw (hT.up (show B ≤ (B + 9) by omega)) hF c200 c197 (lv_sub hl [2, 3, 0] rfl)
            · have c157 : r83.toInt = (0 : Int) := wk_eq.mp c157
              refine lv_aload_n hx hb dX1_takeStep_93 rfl (lv_at hl 2 rfl) ?_
              refine lv_aload_n hx hb dX1_takeStep_94 rfl (lv_at hl 3 rfl) ?_
              refine lv_aload_n hx hb dX1_takeStep_95 rfl (lv_at hl 2 rfl) ?_
              refine tk_geti hC hK hw hT hinX1 kC_at149 (by decide) rfl 5 (by decide) (List.mem_cons_of_mem _ uw_42_6) rfl rfl dX1_takeStep_96 (fun x201 c202 rx201 tx201 => ?_)
              refine tk_Vv hC hK hw hT hA hE hSR kC_at149 (by decide) rfl (k_X1_follow_3 l adK adV dC dI cy ad B hB0 (Int.le_trans hB1 (by decide)) qr s1   x201 (show (-1) ≤ x201.toInt from rx201) (show x201.toInt ≤ 11 from tx201) w85 H.size hT ) (cwV 2 hC.2.2.2.2 uV_RX1_61 rfl rfl rfl (by decide +kernel) ⟨Nat.le_of_ble_eq_true rfl, Nat.le_of_ble_eq_true rfl⟩) rfl hl.1 rfl (Nat.le_of_ble_eq_true rfl) dX1_takeStep_99 (fun w205 H locs hp204 hw => ?_)
              obtain ⟨hT, k206, hg207⟩ := hp204
              have hF := hF.tr k206 (by decide)
              have c208 := k206.gi kC_at152 (by decide) c92
              have c209 := k206.gi (kC_el39 kC_at4 hj68) (by decide) c93
              have c210 := k206.gi kC_at149 (by decide) c94
              have c211 := k206.gi kC_at149 (by decide) c95
              have c212 := k206.gi kC_at149 (by decide) c202
              clear hg207
              refine lv_goto (tgt := 155) hx hb dX1_takeStep_102 (by decide) ?_
              exact J155 r83 x78 x60 H locs ls w205 (show 0 ≤ x78.toInt by first | with_reducible assumption | omega) (show x78.toInt ≤ 999999 by first | with_reducible assumption | omega)  hw hT hF c211 c208 (lv_sub hl [2, 3, 0] rfl)
        · have c71 : ¬ x69.toInt = (0 : Int) := wk_eqF c71
          refine lv_iconst (v := 1) hx hb dX1_takeStep_55 (by decide) ?_
          refine lv_goto (tgt := 60) hx hb dX1_takeStep_56 (by decide) ?_
          refine tk_Vv hC hK hw hT hA hE hSR kC_at149 (by decide) rfl (k_X1_lookAround_4 l adK adV dC dI cy ad B hB0 (Int.le_trans hB1 (by decide)) qr s1    w57 H.size hT ) (cwV 2 hC.2.2.2.2 uV_RX1_47 rfl rfl rfl (by decide +kernel) ⟨Nat.le_of_ble_eq_true rfl, Nat.le_of_ble_eq_true rfl⟩) rfl hl.1 rfl (Nat.le_of_ble_eq_true rfl) dX1_takeStep_60 (fun w215 H locs hp214 hw => ?_)
          obtain ⟨hT, k216, hg219⟩ := hp214
          have hF := hF.tr k216 (by decide)
          have c220 := k216.gi kC_at152 (by decide) c61
          have c221 := k216.gi (kC_el39 kC_at4 hj68) (by decide) c70
          obtain ⟨x217, c218, rx217, tx217⟩ := hg219
          refine lv_aload_n hx hb dX1_takeStep_63 rfl (lv_at hl 0 rfl) ?_
          refine lv_ifnull hx hb dX1_takeStep_64 ?_
          refine lv_aload_n hx hb dX1_takeStep_67 rfl (lv_at hl 1 rfl) ?_
          refine lv_aload_n hx hb dX1_takeStep_68 rfl (lv_at hl 2 rfl) ?_
          refine lv_aload_n hx hb dX1_takeStep_69 rfl (lv_at hl 0 rfl) ?_
          refine tk_Vi hC hK hw hT hA hE hSR kC_at149 (by decide) rfl (k_X1_chooseDeed_2 l adK adV dC dI cy ad B hB0 (Int.le_trans hB1 (by decide)) qr s1   (el 39 4 j68) (kC_el39 kC_at4 hj68) w215 H.size hT ) (cwV 2 hC.2.2.2.2 uV_RX1_51 rfl rfl rfl (by decide +kernel) ⟨Nat.le_of_ble_eq_true rfl, Nat.le_of_ble_eq_true rfl⟩) rfl hl.1 rfl (Nat.le_of_ble_eq_true rfl) dX1_takeStep_70 (fun r222 w224 H locs hp223 hw => ?_)
          obtain ⟨hT, k225, hg230⟩ := hp223
          have hF := hF.tr k225 (by decide)
          have c231 := k225.gi kC_at152 (by decide) c220
          have c232 := k225.gi (kC_el39 kC_at4 hj68) (by decide) c221
          have c233 := k225.gi kC_at149 (by decide) c218
          rcases hg230 with ⟨x226, c227, rx226, tx226⟩ | ⟨g228, g229⟩
          · refine lv_goto (tgt := 88) hx hb dX1_takeStep_73 (by decide) ?_
            refine lv_istore_n (lv' := [(3, .int r222), (2, .ref (ad (el 39 4 j68))), (0, .ref (ad 149)), (1, .ref (ad 152))]) hx hb dX1_takeStep_88 rfl hl (by decide) rfl (fun ls hl => ?_)
            refine lv_iload_n hx hb dX1_takeStep_89 rfl (lv_at hl 0 rfl) ?_
            refine lv_if_ne (tgt := 105) hx hb dX1_takeStep_90 (by decide) (fun c234 => ?_) (fun c234 => ?_)
            · have c234 : ¬ r222.toInt = (0 : Int) := wk_eqF c234
              refine lv_iload_n hx hb dX1_takeStep_105 rfl (lv_at hl 0 rfl) ?_
              refine lv_iconst (v := 1) hx hb dX1_takeStep_106 (by decide) ?_
              refine lv_icmp_ne (tgt := 122) hx hb dX1_takeStep_107 (by decide) (fun c235 => ?_) (fun c235 => ?_)
              · have c235 : ¬ r222.toInt = (1 : Int) := wk_eqF c235
                refine lv_iload_n hx hb dX1_takeStep_122 rfl (lv_at hl 0 rfl) ?_
                refine lv_iconst (v := 2) hx hb dX1_takeStep_123 (by decide) ?_
                refine lv_icmp_ne (tgt := 145) hx hb dX1_takeStep_124 (by decide) (fun c236 => ?_) (fun c236 => ?_)
                · have c236 : ¬ r222.toInt = (2 : Int) := wk_eqF c236
                  exact J145 r222 x217 x60 H locs ls w224 (show 0 ≤ x217.toInt by first | with_reducible assumption | omega) (show x217.toInt ≤ 999999 by first | with_reducible assumption | omega)  hw hT hF c233 c231 (lv_sub hl [2, 3, 0] rfl)
                · have c236 : r222.toInt = (2 : Int) := wk_eq.mp c236
                  refine lv_aload_n hx hb dX1_takeStep_127 rfl (lv_at hl 3 rfl) ?_
                  refine lv_aload_n hx hb dX1_takeStep_128 rfl (lv_at hl 3 rfl) ?_
                  refine tk_Vl hC hK hw hT hA hE hSR kC_at152 (by decide) rfl (k_X9_dayNow_2 l adK adV dC dI cy ad B hB0 (Int.le_trans hB1 (by decide)) qr s1    w224 H.size hT ) (cwV 0 hC.2.2.2.2 uV_RX1_68 rfl rfl rfl (by decide +kernel) ⟨Nat.le_of_ble_eq_true rfl, Nat.le_of_ble_eq_true rfl⟩) rfl hl.1 rfl (Nat.le_of_ble_eq_true rfl) dX1_takeStep_129 (fun r237 w239 H locs hp238 hw => ?_)
                  obtain ⟨hT, k240, hg243⟩ := hp238
                  have hF := hF.tr k240 (by decide)
                  have c244 := k240.gi kC_at152 (by decide) c231
                  have c245 := k240.gi (kC_el39 kC_at4 hj68) (by decide) c232
                  have c246 := k240.gi kC_at149 (by decide) c233
                  have c247 := k240.gi (kC_el39 kC_at4 hj68) (by decide) c227
                  obtain ⟨g241, g242⟩ := hg243
                  refine tk_putl hC hK hw hT hinX9 tyX9_ok nmX9 kC_at152 (by decide) rfl rfl 8 (by decide) (List.mem_cons_of_mem _ uw_42_8) rfl rfl rfl rfl (wk_i64 r237).1 (wk_i64 r237).2 dX1_takeStep_132 (fun H locs w248 hw hT k250 c249 => ?_)
                  have hF := hF.put kC_at152 (k := 8) (by decide) k250
                  have c251 := k250.gi (Or.inr (by decide)) c244
                  have c252 := k250.gi (Or.inr (by decide)) c245
                  have c253 := k250.gi (Or.inl (tk_ne kC_at149 kC_at152 (by decide))) c246
                  have c254 := k250.gi (Or.inr (by decide)) c247
                  refine lv_aload_n hx hb dX1_takeStep_135 rfl (lv_at hl 3 rfl) ?_
                  refine lv_dup hx hb dX1_takeStep_136 rfl ?_
                  refine tk_geti hC hK hw hT hinX9 kC_at152 (by decide) rfl 6 (by decide) (List.mem_cons_of_mem _ uw_42_9) rfl rfl dX1_takeStep_137 (fun x255 c256 rx255 tx255 => ?_)
                  refine lv_iconst (v := 1) hx hb dX1_takeStep_140 (by decide) ?_
                  refine lv_iadd hx hb dX1_takeStep_141 ?_
                  have nx257 := wk_i32 x255
                  refine lv_topi (fun x258 ex258 => ?_)
                  refine tk_puti hC hK hw hT hinX9 tyX9_ok nmX9 kC_at152 (by decide) rfl rfl 6 (by decide) (List.mem_cons_of_mem _ uw_42_9) rfl rfl rfl rfl (wk_i32 x258).1 (wk_i32 x258).2 dX1_takeStep_142 (fun H locs w259 hw hT k261 c260 => ?_)
                  have hF := hF.put kC_at152 (k := 6) (by decide) k261
                  have c262 := k261.gi (Or.inr (by decide)) c251
                  have c263 := k261.gi (Or.inr (by decide)) c252
                  have c264 := k261.gi (Or.inr (by decide)) c253
                  have c265 := k261.gi (Or.inr (by decide)) c254
                  have c266 := k261.gl (Or.inr (by decide)) c249
                  exact J145 r222 x217 x60 H locs ls w259 (show 0 ≤ x217.toInt by first | with_reducible assumption | omega) (show x217.toInt ≤ 999999 by first | with_reducible assumption | omega)  hw hT hF c264 c262 (lv_sub hl [2, 3, 0] rfl)
              · have c235 : r222.toInt = (1 : Int) := wk_eq.mp c235
                refine lv_aload_n hx hb dX1_takeStep_110 rfl (lv_at hl 2 rfl) ?_
                refine lv_aload_n hx hb dX1_takeStep_111 rfl (lv_at hl 3 rfl) ?_
                refine lv_aload_n hx hb dX1_takeStep_112 rfl (lv_at hl 2 rfl) ?_
                refine tk_geti hC hK hw hT hinX1 kC_at149 (by decide) rfl 7 (by decide) (List.mem_cons_of_mem _ uw_42_7) rfl rfl dX1_takeStep_113 (fun x267 c268 rx267 tx267 => ?_)
                refine tk_Vv hC hK hw hT hA hE hSR kC_at149 (by decide) rfl (k_X1_follow_3 l adK adV dC dI cy ad B hB0 (Int.le_trans hB1 (by decide)) qr s1   x267 (show (-1) ≤ x267.toInt from rx267) (show x267.toInt ≤ 11 from tx267) w224 H.size hT ) (cwV 2 hC.2.2.2.2 uV_RX1_61 rfl rfl rfl (by decide +kernel) ⟨Nat.le_of_ble_eq_true rfl, Nat.le_of_ble_eq_true rfl⟩) rfl hl.1 rfl (Nat.le_of_ble_eq_true rfl) dX1_takeStep_116 (fun w271 H locs hp270 hw => ?_)
                obtain ⟨hT, k272, hg273⟩ := hp270
                have hF := hF.tr k272 (by decide)
                have c274 := k272.gi kC_at152 (by decide) c231
                have c275 := k272.gi (kC_el39 kC_at4 hj68) (by decide) c232
                have c276 := k272.gi kC_at149 (by decide) c233
                have c277 := k272.gi (kC_el39 kC_at4 hj68) (by decide) c227
                have c278 := k272.gi kC_at149 (by decide) c268
                clear hg273
                refine lv_goto (tgt := 155) hx hb dX1_takeStep_119 (by decide) ?_
                exact J155 r222 x217 x60 H locs ls w271 (show 0 ≤ x217.toInt by first | with_reducible assumption | omega) (show x217.toInt ≤ 999999 by first | with_reducible assumption | omega)  hw hT hF c276 c274 (lv_sub hl [2, 3, 0] rfl)
            · have c234 : r222.toInt = (0 : Int) := wk_eq.mp c234
              refine lv_aload_n hx hb dX1_takeStep_93 rfl (lv_at hl 2 rfl) ?_
              refine lv_aload_n hx hb dX1_takeStep_94 rfl (lv_at hl 3 rfl) ?_
              refine lv_aload_n hx hb dX1_takeStep_95 rfl (lv_at hl 2 rfl) ?_
              refine tk_geti hC hK hw hT hinX1 kC_at149 (by decide) rfl 5 (by decide) (List.mem_cons_of_mem _ uw_42_6) rfl rfl dX1_takeStep_96 (fun x279 c280 rx279 tx279 => ?_)
              refine tk_Vv hC hK hw hT hA hE hSR kC_at149 (by decide) rfl (k_X1_follow_3 l adK adV dC dI cy ad B hB0 (Int.le_trans hB1 (by decide)) qr s1   x279 (show (-1) ≤ x279.toInt from rx279) (show x279.toInt ≤ 11 from tx279) w224 H.size hT ) (cwV 2 hC.2.2.2.2 uV_RX1_61 rfl rfl rfl (by decide +kernel) ⟨Nat.le_of_ble_eq_true rfl, Nat.le_of_ble_eq_true rfl⟩) rfl hl.1 rfl (Nat.le_of_ble_eq_true rfl) dX1_takeStep_99 (fun w283 H locs hp282 hw => ?_)
              obtain ⟨hT, k284, hg285⟩ := hp282
              have hF := hF.tr k284 (by decide)
              have c286 := k284.gi kC_at152 (by decide) c231
              have c287 := k284.gi (kC_el39 kC_at4 hj68) (by decide) c232
              have c288 := k284.gi kC_at149 (by decide) c233
              have c289 := k284.gi (kC_el39 kC_at4 hj68) (by decide) c227
              have c290 := k284.gi kC_at149 (by decide) c280
              clear hg285
              refine lv_goto (tgt := 155) hx hb dX1_takeStep_102 (by decide) ?_
              exact J155 r222 x217 x60 H locs ls w283 (show 0 ≤ x217.toInt by first | with_reducible assumption | omega) (show x217.toInt ≤ 999999 by first | with_reducible assumption | omega)  hw hT hF c288 c286 (lv_sub hl [2, 3, 0] rfl)
          · refine lv_goto (tgt := 88) hx hb dX1_takeStep_73 (by decide) ?_
            refine lv_istore_n (lv' := [(3, .int r222), (2, .ref (ad (el 39 4 j68))), (0, .ref (ad 149)), (1, .ref (ad 152))]) hx hb dX1_takeStep_88 rfl hl (by decide) rfl (fun ls hl => ?_)
            refine lv_iload_n hx hb dX1_takeStep_89 rfl (lv_at hl 0 rfl) ?_
            refine lv_if_ne (tgt := 105) hx hb dX1_takeStep_90 (by decide) (fun c291 => ?_) (fun c291 => ?_)
            · have c291 : ¬ r222.toInt = (0 : Int) := wk_eqF c291
              refine lv_iload_n hx hb dX1_takeStep_105 rfl (lv_at hl 0 rfl) ?_
              refine lv_iconst (v := 1) hx hb dX1_takeStep_106 (by decide) ?_
              refine lv_icmp_ne (tgt := 122) hx hb dX1_takeStep_107 (by decide) (fun c292 => ?_) (fun c292 => ?_)
              · have c292 : ¬ r222.toInt = (1 : Int) := wk_eqF c292
                refine lv_iload_n hx hb dX1_takeStep_122 rfl (lv_at hl 0 rfl) ?_
                refine lv_iconst (v := 2) hx hb dX1_takeStep_123 (by decide) ?_
                refine lv_icmp_ne (tgt := 145) hx hb dX1_takeStep_124 (by decide) (fun c293 => ?_) (fun c293 => ?_)
                · have c293 : ¬ r222.toInt = (2 : Int) := wk_eqF c293
                  exact J145 r222 x217 x60 H locs ls w224 (show 0 ≤ x217.toInt by first | with_reducible assumption | omega) (show x217.toInt ≤ 999999 by first | with_reducible assumption | omega)  hw hT hF c233 c231 (lv_sub hl [2, 3, 0] rfl)
                · have c293 : r222.toInt = (2 : Int) := wk_eq.mp c293
                  refine lv_aload_n hx hb dX1_takeStep_127 rfl (lv_at hl 3 rfl) ?_
                  refine lv_aload_n hx hb dX1_takeStep_128 rfl (lv_at hl 3 rfl) ?_
                  refine tk_Vl hC hK hw hT hA hE hSR kC_at152 (by decide) rfl (k_X9_dayNow_2 l adK adV dC dI cy ad B hB0 (Int.le_trans hB1 (by decide)) qr s1    w224 H.size hT ) (cwV 0 hC.2.2.2.2 uV_RX1_68 rfl rfl rfl (by decide +kernel) ⟨Nat.le_of_ble_eq_true rfl, Nat.le_of_ble_eq_true rfl⟩) rfl hl.1 rfl (Nat.le_of_ble_eq_true rfl) dX1_takeStep_129 (fun r294 w296 H locs hp295 hw => ?_)
                  obtain ⟨hT, k297, hg300⟩ := hp295
                  have hF := hF.tr k297 (by decide)
                  have c301 := k297.gi kC_at152 (by decide) c231
                  have c302 := k297.gi (kC_el39 kC_at4 hj68) (by decide) c232
                  have c303 := k297.gi kC_at149 (by decide) c233
                  obtain ⟨g298, g299⟩ := hg300
                  refine tk_putl hC hK hw hT hinX9 tyX9_ok nmX9 kC_at152 (by decide) rfl rfl 8 (by decide) (List.mem_cons_of_mem _ uw_42_8) rfl rfl rfl rfl (wk_i64 r294).1 (wk_i64 r294).2 dX1_takeStep_132 (fun H locs w304 hw hT k306 c305 => ?_)
                  have hF := hF.put kC_at152 (k := 8) (by decide) k306
                  have c307 := k306.gi (Or.inr (by decide)) c301
                  have c308 := k306.gi (Or.inr (by decide)) c302
                  have c309 := k306.gi (Or.inl (tk_ne kC_at149 kC_at152 (by decide))) c303
                  refine lv_aload_n hx hb dX1_takeStep_135 rfl (lv_at hl 3 rfl) ?_
                  refine lv_dup hx hb dX1_takeStep_136 rfl ?_
                  refine tk_geti hC hK hw hT hinX9 kC_at152 (by decide) rfl 6 (by decide) (List.mem_cons_of_mem _ uw_42_9) rfl rfl dX1_takeStep_137 (fun x310 c311 rx310 tx310 => ?_)
                  refine lv_iconst (v := 1) hx hb dX1_takeStep_140 (by decide) ?_
                  refine lv_iadd hx hb dX1_takeStep_141 ?_
                  have nx312 := wk_i32 x310
                  refine lv_topi (fun x313 ex313 => ?_)
                  refine tk_puti hC hK hw hT hinX9 tyX9_ok nmX9 kC_at152 (by decide) rfl rfl 6 (by decide) (List.mem_cons_of_mem _ uw_42_9) rfl rfl rfl rfl (wk_i32 x313).1 (wk_i32 x313).2 dX1_takeStep_142 (fun H locs w314 hw hT k316 c315 => ?_)
                  have hF := hF.put kC_at152 (k := 6) (by decide) k316
                  have c317 := k316.gi (Or.inr (by decide)) c307
                  have c318 := k316.gi (Or.inr (by decide)) c308
                  have c319 := k316.gi (Or.inr (by decide)) c309
                  have c320 := k316.gl (Or.inr (by decide)) c305
                  exact J145 r222 x217 x60 H locs ls w314 (show 0 ≤ x217.toInt by first | with_reducible assumption | omega) (show x217.toInt ≤ 999999 by first | with_reducible assumption | omega)  hw hT hF c319 c317 (lv_sub hl [2, 3, 0] rfl)
              · have c292 : r222.toInt = (1 : Int) := wk_eq.mp c292
                refine lv_aload_n hx hb dX1_takeStep_110 rfl (lv_at hl 2 rfl) ?_
                refine lv_aload_n hx hb dX1_takeStep_111 rfl (lv_at hl 3 rfl) ?_
                refine lv_aload_n hx hb dX1_takeStep_112 rfl (lv_at hl 2 rfl) ?_
                refine tk_geti hC hK hw hT hinX1 kC_at149 (by decide) rfl 7 (by decide) (List.mem_cons_of_mem _ uw_42_7) rfl rfl dX1_takeStep_113 (fun x321 c322 rx321 tx321 => ?_)
                refine tk_Vv hC hK hw hT hA hE hSR kC_at149 (by decide) rfl (k_X1_follow_3 l adK adV dC dI cy ad B hB0 (Int.le_trans hB1 (by decide)) qr s1   x321 (show (-1) ≤ x321.toInt from rx321) (show x321.toInt ≤ 11 from tx321) w224 H.size hT ) (cwV 2 hC.2.2.2.2 uV_RX1_61 rfl rfl rfl (by decide +kernel) ⟨Nat.le_of_ble_eq_true rfl, Nat.le_of_ble_eq_true rfl⟩) rfl hl.1 rfl (Nat.le_of_ble_eq_true rfl) dX1_takeStep_116 (fun w325 H locs hp324 hw => ?_)
                obtain ⟨hT, k326, hg327⟩ := hp324
                have hF := hF.tr k326 (by decide)
                have c328 := k326.gi kC_at152 (by decide) c231
                have c329 := k326.gi (kC_el39 kC_at4 hj68) (by decide) c232
                have c330 := k326.gi kC_at149 (by decide) c233
                have c331 := k326.gi kC_at149 (by decide) c322
                clear hg327
                refine lv_goto (tgt := 155) hx hb dX1_takeStep_119 (by decide) ?_
                exact J155 r222 x217 x60 H locs ls w325 (show 0 ≤ x217.toInt by first | with_reducible assumption | omega) (show x217.toInt ≤ 999999 by first | with_reducible assumption | omega)  hw hT hF c330 c328 (lv_sub hl [2, 3, 0] rfl)
            · have c291 : r222.toInt = (0 : Int) := wk_eq.mp c291
              refine lv_aload_n hx hb dX1_takeStep_93 rfl (lv_at hl 2 rfl) ?_
              refine lv_aload_n hx hb dX1_takeStep_94 rfl (lv_at hl 3 rfl) ?_
              refine lv_aload_n hx hb dX1_takeStep_95 rfl (lv_at hl 2 rfl) ?_
              refine tk_geti hC hK hw hT hinX1 kC_at149 (by decide) rfl 5 (by decide) (List.mem_cons_of_mem _ uw_42_6) rfl rfl dX1_takeStep_96 (fun x332 c333 rx332 tx332 => ?_)
              refine tk_Vv hC hK hw hT hA hE hSR kC_at149 (by decide) rfl (k_X1_follow_3 l adK adV dC dI cy ad B hB0 (Int.le_trans hB1 (by decide)) qr s1   x332 (show (-1) ≤ x332.toInt from rx332) (show x332.toInt ≤ 11 from tx332) w224 H.size hT ) (cwV 2 hC.2.2.2.2 uV_RX1_61 rfl rfl rfl (by decide +kernel) ⟨Nat.le_of_ble_eq_true rfl, Nat.le_of_ble_eq_true rfl⟩) rfl hl.1 rfl (Nat.le_of_ble_eq_true rfl) dX1_takeStep_99 (fun w336 H locs hp335 hw => ?_)
              obtain ⟨hT, k337, hg338⟩ := hp335
              have hF := hF.tr k337 (by decide)
              have c339 := k337.gi kC_at152 (by decide) c231
              have c340 := k337.gi (kC_el39 kC_at4 hj68) (by decide) c232
              have c341 := k337.gi kC_at149 (by decide) c233
              have c342 := k337.gi kC_at149 (by decide) c333
              clear hg338
              refine lv_goto (tgt := 155) hx hb dX1_takeStep_102 (by decide) ?_
              exact J155 r222 x217 x60 H locs ls w336 (show 0 ≤ x217.toInt by first | with_reducible assumption | omega) (show x217.toInt ≤ 999999 by first | with_reducible assumption | omega)  hw hT hF c341 c339 (lv_sub hl [2, 3, 0] rfl)
  · refine lv_if_eq (tgt := 9) hx hb dX1_takeStep_4 (by decide) (fun c => absurd c (by decide)) (fun _ => ?_)
    refine lv_iconst (v := 4) hx hb dX1_takeStep_7 (by decide) ?_
    exact tk_iret hC hr hlocks hK ⟨(hT.up (show B ≤ (B + 9) by omega)), hF, (Or.inr rfl)⟩ hw dX1_takeStep_8
