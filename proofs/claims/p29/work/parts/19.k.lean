abbrev P_X10_layRoads_31 (ad : Nat → Nat) (cy : Nat → ClassId) (B : Int) (qr : Nat) (s1 : Int) (a2 : Int32) (w0 : va_W) : va_W → Prop := fun u => TW ksC ad cy B qr s1 u ∧ FE ksC [(51, 0, 10)] w0 u ∧ ((True))
set_option maxHeartbeats 4000000 in
set_option maxRecDepth 100000 in
theorem k_X10_layRoads_31 (l : Launch) (adK adV : Nat → Nat) (dC : Nat → ClassId) (dI : Nat → Nat → Nat) (cy : Nat → ClassId) (ad : Nat → Nat) (B : Int) (hB0 : 2147483648 ≤ B) (hB1 : B ≤ 1152921504606846976) (qr : Nat) (s1 : Int)  (a2 : Int32) (ra2 : 0 ≤ a2.toInt) (ta2 : a2.toInt ≤ 127) (w0 : va_W) (sz : Nat) (hT : TW ksC ad cy B qr s1 w0)  : Met l yX10_layRoads wsX10_layRoads ({ frames := 1, cells := 0, slots := 0, locals := 12 }) (va_Pc [.ref (ad 158), .int 0, .int a2, .int (-1)] (wpreS adK adV dC dI cy sz w0)) (va_Qv (P_X10_layRoads_31 ad cy B qr s1 a2 w0) (fun u : va_W => wpost dC dI cy (va_A w0 sz) u) (va_A w0 sz)) 0 0 (va_A w0 sz) := by
  refine Met.ofW (cc := cX10_layRoads) (maxL := 8) (ret := none) (by decide) rfl ?_
  intro p e s m args below meth c s₁ Bk hml hv
  obtain ⟨rfl, ⟨hsz, hP, hK, hD0⟩, hE, hSR⟩ := hv
  have hx := Bk.exec
  have hb := Bk.bytes
  have hr := Bk.returns
  have hlocks := Bk.notSynchronized
  have hC : CallFix p m c cX10_layRoads 8 s _ wsX10_layRoads RX10 := ⟨hx, hb, hml, findClass_of_methodNamed Bk.named, atoms_spec (ws := wsX10_layRoads) Bk.pre⟩
  subst hsz
  have hD := hD0.self (sz := s.heap.size)
  generalize hAe : va_A w0 s.heap.size = A at hD hE ⊢
  have hA : ∀ q : Nat, s.heap.size ≤ q → A q := fun q h => by rw [← hAe]; exact Or.inr h
  have hw : Wd dC dI A s.heap s.heap [] w0 := ⟨hP, hD, va_S.rf⟩
  have hF : FE ksC [(51, 0, 10)] w0 w0 := FE.rf
  have hl := lv_entry ([.ref (ad 158), .int 0, .int a2, .int (-1)]) (n := 8) (Nat.le_of_ble_eq_true rfl)
  rw [lg_entry_eq]
  generalize (lg_sl ([.ref (ad 158), .int 0, .int a2, .int (-1)]) ++ List.replicate (8 - (lg_sl ([.ref (ad 158), .int 0, .int a2, .int (-1)])).length) Slot.unset).toArray = ls at hl ⊢
  have hl : lv_has ls 8 [(0, .ref (ad 158)), (1, .int 0), (2, .int a2), (3, .int (-1))] := hl
  generalize hloc : ([] : List Loc) = locs at hw ⊢
  have hinX10 : ∀ w ∈ u_ws RX10 TX10 5, w ∈ wsX10_layRoads := fun _ h => List.mem_cons_of_mem _ (List.mem_append_left _ (List.mem_append_right _ (h)))
  have hinX7 : ∀ w ∈ u_ws RX7 TX7 12, w ∈ wsX10_layRoads := fun _ h => List.mem_cons_of_mem _ (List.mem_append_right _ (h))
  have L27 : ∀ (n27 : Nat) (v27_4 : Int32) (H : Heap) (locs : List Loc) (ls : Array Slot) (w1 : va_W), 0 ≤ a2.toInt → a2.toInt ≤ 127 → 0 ≤ v27_4.toInt → v27_4.toInt ≤ 12 → (12 - v27_4.toInt).toNat < n27 → Wd dC dI A s.heap H locs w1 → TW ksC ad cy B qr s1 w1 → FE ksC [(51, 0, 10)] w0 w1 → lv_has ls 8 [(0, .ref (ad 158)), (1, .int 0), (2, .int a2), (3, .int (-1)), (4, .int v27_4)] → W p l e ({ frames := 1, cells := 0, slots := 0, locals := 12 }) s m (List.toArray [.ref (ad 158), .int 0, .int a2, .int (-1)]) below meth c H locs 0 0 (MQ below (va_Qv (P_X10_layRoads_31 ad cy B qr s1 a2 w0) (fun u : va_W => wpost dC dI cy A u) A) (List.toArray [.ref (ad 158), .int 0, .int a2, .int (-1)]) s 0 0 A) (F0 m 27 ls []) := by
    intro n27
    induction n27 with
    | zero => intro v27_4 H locs ls w1 r2 t3 r4 t5 hm27 hw hT hF hl; omega
    | succ n27 ih27 =>
      intro v27_4 H locs ls w1 r2 t3 r4 t5 hm27 hw hT hF hl
      have J144 : ∀ (v144_5 : Int32) (v144_6 : Int32) (v144_7 : Int32) (f144_158_4 : Int32) (H : Heap) (locs : List Loc) (ls : Array Slot) (w6 : va_W), 0 ≤ a2.toInt → a2.toInt ≤ 127 → 0 ≤ v27_4.toInt → v27_4.toInt ≤ 11 → 0 ≤ v144_5.toInt → v144_5.toInt ≤ 9 → 0 ≤ v144_6.toInt → v144_6.toInt ≤ 9 → 0 ≤ v144_7.toInt → v144_7.toInt ≤ 1 → 1 ≤ f144_158_4.toInt → f144_158_4.toInt ≤ 12 → Wd dC dI A s.heap H locs w6 → TW ksC ad cy B qr s1 w6 → FE ksC [(51, 0, 10)] w0 w6 → gi w6 158 4 = f144_158_4 → lv_has ls 8 [(0, .ref (ad 158)), (1, .int 0), (2, .int a2), (3, .int (-1)), (4, .int v27_4), (5, .int v144_5), (6, .int v144_6), (7, .int v144_7)] → W p l e ({ frames := 1, cells := 0, slots := 0, locals := 12 }) s m (List.toArray [.ref (ad 158), .int 0, .int a2, .int (-1)]) below meth c H locs 0 0 (MQ below (va_Qv (P_X10_layRoads_31 ad cy B qr s1 a2 w0) (fun u : va_W => wpost dC dI cy A u) A) (List.toArray [.ref (ad 158), .int 0, .int a2, .int (-1)]) s 0 0 A) (F0 m 144 ls []) := by
        intro v144_5 v144_6 v144_7 f144_158_4 H locs ls w6 r7 t8 r9 t10 r11 t12 r13 t14 r15 t16 r17 t18 hw hT hF c19 hl
        obtain ⟨x20, ex20⟩ : ∃ y : Int32, y = v27_4 + Int32.ofInt 1 := ⟨_, rfl⟩
        refine lv_iinc (v := x20) (lv' := [(4, .int x20), (0, .ref (ad 158)), (1, .int 0), (2, .int a2), (3, .int (-1)), (5, .int v144_5), (6, .int v144_6), (7, .int v144_7)]) hx hb dX10_layRoads_144 hl (k := 4) rfl ex20.symm (by decide) rfl (fun ls hl => ?_)
        have ex20 : x20.toInt = v27_4.toInt + 1 := by rw [ex20]; exact wk_add (y := 1) (show -2147483648 ≤ v27_4.toInt + 1 by omega) (show v27_4.toInt + 1 ≤ 2147483647 by omega)
        refine lv_goto (tgt := 27) hx hb dX10_layRoads_147 (by decide) ?_
        exact ih27 x20 H locs ls w6 (show 0 ≤ a2.toInt by omega) (show a2.toInt ≤ 127 by omega) (show 0 ≤ x20.toInt by omega) (show x20.toInt ≤ 12 by omega) (show (12 - x20.toInt).toNat < n27 by omega) hw hT hF  (lv_sub hl [1, 2, 3, 4, 0] rfl)
      have J130 : ∀ (v130_5 : Int32) (v130_6 : Int32) (f130_158_4 : Int32) (H : Heap) (locs : List Loc) (ls : Array Slot) (w21 : va_W), 0 ≤ a2.toInt → a2.toInt ≤ 127 → 0 ≤ v27_4.toInt → v27_4.toInt ≤ 11 → 0 ≤ v130_5.toInt → v130_5.toInt ≤ 9 → 0 ≤ v130_6.toInt → v130_6.toInt ≤ 9 → 1 ≤ f130_158_4.toInt → f130_158_4.toInt ≤ 12 → Wd dC dI A s.heap H locs w21 → TW ksC ad cy B qr s1 w21 → FE ksC [(51, 0, 10)] w0 w21 → gi w21 158 4 = f130_158_4 → lv_has ls 8 [(0, .ref (ad 158)), (1, .int 0), (2, .int a2), (3, .int (-1)), (4, .int v27_4), (5, .int v130_5), (6, .int v130_6), (7, .int 1)] → W p l e ({ frames := 1, cells := 0, slots := 0, locals := 12 }) s m (List.toArray [.ref (ad 158), .int 0, .int a2, .int (-1)]) below meth c H locs 0 0 (MQ below (va_Qv (P_X10_layRoads_31 ad cy B qr s1 a2 w0) (fun u : va_W => wpost dC dI cy A u) A) (List.toArray [.ref (ad 158), .int 0, .int a2, .int (-1)]) s 0 0 A) (F0 m 130 ls []) := by
        intro v130_5 v130_6 f130_158_4 H locs ls w21 r22 t23 r24 t25 r26 t27 r28 t29 r30 t31 hw hT hF c32 hl
        refine lv_aload_n hx hb dX10_layRoads_130 rfl (lv_at hl 0 rfl) ?_
        refine tk_getA hC hK hw hT hinX10 kC_at158 (by decide) rfl 3 (by decide) (List.mem_of_getElem? (i := 1) rfl) rfl rfl dX10_layRoads_131 ?_
        refine lv_iload hx hb dX10_layRoads_134 (lv_at hl 6 rfl) ?_
        refine lv_dup2_11 hx hb dX10_layRoads_136 rfl rfl ?_
        refine tk_iald hC hK hw hT kC_at160 rfl rfl (show 0 ≤ v130_6.toInt by omega) (show v130_6.toInt < 10 by omega) dX10_layRoads_137 (fun x33 c34 rx33 tx33 => ?_)
        refine lv_iconst (v := 1) hx hb dX10_layRoads_138 (by decide) ?_
        refine lv_iload hx hb dX10_layRoads_139 (lv_at hl 5 rfl) ?_
        refine lv_ishl hx hb dX10_layRoads_141 ?_
        refine lv_topi (fun x35 ex35 => ?_)
        have bx35 : 1 ≤ x35.toInt ∧ x35.toInt ≤ 512 := by rw [ex35]; exact wk_shl1 9 (by decide) (by omega) (by omega)
        refine lv_ior hx hb dX10_layRoads_142 ?_
        refine lv_topi (fun x36 ex36 => ?_)
        have bx36 : 0 ≤ x36.toInt ∧ x36.toInt < 1024 := by rw [ex36]; exact wk_or 10 (by decide) (by omega) (by omega) (by omega) (by omega)
        refine tk_iast hC hK hw hT kC_at160 (by decide) rfl rfl (show 0 ≤ v130_6.toInt by omega) (show v130_6.toInt < 10 by omega) (show 0 ≤ x36.toInt by omega) (show x36.toInt ≤ 1023 by omega) dX10_layRoads_143 (fun H locs w37 hw hT k39 c38 => ?_)
        have hF := hF.put kC_at160 (inE_of (a := 0) (b := 10) (by decide) (show 0 ≤ v130_6.toInt.toNat by omega) (show v130_6.toInt.toNat ≤ 10 by omega)) k39
        have c40 := k39.gi (Or.inl (tk_ne kC_at158 kC_at160 (by decide))) c32
        exact J144 v130_5 v130_6 1 f130_158_4 H locs ls w37 (show 0 ≤ a2.toInt by omega) (show a2.toInt ≤ 127 by omega) (show 0 ≤ v27_4.toInt by omega) (show v27_4.toInt ≤ 11 by omega) (show 0 ≤ v130_5.toInt by omega) (show v130_5.toInt ≤ 9 by omega) (show 0 ≤ v130_6.toInt by omega) (show v130_6.toInt ≤ 9 by omega) (by decide) (by decide) (show 1 ≤ f130_158_4.toInt by omega) (show f130_158_4.toInt ≤ 12 by omega)  hw hT hF c40 (lv_sub hl [0, 1, 2, 3, 4, 5, 6, 7] rfl)
      have J118 : ∀ (v118_5 : Int32) (v118_6 : Int32) (v118_7 : Int32) (f118_158_4 : Int32) (H : Heap) (locs : List Loc) (ls : Array Slot) (w41 : va_W), 0 ≤ a2.toInt → a2.toInt ≤ 127 → 0 ≤ v27_4.toInt → v27_4.toInt ≤ 11 → 0 ≤ v118_5.toInt → v118_5.toInt ≤ 9 → 0 ≤ v118_6.toInt → v118_6.toInt ≤ 9 → 0 ≤ v118_7.toInt → v118_7.toInt ≤ 1 → 1 ≤ f118_158_4.toInt → f118_158_4.toInt ≤ 12 → Wd dC dI A s.heap H locs w41 → TW ksC ad cy B qr s1 w41 → FE ksC [(51, 0, 10)] w0 w41 → gi w41 158 4 = f118_158_4 → lv_has ls 8 [(0, .ref (ad 158)), (1, .int 0), (2, .int a2), (3, .int (-1)), (4, .int v27_4), (5, .int v118_5), (6, .int v118_6), (7, .int v118_7)] → W p l e ({ frames := 1, cells := 0, slots := 0, locals := 12 }) s m (List.toArray [.ref (ad 158), .int 0, .int a2, .int (-1)]) below meth c H locs 0 0 (MQ below (va_Qv (P_X10_layRoads_31 ad cy B qr s1 a2 w0) (fun u : va_W => wpost dC dI cy A u) A) (List.toArray [.ref (ad 158), .int 0, .int a2, .int (-1)]) s 0 0 A) (F0 m 118 ls []) := by
        intro v118_5 v118_6 v118_7 f118_158_4 H locs ls w41 r42 t43 r44 t45 r46 t47 r48 t49 r50 t51 r52 t53 hw hT hF c54 hl
        refine lv_iload hx hb dX10_layRoads_118 (lv_at hl 4 rfl) ?_
        refine lv_iload_n hx hb dX10_layRoads_120 rfl (lv_at hl 1 rfl) ?_
        refine lv_icmp_lt (tgt := 130) hx hb dX10_layRoads_121 (by decide) (fun c => absurd c (fun h => absurd (show v27_4.toInt < (0 : Int) from wk_lt.mp h) (by omega))) (fun _ => ?_)
        refine lv_iload hx hb dX10_layRoads_124 (lv_at hl 7 rfl) ?_
        refine lv_iconst (v := 1) hx hb dX10_layRoads_126 (by decide) ?_
        refine lv_icmp_ne (tgt := 144) hx hb dX10_layRoads_127 (by decide) (fun c55 => ?_) (fun c55 => ?_)
        · have c55 : ¬ v118_7.toInt = (1 : Int) := wk_eqF c55
          exact J144 v118_5 v118_6 v118_7 f118_158_4 H locs ls w41 (show 0 ≤ a2.toInt by omega) (show a2.toInt ≤ 127 by omega) (show 0 ≤ v27_4.toInt by omega) (show v27_4.toInt ≤ 11 by omega) (show 0 ≤ v118_5.toInt by omega) (show v118_5.toInt ≤ 9 by omega) (show 0 ≤ v118_6.toInt by omega) (show v118_6.toInt ≤ 9 by omega) (show 0 ≤ v118_7.toInt by omega) (show v118_7.toInt ≤ 1 by omega) (show 1 ≤ f118_158_4.toInt by omega) (show f118_158_4.toInt ≤ 12 by omega)  hw hT hF c54 (lv_sub hl [0, 1, 2, 3, 4, 5, 6, 7] rfl)
        · have c55 : v118_7.toInt = (1 : Int) := wk_eq.mp c55
          obtain rfl : v118_7 = 1 := wk_eq.mpr (show v118_7.toInt = 1 by omega)
          exact J130 v118_5 v118_6 f118_158_4 H locs ls w41 (show 0 ≤ a2.toInt by omega) (show a2.toInt ≤ 127 by omega) (show 0 ≤ v27_4.toInt by omega) (show v27_4.toInt ≤ 11 by omega) (show 0 ≤ v118_5.toInt by omega) (show v118_5.toInt ≤ 9 by omega) (show 0 ≤ v118_6.toInt by omega) (show v118_6.toInt ≤ 9 by omega) (show 1 ≤ f118_158_4.toInt by omega) (show f118_158_4.toInt ≤ 12 by omega)  hw hT hF c54 (lv_sub hl [0, 1, 2, 3, 4, 5, 6, 7] rfl)
      have J104 : ∀ (v104_5 : Int32) (v104_6 : Int32) (f104_158_4 : Int32) (H : Heap) (locs : List Loc) (ls : Array Slot) (w56 : va_W), 0 ≤ a2.toInt → a2.toInt ≤ 127 → 0 ≤ v27_4.toInt → v27_4.toInt ≤ 11 → 0 ≤ v104_5.toInt → v104_5.toInt ≤ 9 → 0 ≤ v104_6.toInt → v104_6.toInt ≤ 9 → 1 ≤ f104_158_4.toInt → f104_158_4.toInt ≤ 12 → Wd dC dI A s.heap H locs w56 → TW ksC ad cy B qr s1 w56 → FE ksC [(51, 0, 10)] w0 w56 → gi w56 158 4 = f104_158_4 → lv_has ls 8 [(0, .ref (ad 158)), (1, .int 0), (2, .int a2), (3, .int (-1)), (4, .int v27_4), (5, .int v104_5), (6, .int v104_6), (7, .int 0)] → W p l e ({ frames := 1, cells := 0, slots := 0, locals := 12 }) s m (List.toArray [.ref (ad 158), .int 0, .int a2, .int (-1)]) below meth c H locs 0 0 (MQ below (va_Qv (P_X10_layRoads_31 ad cy B qr s1 a2 w0) (fun u : va_W => wpost dC dI cy A u) A) (List.toArray [.ref (ad 158), .int 0, .int a2, .int (-1)]) s 0 0 A) (F0 m 104 ls []) := by
        intro v104_5 v104_6 f104_158_4 H locs ls w56 r57 t58 r59 t60 r61 t62 r63 t64 r65 t66 hw hT hF c67 hl
        refine lv_aload_n hx hb dX10_layRoads_104 rfl (lv_at hl 0 rfl) ?_
        refine tk_getA hC hK hw hT hinX10 kC_at158 (by decide) rfl 3 (by decide) (List.mem_of_getElem? (i := 1) rfl) rfl rfl dX10_layRoads_105 ?_
        refine lv_iload hx hb dX10_layRoads_108 (lv_at hl 5 rfl) ?_
        refine lv_dup2_11 hx hb dX10_layRoads_110 rfl rfl ?_
        refine tk_iald hC hK hw hT kC_at160 rfl rfl (show 0 ≤ v104_5.toInt by omega) (show v104_5.toInt < 10 by omega) dX10_layRoads_111 (fun x68 c69 rx68 tx68 => ?_)
        refine lv_iconst (v := 1) hx hb dX10_layRoads_112 (by decide) ?_
        refine lv_iload hx hb dX10_layRoads_113 (lv_at hl 6 rfl) ?_
        refine lv_ishl hx hb dX10_layRoads_115 ?_
        refine lv_topi (fun x70 ex70 => ?_)
        have bx70 : 1 ≤ x70.toInt ∧ x70.toInt ≤ 512 := by rw [ex70]; exact wk_shl1 9 (by decide) (by omega) (by omega)
        refine lv_ior hx hb dX10_layRoads_116 ?_
        refine lv_topi (fun x71 ex71 => ?_)
        have bx71 : 0 ≤ x71.toInt ∧ x71.toInt < 1024 := by rw [ex71]; exact wk_or 10 (by decide) (by omega) (by omega) (by omega) (by omega)
        refine tk_iast hC hK hw hT kC_at160 (by decide) rfl rfl (show 0 ≤ v104_5.toInt by omega) (show v104_5.toInt < 10 by omega) (show 0 ≤ x71.toInt by omega) (show x71.toInt ≤ 1023 by omega) dX10_layRoads_117 (fun H locs w72 hw hT k74 c73 => ?_)
        have hF := hF.put kC_at160 (inE_of (a := 0) (b := 10) (by decide) (show 0 ≤ v104_5.toInt.toNat by omega) (show v104_5.toInt.toNat ≤ 10 by omega)) k74
        have c75 := k74.gi (Or.inl (tk_ne kC_at158 kC_at160 (by decide))) c67
        exact J118 v104_5 v104_6 0 f104_158_4 H locs ls w72 (show 0 ≤ a2.toInt by omega) (show a2.toInt ≤ 127 by omega) (show 0 ≤ v27_4.toInt by omega) (show v27_4.toInt ≤ 11 by omega) (show 0 ≤ v104_5.toInt by omega) (show v104_5.toInt ≤ 9 by omega) (show 0 ≤ v104_6.toInt by omega) (show v104_6.toInt ≤ 9 by omega) (by decide) (by decide) (show 1 ≤ f104_158_4.toInt by omega) (show f104_158_4.toInt ≤ 12 by omega)  hw hT hF c75 (lv_sub hl [0, 1, 2, 3, 4, 5, 6, 7] rfl)
      refine lv_iload hx hb dX10_layRoads_27 (lv_at hl 4 rfl) ?_
      refine lv_aload_n hx hb dX10_layRoads_29 rfl (lv_at hl 0 rfl) ?_
      refine tk_geti hC hK hw hT hinX10 kC_at158 (by decide) rfl 4 (by decide) (List.mem_of_getElem? (i := 2) rfl) rfl rfl dX10_layRoads_30 (fun x76 c77 rx76 tx76 => ?_)
      refine lv_icmp_ge (tgt := 150) hx hb dX10_layRoads_33 (by decide) (fun c78 => ?_) (fun c78 => ?_)
      · have c78 : x76.toInt ≤ v27_4.toInt := wk_le.mp c78
        exact tk_vret hC hr hlocks hK ⟨hT, hF, trivial⟩ hw dX10_layRoads_150
      · have c78 : v27_4.toInt < x76.toInt := wk_leF c78
        refine lv_iload hx hb dX10_layRoads_36 (lv_at hl 4 rfl) ?_
        refine lv_iload_n hx hb dX10_layRoads_38 rfl (lv_at hl 3 rfl) ?_
        refine lv_icmp_ne (tgt := 45) hx hb dX10_layRoads_39 (by decide) (fun _ => ?_) (fun c => absurd (show v27_4.toInt = (-1 : Int) from wk_eq.mp c) (by omega))
        refine lv_aload_n hx hb dX10_layRoads_45 rfl (lv_at hl 0 rfl) ?_
        refine tk_getA hC hK hw hT hinX10 kC_at158 (by decide) rfl 1 (by decide) (List.mem_of_getElem? (i := 3) rfl) rfl rfl dX10_layRoads_46 ?_
        refine tk_getO hC hK hw hT hinX7 kC_at39 (by decide) rfl 0 (by decide) (List.mem_of_getElem? (i := 4) rfl) rfl rfl dX10_layRoads_49 ?_
        refine lv_iconst (v := 2) hx hb dX10_layRoads_52 (by decide) ?_
        refine lv_aload_n hx hb dX10_layRoads_53 rfl (lv_at hl 0 rfl) ?_
        refine tk_getA hC hK hw hT hinX10 kC_at158 (by decide) rfl 2 (by decide) (List.mem_of_getElem? (i := 5) rfl) rfl rfl dX10_layRoads_54 ?_
        refine lv_iload hx hb dX10_layRoads_57 (lv_at hl 4 rfl) ?_
        refine tk_iald hC hK hw hT kC_at159 rfl rfl (show 0 ≤ v27_4.toInt by omega) (show v27_4.toInt < 12 by omega) dX10_layRoads_59 (fun x79 c80 rx79 tx79 => ?_)
        refine lv_imul hx hb dX10_layRoads_60 ?_
        refine lv_topi (fun x81 ex81 => ?_)
        have ex81 : x81.toInt = (2 : Int) * x79.toInt := by rw [ex81]; exact wk_mul (show (-2147483648) ≤ (2 : Int) * x79.toInt by omega) (show (2 : Int) * x79.toInt ≤ 2147483647 by omega)
        refine tk_iald hC hK hw hT kC_at40 rfl rfl (show 0 ≤ x81.toInt by omega) (show x81.toInt < 26 by omega) dX10_layRoads_61 (fun x82 c83 rx82 tx82 => ?_)
        refine lv_istore (lv' := [(5, .int x82), (0, .ref (ad 158)), (1, .int 0), (2, .int a2), (3, .int (-1)), (4, .int v27_4)]) hx hb dX10_layRoads_62 hl (by decide) rfl (fun ls hl => ?_)
        refine lv_aload_n hx hb dX10_layRoads_64 rfl (lv_at hl 1 rfl) ?_
        refine tk_getA hC hK hw hT hinX10 kC_at158 (by decide) rfl 1 (by decide) (List.mem_of_getElem? (i := 3) rfl) rfl rfl dX10_layRoads_65 ?_
        refine tk_getO hC hK hw hT hinX7 kC_at39 (by decide) rfl 0 (by decide) (List.mem_of_getElem? (i := 4) rfl) rfl rfl dX10_layRoads_68 ?_
        refine lv_iconst (v := 2) hx hb dX10_layRoads_71 (by decide) ?_
        refine lv_aload_n hx hb dX10_layRoads_72 rfl (lv_at hl 1 rfl) ?_
        refine tk_getA hC hK hw hT hinX10 kC_at158 (by decide) rfl 2 (by decide) (List.mem_of_getElem? (i := 5) rfl) rfl rfl dX10_layRoads_73 ?_
        refine lv_iload hx hb dX10_layRoads_76 (lv_at hl 5 rfl) ?_
        refine tk_iald hC hK hw hT kC_at159 rfl rfl (show 0 ≤ v27_4.toInt by omega) (show v27_4.toInt < 12 by omega) dX10_layRoads_78 (fun x84 c85 rx84 tx84 => ?_)
        refine lv_imul hx hb dX10_layRoads_79 ?_
        refine lv_topi (fun x86 ex86 => ?_)
        have ex86 : x86.toInt = (2 : Int) * x84.toInt := by rw [ex86]; exact wk_mul (show (-2147483648) ≤ (2 : Int) * x84.toInt by omega) (show (2 : Int) * x84.toInt ≤ 2147483647 by omega)
        refine lv_iconst (v := 1) hx hb dX10_layRoads_80 (by decide) ?_
        refine lv_iadd hx hb dX10_layRoads_81 ?_
        refine lv_topi (fun x87 ex87 => ?_)
        have ex87 : x87.toInt = x86.toInt + (1 : Int) := by rw [ex87]; exact wk_add (show (-2147483648) ≤ x86.toInt + (1 : Int) by omega) (show x86.toInt + (1 : Int) ≤ 2147483647 by omega)
        refine tk_iald hC hK hw hT kC_at40 rfl rfl (show 0 ≤ x87.toInt by omega) (show x87.toInt < 26 by omega) dX10_layRoads_82 (fun x88 c89 rx88 tx88 => ?_)
        refine lv_istore (lv' := [(6, .int x88), (5, .int x82), (0, .ref (ad 158)), (1, .int 0), (2, .int a2), (3, .int (-1)), (4, .int v27_4)]) hx hb dX10_layRoads_83 hl (by decide) rfl (fun ls hl => ?_)
        refine lv_iload_n hx hb dX10_layRoads_85 rfl (lv_at hl 4 rfl) ?_
        refine lv_iload hx hb dX10_layRoads_86 (lv_at hl 6 rfl) ?_
        refine lv_ishr hx hb dX10_layRoads_88 ?_
        refine lv_topi (fun x90 ex90 => ?_)
        have bx90 : 0 ≤ x90.toInt ∧ x90.toInt ≤ a2.toInt := by rw [ex90]; exact wk_shr (by omega)
        refine lv_iconst (v := 1) hx hb dX10_layRoads_89 (by decide) ?_
        refine lv_iand hx hb dX10_layRoads_90 ?_
        refine lv_topi (fun x91 ex91 => ?_)
        have bx91 : 0 ≤ x91.toInt ∧ x91.toInt ≤ (1 : Int) := by rw [ex91]; exact wk_and (by decide)
        refine lv_istore (lv' := [(7, .int x91), (6, .int x88), (5, .int x82), (0, .ref (ad 158)), (1, .int 0), (2, .int a2), (3, .int (-1)), (4, .int v27_4)]) hx hb dX10_layRoads_91 hl (by decide) rfl (fun ls hl => ?_)
        refine lv_iload hx hb dX10_layRoads_93 (lv_at hl 7 rfl) ?_
        refine lv_iload_n hx hb dX10_layRoads_95 rfl (lv_at hl 4 rfl) ?_
        refine lv_icmp_lt (tgt := 104) hx hb dX10_layRoads_96 (by decide) (fun c => absurd c (fun h => absurd (show v27_4.toInt < (0 : Int) from wk_lt.mp h) (by omega))) (fun _ => ?_)
        refine lv_iload hx hb dX10_layRoads_99 (lv_at hl 0 rfl) ?_
        refine lv_if_ne (tgt := 118) hx hb dX10_layRoads_101 (by decide) (fun c92 => ?_) (fun c92 => ?_)
        · have c92 : ¬ x91.toInt = (0 : Int) := wk_eqF c92
          exact J118 x82 x88 x91 x76 H locs ls w1 (show 0 ≤ a2.toInt by omega) (show a2.toInt ≤ 127 by omega) (show 0 ≤ v27_4.toInt by omega) (show v27_4.toInt ≤ 11 by omega) (show 0 ≤ x82.toInt by omega) (show x82.toInt ≤ 9 by omega) (show 0 ≤ x88.toInt by omega) (show x88.toInt ≤ 9 by omega) (show 0 ≤ x91.toInt by omega) (show x91.toInt ≤ 1 by omega) (show 1 ≤ x76.toInt by omega) (show x76.toInt ≤ 12 by omega)  hw hT hF c77 (lv_sub hl [3, 4, 5, 6, 7, 2, 1, 0] rfl)
        · have c92 : x91.toInt = (0 : Int) := wk_eq.mp c92
          obtain rfl : x91 = 0 := wk_eq.mpr (show x91.toInt = 0 by omega)
          exact J104 x82 x88 x76 H locs ls w1 (show 0 ≤ a2.toInt by omega) (show a2.toInt ≤ 127 by omega) (show 0 ≤ v27_4.toInt by omega) (show v27_4.toInt ≤ 11 by omega) (show 0 ≤ x82.toInt by omega) (show x82.toInt ≤ 9 by omega) (show 0 ≤ x88.toInt by omega) (show x88.toInt ≤ 9 by omega) (show 1 ≤ x76.toInt by omega) (show x76.toInt ≤ 12 by omega)  hw hT hF c77 (lv_sub hl [3, 4, 5, 6, 7, 2, 1, 0] rfl)
  have L3 : ∀ (n3 : Nat) (v3_4 : Int32) (H : Heap) (locs : List Loc) (ls : Array Slot) (w93 : va_W), 0 ≤ a2.toInt → a2.toInt ≤ 127 → 0 ≤ v3_4.toInt → v3_4.toInt ≤ 10 → (10 - v3_4.toInt).toNat < n3 → Wd dC dI A s.heap H locs w93 → TW ksC ad cy B qr s1 w93 → FE ksC [(51, 0, 10)] w0 w93 → lv_has ls 8 [(0, .ref (ad 158)), (1, .int 0), (2, .int a2), (3, .int (-1)), (4, .int v3_4)] → W p l e ({ frames := 1, cells := 0, slots := 0, locals := 12 }) s m (List.toArray [.ref (ad 158), .int 0, .int a2, .int (-1)]) below meth c H locs 0 0 (MQ below (va_Qv (P_X10_layRoads_31 ad cy B qr s1 a2 w0) (fun u : va_W => wpost dC dI cy A u) A) (List.toArray [.ref (ad 158), .int 0, .int a2, .int (-1)]) s 0 0 A) (F0 m 3 ls []) := by
    intro n3
    induction n3 with
    | zero => intro v3_4 H locs ls w93 r94 t95 r96 t97 hm3 hw hT hF hl; omega
    | succ n3 ih3 =>
      intro v3_4 H locs ls w93 r94 t95 r96 t97 hm3 hw hT hF hl
      refine lv_iload hx hb dX10_layRoads_3 (lv_at hl 4 rfl) ?_
      refine lv_bipush (v := 10) hx hb dX10_layRoads_5 (by decide) ?_
      refine lv_icmp_ge (tgt := 24) hx hb dX10_layRoads_7 (by decide) (fun c98 => ?_) (fun c98 => ?_)
      · have c98 : (10 : Int) ≤ v3_4.toInt := wk_le.mp c98
        refine lv_iconst (v := 0) hx hb dX10_layRoads_24 (by decide) ?_
        refine lv_istore (lv' := [(4, .int 0), (0, .ref (ad 158)), (1, .int 0), (2, .int a2), (3, .int (-1))]) hx hb dX10_layRoads_25 hl (by decide) rfl (fun ls hl => ?_)
        exact L27 ((12 - (0 : Int)).toNat + 1) 0 H locs ls w93 (show 0 ≤ a2.toInt by omega) (show a2.toInt ≤ 127 by omega) (by decide) (by decide) (Nat.lt_succ_self _) hw hT hF  (lv_sub hl [1, 2, 3, 4, 0] rfl)
      · have c98 : v3_4.toInt < (10 : Int) := wk_leF c98
        refine lv_aload_n hx hb dX10_layRoads_10 rfl (lv_at hl 0 rfl) ?_
        refine tk_getA hC hK hw hT hinX10 kC_at158 (by decide) rfl 3 (by decide) (List.mem_of_getElem? (i := 1) rfl) rfl rfl dX10_layRoads_11 ?_
        refine lv_iload hx hb dX10_layRoads_14 (lv_at hl 4 rfl) ?_
        refine lv_iconst (v := 0) hx hb dX10_layRoads_16 (by decide) ?_
        refine tk_iast hC hK hw hT kC_at160 (by decide) rfl rfl (show 0 ≤ v3_4.toInt by omega) (show v3_4.toInt < 10 by omega) (by decide) (by decide) dX10_layRoads_17 (fun H locs w99 hw hT k101 c100 => ?_)
        have hF := hF.put kC_at160 (inE_of (a := 0) (b := 10) (by decide) (show 0 ≤ v3_4.toInt.toNat by omega) (show v3_4.toInt.toNat ≤ 10 by omega)) k101
        obtain ⟨x102, ex102⟩ : ∃ y : Int32, y = v3_4 + Int32.ofInt 1 := ⟨_, rfl⟩
        refine lv_iinc (v := x102) (lv' := [(4, .int x102), (0, .ref (ad 158)), (1, .int 0), (2, .int a2), (3, .int (-1))]) hx hb dX10_layRoads_18 hl (k := 4) rfl ex102.symm (by decide) rfl (fun ls hl => ?_)
        have ex102 : x102.toInt = v3_4.toInt + 1 := by rw [ex102]; exact wk_add (y := 1) (show -2147483648 ≤ v3_4.toInt + 1 by omega) (show v3_4.toInt + 1 ≤ 2147483647 by omega)
        refine lv_goto (tgt := 3) hx hb dX10_layRoads_21 (by decide) ?_
        exact ih3 x102 H locs ls w99 (show 0 ≤ a2.toInt by omega) (show a2.toInt ≤ 127 by omega) (show 0 ≤ x102.toInt by omega) (show x102.toInt ≤ 10 by omega) (show (10 - x102.toInt).toNat < n3 by omega) hw hT hF  (lv_sub hl [1, 2, 3, 4, 0] rfl)
  refine lv_iconst (v := 0) hx hb dX10_layRoads_0 (by decide) ?_
  refine lv_istore (lv' := [(4, .int 0), (0, .ref (ad 158)), (1, .int 0), (2, .int a2), (3, .int (-1))]) hx hb dX10_layRoads_1 hl (by decide) rfl (fun ls hl => ?_)
  exact L3 ((10 - (0 : Int)).toNat + 1) 0 s.heap locs ls w0 (show 0 ≤ a2.toInt by omega) (show a2.toInt ≤ 127 by omega) (by decide) (by decide) (Nat.lt_succ_self _) hw hT hF  (lv_sub hl [1, 2, 3, 4, 0] rfl)
abbrev P_X10_leastBelow_41 (ad : Nat → Nat) (cy : Nat → ClassId) (B : Int) (qr : Nat) (s1 : Int) (a2 : Int32) (w0 : va_W) : Int32 → va_W → Prop := fun r u => TW ksC ad cy B qr s1 u ∧ FE ksC [(51, 0, 10)] w0 u ∧ ((0 ≤ r.toInt ∧ r.toInt ≤ 127) ∨ (r = (-1) ∧ (∃ y : Int32, gi u 38 10 = y ∧ 1 ≤ y.toInt ∧ y.toInt ≤ 6)))
set_option maxHeartbeats 4000000 in
set_option maxRecDepth 100000 in
theorem k_X10_leastBelow_41 (l : Launch) (adK adV : Nat → Nat) (dC : Nat → ClassId) (dI : Nat → Nat → Nat) (cy : Nat → ClassId) (ad : Nat → Nat) (B : Int) (hB0 : 2147483648 ≤ B) (hB1 : B ≤ 1152921504606846976) (qr : Nat) (s1 : Int)  (a2 : Int32) (ra2 : 0 ≤ a2.toInt) (ta2 : a2.toInt ≤ 127) (w0 : va_W) (sz : Nat) (hT : TW ksC ad cy B qr s1 w0)  : Met l yX10_leastBelow wsX10_leastBelow ({ frames := 3, cells := 0, slots := 0, locals := 59 }) (va_Pc [.ref (ad 158), .int 0, .int a2] (wpreS adK adV dC dI cy sz w0)) (va_Qi (P_X10_leastBelow_41 ad cy B qr s1 a2 w0) (fun u : va_W => wpost dC dI cy (va_A w0 sz) u) (va_A w0 sz)) 0 0 (va_A w0 sz) := by
  refine Met.ofW (cc := cX10_leastBelow) (maxL := 4) (ret := (some .int)) (by decide) rfl ?_
  intro p e s m args below meth c s₁ Bk hml hv
  obtain ⟨rfl, ⟨hsz, hP, hK, hD0⟩, hE, hSR⟩ := hv
  have hx := Bk.exec
  have hb := Bk.bytes
  have hr := Bk.returns
  have hlocks := Bk.notSynchronized
  have hC : CallFix p m c cX10_leastBelow 4 s _ wsX10_leastBelow RX10 := ⟨hx, hb, hml, findClass_of_methodNamed Bk.named, atoms_spec (ws := wsX10_leastBelow) Bk.pre⟩
  subst hsz
  have hD := hD0.self (sz := s.heap.size)
  generalize hAe : va_A w0 s.heap.size = A at hD hE ⊢
  have hA : ∀ q : Nat, s.heap.size ≤ q → A q := fun q h => by rw [← hAe]; exact Or.inr h
  have hw : Wd dC dI A s.heap s.heap [] w0 := ⟨hP, hD, va_S.rf⟩
  have hF : FE ksC [(51, 0, 10)] w0 w0 := FE.rf
  have hl := lv_entry ([.ref (ad 158), .int 0, .int a2]) (n := 4) (Nat.le_of_ble_eq_true rfl)
  rw [lg_entry_eq]
  generalize (lg_sl ([.ref (ad 158), .int 0, .int a2]) ++ List.replicate (4 - (lg_sl ([.ref (ad 158), .int 0, .int a2])).length) Slot.unset).toArray = ls at hl ⊢
  have hl : lv_has ls 4 [(0, .ref (ad 158)), (1, .int 0), (2, .int a2)] := hl
  generalize hloc : ([] : List Loc) = locs at hw ⊢
  have hinX10 : ∀ w ∈ u_ws RX10 TX10 5, w ∈ wsX10_leastBelow := fun _ h => List.mem_cons_of_mem _ (List.mem_append_left _ (List.mem_append_left _ (List.mem_append_right _ (h))))
  have hinX5 : ∀ w ∈ u_ws RX5 TX5 14, w ∈ wsX10_leastBelow := fun _ h => List.mem_cons_of_mem _ (List.mem_append_left _ (List.mem_append_right _ (h)))
  have L9 : ∀ (n9 : Nat) (v9_3 : Int32) (H : Heap) (locs : List Loc) (ls : Array Slot) (w1 : va_W), 0 ≤ a2.toInt → a2.toInt ≤ 127 → 0 ≤ v9_3.toInt → v9_3.toInt ≤ 6 → (6 - v9_3.toInt).toNat < n9 → Wd dC dI A s.heap H locs w1 → TW ksC ad cy B qr s1 w1 → FE ksC [(51, 0, 10)] w0 w1 → lv_has ls 4 [(0, .ref (ad 158)), (1, .int 0), (2, .int a2), (3, .int v9_3)] → W p l e ({ frames := 3, cells := 0, slots := 0, locals := 59 }) s m (List.toArray [.ref (ad 158), .int 0, .int a2]) below meth c H locs 0 0 (MQ below (va_Qi (P_X10_leastBelow_41 ad cy B qr s1 a2 w0) (fun u : va_W => wpost dC dI cy A u) A) (List.toArray [.ref (ad 158), .int 0, .int a2]) s 0 0 A) (F0 m 9 ls []) := by
    intro n9
    induction n9 with
    | zero => intro v9_3 H locs ls w1 r2 t3 r4 t5 hm9 hw hT hF hl; omega
    | succ n9 ih9 =>
      intro v9_3 H locs ls w1 r2 t3 r4 t5 hm9 hw hT hF hl
      refine lv_iload_n hx hb dX10_leastBelow_9 rfl (lv_at hl 3 rfl) ?_
      refine lv_aload_n hx hb dX10_leastBelow_10 rfl (lv_at hl 0 rfl) ?_
      refine tk_getA hC hK hw hT hinX10 kC_at158 (by decide) rfl 0 (by decide) (List.mem_of_getElem? (i := 1) rfl) rfl rfl dX10_leastBelow_11 ?_
      refine tk_geti hC hK hw hT hinX5 kC_at38 (by decide) rfl 10 (by decide) (List.mem_of_getElem? (i := 2) rfl) rfl rfl dX10_leastBelow_14 (fun x6 c7 rx6 tx6 => ?_)
      refine lv_icmp_ge (tgt := 36) hx hb dX10_leastBelow_17 (by decide) (fun c8 => ?_) (fun c8 => ?_)
      · have c8 : x6.toInt ≤ v9_3.toInt := wk_le.mp c8
        refine lv_iload_n hx hb dX10_leastBelow_36 rfl (lv_at hl 1 rfl) ?_
        refine lv_if_gt (tgt := 42) hx hb dX10_leastBelow_37 (by decide) (fun c => absurd c (by decide)) (fun _ => ?_)
        refine lv_iload_n hx hb dX10_leastBelow_40 rfl (lv_at hl 2 rfl) ?_
        exact tk_iret hC hr hlocks hK ⟨hT, hF, (Or.inl ⟨(show 0 ≤ a2.toInt by omega), (show a2.toInt ≤ 127 by omega)⟩)⟩ hw dX10_leastBelow_41
      · have c8 : v9_3.toInt < x6.toInt := wk_leF c8
        refine lv_aload_n hx hb dX10_leastBelow_20 rfl (lv_at hl 0 rfl) ?_
        refine lv_iload_n hx hb dX10_leastBelow_21 rfl (lv_at hl 3 rfl) ?_
        refine tk_Vi hC hK hw hT hA hE hSR kC_at158 (by decide) rfl (k_X10_canDo_1 l adK adV dC dI cy ad B (by omega) (by omega) qr s1   v9_3 (show 0 ≤ v9_3.toInt by omega) (show v9_3.toInt ≤ 5 by omega) w1 H.size hT ) (cwV 1 hC.2.2.2.2 gX10_leastBelow_X10_canDo rfl rfl rfl (by decide +kernel) ⟨Nat.le_of_ble_eq_true rfl, Nat.le_of_ble_eq_true rfl⟩) rfl hl.1 rfl (Nat.le_of_ble_eq_true rfl) dX10_leastBelow_22 (fun r9 w11 H locs hp10 hw => ?_)
        obtain ⟨hT, k12, hg13⟩ := hp10
        have hF := hF.tr k12 (by decide)
        have c14 := k12.gi kC_at38 (by decide) c7
        rcases hg13 with rfl | rfl
        · refine lv_if_ne (tgt := 30) hx hb dX10_leastBelow_25 (by decide) (fun c => absurd (by decide) c) (fun _ => ?_)
          refine lv_iconst (v := (-1)) hx hb dX10_leastBelow_28 (by decide) ?_
          exact tk_iret hC hr hlocks hK ⟨hT, hF, (Or.inr ⟨rfl, ⟨x6, c14, (show 1 ≤ x6.toInt by omega), (show x6.toInt ≤ 6 by omega)⟩⟩)⟩ hw dX10_leastBelow_29
        · refine lv_if_ne (tgt := 30) hx hb dX10_leastBelow_25 (by decide) (fun _ => ?_) (fun c => absurd c (by decide))
          obtain ⟨x15, ex15⟩ : ∃ y : Int32, y = v9_3 + Int32.ofInt 1 := ⟨_, rfl⟩
          refine lv_iinc (v := x15) (lv' := [(3, .int x15), (0, .ref (ad 158)), (1, .int 0), (2, .int a2)]) hx hb dX10_leastBelow_30 hl (k := 3) rfl ex15.symm (by decide) rfl (fun ls hl => ?_)
          have ex15 : x15.toInt = v9_3.toInt + 1 := by rw [ex15]; exact wk_add (y := 1) (show -2147483648 ≤ v9_3.toInt + 1 by omega) (show v9_3.toInt + 1 ≤ 2147483647 by omega)
          refine lv_goto (tgt := 9) hx hb dX10_leastBelow_33 (by decide) ?_
          exact ih9 x15 H locs ls w11 (show 0 ≤ a2.toInt by omega) (show a2.toInt ≤ 127 by omega) (show 0 ≤ x15.toInt by omega) (show x15.toInt ≤ 6 by omega) (show (6 - x15.toInt).toNat < n9 by omega) hw hT hF  (lv_sub hl [1, 2, 3, 0] rfl)
  refine lv_aload_n hx hb dX10_leastBelow_0 rfl (lv_at hl 0 rfl) ?_
  refine lv_iload_n hx hb dX10_leastBelow_1 rfl (lv_at hl 1 rfl) ?_
  refine lv_iload_n hx hb dX10_leastBelow_2 rfl (lv_at hl 2 rfl) ?_
  refine lv_iconst (v := (-1)) hx hb dX10_leastBelow_3 (by decide) ?_
  refine tk_Vv hC hK hw hT hA hE hSR kC_at158 (by decide) rfl (k_X10_layRoads_31 l adK adV dC dI cy ad B (by omega) (by omega) qr s1   a2 (show 0 ≤ a2.toInt by omega) (show a2.toInt ≤ 127 by omega) w0 s.heap.size hT ) (cwV 3 hC.2.2.2.2 gX10_leastBelow_X10_layRoads rfl rfl rfl (by decide +kernel) ⟨Nat.le_of_ble_eq_true rfl, Nat.le_of_ble_eq_true rfl⟩) rfl hl.1 rfl (Nat.le_of_ble_eq_true rfl) dX10_leastBelow_4 (fun w18 H locs hp17 hw => ?_)
  obtain ⟨hT, k19, hg20⟩ := hp17
  have hF := hF.tr k19 (by decide)
  clear hg20
  refine lv_iconst (v := 0) hx hb dX10_leastBelow_7 (by decide) ?_
  refine lv_istore_n (lv' := [(3, .int 0), (0, .ref (ad 158)), (1, .int 0), (2, .int a2)]) hx hb dX10_leastBelow_8 rfl hl (by decide) rfl (fun ls hl => ?_)
  exact L9 ((6 - (0 : Int)).toNat + 1) 0 H locs ls w18 (show 0 ≤ a2.toInt by omega) (show a2.toInt ≤ 127 by omega) (by decide) (by decide) (Nat.lt_succ_self _) hw hT hF  (lv_sub hl [1, 2, 3, 0] rfl)
abbrev P_X10_layRoads_32 (ad : Nat → Nat) (cy : Nat → ClassId) (B : Int) (qr : Nat) (s1 : Int) (a1 : Int32) (a2 : Int32) (w0 : va_W) : va_W → Prop := fun u => TW ksC ad cy B qr s1 u ∧ FE ksC [(51, 0, 10)] w0 u ∧ ((True))
set_option maxHeartbeats 4000000 in
set_option maxRecDepth 100000 in
theorem k_X10_layRoads_32 (l : Launch) (adK adV : Nat → Nat) (dC : Nat → ClassId) (dI : Nat → Nat → Nat) (cy : Nat → ClassId) (ad : Nat → Nat) (B : Int) (hB0 : 2147483648 ≤ B) (hB1 : B ≤ 1152921504606846976) (qr : Nat) (s1 : Int)  (a1 : Int32) (ra1 : 0 ≤ a1.toInt) (ta1 : a1.toInt ≤ 1) (a2 : Int32) (ra2 : 0 ≤ a2.toInt) (ta2 : a2.toInt ≤ 127) (w0 : va_W) (sz : Nat) (hT : TW ksC ad cy B qr s1 w0)  : Met l yX10_layRoads wsX10_layRoads ({ frames := 1, cells := 0, slots := 0, locals := 12 }) (va_Pc [.ref (ad 158), .int a1, .int a2, .int (-1)] (wpreS adK adV dC dI cy sz w0)) (va_Qv (P_X10_layRoads_32 ad cy B qr s1 a1 a2 w0) (fun u : va_W => wpost dC dI cy (va_A w0 sz) u) (va_A w0 sz)) 0 0 (va_A w0 sz) := by
  refine Met.ofW (cc := cX10_layRoads) (maxL := 8) (ret := none) (by decide) rfl ?_
  intro p e s m args below meth c s₁ Bk hml hv
  obtain ⟨rfl, ⟨hsz, hP, hK, hD0⟩, hE, hSR⟩ := hv
  have hx := Bk.exec
  have hb := Bk.bytes
  have hr := Bk.returns
  have hlocks := Bk.notSynchronized
  have hC : CallFix p m c cX10_layRoads 8 s _ wsX10_layRoads RX10 := ⟨hx, hb, hml, findClass_of_methodNamed Bk.named, atoms_spec (ws := wsX10_layRoads) Bk.pre⟩
  subst hsz
  have hD := hD0.self (sz := s.heap.size)
  generalize hAe : va_A w0 s.heap.size = A at hD hE ⊢
  have hA : ∀ q : Nat, s.heap.size ≤ q → A q := fun q h => by rw [← hAe]; exact Or.inr h
  have hw : Wd dC dI A s.heap s.heap [] w0 := ⟨hP, hD, va_S.rf⟩
  have hF : FE ksC [(51, 0, 10)] w0 w0 := FE.rf
  have hl := lv_entry ([.ref (ad 158), .int a1, .int a2, .int (-1)]) (n := 8) (Nat.le_of_ble_eq_true rfl)
  rw [lg_entry_eq]
  generalize (lg_sl ([.ref (ad 158), .int a1, .int a2, .int (-1)]) ++ List.replicate (8 - (lg_sl ([.ref (ad 158), .int a1, .int a2, .int (-1)])).length) Slot.unset).toArray = ls at hl ⊢
  have hl : lv_has ls 8 [(0, .ref (ad 158)), (1, .int a1), (2, .int a2), (3, .int (-1))] := hl
  generalize hloc : ([] : List Loc) = locs at hw ⊢
  have hinX10 : ∀ w ∈ u_ws RX10 TX10 5, w ∈ wsX10_layRoads := fun _ h => List.mem_cons_of_mem _ (List.mem_append_left _ (List.mem_append_right _ (h)))
  have hinX7 : ∀ w ∈ u_ws RX7 TX7 12, w ∈ wsX10_layRoads := fun _ h => List.mem_cons_of_mem _ (List.mem_append_right _ (h))
  have L27 : ∀ (n27 : Nat) (v27_4 : Int32) (H : Heap) (locs : List Loc) (ls : Array Slot) (w1 : va_W), 0 ≤ a1.toInt → a1.toInt ≤ 1 → 0 ≤ a2.toInt → a2.toInt ≤ 127 → 0 ≤ v27_4.toInt → v27_4.toInt ≤ 12 → (12 - v27_4.toInt).toNat < n27 → Wd dC dI A s.heap H locs w1 → TW ksC ad cy B qr s1 w1 → FE ksC [(51, 0, 10)] w0 w1 → lv_has ls 8 [(0, .ref (ad 158)), (1, .int a1), (2, .int a2), (3, .int (-1)), (4, .int v27_4)] → W p l e ({ frames := 1, cells := 0, slots := 0, locals := 12 }) s m (List.toArray [.ref (ad 158), .int a1, .int a2, .int (-1)]) below meth c H locs 0 0 (MQ below (va_Qv (P_X10_layRoads_32 ad cy B qr s1 a1 a2 w0) (fun u : va_W => wpost dC dI cy A u) A) (List.toArray [.ref (ad 158), .int a1, .int a2, .int (-1)]) s 0 0 A) (F0 m 27 ls []) := by
    intro n27
    induction n27 with
    | zero => intro v27_4 H locs ls w1 r2 t3 r4 t5 r6 t7 hm27 hw hT hF hl; omega
    | succ n27 ih27 =>
      intro v27_4 H locs ls w1 r2 t3 r4 t5 r6 t7 hm27 hw hT hF hl
      have J144 : ∀ (v144_5 : Int32) (v144_6 : Int32) (v144_7 : Int32) (f144_158_4 : Int32) (H : Heap) (locs : List Loc) (ls : Array Slot) (w8 : va_W), 0 ≤ a1.toInt → a1.toInt ≤ 1 → 0 ≤ a2.toInt → a2.toInt ≤ 127 → 0 ≤ v27_4.toInt → v27_4.toInt ≤ 11 → 0 ≤ v144_5.toInt → v144_5.toInt ≤ 9 → 0 ≤ v144_6.toInt → v144_6.toInt ≤ 9 → 0 ≤ v144_7.toInt → v144_7.toInt ≤ 1 → 1 ≤ f144_158_4.toInt → f144_158_4.toInt ≤ 12 → Wd dC dI A s.heap H locs w8 → TW ksC ad cy B qr s1 w8 → FE ksC [(51, 0, 10)] w0 w8 → gi w8 158 4 = f144_158_4 → lv_has ls 8 [(0, .ref (ad 158)), (1, .int a1), (2, .int a2), (3, .int (-1)), (4, .int v27_4), (5, .int v144_5), (6, .int v144_6), (7, .int v144_7)] → W p l e ({ frames := 1, cells := 0, slots := 0, locals := 12 }) s m (List.toArray [.ref (ad 158), .int a1, .int a2, .int (-1)]) below meth c H locs 0 0 (MQ below (va_Qv (P_X10_layRoads_32 ad cy B qr s1 a1 a2 w0) (fun u : va_W => wpost dC dI cy A u) A) (List.toArray [.ref (ad 158), .int a1, .int a2, .int (-1)]) s 0 0 A) (F0 m 144 ls []) := by
        intro v144_5 v144_6 v144_7 f144_158_4 H locs ls w8 r9 t10 r11 t12 r13 t14 r15 t16 r17 t18 r19 t20 r21 t22 hw hT hF c23 hl
        obtain ⟨x24, ex24⟩ : ∃ y : Int32, y = v27_4 + Int32.ofInt 1 := ⟨_, rfl⟩
        refine lv_iinc (v := x24) (lv' := [(4, .int x24), (0, .ref (ad 158)), (1, .int a1), (2, .int a2), (3, .int (-1)), (5, .int v144_5), (6, .int v144_6), (7, .int v144_7)]) hx hb dX10_layRoads_144 hl (k := 4) rfl ex24.symm (by decide) rfl (fun ls hl => ?_)
        have ex24 : x24.toInt = v27_4.toInt + 1 := by rw [ex24]; exact wk_add (y := 1) (show -2147483648 ≤ v27_4.toInt + 1 by omega) (show v27_4.toInt + 1 ≤ 2147483647 by omega)
        refine lv_goto (tgt := 27) hx hb dX10_layRoads_147 (by decide) ?_
        exact ih27 x24 H locs ls w8 (show 0 ≤ a1.toInt by omega) (show a1.toInt ≤ 1 by omega) (show 0 ≤ a2.toInt by omega) (show a2.toInt ≤ 127 by omega) (show 0 ≤ x24.toInt by omega) (show x24.toInt ≤ 12 by omega) (show (12 - x24.toInt).toNat < n27 by omega) hw hT hF  (lv_sub hl [1, 2, 3, 4, 0] rfl)
      have J130 : ∀ (v130_5 : Int32) (v130_6 : Int32) (v130_7 : Int32) (f130_158_4 : Int32) (H : Heap) (locs : List Loc) (ls : Array Slot) (w25 : va_W), 0 ≤ a1.toInt → a1.toInt ≤ 1 → 0 ≤ a2.toInt → a2.toInt ≤ 127 → 0 ≤ v27_4.toInt → v27_4.toInt ≤ 11 → 0 ≤ v130_5.toInt → v130_5.toInt ≤ 9 → 0 ≤ v130_6.toInt → v130_6.toInt ≤ 9 → 0 ≤ v130_7.toInt → v130_7.toInt ≤ 1 → 1 ≤ f130_158_4.toInt → f130_158_4.toInt ≤ 12 → Wd dC dI A s.heap H locs w25 → TW ksC ad cy B qr s1 w25 → FE ksC [(51, 0, 10)] w0 w25 → gi w25 158 4 = f130_158_4 → lv_has ls 8 [(0, .ref (ad 158)), (1, .int a1), (2, .int a2), (3, .int (-1)), (4, .int v27_4), (5, .int v130_5), (6, .int v130_6), (7, .int v130_7)] → W p l e ({ frames := 1, cells := 0, slots := 0, locals := 12 }) s m (List.toArray [.ref (ad 158), .int a1, .int a2, .int (-1)]) below meth c H locs 0 0 (MQ below (va_Qv (P_X10_layRoads_32 ad cy B qr s1 a1 a2 w0) (fun u : va_W => wpost dC dI cy A u) A) (List.toArray [.ref (ad 158), .int a1, .int a2, .int (-1)]) s 0 0 A) (F0 m 130 ls []) := by
        intro v130_5 v130_6 v130_7 f130_158_4 H locs ls w25 r26 t27 r28 t29 r30 t31 r32 t33 r34 t35 r36 t37 r38 t39 hw hT hF c40 hl
        refine lv_aload_n hx hb dX10_layRoads_130 rfl (lv_at hl 0 rfl) ?_
        refine tk_getA hC hK hw hT hinX10 kC_at158 (by decide) rfl 3 (by decide) (List.mem_of_getElem? (i := 1) rfl) rfl rfl dX10_layRoads_131 ?_
        refine lv_iload hx hb dX10_layRoads_134 (lv_at hl 6 rfl) ?_
        refine lv_dup2_11 hx hb dX10_layRoads_136 rfl rfl ?_
        refine tk_iald hC hK hw hT kC_at160 rfl rfl (show 0 ≤ v130_6.toInt by omega) (show v130_6.toInt < 10 by omega) dX10_layRoads_137 (fun x41 c42 rx41 tx41 => ?_)
        refine lv_iconst (v := 1) hx hb dX10_layRoads_138 (by decide) ?_
        refine lv_iload hx hb dX10_layRoads_139 (lv_at hl 5 rfl) ?_
        refine lv_ishl hx hb dX10_layRoads_141 ?_
        refine lv_topi (fun x43 ex43 => ?_)
        have bx43 : 1 ≤ x43.toInt ∧ x43.toInt ≤ 512 := by rw [ex43]; exact wk_shl1 9 (by decide) (by omega) (by omega)
        refine lv_ior hx hb dX10_layRoads_142 ?_
        refine lv_topi (fun x44 ex44 => ?_)
        have bx44 : 0 ≤ x44.toInt ∧ x44.toInt < 1024 := by rw [ex44]; exact wk_or 10 (by decide) (by omega) (by omega) (by omega) (by omega)
        refine tk_iast hC hK hw hT kC_at160 (by decide) rfl rfl (show 0 ≤ v130_6.toInt by omega) (show v130_6.toInt < 10 by omega) (show 0 ≤ x44.toInt by omega) (show x44.toInt ≤ 1023 by omega) dX10_layRoads_143 (fun H locs w45 hw hT k47 c46 => ?_)
        have hF := hF.put kC_at160 (inE_of (a := 0) (b := 10) (by decide) (show 0 ≤ v130_6.toInt.toNat by omega) (show v130_6.toInt.toNat ≤ 10 by omega)) k47
        have c48 := k47.gi (Or.inl (tk_ne kC_at158 kC_at160 (by decide))) c40
        exact J144 v130_5 v130_6 v130_7 f130_158_4 H locs ls w45 (show 0 ≤ a1.toInt by omega) (show a1.toInt ≤ 1 by omega) (show 0 ≤ a2.toInt by omega) (show a2.toInt ≤ 127 by omega) (show 0 ≤ v27_4.toInt by omega) (show v27_4.toInt ≤ 11 by omega) (show 0 ≤ v130_5.toInt by omega) (show v130_5.toInt ≤ 9 by omega) (show 0 ≤ v130_6.toInt by omega) (show v130_6.toInt ≤ 9 by omega) (show 0 ≤ v130_7.toInt by omega) (show v130_7.toInt ≤ 1 by omega) (show 1 ≤ f130_158_4.toInt by omega) (show f130_158_4.toInt ≤ 12 by omega)  hw hT hF c48 (lv_sub hl [0, 1, 2, 3, 4, 5, 6, 7] rfl)
      have J118 : ∀ (v118_5 : Int32) (v118_6 : Int32) (v118_7 : Int32) (f118_158_4 : Int32) (H : Heap) (locs : List Loc) (ls : Array Slot) (w49 : va_W), 0 ≤ a1.toInt → a1.toInt ≤ 1 → 0 ≤ a2.toInt → a2.toInt ≤ 127 → 0 ≤ v27_4.toInt → v27_4.toInt ≤ 11 → 0 ≤ v118_5.toInt → v118_5.toInt ≤ 9 → 0 ≤ v118_6.toInt → v118_6.toInt ≤ 9 → 0 ≤ v118_7.toInt → v118_7.toInt ≤ 1 → 1 ≤ f118_158_4.toInt → f118_158_4.toInt ≤ 12 → Wd dC dI A s.heap H locs w49 → TW ksC ad cy B qr s1 w49 → FE ksC [(51, 0, 10)] w0 w49 → gi w49 158 4 = f118_158_4 → lv_has ls 8 [(0, .ref (ad 158)), (1, .int a1), (2, .int a2), (3, .int (-1)), (4, .int v27_4), (5, .int v118_5), (6, .int v118_6), (7, .int v118_7)] → W p l e ({ frames := 1, cells := 0, slots := 0, locals := 12 }) s m (List.toArray [.ref (ad 158), .int a1, .int a2, .int (-1)]) below meth c H locs 0 0 (MQ below (va_Qv (P_X10_layRoads_32 ad cy B qr s1 a1 a2 w0) (fun u : va_W => wpost dC dI cy A u) A) (List.toArray [.ref (ad 158), .int a1, .int a2, .int (-1)]) s 0 0 A) (F0 m 118 ls []) := by
        intro v118_5 v118_6 v118_7 f118_158_4 H locs ls w49 r50 t51 r52 t53 r54 t55 r56 t57 r58 t59 r60 t61 r62 t63 hw hT hF c64 hl
        refine lv_iload hx hb dX10_layRoads_118 (lv_at hl 4 rfl) ?_
        refine lv_iload_n hx hb dX10_layRoads_120 rfl (lv_at hl 1 rfl) ?_
        refine lv_icmp_lt (tgt := 130) hx hb dX10_layRoads_121 (by decide) (fun c65 => ?_) (fun c65 => ?_)
        · have c65 : v27_4.toInt < a1.toInt := wk_lt.mp c65
          exact J130 v118_5 v118_6 v118_7 f118_158_4 H locs ls w49 (show 0 ≤ a1.toInt by omega) (show a1.toInt ≤ 1 by omega) (show 0 ≤ a2.toInt by omega) (show a2.toInt ≤ 127 by omega) (show 0 ≤ v27_4.toInt by omega) (show v27_4.toInt ≤ 11 by omega) (show 0 ≤ v118_5.toInt by omega) (show v118_5.toInt ≤ 9 by omega) (show 0 ≤ v118_6.toInt by omega) (show v118_6.toInt ≤ 9 by omega) (show 0 ≤ v118_7.toInt by omega) (show v118_7.toInt ≤ 1 by omega) (show 1 ≤ f118_158_4.toInt by omega) (show f118_158_4.toInt ≤ 12 by omega)  hw hT hF c64 (lv_sub hl [0, 1, 2, 3, 4, 5, 6, 7] rfl)
        · have c65 : a1.toInt ≤ v27_4.toInt := wk_ltF c65
          refine lv_iload hx hb dX10_layRoads_124 (lv_at hl 7 rfl) ?_
          refine lv_iconst (v := 1) hx hb dX10_layRoads_126 (by decide) ?_
          refine lv_icmp_ne (tgt := 144) hx hb dX10_layRoads_127 (by decide) (fun c66 => ?_) (fun c66 => ?_)
          · have c66 : ¬ v118_7.toInt = (1 : Int) := wk_eqF c66
            exact J144 v118_5 v118_6 v118_7 f118_158_4 H locs ls w49 (show 0 ≤ a1.toInt by omega) (show a1.toInt ≤ 1 by omega) (show 0 ≤ a2.toInt by omega) (show a2.toInt ≤ 127 by omega) (show 0 ≤ v27_4.toInt by omega) (show v27_4.toInt ≤ 11 by omega) (show 0 ≤ v118_5.toInt by omega) (show v118_5.toInt ≤ 9 by omega) (show 0 ≤ v118_6.toInt by omega) (show v118_6.toInt ≤ 9 by omega) (show 0 ≤ v118_7.toInt by omega) (show v118_7.toInt ≤ 1 by omega) (show 1 ≤ f118_158_4.toInt by omega) (show f118_158_4.toInt ≤ 12 by omega)  hw hT hF c64 (lv_sub hl [0, 1, 2, 3, 4, 5, 6, 7] rfl)
          · have c66 : v118_7.toInt = (1 : Int) := wk_eq.mp c66
            exact J130 v118_5 v118_6 v118_7 f118_158_4 H locs ls w49 (show 0 ≤ a1.toInt by omega) (show a1.toInt ≤ 1 by omega) (show 0 ≤ a2.toInt by omega) (show a2.toInt ≤ 127 by omega) (show 0 ≤ v27_4.toInt by omega) (show v27_4.toInt ≤ 11 by omega) (show 0 ≤ v118_5.toInt by omega) (show v118_5.toInt ≤ 9 by omega) (show 0 ≤ v118_6.toInt by omega) (show v118_6.toInt ≤ 9 by omega) (show 0 ≤ v118_7.toInt by omega) (show v118_7.toInt ≤ 1 by omega) (show 1 ≤ f118_158_4.toInt by omega) (show f118_158_4.toInt ≤ 12 by omega)  hw hT hF c64 (lv_sub hl [0, 1, 2, 3, 4, 5, 6, 7] rfl)
      have J104 : ∀ (v104_5 : Int32) (v104_6 : Int32) (v104_7 : Int32) (f104_158_4 : Int32) (H : Heap) (locs : List Loc) (ls : Array Slot) (w67 : va_W), 0 ≤ a1.toInt → a1.toInt ≤ 1 → 0 ≤ a2.toInt → a2.toInt ≤ 127 → 0 ≤ v27_4.toInt → v27_4.toInt ≤ 11 → 0 ≤ v104_5.toInt → v104_5.toInt ≤ 9 → 0 ≤ v104_6.toInt → v104_6.toInt ≤ 9 → 0 ≤ v104_7.toInt → v104_7.toInt ≤ 1 → 1 ≤ f104_158_4.toInt → f104_158_4.toInt ≤ 12 → Wd dC dI A s.heap H locs w67 → TW ksC ad cy B qr s1 w67 → FE ksC [(51, 0, 10)] w0 w67 → gi w67 158 4 = f104_158_4 → lv_has ls 8 [(0, .ref (ad 158)), (1, .int a1), (2, .int a2), (3, .int (-1)), (4, .int v27_4), (5, .int v104_5), (6, .int v104_6), (7, .int v104_7)] → W p l e ({ frames := 1, cells := 0, slots := 0, locals := 12 }) s m (List.toArray [.ref (ad 158), .int a1, .int a2, .int (-1)]) below meth c H locs 0 0 (MQ below (va_Qv (P_X10_layRoads_32 ad cy B qr s1 a1 a2 w0) (fun u : va_W => wpost dC dI cy A u) A) (List.toArray [.ref (ad 158), .int a1, .int a2, .int (-1)]) s 0 0 A) (F0 m 104 ls []) := by
        intro v104_5 v104_6 v104_7 f104_158_4 H locs ls w67 r68 t69 r70 t71 r72 t73 r74 t75 r76 t77 r78 t79 r80 t81 hw hT hF c82 hl
        refine lv_aload_n hx hb dX10_layRoads_104 rfl (lv_at hl 0 rfl) ?_
        refine tk_getA hC hK hw hT hinX10 kC_at158 (by decide) rfl 3 (by decide) (List.mem_of_getElem? (i := 1) rfl) rfl rfl dX10_layRoads_105 ?_
        refine lv_iload hx hb dX10_layRoads_108 (lv_at hl 5 rfl) ?_
        refine lv_dup2_11 hx hb dX10_layRoads_110 rfl rfl ?_
        refine tk_iald hC hK hw hT kC_at160 rfl rfl (show 0 ≤ v104_5.toInt by omega) (show v104_5.toInt < 10 by omega) dX10_layRoads_111 (fun x83 c84 rx83 tx83 => ?_)
        refine lv_iconst (v := 1) hx hb dX10_layRoads_112 (by decide) ?_
        refine lv_iload hx hb dX10_layRoads_113 (lv_at hl 6 rfl) ?_
        refine lv_ishl hx hb dX10_layRoads_115 ?_
        refine lv_topi (fun x85 ex85 => ?_)
        have bx85 : 1 ≤ x85.toInt ∧ x85.toInt ≤ 512 := by rw [ex85]; exact wk_shl1 9 (by decide) (by omega) (by omega)
        refine lv_ior hx hb dX10_layRoads_116 ?_
        refine lv_topi (fun x86 ex86 => ?_)
        have bx86 : 0 ≤ x86.toInt ∧ x86.toInt < 1024 := by rw [ex86]; exact wk_or 10 (by decide) (by omega) (by omega) (by omega) (by omega)
        refine tk_iast hC hK hw hT kC_at160 (by decide) rfl rfl (show 0 ≤ v104_5.toInt by omega) (show v104_5.toInt < 10 by omega) (show 0 ≤ x86.toInt by omega) (show x86.toInt ≤ 1023 by omega) dX10_layRoads_117 (fun H locs w87 hw hT k89 c88 => ?_)
        have hF := hF.put kC_at160 (inE_of (a := 0) (b := 10) (by decide) (show 0 ≤ v104_5.toInt.toNat by omega) (show v104_5.toInt.toNat ≤ 10 by omega)) k89
        have c90 := k89.gi (Or.inl (tk_ne kC_at158 kC_at160 (by decide))) c82
        exact J118 v104_5 v104_6 v104_7 f104_158_4 H locs ls w87 (show 0 ≤ a1.toInt by omega) (show a1.toInt ≤ 1 by omega) (show 0 ≤ a2.toInt by omega) (show a2.toInt ≤ 127 by omega) (show 0 ≤ v27_4.toInt by omega) (show v27_4.toInt ≤ 11 by omega) (show 0 ≤ v104_5.toInt by omega) (show v104_5.toInt ≤ 9 by omega) (show 0 ≤ v104_6.toInt by omega) (show v104_6.toInt ≤ 9 by omega) (show 0 ≤ v104_7.toInt by omega) (show v104_7.toInt ≤ 1 by omega) (show 1 ≤ f104_158_4.toInt by omega) (show f104_158_4.toInt ≤ 12 by omega)  hw hT hF c90 (lv_sub hl [0, 1, 2, 3, 4, 5, 6, 7] rfl)
      refine lv_iload hx hb dX10_layRoads_27 (lv_at hl 4 rfl) ?_
      refine lv_aload_n hx hb dX10_layRoads_29 rfl (lv_at hl 0 rfl) ?_
      refine tk_geti hC hK hw hT hinX10 kC_at158 (by decide) rfl 4 (by decide) (List.mem_of_getElem? (i := 2) rfl) rfl rfl dX10_layRoads_30 (fun x91 c92 rx91 tx91 => ?_)
      refine lv_icmp_ge (tgt := 150) hx hb dX10_layRoads_33 (by decide) (fun c93 => ?_) (fun c93 => ?_)
      · have c93 : x91.toInt ≤ v27_4.toInt := wk_le.mp c93
        exact tk_vret hC hr hlocks hK ⟨hT, hF, trivial⟩ hw dX10_layRoads_150
      · have c93 : v27_4.toInt < x91.toInt := wk_leF c93
        refine lv_iload hx hb dX10_layRoads_36 (lv_at hl 4 rfl) ?_
        refine lv_iload_n hx hb dX10_layRoads_38 rfl (lv_at hl 3 rfl) ?_
        refine lv_icmp_ne (tgt := 45) hx hb dX10_layRoads_39 (by decide) (fun _ => ?_) (fun c => absurd (show v27_4.toInt = (-1 : Int) from wk_eq.mp c) (by omega))
        refine lv_aload_n hx hb dX10_layRoads_45 rfl (lv_at hl 0 rfl) ?_
        refine tk_getA hC hK hw hT hinX10 kC_at158 (by decide) rfl 1 (by decide) (List.mem_of_getElem? (i := 3) rfl) rfl rfl dX10_layRoads_46 ?_
        refine tk_getO hC hK hw hT hinX7 kC_at39 (by decide) rfl 0 (by decide) (List.mem_of_getElem? (i := 4) rfl) rfl rfl dX10_layRoads_49 ?_
        refine lv_iconst (v := 2) hx hb dX10_layRoads_52 (by decide) ?_
        refine lv_aload_n hx hb dX10_layRoads_53 rfl (lv_at hl 0 rfl) ?_
        refine tk_getA hC hK hw hT hinX10 kC_at158 (by decide) rfl 2 (by decide) (List.mem_of_getElem? (i := 5) rfl) rfl rfl dX10_layRoads_54 ?_
        refine lv_iload hx hb dX10_layRoads_57 (lv_at hl 4 rfl) ?_
        refine tk_iald hC hK hw hT kC_at159 rfl rfl (show 0 ≤ v27_4.toInt by omega) (show v27_4.toInt < 12 by omega) dX10_layRoads_59 (fun x94 c95 rx94 tx94 => ?_)
        refine lv_imul hx hb dX10_layRoads_60 ?_
        refine lv_topi (fun x96 ex96 => ?_)
        have ex96 : x96.toInt = (2 : Int) * x94.toInt := by rw [ex96]; exact wk_mul (show (-2147483648) ≤ (2 : Int) * x94.toInt by omega) (show (2 : Int) * x94.toInt ≤ 2147483647 by omega)
        refine tk_iald hC hK hw hT kC_at40 rfl rfl (show 0 ≤ x96.toInt by omega) (show x96.toInt < 26 by omega) dX10_layRoads_61 (fun x97 c98 rx97 tx97 => ?_)
        refine lv_istore (lv' := [(5, .int x97), (0, .ref (ad 158)), (1, .int a1), (2, .int a2), (3, .int (-1)), (4, .int v27_4)]) hx hb dX10_layRoads_62 hl (by decide) rfl (fun ls hl => ?_)
        refine lv_aload_n hx hb dX10_layRoads_64 rfl (lv_at hl 1 rfl) ?_
        refine tk_getA hC hK hw hT hinX10 kC_at158 (by decide) rfl 1 (by decide) (List.mem_of_getElem? (i := 3) rfl) rfl rfl dX10_layRoads_65 ?_
        refine tk_getO hC hK hw hT hinX7 kC_at39 (by decide) rfl 0 (by decide) (List.mem_of_getElem? (i := 4) rfl) rfl rfl dX10_layRoads_68 ?_
        refine lv_iconst (v := 2) hx hb dX10_layRoads_71 (by decide) ?_
        refine lv_aload_n hx hb dX10_layRoads_72 rfl (lv_at hl 1 rfl) ?_
        refine tk_getA hC hK hw hT hinX10 kC_at158 (by decide) rfl 2 (by decide) (List.mem_of_getElem? (i := 5) rfl) rfl rfl dX10_layRoads_73 ?_
        refine lv_iload hx hb dX10_layRoads_76 (lv_at hl 5 rfl) ?_
        refine tk_iald hC hK hw hT kC_at159 rfl rfl (show 0 ≤ v27_4.toInt by omega) (show v27_4.toInt < 12 by omega) dX10_layRoads_78 (fun x99 c100 rx99 tx99 => ?_)
        refine lv_imul hx hb dX10_layRoads_79 ?_
        refine lv_topi (fun x101 ex101 => ?_)
        have ex101 : x101.toInt = (2 : Int) * x99.toInt := by rw [ex101]; exact wk_mul (show (-2147483648) ≤ (2 : Int) * x99.toInt by omega) (show (2 : Int) * x99.toInt ≤ 2147483647 by omega)
        refine lv_iconst (v := 1) hx hb dX10_layRoads_80 (by decide) ?_
        refine lv_iadd hx hb dX10_layRoads_81 ?_
        refine lv_topi (fun x102 ex102 => ?_)
        have ex102 : x102.toInt = x101.toInt + (1 : Int) := by rw [ex102]; exact wk_add (show (-2147483648) ≤ x101.toInt + (1 : Int) by omega) (show x101.toInt + (1 : Int) ≤ 2147483647 by omega)
        refine tk_iald hC hK hw hT kC_at40 rfl rfl (show 0 ≤ x102.toInt by omega) (show x102.toInt < 26 by omega) dX10_layRoads_82 (fun x103 c104 rx103 tx103 => ?_)
        refine lv_istore (lv' := [(6, .int x103), (5, .int x97), (0, .ref (ad 158)), (1, .int a1), (2, .int a2), (3, .int (-1)), (4, .int v27_4)]) hx hb dX10_layRoads_83 hl (by decide) rfl (fun ls hl => ?_)
        refine lv_iload_n hx hb dX10_layRoads_85 rfl (lv_at hl 4 rfl) ?_
        refine lv_iload hx hb dX10_layRoads_86 (lv_at hl 6 rfl) ?_
        refine lv_ishr hx hb dX10_layRoads_88 ?_
        refine lv_topi (fun x105 ex105 => ?_)
        have bx105 : 0 ≤ x105.toInt ∧ x105.toInt ≤ a2.toInt := by rw [ex105]; exact wk_shr (by omega)
        refine lv_iconst (v := 1) hx hb dX10_layRoads_89 (by decide) ?_
        refine lv_iand hx hb dX10_layRoads_90 ?_
        refine lv_topi (fun x106 ex106 => ?_)
        have bx106 : 0 ≤ x106.toInt ∧ x106.toInt ≤ (1 : Int) := by rw [ex106]; exact wk_and (by decide)
        refine lv_istore (lv' := [(7, .int x106), (6, .int x103), (5, .int x97), (0, .ref (ad 158)), (1, .int a1), (2, .int a2), (3, .int (-1)), (4, .int v27_4)]) hx hb dX10_layRoads_91 hl (by decide) rfl (fun ls hl => ?_)
        refine lv_iload hx hb dX10_layRoads_93 (lv_at hl 7 rfl) ?_
        refine lv_iload_n hx hb dX10_layRoads_95 rfl (lv_at hl 4 rfl) ?_
        refine lv_icmp_lt (tgt := 104) hx hb dX10_layRoads_96 (by decide) (fun c107 => ?_) (fun c107 => ?_)
        · have c107 : v27_4.toInt < a1.toInt := wk_lt.mp c107
          exact J104 x97 x103 x106 x91 H locs ls w1 (show 0 ≤ a1.toInt by omega) (show a1.toInt ≤ 1 by omega) (show 0 ≤ a2.toInt by omega) (show a2.toInt ≤ 127 by omega) (show 0 ≤ v27_4.toInt by omega) (show v27_4.toInt ≤ 11 by omega) (show 0 ≤ x97.toInt by omega) (show x97.toInt ≤ 9 by omega) (show 0 ≤ x103.toInt by omega) (show x103.toInt ≤ 9 by omega) (show 0 ≤ x106.toInt by omega) (show x106.toInt ≤ 1 by omega) (show 1 ≤ x91.toInt by omega) (show x91.toInt ≤ 12 by omega)  hw hT hF c92 (lv_sub hl [3, 4, 5, 6, 7, 2, 1, 0] rfl)
        · have c107 : a1.toInt ≤ v27_4.toInt := wk_ltF c107
          refine lv_iload hx hb dX10_layRoads_99 (lv_at hl 0 rfl) ?_
          refine lv_if_ne (tgt := 118) hx hb dX10_layRoads_101 (by decide) (fun c108 => ?_) (fun c108 => ?_)
          · have c108 : ¬ x106.toInt = (0 : Int) := wk_eqF c108
            exact J118 x97 x103 x106 x91 H locs ls w1 (show 0 ≤ a1.toInt by omega) (show a1.toInt ≤ 1 by omega) (show 0 ≤ a2.toInt by omega) (show a2.toInt ≤ 127 by omega) (show 0 ≤ v27_4.toInt by omega) (show v27_4.toInt ≤ 11 by omega) (show 0 ≤ x97.toInt by omega) (show x97.toInt ≤ 9 by omega) (show 0 ≤ x103.toInt by omega) (show x103.toInt ≤ 9 by omega) (show 0 ≤ x106.toInt by omega) (show x106.toInt ≤ 1 by omega) (show 1 ≤ x91.toInt by omega) (show x91.toInt ≤ 12 by omega)  hw hT hF c92 (lv_sub hl [3, 4, 5, 6, 7, 2, 1, 0] rfl)
          · have c108 : x106.toInt = (0 : Int) := wk_eq.mp c108
            exact J104 x97 x103 x106 x91 H locs ls w1 (show 0 ≤ a1.toInt by omega) (show a1.toInt ≤ 1 by omega) (show 0 ≤ a2.toInt by omega) (show a2.toInt ≤ 127 by omega) (show 0 ≤ v27_4.toInt by omega) (show v27_4.toInt ≤ 11 by omega) (show 0 ≤ x97.toInt by omega) (show x97.toInt ≤ 9 by omega) (show 0 ≤ x103.toInt by omega) (show x103.toInt ≤ 9 by omega) (show 0 ≤ x106.toInt by omega) (show x106.toInt ≤ 1 by omega) (show 1 ≤ x91.toInt by omega) (show x91.toInt ≤ 12 by omega)  hw hT hF c92 (lv_sub hl [3, 4, 5, 6, 7, 2, 1, 0] rfl)
  have L3 : ∀ (n3 : Nat) (v3_4 : Int32) (H : Heap) (locs : List Loc) (ls : Array Slot) (w109 : va_W), 0 ≤ a1.toInt → a1.toInt ≤ 1 → 0 ≤ a2.toInt → a2.toInt ≤ 127 → 0 ≤ v3_4.toInt → v3_4.toInt ≤ 10 → (10 - v3_4.toInt).toNat < n3 → Wd dC dI A s.heap H locs w109 → TW ksC ad cy B qr s1 w109 → FE ksC [(51, 0, 10)] w0 w109 → lv_has ls 8 [(0, .ref (ad 158)), (1, .int a1), (2, .int a2), (3, .int (-1)), (4, .int v3_4)] → W p l e ({ frames := 1, cells := 0, slots := 0, locals := 12 }) s m (List.toArray [.ref (ad 158), .int a1, .int a2, .int (-1)]) below meth c H locs 0 0 (MQ below (va_Qv (P_X10_layRoads_32 ad cy B qr s1 a1 a2 w0) (fun u : va_W => wpost dC dI cy A u) A) (List.toArray [.ref (ad 158), .int a1, .int a2, .int (-1)]) s 0 0 A) (F0 m 3 ls []) := by
    intro n3
    induction n3 with
    | zero => intro v3_4 H locs ls w109 r110 t111 r112 t113 r114 t115 hm3 hw hT hF hl; omega
    | succ n3 ih3 =>
      intro v3_4 H locs ls w109 r110 t111 r112 t113 r114 t115 hm3 hw hT hF hl
      refine lv_iload hx hb dX10_layRoads_3 (lv_at hl 4 rfl) ?_
      refine lv_bipush (v := 10) hx hb dX10_layRoads_5 (by decide) ?_
      refine lv_icmp_ge (tgt := 24) hx hb dX10_layRoads_7 (by decide) (fun c116 => ?_) (fun c116 => ?_)
      · have c116 : (10 : Int) ≤ v3_4.toInt := wk_le.mp c116
        refine lv_iconst (v := 0) hx hb dX10_layRoads_24 (by decide) ?_
        refine lv_istore (lv' := [(4, .int 0), (0, .ref (ad 158)), (1, .int a1), (2, .int a2), (3, .int (-1))]) hx hb dX10_layRoads_25 hl (by decide) rfl (fun ls hl => ?_)
        exact L27 ((12 - (0 : Int)).toNat + 1) 0 H locs ls w109 (show 0 ≤ a1.toInt by omega) (show a1.toInt ≤ 1 by omega) (show 0 ≤ a2.toInt by omega) (show a2.toInt ≤ 127 by omega) (by decide) (by decide) (Nat.lt_succ_self _) hw hT hF  (lv_sub hl [1, 2, 3, 4, 0] rfl)
      · have c116 : v3_4.toInt < (10 : Int) := wk_leF c116
        refine lv_aload_n hx hb dX10_layRoads_10 rfl (lv_at hl 0 rfl) ?_
        refine tk_getA hC hK hw hT hinX10 kC_at158 (by decide) rfl 3 (by decide) (List.mem_of_getElem? (i := 1) rfl) rfl rfl dX10_layRoads_11 ?_
        refine lv_iload hx hb dX10_layRoads_14 (lv_at hl 4 rfl) ?_
        refine lv_iconst (v := 0) hx hb dX10_layRoads_16 (by decide) ?_
        refine tk_iast hC hK hw hT kC_at160 (by decide) rfl rfl (show 0 ≤ v3_4.toInt by omega) (show v3_4.toInt < 10 by omega) (by decide) (by decide) dX10_layRoads_17 (fun H locs w117 hw hT k119 c118 => ?_)
        have hF := hF.put kC_at160 (inE_of (a := 0) (b := 10) (by decide) (show 0 ≤ v3_4.toInt.toNat by omega) (show v3_4.toInt.toNat ≤ 10 by omega)) k119
        obtain ⟨x120, ex120⟩ : ∃ y : Int32, y = v3_4 + Int32.ofInt 1 := ⟨_, rfl⟩
        refine lv_iinc (v := x120) (lv' := [(4, .int x120), (0, .ref (ad 158)), (1, .int a1), (2, .int a2), (3, .int (-1))]) hx hb dX10_layRoads_18 hl (k := 4) rfl ex120.symm (by decide) rfl (fun ls hl => ?_)
        have ex120 : x120.toInt = v3_4.toInt + 1 := by rw [ex120]; exact wk_add (y := 1) (show -2147483648 ≤ v3_4.toInt + 1 by omega) (show v3_4.toInt + 1 ≤ 2147483647 by omega)
        refine lv_goto (tgt := 3) hx hb dX10_layRoads_21 (by decide) ?_
        exact ih3 x120 H locs ls w117 (show 0 ≤ a1.toInt by omega) (show a1.toInt ≤ 1 by omega) (show 0 ≤ a2.toInt by omega) (show a2.toInt ≤ 127 by omega) (show 0 ≤ x120.toInt by omega) (show x120.toInt ≤ 10 by omega) (show (10 - x120.toInt).toNat < n3 by omega) hw hT hF  (lv_sub hl [1, 2, 3, 4, 0] rfl)
  refine lv_iconst (v := 0) hx hb dX10_layRoads_0 (by decide) ?_
  refine lv_istore (lv' := [(4, .int 0), (0, .ref (ad 158)), (1, .int a1), (2, .int a2), (3, .int (-1))]) hx hb dX10_layRoads_1 hl (by decide) rfl (fun ls hl => ?_)
  exact L3 ((10 - (0 : Int)).toNat + 1) 0 s.heap locs ls w0 (show 0 ≤ a1.toInt by omega) (show a1.toInt ≤ 1 by omega) (show 0 ≤ a2.toInt by omega) (show a2.toInt ≤ 127 by omega) (by decide) (by decide) (Nat.lt_succ_self _) hw hT hF  (lv_sub hl [1, 2, 3, 4, 0] rfl)
abbrev P_X10_leastBelow_40 (ad : Nat → Nat) (cy : Nat → ClassId) (B : Int) (qr : Nat) (s1 : Int) (a1 : Int32) (a2 : Int32) (w0 : va_W) : Int32 → va_W → Prop := fun r u => TW ksC ad cy B qr s1 u ∧ FE ksC [(51, 0, 10)] w0 u ∧ ((0 ≤ r.toInt ∧ r.toInt ≤ 127) ∨ (r = (-1) ∧ (∃ y : Int32, gi u 38 10 = y ∧ 1 ≤ y.toInt ∧ y.toInt ≤ 6)))
set_option maxHeartbeats 4000000 in
set_option maxRecDepth 100000 in
theorem k_X10_leastBelow_40 (l : Launch) (adK adV : Nat → Nat) (dC : Nat → ClassId) (dI : Nat → Nat → Nat) (cy : Nat → ClassId) (ad : Nat → Nat) (B : Int) (hB0 : 2147483648 ≤ B) (hB1 : B ≤ 1152921504606846976) (qr : Nat) (s1 : Int)  (a1 : Int32) (ra1 : 0 ≤ a1.toInt) (ta1 : a1.toInt ≤ 1) (a2 : Int32) (ra2 : 0 ≤ a2.toInt) (ta2 : a2.toInt ≤ 127) (w0 : va_W) (sz : Nat) (hT : TW ksC ad cy B qr s1 w0)  : Met l yX10_leastBelow wsX10_leastBelow ({ frames := 4, cells := 0, slots := 0, locals := 82 }) (va_Pc [.ref (ad 158), .int a1, .int a2] (wpreS adK adV dC dI cy sz w0)) (va_Qi (P_X10_leastBelow_40 ad cy B qr s1 a1 a2 w0) (fun u : va_W => wpost dC dI cy (va_A w0 sz) u) (va_A w0 sz)) 0 0 (va_A w0 sz) := by
  refine Met.ofW (cc := cX10_leastBelow) (maxL := 4) (ret := (some .int)) (by decide) rfl ?_
  intro p e s m args below meth c s₁ Bk hml hv
  obtain ⟨rfl, ⟨hsz, hP, hK, hD0⟩, hE, hSR⟩ := hv
  have hx := Bk.exec
  have hb := Bk.bytes
  have hr := Bk.returns
  have hlocks := Bk.notSynchronized
  have hC : CallFix p m c cX10_leastBelow 4 s _ wsX10_leastBelow RX10 := ⟨hx, hb, hml, findClass_of_methodNamed Bk.named, atoms_spec (ws := wsX10_leastBelow) Bk.pre⟩
  subst hsz
  have hD := hD0.self (sz := s.heap.size)
  generalize hAe : va_A w0 s.heap.size = A at hD hE ⊢
  have hA : ∀ q : Nat, s.heap.size ≤ q → A q := fun q h => by rw [← hAe]; exact Or.inr h
  have hw : Wd dC dI A s.heap s.heap [] w0 := ⟨hP, hD, va_S.rf⟩
  have hF : FE ksC [(51, 0, 10)] w0 w0 := FE.rf
  have hl := lv_entry ([.ref (ad 158), .int a1, .int a2]) (n := 4) (Nat.le_of_ble_eq_true rfl)
  rw [lg_entry_eq]
  generalize (lg_sl ([.ref (ad 158), .int a1, .int a2]) ++ List.replicate (4 - (lg_sl ([.ref (ad 158), .int a1, .int a2])).length) Slot.unset).toArray = ls at hl ⊢
  have hl : lv_has ls 4 [(0, .ref (ad 158)), (1, .int a1), (2, .int a2)] := hl
  generalize hloc : ([] : List Loc) = locs at hw ⊢
  have hinX10 : ∀ w ∈ u_ws RX10 TX10 5, w ∈ wsX10_leastBelow := fun _ h => List.mem_cons_of_mem _ (List.mem_append_left _ (List.mem_append_left _ (List.mem_append_right _ (h))))
  have hinX5 : ∀ w ∈ u_ws RX5 TX5 14, w ∈ wsX10_leastBelow := fun _ h => List.mem_cons_of_mem _ (List.mem_append_left _ (List.mem_append_right _ (h)))
  have L9 : ∀ (n9 : Nat) (v9_3 : Int32) (H : Heap) (locs : List Loc) (ls : Array Slot) (w1 : va_W), 0 ≤ a1.toInt → a1.toInt ≤ 1 → 0 ≤ a2.toInt → a2.toInt ≤ 127 → 0 ≤ v9_3.toInt → v9_3.toInt ≤ 6 → (6 - v9_3.toInt).toNat < n9 → Wd dC dI A s.heap H locs w1 → TW ksC ad cy B qr s1 w1 → FE ksC [(51, 0, 10)] w0 w1 → lv_has ls 4 [(0, .ref (ad 158)), (1, .int a1), (2, .int a2), (3, .int v9_3)] → W p l e ({ frames := 4, cells := 0, slots := 0, locals := 82 }) s m (List.toArray [.ref (ad 158), .int a1, .int a2]) below meth c H locs 0 0 (MQ below (va_Qi (P_X10_leastBelow_40 ad cy B qr s1 a1 a2 w0) (fun u : va_W => wpost dC dI cy A u) A) (List.toArray [.ref (ad 158), .int a1, .int a2]) s 0 0 A) (F0 m 9 ls []) := by
    intro n9
    induction n9 with
    | zero => intro v9_3 H locs ls w1 r2 t3 r4 t5 r6 t7 hm9 hw hT hF hl; omega
    | succ n9 ih9 =>
      intro v9_3 H locs ls w1 r2 t3 r4 t5 r6 t7 hm9 hw hT hF hl
      refine lv_iload_n hx hb dX10_leastBelow_9 rfl (lv_at hl 3 rfl) ?_
      refine lv_aload_n hx hb dX10_leastBelow_10 rfl (lv_at hl 0 rfl) ?_
      refine tk_getA hC hK hw hT hinX10 kC_at158 (by decide) rfl 0 (by decide) (List.mem_of_getElem? (i := 1) rfl) rfl rfl dX10_leastBelow_11 ?_
      refine tk_geti hC hK hw hT hinX5 kC_at38 (by decide) rfl 10 (by decide) (List.mem_of_getElem? (i := 2) rfl) rfl rfl dX10_leastBelow_14 (fun x8 c9 rx8 tx8 => ?_)
      refine lv_icmp_ge (tgt := 36) hx hb dX10_leastBelow_17 (by decide) (fun c10 => ?_) (fun c10 => ?_)
      · have c10 : x8.toInt ≤ v9_3.toInt := wk_le.mp c10
        refine lv_iload_n hx hb dX10_leastBelow_36 rfl (lv_at hl 1 rfl) ?_
        refine lv_if_gt (tgt := 42) hx hb dX10_leastBelow_37 (by decide) (fun c11 => ?_) (fun c11 => ?_)
        · have c11 : (0 : Int) < a1.toInt := wk_lt.mp c11
          refine lv_aload_n hx hb dX10_leastBelow_42 rfl (lv_at hl 0 rfl) ?_
          refine lv_iload_n hx hb dX10_leastBelow_43 rfl (lv_at hl 1 rfl) ?_
          refine lv_iconst (v := 1) hx hb dX10_leastBelow_44 (by decide) ?_
          refine lv_isub hx hb dX10_leastBelow_45 ?_
          refine lv_topi (fun x12 ex12 => ?_)
          have ex12 : x12.toInt = a1.toInt - (1 : Int) := by rw [ex12]; exact wk_sub (show (-2147483648) ≤ a1.toInt - (1 : Int) by omega) (show a1.toInt - (1 : Int) ≤ 2147483647 by omega)
          refine lv_iload_n hx hb dX10_leastBelow_46 rfl (lv_at hl 2 rfl) ?_
          refine tk_Vi hC hK hw hT hA hE hSR kC_at158 (by decide) rfl (k_X10_leastBelow_41 l adK adV dC dI cy ad B (by omega) (by omega) qr s1   a2 (show 0 ≤ a2.toInt by omega) (show a2.toInt ≤ 127 by omega) w1 H.size hT ) (cwV 2 hC.2.2.2.2 gX10_leastBelow_X10_leastBelow rfl rfl rfl (by decide +kernel) ⟨Nat.le_of_ble_eq_true rfl, Nat.le_of_ble_eq_true rfl⟩) rfl hl.1 rfl (Nat.le_of_ble_eq_true rfl) dX10_leastBelow_47 (fun r13 w15 H locs hp14 hw => ?_)
          obtain ⟨hT, k16, hg21⟩ := hp14
          have hF := hF.tr k16 (by decide)
          have c22 := k16.gi kC_at38 (by decide) c9
          rcases hg21 with ⟨g17, g18⟩ | ⟨rfl, ⟨x19, c20, rx19, tx19⟩⟩
          · refine lv_istore_n (lv' := [(3, .int r13), (0, .ref (ad 158)), (1, .int a1), (2, .int a2)]) hx hb dX10_leastBelow_50 rfl hl (by decide) rfl (fun ls hl => ?_)
            refine lv_iload_n hx hb dX10_leastBelow_51 rfl (lv_at hl 0 rfl) ?_
            refine lv_iconst (v := (-1)) hx hb dX10_leastBelow_52 (by decide) ?_
            refine lv_icmp_eq (tgt := 60) hx hb dX10_leastBelow_53 (by decide) (fun c => absurd c (fun h => absurd (show r13.toInt = (-1 : Int) from wk_eq.mp h) (by omega))) (fun _ => ?_)
            refine lv_iload_n hx hb dX10_leastBelow_56 rfl (lv_at hl 0 rfl) ?_
            refine lv_goto (tgt := 74) hx hb dX10_leastBelow_57 (by decide) ?_
            exact tk_iret hC hr hlocks hK ⟨hT, hF, (Or.inl ⟨(show 0 ≤ r13.toInt by omega), (show r13.toInt ≤ 127 by omega)⟩)⟩ hw dX10_leastBelow_74
          · have ex19 : x19.toInt = x8.toInt := by rw [← c22.symm.trans c20]
            refine lv_istore_n (lv' := [(3, .int (-1)), (0, .ref (ad 158)), (1, .int a1), (2, .int a2)]) hx hb dX10_leastBelow_50 rfl hl (by decide) rfl (fun ls hl => ?_)
            refine lv_iload_n hx hb dX10_leastBelow_51 rfl (lv_at hl 0 rfl) ?_
            refine lv_iconst (v := (-1)) hx hb dX10_leastBelow_52 (by decide) ?_
            refine lv_icmp_eq (tgt := 60) hx hb dX10_leastBelow_53 (by decide) (fun _ => ?_) (fun c => absurd (by decide) c)
            refine lv_aload_n hx hb dX10_leastBelow_60 rfl (lv_at hl 1 rfl) ?_
            refine lv_iload_n hx hb dX10_leastBelow_61 rfl (lv_at hl 2 rfl) ?_
            refine lv_iconst (v := 1) hx hb dX10_leastBelow_62 (by decide) ?_
            refine lv_isub hx hb dX10_leastBelow_63 ?_
            refine lv_topi (fun x23 ex23 => ?_)
            have ex23 : x23.toInt = a1.toInt - (1 : Int) := by rw [ex23]; exact wk_sub (show (-2147483648) ≤ a1.toInt - (1 : Int) by omega) (show a1.toInt - (1 : Int) ≤ 2147483647 by omega)
            refine lv_iload_n hx hb dX10_leastBelow_64 rfl (lv_at hl 3 rfl) ?_
            refine lv_iconst (v := 1) hx hb dX10_leastBelow_65 (by decide) ?_
            refine lv_iload_n hx hb dX10_leastBelow_66 rfl (lv_at hl 2 rfl) ?_
            refine lv_iconst (v := 1) hx hb dX10_leastBelow_67 (by decide) ?_
            refine lv_isub hx hb dX10_leastBelow_68 ?_
            refine lv_topi (fun x24 ex24 => ?_)
            have ex24 : x24.toInt = a1.toInt - (1 : Int) := by rw [ex24]; exact wk_sub (show (-2147483648) ≤ a1.toInt - (1 : Int) by omega) (show a1.toInt - (1 : Int) ≤ 2147483647 by omega)
            refine lv_ishl hx hb dX10_leastBelow_69 ?_
            refine lv_topi (fun x25 ex25 => ?_)
            have bx25 : 1 ≤ x25.toInt ∧ x25.toInt ≤ 1 := by rw [ex25]; exact wk_shl1 0 (by decide) (by omega) (by omega)
            refine lv_ior hx hb dX10_leastBelow_70 ?_
            refine lv_topi (fun x26 ex26 => ?_)
            have bx26 : 0 ≤ x26.toInt ∧ x26.toInt < 128 := by rw [ex26]; exact wk_or 7 (by decide) (by omega) (by omega) (by omega) (by omega)
            refine tk_Vi hC hK hw hT hA hE hSR kC_at158 (by decide) rfl (k_X10_leastBelow_41 l adK adV dC dI cy ad B (by omega) (by omega) qr s1   x26 (show 0 ≤ x26.toInt by omega) (show x26.toInt ≤ 127 by omega) w15 H.size hT ) (cwV 2 hC.2.2.2.2 gX10_leastBelow_X10_leastBelow rfl rfl rfl (by decide +kernel) ⟨Nat.le_of_ble_eq_true rfl, Nat.le_of_ble_eq_true rfl⟩) rfl hl.1 rfl (Nat.le_of_ble_eq_true rfl) dX10_leastBelow_71 (fun r27 w29 H locs hp28 hw => ?_)
            obtain ⟨hT, k30, hg35⟩ := hp28
            have hF := hF.tr k30 (by decide)
            have c36 := k30.gi kC_at38 (by decide) c22
            rcases hg35 with ⟨g31, g32⟩ | ⟨rfl, ⟨x33, c34, rx33, tx33⟩⟩
            · exact tk_iret hC hr hlocks hK ⟨hT, hF, (Or.inl ⟨(show 0 ≤ r27.toInt by omega), (show r27.toInt ≤ 127 by omega)⟩)⟩ hw dX10_leastBelow_74
            · have ex33 : x33.toInt = x8.toInt := by rw [← c36.symm.trans c34]
              exact tk_iret hC hr hlocks hK ⟨hT, hF, (Or.inr ⟨rfl, ⟨x8, c36, (show 1 ≤ x8.toInt by omega), (show x8.toInt ≤ 6 by omega)⟩⟩)⟩ hw dX10_leastBelow_74
        · have c11 : a1.toInt ≤ (0 : Int) := wk_ltF c11
          refine lv_iload_n hx hb dX10_leastBelow_40 rfl (lv_at hl 2 rfl) ?_
          exact tk_iret hC hr hlocks hK ⟨hT, hF, (Or.inl ⟨(show 0 ≤ a2.toInt by omega), (show a2.toInt ≤ 127 by omega)⟩)⟩ hw dX10_leastBelow_41
      · have c10 : v9_3.toInt < x8.toInt := wk_leF c10
        refine lv_aload_n hx hb dX10_leastBelow_20 rfl (lv_at hl 0 rfl) ?_
        refine lv_iload_n hx hb dX10_leastBelow_21 rfl (lv_at hl 3 rfl) ?_
        refine tk_Vi hC hK hw hT hA hE hSR kC_at158 (by decide) rfl (k_X10_canDo_1 l adK adV dC dI cy ad B (by omega) (by omega) qr s1   v9_3 (show 0 ≤ v9_3.toInt by omega) (show v9_3.toInt ≤ 5 by omega) w1 H.size hT ) (cwV 1 hC.2.2.2.2 gX10_leastBelow_X10_canDo rfl rfl rfl (by decide +kernel) ⟨Nat.le_of_ble_eq_true rfl, Nat.le_of_ble_eq_true rfl⟩) rfl hl.1 rfl (Nat.le_of_ble_eq_true rfl) dX10_leastBelow_22 (fun r37 w39 H locs hp38 hw => ?_)
        obtain ⟨hT, k40, hg41⟩ := hp38
        have hF := hF.tr k40 (by decide)
        have c42 := k40.gi kC_at38 (by decide) c9
        rcases hg41 with rfl | rfl
        · refine lv_if_ne (tgt := 30) hx hb dX10_leastBelow_25 (by decide) (fun c => absurd (by decide) c) (fun _ => ?_)
          refine lv_iconst (v := (-1)) hx hb dX10_leastBelow_28 (by decide) ?_
          exact tk_iret hC hr hlocks hK ⟨hT, hF, (Or.inr ⟨rfl, ⟨x8, c42, (show 1 ≤ x8.toInt by omega), (show x8.toInt ≤ 6 by omega)⟩⟩)⟩ hw dX10_leastBelow_29
        · refine lv_if_ne (tgt := 30) hx hb dX10_leastBelow_25 (by decide) (fun _ => ?_) (fun c => absurd c (by decide))
          obtain ⟨x43, ex43⟩ : ∃ y : Int32, y = v9_3 + Int32.ofInt 1 := ⟨_, rfl⟩
          refine lv_iinc (v := x43) (lv' := [(3, .int x43), (0, .ref (ad 158)), (1, .int a1), (2, .int a2)]) hx hb dX10_leastBelow_30 hl (k := 3) rfl ex43.symm (by decide) rfl (fun ls hl => ?_)
          have ex43 : x43.toInt = v9_3.toInt + 1 := by rw [ex43]; exact wk_add (y := 1) (show -2147483648 ≤ v9_3.toInt + 1 by omega) (show v9_3.toInt + 1 ≤ 2147483647 by omega)
          refine lv_goto (tgt := 9) hx hb dX10_leastBelow_33 (by decide) ?_
          exact ih9 x43 H locs ls w39 (show 0 ≤ a1.toInt by omega) (show a1.toInt ≤ 1 by omega) (show 0 ≤ a2.toInt by omega) (show a2.toInt ≤ 127 by omega) (show 0 ≤ x43.toInt by omega) (show x43.toInt ≤ 6 by omega) (show (6 - x43.toInt).toNat < n9 by omega) hw hT hF  (lv_sub hl [1, 2, 3, 0] rfl)
  refine lv_aload_n hx hb dX10_leastBelow_0 rfl (lv_at hl 0 rfl) ?_
  refine lv_iload_n hx hb dX10_leastBelow_1 rfl (lv_at hl 1 rfl) ?_
  refine lv_iload_n hx hb dX10_leastBelow_2 rfl (lv_at hl 2 rfl) ?_
  refine lv_iconst (v := (-1)) hx hb dX10_leastBelow_3 (by decide) ?_
  refine tk_Vv hC hK hw hT hA hE hSR kC_at158 (by decide) rfl (k_X10_layRoads_32 l adK adV dC dI cy ad B (by omega) (by omega) qr s1   a1 (show 0 ≤ a1.toInt by omega) (show a1.toInt ≤ 1 by omega) a2 (show 0 ≤ a2.toInt by omega) (show a2.toInt ≤ 127 by omega) w0 s.heap.size hT ) (cwV 3 hC.2.2.2.2 gX10_leastBelow_X10_layRoads rfl rfl rfl (by decide +kernel) ⟨Nat.le_of_ble_eq_true rfl, Nat.le_of_ble_eq_true rfl⟩) rfl hl.1 rfl (Nat.le_of_ble_eq_true rfl) dX10_leastBelow_4 (fun w46 H locs hp45 hw => ?_)
  obtain ⟨hT, k47, hg48⟩ := hp45
  have hF := hF.tr k47 (by decide)
  clear hg48
  refine lv_iconst (v := 0) hx hb dX10_leastBelow_7 (by decide) ?_
  refine lv_istore_n (lv' := [(3, .int 0), (0, .ref (ad 158)), (1, .int a1), (2, .int a2)]) hx hb dX10_leastBelow_8 rfl hl (by decide) rfl (fun ls hl => ?_)
  exact L9 ((6 - (0 : Int)).toNat + 1) 0 H locs ls w46 (show 0 ≤ a1.toInt by omega) (show a1.toInt ≤ 1 by omega) (show 0 ≤ a2.toInt by omega) (show a2.toInt ≤ 127 by omega) (by decide) (by decide) (Nat.lt_succ_self _) hw hT hF  (lv_sub hl [1, 2, 3, 0] rfl)
abbrev P_X10_layRoads_33 (ad : Nat → Nat) (cy : Nat → ClassId) (B : Int) (qr : Nat) (s1 : Int) (a1 : Int32) (a2 : Int32) (w0 : va_W) : va_W → Prop := fun u => TW ksC ad cy B qr s1 u ∧ FE ksC [(51, 0, 10)] w0 u ∧ ((True))
set_option maxHeartbeats 4000000 in
set_option maxRecDepth 100000 in
theorem k_X10_layRoads_33 (l : Launch) (adK adV : Nat → Nat) (dC : Nat → ClassId) (dI : Nat → Nat → Nat) (cy : Nat → ClassId) (ad : Nat → Nat) (B : Int) (hB0 : 2147483648 ≤ B) (hB1 : B ≤ 1152921504606846976) (qr : Nat) (s1 : Int)  (a1 : Int32) (ra1 : 0 ≤ a1.toInt) (ta1 : a1.toInt ≤ 2) (a2 : Int32) (ra2 : 0 ≤ a2.toInt) (ta2 : a2.toInt ≤ 127) (w0 : va_W) (sz : Nat) (hT : TW ksC ad cy B qr s1 w0)  : Met l yX10_layRoads wsX10_layRoads ({ frames := 1, cells := 0, slots := 0, locals := 12 }) (va_Pc [.ref (ad 158), .int a1, .int a2, .int (-1)] (wpreS adK adV dC dI cy sz w0)) (va_Qv (P_X10_layRoads_33 ad cy B qr s1 a1 a2 w0) (fun u : va_W => wpost dC dI cy (va_A w0 sz) u) (va_A w0 sz)) 0 0 (va_A w0 sz) := by
  refine Met.ofW (cc := cX10_layRoads) (maxL := 8) (ret := none) (by decide) rfl ?_
  intro p e s m args below meth c s₁ Bk hml hv
  obtain ⟨rfl, ⟨hsz, hP, hK, hD0⟩, hE, hSR⟩ := hv
  have hx := Bk.exec
  have hb := Bk.bytes
  have hr := Bk.returns
  have hlocks := Bk.notSynchronized
  have hC : CallFix p m c cX10_layRoads 8 s _ wsX10_layRoads RX10 := ⟨hx, hb, hml, findClass_of_methodNamed Bk.named, atoms_spec (ws := wsX10_layRoads) Bk.pre⟩
  subst hsz
  have hD := hD0.self (sz := s.heap.size)
  generalize hAe : va_A w0 s.heap.size = A at hD hE ⊢
  have hA : ∀ q : Nat, s.heap.size ≤ q → A q := fun q h => by rw [← hAe]; exact Or.inr h
  have hw : Wd dC dI A s.heap s.heap [] w0 := ⟨hP, hD, va_S.rf⟩
  have hF : FE ksC [(51, 0, 10)] w0 w0 := FE.rf
  have hl := lv_entry ([.ref (ad 158), .int a1, .int a2, .int (-1)]) (n := 8) (Nat.le_of_ble_eq_true rfl)
  rw [lg_entry_eq]
  generalize (lg_sl ([.ref (ad 158), .int a1, .int a2, .int (-1)]) ++ List.replicate (8 - (lg_sl ([.ref (ad 158), .int a1, .int a2, .int (-1)])).length) Slot.unset).toArray = ls at hl ⊢
  have hl : lv_has ls 8 [(0, .ref (ad 158)), (1, .int a1), (2, .int a2), (3, .int (-1))] := hl
  generalize hloc : ([] : List Loc) = locs at hw ⊢
  have hinX10 : ∀ w ∈ u_ws RX10 TX10 5, w ∈ wsX10_layRoads := fun _ h => List.mem_cons_of_mem _ (List.mem_append_left _ (List.mem_append_right _ (h)))
  have hinX7 : ∀ w ∈ u_ws RX7 TX7 12, w ∈ wsX10_layRoads := fun _ h => List.mem_cons_of_mem _ (List.mem_append_right _ (h))
  have L27 : ∀ (n27 : Nat) (v27_4 : Int32) (H : Heap) (locs : List Loc) (ls : Array Slot) (w1 : va_W), 0 ≤ a1.toInt → a1.toInt ≤ 2 → 0 ≤ a2.toInt → a2.toInt ≤ 127 → 0 ≤ v27_4.toInt → v27_4.toInt ≤ 12 → (12 - v27_4.toInt).toNat < n27 → Wd dC dI A s.heap H locs w1 → TW ksC ad cy B qr s1 w1 → FE ksC [(51, 0, 10)] w0 w1 → lv_has ls 8 [(0, .ref (ad 158)), (1, .int a1), (2, .int a2), (3, .int (-1)), (4, .int v27_4)] → W p l e ({ frames := 1, cells := 0, slots := 0, locals := 12 }) s m (List.toArray [.ref (ad 158), .int a1, .int a2, .int (-1)]) below meth c H locs 0 0 (MQ below (va_Qv (P_X10_layRoads_33 ad cy B qr s1 a1 a2 w0) (fun u : va_W => wpost dC dI cy A u) A) (List.toArray [.ref (ad 158), .int a1, .int a2, .int (-1)]) s 0 0 A) (F0 m 27 ls []) := by
    intro n27
    induction n27 with
    | zero => intro v27_4 H locs ls w1 r2 t3 r4 t5 r6 t7 hm27 hw hT hF hl; omega
    | succ n27 ih27 =>
      intro v27_4 H locs ls w1 r2 t3 r4 t5 r6 t7 hm27 hw hT hF hl
      have J144 : ∀ (v144_5 : Int32) (v144_6 : Int32) (v144_7 : Int32) (f144_158_4 : Int32) (H : Heap) (locs : List Loc) (ls : Array Slot) (w8 : va_W), 0 ≤ a1.toInt → a1.toInt ≤ 2 → 0 ≤ a2.toInt → a2.toInt ≤ 127 → 0 ≤ v27_4.toInt → v27_4.toInt ≤ 11 → 0 ≤ v144_5.toInt → v144_5.toInt ≤ 9 → 0 ≤ v144_6.toInt → v144_6.toInt ≤ 9 → 0 ≤ v144_7.toInt → v144_7.toInt ≤ 1 → 1 ≤ f144_158_4.toInt → f144_158_4.toInt ≤ 12 → Wd dC dI A s.heap H locs w8 → TW ksC ad cy B qr s1 w8 → FE ksC [(51, 0, 10)] w0 w8 → gi w8 158 4 = f144_158_4 → lv_has ls 8 [(0, .ref (ad 158)), (1, .int a1), (2, .int a2), (3, .int (-1)), (4, .int v27_4), (5, .int v144_5), (6, .int v144_6), (7, .int v144_7)] → W p l e ({ frames := 1, cells := 0, slots := 0, locals := 12 }) s m (List.toArray [.ref (ad 158), .int a1, .int a2, .int (-1)]) below meth c H locs 0 0 (MQ below (va_Qv (P_X10_layRoads_33 ad cy B qr s1 a1 a2 w0) (fun u : va_W => wpost dC dI cy A u) A) (List.toArray [.ref (ad 158), .int a1, .int a2, .int (-1)]) s 0 0 A) (F0 m 144 ls []) := by
        intro v144_5 v144_6 v144_7 f144_158_4 H locs ls w8 r9 t10 r11 t12 r13 t14 r15 t16 r17 t18 r19 t20 r21 t22 hw hT hF c23 hl
        obtain ⟨x24, ex24⟩ : ∃ y : Int32, y = v27_4 + Int32.ofInt 1 := ⟨_, rfl⟩
        refine lv_iinc (v := x24) (lv' := [(4, .int x24), (0, .ref (ad 158)), (1, .int a1), (2, .int a2), (3, .int (-1)), (5, .int v144_5), (6, .int v144_6), (7, .int v144_7)]) hx hb dX10_layRoads_144 hl (k := 4) rfl ex24.symm (by decide) rfl (fun ls hl => ?_)
        have ex24 : x24.toInt = v27_4.toInt + 1 := by rw [ex24]; exact wk_add (y := 1) (show -2147483648 ≤ v27_4.toInt + 1 by omega) (show v27_4.toInt + 1 ≤ 2147483647 by omega)
        refine lv_goto (tgt := 27) hx hb dX10_layRoads_147 (by decide) ?_
        exact ih27 x24 H locs ls w8 (show 0 ≤ a1.toInt by omega) (show a1.toInt ≤ 2 by omega) (show 0 ≤ a2.toInt by omega) (show a2.toInt ≤ 127 by omega) (show 0 ≤ x24.toInt by omega) (show x24.toInt ≤ 12 by omega) (show (12 - x24.toInt).toNat < n27 by omega) hw hT hF  (lv_sub hl [1, 2, 3, 4, 0] rfl)
      have J130 : ∀ (v130_5 : Int32) (v130_6 : Int32) (v130_7 : Int32) (f130_158_4 : Int32) (H : Heap) (locs : List Loc) (ls : Array Slot) (w25 : va_W), 0 ≤ a1.toInt → a1.toInt ≤ 2 → 0 ≤ a2.toInt → a2.toInt ≤ 127 → 0 ≤ v27_4.toInt → v27_4.toInt ≤ 11 → 0 ≤ v130_5.toInt → v130_5.toInt ≤ 9 → 0 ≤ v130_6.toInt → v130_6.toInt ≤ 9 → 0 ≤ v130_7.toInt → v130_7.toInt ≤ 1 → 1 ≤ f130_158_4.toInt → f130_158_4.toInt ≤ 12 → Wd dC dI A s.heap H locs w25 → TW ksC ad cy B qr s1 w25 → FE ksC [(51, 0, 10)] w0 w25 → gi w25 158 4 = f130_158_4 → lv_has ls 8 [(0, .ref (ad 158)), (1, .int a1), (2, .int a2), (3, .int (-1)), (4, .int v27_4), (5, .int v130_5), (6, .int v130_6), (7, .int v130_7)] → W p l e ({ frames := 1, cells := 0, slots := 0, locals := 12 }) s m (List.toArray [.ref (ad 158), .int a1, .int a2, .int (-1)]) below meth c H locs 0 0 (MQ below (va_Qv (P_X10_layRoads_33 ad cy B qr s1 a1 a2 w0) (fun u : va_W => wpost dC dI cy A u) A) (List.toArray [.ref (ad 158), .int a1, .int a2, .int (-1)]) s 0 0 A) (F0 m 130 ls []) := by
        intro v130_5 v130_6 v130_7 f130_158_4 H locs ls w25 r26 t27 r28 t29 r30 t31 r32 t33 r34 t35 r36 t37 r38 t39 hw hT hF c40 hl
        refine lv_aload_n hx hb dX10_layRoads_130 rfl (lv_at hl 0 rfl) ?_
        refine tk_getA hC hK hw hT hinX10 kC_at158 (by decide) rfl 3 (by decide) (List.mem_of_getElem? (i := 1) rfl) rfl rfl dX10_layRoads_131 ?_
        refine lv_iload hx hb dX10_layRoads_134 (lv_at hl 6 rfl) ?_
        refine lv_dup2_11 hx hb dX10_layRoads_136 rfl rfl ?_
        refine tk_iald hC hK hw hT kC_at160 rfl rfl (show 0 ≤ v130_6.toInt by omega) (show v130_6.toInt < 10 by omega) dX10_layRoads_137 (fun x41 c42 rx41 tx41 => ?_)
        refine lv_iconst (v := 1) hx hb dX10_layRoads_138 (by decide) ?_
        refine lv_iload hx hb dX10_layRoads_139 (lv_at hl 5 rfl) ?_
        refine lv_ishl hx hb dX10_layRoads_141 ?_
        refine lv_topi (fun x43 ex43 => ?_)
        have bx43 : 1 ≤ x43.toInt ∧ x43.toInt ≤ 512 := by rw [ex43]; exact wk_shl1 9 (by decide) (by omega) (by omega)
        refine lv_ior hx hb dX10_layRoads_142 ?_
        refine lv_topi (fun x44 ex44 => ?_)
        have bx44 : 0 ≤ x44.toInt ∧ x44.toInt < 1024 := by rw [ex44]; exact wk_or 10 (by decide) (by omega) (by omega) (by omega) (by omega)
        refine tk_iast hC hK hw hT kC_at160 (by decide) rfl rfl (show 0 ≤ v130_6.toInt by omega) (show v130_6.toInt < 10 by omega) (show 0 ≤ x44.toInt by omega) (show x44.toInt ≤ 1023 by omega) dX10_layRoads_143 (fun H locs w45 hw hT k47 c46 => ?_)
        have hF := hF.put kC_at160 (inE_of (a := 0) (b := 10) (by decide) (show 0 ≤ v130_6.toInt.toNat by omega) (show v130_6.toInt.toNat ≤ 10 by omega)) k47
        have c48 := k47.gi (Or.inl (tk_ne kC_at158 kC_at160 (by decide))) c40
        exact J144 v130_5 v130_6 v130_7 f130_158_4 H locs ls w45 (show 0 ≤ a1.toInt by omega) (show a1.toInt ≤ 2 by omega) (show 0 ≤ a2.toInt by omega) (show a2.toInt ≤ 127 by omega) (show 0 ≤ v27_4.toInt by omega) (show v27_4.toInt ≤ 11 by omega) (show 0 ≤ v130_5.toInt by omega) (show v130_5.toInt ≤ 9 by omega) (show 0 ≤ v130_6.toInt by omega) (show v130_6.toInt ≤ 9 by omega) (show 0 ≤ v130_7.toInt by omega) (show v130_7.toInt ≤ 1 by omega) (show 1 ≤ f130_158_4.toInt by omega) (show f130_158_4.toInt ≤ 12 by omega)  hw hT hF c48 (lv_sub hl [0, 1, 2, 3, 4, 5, 6, 7] rfl)
      have J118 : ∀ (v118_5 : Int32) (v118_6 : Int32) (v118_7 : Int32) (f118_158_4 : Int32) (H : Heap) (locs : List Loc) (ls : Array Slot) (w49 : va_W), 0 ≤ a1.toInt → a1.toInt ≤ 2 → 0 ≤ a2.toInt → a2.toInt ≤ 127 → 0 ≤ v27_4.toInt → v27_4.toInt ≤ 11 → 0 ≤ v118_5.toInt → v118_5.toInt ≤ 9 → 0 ≤ v118_6.toInt → v118_6.toInt ≤ 9 → 0 ≤ v118_7.toInt → v118_7.toInt ≤ 1 → 1 ≤ f118_158_4.toInt → f118_158_4.toInt ≤ 12 → Wd dC dI A s.heap H locs w49 → TW ksC ad cy B qr s1 w49 → FE ksC [(51, 0, 10)] w0 w49 → gi w49 158 4 = f118_158_4 → lv_has ls 8 [(0, .ref (ad 158)), (1, .int a1), (2, .int a2), (3, .int (-1)), (4, .int v27_4), (5, .int v118_5), (6, .int v118_6), (7, .int v118_7)] → W p l e ({ frames := 1, cells := 0, slots := 0, locals := 12 }) s m (List.toArray [.ref (ad 158), .int a1, .int a2, .int (-1)]) below meth c H locs 0 0 (MQ below (va_Qv (P_X10_layRoads_33 ad cy B qr s1 a1 a2 w0) (fun u : va_W => wpost dC dI cy A u) A) (List.toArray [.ref (ad 158), .int a1, .int a2, .int (-1)]) s 0 0 A) (F0 m 118 ls []) := by
        intro v118_5 v118_6 v118_7 f118_158_4 H locs ls w49 r50 t51 r52 t53 r54 t55 r56 t57 r58 t59 r60 t61 r62 t63 hw hT hF c64 hl
        refine lv_iload hx hb dX10_layRoads_118 (lv_at hl 4 rfl) ?_
        refine lv_iload_n hx hb dX10_layRoads_120 rfl (lv_at hl 1 rfl) ?_
        refine lv_icmp_lt (tgt := 130) hx hb dX10_layRoads_121 (by decide) (fun c65 => ?_) (fun c65 => ?_)
        · have c65 : v27_4.toInt < a1.toInt := wk_lt.mp c65
          exact J130 v118_5 v118_6 v118_7 f118_158_4 H locs ls w49 (show 0 ≤ a1.toInt by omega) (show a1.toInt ≤ 2 by omega) (show 0 ≤ a2.toInt by omega) (show a2.toInt ≤ 127 by omega) (show 0 ≤ v27_4.toInt by omega) (show v27_4.toInt ≤ 11 by omega) (show 0 ≤ v118_5.toInt by omega) (show v118_5.toInt ≤ 9 by omega) (show 0 ≤ v118_6.toInt by omega) (show v118_6.toInt ≤ 9 by omega) (show 0 ≤ v118_7.toInt by omega) (show v118_7.toInt ≤ 1 by omega) (show 1 ≤ f118_158_4.toInt by omega) (show f118_158_4.toInt ≤ 12 by omega)  hw hT hF c64 (lv_sub hl [0, 1, 2, 3, 4, 5, 6, 7] rfl)
        · have c65 : a1.toInt ≤ v27_4.toInt := wk_ltF c65
          refine lv_iload hx hb dX10_layRoads_124 (lv_at hl 7 rfl) ?_
          refine lv_iconst (v := 1) hx hb dX10_layRoads_126 (by decide) ?_
          refine lv_icmp_ne (tgt := 144) hx hb dX10_layRoads_127 (by decide) (fun c66 => ?_) (fun c66 => ?_)
          · have c66 : ¬ v118_7.toInt = (1 : Int) := wk_eqF c66
            exact J144 v118_5 v118_6 v118_7 f118_158_4 H locs ls w49 (show 0 ≤ a1.toInt by omega) (show a1.toInt ≤ 2 by omega) (show 0 ≤ a2.toInt by omega) (show a2.toInt ≤ 127 by omega) (show 0 ≤ v27_4.toInt by omega) (show v27_4.toInt ≤ 11 by omega) (show 0 ≤ v118_5.toInt by omega) (show v118_5.toInt ≤ 9 by omega) (show 0 ≤ v118_6.toInt by omega) (show v118_6.toInt ≤ 9 by omega) (show 0 ≤ v118_7.toInt by omega) (show v118_7.toInt ≤ 1 by omega) (show 1 ≤ f118_158_4.toInt by omega) (show f118_158_4.toInt ≤ 12 by omega)  hw hT hF c64 (lv_sub hl [0, 1, 2, 3, 4, 5, 6, 7] rfl)
          · have c66 : v118_7.toInt = (1 : Int) := wk_eq.mp c66
            exact J130 v118_5 v118_6 v118_7 f118_158_4 H locs ls w49 (show 0 ≤ a1.toInt by omega) (show a1.toInt ≤ 2 by omega) (show 0 ≤ a2.toInt by omega) (show a2.toInt ≤ 127 by omega) (show 0 ≤ v27_4.toInt by omega) (show v27_4.toInt ≤ 11 by omega) (show 0 ≤ v118_5.toInt by omega) (show v118_5.toInt ≤ 9 by omega) (show 0 ≤ v118_6.toInt by omega) (show v118_6.toInt ≤ 9 by omega) (show 0 ≤ v118_7.toInt by omega) (show v118_7.toInt ≤ 1 by omega) (show 1 ≤ f118_158_4.toInt by omega) (show f118_158_4.toInt ≤ 12 by omega)  hw hT hF c64 (lv_sub hl [0, 1, 2, 3, 4, 5, 6, 7] rfl)
      have J104 : ∀ (v104_5 : Int32) (v104_6 : Int32) (v104_7 : Int32) (f104_158_4 : Int32) (H : Heap) (locs : List Loc) (ls : Array Slot) (w67 : va_W), 0 ≤ a1.toInt → a1.toInt ≤ 2 → 0 ≤ a2.toInt → a2.toInt ≤ 127 → 0 ≤ v27_4.toInt → v27_4.toInt ≤ 11 → 0 ≤ v104_5.toInt → v104_5.toInt ≤ 9 → 0 ≤ v104_6.toInt → v104_6.toInt ≤ 9 → 0 ≤ v104_7.toInt → v104_7.toInt ≤ 1 → 1 ≤ f104_158_4.toInt → f104_158_4.toInt ≤ 12 → Wd dC dI A s.heap H locs w67 → TW ksC ad cy B qr s1 w67 → FE ksC [(51, 0, 10)] w0 w67 → gi w67 158 4 = f104_158_4 → lv_has ls 8 [(0, .ref (ad 158)), (1, .int a1), (2, .int a2), (3, .int (-1)), (4, .int v27_4), (5, .int v104_5), (6, .int v104_6), (7, .int v104_7)] → W p l e ({ frames := 1, cells := 0, slots := 0, locals := 12 }) s m (List.toArray [.ref (ad 158), .int a1, .int a2, .int (-1)]) below meth c H locs 0 0 (MQ below (va_Qv (P_X10_layRoads_33 ad cy B qr s1 a1 a2 w0) (fun u : va_W => wpost dC dI cy A u) A) (List.toArray [.ref (ad 158), .int a1, .int a2, .int (-1)]) s 0 0 A) (F0 m 104 ls []) := by
        intro v104_5 v104_6 v104_7 f104_158_4 H locs ls w67 r68 t69 r70 t71 r72 t73 r74 t75 r76 t77 r78 t79 r80 t81 hw hT hF c82 hl
        refine lv_aload_n hx hb dX10_layRoads_104 rfl (lv_at hl 0 rfl) ?_
        refine tk_getA hC hK hw hT hinX10 kC_at158 (by decide) rfl 3 (by decide) (List.mem_of_getElem? (i := 1) rfl) rfl rfl dX10_layRoads_105 ?_
        refine lv_iload hx hb dX10_layRoads_108 (lv_at hl 5 rfl) ?_
        refine lv_dup2_11 hx hb dX10_layRoads_110 rfl rfl ?_
        refine tk_iald hC hK hw hT kC_at160 rfl rfl (show 0 ≤ v104_5.toInt by omega) (show v104_5.toInt < 10 by omega) dX10_layRoads_111 (fun x83 c84 rx83 tx83 => ?_)
        refine lv_iconst (v := 1) hx hb dX10_layRoads_112 (by decide) ?_
        refine lv_iload hx hb dX10_layRoads_113 (lv_at hl 6 rfl) ?_
        refine lv_ishl hx hb dX10_layRoads_115 ?_
        refine lv_topi (fun x85 ex85 => ?_)
        have bx85 : 1 ≤ x85.toInt ∧ x85.toInt ≤ 512 := by rw [ex85]; exact wk_shl1 9 (by decide) (by omega) (by omega)
        refine lv_ior hx hb dX10_layRoads_116 ?_
        refine lv_topi (fun x86 ex86 => ?_)
        have bx86 : 0 ≤ x86.toInt ∧ x86.toInt < 1024 := by rw [ex86]; exact wk_or 10 (by decide) (by omega) (by omega) (by omega) (by omega)
        refine tk_iast hC hK hw hT kC_at160 (by decide) rfl rfl (show 0 ≤ v104_5.toInt by omega) (show v104_5.toInt < 10 by omega) (show 0 ≤ x86.toInt by omega) (show x86.toInt ≤ 1023 by omega) dX10_layRoads_117 (fun H locs w87 hw hT k89 c88 => ?_)
        have hF := hF.put kC_at160 (inE_of (a := 0) (b := 10) (by decide) (show 0 ≤ v104_5.toInt.toNat by omega) (show v104_5.toInt.toNat ≤ 10 by omega)) k89
        have c90 := k89.gi (Or.inl (tk_ne kC_at158 kC_at160 (by decide))) c82
        exact J118 v104_5 v104_6 v104_7 f104_158_4 H locs ls w87 (show 0 ≤ a1.toInt by omega) (show a1.toInt ≤ 2 by omega) (show 0 ≤ a2.toInt by omega) (show a2.toInt ≤ 127 by omega) (show 0 ≤ v27_4.toInt by omega) (show v27_4.toInt ≤ 11 by omega) (show 0 ≤ v104_5.toInt by omega) (show v104_5.toInt ≤ 9 by omega) (show 0 ≤ v104_6.toInt by omega) (show v104_6.toInt ≤ 9 by omega) (show 0 ≤ v104_7.toInt by omega) (show v104_7.toInt ≤ 1 by omega) (show 1 ≤ f104_158_4.toInt by omega) (show f104_158_4.toInt ≤ 12 by omega)  hw hT hF c90 (lv_sub hl [0, 1, 2, 3, 4, 5, 6, 7] rfl)
      refine lv_iload hx hb dX10_layRoads_27 (lv_at hl 4 rfl) ?_
      refine lv_aload_n hx hb dX10_layRoads_29 rfl (lv_at hl 0 rfl) ?_
      refine tk_geti hC hK hw hT hinX10 kC_at158 (by decide) rfl 4 (by decide) (List.mem_of_getElem? (i := 2) rfl) rfl rfl dX10_layRoads_30 (fun x91 c92 rx91 tx91 => ?_)
      refine lv_icmp_ge (tgt := 150) hx hb dX10_layRoads_33 (by decide) (fun c93 => ?_) (fun c93 => ?_)
      · have c93 : x91.toInt ≤ v27_4.toInt := wk_le.mp c93
        exact tk_vret hC hr hlocks hK ⟨hT, hF, trivial⟩ hw dX10_layRoads_150
      · have c93 : v27_4.toInt < x91.toInt := wk_leF c93
        refine lv_iload hx hb dX10_layRoads_36 (lv_at hl 4 rfl) ?_
        refine lv_iload_n hx hb dX10_layRoads_38 rfl (lv_at hl 3 rfl) ?_
        refine lv_icmp_ne (tgt := 45) hx hb dX10_layRoads_39 (by decide) (fun _ => ?_) (fun c => absurd (show v27_4.toInt = (-1 : Int) from wk_eq.mp c) (by omega))
        refine lv_aload_n hx hb dX10_layRoads_45 rfl (lv_at hl 0 rfl) ?_
        refine tk_getA hC hK hw hT hinX10 kC_at158 (by decide) rfl 1 (by decide) (List.mem_of_getElem? (i := 3) rfl) rfl rfl dX10_layRoads_46 ?_
        refine tk_getO hC hK hw hT hinX7 kC_at39 (by decide) rfl 0 (by decide) (List.mem_of_getElem? (i := 4) rfl) rfl rfl dX10_layRoads_49 ?_
        refine lv_iconst (v := 2) hx hb dX10_layRoads_52 (by decide) ?_
        refine lv_aload_n hx hb dX10_layRoads_53 rfl (lv_at hl 0 rfl) ?_
        refine tk_getA hC hK hw hT hinX10 kC_at158 (by decide) rfl 2 (by decide) (List.mem_of_getElem? (i := 5) rfl) rfl rfl dX10_layRoads_54 ?_
        refine lv_iload hx hb dX10_layRoads_57 (lv_at hl 4 rfl) ?_
        refine tk_iald hC hK hw hT kC_at159 rfl rfl (show 0 ≤ v27_4.toInt by omega) (show v27_4.toInt < 12 by omega) dX10_layRoads_59 (fun x94 c95 rx94 tx94 => ?_)
        refine lv_imul hx hb dX10_layRoads_60 ?_
        refine lv_topi (fun x96 ex96 => ?_)
        have ex96 : x96.toInt = (2 : Int) * x94.toInt := by rw [ex96]; exact wk_mul (show (-2147483648) ≤ (2 : Int) * x94.toInt by omega) (show (2 : Int) * x94.toInt ≤ 2147483647 by omega)
        refine tk_iald hC hK hw hT kC_at40 rfl rfl (show 0 ≤ x96.toInt by omega) (show x96.toInt < 26 by omega) dX10_layRoads_61 (fun x97 c98 rx97 tx97 => ?_)
        refine lv_istore (lv' := [(5, .int x97), (0, .ref (ad 158)), (1, .int a1), (2, .int a2), (3, .int (-1)), (4, .int v27_4)]) hx hb dX10_layRoads_62 hl (by decide) rfl (fun ls hl => ?_)
        refine lv_aload_n hx hb dX10_layRoads_64 rfl (lv_at hl 1 rfl) ?_
        refine tk_getA hC hK hw hT hinX10 kC_at158 (by decide) rfl 1 (by decide) (List.mem_of_getElem? (i := 3) rfl) rfl rfl dX10_layRoads_65 ?_
        refine tk_getO hC hK hw hT hinX7 kC_at39 (by decide) rfl 0 (by decide) (List.mem_of_getElem? (i := 4) rfl) rfl rfl dX10_layRoads_68 ?_
        refine lv_iconst (v := 2) hx hb dX10_layRoads_71 (by decide) ?_
        refine lv_aload_n hx hb dX10_layRoads_72 rfl (lv_at hl 1 rfl) ?_
        refine tk_getA hC hK hw hT hinX10 kC_at158 (by decide) rfl 2 (by decide) (List.mem_of_getElem? (i := 5) rfl) rfl rfl dX10_layRoads_73 ?_
        refine lv_iload hx hb dX10_layRoads_76 (lv_at hl 5 rfl) ?_
        refine tk_iald hC hK hw hT kC_at159 rfl rfl (show 0 ≤ v27_4.toInt by omega) (show v27_4.toInt < 12 by omega) dX10_layRoads_78 (fun x99 c100 rx99 tx99 => ?_)
        refine lv_imul hx hb dX10_layRoads_79 ?_
        refine lv_topi (fun x101 ex101 => ?_)
        have ex101 : x101.toInt = (2 : Int) * x99.toInt := by rw [ex101]; exact wk_mul (show (-2147483648) ≤ (2 : Int) * x99.toInt by omega) (show (2 : Int) * x99.toInt ≤ 2147483647 by omega)
        refine lv_iconst (v := 1) hx hb dX10_layRoads_80 (by decide) ?_
        refine lv_iadd hx hb dX10_layRoads_81 ?_
        refine lv_topi (fun x102 ex102 => ?_)
        have ex102 : x102.toInt = x101.toInt + (1 : Int) := by rw [ex102]; exact wk_add (show (-2147483648) ≤ x101.toInt + (1 : Int) by omega) (show x101.toInt + (1 : Int) ≤ 2147483647 by omega)
        refine tk_iald hC hK hw hT kC_at40 rfl rfl (show 0 ≤ x102.toInt by omega) (show x102.toInt < 26 by omega) dX10_layRoads_82 (fun x103 c104 rx103 tx103 => ?_)
        refine lv_istore (lv' := [(6, .int x103), (5, .int x97), (0, .ref (ad 158)), (1, .int a1), (2, .int a2), (3, .int (-1)), (4, .int v27_4)]) hx hb dX10_layRoads_83 hl (by decide) rfl (fun ls hl => ?_)
        refine lv_iload_n hx hb dX10_layRoads_85 rfl (lv_at hl 4 rfl) ?_
        refine lv_iload hx hb dX10_layRoads_86 (lv_at hl 6 rfl) ?_
        refine lv_ishr hx hb dX10_layRoads_88 ?_
        refine lv_topi (fun x105 ex105 => ?_)
        have bx105 : 0 ≤ x105.toInt ∧ x105.toInt ≤ a2.toInt := by rw [ex105]; exact wk_shr (by omega)
        refine lv_iconst (v := 1) hx hb dX10_layRoads_89 (by decide) ?_
        refine lv_iand hx hb dX10_layRoads_90 ?_
        refine lv_topi (fun x106 ex106 => ?_)
        have bx106 : 0 ≤ x106.toInt ∧ x106.toInt ≤ (1 : Int) := by rw [ex106]; exact wk_and (by decide)
        refine lv_istore (lv' := [(7, .int x106), (6, .int x103), (5, .int x97), (0, .ref (ad 158)), (1, .int a1), (2, .int a2), (3, .int (-1)), (4, .int v27_4)]) hx hb dX10_layRoads_91 hl (by decide) rfl (fun ls hl => ?_)
        refine lv_iload hx hb dX10_layRoads_93 (lv_at hl 7 rfl) ?_
        refine lv_iload_n hx hb dX10_layRoads_95 rfl (lv_at hl 4 rfl) ?_
        refine lv_icmp_lt (tgt := 104) hx hb dX10_layRoads_96 (by decide) (fun c107 => ?_) (fun c107 => ?_)
        · have c107 : v27_4.toInt < a1.toInt := wk_lt.mp c107
          exact J104 x97 x103 x106 x91 H locs ls w1 (show 0 ≤ a1.toInt by omega) (show a1.toInt ≤ 2 by omega) (show 0 ≤ a2.toInt by omega) (show a2.toInt ≤ 127 by omega) (show 0 ≤ v27_4.toInt by omega) (show v27_4.toInt ≤ 11 by omega) (show 0 ≤ x97.toInt by omega) (show x97.toInt ≤ 9 by omega) (show 0 ≤ x103.toInt by omega) (show x103.toInt ≤ 9 by omega) (show 0 ≤ x106.toInt by omega) (show x106.toInt ≤ 1 by omega) (show 1 ≤ x91.toInt by omega) (show x91.toInt ≤ 12 by omega)  hw hT hF c92 (lv_sub hl [3, 4, 5, 6, 7, 2, 1, 0] rfl)
        · have c107 : a1.toInt ≤ v27_4.toInt := wk_ltF c107
          refine lv_iload hx hb dX10_layRoads_99 (lv_at hl 0 rfl) ?_
          refine lv_if_ne (tgt := 118) hx hb dX10_layRoads_101 (by decide) (fun c108 => ?_) (fun c108 => ?_)
          · have c108 : ¬ x106.toInt = (0 : Int) := wk_eqF c108
            exact J118 x97 x103 x106 x91 H locs ls w1 (show 0 ≤ a1.toInt by omega) (show a1.toInt ≤ 2 by omega) (show 0 ≤ a2.toInt by omega) (show a2.toInt ≤ 127 by omega) (show 0 ≤ v27_4.toInt by omega) (show v27_4.toInt ≤ 11 by omega) (show 0 ≤ x97.toInt by omega) (show x97.toInt ≤ 9 by omega) (show 0 ≤ x103.toInt by omega) (show x103.toInt ≤ 9 by omega) (show 0 ≤ x106.toInt by omega) (show x106.toInt ≤ 1 by omega) (show 1 ≤ x91.toInt by omega) (show x91.toInt ≤ 12 by omega)  hw hT hF c92 (lv_sub hl [3, 4, 5, 6, 7, 2, 1, 0] rfl)
          · have c108 : x106.toInt = (0 : Int) := wk_eq.mp c108
            exact J104 x97 x103 x106 x91 H locs ls w1 (show 0 ≤ a1.toInt by omega) (show a1.toInt ≤ 2 by omega) (show 0 ≤ a2.toInt by omega) (show a2.toInt ≤ 127 by omega) (show 0 ≤ v27_4.toInt by omega) (show v27_4.toInt ≤ 11 by omega) (show 0 ≤ x97.toInt by omega) (show x97.toInt ≤ 9 by omega) (show 0 ≤ x103.toInt by omega) (show x103.toInt ≤ 9 by omega) (show 0 ≤ x106.toInt by omega) (show x106.toInt ≤ 1 by omega) (show 1 ≤ x91.toInt by omega) (show x91.toInt ≤ 12 by omega)  hw hT hF c92 (lv_sub hl [3, 4, 5, 6, 7, 2, 1, 0] rfl)
  have L3 : ∀ (n3 : Nat) (v3_4 : Int32) (H : Heap) (locs : List Loc) (ls : Array Slot) (w109 : va_W), 0 ≤ a1.toInt → a1.toInt ≤ 2 → 0 ≤ a2.toInt → a2.toInt ≤ 127 → 0 ≤ v3_4.toInt → v3_4.toInt ≤ 10 → (10 - v3_4.toInt).toNat < n3 → Wd dC dI A s.heap H locs w109 → TW ksC ad cy B qr s1 w109 → FE ksC [(51, 0, 10)] w0 w109 → lv_has ls 8 [(0, .ref (ad 158)), (1, .int a1), (2, .int a2), (3, .int (-1)), (4, .int v3_4)] → W p l e ({ frames := 1, cells := 0, slots := 0, locals := 12 }) s m (List.toArray [.ref (ad 158), .int a1, .int a2, .int (-1)]) below meth c H locs 0 0 (MQ below (va_Qv (P_X10_layRoads_33 ad cy B qr s1 a1 a2 w0) (fun u : va_W => wpost dC dI cy A u) A) (List.toArray [.ref (ad 158), .int a1, .int a2, .int (-1)]) s 0 0 A) (F0 m 3 ls []) := by
    intro n3
    induction n3 with
    | zero => intro v3_4 H locs ls w109 r110 t111 r112 t113 r114 t115 hm3 hw hT hF hl; omega
    | succ n3 ih3 =>
      intro v3_4 H locs ls w109 r110 t111 r112 t113 r114 t115 hm3 hw hT hF hl
      refine lv_iload hx hb dX10_layRoads_3 (lv_at hl 4 rfl) ?_
      refine lv_bipush (v := 10) hx hb dX10_layRoads_5 (by decide) ?_
      refine lv_icmp_ge (tgt := 24) hx hb dX10_layRoads_7 (by decide) (fun c116 => ?_) (fun c116 => ?_)
      · have c116 : (10 : Int) ≤ v3_4.toInt := wk_le.mp c116
        refine lv_iconst (v := 0) hx hb dX10_layRoads_24 (by decide) ?_
        refine lv_istore (lv' := [(4, .int 0), (0, .ref (ad 158)), (1, .int a1), (2, .int a2), (3, .int (-1))]) hx hb dX10_layRoads_25 hl (by decide) rfl (fun ls hl => ?_)
        exact L27 ((12 - (0 : Int)).toNat + 1) 0 H locs ls w109 (show 0 ≤ a1.toInt by omega) (show a1.toInt ≤ 2 by omega) (show 0 ≤ a2.toInt by omega) (show a2.toInt ≤ 127 by omega) (by decide) (by decide) (Nat.lt_succ_self _) hw hT hF  (lv_sub hl [1, 2, 3, 4, 0] rfl)
      · have c116 : v3_4.toInt < (10 : Int) := wk_leF c116
        refine lv_aload_n hx hb dX10_layRoads_10 rfl (lv_at hl 0 rfl) ?_
        refine tk_getA hC hK hw hT hinX10 kC_at158 (by decide) rfl 3 (by decide) (List.mem_of_getElem? (i := 1) rfl) rfl rfl dX10_layRoads_11 ?_
        refine lv_iload hx hb dX10_layRoads_14 (lv_at hl 4 rfl) ?_
        refine lv_iconst (v := 0) hx hb dX10_layRoads_16 (by decide) ?_
        refine tk_iast hC hK hw hT kC_at160 (by decide) rfl rfl (show 0 ≤ v3_4.toInt by omega) (show v3_4.toInt < 10 by omega) (by decide) (by decide) dX10_layRoads_17 (fun H locs w117 hw hT k119 c118 => ?_)
        have hF := hF.put kC_at160 (inE_of (a := 0) (b := 10) (by decide) (show 0 ≤ v3_4.toInt.toNat by omega) (show v3_4.toInt.toNat ≤ 10 by omega)) k119
        obtain ⟨x120, ex120⟩ : ∃ y : Int32, y = v3_4 + Int32.ofInt 1 := ⟨_, rfl⟩
        refine lv_iinc (v := x120) (lv' := [(4, .int x120), (0, .ref (ad 158)), (1, .int a1), (2, .int a2), (3, .int (-1))]) hx hb dX10_layRoads_18 hl (k := 4) rfl ex120.symm (by decide) rfl (fun ls hl => ?_)
        have ex120 : x120.toInt = v3_4.toInt + 1 := by rw [ex120]; exact wk_add (y := 1) (show -2147483648 ≤ v3_4.toInt + 1 by omega) (show v3_4.toInt + 1 ≤ 2147483647 by omega)
        refine lv_goto (tgt := 3) hx hb dX10_layRoads_21 (by decide) ?_
        exact ih3 x120 H locs ls w117 (show 0 ≤ a1.toInt by omega) (show a1.toInt ≤ 2 by omega) (show 0 ≤ a2.toInt by omega) (show a2.toInt ≤ 127 by omega) (show 0 ≤ x120.toInt by omega) (show x120.toInt ≤ 10 by omega) (show (10 - x120.toInt).toNat < n3 by omega) hw hT hF  (lv_sub hl [1, 2, 3, 4, 0] rfl)
  refine lv_iconst (v := 0) hx hb dX10_layRoads_0 (by decide) ?_
  refine lv_istore (lv' := [(4, .int 0), (0, .ref (ad 158)), (1, .int a1), (2, .int a2), (3, .int (-1))]) hx hb dX10_layRoads_1 hl (by decide) rfl (fun ls hl => ?_)
  exact L3 ((10 - (0 : Int)).toNat + 1) 0 s.heap locs ls w0 (show 0 ≤ a1.toInt by omega) (show a1.toInt ≤ 2 by omega) (show 0 ≤ a2.toInt by omega) (show a2.toInt ≤ 127 by omega) (by decide) (by decide) (Nat.lt_succ_self _) hw hT hF  (lv_sub hl [1, 2, 3, 4, 0] rfl)
abbrev P_X10_leastBelow_39 (ad : Nat → Nat) (cy : Nat → ClassId) (B : Int) (qr : Nat) (s1 : Int) (a1 : Int32) (a2 : Int32) (w0 : va_W) : Int32 → va_W → Prop := fun r u => TW ksC ad cy B qr s1 u ∧ FE ksC [(51, 0, 10)] w0 u ∧ ((0 ≤ r.toInt ∧ r.toInt ≤ 127) ∨ (r = (-1) ∧ (∃ y : Int32, gi u 38 10 = y ∧ 1 ≤ y.toInt ∧ y.toInt ≤ 6)))
set_option maxHeartbeats 4000000 in
set_option maxRecDepth 100000 in
theorem k_X10_leastBelow_39 (l : Launch) (adK adV : Nat → Nat) (dC : Nat → ClassId) (dI : Nat → Nat → Nat) (cy : Nat → ClassId) (ad : Nat → Nat) (B : Int) (hB0 : 2147483648 ≤ B) (hB1 : B ≤ 1152921504606846976) (qr : Nat) (s1 : Int)  (a1 : Int32) (ra1 : 0 ≤ a1.toInt) (ta1 : a1.toInt ≤ 2) (a2 : Int32) (ra2 : 0 ≤ a2.toInt) (ta2 : a2.toInt ≤ 127) (w0 : va_W) (sz : Nat) (hT : TW ksC ad cy B qr s1 w0)  : Met l yX10_leastBelow wsX10_leastBelow ({ frames := 5, cells := 0, slots := 0, locals := 105 }) (va_Pc [.ref (ad 158), .int a1, .int a2] (wpreS adK adV dC dI cy sz w0)) (va_Qi (P_X10_leastBelow_39 ad cy B qr s1 a1 a2 w0) (fun u : va_W => wpost dC dI cy (va_A w0 sz) u) (va_A w0 sz)) 0 0 (va_A w0 sz) := by
  refine Met.ofW (cc := cX10_leastBelow) (maxL := 4) (ret := (some .int)) (by decide) rfl ?_
  intro p e s m args below meth c s₁ Bk hml hv
  obtain ⟨rfl, ⟨hsz, hP, hK, hD0⟩, hE, hSR⟩ := hv
  have hx := Bk.exec
  have hb := Bk.bytes
  have hr := Bk.returns
  have hlocks := Bk.notSynchronized
  have hC : CallFix p m c cX10_leastBelow 4 s _ wsX10_leastBelow RX10 := ⟨hx, hb, hml, findClass_of_methodNamed Bk.named, atoms_spec (ws := wsX10_leastBelow) Bk.pre⟩
  subst hsz
  have hD := hD0.self (sz := s.heap.size)
  generalize hAe : va_A w0 s.heap.size = A at hD hE ⊢
  have hA : ∀ q : Nat, s.heap.size ≤ q → A q := fun q h => by rw [← hAe]; exact Or.inr h
  have hw : Wd dC dI A s.heap s.heap [] w0 := ⟨hP, hD, va_S.rf⟩
  have hF : FE ksC [(51, 0, 10)] w0 w0 := FE.rf
  have hl := lv_entry ([.ref (ad 158), .int a1, .int a2]) (n := 4) (Nat.le_of_ble_eq_true rfl)
  rw [lg_entry_eq]
  generalize (lg_sl ([.ref (ad 158), .int a1, .int a2]) ++ List.replicate (4 - (lg_sl ([.ref (ad 158), .int a1, .int a2])).length) Slot.unset).toArray = ls at hl ⊢
  have hl : lv_has ls 4 [(0, .ref (ad 158)), (1, .int a1), (2, .int a2)] := hl
  generalize hloc : ([] : List Loc) = locs at hw ⊢
  have hinX10 : ∀ w ∈ u_ws RX10 TX10 5, w ∈ wsX10_leastBelow := fun _ h => List.mem_cons_of_mem _ (List.mem_append_left _ (List.mem_append_left _ (List.mem_append_right _ (h))))
  have hinX5 : ∀ w ∈ u_ws RX5 TX5 14, w ∈ wsX10_leastBelow := fun _ h => List.mem_cons_of_mem _ (List.mem_append_left _ (List.mem_append_right _ (h)))
  have L9 : ∀ (n9 : Nat) (v9_3 : Int32) (H : Heap) (locs : List Loc) (ls : Array Slot) (w1 : va_W), 0 ≤ a1.toInt → a1.toInt ≤ 2 → 0 ≤ a2.toInt → a2.toInt ≤ 127 → 0 ≤ v9_3.toInt → v9_3.toInt ≤ 6 → (6 - v9_3.toInt).toNat < n9 → Wd dC dI A s.heap H locs w1 → TW ksC ad cy B qr s1 w1 → FE ksC [(51, 0, 10)] w0 w1 → lv_has ls 4 [(0, .ref (ad 158)), (1, .int a1), (2, .int a2), (3, .int v9_3)] → W p l e ({ frames := 5, cells := 0, slots := 0, locals := 105 }) s m (List.toArray [.ref (ad 158), .int a1, .int a2]) below meth c H locs 0 0 (MQ below (va_Qi (P_X10_leastBelow_39 ad cy B qr s1 a1 a2 w0) (fun u : va_W => wpost dC dI cy A u) A) (List.toArray [.ref (ad 158), .int a1, .int a2]) s 0 0 A) (F0 m 9 ls []) := by
    intro n9
    induction n9 with
    | zero => intro v9_3 H locs ls w1 r2 t3 r4 t5 r6 t7 hm9 hw hT hF hl; omega
    | succ n9 ih9 =>
      intro v9_3 H locs ls w1 r2 t3 r4 t5 r6 t7 hm9 hw hT hF hl
      refine lv_iload_n hx hb dX10_leastBelow_9 rfl (lv_at hl 3 rfl) ?_
      refine lv_aload_n hx hb dX10_leastBelow_10 rfl (lv_at hl 0 rfl) ?_
      refine tk_getA hC hK hw hT hinX10 kC_at158 (by decide) rfl 0 (by decide) (List.mem_of_getElem? (i := 1) rfl) rfl rfl dX10_leastBelow_11 ?_
      refine tk_geti hC hK hw hT hinX5 kC_at38 (by decide) rfl 10 (by decide) (List.mem_of_getElem? (i := 2) rfl) rfl rfl dX10_leastBelow_14 (fun x8 c9 rx8 tx8 => ?_)
      refine lv_icmp_ge (tgt := 36) hx hb dX10_leastBelow_17 (by decide) (fun c10 => ?_) (fun c10 => ?_)
      · have c10 : x8.toInt ≤ v9_3.toInt := wk_le.mp c10
        refine lv_iload_n hx hb dX10_leastBelow_36 rfl (lv_at hl 1 rfl) ?_
        refine lv_if_gt (tgt := 42) hx hb dX10_leastBelow_37 (by decide) (fun c11 => ?_) (fun c11 => ?_)
        · have c11 : (0 : Int) < a1.toInt := wk_lt.mp c11
          refine lv_aload_n hx hb dX10_leastBelow_42 rfl (lv_at hl 0 rfl) ?_
          refine lv_iload_n hx hb dX10_leastBelow_43 rfl (lv_at hl 1 rfl) ?_
          refine lv_iconst (v := 1) hx hb dX10_leastBelow_44 (by decide) ?_
          refine lv_isub hx hb dX10_leastBelow_45 ?_
          refine lv_topi (fun x12 ex12 => ?_)
          have ex12 : x12.toInt = a1.toInt - (1 : Int) := by rw [ex12]; exact wk_sub (show (-2147483648) ≤ a1.toInt - (1 : Int) by omega) (show a1.toInt - (1 : Int) ≤ 2147483647 by omega)
          refine lv_iload_n hx hb dX10_leastBelow_46 rfl (lv_at hl 2 rfl) ?_
          refine tk_Vi hC hK hw hT hA hE hSR kC_at158 (by decide) rfl (k_X10_leastBelow_40 l adK adV dC dI cy ad B (by omega) (by omega) qr s1   x12 (show 0 ≤ x12.toInt by omega) (show x12.toInt ≤ 1 by omega) a2 (show 0 ≤ a2.toInt by omega) (show a2.toInt ≤ 127 by omega) w1 H.size hT ) (cwV 2 hC.2.2.2.2 gX10_leastBelow_X10_leastBelow rfl rfl rfl (by decide +kernel) ⟨Nat.le_of_ble_eq_true rfl, Nat.le_of_ble_eq_true rfl⟩) rfl hl.1 rfl (Nat.le_of_ble_eq_true rfl) dX10_leastBelow_47 (fun r13 w15 H locs hp14 hw => ?_)
          obtain ⟨hT, k16, hg21⟩ := hp14
          have hF := hF.tr k16 (by decide)
          have c22 := k16.gi kC_at38 (by decide) c9
          rcases hg21 with ⟨g17, g18⟩ | ⟨rfl, ⟨x19, c20, rx19, tx19⟩⟩
          · refine lv_istore_n (lv' := [(3, .int r13), (0, .ref (ad 158)), (1, .int a1), (2, .int a2)]) hx hb dX10_leastBelow_50 rfl hl (by decide) rfl (fun ls hl => ?_)
            refine lv_iload_n hx hb dX10_leastBelow_51 rfl (lv_at hl 0 rfl) ?_
            refine lv_iconst (v := (-1)) hx hb dX10_leastBelow_52 (by decide) ?_
            refine lv_icmp_eq (tgt := 60) hx hb dX10_leastBelow_53 (by decide) (fun c => absurd c (fun h => absurd (show r13.toInt = (-1 : Int) from wk_eq.mp h) (by omega))) (fun _ => ?_)
            refine lv_iload_n hx hb dX10_leastBelow_56 rfl (lv_at hl 0 rfl) ?_
            refine lv_goto (tgt := 74) hx hb dX10_leastBelow_57 (by decide) ?_
            exact tk_iret hC hr hlocks hK ⟨hT, hF, (Or.inl ⟨(show 0 ≤ r13.toInt by omega), (show r13.toInt ≤ 127 by omega)⟩)⟩ hw dX10_leastBelow_74
          · have ex19 : x19.toInt = x8.toInt := by rw [← c22.symm.trans c20]
            refine lv_istore_n (lv' := [(3, .int (-1)), (0, .ref (ad 158)), (1, .int a1), (2, .int a2)]) hx hb dX10_leastBelow_50 rfl hl (by decide) rfl (fun ls hl => ?_)
            refine lv_iload_n hx hb dX10_leastBelow_51 rfl (lv_at hl 0 rfl) ?_
            refine lv_iconst (v := (-1)) hx hb dX10_leastBelow_52 (by decide) ?_
            refine lv_icmp_eq (tgt := 60) hx hb dX10_leastBelow_53 (by decide) (fun _ => ?_) (fun c => absurd (by decide) c)
            refine lv_aload_n hx hb dX10_leastBelow_60 rfl (lv_at hl 1 rfl) ?_
            refine lv_iload_n hx hb dX10_leastBelow_61 rfl (lv_at hl 2 rfl) ?_
            refine lv_iconst (v := 1) hx hb dX10_leastBelow_62 (by decide) ?_
            refine lv_isub hx hb dX10_leastBelow_63 ?_
            refine lv_topi (fun x23 ex23 => ?_)
            have ex23 : x23.toInt = a1.toInt - (1 : Int) := by rw [ex23]; exact wk_sub (show (-2147483648) ≤ a1.toInt - (1 : Int) by omega) (show a1.toInt - (1 : Int) ≤ 2147483647 by omega)
            refine lv_iload_n hx hb dX10_leastBelow_64 rfl (lv_at hl 3 rfl) ?_
            refine lv_iconst (v := 1) hx hb dX10_leastBelow_65 (by decide) ?_
            refine lv_iload_n hx hb dX10_leastBelow_66 rfl (lv_at hl 2 rfl) ?_
            refine lv_iconst (v := 1) hx hb dX10_leastBelow_67 (by decide) ?_
            refine lv_isub hx hb dX10_leastBelow_68 ?_
            refine lv_topi (fun x24 ex24 => ?_)
            have ex24 : x24.toInt = a1.toInt - (1 : Int) := by rw [ex24]; exact wk_sub (show (-2147483648) ≤ a1.toInt - (1 : Int) by omega) (show a1.toInt - (1 : Int) ≤ 2147483647 by omega)
            refine lv_ishl hx hb dX10_leastBelow_69 ?_
            refine lv_topi (fun x25 ex25 => ?_)
            have bx25 : 1 ≤ x25.toInt ∧ x25.toInt ≤ 2 := by rw [ex25]; exact wk_shl1 1 (by decide) (by omega) (by omega)
            refine lv_ior hx hb dX10_leastBelow_70 ?_
            refine lv_topi (fun x26 ex26 => ?_)
            have bx26 : 0 ≤ x26.toInt ∧ x26.toInt < 128 := by rw [ex26]; exact wk_or 7 (by decide) (by omega) (by omega) (by omega) (by omega)
            refine tk_Vi hC hK hw hT hA hE hSR kC_at158 (by decide) rfl (k_X10_leastBelow_40 l adK adV dC dI cy ad B (by omega) (by omega) qr s1   x23 (show 0 ≤ x23.toInt by omega) (show x23.toInt ≤ 1 by omega) x26 (show 0 ≤ x26.toInt by omega) (show x26.toInt ≤ 127 by omega) w15 H.size hT ) (cwV 2 hC.2.2.2.2 gX10_leastBelow_X10_leastBelow rfl rfl rfl (by decide +kernel) ⟨Nat.le_of_ble_eq_true rfl, Nat.le_of_ble_eq_true rfl⟩) rfl hl.1 rfl (Nat.le_of_ble_eq_true rfl) dX10_leastBelow_71 (fun r27 w29 H locs hp28 hw => ?_)
            obtain ⟨hT, k30, hg35⟩ := hp28
            have hF := hF.tr k30 (by decide)
            have c36 := k30.gi kC_at38 (by decide) c22
            rcases hg35 with ⟨g31, g32⟩ | ⟨rfl, ⟨x33, c34, rx33, tx33⟩⟩
            · exact tk_iret hC hr hlocks hK ⟨hT, hF, (Or.inl ⟨(show 0 ≤ r27.toInt by omega), (show r27.toInt ≤ 127 by omega)⟩)⟩ hw dX10_leastBelow_74
            · have ex33 : x33.toInt = x8.toInt := by rw [← c36.symm.trans c34]
              exact tk_iret hC hr hlocks hK ⟨hT, hF, (Or.inr ⟨rfl, ⟨x8, c36, (show 1 ≤ x8.toInt by omega), (show x8.toInt ≤ 6 by omega)⟩⟩)⟩ hw dX10_leastBelow_74
        · have c11 : a1.toInt ≤ (0 : Int) := wk_ltF c11
          refine lv_iload_n hx hb dX10_leastBelow_40 rfl (lv_at hl 2 rfl) ?_
          exact tk_iret hC hr hlocks hK ⟨hT, hF, (Or.inl ⟨(show 0 ≤ a2.toInt by omega), (show a2.toInt ≤ 127 by omega)⟩)⟩ hw dX10_leastBelow_41
      · have c10 : v9_3.toInt < x8.toInt := wk_leF c10
        refine lv_aload_n hx hb dX10_leastBelow_20 rfl (lv_at hl 0 rfl) ?_
        refine lv_iload_n hx hb dX10_leastBelow_21 rfl (lv_at hl 3 rfl) ?_
        refine tk_Vi hC hK hw hT hA hE hSR kC_at158 (by decide) rfl (k_X10_canDo_1 l adK adV dC dI cy ad B (by omega) (by omega) qr s1   v9_3 (show 0 ≤ v9_3.toInt by omega) (show v9_3.toInt ≤ 5 by omega) w1 H.size hT ) (cwV 1 hC.2.2.2.2 gX10_leastBelow_X10_canDo rfl rfl rfl (by decide +kernel) ⟨Nat.le_of_ble_eq_true rfl, Nat.le_of_ble_eq_true rfl⟩) rfl hl.1 rfl (Nat.le_of_ble_eq_true rfl) dX10_leastBelow_22 (fun r37 w39 H locs hp38 hw => ?_)
        obtain ⟨hT, k40, hg41⟩ := hp38
        have hF := hF.tr k40 (by decide)
        have c42 := k40.gi kC_at38 (by decide) c9
        rcases hg41 with rfl | rfl
        · refine lv_if_ne (tgt := 30) hx hb dX10_leastBelow_25 (by decide) (fun c => absurd (by decide) c) (fun _ => ?_)
          refine lv_iconst (v := (-1)) hx hb dX10_leastBelow_28 (by decide) ?_
          exact tk_iret hC hr hlocks hK ⟨hT, hF, (Or.inr ⟨rfl, ⟨x8, c42, (show 1 ≤ x8.toInt by omega), (show x8.toInt ≤ 6 by omega)⟩⟩)⟩ hw dX10_leastBelow_29
        · refine lv_if_ne (tgt := 30) hx hb dX10_leastBelow_25 (by decide) (fun _ => ?_) (fun c => absurd c (by decide))
          obtain ⟨x43, ex43⟩ : ∃ y : Int32, y = v9_3 + Int32.ofInt 1 := ⟨_, rfl⟩
          refine lv_iinc (v := x43) (lv' := [(3, .int x43), (0, .ref (ad 158)), (1, .int a1), (2, .int a2)]) hx hb dX10_leastBelow_30 hl (k := 3) rfl ex43.symm (by decide) rfl (fun ls hl => ?_)
          have ex43 : x43.toInt = v9_3.toInt + 1 := by rw [ex43]; exact wk_add (y := 1) (show -2147483648 ≤ v9_3.toInt + 1 by omega) (show v9_3.toInt + 1 ≤ 2147483647 by omega)
          refine lv_goto (tgt := 9) hx hb dX10_leastBelow_33 (by decide) ?_
          exact ih9 x43 H locs ls w39 (show 0 ≤ a1.toInt by omega) (show a1.toInt ≤ 2 by omega) (show 0 ≤ a2.toInt by omega) (show a2.toInt ≤ 127 by omega) (show 0 ≤ x43.toInt by omega) (show x43.toInt ≤ 6 by omega) (show (6 - x43.toInt).toNat < n9 by omega) hw hT hF  (lv_sub hl [1, 2, 3, 0] rfl)
  refine lv_aload_n hx hb dX10_leastBelow_0 rfl (lv_at hl 0 rfl) ?_
  refine lv_iload_n hx hb dX10_leastBelow_1 rfl (lv_at hl 1 rfl) ?_
  refine lv_iload_n hx hb dX10_leastBelow_2 rfl (lv_at hl 2 rfl) ?_
  refine lv_iconst (v := (-1)) hx hb dX10_leastBelow_3 (by decide) ?_
  refine tk_Vv hC hK hw hT hA hE hSR kC_at158 (by decide) rfl (k_X10_layRoads_33 l adK adV dC dI cy ad B (by omega) (by omega) qr s1   a1 (show 0 ≤ a1.toInt by omega) (show a1.toInt ≤ 2 by omega) a2 (show 0 ≤ a2.toInt by omega) (show a2.toInt ≤ 127 by omega) w0 s.heap.size hT ) (cwV 3 hC.2.2.2.2 gX10_leastBelow_X10_layRoads rfl rfl rfl (by decide +kernel) ⟨Nat.le_of_ble_eq_true rfl, Nat.le_of_ble_eq_true rfl⟩) rfl hl.1 rfl (Nat.le_of_ble_eq_true rfl) dX10_leastBelow_4 (fun w46 H locs hp45 hw => ?_)
  obtain ⟨hT, k47, hg48⟩ := hp45
  have hF := hF.tr k47 (by decide)
  clear hg48
  refine lv_iconst (v := 0) hx hb dX10_leastBelow_7 (by decide) ?_
  refine lv_istore_n (lv' := [(3, .int 0), (0, .ref (ad 158)), (1, .int a1), (2, .int a2)]) hx hb dX10_leastBelow_8 rfl hl (by decide) rfl (fun ls hl => ?_)
  exact L9 ((6 - (0 : Int)).toNat + 1) 0 H locs ls w46 (show 0 ≤ a1.toInt by omega) (show a1.toInt ≤ 2 by omega) (show 0 ≤ a2.toInt by omega) (show a2.toInt ≤ 127 by omega) (by decide) (by decide) (Nat.lt_succ_self _) hw hT hF  (lv_sub hl [1, 2, 3, 0] rfl)
abbrev P_X10_layRoads_34 (ad : Nat → Nat) (cy : Nat → ClassId) (B : Int) (qr : Nat) (s1 : Int) (a1 : Int32) (a2 : Int32) (w0 : va_W) : va_W → Prop := fun u => TW ksC ad cy B qr s1 u ∧ FE ksC [(51, 0, 10)] w0 u ∧ ((True))
set_option maxHeartbeats 4000000 in
set_option maxRecDepth 100000 in
theorem k_X10_layRoads_34 (l : Launch) (adK adV : Nat → Nat) (dC : Nat → ClassId) (dI : Nat → Nat → Nat) (cy : Nat → ClassId) (ad : Nat → Nat) (B : Int) (hB0 : 2147483648 ≤ B) (hB1 : B ≤ 1152921504606846976) (qr : Nat) (s1 : Int)  (a1 : Int32) (ra1 : 0 ≤ a1.toInt) (ta1 : a1.toInt ≤ 3) (a2 : Int32) (ra2 : 0 ≤ a2.toInt) (ta2 : a2.toInt ≤ 127) (w0 : va_W) (sz : Nat) (hT : TW ksC ad cy B qr s1 w0)  : Met l yX10_layRoads wsX10_layRoads ({ frames := 1, cells := 0, slots := 0, locals := 12 }) (va_Pc [.ref (ad 158), .int a1, .int a2, .int (-1)] (wpreS adK adV dC dI cy sz w0)) (va_Qv (P_X10_layRoads_34 ad cy B qr s1 a1 a2 w0) (fun u : va_W => wpost dC dI cy (va_A w0 sz) u) (va_A w0 sz)) 0 0 (va_A w0 sz) := by
  refine Met.ofW (cc := cX10_layRoads) (maxL := 8) (ret := none) (by decide) rfl ?_
  intro p e s m args below meth c s₁ Bk hml hv
  obtain ⟨rfl, ⟨hsz, hP, hK, hD0⟩, hE, hSR⟩ := hv
  have hx := Bk.exec
  have hb := Bk.bytes
  have hr := Bk.returns
  have hlocks := Bk.notSynchronized
  have hC : CallFix p m c cX10_layRoads 8 s _ wsX10_layRoads RX10 := ⟨hx, hb, hml, findClass_of_methodNamed Bk.named, atoms_spec (ws := wsX10_layRoads) Bk.pre⟩
  subst hsz
  have hD := hD0.self (sz := s.heap.size)
  generalize hAe : va_A w0 s.heap.size = A at hD hE ⊢
  have hA : ∀ q : Nat, s.heap.size ≤ q → A q := fun q h => by rw [← hAe]; exact Or.inr h
  have hw : Wd dC dI A s.heap s.heap [] w0 := ⟨hP, hD, va_S.rf⟩
  have hF : FE ksC [(51, 0, 10)] w0 w0 := FE.rf
  have hl := lv_entry ([.ref (ad 158), .int a1, .int a2, .int (-1)]) (n := 8) (Nat.le_of_ble_eq_true rfl)
  rw [lg_entry_eq]
  generalize (lg_sl ([.ref (ad 158), .int a1, .int a2, .int (-1)]) ++ List.replicate (8 - (lg_sl ([.ref (ad 158), .int a1, .int a2, .int (-1)])).length) Slot.unset).toArray = ls at hl ⊢
  have hl : lv_has ls 8 [(0, .ref (ad 158)), (1, .int a1), (2, .int a2), (3, .int (-1))] := hl
  generalize hloc : ([] : List Loc) = locs at hw ⊢
  have hinX10 : ∀ w ∈ u_ws RX10 TX10 5, w ∈ wsX10_layRoads := fun _ h => List.mem_cons_of_mem _ (List.mem_append_left _ (List.mem_append_right _ (h)))
  have hinX7 : ∀ w ∈ u_ws RX7 TX7 12, w ∈ wsX10_layRoads := fun _ h => List.mem_cons_of_mem _ (List.mem_append_right _ (h))
  have L27 : ∀ (n27 : Nat) (v27_4 : Int32) (H : Heap) (locs : List Loc) (ls : Array Slot) (w1 : va_W), 0 ≤ a1.toInt → a1.toInt ≤ 3 → 0 ≤ a2.toInt → a2.toInt ≤ 127 → 0 ≤ v27_4.toInt → v27_4.toInt ≤ 12 → (12 - v27_4.toInt).toNat < n27 → Wd dC dI A s.heap H locs w1 → TW ksC ad cy B qr s1 w1 → FE ksC [(51, 0, 10)] w0 w1 → lv_has ls 8 [(0, .ref (ad 158)), (1, .int a1), (2, .int a2), (3, .int (-1)), (4, .int v27_4)] → W p l e ({ frames := 1, cells := 0, slots := 0, locals := 12 }) s m (List.toArray [.ref (ad 158), .int a1, .int a2, .int (-1)]) below meth c H locs 0 0 (MQ below (va_Qv (P_X10_layRoads_34 ad cy B qr s1 a1 a2 w0) (fun u : va_W => wpost dC dI cy A u) A) (List.toArray [.ref (ad 158), .int a1, .int a2, .int (-1)]) s 0 0 A) (F0 m 27 ls []) := by
    intro n27
    induction n27 with
    | zero => intro v27_4 H locs ls w1 r2 t3 r4 t5 r6 t7 hm27 hw hT hF hl; omega
    | succ n27 ih27 =>
      intro v27_4 H locs ls w1 r2 t3 r4 t5 r6 t7 hm27 hw hT hF hl
      have J144 : ∀ (v144_5 : Int32) (v144_6 : Int32) (v144_7 : Int32) (f144_158_4 : Int32) (H : Heap) (locs : List Loc) (ls : Array Slot) (w8 : va_W), 0 ≤ a1.toInt → a1.toInt ≤ 3 → 0 ≤ a2.toInt → a2.toInt ≤ 127 → 0 ≤ v27_4.toInt → v27_4.toInt ≤ 11 → 0 ≤ v144_5.toInt → v144_5.toInt ≤ 9 → 0 ≤ v144_6.toInt → v144_6.toInt ≤ 9 → 0 ≤ v144_7.toInt → v144_7.toInt ≤ 1 → 1 ≤ f144_158_4.toInt → f144_158_4.toInt ≤ 12 → Wd dC dI A s.heap H locs w8 → TW ksC ad cy B qr s1 w8 → FE ksC [(51, 0, 10)] w0 w8 → gi w8 158 4 = f144_158_4 → lv_has ls 8 [(0, .ref (ad 158)), (1, .int a1), (2, .int a2), (3, .int (-1)), (4, .int v27_4), (5, .int v144_5), (6, .int v144_6), (7, .int v144_7)] → W p l e ({ frames := 1, cells := 0, slots := 0, locals := 12 }) s m (List.toArray [.ref (ad 158), .int a1, .int a2, .int (-1)]) below meth c H locs 0 0 (MQ below (va_Qv (P_X10_layRoads_34 ad cy B qr s1 a1 a2 w0) (fun u : va_W => wpost dC dI cy A u) A) (List.toArray [.ref (ad 158), .int a1, .int a2, .int (-1)]) s 0 0 A) (F0 m 144 ls []) := by
        intro v144_5 v144_6 v144_7 f144_158_4 H locs ls w8 r9 t10 r11 t12 r13 t14 r15 t16 r17 t18 r19 t20 r21 t22 hw hT hF c23 hl
        obtain ⟨x24, ex24⟩ : ∃ y : Int32, y = v27_4 + Int32.ofInt 1 := ⟨_, rfl⟩
        refine lv_iinc (v := x24) (lv' := [(4, .int x24), (0, .ref (ad 158)), (1, .int a1), (2, .int a2), (3, .int (-1)), (5, .int v144_5), (6, .int v144_6), (7, .int v144_7)]) hx hb dX10_layRoads_144 hl (k := 4) rfl ex24.symm (by decide) rfl (fun ls hl => ?_)
        have ex24 : x24.toInt = v27_4.toInt + 1 := by rw [ex24]; exact wk_add (y := 1) (show -2147483648 ≤ v27_4.toInt + 1 by omega) (show v27_4.toInt + 1 ≤ 2147483647 by omega)
        refine lv_goto (tgt := 27) hx hb dX10_layRoads_147 (by decide) ?_
        exact ih27 x24 H locs ls w8 (show 0 ≤ a1.toInt by omega) (show a1.toInt ≤ 3 by omega) (show 0 ≤ a2.toInt by omega) (show a2.toInt ≤ 127 by omega) (show 0 ≤ x24.toInt by omega) (show x24.toInt ≤ 12 by omega) (show (12 - x24.toInt).toNat < n27 by omega) hw hT hF  (lv_sub hl [1, 2, 3, 4, 0] rfl)
      have J130 : ∀ (v130_5 : Int32) (v130_6 : Int32) (v130_7 : Int32) (f130_158_4 : Int32) (H : Heap) (locs : List Loc) (ls : Array Slot) (w25 : va_W), 0 ≤ a1.toInt → a1.toInt ≤ 3 → 0 ≤ a2.toInt → a2.toInt ≤ 127 → 0 ≤ v27_4.toInt → v27_4.toInt ≤ 11 → 0 ≤ v130_5.toInt → v130_5.toInt ≤ 9 → 0 ≤ v130_6.toInt → v130_6.toInt ≤ 9 → 0 ≤ v130_7.toInt → v130_7.toInt ≤ 1 → 1 ≤ f130_158_4.toInt → f130_158_4.toInt ≤ 12 → Wd dC dI A s.heap H locs w25 → TW ksC ad cy B qr s1 w25 → FE ksC [(51, 0, 10)] w0 w25 → gi w25 158 4 = f130_158_4 → lv_has ls 8 [(0, .ref (ad 158)), (1, .int a1), (2, .int a2), (3, .int (-1)), (4, .int v27_4), (5, .int v130_5), (6, .int v130_6), (7, .int v130_7)] → W p l e ({ frames := 1, cells := 0, slots := 0, locals := 12 }) s m (List.toArray [.ref (ad 158), .int a1, .int a2, .int (-1)]) below meth c H locs 0 0 (MQ below (va_Qv (P_X10_layRoads_34 ad cy B qr s1 a1 a2 w0) (fun u : va_W => wpost dC dI cy A u) A) (List.toArray [.ref (ad 158), .int a1, .int a2, .int (-1)]) s 0 0 A) (F0 m 130 ls []) := by
        intro v130_5 v130_6 v130_7 f130_158_4 H locs ls w25 r26 t27 r28 t29 r30 t31 r32 t33 r34 t35 r36 t37 r38 t39 hw hT hF c40 hl
        refine lv_aload_n hx hb dX10_layRoads_130 rfl (lv_at hl 0 rfl) ?_
        refine tk_getA hC hK hw hT hinX10 kC_at158 (by decide) rfl 3 (by decide) (List.mem_of_getElem? (i := 1) rfl) rfl rfl dX10_layRoads_131 ?_
        refine lv_iload hx hb dX10_layRoads_134 (lv_at hl 6 rfl) ?_
        refine lv_dup2_11 hx hb dX10_layRoads_136 rfl rfl ?_
        refine tk_iald hC hK hw hT kC_at160 rfl rfl (show 0 ≤ v130_6.toInt by omega) (show v130_6.toInt < 10 by omega) dX10_layRoads_137 (fun x41 c42 rx41 tx41 => ?_)
        refine lv_iconst (v := 1) hx hb dX10_layRoads_138 (by decide) ?_
        refine lv_iload hx hb dX10_layRoads_139 (lv_at hl 5 rfl) ?_
        refine lv_ishl hx hb dX10_layRoads_141 ?_
        refine lv_topi (fun x43 ex43 => ?_)
        have bx43 : 1 ≤ x43.toInt ∧ x43.toInt ≤ 512 := by rw [ex43]; exact wk_shl1 9 (by decide) (by omega) (by omega)
        refine lv_ior hx hb dX10_layRoads_142 ?_
        refine lv_topi (fun x44 ex44 => ?_)
        have bx44 : 0 ≤ x44.toInt ∧ x44.toInt < 1024 := by rw [ex44]; exact wk_or 10 (by decide) (by omega) (by omega) (by omega) (by omega)
        refine tk_iast hC hK hw hT kC_at160 (by decide) rfl rfl (show 0 ≤ v130_6.toInt by omega) (show v130_6.toInt < 10 by omega) (show 0 ≤ x44.toInt by omega) (show x44.toInt ≤ 1023 by omega) dX10_layRoads_143 (fun H locs w45 hw hT k47 c46 => ?_)
        have hF := hF.put kC_at160 (inE_of (a := 0) (b := 10) (by decide) (show 0 ≤ v130_6.toInt.toNat by omega) (show v130_6.toInt.toNat ≤ 10 by omega)) k47
        have c48 := k47.gi (Or.inl (tk_ne kC_at158 kC_at160 (by decide))) c40
        exact J144 v130_5 v130_6 v130_7 f130_158_4 H locs ls w45 (show 0 ≤ a1.toInt by omega) (show a1.toInt ≤ 3 by omega) (show 0 ≤ a2.toInt by omega) (show a2.toInt ≤ 127 by omega) (show 0 ≤ v27_4.toInt by omega) (show v27_4.toInt ≤ 11 by omega) (show 0 ≤ v130_5.toInt by omega) (show v130_5.toInt ≤ 9 by omega) (show 0 ≤ v130_6.toInt by omega) (show v130_6.toInt ≤ 9 by omega) (show 0 ≤ v130_7.toInt by omega) (show v130_7.toInt ≤ 1 by omega) (show 1 ≤ f130_158_4.toInt by omega) (show f130_158_4.toInt ≤ 12 by omega)  hw hT hF c48 (lv_sub hl [0, 1, 2, 3, 4, 5, 6, 7] rfl)
      have J118 : ∀ (v118_5 : Int32) (v118_6 : Int32) (v118_7 : Int32) (f118_158_4 : Int32) (H : Heap) (locs : List Loc) (ls : Array Slot) (w49 : va_W), 0 ≤ a1.toInt → a1.toInt ≤ 3 → 0 ≤ a2.toInt → a2.toInt ≤ 127 → 0 ≤ v27_4.toInt → v27_4.toInt ≤ 11 → 0 ≤ v118_5.toInt → v118_5.toInt ≤ 9 → 0 ≤ v118_6.toInt → v118_6.toInt ≤ 9 → 0 ≤ v118_7.toInt → v118_7.toInt ≤ 1 → 1 ≤ f118_158_4.toInt → f118_158_4.toInt ≤ 12 → Wd dC dI A s.heap H locs w49 → TW ksC ad cy B qr s1 w49 → FE ksC [(51, 0, 10)] w0 w49 → gi w49 158 4 = f118_158_4 → lv_has ls 8 [(0, .ref (ad 158)), (1, .int a1), (2, .int a2), (3, .int (-1)), (4, .int v27_4), (5, .int v118_5), (6, .int v118_6), (7, .int v118_7)] → W p l e ({ frames := 1, cells := 0, slots := 0, locals := 12 }) s m (List.toArray [.ref (ad 158), .int a1, .int a2, .int (-1)]) below meth c H locs 0 0 (MQ below (va_Qv (P_X10_layRoads_34 ad cy B qr s1 a1 a2 w0) (fun u : va_W => wpost dC dI cy A u) A) (List.toArray [.ref (ad 158), .int a1, .int a2, .int (-1)]) s 0 0 A) (F0 m 118 ls []) := by
        intro v118_5 v118_6 v118_7 f118_158_4 H locs ls w49 r50 t51 r52 t53 r54 t55 r56 t57 r58 t59 r60 t61 r62 t63 hw hT hF c64 hl
        refine lv_iload hx hb dX10_layRoads_118 (lv_at hl 4 rfl) ?_
        refine lv_iload_n hx hb dX10_layRoads_120 rfl (lv_at hl 1 rfl) ?_
        refine lv_icmp_lt (tgt := 130) hx hb dX10_layRoads_121 (by decide) (fun c65 => ?_) (fun c65 => ?_)
        · have c65 : v27_4.toInt < a1.toInt := wk_lt.mp c65
          exact J130 v118_5 v118_6 v118_7 f118_158_4 H locs ls w49 (show 0 ≤ a1.toInt by omega) (show a1.toInt ≤ 3 by omega) (show 0 ≤ a2.toInt by omega) (show a2.toInt ≤ 127 by omega) (show 0 ≤ v27_4.toInt by omega) (show v27_4.toInt ≤ 11 by omega) (show 0 ≤ v118_5.toInt by omega) (show v118_5.toInt ≤ 9 by omega) (show 0 ≤ v118_6.toInt by omega) (show v118_6.toInt ≤ 9 by omega) (show 0 ≤ v118_7.toInt by omega) (show v118_7.toInt ≤ 1 by omega) (show 1 ≤ f118_158_4.toInt by omega) (show f118_158_4.toInt ≤ 12 by omega)  hw hT hF c64 (lv_sub hl [0, 1, 2, 3, 4, 5, 6, 7] rfl)
        · have c65 : a1.toInt ≤ v27_4.toInt := wk_ltF c65
          refine lv_iload hx hb dX10_layRoads_124 (lv_at hl 7 rfl) ?_
          refine lv_iconst (v := 1) hx hb dX10_layRoads_126 (by decide) ?_
          refine lv_icmp_ne (tgt := 144) hx hb dX10_layRoads_127 (by decide) (fun c66 => ?_) (fun c66 => ?_)
          · have c66 : ¬ v118_7.toInt = (1 : Int) := wk_eqF c66
            exact J144 v118_5 v118_6 v118_7 f118_158_4 H locs ls w49 (show 0 ≤ a1.toInt by omega) (show a1.toInt ≤ 3 by omega) (show 0 ≤ a2.toInt by omega) (show a2.toInt ≤ 127 by omega) (show 0 ≤ v27_4.toInt by omega) (show v27_4.toInt ≤ 11 by omega) (show 0 ≤ v118_5.toInt by omega) (show v118_5.toInt ≤ 9 by omega) (show 0 ≤ v118_6.toInt by omega) (show v118_6.toInt ≤ 9 by omega) (show 0 ≤ v118_7.toInt by omega) (show v118_7.toInt ≤ 1 by omega) (show 1 ≤ f118_158_4.toInt by omega) (show f118_158_4.toInt ≤ 12 by omega)  hw hT hF c64 (lv_sub hl [0, 1, 2, 3, 4, 5, 6, 7] rfl)
          · have c66 : v118_7.toInt = (1 : Int) := wk_eq.mp c66
            exact J130 v118_5 v118_6 v118_7 f118_158_4 H locs ls w49 (show 0 ≤ a1.toInt by omega) (show a1.toInt ≤ 3 by omega) (show 0 ≤ a2.toInt by omega) (show a2.toInt ≤ 127 by omega) (show 0 ≤ v27_4.toInt by omega) (show v27_4.toInt ≤ 11 by omega) (show 0 ≤ v118_5.toInt by omega) (show v118_5.toInt ≤ 9 by omega) (show 0 ≤ v118_6.toInt by omega) (show v118_6.toInt ≤ 9 by omega) (show 0 ≤ v118_7.toInt by omega) (show v118_7.toInt ≤ 1 by omega) (show 1 ≤ f118_158_4.toInt by omega) (show f118_158_4.toInt ≤ 12 by omega)  hw hT hF c64 (lv_sub hl [0, 1, 2, 3, 4, 5, 6, 7] rfl)
      have J104 : ∀ (v104_5 : Int32) (v104_6 : Int32) (v104_7 : Int32) (f104_158_4 : Int32) (H : Heap) (locs : List Loc) (ls : Array Slot) (w67 : va_W), 0 ≤ a1.toInt → a1.toInt ≤ 3 → 0 ≤ a2.toInt → a2.toInt ≤ 127 → 0 ≤ v27_4.toInt → v27_4.toInt ≤ 11 → 0 ≤ v104_5.toInt → v104_5.toInt ≤ 9 → 0 ≤ v104_6.toInt → v104_6.toInt ≤ 9 → 0 ≤ v104_7.toInt → v104_7.toInt ≤ 1 → 1 ≤ f104_158_4.toInt → f104_158_4.toInt ≤ 12 → Wd dC dI A s.heap H locs w67 → TW ksC ad cy B qr s1 w67 → FE ksC [(51, 0, 10)] w0 w67 → gi w67 158 4 = f104_158_4 → lv_has ls 8 [(0, .ref (ad 158)), (1, .int a1), (2, .int a2), (3, .int (-1)), (4, .int v27_4), (5, .int v104_5), (6, .int v104_6), (7, .int v104_7)] → W p l e ({ frames := 1, cells := 0, slots := 0, locals := 12 }) s m (List.toArray [.ref (ad 158), .int a1, .int a2, .int (-1)]) below meth c H locs 0 0 (MQ below (va_Qv (P_X10_layRoads_34 ad cy B qr s1 a1 a2 w0) (fun u : va_W => wpost dC dI cy A u) A) (List.toArray [.ref (ad 158), .int a1, .int a2, .int (-1)]) s 0 0 A) (F0 m 104 ls []) := by
        intro v104_5 v104_6 v104_7 f104_158_4 H locs ls w67 r68 t69 r70 t71 r72 t73 r74 t75 r76 t77 r78 t79 r80 t81 hw hT hF c82 hl
        refine lv_aload_n hx hb dX10_layRoads_104 rfl (lv_at hl 0 rfl) ?_
        refine tk_getA hC hK hw hT hinX10 kC_at158 (by decide) rfl 3 (by decide) (List.mem_of_getElem? (i := 1) rfl) rfl rfl dX10_layRoads_105 ?_
        refine lv_iload hx hb dX10_layRoads_108 (lv_at hl 5 rfl) ?_
        refine lv_dup2_11 hx hb dX10_layRoads_110 rfl rfl ?_
        refine tk_iald hC hK hw hT kC_at160 rfl rfl (show 0 ≤ v104_5.toInt by omega) (show v104_5.toInt < 10 by omega) dX10_layRoads_111 (fun x83 c84 rx83 tx83 => ?_)
        refine lv_iconst (v := 1) hx hb dX10_layRoads_112 (by decide) ?_
        refine lv_iload hx hb dX10_layRoads_113 (lv_at hl 6 rfl) ?_
        refine lv_ishl hx hb dX10_layRoads_115 ?_
        refine lv_topi (fun x85 ex85 => ?_)
        have bx85 : 1 ≤ x85.toInt ∧ x85.toInt ≤ 512 := by rw [ex85]; exact wk_shl1 9 (by decide) (by omega) (by omega)
        refine lv_ior hx hb dX10_layRoads_116 ?_
        refine lv_topi (fun x86 ex86 => ?_)
        have bx86 : 0 ≤ x86.toInt ∧ x86.toInt < 1024 := by rw [ex86]; exact wk_or 10 (by decide) (by omega) (by omega) (by omega) (by omega)
        refine tk_iast hC hK hw hT kC_at160 (by decide) rfl rfl (show 0 ≤ v104_5.toInt by omega) (show v104_5.toInt < 10 by omega) (show 0 ≤ x86.toInt by omega) (show x86.toInt ≤ 1023 by omega) dX10_layRoads_117 (fun H locs w87 hw hT k89 c88 => ?_)
        have hF := hF.put kC_at160 (inE_of (a := 0) (b := 10) (by decide) (show 0 ≤ v104_5.toInt.toNat by omega) (show v104_5.toInt.toNat ≤ 10 by omega)) k89
        have c90 := k89.gi (Or.inl (tk_ne kC_at158 kC_at160 (by decide))) c82
        exact J118 v104_5 v104_6 v104_7 f104_158_4 H locs ls w87 (show 0 ≤ a1.toInt by omega) (show a1.toInt ≤ 3 by omega) (show 0 ≤ a2.toInt by omega) (show a2.toInt ≤ 127 by omega) (show 0 ≤ v27_4.toInt by omega) (show v27_4.toInt ≤ 11 by omega) (show 0 ≤ v104_5.toInt by omega) (show v104_5.toInt ≤ 9 by omega) (show 0 ≤ v104_6.toInt by omega) (show v104_6.toInt ≤ 9 by omega) (show 0 ≤ v104_7.toInt by omega) (show v104_7.toInt ≤ 1 by omega) (show 1 ≤ f104_158_4.toInt by omega) (show f104_158_4.toInt ≤ 12 by omega)  hw hT hF c90 (lv_sub hl [0, 1, 2, 3, 4, 5, 6, 7] rfl)
      refine lv_iload hx hb dX10_layRoads_27 (lv_at hl 4 rfl) ?_
      refine lv_aload_n hx hb dX10_layRoads_29 rfl (lv_at hl 0 rfl) ?_
      refine tk_geti hC hK hw hT hinX10 kC_at158 (by decide) rfl 4 (by decide) (List.mem_of_getElem? (i := 2) rfl) rfl rfl dX10_layRoads_30 (fun x91 c92 rx91 tx91 => ?_)
      refine lv_icmp_ge (tgt := 150) hx hb dX10_layRoads_33 (by decide) (fun c93 => ?_) (fun c93 => ?_)
      · have c93 : x91.toInt ≤ v27_4.toInt := wk_le.mp c93
        exact tk_vret hC hr hlocks hK ⟨hT, hF, trivial⟩ hw dX10_layRoads_150
      · have c93 : v27_4.toInt < x91.toInt := wk_leF c93
        refine lv_iload hx hb dX10_layRoads_36 (lv_at hl 4 rfl) ?_
        refine lv_iload_n hx hb dX10_layRoads_38 rfl (lv_at hl 3 rfl) ?_
        refine lv_icmp_ne (tgt := 45) hx hb dX10_layRoads_39 (by decide) (fun _ => ?_) (fun c => absurd (show v27_4.toInt = (-1 : Int) from wk_eq.mp c) (by omega))
        refine lv_aload_n hx hb dX10_layRoads_45 rfl (lv_at hl 0 rfl) ?_
        refine tk_getA hC hK hw hT hinX10 kC_at158 (by decide) rfl 1 (by decide) (List.mem_of_getElem? (i := 3) rfl) rfl rfl dX10_layRoads_46 ?_
        refine tk_getO hC hK hw hT hinX7 kC_at39 (by decide) rfl 0 (by decide) (List.mem_of_getElem? (i := 4) rfl) rfl rfl dX10_layRoads_49 ?_
        refine lv_iconst (v := 2) hx hb dX10_layRoads_52 (by decide) ?_
        refine lv_aload_n hx hb dX10_layRoads_53 rfl (lv_at hl 0 rfl) ?_
        refine tk_getA hC hK hw hT hinX10 kC_at158 (by decide) rfl 2 (by decide) (List.mem_of_getElem? (i := 5) rfl) rfl rfl dX10_layRoads_54 ?_
        refine lv_iload hx hb dX10_layRoads_57 (lv_at hl 4 rfl) ?_
        refine tk_iald hC hK hw hT kC_at159 rfl rfl (show 0 ≤ v27_4.toInt by omega) (show v27_4.toInt < 12 by omega) dX10_layRoads_59 (fun x94 c95 rx94 tx94 => ?_)
        refine lv_imul hx hb dX10_layRoads_60 ?_
        refine lv_topi (fun x96 ex96 => ?_)
        have ex96 : x96.toInt = (2 : Int) * x94.toInt := by rw [ex96]; exact wk_mul (show (-2147483648) ≤ (2 : Int) * x94.toInt by omega) (show (2 : Int) * x94.toInt ≤ 2147483647 by omega)
        refine tk_iald hC hK hw hT kC_at40 rfl rfl (show 0 ≤ x96.toInt by omega) (show x96.toInt < 26 by omega) dX10_layRoads_61 (fun x97 c98 rx97 tx97 => ?_)
        refine lv_istore (lv' := [(5, .int x97), (0, .ref (ad 158)), (1, .int a1), (2, .int a2), (3, .int (-1)), (4, .int v27_4)]) hx hb dX10_layRoads_62 hl (by decide) rfl (fun ls hl => ?_)
        refine lv_aload_n hx hb dX10_layRoads_64 rfl (lv_at hl 1 rfl) ?_
        refine tk_getA hC hK hw hT hinX10 kC_at158 (by decide) rfl 1 (by decide) (List.mem_of_getElem? (i := 3) rfl) rfl rfl dX10_layRoads_65 ?_
        refine tk_getO hC hK hw hT hinX7 kC_at39 (by decide) rfl 0 (by decide) (List.mem_of_getElem? (i := 4) rfl) rfl rfl dX10_layRoads_68 ?_
        refine lv_iconst (v := 2) hx hb dX10_layRoads_71 (by decide) ?_
        refine lv_aload_n hx hb dX10_layRoads_72 rfl (lv_at hl 1 rfl) ?_
        refine tk_getA hC hK hw hT hinX10 kC_at158 (by decide) rfl 2 (by decide) (List.mem_of_getElem? (i := 5) rfl) rfl rfl dX10_layRoads_73 ?_
        refine lv_iload hx hb dX10_layRoads_76 (lv_at hl 5 rfl) ?_
        refine tk_iald hC hK hw hT kC_at159 rfl rfl (show 0 ≤ v27_4.toInt by omega) (show v27_4.toInt < 12 by omega) dX10_layRoads_78 (fun x99 c100 rx99 tx99 => ?_)
        refine lv_imul hx hb dX10_layRoads_79 ?_
        refine lv_topi (fun x101 ex101 => ?_)
        have ex101 : x101.toInt = (2 : Int) * x99.toInt := by rw [ex101]; exact wk_mul (show (-2147483648) ≤ (2 : Int) * x99.toInt by omega) (show (2 : Int) * x99.toInt ≤ 2147483647 by omega)
        refine lv_iconst (v := 1) hx hb dX10_layRoads_80 (by decide) ?_
        refine lv_iadd hx hb dX10_layRoads_81 ?_
        refine lv_topi (fun x102 ex102 => ?_)
        have ex102 : x102.toInt = x101.toInt + (1 : Int) := by rw [ex102]; exact wk_add (show (-2147483648) ≤ x101.toInt + (1 : Int) by omega) (show x101.toInt + (1 : Int) ≤ 2147483647 by omega)
        refine tk_iald hC hK hw hT kC_at40 rfl rfl (show 0 ≤ x102.toInt by omega) (show x102.toInt < 26 by omega) dX10_layRoads_82 (fun x103 c104 rx103 tx103 => ?_)
        refine lv_istore (lv' := [(6, .int x103), (5, .int x97), (0, .ref (ad 158)), (1, .int a1), (2, .int a2), (3, .int (-1)), (4, .int v27_4)]) hx hb dX10_layRoads_83 hl (by decide) rfl (fun ls hl => ?_)
        refine lv_iload_n hx hb dX10_layRoads_85 rfl (lv_at hl 4 rfl) ?_
        refine lv_iload hx hb dX10_layRoads_86 (lv_at hl 6 rfl) ?_
        refine lv_ishr hx hb dX10_layRoads_88 ?_
        refine lv_topi (fun x105 ex105 => ?_)
        have bx105 : 0 ≤ x105.toInt ∧ x105.toInt ≤ a2.toInt := by rw [ex105]; exact wk_shr (by omega)
        refine lv_iconst (v := 1) hx hb dX10_layRoads_89 (by decide) ?_
        refine lv_iand hx hb dX10_layRoads_90 ?_
        refine lv_topi (fun x106 ex106 => ?_)
        have bx106 : 0 ≤ x106.toInt ∧ x106.toInt ≤ (1 : Int) := by rw [ex106]; exact wk_and (by decide)
        refine lv_istore (lv' := [(7, .int x106), (6, .int x103), (5, .int x97), (0, .ref (ad 158)), (1, .int a1), (2, .int a2), (3, .int (-1)), (4, .int v27_4)]) hx hb dX10_layRoads_91 hl (by decide) rfl (fun ls hl => ?_)
        refine lv_iload hx hb dX10_layRoads_93 (lv_at hl 7 rfl) ?_
        refine lv_iload_n hx hb dX10_layRoads_95 rfl (lv_at hl 4 rfl) ?_
        refine lv_icmp_lt (tgt := 104) hx hb dX10_layRoads_96 (by decide) (fun c107 => ?_) (fun c107 => ?_)
        · have c107 : v27_4.toInt < a1.toInt := wk_lt.mp c107
          exact J104 x97 x103 x106 x91 H locs ls w1 (show 0 ≤ a1.toInt by omega) (show a1.toInt ≤ 3 by omega) (show 0 ≤ a2.toInt by omega) (show a2.toInt ≤ 127 by omega) (show 0 ≤ v27_4.toInt by omega) (show v27_4.toInt ≤ 11 by omega) (show 0 ≤ x97.toInt by omega) (show x97.toInt ≤ 9 by omega) (show 0 ≤ x103.toInt by omega) (show x103.toInt ≤ 9 by omega) (show 0 ≤ x106.toInt by omega) (show x106.toInt ≤ 1 by omega) (show 1 ≤ x91.toInt by omega) (show x91.toInt ≤ 12 by omega)  hw hT hF c92 (lv_sub hl [3, 4, 5, 6, 7, 2, 1, 0] rfl)
        · have c107 : a1.toInt ≤ v27_4.toInt := wk_ltF c107
          refine lv_iload hx hb dX10_layRoads_99 (lv_at hl 0 rfl) ?_
          refine lv_if_ne (tgt := 118) hx hb dX10_layRoads_101 (by decide) (fun c108 => ?_) (fun c108 => ?_)
          · have c108 : ¬ x106.toInt = (0 : Int) := wk_eqF c108
            exact J118 x97 x103 x106 x91 H locs ls w1 (show 0 ≤ a1.toInt by omega) (show a1.toInt ≤ 3 by omega) (show 0 ≤ a2.toInt by omega) (show a2.toInt ≤ 127 by omega) (show 0 ≤ v27_4.toInt by omega) (show v27_4.toInt ≤ 11 by omega) (show 0 ≤ x97.toInt by omega) (show x97.toInt ≤ 9 by omega) (show 0 ≤ x103.toInt by omega) (show x103.toInt ≤ 9 by omega) (show 0 ≤ x106.toInt by omega) (show x106.toInt ≤ 1 by omega) (show 1 ≤ x91.toInt by omega) (show x91.toInt ≤ 12 by omega)  hw hT hF c92 (lv_sub hl [3, 4, 5, 6, 7, 2, 1, 0] rfl)
          · have c108 : x106.toInt = (0 : Int) := wk_eq.mp c108
            exact J104 x97 x103 x106 x91 H locs ls w1 (show 0 ≤ a1.toInt by omega) (show a1.toInt ≤ 3 by omega) (show 0 ≤ a2.toInt by omega) (show a2.toInt ≤ 127 by omega) (show 0 ≤ v27_4.toInt by omega) (show v27_4.toInt ≤ 11 by omega) (show 0 ≤ x97.toInt by omega) (show x97.toInt ≤ 9 by omega) (show 0 ≤ x103.toInt by omega) (show x103.toInt ≤ 9 by omega) (show 0 ≤ x106.toInt by omega) (show x106.toInt ≤ 1 by omega) (show 1 ≤ x91.toInt by omega) (show x91.toInt ≤ 12 by omega)  hw hT hF c92 (lv_sub hl [3, 4, 5, 6, 7, 2, 1, 0] rfl)
  have L3 : ∀ (n3 : Nat) (v3_4 : Int32) (H : Heap) (locs : List Loc) (ls : Array Slot) (w109 : va_W), 0 ≤ a1.toInt → a1.toInt ≤ 3 → 0 ≤ a2.toInt → a2.toInt ≤ 127 → 0 ≤ v3_4.toInt → v3_4.toInt ≤ 10 → (10 - v3_4.toInt).toNat < n3 → Wd dC dI A s.heap H locs w109 → TW ksC ad cy B qr s1 w109 → FE ksC [(51, 0, 10)] w0 w109 → lv_has ls 8 [(0, .ref (ad 158)), (1, .int a1), (2, .int a2), (3, .int (-1)), (4, .int v3_4)] → W p l e ({ frames := 1, cells := 0, slots := 0, locals := 12 }) s m (List.toArray [.ref (ad 158), .int a1, .int a2, .int (-1)]) below meth c H locs 0 0 (MQ below (va_Qv (P_X10_layRoads_34 ad cy B qr s1 a1 a2 w0) (fun u : va_W => wpost dC dI cy A u) A) (List.toArray [.ref (ad 158), .int a1, .int a2, .int (-1)]) s 0 0 A) (F0 m 3 ls []) := by
    intro n3
    induction n3 with
    | zero => intro v3_4 H locs ls w109 r110 t111 r112 t113 r114 t115 hm3 hw hT hF hl; omega
    | succ n3 ih3 =>
      intro v3_4 H locs ls w109 r110 t111 r112 t113 r114 t115 hm3 hw hT hF hl
      refine lv_iload hx hb dX10_layRoads_3 (lv_at hl 4 rfl) ?_
      refine lv_bipush (v := 10) hx hb dX10_layRoads_5 (by decide) ?_
      refine lv_icmp_ge (tgt := 24) hx hb dX10_layRoads_7 (by decide) (fun c116 => ?_) (fun c116 => ?_)
      · have c116 : (10 : Int) ≤ v3_4.toInt := wk_le.mp c116
        refine lv_iconst (v := 0) hx hb dX10_layRoads_24 (by decide) ?_
        refine lv_istore (lv' := [(4, .int 0), (0, .ref (ad 158)), (1, .int a1), (2, .int a2), (3, .int (-1))]) hx hb dX10_layRoads_25 hl (by decide) rfl (fun ls hl => ?_)
        exact L27 ((12 - (0 : Int)).toNat + 1) 0 H locs ls w109 (show 0 ≤ a1.toInt by omega) (show a1.toInt ≤ 3 by omega) (show 0 ≤ a2.toInt by omega) (show a2.toInt ≤ 127 by omega) (by decide) (by decide) (Nat.lt_succ_self _) hw hT hF  (lv_sub hl [1, 2, 3, 4, 0] rfl)
      · have c116 : v3_4.toInt < (10 : Int) := wk_leF c116
        refine lv_aload_n hx hb dX10_layRoads_10 rfl (lv_at hl 0 rfl) ?_
        refine tk_getA hC hK hw hT hinX10 kC_at158 (by decide) rfl 3 (by decide) (List.mem_of_getElem? (i := 1) rfl) rfl rfl dX10_layRoads_11 ?_
        refine lv_iload hx hb dX10_layRoads_14 (lv_at hl 4 rfl) ?_
        refine lv_iconst (v := 0) hx hb dX10_layRoads_16 (by decide) ?_
        refine tk_iast hC hK hw hT kC_at160 (by decide) rfl rfl (show 0 ≤ v3_4.toInt by omega) (show v3_4.toInt < 10 by omega) (by decide) (by decide) dX10_layRoads_17 (fun H locs w117 hw hT k119 c118 => ?_)
        have hF := hF.put kC_at160 (inE_of (a := 0) (b := 10) (by decide) (show 0 ≤ v3_4.toInt.toNat by omega) (show v3_4.toInt.toNat ≤ 10 by omega)) k119
        obtain ⟨x120, ex120⟩ : ∃ y : Int32, y = v3_4 + Int32.ofInt 1 := ⟨_, rfl⟩
        refine lv_iinc (v := x120) (lv' := [(4, .int x120), (0, .ref (ad 158)), (1, .int a1), (2, .int a2), (3, .int (-1))]) hx hb dX10_layRoads_18 hl (k := 4) rfl ex120.symm (by decide) rfl (fun ls hl => ?_)
        have ex120 : x120.toInt = v3_4.toInt + 1 := by rw [ex120]; exact wk_add (y := 1) (show -2147483648 ≤ v3_4.toInt + 1 by omega) (show v3_4.toInt + 1 ≤ 2147483647 by omega)
        refine lv_goto (tgt := 3) hx hb dX10_layRoads_21 (by decide) ?_
        exact ih3 x120 H locs ls w117 (show 0 ≤ a1.toInt by omega) (show a1.toInt ≤ 3 by omega) (show 0 ≤ a2.toInt by omega) (show a2.toInt ≤ 127 by omega) (show 0 ≤ x120.toInt by omega) (show x120.toInt ≤ 10 by omega) (show (10 - x120.toInt).toNat < n3 by omega) hw hT hF  (lv_sub hl [1, 2, 3, 4, 0] rfl)
  refine lv_iconst (v := 0) hx hb dX10_layRoads_0 (by decide) ?_
  refine lv_istore (lv' := [(4, .int 0), (0, .ref (ad 158)), (1, .int a1), (2, .int a2), (3, .int (-1))]) hx hb dX10_layRoads_1 hl (by decide) rfl (fun ls hl => ?_)
  exact L3 ((10 - (0 : Int)).toNat + 1) 0 s.heap locs ls w0 (show 0 ≤ a1.toInt by omega) (show a1.toInt ≤ 3 by omega) (show 0 ≤ a2.toInt by omega) (show a2.toInt ≤ 127 by omega) (by decide) (by decide) (Nat.lt_succ_self _) hw hT hF  (lv_sub hl [1, 2, 3, 4, 0] rfl)
abbrev P_X10_leastBelow_38 (ad : Nat → Nat) (cy : Nat → ClassId) (B : Int) (qr : Nat) (s1 : Int) (a1 : Int32) (a2 : Int32) (w0 : va_W) : Int32 → va_W → Prop := fun r u => TW ksC ad cy B qr s1 u ∧ FE ksC [(51, 0, 10)] w0 u ∧ ((0 ≤ r.toInt ∧ r.toInt ≤ 127) ∨ (r = (-1) ∧ (∃ y : Int32, gi u 38 10 = y ∧ 1 ≤ y.toInt ∧ y.toInt ≤ 6)))
set_option maxHeartbeats 4000000 in
set_option maxRecDepth 100000 in
theorem k_X10_leastBelow_38 (l : Launch) (adK adV : Nat → Nat) (dC : Nat → ClassId) (dI : Nat → Nat → Nat) (cy : Nat → ClassId) (ad : Nat → Nat) (B : Int) (hB0 : 2147483648 ≤ B) (hB1 : B ≤ 1152921504606846976) (qr : Nat) (s1 : Int)  (a1 : Int32) (ra1 : 0 ≤ a1.toInt) (ta1 : a1.toInt ≤ 3) (a2 : Int32) (ra2 : 0 ≤ a2.toInt) (ta2 : a2.toInt ≤ 127) (w0 : va_W) (sz : Nat) (hT : TW ksC ad cy B qr s1 w0)  : Met l yX10_leastBelow wsX10_leastBelow ({ frames := 6, cells := 0, slots := 0, locals := 128 }) (va_Pc [.ref (ad 158), .int a1, .int a2] (wpreS adK adV dC dI cy sz w0)) (va_Qi (P_X10_leastBelow_38 ad cy B qr s1 a1 a2 w0) (fun u : va_W => wpost dC dI cy (va_A w0 sz) u) (va_A w0 sz)) 0 0 (va_A w0 sz) := by
  refine Met.ofW (cc := cX10_leastBelow) (maxL := 4) (ret := (some .int)) (by decide) rfl ?_
  intro p e s m args below meth c s₁ Bk hml hv
  obtain ⟨rfl, ⟨hsz, hP, hK, hD0⟩, hE, hSR⟩ := hv
  have hx := Bk.exec
  have hb := Bk.bytes
  have hr := Bk.returns
  have hlocks := Bk.notSynchronized
  have hC : CallFix p m c cX10_leastBelow 4 s _ wsX10_leastBelow RX10 := ⟨hx, hb, hml, findClass_of_methodNamed Bk.named, atoms_spec (ws := wsX10_leastBelow) Bk.pre⟩
  subst hsz
  have hD := hD0.self (sz := s.heap.size)
  generalize hAe : va_A w0 s.heap.size = A at hD hE ⊢
  have hA : ∀ q : Nat, s.heap.size ≤ q → A q := fun q h => by rw [← hAe]; exact Or.inr h
  have hw : Wd dC dI A s.heap s.heap [] w0 := ⟨hP, hD, va_S.rf⟩
  have hF : FE ksC [(51, 0, 10)] w0 w0 := FE.rf
  have hl := lv_entry ([.ref (ad 158), .int a1, .int a2]) (n := 4) (Nat.le_of_ble_eq_true rfl)
  rw [lg_entry_eq]
  generalize (lg_sl ([.ref (ad 158), .int a1, .int a2]) ++ List.replicate (4 - (lg_sl ([.ref (ad 158), .int a1, .int a2])).length) Slot.unset).toArray = ls at hl ⊢
  have hl : lv_has ls 4 [(0, .ref (ad 158)), (1, .int a1), (2, .int a2)] := hl
  generalize hloc : ([] : List Loc) = locs at hw ⊢
  have hinX10 : ∀ w ∈ u_ws RX10 TX10 5, w ∈ wsX10_leastBelow := fun _ h => List.mem_cons_of_mem _ (List.mem_append_left _ (List.mem_append_left _ (List.mem_append_right _ (h))))
  have hinX5 : ∀ w ∈ u_ws RX5 TX5 14, w ∈ wsX10_leastBelow := fun _ h => List.mem_cons_of_mem _ (List.mem_append_left _ (List.mem_append_right _ (h)))
  have L9 : ∀ (n9 : Nat) (v9_3 : Int32) (H : Heap) (locs : List Loc) (ls : Array Slot) (w1 : va_W), 0 ≤ a1.toInt → a1.toInt ≤ 3 → 0 ≤ a2.toInt → a2.toInt ≤ 127 → 0 ≤ v9_3.toInt → v9_3.toInt ≤ 6 → (6 - v9_3.toInt).toNat < n9 → Wd dC dI A s.heap H locs w1 → TW ksC ad cy B qr s1 w1 → FE ksC [(51, 0, 10)] w0 w1 → lv_has ls 4 [(0, .ref (ad 158)), (1, .int a1), (2, .int a2), (3, .int v9_3)] → W p l e ({ frames := 6, cells := 0, slots := 0, locals := 128 }) s m (List.toArray [.ref (ad 158), .int a1, .int a2]) below meth c H locs 0 0 (MQ below (va_Qi (P_X10_leastBelow_38 ad cy B qr s1 a1 a2 w0) (fun u : va_W => wpost dC dI cy A u) A) (List.toArray [.ref (ad 158), .int a1, .int a2]) s 0 0 A) (F0 m 9 ls []) := by
    intro n9
    induction n9 with
    | zero => intro v9_3 H locs ls w1 r2 t3 r4 t5 r6 t7 hm9 hw hT hF hl; omega
    | succ n9 ih9 =>
      intro v9_3 H locs ls w1 r2 t3 r4 t5 r6 t7 hm9 hw hT hF hl
      refine lv_iload_n hx hb dX10_leastBelow_9 rfl (lv_at hl 3 rfl) ?_
      refine lv_aload_n hx hb dX10_leastBelow_10 rfl (lv_at hl 0 rfl) ?_
      refine tk_getA hC hK hw hT hinX10 kC_at158 (by decide) rfl 0 (by decide) (List.mem_of_getElem? (i := 1) rfl) rfl rfl dX10_leastBelow_11 ?_
      refine tk_geti hC hK hw hT hinX5 kC_at38 (by decide) rfl 10 (by decide) (List.mem_of_getElem? (i := 2) rfl) rfl rfl dX10_leastBelow_14 (fun x8 c9 rx8 tx8 => ?_)
      refine lv_icmp_ge (tgt := 36) hx hb dX10_leastBelow_17 (by decide) (fun c10 => ?_) (fun c10 => ?_)
      · have c10 : x8.toInt ≤ v9_3.toInt := wk_le.mp c10
        refine lv_iload_n hx hb dX10_leastBelow_36 rfl (lv_at hl 1 rfl) ?_
        refine lv_if_gt (tgt := 42) hx hb dX10_leastBelow_37 (by decide) (fun c11 => ?_) (fun c11 => ?_)
        · have c11 : (0 : Int) < a1.toInt := wk_lt.mp c11
          refine lv_aload_n hx hb dX10_leastBelow_42 rfl (lv_at hl 0 rfl) ?_
          refine lv_iload_n hx hb dX10_leastBelow_43 rfl (lv_at hl 1 rfl) ?_
          refine lv_iconst (v := 1) hx hb dX10_leastBelow_44 (by decide) ?_
          refine lv_isub hx hb dX10_leastBelow_45 ?_
          refine lv_topi (fun x12 ex12 => ?_)
          have ex12 : x12.toInt = a1.toInt - (1 : Int) := by rw [ex12]; exact wk_sub (show (-2147483648) ≤ a1.toInt - (1 : Int) by omega) (show a1.toInt - (1 : Int) ≤ 2147483647 by omega)
          refine lv_iload_n hx hb dX10_leastBelow_46 rfl (lv_at hl 2 rfl) ?_
          refine tk_Vi hC hK hw hT hA hE hSR kC_at158 (by decide) rfl (k_X10_leastBelow_39 l adK adV dC dI cy ad B (by omega) (by omega) qr s1   x12 (show 0 ≤ x12.toInt by omega) (show x12.toInt ≤ 2 by omega) a2 (show 0 ≤ a2.toInt by omega) (show a2.toInt ≤ 127 by omega) w1 H.size hT ) (cwV 2 hC.2.2.2.2 gX10_leastBelow_X10_leastBelow rfl rfl rfl (by decide +kernel) ⟨Nat.le_of_ble_eq_true rfl, Nat.le_of_ble_eq_true rfl⟩) rfl hl.1 rfl (Nat.le_of_ble_eq_true rfl) dX10_leastBelow_47 (fun r13 w15 H locs hp14 hw => ?_)
          obtain ⟨hT, k16, hg21⟩ := hp14
          have hF := hF.tr k16 (by decide)
          have c22 := k16.gi kC_at38 (by decide) c9
          rcases hg21 with ⟨g17, g18⟩ | ⟨rfl, ⟨x19, c20, rx19, tx19⟩⟩
          · refine lv_istore_n (lv' := [(3, .int r13), (0, .ref (ad 158)), (1, .int a1), (2, .int a2)]) hx hb dX10_leastBelow_50 rfl hl (by decide) rfl (fun ls hl => ?_)
            refine lv_iload_n hx hb dX10_leastBelow_51 rfl (lv_at hl 0 rfl) ?_
            refine lv_iconst (v := (-1)) hx hb dX10_leastBelow_52 (by decide) ?_
            refine lv_icmp_eq (tgt := 60) hx hb dX10_leastBelow_53 (by decide) (fun c => absurd c (fun h => absurd (show r13.toInt = (-1 : Int) from wk_eq.mp h) (by omega))) (fun _ => ?_)
            refine lv_iload_n hx hb dX10_leastBelow_56 rfl (lv_at hl 0 rfl) ?_
            refine lv_goto (tgt := 74) hx hb dX10_leastBelow_57 (by decide) ?_
            exact tk_iret hC hr hlocks hK ⟨hT, hF, (Or.inl ⟨(show 0 ≤ r13.toInt by omega), (show r13.toInt ≤ 127 by omega)⟩)⟩ hw dX10_leastBelow_74
          · have ex19 : x19.toInt = x8.toInt := by rw [← c22.symm.trans c20]
            refine lv_istore_n (lv' := [(3, .int (-1)), (0, .ref (ad 158)), (1, .int a1), (2, .int a2)]) hx hb dX10_leastBelow_50 rfl hl (by decide) rfl (fun ls hl => ?_)
            refine lv_iload_n hx hb dX10_leastBelow_51 rfl (lv_at hl 0 rfl) ?_
            refine lv_iconst (v := (-1)) hx hb dX10_leastBelow_52 (by decide) ?_
            refine lv_icmp_eq (tgt := 60) hx hb dX10_leastBelow_53 (by decide) (fun _ => ?_) (fun c => absurd (by decide) c)
            refine lv_aload_n hx hb dX10_leastBelow_60 rfl (lv_at hl 1 rfl) ?_
            refine lv_iload_n hx hb dX10_leastBelow_61 rfl (lv_at hl 2 rfl) ?_
            refine lv_iconst (v := 1) hx hb dX10_leastBelow_62 (by decide) ?_
            refine lv_isub hx hb dX10_leastBelow_63 ?_
            refine lv_topi (fun x23 ex23 => ?_)
            have ex23 : x23.toInt = a1.toInt - (1 : Int) := by rw [ex23]; exact wk_sub (show (-2147483648) ≤ a1.toInt - (1 : Int) by omega) (show a1.toInt - (1 : Int) ≤ 2147483647 by omega)
            refine lv_iload_n hx hb dX10_leastBelow_64 rfl (lv_at hl 3 rfl) ?_
            refine lv_iconst (v := 1) hx hb dX10_leastBelow_65 (by decide) ?_
            refine lv_iload_n hx hb dX10_leastBelow_66 rfl (lv_at hl 2 rfl) ?_
            refine lv_iconst (v := 1) hx hb dX10_leastBelow_67 (by decide) ?_
            refine lv_isub hx hb dX10_leastBelow_68 ?_
            refine lv_topi (fun x24 ex24 => ?_)
            have ex24 : x24.toInt = a1.toInt - (1 : Int) := by rw [ex24]; exact wk_sub (show (-2147483648) ≤ a1.toInt - (1 : Int) by omega) (show a1.toInt - (1 : Int) ≤ 2147483647 by omega)
            refine lv_ishl hx hb dX10_leastBelow_69 ?_
            refine lv_topi (fun x25 ex25 => ?_)
            have bx25 : 1 ≤ x25.toInt ∧ x25.toInt ≤ 4 := by rw [ex25]; exact wk_shl1 2 (by decide) (by omega) (by omega)
            refine lv_ior hx hb dX10_leastBelow_70 ?_
            refine lv_topi (fun x26 ex26 => ?_)
            have bx26 : 0 ≤ x26.toInt ∧ x26.toInt < 128 := by rw [ex26]; exact wk_or 7 (by decide) (by omega) (by omega) (by omega) (by omega)
            refine tk_Vi hC hK hw hT hA hE hSR kC_at158 (by decide) rfl (k_X10_leastBelow_39 l adK adV dC dI cy ad B (by omega) (by omega) qr s1   x23 (show 0 ≤ x23.toInt by omega) (show x23.toInt ≤ 2 by omega) x26 (show 0 ≤ x26.toInt by omega) (show x26.toInt ≤ 127 by omega) w15 H.size hT ) (cwV 2 hC.2.2.2.2 gX10_leastBelow_X10_leastBelow rfl rfl rfl (by decide +kernel) ⟨Nat.le_of_ble_eq_true rfl, Nat.le_of_ble_eq_true rfl⟩) rfl hl.1 rfl (Nat.le_of_ble_eq_true rfl) dX10_leastBelow_71 (fun r27 w29 H locs hp28 hw => ?_)
            obtain ⟨hT, k30, hg35⟩ := hp28
            have hF := hF.tr k30 (by decide)
            have c36 := k30.gi kC_at38 (by decide) c22
            rcases hg35 with ⟨g31, g32⟩ | ⟨rfl, ⟨x33, c34, rx33, tx33⟩⟩
            · exact tk_iret hC hr hlocks hK ⟨hT, hF, (Or.inl ⟨(show 0 ≤ r27.toInt by omega), (show r27.toInt ≤ 127 by omega)⟩)⟩ hw dX10_leastBelow_74
            · have ex33 : x33.toInt = x8.toInt := by rw [← c36.symm.trans c34]
              exact tk_iret hC hr hlocks hK ⟨hT, hF, (Or.inr ⟨rfl, ⟨x8, c36, (show 1 ≤ x8.toInt by omega), (show x8.toInt ≤ 6 by omega)⟩⟩)⟩ hw dX10_leastBelow_74
        · have c11 : a1.toInt ≤ (0 : Int) := wk_ltF c11
          refine lv_iload_n hx hb dX10_leastBelow_40 rfl (lv_at hl 2 rfl) ?_
          exact tk_iret hC hr hlocks hK ⟨hT, hF, (Or.inl ⟨(show 0 ≤ a2.toInt by omega), (show a2.toInt ≤ 127 by omega)⟩)⟩ hw dX10_leastBelow_41
      · have c10 : v9_3.toInt < x8.toInt := wk_leF c10
        refine lv_aload_n hx hb dX10_leastBelow_20 rfl (lv_at hl 0 rfl) ?_
        refine lv_iload_n hx hb dX10_leastBelow_21 rfl (lv_at hl 3 rfl) ?_
        refine tk_Vi hC hK hw hT hA hE hSR kC_at158 (by decide) rfl (k_X10_canDo_1 l adK adV dC dI cy ad B (by omega) (by omega) qr s1   v9_3 (show 0 ≤ v9_3.toInt by omega) (show v9_3.toInt ≤ 5 by omega) w1 H.size hT ) (cwV 1 hC.2.2.2.2 gX10_leastBelow_X10_canDo rfl rfl rfl (by decide +kernel) ⟨Nat.le_of_ble_eq_true rfl, Nat.le_of_ble_eq_true rfl⟩) rfl hl.1 rfl (Nat.le_of_ble_eq_true rfl) dX10_leastBelow_22 (fun r37 w39 H locs hp38 hw => ?_)
        obtain ⟨hT, k40, hg41⟩ := hp38
        have hF := hF.tr k40 (by decide)
        have c42 := k40.gi kC_at38 (by decide) c9
        rcases hg41 with rfl | rfl
        · refine lv_if_ne (tgt := 30) hx hb dX10_leastBelow_25 (by decide) (fun c => absurd (by decide) c) (fun _ => ?_)
          refine lv_iconst (v := (-1)) hx hb dX10_leastBelow_28 (by decide) ?_
          exact tk_iret hC hr hlocks hK ⟨hT, hF, (Or.inr ⟨rfl, ⟨x8, c42, (show 1 ≤ x8.toInt by omega), (show x8.toInt ≤ 6 by omega)⟩⟩)⟩ hw dX10_leastBelow_29
        · refine lv_if_ne (tgt := 30) hx hb dX10_leastBelow_25 (by decide) (fun _ => ?_) (fun c => absurd c (by decide))
          obtain ⟨x43, ex43⟩ : ∃ y : Int32, y = v9_3 + Int32.ofInt 1 := ⟨_, rfl⟩
          refine lv_iinc (v := x43) (lv' := [(3, .int x43), (0, .ref (ad 158)), (1, .int a1), (2, .int a2)]) hx hb dX10_leastBelow_30 hl (k := 3) rfl ex43.symm (by decide) rfl (fun ls hl => ?_)
          have ex43 : x43.toInt = v9_3.toInt + 1 := by rw [ex43]; exact wk_add (y := 1) (show -2147483648 ≤ v9_3.toInt + 1 by omega) (show v9_3.toInt + 1 ≤ 2147483647 by omega)
          refine lv_goto (tgt := 9) hx hb dX10_leastBelow_33 (by decide) ?_
          exact ih9 x43 H locs ls w39 (show 0 ≤ a1.toInt by omega) (show a1.toInt ≤ 3 by omega) (show 0 ≤ a2.toInt by omega) (show a2.toInt ≤ 127 by omega) (show 0 ≤ x43.toInt by omega) (show x43.toInt ≤ 6 by omega) (show (6 - x43.toInt).toNat < n9 by omega) hw hT hF  (lv_sub hl [1, 2, 3, 0] rfl)
  refine lv_aload_n hx hb dX10_leastBelow_0 rfl (lv_at hl 0 rfl) ?_
  refine lv_iload_n hx hb dX10_leastBelow_1 rfl (lv_at hl 1 rfl) ?_
  refine lv_iload_n hx hb dX10_leastBelow_2 rfl (lv_at hl 2 rfl) ?_
  refine lv_iconst (v := (-1)) hx hb dX10_leastBelow_3 (by decide) ?_
  refine tk_Vv hC hK hw hT hA hE hSR kC_at158 (by decide) rfl (k_X10_layRoads_34 l adK adV dC dI cy ad B (by omega) (by omega) qr s1   a1 (show 0 ≤ a1.toInt by omega) (show a1.toInt ≤ 3 by omega) a2 (show 0 ≤ a2.toInt by omega) (show a2.toInt ≤ 127 by omega) w0 s.heap.size hT ) (cwV 3 hC.2.2.2.2 gX10_leastBelow_X10_layRoads rfl rfl rfl (by decide +kernel) ⟨Nat.le_of_ble_eq_true rfl, Nat.le_of_ble_eq_true rfl⟩) rfl hl.1 rfl (Nat.le_of_ble_eq_true rfl) dX10_leastBelow_4 (fun w46 H locs hp45 hw => ?_)
  obtain ⟨hT, k47, hg48⟩ := hp45
  have hF := hF.tr k47 (by decide)
  clear hg48
  refine lv_iconst (v := 0) hx hb dX10_leastBelow_7 (by decide) ?_
  refine lv_istore_n (lv' := [(3, .int 0), (0, .ref (ad 158)), (1, .int a1), (2, .int a2)]) hx hb dX10_leastBelow_8 rfl hl (by decide) rfl (fun ls hl => ?_)
  exact L9 ((6 - (0 : Int)).toNat + 1) 0 H locs ls w46 (show 0 ≤ a1.toInt by omega) (show a1.toInt ≤ 3 by omega) (show 0 ≤ a2.toInt by omega) (show a2.toInt ≤ 127 by omega) (by decide) (by decide) (Nat.lt_succ_self _) hw hT hF  (lv_sub hl [1, 2, 3, 0] rfl)
abbrev P_X10_layRoads_35 (ad : Nat → Nat) (cy : Nat → ClassId) (B : Int) (qr : Nat) (s1 : Int) (a1 : Int32) (a2 : Int32) (w0 : va_W) : va_W → Prop := fun u => TW ksC ad cy B qr s1 u ∧ FE ksC [(51, 0, 10)] w0 u ∧ ((True))
set_option maxHeartbeats 4000000 in
set_option maxRecDepth 100000 in
theorem k_X10_layRoads_35 (l : Launch) (adK adV : Nat → Nat) (dC : Nat → ClassId) (dI : Nat → Nat → Nat) (cy : Nat → ClassId) (ad : Nat → Nat) (B : Int) (hB0 : 2147483648 ≤ B) (hB1 : B ≤ 1152921504606846976) (qr : Nat) (s1 : Int)  (a1 : Int32) (ra1 : 0 ≤ a1.toInt) (ta1 : a1.toInt ≤ 4) (a2 : Int32) (ra2 : 0 ≤ a2.toInt) (ta2 : a2.toInt ≤ 127) (w0 : va_W) (sz : Nat) (hT : TW ksC ad cy B qr s1 w0)  : Met l yX10_layRoads wsX10_layRoads ({ frames := 1, cells := 0, slots := 0, locals := 12 }) (va_Pc [.ref (ad 158), .int a1, .int a2, .int (-1)] (wpreS adK adV dC dI cy sz w0)) (va_Qv (P_X10_layRoads_35 ad cy B qr s1 a1 a2 w0) (fun u : va_W => wpost dC dI cy (va_A w0 sz) u) (va_A w0 sz)) 0 0 (va_A w0 sz) := by
  refine Met.ofW (cc := cX10_layRoads) (maxL := 8) (ret := none) (by decide) rfl ?_
  intro p e s m args below meth c s₁ Bk hml hv
  obtain ⟨rfl, ⟨hsz, hP, hK, hD0⟩, hE, hSR⟩ := hv
  have hx := Bk.exec
  have hb := Bk.bytes
  have hr := Bk.returns
  have hlocks := Bk.notSynchronized
  have hC : CallFix p m c cX10_layRoads 8 s _ wsX10_layRoads RX10 := ⟨hx, hb, hml, findClass_of_methodNamed Bk.named, atoms_spec (ws := wsX10_layRoads) Bk.pre⟩
  subst hsz
  have hD := hD0.self (sz := s.heap.size)
  generalize hAe : va_A w0 s.heap.size = A at hD hE ⊢
  have hA : ∀ q : Nat, s.heap.size ≤ q → A q := fun q h => by rw [← hAe]; exact Or.inr h
  have hw : Wd dC dI A s.heap s.heap [] w0 := ⟨hP, hD, va_S.rf⟩
  have hF : FE ksC [(51, 0, 10)] w0 w0 := FE.rf
  have hl := lv_entry ([.ref (ad 158), .int a1, .int a2, .int (-1)]) (n := 8) (Nat.le_of_ble_eq_true rfl)
  rw [lg_entry_eq]
  generalize (lg_sl ([.ref (ad 158), .int a1, .int a2, .int (-1)]) ++ List.replicate (8 - (lg_sl ([.ref (ad 158), .int a1, .int a2, .int (-1)])).length) Slot.unset).toArray = ls at hl ⊢
  have hl : lv_has ls 8 [(0, .ref (ad 158)), (1, .int a1), (2, .int a2), (3, .int (-1))] := hl
  generalize hloc : ([] : List Loc) = locs at hw ⊢
  have hinX10 : ∀ w ∈ u_ws RX10 TX10 5, w ∈ wsX10_layRoads := fun _ h => List.mem_cons_of_mem _ (List.mem_append_left _ (List.mem_append_right _ (h)))
  have hinX7 : ∀ w ∈ u_ws RX7 TX7 12, w ∈ wsX10_layRoads := fun _ h => List.mem_cons_of_mem _ (List.mem_append_right _ (h))
  have L27 : ∀ (n27 : Nat) (v27_4 : Int32) (H : Heap) (locs : List Loc) (ls : Array Slot) (w1 : va_W), 0 ≤ a1.toInt → a1.toInt ≤ 4 → 0 ≤ a2.toInt → a2.toInt ≤ 127 → 0 ≤ v27_4.toInt → v27_4.toInt ≤ 12 → (12 - v27_4.toInt).toNat < n27 → Wd dC dI A s.heap H locs w1 → TW ksC ad cy B qr s1 w1 → FE ksC [(51, 0, 10)] w0 w1 → lv_has ls 8 [(0, .ref (ad 158)), (1, .int a1), (2, .int a2), (3, .int (-1)), (4, .int v27_4)] → W p l e ({ frames := 1, cells := 0, slots := 0, locals := 12 }) s m (List.toArray [.ref (ad 158), .int a1, .int a2, .int (-1)]) below meth c H locs 0 0 (MQ below (va_Qv (P_X10_layRoads_35 ad cy B qr s1 a1 a2 w0) (fun u : va_W => wpost dC dI cy A u) A) (List.toArray [.ref (ad 158), .int a1, .int a2, .int (-1)]) s 0 0 A) (F0 m 27 ls []) := by
    intro n27
    induction n27 with
    | zero => intro v27_4 H locs ls w1 r2 t3 r4 t5 r6 t7 hm27 hw hT hF hl; omega
    | succ n27 ih27 =>
      intro v27_4 H locs ls w1 r2 t3 r4 t5 r6 t7 hm27 hw hT hF hl
      have J144 : ∀ (v144_5 : Int32) (v144_6 : Int32) (v144_7 : Int32) (f144_158_4 : Int32) (H : Heap) (locs : List Loc) (ls : Array Slot) (w8 : va_W), 0 ≤ a1.toInt → a1.toInt ≤ 4 → 0 ≤ a2.toInt → a2.toInt ≤ 127 → 0 ≤ v27_4.toInt → v27_4.toInt ≤ 11 → 0 ≤ v144_5.toInt → v144_5.toInt ≤ 9 → 0 ≤ v144_6.toInt → v144_6.toInt ≤ 9 → 0 ≤ v144_7.toInt → v144_7.toInt ≤ 1 → 1 ≤ f144_158_4.toInt → f144_158_4.toInt ≤ 12 → Wd dC dI A s.heap H locs w8 → TW ksC ad cy B qr s1 w8 → FE ksC [(51, 0, 10)] w0 w8 → gi w8 158 4 = f144_158_4 → lv_has ls 8 [(0, .ref (ad 158)), (1, .int a1), (2, .int a2), (3, .int (-1)), (4, .int v27_4), (5, .int v144_5), (6, .int v144_6), (7, .int v144_7)] → W p l e ({ frames := 1, cells := 0, slots := 0, locals := 12 }) s m (List.toArray [.ref (ad 158), .int a1, .int a2, .int (-1)]) below meth c H locs 0 0 (MQ below (va_Qv (P_X10_layRoads_35 ad cy B qr s1 a1 a2 w0) (fun u : va_W => wpost dC dI cy A u) A) (List.toArray [.ref (ad 158), .int a1, .int a2, .int (-1)]) s 0 0 A) (F0 m 144 ls []) := by
        intro v144_5 v144_6 v144_7 f144_158_4 H locs ls w8 r9 t10 r11 t12 r13 t14 r15 t16 r17 t18 r19 t20 r21 t22 hw hT hF c23 hl
        obtain ⟨x24, ex24⟩ : ∃ y : Int32, y = v27_4 + Int32.ofInt 1 := ⟨_, rfl⟩
        refine lv_iinc (v := x24) (lv' := [(4, .int x24), (0, .ref (ad 158)), (1, .int a1), (2, .int a2), (3, .int (-1)), (5, .int v144_5), (6, .int v144_6), (7, .int v144_7)]) hx hb dX10_layRoads_144 hl (k := 4) rfl ex24.symm (by decide) rfl (fun ls hl => ?_)
        have ex24 : x24.toInt = v27_4.toInt + 1 := by rw [ex24]; exact wk_add (y := 1) (show -2147483648 ≤ v27_4.toInt + 1 by omega) (show v27_4.toInt + 1 ≤ 2147483647 by omega)
        refine lv_goto (tgt := 27) hx hb dX10_layRoads_147 (by decide) ?_
        exact ih27 x24 H locs ls w8 (show 0 ≤ a1.toInt by omega) (show a1.toInt ≤ 4 by omega) (show 0 ≤ a2.toInt by omega) (show a2.toInt ≤ 127 by omega) (show 0 ≤ x24.toInt by omega) (show x24.toInt ≤ 12 by omega) (show (12 - x24.toInt).toNat < n27 by omega) hw hT hF  (lv_sub hl [1, 2, 3, 4, 0] rfl)
      have J130 : ∀ (v130_5 : Int32) (v130_6 : Int32) (v130_7 : Int32) (f130_158_4 : Int32) (H : Heap) (locs : List Loc) (ls : Array Slot) (w25 : va_W), 0 ≤ a1.toInt → a1.toInt ≤ 4 → 0 ≤ a2.toInt → a2.toInt ≤ 127 → 0 ≤ v27_4.toInt → v27_4.toInt ≤ 11 → 0 ≤ v130_5.toInt → v130_5.toInt ≤ 9 → 0 ≤ v130_6.toInt → v130_6.toInt ≤ 9 → 0 ≤ v130_7.toInt → v130_7.toInt ≤ 1 → 1 ≤ f130_158_4.toInt → f130_158_4.toInt ≤ 12 → Wd dC dI A s.heap H locs w25 → TW ksC ad cy B qr s1 w25 → FE ksC [(51, 0, 10)] w0 w25 → gi w25 158 4 = f130_158_4 → lv_has ls 8 [(0, .ref (ad 158)), (1, .int a1), (2, .int a2), (3, .int (-1)), (4, .int v27_4), (5, .int v130_5), (6, .int v130_6), (7, .int v130_7)] → W p l e ({ frames := 1, cells := 0, slots := 0, locals := 12 }) s m (List.toArray [.ref (ad 158), .int a1, .int a2, .int (-1)]) below meth c H locs 0 0 (MQ below (va_Qv (P_X10_layRoads_35 ad cy B qr s1 a1 a2 w0) (fun u : va_W => wpost dC dI cy A u) A) (List.toArray [.ref (ad 158), .int a1, .int a2, .int (-1)]) s 0 0 A) (F0 m 130 ls []) := by
        intro v130_5 v130_6 v130_7 f130_158_4 H locs ls w25 r26 t27 r28 t29 r30 t31 r32 t33 r34 t35 r36 t37 r38 t39 hw hT hF c40 hl
        refine lv_aload_n hx hb dX10_layRoads_130 rfl (lv_at hl 0 rfl) ?_
        refine tk_getA hC hK hw hT hinX10 kC_at158 (by decide) rfl 3 (by decide) (List.mem_of_getElem? (i := 1) rfl) rfl rfl dX10_layRoads_131 ?_
        refine lv_iload hx hb dX10_layRoads_134 (lv_at hl 6 rfl) ?_
        refine lv_dup2_11 hx hb dX10_layRoads_136 rfl rfl ?_
        refine tk_iald hC hK hw hT kC_at160 rfl rfl (show 0 ≤ v130_6.toInt by omega) (show v130_6.toInt < 10 by omega) dX10_layRoads_137 (fun x41 c42 rx41 tx41 => ?_)
        refine lv_iconst (v := 1) hx hb dX10_layRoads_138 (by decide) ?_
        refine lv_iload hx hb dX10_layRoads_139 (lv_at hl 5 rfl) ?_
        refine lv_ishl hx hb dX10_layRoads_141 ?_
        refine lv_topi (fun x43 ex43 => ?_)
        have bx43 : 1 ≤ x43.toInt ∧ x43.toInt ≤ 512 := by rw [ex43]; exact wk_shl1 9 (by decide) (by omega) (by omega)
        refine lv_ior hx hb dX10_layRoads_142 ?_
        refine lv_topi (fun x44 ex44 => ?_)
        have bx44 : 0 ≤ x44.toInt ∧ x44.toInt < 1024 := by rw [ex44]; exact wk_or 10 (by decide) (by omega) (by omega) (by omega) (by omega)
        refine tk_iast hC hK hw hT kC_at160 (by decide) rfl rfl (show 0 ≤ v130_6.toInt by omega) (show v130_6.toInt < 10 by omega) (show 0 ≤ x44.toInt by omega) (show x44.toInt ≤ 1023 by omega) dX10_layRoads_143 (fun H locs w45 hw hT k47 c46 => ?_)
        have hF := hF.put kC_at160 (inE_of (a := 0) (b := 10) (by decide) (show 0 ≤ v130_6.toInt.toNat by omega) (show v130_6.toInt.toNat ≤ 10 by omega)) k47
        have c48 := k47.gi (Or.inl (tk_ne kC_at158 kC_at160 (by decide))) c40
        exact J144 v130_5 v130_6 v130_7 f130_158_4 H locs ls w45 (show 0 ≤ a1.toInt by omega) (show a1.toInt ≤ 4 by omega) (show 0 ≤ a2.toInt by omega) (show a2.toInt ≤ 127 by omega) (show 0 ≤ v27_4.toInt by omega) (show v27_4.toInt ≤ 11 by omega) (show 0 ≤ v130_5.toInt by omega) (show v130_5.toInt ≤ 9 by omega) (show 0 ≤ v130_6.toInt by omega) (show v130_6.toInt ≤ 9 by omega) (show 0 ≤ v130_7.toInt by omega) (show v130_7.toInt ≤ 1 by omega) (show 1 ≤ f130_158_4.toInt by omega) (show f130_158_4.toInt ≤ 12 by omega)  hw hT hF c48 (lv_sub hl [0, 1, 2, 3, 4, 5, 6, 7] rfl)
      have J118 : ∀ (v118_5 : Int32) (v118_6 : Int32) (v118_7 : Int32) (f118_158_4 : Int32) (H : Heap) (locs : List Loc) (ls : Array Slot) (w49 : va_W), 0 ≤ a1.toInt → a1.toInt ≤ 4 → 0 ≤ a2.toInt → a2.toInt ≤ 127 → 0 ≤ v27_4.toInt → v27_4.toInt ≤ 11 → 0 ≤ v118_5.toInt → v118_5.toInt ≤ 9 → 0 ≤ v118_6.toInt → v118_6.toInt ≤ 9 → 0 ≤ v118_7.toInt → v118_7.toInt ≤ 1 → 1 ≤ f118_158_4.toInt → f118_158_4.toInt ≤ 12 → Wd dC dI A s.heap H locs w49 → TW ksC ad cy B qr s1 w49 → FE ksC [(51, 0, 10)] w0 w49 → gi w49 158 4 = f118_158_4 → lv_has ls 8 [(0, .ref (ad 158)), (1, .int a1), (2, .int a2), (3, .int (-1)), (4, .int v27_4), (5, .int v118_5), (6, .int v118_6), (7, .int v118_7)] → W p l e ({ frames := 1, cells := 0, slots := 0, locals := 12 }) s m (List.toArray [.ref (ad 158), .int a1, .int a2, .int (-1)]) below meth c H locs 0 0 (MQ below (va_Qv (P_X10_layRoads_35 ad cy B qr s1 a1 a2 w0) (fun u : va_W => wpost dC dI cy A u) A) (List.toArray [.ref (ad 158), .int a1, .int a2, .int (-1)]) s 0 0 A) (F0 m 118 ls []) := by
        intro v118_5 v118_6 v118_7 f118_158_4 H locs ls w49 r50 t51 r52 t53 r54 t55 r56 t57 r58 t59 r60 t61 r62 t63 hw hT hF c64 hl
        refine lv_iload hx hb dX10_layRoads_118 (lv_at hl 4 rfl) ?_
        refine lv_iload_n hx hb dX10_layRoads_120 rfl (lv_at hl 1 rfl) ?_
        refine lv_icmp_lt (tgt := 130) hx hb dX10_layRoads_121 (by decide) (fun c65 => ?_) (fun c65 => ?_)
        · have c65 : v27_4.toInt < a1.toInt := wk_lt.mp c65
          exact J130 v118_5 v118_6 v118_7 f118_158_4 H locs ls w49 (show 0 ≤ a1.toInt by omega) (show a1.toInt ≤ 4 by omega) (show 0 ≤ a2.toInt by omega) (show a2.toInt ≤ 127 by omega) (show 0 ≤ v27_4.toInt by omega) (show v27_4.toInt ≤ 11 by omega) (show 0 ≤ v118_5.toInt by omega) (show v118_5.toInt ≤ 9 by omega) (show 0 ≤ v118_6.toInt by omega) (show v118_6.toInt ≤ 9 by omega) (show 0 ≤ v118_7.toInt by omega) (show v118_7.toInt ≤ 1 by omega) (show 1 ≤ f118_158_4.toInt by omega) (show f118_158_4.toInt ≤ 12 by omega)  hw hT hF c64 (lv_sub hl [0, 1, 2, 3, 4, 5, 6, 7] rfl)
        · have c65 : a1.toInt ≤ v27_4.toInt := wk_ltF c65
          refine lv_iload hx hb dX10_layRoads_124 (lv_at hl 7 rfl) ?_
          refine lv_iconst (v := 1) hx hb dX10_layRoads_126 (by decide) ?_
          refine lv_icmp_ne (tgt := 144) hx hb dX10_layRoads_127 (by decide) (fun c66 => ?_) (fun c66 => ?_)
          · have c66 : ¬ v118_7.toInt = (1 : Int) := wk_eqF c66
            exact J144 v118_5 v118_6 v118_7 f118_158_4 H locs ls w49 (show 0 ≤ a1.toInt by omega) (show a1.toInt ≤ 4 by omega) (show 0 ≤ a2.toInt by omega) (show a2.toInt ≤ 127 by omega) (show 0 ≤ v27_4.toInt by omega) (show v27_4.toInt ≤ 11 by omega) (show 0 ≤ v118_5.toInt by omega) (show v118_5.toInt ≤ 9 by omega) (show 0 ≤ v118_6.toInt by omega) (show v118_6.toInt ≤ 9 by omega) (show 0 ≤ v118_7.toInt by omega) (show v118_7.toInt ≤ 1 by omega) (show 1 ≤ f118_158_4.toInt by omega) (show f118_158_4.toInt ≤ 12 by omega)  hw hT hF c64 (lv_sub hl [0, 1, 2, 3, 4, 5, 6, 7] rfl)
          · have c66 : v118_7.toInt = (1 : Int) := wk_eq.mp c66
            exact J130 v118_5 v118_6 v118_7 f118_158_4 H locs ls w49 (show 0 ≤ a1.toInt by omega) (show a1.toInt ≤ 4 by omega) (show 0 ≤ a2.toInt by omega) (show a2.toInt ≤ 127 by omega) (show 0 ≤ v27_4.toInt by omega) (show v27_4.toInt ≤ 11 by omega) (show 0 ≤ v118_5.toInt by omega) (show v118_5.toInt ≤ 9 by omega) (show 0 ≤ v118_6.toInt by omega) (show v118_6.toInt ≤ 9 by omega) (show 0 ≤ v118_7.toInt by omega) (show v118_7.toInt ≤ 1 by omega) (show 1 ≤ f118_158_4.toInt by omega) (show f118_158_4.toInt ≤ 12 by omega)  hw hT hF c64 (lv_sub hl [0, 1, 2, 3, 4, 5, 6, 7] rfl)
      have J104 : ∀ (v104_5 : Int32) (v104_6 : Int32) (v104_7 : Int32) (f104_158_4 : Int32) (H : Heap) (locs : List Loc) (ls : Array Slot) (w67 : va_W), 0 ≤ a1.toInt → a1.toInt ≤ 4 → 0 ≤ a2.toInt → a2.toInt ≤ 127 → 0 ≤ v27_4.toInt → v27_4.toInt ≤ 11 → 0 ≤ v104_5.toInt → v104_5.toInt ≤ 9 → 0 ≤ v104_6.toInt → v104_6.toInt ≤ 9 → 0 ≤ v104_7.toInt → v104_7.toInt ≤ 1 → 1 ≤ f104_158_4.toInt → f104_158_4.toInt ≤ 12 → Wd dC dI A s.heap H locs w67 → TW ksC ad cy B qr s1 w67 → FE ksC [(51, 0, 10)] w0 w67 → gi w67 158 4 = f104_158_4 → lv_has ls 8 [(0, .ref (ad 158)), (1, .int a1), (2, .int a2), (3, .int (-1)), (4, .int v27_4), (5, .int v104_5), (6, .int v104_6), (7, .int v104_7)] → W p l e ({ frames := 1, cells := 0, slots := 0, locals := 12 }) s m (List.toArray [.ref (ad 158), .int a1, .int a2, .int (-1)]) below meth c H locs 0 0 (MQ below (va_Qv (P_X10_layRoads_35 ad cy B qr s1 a1 a2 w0) (fun u : va_W => wpost dC dI cy A u) A) (List.toArray [.ref (ad 158), .int a1, .int a2, .int (-1)]) s 0 0 A) (F0 m 104 ls []) := by
        intro v104_5 v104_6 v104_7 f104_158_4 H locs ls w67 r68 t69 r70 t71 r72 t73 r74 t75 r76 t77 r78 t79 r80 t81 hw hT hF c82 hl
        refine lv_aload_n hx hb dX10_layRoads_104 rfl (lv_at hl 0 rfl) ?_
        refine tk_getA hC hK hw hT hinX10 kC_at158 (by decide) rfl 3 (by decide) (List.mem_of_getElem? (i := 1) rfl) rfl rfl dX10_layRoads_105 ?_
        refine lv_iload hx hb dX10_layRoads_108 (lv_at hl 5 rfl) ?_
        refine lv_dup2_11 hx hb dX10_layRoads_110 rfl rfl ?_
        refine tk_iald hC hK hw hT kC_at160 rfl rfl (show 0 ≤ v104_5.toInt by omega) (show v104_5.toInt < 10 by omega) dX10_layRoads_111 (fun x83 c84 rx83 tx83 => ?_)
        refine lv_iconst (v := 1) hx hb dX10_layRoads_112 (by decide) ?_
        refine lv_iload hx hb dX10_layRoads_113 (lv_at hl 6 rfl) ?_
        refine lv_ishl hx hb dX10_layRoads_115 ?_
        refine lv_topi (fun x85 ex85 => ?_)
        have bx85 : 1 ≤ x85.toInt ∧ x85.toInt ≤ 512 := by rw [ex85]; exact wk_shl1 9 (by decide) (by omega) (by omega)
        refine lv_ior hx hb dX10_layRoads_116 ?_
        refine lv_topi (fun x86 ex86 => ?_)
        have bx86 : 0 ≤ x86.toInt ∧ x86.toInt < 1024 := by rw [ex86]; exact wk_or 10 (by decide) (by omega) (by omega) (by omega) (by omega)
        refine tk_iast hC hK hw hT kC_at160 (by decide) rfl rfl (show 0 ≤ v104_5.toInt by omega) (show v104_5.toInt < 10 by omega) (show 0 ≤ x86.toInt by omega) (show x86.toInt ≤ 1023 by omega) dX10_layRoads_117 (fun H locs w87 hw hT k89 c88 => ?_)
        have hF := hF.put kC_at160 (inE_of (a := 0) (b := 10) (by decide) (show 0 ≤ v104_5.toInt.toNat by omega) (show v104_5.toInt.toNat ≤ 10 by omega)) k89
        have c90 := k89.gi (Or.inl (tk_ne kC_at158 kC_at160 (by decide))) c82
        exact J118 v104_5 v104_6 v104_7 f104_158_4 H locs ls w87 (show 0 ≤ a1.toInt by omega) (show a1.toInt ≤ 4 by omega) (show 0 ≤ a2.toInt by omega) (show a2.toInt ≤ 127 by omega) (show 0 ≤ v27_4.toInt by omega) (show v27_4.toInt ≤ 11 by omega) (show 0 ≤ v104_5.toInt by omega) (show v104_5.toInt ≤ 9 by omega) (show 0 ≤ v104_6.toInt by omega) (show v104_6.toInt ≤ 9 by omega) (show 0 ≤ v104_7.toInt by omega) (show v104_7.toInt ≤ 1 by omega) (show 1 ≤ f104_158_4.toInt by omega) (show f104_158_4.toInt ≤ 12 by omega)  hw hT hF c90 (lv_sub hl [0, 1, 2, 3, 4, 5, 6, 7] rfl)
      refine lv_iload hx hb dX10_layRoads_27 (lv_at hl 4 rfl) ?_
      refine lv_aload_n hx hb dX10_layRoads_29 rfl (lv_at hl 0 rfl) ?_
      refine tk_geti hC hK hw hT hinX10 kC_at158 (by decide) rfl 4 (by decide) (List.mem_of_getElem? (i := 2) rfl) rfl rfl dX10_layRoads_30 (fun x91 c92 rx91 tx91 => ?_)
      refine lv_icmp_ge (tgt := 150) hx hb dX10_layRoads_33 (by decide) (fun c93 => ?_) (fun c93 => ?_)
      · have c93 : x91.toInt ≤ v27_4.toInt := wk_le.mp c93
        exact tk_vret hC hr hlocks hK ⟨hT, hF, trivial⟩ hw dX10_layRoads_150
      · have c93 : v27_4.toInt < x91.toInt := wk_leF c93
        refine lv_iload hx hb dX10_layRoads_36 (lv_at hl 4 rfl) ?_
        refine lv_iload_n hx hb dX10_layRoads_38 rfl (lv_at hl 3 rfl) ?_
        refine lv_icmp_ne (tgt := 45) hx hb dX10_layRoads_39 (by decide) (fun _ => ?_) (fun c => absurd (show v27_4.toInt = (-1 : Int) from wk_eq.mp c) (by omega))
        refine lv_aload_n hx hb dX10_layRoads_45 rfl (lv_at hl 0 rfl) ?_
        refine tk_getA hC hK hw hT hinX10 kC_at158 (by decide) rfl 1 (by decide) (List.mem_of_getElem? (i := 3) rfl) rfl rfl dX10_layRoads_46 ?_
        refine tk_getO hC hK hw hT hinX7 kC_at39 (by decide) rfl 0 (by decide) (List.mem_of_getElem? (i := 4) rfl) rfl rfl dX10_layRoads_49 ?_
        refine lv_iconst (v := 2) hx hb dX10_layRoads_52 (by decide) ?_
        refine lv_aload_n hx hb dX10_layRoads_53 rfl (lv_at hl 0 rfl) ?_
        refine tk_getA hC hK hw hT hinX10 kC_at158 (by decide) rfl 2 (by decide) (List.mem_of_getElem? (i := 5) rfl) rfl rfl dX10_layRoads_54 ?_
        refine lv_iload hx hb dX10_layRoads_57 (lv_at hl 4 rfl) ?_
        refine tk_iald hC hK hw hT kC_at159 rfl rfl (show 0 ≤ v27_4.toInt by omega) (show v27_4.toInt < 12 by omega) dX10_layRoads_59 (fun x94 c95 rx94 tx94 => ?_)
        refine lv_imul hx hb dX10_layRoads_60 ?_
        refine lv_topi (fun x96 ex96 => ?_)
        have ex96 : x96.toInt = (2 : Int) * x94.toInt := by rw [ex96]; exact wk_mul (show (-2147483648) ≤ (2 : Int) * x94.toInt by omega) (show (2 : Int) * x94.toInt ≤ 2147483647 by omega)
        refine tk_iald hC hK hw hT kC_at40 rfl rfl (show 0 ≤ x96.toInt by omega) (show x96.toInt < 26 by omega) dX10_layRoads_61 (fun x97 c98 rx97 tx97 => ?_)
        refine lv_istore (lv' := [(5, .int x97), (0, .ref (ad 158)), (1, .int a1), (2, .int a2), (3, .int (-1)), (4, .int v27_4)]) hx hb dX10_layRoads_62 hl (by decide) rfl (fun ls hl => ?_)
        refine lv_aload_n hx hb dX10_layRoads_64 rfl (lv_at hl 1 rfl) ?_
        refine tk_getA hC hK hw hT hinX10 kC_at158 (by decide) rfl 1 (by decide) (List.mem_of_getElem? (i := 3) rfl) rfl rfl dX10_layRoads_65 ?_
        refine tk_getO hC hK hw hT hinX7 kC_at39 (by decide) rfl 0 (by decide) (List.mem_of_getElem? (i := 4) rfl) rfl rfl dX10_layRoads_68 ?_
        refine lv_iconst (v := 2) hx hb dX10_layRoads_71 (by decide) ?_
        refine lv_aload_n hx hb dX10_layRoads_72 rfl (lv_at hl 1 rfl) ?_
        refine tk_getA hC hK hw hT hinX10 kC_at158 (by decide) rfl 2 (by decide) (List.mem_of_getElem? (i := 5) rfl) rfl rfl dX10_layRoads_73 ?_
        refine lv_iload hx hb dX10_layRoads_76 (lv_at hl 5 rfl) ?_
        refine tk_iald hC hK hw hT kC_at159 rfl rfl (show 0 ≤ v27_4.toInt by omega) (show v27_4.toInt < 12 by omega) dX10_layRoads_78 (fun x99 c100 rx99 tx99 => ?_)
        refine lv_imul hx hb dX10_layRoads_79 ?_
        refine lv_topi (fun x101 ex101 => ?_)
        have ex101 : x101.toInt = (2 : Int) * x99.toInt := by rw [ex101]; exact wk_mul (show (-2147483648) ≤ (2 : Int) * x99.toInt by omega) (show (2 : Int) * x99.toInt ≤ 2147483647 by omega)
        refine lv_iconst (v := 1) hx hb dX10_layRoads_80 (by decide) ?_
        refine lv_iadd hx hb dX10_layRoads_81 ?_
        refine lv_topi (fun x102 ex102 => ?_)
        have ex102 : x102.toInt = x101.toInt + (1 : Int) := by rw [ex102]; exact wk_add (show (-2147483648) ≤ x101.toInt + (1 : Int) by omega) (show x101.toInt + (1 : Int) ≤ 2147483647 by omega)
        refine tk_iald hC hK hw hT kC_at40 rfl rfl (show 0 ≤ x102.toInt by omega) (show x102.toInt < 26 by omega) dX10_layRoads_82 (fun x103 c104 rx103 tx103 => ?_)
        refine lv_istore (lv' := [(6, .int x103), (5, .int x97), (0, .ref (ad 158)), (1, .int a1), (2, .int a2), (3, .int (-1)), (4, .int v27_4)]) hx hb dX10_layRoads_83 hl (by decide) rfl (fun ls hl => ?_)
        refine lv_iload_n hx hb dX10_layRoads_85 rfl (lv_at hl 4 rfl) ?_
        refine lv_iload hx hb dX10_layRoads_86 (lv_at hl 6 rfl) ?_
        refine lv_ishr hx hb dX10_layRoads_88 ?_
        refine lv_topi (fun x105 ex105 => ?_)
        have bx105 : 0 ≤ x105.toInt ∧ x105.toInt ≤ a2.toInt := by rw [ex105]; exact wk_shr (by omega)
        refine lv_iconst (v := 1) hx hb dX10_layRoads_89 (by decide) ?_
        refine lv_iand hx hb dX10_layRoads_90 ?_
        refine lv_topi (fun x106 ex106 => ?_)
        have bx106 : 0 ≤ x106.toInt ∧ x106.toInt ≤ (1 : Int) := by rw [ex106]; exact wk_and (by decide)
        refine lv_istore (lv' := [(7, .int x106), (6, .int x103), (5, .int x97), (0, .ref (ad 158)), (1, .int a1), (2, .int a2), (3, .int (-1)), (4, .int v27_4)]) hx hb dX10_layRoads_91 hl (by decide) rfl (fun ls hl => ?_)
        refine lv_iload hx hb dX10_layRoads_93 (lv_at hl 7 rfl) ?_
        refine lv_iload_n hx hb dX10_layRoads_95 rfl (lv_at hl 4 rfl) ?_
        refine lv_icmp_lt (tgt := 104) hx hb dX10_layRoads_96 (by decide) (fun c107 => ?_) (fun c107 => ?_)
        · have c107 : v27_4.toInt < a1.toInt := wk_lt.mp c107
          exact J104 x97 x103 x106 x91 H locs ls w1 (show 0 ≤ a1.toInt by omega) (show a1.toInt ≤ 4 by omega) (show 0 ≤ a2.toInt by omega) (show a2.toInt ≤ 127 by omega) (show 0 ≤ v27_4.toInt by omega) (show v27_4.toInt ≤ 11 by omega) (show 0 ≤ x97.toInt by omega) (show x97.toInt ≤ 9 by omega) (show 0 ≤ x103.toInt by omega) (show x103.toInt ≤ 9 by omega) (show 0 ≤ x106.toInt by omega) (show x106.toInt ≤ 1 by omega) (show 1 ≤ x91.toInt by omega) (show x91.toInt ≤ 12 by omega)  hw hT hF c92 (lv_sub hl [3, 4, 5, 6, 7, 2, 1, 0] rfl)
        · have c107 : a1.toInt ≤ v27_4.toInt := wk_ltF c107
          refine lv_iload hx hb dX10_layRoads_99 (lv_at hl 0 rfl) ?_
          refine lv_if_ne (tgt := 118) hx hb dX10_layRoads_101 (by decide) (fun c108 => ?_) (fun c108 => ?_)
          · have c108 : ¬ x106.toInt = (0 : Int) := wk_eqF c108
            exact J118 x97 x103 x106 x91 H locs ls w1 (show 0 ≤ a1.toInt by omega) (show a1.toInt ≤ 4 by omega) (show 0 ≤ a2.toInt by omega) (show a2.toInt ≤ 127 by omega) (show 0 ≤ v27_4.toInt by omega) (show v27_4.toInt ≤ 11 by omega) (show 0 ≤ x97.toInt by omega) (show x97.toInt ≤ 9 by omega) (show 0 ≤ x103.toInt by omega) (show x103.toInt ≤ 9 by omega) (show 0 ≤ x106.toInt by omega) (show x106.toInt ≤ 1 by omega) (show 1 ≤ x91.toInt by omega) (show x91.toInt ≤ 12 by omega)  hw hT hF c92 (lv_sub hl [3, 4, 5, 6, 7, 2, 1, 0] rfl)
          · have c108 : x106.toInt = (0 : Int) := wk_eq.mp c108
            exact J104 x97 x103 x106 x91 H locs ls w1 (show 0 ≤ a1.toInt by omega) (show a1.toInt ≤ 4 by omega) (show 0 ≤ a2.toInt by omega) (show a2.toInt ≤ 127 by omega) (show 0 ≤ v27_4.toInt by omega) (show v27_4.toInt ≤ 11 by omega) (show 0 ≤ x97.toInt by omega) (show x97.toInt ≤ 9 by omega) (show 0 ≤ x103.toInt by omega) (show x103.toInt ≤ 9 by omega) (show 0 ≤ x106.toInt by omega) (show x106.toInt ≤ 1 by omega) (show 1 ≤ x91.toInt by omega) (show x91.toInt ≤ 12 by omega)  hw hT hF c92 (lv_sub hl [3, 4, 5, 6, 7, 2, 1, 0] rfl)
  have L3 : ∀ (n3 : Nat) (v3_4 : Int32) (H : Heap) (locs : List Loc) (ls : Array Slot) (w109 : va_W), 0 ≤ a1.toInt → a1.toInt ≤ 4 → 0 ≤ a2.toInt → a2.toInt ≤ 127 → 0 ≤ v3_4.toInt → v3_4.toInt ≤ 10 → (10 - v3_4.toInt).toNat < n3 → Wd dC dI A s.heap H locs w109 → TW ksC ad cy B qr s1 w109 → FE ksC [(51, 0, 10)] w0 w109 → lv_has ls 8 [(0, .ref (ad 158)), (1, .int a1), (2, .int a2), (3, .int (-1)), (4, .int v3_4)] → W p l e ({ frames := 1, cells := 0, slots := 0, locals := 12 }) s m (List.toArray [.ref (ad 158), .int a1, .int a2, .int (-1)]) below meth c H locs 0 0 (MQ below (va_Qv (P_X10_layRoads_35 ad cy B qr s1 a1 a2 w0) (fun u : va_W => wpost dC dI cy A u) A) (List.toArray [.ref (ad 158), .int a1, .int a2, .int (-1)]) s 0 0 A) (F0 m 3 ls []) := by
    intro n3
    induction n3 with
    | zero => intro v3_4 H locs ls w109 r110 t111 r112 t113 r114 t115 hm3 hw hT hF hl; omega
    | succ n3 ih3 =>
      intro v3_4 H locs ls w109 r110 t111 r112 t113 r114 t115 hm3 hw hT hF hl
      refine lv_iload hx hb dX10_layRoads_3 (lv_at hl 4 rfl) ?_
      refine lv_bipush (v := 10) hx hb dX10_layRoads_5 (by decide) ?_
      refine lv_icmp_ge (tgt := 24) hx hb dX10_layRoads_7 (by decide) (fun c116 => ?_) (fun c116 => ?_)
      · have c116 : (10 : Int) ≤ v3_4.toInt := wk_le.mp c116
        refine lv_iconst (v := 0) hx hb dX10_layRoads_24 (by decide) ?_
        refine lv_istore (lv' := [(4, .int 0), (0, .ref (ad 158)), (1, .int a1), (2, .int a2), (3, .int (-1))]) hx hb dX10_layRoads_25 hl (by decide) rfl (fun ls hl => ?_)
        exact L27 ((12 - (0 : Int)).toNat + 1) 0 H locs ls w109 (show 0 ≤ a1.toInt by omega) (show a1.toInt ≤ 4 by omega) (show 0 ≤ a2.toInt by omega) (show a2.toInt ≤ 127 by omega) (by decide) (by decide) (Nat.lt_succ_self _) hw hT hF  (lv_sub hl [1, 2, 3, 4, 0] rfl)
      · have c116 : v3_4.toInt < (10 : Int) := wk_leF c116
        refine lv_aload_n hx hb dX10_layRoads_10 rfl (lv_at hl 0 rfl) ?_
        refine tk_getA hC hK hw hT hinX10 kC_at158 (by decide) rfl 3 (by decide) (List.mem_of_getElem? (i := 1) rfl) rfl rfl dX10_layRoads_11 ?_
        refine lv_iload hx hb dX10_layRoads_14 (lv_at hl 4 rfl) ?_
        refine lv_iconst (v := 0) hx hb dX10_layRoads_16 (by decide) ?_
        refine tk_iast hC hK hw hT kC_at160 (by decide) rfl rfl (show 0 ≤ v3_4.toInt by omega) (show v3_4.toInt < 10 by omega) (by decide) (by decide) dX10_layRoads_17 (fun H locs w117 hw hT k119 c118 => ?_)
        have hF := hF.put kC_at160 (inE_of (a := 0) (b := 10) (by decide) (show 0 ≤ v3_4.toInt.toNat by omega) (show v3_4.toInt.toNat ≤ 10 by omega)) k119
        obtain ⟨x120, ex120⟩ : ∃ y : Int32, y = v3_4 + Int32.ofInt 1 := ⟨_, rfl⟩
        refine lv_iinc (v := x120) (lv' := [(4, .int x120), (0, .ref (ad 158)), (1, .int a1), (2, .int a2), (3, .int (-1))]) hx hb dX10_layRoads_18 hl (k := 4) rfl ex120.symm (by decide) rfl (fun ls hl => ?_)
        have ex120 : x120.toInt = v3_4.toInt + 1 := by rw [ex120]; exact wk_add (y := 1) (show -2147483648 ≤ v3_4.toInt + 1 by omega) (show v3_4.toInt + 1 ≤ 2147483647 by omega)
        refine lv_goto (tgt := 3) hx hb dX10_layRoads_21 (by decide) ?_
        exact ih3 x120 H locs ls w117 (show 0 ≤ a1.toInt by omega) (show a1.toInt ≤ 4 by omega) (show 0 ≤ a2.toInt by omega) (show a2.toInt ≤ 127 by omega) (show 0 ≤ x120.toInt by omega) (show x120.toInt ≤ 10 by omega) (show (10 - x120.toInt).toNat < n3 by omega) hw hT hF  (lv_sub hl [1, 2, 3, 4, 0] rfl)
  refine lv_iconst (v := 0) hx hb dX10_layRoads_0 (by decide) ?_
  refine lv_istore (lv' := [(4, .int 0), (0, .ref (ad 158)), (1, .int a1), (2, .int a2), (3, .int (-1))]) hx hb dX10_layRoads_1 hl (by decide) rfl (fun ls hl => ?_)
  exact L3 ((10 - (0 : Int)).toNat + 1) 0 s.heap locs ls w0 (show 0 ≤ a1.toInt by omega) (show a1.toInt ≤ 4 by omega) (show 0 ≤ a2.toInt by omega) (show a2.toInt ≤ 127 by omega) (by decide) (by decide) (Nat.lt_succ_self _) hw hT hF  (lv_sub hl [1, 2, 3, 4, 0] rfl)
abbrev P_X10_leastBelow_37 (ad : Nat → Nat) (cy : Nat → ClassId) (B : Int) (qr : Nat) (s1 : Int) (a1 : Int32) (a2 : Int32) (w0 : va_W) : Int32 → va_W → Prop := fun r u => TW ksC ad cy B qr s1 u ∧ FE ksC [(51, 0, 10)] w0 u ∧ ((0 ≤ r.toInt ∧ r.toInt ≤ 127) ∨ (r = (-1) ∧ (∃ y : Int32, gi u 38 10 = y ∧ 1 ≤ y.toInt ∧ y.toInt ≤ 6)))
set_option maxHeartbeats 4000000 in
set_option maxRecDepth 100000 in
theorem k_X10_leastBelow_37 (l : Launch) (adK adV : Nat → Nat) (dC : Nat → ClassId) (dI : Nat → Nat → Nat) (cy : Nat → ClassId) (ad : Nat → Nat) (B : Int) (hB0 : 2147483648 ≤ B) (hB1 : B ≤ 1152921504606846976) (qr : Nat) (s1 : Int)  (a1 : Int32) (ra1 : 0 ≤ a1.toInt) (ta1 : a1.toInt ≤ 4) (a2 : Int32) (ra2 : 0 ≤ a2.toInt) (ta2 : a2.toInt ≤ 127) (w0 : va_W) (sz : Nat) (hT : TW ksC ad cy B qr s1 w0)  : Met l yX10_leastBelow wsX10_leastBelow ({ frames := 7, cells := 0, slots := 0, locals := 151 }) (va_Pc [.ref (ad 158), .int a1, .int a2] (wpreS adK adV dC dI cy sz w0)) (va_Qi (P_X10_leastBelow_37 ad cy B qr s1 a1 a2 w0) (fun u : va_W => wpost dC dI cy (va_A w0 sz) u) (va_A w0 sz)) 0 0 (va_A w0 sz) := by
  refine Met.ofW (cc := cX10_leastBelow) (maxL := 4) (ret := (some .int)) (by decide) rfl ?_
  intro p e s m args below meth c s₁ Bk hml hv
  obtain ⟨rfl, ⟨hsz, hP, hK, hD0⟩, hE, hSR⟩ := hv
  have hx := Bk.exec
  have hb := Bk.bytes
  have hr := Bk.returns
  have hlocks := Bk.notSynchronized
  have hC : CallFix p m c cX10_leastBelow 4 s _ wsX10_leastBelow RX10 := ⟨hx, hb, hml, findClass_of_methodNamed Bk.named, atoms_spec (ws := wsX10_leastBelow) Bk.pre⟩
  subst hsz
  have hD := hD0.self (sz := s.heap.size)
  generalize hAe : va_A w0 s.heap.size = A at hD hE ⊢
  have hA : ∀ q : Nat, s.heap.size ≤ q → A q := fun q h => by rw [← hAe]; exact Or.inr h
  have hw : Wd dC dI A s.heap s.heap [] w0 := ⟨hP, hD, va_S.rf⟩
  have hF : FE ksC [(51, 0, 10)] w0 w0 := FE.rf
  have hl := lv_entry ([.ref (ad 158), .int a1, .int a2]) (n := 4) (Nat.le_of_ble_eq_true rfl)
  rw [lg_entry_eq]
  generalize (lg_sl ([.ref (ad 158), .int a1, .int a2]) ++ List.replicate (4 - (lg_sl ([.ref (ad 158), .int a1, .int a2])).length) Slot.unset).toArray = ls at hl ⊢
  have hl : lv_has ls 4 [(0, .ref (ad 158)), (1, .int a1), (2, .int a2)] := hl
  generalize hloc : ([] : List Loc) = locs at hw ⊢
  have hinX10 : ∀ w ∈ u_ws RX10 TX10 5, w ∈ wsX10_leastBelow := fun _ h => List.mem_cons_of_mem _ (List.mem_append_left _ (List.mem_append_left _ (List.mem_append_right _ (h))))
  have hinX5 : ∀ w ∈ u_ws RX5 TX5 14, w ∈ wsX10_leastBelow := fun _ h => List.mem_cons_of_mem _ (List.mem_append_left _ (List.mem_append_right _ (h)))
  have L9 : ∀ (n9 : Nat) (v9_3 : Int32) (H : Heap) (locs : List Loc) (ls : Array Slot) (w1 : va_W), 0 ≤ a1.toInt → a1.toInt ≤ 4 → 0 ≤ a2.toInt → a2.toInt ≤ 127 → 0 ≤ v9_3.toInt → v9_3.toInt ≤ 6 → (6 - v9_3.toInt).toNat < n9 → Wd dC dI A s.heap H locs w1 → TW ksC ad cy B qr s1 w1 → FE ksC [(51, 0, 10)] w0 w1 → lv_has ls 4 [(0, .ref (ad 158)), (1, .int a1), (2, .int a2), (3, .int v9_3)] → W p l e ({ frames := 7, cells := 0, slots := 0, locals := 151 }) s m (List.toArray [.ref (ad 158), .int a1, .int a2]) below meth c H locs 0 0 (MQ below (va_Qi (P_X10_leastBelow_37 ad cy B qr s1 a1 a2 w0) (fun u : va_W => wpost dC dI cy A u) A) (List.toArray [.ref (ad 158), .int a1, .int a2]) s 0 0 A) (F0 m 9 ls []) := by
    intro n9
    induction n9 with
    | zero => intro v9_3 H locs ls w1 r2 t3 r4 t5 r6 t7 hm9 hw hT hF hl; omega
    | succ n9 ih9 =>
      intro v9_3 H locs ls w1 r2 t3 r4 t5 r6 t7 hm9 hw hT hF hl
      refine lv_iload_n hx hb dX10_leastBelow_9 rfl (lv_at hl 3 rfl) ?_
      refine lv_aload_n hx hb dX10_leastBelow_10 rfl (lv_at hl 0 rfl) ?_
      refine tk_getA hC hK hw hT hinX10 kC_at158 (by decide) rfl 0 (by decide) (List.mem_of_getElem? (i := 1) rfl) rfl rfl dX10_leastBelow_11 ?_
      refine tk_geti hC hK hw hT hinX5 kC_at38 (by decide) rfl 10 (by decide) (List.mem_of_getElem? (i := 2) rfl) rfl rfl dX10_leastBelow_14 (fun x8 c9 rx8 tx8 => ?_)
      refine lv_icmp_ge (tgt := 36) hx hb dX10_leastBelow_17 (by decide) (fun c10 => ?_) (fun c10 => ?_)
      · have c10 : x8.toInt ≤ v9_3.toInt := wk_le.mp c10
        refine lv_iload_n hx hb dX10_leastBelow_36 rfl (lv_at hl 1 rfl) ?_
        refine lv_if_gt (tgt := 42) hx hb dX10_leastBelow_37 (by decide) (fun c11 => ?_) (fun c11 => ?_)
        · have c11 : (0 : Int) < a1.toInt := wk_lt.mp c11
          refine lv_aload_n hx hb dX10_leastBelow_42 rfl (lv_at hl 0 rfl) ?_
          refine lv_iload_n hx hb dX10_leastBelow_43 rfl (lv_at hl 1 rfl) ?_
          refine lv_iconst (v := 1) hx hb dX10_leastBelow_44 (by decide) ?_
          refine lv_isub hx hb dX10_leastBelow_45 ?_
          refine lv_topi (fun x12 ex12 => ?_)
          have ex12 : x12.toInt = a1.toInt - (1 : Int) := by rw [ex12]; exact wk_sub (show (-2147483648) ≤ a1.toInt - (1 : Int) by omega) (show a1.toInt - (1 : Int) ≤ 2147483647 by omega)
          refine lv_iload_n hx hb dX10_leastBelow_46 rfl (lv_at hl 2 rfl) ?_
          refine tk_Vi hC hK hw hT hA hE hSR kC_at158 (by decide) rfl (k_X10_leastBelow_38 l adK adV dC dI cy ad B (by omega) (by omega) qr s1   x12 (show 0 ≤ x12.toInt by omega) (show x12.toInt ≤ 3 by omega) a2 (show 0 ≤ a2.toInt by omega) (show a2.toInt ≤ 127 by omega) w1 H.size hT ) (cwV 2 hC.2.2.2.2 gX10_leastBelow_X10_leastBelow rfl rfl rfl (by decide +kernel) ⟨Nat.le_of_ble_eq_true rfl, Nat.le_of_ble_eq_true rfl⟩) rfl hl.1 rfl (Nat.le_of_ble_eq_true rfl) dX10_leastBelow_47 (fun r13 w15 H locs hp14 hw => ?_)
          obtain ⟨hT, k16, hg21⟩ := hp14
          have hF := hF.tr k16 (by decide)
          have c22 := k16.gi kC_at38 (by decide) c9
          rcases hg21 with ⟨g17, g18⟩ | ⟨rfl, ⟨x19, c20, rx19, tx19⟩⟩
          · refine lv_istore_n (lv' := [(3, .int r13), (0, .ref (ad 158)), (1, .int a1), (2, .int a2)]) hx hb dX10_leastBelow_50 rfl hl (by decide) rfl (fun ls hl => ?_)
            refine lv_iload_n hx hb dX10_leastBelow_51 rfl (lv_at hl 0 rfl) ?_
            refine lv_iconst (v := (-1)) hx hb dX10_leastBelow_52 (by decide) ?_
            refine lv_icmp_eq (tgt := 60) hx hb dX10_leastBelow_53 (by decide) (fun c => absurd c (fun h => absurd (show r13.toInt = (-1 : Int) from wk_eq.mp h) (by omega))) (fun _ => ?_)
            refine lv_iload_n hx hb dX10_leastBelow_56 rfl (lv_at hl 0 rfl) ?_
            refine lv_goto (tgt := 74) hx hb dX10_leastBelow_57 (by decide) ?_
            exact tk_iret hC hr hlocks hK ⟨hT, hF, (Or.inl ⟨(show 0 ≤ r13.toInt by omega), (show r13.toInt ≤ 127 by omega)⟩)⟩ hw dX10_leastBelow_74
          · have ex19 : x19.toInt = x8.toInt := by rw [← c22.symm.trans c20]
            refine lv_istore_n (lv' := [(3, .int (-1)), (0, .ref (ad 158)), (1, .int a1), (2, .int a2)]) hx hb dX10_leastBelow_50 rfl hl (by decide) rfl (fun ls hl => ?_)
            refine lv_iload_n hx hb dX10_leastBelow_51 rfl (lv_at hl 0 rfl) ?_
            refine lv_iconst (v := (-1)) hx hb dX10_leastBelow_52 (by decide) ?_
            refine lv_icmp_eq (tgt := 60) hx hb dX10_leastBelow_53 (by decide) (fun _ => ?_) (fun c => absurd (by decide) c)
            refine lv_aload_n hx hb dX10_leastBelow_60 rfl (lv_at hl 1 rfl) ?_
            refine lv_iload_n hx hb dX10_leastBelow_61 rfl (lv_at hl 2 rfl) ?_
            refine lv_iconst (v := 1) hx hb dX10_leastBelow_62 (by decide) ?_
            refine lv_isub hx hb dX10_leastBelow_63 ?_
            refine lv_topi (fun x23 ex23 => ?_)
            have ex23 : x23.toInt = a1.toInt - (1 : Int) := by rw [ex23]; exact wk_sub (show (-2147483648) ≤ a1.toInt - (1 : Int) by omega) (show a1.toInt - (1 : Int) ≤ 2147483647 by omega)
            refine lv_iload_n hx hb dX10_leastBelow_64 rfl (lv_at hl 3 rfl) ?_
            refine lv_iconst (v := 1) hx hb dX10_leastBelow_65 (by decide) ?_
            refine lv_iload_n hx hb dX10_leastBelow_66 rfl (lv_at hl 2 rfl) ?_
            refine lv_iconst (v := 1) hx hb dX10_leastBelow_67 (by decide) ?_
            refine lv_isub hx hb dX10_leastBelow_68 ?_
            refine lv_topi (fun x24 ex24 => ?_)
            have ex24 : x24.toInt = a1.toInt - (1 : Int) := by rw [ex24]; exact wk_sub (show (-2147483648) ≤ a1.toInt - (1 : Int) by omega) (show a1.toInt - (1 : Int) ≤ 2147483647 by omega)
            refine lv_ishl hx hb dX10_leastBelow_69 ?_
            refine lv_topi (fun x25 ex25 => ?_)
            have bx25 : 1 ≤ x25.toInt ∧ x25.toInt ≤ 8 := by rw [ex25]; exact wk_shl1 3 (by decide) (by omega) (by omega)
            refine lv_ior hx hb dX10_leastBelow_70 ?_
            refine lv_topi (fun x26 ex26 => ?_)
            have bx26 : 0 ≤ x26.toInt ∧ x26.toInt < 128 := by rw [ex26]; exact wk_or 7 (by decide) (by omega) (by omega) (by omega) (by omega)
            refine tk_Vi hC hK hw hT hA hE hSR kC_at158 (by decide) rfl (k_X10_leastBelow_38 l adK adV dC dI cy ad B (by omega) (by omega) qr s1   x23 (show 0 ≤ x23.toInt by omega) (show x23.toInt ≤ 3 by omega) x26 (show 0 ≤ x26.toInt by omega) (show x26.toInt ≤ 127 by omega) w15 H.size hT ) (cwV 2 hC.2.2.2.2 gX10_leastBelow_X10_leastBelow rfl rfl rfl (by decide +kernel) ⟨Nat.le_of_ble_eq_true rfl, Nat.le_of_ble_eq_true rfl⟩) rfl hl.1 rfl (Nat.le_of_ble_eq_true rfl) dX10_leastBelow_71 (fun r27 w29 H locs hp28 hw => ?_)
            obtain ⟨hT, k30, hg35⟩ := hp28
            have hF := hF.tr k30 (by decide)
            have c36 := k30.gi kC_at38 (by decide) c22
            rcases hg35 with ⟨g31, g32⟩ | ⟨rfl, ⟨x33, c34, rx33, tx33⟩⟩
            · exact tk_iret hC hr hlocks hK ⟨hT, hF, (Or.inl ⟨(show 0 ≤ r27.toInt by omega), (show r27.toInt ≤ 127 by omega)⟩)⟩ hw dX10_leastBelow_74
            · have ex33 : x33.toInt = x8.toInt := by rw [← c36.symm.trans c34]
              exact tk_iret hC hr hlocks hK ⟨hT, hF, (Or.inr ⟨rfl, ⟨x8, c36, (show 1 ≤ x8.toInt by omega), (show x8.toInt ≤ 6 by omega)⟩⟩)⟩ hw dX10_leastBelow_74
        · have c11 : a1.toInt ≤ (0 : Int) := wk_ltF c11
          refine lv_iload_n hx hb dX10_leastBelow_40 rfl (lv_at hl 2 rfl) ?_
          exact tk_iret hC hr hlocks hK ⟨hT, hF, (Or.inl ⟨(show 0 ≤ a2.toInt by omega), (show a2.toInt ≤ 127 by omega)⟩)⟩ hw dX10_leastBelow_41
      · have c10 : v9_3.toInt < x8.toInt := wk_leF c10
        refine lv_aload_n hx hb dX10_leastBelow_20 rfl (lv_at hl 0 rfl) ?_
        refine lv_iload_n hx hb dX10_leastBelow_21 rfl (lv_at hl 3 rfl) ?_
        refine tk_Vi hC hK hw hT hA hE hSR kC_at158 (by decide) rfl (k_X10_canDo_1 l adK adV dC dI cy ad B (by omega) (by omega) qr s1   v9_3 (show 0 ≤ v9_3.toInt by omega) (show v9_3.toInt ≤ 5 by omega) w1 H.size hT ) (cwV 1 hC.2.2.2.2 gX10_leastBelow_X10_canDo rfl rfl rfl (by decide +kernel) ⟨Nat.le_of_ble_eq_true rfl, Nat.le_of_ble_eq_true rfl⟩) rfl hl.1 rfl (Nat.le_of_ble_eq_true rfl) dX10_leastBelow_22 (fun r37 w39 H locs hp38 hw => ?_)
        obtain ⟨hT, k40, hg41⟩ := hp38
        have hF := hF.tr k40 (by decide)
        have c42 := k40.gi kC_at38 (by decide) c9
        rcases hg41 with rfl | rfl
        · refine lv_if_ne (tgt := 30) hx hb dX10_leastBelow_25 (by decide) (fun c => absurd (by decide) c) (fun _ => ?_)
          refine lv_iconst (v := (-1)) hx hb dX10_leastBelow_28 (by decide) ?_
          exact tk_iret hC hr hlocks hK ⟨hT, hF, (Or.inr ⟨rfl, ⟨x8, c42, (show 1 ≤ x8.toInt by omega), (show x8.toInt ≤ 6 by omega)⟩⟩)⟩ hw dX10_leastBelow_29
        · refine lv_if_ne (tgt := 30) hx hb dX10_leastBelow_25 (by decide) (fun _ => ?_) (fun c => absurd c (by decide))
          obtain ⟨x43, ex43⟩ : ∃ y : Int32, y = v9_3 + Int32.ofInt 1 := ⟨_, rfl⟩
          refine lv_iinc (v := x43) (lv' := [(3, .int x43), (0, .ref (ad 158)), (1, .int a1), (2, .int a2)]) hx hb dX10_leastBelow_30 hl (k := 3) rfl ex43.symm (by decide) rfl (fun ls hl => ?_)
          have ex43 : x43.toInt = v9_3.toInt + 1 := by rw [ex43]; exact wk_add (y := 1) (show -2147483648 ≤ v9_3.toInt + 1 by omega) (show v9_3.toInt + 1 ≤ 2147483647 by omega)
          refine lv_goto (tgt := 9) hx hb dX10_leastBelow_33 (by decide) ?_
          exact ih9 x43 H locs ls w39 (show 0 ≤ a1.toInt by omega) (show a1.toInt ≤ 4 by omega) (show 0 ≤ a2.toInt by omega) (show a2.toInt ≤ 127 by omega) (show 0 ≤ x43.toInt by omega) (show x43.toInt ≤ 6 by omega) (show (6 - x43.toInt).toNat < n9 by omega) hw hT hF  (lv_sub hl [1, 2, 3, 0] rfl)
  refine lv_aload_n hx hb dX10_leastBelow_0 rfl (lv_at hl 0 rfl) ?_
  refine lv_iload_n hx hb dX10_leastBelow_1 rfl (lv_at hl 1 rfl) ?_
  refine lv_iload_n hx hb dX10_leastBelow_2 rfl (lv_at hl 2 rfl) ?_
  refine lv_iconst (v := (-1)) hx hb dX10_leastBelow_3 (by decide) ?_
  refine tk_Vv hC hK hw hT hA hE hSR kC_at158 (by decide) rfl (k_X10_layRoads_35 l adK adV dC dI cy ad B (by omega) (by omega) qr s1   a1 (show 0 ≤ a1.toInt by omega) (show a1.toInt ≤ 4 by omega) a2 (show 0 ≤ a2.toInt by omega) (show a2.toInt ≤ 127 by omega) w0 s.heap.size hT ) (cwV 3 hC.2.2.2.2 gX10_leastBelow_X10_layRoads rfl rfl rfl (by decide +kernel) ⟨Nat.le_of_ble_eq_true rfl, Nat.le_of_ble_eq_true rfl⟩) rfl hl.1 rfl (Nat.le_of_ble_eq_true rfl) dX10_leastBelow_4 (fun w46 H locs hp45 hw => ?_)
  obtain ⟨hT, k47, hg48⟩ := hp45
  have hF := hF.tr k47 (by decide)
  clear hg48
  refine lv_iconst (v := 0) hx hb dX10_leastBelow_7 (by decide) ?_
  refine lv_istore_n (lv' := [(3, .int 0), (0, .ref (ad 158)), (1, .int a1), (2, .int a2)]) hx hb dX10_leastBelow_8 rfl hl (by decide) rfl (fun ls hl => ?_)
  exact L9 ((6 - (0 : Int)).toNat + 1) 0 H locs ls w46 (show 0 ≤ a1.toInt by omega) (show a1.toInt ≤ 4 by omega) (show 0 ≤ a2.toInt by omega) (show a2.toInt ≤ 127 by omega) (by decide) (by decide) (Nat.lt_succ_self _) hw hT hF  (lv_sub hl [1, 2, 3, 0] rfl)
abbrev P_X10_layRoads_36 (ad : Nat → Nat) (cy : Nat → ClassId) (B : Int) (qr : Nat) (s1 : Int) (a1 : Int32) (a2 : Int32) (w0 : va_W) : va_W → Prop := fun u => TW ksC ad cy B qr s1 u ∧ FE ksC [(51, 0, 10)] w0 u ∧ ((True))
set_option maxHeartbeats 4000000 in
set_option maxRecDepth 100000 in
theorem k_X10_layRoads_36 (l : Launch) (adK adV : Nat → Nat) (dC : Nat → ClassId) (dI : Nat → Nat → Nat) (cy : Nat → ClassId) (ad : Nat → Nat) (B : Int) (hB0 : 2147483648 ≤ B) (hB1 : B ≤ 1152921504606846976) (qr : Nat) (s1 : Int)  (a1 : Int32) (ra1 : 0 ≤ a1.toInt) (ta1 : a1.toInt ≤ 5) (a2 : Int32) (ra2 : 0 ≤ a2.toInt) (ta2 : a2.toInt ≤ 127) (w0 : va_W) (sz : Nat) (hT : TW ksC ad cy B qr s1 w0)  : Met l yX10_layRoads wsX10_layRoads ({ frames := 1, cells := 0, slots := 0, locals := 12 }) (va_Pc [.ref (ad 158), .int a1, .int a2, .int (-1)] (wpreS adK adV dC dI cy sz w0)) (va_Qv (P_X10_layRoads_36 ad cy B qr s1 a1 a2 w0) (fun u : va_W => wpost dC dI cy (va_A w0 sz) u) (va_A w0 sz)) 0 0 (va_A w0 sz) := by
  refine Met.ofW (cc := cX10_layRoads) (maxL := 8) (ret := none) (by decide) rfl ?_
  intro p e s m args below meth c s₁ Bk hml hv
  obtain ⟨rfl, ⟨hsz, hP, hK, hD0⟩, hE, hSR⟩ := hv
  have hx := Bk.exec
  have hb := Bk.bytes
  have hr := Bk.returns
  have hlocks := Bk.notSynchronized
  have hC : CallFix p m c cX10_layRoads 8 s _ wsX10_layRoads RX10 := ⟨hx, hb, hml, findClass_of_methodNamed Bk.named, atoms_spec (ws := wsX10_layRoads) Bk.pre⟩
  subst hsz
  have hD := hD0.self (sz := s.heap.size)
  generalize hAe : va_A w0 s.heap.size = A at hD hE ⊢
  have hA : ∀ q : Nat, s.heap.size ≤ q → A q := fun q h => by rw [← hAe]; exact Or.inr h
  have hw : Wd dC dI A s.heap s.heap [] w0 := ⟨hP, hD, va_S.rf⟩
  have hF : FE ksC [(51, 0, 10)] w0 w0 := FE.rf
  have hl := lv_entry ([.ref (ad 158), .int a1, .int a2, .int (-1)]) (n := 8) (Nat.le_of_ble_eq_true rfl)
  rw [lg_entry_eq]
  generalize (lg_sl ([.ref (ad 158), .int a1, .int a2, .int (-1)]) ++ List.replicate (8 - (lg_sl ([.ref (ad 158), .int a1, .int a2, .int (-1)])).length) Slot.unset).toArray = ls at hl ⊢
  have hl : lv_has ls 8 [(0, .ref (ad 158)), (1, .int a1), (2, .int a2), (3, .int (-1))] := hl
  generalize hloc : ([] : List Loc) = locs at hw ⊢
  have hinX10 : ∀ w ∈ u_ws RX10 TX10 5, w ∈ wsX10_layRoads := fun _ h => List.mem_cons_of_mem _ (List.mem_append_left _ (List.mem_append_right _ (h)))
  have hinX7 : ∀ w ∈ u_ws RX7 TX7 12, w ∈ wsX10_layRoads := fun _ h => List.mem_cons_of_mem _ (List.mem_append_right _ (h))
  have L27 : ∀ (n27 : Nat) (v27_4 : Int32) (H : Heap) (locs : List Loc) (ls : Array Slot) (w1 : va_W), 0 ≤ a1.toInt → a1.toInt ≤ 5 → 0 ≤ a2.toInt → a2.toInt ≤ 127 → 0 ≤ v27_4.toInt → v27_4.toInt ≤ 12 → (12 - v27_4.toInt).toNat < n27 → Wd dC dI A s.heap H locs w1 → TW ksC ad cy B qr s1 w1 → FE ksC [(51, 0, 10)] w0 w1 → lv_has ls 8 [(0, .ref (ad 158)), (1, .int a1), (2, .int a2), (3, .int (-1)), (4, .int v27_4)] → W p l e ({ frames := 1, cells := 0, slots := 0, locals := 12 }) s m (List.toArray [.ref (ad 158), .int a1, .int a2, .int (-1)]) below meth c H locs 0 0 (MQ below (va_Qv (P_X10_layRoads_36 ad cy B qr s1 a1 a2 w0) (fun u : va_W => wpost dC dI cy A u) A) (List.toArray [.ref (ad 158), .int a1, .int a2, .int (-1)]) s 0 0 A) (F0 m 27 ls []) := by
    intro n27
    induction n27 with
    | zero => intro v27_4 H locs ls w1 r2 t3 r4 t5 r6 t7 hm27 hw hT hF hl; omega
    | succ n27 ih27 =>
      intro v27_4 H locs ls w1 r2 t3 r4 t5 r6 t7 hm27 hw hT hF hl
      have J144 : ∀ (v144_5 : Int32) (v144_6 : Int32) (v144_7 : Int32) (f144_158_4 : Int32) (H : Heap) (locs : List Loc) (ls : Array Slot) (w8 : va_W), 0 ≤ a1.toInt → a1.toInt ≤ 5 → 0 ≤ a2.toInt → a2.toInt ≤ 127 → 0 ≤ v27_4.toInt → v27_4.toInt ≤ 11 → 0 ≤ v144_5.toInt → v144_5.toInt ≤ 9 → 0 ≤ v144_6.toInt → v144_6.toInt ≤ 9 → 0 ≤ v144_7.toInt → v144_7.toInt ≤ 1 → 1 ≤ f144_158_4.toInt → f144_158_4.toInt ≤ 12 → Wd dC dI A s.heap H locs w8 → TW ksC ad cy B qr s1 w8 → FE ksC [(51, 0, 10)] w0 w8 → gi w8 158 4 = f144_158_4 → lv_has ls 8 [(0, .ref (ad 158)), (1, .int a1), (2, .int a2), (3, .int (-1)), (4, .int v27_4), (5, .int v144_5), (6, .int v144_6), (7, .int v144_7)] → W p l e ({ frames := 1, cells := 0, slots := 0, locals := 12 }) s m (List.toArray [.ref (ad 158), .int a1, .int a2, .int (-1)]) below meth c H locs 0 0 (MQ below (va_Qv (P_X10_layRoads_36 ad cy B qr s1 a1 a2 w0) (fun u : va_W => wpost dC dI cy A u) A) (List.toArray [.ref (ad 158), .int a1, .int a2, .int (-1)]) s 0 0 A) (F0 m 144 ls []) := by
        intro v144_5 v144_6 v144_7 f144_158_4 H locs ls w8 r9 t10 r11 t12 r13 t14 r15 t16 r17 t18 r19 t20 r21 t22 hw hT hF c23 hl
        obtain ⟨x24, ex24⟩ : ∃ y : Int32, y = v27_4 + Int32.ofInt 1 := ⟨_, rfl⟩
        refine lv_iinc (v := x24) (lv' := [(4, .int x24), (0, .ref (ad 158)), (1, .int a1), (2, .int a2), (3, .int (-1)), (5, .int v144_5), (6, .int v144_6), (7, .int v144_7)]) hx hb dX10_layRoads_144 hl (k := 4) rfl ex24.symm (by decide) rfl (fun ls hl => ?_)
        have ex24 : x24.toInt = v27_4.toInt + 1 := by rw [ex24]; exact wk_add (y := 1) (show -2147483648 ≤ v27_4.toInt + 1 by omega) (show v27_4.toInt + 1 ≤ 2147483647 by omega)
        refine lv_goto (tgt := 27) hx hb dX10_layRoads_147 (by decide) ?_
        exact ih27 x24 H locs ls w8 (show 0 ≤ a1.toInt by omega) (show a1.toInt ≤ 5 by omega) (show 0 ≤ a2.toInt by omega) (show a2.toInt ≤ 127 by omega) (show 0 ≤ x24.toInt by omega) (show x24.toInt ≤ 12 by omega) (show (12 - x24.toInt).toNat < n27 by omega) hw hT hF  (lv_sub hl [1, 2, 3, 4, 0] rfl)
      have J130 : ∀ (v130_5 : Int32) (v130_6 : Int32) (v130_7 : Int32) (f130_158_4 : Int32) (H : Heap) (locs : List Loc) (ls : Array Slot) (w25 : va_W), 0 ≤ a1.toInt → a1.toInt ≤ 5 → 0 ≤ a2.toInt → a2.toInt ≤ 127 → 0 ≤ v27_4.toInt → v27_4.toInt ≤ 11 → 0 ≤ v130_5.toInt → v130_5.toInt ≤ 9 → 0 ≤ v130_6.toInt → v130_6.toInt ≤ 9 → 0 ≤ v130_7.toInt → v130_7.toInt ≤ 1 → 1 ≤ f130_158_4.toInt → f130_158_4.toInt ≤ 12 → Wd dC dI A s.heap H locs w25 → TW ksC ad cy B qr s1 w25 → FE ksC [(51, 0, 10)] w0 w25 → gi w25 158 4 = f130_158_4 → lv_has ls 8 [(0, .ref (ad 158)), (1, .int a1), (2, .int a2), (3, .int (-1)), (4, .int v27_4), (5, .int v130_5), (6, .int v130_6), (7, .int v130_7)] → W p l e ({ frames := 1, cells := 0, slots := 0, locals := 12 }) s m (List.toArray [.ref (ad 158), .int a1, .int a2, .int (-1)]) below meth c H locs 0 0 (MQ below (va_Qv (P_X10_layRoads_36 ad cy B qr s1 a1 a2 w0) (fun u : va_W => wpost dC dI cy A u) A) (List.toArray [.ref (ad 158), .int a1, .int a2, .int (-1)]) s 0 0 A) (F0 m 130 ls []) := by
        intro v130_5 v130_6 v130_7 f130_158_4 H locs ls w25 r26 t27 r28 t29 r30 t31 r32 t33 r34 t35 r36 t37 r38 t39 hw hT hF c40 hl
        refine lv_aload_n hx hb dX10_layRoads_130 rfl (lv_at hl 0 rfl) ?_
        refine tk_getA hC hK hw hT hinX10 kC_at158 (by decide) rfl 3 (by decide) (List.mem_of_getElem? (i := 1) rfl) rfl rfl dX10_layRoads_131 ?_
        refine lv_iload hx hb dX10_layRoads_134 (lv_at hl 6 rfl) ?_
        refine lv_dup2_11 hx hb dX10_layRoads_136 rfl rfl ?_
        refine tk_iald hC hK hw hT kC_at160 rfl rfl (show 0 ≤ v130_6.toInt by omega) (show v130_6.toInt < 10 by omega) dX10_layRoads_137 (fun x41 c42 rx41 tx41 => ?_)
        refine lv_iconst (v := 1) hx hb dX10_layRoads_138 (by decide) ?_
        refine lv_iload hx hb dX10_layRoads_139 (lv_at hl 5 rfl) ?_
        refine lv_ishl hx hb dX10_layRoads_141 ?_
        refine lv_topi (fun x43 ex43 => ?_)
        have bx43 : 1 ≤ x43.toInt ∧ x43.toInt ≤ 512 := by rw [ex43]; exact wk_shl1 9 (by decide) (by omega) (by omega)
        refine lv_ior hx hb dX10_layRoads_142 ?_
        refine lv_topi (fun x44 ex44 => ?_)
        have bx44 : 0 ≤ x44.toInt ∧ x44.toInt < 1024 := by rw [ex44]; exact wk_or 10 (by decide) (by omega) (by omega) (by omega) (by omega)
        refine tk_iast hC hK hw hT kC_at160 (by decide) rfl rfl (show 0 ≤ v130_6.toInt by omega) (show v130_6.toInt < 10 by omega) (show 0 ≤ x44.toInt by omega) (show x44.toInt ≤ 1023 by omega) dX10_layRoads_143 (fun H locs w45 hw hT k47 c46 => ?_)
        have hF := hF.put kC_at160 (inE_of (a := 0) (b := 10) (by decide) (show 0 ≤ v130_6.toInt.toNat by omega) (show v130_6.toInt.toNat ≤ 10 by omega)) k47
        have c48 := k47.gi (Or.inl (tk_ne kC_at158 kC_at160 (by decide))) c40
        exact J144 v130_5 v130_6 v130_7 f130_158_4 H locs ls w45 (show 0 ≤ a1.toInt by omega) (show a1.toInt ≤ 5 by omega) (show 0 ≤ a2.toInt by omega) (show a2.toInt ≤ 127 by omega) (show 0 ≤ v27_4.toInt by omega) (show v27_4.toInt ≤ 11 by omega) (show 0 ≤ v130_5.toInt by omega) (show v130_5.toInt ≤ 9 by omega) (show 0 ≤ v130_6.toInt by omega) (show v130_6.toInt ≤ 9 by omega) (show 0 ≤ v130_7.toInt by omega) (show v130_7.toInt ≤ 1 by omega) (show 1 ≤ f130_158_4.toInt by omega) (show f130_158_4.toInt ≤ 12 by omega)  hw hT hF c48 (lv_sub hl [0, 1, 2, 3, 4, 5, 6, 7] rfl)
      have J118 : ∀ (v118_5 : Int32) (v118_6 : Int32) (v118_7 : Int32) (f118_158_4 : Int32) (H : Heap) (locs : List Loc) (ls : Array Slot) (w49 : va_W), 0 ≤ a1.toInt → a1.toInt ≤ 5 → 0 ≤ a2.toInt → a2.toInt ≤ 127 → 0 ≤ v27_4.toInt → v27_4.toInt ≤ 11 → 0 ≤ v118_5.toInt → v118_5.toInt ≤ 9 → 0 ≤ v118_6.toInt → v118_6.toInt ≤ 9 → 0 ≤ v118_7.toInt → v118_7.toInt ≤ 1 → 1 ≤ f118_158_4.toInt → f118_158_4.toInt ≤ 12 → Wd dC dI A s.heap H locs w49 → TW ksC ad cy B qr s1 w49 → FE ksC [(51, 0, 10)] w0 w49 → gi w49 158 4 = f118_158_4 → lv_has ls 8 [(0, .ref (ad 158)), (1, .int a1), (2, .int a2), (3, .int (-1)), (4, .int v27_4), (5, .int v118_5), (6, .int v118_6), (7, .int v118_7)] → W p l e ({ frames := 1, cells := 0, slots := 0, locals := 12 }) s m (List.toArray [.ref (ad 158), .int a1, .int a2, .int (-1)]) below meth c H locs 0 0 (MQ below (va_Qv (P_X10_layRoads_36 ad cy B qr s1 a1 a2 w0) (fun u : va_W => wpost dC dI cy A u) A) (List.toArray [.ref (ad 158), .int a1, .int a2, .int (-1)]) s 0 0 A) (F0 m 118 ls []) := by
        intro v118_5 v118_6 v118_7 f118_158_4 H locs ls w49 r50 t51 r52 t53 r54 t55 r56 t57 r58 t59 r60 t61 r62 t63 hw hT hF c64 hl
        refine lv_iload hx hb dX10_layRoads_118 (lv_at hl 4 rfl) ?_
        refine lv_iload_n hx hb dX10_layRoads_120 rfl (lv_at hl 1 rfl) ?_
        refine lv_icmp_lt (tgt := 130) hx hb dX10_layRoads_121 (by decide) (fun c65 => ?_) (fun c65 => ?_)
        · have c65 : v27_4.toInt < a1.toInt := wk_lt.mp c65
          exact J130 v118_5 v118_6 v118_7 f118_158_4 H locs ls w49 (show 0 ≤ a1.toInt by omega) (show a1.toInt ≤ 5 by omega) (show 0 ≤ a2.toInt by omega) (show a2.toInt ≤ 127 by omega) (show 0 ≤ v27_4.toInt by omega) (show v27_4.toInt ≤ 11 by omega) (show 0 ≤ v118_5.toInt by omega) (show v118_5.toInt ≤ 9 by omega) (show 0 ≤ v118_6.toInt by omega) (show v118_6.toInt ≤ 9 by omega) (show 0 ≤ v118_7.toInt by omega) (show v118_7.toInt ≤ 1 by omega) (show 1 ≤ f118_158_4.toInt by omega) (show f118_158_4.toInt ≤ 12 by omega)  hw hT hF c64 (lv_sub hl [0, 1, 2, 3, 4, 5, 6, 7] rfl)
        · have c65 : a1.toInt ≤ v27_4.toInt := wk_ltF c65
          refine lv_iload hx hb dX10_layRoads_124 (lv_at hl 7 rfl) ?_
          refine lv_iconst (v := 1) hx hb dX10_layRoads_126 (by decide) ?_
          refine lv_icmp_ne (tgt := 144) hx hb dX10_layRoads_127 (by decide) (fun c66 => ?_) (fun c66 => ?_)
          · have c66 : ¬ v118_7.toInt = (1 : Int) := wk_eqF c66
            exact J144 v118_5 v118_6 v118_7 f118_158_4 H locs ls w49 (show 0 ≤ a1.toInt by omega) (show a1.toInt ≤ 5 by omega) (show 0 ≤ a2.toInt by omega) (show a2.toInt ≤ 127 by omega) (show 0 ≤ v27_4.toInt by omega) (show v27_4.toInt ≤ 11 by omega) (show 0 ≤ v118_5.toInt by omega) (show v118_5.toInt ≤ 9 by omega) (show 0 ≤ v118_6.toInt by omega) (show v118_6.toInt ≤ 9 by omega) (show 0 ≤ v118_7.toInt by omega) (show v118_7.toInt ≤ 1 by omega) (show 1 ≤ f118_158_4.toInt by omega) (show f118_158_4.toInt ≤ 12 by omega)  hw hT hF c64 (lv_sub hl [0, 1, 2, 3, 4, 5, 6, 7] rfl)
          · have c66 : v118_7.toInt = (1 : Int) := wk_eq.mp c66
            exact J130 v118_5 v118_6 v118_7 f118_158_4 H locs ls w49 (show 0 ≤ a1.toInt by omega) (show a1.toInt ≤ 5 by omega) (show 0 ≤ a2.toInt by omega) (show a2.toInt ≤ 127 by omega) (show 0 ≤ v27_4.toInt by omega) (show v27_4.toInt ≤ 11 by omega) (show 0 ≤ v118_5.toInt by omega) (show v118_5.toInt ≤ 9 by omega) (show 0 ≤ v118_6.toInt by omega) (show v118_6.toInt ≤ 9 by omega) (show 0 ≤ v118_7.toInt by omega) (show v118_7.toInt ≤ 1 by omega) (show 1 ≤ f118_158_4.toInt by omega) (show f118_158_4.toInt ≤ 12 by omega)  hw hT hF c64 (lv_sub hl [0, 1, 2, 3, 4, 5, 6, 7] rfl)
      have J104 : ∀ (v104_5 : Int32) (v104_6 : Int32) (v104_7 : Int32) (f104_158_4 : Int32) (H : Heap) (locs : List Loc) (ls : Array Slot) (w67 : va_W), 0 ≤ a1.toInt → a1.toInt ≤ 5 → 0 ≤ a2.toInt → a2.toInt ≤ 127 → 0 ≤ v27_4.toInt → v27_4.toInt ≤ 11 → 0 ≤ v104_5.toInt → v104_5.toInt ≤ 9 → 0 ≤ v104_6.toInt → v104_6.toInt ≤ 9 → 0 ≤ v104_7.toInt → v104_7.toInt ≤ 1 → 1 ≤ f104_158_4.toInt → f104_158_4.toInt ≤ 12 → Wd dC dI A s.heap H locs w67 → TW ksC ad cy B qr s1 w67 → FE ksC [(51, 0, 10)] w0 w67 → gi w67 158 4 = f104_158_4 → lv_has ls 8 [(0, .ref (ad 158)), (1, .int a1), (2, .int a2), (3, .int (-1)), (4, .int v27_4), (5, .int v104_5), (6, .int v104_6), (7, .int v104_7)] → W p l e ({ frames := 1, cells := 0, slots := 0, locals := 12 }) s m (List.toArray [.ref (ad 158), .int a1, .int a2, .int (-1)]) below meth c H locs 0 0 (MQ below (va_Qv (P_X10_layRoads_36 ad cy B qr s1 a1 a2 w0) (fun u : va_W => wpost dC dI cy A u) A) (List.toArray [.ref (ad 158), .int a1, .int a2, .int (-1)]) s 0 0 A) (F0 m 104 ls []) := by
        intro v104_5 v104_6 v104_7 f104_158_4 H locs ls w67 r68 t69 r70 t71 r72 t73 r74 t75 r76 t77 r78 t79 r80 t81 hw hT hF c82 hl
        refine lv_aload_n hx hb dX10_layRoads_104 rfl (lv_at hl 0 rfl) ?_
        refine tk_getA hC hK hw hT hinX10 kC_at158 (by decide) rfl 3 (by decide) (List.mem_of_getElem? (i := 1) rfl) rfl rfl dX10_layRoads_105 ?_
        refine lv_iload hx hb dX10_layRoads_108 (lv_at hl 5 rfl) ?_
        refine lv_dup2_11 hx hb dX10_layRoads_110 rfl rfl ?_
        refine tk_iald hC hK hw hT kC_at160 rfl rfl (show 0 ≤ v104_5.toInt by omega) (show v104_5.toInt < 10 by omega) dX10_layRoads_111 (fun x83 c84 rx83 tx83 => ?_)
        refine lv_iconst (v := 1) hx hb dX10_layRoads_112 (by decide) ?_
        refine lv_iload hx hb dX10_layRoads_113 (lv_at hl 6 rfl) ?_
        refine lv_ishl hx hb dX10_layRoads_115 ?_
        refine lv_topi (fun x85 ex85 => ?_)
        have bx85 : 1 ≤ x85.toInt ∧ x85.toInt ≤ 512 := by rw [ex85]; exact wk_shl1 9 (by decide) (by omega) (by omega)
        refine lv_ior hx hb dX10_layRoads_116 ?_
        refine lv_topi (fun x86 ex86 => ?_)
        have bx86 : 0 ≤ x86.toInt ∧ x86.toInt < 1024 := by rw [ex86]; exact wk_or 10 (by decide) (by omega) (by omega) (by omega) (by omega)
        refine tk_iast hC hK hw hT kC_at160 (by decide) rfl rfl (show 0 ≤ v104_5.toInt by omega) (show v104_5.toInt < 10 by omega) (show 0 ≤ x86.toInt by omega) (show x86.toInt ≤ 1023 by omega) dX10_layRoads_117 (fun H locs w87 hw hT k89 c88 => ?_)
        have hF := hF.put kC_at160 (inE_of (a := 0) (b := 10) (by decide) (show 0 ≤ v104_5.toInt.toNat by omega) (show v104_5.toInt.toNat ≤ 10 by omega)) k89
        have c90 := k89.gi (Or.inl (tk_ne kC_at158 kC_at160 (by decide))) c82
        exact J118 v104_5 v104_6 v104_7 f104_158_4 H locs ls w87 (show 0 ≤ a1.toInt by omega) (show a1.toInt ≤ 5 by omega) (show 0 ≤ a2.toInt by omega) (show a2.toInt ≤ 127 by omega) (show 0 ≤ v27_4.toInt by omega) (show v27_4.toInt ≤ 11 by omega) (show 0 ≤ v104_5.toInt by omega) (show v104_5.toInt ≤ 9 by omega) (show 0 ≤ v104_6.toInt by omega) (show v104_6.toInt ≤ 9 by omega) (show 0 ≤ v104_7.toInt by omega) (show v104_7.toInt ≤ 1 by omega) (show 1 ≤ f104_158_4.toInt by omega) (show f104_158_4.toInt ≤ 12 by omega)  hw hT hF c90 (lv_sub hl [0, 1, 2, 3, 4, 5, 6, 7] rfl)
      refine lv_iload hx hb dX10_layRoads_27 (lv_at hl 4 rfl) ?_
      refine lv_aload_n hx hb dX10_layRoads_29 rfl (lv_at hl 0 rfl) ?_
      refine tk_geti hC hK hw hT hinX10 kC_at158 (by decide) rfl 4 (by decide) (List.mem_of_getElem? (i := 2) rfl) rfl rfl dX10_layRoads_30 (fun x91 c92 rx91 tx91 => ?_)
      refine lv_icmp_ge (tgt := 150) hx hb dX10_layRoads_33 (by decide) (fun c93 => ?_) (fun c93 => ?_)
      · have c93 : x91.toInt ≤ v27_4.toInt := wk_le.mp c93
        exact tk_vret hC hr hlocks hK ⟨hT, hF, trivial⟩ hw dX10_layRoads_150
      · have c93 : v27_4.toInt < x91.toInt := wk_leF c93
        refine lv_iload hx hb dX10_layRoads_36 (lv_at hl 4 rfl) ?_
        refine lv_iload_n hx hb dX10_layRoads_38 rfl (lv_at hl 3 rfl) ?_
        refine lv_icmp_ne (tgt := 45) hx hb dX10_layRoads_39 (by decide) (fun _ => ?_) (fun c => absurd (show v27_4.toInt = (-1 : Int) from wk_eq.mp c) (by omega))
        refine lv_aload_n hx hb dX10_layRoads_45 rfl (lv_at hl 0 rfl) ?_
        refine tk_getA hC hK hw hT hinX10 kC_at158 (by decide) rfl 1 (by decide) (List.mem_of_getElem? (i := 3) rfl) rfl rfl dX10_layRoads_46 ?_
        refine tk_getO hC hK hw hT hinX7 kC_at39 (by decide) rfl 0 (by decide) (List.mem_of_getElem? (i := 4) rfl) rfl rfl dX10_layRoads_49 ?_
        refine lv_iconst (v := 2) hx hb dX10_layRoads_52 (by decide) ?_
        refine lv_aload_n hx hb dX10_layRoads_53 rfl (lv_at hl 0 rfl) ?_
        refine tk_getA hC hK hw hT hinX10 kC_at158 (by decide) rfl 2 (by decide) (List.mem_of_getElem? (i := 5) rfl) rfl rfl dX10_layRoads_54 ?_
        refine lv_iload hx hb dX10_layRoads_57 (lv_at hl 4 rfl) ?_
        refine tk_iald hC hK hw hT kC_at159 rfl rfl (show 0 ≤ v27_4.toInt by omega) (show v27_4.toInt < 12 by omega) dX10_layRoads_59 (fun x94 c95 rx94 tx94 => ?_)
        refine lv_imul hx hb dX10_layRoads_60 ?_
        refine lv_topi (fun x96 ex96 => ?_)
        have ex96 : x96.toInt = (2 : Int) * x94.toInt := by rw [ex96]; exact wk_mul (show (-2147483648) ≤ (2 : Int) * x94.toInt by omega) (show (2 : Int) * x94.toInt ≤ 2147483647 by omega)
        refine tk_iald hC hK hw hT kC_at40 rfl rfl (show 0 ≤ x96.toInt by omega) (show x96.toInt < 26 by omega) dX10_layRoads_61 (fun x97 c98 rx97 tx97 => ?_)
        refine lv_istore (lv' := [(5, .int x97), (0, .ref (ad 158)), (1, .int a1), (2, .int a2), (3, .int (-1)), (4, .int v27_4)]) hx hb dX10_layRoads_62 hl (by decide) rfl (fun ls hl => ?_)
        refine lv_aload_n hx hb dX10_layRoads_64 rfl (lv_at hl 1 rfl) ?_
        refine tk_getA hC hK hw hT hinX10 kC_at158 (by decide) rfl 1 (by decide) (List.mem_of_getElem? (i := 3) rfl) rfl rfl dX10_layRoads_65 ?_
        refine tk_getO hC hK hw hT hinX7 kC_at39 (by decide) rfl 0 (by decide) (List.mem_of_getElem? (i := 4) rfl) rfl rfl dX10_layRoads_68 ?_
        refine lv_iconst (v := 2) hx hb dX10_layRoads_71 (by decide) ?_
        refine lv_aload_n hx hb dX10_layRoads_72 rfl (lv_at hl 1 rfl) ?_
        refine tk_getA hC hK hw hT hinX10 kC_at158 (by decide) rfl 2 (by decide) (List.mem_of_getElem? (i := 5) rfl) rfl rfl dX10_layRoads_73 ?_
        refine lv_iload hx hb dX10_layRoads_76 (lv_at hl 5 rfl) ?_
        refine tk_iald hC hK hw hT kC_at159 rfl rfl (show 0 ≤ v27_4.toInt by omega) (show v27_4.toInt < 12 by omega) dX10_layRoads_78 (fun x99 c100 rx99 tx99 => ?_)
        refine lv_imul hx hb dX10_layRoads_79 ?_
        refine lv_topi (fun x101 ex101 => ?_)
        have ex101 : x101.toInt = (2 : Int) * x99.toInt := by rw [ex101]; exact wk_mul (show (-2147483648) ≤ (2 : Int) * x99.toInt by omega) (show (2 : Int) * x99.toInt ≤ 2147483647 by omega)
        refine lv_iconst (v := 1) hx hb dX10_layRoads_80 (by decide) ?_
        refine lv_iadd hx hb dX10_layRoads_81 ?_
        refine lv_topi (fun x102 ex102 => ?_)
        have ex102 : x102.toInt = x101.toInt + (1 : Int) := by rw [ex102]; exact wk_add (show (-2147483648) ≤ x101.toInt + (1 : Int) by omega) (show x101.toInt + (1 : Int) ≤ 2147483647 by omega)
        refine tk_iald hC hK hw hT kC_at40 rfl rfl (show 0 ≤ x102.toInt by omega) (show x102.toInt < 26 by omega) dX10_layRoads_82 (fun x103 c104 rx103 tx103 => ?_)
        refine lv_istore (lv' := [(6, .int x103), (5, .int x97), (0, .ref (ad 158)), (1, .int a1), (2, .int a2), (3, .int (-1)), (4, .int v27_4)]) hx hb dX10_layRoads_83 hl (by decide) rfl (fun ls hl => ?_)
        refine lv_iload_n hx hb dX10_layRoads_85 rfl (lv_at hl 4 rfl) ?_
        refine lv_iload hx hb dX10_layRoads_86 (lv_at hl 6 rfl) ?_
        refine lv_ishr hx hb dX10_layRoads_88 ?_
        refine lv_topi (fun x105 ex105 => ?_)
        have bx105 : 0 ≤ x105.toInt ∧ x105.toInt ≤ a2.toInt := by rw [ex105]; exact wk_shr (by omega)
        refine lv_iconst (v := 1) hx hb dX10_layRoads_89 (by decide) ?_
        refine lv_iand hx hb dX10_layRoads_90 ?_
        refine lv_topi (fun x106 ex106 => ?_)
        have bx106 : 0 ≤ x106.toInt ∧ x106.toInt ≤ (1 : Int) := by rw [ex106]; exact wk_and (by decide)
        refine lv_istore (lv' := [(7, .int x106), (6, .int x103), (5, .int x97), (0, .ref (ad 158)), (1, .int a1), (2, .int a2), (3, .int (-1)), (4, .int v27_4)]) hx hb dX10_layRoads_91 hl (by decide) rfl (fun ls hl => ?_)
        refine lv_iload hx hb dX10_layRoads_93 (lv_at hl 7 rfl) ?_
        refine lv_iload_n hx hb dX10_layRoads_95 rfl (lv_at hl 4 rfl) ?_
        refine lv_icmp_lt (tgt := 104) hx hb dX10_layRoads_96 (by decide) (fun c107 => ?_) (fun c107 => ?_)
        · have c107 : v27_4.toInt < a1.toInt := wk_lt.mp c107
          exact J104 x97 x103 x106 x91 H locs ls w1 (show 0 ≤ a1.toInt by omega) (show a1.toInt ≤ 5 by omega) (show 0 ≤ a2.toInt by omega) (show a2.toInt ≤ 127 by omega) (show 0 ≤ v27_4.toInt by omega) (show v27_4.toInt ≤ 11 by omega) (show 0 ≤ x97.toInt by omega) (show x97.toInt ≤ 9 by omega) (show 0 ≤ x103.toInt by omega) (show x103.toInt ≤ 9 by omega) (show 0 ≤ x106.toInt by omega) (show x106.toInt ≤ 1 by omega) (show 1 ≤ x91.toInt by omega) (show x91.toInt ≤ 12 by omega)  hw hT hF c92 (lv_sub hl [3, 4, 5, 6, 7, 2, 1, 0] rfl)
        · have c107 : a1.toInt ≤ v27_4.toInt := wk_ltF c107
          refine lv_iload hx hb dX10_layRoads_99 (lv_at hl 0 rfl) ?_
          refine lv_if_ne (tgt := 118) hx hb dX10_layRoads_101 (by decide) (fun c108 => ?_) (fun c108 => ?_)
          · have c108 : ¬ x106.toInt = (0 : Int) := wk_eqF c108
            exact J118 x97 x103 x106 x91 H locs ls w1 (show 0 ≤ a1.toInt by omega) (show a1.toInt ≤ 5 by omega) (show 0 ≤ a2.toInt by omega) (show a2.toInt ≤ 127 by omega) (show 0 ≤ v27_4.toInt by omega) (show v27_4.toInt ≤ 11 by omega) (show 0 ≤ x97.toInt by omega) (show x97.toInt ≤ 9 by omega) (show 0 ≤ x103.toInt by omega) (show x103.toInt ≤ 9 by omega) (show 0 ≤ x106.toInt by omega) (show x106.toInt ≤ 1 by omega) (show 1 ≤ x91.toInt by omega) (show x91.toInt ≤ 12 by omega)  hw hT hF c92 (lv_sub hl [3, 4, 5, 6, 7, 2, 1, 0] rfl)
          · have c108 : x106.toInt = (0 : Int) := wk_eq.mp c108
            exact J104 x97 x103 x106 x91 H locs ls w1 (show 0 ≤ a1.toInt by omega) (show a1.toInt ≤ 5 by omega) (show 0 ≤ a2.toInt by omega) (show a2.toInt ≤ 127 by omega) (show 0 ≤ v27_4.toInt by omega) (show v27_4.toInt ≤ 11 by omega) (show 0 ≤ x97.toInt by omega) (show x97.toInt ≤ 9 by omega) (show 0 ≤ x103.toInt by omega) (show x103.toInt ≤ 9 by omega) (show 0 ≤ x106.toInt by omega) (show x106.toInt ≤ 1 by omega) (show 1 ≤ x91.toInt by omega) (show x91.toInt ≤ 12 by omega)  hw hT hF c92 (lv_sub hl [3, 4, 5, 6, 7, 2, 1, 0] rfl)
  have L3 : ∀ (n3 : Nat) (v3_4 : Int32) (H : Heap) (locs : List Loc) (ls : Array Slot) (w109 : va_W), 0 ≤ a1.toInt → a1.toInt ≤ 5 → 0 ≤ a2.toInt → a2.toInt ≤ 127 → 0 ≤ v3_4.toInt → v3_4.toInt ≤ 10 → (10 - v3_4.toInt).toNat < n3 → Wd dC dI A s.heap H locs w109 → TW ksC ad cy B qr s1 w109 → FE ksC [(51, 0, 10)] w0 w109 → lv_has ls 8 [(0, .ref (ad 158)), (1, .int a1), (2, .int a2), (3, .int (-1)), (4, .int v3_4)] → W p l e ({ frames := 1, cells := 0, slots := 0, locals := 12 }) s m (List.toArray [.ref (ad 158), .int a1, .int a2, .int (-1)]) below meth c H locs 0 0 (MQ below (va_Qv (P_X10_layRoads_36 ad cy B qr s1 a1 a2 w0) (fun u : va_W => wpost dC dI cy A u) A) (List.toArray [.ref (ad 158), .int a1, .int a2, .int (-1)]) s 0 0 A) (F0 m 3 ls []) := by
    intro n3
    induction n3 with
    | zero => intro v3_4 H locs ls w109 r110 t111 r112 t113 r114 t115 hm3 hw hT hF hl; omega
    | succ n3 ih3 =>
      intro v3_4 H locs ls w109 r110 t111 r112 t113 r114 t115 hm3 hw hT hF hl
      refine lv_iload hx hb dX10_layRoads_3 (lv_at hl 4 rfl) ?_
      refine lv_bipush (v := 10) hx hb dX10_layRoads_5 (by decide) ?_
      refine lv_icmp_ge (tgt := 24) hx hb dX10_layRoads_7 (by decide) (fun c116 => ?_) (fun c116 => ?_)
      · have c116 : (10 : Int) ≤ v3_4.toInt := wk_le.mp c116
        refine lv_iconst (v := 0) hx hb dX10_layRoads_24 (by decide) ?_
        refine lv_istore (lv' := [(4, .int 0), (0, .ref (ad 158)), (1, .int a1), (2, .int a2), (3, .int (-1))]) hx hb dX10_layRoads_25 hl (by decide) rfl (fun ls hl => ?_)
        exact L27 ((12 - (0 : Int)).toNat + 1) 0 H locs ls w109 (show 0 ≤ a1.toInt by omega) (show a1.toInt ≤ 5 by omega) (show 0 ≤ a2.toInt by omega) (show a2.toInt ≤ 127 by omega) (by decide) (by decide) (Nat.lt_succ_self _) hw hT hF  (lv_sub hl [1, 2, 3, 4, 0] rfl)
      · have c116 : v3_4.toInt < (10 : Int) := wk_leF c116
        refine lv_aload_n hx hb dX10_layRoads_10 rfl (lv_at hl 0 rfl) ?_
        refine tk_getA hC hK hw hT hinX10 kC_at158 (by decide) rfl 3 (by decide) (List.mem_of_getElem? (i := 1) rfl) rfl rfl dX10_layRoads_11 ?_
        refine lv_iload hx hb dX10_layRoads_14 (lv_at hl 4 rfl) ?_
        refine lv_iconst (v := 0) hx hb dX10_layRoads_16 (by decide) ?_
        refine tk_iast hC hK hw hT kC_at160 (by decide) rfl rfl (show 0 ≤ v3_4.toInt by omega) (show v3_4.toInt < 10 by omega) (by decide) (by decide) dX10_layRoads_17 (fun H locs w117 hw hT k119 c118 => ?_)
        have hF := hF.put kC_at160 (inE_of (a := 0) (b := 10) (by decide) (show 0 ≤ v3_4.toInt.toNat by omega) (show v3_4.toInt.toNat ≤ 10 by omega)) k119
        obtain ⟨x120, ex120⟩ : ∃ y : Int32, y = v3_4 + Int32.ofInt 1 := ⟨_, rfl⟩
        refine lv_iinc (v := x120) (lv' := [(4, .int x120), (0, .ref (ad 158)), (1, .int a1), (2, .int a2), (3, .int (-1))]) hx hb dX10_layRoads_18 hl (k := 4) rfl ex120.symm (by decide) rfl (fun ls hl => ?_)
        have ex120 : x120.toInt = v3_4.toInt + 1 := by rw [ex120]; exact wk_add (y := 1) (show -2147483648 ≤ v3_4.toInt + 1 by omega) (show v3_4.toInt + 1 ≤ 2147483647 by omega)
        refine lv_goto (tgt := 3) hx hb dX10_layRoads_21 (by decide) ?_
        exact ih3 x120 H locs ls w117 (show 0 ≤ a1.toInt by omega) (show a1.toInt ≤ 5 by omega) (show 0 ≤ a2.toInt by omega) (show a2.toInt ≤ 127 by omega) (show 0 ≤ x120.toInt by omega) (show x120.toInt ≤ 10 by omega) (show (10 - x120.toInt).toNat < n3 by omega) hw hT hF  (lv_sub hl [1, 2, 3, 4, 0] rfl)
  refine lv_iconst (v := 0) hx hb dX10_layRoads_0 (by decide) ?_
  refine lv_istore (lv' := [(4, .int 0), (0, .ref (ad 158)), (1, .int a1), (2, .int a2), (3, .int (-1))]) hx hb dX10_layRoads_1 hl (by decide) rfl (fun ls hl => ?_)
  exact L3 ((10 - (0 : Int)).toNat + 1) 0 s.heap locs ls w0 (show 0 ≤ a1.toInt by omega) (show a1.toInt ≤ 5 by omega) (show 0 ≤ a2.toInt by omega) (show a2.toInt ≤ 127 by omega) (by decide) (by decide) (Nat.lt_succ_self _) hw hT hF  (lv_sub hl [1, 2, 3, 4, 0] rfl)
abbrev P_X10_leastBelow_36 (ad : Nat → Nat) (cy : Nat → ClassId) (B : Int) (qr : Nat) (s1 : Int) (a1 : Int32) (a2 : Int32) (w0 : va_W) : Int32 → va_W → Prop := fun r u => TW ksC ad cy B qr s1 u ∧ FE ksC [(51, 0, 10)] w0 u ∧ ((0 ≤ r.toInt ∧ r.toInt ≤ 127) ∨ (r = (-1) ∧ (∃ y : Int32, gi u 38 10 = y ∧ 1 ≤ y.toInt ∧ y.toInt ≤ 6)))
set_option maxHeartbeats 4000000 in
set_option maxRecDepth 100000 in
theorem k_X10_leastBelow_36 (l : Launch) (adK adV : Nat → Nat) (dC : Nat → ClassId) (dI : Nat → Nat → Nat) (cy : Nat → ClassId) (ad : Nat → Nat) (B : Int) (hB0 : 2147483648 ≤ B) (hB1 : B ≤ 1152921504606846976) (qr : Nat) (s1 : Int)  (a1 : Int32) (ra1 : 0 ≤ a1.toInt) (ta1 : a1.toInt ≤ 5) (a2 : Int32) (ra2 : 0 ≤ a2.toInt) (ta2 : a2.toInt ≤ 127) (w0 : va_W) (sz : Nat) (hT : TW ksC ad cy B qr s1 w0)  : Met l yX10_leastBelow wsX10_leastBelow ({ frames := 8, cells := 0, slots := 0, locals := 174 }) (va_Pc [.ref (ad 158), .int a1, .int a2] (wpreS adK adV dC dI cy sz w0)) (va_Qi (P_X10_leastBelow_36 ad cy B qr s1 a1 a2 w0) (fun u : va_W => wpost dC dI cy (va_A w0 sz) u) (va_A w0 sz)) 0 0 (va_A w0 sz) := by
  refine Met.ofW (cc := cX10_leastBelow) (maxL := 4) (ret := (some .int)) (by decide) rfl ?_
  intro p e s m args below meth c s₁ Bk hml hv
  obtain ⟨rfl, ⟨hsz, hP, hK, hD0⟩, hE, hSR⟩ := hv
  have hx := Bk.exec
  have hb := Bk.bytes
  have hr := Bk.returns
  have hlocks := Bk.notSynchronized
  have hC : CallFix p m c cX10_leastBelow 4 s _ wsX10_leastBelow RX10 := ⟨hx, hb, hml, findClass_of_methodNamed Bk.named, atoms_spec (ws := wsX10_leastBelow) Bk.pre⟩
  subst hsz
  have hD := hD0.self (sz := s.heap.size)
  generalize hAe : va_A w0 s.heap.size = A at hD hE ⊢
  have hA : ∀ q : Nat, s.heap.size ≤ q → A q := fun q h => by rw [← hAe]; exact Or.inr h
  have hw : Wd dC dI A s.heap s.heap [] w0 := ⟨hP, hD, va_S.rf⟩
  have hF : FE ksC [(51, 0, 10)] w0 w0 := FE.rf
  have hl := lv_entry ([.ref (ad 158), .int a1, .int a2]) (n := 4) (Nat.le_of_ble_eq_true rfl)
  rw [lg_entry_eq]
  generalize (lg_sl ([.ref (ad 158), .int a1, .int a2]) ++ List.replicate (4 - (lg_sl ([.ref (ad 158), .int a1, .int a2])).length) Slot.unset).toArray = ls at hl ⊢
  have hl : lv_has ls 4 [(0, .ref (ad 158)), (1, .int a1), (2, .int a2)] := hl
  generalize hloc : ([] : List Loc) = locs at hw ⊢
  have hinX10 : ∀ w ∈ u_ws RX10 TX10 5, w ∈ wsX10_leastBelow := fun _ h => List.mem_cons_of_mem _ (List.mem_append_left _ (List.mem_append_left _ (List.mem_append_right _ (h))))
  have hinX5 : ∀ w ∈ u_ws RX5 TX5 14, w ∈ wsX10_leastBelow := fun _ h => List.mem_cons_of_mem _ (List.mem_append_left _ (List.mem_append_right _ (h)))
  have L9 : ∀ (n9 : Nat) (v9_3 : Int32) (H : Heap) (locs : List Loc) (ls : Array Slot) (w1 : va_W), 0 ≤ a1.toInt → a1.toInt ≤ 5 → 0 ≤ a2.toInt → a2.toInt ≤ 127 → 0 ≤ v9_3.toInt → v9_3.toInt ≤ 6 → (6 - v9_3.toInt).toNat < n9 → Wd dC dI A s.heap H locs w1 → TW ksC ad cy B qr s1 w1 → FE ksC [(51, 0, 10)] w0 w1 → lv_has ls 4 [(0, .ref (ad 158)), (1, .int a1), (2, .int a2), (3, .int v9_3)] → W p l e ({ frames := 8, cells := 0, slots := 0, locals := 174 }) s m (List.toArray [.ref (ad 158), .int a1, .int a2]) below meth c H locs 0 0 (MQ below (va_Qi (P_X10_leastBelow_36 ad cy B qr s1 a1 a2 w0) (fun u : va_W => wpost dC dI cy A u) A) (List.toArray [.ref (ad 158), .int a1, .int a2]) s 0 0 A) (F0 m 9 ls []) := by
    intro n9
    induction n9 with
    | zero => intro v9_3 H locs ls w1 r2 t3 r4 t5 r6 t7 hm9 hw hT hF hl; omega
    | succ n9 ih9 =>
      intro v9_3 H locs ls w1 r2 t3 r4 t5 r6 t7 hm9 hw hT hF hl
      refine lv_iload_n hx hb dX10_leastBelow_9 rfl (lv_at hl 3 rfl) ?_
      refine lv_aload_n hx hb dX10_leastBelow_10 rfl (lv_at hl 0 rfl) ?_
      refine tk_getA hC hK hw hT hinX10 kC_at158 (by decide) rfl 0 (by decide) (List.mem_of_getElem? (i := 1) rfl) rfl rfl dX10_leastBelow_11 ?_
      refine tk_geti hC hK hw hT hinX5 kC_at38 (by decide) rfl 10 (by decide) (List.mem_of_getElem? (i := 2) rfl) rfl rfl dX10_leastBelow_14 (fun x8 c9 rx8 tx8 => ?_)
      refine lv_icmp_ge (tgt := 36) hx hb dX10_leastBelow_17 (by decide) (fun c10 => ?_) (fun c10 => ?_)
      · have c10 : x8.toInt ≤ v9_3.toInt := wk_le.mp c10
        refine lv_iload_n hx hb dX10_leastBelow_36 rfl (lv_at hl 1 rfl) ?_
        refine lv_if_gt (tgt := 42) hx hb dX10_leastBelow_37 (by decide) (fun c11 => ?_) (fun c11 => ?_)
        · have c11 : (0 : Int) < a1.toInt := wk_lt.mp c11
          refine lv_aload_n hx hb dX10_leastBelow_42 rfl (lv_at hl 0 rfl) ?_
          refine lv_iload_n hx hb dX10_leastBelow_43 rfl (lv_at hl 1 rfl) ?_
          refine lv_iconst (v := 1) hx hb dX10_leastBelow_44 (by decide) ?_
          refine lv_isub hx hb dX10_leastBelow_45 ?_
          refine lv_topi (fun x12 ex12 => ?_)
          have ex12 : x12.toInt = a1.toInt - (1 : Int) := by rw [ex12]; exact wk_sub (show (-2147483648) ≤ a1.toInt - (1 : Int) by omega) (show a1.toInt - (1 : Int) ≤ 2147483647 by omega)
          refine lv_iload_n hx hb dX10_leastBelow_46 rfl (lv_at hl 2 rfl) ?_
          refine tk_Vi hC hK hw hT hA hE hSR kC_at158 (by decide) rfl (k_X10_leastBelow_37 l adK adV dC dI cy ad B (by omega) (by omega) qr s1   x12 (show 0 ≤ x12.toInt by omega) (show x12.toInt ≤ 4 by omega) a2 (show 0 ≤ a2.toInt by omega) (show a2.toInt ≤ 127 by omega) w1 H.size hT ) (cwV 2 hC.2.2.2.2 gX10_leastBelow_X10_leastBelow rfl rfl rfl (by decide +kernel) ⟨Nat.le_of_ble_eq_true rfl, Nat.le_of_ble_eq_true rfl⟩) rfl hl.1 rfl (Nat.le_of_ble_eq_true rfl) dX10_leastBelow_47 (fun r13 w15 H locs hp14 hw => ?_)
          obtain ⟨hT, k16, hg21⟩ := hp14
          have hF := hF.tr k16 (by decide)
          have c22 := k16.gi kC_at38 (by decide) c9
          rcases hg21 with ⟨g17, g18⟩ | ⟨rfl, ⟨x19, c20, rx19, tx19⟩⟩
          · refine lv_istore_n (lv' := [(3, .int r13), (0, .ref (ad 158)), (1, .int a1), (2, .int a2)]) hx hb dX10_leastBelow_50 rfl hl (by decide) rfl (fun ls hl => ?_)
            refine lv_iload_n hx hb dX10_leastBelow_51 rfl (lv_at hl 0 rfl) ?_
            refine lv_iconst (v := (-1)) hx hb dX10_leastBelow_52 (by decide) ?_
            refine lv_icmp_eq (tgt := 60) hx hb dX10_leastBelow_53 (by decide) (fun c => absurd c (fun h => absurd (show r13.toInt = (-1 : Int) from wk_eq.mp h) (by omega))) (fun _ => ?_)
            refine lv_iload_n hx hb dX10_leastBelow_56 rfl (lv_at hl 0 rfl) ?_
            refine lv_goto (tgt := 74) hx hb dX10_leastBelow_57 (by decide) ?_
            exact tk_iret hC hr hlocks hK ⟨hT, hF, (Or.inl ⟨(show 0 ≤ r13.toInt by omega), (show r13.toInt ≤ 127 by omega)⟩)⟩ hw dX10_leastBelow_74
          · have ex19 : x19.toInt = x8.toInt := by rw [← c22.symm.trans c20]
            refine lv_istore_n (lv' := [(3, .int (-1)), (0, .ref (ad 158)), (1, .int a1), (2, .int a2)]) hx hb dX10_leastBelow_50 rfl hl (by decide) rfl (fun ls hl => ?_)
            refine lv_iload_n hx hb dX10_leastBelow_51 rfl (lv_at hl 0 rfl) ?_
            refine lv_iconst (v := (-1)) hx hb dX10_leastBelow_52 (by decide) ?_
            refine lv_icmp_eq (tgt := 60) hx hb dX10_leastBelow_53 (by decide) (fun _ => ?_) (fun c => absurd (by decide) c)
            refine lv_aload_n hx hb dX10_leastBelow_60 rfl (lv_at hl 1 rfl) ?_
            refine lv_iload_n hx hb dX10_leastBelow_61 rfl (lv_at hl 2 rfl) ?_
            refine lv_iconst (v := 1) hx hb dX10_leastBelow_62 (by decide) ?_
            refine lv_isub hx hb dX10_leastBelow_63 ?_
            refine lv_topi (fun x23 ex23 => ?_)
            have ex23 : x23.toInt = a1.toInt - (1 : Int) := by rw [ex23]; exact wk_sub (show (-2147483648) ≤ a1.toInt - (1 : Int) by omega) (show a1.toInt - (1 : Int) ≤ 2147483647 by omega)
            refine lv_iload_n hx hb dX10_leastBelow_64 rfl (lv_at hl 3 rfl) ?_
            refine lv_iconst (v := 1) hx hb dX10_leastBelow_65 (by decide) ?_
            refine lv_iload_n hx hb dX10_leastBelow_66 rfl (lv_at hl 2 rfl) ?_
            refine lv_iconst (v := 1) hx hb dX10_leastBelow_67 (by decide) ?_
            refine lv_isub hx hb dX10_leastBelow_68 ?_
            refine lv_topi (fun x24 ex24 => ?_)
            have ex24 : x24.toInt = a1.toInt - (1 : Int) := by rw [ex24]; exact wk_sub (show (-2147483648) ≤ a1.toInt - (1 : Int) by omega) (show a1.toInt - (1 : Int) ≤ 2147483647 by omega)
            refine lv_ishl hx hb dX10_leastBelow_69 ?_
            refine lv_topi (fun x25 ex25 => ?_)
            have bx25 : 1 ≤ x25.toInt ∧ x25.toInt ≤ 16 := by rw [ex25]; exact wk_shl1 4 (by decide) (by omega) (by omega)
            refine lv_ior hx hb dX10_leastBelow_70 ?_
            refine lv_topi (fun x26 ex26 => ?_)
            have bx26 : 0 ≤ x26.toInt ∧ x26.toInt < 128 := by rw [ex26]; exact wk_or 7 (by decide) (by omega) (by omega) (by omega) (by omega)
            refine tk_Vi hC hK hw hT hA hE hSR kC_at158 (by decide) rfl (k_X10_leastBelow_37 l adK adV dC dI cy ad B (by omega) (by omega) qr s1   x23 (show 0 ≤ x23.toInt by omega) (show x23.toInt ≤ 4 by omega) x26 (show 0 ≤ x26.toInt by omega) (show x26.toInt ≤ 127 by omega) w15 H.size hT ) (cwV 2 hC.2.2.2.2 gX10_leastBelow_X10_leastBelow rfl rfl rfl (by decide +kernel) ⟨Nat.le_of_ble_eq_true rfl, Nat.le_of_ble_eq_true rfl⟩) rfl hl.1 rfl (Nat.le_of_ble_eq_true rfl) dX10_leastBelow_71 (fun r27 w29 H locs hp28 hw => ?_)
            obtain ⟨hT, k30, hg35⟩ := hp28
            have hF := hF.tr k30 (by decide)
            have c36 := k30.gi kC_at38 (by decide) c22
            rcases hg35 with ⟨g31, g32⟩ | ⟨rfl, ⟨x33, c34, rx33, tx33⟩⟩
            · exact tk_iret hC hr hlocks hK ⟨hT, hF, (Or.inl ⟨(show 0 ≤ r27.toInt by omega), (show r27.toInt ≤ 127 by omega)⟩)⟩ hw dX10_leastBelow_74
            · have ex33 : x33.toInt = x8.toInt := by rw [← c36.symm.trans c34]
              exact tk_iret hC hr hlocks hK ⟨hT, hF, (Or.inr ⟨rfl, ⟨x8, c36, (show 1 ≤ x8.toInt by omega), (show x8.toInt ≤ 6 by omega)⟩⟩)⟩ hw dX10_leastBelow_74
        · have c11 : a1.toInt ≤ (0 : Int) := wk_ltF c11
          refine lv_iload_n hx hb dX10_leastBelow_40 rfl (lv_at hl 2 rfl) ?_
          exact tk_iret hC hr hlocks hK ⟨hT, hF, (Or.inl ⟨(show 0 ≤ a2.toInt by omega), (show a2.toInt ≤ 127 by omega)⟩)⟩ hw dX10_leastBelow_41
      · have c10 : v9_3.toInt < x8.toInt := wk_leF c10
        refine lv_aload_n hx hb dX10_leastBelow_20 rfl (lv_at hl 0 rfl) ?_
        refine lv_iload_n hx hb dX10_leastBelow_21 rfl (lv_at hl 3 rfl) ?_
        refine tk_Vi hC hK hw hT hA hE hSR kC_at158 (by decide) rfl (k_X10_canDo_1 l adK adV dC dI cy ad B (by omega) (by omega) qr s1   v9_3 (show 0 ≤ v9_3.toInt by omega) (show v9_3.toInt ≤ 5 by omega) w1 H.size hT ) (cwV 1 hC.2.2.2.2 gX10_leastBelow_X10_canDo rfl rfl rfl (by decide +kernel) ⟨Nat.le_of_ble_eq_true rfl, Nat.le_of_ble_eq_true rfl⟩) rfl hl.1 rfl (Nat.le_of_ble_eq_true rfl) dX10_leastBelow_22 (fun r37 w39 H locs hp38 hw => ?_)
        obtain ⟨hT, k40, hg41⟩ := hp38
        have hF := hF.tr k40 (by decide)
        have c42 := k40.gi kC_at38 (by decide) c9
        rcases hg41 with rfl | rfl
        · refine lv_if_ne (tgt := 30) hx hb dX10_leastBelow_25 (by decide) (fun c => absurd (by decide) c) (fun _ => ?_)
          refine lv_iconst (v := (-1)) hx hb dX10_leastBelow_28 (by decide) ?_
          exact tk_iret hC hr hlocks hK ⟨hT, hF, (Or.inr ⟨rfl, ⟨x8, c42, (show 1 ≤ x8.toInt by omega), (show x8.toInt ≤ 6 by omega)⟩⟩)⟩ hw dX10_leastBelow_29
        · refine lv_if_ne (tgt := 30) hx hb dX10_leastBelow_25 (by decide) (fun _ => ?_) (fun c => absurd c (by decide))
          obtain ⟨x43, ex43⟩ : ∃ y : Int32, y = v9_3 + Int32.ofInt 1 := ⟨_, rfl⟩
          refine lv_iinc (v := x43) (lv' := [(3, .int x43), (0, .ref (ad 158)), (1, .int a1), (2, .int a2)]) hx hb dX10_leastBelow_30 hl (k := 3) rfl ex43.symm (by decide) rfl (fun ls hl => ?_)
          have ex43 : x43.toInt = v9_3.toInt + 1 := by rw [ex43]; exact wk_add (y := 1) (show -2147483648 ≤ v9_3.toInt + 1 by omega) (show v9_3.toInt + 1 ≤ 2147483647 by omega)
          refine lv_goto (tgt := 9) hx hb dX10_leastBelow_33 (by decide) ?_
          exact ih9 x43 H locs ls w39 (show 0 ≤ a1.toInt by omega) (show a1.toInt ≤ 5 by omega) (show 0 ≤ a2.toInt by omega) (show a2.toInt ≤ 127 by omega) (show 0 ≤ x43.toInt by omega) (show x43.toInt ≤ 6 by omega) (show (6 - x43.toInt).toNat < n9 by omega) hw hT hF  (lv_sub hl [1, 2, 3, 0] rfl)
  refine lv_aload_n hx hb dX10_leastBelow_0 rfl (lv_at hl 0 rfl) ?_
  refine lv_iload_n hx hb dX10_leastBelow_1 rfl (lv_at hl 1 rfl) ?_
  refine lv_iload_n hx hb dX10_leastBelow_2 rfl (lv_at hl 2 rfl) ?_
  refine lv_iconst (v := (-1)) hx hb dX10_leastBelow_3 (by decide) ?_
  refine tk_Vv hC hK hw hT hA hE hSR kC_at158 (by decide) rfl (k_X10_layRoads_36 l adK adV dC dI cy ad B (by omega) (by omega) qr s1   a1 (show 0 ≤ a1.toInt by omega) (show a1.toInt ≤ 5 by omega) a2 (show 0 ≤ a2.toInt by omega) (show a2.toInt ≤ 127 by omega) w0 s.heap.size hT ) (cwV 3 hC.2.2.2.2 gX10_leastBelow_X10_layRoads rfl rfl rfl (by decide +kernel) ⟨Nat.le_of_ble_eq_true rfl, Nat.le_of_ble_eq_true rfl⟩) rfl hl.1 rfl (Nat.le_of_ble_eq_true rfl) dX10_leastBelow_4 (fun w46 H locs hp45 hw => ?_)
  obtain ⟨hT, k47, hg48⟩ := hp45
  have hF := hF.tr k47 (by decide)
  clear hg48
  refine lv_iconst (v := 0) hx hb dX10_leastBelow_7 (by decide) ?_
  refine lv_istore_n (lv' := [(3, .int 0), (0, .ref (ad 158)), (1, .int a1), (2, .int a2)]) hx hb dX10_leastBelow_8 rfl hl (by decide) rfl (fun ls hl => ?_)
  exact L9 ((6 - (0 : Int)).toNat + 1) 0 H locs ls w46 (show 0 ≤ a1.toInt by omega) (show a1.toInt ≤ 5 by omega) (show 0 ≤ a2.toInt by omega) (show a2.toInt ≤ 127 by omega) (by decide) (by decide) (Nat.lt_succ_self _) hw hT hF  (lv_sub hl [1, 2, 3, 0] rfl)
abbrev P_X10_layRoads_37 (ad : Nat → Nat) (cy : Nat → ClassId) (B : Int) (qr : Nat) (s1 : Int) (a1 : Int32) (a2 : Int32) (w0 : va_W) : va_W → Prop := fun u => TW ksC ad cy B qr s1 u ∧ FE ksC [(51, 0, 10)] w0 u ∧ ((True))
set_option maxHeartbeats 4000000 in
set_option maxRecDepth 100000 in
theorem k_X10_layRoads_37 (l : Launch) (adK adV : Nat → Nat) (dC : Nat → ClassId) (dI : Nat → Nat → Nat) (cy : Nat → ClassId) (ad : Nat → Nat) (B : Int) (hB0 : 2147483648 ≤ B) (hB1 : B ≤ 1152921504606846976) (qr : Nat) (s1 : Int)  (a1 : Int32) (ra1 : 0 ≤ a1.toInt) (ta1 : a1.toInt ≤ 6) (a2 : Int32) (ra2 : 0 ≤ a2.toInt) (ta2 : a2.toInt ≤ 127) (w0 : va_W) (sz : Nat) (hT : TW ksC ad cy B qr s1 w0)  : Met l yX10_layRoads wsX10_layRoads ({ frames := 1, cells := 0, slots := 0, locals := 12 }) (va_Pc [.ref (ad 158), .int a1, .int a2, .int (-1)] (wpreS adK adV dC dI cy sz w0)) (va_Qv (P_X10_layRoads_37 ad cy B qr s1 a1 a2 w0) (fun u : va_W => wpost dC dI cy (va_A w0 sz) u) (va_A w0 sz)) 0 0 (va_A w0 sz) := by
  refine Met.ofW (cc := cX10_layRoads) (maxL := 8) (ret := none) (by decide) rfl ?_
  intro p e s m args below meth c s₁ Bk hml hv
  obtain ⟨rfl, ⟨hsz, hP, hK, hD0⟩, hE, hSR⟩ := hv
  have hx := Bk.exec
  have hb := Bk.bytes
  have hr := Bk.returns
  have hlocks := Bk.notSynchronized
  have hC : CallFix p m c cX10_layRoads 8 s _ wsX10_layRoads RX10 := ⟨hx, hb, hml, findClass_of_methodNamed Bk.named, atoms_spec (ws := wsX10_layRoads) Bk.pre⟩
  subst hsz
  have hD := hD0.self (sz := s.heap.size)
  generalize hAe : va_A w0 s.heap.size = A at hD hE ⊢
  have hA : ∀ q : Nat, s.heap.size ≤ q → A q := fun q h => by rw [← hAe]; exact Or.inr h
  have hw : Wd dC dI A s.heap s.heap [] w0 := ⟨hP, hD, va_S.rf⟩
  have hF : FE ksC [(51, 0, 10)] w0 w0 := FE.rf
  have hl := lv_entry ([.ref (ad 158), .int a1, .int a2, .int (-1)]) (n := 8) (Nat.le_of_ble_eq_true rfl)
  rw [lg_entry_eq]
  generalize (lg_sl ([.ref (ad 158), .int a1, .int a2, .int (-1)]) ++ List.replicate (8 - (lg_sl ([.ref (ad 158), .int a1, .int a2, .int (-1)])).length) Slot.unset).toArray = ls at hl ⊢
  have hl : lv_has ls 8 [(0, .ref (ad 158)), (1, .int a1), (2, .int a2), (3, .int (-1))] := hl
  generalize hloc : ([] : List Loc) = locs at hw ⊢
  have hinX10 : ∀ w ∈ u_ws RX10 TX10 5, w ∈ wsX10_layRoads := fun _ h => List.mem_cons_of_mem _ (List.mem_append_left _ (List.mem_append_right _ (h)))
  have hinX7 : ∀ w ∈ u_ws RX7 TX7 12, w ∈ wsX10_layRoads := fun _ h => List.mem_cons_of_mem _ (List.mem_append_right _ (h))
  have L27 : ∀ (n27 : Nat) (v27_4 : Int32) (H : Heap) (locs : List Loc) (ls : Array Slot) (w1 : va_W), 0 ≤ a1.toInt → a1.toInt ≤ 6 → 0 ≤ a2.toInt → a2.toInt ≤ 127 → 0 ≤ v27_4.toInt → v27_4.toInt ≤ 12 → (12 - v27_4.toInt).toNat < n27 → Wd dC dI A s.heap H locs w1 → TW ksC ad cy B qr s1 w1 → FE ksC [(51, 0, 10)] w0 w1 → lv_has ls 8 [(0, .ref (ad 158)), (1, .int a1), (2, .int a2), (3, .int (-1)), (4, .int v27_4)] → W p l e ({ frames := 1, cells := 0, slots := 0, locals := 12 }) s m (List.toArray [.ref (ad 158), .int a1, .int a2, .int (-1)]) below meth c H locs 0 0 (MQ below (va_Qv (P_X10_layRoads_37 ad cy B qr s1 a1 a2 w0) (fun u : va_W => wpost dC dI cy A u) A) (List.toArray [.ref (ad 158), .int a1, .int a2, .int (-1)]) s 0 0 A) (F0 m 27 ls []) := by
    intro n27
    induction n27 with
    | zero => intro v27_4 H locs ls w1 r2 t3 r4 t5 r6 t7 hm27 hw hT hF hl; omega
    | succ n27 ih27 =>
      intro v27_4 H locs ls w1 r2 t3 r4 t5 r6 t7 hm27 hw hT hF hl
      have J144 : ∀ (v144_5 : Int32) (v144_6 : Int32) (v144_7 : Int32) (f144_158_4 : Int32) (H : Heap) (locs : List Loc) (ls : Array Slot) (w8 : va_W), 0 ≤ a1.toInt → a1.toInt ≤ 6 → 0 ≤ a2.toInt → a2.toInt ≤ 127 → 0 ≤ v27_4.toInt → v27_4.toInt ≤ 11 → 0 ≤ v144_5.toInt → v144_5.toInt ≤ 9 → 0 ≤ v144_6.toInt → v144_6.toInt ≤ 9 → 0 ≤ v144_7.toInt → v144_7.toInt ≤ 1 → 1 ≤ f144_158_4.toInt → f144_158_4.toInt ≤ 12 → Wd dC dI A s.heap H locs w8 → TW ksC ad cy B qr s1 w8 → FE ksC [(51, 0, 10)] w0 w8 → gi w8 158 4 = f144_158_4 → lv_has ls 8 [(0, .ref (ad 158)), (1, .int a1), (2, .int a2), (3, .int (-1)), (4, .int v27_4), (5, .int v144_5), (6, .int v144_6), (7, .int v144_7)] → W p l e ({ frames := 1, cells := 0, slots := 0, locals := 12 }) s m (List.toArray [.ref (ad 158), .int a1, .int a2, .int (-1)]) below meth c H locs 0 0 (MQ below (va_Qv (P_X10_layRoads_37 ad cy B qr s1 a1 a2 w0) (fun u : va_W => wpost dC dI cy A u) A) (List.toArray [.ref (ad 158), .int a1, .int a2, .int (-1)]) s 0 0 A) (F0 m 144 ls []) := by
        intro v144_5 v144_6 v144_7 f144_158_4 H locs ls w8 r9 t10 r11 t12 r13 t14 r15 t16 r17 t18 r19 t20 r21 t22 hw hT hF c23 hl
        obtain ⟨x24, ex24⟩ : ∃ y : Int32, y = v27_4 + Int32.ofInt 1 := ⟨_, rfl⟩
        refine lv_iinc (v := x24) (lv' := [(4, .int x24), (0, .ref (ad 158)), (1, .int a1), (2, .int a2), (3, .int (-1)), (5, .int v144_5), (6, .int v144_6), (7, .int v144_7)]) hx hb dX10_layRoads_144 hl (k := 4) rfl ex24.symm (by decide) rfl (fun ls hl => ?_)
        have ex24 : x24.toInt = v27_4.toInt + 1 := by rw [ex24]; exact wk_add (y := 1) (show -2147483648 ≤ v27_4.toInt + 1 by omega) (show v27_4.toInt + 1 ≤ 2147483647 by omega)
        refine lv_goto (tgt := 27) hx hb dX10_layRoads_147 (by decide) ?_
        exact ih27 x24 H locs ls w8 (show 0 ≤ a1.toInt by omega) (show a1.toInt ≤ 6 by omega) (show 0 ≤ a2.toInt by omega) (show a2.toInt ≤ 127 by omega) (show 0 ≤ x24.toInt by omega) (show x24.toInt ≤ 12 by omega) (show (12 - x24.toInt).toNat < n27 by omega) hw hT hF  (lv_sub hl [1, 2, 3, 4, 0] rfl)
      have J130 : ∀ (v130_5 : Int32) (v130_6 : Int32) (v130_7 : Int32) (f130_158_4 : Int32) (H : Heap) (locs : List Loc) (ls : Array Slot) (w25 : va_W), 0 ≤ a1.toInt → a1.toInt ≤ 6 → 0 ≤ a2.toInt → a2.toInt ≤ 127 → 0 ≤ v27_4.toInt → v27_4.toInt ≤ 11 → 0 ≤ v130_5.toInt → v130_5.toInt ≤ 9 → 0 ≤ v130_6.toInt → v130_6.toInt ≤ 9 → 0 ≤ v130_7.toInt → v130_7.toInt ≤ 1 → 1 ≤ f130_158_4.toInt → f130_158_4.toInt ≤ 12 → Wd dC dI A s.heap H locs w25 → TW ksC ad cy B qr s1 w25 → FE ksC [(51, 0, 10)] w0 w25 → gi w25 158 4 = f130_158_4 → lv_has ls 8 [(0, .ref (ad 158)), (1, .int a1), (2, .int a2), (3, .int (-1)), (4, .int v27_4), (5, .int v130_5), (6, .int v130_6), (7, .int v130_7)] → W p l e ({ frames := 1, cells := 0, slots := 0, locals := 12 }) s m (List.toArray [.ref (ad 158), .int a1, .int a2, .int (-1)]) below meth c H locs 0 0 (MQ below (va_Qv (P_X10_layRoads_37 ad cy B qr s1 a1 a2 w0) (fun u : va_W => wpost dC dI cy A u) A) (List.toArray [.ref (ad 158), .int a1, .int a2, .int (-1)]) s 0 0 A) (F0 m 130 ls []) := by
        intro v130_5 v130_6 v130_7 f130_158_4 H locs ls w25 r26 t27 r28 t29 r30 t31 r32 t33 r34 t35 r36 t37 r38 t39 hw hT hF c40 hl
        refine lv_aload_n hx hb dX10_layRoads_130 rfl (lv_at hl 0 rfl) ?_
        refine tk_getA hC hK hw hT hinX10 kC_at158 (by decide) rfl 3 (by decide) (List.mem_of_getElem? (i := 1) rfl) rfl rfl dX10_layRoads_131 ?_
        refine lv_iload hx hb dX10_layRoads_134 (lv_at hl 6 rfl) ?_
        refine lv_dup2_11 hx hb dX10_layRoads_136 rfl rfl ?_
        refine tk_iald hC hK hw hT kC_at160 rfl rfl (show 0 ≤ v130_6.toInt by omega) (show v130_6.toInt < 10 by omega) dX10_layRoads_137 (fun x41 c42 rx41 tx41 => ?_)
        refine lv_iconst (v := 1) hx hb dX10_layRoads_138 (by decide) ?_
        refine lv_iload hx hb dX10_layRoads_139 (lv_at hl 5 rfl) ?_
        refine lv_ishl hx hb dX10_layRoads_141 ?_
        refine lv_topi (fun x43 ex43 => ?_)
        have bx43 : 1 ≤ x43.toInt ∧ x43.toInt ≤ 512 := by rw [ex43]; exact wk_shl1 9 (by decide) (by omega) (by omega)
        refine lv_ior hx hb dX10_layRoads_142 ?_
        refine lv_topi (fun x44 ex44 => ?_)
        have bx44 : 0 ≤ x44.toInt ∧ x44.toInt < 1024 := by rw [ex44]; exact wk_or 10 (by decide) (by omega) (by omega) (by omega) (by omega)
        refine tk_iast hC hK hw hT kC_at160 (by decide) rfl rfl (show 0 ≤ v130_6.toInt by omega) (show v130_6.toInt < 10 by omega) (show 0 ≤ x44.toInt by omega) (show x44.toInt ≤ 1023 by omega) dX10_layRoads_143 (fun H locs w45 hw hT k47 c46 => ?_)
        have hF := hF.put kC_at160 (inE_of (a := 0) (b := 10) (by decide) (show 0 ≤ v130_6.toInt.toNat by omega) (show v130_6.toInt.toNat ≤ 10 by omega)) k47
        have c48 := k47.gi (Or.inl (tk_ne kC_at158 kC_at160 (by decide))) c40
        exact J144 v130_5 v130_6 v130_7 f130_158_4 H locs ls w45 (show 0 ≤ a1.toInt by omega) (show a1.toInt ≤ 6 by omega) (show 0 ≤ a2.toInt by omega) (show a2.toInt ≤ 127 by omega) (show 0 ≤ v27_4.toInt by omega) (show v27_4.toInt ≤ 11 by omega) (show 0 ≤ v130_5.toInt by omega) (show v130_5.toInt ≤ 9 by omega) (show 0 ≤ v130_6.toInt by omega) (show v130_6.toInt ≤ 9 by omega) (show 0 ≤ v130_7.toInt by omega) (show v130_7.toInt ≤ 1 by omega) (show 1 ≤ f130_158_4.toInt by omega) (show f130_158_4.toInt ≤ 12 by omega)  hw hT hF c48 (lv_sub hl [0, 1, 2, 3, 4, 5, 6, 7] rfl)
      have J118 : ∀ (v118_5 : Int32) (v118_6 : Int32) (v118_7 : Int32) (f118_158_4 : Int32) (H : Heap) (locs : List Loc) (ls : Array Slot) (w49 : va_W), 0 ≤ a1.toInt → a1.toInt ≤ 6 → 0 ≤ a2.toInt → a2.toInt ≤ 127 → 0 ≤ v27_4.toInt → v27_4.toInt ≤ 11 → 0 ≤ v118_5.toInt → v118_5.toInt ≤ 9 → 0 ≤ v118_6.toInt → v118_6.toInt ≤ 9 → 0 ≤ v118_7.toInt → v118_7.toInt ≤ 1 → 1 ≤ f118_158_4.toInt → f118_158_4.toInt ≤ 12 → Wd dC dI A s.heap H locs w49 → TW ksC ad cy B qr s1 w49 → FE ksC [(51, 0, 10)] w0 w49 → gi w49 158 4 = f118_158_4 → lv_has ls 8 [(0, .ref (ad 158)), (1, .int a1), (2, .int a2), (3, .int (-1)), (4, .int v27_4), (5, .int v118_5), (6, .int v118_6), (7, .int v118_7)] → W p l e ({ frames := 1, cells := 0, slots := 0, locals := 12 }) s m (List.toArray [.ref (ad 158), .int a1, .int a2, .int (-1)]) below meth c H locs 0 0 (MQ below (va_Qv (P_X10_layRoads_37 ad cy B qr s1 a1 a2 w0) (fun u : va_W => wpost dC dI cy A u) A) (List.toArray [.ref (ad 158), .int a1, .int a2, .int (-1)]) s 0 0 A) (F0 m 118 ls []) := by
        intro v118_5 v118_6 v118_7 f118_158_4 H locs ls w49 r50 t51 r52 t53 r54 t55 r56 t57 r58 t59 r60 t61 r62 t63 hw hT hF c64 hl
        refine lv_iload hx hb dX10_layRoads_118 (lv_at hl 4 rfl) ?_
        refine lv_iload_n hx hb dX10_layRoads_120 rfl (lv_at hl 1 rfl) ?_
        refine lv_icmp_lt (tgt := 130) hx hb dX10_layRoads_121 (by decide) (fun c65 => ?_) (fun c65 => ?_)
        · have c65 : v27_4.toInt < a1.toInt := wk_lt.mp c65
          exact J130 v118_5 v118_6 v118_7 f118_158_4 H locs ls w49 (show 0 ≤ a1.toInt by omega) (show a1.toInt ≤ 6 by omega) (show 0 ≤ a2.toInt by omega) (show a2.toInt ≤ 127 by omega) (show 0 ≤ v27_4.toInt by omega) (show v27_4.toInt ≤ 11 by omega) (show 0 ≤ v118_5.toInt by omega) (show v118_5.toInt ≤ 9 by omega) (show 0 ≤ v118_6.toInt by omega) (show v118_6.toInt ≤ 9 by omega) (show 0 ≤ v118_7.toInt by omega) (show v118_7.toInt ≤ 1 by omega) (show 1 ≤ f118_158_4.toInt by omega) (show f118_158_4.toInt ≤ 12 by omega)  hw hT hF c64 (lv_sub hl [0, 1, 2, 3, 4, 5, 6, 7] rfl)
        · have c65 : a1.toInt ≤ v27_4.toInt := wk_ltF c65
          refine lv_iload hx hb dX10_layRoads_124 (lv_at hl 7 rfl) ?_
          refine lv_iconst (v := 1) hx hb dX10_layRoads_126 (by decide) ?_
          refine lv_icmp_ne (tgt := 144) hx hb dX10_layRoads_127 (by decide) (fun c66 => ?_) (fun c66 => ?_)
          · have c66 : ¬ v118_7.toInt = (1 : Int) := wk_eqF c66
            exact J144 v118_5 v118_6 v118_7 f118_158_4 H locs ls w49 (show 0 ≤ a1.toInt by omega) (show a1.toInt ≤ 6 by omega) (show 0 ≤ a2.toInt by omega) (show a2.toInt ≤ 127 by omega) (show 0 ≤ v27_4.toInt by omega) (show v27_4.toInt ≤ 11 by omega) (show 0 ≤ v118_5.toInt by omega) (show v118_5.toInt ≤ 9 by omega) (show 0 ≤ v118_6.toInt by omega) (show v118_6.toInt ≤ 9 by omega) (show 0 ≤ v118_7.toInt by omega) (show v118_7.toInt ≤ 1 by omega) (show 1 ≤ f118_158_4.toInt by omega) (show f118_158_4.toInt ≤ 12 by omega)  hw hT hF c64 (lv_sub hl [0, 1, 2, 3, 4, 5, 6, 7] rfl)
          · have c66 : v118_7.toInt = (1 : Int) := wk_eq.mp c66
            exact J130 v118_5 v118_6 v118_7 f118_158_4 H locs ls w49 (show 0 ≤ a1.toInt by omega) (show a1.toInt ≤ 6 by omega) (show 0 ≤ a2.toInt by omega) (show a2.toInt ≤ 127 by omega) (show 0 ≤ v27_4.toInt by omega) (show v27_4.toInt ≤ 11 by omega) (show 0 ≤ v118_5.toInt by omega) (show v118_5.toInt ≤ 9 by omega) (show 0 ≤ v118_6.toInt by omega) (show v118_6.toInt ≤ 9 by omega) (show 0 ≤ v118_7.toInt by omega) (show v118_7.toInt ≤ 1 by omega) (show 1 ≤ f118_158_4.toInt by omega) (show f118_158_4.toInt ≤ 12 by omega)  hw hT hF c64 (lv_sub hl [0, 1, 2, 3, 4, 5, 6, 7] rfl)
      have J104 : ∀ (v104_5 : Int32) (v104_6 : Int32) (v104_7 : Int32) (f104_158_4 : Int32) (H : Heap) (locs : List Loc) (ls : Array Slot) (w67 : va_W), 0 ≤ a1.toInt → a1.toInt ≤ 6 → 0 ≤ a2.toInt → a2.toInt ≤ 127 → 0 ≤ v27_4.toInt → v27_4.toInt ≤ 11 → 0 ≤ v104_5.toInt → v104_5.toInt ≤ 9 → 0 ≤ v104_6.toInt → v104_6.toInt ≤ 9 → 0 ≤ v104_7.toInt → v104_7.toInt ≤ 1 → 1 ≤ f104_158_4.toInt → f104_158_4.toInt ≤ 12 → Wd dC dI A s.heap H locs w67 → TW ksC ad cy B qr s1 w67 → FE ksC [(51, 0, 10)] w0 w67 → gi w67 158 4 = f104_158_4 → lv_has ls 8 [(0, .ref (ad 158)), (1, .int a1), (2, .int a2), (3, .int (-1)), (4, .int v27_4), (5, .int v104_5), (6, .int v104_6), (7, .int v104_7)] → W p l e ({ frames := 1, cells := 0, slots := 0, locals := 12 }) s m (List.toArray [.ref (ad 158), .int a1, .int a2, .int (-1)]) below meth c H locs 0 0 (MQ below (va_Qv (P_X10_layRoads_37 ad cy B qr s1 a1 a2 w0) (fun u : va_W => wpost dC dI cy A u) A) (List.toArray [.ref (ad 158), .int a1, .int a2, .int (-1)]) s 0 0 A) (F0 m 104 ls []) := by
        intro v104_5 v104_6 v104_7 f104_158_4 H locs ls w67 r68 t69 r70 t71 r72 t73 r74 t75 r76 t77 r78 t79 r80 t81 hw hT hF c82 hl
        refine lv_aload_n hx hb dX10_layRoads_104 rfl (lv_at hl 0 rfl) ?_
        refine tk_getA hC hK hw hT hinX10 kC_at158 (by decide) rfl 3 (by decide) (List.mem_of_getElem? (i := 1) rfl) rfl rfl dX10_layRoads_105 ?_
        refine lv_iload hx hb dX10_layRoads_108 (lv_at hl 5 rfl) ?_
        refine lv_dup2_11 hx hb dX10_layRoads_110 rfl rfl ?_
        refine tk_iald hC hK hw hT kC_at160 rfl rfl (show 0 ≤ v104_5.toInt by omega) (show v104_5.toInt < 10 by omega) dX10_layRoads_111 (fun x83 c84 rx83 tx83 => ?_)
        refine lv_iconst (v := 1) hx hb dX10_layRoads_112 (by decide) ?_
        refine lv_iload hx hb dX10_layRoads_113 (lv_at hl 6 rfl) ?_
        refine lv_ishl hx hb dX10_layRoads_115 ?_
        refine lv_topi (fun x85 ex85 => ?_)
        have bx85 : 1 ≤ x85.toInt ∧ x85.toInt ≤ 512 := by rw [ex85]; exact wk_shl1 9 (by decide) (by omega) (by omega)
        refine lv_ior hx hb dX10_layRoads_116 ?_
        refine lv_topi (fun x86 ex86 => ?_)
        have bx86 : 0 ≤ x86.toInt ∧ x86.toInt < 1024 := by rw [ex86]; exact wk_or 10 (by decide) (by omega) (by omega) (by omega) (by omega)
        refine tk_iast hC hK hw hT kC_at160 (by decide) rfl rfl (show 0 ≤ v104_5.toInt by omega) (show v104_5.toInt < 10 by omega) (show 0 ≤ x86.toInt by omega) (show x86.toInt ≤ 1023 by omega) dX10_layRoads_117 (fun H locs w87 hw hT k89 c88 => ?_)
        have hF := hF.put kC_at160 (inE_of (a := 0) (b := 10) (by decide) (show 0 ≤ v104_5.toInt.toNat by omega) (show v104_5.toInt.toNat ≤ 10 by omega)) k89
        have c90 := k89.gi (Or.inl (tk_ne kC_at158 kC_at160 (by decide))) c82
        exact J118 v104_5 v104_6 v104_7 f104_158_4 H locs ls w87 (show 0 ≤ a1.toInt by omega) (show a1.toInt ≤ 6 by omega) (show 0 ≤ a2.toInt by omega) (show a2.toInt ≤ 127 by omega) (show 0 ≤ v27_4.toInt by omega) (show v27_4.toInt ≤ 11 by omega) (show 0 ≤ v104_5.toInt by omega) (show v104_5.toInt ≤ 9 by omega) (show 0 ≤ v104_6.toInt by omega) (show v104_6.toInt ≤ 9 by omega) (show 0 ≤ v104_7.toInt by omega) (show v104_7.toInt ≤ 1 by omega) (show 1 ≤ f104_158_4.toInt by omega) (show f104_158_4.toInt ≤ 12 by omega)  hw hT hF c90 (lv_sub hl [0, 1, 2, 3, 4, 5, 6, 7] rfl)
      refine lv_iload hx hb dX10_layRoads_27 (lv_at hl 4 rfl) ?_
      refine lv_aload_n hx hb dX10_layRoads_29 rfl (lv_at hl 0 rfl) ?_
      refine tk_geti hC hK hw hT hinX10 kC_at158 (by decide) rfl 4 (by decide) (List.mem_of_getElem? (i := 2) rfl) rfl rfl dX10_layRoads_30 (fun x91 c92 rx91 tx91 => ?_)
      refine lv_icmp_ge (tgt := 150) hx hb dX10_layRoads_33 (by decide) (fun c93 => ?_) (fun c93 => ?_)
      · have c93 : x91.toInt ≤ v27_4.toInt := wk_le.mp c93
        exact tk_vret hC hr hlocks hK ⟨hT, hF, trivial⟩ hw dX10_layRoads_150
      · have c93 : v27_4.toInt < x91.toInt := wk_leF c93
        refine lv_iload hx hb dX10_layRoads_36 (lv_at hl 4 rfl) ?_
        refine lv_iload_n hx hb dX10_layRoads_38 rfl (lv_at hl 3 rfl) ?_
        refine lv_icmp_ne (tgt := 45) hx hb dX10_layRoads_39 (by decide) (fun _ => ?_) (fun c => absurd (show v27_4.toInt = (-1 : Int) from wk_eq.mp c) (by omega))
        refine lv_aload_n hx hb dX10_layRoads_45 rfl (lv_at hl 0 rfl) ?_
        refine tk_getA hC hK hw hT hinX10 kC_at158 (by decide) rfl 1 (by decide) (List.mem_of_getElem? (i := 3) rfl) rfl rfl dX10_layRoads_46 ?_
        refine tk_getO hC hK hw hT hinX7 kC_at39 (by decide) rfl 0 (by decide) (List.mem_of_getElem? (i := 4) rfl) rfl rfl dX10_layRoads_49 ?_
        refine lv_iconst (v := 2) hx hb dX10_layRoads_52 (by decide) ?_
        refine lv_aload_n hx hb dX10_layRoads_53 rfl (lv_at hl 0 rfl) ?_
        refine tk_getA hC hK hw hT hinX10 kC_at158 (by decide) rfl 2 (by decide) (List.mem_of_getElem? (i := 5) rfl) rfl rfl dX10_layRoads_54 ?_
        refine lv_iload hx hb dX10_layRoads_57 (lv_at hl 4 rfl) ?_
        refine tk_iald hC hK hw hT kC_at159 rfl rfl (show 0 ≤ v27_4.toInt by omega) (show v27_4.toInt < 12 by omega) dX10_layRoads_59 (fun x94 c95 rx94 tx94 => ?_)
        refine lv_imul hx hb dX10_layRoads_60 ?_
        refine lv_topi (fun x96 ex96 => ?_)
        have ex96 : x96.toInt = (2 : Int) * x94.toInt := by rw [ex96]; exact wk_mul (show (-2147483648) ≤ (2 : Int) * x94.toInt by omega) (show (2 : Int) * x94.toInt ≤ 2147483647 by omega)
        refine tk_iald hC hK hw hT kC_at40 rfl rfl (show 0 ≤ x96.toInt by omega) (show x96.toInt < 26 by omega) dX10_layRoads_61 (fun x97 c98 rx97 tx97 => ?_)
        refine lv_istore (lv' := [(5, .int x97), (0, .ref (ad 158)), (1, .int a1), (2, .int a2), (3, .int (-1)), (4, .int v27_4)]) hx hb dX10_layRoads_62 hl (by decide) rfl (fun ls hl => ?_)
        refine lv_aload_n hx hb dX10_layRoads_64 rfl (lv_at hl 1 rfl) ?_
        refine tk_getA hC hK hw hT hinX10 kC_at158 (by decide) rfl 1 (by decide) (List.mem_of_getElem? (i := 3) rfl) rfl rfl dX10_layRoads_65 ?_
        refine tk_getO hC hK hw hT hinX7 kC_at39 (by decide) rfl 0 (by decide) (List.mem_of_getElem? (i := 4) rfl) rfl rfl dX10_layRoads_68 ?_
        refine lv_iconst (v := 2) hx hb dX10_layRoads_71 (by decide) ?_
        refine lv_aload_n hx hb dX10_layRoads_72 rfl (lv_at hl 1 rfl) ?_
        refine tk_getA hC hK hw hT hinX10 kC_at158 (by decide) rfl 2 (by decide) (List.mem_of_getElem? (i := 5) rfl) rfl rfl dX10_layRoads_73 ?_
        refine lv_iload hx hb dX10_layRoads_76 (lv_at hl 5 rfl) ?_
        refine tk_iald hC hK hw hT kC_at159 rfl rfl (show 0 ≤ v27_4.toInt by omega) (show v27_4.toInt < 12 by omega) dX10_layRoads_78 (fun x99 c100 rx99 tx99 => ?_)
        refine lv_imul hx hb dX10_layRoads_79 ?_
        refine lv_topi (fun x101 ex101 => ?_)
        have ex101 : x101.toInt = (2 : Int) * x99.toInt := by rw [ex101]; exact wk_mul (show (-2147483648) ≤ (2 : Int) * x99.toInt by omega) (show (2 : Int) * x99.toInt ≤ 2147483647 by omega)
        refine lv_iconst (v := 1) hx hb dX10_layRoads_80 (by decide) ?_
        refine lv_iadd hx hb dX10_layRoads_81 ?_
        refine lv_topi (fun x102 ex102 => ?_)
        have ex102 : x102.toInt = x101.toInt + (1 : Int) := by rw [ex102]; exact wk_add (show (-2147483648) ≤ x101.toInt + (1 : Int) by omega) (show x101.toInt + (1 : Int) ≤ 2147483647 by omega)
        refine tk_iald hC hK hw hT kC_at40 rfl rfl (show 0 ≤ x102.toInt by omega) (show x102.toInt < 26 by omega) dX10_layRoads_82 (fun x103 c104 rx103 tx103 => ?_)
        refine lv_istore (lv' := [(6, .int x103), (5, .int x97), (0, .ref (ad 158)), (1, .int a1), (2, .int a2), (3, .int (-1)), (4, .int v27_4)]) hx hb dX10_layRoads_83 hl (by decide) rfl (fun ls hl => ?_)
        refine lv_iload_n hx hb dX10_layRoads_85 rfl (lv_at hl 4 rfl) ?_
        refine lv_iload hx hb dX10_layRoads_86 (lv_at hl 6 rfl) ?_
        refine lv_ishr hx hb dX10_layRoads_88 ?_
        refine lv_topi (fun x105 ex105 => ?_)
        have bx105 : 0 ≤ x105.toInt ∧ x105.toInt ≤ a2.toInt := by rw [ex105]; exact wk_shr (by omega)
        refine lv_iconst (v := 1) hx hb dX10_layRoads_89 (by decide) ?_
        refine lv_iand hx hb dX10_layRoads_90 ?_
        refine lv_topi (fun x106 ex106 => ?_)
        have bx106 : 0 ≤ x106.toInt ∧ x106.toInt ≤ (1 : Int) := by rw [ex106]; exact wk_and (by decide)
        refine lv_istore (lv' := [(7, .int x106), (6, .int x103), (5, .int x97), (0, .ref (ad 158)), (1, .int a1), (2, .int a2), (3, .int (-1)), (4, .int v27_4)]) hx hb dX10_layRoads_91 hl (by decide) rfl (fun ls hl => ?_)
        refine lv_iload hx hb dX10_layRoads_93 (lv_at hl 7 rfl) ?_
        refine lv_iload_n hx hb dX10_layRoads_95 rfl (lv_at hl 4 rfl) ?_
        refine lv_icmp_lt (tgt := 104) hx hb dX10_layRoads_96 (by decide) (fun c107 => ?_) (fun c107 => ?_)
        · have c107 : v27_4.toInt < a1.toInt := wk_lt.mp c107
          exact J104 x97 x103 x106 x91 H locs ls w1 (show 0 ≤ a1.toInt by omega) (show a1.toInt ≤ 6 by omega) (show 0 ≤ a2.toInt by omega) (show a2.toInt ≤ 127 by omega) (show 0 ≤ v27_4.toInt by omega) (show v27_4.toInt ≤ 11 by omega) (show 0 ≤ x97.toInt by omega) (show x97.toInt ≤ 9 by omega) (show 0 ≤ x103.toInt by omega) (show x103.toInt ≤ 9 by omega) (show 0 ≤ x106.toInt by omega) (show x106.toInt ≤ 1 by omega) (show 1 ≤ x91.toInt by omega) (show x91.toInt ≤ 12 by omega)  hw hT hF c92 (lv_sub hl [3, 4, 5, 6, 7, 2, 1, 0] rfl)
        · have c107 : a1.toInt ≤ v27_4.toInt := wk_ltF c107
          refine lv_iload hx hb dX10_layRoads_99 (lv_at hl 0 rfl) ?_
          refine lv_if_ne (tgt := 118) hx hb dX10_layRoads_101 (by decide) (fun c108 => ?_) (fun c108 => ?_)
          · have c108 : ¬ x106.toInt = (0 : Int) := wk_eqF c108
            exact J118 x97 x103 x106 x91 H locs ls w1 (show 0 ≤ a1.toInt by omega) (show a1.toInt ≤ 6 by omega) (show 0 ≤ a2.toInt by omega) (show a2.toInt ≤ 127 by omega) (show 0 ≤ v27_4.toInt by omega) (show v27_4.toInt ≤ 11 by omega) (show 0 ≤ x97.toInt by omega) (show x97.toInt ≤ 9 by omega) (show 0 ≤ x103.toInt by omega) (show x103.toInt ≤ 9 by omega) (show 0 ≤ x106.toInt by omega) (show x106.toInt ≤ 1 by omega) (show 1 ≤ x91.toInt by omega) (show x91.toInt ≤ 12 by omega)  hw hT hF c92 (lv_sub hl [3, 4, 5, 6, 7, 2, 1, 0] rfl)
          · have c108 : x106.toInt = (0 : Int) := wk_eq.mp c108
            exact J104 x97 x103 x106 x91 H locs ls w1 (show 0 ≤ a1.toInt by omega) (show a1.toInt ≤ 6 by omega) (show 0 ≤ a2.toInt by omega) (show a2.toInt ≤ 127 by omega) (show 0 ≤ v27_4.toInt by omega) (show v27_4.toInt ≤ 11 by omega) (show 0 ≤ x97.toInt by omega) (show x97.toInt ≤ 9 by omega) (show 0 ≤ x103.toInt by omega) (show x103.toInt ≤ 9 by omega) (show 0 ≤ x106.toInt by omega) (show x106.toInt ≤ 1 by omega) (show 1 ≤ x91.toInt by omega) (show x91.toInt ≤ 12 by omega)  hw hT hF c92 (lv_sub hl [3, 4, 5, 6, 7, 2, 1, 0] rfl)
  have L3 : ∀ (n3 : Nat) (v3_4 : Int32) (H : Heap) (locs : List Loc) (ls : Array Slot) (w109 : va_W), 0 ≤ a1.toInt → a1.toInt ≤ 6 → 0 ≤ a2.toInt → a2.toInt ≤ 127 → 0 ≤ v3_4.toInt → v3_4.toInt ≤ 10 → (10 - v3_4.toInt).toNat < n3 → Wd dC dI A s.heap H locs w109 → TW ksC ad cy B qr s1 w109 → FE ksC [(51, 0, 10)] w0 w109 → lv_has ls 8 [(0, .ref (ad 158)), (1, .int a1), (2, .int a2), (3, .int (-1)), (4, .int v3_4)] → W p l e ({ frames := 1, cells := 0, slots := 0, locals := 12 }) s m (List.toArray [.ref (ad 158), .int a1, .int a2, .int (-1)]) below meth c H locs 0 0 (MQ below (va_Qv (P_X10_layRoads_37 ad cy B qr s1 a1 a2 w0) (fun u : va_W => wpost dC dI cy A u) A) (List.toArray [.ref (ad 158), .int a1, .int a2, .int (-1)]) s 0 0 A) (F0 m 3 ls []) := by
    intro n3
    induction n3 with
    | zero => intro v3_4 H locs ls w109 r110 t111 r112 t113 r114 t115 hm3 hw hT hF hl; omega
    | succ n3 ih3 =>
      intro v3_4 H locs ls w109 r110 t111 r112 t113 r114 t115 hm3 hw hT hF hl
      refine lv_iload hx hb dX10_layRoads_3 (lv_at hl 4 rfl) ?_
      refine lv_bipush (v := 10) hx hb dX10_layRoads_5 (by decide) ?_
      refine lv_icmp_ge (tgt := 24) hx hb dX10_layRoads_7 (by decide) (fun c116 => ?_) (fun c116 => ?_)
      · have c116 : (10 : Int) ≤ v3_4.toInt := wk_le.mp c116
        refine lv_iconst (v := 0) hx hb dX10_layRoads_24 (by decide) ?_
        refine lv_istore (lv' := [(4, .int 0), (0, .ref (ad 158)), (1, .int a1), (2, .int a2), (3, .int (-1))]) hx hb dX10_layRoads_25 hl (by decide) rfl (fun ls hl => ?_)
        exact L27 ((12 - (0 : Int)).toNat + 1) 0 H locs ls w109 (show 0 ≤ a1.toInt by omega) (show a1.toInt ≤ 6 by omega) (show 0 ≤ a2.toInt by omega) (show a2.toInt ≤ 127 by omega) (by decide) (by decide) (Nat.lt_succ_self _) hw hT hF  (lv_sub hl [1, 2, 3, 4, 0] rfl)
      · have c116 : v3_4.toInt < (10 : Int) := wk_leF c116
        refine lv_aload_n hx hb dX10_layRoads_10 rfl (lv_at hl 0 rfl) ?_
        refine tk_getA hC hK hw hT hinX10 kC_at158 (by decide) rfl 3 (by decide) (List.mem_of_getElem? (i := 1) rfl) rfl rfl dX10_layRoads_11 ?_
        refine lv_iload hx hb dX10_layRoads_14 (lv_at hl 4 rfl) ?_
        refine lv_iconst (v := 0) hx hb dX10_layRoads_16 (by decide) ?_
        refine tk_iast hC hK hw hT kC_at160 (by decide) rfl rfl (show 0 ≤ v3_4.toInt by omega) (show v3_4.toInt < 10 by omega) (by decide) (by decide) dX10_layRoads_17 (fun H locs w117 hw hT k119 c118 => ?_)
        have hF := hF.put kC_at160 (inE_of (a := 0) (b := 10) (by decide) (show 0 ≤ v3_4.toInt.toNat by omega) (show v3_4.toInt.toNat ≤ 10 by omega)) k119
        obtain ⟨x120, ex120⟩ : ∃ y : Int32, y = v3_4 + Int32.ofInt 1 := ⟨_, rfl⟩
        refine lv_iinc (v := x120) (lv' := [(4, .int x120), (0, .ref (ad 158)), (1, .int a1), (2, .int a2), (3, .int (-1))]) hx hb dX10_layRoads_18 hl (k := 4) rfl ex120.symm (by decide) rfl (fun ls hl => ?_)
        have ex120 : x120.toInt = v3_4.toInt + 1 := by rw [ex120]; exact wk_add (y := 1) (show -2147483648 ≤ v3_4.toInt + 1 by omega) (show v3_4.toInt + 1 ≤ 2147483647 by omega)
        refine lv_goto (tgt := 3) hx hb dX10_layRoads_21 (by decide) ?_
        exact ih3 x120 H locs ls w117 (show 0 ≤ a1.toInt by omega) (show a1.toInt ≤ 6 by omega) (show 0 ≤ a2.toInt by omega) (show a2.toInt ≤ 127 by omega) (show 0 ≤ x120.toInt by omega) (show x120.toInt ≤ 10 by omega) (show (10 - x120.toInt).toNat < n3 by omega) hw hT hF  (lv_sub hl [1, 2, 3, 4, 0] rfl)
  refine lv_iconst (v := 0) hx hb dX10_layRoads_0 (by decide) ?_
  refine lv_istore (lv' := [(4, .int 0), (0, .ref (ad 158)), (1, .int a1), (2, .int a2), (3, .int (-1))]) hx hb dX10_layRoads_1 hl (by decide) rfl (fun ls hl => ?_)
  exact L3 ((10 - (0 : Int)).toNat + 1) 0 s.heap locs ls w0 (show 0 ≤ a1.toInt by omega) (show a1.toInt ≤ 6 by omega) (show 0 ≤ a2.toInt by omega) (show a2.toInt ≤ 127 by omega) (by decide) (by decide) (Nat.lt_succ_self _) hw hT hF  (lv_sub hl [1, 2, 3, 4, 0] rfl)
abbrev P_X10_leastBelow_35 (ad : Nat → Nat) (cy : Nat → ClassId) (B : Int) (qr : Nat) (s1 : Int) (a1 : Int32) (a2 : Int32) (w0 : va_W) : Int32 → va_W → Prop := fun r u => TW ksC ad cy B qr s1 u ∧ FE ksC [(51, 0, 10)] w0 u ∧ ((0 ≤ r.toInt ∧ r.toInt ≤ 127) ∨ (r = (-1) ∧ (∃ y : Int32, gi u 38 10 = y ∧ 1 ≤ y.toInt ∧ y.toInt ≤ 6)))
set_option maxHeartbeats 4000000 in
set_option maxRecDepth 100000 in
theorem k_X10_leastBelow_35 (l : Launch) (adK adV : Nat → Nat) (dC : Nat → ClassId) (dI : Nat → Nat → Nat) (cy : Nat → ClassId) (ad : Nat → Nat) (B : Int) (hB0 : 2147483648 ≤ B) (hB1 : B ≤ 1152921504606846976) (qr : Nat) (s1 : Int)  (a1 : Int32) (ra1 : 0 ≤ a1.toInt) (ta1 : a1.toInt ≤ 6) (a2 : Int32) (ra2 : 0 ≤ a2.toInt) (ta2 : a2.toInt ≤ 127) (w0 : va_W) (sz : Nat) (hT : TW ksC ad cy B qr s1 w0)  : Met l yX10_leastBelow wsX10_leastBelow ({ frames := 9, cells := 0, slots := 0, locals := 197 }) (va_Pc [.ref (ad 158), .int a1, .int a2] (wpreS adK adV dC dI cy sz w0)) (va_Qi (P_X10_leastBelow_35 ad cy B qr s1 a1 a2 w0) (fun u : va_W => wpost dC dI cy (va_A w0 sz) u) (va_A w0 sz)) 0 0 (va_A w0 sz) := by
  refine Met.ofW (cc := cX10_leastBelow) (maxL := 4) (ret := (some .int)) (by decide) rfl ?_
  intro p e s m args below meth c s₁ Bk hml hv
  obtain ⟨rfl, ⟨hsz, hP, hK, hD0⟩, hE, hSR⟩ := hv
  have hx := Bk.exec
  have hb := Bk.bytes
  have hr := Bk.returns
  have hlocks := Bk.notSynchronized
  have hC : CallFix p m c cX10_leastBelow 4 s _ wsX10_leastBelow RX10 := ⟨hx, hb, hml, findClass_of_methodNamed Bk.named, atoms_spec (ws := wsX10_leastBelow) Bk.pre⟩
  subst hsz
  have hD := hD0.self (sz := s.heap.size)
  generalize hAe : va_A w0 s.heap.size = A at hD hE ⊢
  have hA : ∀ q : Nat, s.heap.size ≤ q → A q := fun q h => by rw [← hAe]; exact Or.inr h
  have hw : Wd dC dI A s.heap s.heap [] w0 := ⟨hP, hD, va_S.rf⟩
  have hF : FE ksC [(51, 0, 10)] w0 w0 := FE.rf
  have hl := lv_entry ([.ref (ad 158), .int a1, .int a2]) (n := 4) (Nat.le_of_ble_eq_true rfl)
  rw [lg_entry_eq]
  generalize (lg_sl ([.ref (ad 158), .int a1, .int a2]) ++ List.replicate (4 - (lg_sl ([.ref (ad 158), .int a1, .int a2])).length) Slot.unset).toArray = ls at hl ⊢
  have hl : lv_has ls 4 [(0, .ref (ad 158)), (1, .int a1), (2, .int a2)] := hl
  generalize hloc : ([] : List Loc) = locs at hw ⊢
  have hinX10 : ∀ w ∈ u_ws RX10 TX10 5, w ∈ wsX10_leastBelow := fun _ h => List.mem_cons_of_mem _ (List.mem_append_left _ (List.mem_append_left _ (List.mem_append_right _ (h))))
  have hinX5 : ∀ w ∈ u_ws RX5 TX5 14, w ∈ wsX10_leastBelow := fun _ h => List.mem_cons_of_mem _ (List.mem_append_left _ (List.mem_append_right _ (h)))
  have L9 : ∀ (n9 : Nat) (v9_3 : Int32) (H : Heap) (locs : List Loc) (ls : Array Slot) (w1 : va_W), 0 ≤ a1.toInt → a1.toInt ≤ 6 → 0 ≤ a2.toInt → a2.toInt ≤ 127 → 0 ≤ v9_3.toInt → v9_3.toInt ≤ 6 → (6 - v9_3.toInt).toNat < n9 → Wd dC dI A s.heap H locs w1 → TW ksC ad cy B qr s1 w1 → FE ksC [(51, 0, 10)] w0 w1 → lv_has ls 4 [(0, .ref (ad 158)), (1, .int a1), (2, .int a2), (3, .int v9_3)] → W p l e ({ frames := 9, cells := 0, slots := 0, locals := 197 }) s m (List.toArray [.ref (ad 158), .int a1, .int a2]) below meth c H locs 0 0 (MQ below (va_Qi (P_X10_leastBelow_35 ad cy B qr s1 a1 a2 w0) (fun u : va_W => wpost dC dI cy A u) A) (List.toArray [.ref (ad 158), .int a1, .int a2]) s 0 0 A) (F0 m 9 ls []) := by
    intro n9
    induction n9 with
    | zero => intro v9_3 H locs ls w1 r2 t3 r4 t5 r6 t7 hm9 hw hT hF hl; omega
    | succ n9 ih9 =>
      intro v9_3 H locs ls w1 r2 t3 r4 t5 r6 t7 hm9 hw hT hF hl
      refine lv_iload_n hx hb dX10_leastBelow_9 rfl (lv_at hl 3 rfl) ?_
      refine lv_aload_n hx hb dX10_leastBelow_10 rfl (lv_at hl 0 rfl) ?_
      refine tk_getA hC hK hw hT hinX10 kC_at158 (by decide) rfl 0 (by decide) (List.mem_of_getElem? (i := 1) rfl) rfl rfl dX10_leastBelow_11 ?_
      refine tk_geti hC hK hw hT hinX5 kC_at38 (by decide) rfl 10 (by decide) (List.mem_of_getElem? (i := 2) rfl) rfl rfl dX10_leastBelow_14 (fun x8 c9 rx8 tx8 => ?_)
      refine lv_icmp_ge (tgt := 36) hx hb dX10_leastBelow_17 (by decide) (fun c10 => ?_) (fun c10 => ?_)
      · have c10 : x8.toInt ≤ v9_3.toInt := wk_le.mp c10
        refine lv_iload_n hx hb dX10_leastBelow_36 rfl (lv_at hl 1 rfl) ?_
        refine lv_if_gt (tgt := 42) hx hb dX10_leastBelow_37 (by decide) (fun c11 => ?_) (fun c11 => ?_)
        · have c11 : (0 : Int) < a1.toInt := wk_lt.mp c11
          refine lv_aload_n hx hb dX10_leastBelow_42 rfl (lv_at hl 0 rfl) ?_
          refine lv_iload_n hx hb dX10_leastBelow_43 rfl (lv_at hl 1 rfl) ?_
          refine lv_iconst (v := 1) hx hb dX10_leastBelow_44 (by decide) ?_
          refine lv_isub hx hb dX10_leastBelow_45 ?_
          refine lv_topi (fun x12 ex12 => ?_)
          have ex12 : x12.toInt = a1.toInt - (1 : Int) := by rw [ex12]; exact wk_sub (show (-2147483648) ≤ a1.toInt - (1 : Int) by omega) (show a1.toInt - (1 : Int) ≤ 2147483647 by omega)
          refine lv_iload_n hx hb dX10_leastBelow_46 rfl (lv_at hl 2 rfl) ?_
          refine tk_Vi hC hK hw hT hA hE hSR kC_at158 (by decide) rfl (k_X10_leastBelow_36 l adK adV dC dI cy ad B (by omega) (by omega) qr s1   x12 (show 0 ≤ x12.toInt by omega) (show x12.toInt ≤ 5 by omega) a2 (show 0 ≤ a2.toInt by omega) (show a2.toInt ≤ 127 by omega) w1 H.size hT ) (cwV 2 hC.2.2.2.2 gX10_leastBelow_X10_leastBelow rfl rfl rfl (by decide +kernel) ⟨Nat.le_of_ble_eq_true rfl, Nat.le_of_ble_eq_true rfl⟩) rfl hl.1 rfl (Nat.le_of_ble_eq_true rfl) dX10_leastBelow_47 (fun r13 w15 H locs hp14 hw => ?_)
          obtain ⟨hT, k16, hg21⟩ := hp14
          have hF := hF.tr k16 (by decide)
          have c22 := k16.gi kC_at38 (by decide) c9
          rcases hg21 with ⟨g17, g18⟩ | ⟨rfl, ⟨x19, c20, rx19, tx19⟩⟩
          · refine lv_istore_n (lv' := [(3, .int r13), (0, .ref (ad 158)), (1, .int a1), (2, .int a2)]) hx hb dX10_leastBelow_50 rfl hl (by decide) rfl (fun ls hl => ?_)
            refine lv_iload_n hx hb dX10_leastBelow_51 rfl (lv_at hl 0 rfl) ?_
            refine lv_iconst (v := (-1)) hx hb dX10_leastBelow_52 (by decide) ?_
            refine lv_icmp_eq (tgt := 60) hx hb dX10_leastBelow_53 (by decide) (fun c => absurd c (fun h => absurd (show r13.toInt = (-1 : Int) from wk_eq.mp h) (by omega))) (fun _ => ?_)
            refine lv_iload_n hx hb dX10_leastBelow_56 rfl (lv_at hl 0 rfl) ?_
            refine lv_goto (tgt := 74) hx hb dX10_leastBelow_57 (by decide) ?_
            exact tk_iret hC hr hlocks hK ⟨hT, hF, (Or.inl ⟨(show 0 ≤ r13.toInt by omega), (show r13.toInt ≤ 127 by omega)⟩)⟩ hw dX10_leastBelow_74
          · have ex19 : x19.toInt = x8.toInt := by rw [← c22.symm.trans c20]
            refine lv_istore_n (lv' := [(3, .int (-1)), (0, .ref (ad 158)), (1, .int a1), (2, .int a2)]) hx hb dX10_leastBelow_50 rfl hl (by decide) rfl (fun ls hl => ?_)
            refine lv_iload_n hx hb dX10_leastBelow_51 rfl (lv_at hl 0 rfl) ?_
            refine lv_iconst (v := (-1)) hx hb dX10_leastBelow_52 (by decide) ?_
            refine lv_icmp_eq (tgt := 60) hx hb dX10_leastBelow_53 (by decide) (fun _ => ?_) (fun c => absurd (by decide) c)
            refine lv_aload_n hx hb dX10_leastBelow_60 rfl (lv_at hl 1 rfl) ?_
            refine lv_iload_n hx hb dX10_leastBelow_61 rfl (lv_at hl 2 rfl) ?_
            refine lv_iconst (v := 1) hx hb dX10_leastBelow_62 (by decide) ?_
            refine lv_isub hx hb dX10_leastBelow_63 ?_
            refine lv_topi (fun x23 ex23 => ?_)
            have ex23 : x23.toInt = a1.toInt - (1 : Int) := by rw [ex23]; exact wk_sub (show (-2147483648) ≤ a1.toInt - (1 : Int) by omega) (show a1.toInt - (1 : Int) ≤ 2147483647 by omega)
            refine lv_iload_n hx hb dX10_leastBelow_64 rfl (lv_at hl 3 rfl) ?_
            refine lv_iconst (v := 1) hx hb dX10_leastBelow_65 (by decide) ?_
            refine lv_iload_n hx hb dX10_leastBelow_66 rfl (lv_at hl 2 rfl) ?_
            refine lv_iconst (v := 1) hx hb dX10_leastBelow_67 (by decide) ?_
            refine lv_isub hx hb dX10_leastBelow_68 ?_
            refine lv_topi (fun x24 ex24 => ?_)
            have ex24 : x24.toInt = a1.toInt - (1 : Int) := by rw [ex24]; exact wk_sub (show (-2147483648) ≤ a1.toInt - (1 : Int) by omega) (show a1.toInt - (1 : Int) ≤ 2147483647 by omega)
            refine lv_ishl hx hb dX10_leastBelow_69 ?_
            refine lv_topi (fun x25 ex25 => ?_)
            have bx25 : 1 ≤ x25.toInt ∧ x25.toInt ≤ 32 := by rw [ex25]; exact wk_shl1 5 (by decide) (by omega) (by omega)
            refine lv_ior hx hb dX10_leastBelow_70 ?_
            refine lv_topi (fun x26 ex26 => ?_)
            have bx26 : 0 ≤ x26.toInt ∧ x26.toInt < 128 := by rw [ex26]; exact wk_or 7 (by decide) (by omega) (by omega) (by omega) (by omega)
            refine tk_Vi hC hK hw hT hA hE hSR kC_at158 (by decide) rfl (k_X10_leastBelow_36 l adK adV dC dI cy ad B (by omega) (by omega) qr s1   x23 (show 0 ≤ x23.toInt by omega) (show x23.toInt ≤ 5 by omega) x26 (show 0 ≤ x26.toInt by omega) (show x26.toInt ≤ 127 by omega) w15 H.size hT ) (cwV 2 hC.2.2.2.2 gX10_leastBelow_X10_leastBelow rfl rfl rfl (by decide +kernel) ⟨Nat.le_of_ble_eq_true rfl, Nat.le_of_ble_eq_true rfl⟩) rfl hl.1 rfl (Nat.le_of_ble_eq_true rfl) dX10_leastBelow_71 (fun r27 w29 H locs hp28 hw => ?_)
            obtain ⟨hT, k30, hg35⟩ := hp28
            have hF := hF.tr k30 (by decide)
            have c36 := k30.gi kC_at38 (by decide) c22
            rcases hg35 with ⟨g31, g32⟩ | ⟨rfl, ⟨x33, c34, rx33, tx33⟩⟩
            · exact tk_iret hC hr hlocks hK ⟨hT, hF, (Or.inl ⟨(show 0 ≤ r27.toInt by omega), (show r27.toInt ≤ 127 by omega)⟩)⟩ hw dX10_leastBelow_74
            · have ex33 : x33.toInt = x8.toInt := by rw [← c36.symm.trans c34]
              exact tk_iret hC hr hlocks hK ⟨hT, hF, (Or.inr ⟨rfl, ⟨x8, c36, (show 1 ≤ x8.toInt by omega), (show x8.toInt ≤ 6 by omega)⟩⟩)⟩ hw dX10_leastBelow_74
        · have c11 : a1.toInt ≤ (0 : Int) := wk_ltF c11
          refine lv_iload_n hx hb dX10_leastBelow_40 rfl (lv_at hl 2 rfl) ?_
          exact tk_iret hC hr hlocks hK ⟨hT, hF, (Or.inl ⟨(show 0 ≤ a2.toInt by omega), (show a2.toInt ≤ 127 by omega)⟩)⟩ hw dX10_leastBelow_41
      · have c10 : v9_3.toInt < x8.toInt := wk_leF c10
        refine lv_aload_n hx hb dX10_leastBelow_20 rfl (lv_at hl 0 rfl) ?_
        refine lv_iload_n hx hb dX10_leastBelow_21 rfl (lv_at hl 3 rfl) ?_
        refine tk_Vi hC hK hw hT hA hE hSR kC_at158 (by decide) rfl (k_X10_canDo_1 l adK adV dC dI cy ad B (by omega) (by omega) qr s1   v9_3 (show 0 ≤ v9_3.toInt by omega) (show v9_3.toInt ≤ 5 by omega) w1 H.size hT ) (cwV 1 hC.2.2.2.2 gX10_leastBelow_X10_canDo rfl rfl rfl (by decide +kernel) ⟨Nat.le_of_ble_eq_true rfl, Nat.le_of_ble_eq_true rfl⟩) rfl hl.1 rfl (Nat.le_of_ble_eq_true rfl) dX10_leastBelow_22 (fun r37 w39 H locs hp38 hw => ?_)
        obtain ⟨hT, k40, hg41⟩ := hp38
        have hF := hF.tr k40 (by decide)
        have c42 := k40.gi kC_at38 (by decide) c9
        rcases hg41 with rfl | rfl
        · refine lv_if_ne (tgt := 30) hx hb dX10_leastBelow_25 (by decide) (fun c => absurd (by decide) c) (fun _ => ?_)
          refine lv_iconst (v := (-1)) hx hb dX10_leastBelow_28 (by decide) ?_
          exact tk_iret hC hr hlocks hK ⟨hT, hF, (Or.inr ⟨rfl, ⟨x8, c42, (show 1 ≤ x8.toInt by omega), (show x8.toInt ≤ 6 by omega)⟩⟩)⟩ hw dX10_leastBelow_29
        · refine lv_if_ne (tgt := 30) hx hb dX10_leastBelow_25 (by decide) (fun _ => ?_) (fun c => absurd c (by decide))
          obtain ⟨x43, ex43⟩ : ∃ y : Int32, y = v9_3 + Int32.ofInt 1 := ⟨_, rfl⟩
          refine lv_iinc (v := x43) (lv' := [(3, .int x43), (0, .ref (ad 158)), (1, .int a1), (2, .int a2)]) hx hb dX10_leastBelow_30 hl (k := 3) rfl ex43.symm (by decide) rfl (fun ls hl => ?_)
          have ex43 : x43.toInt = v9_3.toInt + 1 := by rw [ex43]; exact wk_add (y := 1) (show -2147483648 ≤ v9_3.toInt + 1 by omega) (show v9_3.toInt + 1 ≤ 2147483647 by omega)
          refine lv_goto (tgt := 9) hx hb dX10_leastBelow_33 (by decide) ?_
          exact ih9 x43 H locs ls w39 (show 0 ≤ a1.toInt by omega) (show a1.toInt ≤ 6 by omega) (show 0 ≤ a2.toInt by omega) (show a2.toInt ≤ 127 by omega) (show 0 ≤ x43.toInt by omega) (show x43.toInt ≤ 6 by omega) (show (6 - x43.toInt).toNat < n9 by omega) hw hT hF  (lv_sub hl [1, 2, 3, 0] rfl)
  refine lv_aload_n hx hb dX10_leastBelow_0 rfl (lv_at hl 0 rfl) ?_
  refine lv_iload_n hx hb dX10_leastBelow_1 rfl (lv_at hl 1 rfl) ?_
  refine lv_iload_n hx hb dX10_leastBelow_2 rfl (lv_at hl 2 rfl) ?_
  refine lv_iconst (v := (-1)) hx hb dX10_leastBelow_3 (by decide) ?_
  refine tk_Vv hC hK hw hT hA hE hSR kC_at158 (by decide) rfl (k_X10_layRoads_37 l adK adV dC dI cy ad B (by omega) (by omega) qr s1   a1 (show 0 ≤ a1.toInt by omega) (show a1.toInt ≤ 6 by omega) a2 (show 0 ≤ a2.toInt by omega) (show a2.toInt ≤ 127 by omega) w0 s.heap.size hT ) (cwV 3 hC.2.2.2.2 gX10_leastBelow_X10_layRoads rfl rfl rfl (by decide +kernel) ⟨Nat.le_of_ble_eq_true rfl, Nat.le_of_ble_eq_true rfl⟩) rfl hl.1 rfl (Nat.le_of_ble_eq_true rfl) dX10_leastBelow_4 (fun w46 H locs hp45 hw => ?_)
  obtain ⟨hT, k47, hg48⟩ := hp45
  have hF := hF.tr k47 (by decide)
  clear hg48
  refine lv_iconst (v := 0) hx hb dX10_leastBelow_7 (by decide) ?_
  refine lv_istore_n (lv' := [(3, .int 0), (0, .ref (ad 158)), (1, .int a1), (2, .int a2)]) hx hb dX10_leastBelow_8 rfl hl (by decide) rfl (fun ls hl => ?_)
  exact L9 ((6 - (0 : Int)).toNat + 1) 0 H locs ls w46 (show 0 ≤ a1.toInt by omega) (show a1.toInt ≤ 6 by omega) (show 0 ≤ a2.toInt by omega) (show a2.toInt ≤ 127 by omega) (by decide) (by decide) (Nat.lt_succ_self _) hw hT hF  (lv_sub hl [1, 2, 3, 0] rfl)
abbrev P_X10_layRoads_38 (ad : Nat → Nat) (cy : Nat → ClassId) (B : Int) (qr : Nat) (s1 : Int) (a1 : Int32) (w0 : va_W) : va_W → Prop := fun u => TW ksC ad cy B qr s1 u ∧ FE ksC [(51, 0, 10)] w0 u ∧ ((True))
set_option maxHeartbeats 4000000 in
set_option maxRecDepth 100000 in
theorem k_X10_layRoads_38 (l : Launch) (adK adV : Nat → Nat) (dC : Nat → ClassId) (dI : Nat → Nat → Nat) (cy : Nat → ClassId) (ad : Nat → Nat) (B : Int) (hB0 : 2147483648 ≤ B) (hB1 : B ≤ 1152921504606846976) (qr : Nat) (s1 : Int)  (a1 : Int32) (ra1 : 0 ≤ a1.toInt) (ta1 : a1.toInt ≤ 7) (w0 : va_W) (sz : Nat) (hT : TW ksC ad cy B qr s1 w0)  : Met l yX10_layRoads wsX10_layRoads ({ frames := 1, cells := 0, slots := 0, locals := 12 }) (va_Pc [.ref (ad 158), .int a1, .int 0, .int (-1)] (wpreS adK adV dC dI cy sz w0)) (va_Qv (P_X10_layRoads_38 ad cy B qr s1 a1 w0) (fun u : va_W => wpost dC dI cy (va_A w0 sz) u) (va_A w0 sz)) 0 0 (va_A w0 sz) := by
  refine Met.ofW (cc := cX10_layRoads) (maxL := 8) (ret := none) (by decide) rfl ?_
  intro p e s m args below meth c s₁ Bk hml hv
  obtain ⟨rfl, ⟨hsz, hP, hK, hD0⟩, hE, hSR⟩ := hv
  have hx := Bk.exec
  have hb := Bk.bytes
  have hr := Bk.returns
  have hlocks := Bk.notSynchronized
  have hC : CallFix p m c cX10_layRoads 8 s _ wsX10_layRoads RX10 := ⟨hx, hb, hml, findClass_of_methodNamed Bk.named, atoms_spec (ws := wsX10_layRoads) Bk.pre⟩
  subst hsz
  have hD := hD0.self (sz := s.heap.size)
  generalize hAe : va_A w0 s.heap.size = A at hD hE ⊢
  have hA : ∀ q : Nat, s.heap.size ≤ q → A q := fun q h => by rw [← hAe]; exact Or.inr h
  have hw : Wd dC dI A s.heap s.heap [] w0 := ⟨hP, hD, va_S.rf⟩
  have hF : FE ksC [(51, 0, 10)] w0 w0 := FE.rf
  have hl := lv_entry ([.ref (ad 158), .int a1, .int 0, .int (-1)]) (n := 8) (Nat.le_of_ble_eq_true rfl)
  rw [lg_entry_eq]
  generalize (lg_sl ([.ref (ad 158), .int a1, .int 0, .int (-1)]) ++ List.replicate (8 - (lg_sl ([.ref (ad 158), .int a1, .int 0, .int (-1)])).length) Slot.unset).toArray = ls at hl ⊢
  have hl : lv_has ls 8 [(0, .ref (ad 158)), (1, .int a1), (2, .int 0), (3, .int (-1))] := hl
  generalize hloc : ([] : List Loc) = locs at hw ⊢
  have hinX10 : ∀ w ∈ u_ws RX10 TX10 5, w ∈ wsX10_layRoads := fun _ h => List.mem_cons_of_mem _ (List.mem_append_left _ (List.mem_append_right _ (h)))
  have hinX7 : ∀ w ∈ u_ws RX7 TX7 12, w ∈ wsX10_layRoads := fun _ h => List.mem_cons_of_mem _ (List.mem_append_right _ (h))
  have L27 : ∀ (n27 : Nat) (v27_4 : Int32) (H : Heap) (locs : List Loc) (ls : Array Slot) (w1 : va_W), 0 ≤ a1.toInt → a1.toInt ≤ 7 → 0 ≤ v27_4.toInt → v27_4.toInt ≤ 12 → (12 - v27_4.toInt).toNat < n27 → Wd dC dI A s.heap H locs w1 → TW ksC ad cy B qr s1 w1 → FE ksC [(51, 0, 10)] w0 w1 → lv_has ls 8 [(0, .ref (ad 158)), (1, .int a1), (2, .int 0), (3, .int (-1)), (4, .int v27_4)] → W p l e ({ frames := 1, cells := 0, slots := 0, locals := 12 }) s m (List.toArray [.ref (ad 158), .int a1, .int 0, .int (-1)]) below meth c H locs 0 0 (MQ below (va_Qv (P_X10_layRoads_38 ad cy B qr s1 a1 w0) (fun u : va_W => wpost dC dI cy A u) A) (List.toArray [.ref (ad 158), .int a1, .int 0, .int (-1)]) s 0 0 A) (F0 m 27 ls []) := by
    intro n27
    induction n27 with
    | zero => intro v27_4 H locs ls w1 r2 t3 r4 t5 hm27 hw hT hF hl; omega
    | succ n27 ih27 =>
      intro v27_4 H locs ls w1 r2 t3 r4 t5 hm27 hw hT hF hl
      have J144 : ∀ (v144_5 : Int32) (v144_6 : Int32) (v144_7 : Int32) (f144_158_4 : Int32) (H : Heap) (locs : List Loc) (ls : Array Slot) (w6 : va_W), 0 ≤ a1.toInt → a1.toInt ≤ 7 → 0 ≤ v27_4.toInt → v27_4.toInt ≤ 11 → 0 ≤ v144_5.toInt → v144_5.toInt ≤ 9 → 0 ≤ v144_6.toInt → v144_6.toInt ≤ 9 → 0 ≤ v144_7.toInt → v144_7.toInt ≤ 1 → 1 ≤ f144_158_4.toInt → f144_158_4.toInt ≤ 12 → Wd dC dI A s.heap H locs w6 → TW ksC ad cy B qr s1 w6 → FE ksC [(51, 0, 10)] w0 w6 → gi w6 158 4 = f144_158_4 → lv_has ls 8 [(0, .ref (ad 158)), (1, .int a1), (2, .int 0), (3, .int (-1)), (4, .int v27_4), (5, .int v144_5), (6, .int v144_6), (7, .int v144_7)] → W p l e ({ frames := 1, cells := 0, slots := 0, locals := 12 }) s m (List.toArray [.ref (ad 158), .int a1, .int 0, .int (-1)]) below meth c H locs 0 0 (MQ below (va_Qv (P_X10_layRoads_38 ad cy B qr s1 a1 w0) (fun u : va_W => wpost dC dI cy A u) A) (List.toArray [.ref (ad 158), .int a1, .int 0, .int (-1)]) s 0 0 A) (F0 m 144 ls []) := by
        intro v144_5 v144_6 v144_7 f144_158_4 H locs ls w6 r7 t8 r9 t10 r11 t12 r13 t14 r15 t16 r17 t18 hw hT hF c19 hl
        obtain ⟨x20, ex20⟩ : ∃ y : Int32, y = v27_4 + Int32.ofInt 1 := ⟨_, rfl⟩
        refine lv_iinc (v := x20) (lv' := [(4, .int x20), (0, .ref (ad 158)), (1, .int a1), (2, .int 0), (3, .int (-1)), (5, .int v144_5), (6, .int v144_6), (7, .int v144_7)]) hx hb dX10_layRoads_144 hl (k := 4) rfl ex20.symm (by decide) rfl (fun ls hl => ?_)
        have ex20 : x20.toInt = v27_4.toInt + 1 := by rw [ex20]; exact wk_add (y := 1) (show -2147483648 ≤ v27_4.toInt + 1 by omega) (show v27_4.toInt + 1 ≤ 2147483647 by omega)
        refine lv_goto (tgt := 27) hx hb dX10_layRoads_147 (by decide) ?_
        exact ih27 x20 H locs ls w6 (show 0 ≤ a1.toInt by omega) (show a1.toInt ≤ 7 by omega) (show 0 ≤ x20.toInt by omega) (show x20.toInt ≤ 12 by omega) (show (12 - x20.toInt).toNat < n27 by omega) hw hT hF  (lv_sub hl [1, 2, 3, 4, 0] rfl)
      have J130 : ∀ (v130_5 : Int32) (v130_6 : Int32) (v130_7 : Int32) (f130_158_4 : Int32) (H : Heap) (locs : List Loc) (ls : Array Slot) (w21 : va_W), 0 ≤ a1.toInt → a1.toInt ≤ 7 → 0 ≤ v27_4.toInt → v27_4.toInt ≤ 11 → 0 ≤ v130_5.toInt → v130_5.toInt ≤ 9 → 0 ≤ v130_6.toInt → v130_6.toInt ≤ 9 → 0 ≤ v130_7.toInt → v130_7.toInt ≤ 1 → 1 ≤ f130_158_4.toInt → f130_158_4.toInt ≤ 12 → Wd dC dI A s.heap H locs w21 → TW ksC ad cy B qr s1 w21 → FE ksC [(51, 0, 10)] w0 w21 → gi w21 158 4 = f130_158_4 → lv_has ls 8 [(0, .ref (ad 158)), (1, .int a1), (2, .int 0), (3, .int (-1)), (4, .int v27_4), (5, .int v130_5), (6, .int v130_6), (7, .int v130_7)] → W p l e ({ frames := 1, cells := 0, slots := 0, locals := 12 }) s m (List.toArray [.ref (ad 158), .int a1, .int 0, .int (-1)]) below meth c H locs 0 0 (MQ below (va_Qv (P_X10_layRoads_38 ad cy B qr s1 a1 w0) (fun u : va_W => wpost dC dI cy A u) A) (List.toArray [.ref (ad 158), .int a1, .int 0, .int (-1)]) s 0 0 A) (F0 m 130 ls []) := by
        intro v130_5 v130_6 v130_7 f130_158_4 H locs ls w21 r22 t23 r24 t25 r26 t27 r28 t29 r30 t31 r32 t33 hw hT hF c34 hl
        refine lv_aload_n hx hb dX10_layRoads_130 rfl (lv_at hl 0 rfl) ?_
        refine tk_getA hC hK hw hT hinX10 kC_at158 (by decide) rfl 3 (by decide) (List.mem_of_getElem? (i := 1) rfl) rfl rfl dX10_layRoads_131 ?_
        refine lv_iload hx hb dX10_layRoads_134 (lv_at hl 6 rfl) ?_
        refine lv_dup2_11 hx hb dX10_layRoads_136 rfl rfl ?_
        refine tk_iald hC hK hw hT kC_at160 rfl rfl (show 0 ≤ v130_6.toInt by omega) (show v130_6.toInt < 10 by omega) dX10_layRoads_137 (fun x35 c36 rx35 tx35 => ?_)
        refine lv_iconst (v := 1) hx hb dX10_layRoads_138 (by decide) ?_
        refine lv_iload hx hb dX10_layRoads_139 (lv_at hl 5 rfl) ?_
        refine lv_ishl hx hb dX10_layRoads_141 ?_
        refine lv_topi (fun x37 ex37 => ?_)
        have bx37 : 1 ≤ x37.toInt ∧ x37.toInt ≤ 512 := by rw [ex37]; exact wk_shl1 9 (by decide) (by omega) (by omega)
        refine lv_ior hx hb dX10_layRoads_142 ?_
        refine lv_topi (fun x38 ex38 => ?_)
        have bx38 : 0 ≤ x38.toInt ∧ x38.toInt < 1024 := by rw [ex38]; exact wk_or 10 (by decide) (by omega) (by omega) (by omega) (by omega)
        refine tk_iast hC hK hw hT kC_at160 (by decide) rfl rfl (show 0 ≤ v130_6.toInt by omega) (show v130_6.toInt < 10 by omega) (show 0 ≤ x38.toInt by omega) (show x38.toInt ≤ 1023 by omega) dX10_layRoads_143 (fun H locs w39 hw hT k41 c40 => ?_)
        have hF := hF.put kC_at160 (inE_of (a := 0) (b := 10) (by decide) (show 0 ≤ v130_6.toInt.toNat by omega) (show v130_6.toInt.toNat ≤ 10 by omega)) k41
        have c42 := k41.gi (Or.inl (tk_ne kC_at158 kC_at160 (by decide))) c34
        exact J144 v130_5 v130_6 v130_7 f130_158_4 H locs ls w39 (show 0 ≤ a1.toInt by omega) (show a1.toInt ≤ 7 by omega) (show 0 ≤ v27_4.toInt by omega) (show v27_4.toInt ≤ 11 by omega) (show 0 ≤ v130_5.toInt by omega) (show v130_5.toInt ≤ 9 by omega) (show 0 ≤ v130_6.toInt by omega) (show v130_6.toInt ≤ 9 by omega) (show 0 ≤ v130_7.toInt by omega) (show v130_7.toInt ≤ 1 by omega) (show 1 ≤ f130_158_4.toInt by omega) (show f130_158_4.toInt ≤ 12 by omega)  hw hT hF c42 (lv_sub hl [0, 1, 2, 3, 4, 5, 6, 7] rfl)
      have J118 : ∀ (v118_5 : Int32) (v118_6 : Int32) (v118_7 : Int32) (f118_158_4 : Int32) (H : Heap) (locs : List Loc) (ls : Array Slot) (w43 : va_W), 0 ≤ a1.toInt → a1.toInt ≤ 7 → 0 ≤ v27_4.toInt → v27_4.toInt ≤ 11 → 0 ≤ v118_5.toInt → v118_5.toInt ≤ 9 → 0 ≤ v118_6.toInt → v118_6.toInt ≤ 9 → 0 ≤ v118_7.toInt → v118_7.toInt ≤ 1 → 1 ≤ f118_158_4.toInt → f118_158_4.toInt ≤ 12 → Wd dC dI A s.heap H locs w43 → TW ksC ad cy B qr s1 w43 → FE ksC [(51, 0, 10)] w0 w43 → gi w43 158 4 = f118_158_4 → lv_has ls 8 [(0, .ref (ad 158)), (1, .int a1), (2, .int 0), (3, .int (-1)), (4, .int v27_4), (5, .int v118_5), (6, .int v118_6), (7, .int v118_7)] → W p l e ({ frames := 1, cells := 0, slots := 0, locals := 12 }) s m (List.toArray [.ref (ad 158), .int a1, .int 0, .int (-1)]) below meth c H locs 0 0 (MQ below (va_Qv (P_X10_layRoads_38 ad cy B qr s1 a1 w0) (fun u : va_W => wpost dC dI cy A u) A) (List.toArray [.ref (ad 158), .int a1, .int 0, .int (-1)]) s 0 0 A) (F0 m 118 ls []) := by
        intro v118_5 v118_6 v118_7 f118_158_4 H locs ls w43 r44 t45 r46 t47 r48 t49 r50 t51 r52 t53 r54 t55 hw hT hF c56 hl
        refine lv_iload hx hb dX10_layRoads_118 (lv_at hl 4 rfl) ?_
        refine lv_iload_n hx hb dX10_layRoads_120 rfl (lv_at hl 1 rfl) ?_
        refine lv_icmp_lt (tgt := 130) hx hb dX10_layRoads_121 (by decide) (fun c57 => ?_) (fun c57 => ?_)
        · have c57 : v27_4.toInt < a1.toInt := wk_lt.mp c57
          exact J130 v118_5 v118_6 v118_7 f118_158_4 H locs ls w43 (show 0 ≤ a1.toInt by omega) (show a1.toInt ≤ 7 by omega) (show 0 ≤ v27_4.toInt by omega) (show v27_4.toInt ≤ 11 by omega) (show 0 ≤ v118_5.toInt by omega) (show v118_5.toInt ≤ 9 by omega) (show 0 ≤ v118_6.toInt by omega) (show v118_6.toInt ≤ 9 by omega) (show 0 ≤ v118_7.toInt by omega) (show v118_7.toInt ≤ 1 by omega) (show 1 ≤ f118_158_4.toInt by omega) (show f118_158_4.toInt ≤ 12 by omega)  hw hT hF c56 (lv_sub hl [0, 1, 2, 3, 4, 5, 6, 7] rfl)
        · have c57 : a1.toInt ≤ v27_4.toInt := wk_ltF c57
          refine lv_iload hx hb dX10_layRoads_124 (lv_at hl 7 rfl) ?_
          refine lv_iconst (v := 1) hx hb dX10_layRoads_126 (by decide) ?_
          refine lv_icmp_ne (tgt := 144) hx hb dX10_layRoads_127 (by decide) (fun c58 => ?_) (fun c58 => ?_)
          · have c58 : ¬ v118_7.toInt = (1 : Int) := wk_eqF c58
            exact J144 v118_5 v118_6 v118_7 f118_158_4 H locs ls w43 (show 0 ≤ a1.toInt by omega) (show a1.toInt ≤ 7 by omega) (show 0 ≤ v27_4.toInt by omega) (show v27_4.toInt ≤ 11 by omega) (show 0 ≤ v118_5.toInt by omega) (show v118_5.toInt ≤ 9 by omega) (show 0 ≤ v118_6.toInt by omega) (show v118_6.toInt ≤ 9 by omega) (show 0 ≤ v118_7.toInt by omega) (show v118_7.toInt ≤ 1 by omega) (show 1 ≤ f118_158_4.toInt by omega) (show f118_158_4.toInt ≤ 12 by omega)  hw hT hF c56 (lv_sub hl [0, 1, 2, 3, 4, 5, 6, 7] rfl)
          · have c58 : v118_7.toInt = (1 : Int) := wk_eq.mp c58
            exact J130 v118_5 v118_6 v118_7 f118_158_4 H locs ls w43 (show 0 ≤ a1.toInt by omega) (show a1.toInt ≤ 7 by omega) (show 0 ≤ v27_4.toInt by omega) (show v27_4.toInt ≤ 11 by omega) (show 0 ≤ v118_5.toInt by omega) (show v118_5.toInt ≤ 9 by omega) (show 0 ≤ v118_6.toInt by omega) (show v118_6.toInt ≤ 9 by omega) (show 0 ≤ v118_7.toInt by omega) (show v118_7.toInt ≤ 1 by omega) (show 1 ≤ f118_158_4.toInt by omega) (show f118_158_4.toInt ≤ 12 by omega)  hw hT hF c56 (lv_sub hl [0, 1, 2, 3, 4, 5, 6, 7] rfl)
      have J104 : ∀ (v104_5 : Int32) (v104_6 : Int32) (v104_7 : Int32) (f104_158_4 : Int32) (H : Heap) (locs : List Loc) (ls : Array Slot) (w59 : va_W), 0 ≤ a1.toInt → a1.toInt ≤ 7 → 0 ≤ v27_4.toInt → v27_4.toInt ≤ 11 → 0 ≤ v104_5.toInt → v104_5.toInt ≤ 9 → 0 ≤ v104_6.toInt → v104_6.toInt ≤ 9 → 0 ≤ v104_7.toInt → v104_7.toInt ≤ 1 → 1 ≤ f104_158_4.toInt → f104_158_4.toInt ≤ 12 → Wd dC dI A s.heap H locs w59 → TW ksC ad cy B qr s1 w59 → FE ksC [(51, 0, 10)] w0 w59 → gi w59 158 4 = f104_158_4 → lv_has ls 8 [(0, .ref (ad 158)), (1, .int a1), (2, .int 0), (3, .int (-1)), (4, .int v27_4), (5, .int v104_5), (6, .int v104_6), (7, .int v104_7)] → W p l e ({ frames := 1, cells := 0, slots := 0, locals := 12 }) s m (List.toArray [.ref (ad 158), .int a1, .int 0, .int (-1)]) below meth c H locs 0 0 (MQ below (va_Qv (P_X10_layRoads_38 ad cy B qr s1 a1 w0) (fun u : va_W => wpost dC dI cy A u) A) (List.toArray [.ref (ad 158), .int a1, .int 0, .int (-1)]) s 0 0 A) (F0 m 104 ls []) := by
        intro v104_5 v104_6 v104_7 f104_158_4 H locs ls w59 r60 t61 r62 t63 r64 t65 r66 t67 r68 t69 r70 t71 hw hT hF c72 hl
        refine lv_aload_n hx hb dX10_layRoads_104 rfl (lv_at hl 0 rfl) ?_
        refine tk_getA hC hK hw hT hinX10 kC_at158 (by decide) rfl 3 (by decide) (List.mem_of_getElem? (i := 1) rfl) rfl rfl dX10_layRoads_105 ?_
        refine lv_iload hx hb dX10_layRoads_108 (lv_at hl 5 rfl) ?_
        refine lv_dup2_11 hx hb dX10_layRoads_110 rfl rfl ?_
        refine tk_iald hC hK hw hT kC_at160 rfl rfl (show 0 ≤ v104_5.toInt by omega) (show v104_5.toInt < 10 by omega) dX10_layRoads_111 (fun x73 c74 rx73 tx73 => ?_)
        refine lv_iconst (v := 1) hx hb dX10_layRoads_112 (by decide) ?_
        refine lv_iload hx hb dX10_layRoads_113 (lv_at hl 6 rfl) ?_
        refine lv_ishl hx hb dX10_layRoads_115 ?_
        refine lv_topi (fun x75 ex75 => ?_)
        have bx75 : 1 ≤ x75.toInt ∧ x75.toInt ≤ 512 := by rw [ex75]; exact wk_shl1 9 (by decide) (by omega) (by omega)
        refine lv_ior hx hb dX10_layRoads_116 ?_
        refine lv_topi (fun x76 ex76 => ?_)
        have bx76 : 0 ≤ x76.toInt ∧ x76.toInt < 1024 := by rw [ex76]; exact wk_or 10 (by decide) (by omega) (by omega) (by omega) (by omega)
        refine tk_iast hC hK hw hT kC_at160 (by decide) rfl rfl (show 0 ≤ v104_5.toInt by omega) (show v104_5.toInt < 10 by omega) (show 0 ≤ x76.toInt by omega) (show x76.toInt ≤ 1023 by omega) dX10_layRoads_117 (fun H locs w77 hw hT k79 c78 => ?_)
        have hF := hF.put kC_at160 (inE_of (a := 0) (b := 10) (by decide) (show 0 ≤ v104_5.toInt.toNat by omega) (show v104_5.toInt.toNat ≤ 10 by omega)) k79
        have c80 := k79.gi (Or.inl (tk_ne kC_at158 kC_at160 (by decide))) c72
        exact J118 v104_5 v104_6 v104_7 f104_158_4 H locs ls w77 (show 0 ≤ a1.toInt by omega) (show a1.toInt ≤ 7 by omega) (show 0 ≤ v27_4.toInt by omega) (show v27_4.toInt ≤ 11 by omega) (show 0 ≤ v104_5.toInt by omega) (show v104_5.toInt ≤ 9 by omega) (show 0 ≤ v104_6.toInt by omega) (show v104_6.toInt ≤ 9 by omega) (show 0 ≤ v104_7.toInt by omega) (show v104_7.toInt ≤ 1 by omega) (show 1 ≤ f104_158_4.toInt by omega) (show f104_158_4.toInt ≤ 12 by omega)  hw hT hF c80 (lv_sub hl [0, 1, 2, 3, 4, 5, 6, 7] rfl)
      refine lv_iload hx hb dX10_layRoads_27 (lv_at hl 4 rfl) ?_
      refine lv_aload_n hx hb dX10_layRoads_29 rfl (lv_at hl 0 rfl) ?_
      refine tk_geti hC hK hw hT hinX10 kC_at158 (by decide) rfl 4 (by decide) (List.mem_of_getElem? (i := 2) rfl) rfl rfl dX10_layRoads_30 (fun x81 c82 rx81 tx81 => ?_)
      refine lv_icmp_ge (tgt := 150) hx hb dX10_layRoads_33 (by decide) (fun c83 => ?_) (fun c83 => ?_)
      · have c83 : x81.toInt ≤ v27_4.toInt := wk_le.mp c83
        exact tk_vret hC hr hlocks hK ⟨hT, hF, trivial⟩ hw dX10_layRoads_150
      · have c83 : v27_4.toInt < x81.toInt := wk_leF c83
        refine lv_iload hx hb dX10_layRoads_36 (lv_at hl 4 rfl) ?_
        refine lv_iload_n hx hb dX10_layRoads_38 rfl (lv_at hl 3 rfl) ?_
        refine lv_icmp_ne (tgt := 45) hx hb dX10_layRoads_39 (by decide) (fun _ => ?_) (fun c => absurd (show v27_4.toInt = (-1 : Int) from wk_eq.mp c) (by omega))
        refine lv_aload_n hx hb dX10_layRoads_45 rfl (lv_at hl 0 rfl) ?_
        refine tk_getA hC hK hw hT hinX10 kC_at158 (by decide) rfl 1 (by decide) (List.mem_of_getElem? (i := 3) rfl) rfl rfl dX10_layRoads_46 ?_
        refine tk_getO hC hK hw hT hinX7 kC_at39 (by decide) rfl 0 (by decide) (List.mem_of_getElem? (i := 4) rfl) rfl rfl dX10_layRoads_49 ?_
        refine lv_iconst (v := 2) hx hb dX10_layRoads_52 (by decide) ?_
        refine lv_aload_n hx hb dX10_layRoads_53 rfl (lv_at hl 0 rfl) ?_
        refine tk_getA hC hK hw hT hinX10 kC_at158 (by decide) rfl 2 (by decide) (List.mem_of_getElem? (i := 5) rfl) rfl rfl dX10_layRoads_54 ?_
        refine lv_iload hx hb dX10_layRoads_57 (lv_at hl 4 rfl) ?_
        refine tk_iald hC hK hw hT kC_at159 rfl rfl (show 0 ≤ v27_4.toInt by omega) (show v27_4.toInt < 12 by omega) dX10_layRoads_59 (fun x84 c85 rx84 tx84 => ?_)
        refine lv_imul hx hb dX10_layRoads_60 ?_
        refine lv_topi (fun x86 ex86 => ?_)
        have ex86 : x86.toInt = (2 : Int) * x84.toInt := by rw [ex86]; exact wk_mul (show (-2147483648) ≤ (2 : Int) * x84.toInt by omega) (show (2 : Int) * x84.toInt ≤ 2147483647 by omega)
        refine tk_iald hC hK hw hT kC_at40 rfl rfl (show 0 ≤ x86.toInt by omega) (show x86.toInt < 26 by omega) dX10_layRoads_61 (fun x87 c88 rx87 tx87 => ?_)
        refine lv_istore (lv' := [(5, .int x87), (0, .ref (ad 158)), (1, .int a1), (2, .int 0), (3, .int (-1)), (4, .int v27_4)]) hx hb dX10_layRoads_62 hl (by decide) rfl (fun ls hl => ?_)
        refine lv_aload_n hx hb dX10_layRoads_64 rfl (lv_at hl 1 rfl) ?_
        refine tk_getA hC hK hw hT hinX10 kC_at158 (by decide) rfl 1 (by decide) (List.mem_of_getElem? (i := 3) rfl) rfl rfl dX10_layRoads_65 ?_
        refine tk_getO hC hK hw hT hinX7 kC_at39 (by decide) rfl 0 (by decide) (List.mem_of_getElem? (i := 4) rfl) rfl rfl dX10_layRoads_68 ?_
        refine lv_iconst (v := 2) hx hb dX10_layRoads_71 (by decide) ?_
        refine lv_aload_n hx hb dX10_layRoads_72 rfl (lv_at hl 1 rfl) ?_
        refine tk_getA hC hK hw hT hinX10 kC_at158 (by decide) rfl 2 (by decide) (List.mem_of_getElem? (i := 5) rfl) rfl rfl dX10_layRoads_73 ?_
        refine lv_iload hx hb dX10_layRoads_76 (lv_at hl 5 rfl) ?_
        refine tk_iald hC hK hw hT kC_at159 rfl rfl (show 0 ≤ v27_4.toInt by omega) (show v27_4.toInt < 12 by omega) dX10_layRoads_78 (fun x89 c90 rx89 tx89 => ?_)
        refine lv_imul hx hb dX10_layRoads_79 ?_
        refine lv_topi (fun x91 ex91 => ?_)
        have ex91 : x91.toInt = (2 : Int) * x89.toInt := by rw [ex91]; exact wk_mul (show (-2147483648) ≤ (2 : Int) * x89.toInt by omega) (show (2 : Int) * x89.toInt ≤ 2147483647 by omega)
        refine lv_iconst (v := 1) hx hb dX10_layRoads_80 (by decide) ?_
        refine lv_iadd hx hb dX10_layRoads_81 ?_
        refine lv_topi (fun x92 ex92 => ?_)
        have ex92 : x92.toInt = x91.toInt + (1 : Int) := by rw [ex92]; exact wk_add (show (-2147483648) ≤ x91.toInt + (1 : Int) by omega) (show x91.toInt + (1 : Int) ≤ 2147483647 by omega)
        refine tk_iald hC hK hw hT kC_at40 rfl rfl (show 0 ≤ x92.toInt by omega) (show x92.toInt < 26 by omega) dX10_layRoads_82 (fun x93 c94 rx93 tx93 => ?_)
        refine lv_istore (lv' := [(6, .int x93), (5, .int x87), (0, .ref (ad 158)), (1, .int a1), (2, .int 0), (3, .int (-1)), (4, .int v27_4)]) hx hb dX10_layRoads_83 hl (by decide) rfl (fun ls hl => ?_)
        refine lv_iload_n hx hb dX10_layRoads_85 rfl (lv_at hl 4 rfl) ?_
        refine lv_iload hx hb dX10_layRoads_86 (lv_at hl 6 rfl) ?_
        refine lv_ishr hx hb dX10_layRoads_88 ?_
        refine lv_topi (fun x95 ex95 => ?_)
        have bx95 : 0 ≤ x95.toInt ∧ x95.toInt ≤ (0 : Int) := by rw [ex95]; exact wk_shr (by decide)
        refine lv_iconst (v := 1) hx hb dX10_layRoads_89 (by decide) ?_
        refine lv_iand hx hb dX10_layRoads_90 ?_
        refine lv_topi (fun x96 ex96 => ?_)
        have bx96 : 0 ≤ x96.toInt ∧ x96.toInt ≤ (1 : Int) := by rw [ex96]; exact wk_and (by decide)
        refine lv_istore (lv' := [(7, .int x96), (6, .int x93), (5, .int x87), (0, .ref (ad 158)), (1, .int a1), (2, .int 0), (3, .int (-1)), (4, .int v27_4)]) hx hb dX10_layRoads_91 hl (by decide) rfl (fun ls hl => ?_)
        refine lv_iload hx hb dX10_layRoads_93 (lv_at hl 7 rfl) ?_
        refine lv_iload_n hx hb dX10_layRoads_95 rfl (lv_at hl 4 rfl) ?_
        refine lv_icmp_lt (tgt := 104) hx hb dX10_layRoads_96 (by decide) (fun c97 => ?_) (fun c97 => ?_)
        · have c97 : v27_4.toInt < a1.toInt := wk_lt.mp c97
          exact J104 x87 x93 x96 x81 H locs ls w1 (show 0 ≤ a1.toInt by omega) (show a1.toInt ≤ 7 by omega) (show 0 ≤ v27_4.toInt by omega) (show v27_4.toInt ≤ 11 by omega) (show 0 ≤ x87.toInt by omega) (show x87.toInt ≤ 9 by omega) (show 0 ≤ x93.toInt by omega) (show x93.toInt ≤ 9 by omega) (show 0 ≤ x96.toInt by omega) (show x96.toInt ≤ 1 by omega) (show 1 ≤ x81.toInt by omega) (show x81.toInt ≤ 12 by omega)  hw hT hF c82 (lv_sub hl [3, 4, 5, 6, 7, 2, 1, 0] rfl)
        · have c97 : a1.toInt ≤ v27_4.toInt := wk_ltF c97
          refine lv_iload hx hb dX10_layRoads_99 (lv_at hl 0 rfl) ?_
          refine lv_if_ne (tgt := 118) hx hb dX10_layRoads_101 (by decide) (fun c98 => ?_) (fun c98 => ?_)
          · have c98 : ¬ x96.toInt = (0 : Int) := wk_eqF c98
            exact J118 x87 x93 x96 x81 H locs ls w1 (show 0 ≤ a1.toInt by omega) (show a1.toInt ≤ 7 by omega) (show 0 ≤ v27_4.toInt by omega) (show v27_4.toInt ≤ 11 by omega) (show 0 ≤ x87.toInt by omega) (show x87.toInt ≤ 9 by omega) (show 0 ≤ x93.toInt by omega) (show x93.toInt ≤ 9 by omega) (show 0 ≤ x96.toInt by omega) (show x96.toInt ≤ 1 by omega) (show 1 ≤ x81.toInt by omega) (show x81.toInt ≤ 12 by omega)  hw hT hF c82 (lv_sub hl [3, 4, 5, 6, 7, 2, 1, 0] rfl)
          · have c98 : x96.toInt = (0 : Int) := wk_eq.mp c98
            exact J104 x87 x93 x96 x81 H locs ls w1 (show 0 ≤ a1.toInt by omega) (show a1.toInt ≤ 7 by omega) (show 0 ≤ v27_4.toInt by omega) (show v27_4.toInt ≤ 11 by omega) (show 0 ≤ x87.toInt by omega) (show x87.toInt ≤ 9 by omega) (show 0 ≤ x93.toInt by omega) (show x93.toInt ≤ 9 by omega) (show 0 ≤ x96.toInt by omega) (show x96.toInt ≤ 1 by omega) (show 1 ≤ x81.toInt by omega) (show x81.toInt ≤ 12 by omega)  hw hT hF c82 (lv_sub hl [3, 4, 5, 6, 7, 2, 1, 0] rfl)
  have L3 : ∀ (n3 : Nat) (v3_4 : Int32) (H : Heap) (locs : List Loc) (ls : Array Slot) (w99 : va_W), 0 ≤ a1.toInt → a1.toInt ≤ 7 → 0 ≤ v3_4.toInt → v3_4.toInt ≤ 10 → (10 - v3_4.toInt).toNat < n3 → Wd dC dI A s.heap H locs w99 → TW ksC ad cy B qr s1 w99 → FE ksC [(51, 0, 10)] w0 w99 → lv_has ls 8 [(0, .ref (ad 158)), (1, .int a1), (2, .int 0), (3, .int (-1)), (4, .int v3_4)] → W p l e ({ frames := 1, cells := 0, slots := 0, locals := 12 }) s m (List.toArray [.ref (ad 158), .int a1, .int 0, .int (-1)]) below meth c H locs 0 0 (MQ below (va_Qv (P_X10_layRoads_38 ad cy B qr s1 a1 w0) (fun u : va_W => wpost dC dI cy A u) A) (List.toArray [.ref (ad 158), .int a1, .int 0, .int (-1)]) s 0 0 A) (F0 m 3 ls []) := by
    intro n3
    induction n3 with
    | zero => intro v3_4 H locs ls w99 r100 t101 r102 t103 hm3 hw hT hF hl; omega
    | succ n3 ih3 =>
      intro v3_4 H locs ls w99 r100 t101 r102 t103 hm3 hw hT hF hl
      refine lv_iload hx hb dX10_layRoads_3 (lv_at hl 4 rfl) ?_
      refine lv_bipush (v := 10) hx hb dX10_layRoads_5 (by decide) ?_
      refine lv_icmp_ge (tgt := 24) hx hb dX10_layRoads_7 (by decide) (fun c104 => ?_) (fun c104 => ?_)
      · have c104 : (10 : Int) ≤ v3_4.toInt := wk_le.mp c104
        refine lv_iconst (v := 0) hx hb dX10_layRoads_24 (by decide) ?_
        refine lv_istore (lv' := [(4, .int 0), (0, .ref (ad 158)), (1, .int a1), (2, .int 0), (3, .int (-1))]) hx hb dX10_layRoads_25 hl (by decide) rfl (fun ls hl => ?_)
        exact L27 ((12 - (0 : Int)).toNat + 1) 0 H locs ls w99 (show 0 ≤ a1.toInt by omega) (show a1.toInt ≤ 7 by omega) (by decide) (by decide) (Nat.lt_succ_self _) hw hT hF  (lv_sub hl [1, 2, 3, 4, 0] rfl)
      · have c104 : v3_4.toInt < (10 : Int) := wk_leF c104
        refine lv_aload_n hx hb dX10_layRoads_10 rfl (lv_at hl 0 rfl) ?_
        refine tk_getA hC hK hw hT hinX10 kC_at158 (by decide) rfl 3 (by decide) (List.mem_of_getElem? (i := 1) rfl) rfl rfl dX10_layRoads_11 ?_
        refine lv_iload hx hb dX10_layRoads_14 (lv_at hl 4 rfl) ?_
        refine lv_iconst (v := 0) hx hb dX10_layRoads_16 (by decide) ?_
        refine tk_iast hC hK hw hT kC_at160 (by decide) rfl rfl (show 0 ≤ v3_4.toInt by omega) (show v3_4.toInt < 10 by omega) (by decide) (by decide) dX10_layRoads_17 (fun H locs w105 hw hT k107 c106 => ?_)
        have hF := hF.put kC_at160 (inE_of (a := 0) (b := 10) (by decide) (show 0 ≤ v3_4.toInt.toNat by omega) (show v3_4.toInt.toNat ≤ 10 by omega)) k107
        obtain ⟨x108, ex108⟩ : ∃ y : Int32, y = v3_4 + Int32.ofInt 1 := ⟨_, rfl⟩
        refine lv_iinc (v := x108) (lv' := [(4, .int x108), (0, .ref (ad 158)), (1, .int a1), (2, .int 0), (3, .int (-1))]) hx hb dX10_layRoads_18 hl (k := 4) rfl ex108.symm (by decide) rfl (fun ls hl => ?_)
        have ex108 : x108.toInt = v3_4.toInt + 1 := by rw [ex108]; exact wk_add (y := 1) (show -2147483648 ≤ v3_4.toInt + 1 by omega) (show v3_4.toInt + 1 ≤ 2147483647 by omega)
        refine lv_goto (tgt := 3) hx hb dX10_layRoads_21 (by decide) ?_
        exact ih3 x108 H locs ls w105 (show 0 ≤ a1.toInt by omega) (show a1.toInt ≤ 7 by omega) (show 0 ≤ x108.toInt by omega) (show x108.toInt ≤ 10 by omega) (show (10 - x108.toInt).toNat < n3 by omega) hw hT hF  (lv_sub hl [1, 2, 3, 4, 0] rfl)
  refine lv_iconst (v := 0) hx hb dX10_layRoads_0 (by decide) ?_
  refine lv_istore (lv' := [(4, .int 0), (0, .ref (ad 158)), (1, .int a1), (2, .int 0), (3, .int (-1))]) hx hb dX10_layRoads_1 hl (by decide) rfl (fun ls hl => ?_)
  exact L3 ((10 - (0 : Int)).toNat + 1) 0 s.heap locs ls w0 (show 0 ≤ a1.toInt by omega) (show a1.toInt ≤ 7 by omega) (by decide) (by decide) (Nat.lt_succ_self _) hw hT hF  (lv_sub hl [1, 2, 3, 4, 0] rfl)
abbrev P_X10_leastBelow_6 (ad : Nat → Nat) (cy : Nat → ClassId) (B : Int) (qr : Nat) (s1 : Int) (a1 : Int32) (w0 : va_W) : Int32 → va_W → Prop := fun r u => TW ksC ad cy B qr s1 u ∧ FE ksC [(51, 0, 10)] w0 u ∧ ((0 ≤ r.toInt ∧ r.toInt ≤ 127) ∨ (r = (-1) ∧ (∃ y : Int32, gi u 38 10 = y ∧ 1 ≤ y.toInt ∧ y.toInt ≤ 6)))
set_option maxHeartbeats 4000000 in
set_option maxRecDepth 100000 in
theorem k_X10_leastBelow_6 (l : Launch) (adK adV : Nat → Nat) (dC : Nat → ClassId) (dI : Nat → Nat → Nat) (cy : Nat → ClassId) (ad : Nat → Nat) (B : Int) (hB0 : 2147483648 ≤ B) (hB1 : B ≤ 1152921504606846976) (qr : Nat) (s1 : Int)  (a1 : Int32) (ra1 : 0 ≤ a1.toInt) (ta1 : a1.toInt ≤ 7) (w0 : va_W) (sz : Nat) (hT : TW ksC ad cy B qr s1 w0)  : Met l yX10_leastBelow wsX10_leastBelow ({ frames := 10, cells := 0, slots := 0, locals := 220 }) (va_Pc [.ref (ad 158), .int a1, .int 0] (wpreS adK adV dC dI cy sz w0)) (va_Qi (P_X10_leastBelow_6 ad cy B qr s1 a1 w0) (fun u : va_W => wpost dC dI cy (va_A w0 sz) u) (va_A w0 sz)) 0 0 (va_A w0 sz) := by
  refine Met.ofW (cc := cX10_leastBelow) (maxL := 4) (ret := (some .int)) (by decide) rfl ?_
  intro p e s m args below meth c s₁ Bk hml hv
  obtain ⟨rfl, ⟨hsz, hP, hK, hD0⟩, hE, hSR⟩ := hv
  have hx := Bk.exec
  have hb := Bk.bytes
  have hr := Bk.returns
  have hlocks := Bk.notSynchronized
  have hC : CallFix p m c cX10_leastBelow 4 s _ wsX10_leastBelow RX10 := ⟨hx, hb, hml, findClass_of_methodNamed Bk.named, atoms_spec (ws := wsX10_leastBelow) Bk.pre⟩
  subst hsz
  have hD := hD0.self (sz := s.heap.size)
  generalize hAe : va_A w0 s.heap.size = A at hD hE ⊢
  have hA : ∀ q : Nat, s.heap.size ≤ q → A q := fun q h => by rw [← hAe]; exact Or.inr h
  have hw : Wd dC dI A s.heap s.heap [] w0 := ⟨hP, hD, va_S.rf⟩
  have hF : FE ksC [(51, 0, 10)] w0 w0 := FE.rf
  have hl := lv_entry ([.ref (ad 158), .int a1, .int 0]) (n := 4) (Nat.le_of_ble_eq_true rfl)
  rw [lg_entry_eq]
  generalize (lg_sl ([.ref (ad 158), .int a1, .int 0]) ++ List.replicate (4 - (lg_sl ([.ref (ad 158), .int a1, .int 0])).length) Slot.unset).toArray = ls at hl ⊢
  have hl : lv_has ls 4 [(0, .ref (ad 158)), (1, .int a1), (2, .int 0)] := hl
  generalize hloc : ([] : List Loc) = locs at hw ⊢
  have hinX10 : ∀ w ∈ u_ws RX10 TX10 5, w ∈ wsX10_leastBelow := fun _ h => List.mem_cons_of_mem _ (List.mem_append_left _ (List.mem_append_left _ (List.mem_append_right _ (h))))
  have hinX5 : ∀ w ∈ u_ws RX5 TX5 14, w ∈ wsX10_leastBelow := fun _ h => List.mem_cons_of_mem _ (List.mem_append_left _ (List.mem_append_right _ (h)))
  have L9 : ∀ (n9 : Nat) (v9_3 : Int32) (H : Heap) (locs : List Loc) (ls : Array Slot) (w1 : va_W), 0 ≤ a1.toInt → a1.toInt ≤ 7 → 0 ≤ v9_3.toInt → v9_3.toInt ≤ 6 → (6 - v9_3.toInt).toNat < n9 → Wd dC dI A s.heap H locs w1 → TW ksC ad cy B qr s1 w1 → FE ksC [(51, 0, 10)] w0 w1 → lv_has ls 4 [(0, .ref (ad 158)), (1, .int a1), (2, .int 0), (3, .int v9_3)] → W p l e ({ frames := 10, cells := 0, slots := 0, locals := 220 }) s m (List.toArray [.ref (ad 158), .int a1, .int 0]) below meth c H locs 0 0 (MQ below (va_Qi (P_X10_leastBelow_6 ad cy B qr s1 a1 w0) (fun u : va_W => wpost dC dI cy A u) A) (List.toArray [.ref (ad 158), .int a1, .int 0]) s 0 0 A) (F0 m 9 ls []) := by
    intro n9
    induction n9 with
    | zero => intro v9_3 H locs ls w1 r2 t3 r4 t5 hm9 hw hT hF hl; omega
    | succ n9 ih9 =>
      intro v9_3 H locs ls w1 r2 t3 r4 t5 hm9 hw hT hF hl
      refine lv_iload_n hx hb dX10_leastBelow_9 rfl (lv_at hl 3 rfl) ?_
      refine lv_aload_n hx hb dX10_leastBelow_10 rfl (lv_at hl 0 rfl) ?_
      refine tk_getA hC hK hw hT hinX10 kC_at158 (by decide) rfl 0 (by decide) (List.mem_of_getElem? (i := 1) rfl) rfl rfl dX10_leastBelow_11 ?_
      refine tk_geti hC hK hw hT hinX5 kC_at38 (by decide) rfl 10 (by decide) (List.mem_of_getElem? (i := 2) rfl) rfl rfl dX10_leastBelow_14 (fun x6 c7 rx6 tx6 => ?_)
      refine lv_icmp_ge (tgt := 36) hx hb dX10_leastBelow_17 (by decide) (fun c8 => ?_) (fun c8 => ?_)
      · have c8 : x6.toInt ≤ v9_3.toInt := wk_le.mp c8
        refine lv_iload_n hx hb dX10_leastBelow_36 rfl (lv_at hl 1 rfl) ?_
        refine lv_if_gt (tgt := 42) hx hb dX10_leastBelow_37 (by decide) (fun c9 => ?_) (fun c9 => ?_)
        · have c9 : (0 : Int) < a1.toInt := wk_lt.mp c9
          refine lv_aload_n hx hb dX10_leastBelow_42 rfl (lv_at hl 0 rfl) ?_
          refine lv_iload_n hx hb dX10_leastBelow_43 rfl (lv_at hl 1 rfl) ?_
          refine lv_iconst (v := 1) hx hb dX10_leastBelow_44 (by decide) ?_
          refine lv_isub hx hb dX10_leastBelow_45 ?_
          refine lv_topi (fun x10 ex10 => ?_)
          have ex10 : x10.toInt = a1.toInt - (1 : Int) := by rw [ex10]; exact wk_sub (show (-2147483648) ≤ a1.toInt - (1 : Int) by omega) (show a1.toInt - (1 : Int) ≤ 2147483647 by omega)
          refine lv_iload_n hx hb dX10_leastBelow_46 rfl (lv_at hl 2 rfl) ?_
          refine tk_Vi hC hK hw hT hA hE hSR kC_at158 (by decide) rfl (k_X10_leastBelow_7 l adK adV dC dI cy ad B (by omega) (by omega) qr s1   x10 (show 0 ≤ x10.toInt by omega) (show x10.toInt ≤ 6 by omega) w1 H.size hT ) (cwV 2 hC.2.2.2.2 gX10_leastBelow_X10_leastBelow rfl rfl rfl (by decide +kernel) ⟨Nat.le_of_ble_eq_true rfl, Nat.le_of_ble_eq_true rfl⟩) rfl hl.1 rfl (Nat.le_of_ble_eq_true rfl) dX10_leastBelow_47 (fun r11 w13 H locs hp12 hw => ?_)
          obtain ⟨hT, k14, hg19⟩ := hp12
          have hF := hF.tr k14 (by decide)
          have c20 := k14.gi kC_at38 (by decide) c7
          rcases hg19 with ⟨g15, g16⟩ | ⟨rfl, ⟨x17, c18, rx17, tx17⟩⟩
          · refine lv_istore_n (lv' := [(3, .int r11), (0, .ref (ad 158)), (1, .int a1), (2, .int 0)]) hx hb dX10_leastBelow_50 rfl hl (by decide) rfl (fun ls hl => ?_)
            refine lv_iload_n hx hb dX10_leastBelow_51 rfl (lv_at hl 0 rfl) ?_
            refine lv_iconst (v := (-1)) hx hb dX10_leastBelow_52 (by decide) ?_
            refine lv_icmp_eq (tgt := 60) hx hb dX10_leastBelow_53 (by decide) (fun c => absurd c (fun h => absurd (show r11.toInt = (-1 : Int) from wk_eq.mp h) (by omega))) (fun _ => ?_)
            refine lv_iload_n hx hb dX10_leastBelow_56 rfl (lv_at hl 0 rfl) ?_
            refine lv_goto (tgt := 74) hx hb dX10_leastBelow_57 (by decide) ?_
            exact tk_iret hC hr hlocks hK ⟨hT, hF, (Or.inl ⟨(show 0 ≤ r11.toInt by omega), (show r11.toInt ≤ 127 by omega)⟩)⟩ hw dX10_leastBelow_74
          · have ex17 : x17.toInt = x6.toInt := by rw [← c20.symm.trans c18]
            refine lv_istore_n (lv' := [(3, .int (-1)), (0, .ref (ad 158)), (1, .int a1), (2, .int 0)]) hx hb dX10_leastBelow_50 rfl hl (by decide) rfl (fun ls hl => ?_)
            refine lv_iload_n hx hb dX10_leastBelow_51 rfl (lv_at hl 0 rfl) ?_
            refine lv_iconst (v := (-1)) hx hb dX10_leastBelow_52 (by decide) ?_
            refine lv_icmp_eq (tgt := 60) hx hb dX10_leastBelow_53 (by decide) (fun _ => ?_) (fun c => absurd (by decide) c)
            refine lv_aload_n hx hb dX10_leastBelow_60 rfl (lv_at hl 1 rfl) ?_
            refine lv_iload_n hx hb dX10_leastBelow_61 rfl (lv_at hl 2 rfl) ?_
            refine lv_iconst (v := 1) hx hb dX10_leastBelow_62 (by decide) ?_
            refine lv_isub hx hb dX10_leastBelow_63 ?_
            refine lv_topi (fun x21 ex21 => ?_)
            have ex21 : x21.toInt = a1.toInt - (1 : Int) := by rw [ex21]; exact wk_sub (show (-2147483648) ≤ a1.toInt - (1 : Int) by omega) (show a1.toInt - (1 : Int) ≤ 2147483647 by omega)
            refine lv_iload_n hx hb dX10_leastBelow_64 rfl (lv_at hl 3 rfl) ?_
            refine lv_iconst (v := 1) hx hb dX10_leastBelow_65 (by decide) ?_
            refine lv_iload_n hx hb dX10_leastBelow_66 rfl (lv_at hl 2 rfl) ?_
            refine lv_iconst (v := 1) hx hb dX10_leastBelow_67 (by decide) ?_
            refine lv_isub hx hb dX10_leastBelow_68 ?_
            refine lv_topi (fun x22 ex22 => ?_)
            have ex22 : x22.toInt = a1.toInt - (1 : Int) := by rw [ex22]; exact wk_sub (show (-2147483648) ≤ a1.toInt - (1 : Int) by omega) (show a1.toInt - (1 : Int) ≤ 2147483647 by omega)
            refine lv_ishl hx hb dX10_leastBelow_69 ?_
            refine lv_topi (fun x23 ex23 => ?_)
            have bx23 : 1 ≤ x23.toInt ∧ x23.toInt ≤ 64 := by rw [ex23]; exact wk_shl1 6 (by decide) (by omega) (by omega)
            refine lv_ior hx hb dX10_leastBelow_70 ?_
            refine lv_topi (fun x24 ex24 => ?_)
            have bx24 : 0 ≤ x24.toInt ∧ x24.toInt < 128 := by rw [ex24]; exact wk_or 7 (by decide) (by decide) (by decide) (by omega) (by omega)
            refine tk_Vi hC hK hw hT hA hE hSR kC_at158 (by decide) rfl (k_X10_leastBelow_35 l adK adV dC dI cy ad B (by omega) (by omega) qr s1   x21 (show 0 ≤ x21.toInt by omega) (show x21.toInt ≤ 6 by omega) x24 (show 0 ≤ x24.toInt by omega) (show x24.toInt ≤ 127 by omega) w13 H.size hT ) (cwV 2 hC.2.2.2.2 gX10_leastBelow_X10_leastBelow rfl rfl rfl (by decide +kernel) ⟨Nat.le_of_ble_eq_true rfl, Nat.le_of_ble_eq_true rfl⟩) rfl hl.1 rfl (Nat.le_of_ble_eq_true rfl) dX10_leastBelow_71 (fun r25 w27 H locs hp26 hw => ?_)
            obtain ⟨hT, k28, hg33⟩ := hp26
            have hF := hF.tr k28 (by decide)
            have c34 := k28.gi kC_at38 (by decide) c20
            rcases hg33 with ⟨g29, g30⟩ | ⟨rfl, ⟨x31, c32, rx31, tx31⟩⟩
            · exact tk_iret hC hr hlocks hK ⟨hT, hF, (Or.inl ⟨(show 0 ≤ r25.toInt by omega), (show r25.toInt ≤ 127 by omega)⟩)⟩ hw dX10_leastBelow_74
            · have ex31 : x31.toInt = x6.toInt := by rw [← c34.symm.trans c32]
              exact tk_iret hC hr hlocks hK ⟨hT, hF, (Or.inr ⟨rfl, ⟨x6, c34, (show 1 ≤ x6.toInt by omega), (show x6.toInt ≤ 6 by omega)⟩⟩)⟩ hw dX10_leastBelow_74
        · have c9 : a1.toInt ≤ (0 : Int) := wk_ltF c9
          refine lv_iload_n hx hb dX10_leastBelow_40 rfl (lv_at hl 2 rfl) ?_
          exact tk_iret hC hr hlocks hK ⟨hT, hF, (Or.inl ⟨(by decide), (by decide)⟩)⟩ hw dX10_leastBelow_41
      · have c8 : v9_3.toInt < x6.toInt := wk_leF c8
        refine lv_aload_n hx hb dX10_leastBelow_20 rfl (lv_at hl 0 rfl) ?_
        refine lv_iload_n hx hb dX10_leastBelow_21 rfl (lv_at hl 3 rfl) ?_
        refine tk_Vi hC hK hw hT hA hE hSR kC_at158 (by decide) rfl (k_X10_canDo_1 l adK adV dC dI cy ad B (by omega) (by omega) qr s1   v9_3 (show 0 ≤ v9_3.toInt by omega) (show v9_3.toInt ≤ 5 by omega) w1 H.size hT ) (cwV 1 hC.2.2.2.2 gX10_leastBelow_X10_canDo rfl rfl rfl (by decide +kernel) ⟨Nat.le_of_ble_eq_true rfl, Nat.le_of_ble_eq_true rfl⟩) rfl hl.1 rfl (Nat.le_of_ble_eq_true rfl) dX10_leastBelow_22 (fun r35 w37 H locs hp36 hw => ?_)
        obtain ⟨hT, k38, hg39⟩ := hp36
        have hF := hF.tr k38 (by decide)
        have c40 := k38.gi kC_at38 (by decide) c7
        rcases hg39 with rfl | rfl
        · refine lv_if_ne (tgt := 30) hx hb dX10_leastBelow_25 (by decide) (fun c => absurd (by decide) c) (fun _ => ?_)
          refine lv_iconst (v := (-1)) hx hb dX10_leastBelow_28 (by decide) ?_
          exact tk_iret hC hr hlocks hK ⟨hT, hF, (Or.inr ⟨rfl, ⟨x6, c40, (show 1 ≤ x6.toInt by omega), (show x6.toInt ≤ 6 by omega)⟩⟩)⟩ hw dX10_leastBelow_29
        · refine lv_if_ne (tgt := 30) hx hb dX10_leastBelow_25 (by decide) (fun _ => ?_) (fun c => absurd c (by decide))
          obtain ⟨x41, ex41⟩ : ∃ y : Int32, y = v9_3 + Int32.ofInt 1 := ⟨_, rfl⟩
          refine lv_iinc (v := x41) (lv' := [(3, .int x41), (0, .ref (ad 158)), (1, .int a1), (2, .int 0)]) hx hb dX10_leastBelow_30 hl (k := 3) rfl ex41.symm (by decide) rfl (fun ls hl => ?_)
          have ex41 : x41.toInt = v9_3.toInt + 1 := by rw [ex41]; exact wk_add (y := 1) (show -2147483648 ≤ v9_3.toInt + 1 by omega) (show v9_3.toInt + 1 ≤ 2147483647 by omega)
          refine lv_goto (tgt := 9) hx hb dX10_leastBelow_33 (by decide) ?_
          exact ih9 x41 H locs ls w37 (show 0 ≤ a1.toInt by omega) (show a1.toInt ≤ 7 by omega) (show 0 ≤ x41.toInt by omega) (show x41.toInt ≤ 6 by omega) (show (6 - x41.toInt).toNat < n9 by omega) hw hT hF  (lv_sub hl [1, 2, 3, 0] rfl)
  refine lv_aload_n hx hb dX10_leastBelow_0 rfl (lv_at hl 0 rfl) ?_
  refine lv_iload_n hx hb dX10_leastBelow_1 rfl (lv_at hl 1 rfl) ?_
  refine lv_iload_n hx hb dX10_leastBelow_2 rfl (lv_at hl 2 rfl) ?_
  refine lv_iconst (v := (-1)) hx hb dX10_leastBelow_3 (by decide) ?_
  refine tk_Vv hC hK hw hT hA hE hSR kC_at158 (by decide) rfl (k_X10_layRoads_38 l adK adV dC dI cy ad B (by omega) (by omega) qr s1   a1 (show 0 ≤ a1.toInt by omega) (show a1.toInt ≤ 7 by omega) w0 s.heap.size hT ) (cwV 3 hC.2.2.2.2 gX10_leastBelow_X10_layRoads rfl rfl rfl (by decide +kernel) ⟨Nat.le_of_ble_eq_true rfl, Nat.le_of_ble_eq_true rfl⟩) rfl hl.1 rfl (Nat.le_of_ble_eq_true rfl) dX10_leastBelow_4 (fun w44 H locs hp43 hw => ?_)
  obtain ⟨hT, k45, hg46⟩ := hp43
  have hF := hF.tr k45 (by decide)
  clear hg46
  refine lv_iconst (v := 0) hx hb dX10_leastBelow_7 (by decide) ?_
  refine lv_istore_n (lv' := [(3, .int 0), (0, .ref (ad 158)), (1, .int a1), (2, .int 0)]) hx hb dX10_leastBelow_8 rfl hl (by decide) rfl (fun ls hl => ?_)
  exact L9 ((6 - (0 : Int)).toNat + 1) 0 H locs ls w44 (show 0 ≤ a1.toInt by omega) (show a1.toInt ≤ 7 by omega) (by decide) (by decide) (Nat.lt_succ_self _) hw hT hF  (lv_sub hl [1, 2, 3, 0] rfl)
abbrev P_X10_layRoads_39 (ad : Nat → Nat) (cy : Nat → ClassId) (B : Int) (qr : Nat) (s1 : Int) (a2 : Int32) (w0 : va_W) : va_W → Prop := fun u => TW ksC ad cy B qr s1 u ∧ FE ksC [(51, 0, 10)] w0 u ∧ ((True))
set_option maxHeartbeats 4000000 in
set_option maxRecDepth 100000 in
theorem k_X10_layRoads_39 (l : Launch) (adK adV : Nat → Nat) (dC : Nat → ClassId) (dI : Nat → Nat → Nat) (cy : Nat → ClassId) (ad : Nat → Nat) (B : Int) (hB0 : 2147483648 ≤ B) (hB1 : B ≤ 1152921504606846976) (qr : Nat) (s1 : Int)  (a2 : Int32) (ra2 : 0 ≤ a2.toInt) (ta2 : a2.toInt ≤ 255) (w0 : va_W) (sz : Nat) (hT : TW ksC ad cy B qr s1 w0)  : Met l yX10_layRoads wsX10_layRoads ({ frames := 1, cells := 0, slots := 0, locals := 12 }) (va_Pc [.ref (ad 158), .int 0, .int a2, .int (-1)] (wpreS adK adV dC dI cy sz w0)) (va_Qv (P_X10_layRoads_39 ad cy B qr s1 a2 w0) (fun u : va_W => wpost dC dI cy (va_A w0 sz) u) (va_A w0 sz)) 0 0 (va_A w0 sz) := by
  refine Met.ofW (cc := cX10_layRoads) (maxL := 8) (ret := none) (by decide) rfl ?_
  intro p e s m args below meth c s₁ Bk hml hv
  obtain ⟨rfl, ⟨hsz, hP, hK, hD0⟩, hE, hSR⟩ := hv
  have hx := Bk.exec
  have hb := Bk.bytes
  have hr := Bk.returns
  have hlocks := Bk.notSynchronized
  have hC : CallFix p m c cX10_layRoads 8 s _ wsX10_layRoads RX10 := ⟨hx, hb, hml, findClass_of_methodNamed Bk.named, atoms_spec (ws := wsX10_layRoads) Bk.pre⟩
  subst hsz
  have hD := hD0.self (sz := s.heap.size)
  generalize hAe : va_A w0 s.heap.size = A at hD hE ⊢
  have hA : ∀ q : Nat, s.heap.size ≤ q → A q := fun q h => by rw [← hAe]; exact Or.inr h
  have hw : Wd dC dI A s.heap s.heap [] w0 := ⟨hP, hD, va_S.rf⟩
  have hF : FE ksC [(51, 0, 10)] w0 w0 := FE.rf
  have hl := lv_entry ([.ref (ad 158), .int 0, .int a2, .int (-1)]) (n := 8) (Nat.le_of_ble_eq_true rfl)
  rw [lg_entry_eq]
  generalize (lg_sl ([.ref (ad 158), .int 0, .int a2, .int (-1)]) ++ List.replicate (8 - (lg_sl ([.ref (ad 158), .int 0, .int a2, .int (-1)])).length) Slot.unset).toArray = ls at hl ⊢
  have hl : lv_has ls 8 [(0, .ref (ad 158)), (1, .int 0), (2, .int a2), (3, .int (-1))] := hl
  generalize hloc : ([] : List Loc) = locs at hw ⊢
  have hinX10 : ∀ w ∈ u_ws RX10 TX10 5, w ∈ wsX10_layRoads := fun _ h => List.mem_cons_of_mem _ (List.mem_append_left _ (List.mem_append_right _ (h)))
  have hinX7 : ∀ w ∈ u_ws RX7 TX7 12, w ∈ wsX10_layRoads := fun _ h => List.mem_cons_of_mem _ (List.mem_append_right _ (h))
  have L27 : ∀ (n27 : Nat) (v27_4 : Int32) (H : Heap) (locs : List Loc) (ls : Array Slot) (w1 : va_W), 0 ≤ a2.toInt → a2.toInt ≤ 255 → 0 ≤ v27_4.toInt → v27_4.toInt ≤ 12 → (12 - v27_4.toInt).toNat < n27 → Wd dC dI A s.heap H locs w1 → TW ksC ad cy B qr s1 w1 → FE ksC [(51, 0, 10)] w0 w1 → lv_has ls 8 [(0, .ref (ad 158)), (1, .int 0), (2, .int a2), (3, .int (-1)), (4, .int v27_4)] → W p l e ({ frames := 1, cells := 0, slots := 0, locals := 12 }) s m (List.toArray [.ref (ad 158), .int 0, .int a2, .int (-1)]) below meth c H locs 0 0 (MQ below (va_Qv (P_X10_layRoads_39 ad cy B qr s1 a2 w0) (fun u : va_W => wpost dC dI cy A u) A) (List.toArray [.ref (ad 158), .int 0, .int a2, .int (-1)]) s 0 0 A) (F0 m 27 ls []) := by
    intro n27
    induction n27 with
    | zero => intro v27_4 H locs ls w1 r2 t3 r4 t5 hm27 hw hT hF hl; omega
    | succ n27 ih27 =>
      intro v27_4 H locs ls w1 r2 t3 r4 t5 hm27 hw hT hF hl
      have J144 : ∀ (v144_5 : Int32) (v144_6 : Int32) (v144_7 : Int32) (f144_158_4 : Int32) (H : Heap) (locs : List Loc) (ls : Array Slot) (w6 : va_W), 0 ≤ a2.toInt → a2.toInt ≤ 255 → 0 ≤ v27_4.toInt → v27_4.toInt ≤ 11 → 0 ≤ v144_5.toInt → v144_5.toInt ≤ 9 → 0 ≤ v144_6.toInt → v144_6.toInt ≤ 9 → 0 ≤ v144_7.toInt → v144_7.toInt ≤ 1 → 1 ≤ f144_158_4.toInt → f144_158_4.toInt ≤ 12 → Wd dC dI A s.heap H locs w6 → TW ksC ad cy B qr s1 w6 → FE ksC [(51, 0, 10)] w0 w6 → gi w6 158 4 = f144_158_4 → lv_has ls 8 [(0, .ref (ad 158)), (1, .int 0), (2, .int a2), (3, .int (-1)), (4, .int v27_4), (5, .int v144_5), (6, .int v144_6), (7, .int v144_7)] → W p l e ({ frames := 1, cells := 0, slots := 0, locals := 12 }) s m (List.toArray [.ref (ad 158), .int 0, .int a2, .int (-1)]) below meth c H locs 0 0 (MQ below (va_Qv (P_X10_layRoads_39 ad cy B qr s1 a2 w0) (fun u : va_W => wpost dC dI cy A u) A) (List.toArray [.ref (ad 158), .int 0, .int a2, .int (-1)]) s 0 0 A) (F0 m 144 ls []) := by
        intro v144_5 v144_6 v144_7 f144_158_4 H locs ls w6 r7 t8 r9 t10 r11 t12 r13 t14 r15 t16 r17 t18 hw hT hF c19 hl
        obtain ⟨x20, ex20⟩ : ∃ y : Int32, y = v27_4 + Int32.ofInt 1 := ⟨_, rfl⟩
        refine lv_iinc (v := x20) (lv' := [(4, .int x20), (0, .ref (ad 158)), (1, .int 0), (2, .int a2), (3, .int (-1)), (5, .int v144_5), (6, .int v144_6), (7, .int v144_7)]) hx hb dX10_layRoads_144 hl (k := 4) rfl ex20.symm (by decide) rfl (fun ls hl => ?_)
        have ex20 : x20.toInt = v27_4.toInt + 1 := by rw [ex20]; exact wk_add (y := 1) (show -2147483648 ≤ v27_4.toInt + 1 by omega) (show v27_4.toInt + 1 ≤ 2147483647 by omega)
        refine lv_goto (tgt := 27) hx hb dX10_layRoads_147 (by decide) ?_
        exact ih27 x20 H locs ls w6 (show 0 ≤ a2.toInt by omega) (show a2.toInt ≤ 255 by omega) (show 0 ≤ x20.toInt by omega) (show x20.toInt ≤ 12 by omega) (show (12 - x20.toInt).toNat < n27 by omega) hw hT hF  (lv_sub hl [1, 2, 3, 4, 0] rfl)
      have J130 : ∀ (v130_5 : Int32) (v130_6 : Int32) (f130_158_4 : Int32) (H : Heap) (locs : List Loc) (ls : Array Slot) (w21 : va_W), 0 ≤ a2.toInt → a2.toInt ≤ 255 → 0 ≤ v27_4.toInt → v27_4.toInt ≤ 11 → 0 ≤ v130_5.toInt → v130_5.toInt ≤ 9 → 0 ≤ v130_6.toInt → v130_6.toInt ≤ 9 → 1 ≤ f130_158_4.toInt → f130_158_4.toInt ≤ 12 → Wd dC dI A s.heap H locs w21 → TW ksC ad cy B qr s1 w21 → FE ksC [(51, 0, 10)] w0 w21 → gi w21 158 4 = f130_158_4 → lv_has ls 8 [(0, .ref (ad 158)), (1, .int 0), (2, .int a2), (3, .int (-1)), (4, .int v27_4), (5, .int v130_5), (6, .int v130_6), (7, .int 1)] → W p l e ({ frames := 1, cells := 0, slots := 0, locals := 12 }) s m (List.toArray [.ref (ad 158), .int 0, .int a2, .int (-1)]) below meth c H locs 0 0 (MQ below (va_Qv (P_X10_layRoads_39 ad cy B qr s1 a2 w0) (fun u : va_W => wpost dC dI cy A u) A) (List.toArray [.ref (ad 158), .int 0, .int a2, .int (-1)]) s 0 0 A) (F0 m 130 ls []) := by
        intro v130_5 v130_6 f130_158_4 H locs ls w21 r22 t23 r24 t25 r26 t27 r28 t29 r30 t31 hw hT hF c32 hl
        refine lv_aload_n hx hb dX10_layRoads_130 rfl (lv_at hl 0 rfl) ?_
        refine tk_getA hC hK hw hT hinX10 kC_at158 (by decide) rfl 3 (by decide) (List.mem_of_getElem? (i := 1) rfl) rfl rfl dX10_layRoads_131 ?_
        refine lv_iload hx hb dX10_layRoads_134 (lv_at hl 6 rfl) ?_
        refine lv_dup2_11 hx hb dX10_layRoads_136 rfl rfl ?_
        refine tk_iald hC hK hw hT kC_at160 rfl rfl (show 0 ≤ v130_6.toInt by omega) (show v130_6.toInt < 10 by omega) dX10_layRoads_137 (fun x33 c34 rx33 tx33 => ?_)
        refine lv_iconst (v := 1) hx hb dX10_layRoads_138 (by decide) ?_
        refine lv_iload hx hb dX10_layRoads_139 (lv_at hl 5 rfl) ?_
        refine lv_ishl hx hb dX10_layRoads_141 ?_
        refine lv_topi (fun x35 ex35 => ?_)
        have bx35 : 1 ≤ x35.toInt ∧ x35.toInt ≤ 512 := by rw [ex35]; exact wk_shl1 9 (by decide) (by omega) (by omega)
        refine lv_ior hx hb dX10_layRoads_142 ?_
        refine lv_topi (fun x36 ex36 => ?_)
        have bx36 : 0 ≤ x36.toInt ∧ x36.toInt < 1024 := by rw [ex36]; exact wk_or 10 (by decide) (by omega) (by omega) (by omega) (by omega)
        refine tk_iast hC hK hw hT kC_at160 (by decide) rfl rfl (show 0 ≤ v130_6.toInt by omega) (show v130_6.toInt < 10 by omega) (show 0 ≤ x36.toInt by omega) (show x36.toInt ≤ 1023 by omega) dX10_layRoads_143 (fun H locs w37 hw hT k39 c38 => ?_)
        have hF := hF.put kC_at160 (inE_of (a := 0) (b := 10) (by decide) (show 0 ≤ v130_6.toInt.toNat by omega) (show v130_6.toInt.toNat ≤ 10 by omega)) k39
        have c40 := k39.gi (Or.inl (tk_ne kC_at158 kC_at160 (by decide))) c32
        exact J144 v130_5 v130_6 1 f130_158_4 H locs ls w37 (show 0 ≤ a2.toInt by omega) (show a2.toInt ≤ 255 by omega) (show 0 ≤ v27_4.toInt by omega) (show v27_4.toInt ≤ 11 by omega) (show 0 ≤ v130_5.toInt by omega) (show v130_5.toInt ≤ 9 by omega) (show 0 ≤ v130_6.toInt by omega) (show v130_6.toInt ≤ 9 by omega) (by decide) (by decide) (show 1 ≤ f130_158_4.toInt by omega) (show f130_158_4.toInt ≤ 12 by omega)  hw hT hF c40 (lv_sub hl [0, 1, 2, 3, 4, 5, 6, 7] rfl)
      have J118 : ∀ (v118_5 : Int32) (v118_6 : Int32) (v118_7 : Int32) (f118_158_4 : Int32) (H : Heap) (locs : List Loc) (ls : Array Slot) (w41 : va_W), 0 ≤ a2.toInt → a2.toInt ≤ 255 → 0 ≤ v27_4.toInt → v27_4.toInt ≤ 11 → 0 ≤ v118_5.toInt → v118_5.toInt ≤ 9 → 0 ≤ v118_6.toInt → v118_6.toInt ≤ 9 → 0 ≤ v118_7.toInt → v118_7.toInt ≤ 1 → 1 ≤ f118_158_4.toInt → f118_158_4.toInt ≤ 12 → Wd dC dI A s.heap H locs w41 → TW ksC ad cy B qr s1 w41 → FE ksC [(51, 0, 10)] w0 w41 → gi w41 158 4 = f118_158_4 → lv_has ls 8 [(0, .ref (ad 158)), (1, .int 0), (2, .int a2), (3, .int (-1)), (4, .int v27_4), (5, .int v118_5), (6, .int v118_6), (7, .int v118_7)] → W p l e ({ frames := 1, cells := 0, slots := 0, locals := 12 }) s m (List.toArray [.ref (ad 158), .int 0, .int a2, .int (-1)]) below meth c H locs 0 0 (MQ below (va_Qv (P_X10_layRoads_39 ad cy B qr s1 a2 w0) (fun u : va_W => wpost dC dI cy A u) A) (List.toArray [.ref (ad 158), .int 0, .int a2, .int (-1)]) s 0 0 A) (F0 m 118 ls []) := by
        intro v118_5 v118_6 v118_7 f118_158_4 H locs ls w41 r42 t43 r44 t45 r46 t47 r48 t49 r50 t51 r52 t53 hw hT hF c54 hl
        refine lv_iload hx hb dX10_layRoads_118 (lv_at hl 4 rfl) ?_
        refine lv_iload_n hx hb dX10_layRoads_120 rfl (lv_at hl 1 rfl) ?_
        refine lv_icmp_lt (tgt := 130) hx hb dX10_layRoads_121 (by decide) (fun c => absurd c (fun h => absurd (show v27_4.toInt < (0 : Int) from wk_lt.mp h) (by omega))) (fun _ => ?_)
        refine lv_iload hx hb dX10_layRoads_124 (lv_at hl 7 rfl) ?_
        refine lv_iconst (v := 1) hx hb dX10_layRoads_126 (by decide) ?_
        refine lv_icmp_ne (tgt := 144) hx hb dX10_layRoads_127 (by decide) (fun c55 => ?_) (fun c55 => ?_)
        · have c55 : ¬ v118_7.toInt = (1 : Int) := wk_eqF c55
          exact J144 v118_5 v118_6 v118_7 f118_158_4 H locs ls w41 (show 0 ≤ a2.toInt by omega) (show a2.toInt ≤ 255 by omega) (show 0 ≤ v27_4.toInt by omega) (show v27_4.toInt ≤ 11 by omega) (show 0 ≤ v118_5.toInt by omega) (show v118_5.toInt ≤ 9 by omega) (show 0 ≤ v118_6.toInt by omega) (show v118_6.toInt ≤ 9 by omega) (show 0 ≤ v118_7.toInt by omega) (show v118_7.toInt ≤ 1 by omega) (show 1 ≤ f118_158_4.toInt by omega) (show f118_158_4.toInt ≤ 12 by omega)  hw hT hF c54 (lv_sub hl [0, 1, 2, 3, 4, 5, 6, 7] rfl)
        · have c55 : v118_7.toInt = (1 : Int) := wk_eq.mp c55
          obtain rfl : v118_7 = 1 := wk_eq.mpr (show v118_7.toInt = 1 by omega)
          exact J130 v118_5 v118_6 f118_158_4 H locs ls w41 (show 0 ≤ a2.toInt by omega) (show a2.toInt ≤ 255 by omega) (show 0 ≤ v27_4.toInt by omega) (show v27_4.toInt ≤ 11 by omega) (show 0 ≤ v118_5.toInt by omega) (show v118_5.toInt ≤ 9 by omega) (show 0 ≤ v118_6.toInt by omega) (show v118_6.toInt ≤ 9 by omega) (show 1 ≤ f118_158_4.toInt by omega) (show f118_158_4.toInt ≤ 12 by omega)  hw hT hF c54 (lv_sub hl [0, 1, 2, 3, 4, 5, 6, 7] rfl)
      have J104 : ∀ (v104_5 : Int32) (v104_6 : Int32) (f104_158_4 : Int32) (H : Heap) (locs : List Loc) (ls : Array Slot) (w56 : va_W), 0 ≤ a2.toInt → a2.toInt ≤ 255 → 0 ≤ v27_4.toInt → v27_4.toInt ≤ 11 → 0 ≤ v104_5.toInt → v104_5.toInt ≤ 9 → 0 ≤ v104_6.toInt → v104_6.toInt ≤ 9 → 1 ≤ f104_158_4.toInt → f104_158_4.toInt ≤ 12 → Wd dC dI A s.heap H locs w56 → TW ksC ad cy B qr s1 w56 → FE ksC [(51, 0, 10)] w0 w56 → gi w56 158 4 = f104_158_4 → lv_has ls 8 [(0, .ref (ad 158)), (1, .int 0), (2, .int a2), (3, .int (-1)), (4, .int v27_4), (5, .int v104_5), (6, .int v104_6), (7, .int 0)] → W p l e ({ frames := 1, cells := 0, slots := 0, locals := 12 }) s m (List.toArray [.ref (ad 158), .int 0, .int a2, .int (-1)]) below meth c H locs 0 0 (MQ below (va_Qv (P_X10_layRoads_39 ad cy B qr s1 a2 w0) (fun u : va_W => wpost dC dI cy A u) A) (List.toArray [.ref (ad 158), .int 0, .int a2, .int (-1)]) s 0 0 A) (F0 m 104 ls []) := by
        intro v104_5 v104_6 f104_158_4 H locs ls w56 r57 t58 r59 t60 r61 t62 r63 t64 r65 t66 hw hT hF c67 hl
        refine lv_aload_n hx hb dX10_layRoads_104 rfl (lv_at hl 0 rfl) ?_
        refine tk_getA hC hK hw hT hinX10 kC_at158 (by decide) rfl 3 (by decide) (List.mem_of_getElem? (i := 1) rfl) rfl rfl dX10_layRoads_105 ?_
        refine lv_iload hx hb dX10_layRoads_108 (lv_at hl 5 rfl) ?_
        refine lv_dup2_11 hx hb dX10_layRoads_110 rfl rfl ?_
        refine tk_iald hC hK hw hT kC_at160 rfl rfl (show 0 ≤ v104_5.toInt by omega) (show v104_5.toInt < 10 by omega) dX10_layRoads_111 (fun x68 c69 rx68 tx68 => ?_)
        refine lv_iconst (v := 1) hx hb dX10_layRoads_112 (by decide) ?_
        refine lv_iload hx hb dX10_layRoads_113 (lv_at hl 6 rfl) ?_
        refine lv_ishl hx hb dX10_layRoads_115 ?_
        refine lv_topi (fun x70 ex70 => ?_)
        have bx70 : 1 ≤ x70.toInt ∧ x70.toInt ≤ 512 := by rw [ex70]; exact wk_shl1 9 (by decide) (by omega) (by omega)
        refine lv_ior hx hb dX10_layRoads_116 ?_
        refine lv_topi (fun x71 ex71 => ?_)
        have bx71 : 0 ≤ x71.toInt ∧ x71.toInt < 1024 := by rw [ex71]; exact wk_or 10 (by decide) (by omega) (by omega) (by omega) (by omega)
        refine tk_iast hC hK hw hT kC_at160 (by decide) rfl rfl (show 0 ≤ v104_5.toInt by omega) (show v104_5.toInt < 10 by omega) (show 0 ≤ x71.toInt by omega) (show x71.toInt ≤ 1023 by omega) dX10_layRoads_117 (fun H locs w72 hw hT k74 c73 => ?_)
        have hF := hF.put kC_at160 (inE_of (a := 0) (b := 10) (by decide) (show 0 ≤ v104_5.toInt.toNat by omega) (show v104_5.toInt.toNat ≤ 10 by omega)) k74
        have c75 := k74.gi (Or.inl (tk_ne kC_at158 kC_at160 (by decide))) c67
        exact J118 v104_5 v104_6 0 f104_158_4 H locs ls w72 (show 0 ≤ a2.toInt by omega) (show a2.toInt ≤ 255 by omega) (show 0 ≤ v27_4.toInt by omega) (show v27_4.toInt ≤ 11 by omega) (show 0 ≤ v104_5.toInt by omega) (show v104_5.toInt ≤ 9 by omega) (show 0 ≤ v104_6.toInt by omega) (show v104_6.toInt ≤ 9 by omega) (by decide) (by decide) (show 1 ≤ f104_158_4.toInt by omega) (show f104_158_4.toInt ≤ 12 by omega)  hw hT hF c75 (lv_sub hl [0, 1, 2, 3, 4, 5, 6, 7] rfl)
      refine lv_iload hx hb dX10_layRoads_27 (lv_at hl 4 rfl) ?_
      refine lv_aload_n hx hb dX10_layRoads_29 rfl (lv_at hl 0 rfl) ?_
      refine tk_geti hC hK hw hT hinX10 kC_at158 (by decide) rfl 4 (by decide) (List.mem_of_getElem? (i := 2) rfl) rfl rfl dX10_layRoads_30 (fun x76 c77 rx76 tx76 => ?_)
      refine lv_icmp_ge (tgt := 150) hx hb dX10_layRoads_33 (by decide) (fun c78 => ?_) (fun c78 => ?_)
      · have c78 : x76.toInt ≤ v27_4.toInt := wk_le.mp c78
        exact tk_vret hC hr hlocks hK ⟨hT, hF, trivial⟩ hw dX10_layRoads_150
      · have c78 : v27_4.toInt < x76.toInt := wk_leF c78
        refine lv_iload hx hb dX10_layRoads_36 (lv_at hl 4 rfl) ?_
        refine lv_iload_n hx hb dX10_layRoads_38 rfl (lv_at hl 3 rfl) ?_
        refine lv_icmp_ne (tgt := 45) hx hb dX10_layRoads_39 (by decide) (fun _ => ?_) (fun c => absurd (show v27_4.toInt = (-1 : Int) from wk_eq.mp c) (by omega))
        refine lv_aload_n hx hb dX10_layRoads_45 rfl (lv_at hl 0 rfl) ?_
        refine tk_getA hC hK hw hT hinX10 kC_at158 (by decide) rfl 1 (by decide) (List.mem_of_getElem? (i := 3) rfl) rfl rfl dX10_layRoads_46 ?_
        refine tk_getO hC hK hw hT hinX7 kC_at39 (by decide) rfl 0 (by decide) (List.mem_of_getElem? (i := 4) rfl) rfl rfl dX10_layRoads_49 ?_
        refine lv_iconst (v := 2) hx hb dX10_layRoads_52 (by decide) ?_
        refine lv_aload_n hx hb dX10_layRoads_53 rfl (lv_at hl 0 rfl) ?_
        refine tk_getA hC hK hw hT hinX10 kC_at158 (by decide) rfl 2 (by decide) (List.mem_of_getElem? (i := 5) rfl) rfl rfl dX10_layRoads_54 ?_
        refine lv_iload hx hb dX10_layRoads_57 (lv_at hl 4 rfl) ?_
        refine tk_iald hC hK hw hT kC_at159 rfl rfl (show 0 ≤ v27_4.toInt by omega) (show v27_4.toInt < 12 by omega) dX10_layRoads_59 (fun x79 c80 rx79 tx79 => ?_)
        refine lv_imul hx hb dX10_layRoads_60 ?_
        refine lv_topi (fun x81 ex81 => ?_)
        have ex81 : x81.toInt = (2 : Int) * x79.toInt := by rw [ex81]; exact wk_mul (show (-2147483648) ≤ (2 : Int) * x79.toInt by omega) (show (2 : Int) * x79.toInt ≤ 2147483647 by omega)
        refine tk_iald hC hK hw hT kC_at40 rfl rfl (show 0 ≤ x81.toInt by omega) (show x81.toInt < 26 by omega) dX10_layRoads_61 (fun x82 c83 rx82 tx82 => ?_)
        refine lv_istore (lv' := [(5, .int x82), (0, .ref (ad 158)), (1, .int 0), (2, .int a2), (3, .int (-1)), (4, .int v27_4)]) hx hb dX10_layRoads_62 hl (by decide) rfl (fun ls hl => ?_)
        refine lv_aload_n hx hb dX10_layRoads_64 rfl (lv_at hl 1 rfl) ?_
        refine tk_getA hC hK hw hT hinX10 kC_at158 (by decide) rfl 1 (by decide) (List.mem_of_getElem? (i := 3) rfl) rfl rfl dX10_layRoads_65 ?_
        refine tk_getO hC hK hw hT hinX7 kC_at39 (by decide) rfl 0 (by decide) (List.mem_of_getElem? (i := 4) rfl) rfl rfl dX10_layRoads_68 ?_
        refine lv_iconst (v := 2) hx hb dX10_layRoads_71 (by decide) ?_
        refine lv_aload_n hx hb dX10_layRoads_72 rfl (lv_at hl 1 rfl) ?_
        refine tk_getA hC hK hw hT hinX10 kC_at158 (by decide) rfl 2 (by decide) (List.mem_of_getElem? (i := 5) rfl) rfl rfl dX10_layRoads_73 ?_
        refine lv_iload hx hb dX10_layRoads_76 (lv_at hl 5 rfl) ?_
        refine tk_iald hC hK hw hT kC_at159 rfl rfl (show 0 ≤ v27_4.toInt by omega) (show v27_4.toInt < 12 by omega) dX10_layRoads_78 (fun x84 c85 rx84 tx84 => ?_)
        refine lv_imul hx hb dX10_layRoads_79 ?_
        refine lv_topi (fun x86 ex86 => ?_)
        have ex86 : x86.toInt = (2 : Int) * x84.toInt := by rw [ex86]; exact wk_mul (show (-2147483648) ≤ (2 : Int) * x84.toInt by omega) (show (2 : Int) * x84.toInt ≤ 2147483647 by omega)
        refine lv_iconst (v := 1) hx hb dX10_layRoads_80 (by decide) ?_
        refine lv_iadd hx hb dX10_layRoads_81 ?_
        refine lv_topi (fun x87 ex87 => ?_)
        have ex87 : x87.toInt = x86.toInt + (1 : Int) := by rw [ex87]; exact wk_add (show (-2147483648) ≤ x86.toInt + (1 : Int) by omega) (show x86.toInt + (1 : Int) ≤ 2147483647 by omega)
        refine tk_iald hC hK hw hT kC_at40 rfl rfl (show 0 ≤ x87.toInt by omega) (show x87.toInt < 26 by omega) dX10_layRoads_82 (fun x88 c89 rx88 tx88 => ?_)
        refine lv_istore (lv' := [(6, .int x88), (5, .int x82), (0, .ref (ad 158)), (1, .int 0), (2, .int a2), (3, .int (-1)), (4, .int v27_4)]) hx hb dX10_layRoads_83 hl (by decide) rfl (fun ls hl => ?_)
        refine lv_iload_n hx hb dX10_layRoads_85 rfl (lv_at hl 4 rfl) ?_
        refine lv_iload hx hb dX10_layRoads_86 (lv_at hl 6 rfl) ?_
        refine lv_ishr hx hb dX10_layRoads_88 ?_
        refine lv_topi (fun x90 ex90 => ?_)
        have bx90 : 0 ≤ x90.toInt ∧ x90.toInt ≤ a2.toInt := by rw [ex90]; exact wk_shr (by omega)
        refine lv_iconst (v := 1) hx hb dX10_layRoads_89 (by decide) ?_
        refine lv_iand hx hb dX10_layRoads_90 ?_
        refine lv_topi (fun x91 ex91 => ?_)
        have bx91 : 0 ≤ x91.toInt ∧ x91.toInt ≤ (1 : Int) := by rw [ex91]; exact wk_and (by decide)
        refine lv_istore (lv' := [(7, .int x91), (6, .int x88), (5, .int x82), (0, .ref (ad 158)), (1, .int 0), (2, .int a2), (3, .int (-1)), (4, .int v27_4)]) hx hb dX10_layRoads_91 hl (by decide) rfl (fun ls hl => ?_)
        refine lv_iload hx hb dX10_layRoads_93 (lv_at hl 7 rfl) ?_
        refine lv_iload_n hx hb dX10_layRoads_95 rfl (lv_at hl 4 rfl) ?_
        refine lv_icmp_lt (tgt := 104) hx hb dX10_layRoads_96 (by decide) (fun c => absurd c (fun h => absurd (show v27_4.toInt < (0 : Int) from wk_lt.mp h) (by omega))) (fun _ => ?_)
        refine lv_iload hx hb dX10_layRoads_99 (lv_at hl 0 rfl) ?_
        refine lv_if_ne (tgt := 118) hx hb dX10_layRoads_101 (by decide) (fun c92 => ?_) (fun c92 => ?_)
        · have c92 : ¬ x91.toInt = (0 : Int) := wk_eqF c92
          exact J118 x82 x88 x91 x76 H locs ls w1 (show 0 ≤ a2.toInt by omega) (show a2.toInt ≤ 255 by omega) (show 0 ≤ v27_4.toInt by omega) (show v27_4.toInt ≤ 11 by omega) (show 0 ≤ x82.toInt by omega) (show x82.toInt ≤ 9 by omega) (show 0 ≤ x88.toInt by omega) (show x88.toInt ≤ 9 by omega) (show 0 ≤ x91.toInt by omega) (show x91.toInt ≤ 1 by omega) (show 1 ≤ x76.toInt by omega) (show x76.toInt ≤ 12 by omega)  hw hT hF c77 (lv_sub hl [3, 4, 5, 6, 7, 2, 1, 0] rfl)
        · have c92 : x91.toInt = (0 : Int) := wk_eq.mp c92
          obtain rfl : x91 = 0 := wk_eq.mpr (show x91.toInt = 0 by omega)
          exact J104 x82 x88 x76 H locs ls w1 (show 0 ≤ a2.toInt by omega) (show a2.toInt ≤ 255 by omega) (show 0 ≤ v27_4.toInt by omega) (show v27_4.toInt ≤ 11 by omega) (show 0 ≤ x82.toInt by omega) (show x82.toInt ≤ 9 by omega) (show 0 ≤ x88.toInt by omega) (show x88.toInt ≤ 9 by omega) (show 1 ≤ x76.toInt by omega) (show x76.toInt ≤ 12 by omega)  hw hT hF c77 (lv_sub hl [3, 4, 5, 6, 7, 2, 1, 0] rfl)
  have L3 : ∀ (n3 : Nat) (v3_4 : Int32) (H : Heap) (locs : List Loc) (ls : Array Slot) (w93 : va_W), 0 ≤ a2.toInt → a2.toInt ≤ 255 → 0 ≤ v3_4.toInt → v3_4.toInt ≤ 10 → (10 - v3_4.toInt).toNat < n3 → Wd dC dI A s.heap H locs w93 → TW ksC ad cy B qr s1 w93 → FE ksC [(51, 0, 10)] w0 w93 → lv_has ls 8 [(0, .ref (ad 158)), (1, .int 0), (2, .int a2), (3, .int (-1)), (4, .int v3_4)] → W p l e ({ frames := 1, cells := 0, slots := 0, locals := 12 }) s m (List.toArray [.ref (ad 158), .int 0, .int a2, .int (-1)]) below meth c H locs 0 0 (MQ below (va_Qv (P_X10_layRoads_39 ad cy B qr s1 a2 w0) (fun u : va_W => wpost dC dI cy A u) A) (List.toArray [.ref (ad 158), .int 0, .int a2, .int (-1)]) s 0 0 A) (F0 m 3 ls []) := by
    intro n3
    induction n3 with
    | zero => intro v3_4 H locs ls w93 r94 t95 r96 t97 hm3 hw hT hF hl; omega
    | succ n3 ih3 =>
      intro v3_4 H locs ls w93 r94 t95 r96 t97 hm3 hw hT hF hl
      refine lv_iload hx hb dX10_layRoads_3 (lv_at hl 4 rfl) ?_
      refine lv_bipush (v := 10) hx hb dX10_layRoads_5 (by decide) ?_
      refine lv_icmp_ge (tgt := 24) hx hb dX10_layRoads_7 (by decide) (fun c98 => ?_) (fun c98 => ?_)
      · have c98 : (10 : Int) ≤ v3_4.toInt := wk_le.mp c98
        refine lv_iconst (v := 0) hx hb dX10_layRoads_24 (by decide) ?_
        refine lv_istore (lv' := [(4, .int 0), (0, .ref (ad 158)), (1, .int 0), (2, .int a2), (3, .int (-1))]) hx hb dX10_layRoads_25 hl (by decide) rfl (fun ls hl => ?_)
        exact L27 ((12 - (0 : Int)).toNat + 1) 0 H locs ls w93 (show 0 ≤ a2.toInt by omega) (show a2.toInt ≤ 255 by omega) (by decide) (by decide) (Nat.lt_succ_self _) hw hT hF  (lv_sub hl [1, 2, 3, 4, 0] rfl)
      · have c98 : v3_4.toInt < (10 : Int) := wk_leF c98
        refine lv_aload_n hx hb dX10_layRoads_10 rfl (lv_at hl 0 rfl) ?_
        refine tk_getA hC hK hw hT hinX10 kC_at158 (by decide) rfl 3 (by decide) (List.mem_of_getElem? (i := 1) rfl) rfl rfl dX10_layRoads_11 ?_
        refine lv_iload hx hb dX10_layRoads_14 (lv_at hl 4 rfl) ?_
        refine lv_iconst (v := 0) hx hb dX10_layRoads_16 (by decide) ?_
        refine tk_iast hC hK hw hT kC_at160 (by decide) rfl rfl (show 0 ≤ v3_4.toInt by omega) (show v3_4.toInt < 10 by omega) (by decide) (by decide) dX10_layRoads_17 (fun H locs w99 hw hT k101 c100 => ?_)
        have hF := hF.put kC_at160 (inE_of (a := 0) (b := 10) (by decide) (show 0 ≤ v3_4.toInt.toNat by omega) (show v3_4.toInt.toNat ≤ 10 by omega)) k101
        obtain ⟨x102, ex102⟩ : ∃ y : Int32, y = v3_4 + Int32.ofInt 1 := ⟨_, rfl⟩
        refine lv_iinc (v := x102) (lv' := [(4, .int x102), (0, .ref (ad 158)), (1, .int 0), (2, .int a2), (3, .int (-1))]) hx hb dX10_layRoads_18 hl (k := 4) rfl ex102.symm (by decide) rfl (fun ls hl => ?_)
        have ex102 : x102.toInt = v3_4.toInt + 1 := by rw [ex102]; exact wk_add (y := 1) (show -2147483648 ≤ v3_4.toInt + 1 by omega) (show v3_4.toInt + 1 ≤ 2147483647 by omega)
        refine lv_goto (tgt := 3) hx hb dX10_layRoads_21 (by decide) ?_
        exact ih3 x102 H locs ls w99 (show 0 ≤ a2.toInt by omega) (show a2.toInt ≤ 255 by omega) (show 0 ≤ x102.toInt by omega) (show x102.toInt ≤ 10 by omega) (show (10 - x102.toInt).toNat < n3 by omega) hw hT hF  (lv_sub hl [1, 2, 3, 4, 0] rfl)
  refine lv_iconst (v := 0) hx hb dX10_layRoads_0 (by decide) ?_
  refine lv_istore (lv' := [(4, .int 0), (0, .ref (ad 158)), (1, .int 0), (2, .int a2), (3, .int (-1))]) hx hb dX10_layRoads_1 hl (by decide) rfl (fun ls hl => ?_)
  exact L3 ((10 - (0 : Int)).toNat + 1) 0 s.heap locs ls w0 (show 0 ≤ a2.toInt by omega) (show a2.toInt ≤ 255 by omega) (by decide) (by decide) (Nat.lt_succ_self _) hw hT hF  (lv_sub hl [1, 2, 3, 4, 0] rfl)
abbrev P_X10_leastBelow_49 (ad : Nat → Nat) (cy : Nat → ClassId) (B : Int) (qr : Nat) (s1 : Int) (a2 : Int32) (w0 : va_W) : Int32 → va_W → Prop := fun r u => TW ksC ad cy B qr s1 u ∧ FE ksC [(51, 0, 10)] w0 u ∧ ((0 ≤ r.toInt ∧ r.toInt ≤ 255) ∨ (r = (-1) ∧ (∃ y : Int32, gi u 38 10 = y ∧ 1 ≤ y.toInt ∧ y.toInt ≤ 6)))
set_option maxHeartbeats 4000000 in
set_option maxRecDepth 100000 in
theorem k_X10_leastBelow_49 (l : Launch) (adK adV : Nat → Nat) (dC : Nat → ClassId) (dI : Nat → Nat → Nat) (cy : Nat → ClassId) (ad : Nat → Nat) (B : Int) (hB0 : 2147483648 ≤ B) (hB1 : B ≤ 1152921504606846976) (qr : Nat) (s1 : Int)  (a2 : Int32) (ra2 : 0 ≤ a2.toInt) (ta2 : a2.toInt ≤ 255) (w0 : va_W) (sz : Nat) (hT : TW ksC ad cy B qr s1 w0)  : Met l yX10_leastBelow wsX10_leastBelow ({ frames := 3, cells := 0, slots := 0, locals := 59 }) (va_Pc [.ref (ad 158), .int 0, .int a2] (wpreS adK adV dC dI cy sz w0)) (va_Qi (P_X10_leastBelow_49 ad cy B qr s1 a2 w0) (fun u : va_W => wpost dC dI cy (va_A w0 sz) u) (va_A w0 sz)) 0 0 (va_A w0 sz) := by
  refine Met.ofW (cc := cX10_leastBelow) (maxL := 4) (ret := (some .int)) (by decide) rfl ?_
  intro p e s m args below meth c s₁ Bk hml hv
  obtain ⟨rfl, ⟨hsz, hP, hK, hD0⟩, hE, hSR⟩ := hv
  have hx := Bk.exec
  have hb := Bk.bytes
  have hr := Bk.returns
  have hlocks := Bk.notSynchronized
  have hC : CallFix p m c cX10_leastBelow 4 s _ wsX10_leastBelow RX10 := ⟨hx, hb, hml, findClass_of_methodNamed Bk.named, atoms_spec (ws := wsX10_leastBelow) Bk.pre⟩
  subst hsz
  have hD := hD0.self (sz := s.heap.size)
  generalize hAe : va_A w0 s.heap.size = A at hD hE ⊢
  have hA : ∀ q : Nat, s.heap.size ≤ q → A q := fun q h => by rw [← hAe]; exact Or.inr h
  have hw : Wd dC dI A s.heap s.heap [] w0 := ⟨hP, hD, va_S.rf⟩
  have hF : FE ksC [(51, 0, 10)] w0 w0 := FE.rf
  have hl := lv_entry ([.ref (ad 158), .int 0, .int a2]) (n := 4) (Nat.le_of_ble_eq_true rfl)
  rw [lg_entry_eq]
  generalize (lg_sl ([.ref (ad 158), .int 0, .int a2]) ++ List.replicate (4 - (lg_sl ([.ref (ad 158), .int 0, .int a2])).length) Slot.unset).toArray = ls at hl ⊢
  have hl : lv_has ls 4 [(0, .ref (ad 158)), (1, .int 0), (2, .int a2)] := hl
  generalize hloc : ([] : List Loc) = locs at hw ⊢
  have hinX10 : ∀ w ∈ u_ws RX10 TX10 5, w ∈ wsX10_leastBelow := fun _ h => List.mem_cons_of_mem _ (List.mem_append_left _ (List.mem_append_left _ (List.mem_append_right _ (h))))
  have hinX5 : ∀ w ∈ u_ws RX5 TX5 14, w ∈ wsX10_leastBelow := fun _ h => List.mem_cons_of_mem _ (List.mem_append_left _ (List.mem_append_right _ (h)))
  have L9 : ∀ (n9 : Nat) (v9_3 : Int32) (H : Heap) (locs : List Loc) (ls : Array Slot) (w1 : va_W), 0 ≤ a2.toInt → a2.toInt ≤ 255 → 0 ≤ v9_3.toInt → v9_3.toInt ≤ 6 → (6 - v9_3.toInt).toNat < n9 → Wd dC dI A s.heap H locs w1 → TW ksC ad cy B qr s1 w1 → FE ksC [(51, 0, 10)] w0 w1 → lv_has ls 4 [(0, .ref (ad 158)), (1, .int 0), (2, .int a2), (3, .int v9_3)] → W p l e ({ frames := 3, cells := 0, slots := 0, locals := 59 }) s m (List.toArray [.ref (ad 158), .int 0, .int a2]) below meth c H locs 0 0 (MQ below (va_Qi (P_X10_leastBelow_49 ad cy B qr s1 a2 w0) (fun u : va_W => wpost dC dI cy A u) A) (List.toArray [.ref (ad 158), .int 0, .int a2]) s 0 0 A) (F0 m 9 ls []) := by
    intro n9
    induction n9 with
    | zero => intro v9_3 H locs ls w1 r2 t3 r4 t5 hm9 hw hT hF hl; omega
    | succ n9 ih9 =>
      intro v9_3 H locs ls w1 r2 t3 r4 t5 hm9 hw hT hF hl
      refine lv_iload_n hx hb dX10_leastBelow_9 rfl (lv_at hl 3 rfl) ?_
      refine lv_aload_n hx hb dX10_leastBelow_10 rfl (lv_at hl 0 rfl) ?_
      refine tk_getA hC hK hw hT hinX10 kC_at158 (by decide) rfl 0 (by decide) (List.mem_of_getElem? (i := 1) rfl) rfl rfl dX10_leastBelow_11 ?_
      refine tk_geti hC hK hw hT hinX5 kC_at38 (by decide) rfl 10 (by decide) (List.mem_of_getElem? (i := 2) rfl) rfl rfl dX10_leastBelow_14 (fun x6 c7 rx6 tx6 => ?_)
      refine lv_icmp_ge (tgt := 36) hx hb dX10_leastBelow_17 (by decide) (fun c8 => ?_) (fun c8 => ?_)
      · have c8 : x6.toInt ≤ v9_3.toInt := wk_le.mp c8
        refine lv_iload_n hx hb dX10_leastBelow_36 rfl (lv_at hl 1 rfl) ?_
        refine lv_if_gt (tgt := 42) hx hb dX10_leastBelow_37 (by decide) (fun c => absurd c (by decide)) (fun _ => ?_)
        refine lv_iload_n hx hb dX10_leastBelow_40 rfl (lv_at hl 2 rfl) ?_
        exact tk_iret hC hr hlocks hK ⟨hT, hF, (Or.inl ⟨(show 0 ≤ a2.toInt by omega), (show a2.toInt ≤ 255 by omega)⟩)⟩ hw dX10_leastBelow_41
      · have c8 : v9_3.toInt < x6.toInt := wk_leF c8
        refine lv_aload_n hx hb dX10_leastBelow_20 rfl (lv_at hl 0 rfl) ?_
        refine lv_iload_n hx hb dX10_leastBelow_21 rfl (lv_at hl 3 rfl) ?_
        refine tk_Vi hC hK hw hT hA hE hSR kC_at158 (by decide) rfl (k_X10_canDo_1 l adK adV dC dI cy ad B (by omega) (by omega) qr s1   v9_3 (show 0 ≤ v9_3.toInt by omega) (show v9_3.toInt ≤ 5 by omega) w1 H.size hT ) (cwV 1 hC.2.2.2.2 gX10_leastBelow_X10_canDo rfl rfl rfl (by decide +kernel) ⟨Nat.le_of_ble_eq_true rfl, Nat.le_of_ble_eq_true rfl⟩) rfl hl.1 rfl (Nat.le_of_ble_eq_true rfl) dX10_leastBelow_22 (fun r9 w11 H locs hp10 hw => ?_)
        obtain ⟨hT, k12, hg13⟩ := hp10
        have hF := hF.tr k12 (by decide)
        have c14 := k12.gi kC_at38 (by decide) c7
        rcases hg13 with rfl | rfl
        · refine lv_if_ne (tgt := 30) hx hb dX10_leastBelow_25 (by decide) (fun c => absurd (by decide) c) (fun _ => ?_)
          refine lv_iconst (v := (-1)) hx hb dX10_leastBelow_28 (by decide) ?_
          exact tk_iret hC hr hlocks hK ⟨hT, hF, (Or.inr ⟨rfl, ⟨x6, c14, (show 1 ≤ x6.toInt by omega), (show x6.toInt ≤ 6 by omega)⟩⟩)⟩ hw dX10_leastBelow_29
        · refine lv_if_ne (tgt := 30) hx hb dX10_leastBelow_25 (by decide) (fun _ => ?_) (fun c => absurd c (by decide))
          obtain ⟨x15, ex15⟩ : ∃ y : Int32, y = v9_3 + Int32.ofInt 1 := ⟨_, rfl⟩
          refine lv_iinc (v := x15) (lv' := [(3, .int x15), (0, .ref (ad 158)), (1, .int 0), (2, .int a2)]) hx hb dX10_leastBelow_30 hl (k := 3) rfl ex15.symm (by decide) rfl (fun ls hl => ?_)
          have ex15 : x15.toInt = v9_3.toInt + 1 := by rw [ex15]; exact wk_add (y := 1) (show -2147483648 ≤ v9_3.toInt + 1 by omega) (show v9_3.toInt + 1 ≤ 2147483647 by omega)
          refine lv_goto (tgt := 9) hx hb dX10_leastBelow_33 (by decide) ?_
          exact ih9 x15 H locs ls w11 (show 0 ≤ a2.toInt by omega) (show a2.toInt ≤ 255 by omega) (show 0 ≤ x15.toInt by omega) (show x15.toInt ≤ 6 by omega) (show (6 - x15.toInt).toNat < n9 by omega) hw hT hF  (lv_sub hl [1, 2, 3, 0] rfl)
  refine lv_aload_n hx hb dX10_leastBelow_0 rfl (lv_at hl 0 rfl) ?_
  refine lv_iload_n hx hb dX10_leastBelow_1 rfl (lv_at hl 1 rfl) ?_
  refine lv_iload_n hx hb dX10_leastBelow_2 rfl (lv_at hl 2 rfl) ?_
  refine lv_iconst (v := (-1)) hx hb dX10_leastBelow_3 (by decide) ?_
  refine tk_Vv hC hK hw hT hA hE hSR kC_at158 (by decide) rfl (k_X10_layRoads_39 l adK adV dC dI cy ad B (by omega) (by omega) qr s1   a2 (show 0 ≤ a2.toInt by omega) (show a2.toInt ≤ 255 by omega) w0 s.heap.size hT ) (cwV 3 hC.2.2.2.2 gX10_leastBelow_X10_layRoads rfl rfl rfl (by decide +kernel) ⟨Nat.le_of_ble_eq_true rfl, Nat.le_of_ble_eq_true rfl⟩) rfl hl.1 rfl (Nat.le_of_ble_eq_true rfl) dX10_leastBelow_4 (fun w18 H locs hp17 hw => ?_)
  obtain ⟨hT, k19, hg20⟩ := hp17
  have hF := hF.tr k19 (by decide)
  clear hg20
  refine lv_iconst (v := 0) hx hb dX10_leastBelow_7 (by decide) ?_
  refine lv_istore_n (lv' := [(3, .int 0), (0, .ref (ad 158)), (1, .int 0), (2, .int a2)]) hx hb dX10_leastBelow_8 rfl hl (by decide) rfl (fun ls hl => ?_)
  exact L9 ((6 - (0 : Int)).toNat + 1) 0 H locs ls w18 (show 0 ≤ a2.toInt by omega) (show a2.toInt ≤ 255 by omega) (by decide) (by decide) (Nat.lt_succ_self _) hw hT hF  (lv_sub hl [1, 2, 3, 0] rfl)
abbrev P_X10_layRoads_40 (ad : Nat → Nat) (cy : Nat → ClassId) (B : Int) (qr : Nat) (s1 : Int) (a1 : Int32) (a2 : Int32) (w0 : va_W) : va_W → Prop := fun u => TW ksC ad cy B qr s1 u ∧ FE ksC [(51, 0, 10)] w0 u ∧ ((True))
set_option maxHeartbeats 4000000 in
set_option maxRecDepth 100000 in
theorem k_X10_layRoads_40 (l : Launch) (adK adV : Nat → Nat) (dC : Nat → ClassId) (dI : Nat → Nat → Nat) (cy : Nat → ClassId) (ad : Nat → Nat) (B : Int) (hB0 : 2147483648 ≤ B) (hB1 : B ≤ 1152921504606846976) (qr : Nat) (s1 : Int)  (a1 : Int32) (ra1 : 0 ≤ a1.toInt) (ta1 : a1.toInt ≤ 1) (a2 : Int32) (ra2 : 0 ≤ a2.toInt) (ta2 : a2.toInt ≤ 255) (w0 : va_W) (sz : Nat) (hT : TW ksC ad cy B qr s1 w0)  : Met l yX10_layRoads wsX10_layRoads ({ frames := 1, cells := 0, slots := 0, locals := 12 }) (va_Pc [.ref (ad 158), .int a1, .int a2, .int (-1)] (wpreS adK adV dC dI cy sz w0)) (va_Qv (P_X10_layRoads_40 ad cy B qr s1 a1 a2 w0) (fun u : va_W => wpost dC dI cy (va_A w0 sz) u) (va_A w0 sz)) 0 0 (va_A w0 sz) := by
  refine Met.ofW (cc := cX10_layRoads) (maxL := 8) (ret := none) (by decide) rfl ?_
  intro p e s m args below meth c s₁ Bk hml hv
  obtain ⟨rfl, ⟨hsz, hP, hK, hD0⟩, hE, hSR⟩ := hv
  have hx := Bk.exec
  have hb := Bk.bytes
  have hr := Bk.returns
  have hlocks := Bk.notSynchronized
  have hC : CallFix p m c cX10_layRoads 8 s _ wsX10_layRoads RX10 := ⟨hx, hb, hml, findClass_of_methodNamed Bk.named, atoms_spec (ws := wsX10_layRoads) Bk.pre⟩
  subst hsz
  have hD := hD0.self (sz := s.heap.size)
  generalize hAe : va_A w0 s.heap.size = A at hD hE ⊢
  have hA : ∀ q : Nat, s.heap.size ≤ q → A q := fun q h => by rw [← hAe]; exact Or.inr h
  have hw : Wd dC dI A s.heap s.heap [] w0 := ⟨hP, hD, va_S.rf⟩
  have hF : FE ksC [(51, 0, 10)] w0 w0 := FE.rf
  have hl := lv_entry ([.ref (ad 158), .int a1, .int a2, .int (-1)]) (n := 8) (Nat.le_of_ble_eq_true rfl)
  rw [lg_entry_eq]
  generalize (lg_sl ([.ref (ad 158), .int a1, .int a2, .int (-1)]) ++ List.replicate (8 - (lg_sl ([.ref (ad 158), .int a1, .int a2, .int (-1)])).length) Slot.unset).toArray = ls at hl ⊢
  have hl : lv_has ls 8 [(0, .ref (ad 158)), (1, .int a1), (2, .int a2), (3, .int (-1))] := hl
  generalize hloc : ([] : List Loc) = locs at hw ⊢
  have hinX10 : ∀ w ∈ u_ws RX10 TX10 5, w ∈ wsX10_layRoads := fun _ h => List.mem_cons_of_mem _ (List.mem_append_left _ (List.mem_append_right _ (h)))
  have hinX7 : ∀ w ∈ u_ws RX7 TX7 12, w ∈ wsX10_layRoads := fun _ h => List.mem_cons_of_mem _ (List.mem_append_right _ (h))
  have L27 : ∀ (n27 : Nat) (v27_4 : Int32) (H : Heap) (locs : List Loc) (ls : Array Slot) (w1 : va_W), 0 ≤ a1.toInt → a1.toInt ≤ 1 → 0 ≤ a2.toInt → a2.toInt ≤ 255 → 0 ≤ v27_4.toInt → v27_4.toInt ≤ 12 → (12 - v27_4.toInt).toNat < n27 → Wd dC dI A s.heap H locs w1 → TW ksC ad cy B qr s1 w1 → FE ksC [(51, 0, 10)] w0 w1 → lv_has ls 8 [(0, .ref (ad 158)), (1, .int a1), (2, .int a2), (3, .int (-1)), (4, .int v27_4)] → W p l e ({ frames := 1, cells := 0, slots := 0, locals := 12 }) s m (List.toArray [.ref (ad 158), .int a1, .int a2, .int (-1)]) below meth c H locs 0 0 (MQ below (va_Qv (P_X10_layRoads_40 ad cy B qr s1 a1 a2 w0) (fun u : va_W => wpost dC dI cy A u) A) (List.toArray [.ref (ad 158), .int a1, .int a2, .int (-1)]) s 0 0 A) (F0 m 27 ls []) := by
    intro n27
    induction n27 with
    | zero => intro v27_4 H locs ls w1 r2 t3 r4 t5 r6 t7 hm27 hw hT hF hl; omega
    | succ n27 ih27 =>
      intro v27_4 H locs ls w1 r2 t3 r4 t5 r6 t7 hm27 hw hT hF hl
      have J144 : ∀ (v144_5 : Int32) (v144_6 : Int32) (v144_7 : Int32) (f144_158_4 : Int32) (H : Heap) (locs : List Loc) (ls : Array Slot) (w8 : va_W), 0 ≤ a1.toInt → a1.toInt ≤ 1 → 0 ≤ a2.toInt → a2.toInt ≤ 255 → 0 ≤ v27_4.toInt → v27_4.toInt ≤ 11 → 0 ≤ v144_5.toInt → v144_5.toInt ≤ 9 → 0 ≤ v144_6.toInt → v144_6.toInt ≤ 9 → 0 ≤ v144_7.toInt → v144_7.toInt ≤ 1 → 1 ≤ f144_158_4.toInt → f144_158_4.toInt ≤ 12 → Wd dC dI A s.heap H locs w8 → TW ksC ad cy B qr s1 w8 → FE ksC [(51, 0, 10)] w0 w8 → gi w8 158 4 = f144_158_4 → lv_has ls 8 [(0, .ref (ad 158)), (1, .int a1), (2, .int a2), (3, .int (-1)), (4, .int v27_4), (5, .int v144_5), (6, .int v144_6), (7, .int v144_7)] → W p l e ({ frames := 1, cells := 0, slots := 0, locals := 12 }) s m (List.toArray [.ref (ad 158), .int a1, .int a2, .int (-1)]) below meth c H locs 0 0 (MQ below (va_Qv (P_X10_layRoads_40 ad cy B qr s1 a1 a2 w0) (fun u : va_W => wpost dC dI cy A u) A) (List.toArray [.ref (ad 158), .int a1, .int a2, .int (-1)]) s 0 0 A) (F0 m 144 ls []) := by
        intro v144_5 v144_6 v144_7 f144_158_4 H locs ls w8 r9 t10 r11 t12 r13 t14 r15 t16 r17 t18 r19 t20 r21 t22 hw hT hF c23 hl
        obtain ⟨x24, ex24⟩ : ∃ y : Int32, y = v27_4 + Int32.ofInt 1 := ⟨_, rfl⟩
        refine lv_iinc (v := x24) (lv' := [(4, .int x24), (0, .ref (ad 158)), (1, .int a1), (2, .int a2), (3, .int (-1)), (5, .int v144_5), (6, .int v144_6), (7, .int v144_7)]) hx hb dX10_layRoads_144 hl (k := 4) rfl ex24.symm (by decide) rfl (fun ls hl => ?_)
        have ex24 : x24.toInt = v27_4.toInt + 1 := by rw [ex24]; exact wk_add (y := 1) (show -2147483648 ≤ v27_4.toInt + 1 by omega) (show v27_4.toInt + 1 ≤ 2147483647 by omega)
        refine lv_goto (tgt := 27) hx hb dX10_layRoads_147 (by decide) ?_
        exact ih27 x24 H locs ls w8 (show 0 ≤ a1.toInt by omega) (show a1.toInt ≤ 1 by omega) (show 0 ≤ a2.toInt by omega) (show a2.toInt ≤ 255 by omega) (show 0 ≤ x24.toInt by omega) (show x24.toInt ≤ 12 by omega) (show (12 - x24.toInt).toNat < n27 by omega) hw hT hF  (lv_sub hl [1, 2, 3, 4, 0] rfl)
      have J130 : ∀ (v130_5 : Int32) (v130_6 : Int32) (v130_7 : Int32) (f130_158_4 : Int32) (H : Heap) (locs : List Loc) (ls : Array Slot) (w25 : va_W), 0 ≤ a1.toInt → a1.toInt ≤ 1 → 0 ≤ a2.toInt → a2.toInt ≤ 255 → 0 ≤ v27_4.toInt → v27_4.toInt ≤ 11 → 0 ≤ v130_5.toInt → v130_5.toInt ≤ 9 → 0 ≤ v130_6.toInt → v130_6.toInt ≤ 9 → 0 ≤ v130_7.toInt → v130_7.toInt ≤ 1 → 1 ≤ f130_158_4.toInt → f130_158_4.toInt ≤ 12 → Wd dC dI A s.heap H locs w25 → TW ksC ad cy B qr s1 w25 → FE ksC [(51, 0, 10)] w0 w25 → gi w25 158 4 = f130_158_4 → lv_has ls 8 [(0, .ref (ad 158)), (1, .int a1), (2, .int a2), (3, .int (-1)), (4, .int v27_4), (5, .int v130_5), (6, .int v130_6), (7, .int v130_7)] → W p l e ({ frames := 1, cells := 0, slots := 0, locals := 12 }) s m (List.toArray [.ref (ad 158), .int a1, .int a2, .int (-1)]) below meth c H locs 0 0 (MQ below (va_Qv (P_X10_layRoads_40 ad cy B qr s1 a1 a2 w0) (fun u : va_W => wpost dC dI cy A u) A) (List.toArray [.ref (ad 158), .int a1, .int a2, .int (-1)]) s 0 0 A) (F0 m 130 ls []) := by
        intro v130_5 v130_6 v130_7 f130_158_4 H locs ls w25 r26 t27 r28 t29 r30 t31 r32 t33 r34 t35 r36 t37 r38 t39 hw hT hF c40 hl
        refine lv_aload_n hx hb dX10_layRoads_130 rfl (lv_at hl 0 rfl) ?_
        refine tk_getA hC hK hw hT hinX10 kC_at158 (by decide) rfl 3 (by decide) (List.mem_of_getElem? (i := 1) rfl) rfl rfl dX10_layRoads_131 ?_
        refine lv_iload hx hb dX10_layRoads_134 (lv_at hl 6 rfl) ?_
        refine lv_dup2_11 hx hb dX10_layRoads_136 rfl rfl ?_
        refine tk_iald hC hK hw hT kC_at160 rfl rfl (show 0 ≤ v130_6.toInt by omega) (show v130_6.toInt < 10 by omega) dX10_layRoads_137 (fun x41 c42 rx41 tx41 => ?_)
        refine lv_iconst (v := 1) hx hb dX10_layRoads_138 (by decide) ?_
        refine lv_iload hx hb dX10_layRoads_139 (lv_at hl 5 rfl) ?_
        refine lv_ishl hx hb dX10_layRoads_141 ?_
        refine lv_topi (fun x43 ex43 => ?_)
        have bx43 : 1 ≤ x43.toInt ∧ x43.toInt ≤ 512 := by rw [ex43]; exact wk_shl1 9 (by decide) (by omega) (by omega)
        refine lv_ior hx hb dX10_layRoads_142 ?_
        refine lv_topi (fun x44 ex44 => ?_)
        have bx44 : 0 ≤ x44.toInt ∧ x44.toInt < 1024 := by rw [ex44]; exact wk_or 10 (by decide) (by omega) (by omega) (by omega) (by omega)
        refine tk_iast hC hK hw hT kC_at160 (by decide) rfl rfl (show 0 ≤ v130_6.toInt by omega) (show v130_6.toInt < 10 by omega) (show 0 ≤ x44.toInt by omega) (show x44.toInt ≤ 1023 by omega) dX10_layRoads_143 (fun H locs w45 hw hT k47 c46 => ?_)
        have hF := hF.put kC_at160 (inE_of (a := 0) (b := 10) (by decide) (show 0 ≤ v130_6.toInt.toNat by omega) (show v130_6.toInt.toNat ≤ 10 by omega)) k47
        have c48 := k47.gi (Or.inl (tk_ne kC_at158 kC_at160 (by decide))) c40
        exact J144 v130_5 v130_6 v130_7 f130_158_4 H locs ls w45 (show 0 ≤ a1.toInt by omega) (show a1.toInt ≤ 1 by omega) (show 0 ≤ a2.toInt by omega) (show a2.toInt ≤ 255 by omega) (show 0 ≤ v27_4.toInt by omega) (show v27_4.toInt ≤ 11 by omega) (show 0 ≤ v130_5.toInt by omega) (show v130_5.toInt ≤ 9 by omega) (show 0 ≤ v130_6.toInt by omega) (show v130_6.toInt ≤ 9 by omega) (show 0 ≤ v130_7.toInt by omega) (show v130_7.toInt ≤ 1 by omega) (show 1 ≤ f130_158_4.toInt by omega) (show f130_158_4.toInt ≤ 12 by omega)  hw hT hF c48 (lv_sub hl [0, 1, 2, 3, 4, 5, 6, 7] rfl)
      have J118 : ∀ (v118_5 : Int32) (v118_6 : Int32) (v118_7 : Int32) (f118_158_4 : Int32) (H : Heap) (locs : List Loc) (ls : Array Slot) (w49 : va_W), 0 ≤ a1.toInt → a1.toInt ≤ 1 → 0 ≤ a2.toInt → a2.toInt ≤ 255 → 0 ≤ v27_4.toInt → v27_4.toInt ≤ 11 → 0 ≤ v118_5.toInt → v118_5.toInt ≤ 9 → 0 ≤ v118_6.toInt → v118_6.toInt ≤ 9 → 0 ≤ v118_7.toInt → v118_7.toInt ≤ 1 → 1 ≤ f118_158_4.toInt → f118_158_4.toInt ≤ 12 → Wd dC dI A s.heap H locs w49 → TW ksC ad cy B qr s1 w49 → FE ksC [(51, 0, 10)] w0 w49 → gi w49 158 4 = f118_158_4 → lv_has ls 8 [(0, .ref (ad 158)), (1, .int a1), (2, .int a2), (3, .int (-1)), (4, .int v27_4), (5, .int v118_5), (6, .int v118_6), (7, .int v118_7)] → W p l e ({ frames := 1, cells := 0, slots := 0, locals := 12 }) s m (List.toArray [.ref (ad 158), .int a1, .int a2, .int (-1)]) below meth c H locs 0 0 (MQ below (va_Qv (P_X10_layRoads_40 ad cy B qr s1 a1 a2 w0) (fun u : va_W => wpost dC dI cy A u) A) (List.toArray [.ref (ad 158), .int a1, .int a2, .int (-1)]) s 0 0 A) (F0 m 118 ls []) := by
        intro v118_5 v118_6 v118_7 f118_158_4 H locs ls w49 r50 t51 r52 t53 r54 t55 r56 t57 r58 t59 r60 t61 r62 t63 hw hT hF c64 hl
        refine lv_iload hx hb dX10_layRoads_118 (lv_at hl 4 rfl) ?_
        refine lv_iload_n hx hb dX10_layRoads_120 rfl (lv_at hl 1 rfl) ?_
        refine lv_icmp_lt (tgt := 130) hx hb dX10_layRoads_121 (by decide) (fun c65 => ?_) (fun c65 => ?_)
        · have c65 : v27_4.toInt < a1.toInt := wk_lt.mp c65
          exact J130 v118_5 v118_6 v118_7 f118_158_4 H locs ls w49 (show 0 ≤ a1.toInt by omega) (show a1.toInt ≤ 1 by omega) (show 0 ≤ a2.toInt by omega) (show a2.toInt ≤ 255 by omega) (show 0 ≤ v27_4.toInt by omega) (show v27_4.toInt ≤ 11 by omega) (show 0 ≤ v118_5.toInt by omega) (show v118_5.toInt ≤ 9 by omega) (show 0 ≤ v118_6.toInt by omega) (show v118_6.toInt ≤ 9 by omega) (show 0 ≤ v118_7.toInt by omega) (show v118_7.toInt ≤ 1 by omega) (show 1 ≤ f118_158_4.toInt by omega) (show f118_158_4.toInt ≤ 12 by omega)  hw hT hF c64 (lv_sub hl [0, 1, 2, 3, 4, 5, 6, 7] rfl)
        · have c65 : a1.toInt ≤ v27_4.toInt := wk_ltF c65
          refine lv_iload hx hb dX10_layRoads_124 (lv_at hl 7 rfl) ?_
          refine lv_iconst (v := 1) hx hb dX10_layRoads_126 (by decide) ?_
          refine lv_icmp_ne (tgt := 144) hx hb dX10_layRoads_127 (by decide) (fun c66 => ?_) (fun c66 => ?_)
          · have c66 : ¬ v118_7.toInt = (1 : Int) := wk_eqF c66
            exact J144 v118_5 v118_6 v118_7 f118_158_4 H locs ls w49 (show 0 ≤ a1.toInt by omega) (show a1.toInt ≤ 1 by omega) (show 0 ≤ a2.toInt by omega) (show a2.toInt ≤ 255 by omega) (show 0 ≤ v27_4.toInt by omega) (show v27_4.toInt ≤ 11 by omega) (show 0 ≤ v118_5.toInt by omega) (show v118_5.toInt ≤ 9 by omega) (show 0 ≤ v118_6.toInt by omega) (show v118_6.toInt ≤ 9 by omega) (show 0 ≤ v118_7.toInt by omega) (show v118_7.toInt ≤ 1 by omega) (show 1 ≤ f118_158_4.toInt by omega) (show f118_158_4.toInt ≤ 12 by omega)  hw hT hF c64 (lv_sub hl [0, 1, 2, 3, 4, 5, 6, 7] rfl)
          · have c66 : v118_7.toInt = (1 : Int) := wk_eq.mp c66
            exact J130 v118_5 v118_6 v118_7 f118_158_4 H locs ls w49 (show 0 ≤ a1.toInt by omega) (show a1.toInt ≤ 1 by omega) (show 0 ≤ a2.toInt by omega) (show a2.toInt ≤ 255 by omega) (show 0 ≤ v27_4.toInt by omega) (show v27_4.toInt ≤ 11 by omega) (show 0 ≤ v118_5.toInt by omega) (show v118_5.toInt ≤ 9 by omega) (show 0 ≤ v118_6.toInt by omega) (show v118_6.toInt ≤ 9 by omega) (show 0 ≤ v118_7.toInt by omega) (show v118_7.toInt ≤ 1 by omega) (show 1 ≤ f118_158_4.toInt by omega) (show f118_158_4.toInt ≤ 12 by omega)  hw hT hF c64 (lv_sub hl [0, 1, 2, 3, 4, 5, 6, 7] rfl)
      have J104 : ∀ (v104_5 : Int32) (v104_6 : Int32) (v104_7 : Int32) (f104_158_4 : Int32) (H : Heap) (locs : List Loc) (ls : Array Slot) (w67 : va_W), 0 ≤ a1.toInt → a1.toInt ≤ 1 → 0 ≤ a2.toInt → a2.toInt ≤ 255 → 0 ≤ v27_4.toInt → v27_4.toInt ≤ 11 → 0 ≤ v104_5.toInt → v104_5.toInt ≤ 9 → 0 ≤ v104_6.toInt → v104_6.toInt ≤ 9 → 0 ≤ v104_7.toInt → v104_7.toInt ≤ 1 → 1 ≤ f104_158_4.toInt → f104_158_4.toInt ≤ 12 → Wd dC dI A s.heap H locs w67 → TW ksC ad cy B qr s1 w67 → FE ksC [(51, 0, 10)] w0 w67 → gi w67 158 4 = f104_158_4 → lv_has ls 8 [(0, .ref (ad 158)), (1, .int a1), (2, .int a2), (3, .int (-1)), (4, .int v27_4), (5, .int v104_5), (6, .int v104_6), (7, .int v104_7)] → W p l e ({ frames := 1, cells := 0, slots := 0, locals := 12 }) s m (List.toArray [.ref (ad 158), .int a1, .int a2, .int (-1)]) below meth c H locs 0 0 (MQ below (va_Qv (P_X10_layRoads_40 ad cy B qr s1 a1 a2 w0) (fun u : va_W => wpost dC dI cy A u) A) (List.toArray [.ref (ad 158), .int a1, .int a2, .int (-1)]) s 0 0 A) (F0 m 104 ls []) := by
        intro v104_5 v104_6 v104_7 f104_158_4 H locs ls w67 r68 t69 r70 t71 r72 t73 r74 t75 r76 t77 r78 t79 r80 t81 hw hT hF c82 hl
        refine lv_aload_n hx hb dX10_layRoads_104 rfl (lv_at hl 0 rfl) ?_
        refine tk_getA hC hK hw hT hinX10 kC_at158 (by decide) rfl 3 (by decide) (List.mem_of_getElem? (i := 1) rfl) rfl rfl dX10_layRoads_105 ?_
        refine lv_iload hx hb dX10_layRoads_108 (lv_at hl 5 rfl) ?_
        refine lv_dup2_11 hx hb dX10_layRoads_110 rfl rfl ?_
        refine tk_iald hC hK hw hT kC_at160 rfl rfl (show 0 ≤ v104_5.toInt by omega) (show v104_5.toInt < 10 by omega) dX10_layRoads_111 (fun x83 c84 rx83 tx83 => ?_)
        refine lv_iconst (v := 1) hx hb dX10_layRoads_112 (by decide) ?_
        refine lv_iload hx hb dX10_layRoads_113 (lv_at hl 6 rfl) ?_
        refine lv_ishl hx hb dX10_layRoads_115 ?_
        refine lv_topi (fun x85 ex85 => ?_)
        have bx85 : 1 ≤ x85.toInt ∧ x85.toInt ≤ 512 := by rw [ex85]; exact wk_shl1 9 (by decide) (by omega) (by omega)
        refine lv_ior hx hb dX10_layRoads_116 ?_
        refine lv_topi (fun x86 ex86 => ?_)
        have bx86 : 0 ≤ x86.toInt ∧ x86.toInt < 1024 := by rw [ex86]; exact wk_or 10 (by decide) (by omega) (by omega) (by omega) (by omega)
        refine tk_iast hC hK hw hT kC_at160 (by decide) rfl rfl (show 0 ≤ v104_5.toInt by omega) (show v104_5.toInt < 10 by omega) (show 0 ≤ x86.toInt by omega) (show x86.toInt ≤ 1023 by omega) dX10_layRoads_117 (fun H locs w87 hw hT k89 c88 => ?_)
        have hF := hF.put kC_at160 (inE_of (a := 0) (b := 10) (by decide) (show 0 ≤ v104_5.toInt.toNat by omega) (show v104_5.toInt.toNat ≤ 10 by omega)) k89
        have c90 := k89.gi (Or.inl (tk_ne kC_at158 kC_at160 (by decide))) c82
        exact J118 v104_5 v104_6 v104_7 f104_158_4 H locs ls w87 (show 0 ≤ a1.toInt by omega) (show a1.toInt ≤ 1 by omega) (show 0 ≤ a2.toInt by omega) (show a2.toInt ≤ 255 by omega) (show 0 ≤ v27_4.toInt by omega) (show v27_4.toInt ≤ 11 by omega) (show 0 ≤ v104_5.toInt by omega) (show v104_5.toInt ≤ 9 by omega) (show 0 ≤ v104_6.toInt by omega) (show v104_6.toInt ≤ 9 by omega) (show 0 ≤ v104_7.toInt by omega) (show v104_7.toInt ≤ 1 by omega) (show 1 ≤ f104_158_4.toInt by omega) (show f104_158_4.toInt ≤ 12 by omega)  hw hT hF c90 (lv_sub hl [0, 1, 2, 3, 4, 5, 6, 7] rfl)
      refine lv_iload hx hb dX10_layRoads_27 (lv_at hl 4 rfl) ?_
      refine lv_aload_n hx hb dX10_layRoads_29 rfl (lv_at hl 0 rfl) ?_
      refine tk_geti hC hK hw hT hinX10 kC_at158 (by decide) rfl 4 (by decide) (List.mem_of_getElem? (i := 2) rfl) rfl rfl dX10_layRoads_30 (fun x91 c92 rx91 tx91 => ?_)
      refine lv_icmp_ge (tgt := 150) hx hb dX10_layRoads_33 (by decide) (fun c93 => ?_) (fun c93 => ?_)
      · have c93 : x91.toInt ≤ v27_4.toInt := wk_le.mp c93
        exact tk_vret hC hr hlocks hK ⟨hT, hF, trivial⟩ hw dX10_layRoads_150
      · have c93 : v27_4.toInt < x91.toInt := wk_leF c93
        refine lv_iload hx hb dX10_layRoads_36 (lv_at hl 4 rfl) ?_
        refine lv_iload_n hx hb dX10_layRoads_38 rfl (lv_at hl 3 rfl) ?_
        refine lv_icmp_ne (tgt := 45) hx hb dX10_layRoads_39 (by decide) (fun _ => ?_) (fun c => absurd (show v27_4.toInt = (-1 : Int) from wk_eq.mp c) (by omega))
        refine lv_aload_n hx hb dX10_layRoads_45 rfl (lv_at hl 0 rfl) ?_
        refine tk_getA hC hK hw hT hinX10 kC_at158 (by decide) rfl 1 (by decide) (List.mem_of_getElem? (i := 3) rfl) rfl rfl dX10_layRoads_46 ?_
        refine tk_getO hC hK hw hT hinX7 kC_at39 (by decide) rfl 0 (by decide) (List.mem_of_getElem? (i := 4) rfl) rfl rfl dX10_layRoads_49 ?_
        refine lv_iconst (v := 2) hx hb dX10_layRoads_52 (by decide) ?_
        refine lv_aload_n hx hb dX10_layRoads_53 rfl (lv_at hl 0 rfl) ?_
        refine tk_getA hC hK hw hT hinX10 kC_at158 (by decide) rfl 2 (by decide) (List.mem_of_getElem? (i := 5) rfl) rfl rfl dX10_layRoads_54 ?_
        refine lv_iload hx hb dX10_layRoads_57 (lv_at hl 4 rfl) ?_
        refine tk_iald hC hK hw hT kC_at159 rfl rfl (show 0 ≤ v27_4.toInt by omega) (show v27_4.toInt < 12 by omega) dX10_layRoads_59 (fun x94 c95 rx94 tx94 => ?_)
        refine lv_imul hx hb dX10_layRoads_60 ?_
        refine lv_topi (fun x96 ex96 => ?_)
        have ex96 : x96.toInt = (2 : Int) * x94.toInt := by rw [ex96]; exact wk_mul (show (-2147483648) ≤ (2 : Int) * x94.toInt by omega) (show (2 : Int) * x94.toInt ≤ 2147483647 by omega)
        refine tk_iald hC hK hw hT kC_at40 rfl rfl (show 0 ≤ x96.toInt by omega) (show x96.toInt < 26 by omega) dX10_layRoads_61 (fun x97 c98 rx97 tx97 => ?_)
        refine lv_istore (lv' := [(5, .int x97), (0, .ref (ad 158)), (1, .int a1), (2, .int a2), (3, .int (-1)), (4, .int v27_4)]) hx hb dX10_layRoads_62 hl (by decide) rfl (fun ls hl => ?_)
        refine lv_aload_n hx hb dX10_layRoads_64 rfl (lv_at hl 1 rfl) ?_
        refine tk_getA hC hK hw hT hinX10 kC_at158 (by decide) rfl 1 (by decide) (List.mem_of_getElem? (i := 3) rfl) rfl rfl dX10_layRoads_65 ?_
        refine tk_getO hC hK hw hT hinX7 kC_at39 (by decide) rfl 0 (by decide) (List.mem_of_getElem? (i := 4) rfl) rfl rfl dX10_layRoads_68 ?_
        refine lv_iconst (v := 2) hx hb dX10_layRoads_71 (by decide) ?_
        refine lv_aload_n hx hb dX10_layRoads_72 rfl (lv_at hl 1 rfl) ?_
        refine tk_getA hC hK hw hT hinX10 kC_at158 (by decide) rfl 2 (by decide) (List.mem_of_getElem? (i := 5) rfl) rfl rfl dX10_layRoads_73 ?_
        refine lv_iload hx hb dX10_layRoads_76 (lv_at hl 5 rfl) ?_
        refine tk_iald hC hK hw hT kC_at159 rfl rfl (show 0 ≤ v27_4.toInt by omega) (show v27_4.toInt < 12 by omega) dX10_layRoads_78 (fun x99 c100 rx99 tx99 => ?_)
        refine lv_imul hx hb dX10_layRoads_79 ?_
        refine lv_topi (fun x101 ex101 => ?_)
        have ex101 : x101.toInt = (2 : Int) * x99.toInt := by rw [ex101]; exact wk_mul (show (-2147483648) ≤ (2 : Int) * x99.toInt by omega) (show (2 : Int) * x99.toInt ≤ 2147483647 by omega)
        refine lv_iconst (v := 1) hx hb dX10_layRoads_80 (by decide) ?_
        refine lv_iadd hx hb dX10_layRoads_81 ?_
        refine lv_topi (fun x102 ex102 => ?_)
        have ex102 : x102.toInt = x101.toInt + (1 : Int) := by rw [ex102]; exact wk_add (show (-2147483648) ≤ x101.toInt + (1 : Int) by omega) (show x101.toInt + (1 : Int) ≤ 2147483647 by omega)
        refine tk_iald hC hK hw hT kC_at40 rfl rfl (show 0 ≤ x102.toInt by omega) (show x102.toInt < 26 by omega) dX10_layRoads_82 (fun x103 c104 rx103 tx103 => ?_)
        refine lv_istore (lv' := [(6, .int x103), (5, .int x97), (0, .ref (ad 158)), (1, .int a1), (2, .int a2), (3, .int (-1)), (4, .int v27_4)]) hx hb dX10_layRoads_83 hl (by decide) rfl (fun ls hl => ?_)
        refine lv_iload_n hx hb dX10_layRoads_85 rfl (lv_at hl 4 rfl) ?_
        refine lv_iload hx hb dX10_layRoads_86 (lv_at hl 6 rfl) ?_
        refine lv_ishr hx hb dX10_layRoads_88 ?_
        refine lv_topi (fun x105 ex105 => ?_)
        have bx105 : 0 ≤ x105.toInt ∧ x105.toInt ≤ a2.toInt := by rw [ex105]; exact wk_shr (by omega)
        refine lv_iconst (v := 1) hx hb dX10_layRoads_89 (by decide) ?_
        refine lv_iand hx hb dX10_layRoads_90 ?_
        refine lv_topi (fun x106 ex106 => ?_)
        have bx106 : 0 ≤ x106.toInt ∧ x106.toInt ≤ (1 : Int) := by rw [ex106]; exact wk_and (by decide)
        refine lv_istore (lv' := [(7, .int x106), (6, .int x103), (5, .int x97), (0, .ref (ad 158)), (1, .int a1), (2, .int a2), (3, .int (-1)), (4, .int v27_4)]) hx hb dX10_layRoads_91 hl (by decide) rfl (fun ls hl => ?_)
        refine lv_iload hx hb dX10_layRoads_93 (lv_at hl 7 rfl) ?_
        refine lv_iload_n hx hb dX10_layRoads_95 rfl (lv_at hl 4 rfl) ?_
        refine lv_icmp_lt (tgt := 104) hx hb dX10_layRoads_96 (by decide) (fun c107 => ?_) (fun c107 => ?_)
        · have c107 : v27_4.toInt < a1.toInt := wk_lt.mp c107
          exact J104 x97 x103 x106 x91 H locs ls w1 (show 0 ≤ a1.toInt by omega) (show a1.toInt ≤ 1 by omega) (show 0 ≤ a2.toInt by omega) (show a2.toInt ≤ 255 by omega) (show 0 ≤ v27_4.toInt by omega) (show v27_4.toInt ≤ 11 by omega) (show 0 ≤ x97.toInt by omega) (show x97.toInt ≤ 9 by omega) (show 0 ≤ x103.toInt by omega) (show x103.toInt ≤ 9 by omega) (show 0 ≤ x106.toInt by omega) (show x106.toInt ≤ 1 by omega) (show 1 ≤ x91.toInt by omega) (show x91.toInt ≤ 12 by omega)  hw hT hF c92 (lv_sub hl [3, 4, 5, 6, 7, 2, 1, 0] rfl)
        · have c107 : a1.toInt ≤ v27_4.toInt := wk_ltF c107
          refine lv_iload hx hb dX10_layRoads_99 (lv_at hl 0 rfl) ?_
          refine lv_if_ne (tgt := 118) hx hb dX10_layRoads_101 (by decide) (fun c108 => ?_) (fun c108 => ?_)
          · have c108 : ¬ x106.toInt = (0 : Int) := wk_eqF c108
            exact J118 x97 x103 x106 x91 H locs ls w1 (show 0 ≤ a1.toInt by omega) (show a1.toInt ≤ 1 by omega) (show 0 ≤ a2.toInt by omega) (show a2.toInt ≤ 255 by omega) (show 0 ≤ v27_4.toInt by omega) (show v27_4.toInt ≤ 11 by omega) (show 0 ≤ x97.toInt by omega) (show x97.toInt ≤ 9 by omega) (show 0 ≤ x103.toInt by omega) (show x103.toInt ≤ 9 by omega) (show 0 ≤ x106.toInt by omega) (show x106.toInt ≤ 1 by omega) (show 1 ≤ x91.toInt by omega) (show x91.toInt ≤ 12 by omega)  hw hT hF c92 (lv_sub hl [3, 4, 5, 6, 7, 2, 1, 0] rfl)
          · have c108 : x106.toInt = (0 : Int) := wk_eq.mp c108
            exact J104 x97 x103 x106 x91 H locs ls w1 (show 0 ≤ a1.toInt by omega) (show a1.toInt ≤ 1 by omega) (show 0 ≤ a2.toInt by omega) (show a2.toInt ≤ 255 by omega) (show 0 ≤ v27_4.toInt by omega) (show v27_4.toInt ≤ 11 by omega) (show 0 ≤ x97.toInt by omega) (show x97.toInt ≤ 9 by omega) (show 0 ≤ x103.toInt by omega) (show x103.toInt ≤ 9 by omega) (show 0 ≤ x106.toInt by omega) (show x106.toInt ≤ 1 by omega) (show 1 ≤ x91.toInt by omega) (show x91.toInt ≤ 12 by omega)  hw hT hF c92 (lv_sub hl [3, 4, 5, 6, 7, 2, 1, 0] rfl)
  have L3 : ∀ (n3 : Nat) (v3_4 : Int32) (H : Heap) (locs : List Loc) (ls : Array Slot) (w109 : va_W), 0 ≤ a1.toInt → a1.toInt ≤ 1 → 0 ≤ a2.toInt → a2.toInt ≤ 255 → 0 ≤ v3_4.toInt → v3_4.toInt ≤ 10 → (10 - v3_4.toInt).toNat < n3 → Wd dC dI A s.heap H locs w109 → TW ksC ad cy B qr s1 w109 → FE ksC [(51, 0, 10)] w0 w109 → lv_has ls 8 [(0, .ref (ad 158)), (1, .int a1), (2, .int a2), (3, .int (-1)), (4, .int v3_4)] → W p l e ({ frames := 1, cells := 0, slots := 0, locals := 12 }) s m (List.toArray [.ref (ad 158), .int a1, .int a2, .int (-1)]) below meth c H locs 0 0 (MQ below (va_Qv (P_X10_layRoads_40 ad cy B qr s1 a1 a2 w0) (fun u : va_W => wpost dC dI cy A u) A) (List.toArray [.ref (ad 158), .int a1, .int a2, .int (-1)]) s 0 0 A) (F0 m 3 ls []) := by
    intro n3
    induction n3 with
    | zero => intro v3_4 H locs ls w109 r110 t111 r112 t113 r114 t115 hm3 hw hT hF hl; omega
    | succ n3 ih3 =>
      intro v3_4 H locs ls w109 r110 t111 r112 t113 r114 t115 hm3 hw hT hF hl
      refine lv_iload hx hb dX10_layRoads_3 (lv_at hl 4 rfl) ?_
      refine lv_bipush (v := 10) hx hb dX10_layRoads_5 (by decide) ?_
      refine lv_icmp_ge (tgt := 24) hx hb dX10_layRoads_7 (by decide) (fun c116 => ?_) (fun c116 => ?_)
      · have c116 : (10 : Int) ≤ v3_4.toInt := wk_le.mp c116
        refine lv_iconst (v := 0) hx hb dX10_layRoads_24 (by decide) ?_
        refine lv_istore (lv' := [(4, .int 0), (0, .ref (ad 158)), (1, .int a1), (2, .int a2), (3, .int (-1))]) hx hb dX10_layRoads_25 hl (by decide) rfl (fun ls hl => ?_)
        exact L27 ((12 - (0 : Int)).toNat + 1) 0 H locs ls w109 (show 0 ≤ a1.toInt by omega) (show a1.toInt ≤ 1 by omega) (show 0 ≤ a2.toInt by omega) (show a2.toInt ≤ 255 by omega) (by decide) (by decide) (Nat.lt_succ_self _) hw hT hF  (lv_sub hl [1, 2, 3, 4, 0] rfl)
      · have c116 : v3_4.toInt < (10 : Int) := wk_leF c116
        refine lv_aload_n hx hb dX10_layRoads_10 rfl (lv_at hl 0 rfl) ?_
        refine tk_getA hC hK hw hT hinX10 kC_at158 (by decide) rfl 3 (by decide) (List.mem_of_getElem? (i := 1) rfl) rfl rfl dX10_layRoads_11 ?_
        refine lv_iload hx hb dX10_layRoads_14 (lv_at hl 4 rfl) ?_
        refine lv_iconst (v := 0) hx hb dX10_layRoads_16 (by decide) ?_
        refine tk_iast hC hK hw hT kC_at160 (by decide) rfl rfl (show 0 ≤ v3_4.toInt by omega) (show v3_4.toInt < 10 by omega) (by decide) (by decide) dX10_layRoads_17 (fun H locs w117 hw hT k119 c118 => ?_)
        have hF := hF.put kC_at160 (inE_of (a := 0) (b := 10) (by decide) (show 0 ≤ v3_4.toInt.toNat by omega) (show v3_4.toInt.toNat ≤ 10 by omega)) k119
        obtain ⟨x120, ex120⟩ : ∃ y : Int32, y = v3_4 + Int32.ofInt 1 := ⟨_, rfl⟩
        refine lv_iinc (v := x120) (lv' := [(4, .int x120), (0, .ref (ad 158)), (1, .int a1), (2, .int a2), (3, .int (-1))]) hx hb dX10_layRoads_18 hl (k := 4) rfl ex120.symm (by decide) rfl (fun ls hl => ?_)
        have ex120 : x120.toInt = v3_4.toInt + 1 := by rw [ex120]; exact wk_add (y := 1) (show -2147483648 ≤ v3_4.toInt + 1 by omega) (show v3_4.toInt + 1 ≤ 2147483647 by omega)
        refine lv_goto (tgt := 3) hx hb dX10_layRoads_21 (by decide) ?_
        exact ih3 x120 H locs ls w117 (show 0 ≤ a1.toInt by omega) (show a1.toInt ≤ 1 by omega) (show 0 ≤ a2.toInt by omega) (show a2.toInt ≤ 255 by omega) (show 0 ≤ x120.toInt by omega) (show x120.toInt ≤ 10 by omega) (show (10 - x120.toInt).toNat < n3 by omega) hw hT hF  (lv_sub hl [1, 2, 3, 4, 0] rfl)
  refine lv_iconst (v := 0) hx hb dX10_layRoads_0 (by decide) ?_
  refine lv_istore (lv' := [(4, .int 0), (0, .ref (ad 158)), (1, .int a1), (2, .int a2), (3, .int (-1))]) hx hb dX10_layRoads_1 hl (by decide) rfl (fun ls hl => ?_)
  exact L3 ((10 - (0 : Int)).toNat + 1) 0 s.heap locs ls w0 (show 0 ≤ a1.toInt by omega) (show a1.toInt ≤ 1 by omega) (show 0 ≤ a2.toInt by omega) (show a2.toInt ≤ 255 by omega) (by decide) (by decide) (Nat.lt_succ_self _) hw hT hF  (lv_sub hl [1, 2, 3, 4, 0] rfl)
abbrev P_X10_leastBelow_48 (ad : Nat → Nat) (cy : Nat → ClassId) (B : Int) (qr : Nat) (s1 : Int) (a1 : Int32) (a2 : Int32) (w0 : va_W) : Int32 → va_W → Prop := fun r u => TW ksC ad cy B qr s1 u ∧ FE ksC [(51, 0, 10)] w0 u ∧ ((0 ≤ r.toInt ∧ r.toInt ≤ 255) ∨ (r = (-1) ∧ (∃ y : Int32, gi u 38 10 = y ∧ 1 ≤ y.toInt ∧ y.toInt ≤ 6)))
set_option maxHeartbeats 4000000 in
set_option maxRecDepth 100000 in
theorem k_X10_leastBelow_48 (l : Launch) (adK adV : Nat → Nat) (dC : Nat → ClassId) (dI : Nat → Nat → Nat) (cy : Nat → ClassId) (ad : Nat → Nat) (B : Int) (hB0 : 2147483648 ≤ B) (hB1 : B ≤ 1152921504606846976) (qr : Nat) (s1 : Int)  (a1 : Int32) (ra1 : 0 ≤ a1.toInt) (ta1 : a1.toInt ≤ 1) (a2 : Int32) (ra2 : 0 ≤ a2.toInt) (ta2 : a2.toInt ≤ 255) (w0 : va_W) (sz : Nat) (hT : TW ksC ad cy B qr s1 w0)  : Met l yX10_leastBelow wsX10_leastBelow ({ frames := 4, cells := 0, slots := 0, locals := 82 }) (va_Pc [.ref (ad 158), .int a1, .int a2] (wpreS adK adV dC dI cy sz w0)) (va_Qi (P_X10_leastBelow_48 ad cy B qr s1 a1 a2 w0) (fun u : va_W => wpost dC dI cy (va_A w0 sz) u) (va_A w0 sz)) 0 0 (va_A w0 sz) := by
  refine Met.ofW (cc := cX10_leastBelow) (maxL := 4) (ret := (some .int)) (by decide) rfl ?_
  intro p e s m args below meth c s₁ Bk hml hv
  obtain ⟨rfl, ⟨hsz, hP, hK, hD0⟩, hE, hSR⟩ := hv
  have hx := Bk.exec
  have hb := Bk.bytes
  have hr := Bk.returns
  have hlocks := Bk.notSynchronized
  have hC : CallFix p m c cX10_leastBelow 4 s _ wsX10_leastBelow RX10 := ⟨hx, hb, hml, findClass_of_methodNamed Bk.named, atoms_spec (ws := wsX10_leastBelow) Bk.pre⟩
  subst hsz
  have hD := hD0.self (sz := s.heap.size)
  generalize hAe : va_A w0 s.heap.size = A at hD hE ⊢
  have hA : ∀ q : Nat, s.heap.size ≤ q → A q := fun q h => by rw [← hAe]; exact Or.inr h
  have hw : Wd dC dI A s.heap s.heap [] w0 := ⟨hP, hD, va_S.rf⟩
  have hF : FE ksC [(51, 0, 10)] w0 w0 := FE.rf
  have hl := lv_entry ([.ref (ad 158), .int a1, .int a2]) (n := 4) (Nat.le_of_ble_eq_true rfl)
  rw [lg_entry_eq]
  generalize (lg_sl ([.ref (ad 158), .int a1, .int a2]) ++ List.replicate (4 - (lg_sl ([.ref (ad 158), .int a1, .int a2])).length) Slot.unset).toArray = ls at hl ⊢
  have hl : lv_has ls 4 [(0, .ref (ad 158)), (1, .int a1), (2, .int a2)] := hl
  generalize hloc : ([] : List Loc) = locs at hw ⊢
  have hinX10 : ∀ w ∈ u_ws RX10 TX10 5, w ∈ wsX10_leastBelow := fun _ h => List.mem_cons_of_mem _ (List.mem_append_left _ (List.mem_append_left _ (List.mem_append_right _ (h))))
  have hinX5 : ∀ w ∈ u_ws RX5 TX5 14, w ∈ wsX10_leastBelow := fun _ h => List.mem_cons_of_mem _ (List.mem_append_left _ (List.mem_append_right _ (h)))
  have L9 : ∀ (n9 : Nat) (v9_3 : Int32) (H : Heap) (locs : List Loc) (ls : Array Slot) (w1 : va_W), 0 ≤ a1.toInt → a1.toInt ≤ 1 → 0 ≤ a2.toInt → a2.toInt ≤ 255 → 0 ≤ v9_3.toInt → v9_3.toInt ≤ 6 → (6 - v9_3.toInt).toNat < n9 → Wd dC dI A s.heap H locs w1 → TW ksC ad cy B qr s1 w1 → FE ksC [(51, 0, 10)] w0 w1 → lv_has ls 4 [(0, .ref (ad 158)), (1, .int a1), (2, .int a2), (3, .int v9_3)] → W p l e ({ frames := 4, cells := 0, slots := 0, locals := 82 }) s m (List.toArray [.ref (ad 158), .int a1, .int a2]) below meth c H locs 0 0 (MQ below (va_Qi (P_X10_leastBelow_48 ad cy B qr s1 a1 a2 w0) (fun u : va_W => wpost dC dI cy A u) A) (List.toArray [.ref (ad 158), .int a1, .int a2]) s 0 0 A) (F0 m 9 ls []) := by
    intro n9
    induction n9 with
    | zero => intro v9_3 H locs ls w1 r2 t3 r4 t5 r6 t7 hm9 hw hT hF hl; omega
    | succ n9 ih9 =>
      intro v9_3 H locs ls w1 r2 t3 r4 t5 r6 t7 hm9 hw hT hF hl
      refine lv_iload_n hx hb dX10_leastBelow_9 rfl (lv_at hl 3 rfl) ?_
      refine lv_aload_n hx hb dX10_leastBelow_10 rfl (lv_at hl 0 rfl) ?_
      refine tk_getA hC hK hw hT hinX10 kC_at158 (by decide) rfl 0 (by decide) (List.mem_of_getElem? (i := 1) rfl) rfl rfl dX10_leastBelow_11 ?_
      refine tk_geti hC hK hw hT hinX5 kC_at38 (by decide) rfl 10 (by decide) (List.mem_of_getElem? (i := 2) rfl) rfl rfl dX10_leastBelow_14 (fun x8 c9 rx8 tx8 => ?_)
      refine lv_icmp_ge (tgt := 36) hx hb dX10_leastBelow_17 (by decide) (fun c10 => ?_) (fun c10 => ?_)
      · have c10 : x8.toInt ≤ v9_3.toInt := wk_le.mp c10
        refine lv_iload_n hx hb dX10_leastBelow_36 rfl (lv_at hl 1 rfl) ?_
        refine lv_if_gt (tgt := 42) hx hb dX10_leastBelow_37 (by decide) (fun c11 => ?_) (fun c11 => ?_)
        · have c11 : (0 : Int) < a1.toInt := wk_lt.mp c11
          refine lv_aload_n hx hb dX10_leastBelow_42 rfl (lv_at hl 0 rfl) ?_
          refine lv_iload_n hx hb dX10_leastBelow_43 rfl (lv_at hl 1 rfl) ?_
          refine lv_iconst (v := 1) hx hb dX10_leastBelow_44 (by decide) ?_
          refine lv_isub hx hb dX10_leastBelow_45 ?_
          refine lv_topi (fun x12 ex12 => ?_)
          have ex12 : x12.toInt = a1.toInt - (1 : Int) := by rw [ex12]; exact wk_sub (show (-2147483648) ≤ a1.toInt - (1 : Int) by omega) (show a1.toInt - (1 : Int) ≤ 2147483647 by omega)
          refine lv_iload_n hx hb dX10_leastBelow_46 rfl (lv_at hl 2 rfl) ?_
          refine tk_Vi hC hK hw hT hA hE hSR kC_at158 (by decide) rfl (k_X10_leastBelow_49 l adK adV dC dI cy ad B (by omega) (by omega) qr s1   a2 (show 0 ≤ a2.toInt by omega) (show a2.toInt ≤ 255 by omega) w1 H.size hT ) (cwV 2 hC.2.2.2.2 gX10_leastBelow_X10_leastBelow rfl rfl rfl (by decide +kernel) ⟨Nat.le_of_ble_eq_true rfl, Nat.le_of_ble_eq_true rfl⟩) rfl hl.1 rfl (Nat.le_of_ble_eq_true rfl) dX10_leastBelow_47 (fun r13 w15 H locs hp14 hw => ?_)
          obtain ⟨hT, k16, hg21⟩ := hp14
          have hF := hF.tr k16 (by decide)
          have c22 := k16.gi kC_at38 (by decide) c9
          rcases hg21 with ⟨g17, g18⟩ | ⟨rfl, ⟨x19, c20, rx19, tx19⟩⟩
          · refine lv_istore_n (lv' := [(3, .int r13), (0, .ref (ad 158)), (1, .int a1), (2, .int a2)]) hx hb dX10_leastBelow_50 rfl hl (by decide) rfl (fun ls hl => ?_)
            refine lv_iload_n hx hb dX10_leastBelow_51 rfl (lv_at hl 0 rfl) ?_
            refine lv_iconst (v := (-1)) hx hb dX10_leastBelow_52 (by decide) ?_
            refine lv_icmp_eq (tgt := 60) hx hb dX10_leastBelow_53 (by decide) (fun c => absurd c (fun h => absurd (show r13.toInt = (-1 : Int) from wk_eq.mp h) (by omega))) (fun _ => ?_)
            refine lv_iload_n hx hb dX10_leastBelow_56 rfl (lv_at hl 0 rfl) ?_
            refine lv_goto (tgt := 74) hx hb dX10_leastBelow_57 (by decide) ?_
            exact tk_iret hC hr hlocks hK ⟨hT, hF, (Or.inl ⟨(show 0 ≤ r13.toInt by omega), (show r13.toInt ≤ 255 by omega)⟩)⟩ hw dX10_leastBelow_74
          · have ex19 : x19.toInt = x8.toInt := by rw [← c22.symm.trans c20]
            refine lv_istore_n (lv' := [(3, .int (-1)), (0, .ref (ad 158)), (1, .int a1), (2, .int a2)]) hx hb dX10_leastBelow_50 rfl hl (by decide) rfl (fun ls hl => ?_)
            refine lv_iload_n hx hb dX10_leastBelow_51 rfl (lv_at hl 0 rfl) ?_
            refine lv_iconst (v := (-1)) hx hb dX10_leastBelow_52 (by decide) ?_
            refine lv_icmp_eq (tgt := 60) hx hb dX10_leastBelow_53 (by decide) (fun _ => ?_) (fun c => absurd (by decide) c)
            refine lv_aload_n hx hb dX10_leastBelow_60 rfl (lv_at hl 1 rfl) ?_
            refine lv_iload_n hx hb dX10_leastBelow_61 rfl (lv_at hl 2 rfl) ?_
            refine lv_iconst (v := 1) hx hb dX10_leastBelow_62 (by decide) ?_
            refine lv_isub hx hb dX10_leastBelow_63 ?_
            refine lv_topi (fun x23 ex23 => ?_)
            have ex23 : x23.toInt = a1.toInt - (1 : Int) := by rw [ex23]; exact wk_sub (show (-2147483648) ≤ a1.toInt - (1 : Int) by omega) (show a1.toInt - (1 : Int) ≤ 2147483647 by omega)
            refine lv_iload_n hx hb dX10_leastBelow_64 rfl (lv_at hl 3 rfl) ?_
            refine lv_iconst (v := 1) hx hb dX10_leastBelow_65 (by decide) ?_
            refine lv_iload_n hx hb dX10_leastBelow_66 rfl (lv_at hl 2 rfl) ?_
            refine lv_iconst (v := 1) hx hb dX10_leastBelow_67 (by decide) ?_
            refine lv_isub hx hb dX10_leastBelow_68 ?_
            refine lv_topi (fun x24 ex24 => ?_)
            have ex24 : x24.toInt = a1.toInt - (1 : Int) := by rw [ex24]; exact wk_sub (show (-2147483648) ≤ a1.toInt - (1 : Int) by omega) (show a1.toInt - (1 : Int) ≤ 2147483647 by omega)
            refine lv_ishl hx hb dX10_leastBelow_69 ?_
            refine lv_topi (fun x25 ex25 => ?_)
            have bx25 : 1 ≤ x25.toInt ∧ x25.toInt ≤ 1 := by rw [ex25]; exact wk_shl1 0 (by decide) (by omega) (by omega)
            refine lv_ior hx hb dX10_leastBelow_70 ?_
            refine lv_topi (fun x26 ex26 => ?_)
            have bx26 : 0 ≤ x26.toInt ∧ x26.toInt < 256 := by rw [ex26]; exact wk_or 8 (by decide) (by omega) (by omega) (by omega) (by omega)
            refine tk_Vi hC hK hw hT hA hE hSR kC_at158 (by decide) rfl (k_X10_leastBelow_49 l adK adV dC dI cy ad B (by omega) (by omega) qr s1   x26 (show 0 ≤ x26.toInt by omega) (show x26.toInt ≤ 255 by omega) w15 H.size hT ) (cwV 2 hC.2.2.2.2 gX10_leastBelow_X10_leastBelow rfl rfl rfl (by decide +kernel) ⟨Nat.le_of_ble_eq_true rfl, Nat.le_of_ble_eq_true rfl⟩) rfl hl.1 rfl (Nat.le_of_ble_eq_true rfl) dX10_leastBelow_71 (fun r27 w29 H locs hp28 hw => ?_)
            obtain ⟨hT, k30, hg35⟩ := hp28
            have hF := hF.tr k30 (by decide)
            have c36 := k30.gi kC_at38 (by decide) c22
            rcases hg35 with ⟨g31, g32⟩ | ⟨rfl, ⟨x33, c34, rx33, tx33⟩⟩
            · exact tk_iret hC hr hlocks hK ⟨hT, hF, (Or.inl ⟨(show 0 ≤ r27.toInt by omega), (show r27.toInt ≤ 255 by omega)⟩)⟩ hw dX10_leastBelow_74
            · have ex33 : x33.toInt = x8.toInt := by rw [← c36.symm.trans c34]
              exact tk_iret hC hr hlocks hK ⟨hT, hF, (Or.inr ⟨rfl, ⟨x8, c36, (show 1 ≤ x8.toInt by omega), (show x8.toInt ≤ 6 by omega)⟩⟩)⟩ hw dX10_leastBelow_74
        · have c11 : a1.toInt ≤ (0 : Int) := wk_ltF c11
          refine lv_iload_n hx hb dX10_leastBelow_40 rfl (lv_at hl 2 rfl) ?_
          exact tk_iret hC hr hlocks hK ⟨hT, hF, (Or.inl ⟨(show 0 ≤ a2.toInt by omega), (show a2.toInt ≤ 255 by omega)⟩)⟩ hw dX10_leastBelow_41
      · have c10 : v9_3.toInt < x8.toInt := wk_leF c10
        refine lv_aload_n hx hb dX10_leastBelow_20 rfl (lv_at hl 0 rfl) ?_
        refine lv_iload_n hx hb dX10_leastBelow_21 rfl (lv_at hl 3 rfl) ?_
        refine tk_Vi hC hK hw hT hA hE hSR kC_at158 (by decide) rfl (k_X10_canDo_1 l adK adV dC dI cy ad B (by omega) (by omega) qr s1   v9_3 (show 0 ≤ v9_3.toInt by omega) (show v9_3.toInt ≤ 5 by omega) w1 H.size hT ) (cwV 1 hC.2.2.2.2 gX10_leastBelow_X10_canDo rfl rfl rfl (by decide +kernel) ⟨Nat.le_of_ble_eq_true rfl, Nat.le_of_ble_eq_true rfl⟩) rfl hl.1 rfl (Nat.le_of_ble_eq_true rfl) dX10_leastBelow_22 (fun r37 w39 H locs hp38 hw => ?_)
        obtain ⟨hT, k40, hg41⟩ := hp38
        have hF := hF.tr k40 (by decide)
        have c42 := k40.gi kC_at38 (by decide) c9
        rcases hg41 with rfl | rfl
        · refine lv_if_ne (tgt := 30) hx hb dX10_leastBelow_25 (by decide) (fun c => absurd (by decide) c) (fun _ => ?_)
          refine lv_iconst (v := (-1)) hx hb dX10_leastBelow_28 (by decide) ?_
          exact tk_iret hC hr hlocks hK ⟨hT, hF, (Or.inr ⟨rfl, ⟨x8, c42, (show 1 ≤ x8.toInt by omega), (show x8.toInt ≤ 6 by omega)⟩⟩)⟩ hw dX10_leastBelow_29
        · refine lv_if_ne (tgt := 30) hx hb dX10_leastBelow_25 (by decide) (fun _ => ?_) (fun c => absurd c (by decide))
          obtain ⟨x43, ex43⟩ : ∃ y : Int32, y = v9_3 + Int32.ofInt 1 := ⟨_, rfl⟩
          refine lv_iinc (v := x43) (lv' := [(3, .int x43), (0, .ref (ad 158)), (1, .int a1), (2, .int a2)]) hx hb dX10_leastBelow_30 hl (k := 3) rfl ex43.symm (by decide) rfl (fun ls hl => ?_)
          have ex43 : x43.toInt = v9_3.toInt + 1 := by rw [ex43]; exact wk_add (y := 1) (show -2147483648 ≤ v9_3.toInt + 1 by omega) (show v9_3.toInt + 1 ≤ 2147483647 by omega)
          refine lv_goto (tgt := 9) hx hb dX10_leastBelow_33 (by decide) ?_
          exact ih9 x43 H locs ls w39 (show 0 ≤ a1.toInt by omega) (show a1.toInt ≤ 1 by omega) (show 0 ≤ a2.toInt by omega) (show a2.toInt ≤ 255 by omega) (show 0 ≤ x43.toInt by omega) (show x43.toInt ≤ 6 by omega) (show (6 - x43.toInt).toNat < n9 by omega) hw hT hF  (lv_sub hl [1, 2, 3, 0] rfl)
  refine lv_aload_n hx hb dX10_leastBelow_0 rfl (lv_at hl 0 rfl) ?_
  refine lv_iload_n hx hb dX10_leastBelow_1 rfl (lv_at hl 1 rfl) ?_
  refine lv_iload_n hx hb dX10_leastBelow_2 rfl (lv_at hl 2 rfl) ?_
  refine lv_iconst (v := (-1)) hx hb dX10_leastBelow_3 (by decide) ?_
  refine tk_Vv hC hK hw hT hA hE hSR kC_at158 (by decide) rfl (k_X10_layRoads_40 l adK adV dC dI cy ad B (by omega) (by omega) qr s1   a1 (show 0 ≤ a1.toInt by omega) (show a1.toInt ≤ 1 by omega) a2 (show 0 ≤ a2.toInt by omega) (show a2.toInt ≤ 255 by omega) w0 s.heap.size hT ) (cwV 3 hC.2.2.2.2 gX10_leastBelow_X10_layRoads rfl rfl rfl (by decide +kernel) ⟨Nat.le_of_ble_eq_true rfl, Nat.le_of_ble_eq_true rfl⟩) rfl hl.1 rfl (Nat.le_of_ble_eq_true rfl) dX10_leastBelow_4 (fun w46 H locs hp45 hw => ?_)
  obtain ⟨hT, k47, hg48⟩ := hp45
  have hF := hF.tr k47 (by decide)
  clear hg48
  refine lv_iconst (v := 0) hx hb dX10_leastBelow_7 (by decide) ?_
  refine lv_istore_n (lv' := [(3, .int 0), (0, .ref (ad 158)), (1, .int a1), (2, .int a2)]) hx hb dX10_leastBelow_8 rfl hl (by decide) rfl (fun ls hl => ?_)
  exact L9 ((6 - (0 : Int)).toNat + 1) 0 H locs ls w46 (show 0 ≤ a1.toInt by omega) (show a1.toInt ≤ 1 by omega) (show 0 ≤ a2.toInt by omega) (show a2.toInt ≤ 255 by omega) (by decide) (by decide) (Nat.lt_succ_self _) hw hT hF  (lv_sub hl [1, 2, 3, 0] rfl)
abbrev P_X10_layRoads_41 (ad : Nat → Nat) (cy : Nat → ClassId) (B : Int) (qr : Nat) (s1 : Int) (a1 : Int32) (a2 : Int32) (w0 : va_W) : va_W → Prop := fun u => TW ksC ad cy B qr s1 u ∧ FE ksC [(51, 0, 10)] w0 u ∧ ((True))
set_option maxHeartbeats 4000000 in
set_option maxRecDepth 100000 in
theorem k_X10_layRoads_41 (l : Launch) (adK adV : Nat → Nat) (dC : Nat → ClassId) (dI : Nat → Nat → Nat) (cy : Nat → ClassId) (ad : Nat → Nat) (B : Int) (hB0 : 2147483648 ≤ B) (hB1 : B ≤ 1152921504606846976) (qr : Nat) (s1 : Int)  (a1 : Int32) (ra1 : 0 ≤ a1.toInt) (ta1 : a1.toInt ≤ 2) (a2 : Int32) (ra2 : 0 ≤ a2.toInt) (ta2 : a2.toInt ≤ 255) (w0 : va_W) (sz : Nat) (hT : TW ksC ad cy B qr s1 w0)  : Met l yX10_layRoads wsX10_layRoads ({ frames := 1, cells := 0, slots := 0, locals := 12 }) (va_Pc [.ref (ad 158), .int a1, .int a2, .int (-1)] (wpreS adK adV dC dI cy sz w0)) (va_Qv (P_X10_layRoads_41 ad cy B qr s1 a1 a2 w0) (fun u : va_W => wpost dC dI cy (va_A w0 sz) u) (va_A w0 sz)) 0 0 (va_A w0 sz) := by
  refine Met.ofW (cc := cX10_layRoads) (maxL := 8) (ret := none) (by decide) rfl ?_
  intro p e s m args below meth c s₁ Bk hml hv
  obtain ⟨rfl, ⟨hsz, hP, hK, hD0⟩, hE, hSR⟩ := hv
  have hx := Bk.exec
  have hb := Bk.bytes
  have hr := Bk.returns
  have hlocks := Bk.notSynchronized
  have hC : CallFix p m c cX10_layRoads 8 s _ wsX10_layRoads RX10 := ⟨hx, hb, hml, findClass_of_methodNamed Bk.named, atoms_spec (ws := wsX10_layRoads) Bk.pre⟩
  subst hsz
  have hD := hD0.self (sz := s.heap.size)
  generalize hAe : va_A w0 s.heap.size = A at hD hE ⊢
  have hA : ∀ q : Nat, s.heap.size ≤ q → A q := fun q h => by rw [← hAe]; exact Or.inr h
  have hw : Wd dC dI A s.heap s.heap [] w0 := ⟨hP, hD, va_S.rf⟩
  have hF : FE ksC [(51, 0, 10)] w0 w0 := FE.rf
  have hl := lv_entry ([.ref (ad 158), .int a1, .int a2, .int (-1)]) (n := 8) (Nat.le_of_ble_eq_true rfl)
  rw [lg_entry_eq]
  generalize (lg_sl ([.ref (ad 158), .int a1, .int a2, .int (-1)]) ++ List.replicate (8 - (lg_sl ([.ref (ad 158), .int a1, .int a2, .int (-1)])).length) Slot.unset).toArray = ls at hl ⊢
  have hl : lv_has ls 8 [(0, .ref (ad 158)), (1, .int a1), (2, .int a2), (3, .int (-1))] := hl
  generalize hloc : ([] : List Loc) = locs at hw ⊢
  have hinX10 : ∀ w ∈ u_ws RX10 TX10 5, w ∈ wsX10_layRoads := fun _ h => List.mem_cons_of_mem _ (List.mem_append_left _ (List.mem_append_right _ (h)))
  have hinX7 : ∀ w ∈ u_ws RX7 TX7 12, w ∈ wsX10_layRoads := fun _ h => List.mem_cons_of_mem _ (List.mem_append_right _ (h))
  have L27 : ∀ (n27 : Nat) (v27_4 : Int32) (H : Heap) (locs : List Loc) (ls : Array Slot) (w1 : va_W), 0 ≤ a1.toInt → a1.toInt ≤ 2 → 0 ≤ a2.toInt → a2.toInt ≤ 255 → 0 ≤ v27_4.toInt → v27_4.toInt ≤ 12 → (12 - v27_4.toInt).toNat < n27 → Wd dC dI A s.heap H locs w1 → TW ksC ad cy B qr s1 w1 → FE ksC [(51, 0, 10)] w0 w1 → lv_has ls 8 [(0, .ref (ad 158)), (1, .int a1), (2, .int a2), (3, .int (-1)), (4, .int v27_4)] → W p l e ({ frames := 1, cells := 0, slots := 0, locals := 12 }) s m (List.toArray [.ref (ad 158), .int a1, .int a2, .int (-1)]) below meth c H locs 0 0 (MQ below (va_Qv (P_X10_layRoads_41 ad cy B qr s1 a1 a2 w0) (fun u : va_W => wpost dC dI cy A u) A) (List.toArray [.ref (ad 158), .int a1, .int a2, .int (-1)]) s 0 0 A) (F0 m 27 ls []) := by
    intro n27
    induction n27 with
    | zero => intro v27_4 H locs ls w1 r2 t3 r4 t5 r6 t7 hm27 hw hT hF hl; omega
    | succ n27 ih27 =>
      intro v27_4 H locs ls w1 r2 t3 r4 t5 r6 t7 hm27 hw hT hF hl
      have J144 : ∀ (v144_5 : Int32) (v144_6 : Int32) (v144_7 : Int32) (f144_158_4 : Int32) (H : Heap) (locs : List Loc) (ls : Array Slot) (w8 : va_W), 0 ≤ a1.toInt → a1.toInt ≤ 2 → 0 ≤ a2.toInt → a2.toInt ≤ 255 → 0 ≤ v27_4.toInt → v27_4.toInt ≤ 11 → 0 ≤ v144_5.toInt → v144_5.toInt ≤ 9 → 0 ≤ v144_6.toInt → v144_6.toInt ≤ 9 → 0 ≤ v144_7.toInt → v144_7.toInt ≤ 1 → 1 ≤ f144_158_4.toInt → f144_158_4.toInt ≤ 12 → Wd dC dI A s.heap H locs w8 → TW ksC ad cy B qr s1 w8 → FE ksC [(51, 0, 10)] w0 w8 → gi w8 158 4 = f144_158_4 → lv_has ls 8 [(0, .ref (ad 158)), (1, .int a1), (2, .int a2), (3, .int (-1)), (4, .int v27_4), (5, .int v144_5), (6, .int v144_6), (7, .int v144_7)] → W p l e ({ frames := 1, cells := 0, slots := 0, locals := 12 }) s m (List.toArray [.ref (ad 158), .int a1, .int a2, .int (-1)]) below meth c H locs 0 0 (MQ below (va_Qv (P_X10_layRoads_41 ad cy B qr s1 a1 a2 w0) (fun u : va_W => wpost dC dI cy A u) A) (List.toArray [.ref (ad 158), .int a1, .int a2, .int (-1)]) s 0 0 A) (F0 m 144 ls []) := by
        intro v144_5 v144_6 v144_7 f144_158_4 H locs ls w8 r9 t10 r11 t12 r13 t14 r15 t16 r17 t18 r19 t20 r21 t22 hw hT hF c23 hl
        obtain ⟨x24, ex24⟩ : ∃ y : Int32, y = v27_4 + Int32.ofInt 1 := ⟨_, rfl⟩
        refine lv_iinc (v := x24) (lv' := [(4, .int x24), (0, .ref (ad 158)), (1, .int a1), (2, .int a2), (3, .int (-1)), (5, .int v144_5), (6, .int v144_6), (7, .int v144_7)]) hx hb dX10_layRoads_144 hl (k := 4) rfl ex24.symm (by decide) rfl (fun ls hl => ?_)
        have ex24 : x24.toInt = v27_4.toInt + 1 := by rw [ex24]; exact wk_add (y := 1) (show -2147483648 ≤ v27_4.toInt + 1 by omega) (show v27_4.toInt + 1 ≤ 2147483647 by omega)
        refine lv_goto (tgt := 27) hx hb dX10_layRoads_147 (by decide) ?_
        exact ih27 x24 H locs ls w8 (show 0 ≤ a1.toInt by omega) (show a1.toInt ≤ 2 by omega) (show 0 ≤ a2.toInt by omega) (show a2.toInt ≤ 255 by omega) (show 0 ≤ x24.toInt by omega) (show x24.toInt ≤ 12 by omega) (show (12 - x24.toInt).toNat < n27 by omega) hw hT hF  (lv_sub hl [1, 2, 3, 4, 0] rfl)
      have J130 : ∀ (v130_5 : Int32) (v130_6 : Int32) (v130_7 : Int32) (f130_158_4 : Int32) (H : Heap) (locs : List Loc) (ls : Array Slot) (w25 : va_W), 0 ≤ a1.toInt → a1.toInt ≤ 2 → 0 ≤ a2.toInt → a2.toInt ≤ 255 → 0 ≤ v27_4.toInt → v27_4.toInt ≤ 11 → 0 ≤ v130_5.toInt → v130_5.toInt ≤ 9 → 0 ≤ v130_6.toInt → v130_6.toInt ≤ 9 → 0 ≤ v130_7.toInt → v130_7.toInt ≤ 1 → 1 ≤ f130_158_4.toInt → f130_158_4.toInt ≤ 12 → Wd dC dI A s.heap H locs w25 → TW ksC ad cy B qr s1 w25 → FE ksC [(51, 0, 10)] w0 w25 → gi w25 158 4 = f130_158_4 → lv_has ls 8 [(0, .ref (ad 158)), (1, .int a1), (2, .int a2), (3, .int (-1)), (4, .int v27_4), (5, .int v130_5), (6, .int v130_6), (7, .int v130_7)] → W p l e ({ frames := 1, cells := 0, slots := 0, locals := 12 }) s m (List.toArray [.ref (ad 158), .int a1, .int a2, .int (-1)]) below meth c H locs 0 0 (MQ below (va_Qv (P_X10_layRoads_41 ad cy B qr s1 a1 a2 w0) (fun u : va_W => wpost dC dI cy A u) A) (List.toArray [.ref (ad 158), .int a1, .int a2, .int (-1)]) s 0 0 A) (F0 m 130 ls []) := by
        intro v130_5 v130_6 v130_7 f130_158_4 H locs ls w25 r26 t27 r28 t29 r30 t31 r32 t33 r34 t35 r36 t37 r38 t39 hw hT hF c40 hl
        refine lv_aload_n hx hb dX10_layRoads_130 rfl (lv_at hl 0 rfl) ?_
        refine tk_getA hC hK hw hT hinX10 kC_at158 (by decide) rfl 3 (by decide) (List.mem_of_getElem? (i := 1) rfl) rfl rfl dX10_layRoads_131 ?_
        refine lv_iload hx hb dX10_layRoads_134 (lv_at hl 6 rfl) ?_
        refine lv_dup2_11 hx hb dX10_layRoads_136 rfl rfl ?_
        refine tk_iald hC hK hw hT kC_at160 rfl rfl (show 0 ≤ v130_6.toInt by omega) (show v130_6.toInt < 10 by omega) dX10_layRoads_137 (fun x41 c42 rx41 tx41 => ?_)
        refine lv_iconst (v := 1) hx hb dX10_layRoads_138 (by decide) ?_
        refine lv_iload hx hb dX10_layRoads_139 (lv_at hl 5 rfl) ?_
        refine lv_ishl hx hb dX10_layRoads_141 ?_
        refine lv_topi (fun x43 ex43 => ?_)
        have bx43 : 1 ≤ x43.toInt ∧ x43.toInt ≤ 512 := by rw [ex43]; exact wk_shl1 9 (by decide) (by omega) (by omega)
        refine lv_ior hx hb dX10_layRoads_142 ?_
        refine lv_topi (fun x44 ex44 => ?_)
        have bx44 : 0 ≤ x44.toInt ∧ x44.toInt < 1024 := by rw [ex44]; exact wk_or 10 (by decide) (by omega) (by omega) (by omega) (by omega)
        refine tk_iast hC hK hw hT kC_at160 (by decide) rfl rfl (show 0 ≤ v130_6.toInt by omega) (show v130_6.toInt < 10 by omega) (show 0 ≤ x44.toInt by omega) (show x44.toInt ≤ 1023 by omega) dX10_layRoads_143 (fun H locs w45 hw hT k47 c46 => ?_)
        have hF := hF.put kC_at160 (inE_of (a := 0) (b := 10) (by decide) (show 0 ≤ v130_6.toInt.toNat by omega) (show v130_6.toInt.toNat ≤ 10 by omega)) k47
        have c48 := k47.gi (Or.inl (tk_ne kC_at158 kC_at160 (by decide))) c40
        exact J144 v130_5 v130_6 v130_7 f130_158_4 H locs ls w45 (show 0 ≤ a1.toInt by omega) (show a1.toInt ≤ 2 by omega) (show 0 ≤ a2.toInt by omega) (show a2.toInt ≤ 255 by omega) (show 0 ≤ v27_4.toInt by omega) (show v27_4.toInt ≤ 11 by omega) (show 0 ≤ v130_5.toInt by omega) (show v130_5.toInt ≤ 9 by omega) (show 0 ≤ v130_6.toInt by omega) (show v130_6.toInt ≤ 9 by omega) (show 0 ≤ v130_7.toInt by omega) (show v130_7.toInt ≤ 1 by omega) (show 1 ≤ f130_158_4.toInt by omega) (show f130_158_4.toInt ≤ 12 by omega)  hw hT hF c48 (lv_sub hl [0, 1, 2, 3, 4, 5, 6, 7] rfl)
      have J118 : ∀ (v118_5 : Int32) (v118_6 : Int32) (v118_7 : Int32) (f118_158_4 : Int32) (H : Heap) (locs : List Loc) (ls : Array Slot) (w49 : va_W), 0 ≤ a1.toInt → a1.toInt ≤ 2 → 0 ≤ a2.toInt → a2.toInt ≤ 255 → 0 ≤ v27_4.toInt → v27_4.toInt ≤ 11 → 0 ≤ v118_5.toInt → v118_5.toInt ≤ 9 → 0 ≤ v118_6.toInt → v118_6.toInt ≤ 9 → 0 ≤ v118_7.toInt → v118_7.toInt ≤ 1 → 1 ≤ f118_158_4.toInt → f118_158_4.toInt ≤ 12 → Wd dC dI A s.heap H locs w49 → TW ksC ad cy B qr s1 w49 → FE ksC [(51, 0, 10)] w0 w49 → gi w49 158 4 = f118_158_4 → lv_has ls 8 [(0, .ref (ad 158)), (1, .int a1), (2, .int a2), (3, .int (-1)), (4, .int v27_4), (5, .int v118_5), (6, .int v118_6), (7, .int v118_7)] → W p l e ({ frames := 1, cells := 0, slots := 0, locals := 12 }) s m (List.toArray [.ref (ad 158), .int a1, .int a2, .int (-1)]) below meth c H locs 0 0 (MQ below (va_Qv (P_X10_layRoads_41 ad cy B qr s1 a1 a2 w0) (fun u : va_W => wpost dC dI cy A u) A) (List.toArray [.ref (ad 158), .int a1, .int a2, .int (-1)]) s 0 0 A) (F0 m 118 ls []) := by
        intro v118_5 v118_6 v118_7 f118_158_4 H locs ls w49 r50 t51 r52 t53 r54 t55 r56 t57 r58 t59 r60 t61 r62 t63 hw hT hF c64 hl
        refine lv_iload hx hb dX10_layRoads_118 (lv_at hl 4 rfl) ?_
        refine lv_iload_n hx hb dX10_layRoads_120 rfl (lv_at hl 1 rfl) ?_
        refine lv_icmp_lt (tgt := 130) hx hb dX10_layRoads_121 (by decide) (fun c65 => ?_) (fun c65 => ?_)
        · have c65 : v27_4.toInt < a1.toInt := wk_lt.mp c65
          exact J130 v118_5 v118_6 v118_7 f118_158_4 H locs ls w49 (show 0 ≤ a1.toInt by omega) (show a1.toInt ≤ 2 by omega) (show 0 ≤ a2.toInt by omega) (show a2.toInt ≤ 255 by omega) (show 0 ≤ v27_4.toInt by omega) (show v27_4.toInt ≤ 11 by omega) (show 0 ≤ v118_5.toInt by omega) (show v118_5.toInt ≤ 9 by omega) (show 0 ≤ v118_6.toInt by omega) (show v118_6.toInt ≤ 9 by omega) (show 0 ≤ v118_7.toInt by omega) (show v118_7.toInt ≤ 1 by omega) (show 1 ≤ f118_158_4.toInt by omega) (show f118_158_4.toInt ≤ 12 by omega)  hw hT hF c64 (lv_sub hl [0, 1, 2, 3, 4, 5, 6, 7] rfl)
        · have c65 : a1.toInt ≤ v27_4.toInt := wk_ltF c65
          refine lv_iload hx hb dX10_layRoads_124 (lv_at hl 7 rfl) ?_
          refine lv_iconst (v := 1) hx hb dX10_layRoads_126 (by decide) ?_
          refine lv_icmp_ne (tgt := 144) hx hb dX10_layRoads_127 (by decide) (fun c66 => ?_) (fun c66 => ?_)
          · have c66 : ¬ v118_7.toInt = (1 : Int) := wk_eqF c66
            exact J144 v118_5 v118_6 v118_7 f118_158_4 H locs ls w49 (show 0 ≤ a1.toInt by omega) (show a1.toInt ≤ 2 by omega) (show 0 ≤ a2.toInt by omega) (show a2.toInt ≤ 255 by omega) (show 0 ≤ v27_4.toInt by omega) (show v27_4.toInt ≤ 11 by omega) (show 0 ≤ v118_5.toInt by omega) (show v118_5.toInt ≤ 9 by omega) (show 0 ≤ v118_6.toInt by omega) (show v118_6.toInt ≤ 9 by omega) (show 0 ≤ v118_7.toInt by omega) (show v118_7.toInt ≤ 1 by omega) (show 1 ≤ f118_158_4.toInt by omega) (show f118_158_4.toInt ≤ 12 by omega)  hw hT hF c64 (lv_sub hl [0, 1, 2, 3, 4, 5, 6, 7] rfl)
          · have c66 : v118_7.toInt = (1 : Int) := wk_eq.mp c66
            exact J130 v118_5 v118_6 v118_7 f118_158_4 H locs ls w49 (show 0 ≤ a1.toInt by omega) (show a1.toInt ≤ 2 by omega) (show 0 ≤ a2.toInt by omega) (show a2.toInt ≤ 255 by omega) (show 0 ≤ v27_4.toInt by omega) (show v27_4.toInt ≤ 11 by omega) (show 0 ≤ v118_5.toInt by omega) (show v118_5.toInt ≤ 9 by omega) (show 0 ≤ v118_6.toInt by omega) (show v118_6.toInt ≤ 9 by omega) (show 0 ≤ v118_7.toInt by omega) (show v118_7.toInt ≤ 1 by omega) (show 1 ≤ f118_158_4.toInt by omega) (show f118_158_4.toInt ≤ 12 by omega)  hw hT hF c64 (lv_sub hl [0, 1, 2, 3, 4, 5, 6, 7] rfl)
      have J104 : ∀ (v104_5 : Int32) (v104_6 : Int32) (v104_7 : Int32) (f104_158_4 : Int32) (H : Heap) (locs : List Loc) (ls : Array Slot) (w67 : va_W), 0 ≤ a1.toInt → a1.toInt ≤ 2 → 0 ≤ a2.toInt → a2.toInt ≤ 255 → 0 ≤ v27_4.toInt → v27_4.toInt ≤ 11 → 0 ≤ v104_5.toInt → v104_5.toInt ≤ 9 → 0 ≤ v104_6.toInt → v104_6.toInt ≤ 9 → 0 ≤ v104_7.toInt → v104_7.toInt ≤ 1 → 1 ≤ f104_158_4.toInt → f104_158_4.toInt ≤ 12 → Wd dC dI A s.heap H locs w67 → TW ksC ad cy B qr s1 w67 → FE ksC [(51, 0, 10)] w0 w67 → gi w67 158 4 = f104_158_4 → lv_has ls 8 [(0, .ref (ad 158)), (1, .int a1), (2, .int a2), (3, .int (-1)), (4, .int v27_4), (5, .int v104_5), (6, .int v104_6), (7, .int v104_7)] → W p l e ({ frames := 1, cells := 0, slots := 0, locals := 12 }) s m (List.toArray [.ref (ad 158), .int a1, .int a2, .int (-1)]) below meth c H locs 0 0 (MQ below (va_Qv (P_X10_layRoads_41 ad cy B qr s1 a1 a2 w0) (fun u : va_W => wpost dC dI cy A u) A) (List.toArray [.ref (ad 158), .int a1, .int a2, .int (-1)]) s 0 0 A) (F0 m 104 ls []) := by
        intro v104_5 v104_6 v104_7 f104_158_4 H locs ls w67 r68 t69 r70 t71 r72 t73 r74 t75 r76 t77 r78 t79 r80 t81 hw hT hF c82 hl
        refine lv_aload_n hx hb dX10_layRoads_104 rfl (lv_at hl 0 rfl) ?_
        refine tk_getA hC hK hw hT hinX10 kC_at158 (by decide) rfl 3 (by decide) (List.mem_of_getElem? (i := 1) rfl) rfl rfl dX10_layRoads_105 ?_
        refine lv_iload hx hb dX10_layRoads_108 (lv_at hl 5 rfl) ?_
        refine lv_dup2_11 hx hb dX10_layRoads_110 rfl rfl ?_
        refine tk_iald hC hK hw hT kC_at160 rfl rfl (show 0 ≤ v104_5.toInt by omega) (show v104_5.toInt < 10 by omega) dX10_layRoads_111 (fun x83 c84 rx83 tx83 => ?_)
        refine lv_iconst (v := 1) hx hb dX10_layRoads_112 (by decide) ?_
        refine lv_iload hx hb dX10_layRoads_113 (lv_at hl 6 rfl) ?_
        refine lv_ishl hx hb dX10_layRoads_115 ?_
        refine lv_topi (fun x85 ex85 => ?_)
        have bx85 : 1 ≤ x85.toInt ∧ x85.toInt ≤ 512 := by rw [ex85]; exact wk_shl1 9 (by decide) (by omega) (by omega)
        refine lv_ior hx hb dX10_layRoads_116 ?_
        refine lv_topi (fun x86 ex86 => ?_)
        have bx86 : 0 ≤ x86.toInt ∧ x86.toInt < 1024 := by rw [ex86]; exact wk_or 10 (by decide) (by omega) (by omega) (by omega) (by omega)
        refine tk_iast hC hK hw hT kC_at160 (by decide) rfl rfl (show 0 ≤ v104_5.toInt by omega) (show v104_5.toInt < 10 by omega) (show 0 ≤ x86.toInt by omega) (show x86.toInt ≤ 1023 by omega) dX10_layRoads_117 (fun H locs w87 hw hT k89 c88 => ?_)
        have hF := hF.put kC_at160 (inE_of (a := 0) (b := 10) (by decide) (show 0 ≤ v104_5.toInt.toNat by omega) (show v104_5.toInt.toNat ≤ 10 by omega)) k89
        have c90 := k89.gi (Or.inl (tk_ne kC_at158 kC_at160 (by decide))) c82
        exact J118 v104_5 v104_6 v104_7 f104_158_4 H locs ls w87 (show 0 ≤ a1.toInt by omega) (show a1.toInt ≤ 2 by omega) (show 0 ≤ a2.toInt by omega) (show a2.toInt ≤ 255 by omega) (show 0 ≤ v27_4.toInt by omega) (show v27_4.toInt ≤ 11 by omega) (show 0 ≤ v104_5.toInt by omega) (show v104_5.toInt ≤ 9 by omega) (show 0 ≤ v104_6.toInt by omega) (show v104_6.toInt ≤ 9 by omega) (show 0 ≤ v104_7.toInt by omega) (show v104_7.toInt ≤ 1 by omega) (show 1 ≤ f104_158_4.toInt by omega) (show f104_158_4.toInt ≤ 12 by omega)  hw hT hF c90 (lv_sub hl [0, 1, 2, 3, 4, 5, 6, 7] rfl)
      refine lv_iload hx hb dX10_layRoads_27 (lv_at hl 4 rfl) ?_
      refine lv_aload_n hx hb dX10_layRoads_29 rfl (lv_at hl 0 rfl) ?_
      refine tk_geti hC hK hw hT hinX10 kC_at158 (by decide) rfl 4 (by decide) (List.mem_of_getElem? (i := 2) rfl) rfl rfl dX10_layRoads_30 (fun x91 c92 rx91 tx91 => ?_)
      refine lv_icmp_ge (tgt := 150) hx hb dX10_layRoads_33 (by decide) (fun c93 => ?_) (fun c93 => ?_)
      · have c93 : x91.toInt ≤ v27_4.toInt := wk_le.mp c93
        exact tk_vret hC hr hlocks hK ⟨hT, hF, trivial⟩ hw dX10_layRoads_150
      · have c93 : v27_4.toInt < x91.toInt := wk_leF c93
        refine lv_iload hx hb dX10_layRoads_36 (lv_at hl 4 rfl) ?_
        refine lv_iload_n hx hb dX10_layRoads_38 rfl (lv_at hl 3 rfl) ?_
        refine lv_icmp_ne (tgt := 45) hx hb dX10_layRoads_39 (by decide) (fun _ => ?_) (fun c => absurd (show v27_4.toInt = (-1 : Int) from wk_eq.mp c) (by omega))
        refine lv_aload_n hx hb dX10_layRoads_45 rfl (lv_at hl 0 rfl) ?_
        refine tk_getA hC hK hw hT hinX10 kC_at158 (by decide) rfl 1 (by decide) (List.mem_of_getElem? (i := 3) rfl) rfl rfl dX10_layRoads_46 ?_
        refine tk_getO hC hK hw hT hinX7 kC_at39 (by decide) rfl 0 (by decide) (List.mem_of_getElem? (i := 4) rfl) rfl rfl dX10_layRoads_49 ?_
        refine lv_iconst (v := 2) hx hb dX10_layRoads_52 (by decide) ?_
        refine lv_aload_n hx hb dX10_layRoads_53 rfl (lv_at hl 0 rfl) ?_
        refine tk_getA hC hK hw hT hinX10 kC_at158 (by decide) rfl 2 (by decide) (List.mem_of_getElem? (i := 5) rfl) rfl rfl dX10_layRoads_54 ?_
        refine lv_iload hx hb dX10_layRoads_57 (lv_at hl 4 rfl) ?_
        refine tk_iald hC hK hw hT kC_at159 rfl rfl (show 0 ≤ v27_4.toInt by omega) (show v27_4.toInt < 12 by omega) dX10_layRoads_59 (fun x94 c95 rx94 tx94 => ?_)
        refine lv_imul hx hb dX10_layRoads_60 ?_
        refine lv_topi (fun x96 ex96 => ?_)
        have ex96 : x96.toInt = (2 : Int) * x94.toInt := by rw [ex96]; exact wk_mul (show (-2147483648) ≤ (2 : Int) * x94.toInt by omega) (show (2 : Int) * x94.toInt ≤ 2147483647 by omega)
        refine tk_iald hC hK hw hT kC_at40 rfl rfl (show 0 ≤ x96.toInt by omega) (show x96.toInt < 26 by omega) dX10_layRoads_61 (fun x97 c98 rx97 tx97 => ?_)
        refine lv_istore (lv' := [(5, .int x97), (0, .ref (ad 158)), (1, .int a1), (2, .int a2), (3, .int (-1)), (4, .int v27_4)]) hx hb dX10_layRoads_62 hl (by decide) rfl (fun ls hl => ?_)
        refine lv_aload_n hx hb dX10_layRoads_64 rfl (lv_at hl 1 rfl) ?_
        refine tk_getA hC hK hw hT hinX10 kC_at158 (by decide) rfl 1 (by decide) (List.mem_of_getElem? (i := 3) rfl) rfl rfl dX10_layRoads_65 ?_
        refine tk_getO hC hK hw hT hinX7 kC_at39 (by decide) rfl 0 (by decide) (List.mem_of_getElem? (i := 4) rfl) rfl rfl dX10_layRoads_68 ?_
        refine lv_iconst (v := 2) hx hb dX10_layRoads_71 (by decide) ?_
        refine lv_aload_n hx hb dX10_layRoads_72 rfl (lv_at hl 1 rfl) ?_
        refine tk_getA hC hK hw hT hinX10 kC_at158 (by decide) rfl 2 (by decide) (List.mem_of_getElem? (i := 5) rfl) rfl rfl dX10_layRoads_73 ?_
        refine lv_iload hx hb dX10_layRoads_76 (lv_at hl 5 rfl) ?_
        refine tk_iald hC hK hw hT kC_at159 rfl rfl (show 0 ≤ v27_4.toInt by omega) (show v27_4.toInt < 12 by omega) dX10_layRoads_78 (fun x99 c100 rx99 tx99 => ?_)
        refine lv_imul hx hb dX10_layRoads_79 ?_
        refine lv_topi (fun x101 ex101 => ?_)
        have ex101 : x101.toInt = (2 : Int) * x99.toInt := by rw [ex101]; exact wk_mul (show (-2147483648) ≤ (2 : Int) * x99.toInt by omega) (show (2 : Int) * x99.toInt ≤ 2147483647 by omega)
        refine lv_iconst (v := 1) hx hb dX10_layRoads_80 (by decide) ?_
        refine lv_iadd hx hb dX10_layRoads_81 ?_
        refine lv_topi (fun x102 ex102 => ?_)
        have ex102 : x102.toInt = x101.toInt + (1 : Int) := by rw [ex102]; exact wk_add (show (-2147483648) ≤ x101.toInt + (1 : Int) by omega) (show x101.toInt + (1 : Int) ≤ 2147483647 by omega)
        refine tk_iald hC hK hw hT kC_at40 rfl rfl (show 0 ≤ x102.toInt by omega) (show x102.toInt < 26 by omega) dX10_layRoads_82 (fun x103 c104 rx103 tx103 => ?_)
        refine lv_istore (lv' := [(6, .int x103), (5, .int x97), (0, .ref (ad 158)), (1, .int a1), (2, .int a2), (3, .int (-1)), (4, .int v27_4)]) hx hb dX10_layRoads_83 hl (by decide) rfl (fun ls hl => ?_)
        refine lv_iload_n hx hb dX10_layRoads_85 rfl (lv_at hl 4 rfl) ?_
        refine lv_iload hx hb dX10_layRoads_86 (lv_at hl 6 rfl) ?_
        refine lv_ishr hx hb dX10_layRoads_88 ?_
        refine lv_topi (fun x105 ex105 => ?_)
        have bx105 : 0 ≤ x105.toInt ∧ x105.toInt ≤ a2.toInt := by rw [ex105]; exact wk_shr (by omega)
        refine lv_iconst (v := 1) hx hb dX10_layRoads_89 (by decide) ?_
        refine lv_iand hx hb dX10_layRoads_90 ?_
        refine lv_topi (fun x106 ex106 => ?_)
        have bx106 : 0 ≤ x106.toInt ∧ x106.toInt ≤ (1 : Int) := by rw [ex106]; exact wk_and (by decide)
        refine lv_istore (lv' := [(7, .int x106), (6, .int x103), (5, .int x97), (0, .ref (ad 158)), (1, .int a1), (2, .int a2), (3, .int (-1)), (4, .int v27_4)]) hx hb dX10_layRoads_91 hl (by decide) rfl (fun ls hl => ?_)
        refine lv_iload hx hb dX10_layRoads_93 (lv_at hl 7 rfl) ?_
        refine lv_iload_n hx hb dX10_layRoads_95 rfl (lv_at hl 4 rfl) ?_
        refine lv_icmp_lt (tgt := 104) hx hb dX10_layRoads_96 (by decide) (fun c107 => ?_) (fun c107 => ?_)
        · have c107 : v27_4.toInt < a1.toInt := wk_lt.mp c107
          exact J104 x97 x103 x106 x91 H locs ls w1 (show 0 ≤ a1.toInt by omega) (show a1.toInt ≤ 2 by omega) (show 0 ≤ a2.toInt by omega) (show a2.toInt ≤ 255 by omega) (show 0 ≤ v27_4.toInt by omega) (show v27_4.toInt ≤ 11 by omega) (show 0 ≤ x97.toInt by omega) (show x97.toInt ≤ 9 by omega) (show 0 ≤ x103.toInt by omega) (show x103.toInt ≤ 9 by omega) (show 0 ≤ x106.toInt by omega) (show x106.toInt ≤ 1 by omega) (show 1 ≤ x91.toInt by omega) (show x91.toInt ≤ 12 by omega)  hw hT hF c92 (lv_sub hl [3, 4, 5, 6, 7, 2, 1, 0] rfl)
        · have c107 : a1.toInt ≤ v27_4.toInt := wk_ltF c107
          refine lv_iload hx hb dX10_layRoads_99 (lv_at hl 0 rfl) ?_
          refine lv_if_ne (tgt := 118) hx hb dX10_layRoads_101 (by decide) (fun c108 => ?_) (fun c108 => ?_)
          · have c108 : ¬ x106.toInt = (0 : Int) := wk_eqF c108
            exact J118 x97 x103 x106 x91 H locs ls w1 (show 0 ≤ a1.toInt by omega) (show a1.toInt ≤ 2 by omega) (show 0 ≤ a2.toInt by omega) (show a2.toInt ≤ 255 by omega) (show 0 ≤ v27_4.toInt by omega) (show v27_4.toInt ≤ 11 by omega) (show 0 ≤ x97.toInt by omega) (show x97.toInt ≤ 9 by omega) (show 0 ≤ x103.toInt by omega) (show x103.toInt ≤ 9 by omega) (show 0 ≤ x106.toInt by omega) (show x106.toInt ≤ 1 by omega) (show 1 ≤ x91.toInt by omega) (show x91.toInt ≤ 12 by omega)  hw hT hF c92 (lv_sub hl [3, 4, 5, 6, 7, 2, 1, 0] rfl)
          · have c108 : x106.toInt = (0 : Int) := wk_eq.mp c108
            exact J104 x97 x103 x106 x91 H locs ls w1 (show 0 ≤ a1.toInt by omega) (show a1.toInt ≤ 2 by omega) (show 0 ≤ a2.toInt by omega) (show a2.toInt ≤ 255 by omega) (show 0 ≤ v27_4.toInt by omega) (show v27_4.toInt ≤ 11 by omega) (show 0 ≤ x97.toInt by omega) (show x97.toInt ≤ 9 by omega) (show 0 ≤ x103.toInt by omega) (show x103.toInt ≤ 9 by omega) (show 0 ≤ x106.toInt by omega) (show x106.toInt ≤ 1 by omega) (show 1 ≤ x91.toInt by omega) (show x91.toInt ≤ 12 by omega)  hw hT hF c92 (lv_sub hl [3, 4, 5, 6, 7, 2, 1, 0] rfl)
  have L3 : ∀ (n3 : Nat) (v3_4 : Int32) (H : Heap) (locs : List Loc) (ls : Array Slot) (w109 : va_W), 0 ≤ a1.toInt → a1.toInt ≤ 2 → 0 ≤ a2.toInt → a2.toInt ≤ 255 → 0 ≤ v3_4.toInt → v3_4.toInt ≤ 10 → (10 - v3_4.toInt).toNat < n3 → Wd dC dI A s.heap H locs w109 → TW ksC ad cy B qr s1 w109 → FE ksC [(51, 0, 10)] w0 w109 → lv_has ls 8 [(0, .ref (ad 158)), (1, .int a1), (2, .int a2), (3, .int (-1)), (4, .int v3_4)] → W p l e ({ frames := 1, cells := 0, slots := 0, locals := 12 }) s m (List.toArray [.ref (ad 158), .int a1, .int a2, .int (-1)]) below meth c H locs 0 0 (MQ below (va_Qv (P_X10_layRoads_41 ad cy B qr s1 a1 a2 w0) (fun u : va_W => wpost dC dI cy A u) A) (List.toArray [.ref (ad 158), .int a1, .int a2, .int (-1)]) s 0 0 A) (F0 m 3 ls []) := by
    intro n3
    induction n3 with
    | zero => intro v3_4 H locs ls w109 r110 t111 r112 t113 r114 t115 hm3 hw hT hF hl; omega
    | succ n3 ih3 =>
      intro v3_4 H locs ls w109 r110 t111 r112 t113 r114 t115 hm3 hw hT hF hl
      refine lv_iload hx hb dX10_layRoads_3 (lv_at hl 4 rfl) ?_
      refine lv_bipush (v := 10) hx hb dX10_layRoads_5 (by decide) ?_
      refine lv_icmp_ge (tgt := 24) hx hb dX10_layRoads_7 (by decide) (fun c116 => ?_) (fun c116 => ?_)
      · have c116 : (10 : Int) ≤ v3_4.toInt := wk_le.mp c116
        refine lv_iconst (v := 0) hx hb dX10_layRoads_24 (by decide) ?_
        refine lv_istore (lv' := [(4, .int 0), (0, .ref (ad 158)), (1, .int a1), (2, .int a2), (3, .int (-1))]) hx hb dX10_layRoads_25 hl (by decide) rfl (fun ls hl => ?_)
        exact L27 ((12 - (0 : Int)).toNat + 1) 0 H locs ls w109 (show 0 ≤ a1.toInt by omega) (show a1.toInt ≤ 2 by omega) (show 0 ≤ a2.toInt by omega) (show a2.toInt ≤ 255 by omega) (by decide) (by decide) (Nat.lt_succ_self _) hw hT hF  (lv_sub hl [1, 2, 3, 4, 0] rfl)
      · have c116 : v3_4.toInt < (10 : Int) := wk_leF c116
        refine lv_aload_n hx hb dX10_layRoads_10 rfl (lv_at hl 0 rfl) ?_
        refine tk_getA hC hK hw hT hinX10 kC_at158 (by decide) rfl 3 (by decide) (List.mem_of_getElem? (i := 1) rfl) rfl rfl dX10_layRoads_11 ?_
        refine lv_iload hx hb dX10_layRoads_14 (lv_at hl 4 rfl) ?_
        refine lv_iconst (v := 0) hx hb dX10_layRoads_16 (by decide) ?_
        refine tk_iast hC hK hw hT kC_at160 (by decide) rfl rfl (show 0 ≤ v3_4.toInt by omega) (show v3_4.toInt < 10 by omega) (by decide) (by decide) dX10_layRoads_17 (fun H locs w117 hw hT k119 c118 => ?_)
        have hF := hF.put kC_at160 (inE_of (a := 0) (b := 10) (by decide) (show 0 ≤ v3_4.toInt.toNat by omega) (show v3_4.toInt.toNat ≤ 10 by omega)) k119
        obtain ⟨x120, ex120⟩ : ∃ y : Int32, y = v3_4 + Int32.ofInt 1 := ⟨_, rfl⟩
        refine lv_iinc (v := x120) (lv' := [(4, .int x120), (0, .ref (ad 158)), (1, .int a1), (2, .int a2), (3, .int (-1))]) hx hb dX10_layRoads_18 hl (k := 4) rfl ex120.symm (by decide) rfl (fun ls hl => ?_)
        have ex120 : x120.toInt = v3_4.toInt + 1 := by rw [ex120]; exact wk_add (y := 1) (show -2147483648 ≤ v3_4.toInt + 1 by omega) (show v3_4.toInt + 1 ≤ 2147483647 by omega)
        refine lv_goto (tgt := 3) hx hb dX10_layRoads_21 (by decide) ?_
        exact ih3 x120 H locs ls w117 (show 0 ≤ a1.toInt by omega) (show a1.toInt ≤ 2 by omega) (show 0 ≤ a2.toInt by omega) (show a2.toInt ≤ 255 by omega) (show 0 ≤ x120.toInt by omega) (show x120.toInt ≤ 10 by omega) (show (10 - x120.toInt).toNat < n3 by omega) hw hT hF  (lv_sub hl [1, 2, 3, 4, 0] rfl)
  refine lv_iconst (v := 0) hx hb dX10_layRoads_0 (by decide) ?_
  refine lv_istore (lv' := [(4, .int 0), (0, .ref (ad 158)), (1, .int a1), (2, .int a2), (3, .int (-1))]) hx hb dX10_layRoads_1 hl (by decide) rfl (fun ls hl => ?_)
  exact L3 ((10 - (0 : Int)).toNat + 1) 0 s.heap locs ls w0 (show 0 ≤ a1.toInt by omega) (show a1.toInt ≤ 2 by omega) (show 0 ≤ a2.toInt by omega) (show a2.toInt ≤ 255 by omega) (by decide) (by decide) (Nat.lt_succ_self _) hw hT hF  (lv_sub hl [1, 2, 3, 4, 0] rfl)
