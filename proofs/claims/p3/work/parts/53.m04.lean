abbrev P_X10_takeDay_1 (ad : Nat → Nat) (cy : Nat → ClassId) (B : Int) (qr : Nat) (s1 : Int) (a1 : Int32) (w0 : va_W) : va_W → Prop := fun u => TW ksC ad cy B qr s1 u ∧ FE ksC [(10, 4, 4), (50, 0, 12)] w0 u ∧ ((True))
set_option maxHeartbeats 4000000 in
set_option maxRecDepth 100000 in
theorem k_X10_takeDay_1 (l : Launch) (adK adV : Nat → Nat) (dC : Nat → ClassId) (dI : Nat → Nat → Nat) (cy : Nat → ClassId) (ad : Nat → Nat) (B : Int) (hB0 : 2147483648 ≤ B) (hB1 : B ≤ 1152921504606846976) (qr : Nat) (s1 : Int)  (a1 : Int32) (ra1 : 0 ≤ a1.toInt) (ta1 : a1.toInt ≤ 6) (w0 : va_W) (sz : Nat) (hT : TW ksC ad cy B qr s1 w0)  : Met l yX10_takeDay wsX10_takeDay ({ frames := 2, cells := 0, slots := 0, locals := 34 }) (va_Pc [.ref (ad 158), .int a1] (wpreS adK adV dC dI cy sz w0)) (va_Qv (P_X10_takeDay_1 ad cy B qr s1 a1 w0) (fun u : va_W => wpost dC dI cy (va_A w0 sz) u) (va_A w0 sz)) 0 0 (va_A w0 sz) := by
  refine Met.ofW (cc := cX10_takeDay) (maxL := 3) (ret := none) (by decide) rfl ?_
  intro p e s m args below meth c s₁ Bk hml hv
  obtain ⟨rfl, ⟨hsz, hP, hK, hD0⟩, hE, hSR⟩ := hv
  have hx := Bk.exec
  have hb := Bk.bytes
  have hr := Bk.returns
  have hlocks := Bk.notSynchronized
  have hC : CallFix p m c cX10_takeDay 3 s _ wsX10_takeDay RX10 := ⟨hx, hb, hml, findClass_of_methodNamed Bk.named, atoms_spec (ws := wsX10_takeDay) Bk.pre⟩
  subst hsz
  have hD := hD0.self (sz := s.heap.size)
  generalize hAe : va_A w0 s.heap.size = A at hD hE ⊢
  have hA : ∀ q : Nat, s.heap.size ≤ q → A q := fun q h => by rw [← hAe]; exact Or.inr h
  have hw : Wd dC dI A s.heap s.heap [] w0 := ⟨hP, hD, va_S.rf⟩
  have hF : FE ksC [(10, 4, 4), (50, 0, 12)] w0 w0 := FE.rf
  have hl := lv_entry ([.ref (ad 158), .int a1]) (n := 3) (Nat.le_of_ble_eq_true rfl)
  rw [lg_entry_eq]
  generalize (lg_sl ([.ref (ad 158), .int a1]) ++ List.replicate (3 - (lg_sl ([.ref (ad 158), .int a1])).length) Slot.unset).toArray = ls at hl ⊢
  have hl : lv_has ls 3 [(0, .ref (ad 158)), (1, .int a1)] := hl
  generalize hloc : ([] : List Loc) = locs at hw ⊢
  have hinX10 : ∀ w ∈ u_ws RX10 TX10 5, w ∈ wsX10_takeDay := fun _ h => List.mem_cons_of_mem _ (List.mem_append_left _ (List.mem_append_right _ (h)))
  have hinX7 : ∀ w ∈ u_ws RX7 TX7 12, w ∈ wsX10_takeDay := fun _ h => List.mem_cons_of_mem _ (List.mem_append_right _ (h))
  have J65 : ∀ (v65_2 : Int32) (f65_158_4 : Int32) (f65_39_9 : Int32) (H : Heap) (locs : List Loc) (ls : Array Slot) (w1 : va_W), 0 ≤ a1.toInt → a1.toInt ≤ 6 → 0 ≤ v65_2.toInt → v65_2.toInt ≤ 12 → 0 ≤ f65_158_4.toInt → f65_158_4.toInt ≤ 12 → 0 ≤ f65_39_9.toInt → f65_39_9.toInt ≤ 12 → Wd dC dI A s.heap H locs w1 → TW ksC ad cy B qr s1 w1 → FE ksC [(10, 4, 4), (50, 0, 12)] w0 w1 → gi w1 158 4 = f65_158_4 → gi w1 39 9 = f65_39_9 → lv_has ls 3 [(0, .ref (ad 158)), (1, .int a1), (2, .int v65_2)] → W p l e ({ frames := 2, cells := 0, slots := 0, locals := 34 }) s m (List.toArray [.ref (ad 158), .int a1]) below meth c H locs 0 0 (MQ below (va_Qv (P_X10_takeDay_1 ad cy B qr s1 a1 w0) (fun u : va_W => wpost dC dI cy A u) A) (List.toArray [.ref (ad 158), .int a1]) s 0 0 A) (F0 m 65 ls []) := by
    intro v65_2 f65_158_4 f65_39_9 H locs ls w1 r2 t3 r4 t5 r6 t7 r9 t10 hw hT hF c8 c11 hl
    exact tk_vret hC hr hlocks hK ⟨hT, hF, trivial⟩ hw dX10_takeDay_65
  have L7 : ∀ (n7 : Nat) (v7_2 : Int32) (f7_158_4 : Int32) (H : Heap) (locs : List Loc) (ls : Array Slot) (w12 : va_W), 0 ≤ a1.toInt → a1.toInt ≤ 6 → 0 ≤ v7_2.toInt → v7_2.toInt ≤ 12 → 0 ≤ f7_158_4.toInt → f7_158_4.toInt ≤ 12 → (12 - v7_2.toInt).toNat < n7 → Wd dC dI A s.heap H locs w12 → TW ksC ad cy B qr s1 w12 → FE ksC [(10, 4, 4), (50, 0, 12)] w0 w12 → gi w12 158 4 = f7_158_4 → lv_has ls 3 [(0, .ref (ad 158)), (1, .int a1), (2, .int v7_2)] → W p l e ({ frames := 2, cells := 0, slots := 0, locals := 34 }) s m (List.toArray [.ref (ad 158), .int a1]) below meth c H locs 0 0 (MQ below (va_Qv (P_X10_takeDay_1 ad cy B qr s1 a1 w0) (fun u : va_W => wpost dC dI cy A u) A) (List.toArray [.ref (ad 158), .int a1]) s 0 0 A) (F0 m 7 ls []) := by
    intro n7
    induction n7 with
    | zero => intro v7_2 f7_158_4 H locs ls w12 r13 t14 r15 t16 r17 t18 hm7 hw hT hF c19 hl; omega
    | succ n7 ih7 =>
      intro v7_2 f7_158_4 H locs ls w12 r13 t14 r15 t16 r17 t18 hm7 hw hT hF c19 hl
      have J59 : ∀ (f59_158_4 : Int32) (f59_39_9 : Int32) (H : Heap) (locs : List Loc) (ls : Array Slot) (w20 : va_W), 0 ≤ a1.toInt → a1.toInt ≤ 6 → 0 ≤ v7_2.toInt → v7_2.toInt ≤ 11 → 0 ≤ f59_158_4.toInt → f59_158_4.toInt ≤ 12 → 1 ≤ f59_39_9.toInt → f59_39_9.toInt ≤ 12 → Wd dC dI A s.heap H locs w20 → TW ksC ad cy B qr s1 w20 → FE ksC [(10, 4, 4), (50, 0, 12)] w0 w20 → gi w20 158 4 = f59_158_4 → gi w20 39 9 = f59_39_9 → lv_has ls 3 [(0, .ref (ad 158)), (1, .int a1), (2, .int v7_2)] → W p l e ({ frames := 2, cells := 0, slots := 0, locals := 34 }) s m (List.toArray [.ref (ad 158), .int a1]) below meth c H locs 0 0 (MQ below (va_Qv (P_X10_takeDay_1 ad cy B qr s1 a1 w0) (fun u : va_W => wpost dC dI cy A u) A) (List.toArray [.ref (ad 158), .int a1]) s 0 0 A) (F0 m 59 ls []) := by
        intro f59_158_4 f59_39_9 H locs ls w20 r21 t22 r23 t24 r25 t26 r28 t29 hw hT hF c27 c30 hl
        obtain ⟨x31, ex31⟩ : ∃ y : Int32, y = v7_2 + Int32.ofInt 1 := ⟨_, rfl⟩
        refine lv_iinc (v := x31) (lv' := [(2, .int x31), (0, .ref (ad 158)), (1, .int a1)]) hx hb dX10_takeDay_59 hl (k := 2) rfl ex31.symm (by decide) rfl (fun ls hl => ?_)
        have ex31 : x31.toInt = v7_2.toInt + 1 := by rw [ex31]; exact wk_add (y := 1) (show -2147483648 ≤ v7_2.toInt + 1 by omega) (show v7_2.toInt + 1 ≤ 2147483647 by omega)
        refine lv_goto (tgt := 7) hx hb dX10_takeDay_62 (by decide) ?_
        exact ih7 x31 f59_158_4 H locs ls w20 (show 0 ≤ a1.toInt by omega) (show a1.toInt ≤ 6 by omega) (show 0 ≤ x31.toInt by omega) (show x31.toInt ≤ 12 by omega) (show 0 ≤ f59_158_4.toInt by omega) (show f59_158_4.toInt ≤ 12 by omega) (show (12 - x31.toInt).toNat < n7 by omega) hw hT hF c27 (lv_sub hl [1, 2, 0] rfl)
      refine lv_iload_n hx hb dX10_takeDay_7 rfl (lv_at hl 2 rfl) ?_
      refine lv_aload_n hx hb dX10_takeDay_8 rfl (lv_at hl 0 rfl) ?_
      refine tk_getA hC hK hw hT hinX10 kC_at158 (by decide) rfl 1 (by decide) (List.mem_of_getElem? (i := 2) rfl) rfl rfl dX10_takeDay_9 ?_
      refine tk_geti hC hK hw hT hinX7 kC_at39 (by decide) rfl 9 (by decide) (List.mem_of_getElem? (i := 3) rfl) rfl rfl dX10_takeDay_12 (fun x32 c33 rx32 tx32 => ?_)
      refine lv_icmp_ge (tgt := 65) hx hb dX10_takeDay_15 (by decide) (fun c34 => ?_) (fun c34 => ?_)
      · have c34 : x32.toInt ≤ v7_2.toInt := wk_le.mp c34
        exact J65 v7_2 f7_158_4 x32 H locs ls w12 (show 0 ≤ a1.toInt by omega) (show a1.toInt ≤ 6 by omega) (show 0 ≤ v7_2.toInt by omega) (show v7_2.toInt ≤ 12 by omega) (show 0 ≤ f7_158_4.toInt by omega) (show f7_158_4.toInt ≤ 12 by omega) (show 0 ≤ x32.toInt by omega) (show x32.toInt ≤ 12 by omega)  hw hT hF c19 c33 (lv_sub hl [0, 1, 2] rfl)
      · have c34 : v7_2.toInt < x32.toInt := wk_leF c34
        refine lv_aload_n hx hb dX10_takeDay_18 rfl (lv_at hl 0 rfl) ?_
        refine tk_geti hC hK hw hT hinX10 kC_at158 (by decide) rfl 4 (by decide) (List.mem_of_getElem? (i := 1) rfl) rfl rfl dX10_takeDay_19 (fun x35 c36 rx35 tx35 => ?_)
        refine wk_top f7_158_4 (c36.symm.trans c19) ?_
        refine lv_bipush (v := 12) hx hb dX10_takeDay_22 (by decide) ?_
        refine lv_icmp_ge (tgt := 65) hx hb dX10_takeDay_24 (by decide) (fun c37 => ?_) (fun c37 => ?_)
        · have c37 : (12 : Int) ≤ f7_158_4.toInt := wk_le.mp c37
          exact J65 v7_2 f7_158_4 x32 H locs ls w12 (show 0 ≤ a1.toInt by omega) (show a1.toInt ≤ 6 by omega) (show 0 ≤ v7_2.toInt by omega) (show v7_2.toInt ≤ 12 by omega) (show 0 ≤ f7_158_4.toInt by omega) (show f7_158_4.toInt ≤ 12 by omega) (show 0 ≤ x32.toInt by omega) (show x32.toInt ≤ 12 by omega)  hw hT hF c19 c33 (lv_sub hl [0, 1, 2] rfl)
        · have c37 : f7_158_4.toInt < (12 : Int) := wk_leF c37
          refine lv_aload_n hx hb dX10_takeDay_27 rfl (lv_at hl 0 rfl) ?_
          refine tk_getA hC hK hw hT hinX10 kC_at158 (by decide) rfl 1 (by decide) (List.mem_of_getElem? (i := 2) rfl) rfl rfl dX10_takeDay_28 ?_
          refine lv_iload_n hx hb dX10_takeDay_31 rfl (lv_at hl 2 rfl) ?_
          refine lv_iload_n hx hb dX10_takeDay_32 rfl (lv_at hl 1 rfl) ?_
          refine tk_Vi hC hK hw hT hA hE hSR kC_at39 (by decide) rfl (k_X7_signOn_1 l adK adV dC dI cy ad B (by omega) (by omega) qr s1   v7_2 (show 0 ≤ v7_2.toInt by omega) (show v7_2.toInt ≤ 11 by omega) a1 (show 0 ≤ a1.toInt by omega) (show a1.toInt ≤ 6 by omega) w12 H.size hT ) (cwV 2 hC.2.2.2.2 gX10_takeDay_X7_signOn rfl rfl rfl (by decide +kernel) ⟨Nat.le_of_ble_eq_true rfl, Nat.le_of_ble_eq_true rfl⟩) rfl hl.1 rfl (Nat.le_of_ble_eq_true rfl) dX10_takeDay_33 (fun r38 w40 H locs hp39 hw => ?_)
          obtain ⟨hT, k41, hg44⟩ := hp39
          have hF := hF.tr k41 (by decide)
          have c45 := k41.gi kC_at158 (by decide) c19
          have c46 := k41.gi kC_at39 (by decide) c33
          obtain ⟨g42, g43⟩ := hg44
          refine lv_if_eq (tgt := 59) hx hb dX10_takeDay_36 (by decide) (fun c47 => ?_) (fun c47 => ?_)
          · have c47 : r38.toInt = (0 : Int) := wk_eq.mp c47
            exact J59 f7_158_4 x32 H locs ls w40 (show 0 ≤ a1.toInt by omega) (show a1.toInt ≤ 6 by omega) (show 0 ≤ v7_2.toInt by omega) (show v7_2.toInt ≤ 11 by omega) (show 0 ≤ f7_158_4.toInt by omega) (show f7_158_4.toInt ≤ 12 by omega) (show 1 ≤ x32.toInt by omega) (show x32.toInt ≤ 12 by omega)  hw hT hF c45 c46 (lv_sub hl [0, 1, 2] rfl)
          · have c47 : ¬ r38.toInt = (0 : Int) := wk_eqF c47
            refine lv_aload_n hx hb dX10_takeDay_39 rfl (lv_at hl 0 rfl) ?_
            refine tk_getA hC hK hw hT hinX10 kC_at158 (by decide) rfl 2 (by decide) (List.mem_of_getElem? (i := 4) rfl) rfl rfl dX10_takeDay_40 ?_
            refine lv_aload_n hx hb dX10_takeDay_43 rfl (lv_at hl 0 rfl) ?_
            refine tk_geti hC hK hw hT hinX10 kC_at158 (by decide) rfl 4 (by decide) (List.mem_of_getElem? (i := 1) rfl) rfl rfl dX10_takeDay_44 (fun x48 c49 rx48 tx48 => ?_)
            refine wk_top f7_158_4 (c49.symm.trans c45) ?_
            refine lv_iload_n hx hb dX10_takeDay_47 rfl (lv_at hl 2 rfl) ?_
            refine tk_iast hC hK hw hT kC_at159 (by decide) rfl rfl (show 0 ≤ f7_158_4.toInt by omega) (show f7_158_4.toInt < 12 by omega) (show 0 ≤ v7_2.toInt by omega) (show v7_2.toInt ≤ 11 by omega) dX10_takeDay_48 (fun H locs w50 hw hT k52 c51 => ?_)
            have hF := hF.put kC_at159 (inE_of (a := 0) (b := 12) (by decide) (show 0 ≤ f7_158_4.toInt.toNat by omega) (show f7_158_4.toInt.toNat ≤ 12 by omega)) k52
            have c53 := k52.gi (Or.inl (tk_ne kC_at158 kC_at159 (by decide))) c45
            have c54 := k52.gi (Or.inl (tk_ne kC_at39 kC_at159 (by decide))) c46
            refine lv_aload_n hx hb dX10_takeDay_49 rfl (lv_at hl 0 rfl) ?_
            refine lv_dup hx hb dX10_takeDay_50 rfl ?_
            refine tk_geti hC hK hw hT hinX10 kC_at158 (by decide) rfl 4 (by decide) (List.mem_of_getElem? (i := 1) rfl) rfl rfl dX10_takeDay_51 (fun x55 c56 rx55 tx55 => ?_)
            refine wk_top f7_158_4 (c56.symm.trans c53) ?_
            refine lv_iconst (v := 1) hx hb dX10_takeDay_54 (by decide) ?_
            refine lv_iadd hx hb dX10_takeDay_55 ?_
            refine lv_topi (fun x57 ex57 => ?_)
            have ex57 : x57.toInt = f7_158_4.toInt + (1 : Int) := by rw [ex57]; exact wk_add (show (-2147483648) ≤ f7_158_4.toInt + (1 : Int) by omega) (show f7_158_4.toInt + (1 : Int) ≤ 2147483647 by omega)
            refine tk_puti hC hK hw hT hinX10 tyX10_ok nmX10 kC_at158 (by decide) rfl rfl 4 (by decide) (List.mem_of_getElem? (i := 1) rfl) rfl rfl rfl rfl (show 0 ≤ x57.toInt by omega) (show x57.toInt ≤ 12 by omega) dX10_takeDay_56 (fun H locs w58 hw hT k60 c59 => ?_)
            have hF := hF.put kC_at158 (k := 4) (by decide) k60
            have c61 := k60.gi (Or.inr (by decide)) c54
            exact J59 x57 x32 H locs ls w58 (show 0 ≤ a1.toInt by omega) (show a1.toInt ≤ 6 by omega) (show 0 ≤ v7_2.toInt by omega) (show v7_2.toInt ≤ 11 by omega) (show 0 ≤ x57.toInt by omega) (show x57.toInt ≤ 12 by omega) (show 1 ≤ x32.toInt by omega) (show x32.toInt ≤ 12 by omega)  hw hT hF c59 c61 (lv_sub hl [0, 1, 2] rfl)
  refine lv_aload_n hx hb dX10_takeDay_0 rfl (lv_at hl 0 rfl) ?_
  refine lv_iconst (v := 0) hx hb dX10_takeDay_1 (by decide) ?_
  refine tk_puti hC hK hw hT hinX10 tyX10_ok nmX10 kC_at158 (by decide) rfl rfl 4 (by decide) (List.mem_of_getElem? (i := 1) rfl) rfl rfl rfl rfl (by decide) (by decide) dX10_takeDay_2 (fun H locs w62 hw hT k64 c63 => ?_)
  have hF := hF.put kC_at158 (k := 4) (by decide) k64
  refine lv_iconst (v := 0) hx hb dX10_takeDay_5 (by decide) ?_
  refine lv_istore_n (lv' := [(2, .int 0), (0, .ref (ad 158)), (1, .int a1)]) hx hb dX10_takeDay_6 rfl hl (by decide) rfl (fun ls hl => ?_)
  exact L7 ((12 - (0 : Int)).toNat + 1) 0 0 H locs ls w62 (show 0 ≤ a1.toInt by omega) (show a1.toInt ≤ 6 by omega) (by decide) (by decide) (by decide) (by decide) (Nat.lt_succ_self _) hw hT hF c63 (lv_sub hl [1, 2, 0] rfl)
abbrev P_X10_crossing_1 (ad : Nat → Nat) (cy : Nat → ClassId) (B : Int) (qr : Nat) (s1 : Int) (a1 : Int32) (a2 : Int32) (w0 : va_W) : Int32 → va_W → Prop := fun r u => TW ksC ad cy B qr s1 u ∧ FE ksC ([] : List (Nat × Nat × Nat)) w0 u ∧ (((-1) ≤ r.toInt ∧ r.toInt ≤ 1))
set_option maxHeartbeats 4000000 in
set_option maxRecDepth 100000 in
theorem k_X10_crossing_1 (l : Launch) (adK adV : Nat → Nat) (dC : Nat → ClassId) (dI : Nat → Nat → Nat) (cy : Nat → ClassId) (ad : Nat → Nat) (B : Int) (hB0 : 2147483648 ≤ B) (hB1 : B ≤ 1152921504606846976) (qr : Nat) (s1 : Int)  (a1 : Int32) (ra1 : 0 ≤ a1.toInt) (ta1 : a1.toInt ≤ 5) (a2 : Int32) (ra2 : 1 ≤ a2.toInt) (ta2 : a2.toInt ≤ 1023) (w0 : va_W) (sz : Nat) (hT : TW ksC ad cy B qr s1 w0)  : Met l yX10_crossing wsX10_crossing ({ frames := 1, cells := 0, slots := 0, locals := 12 }) (va_Pc [.ref (ad 158), .int a1, .int a2] (wpreS adK adV dC dI cy sz w0)) (va_Qi (P_X10_crossing_1 ad cy B qr s1 a1 a2 w0) (fun u : va_W => wpost dC dI cy (va_A w0 sz) u) (va_A w0 sz)) 0 0 (va_A w0 sz) := by
  refine Met.ofW (cc := cX10_crossing) (maxL := 3) (ret := (some .int)) (by decide) rfl ?_
  intro p e s m args below meth c s₁ Bk hml hv
  obtain ⟨rfl, ⟨hsz, hP, hK, hD0⟩, hE, hSR⟩ := hv
  have hx := Bk.exec
  have hb := Bk.bytes
  have hr := Bk.returns
  have hlocks := Bk.notSynchronized
  have hC : CallFix p m c cX10_crossing 3 s _ wsX10_crossing RX10 := ⟨hx, hb, hml, findClass_of_methodNamed Bk.named, atoms_spec (ws := wsX10_crossing) Bk.pre⟩
  subst hsz
  have hD := hD0.self (sz := s.heap.size)
  generalize hAe : va_A w0 s.heap.size = A at hD hE ⊢
  have hA : ∀ q : Nat, s.heap.size ≤ q → A q := fun q h => by rw [← hAe]; exact Or.inr h
  have hw : Wd dC dI A s.heap s.heap [] w0 := ⟨hP, hD, va_S.rf⟩
  have hF : FE ksC ([] : List (Nat × Nat × Nat)) w0 w0 := FE.rf
  have hl := lv_entry ([.ref (ad 158), .int a1, .int a2]) (n := 3) (Nat.le_of_ble_eq_true rfl)
  rw [lg_entry_eq]
  generalize (lg_sl ([.ref (ad 158), .int a1, .int a2]) ++ List.replicate (3 - (lg_sl ([.ref (ad 158), .int a1, .int a2])).length) Slot.unset).toArray = ls at hl ⊢
  have hl : lv_has ls 3 [(0, .ref (ad 158)), (1, .int a1), (2, .int a2)] := hl
  generalize hloc : ([] : List Loc) = locs at hw ⊢
  have hinX10 : ∀ w ∈ u_ws RX10 TX10 5, w ∈ wsX10_crossing := fun _ h => List.mem_cons_of_mem _ (List.mem_append_left _ (List.mem_append_right _ (h)))
  have hinX5 : ∀ w ∈ u_ws RX5 TX5 14, w ∈ wsX10_crossing := fun _ h => List.mem_cons_of_mem _ (List.mem_append_right _ (h))
  refine lv_iload_n hx hb dX10_crossing_0 rfl (lv_at hl 2 rfl) ?_
  refine lv_aload_n hx hb dX10_crossing_1 rfl (lv_at hl 0 rfl) ?_
  refine tk_getA hC hK hw hT hinX10 kC_at158 (by decide) rfl 0 (by decide) (List.mem_of_getElem? (i := 1) rfl) rfl rfl dX10_crossing_2 ?_
  refine tk_getO hC hK hw hT hinX5 kC_at38 (by decide) rfl 3 (by decide) (List.mem_of_getElem? (i := 2) rfl) rfl rfl dX10_crossing_5 ?_
  refine lv_iload_n hx hb dX10_crossing_8 rfl (lv_at hl 1 rfl) ?_
  refine tk_iald hC hK hw hT kC_at50 rfl rfl (show 0 ≤ a1.toInt by omega) (show a1.toInt < 6 by omega) dX10_crossing_9 (fun x1 c2 rx1 tx1 => ?_)
  refine lv_ishr hx hb dX10_crossing_10 ?_
  refine lv_topi (fun x3 ex3 => ?_)
  have bx3 : 0 ≤ x3.toInt ∧ x3.toInt ≤ a2.toInt := by rw [ex3]; exact wk_shr (by omega)
  refine lv_iconst (v := 1) hx hb dX10_crossing_11 (by decide) ?_
  refine lv_iand hx hb dX10_crossing_12 ?_
  refine lv_topi (fun x4 ex4 => ?_)
  have bx4 : 0 ≤ x4.toInt ∧ x4.toInt ≤ (1 : Int) := by rw [ex4]; exact wk_and (by decide)
  refine lv_iload_n hx hb dX10_crossing_13 rfl (lv_at hl 2 rfl) ?_
  refine lv_aload_n hx hb dX10_crossing_14 rfl (lv_at hl 0 rfl) ?_
  refine tk_getA hC hK hw hT hinX10 kC_at158 (by decide) rfl 0 (by decide) (List.mem_of_getElem? (i := 1) rfl) rfl rfl dX10_crossing_15 ?_
  refine tk_getO hC hK hw hT hinX5 kC_at38 (by decide) rfl 4 (by decide) (List.mem_of_getElem? (i := 3) rfl) rfl rfl dX10_crossing_18 ?_
  refine lv_iload_n hx hb dX10_crossing_21 rfl (lv_at hl 1 rfl) ?_
  refine tk_iald hC hK hw hT kC_at51 rfl rfl (show 0 ≤ a1.toInt by omega) (show a1.toInt < 6 by omega) dX10_crossing_22 (fun x5 c6 rx5 tx5 => ?_)
  refine lv_ishr hx hb dX10_crossing_23 ?_
  refine lv_topi (fun x7 ex7 => ?_)
  have bx7 : 0 ≤ x7.toInt ∧ x7.toInt ≤ a2.toInt := by rw [ex7]; exact wk_shr (by omega)
  refine lv_iconst (v := 1) hx hb dX10_crossing_24 (by decide) ?_
  refine lv_iand hx hb dX10_crossing_25 ?_
  refine lv_topi (fun x8 ex8 => ?_)
  have bx8 : 0 ≤ x8.toInt ∧ x8.toInt ≤ (1 : Int) := by rw [ex8]; exact wk_and (by decide)
  refine lv_isub hx hb dX10_crossing_26 ?_
  refine lv_topi (fun x9 ex9 => ?_)
  have ex9 : x9.toInt = x4.toInt - x8.toInt := by rw [ex9]; exact wk_sub (show (-2147483648) ≤ x4.toInt - x8.toInt by omega) (show x4.toInt - x8.toInt ≤ 2147483647 by omega)
  exact tk_iret hC hr hlocks hK ⟨hT, hF, ⟨(show (-1) ≤ x9.toInt by omega), (show x9.toInt ≤ 1 by omega)⟩⟩ hw dX10_crossing_27
abbrev P_X10_crossing_2 (ad : Nat → Nat) (cy : Nat → ClassId) (B : Int) (qr : Nat) (s1 : Int) (a1 : Int32) (a2 : Int32) (w0 : va_W) : Int32 → va_W → Prop := fun r u => TW ksC ad cy B qr s1 u ∧ FE ksC ([] : List (Nat × Nat × Nat)) w0 u ∧ (((-1) ≤ r.toInt ∧ r.toInt ≤ 1))
set_option maxHeartbeats 4000000 in
set_option maxRecDepth 100000 in
theorem k_X10_crossing_2 (l : Launch) (adK adV : Nat → Nat) (dC : Nat → ClassId) (dI : Nat → Nat → Nat) (cy : Nat → ClassId) (ad : Nat → Nat) (B : Int) (hB0 : 2147483648 ≤ B) (hB1 : B ≤ 1152921504606846976) (qr : Nat) (s1 : Int)  (a1 : Int32) (ra1 : 1 ≤ a1.toInt) (ta1 : a1.toInt ≤ 5) (a2 : Int32) (ra2 : 1 ≤ a2.toInt) (ta2 : a2.toInt ≤ 1023) (w0 : va_W) (sz : Nat) (hT : TW ksC ad cy B qr s1 w0)  : Met l yX10_crossing wsX10_crossing ({ frames := 1, cells := 0, slots := 0, locals := 12 }) (va_Pc [.ref (ad 158), .int a1, .int a2] (wpreS adK adV dC dI cy sz w0)) (va_Qi (P_X10_crossing_2 ad cy B qr s1 a1 a2 w0) (fun u : va_W => wpost dC dI cy (va_A w0 sz) u) (va_A w0 sz)) 0 0 (va_A w0 sz) := by
  refine Met.ofW (cc := cX10_crossing) (maxL := 3) (ret := (some .int)) (by decide) rfl ?_
  intro p e s m args below meth c s₁ Bk hml hv
  obtain ⟨rfl, ⟨hsz, hP, hK, hD0⟩, hE, hSR⟩ := hv
  have hx := Bk.exec
  have hb := Bk.bytes
  have hr := Bk.returns
  have hlocks := Bk.notSynchronized
  have hC : CallFix p m c cX10_crossing 3 s _ wsX10_crossing RX10 := ⟨hx, hb, hml, findClass_of_methodNamed Bk.named, atoms_spec (ws := wsX10_crossing) Bk.pre⟩
  subst hsz
  have hD := hD0.self (sz := s.heap.size)
  generalize hAe : va_A w0 s.heap.size = A at hD hE ⊢
  have hA : ∀ q : Nat, s.heap.size ≤ q → A q := fun q h => by rw [← hAe]; exact Or.inr h
  have hw : Wd dC dI A s.heap s.heap [] w0 := ⟨hP, hD, va_S.rf⟩
  have hF : FE ksC ([] : List (Nat × Nat × Nat)) w0 w0 := FE.rf
  have hl := lv_entry ([.ref (ad 158), .int a1, .int a2]) (n := 3) (Nat.le_of_ble_eq_true rfl)
  rw [lg_entry_eq]
  generalize (lg_sl ([.ref (ad 158), .int a1, .int a2]) ++ List.replicate (3 - (lg_sl ([.ref (ad 158), .int a1, .int a2])).length) Slot.unset).toArray = ls at hl ⊢
  have hl : lv_has ls 3 [(0, .ref (ad 158)), (1, .int a1), (2, .int a2)] := hl
  generalize hloc : ([] : List Loc) = locs at hw ⊢
  have hinX10 : ∀ w ∈ u_ws RX10 TX10 5, w ∈ wsX10_crossing := fun _ h => List.mem_cons_of_mem _ (List.mem_append_left _ (List.mem_append_right _ (h)))
  have hinX5 : ∀ w ∈ u_ws RX5 TX5 14, w ∈ wsX10_crossing := fun _ h => List.mem_cons_of_mem _ (List.mem_append_right _ (h))
  refine lv_iload_n hx hb dX10_crossing_0 rfl (lv_at hl 2 rfl) ?_
  refine lv_aload_n hx hb dX10_crossing_1 rfl (lv_at hl 0 rfl) ?_
  refine tk_getA hC hK hw hT hinX10 kC_at158 (by decide) rfl 0 (by decide) (List.mem_of_getElem? (i := 1) rfl) rfl rfl dX10_crossing_2 ?_
  refine tk_getO hC hK hw hT hinX5 kC_at38 (by decide) rfl 3 (by decide) (List.mem_of_getElem? (i := 2) rfl) rfl rfl dX10_crossing_5 ?_
  refine lv_iload_n hx hb dX10_crossing_8 rfl (lv_at hl 1 rfl) ?_
  refine tk_iald hC hK hw hT kC_at50 rfl rfl (show 0 ≤ a1.toInt by omega) (show a1.toInt < 6 by omega) dX10_crossing_9 (fun x1 c2 rx1 tx1 => ?_)
  refine lv_ishr hx hb dX10_crossing_10 ?_
  refine lv_topi (fun x3 ex3 => ?_)
  have bx3 : 0 ≤ x3.toInt ∧ x3.toInt ≤ a2.toInt := by rw [ex3]; exact wk_shr (by omega)
  refine lv_iconst (v := 1) hx hb dX10_crossing_11 (by decide) ?_
  refine lv_iand hx hb dX10_crossing_12 ?_
  refine lv_topi (fun x4 ex4 => ?_)
  have bx4 : 0 ≤ x4.toInt ∧ x4.toInt ≤ (1 : Int) := by rw [ex4]; exact wk_and (by decide)
  refine lv_iload_n hx hb dX10_crossing_13 rfl (lv_at hl 2 rfl) ?_
  refine lv_aload_n hx hb dX10_crossing_14 rfl (lv_at hl 0 rfl) ?_
  refine tk_getA hC hK hw hT hinX10 kC_at158 (by decide) rfl 0 (by decide) (List.mem_of_getElem? (i := 1) rfl) rfl rfl dX10_crossing_15 ?_
  refine tk_getO hC hK hw hT hinX5 kC_at38 (by decide) rfl 4 (by decide) (List.mem_of_getElem? (i := 3) rfl) rfl rfl dX10_crossing_18 ?_
  refine lv_iload_n hx hb dX10_crossing_21 rfl (lv_at hl 1 rfl) ?_
  refine tk_iald hC hK hw hT kC_at51 rfl rfl (show 0 ≤ a1.toInt by omega) (show a1.toInt < 6 by omega) dX10_crossing_22 (fun x5 c6 rx5 tx5 => ?_)
  refine lv_ishr hx hb dX10_crossing_23 ?_
  refine lv_topi (fun x7 ex7 => ?_)
  have bx7 : 0 ≤ x7.toInt ∧ x7.toInt ≤ a2.toInt := by rw [ex7]; exact wk_shr (by omega)
  refine lv_iconst (v := 1) hx hb dX10_crossing_24 (by decide) ?_
  refine lv_iand hx hb dX10_crossing_25 ?_
  refine lv_topi (fun x8 ex8 => ?_)
  have bx8 : 0 ≤ x8.toInt ∧ x8.toInt ≤ (1 : Int) := by rw [ex8]; exact wk_and (by decide)
  refine lv_isub hx hb dX10_crossing_26 ?_
  refine lv_topi (fun x9 ex9 => ?_)
  have ex9 : x9.toInt = x4.toInt - x8.toInt := by rw [ex9]; exact wk_sub (show (-2147483648) ≤ x4.toInt - x8.toInt by omega) (show x4.toInt - x8.toInt ≤ 2147483647 by omega)
  exact tk_iret hC hr hlocks hK ⟨hT, hF, ⟨(show (-1) ≤ x9.toInt by omega), (show x9.toInt ≤ 1 by omega)⟩⟩ hw dX10_crossing_27
abbrev P_X10_layRoads_1 (ad : Nat → Nat) (cy : Nat → ClassId) (B : Int) (qr : Nat) (s1 : Int) (a1 : Int32) (a2 : Int32) (a3 : Int32) (w0 : va_W) : va_W → Prop := fun u => TW ksC ad cy B qr s1 u ∧ FE ksC [(51, 0, 10)] w0 u ∧ ((True))
set_option maxHeartbeats 4000000 in
set_option maxRecDepth 100000 in
theorem k_X10_layRoads_1 (l : Launch) (adK adV : Nat → Nat) (dC : Nat → ClassId) (dI : Nat → Nat → Nat) (cy : Nat → ClassId) (ad : Nat → Nat) (B : Int) (hB0 : 2147483648 ≤ B) (hB1 : B ≤ 1152921504606846976) (qr : Nat) (s1 : Int)  (a1 : Int32) (ra1 : 0 ≤ a1.toInt) (ta1 : a1.toInt ≤ 12) (a2 : Int32) (ra2 : 0 ≤ a2.toInt) (ta2 : a2.toInt ≤ 8191) (a3 : Int32) (ra3 : (-1) ≤ a3.toInt) (ta3 : a3.toInt ≤ 11) (w0 : va_W) (sz : Nat) (hT : TW ksC ad cy B qr s1 w0)  : Met l yX10_layRoads wsX10_layRoads ({ frames := 1, cells := 0, slots := 0, locals := 12 }) (va_Pc [.ref (ad 158), .int a1, .int a2, .int a3] (wpreS adK adV dC dI cy sz w0)) (va_Qv (P_X10_layRoads_1 ad cy B qr s1 a1 a2 a3 w0) (fun u : va_W => wpost dC dI cy (va_A w0 sz) u) (va_A w0 sz)) 0 0 (va_A w0 sz) := by
  refine Met.ofW (cc := cX10_layRoads) (maxL := 8) (ret := none) (by decide) rfl ?_
  intro p e s m args below meth c s₁ Bk hml hv
  obtain ⟨rfl, ⟨hsz, hP, hK, hD0⟩, hE, hSR⟩ := hv
  have hx := Bk.exec
  have hb := Bk.bytes
  have hr := Bk.returns
  have hlocks := Bk.notSynchronized
  have hC : CallFix p m c cX10_layRoads 8 s _ wsX10_layRoads RX10 := ⟨hx, hb, hml, findClass_of_methodNamed Bk.named, atoms_spec (ws := wsX10_layRoads) Bk.pre⟩
  subst hsz
  have hD := hD0.self (sz := s.heap.size)
  generalize hAe : va_A w0 s.heap.size = A at hD hE ⊢
  have hA : ∀ q : Nat, s.heap.size ≤ q → A q := fun q h => by rw [← hAe]; exact Or.inr h
  have hw : Wd dC dI A s.heap s.heap [] w0 := ⟨hP, hD, va_S.rf⟩
  have hF : FE ksC [(51, 0, 10)] w0 w0 := FE.rf
  have hl := lv_entry ([.ref (ad 158), .int a1, .int a2, .int a3]) (n := 8) (Nat.le_of_ble_eq_true rfl)
  rw [lg_entry_eq]
  generalize (lg_sl ([.ref (ad 158), .int a1, .int a2, .int a3]) ++ List.replicate (8 - (lg_sl ([.ref (ad 158), .int a1, .int a2, .int a3])).length) Slot.unset).toArray = ls at hl ⊢
  have hl : lv_has ls 8 [(0, .ref (ad 158)), (1, .int a1), (2, .int a2), (3, .int a3)] := hl
  generalize hloc : ([] : List Loc) = locs at hw ⊢
  have hinX10 : ∀ w ∈ u_ws RX10 TX10 5, w ∈ wsX10_layRoads := fun _ h => List.mem_cons_of_mem _ (List.mem_append_left _ (List.mem_append_right _ (h)))
  have hinX7 : ∀ w ∈ u_ws RX7 TX7 12, w ∈ wsX10_layRoads := fun _ h => List.mem_cons_of_mem _ (List.mem_append_right _ (h))
  have L27 : ∀ (n27 : Nat) (v27_4 : Int32) (H : Heap) (locs : List Loc) (ls : Array Slot) (w1 : va_W), 0 ≤ a1.toInt → a1.toInt ≤ 12 → 0 ≤ a2.toInt → a2.toInt ≤ 8191 → (-1) ≤ a3.toInt → a3.toInt ≤ 11 → 0 ≤ v27_4.toInt → v27_4.toInt ≤ 12 → (12 - v27_4.toInt).toNat < n27 → Wd dC dI A s.heap H locs w1 → TW ksC ad cy B qr s1 w1 → FE ksC [(51, 0, 10)] w0 w1 → lv_has ls 8 [(0, .ref (ad 158)), (1, .int a1), (2, .int a2), (3, .int a3), (4, .int v27_4)] → W p l e ({ frames := 1, cells := 0, slots := 0, locals := 12 }) s m (List.toArray [.ref (ad 158), .int a1, .int a2, .int a3]) below meth c H locs 0 0 (MQ below (va_Qv (P_X10_layRoads_1 ad cy B qr s1 a1 a2 a3 w0) (fun u : va_W => wpost dC dI cy A u) A) (List.toArray [.ref (ad 158), .int a1, .int a2, .int a3]) s 0 0 A) (F0 m 27 ls []) := by
    intro n27
    induction n27 with
    | zero => intro v27_4 H locs ls w1 r2 t3 r4 t5 r6 t7 r8 t9 hm27 hw hT hF hl; omega
    | succ n27 ih27 =>
      intro v27_4 H locs ls w1 r2 t3 r4 t5 r6 t7 r8 t9 hm27 hw hT hF hl
      have J144 : ∀ (f144_158_4 : Int32) (H : Heap) (locs : List Loc) (ls : Array Slot) (w10 : va_W), 0 ≤ a1.toInt → a1.toInt ≤ 12 → 0 ≤ a2.toInt → a2.toInt ≤ 8191 → (-1) ≤ a3.toInt → a3.toInt ≤ 11 → 0 ≤ v27_4.toInt → v27_4.toInt ≤ 11 → 1 ≤ f144_158_4.toInt → f144_158_4.toInt ≤ 12 → Wd dC dI A s.heap H locs w10 → TW ksC ad cy B qr s1 w10 → FE ksC [(51, 0, 10)] w0 w10 → gi w10 158 4 = f144_158_4 → lv_has ls 8 [(0, .ref (ad 158)), (1, .int a1), (2, .int a2), (3, .int a3), (4, .int v27_4)] → W p l e ({ frames := 1, cells := 0, slots := 0, locals := 12 }) s m (List.toArray [.ref (ad 158), .int a1, .int a2, .int a3]) below meth c H locs 0 0 (MQ below (va_Qv (P_X10_layRoads_1 ad cy B qr s1 a1 a2 a3 w0) (fun u : va_W => wpost dC dI cy A u) A) (List.toArray [.ref (ad 158), .int a1, .int a2, .int a3]) s 0 0 A) (F0 m 144 ls []) := by
        intro f144_158_4 H locs ls w10 r11 t12 r13 t14 r15 t16 r17 t18 r19 t20 hw hT hF c21 hl
        obtain ⟨x22, ex22⟩ : ∃ y : Int32, y = v27_4 + Int32.ofInt 1 := ⟨_, rfl⟩
        refine lv_iinc (v := x22) (lv' := [(4, .int x22), (0, .ref (ad 158)), (1, .int a1), (2, .int a2), (3, .int a3)]) hx hb dX10_layRoads_144 hl (k := 4) rfl ex22.symm (by decide) rfl (fun ls hl => ?_)
        have ex22 : x22.toInt = v27_4.toInt + 1 := by rw [ex22]; exact wk_add (y := 1) (show -2147483648 ≤ v27_4.toInt + 1 by omega) (show v27_4.toInt + 1 ≤ 2147483647 by omega)
        refine lv_goto (tgt := 27) hx hb dX10_layRoads_147 (by decide) ?_
        exact ih27 x22 H locs ls w10 (show 0 ≤ a1.toInt by omega) (show a1.toInt ≤ 12 by omega) (show 0 ≤ a2.toInt by omega) (show a2.toInt ≤ 8191 by omega) (show (-1) ≤ a3.toInt by omega) (show a3.toInt ≤ 11 by omega) (show 0 ≤ x22.toInt by omega) (show x22.toInt ≤ 12 by omega) (show (12 - x22.toInt).toNat < n27 by omega) hw hT hF  (lv_sub hl [1, 2, 3, 4, 0] rfl)
      have J130 : ∀ (v130_5 : Int32) (v130_6 : Int32) (v130_7 : Int32) (f130_158_4 : Int32) (H : Heap) (locs : List Loc) (ls : Array Slot) (w23 : va_W), 0 ≤ a1.toInt → a1.toInt ≤ 12 → 0 ≤ a2.toInt → a2.toInt ≤ 8191 → (-1) ≤ a3.toInt → a3.toInt ≤ 11 → 0 ≤ v27_4.toInt → v27_4.toInt ≤ 11 → 0 ≤ v130_5.toInt → v130_5.toInt ≤ 9 → 0 ≤ v130_6.toInt → v130_6.toInt ≤ 9 → 0 ≤ v130_7.toInt → v130_7.toInt ≤ 1 → 1 ≤ f130_158_4.toInt → f130_158_4.toInt ≤ 12 → Wd dC dI A s.heap H locs w23 → TW ksC ad cy B qr s1 w23 → FE ksC [(51, 0, 10)] w0 w23 → gi w23 158 4 = f130_158_4 → lv_has ls 8 [(0, .ref (ad 158)), (1, .int a1), (2, .int a2), (3, .int a3), (4, .int v27_4), (5, .int v130_5), (6, .int v130_6), (7, .int v130_7)] → W p l e ({ frames := 1, cells := 0, slots := 0, locals := 12 }) s m (List.toArray [.ref (ad 158), .int a1, .int a2, .int a3]) below meth c H locs 0 0 (MQ below (va_Qv (P_X10_layRoads_1 ad cy B qr s1 a1 a2 a3 w0) (fun u : va_W => wpost dC dI cy A u) A) (List.toArray [.ref (ad 158), .int a1, .int a2, .int a3]) s 0 0 A) (F0 m 130 ls []) := by
        intro v130_5 v130_6 v130_7 f130_158_4 H locs ls w23 r24 t25 r26 t27 r28 t29 r30 t31 r32 t33 r34 t35 r36 t37 r38 t39 hw hT hF c40 hl
        refine lv_aload_n hx hb dX10_layRoads_130 rfl (lv_at hl 0 rfl) ?_
        refine tk_getA hC hK hw hT hinX10 kC_at158 (by decide) rfl 3 (by decide) (List.mem_of_getElem? (i := 1) rfl) rfl rfl dX10_layRoads_131 ?_
        refine lv_iload hx hb dX10_layRoads_134 (lv_at hl 6 rfl) ?_
        refine lv_dup2_11 hx hb dX10_layRoads_136 rfl rfl ?_
        refine tk_iald hC hK hw hT kC_at160 rfl rfl (show 0 ≤ v130_6.toInt by omega) (show v130_6.toInt < 10 by omega) dX10_layRoads_137 (fun x41 c42 rx41 tx41 => ?_)
        refine lv_iconst (v := 1) hx hb dX10_layRoads_138 (by decide) ?_
        refine lv_iload hx hb dX10_layRoads_139 (lv_at hl 5 rfl) ?_
        refine lv_ishl hx hb dX10_layRoads_141 ?_
        refine lv_topi (fun x43 ex43 => ?_)
        have bx43 : 1 ≤ x43.toInt ∧ x43.toInt ≤ 512 := by rw [ex43]; exact wk_shl1 9 (by decide) (by omega) (by omega)
        refine lv_ior hx hb dX10_layRoads_142 ?_
        refine lv_topi (fun x44 ex44 => ?_)
        have bx44 : 0 ≤ x44.toInt ∧ x44.toInt < 1024 := by rw [ex44]; exact wk_or 10 (by decide) (by omega) (by omega) (by omega) (by omega)
        have mx44 : x41.toInt ≤ x44.toInt ∧ x43.toInt ≤ x44.toInt := by rw [ex44]; exact wk_orL 10 (by decide) (by omega) (by omega) (by omega) (by omega)
        refine tk_iast hC hK hw hT kC_at160 (by decide) rfl rfl (show 0 ≤ v130_6.toInt by omega) (show v130_6.toInt < 10 by omega) (show 0 ≤ x44.toInt by omega) (show x44.toInt ≤ 1023 by omega) dX10_layRoads_143 (fun H locs w45 hw hT k47 c46 => ?_)
        have hF := hF.put kC_at160 (inE_of (a := 0) (b := 10) (by decide) (show 0 ≤ v130_6.toInt.toNat by omega) (show v130_6.toInt.toNat ≤ 10 by omega)) k47
        have c48 := k47.gi (Or.inl (tk_ne kC_at158 kC_at160 (by decide))) c40
        exact J144 f130_158_4 H locs ls w45 (show 0 ≤ a1.toInt by omega) (show a1.toInt ≤ 12 by omega) (show 0 ≤ a2.toInt by omega) (show a2.toInt ≤ 8191 by omega) (show (-1) ≤ a3.toInt by omega) (show a3.toInt ≤ 11 by omega) (show 0 ≤ v27_4.toInt by omega) (show v27_4.toInt ≤ 11 by omega) (show 1 ≤ f130_158_4.toInt by omega) (show f130_158_4.toInt ≤ 12 by omega)  hw hT hF c48 (lv_sub hl [0, 1, 2, 3, 4] rfl)
      have J118 : ∀ (v118_5 : Int32) (v118_6 : Int32) (v118_7 : Int32) (f118_158_4 : Int32) (H : Heap) (locs : List Loc) (ls : Array Slot) (w49 : va_W), 0 ≤ a1.toInt → a1.toInt ≤ 12 → 0 ≤ a2.toInt → a2.toInt ≤ 8191 → (-1) ≤ a3.toInt → a3.toInt ≤ 11 → 0 ≤ v27_4.toInt → v27_4.toInt ≤ 11 → 0 ≤ v118_5.toInt → v118_5.toInt ≤ 9 → 0 ≤ v118_6.toInt → v118_6.toInt ≤ 9 → 0 ≤ v118_7.toInt → v118_7.toInt ≤ 1 → 1 ≤ f118_158_4.toInt → f118_158_4.toInt ≤ 12 → Wd dC dI A s.heap H locs w49 → TW ksC ad cy B qr s1 w49 → FE ksC [(51, 0, 10)] w0 w49 → gi w49 158 4 = f118_158_4 → lv_has ls 8 [(0, .ref (ad 158)), (1, .int a1), (2, .int a2), (3, .int a3), (4, .int v27_4), (5, .int v118_5), (6, .int v118_6), (7, .int v118_7)] → W p l e ({ frames := 1, cells := 0, slots := 0, locals := 12 }) s m (List.toArray [.ref (ad 158), .int a1, .int a2, .int a3]) below meth c H locs 0 0 (MQ below (va_Qv (P_X10_layRoads_1 ad cy B qr s1 a1 a2 a3 w0) (fun u : va_W => wpost dC dI cy A u) A) (List.toArray [.ref (ad 158), .int a1, .int a2, .int a3]) s 0 0 A) (F0 m 118 ls []) := by
        intro v118_5 v118_6 v118_7 f118_158_4 H locs ls w49 r50 t51 r52 t53 r54 t55 r56 t57 r58 t59 r60 t61 r62 t63 r64 t65 hw hT hF c66 hl
        refine lv_iload hx hb dX10_layRoads_118 (lv_at hl 4 rfl) ?_
        refine lv_iload_n hx hb dX10_layRoads_120 rfl (lv_at hl 1 rfl) ?_
        refine lv_icmp_lt (tgt := 130) hx hb dX10_layRoads_121 (by decide) (fun c67 => ?_) (fun c67 => ?_)
        · have c67 : v27_4.toInt < a1.toInt := wk_lt.mp c67
          exact J130 v118_5 v118_6 v118_7 f118_158_4 H locs ls w49 (show 0 ≤ a1.toInt by omega) (show a1.toInt ≤ 12 by omega) (show 0 ≤ a2.toInt by omega) (show a2.toInt ≤ 8191 by omega) (show (-1) ≤ a3.toInt by omega) (show a3.toInt ≤ 11 by omega) (show 0 ≤ v27_4.toInt by omega) (show v27_4.toInt ≤ 11 by omega) (show 0 ≤ v118_5.toInt by omega) (show v118_5.toInt ≤ 9 by omega) (show 0 ≤ v118_6.toInt by omega) (show v118_6.toInt ≤ 9 by omega) (show 0 ≤ v118_7.toInt by omega) (show v118_7.toInt ≤ 1 by omega) (show 1 ≤ f118_158_4.toInt by omega) (show f118_158_4.toInt ≤ 12 by omega)  hw hT hF c66 (lv_sub hl [0, 1, 2, 3, 4, 5, 6, 7] rfl)
        · have c67 : a1.toInt ≤ v27_4.toInt := wk_ltF c67
          refine lv_iload hx hb dX10_layRoads_124 (lv_at hl 7 rfl) ?_
          refine lv_iconst (v := 1) hx hb dX10_layRoads_126 (by decide) ?_
          refine lv_icmp_ne (tgt := 144) hx hb dX10_layRoads_127 (by decide) (fun c68 => ?_) (fun c68 => ?_)
          · have c68 : ¬ v118_7.toInt = (1 : Int) := wk_eqF c68
            exact J144 f118_158_4 H locs ls w49 (show 0 ≤ a1.toInt by omega) (show a1.toInt ≤ 12 by omega) (show 0 ≤ a2.toInt by omega) (show a2.toInt ≤ 8191 by omega) (show (-1) ≤ a3.toInt by omega) (show a3.toInt ≤ 11 by omega) (show 0 ≤ v27_4.toInt by omega) (show v27_4.toInt ≤ 11 by omega) (show 1 ≤ f118_158_4.toInt by omega) (show f118_158_4.toInt ≤ 12 by omega)  hw hT hF c66 (lv_sub hl [0, 1, 2, 3, 4] rfl)
          · have c68 : v118_7.toInt = (1 : Int) := wk_eq.mp c68
            exact J130 v118_5 v118_6 v118_7 f118_158_4 H locs ls w49 (show 0 ≤ a1.toInt by omega) (show a1.toInt ≤ 12 by omega) (show 0 ≤ a2.toInt by omega) (show a2.toInt ≤ 8191 by omega) (show (-1) ≤ a3.toInt by omega) (show a3.toInt ≤ 11 by omega) (show 0 ≤ v27_4.toInt by omega) (show v27_4.toInt ≤ 11 by omega) (show 0 ≤ v118_5.toInt by omega) (show v118_5.toInt ≤ 9 by omega) (show 0 ≤ v118_6.toInt by omega) (show v118_6.toInt ≤ 9 by omega) (show 0 ≤ v118_7.toInt by omega) (show v118_7.toInt ≤ 1 by omega) (show 1 ≤ f118_158_4.toInt by omega) (show f118_158_4.toInt ≤ 12 by omega)  hw hT hF c66 (lv_sub hl [0, 1, 2, 3, 4, 5, 6, 7] rfl)
      have J104 : ∀ (v104_5 : Int32) (v104_6 : Int32) (v104_7 : Int32) (f104_158_4 : Int32) (H : Heap) (locs : List Loc) (ls : Array Slot) (w69 : va_W), 0 ≤ a1.toInt → a1.toInt ≤ 12 → 0 ≤ a2.toInt → a2.toInt ≤ 8191 → (-1) ≤ a3.toInt → a3.toInt ≤ 11 → 0 ≤ v27_4.toInt → v27_4.toInt ≤ 11 → 0 ≤ v104_5.toInt → v104_5.toInt ≤ 9 → 0 ≤ v104_6.toInt → v104_6.toInt ≤ 9 → 0 ≤ v104_7.toInt → v104_7.toInt ≤ 1 → 1 ≤ f104_158_4.toInt → f104_158_4.toInt ≤ 12 → Wd dC dI A s.heap H locs w69 → TW ksC ad cy B qr s1 w69 → FE ksC [(51, 0, 10)] w0 w69 → gi w69 158 4 = f104_158_4 → lv_has ls 8 [(0, .ref (ad 158)), (1, .int a1), (2, .int a2), (3, .int a3), (4, .int v27_4), (5, .int v104_5), (6, .int v104_6), (7, .int v104_7)] → W p l e ({ frames := 1, cells := 0, slots := 0, locals := 12 }) s m (List.toArray [.ref (ad 158), .int a1, .int a2, .int a3]) below meth c H locs 0 0 (MQ below (va_Qv (P_X10_layRoads_1 ad cy B qr s1 a1 a2 a3 w0) (fun u : va_W => wpost dC dI cy A u) A) (List.toArray [.ref (ad 158), .int a1, .int a2, .int a3]) s 0 0 A) (F0 m 104 ls []) := by
        intro v104_5 v104_6 v104_7 f104_158_4 H locs ls w69 r70 t71 r72 t73 r74 t75 r76 t77 r78 t79 r80 t81 r82 t83 r84 t85 hw hT hF c86 hl
        refine lv_aload_n hx hb dX10_layRoads_104 rfl (lv_at hl 0 rfl) ?_
        refine tk_getA hC hK hw hT hinX10 kC_at158 (by decide) rfl 3 (by decide) (List.mem_of_getElem? (i := 1) rfl) rfl rfl dX10_layRoads_105 ?_
        refine lv_iload hx hb dX10_layRoads_108 (lv_at hl 5 rfl) ?_
        refine lv_dup2_11 hx hb dX10_layRoads_110 rfl rfl ?_
        refine tk_iald hC hK hw hT kC_at160 rfl rfl (show 0 ≤ v104_5.toInt by omega) (show v104_5.toInt < 10 by omega) dX10_layRoads_111 (fun x87 c88 rx87 tx87 => ?_)
        refine lv_iconst (v := 1) hx hb dX10_layRoads_112 (by decide) ?_
        refine lv_iload hx hb dX10_layRoads_113 (lv_at hl 6 rfl) ?_
        refine lv_ishl hx hb dX10_layRoads_115 ?_
        refine lv_topi (fun x89 ex89 => ?_)
        have bx89 : 1 ≤ x89.toInt ∧ x89.toInt ≤ 512 := by rw [ex89]; exact wk_shl1 9 (by decide) (by omega) (by omega)
        refine lv_ior hx hb dX10_layRoads_116 ?_
        refine lv_topi (fun x90 ex90 => ?_)
        have bx90 : 0 ≤ x90.toInt ∧ x90.toInt < 1024 := by rw [ex90]; exact wk_or 10 (by decide) (by omega) (by omega) (by omega) (by omega)
        have mx90 : x87.toInt ≤ x90.toInt ∧ x89.toInt ≤ x90.toInt := by rw [ex90]; exact wk_orL 10 (by decide) (by omega) (by omega) (by omega) (by omega)
        refine tk_iast hC hK hw hT kC_at160 (by decide) rfl rfl (show 0 ≤ v104_5.toInt by omega) (show v104_5.toInt < 10 by omega) (show 0 ≤ x90.toInt by omega) (show x90.toInt ≤ 1023 by omega) dX10_layRoads_117 (fun H locs w91 hw hT k93 c92 => ?_)
        have hF := hF.put kC_at160 (inE_of (a := 0) (b := 10) (by decide) (show 0 ≤ v104_5.toInt.toNat by omega) (show v104_5.toInt.toNat ≤ 10 by omega)) k93
        have c94 := k93.gi (Or.inl (tk_ne kC_at158 kC_at160 (by decide))) c86
        exact J118 v104_5 v104_6 v104_7 f104_158_4 H locs ls w91 (show 0 ≤ a1.toInt by omega) (show a1.toInt ≤ 12 by omega) (show 0 ≤ a2.toInt by omega) (show a2.toInt ≤ 8191 by omega) (show (-1) ≤ a3.toInt by omega) (show a3.toInt ≤ 11 by omega) (show 0 ≤ v27_4.toInt by omega) (show v27_4.toInt ≤ 11 by omega) (show 0 ≤ v104_5.toInt by omega) (show v104_5.toInt ≤ 9 by omega) (show 0 ≤ v104_6.toInt by omega) (show v104_6.toInt ≤ 9 by omega) (show 0 ≤ v104_7.toInt by omega) (show v104_7.toInt ≤ 1 by omega) (show 1 ≤ f104_158_4.toInt by omega) (show f104_158_4.toInt ≤ 12 by omega)  hw hT hF c94 (lv_sub hl [0, 1, 2, 3, 4, 5, 6, 7] rfl)
      refine lv_iload hx hb dX10_layRoads_27 (lv_at hl 4 rfl) ?_
      refine lv_aload_n hx hb dX10_layRoads_29 rfl (lv_at hl 0 rfl) ?_
      refine tk_geti hC hK hw hT hinX10 kC_at158 (by decide) rfl 4 (by decide) (List.mem_of_getElem? (i := 2) rfl) rfl rfl dX10_layRoads_30 (fun x95 c96 rx95 tx95 => ?_)
      refine lv_icmp_ge (tgt := 150) hx hb dX10_layRoads_33 (by decide) (fun c97 => ?_) (fun c97 => ?_)
      · have c97 : x95.toInt ≤ v27_4.toInt := wk_le.mp c97
        exact tk_vret hC hr hlocks hK ⟨hT, hF, trivial⟩ hw dX10_layRoads_150
      · have c97 : v27_4.toInt < x95.toInt := wk_leF c97
        refine lv_iload hx hb dX10_layRoads_36 (lv_at hl 4 rfl) ?_
        refine lv_iload_n hx hb dX10_layRoads_38 rfl (lv_at hl 3 rfl) ?_
        refine lv_icmp_ne (tgt := 45) hx hb dX10_layRoads_39 (by decide) (fun c98 => ?_) (fun c98 => ?_)
        · have c98 : ¬ v27_4.toInt = a3.toInt := wk_eqF c98
          refine lv_aload_n hx hb dX10_layRoads_45 rfl (lv_at hl 0 rfl) ?_
          refine tk_getA hC hK hw hT hinX10 kC_at158 (by decide) rfl 1 (by decide) (List.mem_of_getElem? (i := 3) rfl) rfl rfl dX10_layRoads_46 ?_
          refine tk_getO hC hK hw hT hinX7 kC_at39 (by decide) rfl 0 (by decide) (List.mem_of_getElem? (i := 4) rfl) rfl rfl dX10_layRoads_49 ?_
          refine lv_iconst (v := 2) hx hb dX10_layRoads_52 (by decide) ?_
          refine lv_aload_n hx hb dX10_layRoads_53 rfl (lv_at hl 0 rfl) ?_
          refine tk_getA hC hK hw hT hinX10 kC_at158 (by decide) rfl 2 (by decide) (List.mem_of_getElem? (i := 5) rfl) rfl rfl dX10_layRoads_54 ?_
          refine lv_iload hx hb dX10_layRoads_57 (lv_at hl 4 rfl) ?_
          refine tk_iald hC hK hw hT kC_at159 rfl rfl (show 0 ≤ v27_4.toInt by omega) (show v27_4.toInt < 12 by omega) dX10_layRoads_59 (fun x99 c100 rx99 tx99 => ?_)
          refine lv_imul hx hb dX10_layRoads_60 ?_
          refine lv_topi (fun x101 ex101 => ?_)
          have ex101 : x101.toInt = (2 : Int) * x99.toInt := by rw [ex101]; exact wk_mul (show (-2147483648) ≤ (2 : Int) * x99.toInt by omega) (show (2 : Int) * x99.toInt ≤ 2147483647 by omega)
          refine tk_iald hC hK hw hT kC_at40 rfl rfl (show 0 ≤ x101.toInt by omega) (show x101.toInt < 26 by omega) dX10_layRoads_61 (fun x102 c103 rx102 tx102 => ?_)
          have c103 : gi w1 40 (2 * x99.toInt + 0).toNat = x102 := (congrArg (gi w1 40) (congrArg Int.toNat (show 2 * x99.toInt + 0 = x101.toInt by omega))).trans c103
          refine lv_istore (lv' := [(5, .int x102), (0, .ref (ad 158)), (1, .int a1), (2, .int a2), (3, .int a3), (4, .int v27_4)]) hx hb dX10_layRoads_62 hl (by decide) rfl (fun ls hl => ?_)
          refine lv_aload_n hx hb dX10_layRoads_64 rfl (lv_at hl 1 rfl) ?_
          refine tk_getA hC hK hw hT hinX10 kC_at158 (by decide) rfl 1 (by decide) (List.mem_of_getElem? (i := 3) rfl) rfl rfl dX10_layRoads_65 ?_
          refine tk_getO hC hK hw hT hinX7 kC_at39 (by decide) rfl 0 (by decide) (List.mem_of_getElem? (i := 4) rfl) rfl rfl dX10_layRoads_68 ?_
          refine lv_iconst (v := 2) hx hb dX10_layRoads_71 (by decide) ?_
          refine lv_aload_n hx hb dX10_layRoads_72 rfl (lv_at hl 1 rfl) ?_
          refine tk_getA hC hK hw hT hinX10 kC_at158 (by decide) rfl 2 (by decide) (List.mem_of_getElem? (i := 5) rfl) rfl rfl dX10_layRoads_73 ?_
          refine lv_iload hx hb dX10_layRoads_76 (lv_at hl 5 rfl) ?_
          refine tk_iald hC hK hw hT kC_at159 rfl rfl (show 0 ≤ v27_4.toInt by omega) (show v27_4.toInt < 12 by omega) dX10_layRoads_78 (fun x104 c105 rx104 tx104 => ?_)
          refine lv_imul hx hb dX10_layRoads_79 ?_
          refine lv_topi (fun x106 ex106 => ?_)
          have ex106 : x106.toInt = (2 : Int) * x104.toInt := by rw [ex106]; exact wk_mul (show (-2147483648) ≤ (2 : Int) * x104.toInt by omega) (show (2 : Int) * x104.toInt ≤ 2147483647 by omega)
          refine lv_iconst (v := 1) hx hb dX10_layRoads_80 (by decide) ?_
          refine lv_iadd hx hb dX10_layRoads_81 ?_
          refine lv_topi (fun x107 ex107 => ?_)
          have ex107 : x107.toInt = x106.toInt + (1 : Int) := by rw [ex107]; exact wk_add (show (-2147483648) ≤ x106.toInt + (1 : Int) by omega) (show x106.toInt + (1 : Int) ≤ 2147483647 by omega)
          refine tk_iald hC hK hw hT kC_at40 rfl rfl (show 0 ≤ x107.toInt by omega) (show x107.toInt < 26 by omega) dX10_layRoads_82 (fun x108 c109 rx108 tx108 => ?_)
          have c109 : gi w1 40 (2 * x104.toInt + 1).toNat = x108 := (congrArg (gi w1 40) (congrArg Int.toNat (show 2 * x104.toInt + 1 = x107.toInt by omega))).trans c109
          refine lv_istore (lv' := [(6, .int x108), (5, .int x102), (0, .ref (ad 158)), (1, .int a1), (2, .int a2), (3, .int a3), (4, .int v27_4)]) hx hb dX10_layRoads_83 hl (by decide) rfl (fun ls hl => ?_)
          refine lv_iload_n hx hb dX10_layRoads_85 rfl (lv_at hl 4 rfl) ?_
          refine lv_iload hx hb dX10_layRoads_86 (lv_at hl 6 rfl) ?_
          refine lv_ishr hx hb dX10_layRoads_88 ?_
          refine lv_topi (fun x110 ex110 => ?_)
          have bx110 : 0 ≤ x110.toInt ∧ x110.toInt ≤ a2.toInt := by rw [ex110]; exact wk_shr (by omega)
          refine lv_iconst (v := 1) hx hb dX10_layRoads_89 (by decide) ?_
          refine lv_iand hx hb dX10_layRoads_90 ?_
          refine lv_topi (fun x111 ex111 => ?_)
          have bx111 : 0 ≤ x111.toInt ∧ x111.toInt ≤ (1 : Int) := by rw [ex111]; exact wk_and (by decide)
          refine lv_istore (lv' := [(7, .int x111), (6, .int x108), (5, .int x102), (0, .ref (ad 158)), (1, .int a1), (2, .int a2), (3, .int a3), (4, .int v27_4)]) hx hb dX10_layRoads_91 hl (by decide) rfl (fun ls hl => ?_)
          refine lv_iload hx hb dX10_layRoads_93 (lv_at hl 7 rfl) ?_
          refine lv_iload_n hx hb dX10_layRoads_95 rfl (lv_at hl 4 rfl) ?_
          refine lv_icmp_lt (tgt := 104) hx hb dX10_layRoads_96 (by decide) (fun c112 => ?_) (fun c112 => ?_)
          · have c112 : v27_4.toInt < a1.toInt := wk_lt.mp c112
            exact J104 x102 x108 x111 x95 H locs ls w1 (show 0 ≤ a1.toInt by omega) (show a1.toInt ≤ 12 by omega) (show 0 ≤ a2.toInt by omega) (show a2.toInt ≤ 8191 by omega) (show (-1) ≤ a3.toInt by omega) (show a3.toInt ≤ 11 by omega) (show 0 ≤ v27_4.toInt by omega) (show v27_4.toInt ≤ 11 by omega) (show 0 ≤ x102.toInt by omega) (show x102.toInt ≤ 9 by omega) (show 0 ≤ x108.toInt by omega) (show x108.toInt ≤ 9 by omega) (show 0 ≤ x111.toInt by omega) (show x111.toInt ≤ 1 by omega) (show 1 ≤ x95.toInt by omega) (show x95.toInt ≤ 12 by omega)  hw hT hF c96 (lv_sub hl [3, 4, 5, 6, 7, 2, 1, 0] rfl)
          · have c112 : a1.toInt ≤ v27_4.toInt := wk_ltF c112
            refine lv_iload hx hb dX10_layRoads_99 (lv_at hl 0 rfl) ?_
            refine lv_if_ne (tgt := 118) hx hb dX10_layRoads_101 (by decide) (fun c113 => ?_) (fun c113 => ?_)
            · have c113 : ¬ x111.toInt = (0 : Int) := wk_eqF c113
              exact J118 x102 x108 x111 x95 H locs ls w1 (show 0 ≤ a1.toInt by omega) (show a1.toInt ≤ 12 by omega) (show 0 ≤ a2.toInt by omega) (show a2.toInt ≤ 8191 by omega) (show (-1) ≤ a3.toInt by omega) (show a3.toInt ≤ 11 by omega) (show 0 ≤ v27_4.toInt by omega) (show v27_4.toInt ≤ 11 by omega) (show 0 ≤ x102.toInt by omega) (show x102.toInt ≤ 9 by omega) (show 0 ≤ x108.toInt by omega) (show x108.toInt ≤ 9 by omega) (show 0 ≤ x111.toInt by omega) (show x111.toInt ≤ 1 by omega) (show 1 ≤ x95.toInt by omega) (show x95.toInt ≤ 12 by omega)  hw hT hF c96 (lv_sub hl [3, 4, 5, 6, 7, 2, 1, 0] rfl)
            · have c113 : x111.toInt = (0 : Int) := wk_eq.mp c113
              exact J104 x102 x108 x111 x95 H locs ls w1 (show 0 ≤ a1.toInt by omega) (show a1.toInt ≤ 12 by omega) (show 0 ≤ a2.toInt by omega) (show a2.toInt ≤ 8191 by omega) (show (-1) ≤ a3.toInt by omega) (show a3.toInt ≤ 11 by omega) (show 0 ≤ v27_4.toInt by omega) (show v27_4.toInt ≤ 11 by omega) (show 0 ≤ x102.toInt by omega) (show x102.toInt ≤ 9 by omega) (show 0 ≤ x108.toInt by omega) (show x108.toInt ≤ 9 by omega) (show 0 ≤ x111.toInt by omega) (show x111.toInt ≤ 1 by omega) (show 1 ≤ x95.toInt by omega) (show x95.toInt ≤ 12 by omega)  hw hT hF c96 (lv_sub hl [3, 4, 5, 6, 7, 2, 1, 0] rfl)
        · have c98 : v27_4.toInt = a3.toInt := wk_eq.mp c98
          refine lv_goto (tgt := 144) hx hb dX10_layRoads_42 (by decide) ?_
          exact J144 x95 H locs ls w1 (show 0 ≤ a1.toInt by omega) (show a1.toInt ≤ 12 by omega) (show 0 ≤ a2.toInt by omega) (show a2.toInt ≤ 8191 by omega) (show (-1) ≤ a3.toInt by omega) (show a3.toInt ≤ 11 by omega) (show 0 ≤ v27_4.toInt by omega) (show v27_4.toInt ≤ 11 by omega) (show 1 ≤ x95.toInt by omega) (show x95.toInt ≤ 12 by omega)  hw hT hF c96 (lv_sub hl [0, 1, 2, 3, 4] rfl)
  have L3 : ∀ (n3 : Nat) (v3_4 : Int32) (H : Heap) (locs : List Loc) (ls : Array Slot) (w114 : va_W), 0 ≤ a1.toInt → a1.toInt ≤ 12 → 0 ≤ a2.toInt → a2.toInt ≤ 8191 → (-1) ≤ a3.toInt → a3.toInt ≤ 11 → 0 ≤ v3_4.toInt → v3_4.toInt ≤ 10 → (10 - v3_4.toInt).toNat < n3 → Wd dC dI A s.heap H locs w114 → TW ksC ad cy B qr s1 w114 → FE ksC [(51, 0, 10)] w0 w114 → lv_has ls 8 [(0, .ref (ad 158)), (1, .int a1), (2, .int a2), (3, .int a3), (4, .int v3_4)] → W p l e ({ frames := 1, cells := 0, slots := 0, locals := 12 }) s m (List.toArray [.ref (ad 158), .int a1, .int a2, .int a3]) below meth c H locs 0 0 (MQ below (va_Qv (P_X10_layRoads_1 ad cy B qr s1 a1 a2 a3 w0) (fun u : va_W => wpost dC dI cy A u) A) (List.toArray [.ref (ad 158), .int a1, .int a2, .int a3]) s 0 0 A) (F0 m 3 ls []) := by
    intro n3
    induction n3 with
    | zero => intro v3_4 H locs ls w114 r115 t116 r117 t118 r119 t120 r121 t122 hm3 hw hT hF hl; omega
    | succ n3 ih3 =>
      intro v3_4 H locs ls w114 r115 t116 r117 t118 r119 t120 r121 t122 hm3 hw hT hF hl
      refine lv_iload hx hb dX10_layRoads_3 (lv_at hl 4 rfl) ?_
      refine lv_bipush (v := 10) hx hb dX10_layRoads_5 (by decide) ?_
      refine lv_icmp_ge (tgt := 24) hx hb dX10_layRoads_7 (by decide) (fun c123 => ?_) (fun c123 => ?_)
      · have c123 : (10 : Int) ≤ v3_4.toInt := wk_le.mp c123
        refine lv_iconst (v := 0) hx hb dX10_layRoads_24 (by decide) ?_
        refine lv_istore (lv' := [(4, .int 0), (0, .ref (ad 158)), (1, .int a1), (2, .int a2), (3, .int a3)]) hx hb dX10_layRoads_25 hl (by decide) rfl (fun ls hl => ?_)
        exact L27 ((12 - (0 : Int)).toNat + 1) 0 H locs ls w114 (show 0 ≤ a1.toInt by omega) (show a1.toInt ≤ 12 by omega) (show 0 ≤ a2.toInt by omega) (show a2.toInt ≤ 8191 by omega) (show (-1) ≤ a3.toInt by omega) (show a3.toInt ≤ 11 by omega) (by decide) (by decide) (Nat.lt_succ_self _) hw hT hF  (lv_sub hl [1, 2, 3, 4, 0] rfl)
      · have c123 : v3_4.toInt < (10 : Int) := wk_leF c123
        refine lv_aload_n hx hb dX10_layRoads_10 rfl (lv_at hl 0 rfl) ?_
        refine tk_getA hC hK hw hT hinX10 kC_at158 (by decide) rfl 3 (by decide) (List.mem_of_getElem? (i := 1) rfl) rfl rfl dX10_layRoads_11 ?_
        refine lv_iload hx hb dX10_layRoads_14 (lv_at hl 4 rfl) ?_
        refine lv_iconst (v := 0) hx hb dX10_layRoads_16 (by decide) ?_
        refine tk_iast hC hK hw hT kC_at160 (by decide) rfl rfl (show 0 ≤ v3_4.toInt by omega) (show v3_4.toInt < 10 by omega) (by decide) (by decide) dX10_layRoads_17 (fun H locs w124 hw hT k126 c125 => ?_)
        have hF := hF.put kC_at160 (inE_of (a := 0) (b := 10) (by decide) (show 0 ≤ v3_4.toInt.toNat by omega) (show v3_4.toInt.toNat ≤ 10 by omega)) k126
        obtain ⟨x127, ex127⟩ : ∃ y : Int32, y = v3_4 + Int32.ofInt 1 := ⟨_, rfl⟩
        refine lv_iinc (v := x127) (lv' := [(4, .int x127), (0, .ref (ad 158)), (1, .int a1), (2, .int a2), (3, .int a3)]) hx hb dX10_layRoads_18 hl (k := 4) rfl ex127.symm (by decide) rfl (fun ls hl => ?_)
        have ex127 : x127.toInt = v3_4.toInt + 1 := by rw [ex127]; exact wk_add (y := 1) (show -2147483648 ≤ v3_4.toInt + 1 by omega) (show v3_4.toInt + 1 ≤ 2147483647 by omega)
        refine lv_goto (tgt := 3) hx hb dX10_layRoads_21 (by decide) ?_
        exact ih3 x127 H locs ls w124 (show 0 ≤ a1.toInt by omega) (show a1.toInt ≤ 12 by omega) (show 0 ≤ a2.toInt by omega) (show a2.toInt ≤ 8191 by omega) (show (-1) ≤ a3.toInt by omega) (show a3.toInt ≤ 11 by omega) (show 0 ≤ x127.toInt by omega) (show x127.toInt ≤ 10 by omega) (show (10 - x127.toInt).toNat < n3 by omega) hw hT hF  (lv_sub hl [1, 2, 3, 4, 0] rfl)
  refine lv_iconst (v := 0) hx hb dX10_layRoads_0 (by decide) ?_
  refine lv_istore (lv' := [(4, .int 0), (0, .ref (ad 158)), (1, .int a1), (2, .int a2), (3, .int a3)]) hx hb dX10_layRoads_1 hl (by decide) rfl (fun ls hl => ?_)
  exact L3 ((10 - (0 : Int)).toNat + 1) 0 s.heap locs ls w0 (show 0 ≤ a1.toInt by omega) (show a1.toInt ≤ 12 by omega) (show 0 ≤ a2.toInt by omega) (show a2.toInt ≤ 8191 by omega) (show (-1) ≤ a3.toInt by omega) (show a3.toInt ≤ 11 by omega) (by decide) (by decide) (Nat.lt_succ_self _) hw hT hF  (lv_sub hl [1, 2, 3, 4, 0] rfl)
abbrev P_X10_cornersFrom_1 (ad : Nat → Nat) (cy : Nat → ClassId) (B : Int) (qr : Nat) (s1 : Int) (a1 : Int32) (w0 : va_W) : Int32 → va_W → Prop := fun r u => TW ksC ad cy B qr s1 u ∧ FE ksC ([] : List (Nat × Nat × Nat)) w0 u ∧ ((1 ≤ r.toInt ∧ r.toInt ≤ 1023))
set_option maxHeartbeats 4000000 in
set_option maxRecDepth 100000 in
theorem k_X10_cornersFrom_1 (l : Launch) (adK adV : Nat → Nat) (dC : Nat → ClassId) (dI : Nat → Nat → Nat) (cy : Nat → ClassId) (ad : Nat → Nat) (B : Int) (hB0 : 2147483648 ≤ B) (hB1 : B ≤ 1152921504606846976) (qr : Nat) (s1 : Int)  (a1 : Int32) (ra1 : 0 ≤ a1.toInt) (ta1 : a1.toInt ≤ 9) (w0 : va_W) (sz : Nat) (hT : TW ksC ad cy B qr s1 w0)  : Met l yX10_cornersFrom wsX10_cornersFrom ({ frames := 1, cells := 0, slots := 0, locals := 12 }) (va_Pc [.ref (ad 158), .int a1] (wpreS adK adV dC dI cy sz w0)) (va_Qi (P_X10_cornersFrom_1 ad cy B qr s1 a1 w0) (fun u : va_W => wpost dC dI cy (va_A w0 sz) u) (va_A w0 sz)) 0 0 (va_A w0 sz) := by
  refine Met.ofW (cc := cX10_cornersFrom) (maxL := 7) (ret := (some .int)) (by decide) rfl ?_
  intro p e s m args below meth c s₁ Bk hml hv
  obtain ⟨rfl, ⟨hsz, hP, hK, hD0⟩, hE, hSR⟩ := hv
  have hx := Bk.exec
  have hb := Bk.bytes
  have hr := Bk.returns
  have hlocks := Bk.notSynchronized
  have hC : CallFix p m c cX10_cornersFrom 7 s _ wsX10_cornersFrom RX10 := ⟨hx, hb, hml, findClass_of_methodNamed Bk.named, atoms_spec (ws := wsX10_cornersFrom) Bk.pre⟩
  subst hsz
  have hD := hD0.self (sz := s.heap.size)
  generalize hAe : va_A w0 s.heap.size = A at hD hE ⊢
  have hA : ∀ q : Nat, s.heap.size ≤ q → A q := fun q h => by rw [← hAe]; exact Or.inr h
  have hw : Wd dC dI A s.heap s.heap [] w0 := ⟨hP, hD, va_S.rf⟩
  have hF : FE ksC ([] : List (Nat × Nat × Nat)) w0 w0 := FE.rf
  have hl := lv_entry ([.ref (ad 158), .int a1]) (n := 7) (Nat.le_of_ble_eq_true rfl)
  rw [lg_entry_eq]
  generalize (lg_sl ([.ref (ad 158), .int a1]) ++ List.replicate (7 - (lg_sl ([.ref (ad 158), .int a1])).length) Slot.unset).toArray = ls at hl ⊢
  have hl : lv_has ls 7 [(0, .ref (ad 158)), (1, .int a1)] := hl
  generalize hloc : ([] : List Loc) = locs at hw ⊢
  have hinX10 : ∀ w ∈ u_ws RX10 TX10 5, w ∈ wsX10_cornersFrom := fun _ h => List.mem_cons_of_mem _ (List.mem_append_left _ (List.mem_append_right _ (h)))
  have hinX7 : ∀ w ∈ u_ws RX7 TX7 12, w ∈ wsX10_cornersFrom := fun _ h => List.mem_cons_of_mem _ (List.mem_append_right _ (h))
  have J87 : ∀ (v87_2 : Int32) (v87_3 : Int32) (v87_4 : Int32) (H : Heap) (locs : List Loc) (ls : Array Slot) (w1 : va_W), 0 ≤ a1.toInt → a1.toInt ≤ 9 → 1 ≤ v87_2.toInt → v87_2.toInt ≤ 1023 → 0 ≤ v87_3.toInt → v87_3.toInt ≤ 1023 → 0 ≤ v87_4.toInt → v87_4.toInt ≤ 10 → Wd dC dI A s.heap H locs w1 → TW ksC ad cy B qr s1 w1 → FE ksC ([] : List (Nat × Nat × Nat)) w0 w1 → lv_has ls 7 [(0, .ref (ad 158)), (1, .int a1), (2, .int v87_2), (3, .int v87_3), (4, .int v87_4)] → W p l e ({ frames := 1, cells := 0, slots := 0, locals := 12 }) s m (List.toArray [.ref (ad 158), .int a1]) below meth c H locs 0 0 (MQ below (va_Qi (P_X10_cornersFrom_1 ad cy B qr s1 a1 w0) (fun u : va_W => wpost dC dI cy A u) A) (List.toArray [.ref (ad 158), .int a1]) s 0 0 A) (F0 m 87 ls []) := by
    intro v87_2 v87_3 v87_4 H locs ls w1 r2 t3 r4 t5 r6 t7 r8 t9 hw hT hF hl
    refine lv_iload_n hx hb dX10_cornersFrom_87 rfl (lv_at hl 2 rfl) ?_
    exact tk_iret hC hr hlocks hK ⟨hT, hF, ⟨(show 1 ≤ v87_2.toInt by omega), (show v87_2.toInt ≤ 1023 by omega)⟩⟩ hw dX10_cornersFrom_88
  have L9 : ∀ (n9 : Nat) (v9_2 : Int32) (v9_3 : Int32) (v9_4 : Int32) (H : Heap) (locs : List Loc) (ls : Array Slot) (w10 : va_W), 0 ≤ a1.toInt → a1.toInt ≤ 9 → 1 ≤ v9_2.toInt → v9_2.toInt ≤ 1023 → 0 ≤ v9_3.toInt → v9_3.toInt ≤ 1023 → 0 ≤ v9_4.toInt → v9_4.toInt ≤ 10 → (10 - v9_4.toInt).toNat < n9 → Wd dC dI A s.heap H locs w10 → TW ksC ad cy B qr s1 w10 → FE ksC ([] : List (Nat × Nat × Nat)) w0 w10 → lv_has ls 7 [(0, .ref (ad 158)), (1, .int a1), (2, .int v9_2), (3, .int v9_3), (4, .int v9_4)] → W p l e ({ frames := 1, cells := 0, slots := 0, locals := 12 }) s m (List.toArray [.ref (ad 158), .int a1]) below meth c H locs 0 0 (MQ below (va_Qi (P_X10_cornersFrom_1 ad cy B qr s1 a1 w0) (fun u : va_W => wpost dC dI cy A u) A) (List.toArray [.ref (ad 158), .int a1]) s 0 0 A) (F0 m 9 ls []) := by
    intro n9
    induction n9 with
    | zero => intro v9_2 v9_3 v9_4 H locs ls w10 r11 t12 r13 t14 r15 t16 r17 t18 hm9 hw hT hF hl; omega
    | succ n9 ih9 =>
      intro v9_2 v9_3 v9_4 H locs ls w10 r11 t12 r13 t14 r15 t16 r17 t18 hm9 hw hT hF hl
      have L26 : ∀ (n26 : Nat) (v26_5 : Int32) (v26_6 : Int32) (H : Heap) (locs : List Loc) (ls : Array Slot) (w19 : va_W), 0 ≤ a1.toInt → a1.toInt ≤ 9 → 1 ≤ v9_2.toInt → v9_2.toInt ≤ 1023 → 1 ≤ v9_3.toInt → v9_3.toInt ≤ 1023 → 0 ≤ v9_4.toInt → v9_4.toInt ≤ 9 → 0 ≤ v26_5.toInt → v26_5.toInt ≤ 1023 → 0 ≤ v26_6.toInt → v26_6.toInt ≤ 10 → (10 - v26_6.toInt).toNat < n26 → Wd dC dI A s.heap H locs w19 → TW ksC ad cy B qr s1 w19 → FE ksC ([] : List (Nat × Nat × Nat)) w0 w19 → lv_has ls 7 [(0, .ref (ad 158)), (1, .int a1), (2, .int v9_2), (3, .int v9_3), (4, .int v9_4), (5, .int v26_5), (6, .int v26_6)] → W p l e ({ frames := 1, cells := 0, slots := 0, locals := 12 }) s m (List.toArray [.ref (ad 158), .int a1]) below meth c H locs 0 0 (MQ below (va_Qi (P_X10_cornersFrom_1 ad cy B qr s1 a1 w0) (fun u : va_W => wpost dC dI cy A u) A) (List.toArray [.ref (ad 158), .int a1]) s 0 0 A) (F0 m 26 ls []) := by
        intro n26
        induction n26 with
        | zero => intro v26_5 v26_6 H locs ls w19 r20 t21 r22 t23 r24 t25 r26 t27 r28 t29 r30 t31 hm26 hw hT hF hl; omega
        | succ n26 ih26 =>
          intro v26_5 v26_6 H locs ls w19 r20 t21 r22 t23 r24 t25 r26 t27 r28 t29 r30 t31 hm26 hw hT hF hl
          have J59 : ∀ (v59_5 : Int32) (f59_39_8 : Int32) (H : Heap) (locs : List Loc) (ls : Array Slot) (w32 : va_W), 0 ≤ a1.toInt → a1.toInt ≤ 9 → 1 ≤ v9_2.toInt → v9_2.toInt ≤ 1023 → 1 ≤ v9_3.toInt → v9_3.toInt ≤ 1023 → 0 ≤ v9_4.toInt → v9_4.toInt ≤ 9 → 0 ≤ v59_5.toInt → v59_5.toInt ≤ 1023 → 0 ≤ v26_6.toInt → v26_6.toInt ≤ 9 → 1 ≤ f59_39_8.toInt → f59_39_8.toInt ≤ 10 → Wd dC dI A s.heap H locs w32 → TW ksC ad cy B qr s1 w32 → FE ksC ([] : List (Nat × Nat × Nat)) w0 w32 → gi w32 39 8 = f59_39_8 → lv_has ls 7 [(0, .ref (ad 158)), (1, .int a1), (2, .int v9_2), (3, .int v9_3), (4, .int v9_4), (5, .int v59_5), (6, .int v26_6)] → W p l e ({ frames := 1, cells := 0, slots := 0, locals := 12 }) s m (List.toArray [.ref (ad 158), .int a1]) below meth c H locs 0 0 (MQ below (va_Qi (P_X10_cornersFrom_1 ad cy B qr s1 a1 w0) (fun u : va_W => wpost dC dI cy A u) A) (List.toArray [.ref (ad 158), .int a1]) s 0 0 A) (F0 m 59 ls []) := by
            intro v59_5 f59_39_8 H locs ls w32 r33 t34 r35 t36 r37 t38 r39 t40 r41 t42 r43 t44 r45 t46 hw hT hF c47 hl
            obtain ⟨x48, ex48⟩ : ∃ y : Int32, y = v26_6 + Int32.ofInt 1 := ⟨_, rfl⟩
            refine lv_iinc (v := x48) (lv' := [(6, .int x48), (0, .ref (ad 158)), (1, .int a1), (2, .int v9_2), (3, .int v9_3), (4, .int v9_4), (5, .int v59_5)]) hx hb dX10_cornersFrom_59 hl (k := 6) rfl ex48.symm (by decide) rfl (fun ls hl => ?_)
            have ex48 : x48.toInt = v26_6.toInt + 1 := by rw [ex48]; exact wk_add (y := 1) (show -2147483648 ≤ v26_6.toInt + 1 by omega) (show v26_6.toInt + 1 ≤ 2147483647 by omega)
            refine lv_goto (tgt := 26) hx hb dX10_cornersFrom_62 (by decide) ?_
            exact ih26 v59_5 x48 H locs ls w32 (show 0 ≤ a1.toInt by omega) (show a1.toInt ≤ 9 by omega) (show 1 ≤ v9_2.toInt by omega) (show v9_2.toInt ≤ 1023 by omega) (show 1 ≤ v9_3.toInt by omega) (show v9_3.toInt ≤ 1023 by omega) (show 0 ≤ v9_4.toInt by omega) (show v9_4.toInt ≤ 9 by omega) (show 0 ≤ v59_5.toInt by omega) (show v59_5.toInt ≤ 1023 by omega) (show 0 ≤ x48.toInt by omega) (show x48.toInt ≤ 10 by omega) (show (10 - x48.toInt).toNat < n26 by omega) hw hT hF  (lv_sub hl [1, 2, 3, 4, 5, 6, 0] rfl)
          refine lv_iload hx hb dX10_cornersFrom_26 (lv_at hl 6 rfl) ?_
          refine lv_aload_n hx hb dX10_cornersFrom_28 rfl (lv_at hl 0 rfl) ?_
          refine tk_getA hC hK hw hT hinX10 kC_at158 (by decide) rfl 1 (by decide) (List.mem_of_getElem? (i := 1) rfl) rfl rfl dX10_cornersFrom_29 ?_
          refine tk_geti hC hK hw hT hinX7 kC_at39 (by decide) rfl 8 (by decide) (List.mem_of_getElem? (i := 2) rfl) rfl rfl dX10_cornersFrom_32 (fun x49 c50 rx49 tx49 => ?_)
          refine lv_icmp_ge (tgt := 65) hx hb dX10_cornersFrom_35 (by decide) (fun c51 => ?_) (fun c51 => ?_)
          · have c51 : x49.toInt ≤ v26_6.toInt := wk_le.mp c51
            refine lv_iload hx hb dX10_cornersFrom_65 (lv_at hl 5 rfl) ?_
            refine lv_iload_n hx hb dX10_cornersFrom_67 rfl (lv_at hl 2 rfl) ?_
            refine lv_iconst (v := (-1)) hx hb dX10_cornersFrom_68 (by decide) ?_
            refine lv_ixor hx hb dX10_cornersFrom_69 ?_
            refine lv_topi (fun x52 ex52 => ?_)
            refine lv_iand hx hb dX10_cornersFrom_70 ?_
            refine lv_topi (fun x53 ex53 => ?_)
            have bx53 : 0 ≤ x53.toInt ∧ x53.toInt ≤ v26_5.toInt := by rw [ex53]; exact wk_andC (by omega)
            refine lv_sipush (v := 1023) hx hb dX10_cornersFrom_71 (by decide) ?_
            refine lv_iand hx hb dX10_cornersFrom_74 ?_
            refine lv_topi (fun x54 ex54 => ?_)
            have bx54 : 0 ≤ x54.toInt ∧ x54.toInt ≤ (1023 : Int) := by rw [ex54]; exact wk_and (by decide)
            refine lv_istore_n (lv' := [(3, .int x54), (0, .ref (ad 158)), (1, .int a1), (2, .int v9_2), (4, .int v9_4), (5, .int v26_5), (6, .int v26_6)]) hx hb dX10_cornersFrom_75 rfl hl (by decide) rfl (fun ls hl => ?_)
            refine lv_iload_n hx hb dX10_cornersFrom_76 rfl (lv_at hl 3 rfl) ?_
            refine lv_iload hx hb dX10_cornersFrom_77 (lv_at hl 5 rfl) ?_
            refine lv_ior hx hb dX10_cornersFrom_79 ?_
            refine lv_topi (fun x55 ex55 => ?_)
            have bx55 : 0 ≤ x55.toInt ∧ x55.toInt < 1024 := by rw [ex55]; exact wk_or 10 (by decide) (by omega) (by omega) (by omega) (by omega)
            have mx55 : v9_2.toInt ≤ x55.toInt ∧ v26_5.toInt ≤ x55.toInt := by rw [ex55]; exact wk_orL 10 (by decide) (by omega) (by omega) (by omega) (by omega)
            refine lv_istore_n (lv' := [(2, .int x55), (3, .int x54), (0, .ref (ad 158)), (1, .int a1), (4, .int v9_4), (5, .int v26_5), (6, .int v26_6)]) hx hb dX10_cornersFrom_80 rfl hl (by decide) rfl (fun ls hl => ?_)
            obtain ⟨x56, ex56⟩ : ∃ y : Int32, y = v9_4 + Int32.ofInt 1 := ⟨_, rfl⟩
            refine lv_iinc (v := x56) (lv' := [(4, .int x56), (2, .int x55), (3, .int x54), (0, .ref (ad 158)), (1, .int a1), (5, .int v26_5), (6, .int v26_6)]) hx hb dX10_cornersFrom_81 hl (k := 4) rfl ex56.symm (by decide) rfl (fun ls hl => ?_)
            have ex56 : x56.toInt = v9_4.toInt + 1 := by rw [ex56]; exact wk_add (y := 1) (show -2147483648 ≤ v9_4.toInt + 1 by omega) (show v9_4.toInt + 1 ≤ 2147483647 by omega)
            refine lv_goto (tgt := 9) hx hb dX10_cornersFrom_84 (by decide) ?_
            exact ih9 x55 x54 x56 H locs ls w19 (show 0 ≤ a1.toInt by omega) (show a1.toInt ≤ 9 by omega) (show 1 ≤ x55.toInt by omega) (show x55.toInt ≤ 1023 by omega) (show 0 ≤ x54.toInt by omega) (show x54.toInt ≤ 1023 by omega) (show 0 ≤ x56.toInt by omega) (show x56.toInt ≤ 10 by omega) (show (10 - x56.toInt).toNat < n9 by omega) hw hT hF  (lv_sub hl [3, 4, 1, 2, 0] rfl)
          · have c51 : v26_6.toInt < x49.toInt := wk_leF c51
            refine lv_iload_n hx hb dX10_cornersFrom_38 rfl (lv_at hl 3 rfl) ?_
            refine lv_iload hx hb dX10_cornersFrom_39 (lv_at hl 6 rfl) ?_
            refine lv_ishr hx hb dX10_cornersFrom_41 ?_
            refine lv_topi (fun x57 ex57 => ?_)
            have bx57 : 0 ≤ x57.toInt ∧ x57.toInt ≤ v9_3.toInt := by rw [ex57]; exact wk_shr (by omega)
            refine lv_iconst (v := 1) hx hb dX10_cornersFrom_42 (by decide) ?_
            refine lv_iand hx hb dX10_cornersFrom_43 ?_
            refine lv_topi (fun x58 ex58 => ?_)
            have bx58 : 0 ≤ x58.toInt ∧ x58.toInt ≤ (1 : Int) := by rw [ex58]; exact wk_and (by decide)
            refine lv_if_eq (tgt := 59) hx hb dX10_cornersFrom_44 (by decide) (fun c59 => ?_) (fun c59 => ?_)
            · have c59 : x58.toInt = (0 : Int) := wk_eq.mp c59
              exact J59 v26_5 x49 H locs ls w19 (show 0 ≤ a1.toInt by omega) (show a1.toInt ≤ 9 by omega) (show 1 ≤ v9_2.toInt by omega) (show v9_2.toInt ≤ 1023 by omega) (show 1 ≤ v9_3.toInt by omega) (show v9_3.toInt ≤ 1023 by omega) (show 0 ≤ v9_4.toInt by omega) (show v9_4.toInt ≤ 9 by omega) (show 0 ≤ v26_5.toInt by omega) (show v26_5.toInt ≤ 1023 by omega) (show 0 ≤ v26_6.toInt by omega) (show v26_6.toInt ≤ 9 by omega) (show 1 ≤ x49.toInt by omega) (show x49.toInt ≤ 10 by omega)  hw hT hF c50 (lv_sub hl [0, 1, 2, 3, 4, 5, 6] rfl)
            · have c59 : ¬ x58.toInt = (0 : Int) := wk_eqF c59
              refine lv_iload hx hb dX10_cornersFrom_47 (lv_at hl 5 rfl) ?_
              refine lv_aload_n hx hb dX10_cornersFrom_49 rfl (lv_at hl 0 rfl) ?_
              refine tk_getA hC hK hw hT hinX10 kC_at158 (by decide) rfl 3 (by decide) (List.mem_of_getElem? (i := 3) rfl) rfl rfl dX10_cornersFrom_50 ?_
              refine lv_iload hx hb dX10_cornersFrom_53 (lv_at hl 6 rfl) ?_
              refine tk_iald hC hK hw hT kC_at160 rfl rfl (show 0 ≤ v26_6.toInt by omega) (show v26_6.toInt < 10 by omega) dX10_cornersFrom_55 (fun x60 c61 rx60 tx60 => ?_)
              refine lv_ior hx hb dX10_cornersFrom_56 ?_
              refine lv_topi (fun x62 ex62 => ?_)
              have bx62 : 0 ≤ x62.toInt ∧ x62.toInt < 1024 := by rw [ex62]; exact wk_or 10 (by decide) (by omega) (by omega) (by omega) (by omega)
              have mx62 : v26_5.toInt ≤ x62.toInt ∧ x60.toInt ≤ x62.toInt := by rw [ex62]; exact wk_orL 10 (by decide) (by omega) (by omega) (by omega) (by omega)
              refine lv_istore (lv' := [(5, .int x62), (0, .ref (ad 158)), (1, .int a1), (2, .int v9_2), (3, .int v9_3), (4, .int v9_4), (6, .int v26_6)]) hx hb dX10_cornersFrom_57 hl (by decide) rfl (fun ls hl => ?_)
              exact J59 x62 x49 H locs ls w19 (show 0 ≤ a1.toInt by omega) (show a1.toInt ≤ 9 by omega) (show 1 ≤ v9_2.toInt by omega) (show v9_2.toInt ≤ 1023 by omega) (show 1 ≤ v9_3.toInt by omega) (show v9_3.toInt ≤ 1023 by omega) (show 0 ≤ v9_4.toInt by omega) (show v9_4.toInt ≤ 9 by omega) (show 0 ≤ x62.toInt by omega) (show x62.toInt ≤ 1023 by omega) (show 0 ≤ v26_6.toInt by omega) (show v26_6.toInt ≤ 9 by omega) (show 1 ≤ x49.toInt by omega) (show x49.toInt ≤ 10 by omega)  hw hT hF c50 (lv_sub hl [1, 2, 3, 4, 5, 0, 6] rfl)
      refine lv_iload hx hb dX10_cornersFrom_9 (lv_at hl 4 rfl) ?_
      refine lv_bipush (v := 10) hx hb dX10_cornersFrom_11 (by decide) ?_
      refine lv_icmp_ge (tgt := 87) hx hb dX10_cornersFrom_13 (by decide) (fun c63 => ?_) (fun c63 => ?_)
      · have c63 : (10 : Int) ≤ v9_4.toInt := wk_le.mp c63
        exact J87 v9_2 v9_3 v9_4 H locs ls w10 (show 0 ≤ a1.toInt by omega) (show a1.toInt ≤ 9 by omega) (show 1 ≤ v9_2.toInt by omega) (show v9_2.toInt ≤ 1023 by omega) (show 0 ≤ v9_3.toInt by omega) (show v9_3.toInt ≤ 1023 by omega) (show 0 ≤ v9_4.toInt by omega) (show v9_4.toInt ≤ 10 by omega)  hw hT hF  (lv_sub hl [0, 1, 2, 3, 4] rfl)
      · have c63 : v9_4.toInt < (10 : Int) := wk_leF c63
        refine lv_iload_n hx hb dX10_cornersFrom_16 rfl (lv_at hl 3 rfl) ?_
        refine lv_if_eq (tgt := 87) hx hb dX10_cornersFrom_17 (by decide) (fun c64 => ?_) (fun c64 => ?_)
        · have c64 : v9_3.toInt = (0 : Int) := wk_eq.mp c64
          exact J87 v9_2 v9_3 v9_4 H locs ls w10 (show 0 ≤ a1.toInt by omega) (show a1.toInt ≤ 9 by omega) (show 1 ≤ v9_2.toInt by omega) (show v9_2.toInt ≤ 1023 by omega) (show 0 ≤ v9_3.toInt by omega) (show v9_3.toInt ≤ 1023 by omega) (show 0 ≤ v9_4.toInt by omega) (show v9_4.toInt ≤ 10 by omega)  hw hT hF  (lv_sub hl [0, 1, 2, 3, 4] rfl)
        · have c64 : ¬ v9_3.toInt = (0 : Int) := wk_eqF c64
          refine lv_iconst (v := 0) hx hb dX10_cornersFrom_20 (by decide) ?_
          refine lv_istore (lv' := [(5, .int 0), (0, .ref (ad 158)), (1, .int a1), (2, .int v9_2), (3, .int v9_3), (4, .int v9_4)]) hx hb dX10_cornersFrom_21 hl (by decide) rfl (fun ls hl => ?_)
          refine lv_iconst (v := 0) hx hb dX10_cornersFrom_23 (by decide) ?_
          refine lv_istore (lv' := [(6, .int 0), (5, .int 0), (0, .ref (ad 158)), (1, .int a1), (2, .int v9_2), (3, .int v9_3), (4, .int v9_4)]) hx hb dX10_cornersFrom_24 hl (by decide) rfl (fun ls hl => ?_)
          exact L26 ((10 - (0 : Int)).toNat + 1) 0 0 H locs ls w10 (show 0 ≤ a1.toInt by omega) (show a1.toInt ≤ 9 by omega) (show 1 ≤ v9_2.toInt by omega) (show v9_2.toInt ≤ 1023 by omega) (show 1 ≤ v9_3.toInt by omega) (show v9_3.toInt ≤ 1023 by omega) (show 0 ≤ v9_4.toInt by omega) (show v9_4.toInt ≤ 9 by omega) (by decide) (by decide) (by decide) (by decide) (Nat.lt_succ_self _) hw hT hF  (lv_sub hl [2, 3, 4, 5, 6, 1, 0] rfl)
  refine lv_iconst (v := 1) hx hb dX10_cornersFrom_0 (by decide) ?_
  refine lv_iload_n hx hb dX10_cornersFrom_1 rfl (lv_at hl 1 rfl) ?_
  refine lv_ishl hx hb dX10_cornersFrom_2 ?_
  refine lv_topi (fun x65 ex65 => ?_)
  have bx65 : 1 ≤ x65.toInt ∧ x65.toInt ≤ 512 := by rw [ex65]; exact wk_shl1 9 (by decide) (by omega) (by omega)
  refine lv_istore_n (lv' := [(2, .int x65), (0, .ref (ad 158)), (1, .int a1)]) hx hb dX10_cornersFrom_3 rfl hl (by decide) rfl (fun ls hl => ?_)
  refine lv_iload_n hx hb dX10_cornersFrom_4 rfl (lv_at hl 0 rfl) ?_
  refine lv_istore_n (lv' := [(3, .int x65), (2, .int x65), (0, .ref (ad 158)), (1, .int a1)]) hx hb dX10_cornersFrom_5 rfl hl (by decide) rfl (fun ls hl => ?_)
  refine lv_iconst (v := 0) hx hb dX10_cornersFrom_6 (by decide) ?_
  refine lv_istore (lv' := [(4, .int 0), (3, .int x65), (2, .int x65), (0, .ref (ad 158)), (1, .int a1)]) hx hb dX10_cornersFrom_7 hl (by decide) rfl (fun ls hl => ?_)
  exact L9 ((10 - (0 : Int)).toNat + 1) x65 x65 0 s.heap locs ls w0 (show 0 ≤ a1.toInt by omega) (show a1.toInt ≤ 9 by omega) (show 1 ≤ x65.toInt by omega) (show x65.toInt ≤ 1023 by omega) (show 0 ≤ x65.toInt by omega) (show x65.toInt ≤ 1023 by omega) (by decide) (by decide) (Nat.lt_succ_self _) hw hT hF  (lv_sub hl [3, 4, 2, 1, 0] rfl)
abbrev P_X10_oddsOver_1 (ad : Nat → Nat) (cy : Nat → ClassId) (B : Int) (qr : Nat) (s1 : Int) (a1 : Int32) (w0 : va_W) : Int32 → va_W → Prop := fun r u => TW ksC ad cy B qr s1 u ∧ FE ksC [(51, 0, 10)] w0 u ∧ ((0 ≤ r.toInt ∧ r.toInt ≤ 127))
set_option maxHeartbeats 4000000 in
set_option maxRecDepth 100000 in
theorem k_X10_oddsOver_1 (l : Launch) (adK adV : Nat → Nat) (dC : Nat → ClassId) (dI : Nat → Nat → Nat) (cy : Nat → ClassId) (ad : Nat → Nat) (B : Int) (hB0 : 2147483648 ≤ B) (hB1 : B ≤ 1152921504606846976) (qr : Nat) (s1 : Int)  (a1 : Int32) (ra1 : 0 ≤ a1.toInt) (ta1 : a1.toInt ≤ 11) (w0 : va_W) (sz : Nat) (hT : TW ksC ad cy B qr s1 w0)  : Met l yX10_oddsOver wsX10_oddsOver ({ frames := 2, cells := 0, slots := 0, locals := 39 }) (va_Pc [.ref (ad 158), .int a1] (wpreS adK adV dC dI cy sz w0)) (va_Qi (P_X10_oddsOver_1 ad cy B qr s1 a1 w0) (fun u : va_W => wpost dC dI cy (va_A w0 sz) u) (va_A w0 sz)) 0 0 (va_A w0 sz) := by
  refine Met.ofW (cc := cX10_oddsOver) (maxL := 7) (ret := (some .int)) (by decide) rfl ?_
  intro p e s m args below meth c s₁ Bk hml hv
  obtain ⟨rfl, ⟨hsz, hP, hK, hD0⟩, hE, hSR⟩ := hv
  have hx := Bk.exec
  have hb := Bk.bytes
  have hr := Bk.returns
  have hlocks := Bk.notSynchronized
  have hC : CallFix p m c cX10_oddsOver 7 s _ wsX10_oddsOver RX10 := ⟨hx, hb, hml, findClass_of_methodNamed Bk.named, atoms_spec (ws := wsX10_oddsOver) Bk.pre⟩
  subst hsz
  have hD := hD0.self (sz := s.heap.size)
  generalize hAe : va_A w0 s.heap.size = A at hD hE ⊢
  have hA : ∀ q : Nat, s.heap.size ≤ q → A q := fun q h => by rw [← hAe]; exact Or.inr h
  have hw : Wd dC dI A s.heap s.heap [] w0 := ⟨hP, hD, va_S.rf⟩
  have hF : FE ksC [(51, 0, 10)] w0 w0 := FE.rf
  have hl := lv_entry ([.ref (ad 158), .int a1]) (n := 7) (Nat.le_of_ble_eq_true rfl)
  rw [lg_entry_eq]
  generalize (lg_sl ([.ref (ad 158), .int a1]) ++ List.replicate (7 - (lg_sl ([.ref (ad 158), .int a1])).length) Slot.unset).toArray = ls at hl ⊢
  have hl : lv_has ls 7 [(0, .ref (ad 158)), (1, .int a1)] := hl
  generalize hloc : ([] : List Loc) = locs at hw ⊢
  have hinX10 : ∀ w ∈ u_ws RX10 TX10 5, w ∈ wsX10_oddsOver := fun _ h => List.mem_cons_of_mem _ (List.mem_append_left _ (List.mem_append_left _ (List.mem_append_right _ (h))))
  have hinX5 : ∀ w ∈ u_ws RX5 TX5 14, w ∈ wsX10_oddsOver := fun _ h => List.mem_cons_of_mem _ (List.mem_append_right _ (h))
  have hinX7 : ∀ w ∈ u_ws RX7 TX7 12, w ∈ wsX10_oddsOver := fun _ h => List.mem_cons_of_mem _ (List.mem_append_left _ (List.mem_append_right _ (h)))
  have L36 : ∀ (n36 : Nat) (v36_2 : Int32) (v36_3 : Int32) (v36_4 : Int32) (H : Heap) (locs : List Loc) (ls : Array Slot) (w1 : va_W), 0 ≤ a1.toInt → a1.toInt ≤ 11 → 1 ≤ v36_2.toInt → v36_2.toInt ≤ 1023 → 0 ≤ v36_3.toInt → v36_3.toInt ≤ 127 → 0 ≤ v36_4.toInt → v36_4.toInt ≤ 6 → (6 - v36_4.toInt).toNat < n36 → Wd dC dI A s.heap H locs w1 → TW ksC ad cy B qr s1 w1 → FE ksC [(51, 0, 10)] w0 w1 → lv_has ls 7 [(0, .ref (ad 158)), (1, .int a1), (2, .int v36_2), (3, .int v36_3), (4, .int v36_4)] → W p l e ({ frames := 2, cells := 0, slots := 0, locals := 39 }) s m (List.toArray [.ref (ad 158), .int a1]) below meth c H locs 0 0 (MQ below (va_Qi (P_X10_oddsOver_1 ad cy B qr s1 a1 w0) (fun u : va_W => wpost dC dI cy A u) A) (List.toArray [.ref (ad 158), .int a1]) s 0 0 A) (F0 m 36 ls []) := by
    intro n36
    induction n36 with
    | zero => intro v36_2 v36_3 v36_4 H locs ls w1 r2 t3 r4 t5 r6 t7 r8 t9 hm36 hw hT hF hl; omega
    | succ n36 ih36 =>
      intro v36_2 v36_3 v36_4 H locs ls w1 r2 t3 r4 t5 r6 t7 r8 t9 hm36 hw hT hF hl
      have L54 : ∀ (n54 : Nat) (v54_3 : Int32) (v54_5 : Int32) (f54_38_10 : Int32) (H : Heap) (locs : List Loc) (ls : Array Slot) (w10 : va_W), 0 ≤ a1.toInt → a1.toInt ≤ 11 → 1 ≤ v36_2.toInt → v36_2.toInt ≤ 1023 → 0 ≤ v54_3.toInt → v54_3.toInt ≤ 127 → 0 ≤ v36_4.toInt → v36_4.toInt ≤ 5 → 1 ≤ v54_5.toInt → v54_5.toInt ≤ 6 → 1 ≤ f54_38_10.toInt → f54_38_10.toInt ≤ 6 → (6 - v54_5.toInt).toNat < n54 → Wd dC dI A s.heap H locs w10 → TW ksC ad cy B qr s1 w10 → FE ksC [(51, 0, 10)] w0 w10 → gi w10 38 10 = f54_38_10 → lv_has ls 7 [(0, .ref (ad 158)), (1, .int a1), (2, .int v36_2), (3, .int v54_3), (4, .int v36_4), (5, .int v54_5)] → W p l e ({ frames := 2, cells := 0, slots := 0, locals := 39 }) s m (List.toArray [.ref (ad 158), .int a1]) below meth c H locs 0 0 (MQ below (va_Qi (P_X10_oddsOver_1 ad cy B qr s1 a1 w0) (fun u : va_W => wpost dC dI cy A u) A) (List.toArray [.ref (ad 158), .int a1]) s 0 0 A) (F0 m 54 ls []) := by
        intro n54
        induction n54 with
        | zero => intro v54_3 v54_5 f54_38_10 H locs ls w10 r11 t12 r13 t14 r15 t16 r17 t18 r19 t20 r21 t22 hm54 hw hT hF c23 hl; omega
        | succ n54 ih54 =>
          intro v54_3 v54_5 f54_38_10 H locs ls w10 r11 t12 r13 t14 r15 t16 r17 t18 r19 t20 r21 t22 hm54 hw hT hF c23 hl
          have J108 : ∀ (v108_3 : Int32) (v108_6 : Int32) (H : Heap) (locs : List Loc) (ls : Array Slot) (w24 : va_W), 0 ≤ a1.toInt → a1.toInt ≤ 11 → 1 ≤ v36_2.toInt → v36_2.toInt ≤ 1023 → 0 ≤ v108_3.toInt → v108_3.toInt ≤ 127 → 0 ≤ v36_4.toInt → v36_4.toInt ≤ 5 → 1 ≤ v54_5.toInt → v54_5.toInt ≤ 5 → 1 ≤ v108_6.toInt → v108_6.toInt ≤ 63 → 2 ≤ f54_38_10.toInt → f54_38_10.toInt ≤ 6 → Wd dC dI A s.heap H locs w24 → TW ksC ad cy B qr s1 w24 → FE ksC [(51, 0, 10)] w0 w24 → gi w24 38 10 = f54_38_10 → lv_has ls 7 [(0, .ref (ad 158)), (1, .int a1), (2, .int v36_2), (3, .int v108_3), (4, .int v36_4), (5, .int v54_5), (6, .int v108_6)] → W p l e ({ frames := 2, cells := 0, slots := 0, locals := 39 }) s m (List.toArray [.ref (ad 158), .int a1]) below meth c H locs 0 0 (MQ below (va_Qi (P_X10_oddsOver_1 ad cy B qr s1 a1 w0) (fun u : va_W => wpost dC dI cy A u) A) (List.toArray [.ref (ad 158), .int a1]) s 0 0 A) (F0 m 108 ls []) := by
            intro v108_3 v108_6 H locs ls w24 r25 t26 r27 t28 r29 t30 r31 t32 r33 t34 r35 t36 r37 t38 hw hT hF c39 hl
            obtain ⟨x40, ex40⟩ : ∃ y : Int32, y = v54_5 + Int32.ofInt 1 := ⟨_, rfl⟩
            refine lv_iinc (v := x40) (lv' := [(5, .int x40), (0, .ref (ad 158)), (1, .int a1), (2, .int v36_2), (3, .int v108_3), (4, .int v36_4), (6, .int v108_6)]) hx hb dX10_oddsOver_108 hl (k := 5) rfl ex40.symm (by decide) rfl (fun ls hl => ?_)
            have ex40 : x40.toInt = v54_5.toInt + 1 := by rw [ex40]; exact wk_add (y := 1) (show -2147483648 ≤ v54_5.toInt + 1 by omega) (show v54_5.toInt + 1 ≤ 2147483647 by omega)
            refine lv_goto (tgt := 54) hx hb dX10_oddsOver_111 (by decide) ?_
            exact ih54 v108_3 x40 f54_38_10 H locs ls w24 (show 0 ≤ a1.toInt by omega) (show a1.toInt ≤ 11 by omega) (show 1 ≤ v36_2.toInt by omega) (show v36_2.toInt ≤ 1023 by omega) (show 0 ≤ v108_3.toInt by omega) (show v108_3.toInt ≤ 127 by omega) (show 0 ≤ v36_4.toInt by omega) (show v36_4.toInt ≤ 5 by omega) (show 1 ≤ x40.toInt by omega) (show x40.toInt ≤ 6 by omega) (show 1 ≤ f54_38_10.toInt by omega) (show f54_38_10.toInt ≤ 6 by omega) (show (6 - x40.toInt).toNat < n54 by omega) hw hT hF c39 (lv_sub hl [1, 2, 3, 4, 5, 0] rfl)
          have J105 : ∀ (v105_6 : Int32) (H : Heap) (locs : List Loc) (ls : Array Slot) (w41 : va_W), 0 ≤ a1.toInt → a1.toInt ≤ 11 → 1 ≤ v36_2.toInt → v36_2.toInt ≤ 1023 → 0 ≤ v54_3.toInt → v54_3.toInt ≤ 127 → 0 ≤ v36_4.toInt → v36_4.toInt ≤ 5 → 1 ≤ v54_5.toInt → v54_5.toInt ≤ 5 → 1 ≤ v105_6.toInt → v105_6.toInt ≤ 63 → 2 ≤ f54_38_10.toInt → f54_38_10.toInt ≤ 6 → Wd dC dI A s.heap H locs w41 → TW ksC ad cy B qr s1 w41 → FE ksC [(51, 0, 10)] w0 w41 → gi w41 38 10 = f54_38_10 → lv_has ls 7 [(0, .ref (ad 158)), (1, .int a1), (2, .int v36_2), (3, .int v54_3), (4, .int v36_4), (5, .int v54_5), (6, .int v105_6)] → W p l e ({ frames := 2, cells := 0, slots := 0, locals := 39 }) s m (List.toArray [.ref (ad 158), .int a1]) below meth c H locs 0 0 (MQ below (va_Qi (P_X10_oddsOver_1 ad cy B qr s1 a1 w0) (fun u : va_W => wpost dC dI cy A u) A) (List.toArray [.ref (ad 158), .int a1]) s 0 0 A) (F0 m 105 ls []) := by
            intro v105_6 H locs ls w41 r42 t43 r44 t45 r46 t47 r48 t49 r50 t51 r52 t53 r54 t55 hw hT hF c56 hl
            refine lv_iload hx hb dX10_oddsOver_105 (lv_at hl 6 rfl) ?_
            refine lv_istore_n (lv' := [(3, .int v105_6), (0, .ref (ad 158)), (1, .int a1), (2, .int v36_2), (4, .int v36_4), (5, .int v54_5), (6, .int v105_6)]) hx hb dX10_oddsOver_107 rfl hl (by decide) rfl (fun ls hl => ?_)
            exact J108 v105_6 v105_6 H locs ls w41 (show 0 ≤ a1.toInt by omega) (show a1.toInt ≤ 11 by omega) (show 1 ≤ v36_2.toInt by omega) (show v36_2.toInt ≤ 1023 by omega) (show 0 ≤ v105_6.toInt by omega) (show v105_6.toInt ≤ 127 by omega) (show 0 ≤ v36_4.toInt by omega) (show v36_4.toInt ≤ 5 by omega) (show 1 ≤ v54_5.toInt by omega) (show v54_5.toInt ≤ 5 by omega) (show 1 ≤ v105_6.toInt by omega) (show v105_6.toInt ≤ 63 by omega) (show 2 ≤ f54_38_10.toInt by omega) (show f54_38_10.toInt ≤ 6 by omega)  hw hT hF c56 (lv_sub hl [1, 2, 3, 0, 4, 5, 6] rfl)
          refine lv_iload hx hb dX10_oddsOver_54 (lv_at hl 5 rfl) ?_
          refine lv_aload_n hx hb dX10_oddsOver_56 rfl (lv_at hl 0 rfl) ?_
          refine tk_getA hC hK hw hT hinX10 kC_at158 (by decide) rfl 0 (by decide) (List.mem_of_getElem? (i := 5) rfl) rfl rfl dX10_oddsOver_57 ?_
          refine tk_geti hC hK hw hT hinX5 kC_at38 (by decide) rfl 10 (by decide) (List.mem_of_getElem? (i := 6) rfl) rfl rfl dX10_oddsOver_60 (fun x57 c58 rx57 tx57 => ?_)
          refine wk_top f54_38_10 (c58.symm.trans c23) ?_
          refine lv_icmp_ge (tgt := 114) hx hb dX10_oddsOver_63 (by decide) (fun c59 => ?_) (fun c59 => ?_)
          · have c59 : f54_38_10.toInt ≤ v54_5.toInt := wk_le.mp c59
            obtain ⟨x60, ex60⟩ : ∃ y : Int32, y = v36_4 + Int32.ofInt 1 := ⟨_, rfl⟩
            refine lv_iinc (v := x60) (lv' := [(4, .int x60), (0, .ref (ad 158)), (1, .int a1), (2, .int v36_2), (3, .int v54_3), (5, .int v54_5)]) hx hb dX10_oddsOver_114 hl (k := 4) rfl ex60.symm (by decide) rfl (fun ls hl => ?_)
            have ex60 : x60.toInt = v36_4.toInt + 1 := by rw [ex60]; exact wk_add (y := 1) (show -2147483648 ≤ v36_4.toInt + 1 by omega) (show v36_4.toInt + 1 ≤ 2147483647 by omega)
            refine lv_goto (tgt := 36) hx hb dX10_oddsOver_117 (by decide) ?_
            exact ih36 v36_2 v54_3 x60 H locs ls w10 (show 0 ≤ a1.toInt by omega) (show a1.toInt ≤ 11 by omega) (show 1 ≤ v36_2.toInt by omega) (show v36_2.toInt ≤ 1023 by omega) (show 0 ≤ v54_3.toInt by omega) (show v54_3.toInt ≤ 127 by omega) (show 0 ≤ x60.toInt by omega) (show x60.toInt ≤ 6 by omega) (show (6 - x60.toInt).toNat < n36 by omega) hw hT hF  (lv_sub hl [1, 2, 3, 4, 0] rfl)
          · have c59 : v54_5.toInt < f54_38_10.toInt := wk_leF c59
            refine lv_iconst (v := 1) hx hb dX10_oddsOver_66 (by decide) ?_
            refine lv_iload hx hb dX10_oddsOver_67 (lv_at hl 4 rfl) ?_
            refine lv_ishl hx hb dX10_oddsOver_69 ?_
            refine lv_topi (fun x61 ex61 => ?_)
            have bx61 : 1 ≤ x61.toInt ∧ x61.toInt ≤ 32 := by rw [ex61]; exact wk_shl1 5 (by decide) (by omega) (by omega)
            refine lv_iconst (v := 1) hx hb dX10_oddsOver_70 (by decide) ?_
            refine lv_iload hx hb dX10_oddsOver_71 (lv_at hl 5 rfl) ?_
            refine lv_ishl hx hb dX10_oddsOver_73 ?_
            refine lv_topi (fun x62 ex62 => ?_)
            have bx62 : 1 ≤ x62.toInt ∧ x62.toInt ≤ 32 := by rw [ex62]; exact wk_shl1 5 (by decide) (by omega) (by omega)
            refine lv_ior hx hb dX10_oddsOver_74 ?_
            refine lv_topi (fun x63 ex63 => ?_)
            have bx63 : 0 ≤ x63.toInt ∧ x63.toInt < 64 := by rw [ex63]; exact wk_or 6 (by decide) (by omega) (by omega) (by omega) (by omega)
            have mx63 : x61.toInt ≤ x63.toInt ∧ x62.toInt ≤ x63.toInt := by rw [ex63]; exact wk_orL 6 (by decide) (by omega) (by omega) (by omega) (by omega)
            refine lv_istore (lv' := [(6, .int x63), (0, .ref (ad 158)), (1, .int a1), (2, .int v36_2), (3, .int v54_3), (4, .int v36_4), (5, .int v54_5)]) hx hb dX10_oddsOver_75 hl (by decide) rfl (fun ls hl => ?_)
            refine lv_aload_n hx hb dX10_oddsOver_77 rfl (lv_at hl 1 rfl) ?_
            refine lv_iload hx hb dX10_oddsOver_78 (lv_at hl 5 rfl) ?_
            refine lv_iload_n hx hb dX10_oddsOver_80 rfl (lv_at hl 3 rfl) ?_
            refine tk_Vi hC hK hw hT hA hE hSR kC_at158 (by decide) rfl (k_X10_crossing_1 l adK adV dC dI cy ad B (by omega) (by omega) qr s1   v36_4 (show 0 ≤ v36_4.toInt by omega) (show v36_4.toInt ≤ 5 by omega) v36_2 (show 1 ≤ v36_2.toInt by omega) (show v36_2.toInt ≤ 1023 by omega) w10 H.size hT ) (cwV 2 hC.2.2.2.2 gX10_oddsOver_X10_crossing rfl rfl rfl (by decide +kernel) ⟨Nat.le_of_ble_eq_true rfl, Nat.le_of_ble_eq_true rfl⟩) rfl hl.1 rfl (Nat.le_of_ble_eq_true rfl) dX10_oddsOver_81 (fun r64 w66 H locs hp65 hw => ?_)
            obtain ⟨hT, k67, hg70⟩ := hp65
            have hF := hF.tr k67 (by decide)
            have c71 := k67.gi kC_at38 (by decide) c23
            obtain ⟨g68, g69⟩ := hg70
            refine lv_aload_n hx hb dX10_oddsOver_84 rfl (lv_at hl 1 rfl) ?_
            refine lv_iload hx hb dX10_oddsOver_85 (lv_at hl 6 rfl) ?_
            refine lv_iload_n hx hb dX10_oddsOver_87 rfl (lv_at hl 3 rfl) ?_
            refine tk_Vi hC hK hw hT hA hE hSR kC_at158 (by decide) rfl (k_X10_crossing_2 l adK adV dC dI cy ad B (by omega) (by omega) qr s1   v54_5 (show 1 ≤ v54_5.toInt by omega) (show v54_5.toInt ≤ 5 by omega) v36_2 (show 1 ≤ v36_2.toInt by omega) (show v36_2.toInt ≤ 1023 by omega) w66 H.size hT ) (cwV 2 hC.2.2.2.2 gX10_oddsOver_X10_crossing rfl rfl rfl (by decide +kernel) ⟨Nat.le_of_ble_eq_true rfl, Nat.le_of_ble_eq_true rfl⟩) rfl hl.1 rfl (Nat.le_of_ble_eq_true rfl) dX10_oddsOver_88 (fun r72 w74 H locs hp73 hw => ?_)
            obtain ⟨hT, k75, hg78⟩ := hp73
            have hF := hF.tr k75 (by decide)
            have c79 := k75.gi kC_at38 (by decide) c71
            obtain ⟨g76, g77⟩ := hg78
            refine lv_imul hx hb dX10_oddsOver_91 ?_
            refine lv_topi (fun x80 ex80 => ?_)
            refine lv_if_ge (tgt := 108) hx hb dX10_oddsOver_92 (by decide) (fun c81 => ?_) (fun c81 => ?_)
            · have c81 : (0 : Int) ≤ x80.toInt := wk_le.mp c81
              exact J108 v54_3 x63 H locs ls w74 (show 0 ≤ a1.toInt by omega) (show a1.toInt ≤ 11 by omega) (show 1 ≤ v36_2.toInt by omega) (show v36_2.toInt ≤ 1023 by omega) (show 0 ≤ v54_3.toInt by omega) (show v54_3.toInt ≤ 127 by omega) (show 0 ≤ v36_4.toInt by omega) (show v36_4.toInt ≤ 5 by omega) (show 1 ≤ v54_5.toInt by omega) (show v54_5.toInt ≤ 5 by omega) (show 1 ≤ x63.toInt by omega) (show x63.toInt ≤ 63 by omega) (show 2 ≤ f54_38_10.toInt by omega) (show f54_38_10.toInt ≤ 6 by omega)  hw hT hF c79 (lv_sub hl [1, 2, 3, 4, 5, 6, 0] rfl)
            · have c81 : x80.toInt < (0 : Int) := wk_leF c81
              refine lv_iload_n hx hb dX10_oddsOver_95 rfl (lv_at hl 4 rfl) ?_
              refine lv_if_eq (tgt := 105) hx hb dX10_oddsOver_96 (by decide) (fun c82 => ?_) (fun c82 => ?_)
              · have c82 : v54_3.toInt = (0 : Int) := wk_eq.mp c82
                exact J105 x63 H locs ls w74 (show 0 ≤ a1.toInt by omega) (show a1.toInt ≤ 11 by omega) (show 1 ≤ v36_2.toInt by omega) (show v36_2.toInt ≤ 1023 by omega) (show 0 ≤ v54_3.toInt by omega) (show v54_3.toInt ≤ 127 by omega) (show 0 ≤ v36_4.toInt by omega) (show v36_4.toInt ≤ 5 by omega) (show 1 ≤ v54_5.toInt by omega) (show v54_5.toInt ≤ 5 by omega) (show 1 ≤ x63.toInt by omega) (show x63.toInt ≤ 63 by omega) (show 2 ≤ f54_38_10.toInt by omega) (show f54_38_10.toInt ≤ 6 by omega)  hw hT hF c79 (lv_sub hl [1, 2, 3, 4, 5, 6, 0] rfl)
              · have c82 : ¬ v54_3.toInt = (0 : Int) := wk_eqF c82
                refine lv_iload hx hb dX10_oddsOver_99 (lv_at hl 0 rfl) ?_
                refine lv_iload_n hx hb dX10_oddsOver_101 rfl (lv_at hl 4 rfl) ?_
                refine lv_icmp_ge (tgt := 108) hx hb dX10_oddsOver_102 (by decide) (fun c83 => ?_) (fun c83 => ?_)
                · have c83 : v54_3.toInt ≤ x63.toInt := wk_le.mp c83
                  exact J108 v54_3 x63 H locs ls w74 (show 0 ≤ a1.toInt by omega) (show a1.toInt ≤ 11 by omega) (show 1 ≤ v36_2.toInt by omega) (show v36_2.toInt ≤ 1023 by omega) (show 0 ≤ v54_3.toInt by omega) (show v54_3.toInt ≤ 127 by omega) (show 0 ≤ v36_4.toInt by omega) (show v36_4.toInt ≤ 5 by omega) (show 1 ≤ v54_5.toInt by omega) (show v54_5.toInt ≤ 5 by omega) (show 1 ≤ x63.toInt by omega) (show x63.toInt ≤ 63 by omega) (show 2 ≤ f54_38_10.toInt by omega) (show f54_38_10.toInt ≤ 6 by omega)  hw hT hF c79 (lv_sub hl [1, 2, 3, 4, 5, 6, 0] rfl)
                · have c83 : x63.toInt < v54_3.toInt := wk_leF c83
                  exact J105 x63 H locs ls w74 (show 0 ≤ a1.toInt by omega) (show a1.toInt ≤ 11 by omega) (show 1 ≤ v36_2.toInt by omega) (show v36_2.toInt ≤ 1023 by omega) (show 0 ≤ v54_3.toInt by omega) (show v54_3.toInt ≤ 127 by omega) (show 0 ≤ v36_4.toInt by omega) (show v36_4.toInt ≤ 5 by omega) (show 1 ≤ v54_5.toInt by omega) (show v54_5.toInt ≤ 5 by omega) (show 1 ≤ x63.toInt by omega) (show x63.toInt ≤ 63 by omega) (show 2 ≤ f54_38_10.toInt by omega) (show f54_38_10.toInt ≤ 6 by omega)  hw hT hF c79 (lv_sub hl [1, 2, 3, 4, 5, 6, 0] rfl)
      refine lv_iload hx hb dX10_oddsOver_36 (lv_at hl 4 rfl) ?_
      refine lv_aload_n hx hb dX10_oddsOver_38 rfl (lv_at hl 0 rfl) ?_
      refine tk_getA hC hK hw hT hinX10 kC_at158 (by decide) rfl 0 (by decide) (List.mem_of_getElem? (i := 5) rfl) rfl rfl dX10_oddsOver_39 ?_
      refine tk_geti hC hK hw hT hinX5 kC_at38 (by decide) rfl 10 (by decide) (List.mem_of_getElem? (i := 6) rfl) rfl rfl dX10_oddsOver_42 (fun x84 c85 rx84 tx84 => ?_)
      refine lv_icmp_ge (tgt := 120) hx hb dX10_oddsOver_45 (by decide) (fun c86 => ?_) (fun c86 => ?_)
      · have c86 : x84.toInt ≤ v36_4.toInt := wk_le.mp c86
        refine lv_iload_n hx hb dX10_oddsOver_120 rfl (lv_at hl 3 rfl) ?_
        exact tk_iret hC hr hlocks hK ⟨hT, hF, ⟨(show 0 ≤ v36_3.toInt by omega), (show v36_3.toInt ≤ 127 by omega)⟩⟩ hw dX10_oddsOver_121
      · have c86 : v36_4.toInt < x84.toInt := wk_leF c86
        refine lv_iload hx hb dX10_oddsOver_48 (lv_at hl 4 rfl) ?_
        refine lv_iconst (v := 1) hx hb dX10_oddsOver_50 (by decide) ?_
        refine lv_iadd hx hb dX10_oddsOver_51 ?_
        refine lv_topi (fun x87 ex87 => ?_)
        have ex87 : x87.toInt = v36_4.toInt + (1 : Int) := by rw [ex87]; exact wk_add (show (-2147483648) ≤ v36_4.toInt + (1 : Int) by omega) (show v36_4.toInt + (1 : Int) ≤ 2147483647 by omega)
        refine lv_istore (lv' := [(5, .int x87), (0, .ref (ad 158)), (1, .int a1), (2, .int v36_2), (3, .int v36_3), (4, .int v36_4)]) hx hb dX10_oddsOver_52 hl (by decide) rfl (fun ls hl => ?_)
        exact L54 ((6 - x87.toInt).toNat + 1) v36_3 x87 x84 H locs ls w1 (show 0 ≤ a1.toInt by omega) (show a1.toInt ≤ 11 by omega) (show 1 ≤ v36_2.toInt by omega) (show v36_2.toInt ≤ 1023 by omega) (show 0 ≤ v36_3.toInt by omega) (show v36_3.toInt ≤ 127 by omega) (show 0 ≤ v36_4.toInt by omega) (show v36_4.toInt ≤ 5 by omega) (show 1 ≤ x87.toInt by omega) (show x87.toInt ≤ 6 by omega) (show 1 ≤ x84.toInt by omega) (show x84.toInt ≤ 6 by omega) (Nat.lt_succ_self _) hw hT hF c85 (lv_sub hl [1, 2, 3, 4, 5, 0] rfl)
  refine lv_aload_n hx hb dX10_oddsOver_0 rfl (lv_at hl 0 rfl) ?_
  refine lv_aload_n hx hb dX10_oddsOver_1 rfl (lv_at hl 0 rfl) ?_
  refine tk_geti hC hK hw hT hinX10 kC_at158 (by decide) rfl 4 (by decide) (List.mem_of_getElem? (i := 1) rfl) rfl rfl dX10_oddsOver_2 (fun x88 c89 rx88 tx88 => ?_)
  refine lv_iconst (v := 0) hx hb dX10_oddsOver_5 (by decide) ?_
  refine lv_iload_n hx hb dX10_oddsOver_6 rfl (lv_at hl 1 rfl) ?_
  refine tk_Vv hC hK hw hT hA hE hSR kC_at158 (by decide) rfl (k_X10_layRoads_1 l adK adV dC dI cy ad B (by omega) (by omega) qr s1   x88 (show 0 ≤ x88.toInt by omega) (show x88.toInt ≤ 12 by omega) 0 (by decide) (by decide) a1 (show (-1) ≤ a1.toInt by omega) (show a1.toInt ≤ 11 by omega) w0 s.heap.size hT ) (cwV 3 hC.2.2.2.2 gX10_oddsOver_X10_layRoads rfl rfl rfl (by decide +kernel) ⟨Nat.le_of_ble_eq_true rfl, Nat.le_of_ble_eq_true rfl⟩) rfl hl.1 rfl (Nat.le_of_ble_eq_true rfl) dX10_oddsOver_7 (fun w92 H locs hp91 hw => ?_)
  obtain ⟨hT, k93, hg94⟩ := hp91
  have hF := hF.tr k93 (by decide)
  have c95 := k93.gi kC_at158 (by decide) c89
  clear hg94
  refine lv_aload_n hx hb dX10_oddsOver_10 rfl (lv_at hl 0 rfl) ?_
  refine lv_aload_n hx hb dX10_oddsOver_11 rfl (lv_at hl 0 rfl) ?_
  refine tk_getA hC hK hw hT hinX10 kC_at158 (by decide) rfl 1 (by decide) (List.mem_of_getElem? (i := 2) rfl) rfl rfl dX10_oddsOver_12 ?_
  refine tk_getO hC hK hw hT hinX7 kC_at39 (by decide) rfl 0 (by decide) (List.mem_of_getElem? (i := 3) rfl) rfl rfl dX10_oddsOver_15 ?_
  refine lv_iconst (v := 2) hx hb dX10_oddsOver_18 (by decide) ?_
  refine lv_aload_n hx hb dX10_oddsOver_19 rfl (lv_at hl 0 rfl) ?_
  refine tk_getA hC hK hw hT hinX10 kC_at158 (by decide) rfl 2 (by decide) (List.mem_of_getElem? (i := 4) rfl) rfl rfl dX10_oddsOver_20 ?_
  refine lv_iload_n hx hb dX10_oddsOver_23 rfl (lv_at hl 1 rfl) ?_
  refine tk_iald hC hK hw hT kC_at159 rfl rfl (show 0 ≤ a1.toInt by omega) (show a1.toInt < 12 by omega) dX10_oddsOver_24 (fun x96 c97 rx96 tx96 => ?_)
  refine lv_imul hx hb dX10_oddsOver_25 ?_
  refine lv_topi (fun x98 ex98 => ?_)
  have ex98 : x98.toInt = (2 : Int) * x96.toInt := by rw [ex98]; exact wk_mul (show (-2147483648) ≤ (2 : Int) * x96.toInt by omega) (show (2 : Int) * x96.toInt ≤ 2147483647 by omega)
  refine tk_iald hC hK hw hT kC_at40 rfl rfl (show 0 ≤ x98.toInt by omega) (show x98.toInt < 26 by omega) dX10_oddsOver_26 (fun x99 c100 rx99 tx99 => ?_)
  have c100 : gi w92 40 (2 * x96.toInt + 0).toNat = x99 := (congrArg (gi w92 40) (congrArg Int.toNat (show 2 * x96.toInt + 0 = x98.toInt by omega))).trans c100
  refine tk_Vi hC hK hw hT hA hE hSR kC_at158 (by decide) rfl (k_X10_cornersFrom_1 l adK adV dC dI cy ad B (by omega) (by omega) qr s1   x99 (show 0 ≤ x99.toInt by omega) (show x99.toInt ≤ 9 by omega) w92 H.size hT ) (cwV 1 hC.2.2.2.2 gX10_oddsOver_X10_cornersFrom rfl rfl rfl (by decide +kernel) ⟨Nat.le_of_ble_eq_true rfl, Nat.le_of_ble_eq_true rfl⟩) rfl hl.1 rfl (Nat.le_of_ble_eq_true rfl) dX10_oddsOver_27 (fun r101 w103 H locs hp102 hw => ?_)
  obtain ⟨hT, k104, hg107⟩ := hp102
  have hF := hF.tr k104 (by decide)
  have c108 := k104.gi kC_at158 (by decide) c95
  have c109 := k104.gi kC_at40 rfl c100
  obtain ⟨g105, g106⟩ := hg107
  refine lv_istore_n (lv' := [(2, .int r101), (0, .ref (ad 158)), (1, .int a1)]) hx hb dX10_oddsOver_30 rfl hl (by decide) rfl (fun ls hl => ?_)
  refine lv_iconst (v := 0) hx hb dX10_oddsOver_31 (by decide) ?_
  refine lv_istore_n (lv' := [(3, .int 0), (2, .int r101), (0, .ref (ad 158)), (1, .int a1)]) hx hb dX10_oddsOver_32 rfl hl (by decide) rfl (fun ls hl => ?_)
  refine lv_iconst (v := 0) hx hb dX10_oddsOver_33 (by decide) ?_
  refine lv_istore (lv' := [(4, .int 0), (3, .int 0), (2, .int r101), (0, .ref (ad 158)), (1, .int a1)]) hx hb dX10_oddsOver_34 hl (by decide) rfl (fun ls hl => ?_)
  exact L36 ((6 - (0 : Int)).toNat + 1) r101 0 0 H locs ls w103 (show 0 ≤ a1.toInt by omega) (show a1.toInt ≤ 11 by omega) (show 1 ≤ r101.toInt by omega) (show r101.toInt ≤ 1023 by omega) (by decide) (by decide) (by decide) (by decide) (Nat.lt_succ_self _) hw hT hF  (lv_sub hl [3, 4, 2, 1, 0] rfl)
abbrev P_X10_canDo_1 (ad : Nat → Nat) (cy : Nat → ClassId) (B : Int) (qr : Nat) (s1 : Int) (a1 : Int32) (w0 : va_W) : Int32 → va_W → Prop := fun r u => TW ksC ad cy B qr s1 u ∧ FE ksC ([] : List (Nat × Nat × Nat)) w0 u ∧ ((r = 0) ∨ (r = 1))
set_option maxHeartbeats 4000000 in
set_option maxRecDepth 100000 in
theorem k_X10_canDo_1 (l : Launch) (adK adV : Nat → Nat) (dC : Nat → ClassId) (dI : Nat → Nat → Nat) (cy : Nat → ClassId) (ad : Nat → Nat) (B : Int) (hB0 : 2147483648 ≤ B) (hB1 : B ≤ 1152921504606846976) (qr : Nat) (s1 : Int)  (a1 : Int32) (ra1 : 0 ≤ a1.toInt) (ta1 : a1.toInt ≤ 5) (w0 : va_W) (sz : Nat) (hT : TW ksC ad cy B qr s1 w0)  : Met l yX10_canDo wsX10_canDo ({ frames := 2, cells := 0, slots := 0, locals := 38 }) (va_Pc [.ref (ad 158), .int a1] (wpreS adK adV dC dI cy sz w0)) (va_Qi (P_X10_canDo_1 ad cy B qr s1 a1 w0) (fun u : va_W => wpost dC dI cy (va_A w0 sz) u) (va_A w0 sz)) 0 0 (va_A w0 sz) := by
  refine Met.ofW (cc := cX10_canDo) (maxL := 2) (ret := (some .boolean)) (by decide) rfl ?_
  intro p e s m args below meth c s₁ Bk hml hv
  obtain ⟨rfl, ⟨hsz, hP, hK, hD0⟩, hE, hSR⟩ := hv
  have hx := Bk.exec
  have hb := Bk.bytes
  have hr := Bk.returns
  have hlocks := Bk.notSynchronized
  have hC : CallFix p m c cX10_canDo 2 s _ wsX10_canDo RX10 := ⟨hx, hb, hml, findClass_of_methodNamed Bk.named, atoms_spec (ws := wsX10_canDo) Bk.pre⟩
  subst hsz
  have hD := hD0.self (sz := s.heap.size)
  generalize hAe : va_A w0 s.heap.size = A at hD hE ⊢
  have hA : ∀ q : Nat, s.heap.size ≤ q → A q := fun q h => by rw [← hAe]; exact Or.inr h
  have hw : Wd dC dI A s.heap s.heap [] w0 := ⟨hP, hD, va_S.rf⟩
  have hF : FE ksC ([] : List (Nat × Nat × Nat)) w0 w0 := FE.rf
  have hl := lv_entry ([.ref (ad 158), .int a1]) (n := 2) (Nat.le_of_ble_eq_true rfl)
  rw [lg_entry_eq]
  generalize (lg_sl ([.ref (ad 158), .int a1]) ++ List.replicate (2 - (lg_sl ([.ref (ad 158), .int a1])).length) Slot.unset).toArray = ls at hl ⊢
  have hl : lv_has ls 2 [(0, .ref (ad 158)), (1, .int a1)] := hl
  generalize hloc : ([] : List Loc) = locs at hw ⊢
  have hinX10 : ∀ w ∈ u_ws RX10 TX10 5, w ∈ wsX10_canDo := fun _ h => List.mem_cons_of_mem _ (List.mem_append_left _ (List.mem_append_left _ (List.mem_append_right _ (h))))
  have hinX5 : ∀ w ∈ u_ws RX5 TX5 14, w ∈ wsX10_canDo := fun _ h => List.mem_cons_of_mem _ (List.mem_append_left _ (List.mem_append_right _ (h)))
  refine lv_aload_n hx hb dX10_canDo_0 rfl (lv_at hl 0 rfl) ?_
  refine lv_aload_n hx hb dX10_canDo_1 rfl (lv_at hl 0 rfl) ?_
  refine tk_getA hC hK hw hT hinX10 kC_at158 (by decide) rfl 0 (by decide) (List.mem_of_getElem? (i := 1) rfl) rfl rfl dX10_canDo_2 ?_
  refine tk_getO hC hK hw hT hinX5 kC_at38 (by decide) rfl 3 (by decide) (List.mem_of_getElem? (i := 2) rfl) rfl rfl dX10_canDo_5 ?_
  refine lv_iload_n hx hb dX10_canDo_8 rfl (lv_at hl 1 rfl) ?_
  refine tk_iald hC hK hw hT kC_at50 rfl rfl (show 0 ≤ a1.toInt by omega) (show a1.toInt < 6 by omega) dX10_canDo_9 (fun x1 c2 rx1 tx1 => ?_)
  refine tk_Vi hC hK hw hT hA hE hSR kC_at158 (by decide) rfl (k_X10_cornersFrom_1 l adK adV dC dI cy ad B (by omega) (by omega) qr s1   x1 (show 0 ≤ x1.toInt by omega) (show x1.toInt ≤ 9 by omega) w0 s.heap.size hT ) (cwV 1 hC.2.2.2.2 gX10_canDo_X10_cornersFrom rfl rfl rfl (by decide +kernel) ⟨Nat.le_of_ble_eq_true rfl, Nat.le_of_ble_eq_true rfl⟩) rfl hl.1 rfl (Nat.le_of_ble_eq_true rfl) dX10_canDo_10 (fun r3 w5 H locs hp4 hw => ?_)
  obtain ⟨hT, k6, hg9⟩ := hp4
  have hF := hF.tr k6 (by decide)
  obtain ⟨g7, g8⟩ := hg9
  refine lv_aload_n hx hb dX10_canDo_13 rfl (lv_at hl 0 rfl) ?_
  refine tk_getA hC hK hw hT hinX10 kC_at158 (by decide) rfl 0 (by decide) (List.mem_of_getElem? (i := 1) rfl) rfl rfl dX10_canDo_14 ?_
  refine tk_getO hC hK hw hT hinX5 kC_at38 (by decide) rfl 4 (by decide) (List.mem_of_getElem? (i := 3) rfl) rfl rfl dX10_canDo_17 ?_
  refine lv_iload_n hx hb dX10_canDo_20 rfl (lv_at hl 1 rfl) ?_
  refine tk_iald hC hK hw hT kC_at51 rfl rfl (show 0 ≤ a1.toInt by omega) (show a1.toInt < 6 by omega) dX10_canDo_21 (fun x10 c11 rx10 tx10 => ?_)
  refine lv_ishr hx hb dX10_canDo_22 ?_
  refine lv_topi (fun x12 ex12 => ?_)
  have bx12 : 0 ≤ x12.toInt ∧ x12.toInt ≤ r3.toInt := by rw [ex12]; exact wk_shr (by omega)
  refine lv_iconst (v := 1) hx hb dX10_canDo_23 (by decide) ?_
  refine lv_iand hx hb dX10_canDo_24 ?_
  refine lv_topi (fun x13 ex13 => ?_)
  have bx13 : 0 ≤ x13.toInt ∧ x13.toInt ≤ (1 : Int) := by rw [ex13]; exact wk_and (by decide)
  refine lv_if_eq (tgt := 32) hx hb dX10_canDo_25 (by decide) (fun c14 => ?_) (fun c14 => ?_)
  · have c14 : x13.toInt = (0 : Int) := wk_eq.mp c14
    refine lv_iconst (v := 0) hx hb dX10_canDo_32 (by decide) ?_
    exact tk_zret hC hr rfl hlocks hK ⟨hT, hF, (Or.inl rfl)⟩ hw dX10_canDo_33
  · have c14 : ¬ x13.toInt = (0 : Int) := wk_eqF c14
    refine lv_iconst (v := 1) hx hb dX10_canDo_28 (by decide) ?_
    refine lv_goto (tgt := 33) hx hb dX10_canDo_29 (by decide) ?_
    exact tk_zret hC hr rfl hlocks hK ⟨hT, hF, (Or.inr rfl)⟩ hw dX10_canDo_33
abbrev P_X10_findClash_1 (ad : Nat → Nat) (cy : Nat → ClassId) (B : Int) (qr : Nat) (s1 : Int)  (w0 : va_W) : Int32 → va_W → Prop := fun r u => TW ksC ad cy B qr s1 u ∧ FE ksC [(51, 0, 10)] w0 u ∧ ((0 ≤ r.toInt ∧ r.toInt ≤ 127))
set_option maxHeartbeats 4000000 in
set_option maxRecDepth 100000 in
theorem k_X10_findClash_1 (l : Launch) (adK adV : Nat → Nat) (dC : Nat → ClassId) (dI : Nat → Nat → Nat) (cy : Nat → ClassId) (ad : Nat → Nat) (B : Int) (hB0 : 2147483648 ≤ B) (hB1 : B ≤ 1152921504606846976) (qr : Nat) (s1 : Int)   (w0 : va_W) (sz : Nat) (hT : TW ksC ad cy B qr s1 w0)  : Met l yX10_findClash wsX10_findClash ({ frames := 3, cells := 0, slots := 0, locals := 65 }) (va_Pc [.ref (ad 158)] (wpreS adK adV dC dI cy sz w0)) (va_Qi (P_X10_findClash_1 ad cy B qr s1  w0) (fun u : va_W => wpost dC dI cy (va_A w0 sz) u) (va_A w0 sz)) 0 0 (va_A w0 sz) := by
  refine Met.ofW (cc := cX10_findClash) (maxL := 4) (ret := (some .int)) (by decide) rfl ?_
  intro p e s m args below meth c s₁ Bk hml hv
  obtain ⟨rfl, ⟨hsz, hP, hK, hD0⟩, hE, hSR⟩ := hv
  have hx := Bk.exec
  have hb := Bk.bytes
  have hr := Bk.returns
  have hlocks := Bk.notSynchronized
  have hC : CallFix p m c cX10_findClash 4 s _ wsX10_findClash RX10 := ⟨hx, hb, hml, findClass_of_methodNamed Bk.named, atoms_spec (ws := wsX10_findClash) Bk.pre⟩
  subst hsz
  have hD := hD0.self (sz := s.heap.size)
  generalize hAe : va_A w0 s.heap.size = A at hD hE ⊢
  have hA : ∀ q : Nat, s.heap.size ≤ q → A q := fun q h => by rw [← hAe]; exact Or.inr h
  have hw : Wd dC dI A s.heap s.heap [] w0 := ⟨hP, hD, va_S.rf⟩
  have hF : FE ksC [(51, 0, 10)] w0 w0 := FE.rf
  have hl := lv_entry ([.ref (ad 158)]) (n := 4) (Nat.le_of_ble_eq_true rfl)
  rw [lg_entry_eq]
  generalize (lg_sl ([.ref (ad 158)]) ++ List.replicate (4 - (lg_sl ([.ref (ad 158)])).length) Slot.unset).toArray = ls at hl ⊢
  have hl : lv_has ls 4 [(0, .ref (ad 158))] := hl
  generalize hloc : ([] : List Loc) = locs at hw ⊢
  have hinX10 : ∀ w ∈ u_ws RX10 TX10 5, w ∈ wsX10_findClash := fun _ h => List.mem_cons_of_mem _ (List.mem_append_left _ (List.mem_append_left _ (List.mem_append_right _ (h))))
  have hinX5 : ∀ w ∈ u_ws RX5 TX5 14, w ∈ wsX10_findClash := fun _ h => List.mem_cons_of_mem _ (List.mem_append_left _ (List.mem_append_right _ (h)))
  have L45 : ∀ (n45 : Nat) (v45_1 : Int32) (v45_2 : Int32) (f45_158_4 : Int32) (f45_38_10 : Int32) (H : Heap) (locs : List Loc) (ls : Array Slot) (w1 : va_W), 0 ≤ v45_1.toInt → v45_1.toInt ≤ 127 → 0 ≤ v45_2.toInt → v45_2.toInt ≤ 12 → 0 ≤ f45_158_4.toInt → f45_158_4.toInt ≤ 12 → 0 ≤ f45_38_10.toInt → f45_38_10.toInt ≤ 6 → (12 - v45_2.toInt).toNat < n45 → Wd dC dI A s.heap H locs w1 → TW ksC ad cy B qr s1 w1 → FE ksC [(51, 0, 10)] w0 w1 → gi w1 158 4 = f45_158_4 → gi w1 38 10 = f45_38_10 → lv_has ls 4 [(0, .ref (ad 158)), (1, .int v45_1), (2, .int v45_2)] → W p l e ({ frames := 3, cells := 0, slots := 0, locals := 65 }) s m (List.toArray [.ref (ad 158)]) below meth c H locs 0 0 (MQ below (va_Qi (P_X10_findClash_1 ad cy B qr s1  w0) (fun u : va_W => wpost dC dI cy A u) A) (List.toArray [.ref (ad 158)]) s 0 0 A) (F0 m 45 ls []) := by
    intro n45
    induction n45 with
    | zero => intro v45_1 v45_2 f45_158_4 f45_38_10 H locs ls w1 r2 t3 r4 t5 r6 t7 r9 t10 hm45 hw hT hF c8 c11 hl; omega
    | succ n45 ih45 =>
      intro v45_1 v45_2 f45_158_4 f45_38_10 H locs ls w1 r2 t3 r4 t5 r6 t7 r9 t10 hm45 hw hT hF c8 c11 hl
      have J74 : ∀ (v74_1 : Int32) (v74_3 : Int32) (H : Heap) (locs : List Loc) (ls : Array Slot) (w12 : va_W), 0 ≤ v74_1.toInt → v74_1.toInt ≤ 127 → 0 ≤ v45_2.toInt → v45_2.toInt ≤ 11 → 0 ≤ v74_3.toInt → v74_3.toInt ≤ 127 → 1 ≤ f45_158_4.toInt → f45_158_4.toInt ≤ 12 → 0 ≤ f45_38_10.toInt → f45_38_10.toInt ≤ 6 → Wd dC dI A s.heap H locs w12 → TW ksC ad cy B qr s1 w12 → FE ksC [(51, 0, 10)] w0 w12 → gi w12 158 4 = f45_158_4 → gi w12 38 10 = f45_38_10 → lv_has ls 4 [(0, .ref (ad 158)), (1, .int v74_1), (2, .int v45_2), (3, .int v74_3)] → W p l e ({ frames := 3, cells := 0, slots := 0, locals := 65 }) s m (List.toArray [.ref (ad 158)]) below meth c H locs 0 0 (MQ below (va_Qi (P_X10_findClash_1 ad cy B qr s1  w0) (fun u : va_W => wpost dC dI cy A u) A) (List.toArray [.ref (ad 158)]) s 0 0 A) (F0 m 74 ls []) := by
        intro v74_1 v74_3 H locs ls w12 r13 t14 r15 t16 r17 t18 r19 t20 r22 t23 hw hT hF c21 c24 hl
        obtain ⟨x25, ex25⟩ : ∃ y : Int32, y = v45_2 + Int32.ofInt 1 := ⟨_, rfl⟩
        refine lv_iinc (v := x25) (lv' := [(2, .int x25), (0, .ref (ad 158)), (1, .int v74_1), (3, .int v74_3)]) hx hb dX10_findClash_74 hl (k := 2) rfl ex25.symm (by decide) rfl (fun ls hl => ?_)
        have ex25 : x25.toInt = v45_2.toInt + 1 := by rw [ex25]; exact wk_add (y := 1) (show -2147483648 ≤ v45_2.toInt + 1 by omega) (show v45_2.toInt + 1 ≤ 2147483647 by omega)
        refine lv_goto (tgt := 45) hx hb dX10_findClash_77 (by decide) ?_
        exact ih45 v74_1 x25 f45_158_4 f45_38_10 H locs ls w12 (show 0 ≤ v74_1.toInt by omega) (show v74_1.toInt ≤ 127 by omega) (show 0 ≤ x25.toInt by omega) (show x25.toInt ≤ 12 by omega) (show 0 ≤ f45_158_4.toInt by omega) (show f45_158_4.toInt ≤ 12 by omega) (show 0 ≤ f45_38_10.toInt by omega) (show f45_38_10.toInt ≤ 6 by omega) (show (12 - x25.toInt).toNat < n45 by omega) hw hT hF c21 c24 (lv_sub hl [1, 2, 0] rfl)
      have J72 : ∀ (v72_3 : Int32) (H : Heap) (locs : List Loc) (ls : Array Slot) (w26 : va_W), 0 ≤ v45_1.toInt → v45_1.toInt ≤ 127 → 0 ≤ v45_2.toInt → v45_2.toInt ≤ 11 → 1 ≤ v72_3.toInt → v72_3.toInt ≤ 127 → 1 ≤ f45_158_4.toInt → f45_158_4.toInt ≤ 12 → 0 ≤ f45_38_10.toInt → f45_38_10.toInt ≤ 6 → Wd dC dI A s.heap H locs w26 → TW ksC ad cy B qr s1 w26 → FE ksC [(51, 0, 10)] w0 w26 → gi w26 158 4 = f45_158_4 → gi w26 38 10 = f45_38_10 → lv_has ls 4 [(0, .ref (ad 158)), (1, .int v45_1), (2, .int v45_2), (3, .int v72_3)] → W p l e ({ frames := 3, cells := 0, slots := 0, locals := 65 }) s m (List.toArray [.ref (ad 158)]) below meth c H locs 0 0 (MQ below (va_Qi (P_X10_findClash_1 ad cy B qr s1  w0) (fun u : va_W => wpost dC dI cy A u) A) (List.toArray [.ref (ad 158)]) s 0 0 A) (F0 m 72 ls []) := by
        intro v72_3 H locs ls w26 r27 t28 r29 t30 r31 t32 r33 t34 r36 t37 hw hT hF c35 c38 hl
        refine lv_iload_n hx hb dX10_findClash_72 rfl (lv_at hl 3 rfl) ?_
        refine lv_istore_n (lv' := [(1, .int v72_3), (0, .ref (ad 158)), (2, .int v45_2), (3, .int v72_3)]) hx hb dX10_findClash_73 rfl hl (by decide) rfl (fun ls hl => ?_)
        exact J74 v72_3 v72_3 H locs ls w26 (show 0 ≤ v72_3.toInt by omega) (show v72_3.toInt ≤ 127 by omega) (show 0 ≤ v45_2.toInt by omega) (show v45_2.toInt ≤ 11 by omega) (show 0 ≤ v72_3.toInt by omega) (show v72_3.toInt ≤ 127 by omega) (show 1 ≤ f45_158_4.toInt by omega) (show f45_158_4.toInt ≤ 12 by omega) (show 0 ≤ f45_38_10.toInt by omega) (show f45_38_10.toInt ≤ 6 by omega)  hw hT hF c35 c38 (lv_sub hl [1, 0, 2, 3] rfl)
      refine lv_iload_n hx hb dX10_findClash_45 rfl (lv_at hl 2 rfl) ?_
      refine lv_aload_n hx hb dX10_findClash_46 rfl (lv_at hl 0 rfl) ?_
      refine tk_geti hC hK hw hT hinX10 kC_at158 (by decide) rfl 4 (by decide) (List.mem_of_getElem? (i := 1) rfl) rfl rfl dX10_findClash_47 (fun x39 c40 rx39 tx39 => ?_)
      refine wk_top f45_158_4 (c40.symm.trans c8) ?_
      refine lv_icmp_ge (tgt := 80) hx hb dX10_findClash_50 (by decide) (fun c41 => ?_) (fun c41 => ?_)
      · have c41 : f45_158_4.toInt ≤ v45_2.toInt := wk_le.mp c41
        refine lv_iload_n hx hb dX10_findClash_80 rfl (lv_at hl 1 rfl) ?_
        exact tk_iret hC hr hlocks hK ⟨hT, hF, ⟨(show 0 ≤ v45_1.toInt by omega), (show v45_1.toInt ≤ 127 by omega)⟩⟩ hw dX10_findClash_81
      · have c41 : v45_2.toInt < f45_158_4.toInt := wk_leF c41
        refine lv_aload_n hx hb dX10_findClash_53 rfl (lv_at hl 0 rfl) ?_
        refine lv_iload_n hx hb dX10_findClash_54 rfl (lv_at hl 2 rfl) ?_
        refine tk_Vi hC hK hw hT hA hE hSR kC_at158 (by decide) rfl (k_X10_oddsOver_1 l adK adV dC dI cy ad B (by omega) (by omega) qr s1   v45_2 (show 0 ≤ v45_2.toInt by omega) (show v45_2.toInt ≤ 11 by omega) w1 H.size hT ) (cwV 1 hC.2.2.2.2 gX10_findClash_X10_oddsOver rfl rfl rfl (by decide +kernel) ⟨Nat.le_of_ble_eq_true rfl, Nat.le_of_ble_eq_true rfl⟩) rfl hl.1 rfl (Nat.le_of_ble_eq_true rfl) dX10_findClash_55 (fun r42 w44 H locs hp43 hw => ?_)
        obtain ⟨hT, k45, hg48⟩ := hp43
        have hF := hF.tr k45 (by decide)
        have c49 := k45.gi kC_at158 (by decide) c8
        have c50 := k45.gi kC_at38 (by decide) c11
        obtain ⟨g46, g47⟩ := hg48
        refine lv_istore_n (lv' := [(3, .int r42), (0, .ref (ad 158)), (1, .int v45_1), (2, .int v45_2)]) hx hb dX10_findClash_58 rfl hl (by decide) rfl (fun ls hl => ?_)
        refine lv_iload_n hx hb dX10_findClash_59 rfl (lv_at hl 0 rfl) ?_
        refine lv_if_eq (tgt := 74) hx hb dX10_findClash_60 (by decide) (fun c51 => ?_) (fun c51 => ?_)
        · have c51 : r42.toInt = (0 : Int) := wk_eq.mp c51
          exact J74 v45_1 r42 H locs ls w44 (show 0 ≤ v45_1.toInt by omega) (show v45_1.toInt ≤ 127 by omega) (show 0 ≤ v45_2.toInt by omega) (show v45_2.toInt ≤ 11 by omega) (show 0 ≤ r42.toInt by omega) (show r42.toInt ≤ 127 by omega) (show 1 ≤ f45_158_4.toInt by omega) (show f45_158_4.toInt ≤ 12 by omega) (show 0 ≤ f45_38_10.toInt by omega) (show f45_38_10.toInt ≤ 6 by omega)  hw hT hF c49 c50 (lv_sub hl [1, 2, 3, 0] rfl)
        · have c51 : ¬ r42.toInt = (0 : Int) := wk_eqF c51
          refine lv_iload_n hx hb dX10_findClash_63 rfl (lv_at hl 2 rfl) ?_
          refine lv_if_eq (tgt := 72) hx hb dX10_findClash_64 (by decide) (fun c52 => ?_) (fun c52 => ?_)
          · have c52 : v45_1.toInt = (0 : Int) := wk_eq.mp c52
            exact J72 r42 H locs ls w44 (show 0 ≤ v45_1.toInt by omega) (show v45_1.toInt ≤ 127 by omega) (show 0 ≤ v45_2.toInt by omega) (show v45_2.toInt ≤ 11 by omega) (show 1 ≤ r42.toInt by omega) (show r42.toInt ≤ 127 by omega) (show 1 ≤ f45_158_4.toInt by omega) (show f45_158_4.toInt ≤ 12 by omega) (show 0 ≤ f45_38_10.toInt by omega) (show f45_38_10.toInt ≤ 6 by omega)  hw hT hF c49 c50 (lv_sub hl [1, 2, 3, 0] rfl)
          · have c52 : ¬ v45_1.toInt = (0 : Int) := wk_eqF c52
            refine lv_iload_n hx hb dX10_findClash_67 rfl (lv_at hl 0 rfl) ?_
            refine lv_iload_n hx hb dX10_findClash_68 rfl (lv_at hl 2 rfl) ?_
            refine lv_icmp_ge (tgt := 74) hx hb dX10_findClash_69 (by decide) (fun c53 => ?_) (fun c53 => ?_)
            · have c53 : v45_1.toInt ≤ r42.toInt := wk_le.mp c53
              exact J74 v45_1 r42 H locs ls w44 (show 0 ≤ v45_1.toInt by omega) (show v45_1.toInt ≤ 127 by omega) (show 0 ≤ v45_2.toInt by omega) (show v45_2.toInt ≤ 11 by omega) (show 0 ≤ r42.toInt by omega) (show r42.toInt ≤ 127 by omega) (show 1 ≤ f45_158_4.toInt by omega) (show f45_158_4.toInt ≤ 12 by omega) (show 0 ≤ f45_38_10.toInt by omega) (show f45_38_10.toInt ≤ 6 by omega)  hw hT hF c49 c50 (lv_sub hl [1, 2, 3, 0] rfl)
            · have c53 : r42.toInt < v45_1.toInt := wk_leF c53
              exact J72 r42 H locs ls w44 (show 0 ≤ v45_1.toInt by omega) (show v45_1.toInt ≤ 127 by omega) (show 0 ≤ v45_2.toInt by omega) (show v45_2.toInt ≤ 11 by omega) (show 1 ≤ r42.toInt by omega) (show r42.toInt ≤ 127 by omega) (show 1 ≤ f45_158_4.toInt by omega) (show f45_158_4.toInt ≤ 12 by omega) (show 0 ≤ f45_38_10.toInt by omega) (show f45_38_10.toInt ≤ 6 by omega)  hw hT hF c49 c50 (lv_sub hl [1, 2, 3, 0] rfl)
  have L12 : ∀ (n12 : Nat) (v12_1 : Int32) (f12_158_4 : Int32) (H : Heap) (locs : List Loc) (ls : Array Slot) (w54 : va_W), 0 ≤ v12_1.toInt → v12_1.toInt ≤ 6 → 0 ≤ f12_158_4.toInt → f12_158_4.toInt ≤ 12 → (6 - v12_1.toInt).toNat < n12 → Wd dC dI A s.heap H locs w54 → TW ksC ad cy B qr s1 w54 → FE ksC [(51, 0, 10)] w0 w54 → gi w54 158 4 = f12_158_4 → lv_has ls 4 [(0, .ref (ad 158)), (1, .int v12_1)] → W p l e ({ frames := 3, cells := 0, slots := 0, locals := 65 }) s m (List.toArray [.ref (ad 158)]) below meth c H locs 0 0 (MQ below (va_Qi (P_X10_findClash_1 ad cy B qr s1  w0) (fun u : va_W => wpost dC dI cy A u) A) (List.toArray [.ref (ad 158)]) s 0 0 A) (F0 m 12 ls []) := by
    intro n12
    induction n12 with
    | zero => intro v12_1 f12_158_4 H locs ls w54 r55 t56 r57 t58 hm12 hw hT hF c59 hl; omega
    | succ n12 ih12 =>
      intro v12_1 f12_158_4 H locs ls w54 r55 t56 r57 t58 hm12 hw hT hF c59 hl
      refine lv_iload_n hx hb dX10_findClash_12 rfl (lv_at hl 1 rfl) ?_
      refine lv_aload_n hx hb dX10_findClash_13 rfl (lv_at hl 0 rfl) ?_
      refine tk_getA hC hK hw hT hinX10 kC_at158 (by decide) rfl 0 (by decide) (List.mem_of_getElem? (i := 2) rfl) rfl rfl dX10_findClash_14 ?_
      refine tk_geti hC hK hw hT hinX5 kC_at38 (by decide) rfl 10 (by decide) (List.mem_of_getElem? (i := 3) rfl) rfl rfl dX10_findClash_17 (fun x60 c61 rx60 tx60 => ?_)
      refine lv_icmp_ge (tgt := 41) hx hb dX10_findClash_20 (by decide) (fun c62 => ?_) (fun c62 => ?_)
      · have c62 : x60.toInt ≤ v12_1.toInt := wk_le.mp c62
        refine lv_iconst (v := 0) hx hb dX10_findClash_41 (by decide) ?_
        refine lv_istore_n (lv' := [(1, .int 0), (0, .ref (ad 158))]) hx hb dX10_findClash_42 rfl hl (by decide) rfl (fun ls hl => ?_)
        refine lv_iconst (v := 0) hx hb dX10_findClash_43 (by decide) ?_
        refine lv_istore_n (lv' := [(2, .int 0), (1, .int 0), (0, .ref (ad 158))]) hx hb dX10_findClash_44 rfl hl (by decide) rfl (fun ls hl => ?_)
        exact L45 ((12 - (0 : Int)).toNat + 1) 0 0 f12_158_4 x60 H locs ls w54 (by decide) (by decide) (by decide) (by decide) (show 0 ≤ f12_158_4.toInt by omega) (show f12_158_4.toInt ≤ 12 by omega) (show 0 ≤ x60.toInt by omega) (show x60.toInt ≤ 6 by omega) (Nat.lt_succ_self _) hw hT hF c59 c61 (lv_sub hl [2, 1, 0] rfl)
      · have c62 : v12_1.toInt < x60.toInt := wk_leF c62
        refine lv_aload_n hx hb dX10_findClash_23 rfl (lv_at hl 0 rfl) ?_
        refine lv_iload_n hx hb dX10_findClash_24 rfl (lv_at hl 1 rfl) ?_
        refine tk_Vi hC hK hw hT hA hE hSR kC_at158 (by decide) rfl (k_X10_canDo_1 l adK adV dC dI cy ad B (by omega) (by omega) qr s1   v12_1 (show 0 ≤ v12_1.toInt by omega) (show v12_1.toInt ≤ 5 by omega) w54 H.size hT ) (cwV 1 hC.2.2.2.2 gX10_findClash_X10_canDo rfl rfl rfl (by decide +kernel) ⟨Nat.le_of_ble_eq_true rfl, Nat.le_of_ble_eq_true rfl⟩) rfl hl.1 rfl (Nat.le_of_ble_eq_true rfl) dX10_findClash_25 (fun r63 w65 H locs hp64 hw => ?_)
        obtain ⟨hT, k66, hg67⟩ := hp64
        have hF := hF.tr k66 (by decide)
        have c68 := k66.gi kC_at158 (by decide) c59
        have c69 := k66.gi kC_at38 (by decide) c61
        rcases hg67 with rfl | rfl
        · refine lv_if_ne (tgt := 35) hx hb dX10_findClash_28 (by decide) (fun c => absurd (by decide) c) (fun _ => ?_)
          refine lv_iconst (v := 1) hx hb dX10_findClash_31 (by decide) ?_
          refine lv_iload_n hx hb dX10_findClash_32 rfl (lv_at hl 1 rfl) ?_
          refine lv_ishl hx hb dX10_findClash_33 ?_
          refine lv_topi (fun x70 ex70 => ?_)
          have bx70 : 1 ≤ x70.toInt ∧ x70.toInt ≤ 32 := by rw [ex70]; exact wk_shl1 5 (by decide) (by omega) (by omega)
          exact tk_iret hC hr hlocks hK ⟨hT, hF, ⟨(show 0 ≤ x70.toInt by omega), (show x70.toInt ≤ 127 by omega)⟩⟩ hw dX10_findClash_34
        · refine lv_if_ne (tgt := 35) hx hb dX10_findClash_28 (by decide) (fun _ => ?_) (fun c => absurd c (by decide))
          obtain ⟨x71, ex71⟩ : ∃ y : Int32, y = v12_1 + Int32.ofInt 1 := ⟨_, rfl⟩
          refine lv_iinc (v := x71) (lv' := [(1, .int x71), (0, .ref (ad 158))]) hx hb dX10_findClash_35 hl (k := 1) rfl ex71.symm (by decide) rfl (fun ls hl => ?_)
          have ex71 : x71.toInt = v12_1.toInt + 1 := by rw [ex71]; exact wk_add (y := 1) (show -2147483648 ≤ v12_1.toInt + 1 by omega) (show v12_1.toInt + 1 ≤ 2147483647 by omega)
          refine lv_goto (tgt := 12) hx hb dX10_findClash_38 (by decide) ?_
          exact ih12 x71 f12_158_4 H locs ls w65 (show 0 ≤ x71.toInt by omega) (show x71.toInt ≤ 6 by omega) (show 0 ≤ f12_158_4.toInt by omega) (show f12_158_4.toInt ≤ 12 by omega) (show (6 - x71.toInt).toNat < n12 by omega) hw hT hF c68 (lv_sub hl [1, 0] rfl)
  refine lv_aload_n hx hb dX10_findClash_0 rfl (lv_at hl 0 rfl) ?_
  refine lv_aload_n hx hb dX10_findClash_1 rfl (lv_at hl 0 rfl) ?_
  refine tk_geti hC hK hw hT hinX10 kC_at158 (by decide) rfl 4 (by decide) (List.mem_of_getElem? (i := 1) rfl) rfl rfl dX10_findClash_2 (fun x72 c73 rx72 tx72 => ?_)
  refine lv_iconst (v := 0) hx hb dX10_findClash_5 (by decide) ?_
  refine lv_iconst (v := (-1)) hx hb dX10_findClash_6 (by decide) ?_
  refine tk_Vv hC hK hw hT hA hE hSR kC_at158 (by decide) rfl (k_X10_layRoads_1 l adK adV dC dI cy ad B (by omega) (by omega) qr s1   x72 (show 0 ≤ x72.toInt by omega) (show x72.toInt ≤ 12 by omega) 0 (by decide) (by decide) ((-1)) (by decide) (by decide) w0 s.heap.size hT ) (cwV 3 hC.2.2.2.2 gX10_findClash_X10_layRoads rfl rfl rfl (by decide +kernel) ⟨Nat.le_of_ble_eq_true rfl, Nat.le_of_ble_eq_true rfl⟩) rfl hl.1 rfl (Nat.le_of_ble_eq_true rfl) dX10_findClash_7 (fun w76 H locs hp75 hw => ?_)
  obtain ⟨hT, k77, hg78⟩ := hp75
  have hF := hF.tr k77 (by decide)
  have c79 := k77.gi kC_at158 (by decide) c73
  clear hg78
  refine lv_iconst (v := 0) hx hb dX10_findClash_10 (by decide) ?_
  refine lv_istore_n (lv' := [(1, .int 0), (0, .ref (ad 158))]) hx hb dX10_findClash_11 rfl hl (by decide) rfl (fun ls hl => ?_)
  exact L12 ((6 - (0 : Int)).toNat + 1) 0 x72 H locs ls w76 (by decide) (by decide) (show 0 ≤ x72.toInt by omega) (show x72.toInt ≤ 12 by omega) (Nat.lt_succ_self _) hw hT hF c79 (lv_sub hl [1, 0] rfl)
abbrev P_X10_leastBelow_13 (ad : Nat → Nat) (cy : Nat → ClassId) (B : Int) (qr : Nat) (s1 : Int) (a2 : Int32) (w0 : va_W) : Int32 → va_W → Prop := fun r u => TW ksC ad cy B qr s1 u ∧ FE ksC [(51, 0, 10)] w0 u ∧ ((0 ≤ r.toInt ∧ r.toInt ≤ 8191) ∨ (r = (-1) ∧ (∃ y : Int32, gi u 38 10 = y ∧ 1 ≤ y.toInt ∧ y.toInt ≤ 6)))
set_option maxHeartbeats 4000000 in
set_option maxRecDepth 100000 in
theorem k_X10_leastBelow_13 (l : Launch) (adK adV : Nat → Nat) (dC : Nat → ClassId) (dI : Nat → Nat → Nat) (cy : Nat → ClassId) (ad : Nat → Nat) (B : Int) (hB0 : 2147483648 ≤ B) (hB1 : B ≤ 1152921504606846976) (qr : Nat) (s1 : Int)  (a2 : Int32) (ra2 : 0 ≤ a2.toInt) (ta2 : a2.toInt ≤ 8191) (w0 : va_W) (sz : Nat) (hT : TW ksC ad cy B qr s1 w0)  : Met l yX10_leastBelow wsX10_leastBelow ({ frames := 3, cells := 0, slots := 0, locals := 59 }) (va_Pc [.ref (ad 158), .int 0, .int a2] (wpreS adK adV dC dI cy sz w0)) (va_Qi (P_X10_leastBelow_13 ad cy B qr s1 a2 w0) (fun u : va_W => wpost dC dI cy (va_A w0 sz) u) (va_A w0 sz)) 0 0 (va_A w0 sz) := by
  refine Met.ofW (cc := cX10_leastBelow) (maxL := 4) (ret := (some .int)) (by decide) rfl ?_
  intro p e s m args below meth c s₁ Bk hml hv
  obtain ⟨rfl, ⟨hsz, hP, hK, hD0⟩, hE, hSR⟩ := hv
  have hx := Bk.exec
  have hb := Bk.bytes
  have hr := Bk.returns
  have hlocks := Bk.notSynchronized
  have hC : CallFix p m c cX10_leastBelow 4 s _ wsX10_leastBelow RX10 := ⟨hx, hb, hml, findClass_of_methodNamed Bk.named, atoms_spec (ws := wsX10_leastBelow) Bk.pre⟩
  subst hsz
  have hD := hD0.self (sz := s.heap.size)
  generalize hAe : va_A w0 s.heap.size = A at hD hE ⊢
  have hA : ∀ q : Nat, s.heap.size ≤ q → A q := fun q h => by rw [← hAe]; exact Or.inr h
  have hw : Wd dC dI A s.heap s.heap [] w0 := ⟨hP, hD, va_S.rf⟩
  have hF : FE ksC [(51, 0, 10)] w0 w0 := FE.rf
  have hl := lv_entry ([.ref (ad 158), .int 0, .int a2]) (n := 4) (Nat.le_of_ble_eq_true rfl)
  rw [lg_entry_eq]
  generalize (lg_sl ([.ref (ad 158), .int 0, .int a2]) ++ List.replicate (4 - (lg_sl ([.ref (ad 158), .int 0, .int a2])).length) Slot.unset).toArray = ls at hl ⊢
  have hl : lv_has ls 4 [(0, .ref (ad 158)), (1, .int 0), (2, .int a2)] := hl
  generalize hloc : ([] : List Loc) = locs at hw ⊢
  have hinX10 : ∀ w ∈ u_ws RX10 TX10 5, w ∈ wsX10_leastBelow := fun _ h => List.mem_cons_of_mem _ (List.mem_append_left _ (List.mem_append_left _ (List.mem_append_right _ (h))))
  have hinX5 : ∀ w ∈ u_ws RX5 TX5 14, w ∈ wsX10_leastBelow := fun _ h => List.mem_cons_of_mem _ (List.mem_append_left _ (List.mem_append_right _ (h)))
  have L9 : ∀ (n9 : Nat) (v9_3 : Int32) (H : Heap) (locs : List Loc) (ls : Array Slot) (w1 : va_W), 0 ≤ a2.toInt → a2.toInt ≤ 8191 → 0 ≤ v9_3.toInt → v9_3.toInt ≤ 6 → (6 - v9_3.toInt).toNat < n9 → Wd dC dI A s.heap H locs w1 → TW ksC ad cy B qr s1 w1 → FE ksC [(51, 0, 10)] w0 w1 → lv_has ls 4 [(0, .ref (ad 158)), (1, .int 0), (2, .int a2), (3, .int v9_3)] → W p l e ({ frames := 3, cells := 0, slots := 0, locals := 59 }) s m (List.toArray [.ref (ad 158), .int 0, .int a2]) below meth c H locs 0 0 (MQ below (va_Qi (P_X10_leastBelow_13 ad cy B qr s1 a2 w0) (fun u : va_W => wpost dC dI cy A u) A) (List.toArray [.ref (ad 158), .int 0, .int a2]) s 0 0 A) (F0 m 9 ls []) := by
    intro n9
    induction n9 with
    | zero => intro v9_3 H locs ls w1 r2 t3 r4 t5 hm9 hw hT hF hl; omega
    | succ n9 ih9 =>
      intro v9_3 H locs ls w1 r2 t3 r4 t5 hm9 hw hT hF hl
      refine lv_iload_n hx hb dX10_leastBelow_9 rfl (lv_at hl 3 rfl) ?_
      refine lv_aload_n hx hb dX10_leastBelow_10 rfl (lv_at hl 0 rfl) ?_
      refine tk_getA hC hK hw hT hinX10 kC_at158 (by decide) rfl 0 (by decide) (List.mem_of_getElem? (i := 1) rfl) rfl rfl dX10_leastBelow_11 ?_
      refine tk_geti hC hK hw hT hinX5 kC_at38 (by decide) rfl 10 (by decide) (List.mem_of_getElem? (i := 2) rfl) rfl rfl dX10_leastBelow_14 (fun x6 c7 rx6 tx6 => ?_)
      refine lv_icmp_ge (tgt := 36) hx hb dX10_leastBelow_17 (by decide) (fun c8 => ?_) (fun c8 => ?_)
      · have c8 : x6.toInt ≤ v9_3.toInt := wk_le.mp c8
        refine lv_iload_n hx hb dX10_leastBelow_36 rfl (lv_at hl 1 rfl) ?_
        refine lv_if_gt (tgt := 42) hx hb dX10_leastBelow_37 (by decide) (fun c => absurd c (by decide)) (fun _ => ?_)
        refine lv_iload_n hx hb dX10_leastBelow_40 rfl (lv_at hl 2 rfl) ?_
        exact tk_iret hC hr hlocks hK ⟨hT, hF, (Or.inl ⟨(show 0 ≤ a2.toInt by omega), (show a2.toInt ≤ 8191 by omega)⟩)⟩ hw dX10_leastBelow_41
      · have c8 : v9_3.toInt < x6.toInt := wk_leF c8
        refine lv_aload_n hx hb dX10_leastBelow_20 rfl (lv_at hl 0 rfl) ?_
        refine lv_iload_n hx hb dX10_leastBelow_21 rfl (lv_at hl 3 rfl) ?_
        refine tk_Vi hC hK hw hT hA hE hSR kC_at158 (by decide) rfl (k_X10_canDo_1 l adK adV dC dI cy ad B (by omega) (by omega) qr s1   v9_3 (show 0 ≤ v9_3.toInt by omega) (show v9_3.toInt ≤ 5 by omega) w1 H.size hT ) (cwV 1 hC.2.2.2.2 gX10_leastBelow_X10_canDo rfl rfl rfl (by decide +kernel) ⟨Nat.le_of_ble_eq_true rfl, Nat.le_of_ble_eq_true rfl⟩) rfl hl.1 rfl (Nat.le_of_ble_eq_true rfl) dX10_leastBelow_22 (fun r9 w11 H locs hp10 hw => ?_)
        obtain ⟨hT, k12, hg13⟩ := hp10
        have hF := hF.tr k12 (by decide)
        have c14 := k12.gi kC_at38 (by decide) c7
        rcases hg13 with rfl | rfl
        · refine lv_if_ne (tgt := 30) hx hb dX10_leastBelow_25 (by decide) (fun c => absurd (by decide) c) (fun _ => ?_)
          refine lv_iconst (v := (-1)) hx hb dX10_leastBelow_28 (by decide) ?_
          exact tk_iret hC hr hlocks hK ⟨hT, hF, (Or.inr ⟨rfl, ⟨x6, c14, (show 1 ≤ x6.toInt by omega), (show x6.toInt ≤ 6 by omega)⟩⟩)⟩ hw dX10_leastBelow_29
        · refine lv_if_ne (tgt := 30) hx hb dX10_leastBelow_25 (by decide) (fun _ => ?_) (fun c => absurd c (by decide))
          obtain ⟨x15, ex15⟩ : ∃ y : Int32, y = v9_3 + Int32.ofInt 1 := ⟨_, rfl⟩
          refine lv_iinc (v := x15) (lv' := [(3, .int x15), (0, .ref (ad 158)), (1, .int 0), (2, .int a2)]) hx hb dX10_leastBelow_30 hl (k := 3) rfl ex15.symm (by decide) rfl (fun ls hl => ?_)
          have ex15 : x15.toInt = v9_3.toInt + 1 := by rw [ex15]; exact wk_add (y := 1) (show -2147483648 ≤ v9_3.toInt + 1 by omega) (show v9_3.toInt + 1 ≤ 2147483647 by omega)
          refine lv_goto (tgt := 9) hx hb dX10_leastBelow_33 (by decide) ?_
          exact ih9 x15 H locs ls w11 (show 0 ≤ a2.toInt by omega) (show a2.toInt ≤ 8191 by omega) (show 0 ≤ x15.toInt by omega) (show x15.toInt ≤ 6 by omega) (show (6 - x15.toInt).toNat < n9 by omega) hw hT hF  (lv_sub hl [1, 2, 3, 0] rfl)
  refine lv_aload_n hx hb dX10_leastBelow_0 rfl (lv_at hl 0 rfl) ?_
  refine lv_iload_n hx hb dX10_leastBelow_1 rfl (lv_at hl 1 rfl) ?_
  refine lv_iload_n hx hb dX10_leastBelow_2 rfl (lv_at hl 2 rfl) ?_
  refine lv_iconst (v := (-1)) hx hb dX10_leastBelow_3 (by decide) ?_
  refine tk_Vv hC hK hw hT hA hE hSR kC_at158 (by decide) rfl (k_X10_layRoads_1 l adK adV dC dI cy ad B (by omega) (by omega) qr s1   0 (by decide) (by decide) a2 (show 0 ≤ a2.toInt by omega) (show a2.toInt ≤ 8191 by omega) ((-1)) (by decide) (by decide) w0 s.heap.size hT ) (cwV 3 hC.2.2.2.2 gX10_leastBelow_X10_layRoads rfl rfl rfl (by decide +kernel) ⟨Nat.le_of_ble_eq_true rfl, Nat.le_of_ble_eq_true rfl⟩) rfl hl.1 rfl (Nat.le_of_ble_eq_true rfl) dX10_leastBelow_4 (fun w18 H locs hp17 hw => ?_)
  obtain ⟨hT, k19, hg20⟩ := hp17
  have hF := hF.tr k19 (by decide)
  clear hg20
  refine lv_iconst (v := 0) hx hb dX10_leastBelow_7 (by decide) ?_
  refine lv_istore_n (lv' := [(3, .int 0), (0, .ref (ad 158)), (1, .int 0), (2, .int a2)]) hx hb dX10_leastBelow_8 rfl hl (by decide) rfl (fun ls hl => ?_)
  exact L9 ((6 - (0 : Int)).toNat + 1) 0 H locs ls w18 (show 0 ≤ a2.toInt by omega) (show a2.toInt ≤ 8191 by omega) (by decide) (by decide) (Nat.lt_succ_self _) hw hT hF  (lv_sub hl [1, 2, 3, 0] rfl)
abbrev P_X10_leastBelow_12 (ad : Nat → Nat) (cy : Nat → ClassId) (B : Int) (qr : Nat) (s1 : Int) (a1 : Int32) (a2 : Int32) (w0 : va_W) : Int32 → va_W → Prop := fun r u => TW ksC ad cy B qr s1 u ∧ FE ksC [(51, 0, 10)] w0 u ∧ ((0 ≤ r.toInt ∧ r.toInt ≤ 8191) ∨ (r = (-1) ∧ (∃ y : Int32, gi u 38 10 = y ∧ 1 ≤ y.toInt ∧ y.toInt ≤ 6)))
set_option maxHeartbeats 4000000 in
set_option maxRecDepth 100000 in
theorem k_X10_leastBelow_12 (l : Launch) (adK adV : Nat → Nat) (dC : Nat → ClassId) (dI : Nat → Nat → Nat) (cy : Nat → ClassId) (ad : Nat → Nat) (B : Int) (hB0 : 2147483648 ≤ B) (hB1 : B ≤ 1152921504606846976) (qr : Nat) (s1 : Int)  (a1 : Int32) (ra1 : 0 ≤ a1.toInt) (ta1 : a1.toInt ≤ 1) (a2 : Int32) (ra2 : 0 ≤ a2.toInt) (ta2 : a2.toInt ≤ 8191) (w0 : va_W) (sz : Nat) (hT : TW ksC ad cy B qr s1 w0)  : Met l yX10_leastBelow wsX10_leastBelow ({ frames := 4, cells := 0, slots := 0, locals := 82 }) (va_Pc [.ref (ad 158), .int a1, .int a2] (wpreS adK adV dC dI cy sz w0)) (va_Qi (P_X10_leastBelow_12 ad cy B qr s1 a1 a2 w0) (fun u : va_W => wpost dC dI cy (va_A w0 sz) u) (va_A w0 sz)) 0 0 (va_A w0 sz) := by
  refine Met.ofW (cc := cX10_leastBelow) (maxL := 4) (ret := (some .int)) (by decide) rfl ?_
  intro p e s m args below meth c s₁ Bk hml hv
  obtain ⟨rfl, ⟨hsz, hP, hK, hD0⟩, hE, hSR⟩ := hv
  have hx := Bk.exec
  have hb := Bk.bytes
  have hr := Bk.returns
  have hlocks := Bk.notSynchronized
  have hC : CallFix p m c cX10_leastBelow 4 s _ wsX10_leastBelow RX10 := ⟨hx, hb, hml, findClass_of_methodNamed Bk.named, atoms_spec (ws := wsX10_leastBelow) Bk.pre⟩
  subst hsz
  have hD := hD0.self (sz := s.heap.size)
  generalize hAe : va_A w0 s.heap.size = A at hD hE ⊢
  have hA : ∀ q : Nat, s.heap.size ≤ q → A q := fun q h => by rw [← hAe]; exact Or.inr h
  have hw : Wd dC dI A s.heap s.heap [] w0 := ⟨hP, hD, va_S.rf⟩
  have hF : FE ksC [(51, 0, 10)] w0 w0 := FE.rf
  have hl := lv_entry ([.ref (ad 158), .int a1, .int a2]) (n := 4) (Nat.le_of_ble_eq_true rfl)
  rw [lg_entry_eq]
  generalize (lg_sl ([.ref (ad 158), .int a1, .int a2]) ++ List.replicate (4 - (lg_sl ([.ref (ad 158), .int a1, .int a2])).length) Slot.unset).toArray = ls at hl ⊢
  have hl : lv_has ls 4 [(0, .ref (ad 158)), (1, .int a1), (2, .int a2)] := hl
  generalize hloc : ([] : List Loc) = locs at hw ⊢
  have hinX10 : ∀ w ∈ u_ws RX10 TX10 5, w ∈ wsX10_leastBelow := fun _ h => List.mem_cons_of_mem _ (List.mem_append_left _ (List.mem_append_left _ (List.mem_append_right _ (h))))
  have hinX5 : ∀ w ∈ u_ws RX5 TX5 14, w ∈ wsX10_leastBelow := fun _ h => List.mem_cons_of_mem _ (List.mem_append_left _ (List.mem_append_right _ (h)))
  have L9 : ∀ (n9 : Nat) (v9_3 : Int32) (H : Heap) (locs : List Loc) (ls : Array Slot) (w1 : va_W), 0 ≤ a1.toInt → a1.toInt ≤ 1 → 0 ≤ a2.toInt → a2.toInt ≤ 8191 → 0 ≤ v9_3.toInt → v9_3.toInt ≤ 6 → (6 - v9_3.toInt).toNat < n9 → Wd dC dI A s.heap H locs w1 → TW ksC ad cy B qr s1 w1 → FE ksC [(51, 0, 10)] w0 w1 → lv_has ls 4 [(0, .ref (ad 158)), (1, .int a1), (2, .int a2), (3, .int v9_3)] → W p l e ({ frames := 4, cells := 0, slots := 0, locals := 82 }) s m (List.toArray [.ref (ad 158), .int a1, .int a2]) below meth c H locs 0 0 (MQ below (va_Qi (P_X10_leastBelow_12 ad cy B qr s1 a1 a2 w0) (fun u : va_W => wpost dC dI cy A u) A) (List.toArray [.ref (ad 158), .int a1, .int a2]) s 0 0 A) (F0 m 9 ls []) := by
    intro n9
    induction n9 with
    | zero => intro v9_3 H locs ls w1 r2 t3 r4 t5 r6 t7 hm9 hw hT hF hl; omega
    | succ n9 ih9 =>
      intro v9_3 H locs ls w1 r2 t3 r4 t5 r6 t7 hm9 hw hT hF hl
      refine lv_iload_n hx hb dX10_leastBelow_9 rfl (lv_at hl 3 rfl) ?_
      refine lv_aload_n hx hb dX10_leastBelow_10 rfl (lv_at hl 0 rfl) ?_
      refine tk_getA hC hK hw hT hinX10 kC_at158 (by decide) rfl 0 (by decide) (List.mem_of_getElem? (i := 1) rfl) rfl rfl dX10_leastBelow_11 ?_
      refine tk_geti hC hK hw hT hinX5 kC_at38 (by decide) rfl 10 (by decide) (List.mem_of_getElem? (i := 2) rfl) rfl rfl dX10_leastBelow_14 (fun x8 c9 rx8 tx8 => ?_)
      refine lv_icmp_ge (tgt := 36) hx hb dX10_leastBelow_17 (by decide) (fun c10 => ?_) (fun c10 => ?_)
      · have c10 : x8.toInt ≤ v9_3.toInt := wk_le.mp c10
        refine lv_iload_n hx hb dX10_leastBelow_36 rfl (lv_at hl 1 rfl) ?_
        refine lv_if_gt (tgt := 42) hx hb dX10_leastBelow_37 (by decide) (fun c11 => ?_) (fun c11 => ?_)
        · have c11 : (0 : Int) < a1.toInt := wk_lt.mp c11
          refine lv_aload_n hx hb dX10_leastBelow_42 rfl (lv_at hl 0 rfl) ?_
          refine lv_iload_n hx hb dX10_leastBelow_43 rfl (lv_at hl 1 rfl) ?_
          refine lv_iconst (v := 1) hx hb dX10_leastBelow_44 (by decide) ?_
          refine lv_isub hx hb dX10_leastBelow_45 ?_
          refine lv_topi (fun x12 ex12 => ?_)
          have ex12 : x12.toInt = a1.toInt - (1 : Int) := by rw [ex12]; exact wk_sub (show (-2147483648) ≤ a1.toInt - (1 : Int) by omega) (show a1.toInt - (1 : Int) ≤ 2147483647 by omega)
          refine lv_iload_n hx hb dX10_leastBelow_46 rfl (lv_at hl 2 rfl) ?_
          obtain rfl : x12 = 0 := wk_eq.mpr (show x12.toInt = 0 by omega)
          refine tk_Vi hC hK hw hT hA hE hSR kC_at158 (by decide) rfl (k_X10_leastBelow_13 l adK adV dC dI cy ad B (by omega) (by omega) qr s1   a2 (show 0 ≤ a2.toInt by omega) (show a2.toInt ≤ 8191 by omega) w1 H.size hT ) (cwV 2 hC.2.2.2.2 gX10_leastBelow_X10_leastBelow rfl rfl rfl (by decide +kernel) ⟨Nat.le_of_ble_eq_true rfl, Nat.le_of_ble_eq_true rfl⟩) rfl hl.1 rfl (Nat.le_of_ble_eq_true rfl) dX10_leastBelow_47 (fun r13 w15 H locs hp14 hw => ?_)
          obtain ⟨hT, k16, hg21⟩ := hp14
          have hF := hF.tr k16 (by decide)
          have c22 := k16.gi kC_at38 (by decide) c9
          rcases hg21 with ⟨g17, g18⟩ | ⟨rfl, ⟨x19, c20, rx19, tx19⟩⟩
          · refine lv_istore_n (lv' := [(3, .int r13), (0, .ref (ad 158)), (1, .int a1), (2, .int a2)]) hx hb dX10_leastBelow_50 rfl hl (by decide) rfl (fun ls hl => ?_)
            refine lv_iload_n hx hb dX10_leastBelow_51 rfl (lv_at hl 0 rfl) ?_
            refine lv_iconst (v := (-1)) hx hb dX10_leastBelow_52 (by decide) ?_
            refine lv_icmp_eq (tgt := 60) hx hb dX10_leastBelow_53 (by decide) (fun c => absurd c (fun h => absurd (show r13.toInt = (-1 : Int) from wk_eq.mp h) (by omega))) (fun _ => ?_)
            refine lv_iload_n hx hb dX10_leastBelow_56 rfl (lv_at hl 0 rfl) ?_
            refine lv_goto (tgt := 74) hx hb dX10_leastBelow_57 (by decide) ?_
            exact tk_iret hC hr hlocks hK ⟨hT, hF, (Or.inl ⟨(show 0 ≤ r13.toInt by omega), (show r13.toInt ≤ 8191 by omega)⟩)⟩ hw dX10_leastBelow_74
          · have ex19 : x19.toInt = x8.toInt := by rw [← c22.symm.trans c20]
            refine lv_istore_n (lv' := [(3, .int (-1)), (0, .ref (ad 158)), (1, .int a1), (2, .int a2)]) hx hb dX10_leastBelow_50 rfl hl (by decide) rfl (fun ls hl => ?_)
            refine lv_iload_n hx hb dX10_leastBelow_51 rfl (lv_at hl 0 rfl) ?_
            refine lv_iconst (v := (-1)) hx hb dX10_leastBelow_52 (by decide) ?_
            refine lv_icmp_eq (tgt := 60) hx hb dX10_leastBelow_53 (by decide) (fun _ => ?_) (fun c => absurd (by decide) c)
            refine lv_aload_n hx hb dX10_leastBelow_60 rfl (lv_at hl 1 rfl) ?_
            refine lv_iload_n hx hb dX10_leastBelow_61 rfl (lv_at hl 2 rfl) ?_
            refine lv_iconst (v := 1) hx hb dX10_leastBelow_62 (by decide) ?_
            refine lv_isub hx hb dX10_leastBelow_63 ?_
            refine lv_topi (fun x23 ex23 => ?_)
            have ex23 : x23.toInt = a1.toInt - (1 : Int) := by rw [ex23]; exact wk_sub (show (-2147483648) ≤ a1.toInt - (1 : Int) by omega) (show a1.toInt - (1 : Int) ≤ 2147483647 by omega)
            refine lv_iload_n hx hb dX10_leastBelow_64 rfl (lv_at hl 3 rfl) ?_
            refine lv_iconst (v := 1) hx hb dX10_leastBelow_65 (by decide) ?_
            refine lv_iload_n hx hb dX10_leastBelow_66 rfl (lv_at hl 2 rfl) ?_
            refine lv_iconst (v := 1) hx hb dX10_leastBelow_67 (by decide) ?_
            refine lv_isub hx hb dX10_leastBelow_68 ?_
            refine lv_topi (fun x24 ex24 => ?_)
            have ex24 : x24.toInt = a1.toInt - (1 : Int) := by rw [ex24]; exact wk_sub (show (-2147483648) ≤ a1.toInt - (1 : Int) by omega) (show a1.toInt - (1 : Int) ≤ 2147483647 by omega)
            refine lv_ishl hx hb dX10_leastBelow_69 ?_
            refine lv_topi (fun x25 ex25 => ?_)
            have bx25 : 1 ≤ x25.toInt ∧ x25.toInt ≤ 1 := by rw [ex25]; exact wk_shl1 0 (by decide) (by omega) (by omega)
            refine lv_ior hx hb dX10_leastBelow_70 ?_
            refine lv_topi (fun x26 ex26 => ?_)
            have bx26 : 0 ≤ x26.toInt ∧ x26.toInt < 8192 := by rw [ex26]; exact wk_or 13 (by decide) (by omega) (by omega) (by omega) (by omega)
            have mx26 : a2.toInt ≤ x26.toInt ∧ x25.toInt ≤ x26.toInt := by rw [ex26]; exact wk_orL 13 (by decide) (by omega) (by omega) (by omega) (by omega)
            obtain rfl : x23 = 0 := wk_eq.mpr (show x23.toInt = 0 by omega)
            refine tk_Vi hC hK hw hT hA hE hSR kC_at158 (by decide) rfl (k_X10_leastBelow_13 l adK adV dC dI cy ad B (by omega) (by omega) qr s1   x26 (show 0 ≤ x26.toInt by omega) (show x26.toInt ≤ 8191 by omega) w15 H.size hT ) (cwV 2 hC.2.2.2.2 gX10_leastBelow_X10_leastBelow rfl rfl rfl (by decide +kernel) ⟨Nat.le_of_ble_eq_true rfl, Nat.le_of_ble_eq_true rfl⟩) rfl hl.1 rfl (Nat.le_of_ble_eq_true rfl) dX10_leastBelow_71 (fun r27 w29 H locs hp28 hw => ?_)
            obtain ⟨hT, k30, hg35⟩ := hp28
            have hF := hF.tr k30 (by decide)
            have c36 := k30.gi kC_at38 (by decide) c22
            rcases hg35 with ⟨g31, g32⟩ | ⟨rfl, ⟨x33, c34, rx33, tx33⟩⟩
            · exact tk_iret hC hr hlocks hK ⟨hT, hF, (Or.inl ⟨(show 0 ≤ r27.toInt by omega), (show r27.toInt ≤ 8191 by omega)⟩)⟩ hw dX10_leastBelow_74
            · have ex33 : x33.toInt = x8.toInt := by rw [← c36.symm.trans c34]
              exact tk_iret hC hr hlocks hK ⟨hT, hF, (Or.inr ⟨rfl, ⟨x8, c36, (show 1 ≤ x8.toInt by omega), (show x8.toInt ≤ 6 by omega)⟩⟩)⟩ hw dX10_leastBelow_74
        · have c11 : a1.toInt ≤ (0 : Int) := wk_ltF c11
          refine lv_iload_n hx hb dX10_leastBelow_40 rfl (lv_at hl 2 rfl) ?_
          exact tk_iret hC hr hlocks hK ⟨hT, hF, (Or.inl ⟨(show 0 ≤ a2.toInt by omega), (show a2.toInt ≤ 8191 by omega)⟩)⟩ hw dX10_leastBelow_41
      · have c10 : v9_3.toInt < x8.toInt := wk_leF c10
        refine lv_aload_n hx hb dX10_leastBelow_20 rfl (lv_at hl 0 rfl) ?_
        refine lv_iload_n hx hb dX10_leastBelow_21 rfl (lv_at hl 3 rfl) ?_
        refine tk_Vi hC hK hw hT hA hE hSR kC_at158 (by decide) rfl (k_X10_canDo_1 l adK adV dC dI cy ad B (by omega) (by omega) qr s1   v9_3 (show 0 ≤ v9_3.toInt by omega) (show v9_3.toInt ≤ 5 by omega) w1 H.size hT ) (cwV 1 hC.2.2.2.2 gX10_leastBelow_X10_canDo rfl rfl rfl (by decide +kernel) ⟨Nat.le_of_ble_eq_true rfl, Nat.le_of_ble_eq_true rfl⟩) rfl hl.1 rfl (Nat.le_of_ble_eq_true rfl) dX10_leastBelow_22 (fun r37 w39 H locs hp38 hw => ?_)
        obtain ⟨hT, k40, hg41⟩ := hp38
        have hF := hF.tr k40 (by decide)
        have c42 := k40.gi kC_at38 (by decide) c9
        rcases hg41 with rfl | rfl
        · refine lv_if_ne (tgt := 30) hx hb dX10_leastBelow_25 (by decide) (fun c => absurd (by decide) c) (fun _ => ?_)
          refine lv_iconst (v := (-1)) hx hb dX10_leastBelow_28 (by decide) ?_
          exact tk_iret hC hr hlocks hK ⟨hT, hF, (Or.inr ⟨rfl, ⟨x8, c42, (show 1 ≤ x8.toInt by omega), (show x8.toInt ≤ 6 by omega)⟩⟩)⟩ hw dX10_leastBelow_29
        · refine lv_if_ne (tgt := 30) hx hb dX10_leastBelow_25 (by decide) (fun _ => ?_) (fun c => absurd c (by decide))
          obtain ⟨x43, ex43⟩ : ∃ y : Int32, y = v9_3 + Int32.ofInt 1 := ⟨_, rfl⟩
          refine lv_iinc (v := x43) (lv' := [(3, .int x43), (0, .ref (ad 158)), (1, .int a1), (2, .int a2)]) hx hb dX10_leastBelow_30 hl (k := 3) rfl ex43.symm (by decide) rfl (fun ls hl => ?_)
          have ex43 : x43.toInt = v9_3.toInt + 1 := by rw [ex43]; exact wk_add (y := 1) (show -2147483648 ≤ v9_3.toInt + 1 by omega) (show v9_3.toInt + 1 ≤ 2147483647 by omega)
          refine lv_goto (tgt := 9) hx hb dX10_leastBelow_33 (by decide) ?_
          exact ih9 x43 H locs ls w39 (show 0 ≤ a1.toInt by omega) (show a1.toInt ≤ 1 by omega) (show 0 ≤ a2.toInt by omega) (show a2.toInt ≤ 8191 by omega) (show 0 ≤ x43.toInt by omega) (show x43.toInt ≤ 6 by omega) (show (6 - x43.toInt).toNat < n9 by omega) hw hT hF  (lv_sub hl [1, 2, 3, 0] rfl)
  refine lv_aload_n hx hb dX10_leastBelow_0 rfl (lv_at hl 0 rfl) ?_
  refine lv_iload_n hx hb dX10_leastBelow_1 rfl (lv_at hl 1 rfl) ?_
  refine lv_iload_n hx hb dX10_leastBelow_2 rfl (lv_at hl 2 rfl) ?_
  refine lv_iconst (v := (-1)) hx hb dX10_leastBelow_3 (by decide) ?_
  refine tk_Vv hC hK hw hT hA hE hSR kC_at158 (by decide) rfl (k_X10_layRoads_1 l adK adV dC dI cy ad B (by omega) (by omega) qr s1   a1 (show 0 ≤ a1.toInt by omega) (show a1.toInt ≤ 12 by omega) a2 (show 0 ≤ a2.toInt by omega) (show a2.toInt ≤ 8191 by omega) ((-1)) (by decide) (by decide) w0 s.heap.size hT ) (cwV 3 hC.2.2.2.2 gX10_leastBelow_X10_layRoads rfl rfl rfl (by decide +kernel) ⟨Nat.le_of_ble_eq_true rfl, Nat.le_of_ble_eq_true rfl⟩) rfl hl.1 rfl (Nat.le_of_ble_eq_true rfl) dX10_leastBelow_4 (fun w46 H locs hp45 hw => ?_)
  obtain ⟨hT, k47, hg48⟩ := hp45
  have hF := hF.tr k47 (by decide)
  clear hg48
  refine lv_iconst (v := 0) hx hb dX10_leastBelow_7 (by decide) ?_
  refine lv_istore_n (lv' := [(3, .int 0), (0, .ref (ad 158)), (1, .int a1), (2, .int a2)]) hx hb dX10_leastBelow_8 rfl hl (by decide) rfl (fun ls hl => ?_)
  exact L9 ((6 - (0 : Int)).toNat + 1) 0 H locs ls w46 (show 0 ≤ a1.toInt by omega) (show a1.toInt ≤ 1 by omega) (show 0 ≤ a2.toInt by omega) (show a2.toInt ≤ 8191 by omega) (by decide) (by decide) (Nat.lt_succ_self _) hw hT hF  (lv_sub hl [1, 2, 3, 0] rfl)
abbrev P_X10_leastBelow_11 (ad : Nat → Nat) (cy : Nat → ClassId) (B : Int) (qr : Nat) (s1 : Int) (a1 : Int32) (a2 : Int32) (w0 : va_W) : Int32 → va_W → Prop := fun r u => TW ksC ad cy B qr s1 u ∧ FE ksC [(51, 0, 10)] w0 u ∧ ((0 ≤ r.toInt ∧ r.toInt ≤ 8191) ∨ (r = (-1) ∧ (∃ y : Int32, gi u 38 10 = y ∧ 1 ≤ y.toInt ∧ y.toInt ≤ 6)))
set_option maxHeartbeats 4000000 in
set_option maxRecDepth 100000 in
theorem k_X10_leastBelow_11 (l : Launch) (adK adV : Nat → Nat) (dC : Nat → ClassId) (dI : Nat → Nat → Nat) (cy : Nat → ClassId) (ad : Nat → Nat) (B : Int) (hB0 : 2147483648 ≤ B) (hB1 : B ≤ 1152921504606846976) (qr : Nat) (s1 : Int)  (a1 : Int32) (ra1 : 0 ≤ a1.toInt) (ta1 : a1.toInt ≤ 2) (a2 : Int32) (ra2 : 0 ≤ a2.toInt) (ta2 : a2.toInt ≤ 8191) (w0 : va_W) (sz : Nat) (hT : TW ksC ad cy B qr s1 w0)  : Met l yX10_leastBelow wsX10_leastBelow ({ frames := 5, cells := 0, slots := 0, locals := 105 }) (va_Pc [.ref (ad 158), .int a1, .int a2] (wpreS adK adV dC dI cy sz w0)) (va_Qi (P_X10_leastBelow_11 ad cy B qr s1 a1 a2 w0) (fun u : va_W => wpost dC dI cy (va_A w0 sz) u) (va_A w0 sz)) 0 0 (va_A w0 sz) := by
  refine Met.ofW (cc := cX10_leastBelow) (maxL := 4) (ret := (some .int)) (by decide) rfl ?_
  intro p e s m args below meth c s₁ Bk hml hv
  obtain ⟨rfl, ⟨hsz, hP, hK, hD0⟩, hE, hSR⟩ := hv
  have hx := Bk.exec
  have hb := Bk.bytes
  have hr := Bk.returns
  have hlocks := Bk.notSynchronized
  have hC : CallFix p m c cX10_leastBelow 4 s _ wsX10_leastBelow RX10 := ⟨hx, hb, hml, findClass_of_methodNamed Bk.named, atoms_spec (ws := wsX10_leastBelow) Bk.pre⟩
  subst hsz
  have hD := hD0.self (sz := s.heap.size)
  generalize hAe : va_A w0 s.heap.size = A at hD hE ⊢
  have hA : ∀ q : Nat, s.heap.size ≤ q → A q := fun q h => by rw [← hAe]; exact Or.inr h
  have hw : Wd dC dI A s.heap s.heap [] w0 := ⟨hP, hD, va_S.rf⟩
  have hF : FE ksC [(51, 0, 10)] w0 w0 := FE.rf
  have hl := lv_entry ([.ref (ad 158), .int a1, .int a2]) (n := 4) (Nat.le_of_ble_eq_true rfl)
  rw [lg_entry_eq]
  generalize (lg_sl ([.ref (ad 158), .int a1, .int a2]) ++ List.replicate (4 - (lg_sl ([.ref (ad 158), .int a1, .int a2])).length) Slot.unset).toArray = ls at hl ⊢
  have hl : lv_has ls 4 [(0, .ref (ad 158)), (1, .int a1), (2, .int a2)] := hl
  generalize hloc : ([] : List Loc) = locs at hw ⊢
  have hinX10 : ∀ w ∈ u_ws RX10 TX10 5, w ∈ wsX10_leastBelow := fun _ h => List.mem_cons_of_mem _ (List.mem_append_left _ (List.mem_append_left _ (List.mem_append_right _ (h))))
  have hinX5 : ∀ w ∈ u_ws RX5 TX5 14, w ∈ wsX10_leastBelow := fun _ h => List.mem_cons_of_mem _ (List.mem_append_left _ (List.mem_append_right _ (h)))
  have L9 : ∀ (n9 : Nat) (v9_3 : Int32) (H : Heap) (locs : List Loc) (ls : Array Slot) (w1 : va_W), 0 ≤ a1.toInt → a1.toInt ≤ 2 → 0 ≤ a2.toInt → a2.toInt ≤ 8191 → 0 ≤ v9_3.toInt → v9_3.toInt ≤ 6 → (6 - v9_3.toInt).toNat < n9 → Wd dC dI A s.heap H locs w1 → TW ksC ad cy B qr s1 w1 → FE ksC [(51, 0, 10)] w0 w1 → lv_has ls 4 [(0, .ref (ad 158)), (1, .int a1), (2, .int a2), (3, .int v9_3)] → W p l e ({ frames := 5, cells := 0, slots := 0, locals := 105 }) s m (List.toArray [.ref (ad 158), .int a1, .int a2]) below meth c H locs 0 0 (MQ below (va_Qi (P_X10_leastBelow_11 ad cy B qr s1 a1 a2 w0) (fun u : va_W => wpost dC dI cy A u) A) (List.toArray [.ref (ad 158), .int a1, .int a2]) s 0 0 A) (F0 m 9 ls []) := by
    intro n9
    induction n9 with
    | zero => intro v9_3 H locs ls w1 r2 t3 r4 t5 r6 t7 hm9 hw hT hF hl; omega
    | succ n9 ih9 =>
      intro v9_3 H locs ls w1 r2 t3 r4 t5 r6 t7 hm9 hw hT hF hl
      refine lv_iload_n hx hb dX10_leastBelow_9 rfl (lv_at hl 3 rfl) ?_
      refine lv_aload_n hx hb dX10_leastBelow_10 rfl (lv_at hl 0 rfl) ?_
      refine tk_getA hC hK hw hT hinX10 kC_at158 (by decide) rfl 0 (by decide) (List.mem_of_getElem? (i := 1) rfl) rfl rfl dX10_leastBelow_11 ?_
      refine tk_geti hC hK hw hT hinX5 kC_at38 (by decide) rfl 10 (by decide) (List.mem_of_getElem? (i := 2) rfl) rfl rfl dX10_leastBelow_14 (fun x8 c9 rx8 tx8 => ?_)
      refine lv_icmp_ge (tgt := 36) hx hb dX10_leastBelow_17 (by decide) (fun c10 => ?_) (fun c10 => ?_)
      · have c10 : x8.toInt ≤ v9_3.toInt := wk_le.mp c10
        refine lv_iload_n hx hb dX10_leastBelow_36 rfl (lv_at hl 1 rfl) ?_
        refine lv_if_gt (tgt := 42) hx hb dX10_leastBelow_37 (by decide) (fun c11 => ?_) (fun c11 => ?_)
        · have c11 : (0 : Int) < a1.toInt := wk_lt.mp c11
          refine lv_aload_n hx hb dX10_leastBelow_42 rfl (lv_at hl 0 rfl) ?_
          refine lv_iload_n hx hb dX10_leastBelow_43 rfl (lv_at hl 1 rfl) ?_
          refine lv_iconst (v := 1) hx hb dX10_leastBelow_44 (by decide) ?_
          refine lv_isub hx hb dX10_leastBelow_45 ?_
          refine lv_topi (fun x12 ex12 => ?_)
          have ex12 : x12.toInt = a1.toInt - (1 : Int) := by rw [ex12]; exact wk_sub (show (-2147483648) ≤ a1.toInt - (1 : Int) by omega) (show a1.toInt - (1 : Int) ≤ 2147483647 by omega)
          refine lv_iload_n hx hb dX10_leastBelow_46 rfl (lv_at hl 2 rfl) ?_
          refine tk_Vi hC hK hw hT hA hE hSR kC_at158 (by decide) rfl (k_X10_leastBelow_12 l adK adV dC dI cy ad B (by omega) (by omega) qr s1   x12 (show 0 ≤ x12.toInt by omega) (show x12.toInt ≤ 1 by omega) a2 (show 0 ≤ a2.toInt by omega) (show a2.toInt ≤ 8191 by omega) w1 H.size hT ) (cwV 2 hC.2.2.2.2 gX10_leastBelow_X10_leastBelow rfl rfl rfl (by decide +kernel) ⟨Nat.le_of_ble_eq_true rfl, Nat.le_of_ble_eq_true rfl⟩) rfl hl.1 rfl (Nat.le_of_ble_eq_true rfl) dX10_leastBelow_47 (fun r13 w15 H locs hp14 hw => ?_)
          obtain ⟨hT, k16, hg21⟩ := hp14
          have hF := hF.tr k16 (by decide)
          have c22 := k16.gi kC_at38 (by decide) c9
          rcases hg21 with ⟨g17, g18⟩ | ⟨rfl, ⟨x19, c20, rx19, tx19⟩⟩
          · refine lv_istore_n (lv' := [(3, .int r13), (0, .ref (ad 158)), (1, .int a1), (2, .int a2)]) hx hb dX10_leastBelow_50 rfl hl (by decide) rfl (fun ls hl => ?_)
            refine lv_iload_n hx hb dX10_leastBelow_51 rfl (lv_at hl 0 rfl) ?_
            refine lv_iconst (v := (-1)) hx hb dX10_leastBelow_52 (by decide) ?_
            refine lv_icmp_eq (tgt := 60) hx hb dX10_leastBelow_53 (by decide) (fun c => absurd c (fun h => absurd (show r13.toInt = (-1 : Int) from wk_eq.mp h) (by omega))) (fun _ => ?_)
            refine lv_iload_n hx hb dX10_leastBelow_56 rfl (lv_at hl 0 rfl) ?_
            refine lv_goto (tgt := 74) hx hb dX10_leastBelow_57 (by decide) ?_
            exact tk_iret hC hr hlocks hK ⟨hT, hF, (Or.inl ⟨(show 0 ≤ r13.toInt by omega), (show r13.toInt ≤ 8191 by omega)⟩)⟩ hw dX10_leastBelow_74
          · have ex19 : x19.toInt = x8.toInt := by rw [← c22.symm.trans c20]
            refine lv_istore_n (lv' := [(3, .int (-1)), (0, .ref (ad 158)), (1, .int a1), (2, .int a2)]) hx hb dX10_leastBelow_50 rfl hl (by decide) rfl (fun ls hl => ?_)
            refine lv_iload_n hx hb dX10_leastBelow_51 rfl (lv_at hl 0 rfl) ?_
            refine lv_iconst (v := (-1)) hx hb dX10_leastBelow_52 (by decide) ?_
            refine lv_icmp_eq (tgt := 60) hx hb dX10_leastBelow_53 (by decide) (fun _ => ?_) (fun c => absurd (by decide) c)
            refine lv_aload_n hx hb dX10_leastBelow_60 rfl (lv_at hl 1 rfl) ?_
            refine lv_iload_n hx hb dX10_leastBelow_61 rfl (lv_at hl 2 rfl) ?_
            refine lv_iconst (v := 1) hx hb dX10_leastBelow_62 (by decide) ?_
            refine lv_isub hx hb dX10_leastBelow_63 ?_
            refine lv_topi (fun x23 ex23 => ?_)
            have ex23 : x23.toInt = a1.toInt - (1 : Int) := by rw [ex23]; exact wk_sub (show (-2147483648) ≤ a1.toInt - (1 : Int) by omega) (show a1.toInt - (1 : Int) ≤ 2147483647 by omega)
            refine lv_iload_n hx hb dX10_leastBelow_64 rfl (lv_at hl 3 rfl) ?_
            refine lv_iconst (v := 1) hx hb dX10_leastBelow_65 (by decide) ?_
            refine lv_iload_n hx hb dX10_leastBelow_66 rfl (lv_at hl 2 rfl) ?_
            refine lv_iconst (v := 1) hx hb dX10_leastBelow_67 (by decide) ?_
            refine lv_isub hx hb dX10_leastBelow_68 ?_
            refine lv_topi (fun x24 ex24 => ?_)
            have ex24 : x24.toInt = a1.toInt - (1 : Int) := by rw [ex24]; exact wk_sub (show (-2147483648) ≤ a1.toInt - (1 : Int) by omega) (show a1.toInt - (1 : Int) ≤ 2147483647 by omega)
            refine lv_ishl hx hb dX10_leastBelow_69 ?_
            refine lv_topi (fun x25 ex25 => ?_)
            have bx25 : 1 ≤ x25.toInt ∧ x25.toInt ≤ 2 := by rw [ex25]; exact wk_shl1 1 (by decide) (by omega) (by omega)
            refine lv_ior hx hb dX10_leastBelow_70 ?_
            refine lv_topi (fun x26 ex26 => ?_)
            have bx26 : 0 ≤ x26.toInt ∧ x26.toInt < 8192 := by rw [ex26]; exact wk_or 13 (by decide) (by omega) (by omega) (by omega) (by omega)
            have mx26 : a2.toInt ≤ x26.toInt ∧ x25.toInt ≤ x26.toInt := by rw [ex26]; exact wk_orL 13 (by decide) (by omega) (by omega) (by omega) (by omega)
            refine tk_Vi hC hK hw hT hA hE hSR kC_at158 (by decide) rfl (k_X10_leastBelow_12 l adK adV dC dI cy ad B (by omega) (by omega) qr s1   x23 (show 0 ≤ x23.toInt by omega) (show x23.toInt ≤ 1 by omega) x26 (show 0 ≤ x26.toInt by omega) (show x26.toInt ≤ 8191 by omega) w15 H.size hT ) (cwV 2 hC.2.2.2.2 gX10_leastBelow_X10_leastBelow rfl rfl rfl (by decide +kernel) ⟨Nat.le_of_ble_eq_true rfl, Nat.le_of_ble_eq_true rfl⟩) rfl hl.1 rfl (Nat.le_of_ble_eq_true rfl) dX10_leastBelow_71 (fun r27 w29 H locs hp28 hw => ?_)
            obtain ⟨hT, k30, hg35⟩ := hp28
            have hF := hF.tr k30 (by decide)
            have c36 := k30.gi kC_at38 (by decide) c22
            rcases hg35 with ⟨g31, g32⟩ | ⟨rfl, ⟨x33, c34, rx33, tx33⟩⟩
            · exact tk_iret hC hr hlocks hK ⟨hT, hF, (Or.inl ⟨(show 0 ≤ r27.toInt by omega), (show r27.toInt ≤ 8191 by omega)⟩)⟩ hw dX10_leastBelow_74
            · have ex33 : x33.toInt = x8.toInt := by rw [← c36.symm.trans c34]
              exact tk_iret hC hr hlocks hK ⟨hT, hF, (Or.inr ⟨rfl, ⟨x8, c36, (show 1 ≤ x8.toInt by omega), (show x8.toInt ≤ 6 by omega)⟩⟩)⟩ hw dX10_leastBelow_74
        · have c11 : a1.toInt ≤ (0 : Int) := wk_ltF c11
          refine lv_iload_n hx hb dX10_leastBelow_40 rfl (lv_at hl 2 rfl) ?_
          exact tk_iret hC hr hlocks hK ⟨hT, hF, (Or.inl ⟨(show 0 ≤ a2.toInt by omega), (show a2.toInt ≤ 8191 by omega)⟩)⟩ hw dX10_leastBelow_41
      · have c10 : v9_3.toInt < x8.toInt := wk_leF c10
        refine lv_aload_n hx hb dX10_leastBelow_20 rfl (lv_at hl 0 rfl) ?_
        refine lv_iload_n hx hb dX10_leastBelow_21 rfl (lv_at hl 3 rfl) ?_
        refine tk_Vi hC hK hw hT hA hE hSR kC_at158 (by decide) rfl (k_X10_canDo_1 l adK adV dC dI cy ad B (by omega) (by omega) qr s1   v9_3 (show 0 ≤ v9_3.toInt by omega) (show v9_3.toInt ≤ 5 by omega) w1 H.size hT ) (cwV 1 hC.2.2.2.2 gX10_leastBelow_X10_canDo rfl rfl rfl (by decide +kernel) ⟨Nat.le_of_ble_eq_true rfl, Nat.le_of_ble_eq_true rfl⟩) rfl hl.1 rfl (Nat.le_of_ble_eq_true rfl) dX10_leastBelow_22 (fun r37 w39 H locs hp38 hw => ?_)
        obtain ⟨hT, k40, hg41⟩ := hp38
        have hF := hF.tr k40 (by decide)
        have c42 := k40.gi kC_at38 (by decide) c9
        rcases hg41 with rfl | rfl
        · refine lv_if_ne (tgt := 30) hx hb dX10_leastBelow_25 (by decide) (fun c => absurd (by decide) c) (fun _ => ?_)
          refine lv_iconst (v := (-1)) hx hb dX10_leastBelow_28 (by decide) ?_
          exact tk_iret hC hr hlocks hK ⟨hT, hF, (Or.inr ⟨rfl, ⟨x8, c42, (show 1 ≤ x8.toInt by omega), (show x8.toInt ≤ 6 by omega)⟩⟩)⟩ hw dX10_leastBelow_29
        · refine lv_if_ne (tgt := 30) hx hb dX10_leastBelow_25 (by decide) (fun _ => ?_) (fun c => absurd c (by decide))
          obtain ⟨x43, ex43⟩ : ∃ y : Int32, y = v9_3 + Int32.ofInt 1 := ⟨_, rfl⟩
          refine lv_iinc (v := x43) (lv' := [(3, .int x43), (0, .ref (ad 158)), (1, .int a1), (2, .int a2)]) hx hb dX10_leastBelow_30 hl (k := 3) rfl ex43.symm (by decide) rfl (fun ls hl => ?_)
          have ex43 : x43.toInt = v9_3.toInt + 1 := by rw [ex43]; exact wk_add (y := 1) (show -2147483648 ≤ v9_3.toInt + 1 by omega) (show v9_3.toInt + 1 ≤ 2147483647 by omega)
          refine lv_goto (tgt := 9) hx hb dX10_leastBelow_33 (by decide) ?_
          exact ih9 x43 H locs ls w39 (show 0 ≤ a1.toInt by omega) (show a1.toInt ≤ 2 by omega) (show 0 ≤ a2.toInt by omega) (show a2.toInt ≤ 8191 by omega) (show 0 ≤ x43.toInt by omega) (show x43.toInt ≤ 6 by omega) (show (6 - x43.toInt).toNat < n9 by omega) hw hT hF  (lv_sub hl [1, 2, 3, 0] rfl)
  refine lv_aload_n hx hb dX10_leastBelow_0 rfl (lv_at hl 0 rfl) ?_
  refine lv_iload_n hx hb dX10_leastBelow_1 rfl (lv_at hl 1 rfl) ?_
  refine lv_iload_n hx hb dX10_leastBelow_2 rfl (lv_at hl 2 rfl) ?_
  refine lv_iconst (v := (-1)) hx hb dX10_leastBelow_3 (by decide) ?_
  refine tk_Vv hC hK hw hT hA hE hSR kC_at158 (by decide) rfl (k_X10_layRoads_1 l adK adV dC dI cy ad B (by omega) (by omega) qr s1   a1 (show 0 ≤ a1.toInt by omega) (show a1.toInt ≤ 12 by omega) a2 (show 0 ≤ a2.toInt by omega) (show a2.toInt ≤ 8191 by omega) ((-1)) (by decide) (by decide) w0 s.heap.size hT ) (cwV 3 hC.2.2.2.2 gX10_leastBelow_X10_layRoads rfl rfl rfl (by decide +kernel) ⟨Nat.le_of_ble_eq_true rfl, Nat.le_of_ble_eq_true rfl⟩) rfl hl.1 rfl (Nat.le_of_ble_eq_true rfl) dX10_leastBelow_4 (fun w46 H locs hp45 hw => ?_)
  obtain ⟨hT, k47, hg48⟩ := hp45
  have hF := hF.tr k47 (by decide)
  clear hg48
  refine lv_iconst (v := 0) hx hb dX10_leastBelow_7 (by decide) ?_
  refine lv_istore_n (lv' := [(3, .int 0), (0, .ref (ad 158)), (1, .int a1), (2, .int a2)]) hx hb dX10_leastBelow_8 rfl hl (by decide) rfl (fun ls hl => ?_)
  exact L9 ((6 - (0 : Int)).toNat + 1) 0 H locs ls w46 (show 0 ≤ a1.toInt by omega) (show a1.toInt ≤ 2 by omega) (show 0 ≤ a2.toInt by omega) (show a2.toInt ≤ 8191 by omega) (by decide) (by decide) (Nat.lt_succ_self _) hw hT hF  (lv_sub hl [1, 2, 3, 0] rfl)
abbrev P_X10_leastBelow_10 (ad : Nat → Nat) (cy : Nat → ClassId) (B : Int) (qr : Nat) (s1 : Int) (a1 : Int32) (a2 : Int32) (w0 : va_W) : Int32 → va_W → Prop := fun r u => TW ksC ad cy B qr s1 u ∧ FE ksC [(51, 0, 10)] w0 u ∧ ((0 ≤ r.toInt ∧ r.toInt ≤ 8191) ∨ (r = (-1) ∧ (∃ y : Int32, gi u 38 10 = y ∧ 1 ≤ y.toInt ∧ y.toInt ≤ 6)))
set_option maxHeartbeats 4000000 in
set_option maxRecDepth 100000 in
theorem k_X10_leastBelow_10 (l : Launch) (adK adV : Nat → Nat) (dC : Nat → ClassId) (dI : Nat → Nat → Nat) (cy : Nat → ClassId) (ad : Nat → Nat) (B : Int) (hB0 : 2147483648 ≤ B) (hB1 : B ≤ 1152921504606846976) (qr : Nat) (s1 : Int)  (a1 : Int32) (ra1 : 0 ≤ a1.toInt) (ta1 : a1.toInt ≤ 3) (a2 : Int32) (ra2 : 0 ≤ a2.toInt) (ta2 : a2.toInt ≤ 8191) (w0 : va_W) (sz : Nat) (hT : TW ksC ad cy B qr s1 w0)  : Met l yX10_leastBelow wsX10_leastBelow ({ frames := 6, cells := 0, slots := 0, locals := 128 }) (va_Pc [.ref (ad 158), .int a1, .int a2] (wpreS adK adV dC dI cy sz w0)) (va_Qi (P_X10_leastBelow_10 ad cy B qr s1 a1 a2 w0) (fun u : va_W => wpost dC dI cy (va_A w0 sz) u) (va_A w0 sz)) 0 0 (va_A w0 sz) := by
  refine Met.ofW (cc := cX10_leastBelow) (maxL := 4) (ret := (some .int)) (by decide) rfl ?_
  intro p e s m args below meth c s₁ Bk hml hv
  obtain ⟨rfl, ⟨hsz, hP, hK, hD0⟩, hE, hSR⟩ := hv
  have hx := Bk.exec
  have hb := Bk.bytes
  have hr := Bk.returns
  have hlocks := Bk.notSynchronized
  have hC : CallFix p m c cX10_leastBelow 4 s _ wsX10_leastBelow RX10 := ⟨hx, hb, hml, findClass_of_methodNamed Bk.named, atoms_spec (ws := wsX10_leastBelow) Bk.pre⟩
  subst hsz
  have hD := hD0.self (sz := s.heap.size)
  generalize hAe : va_A w0 s.heap.size = A at hD hE ⊢
  have hA : ∀ q : Nat, s.heap.size ≤ q → A q := fun q h => by rw [← hAe]; exact Or.inr h
  have hw : Wd dC dI A s.heap s.heap [] w0 := ⟨hP, hD, va_S.rf⟩
  have hF : FE ksC [(51, 0, 10)] w0 w0 := FE.rf
  have hl := lv_entry ([.ref (ad 158), .int a1, .int a2]) (n := 4) (Nat.le_of_ble_eq_true rfl)
  rw [lg_entry_eq]
  generalize (lg_sl ([.ref (ad 158), .int a1, .int a2]) ++ List.replicate (4 - (lg_sl ([.ref (ad 158), .int a1, .int a2])).length) Slot.unset).toArray = ls at hl ⊢
  have hl : lv_has ls 4 [(0, .ref (ad 158)), (1, .int a1), (2, .int a2)] := hl
  generalize hloc : ([] : List Loc) = locs at hw ⊢
  have hinX10 : ∀ w ∈ u_ws RX10 TX10 5, w ∈ wsX10_leastBelow := fun _ h => List.mem_cons_of_mem _ (List.mem_append_left _ (List.mem_append_left _ (List.mem_append_right _ (h))))
  have hinX5 : ∀ w ∈ u_ws RX5 TX5 14, w ∈ wsX10_leastBelow := fun _ h => List.mem_cons_of_mem _ (List.mem_append_left _ (List.mem_append_right _ (h)))
  have L9 : ∀ (n9 : Nat) (v9_3 : Int32) (H : Heap) (locs : List Loc) (ls : Array Slot) (w1 : va_W), 0 ≤ a1.toInt → a1.toInt ≤ 3 → 0 ≤ a2.toInt → a2.toInt ≤ 8191 → 0 ≤ v9_3.toInt → v9_3.toInt ≤ 6 → (6 - v9_3.toInt).toNat < n9 → Wd dC dI A s.heap H locs w1 → TW ksC ad cy B qr s1 w1 → FE ksC [(51, 0, 10)] w0 w1 → lv_has ls 4 [(0, .ref (ad 158)), (1, .int a1), (2, .int a2), (3, .int v9_3)] → W p l e ({ frames := 6, cells := 0, slots := 0, locals := 128 }) s m (List.toArray [.ref (ad 158), .int a1, .int a2]) below meth c H locs 0 0 (MQ below (va_Qi (P_X10_leastBelow_10 ad cy B qr s1 a1 a2 w0) (fun u : va_W => wpost dC dI cy A u) A) (List.toArray [.ref (ad 158), .int a1, .int a2]) s 0 0 A) (F0 m 9 ls []) := by
    intro n9
    induction n9 with
    | zero => intro v9_3 H locs ls w1 r2 t3 r4 t5 r6 t7 hm9 hw hT hF hl; omega
    | succ n9 ih9 =>
      intro v9_3 H locs ls w1 r2 t3 r4 t5 r6 t7 hm9 hw hT hF hl
      refine lv_iload_n hx hb dX10_leastBelow_9 rfl (lv_at hl 3 rfl) ?_
      refine lv_aload_n hx hb dX10_leastBelow_10 rfl (lv_at hl 0 rfl) ?_
      refine tk_getA hC hK hw hT hinX10 kC_at158 (by decide) rfl 0 (by decide) (List.mem_of_getElem? (i := 1) rfl) rfl rfl dX10_leastBelow_11 ?_
      refine tk_geti hC hK hw hT hinX5 kC_at38 (by decide) rfl 10 (by decide) (List.mem_of_getElem? (i := 2) rfl) rfl rfl dX10_leastBelow_14 (fun x8 c9 rx8 tx8 => ?_)
      refine lv_icmp_ge (tgt := 36) hx hb dX10_leastBelow_17 (by decide) (fun c10 => ?_) (fun c10 => ?_)
      · have c10 : x8.toInt ≤ v9_3.toInt := wk_le.mp c10
        refine lv_iload_n hx hb dX10_leastBelow_36 rfl (lv_at hl 1 rfl) ?_
        refine lv_if_gt (tgt := 42) hx hb dX10_leastBelow_37 (by decide) (fun c11 => ?_) (fun c11 => ?_)
        · have c11 : (0 : Int) < a1.toInt := wk_lt.mp c11
          refine lv_aload_n hx hb dX10_leastBelow_42 rfl (lv_at hl 0 rfl) ?_
          refine lv_iload_n hx hb dX10_leastBelow_43 rfl (lv_at hl 1 rfl) ?_
          refine lv_iconst (v := 1) hx hb dX10_leastBelow_44 (by decide) ?_
          refine lv_isub hx hb dX10_leastBelow_45 ?_
          refine lv_topi (fun x12 ex12 => ?_)
          have ex12 : x12.toInt = a1.toInt - (1 : Int) := by rw [ex12]; exact wk_sub (show (-2147483648) ≤ a1.toInt - (1 : Int) by omega) (show a1.toInt - (1 : Int) ≤ 2147483647 by omega)
          refine lv_iload_n hx hb dX10_leastBelow_46 rfl (lv_at hl 2 rfl) ?_
          refine tk_Vi hC hK hw hT hA hE hSR kC_at158 (by decide) rfl (k_X10_leastBelow_11 l adK adV dC dI cy ad B (by omega) (by omega) qr s1   x12 (show 0 ≤ x12.toInt by omega) (show x12.toInt ≤ 2 by omega) a2 (show 0 ≤ a2.toInt by omega) (show a2.toInt ≤ 8191 by omega) w1 H.size hT ) (cwV 2 hC.2.2.2.2 gX10_leastBelow_X10_leastBelow rfl rfl rfl (by decide +kernel) ⟨Nat.le_of_ble_eq_true rfl, Nat.le_of_ble_eq_true rfl⟩) rfl hl.1 rfl (Nat.le_of_ble_eq_true rfl) dX10_leastBelow_47 (fun r13 w15 H locs hp14 hw => ?_)
          obtain ⟨hT, k16, hg21⟩ := hp14
          have hF := hF.tr k16 (by decide)
          have c22 := k16.gi kC_at38 (by decide) c9
          rcases hg21 with ⟨g17, g18⟩ | ⟨rfl, ⟨x19, c20, rx19, tx19⟩⟩
          · refine lv_istore_n (lv' := [(3, .int r13), (0, .ref (ad 158)), (1, .int a1), (2, .int a2)]) hx hb dX10_leastBelow_50 rfl hl (by decide) rfl (fun ls hl => ?_)
            refine lv_iload_n hx hb dX10_leastBelow_51 rfl (lv_at hl 0 rfl) ?_
            refine lv_iconst (v := (-1)) hx hb dX10_leastBelow_52 (by decide) ?_
            refine lv_icmp_eq (tgt := 60) hx hb dX10_leastBelow_53 (by decide) (fun c => absurd c (fun h => absurd (show r13.toInt = (-1 : Int) from wk_eq.mp h) (by omega))) (fun _ => ?_)
            refine lv_iload_n hx hb dX10_leastBelow_56 rfl (lv_at hl 0 rfl) ?_
            refine lv_goto (tgt := 74) hx hb dX10_leastBelow_57 (by decide) ?_
            exact tk_iret hC hr hlocks hK ⟨hT, hF, (Or.inl ⟨(show 0 ≤ r13.toInt by omega), (show r13.toInt ≤ 8191 by omega)⟩)⟩ hw dX10_leastBelow_74
          · have ex19 : x19.toInt = x8.toInt := by rw [← c22.symm.trans c20]
            refine lv_istore_n (lv' := [(3, .int (-1)), (0, .ref (ad 158)), (1, .int a1), (2, .int a2)]) hx hb dX10_leastBelow_50 rfl hl (by decide) rfl (fun ls hl => ?_)
            refine lv_iload_n hx hb dX10_leastBelow_51 rfl (lv_at hl 0 rfl) ?_
            refine lv_iconst (v := (-1)) hx hb dX10_leastBelow_52 (by decide) ?_
            refine lv_icmp_eq (tgt := 60) hx hb dX10_leastBelow_53 (by decide) (fun _ => ?_) (fun c => absurd (by decide) c)
            refine lv_aload_n hx hb dX10_leastBelow_60 rfl (lv_at hl 1 rfl) ?_
            refine lv_iload_n hx hb dX10_leastBelow_61 rfl (lv_at hl 2 rfl) ?_
            refine lv_iconst (v := 1) hx hb dX10_leastBelow_62 (by decide) ?_
            refine lv_isub hx hb dX10_leastBelow_63 ?_
            refine lv_topi (fun x23 ex23 => ?_)
            have ex23 : x23.toInt = a1.toInt - (1 : Int) := by rw [ex23]; exact wk_sub (show (-2147483648) ≤ a1.toInt - (1 : Int) by omega) (show a1.toInt - (1 : Int) ≤ 2147483647 by omega)
            refine lv_iload_n hx hb dX10_leastBelow_64 rfl (lv_at hl 3 rfl) ?_
            refine lv_iconst (v := 1) hx hb dX10_leastBelow_65 (by decide) ?_
            refine lv_iload_n hx hb dX10_leastBelow_66 rfl (lv_at hl 2 rfl) ?_
            refine lv_iconst (v := 1) hx hb dX10_leastBelow_67 (by decide) ?_
            refine lv_isub hx hb dX10_leastBelow_68 ?_
            refine lv_topi (fun x24 ex24 => ?_)
            have ex24 : x24.toInt = a1.toInt - (1 : Int) := by rw [ex24]; exact wk_sub (show (-2147483648) ≤ a1.toInt - (1 : Int) by omega) (show a1.toInt - (1 : Int) ≤ 2147483647 by omega)
            refine lv_ishl hx hb dX10_leastBelow_69 ?_
            refine lv_topi (fun x25 ex25 => ?_)
            have bx25 : 1 ≤ x25.toInt ∧ x25.toInt ≤ 4 := by rw [ex25]; exact wk_shl1 2 (by decide) (by omega) (by omega)
            refine lv_ior hx hb dX10_leastBelow_70 ?_
            refine lv_topi (fun x26 ex26 => ?_)
            have bx26 : 0 ≤ x26.toInt ∧ x26.toInt < 8192 := by rw [ex26]; exact wk_or 13 (by decide) (by omega) (by omega) (by omega) (by omega)
            have mx26 : a2.toInt ≤ x26.toInt ∧ x25.toInt ≤ x26.toInt := by rw [ex26]; exact wk_orL 13 (by decide) (by omega) (by omega) (by omega) (by omega)
            refine tk_Vi hC hK hw hT hA hE hSR kC_at158 (by decide) rfl (k_X10_leastBelow_11 l adK adV dC dI cy ad B (by omega) (by omega) qr s1   x23 (show 0 ≤ x23.toInt by omega) (show x23.toInt ≤ 2 by omega) x26 (show 0 ≤ x26.toInt by omega) (show x26.toInt ≤ 8191 by omega) w15 H.size hT ) (cwV 2 hC.2.2.2.2 gX10_leastBelow_X10_leastBelow rfl rfl rfl (by decide +kernel) ⟨Nat.le_of_ble_eq_true rfl, Nat.le_of_ble_eq_true rfl⟩) rfl hl.1 rfl (Nat.le_of_ble_eq_true rfl) dX10_leastBelow_71 (fun r27 w29 H locs hp28 hw => ?_)
            obtain ⟨hT, k30, hg35⟩ := hp28
            have hF := hF.tr k30 (by decide)
            have c36 := k30.gi kC_at38 (by decide) c22
            rcases hg35 with ⟨g31, g32⟩ | ⟨rfl, ⟨x33, c34, rx33, tx33⟩⟩
            · exact tk_iret hC hr hlocks hK ⟨hT, hF, (Or.inl ⟨(show 0 ≤ r27.toInt by omega), (show r27.toInt ≤ 8191 by omega)⟩)⟩ hw dX10_leastBelow_74
            · have ex33 : x33.toInt = x8.toInt := by rw [← c36.symm.trans c34]
              exact tk_iret hC hr hlocks hK ⟨hT, hF, (Or.inr ⟨rfl, ⟨x8, c36, (show 1 ≤ x8.toInt by omega), (show x8.toInt ≤ 6 by omega)⟩⟩)⟩ hw dX10_leastBelow_74
        · have c11 : a1.toInt ≤ (0 : Int) := wk_ltF c11
          refine lv_iload_n hx hb dX10_leastBelow_40 rfl (lv_at hl 2 rfl) ?_
          exact tk_iret hC hr hlocks hK ⟨hT, hF, (Or.inl ⟨(show 0 ≤ a2.toInt by omega), (show a2.toInt ≤ 8191 by omega)⟩)⟩ hw dX10_leastBelow_41
      · have c10 : v9_3.toInt < x8.toInt := wk_leF c10
        refine lv_aload_n hx hb dX10_leastBelow_20 rfl (lv_at hl 0 rfl) ?_
        refine lv_iload_n hx hb dX10_leastBelow_21 rfl (lv_at hl 3 rfl) ?_
        refine tk_Vi hC hK hw hT hA hE hSR kC_at158 (by decide) rfl (k_X10_canDo_1 l adK adV dC dI cy ad B (by omega) (by omega) qr s1   v9_3 (show 0 ≤ v9_3.toInt by omega) (show v9_3.toInt ≤ 5 by omega) w1 H.size hT ) (cwV 1 hC.2.2.2.2 gX10_leastBelow_X10_canDo rfl rfl rfl (by decide +kernel) ⟨Nat.le_of_ble_eq_true rfl, Nat.le_of_ble_eq_true rfl⟩) rfl hl.1 rfl (Nat.le_of_ble_eq_true rfl) dX10_leastBelow_22 (fun r37 w39 H locs hp38 hw => ?_)
        obtain ⟨hT, k40, hg41⟩ := hp38
        have hF := hF.tr k40 (by decide)
        have c42 := k40.gi kC_at38 (by decide) c9
        rcases hg41 with rfl | rfl
        · refine lv_if_ne (tgt := 30) hx hb dX10_leastBelow_25 (by decide) (fun c => absurd (by decide) c) (fun _ => ?_)
          refine lv_iconst (v := (-1)) hx hb dX10_leastBelow_28 (by decide) ?_
          exact tk_iret hC hr hlocks hK ⟨hT, hF, (Or.inr ⟨rfl, ⟨x8, c42, (show 1 ≤ x8.toInt by omega), (show x8.toInt ≤ 6 by omega)⟩⟩)⟩ hw dX10_leastBelow_29
        · refine lv_if_ne (tgt := 30) hx hb dX10_leastBelow_25 (by decide) (fun _ => ?_) (fun c => absurd c (by decide))
          obtain ⟨x43, ex43⟩ : ∃ y : Int32, y = v9_3 + Int32.ofInt 1 := ⟨_, rfl⟩
          refine lv_iinc (v := x43) (lv' := [(3, .int x43), (0, .ref (ad 158)), (1, .int a1), (2, .int a2)]) hx hb dX10_leastBelow_30 hl (k := 3) rfl ex43.symm (by decide) rfl (fun ls hl => ?_)
          have ex43 : x43.toInt = v9_3.toInt + 1 := by rw [ex43]; exact wk_add (y := 1) (show -2147483648 ≤ v9_3.toInt + 1 by omega) (show v9_3.toInt + 1 ≤ 2147483647 by omega)
          refine lv_goto (tgt := 9) hx hb dX10_leastBelow_33 (by decide) ?_
          exact ih9 x43 H locs ls w39 (show 0 ≤ a1.toInt by omega) (show a1.toInt ≤ 3 by omega) (show 0 ≤ a2.toInt by omega) (show a2.toInt ≤ 8191 by omega) (show 0 ≤ x43.toInt by omega) (show x43.toInt ≤ 6 by omega) (show (6 - x43.toInt).toNat < n9 by omega) hw hT hF  (lv_sub hl [1, 2, 3, 0] rfl)
  refine lv_aload_n hx hb dX10_leastBelow_0 rfl (lv_at hl 0 rfl) ?_
  refine lv_iload_n hx hb dX10_leastBelow_1 rfl (lv_at hl 1 rfl) ?_
  refine lv_iload_n hx hb dX10_leastBelow_2 rfl (lv_at hl 2 rfl) ?_
  refine lv_iconst (v := (-1)) hx hb dX10_leastBelow_3 (by decide) ?_
  refine tk_Vv hC hK hw hT hA hE hSR kC_at158 (by decide) rfl (k_X10_layRoads_1 l adK adV dC dI cy ad B (by omega) (by omega) qr s1   a1 (show 0 ≤ a1.toInt by omega) (show a1.toInt ≤ 12 by omega) a2 (show 0 ≤ a2.toInt by omega) (show a2.toInt ≤ 8191 by omega) ((-1)) (by decide) (by decide) w0 s.heap.size hT ) (cwV 3 hC.2.2.2.2 gX10_leastBelow_X10_layRoads rfl rfl rfl (by decide +kernel) ⟨Nat.le_of_ble_eq_true rfl, Nat.le_of_ble_eq_true rfl⟩) rfl hl.1 rfl (Nat.le_of_ble_eq_true rfl) dX10_leastBelow_4 (fun w46 H locs hp45 hw => ?_)
  obtain ⟨hT, k47, hg48⟩ := hp45
  have hF := hF.tr k47 (by decide)
  clear hg48
  refine lv_iconst (v := 0) hx hb dX10_leastBelow_7 (by decide) ?_
  refine lv_istore_n (lv' := [(3, .int 0), (0, .ref (ad 158)), (1, .int a1), (2, .int a2)]) hx hb dX10_leastBelow_8 rfl hl (by decide) rfl (fun ls hl => ?_)
  exact L9 ((6 - (0 : Int)).toNat + 1) 0 H locs ls w46 (show 0 ≤ a1.toInt by omega) (show a1.toInt ≤ 3 by omega) (show 0 ≤ a2.toInt by omega) (show a2.toInt ≤ 8191 by omega) (by decide) (by decide) (Nat.lt_succ_self _) hw hT hF  (lv_sub hl [1, 2, 3, 0] rfl)
abbrev P_X10_leastBelow_9 (ad : Nat → Nat) (cy : Nat → ClassId) (B : Int) (qr : Nat) (s1 : Int) (a1 : Int32) (a2 : Int32) (w0 : va_W) : Int32 → va_W → Prop := fun r u => TW ksC ad cy B qr s1 u ∧ FE ksC [(51, 0, 10)] w0 u ∧ ((0 ≤ r.toInt ∧ r.toInt ≤ 8191) ∨ (r = (-1) ∧ (∃ y : Int32, gi u 38 10 = y ∧ 1 ≤ y.toInt ∧ y.toInt ≤ 6)))
set_option maxHeartbeats 4000000 in
set_option maxRecDepth 100000 in
theorem k_X10_leastBelow_9 (l : Launch) (adK adV : Nat → Nat) (dC : Nat → ClassId) (dI : Nat → Nat → Nat) (cy : Nat → ClassId) (ad : Nat → Nat) (B : Int) (hB0 : 2147483648 ≤ B) (hB1 : B ≤ 1152921504606846976) (qr : Nat) (s1 : Int)  (a1 : Int32) (ra1 : 0 ≤ a1.toInt) (ta1 : a1.toInt ≤ 4) (a2 : Int32) (ra2 : 0 ≤ a2.toInt) (ta2 : a2.toInt ≤ 8191) (w0 : va_W) (sz : Nat) (hT : TW ksC ad cy B qr s1 w0)  : Met l yX10_leastBelow wsX10_leastBelow ({ frames := 7, cells := 0, slots := 0, locals := 151 }) (va_Pc [.ref (ad 158), .int a1, .int a2] (wpreS adK adV dC dI cy sz w0)) (va_Qi (P_X10_leastBelow_9 ad cy B qr s1 a1 a2 w0) (fun u : va_W => wpost dC dI cy (va_A w0 sz) u) (va_A w0 sz)) 0 0 (va_A w0 sz) := by
  refine Met.ofW (cc := cX10_leastBelow) (maxL := 4) (ret := (some .int)) (by decide) rfl ?_
  intro p e s m args below meth c s₁ Bk hml hv
  obtain ⟨rfl, ⟨hsz, hP, hK, hD0⟩, hE, hSR⟩ := hv
  have hx := Bk.exec
  have hb := Bk.bytes
  have hr := Bk.returns
  have hlocks := Bk.notSynchronized
  have hC : CallFix p m c cX10_leastBelow 4 s _ wsX10_leastBelow RX10 := ⟨hx, hb, hml, findClass_of_methodNamed Bk.named, atoms_spec (ws := wsX10_leastBelow) Bk.pre⟩
  subst hsz
  have hD := hD0.self (sz := s.heap.size)
  generalize hAe : va_A w0 s.heap.size = A at hD hE ⊢
  have hA : ∀ q : Nat, s.heap.size ≤ q → A q := fun q h => by rw [← hAe]; exact Or.inr h
  have hw : Wd dC dI A s.heap s.heap [] w0 := ⟨hP, hD, va_S.rf⟩
  have hF : FE ksC [(51, 0, 10)] w0 w0 := FE.rf
  have hl := lv_entry ([.ref (ad 158), .int a1, .int a2]) (n := 4) (Nat.le_of_ble_eq_true rfl)
  rw [lg_entry_eq]
  generalize (lg_sl ([.ref (ad 158), .int a1, .int a2]) ++ List.replicate (4 - (lg_sl ([.ref (ad 158), .int a1, .int a2])).length) Slot.unset).toArray = ls at hl ⊢
  have hl : lv_has ls 4 [(0, .ref (ad 158)), (1, .int a1), (2, .int a2)] := hl
  generalize hloc : ([] : List Loc) = locs at hw ⊢
  have hinX10 : ∀ w ∈ u_ws RX10 TX10 5, w ∈ wsX10_leastBelow := fun _ h => List.mem_cons_of_mem _ (List.mem_append_left _ (List.mem_append_left _ (List.mem_append_right _ (h))))
  have hinX5 : ∀ w ∈ u_ws RX5 TX5 14, w ∈ wsX10_leastBelow := fun _ h => List.mem_cons_of_mem _ (List.mem_append_left _ (List.mem_append_right _ (h)))
  have L9 : ∀ (n9 : Nat) (v9_3 : Int32) (H : Heap) (locs : List Loc) (ls : Array Slot) (w1 : va_W), 0 ≤ a1.toInt → a1.toInt ≤ 4 → 0 ≤ a2.toInt → a2.toInt ≤ 8191 → 0 ≤ v9_3.toInt → v9_3.toInt ≤ 6 → (6 - v9_3.toInt).toNat < n9 → Wd dC dI A s.heap H locs w1 → TW ksC ad cy B qr s1 w1 → FE ksC [(51, 0, 10)] w0 w1 → lv_has ls 4 [(0, .ref (ad 158)), (1, .int a1), (2, .int a2), (3, .int v9_3)] → W p l e ({ frames := 7, cells := 0, slots := 0, locals := 151 }) s m (List.toArray [.ref (ad 158), .int a1, .int a2]) below meth c H locs 0 0 (MQ below (va_Qi (P_X10_leastBelow_9 ad cy B qr s1 a1 a2 w0) (fun u : va_W => wpost dC dI cy A u) A) (List.toArray [.ref (ad 158), .int a1, .int a2]) s 0 0 A) (F0 m 9 ls []) := by
    intro n9
    induction n9 with
    | zero => intro v9_3 H locs ls w1 r2 t3 r4 t5 r6 t7 hm9 hw hT hF hl; omega
    | succ n9 ih9 =>
      intro v9_3 H locs ls w1 r2 t3 r4 t5 r6 t7 hm9 hw hT hF hl
      refine lv_iload_n hx hb dX10_leastBelow_9 rfl (lv_at hl 3 rfl) ?_
      refine lv_aload_n hx hb dX10_leastBelow_10 rfl (lv_at hl 0 rfl) ?_
      refine tk_getA hC hK hw hT hinX10 kC_at158 (by decide) rfl 0 (by decide) (List.mem_of_getElem? (i := 1) rfl) rfl rfl dX10_leastBelow_11 ?_
      refine tk_geti hC hK hw hT hinX5 kC_at38 (by decide) rfl 10 (by decide) (List.mem_of_getElem? (i := 2) rfl) rfl rfl dX10_leastBelow_14 (fun x8 c9 rx8 tx8 => ?_)
      refine lv_icmp_ge (tgt := 36) hx hb dX10_leastBelow_17 (by decide) (fun c10 => ?_) (fun c10 => ?_)
      · have c10 : x8.toInt ≤ v9_3.toInt := wk_le.mp c10
        refine lv_iload_n hx hb dX10_leastBelow_36 rfl (lv_at hl 1 rfl) ?_
        refine lv_if_gt (tgt := 42) hx hb dX10_leastBelow_37 (by decide) (fun c11 => ?_) (fun c11 => ?_)
        · have c11 : (0 : Int) < a1.toInt := wk_lt.mp c11
          refine lv_aload_n hx hb dX10_leastBelow_42 rfl (lv_at hl 0 rfl) ?_
          refine lv_iload_n hx hb dX10_leastBelow_43 rfl (lv_at hl 1 rfl) ?_
          refine lv_iconst (v := 1) hx hb dX10_leastBelow_44 (by decide) ?_
          refine lv_isub hx hb dX10_leastBelow_45 ?_
          refine lv_topi (fun x12 ex12 => ?_)
          have ex12 : x12.toInt = a1.toInt - (1 : Int) := by rw [ex12]; exact wk_sub (show (-2147483648) ≤ a1.toInt - (1 : Int) by omega) (show a1.toInt - (1 : Int) ≤ 2147483647 by omega)
          refine lv_iload_n hx hb dX10_leastBelow_46 rfl (lv_at hl 2 rfl) ?_
          refine tk_Vi hC hK hw hT hA hE hSR kC_at158 (by decide) rfl (k_X10_leastBelow_10 l adK adV dC dI cy ad B (by omega) (by omega) qr s1   x12 (show 0 ≤ x12.toInt by omega) (show x12.toInt ≤ 3 by omega) a2 (show 0 ≤ a2.toInt by omega) (show a2.toInt ≤ 8191 by omega) w1 H.size hT ) (cwV 2 hC.2.2.2.2 gX10_leastBelow_X10_leastBelow rfl rfl rfl (by decide +kernel) ⟨Nat.le_of_ble_eq_true rfl, Nat.le_of_ble_eq_true rfl⟩) rfl hl.1 rfl (Nat.le_of_ble_eq_true rfl) dX10_leastBelow_47 (fun r13 w15 H locs hp14 hw => ?_)
          obtain ⟨hT, k16, hg21⟩ := hp14
          have hF := hF.tr k16 (by decide)
          have c22 := k16.gi kC_at38 (by decide) c9
          rcases hg21 with ⟨g17, g18⟩ | ⟨rfl, ⟨x19, c20, rx19, tx19⟩⟩
          · refine lv_istore_n (lv' := [(3, .int r13), (0, .ref (ad 158)), (1, .int a1), (2, .int a2)]) hx hb dX10_leastBelow_50 rfl hl (by decide) rfl (fun ls hl => ?_)
            refine lv_iload_n hx hb dX10_leastBelow_51 rfl (lv_at hl 0 rfl) ?_
            refine lv_iconst (v := (-1)) hx hb dX10_leastBelow_52 (by decide) ?_
            refine lv_icmp_eq (tgt := 60) hx hb dX10_leastBelow_53 (by decide) (fun c => absurd c (fun h => absurd (show r13.toInt = (-1 : Int) from wk_eq.mp h) (by omega))) (fun _ => ?_)
            refine lv_iload_n hx hb dX10_leastBelow_56 rfl (lv_at hl 0 rfl) ?_
            refine lv_goto (tgt := 74) hx hb dX10_leastBelow_57 (by decide) ?_
            exact tk_iret hC hr hlocks hK ⟨hT, hF, (Or.inl ⟨(show 0 ≤ r13.toInt by omega), (show r13.toInt ≤ 8191 by omega)⟩)⟩ hw dX10_leastBelow_74
          · have ex19 : x19.toInt = x8.toInt := by rw [← c22.symm.trans c20]
            refine lv_istore_n (lv' := [(3, .int (-1)), (0, .ref (ad 158)), (1, .int a1), (2, .int a2)]) hx hb dX10_leastBelow_50 rfl hl (by decide) rfl (fun ls hl => ?_)
            refine lv_iload_n hx hb dX10_leastBelow_51 rfl (lv_at hl 0 rfl) ?_
            refine lv_iconst (v := (-1)) hx hb dX10_leastBelow_52 (by decide) ?_
            refine lv_icmp_eq (tgt := 60) hx hb dX10_leastBelow_53 (by decide) (fun _ => ?_) (fun c => absurd (by decide) c)
            refine lv_aload_n hx hb dX10_leastBelow_60 rfl (lv_at hl 1 rfl) ?_
            refine lv_iload_n hx hb dX10_leastBelow_61 rfl (lv_at hl 2 rfl) ?_
            refine lv_iconst (v := 1) hx hb dX10_leastBelow_62 (by decide) ?_
            refine lv_isub hx hb dX10_leastBelow_63 ?_
            refine lv_topi (fun x23 ex23 => ?_)
            have ex23 : x23.toInt = a1.toInt - (1 : Int) := by rw [ex23]; exact wk_sub (show (-2147483648) ≤ a1.toInt - (1 : Int) by omega) (show a1.toInt - (1 : Int) ≤ 2147483647 by omega)
            refine lv_iload_n hx hb dX10_leastBelow_64 rfl (lv_at hl 3 rfl) ?_
            refine lv_iconst (v := 1) hx hb dX10_leastBelow_65 (by decide) ?_
            refine lv_iload_n hx hb dX10_leastBelow_66 rfl (lv_at hl 2 rfl) ?_
            refine lv_iconst (v := 1) hx hb dX10_leastBelow_67 (by decide) ?_
            refine lv_isub hx hb dX10_leastBelow_68 ?_
            refine lv_topi (fun x24 ex24 => ?_)
            have ex24 : x24.toInt = a1.toInt - (1 : Int) := by rw [ex24]; exact wk_sub (show (-2147483648) ≤ a1.toInt - (1 : Int) by omega) (show a1.toInt - (1 : Int) ≤ 2147483647 by omega)
            refine lv_ishl hx hb dX10_leastBelow_69 ?_
            refine lv_topi (fun x25 ex25 => ?_)
            have bx25 : 1 ≤ x25.toInt ∧ x25.toInt ≤ 8 := by rw [ex25]; exact wk_shl1 3 (by decide) (by omega) (by omega)
            refine lv_ior hx hb dX10_leastBelow_70 ?_
            refine lv_topi (fun x26 ex26 => ?_)
            have bx26 : 0 ≤ x26.toInt ∧ x26.toInt < 8192 := by rw [ex26]; exact wk_or 13 (by decide) (by omega) (by omega) (by omega) (by omega)
            have mx26 : a2.toInt ≤ x26.toInt ∧ x25.toInt ≤ x26.toInt := by rw [ex26]; exact wk_orL 13 (by decide) (by omega) (by omega) (by omega) (by omega)
            refine tk_Vi hC hK hw hT hA hE hSR kC_at158 (by decide) rfl (k_X10_leastBelow_10 l adK adV dC dI cy ad B (by omega) (by omega) qr s1   x23 (show 0 ≤ x23.toInt by omega) (show x23.toInt ≤ 3 by omega) x26 (show 0 ≤ x26.toInt by omega) (show x26.toInt ≤ 8191 by omega) w15 H.size hT ) (cwV 2 hC.2.2.2.2 gX10_leastBelow_X10_leastBelow rfl rfl rfl (by decide +kernel) ⟨Nat.le_of_ble_eq_true rfl, Nat.le_of_ble_eq_true rfl⟩) rfl hl.1 rfl (Nat.le_of_ble_eq_true rfl) dX10_leastBelow_71 (fun r27 w29 H locs hp28 hw => ?_)
            obtain ⟨hT, k30, hg35⟩ := hp28
            have hF := hF.tr k30 (by decide)
            have c36 := k30.gi kC_at38 (by decide) c22
            rcases hg35 with ⟨g31, g32⟩ | ⟨rfl, ⟨x33, c34, rx33, tx33⟩⟩
            · exact tk_iret hC hr hlocks hK ⟨hT, hF, (Or.inl ⟨(show 0 ≤ r27.toInt by omega), (show r27.toInt ≤ 8191 by omega)⟩)⟩ hw dX10_leastBelow_74
            · have ex33 : x33.toInt = x8.toInt := by rw [← c36.symm.trans c34]
              exact tk_iret hC hr hlocks hK ⟨hT, hF, (Or.inr ⟨rfl, ⟨x8, c36, (show 1 ≤ x8.toInt by omega), (show x8.toInt ≤ 6 by omega)⟩⟩)⟩ hw dX10_leastBelow_74
        · have c11 : a1.toInt ≤ (0 : Int) := wk_ltF c11
          refine lv_iload_n hx hb dX10_leastBelow_40 rfl (lv_at hl 2 rfl) ?_
          exact tk_iret hC hr hlocks hK ⟨hT, hF, (Or.inl ⟨(show 0 ≤ a2.toInt by omega), (show a2.toInt ≤ 8191 by omega)⟩)⟩ hw dX10_leastBelow_41
      · have c10 : v9_3.toInt < x8.toInt := wk_leF c10
        refine lv_aload_n hx hb dX10_leastBelow_20 rfl (lv_at hl 0 rfl) ?_
        refine lv_iload_n hx hb dX10_leastBelow_21 rfl (lv_at hl 3 rfl) ?_
        refine tk_Vi hC hK hw hT hA hE hSR kC_at158 (by decide) rfl (k_X10_canDo_1 l adK adV dC dI cy ad B (by omega) (by omega) qr s1   v9_3 (show 0 ≤ v9_3.toInt by omega) (show v9_3.toInt ≤ 5 by omega) w1 H.size hT ) (cwV 1 hC.2.2.2.2 gX10_leastBelow_X10_canDo rfl rfl rfl (by decide +kernel) ⟨Nat.le_of_ble_eq_true rfl, Nat.le_of_ble_eq_true rfl⟩) rfl hl.1 rfl (Nat.le_of_ble_eq_true rfl) dX10_leastBelow_22 (fun r37 w39 H locs hp38 hw => ?_)
        obtain ⟨hT, k40, hg41⟩ := hp38
        have hF := hF.tr k40 (by decide)
        have c42 := k40.gi kC_at38 (by decide) c9
        rcases hg41 with rfl | rfl
        · refine lv_if_ne (tgt := 30) hx hb dX10_leastBelow_25 (by decide) (fun c => absurd (by decide) c) (fun _ => ?_)
          refine lv_iconst (v := (-1)) hx hb dX10_leastBelow_28 (by decide) ?_
          exact tk_iret hC hr hlocks hK ⟨hT, hF, (Or.inr ⟨rfl, ⟨x8, c42, (show 1 ≤ x8.toInt by omega), (show x8.toInt ≤ 6 by omega)⟩⟩)⟩ hw dX10_leastBelow_29
        · refine lv_if_ne (tgt := 30) hx hb dX10_leastBelow_25 (by decide) (fun _ => ?_) (fun c => absurd c (by decide))
          obtain ⟨x43, ex43⟩ : ∃ y : Int32, y = v9_3 + Int32.ofInt 1 := ⟨_, rfl⟩
          refine lv_iinc (v := x43) (lv' := [(3, .int x43), (0, .ref (ad 158)), (1, .int a1), (2, .int a2)]) hx hb dX10_leastBelow_30 hl (k := 3) rfl ex43.symm (by decide) rfl (fun ls hl => ?_)
          have ex43 : x43.toInt = v9_3.toInt + 1 := by rw [ex43]; exact wk_add (y := 1) (show -2147483648 ≤ v9_3.toInt + 1 by omega) (show v9_3.toInt + 1 ≤ 2147483647 by omega)
          refine lv_goto (tgt := 9) hx hb dX10_leastBelow_33 (by decide) ?_
          exact ih9 x43 H locs ls w39 (show 0 ≤ a1.toInt by omega) (show a1.toInt ≤ 4 by omega) (show 0 ≤ a2.toInt by omega) (show a2.toInt ≤ 8191 by omega) (show 0 ≤ x43.toInt by omega) (show x43.toInt ≤ 6 by omega) (show (6 - x43.toInt).toNat < n9 by omega) hw hT hF  (lv_sub hl [1, 2, 3, 0] rfl)
  refine lv_aload_n hx hb dX10_leastBelow_0 rfl (lv_at hl 0 rfl) ?_
  refine lv_iload_n hx hb dX10_leastBelow_1 rfl (lv_at hl 1 rfl) ?_
  refine lv_iload_n hx hb dX10_leastBelow_2 rfl (lv_at hl 2 rfl) ?_
  refine lv_iconst (v := (-1)) hx hb dX10_leastBelow_3 (by decide) ?_
  refine tk_Vv hC hK hw hT hA hE hSR kC_at158 (by decide) rfl (k_X10_layRoads_1 l adK adV dC dI cy ad B (by omega) (by omega) qr s1   a1 (show 0 ≤ a1.toInt by omega) (show a1.toInt ≤ 12 by omega) a2 (show 0 ≤ a2.toInt by omega) (show a2.toInt ≤ 8191 by omega) ((-1)) (by decide) (by decide) w0 s.heap.size hT ) (cwV 3 hC.2.2.2.2 gX10_leastBelow_X10_layRoads rfl rfl rfl (by decide +kernel) ⟨Nat.le_of_ble_eq_true rfl, Nat.le_of_ble_eq_true rfl⟩) rfl hl.1 rfl (Nat.le_of_ble_eq_true rfl) dX10_leastBelow_4 (fun w46 H locs hp45 hw => ?_)
  obtain ⟨hT, k47, hg48⟩ := hp45
  have hF := hF.tr k47 (by decide)
  clear hg48
  refine lv_iconst (v := 0) hx hb dX10_leastBelow_7 (by decide) ?_
  refine lv_istore_n (lv' := [(3, .int 0), (0, .ref (ad 158)), (1, .int a1), (2, .int a2)]) hx hb dX10_leastBelow_8 rfl hl (by decide) rfl (fun ls hl => ?_)
  exact L9 ((6 - (0 : Int)).toNat + 1) 0 H locs ls w46 (show 0 ≤ a1.toInt by omega) (show a1.toInt ≤ 4 by omega) (show 0 ≤ a2.toInt by omega) (show a2.toInt ≤ 8191 by omega) (by decide) (by decide) (Nat.lt_succ_self _) hw hT hF  (lv_sub hl [1, 2, 3, 0] rfl)
abbrev P_X10_leastBelow_8 (ad : Nat → Nat) (cy : Nat → ClassId) (B : Int) (qr : Nat) (s1 : Int) (a1 : Int32) (a2 : Int32) (w0 : va_W) : Int32 → va_W → Prop := fun r u => TW ksC ad cy B qr s1 u ∧ FE ksC [(51, 0, 10)] w0 u ∧ ((0 ≤ r.toInt ∧ r.toInt ≤ 8191) ∨ (r = (-1) ∧ (∃ y : Int32, gi u 38 10 = y ∧ 1 ≤ y.toInt ∧ y.toInt ≤ 6)))
set_option maxHeartbeats 4000000 in
set_option maxRecDepth 100000 in
theorem k_X10_leastBelow_8 (l : Launch) (adK adV : Nat → Nat) (dC : Nat → ClassId) (dI : Nat → Nat → Nat) (cy : Nat → ClassId) (ad : Nat → Nat) (B : Int) (hB0 : 2147483648 ≤ B) (hB1 : B ≤ 1152921504606846976) (qr : Nat) (s1 : Int)  (a1 : Int32) (ra1 : 0 ≤ a1.toInt) (ta1 : a1.toInt ≤ 5) (a2 : Int32) (ra2 : 0 ≤ a2.toInt) (ta2 : a2.toInt ≤ 8191) (w0 : va_W) (sz : Nat) (hT : TW ksC ad cy B qr s1 w0)  : Met l yX10_leastBelow wsX10_leastBelow ({ frames := 8, cells := 0, slots := 0, locals := 174 }) (va_Pc [.ref (ad 158), .int a1, .int a2] (wpreS adK adV dC dI cy sz w0)) (va_Qi (P_X10_leastBelow_8 ad cy B qr s1 a1 a2 w0) (fun u : va_W => wpost dC dI cy (va_A w0 sz) u) (va_A w0 sz)) 0 0 (va_A w0 sz) := by
  refine Met.ofW (cc := cX10_leastBelow) (maxL := 4) (ret := (some .int)) (by decide) rfl ?_
  intro p e s m args below meth c s₁ Bk hml hv
  obtain ⟨rfl, ⟨hsz, hP, hK, hD0⟩, hE, hSR⟩ := hv
  have hx := Bk.exec
  have hb := Bk.bytes
  have hr := Bk.returns
  have hlocks := Bk.notSynchronized
  have hC : CallFix p m c cX10_leastBelow 4 s _ wsX10_leastBelow RX10 := ⟨hx, hb, hml, findClass_of_methodNamed Bk.named, atoms_spec (ws := wsX10_leastBelow) Bk.pre⟩
  subst hsz
  have hD := hD0.self (sz := s.heap.size)
  generalize hAe : va_A w0 s.heap.size = A at hD hE ⊢
  have hA : ∀ q : Nat, s.heap.size ≤ q → A q := fun q h => by rw [← hAe]; exact Or.inr h
  have hw : Wd dC dI A s.heap s.heap [] w0 := ⟨hP, hD, va_S.rf⟩
  have hF : FE ksC [(51, 0, 10)] w0 w0 := FE.rf
  have hl := lv_entry ([.ref (ad 158), .int a1, .int a2]) (n := 4) (Nat.le_of_ble_eq_true rfl)
  rw [lg_entry_eq]
  generalize (lg_sl ([.ref (ad 158), .int a1, .int a2]) ++ List.replicate (4 - (lg_sl ([.ref (ad 158), .int a1, .int a2])).length) Slot.unset).toArray = ls at hl ⊢
  have hl : lv_has ls 4 [(0, .ref (ad 158)), (1, .int a1), (2, .int a2)] := hl
  generalize hloc : ([] : List Loc) = locs at hw ⊢
  have hinX10 : ∀ w ∈ u_ws RX10 TX10 5, w ∈ wsX10_leastBelow := fun _ h => List.mem_cons_of_mem _ (List.mem_append_left _ (List.mem_append_left _ (List.mem_append_right _ (h))))
  have hinX5 : ∀ w ∈ u_ws RX5 TX5 14, w ∈ wsX10_leastBelow := fun _ h => List.mem_cons_of_mem _ (List.mem_append_left _ (List.mem_append_right _ (h)))
  have L9 : ∀ (n9 : Nat) (v9_3 : Int32) (H : Heap) (locs : List Loc) (ls : Array Slot) (w1 : va_W), 0 ≤ a1.toInt → a1.toInt ≤ 5 → 0 ≤ a2.toInt → a2.toInt ≤ 8191 → 0 ≤ v9_3.toInt → v9_3.toInt ≤ 6 → (6 - v9_3.toInt).toNat < n9 → Wd dC dI A s.heap H locs w1 → TW ksC ad cy B qr s1 w1 → FE ksC [(51, 0, 10)] w0 w1 → lv_has ls 4 [(0, .ref (ad 158)), (1, .int a1), (2, .int a2), (3, .int v9_3)] → W p l e ({ frames := 8, cells := 0, slots := 0, locals := 174 }) s m (List.toArray [.ref (ad 158), .int a1, .int a2]) below meth c H locs 0 0 (MQ below (va_Qi (P_X10_leastBelow_8 ad cy B qr s1 a1 a2 w0) (fun u : va_W => wpost dC dI cy A u) A) (List.toArray [.ref (ad 158), .int a1, .int a2]) s 0 0 A) (F0 m 9 ls []) := by
    intro n9
    induction n9 with
    | zero => intro v9_3 H locs ls w1 r2 t3 r4 t5 r6 t7 hm9 hw hT hF hl; omega
    | succ n9 ih9 =>
      intro v9_3 H locs ls w1 r2 t3 r4 t5 r6 t7 hm9 hw hT hF hl
      refine lv_iload_n hx hb dX10_leastBelow_9 rfl (lv_at hl 3 rfl) ?_
      refine lv_aload_n hx hb dX10_leastBelow_10 rfl (lv_at hl 0 rfl) ?_
      refine tk_getA hC hK hw hT hinX10 kC_at158 (by decide) rfl 0 (by decide) (List.mem_of_getElem? (i := 1) rfl) rfl rfl dX10_leastBelow_11 ?_
      refine tk_geti hC hK hw hT hinX5 kC_at38 (by decide) rfl 10 (by decide) (List.mem_of_getElem? (i := 2) rfl) rfl rfl dX10_leastBelow_14 (fun x8 c9 rx8 tx8 => ?_)
      refine lv_icmp_ge (tgt := 36) hx hb dX10_leastBelow_17 (by decide) (fun c10 => ?_) (fun c10 => ?_)
      · have c10 : x8.toInt ≤ v9_3.toInt := wk_le.mp c10
        refine lv_iload_n hx hb dX10_leastBelow_36 rfl (lv_at hl 1 rfl) ?_
        refine lv_if_gt (tgt := 42) hx hb dX10_leastBelow_37 (by decide) (fun c11 => ?_) (fun c11 => ?_)
        · have c11 : (0 : Int) < a1.toInt := wk_lt.mp c11
          refine lv_aload_n hx hb dX10_leastBelow_42 rfl (lv_at hl 0 rfl) ?_
          refine lv_iload_n hx hb dX10_leastBelow_43 rfl (lv_at hl 1 rfl) ?_
          refine lv_iconst (v := 1) hx hb dX10_leastBelow_44 (by decide) ?_
          refine lv_isub hx hb dX10_leastBelow_45 ?_
          refine lv_topi (fun x12 ex12 => ?_)
          have ex12 : x12.toInt = a1.toInt - (1 : Int) := by rw [ex12]; exact wk_sub (show (-2147483648) ≤ a1.toInt - (1 : Int) by omega) (show a1.toInt - (1 : Int) ≤ 2147483647 by omega)
          refine lv_iload_n hx hb dX10_leastBelow_46 rfl (lv_at hl 2 rfl) ?_
          refine tk_Vi hC hK hw hT hA hE hSR kC_at158 (by decide) rfl (k_X10_leastBelow_9 l adK adV dC dI cy ad B (by omega) (by omega) qr s1   x12 (show 0 ≤ x12.toInt by omega) (show x12.toInt ≤ 4 by omega) a2 (show 0 ≤ a2.toInt by omega) (show a2.toInt ≤ 8191 by omega) w1 H.size hT ) (cwV 2 hC.2.2.2.2 gX10_leastBelow_X10_leastBelow rfl rfl rfl (by decide +kernel) ⟨Nat.le_of_ble_eq_true rfl, Nat.le_of_ble_eq_true rfl⟩) rfl hl.1 rfl (Nat.le_of_ble_eq_true rfl) dX10_leastBelow_47 (fun r13 w15 H locs hp14 hw => ?_)
          obtain ⟨hT, k16, hg21⟩ := hp14
          have hF := hF.tr k16 (by decide)
          have c22 := k16.gi kC_at38 (by decide) c9
          rcases hg21 with ⟨g17, g18⟩ | ⟨rfl, ⟨x19, c20, rx19, tx19⟩⟩
          · refine lv_istore_n (lv' := [(3, .int r13), (0, .ref (ad 158)), (1, .int a1), (2, .int a2)]) hx hb dX10_leastBelow_50 rfl hl (by decide) rfl (fun ls hl => ?_)
            refine lv_iload_n hx hb dX10_leastBelow_51 rfl (lv_at hl 0 rfl) ?_
            refine lv_iconst (v := (-1)) hx hb dX10_leastBelow_52 (by decide) ?_
            refine lv_icmp_eq (tgt := 60) hx hb dX10_leastBelow_53 (by decide) (fun c => absurd c (fun h => absurd (show r13.toInt = (-1 : Int) from wk_eq.mp h) (by omega))) (fun _ => ?_)
            refine lv_iload_n hx hb dX10_leastBelow_56 rfl (lv_at hl 0 rfl) ?_
            refine lv_goto (tgt := 74) hx hb dX10_leastBelow_57 (by decide) ?_
            exact tk_iret hC hr hlocks hK ⟨hT, hF, (Or.inl ⟨(show 0 ≤ r13.toInt by omega), (show r13.toInt ≤ 8191 by omega)⟩)⟩ hw dX10_leastBelow_74
          · have ex19 : x19.toInt = x8.toInt := by rw [← c22.symm.trans c20]
            refine lv_istore_n (lv' := [(3, .int (-1)), (0, .ref (ad 158)), (1, .int a1), (2, .int a2)]) hx hb dX10_leastBelow_50 rfl hl (by decide) rfl (fun ls hl => ?_)
            refine lv_iload_n hx hb dX10_leastBelow_51 rfl (lv_at hl 0 rfl) ?_
            refine lv_iconst (v := (-1)) hx hb dX10_leastBelow_52 (by decide) ?_
            refine lv_icmp_eq (tgt := 60) hx hb dX10_leastBelow_53 (by decide) (fun _ => ?_) (fun c => absurd (by decide) c)
            refine lv_aload_n hx hb dX10_leastBelow_60 rfl (lv_at hl 1 rfl) ?_
            refine lv_iload_n hx hb dX10_leastBelow_61 rfl (lv_at hl 2 rfl) ?_
            refine lv_iconst (v := 1) hx hb dX10_leastBelow_62 (by decide) ?_
            refine lv_isub hx hb dX10_leastBelow_63 ?_
            refine lv_topi (fun x23 ex23 => ?_)
            have ex23 : x23.toInt = a1.toInt - (1 : Int) := by rw [ex23]; exact wk_sub (show (-2147483648) ≤ a1.toInt - (1 : Int) by omega) (show a1.toInt - (1 : Int) ≤ 2147483647 by omega)
            refine lv_iload_n hx hb dX10_leastBelow_64 rfl (lv_at hl 3 rfl) ?_
            refine lv_iconst (v := 1) hx hb dX10_leastBelow_65 (by decide) ?_
            refine lv_iload_n hx hb dX10_leastBelow_66 rfl (lv_at hl 2 rfl) ?_
            refine lv_iconst (v := 1) hx hb dX10_leastBelow_67 (by decide) ?_
            refine lv_isub hx hb dX10_leastBelow_68 ?_
            refine lv_topi (fun x24 ex24 => ?_)
            have ex24 : x24.toInt = a1.toInt - (1 : Int) := by rw [ex24]; exact wk_sub (show (-2147483648) ≤ a1.toInt - (1 : Int) by omega) (show a1.toInt - (1 : Int) ≤ 2147483647 by omega)
            refine lv_ishl hx hb dX10_leastBelow_69 ?_
            refine lv_topi (fun x25 ex25 => ?_)
            have bx25 : 1 ≤ x25.toInt ∧ x25.toInt ≤ 16 := by rw [ex25]; exact wk_shl1 4 (by decide) (by omega) (by omega)
            refine lv_ior hx hb dX10_leastBelow_70 ?_
            refine lv_topi (fun x26 ex26 => ?_)
            have bx26 : 0 ≤ x26.toInt ∧ x26.toInt < 8192 := by rw [ex26]; exact wk_or 13 (by decide) (by omega) (by omega) (by omega) (by omega)
            have mx26 : a2.toInt ≤ x26.toInt ∧ x25.toInt ≤ x26.toInt := by rw [ex26]; exact wk_orL 13 (by decide) (by omega) (by omega) (by omega) (by omega)
            refine tk_Vi hC hK hw hT hA hE hSR kC_at158 (by decide) rfl (k_X10_leastBelow_9 l adK adV dC dI cy ad B (by omega) (by omega) qr s1   x23 (show 0 ≤ x23.toInt by omega) (show x23.toInt ≤ 4 by omega) x26 (show 0 ≤ x26.toInt by omega) (show x26.toInt ≤ 8191 by omega) w15 H.size hT ) (cwV 2 hC.2.2.2.2 gX10_leastBelow_X10_leastBelow rfl rfl rfl (by decide +kernel) ⟨Nat.le_of_ble_eq_true rfl, Nat.le_of_ble_eq_true rfl⟩) rfl hl.1 rfl (Nat.le_of_ble_eq_true rfl) dX10_leastBelow_71 (fun r27 w29 H locs hp28 hw => ?_)
            obtain ⟨hT, k30, hg35⟩ := hp28
            have hF := hF.tr k30 (by decide)
            have c36 := k30.gi kC_at38 (by decide) c22
            rcases hg35 with ⟨g31, g32⟩ | ⟨rfl, ⟨x33, c34, rx33, tx33⟩⟩
            · exact tk_iret hC hr hlocks hK ⟨hT, hF, (Or.inl ⟨(show 0 ≤ r27.toInt by omega), (show r27.toInt ≤ 8191 by omega)⟩)⟩ hw dX10_leastBelow_74
            · have ex33 : x33.toInt = x8.toInt := by rw [← c36.symm.trans c34]
              exact tk_iret hC hr hlocks hK ⟨hT, hF, (Or.inr ⟨rfl, ⟨x8, c36, (show 1 ≤ x8.toInt by omega), (show x8.toInt ≤ 6 by omega)⟩⟩)⟩ hw dX10_leastBelow_74
        · have c11 : a1.toInt ≤ (0 : Int) := wk_ltF c11
          refine lv_iload_n hx hb dX10_leastBelow_40 rfl (lv_at hl 2 rfl) ?_
          exact tk_iret hC hr hlocks hK ⟨hT, hF, (Or.inl ⟨(show 0 ≤ a2.toInt by omega), (show a2.toInt ≤ 8191 by omega)⟩)⟩ hw dX10_leastBelow_41
      · have c10 : v9_3.toInt < x8.toInt := wk_leF c10
        refine lv_aload_n hx hb dX10_leastBelow_20 rfl (lv_at hl 0 rfl) ?_
        refine lv_iload_n hx hb dX10_leastBelow_21 rfl (lv_at hl 3 rfl) ?_
        refine tk_Vi hC hK hw hT hA hE hSR kC_at158 (by decide) rfl (k_X10_canDo_1 l adK adV dC dI cy ad B (by omega) (by omega) qr s1   v9_3 (show 0 ≤ v9_3.toInt by omega) (show v9_3.toInt ≤ 5 by omega) w1 H.size hT ) (cwV 1 hC.2.2.2.2 gX10_leastBelow_X10_canDo rfl rfl rfl (by decide +kernel) ⟨Nat.le_of_ble_eq_true rfl, Nat.le_of_ble_eq_true rfl⟩) rfl hl.1 rfl (Nat.le_of_ble_eq_true rfl) dX10_leastBelow_22 (fun r37 w39 H locs hp38 hw => ?_)
        obtain ⟨hT, k40, hg41⟩ := hp38
        have hF := hF.tr k40 (by decide)
        have c42 := k40.gi kC_at38 (by decide) c9
        rcases hg41 with rfl | rfl
        · refine lv_if_ne (tgt := 30) hx hb dX10_leastBelow_25 (by decide) (fun c => absurd (by decide) c) (fun _ => ?_)
          refine lv_iconst (v := (-1)) hx hb dX10_leastBelow_28 (by decide) ?_
          exact tk_iret hC hr hlocks hK ⟨hT, hF, (Or.inr ⟨rfl, ⟨x8, c42, (show 1 ≤ x8.toInt by omega), (show x8.toInt ≤ 6 by omega)⟩⟩)⟩ hw dX10_leastBelow_29
        · refine lv_if_ne (tgt := 30) hx hb dX10_leastBelow_25 (by decide) (fun _ => ?_) (fun c => absurd c (by decide))
          obtain ⟨x43, ex43⟩ : ∃ y : Int32, y = v9_3 + Int32.ofInt 1 := ⟨_, rfl⟩
          refine lv_iinc (v := x43) (lv' := [(3, .int x43), (0, .ref (ad 158)), (1, .int a1), (2, .int a2)]) hx hb dX10_leastBelow_30 hl (k := 3) rfl ex43.symm (by decide) rfl (fun ls hl => ?_)
          have ex43 : x43.toInt = v9_3.toInt + 1 := by rw [ex43]; exact wk_add (y := 1) (show -2147483648 ≤ v9_3.toInt + 1 by omega) (show v9_3.toInt + 1 ≤ 2147483647 by omega)
          refine lv_goto (tgt := 9) hx hb dX10_leastBelow_33 (by decide) ?_
          exact ih9 x43 H locs ls w39 (show 0 ≤ a1.toInt by omega) (show a1.toInt ≤ 5 by omega) (show 0 ≤ a2.toInt by omega) (show a2.toInt ≤ 8191 by omega) (show 0 ≤ x43.toInt by omega) (show x43.toInt ≤ 6 by omega) (show (6 - x43.toInt).toNat < n9 by omega) hw hT hF  (lv_sub hl [1, 2, 3, 0] rfl)
  refine lv_aload_n hx hb dX10_leastBelow_0 rfl (lv_at hl 0 rfl) ?_
  refine lv_iload_n hx hb dX10_leastBelow_1 rfl (lv_at hl 1 rfl) ?_
  refine lv_iload_n hx hb dX10_leastBelow_2 rfl (lv_at hl 2 rfl) ?_
  refine lv_iconst (v := (-1)) hx hb dX10_leastBelow_3 (by decide) ?_
  refine tk_Vv hC hK hw hT hA hE hSR kC_at158 (by decide) rfl (k_X10_layRoads_1 l adK adV dC dI cy ad B (by omega) (by omega) qr s1   a1 (show 0 ≤ a1.toInt by omega) (show a1.toInt ≤ 12 by omega) a2 (show 0 ≤ a2.toInt by omega) (show a2.toInt ≤ 8191 by omega) ((-1)) (by decide) (by decide) w0 s.heap.size hT ) (cwV 3 hC.2.2.2.2 gX10_leastBelow_X10_layRoads rfl rfl rfl (by decide +kernel) ⟨Nat.le_of_ble_eq_true rfl, Nat.le_of_ble_eq_true rfl⟩) rfl hl.1 rfl (Nat.le_of_ble_eq_true rfl) dX10_leastBelow_4 (fun w46 H locs hp45 hw => ?_)
  obtain ⟨hT, k47, hg48⟩ := hp45
  have hF := hF.tr k47 (by decide)
  clear hg48
  refine lv_iconst (v := 0) hx hb dX10_leastBelow_7 (by decide) ?_
  refine lv_istore_n (lv' := [(3, .int 0), (0, .ref (ad 158)), (1, .int a1), (2, .int a2)]) hx hb dX10_leastBelow_8 rfl hl (by decide) rfl (fun ls hl => ?_)
  exact L9 ((6 - (0 : Int)).toNat + 1) 0 H locs ls w46 (show 0 ≤ a1.toInt by omega) (show a1.toInt ≤ 5 by omega) (show 0 ≤ a2.toInt by omega) (show a2.toInt ≤ 8191 by omega) (by decide) (by decide) (Nat.lt_succ_self _) hw hT hF  (lv_sub hl [1, 2, 3, 0] rfl)
abbrev P_X10_leastBelow_7 (ad : Nat → Nat) (cy : Nat → ClassId) (B : Int) (qr : Nat) (s1 : Int) (a1 : Int32) (a2 : Int32) (w0 : va_W) : Int32 → va_W → Prop := fun r u => TW ksC ad cy B qr s1 u ∧ FE ksC [(51, 0, 10)] w0 u ∧ ((0 ≤ r.toInt ∧ r.toInt ≤ 8191) ∨ (r = (-1) ∧ (∃ y : Int32, gi u 38 10 = y ∧ 1 ≤ y.toInt ∧ y.toInt ≤ 6)))
set_option maxHeartbeats 4000000 in
set_option maxRecDepth 100000 in
theorem k_X10_leastBelow_7 (l : Launch) (adK adV : Nat → Nat) (dC : Nat → ClassId) (dI : Nat → Nat → Nat) (cy : Nat → ClassId) (ad : Nat → Nat) (B : Int) (hB0 : 2147483648 ≤ B) (hB1 : B ≤ 1152921504606846976) (qr : Nat) (s1 : Int)  (a1 : Int32) (ra1 : 0 ≤ a1.toInt) (ta1 : a1.toInt ≤ 6) (a2 : Int32) (ra2 : 0 ≤ a2.toInt) (ta2 : a2.toInt ≤ 8191) (w0 : va_W) (sz : Nat) (hT : TW ksC ad cy B qr s1 w0)  : Met l yX10_leastBelow wsX10_leastBelow ({ frames := 9, cells := 0, slots := 0, locals := 197 }) (va_Pc [.ref (ad 158), .int a1, .int a2] (wpreS adK adV dC dI cy sz w0)) (va_Qi (P_X10_leastBelow_7 ad cy B qr s1 a1 a2 w0) (fun u : va_W => wpost dC dI cy (va_A w0 sz) u) (va_A w0 sz)) 0 0 (va_A w0 sz) := by
  refine Met.ofW (cc := cX10_leastBelow) (maxL := 4) (ret := (some .int)) (by decide) rfl ?_
  intro p e s m args below meth c s₁ Bk hml hv
  obtain ⟨rfl, ⟨hsz, hP, hK, hD0⟩, hE, hSR⟩ := hv
  have hx := Bk.exec
  have hb := Bk.bytes
  have hr := Bk.returns
  have hlocks := Bk.notSynchronized
  have hC : CallFix p m c cX10_leastBelow 4 s _ wsX10_leastBelow RX10 := ⟨hx, hb, hml, findClass_of_methodNamed Bk.named, atoms_spec (ws := wsX10_leastBelow) Bk.pre⟩
  subst hsz
  have hD := hD0.self (sz := s.heap.size)
  generalize hAe : va_A w0 s.heap.size = A at hD hE ⊢
  have hA : ∀ q : Nat, s.heap.size ≤ q → A q := fun q h => by rw [← hAe]; exact Or.inr h
  have hw : Wd dC dI A s.heap s.heap [] w0 := ⟨hP, hD, va_S.rf⟩
  have hF : FE ksC [(51, 0, 10)] w0 w0 := FE.rf
  have hl := lv_entry ([.ref (ad 158), .int a1, .int a2]) (n := 4) (Nat.le_of_ble_eq_true rfl)
  rw [lg_entry_eq]
  generalize (lg_sl ([.ref (ad 158), .int a1, .int a2]) ++ List.replicate (4 - (lg_sl ([.ref (ad 158), .int a1, .int a2])).length) Slot.unset).toArray = ls at hl ⊢
  have hl : lv_has ls 4 [(0, .ref (ad 158)), (1, .int a1), (2, .int a2)] := hl
  generalize hloc : ([] : List Loc) = locs at hw ⊢
  have hinX10 : ∀ w ∈ u_ws RX10 TX10 5, w ∈ wsX10_leastBelow := fun _ h => List.mem_cons_of_mem _ (List.mem_append_left _ (List.mem_append_left _ (List.mem_append_right _ (h))))
  have hinX5 : ∀ w ∈ u_ws RX5 TX5 14, w ∈ wsX10_leastBelow := fun _ h => List.mem_cons_of_mem _ (List.mem_append_left _ (List.mem_append_right _ (h)))
  have L9 : ∀ (n9 : Nat) (v9_3 : Int32) (H : Heap) (locs : List Loc) (ls : Array Slot) (w1 : va_W), 0 ≤ a1.toInt → a1.toInt ≤ 6 → 0 ≤ a2.toInt → a2.toInt ≤ 8191 → 0 ≤ v9_3.toInt → v9_3.toInt ≤ 6 → (6 - v9_3.toInt).toNat < n9 → Wd dC dI A s.heap H locs w1 → TW ksC ad cy B qr s1 w1 → FE ksC [(51, 0, 10)] w0 w1 → lv_has ls 4 [(0, .ref (ad 158)), (1, .int a1), (2, .int a2), (3, .int v9_3)] → W p l e ({ frames := 9, cells := 0, slots := 0, locals := 197 }) s m (List.toArray [.ref (ad 158), .int a1, .int a2]) below meth c H locs 0 0 (MQ below (va_Qi (P_X10_leastBelow_7 ad cy B qr s1 a1 a2 w0) (fun u : va_W => wpost dC dI cy A u) A) (List.toArray [.ref (ad 158), .int a1, .int a2]) s 0 0 A) (F0 m 9 ls []) := by
    intro n9
    induction n9 with
    | zero => intro v9_3 H locs ls w1 r2 t3 r4 t5 r6 t7 hm9 hw hT hF hl; omega
    | succ n9 ih9 =>
      intro v9_3 H locs ls w1 r2 t3 r4 t5 r6 t7 hm9 hw hT hF hl
      refine lv_iload_n hx hb dX10_leastBelow_9 rfl (lv_at hl 3 rfl) ?_
      refine lv_aload_n hx hb dX10_leastBelow_10 rfl (lv_at hl 0 rfl) ?_
      refine tk_getA hC hK hw hT hinX10 kC_at158 (by decide) rfl 0 (by decide) (List.mem_of_getElem? (i := 1) rfl) rfl rfl dX10_leastBelow_11 ?_
      refine tk_geti hC hK hw hT hinX5 kC_at38 (by decide) rfl 10 (by decide) (List.mem_of_getElem? (i := 2) rfl) rfl rfl dX10_leastBelow_14 (fun x8 c9 rx8 tx8 => ?_)
      refine lv_icmp_ge (tgt := 36) hx hb dX10_leastBelow_17 (by decide) (fun c10 => ?_) (fun c10 => ?_)
      · have c10 : x8.toInt ≤ v9_3.toInt := wk_le.mp c10
        refine lv_iload_n hx hb dX10_leastBelow_36 rfl (lv_at hl 1 rfl) ?_
        refine lv_if_gt (tgt := 42) hx hb dX10_leastBelow_37 (by decide) (fun c11 => ?_) (fun c11 => ?_)
        · have c11 : (0 : Int) < a1.toInt := wk_lt.mp c11
          refine lv_aload_n hx hb dX10_leastBelow_42 rfl (lv_at hl 0 rfl) ?_
          refine lv_iload_n hx hb dX10_leastBelow_43 rfl (lv_at hl 1 rfl) ?_
          refine lv_iconst (v := 1) hx hb dX10_leastBelow_44 (by decide) ?_
          refine lv_isub hx hb dX10_leastBelow_45 ?_
          refine lv_topi (fun x12 ex12 => ?_)
          have ex12 : x12.toInt = a1.toInt - (1 : Int) := by rw [ex12]; exact wk_sub (show (-2147483648) ≤ a1.toInt - (1 : Int) by omega) (show a1.toInt - (1 : Int) ≤ 2147483647 by omega)
          refine lv_iload_n hx hb dX10_leastBelow_46 rfl (lv_at hl 2 rfl) ?_
          refine tk_Vi hC hK hw hT hA hE hSR kC_at158 (by decide) rfl (k_X10_leastBelow_8 l adK adV dC dI cy ad B (by omega) (by omega) qr s1   x12 (show 0 ≤ x12.toInt by omega) (show x12.toInt ≤ 5 by omega) a2 (show 0 ≤ a2.toInt by omega) (show a2.toInt ≤ 8191 by omega) w1 H.size hT ) (cwV 2 hC.2.2.2.2 gX10_leastBelow_X10_leastBelow rfl rfl rfl (by decide +kernel) ⟨Nat.le_of_ble_eq_true rfl, Nat.le_of_ble_eq_true rfl⟩) rfl hl.1 rfl (Nat.le_of_ble_eq_true rfl) dX10_leastBelow_47 (fun r13 w15 H locs hp14 hw => ?_)
          obtain ⟨hT, k16, hg21⟩ := hp14
          have hF := hF.tr k16 (by decide)
          have c22 := k16.gi kC_at38 (by decide) c9
          rcases hg21 with ⟨g17, g18⟩ | ⟨rfl, ⟨x19, c20, rx19, tx19⟩⟩
          · refine lv_istore_n (lv' := [(3, .int r13), (0, .ref (ad 158)), (1, .int a1), (2, .int a2)]) hx hb dX10_leastBelow_50 rfl hl (by decide) rfl (fun ls hl => ?_)
            refine lv_iload_n hx hb dX10_leastBelow_51 rfl (lv_at hl 0 rfl) ?_
            refine lv_iconst (v := (-1)) hx hb dX10_leastBelow_52 (by decide) ?_
            refine lv_icmp_eq (tgt := 60) hx hb dX10_leastBelow_53 (by decide) (fun c => absurd c (fun h => absurd (show r13.toInt = (-1 : Int) from wk_eq.mp h) (by omega))) (fun _ => ?_)
            refine lv_iload_n hx hb dX10_leastBelow_56 rfl (lv_at hl 0 rfl) ?_
            refine lv_goto (tgt := 74) hx hb dX10_leastBelow_57 (by decide) ?_
            exact tk_iret hC hr hlocks hK ⟨hT, hF, (Or.inl ⟨(show 0 ≤ r13.toInt by omega), (show r13.toInt ≤ 8191 by omega)⟩)⟩ hw dX10_leastBelow_74
          · have ex19 : x19.toInt = x8.toInt := by rw [← c22.symm.trans c20]
            refine lv_istore_n (lv' := [(3, .int (-1)), (0, .ref (ad 158)), (1, .int a1), (2, .int a2)]) hx hb dX10_leastBelow_50 rfl hl (by decide) rfl (fun ls hl => ?_)
            refine lv_iload_n hx hb dX10_leastBelow_51 rfl (lv_at hl 0 rfl) ?_
            refine lv_iconst (v := (-1)) hx hb dX10_leastBelow_52 (by decide) ?_
            refine lv_icmp_eq (tgt := 60) hx hb dX10_leastBelow_53 (by decide) (fun _ => ?_) (fun c => absurd (by decide) c)
            refine lv_aload_n hx hb dX10_leastBelow_60 rfl (lv_at hl 1 rfl) ?_
            refine lv_iload_n hx hb dX10_leastBelow_61 rfl (lv_at hl 2 rfl) ?_
            refine lv_iconst (v := 1) hx hb dX10_leastBelow_62 (by decide) ?_
            refine lv_isub hx hb dX10_leastBelow_63 ?_
            refine lv_topi (fun x23 ex23 => ?_)
            have ex23 : x23.toInt = a1.toInt - (1 : Int) := by rw [ex23]; exact wk_sub (show (-2147483648) ≤ a1.toInt - (1 : Int) by omega) (show a1.toInt - (1 : Int) ≤ 2147483647 by omega)
            refine lv_iload_n hx hb dX10_leastBelow_64 rfl (lv_at hl 3 rfl) ?_
            refine lv_iconst (v := 1) hx hb dX10_leastBelow_65 (by decide) ?_
            refine lv_iload_n hx hb dX10_leastBelow_66 rfl (lv_at hl 2 rfl) ?_
            refine lv_iconst (v := 1) hx hb dX10_leastBelow_67 (by decide) ?_
            refine lv_isub hx hb dX10_leastBelow_68 ?_
            refine lv_topi (fun x24 ex24 => ?_)
            have ex24 : x24.toInt = a1.toInt - (1 : Int) := by rw [ex24]; exact wk_sub (show (-2147483648) ≤ a1.toInt - (1 : Int) by omega) (show a1.toInt - (1 : Int) ≤ 2147483647 by omega)
            refine lv_ishl hx hb dX10_leastBelow_69 ?_
            refine lv_topi (fun x25 ex25 => ?_)
            have bx25 : 1 ≤ x25.toInt ∧ x25.toInt ≤ 32 := by rw [ex25]; exact wk_shl1 5 (by decide) (by omega) (by omega)
            refine lv_ior hx hb dX10_leastBelow_70 ?_
            refine lv_topi (fun x26 ex26 => ?_)
            have bx26 : 0 ≤ x26.toInt ∧ x26.toInt < 8192 := by rw [ex26]; exact wk_or 13 (by decide) (by omega) (by omega) (by omega) (by omega)
            have mx26 : a2.toInt ≤ x26.toInt ∧ x25.toInt ≤ x26.toInt := by rw [ex26]; exact wk_orL 13 (by decide) (by omega) (by omega) (by omega) (by omega)
            refine tk_Vi hC hK hw hT hA hE hSR kC_at158 (by decide) rfl (k_X10_leastBelow_8 l adK adV dC dI cy ad B (by omega) (by omega) qr s1   x23 (show 0 ≤ x23.toInt by omega) (show x23.toInt ≤ 5 by omega) x26 (show 0 ≤ x26.toInt by omega) (show x26.toInt ≤ 8191 by omega) w15 H.size hT ) (cwV 2 hC.2.2.2.2 gX10_leastBelow_X10_leastBelow rfl rfl rfl (by decide +kernel) ⟨Nat.le_of_ble_eq_true rfl, Nat.le_of_ble_eq_true rfl⟩) rfl hl.1 rfl (Nat.le_of_ble_eq_true rfl) dX10_leastBelow_71 (fun r27 w29 H locs hp28 hw => ?_)
            obtain ⟨hT, k30, hg35⟩ := hp28
            have hF := hF.tr k30 (by decide)
            have c36 := k30.gi kC_at38 (by decide) c22
            rcases hg35 with ⟨g31, g32⟩ | ⟨rfl, ⟨x33, c34, rx33, tx33⟩⟩
            · exact tk_iret hC hr hlocks hK ⟨hT, hF, (Or.inl ⟨(show 0 ≤ r27.toInt by omega), (show r27.toInt ≤ 8191 by omega)⟩)⟩ hw dX10_leastBelow_74
            · have ex33 : x33.toInt = x8.toInt := by rw [← c36.symm.trans c34]
              exact tk_iret hC hr hlocks hK ⟨hT, hF, (Or.inr ⟨rfl, ⟨x8, c36, (show 1 ≤ x8.toInt by omega), (show x8.toInt ≤ 6 by omega)⟩⟩)⟩ hw dX10_leastBelow_74
        · have c11 : a1.toInt ≤ (0 : Int) := wk_ltF c11
          refine lv_iload_n hx hb dX10_leastBelow_40 rfl (lv_at hl 2 rfl) ?_
          exact tk_iret hC hr hlocks hK ⟨hT, hF, (Or.inl ⟨(show 0 ≤ a2.toInt by omega), (show a2.toInt ≤ 8191 by omega)⟩)⟩ hw dX10_leastBelow_41
      · have c10 : v9_3.toInt < x8.toInt := wk_leF c10
        refine lv_aload_n hx hb dX10_leastBelow_20 rfl (lv_at hl 0 rfl) ?_
        refine lv_iload_n hx hb dX10_leastBelow_21 rfl (lv_at hl 3 rfl) ?_
        refine tk_Vi hC hK hw hT hA hE hSR kC_at158 (by decide) rfl (k_X10_canDo_1 l adK adV dC dI cy ad B (by omega) (by omega) qr s1   v9_3 (show 0 ≤ v9_3.toInt by omega) (show v9_3.toInt ≤ 5 by omega) w1 H.size hT ) (cwV 1 hC.2.2.2.2 gX10_leastBelow_X10_canDo rfl rfl rfl (by decide +kernel) ⟨Nat.le_of_ble_eq_true rfl, Nat.le_of_ble_eq_true rfl⟩) rfl hl.1 rfl (Nat.le_of_ble_eq_true rfl) dX10_leastBelow_22 (fun r37 w39 H locs hp38 hw => ?_)
        obtain ⟨hT, k40, hg41⟩ := hp38
        have hF := hF.tr k40 (by decide)
        have c42 := k40.gi kC_at38 (by decide) c9
        rcases hg41 with rfl | rfl
        · refine lv_if_ne (tgt := 30) hx hb dX10_leastBelow_25 (by decide) (fun c => absurd (by decide) c) (fun _ => ?_)
          refine lv_iconst (v := (-1)) hx hb dX10_leastBelow_28 (by decide) ?_
          exact tk_iret hC hr hlocks hK ⟨hT, hF, (Or.inr ⟨rfl, ⟨x8, c42, (show 1 ≤ x8.toInt by omega), (show x8.toInt ≤ 6 by omega)⟩⟩)⟩ hw dX10_leastBelow_29
        · refine lv_if_ne (tgt := 30) hx hb dX10_leastBelow_25 (by decide) (fun _ => ?_) (fun c => absurd c (by decide))
          obtain ⟨x43, ex43⟩ : ∃ y : Int32, y = v9_3 + Int32.ofInt 1 := ⟨_, rfl⟩
          refine lv_iinc (v := x43) (lv' := [(3, .int x43), (0, .ref (ad 158)), (1, .int a1), (2, .int a2)]) hx hb dX10_leastBelow_30 hl (k := 3) rfl ex43.symm (by decide) rfl (fun ls hl => ?_)
          have ex43 : x43.toInt = v9_3.toInt + 1 := by rw [ex43]; exact wk_add (y := 1) (show -2147483648 ≤ v9_3.toInt + 1 by omega) (show v9_3.toInt + 1 ≤ 2147483647 by omega)
          refine lv_goto (tgt := 9) hx hb dX10_leastBelow_33 (by decide) ?_
          exact ih9 x43 H locs ls w39 (show 0 ≤ a1.toInt by omega) (show a1.toInt ≤ 6 by omega) (show 0 ≤ a2.toInt by omega) (show a2.toInt ≤ 8191 by omega) (show 0 ≤ x43.toInt by omega) (show x43.toInt ≤ 6 by omega) (show (6 - x43.toInt).toNat < n9 by omega) hw hT hF  (lv_sub hl [1, 2, 3, 0] rfl)
  refine lv_aload_n hx hb dX10_leastBelow_0 rfl (lv_at hl 0 rfl) ?_
  refine lv_iload_n hx hb dX10_leastBelow_1 rfl (lv_at hl 1 rfl) ?_
  refine lv_iload_n hx hb dX10_leastBelow_2 rfl (lv_at hl 2 rfl) ?_
  refine lv_iconst (v := (-1)) hx hb dX10_leastBelow_3 (by decide) ?_
  refine tk_Vv hC hK hw hT hA hE hSR kC_at158 (by decide) rfl (k_X10_layRoads_1 l adK adV dC dI cy ad B (by omega) (by omega) qr s1   a1 (show 0 ≤ a1.toInt by omega) (show a1.toInt ≤ 12 by omega) a2 (show 0 ≤ a2.toInt by omega) (show a2.toInt ≤ 8191 by omega) ((-1)) (by decide) (by decide) w0 s.heap.size hT ) (cwV 3 hC.2.2.2.2 gX10_leastBelow_X10_layRoads rfl rfl rfl (by decide +kernel) ⟨Nat.le_of_ble_eq_true rfl, Nat.le_of_ble_eq_true rfl⟩) rfl hl.1 rfl (Nat.le_of_ble_eq_true rfl) dX10_leastBelow_4 (fun w46 H locs hp45 hw => ?_)
  obtain ⟨hT, k47, hg48⟩ := hp45
  have hF := hF.tr k47 (by decide)
  clear hg48
  refine lv_iconst (v := 0) hx hb dX10_leastBelow_7 (by decide) ?_
  refine lv_istore_n (lv' := [(3, .int 0), (0, .ref (ad 158)), (1, .int a1), (2, .int a2)]) hx hb dX10_leastBelow_8 rfl hl (by decide) rfl (fun ls hl => ?_)
  exact L9 ((6 - (0 : Int)).toNat + 1) 0 H locs ls w46 (show 0 ≤ a1.toInt by omega) (show a1.toInt ≤ 6 by omega) (show 0 ≤ a2.toInt by omega) (show a2.toInt ≤ 8191 by omega) (by decide) (by decide) (Nat.lt_succ_self _) hw hT hF  (lv_sub hl [1, 2, 3, 0] rfl)
abbrev P_X10_leastBelow_6 (ad : Nat → Nat) (cy : Nat → ClassId) (B : Int) (qr : Nat) (s1 : Int) (a1 : Int32) (a2 : Int32) (w0 : va_W) : Int32 → va_W → Prop := fun r u => TW ksC ad cy B qr s1 u ∧ FE ksC [(51, 0, 10)] w0 u ∧ ((0 ≤ r.toInt ∧ r.toInt ≤ 8191) ∨ (r = (-1) ∧ (∃ y : Int32, gi u 38 10 = y ∧ 1 ≤ y.toInt ∧ y.toInt ≤ 6)))
set_option maxHeartbeats 4000000 in
set_option maxRecDepth 100000 in
theorem k_X10_leastBelow_6 (l : Launch) (adK adV : Nat → Nat) (dC : Nat → ClassId) (dI : Nat → Nat → Nat) (cy : Nat → ClassId) (ad : Nat → Nat) (B : Int) (hB0 : 2147483648 ≤ B) (hB1 : B ≤ 1152921504606846976) (qr : Nat) (s1 : Int)  (a1 : Int32) (ra1 : 0 ≤ a1.toInt) (ta1 : a1.toInt ≤ 7) (a2 : Int32) (ra2 : 0 ≤ a2.toInt) (ta2 : a2.toInt ≤ 8191) (w0 : va_W) (sz : Nat) (hT : TW ksC ad cy B qr s1 w0)  : Met l yX10_leastBelow wsX10_leastBelow ({ frames := 10, cells := 0, slots := 0, locals := 220 }) (va_Pc [.ref (ad 158), .int a1, .int a2] (wpreS adK adV dC dI cy sz w0)) (va_Qi (P_X10_leastBelow_6 ad cy B qr s1 a1 a2 w0) (fun u : va_W => wpost dC dI cy (va_A w0 sz) u) (va_A w0 sz)) 0 0 (va_A w0 sz) := by
  refine Met.ofW (cc := cX10_leastBelow) (maxL := 4) (ret := (some .int)) (by decide) rfl ?_
  intro p e s m args below meth c s₁ Bk hml hv
  obtain ⟨rfl, ⟨hsz, hP, hK, hD0⟩, hE, hSR⟩ := hv
  have hx := Bk.exec
  have hb := Bk.bytes
  have hr := Bk.returns
  have hlocks := Bk.notSynchronized
  have hC : CallFix p m c cX10_leastBelow 4 s _ wsX10_leastBelow RX10 := ⟨hx, hb, hml, findClass_of_methodNamed Bk.named, atoms_spec (ws := wsX10_leastBelow) Bk.pre⟩
  subst hsz
  have hD := hD0.self (sz := s.heap.size)
  generalize hAe : va_A w0 s.heap.size = A at hD hE ⊢
  have hA : ∀ q : Nat, s.heap.size ≤ q → A q := fun q h => by rw [← hAe]; exact Or.inr h
  have hw : Wd dC dI A s.heap s.heap [] w0 := ⟨hP, hD, va_S.rf⟩
  have hF : FE ksC [(51, 0, 10)] w0 w0 := FE.rf
  have hl := lv_entry ([.ref (ad 158), .int a1, .int a2]) (n := 4) (Nat.le_of_ble_eq_true rfl)
  rw [lg_entry_eq]
  generalize (lg_sl ([.ref (ad 158), .int a1, .int a2]) ++ List.replicate (4 - (lg_sl ([.ref (ad 158), .int a1, .int a2])).length) Slot.unset).toArray = ls at hl ⊢
  have hl : lv_has ls 4 [(0, .ref (ad 158)), (1, .int a1), (2, .int a2)] := hl
  generalize hloc : ([] : List Loc) = locs at hw ⊢
  have hinX10 : ∀ w ∈ u_ws RX10 TX10 5, w ∈ wsX10_leastBelow := fun _ h => List.mem_cons_of_mem _ (List.mem_append_left _ (List.mem_append_left _ (List.mem_append_right _ (h))))
  have hinX5 : ∀ w ∈ u_ws RX5 TX5 14, w ∈ wsX10_leastBelow := fun _ h => List.mem_cons_of_mem _ (List.mem_append_left _ (List.mem_append_right _ (h)))
  have L9 : ∀ (n9 : Nat) (v9_3 : Int32) (H : Heap) (locs : List Loc) (ls : Array Slot) (w1 : va_W), 0 ≤ a1.toInt → a1.toInt ≤ 7 → 0 ≤ a2.toInt → a2.toInt ≤ 8191 → 0 ≤ v9_3.toInt → v9_3.toInt ≤ 6 → (6 - v9_3.toInt).toNat < n9 → Wd dC dI A s.heap H locs w1 → TW ksC ad cy B qr s1 w1 → FE ksC [(51, 0, 10)] w0 w1 → lv_has ls 4 [(0, .ref (ad 158)), (1, .int a1), (2, .int a2), (3, .int v9_3)] → W p l e ({ frames := 10, cells := 0, slots := 0, locals := 220 }) s m (List.toArray [.ref (ad 158), .int a1, .int a2]) below meth c H locs 0 0 (MQ below (va_Qi (P_X10_leastBelow_6 ad cy B qr s1 a1 a2 w0) (fun u : va_W => wpost dC dI cy A u) A) (List.toArray [.ref (ad 158), .int a1, .int a2]) s 0 0 A) (F0 m 9 ls []) := by
    intro n9
    induction n9 with
    | zero => intro v9_3 H locs ls w1 r2 t3 r4 t5 r6 t7 hm9 hw hT hF hl; omega
    | succ n9 ih9 =>
      intro v9_3 H locs ls w1 r2 t3 r4 t5 r6 t7 hm9 hw hT hF hl
      refine lv_iload_n hx hb dX10_leastBelow_9 rfl (lv_at hl 3 rfl) ?_
      refine lv_aload_n hx hb dX10_leastBelow_10 rfl (lv_at hl 0 rfl) ?_
      refine tk_getA hC hK hw hT hinX10 kC_at158 (by decide) rfl 0 (by decide) (List.mem_of_getElem? (i := 1) rfl) rfl rfl dX10_leastBelow_11 ?_
      refine tk_geti hC hK hw hT hinX5 kC_at38 (by decide) rfl 10 (by decide) (List.mem_of_getElem? (i := 2) rfl) rfl rfl dX10_leastBelow_14 (fun x8 c9 rx8 tx8 => ?_)
      refine lv_icmp_ge (tgt := 36) hx hb dX10_leastBelow_17 (by decide) (fun c10 => ?_) (fun c10 => ?_)
      · have c10 : x8.toInt ≤ v9_3.toInt := wk_le.mp c10
        refine lv_iload_n hx hb dX10_leastBelow_36 rfl (lv_at hl 1 rfl) ?_
        refine lv_if_gt (tgt := 42) hx hb dX10_leastBelow_37 (by decide) (fun c11 => ?_) (fun c11 => ?_)
        · have c11 : (0 : Int) < a1.toInt := wk_lt.mp c11
          refine lv_aload_n hx hb dX10_leastBelow_42 rfl (lv_at hl 0 rfl) ?_
          refine lv_iload_n hx hb dX10_leastBelow_43 rfl (lv_at hl 1 rfl) ?_
          refine lv_iconst (v := 1) hx hb dX10_leastBelow_44 (by decide) ?_
          refine lv_isub hx hb dX10_leastBelow_45 ?_
          refine lv_topi (fun x12 ex12 => ?_)
          have ex12 : x12.toInt = a1.toInt - (1 : Int) := by rw [ex12]; exact wk_sub (show (-2147483648) ≤ a1.toInt - (1 : Int) by omega) (show a1.toInt - (1 : Int) ≤ 2147483647 by omega)
          refine lv_iload_n hx hb dX10_leastBelow_46 rfl (lv_at hl 2 rfl) ?_
          refine tk_Vi hC hK hw hT hA hE hSR kC_at158 (by decide) rfl (k_X10_leastBelow_7 l adK adV dC dI cy ad B (by omega) (by omega) qr s1   x12 (show 0 ≤ x12.toInt by omega) (show x12.toInt ≤ 6 by omega) a2 (show 0 ≤ a2.toInt by omega) (show a2.toInt ≤ 8191 by omega) w1 H.size hT ) (cwV 2 hC.2.2.2.2 gX10_leastBelow_X10_leastBelow rfl rfl rfl (by decide +kernel) ⟨Nat.le_of_ble_eq_true rfl, Nat.le_of_ble_eq_true rfl⟩) rfl hl.1 rfl (Nat.le_of_ble_eq_true rfl) dX10_leastBelow_47 (fun r13 w15 H locs hp14 hw => ?_)
          obtain ⟨hT, k16, hg21⟩ := hp14
          have hF := hF.tr k16 (by decide)
          have c22 := k16.gi kC_at38 (by decide) c9
          rcases hg21 with ⟨g17, g18⟩ | ⟨rfl, ⟨x19, c20, rx19, tx19⟩⟩
          · refine lv_istore_n (lv' := [(3, .int r13), (0, .ref (ad 158)), (1, .int a1), (2, .int a2)]) hx hb dX10_leastBelow_50 rfl hl (by decide) rfl (fun ls hl => ?_)
            refine lv_iload_n hx hb dX10_leastBelow_51 rfl (lv_at hl 0 rfl) ?_
            refine lv_iconst (v := (-1)) hx hb dX10_leastBelow_52 (by decide) ?_
            refine lv_icmp_eq (tgt := 60) hx hb dX10_leastBelow_53 (by decide) (fun c => absurd c (fun h => absurd (show r13.toInt = (-1 : Int) from wk_eq.mp h) (by omega))) (fun _ => ?_)
            refine lv_iload_n hx hb dX10_leastBelow_56 rfl (lv_at hl 0 rfl) ?_
            refine lv_goto (tgt := 74) hx hb dX10_leastBelow_57 (by decide) ?_
            exact tk_iret hC hr hlocks hK ⟨hT, hF, (Or.inl ⟨(show 0 ≤ r13.toInt by omega), (show r13.toInt ≤ 8191 by omega)⟩)⟩ hw dX10_leastBelow_74
          · have ex19 : x19.toInt = x8.toInt := by rw [← c22.symm.trans c20]
            refine lv_istore_n (lv' := [(3, .int (-1)), (0, .ref (ad 158)), (1, .int a1), (2, .int a2)]) hx hb dX10_leastBelow_50 rfl hl (by decide) rfl (fun ls hl => ?_)
            refine lv_iload_n hx hb dX10_leastBelow_51 rfl (lv_at hl 0 rfl) ?_
            refine lv_iconst (v := (-1)) hx hb dX10_leastBelow_52 (by decide) ?_
            refine lv_icmp_eq (tgt := 60) hx hb dX10_leastBelow_53 (by decide) (fun _ => ?_) (fun c => absurd (by decide) c)
            refine lv_aload_n hx hb dX10_leastBelow_60 rfl (lv_at hl 1 rfl) ?_
            refine lv_iload_n hx hb dX10_leastBelow_61 rfl (lv_at hl 2 rfl) ?_
            refine lv_iconst (v := 1) hx hb dX10_leastBelow_62 (by decide) ?_
            refine lv_isub hx hb dX10_leastBelow_63 ?_
            refine lv_topi (fun x23 ex23 => ?_)
            have ex23 : x23.toInt = a1.toInt - (1 : Int) := by rw [ex23]; exact wk_sub (show (-2147483648) ≤ a1.toInt - (1 : Int) by omega) (show a1.toInt - (1 : Int) ≤ 2147483647 by omega)
            refine lv_iload_n hx hb dX10_leastBelow_64 rfl (lv_at hl 3 rfl) ?_
            refine lv_iconst (v := 1) hx hb dX10_leastBelow_65 (by decide) ?_
            refine lv_iload_n hx hb dX10_leastBelow_66 rfl (lv_at hl 2 rfl) ?_
            refine lv_iconst (v := 1) hx hb dX10_leastBelow_67 (by decide) ?_
            refine lv_isub hx hb dX10_leastBelow_68 ?_
            refine lv_topi (fun x24 ex24 => ?_)
            have ex24 : x24.toInt = a1.toInt - (1 : Int) := by rw [ex24]; exact wk_sub (show (-2147483648) ≤ a1.toInt - (1 : Int) by omega) (show a1.toInt - (1 : Int) ≤ 2147483647 by omega)
            refine lv_ishl hx hb dX10_leastBelow_69 ?_
            refine lv_topi (fun x25 ex25 => ?_)
            have bx25 : 1 ≤ x25.toInt ∧ x25.toInt ≤ 64 := by rw [ex25]; exact wk_shl1 6 (by decide) (by omega) (by omega)
            refine lv_ior hx hb dX10_leastBelow_70 ?_
            refine lv_topi (fun x26 ex26 => ?_)
            have bx26 : 0 ≤ x26.toInt ∧ x26.toInt < 8192 := by rw [ex26]; exact wk_or 13 (by decide) (by omega) (by omega) (by omega) (by omega)
            have mx26 : a2.toInt ≤ x26.toInt ∧ x25.toInt ≤ x26.toInt := by rw [ex26]; exact wk_orL 13 (by decide) (by omega) (by omega) (by omega) (by omega)
            refine tk_Vi hC hK hw hT hA hE hSR kC_at158 (by decide) rfl (k_X10_leastBelow_7 l adK adV dC dI cy ad B (by omega) (by omega) qr s1   x23 (show 0 ≤ x23.toInt by omega) (show x23.toInt ≤ 6 by omega) x26 (show 0 ≤ x26.toInt by omega) (show x26.toInt ≤ 8191 by omega) w15 H.size hT ) (cwV 2 hC.2.2.2.2 gX10_leastBelow_X10_leastBelow rfl rfl rfl (by decide +kernel) ⟨Nat.le_of_ble_eq_true rfl, Nat.le_of_ble_eq_true rfl⟩) rfl hl.1 rfl (Nat.le_of_ble_eq_true rfl) dX10_leastBelow_71 (fun r27 w29 H locs hp28 hw => ?_)
            obtain ⟨hT, k30, hg35⟩ := hp28
            have hF := hF.tr k30 (by decide)
            have c36 := k30.gi kC_at38 (by decide) c22
            rcases hg35 with ⟨g31, g32⟩ | ⟨rfl, ⟨x33, c34, rx33, tx33⟩⟩
            · exact tk_iret hC hr hlocks hK ⟨hT, hF, (Or.inl ⟨(show 0 ≤ r27.toInt by omega), (show r27.toInt ≤ 8191 by omega)⟩)⟩ hw dX10_leastBelow_74
            · have ex33 : x33.toInt = x8.toInt := by rw [← c36.symm.trans c34]
              exact tk_iret hC hr hlocks hK ⟨hT, hF, (Or.inr ⟨rfl, ⟨x8, c36, (show 1 ≤ x8.toInt by omega), (show x8.toInt ≤ 6 by omega)⟩⟩)⟩ hw dX10_leastBelow_74
        · have c11 : a1.toInt ≤ (0 : Int) := wk_ltF c11
          refine lv_iload_n hx hb dX10_leastBelow_40 rfl (lv_at hl 2 rfl) ?_
          exact tk_iret hC hr hlocks hK ⟨hT, hF, (Or.inl ⟨(show 0 ≤ a2.toInt by omega), (show a2.toInt ≤ 8191 by omega)⟩)⟩ hw dX10_leastBelow_41
      · have c10 : v9_3.toInt < x8.toInt := wk_leF c10
        refine lv_aload_n hx hb dX10_leastBelow_20 rfl (lv_at hl 0 rfl) ?_
        refine lv_iload_n hx hb dX10_leastBelow_21 rfl (lv_at hl 3 rfl) ?_
        refine tk_Vi hC hK hw hT hA hE hSR kC_at158 (by decide) rfl (k_X10_canDo_1 l adK adV dC dI cy ad B (by omega) (by omega) qr s1   v9_3 (show 0 ≤ v9_3.toInt by omega) (show v9_3.toInt ≤ 5 by omega) w1 H.size hT ) (cwV 1 hC.2.2.2.2 gX10_leastBelow_X10_canDo rfl rfl rfl (by decide +kernel) ⟨Nat.le_of_ble_eq_true rfl, Nat.le_of_ble_eq_true rfl⟩) rfl hl.1 rfl (Nat.le_of_ble_eq_true rfl) dX10_leastBelow_22 (fun r37 w39 H locs hp38 hw => ?_)
        obtain ⟨hT, k40, hg41⟩ := hp38
        have hF := hF.tr k40 (by decide)
        have c42 := k40.gi kC_at38 (by decide) c9
        rcases hg41 with rfl | rfl
        · refine lv_if_ne (tgt := 30) hx hb dX10_leastBelow_25 (by decide) (fun c => absurd (by decide) c) (fun _ => ?_)
          refine lv_iconst (v := (-1)) hx hb dX10_leastBelow_28 (by decide) ?_
          exact tk_iret hC hr hlocks hK ⟨hT, hF, (Or.inr ⟨rfl, ⟨x8, c42, (show 1 ≤ x8.toInt by omega), (show x8.toInt ≤ 6 by omega)⟩⟩)⟩ hw dX10_leastBelow_29
        · refine lv_if_ne (tgt := 30) hx hb dX10_leastBelow_25 (by decide) (fun _ => ?_) (fun c => absurd c (by decide))
          obtain ⟨x43, ex43⟩ : ∃ y : Int32, y = v9_3 + Int32.ofInt 1 := ⟨_, rfl⟩
          refine lv_iinc (v := x43) (lv' := [(3, .int x43), (0, .ref (ad 158)), (1, .int a1), (2, .int a2)]) hx hb dX10_leastBelow_30 hl (k := 3) rfl ex43.symm (by decide) rfl (fun ls hl => ?_)
          have ex43 : x43.toInt = v9_3.toInt + 1 := by rw [ex43]; exact wk_add (y := 1) (show -2147483648 ≤ v9_3.toInt + 1 by omega) (show v9_3.toInt + 1 ≤ 2147483647 by omega)
          refine lv_goto (tgt := 9) hx hb dX10_leastBelow_33 (by decide) ?_
          exact ih9 x43 H locs ls w39 (show 0 ≤ a1.toInt by omega) (show a1.toInt ≤ 7 by omega) (show 0 ≤ a2.toInt by omega) (show a2.toInt ≤ 8191 by omega) (show 0 ≤ x43.toInt by omega) (show x43.toInt ≤ 6 by omega) (show (6 - x43.toInt).toNat < n9 by omega) hw hT hF  (lv_sub hl [1, 2, 3, 0] rfl)
  refine lv_aload_n hx hb dX10_leastBelow_0 rfl (lv_at hl 0 rfl) ?_
  refine lv_iload_n hx hb dX10_leastBelow_1 rfl (lv_at hl 1 rfl) ?_
  refine lv_iload_n hx hb dX10_leastBelow_2 rfl (lv_at hl 2 rfl) ?_
  refine lv_iconst (v := (-1)) hx hb dX10_leastBelow_3 (by decide) ?_
  refine tk_Vv hC hK hw hT hA hE hSR kC_at158 (by decide) rfl (k_X10_layRoads_1 l adK adV dC dI cy ad B (by omega) (by omega) qr s1   a1 (show 0 ≤ a1.toInt by omega) (show a1.toInt ≤ 12 by omega) a2 (show 0 ≤ a2.toInt by omega) (show a2.toInt ≤ 8191 by omega) ((-1)) (by decide) (by decide) w0 s.heap.size hT ) (cwV 3 hC.2.2.2.2 gX10_leastBelow_X10_layRoads rfl rfl rfl (by decide +kernel) ⟨Nat.le_of_ble_eq_true rfl, Nat.le_of_ble_eq_true rfl⟩) rfl hl.1 rfl (Nat.le_of_ble_eq_true rfl) dX10_leastBelow_4 (fun w46 H locs hp45 hw => ?_)
  obtain ⟨hT, k47, hg48⟩ := hp45
  have hF := hF.tr k47 (by decide)
  clear hg48
  refine lv_iconst (v := 0) hx hb dX10_leastBelow_7 (by decide) ?_
  refine lv_istore_n (lv' := [(3, .int 0), (0, .ref (ad 158)), (1, .int a1), (2, .int a2)]) hx hb dX10_leastBelow_8 rfl hl (by decide) rfl (fun ls hl => ?_)
  exact L9 ((6 - (0 : Int)).toNat + 1) 0 H locs ls w46 (show 0 ≤ a1.toInt by omega) (show a1.toInt ≤ 7 by omega) (show 0 ≤ a2.toInt by omega) (show a2.toInt ≤ 8191 by omega) (by decide) (by decide) (Nat.lt_succ_self _) hw hT hF  (lv_sub hl [1, 2, 3, 0] rfl)
abbrev P_X10_leastBelow_5 (ad : Nat → Nat) (cy : Nat → ClassId) (B : Int) (qr : Nat) (s1 : Int) (a1 : Int32) (a2 : Int32) (w0 : va_W) : Int32 → va_W → Prop := fun r u => TW ksC ad cy B qr s1 u ∧ FE ksC [(51, 0, 10)] w0 u ∧ ((0 ≤ r.toInt ∧ r.toInt ≤ 8191) ∨ (r = (-1) ∧ (∃ y : Int32, gi u 38 10 = y ∧ 1 ≤ y.toInt ∧ y.toInt ≤ 6)))
set_option maxHeartbeats 4000000 in
set_option maxRecDepth 100000 in
theorem k_X10_leastBelow_5 (l : Launch) (adK adV : Nat → Nat) (dC : Nat → ClassId) (dI : Nat → Nat → Nat) (cy : Nat → ClassId) (ad : Nat → Nat) (B : Int) (hB0 : 2147483648 ≤ B) (hB1 : B ≤ 1152921504606846976) (qr : Nat) (s1 : Int)  (a1 : Int32) (ra1 : 0 ≤ a1.toInt) (ta1 : a1.toInt ≤ 8) (a2 : Int32) (ra2 : 0 ≤ a2.toInt) (ta2 : a2.toInt ≤ 8191) (w0 : va_W) (sz : Nat) (hT : TW ksC ad cy B qr s1 w0)  : Met l yX10_leastBelow wsX10_leastBelow ({ frames := 11, cells := 0, slots := 0, locals := 243 }) (va_Pc [.ref (ad 158), .int a1, .int a2] (wpreS adK adV dC dI cy sz w0)) (va_Qi (P_X10_leastBelow_5 ad cy B qr s1 a1 a2 w0) (fun u : va_W => wpost dC dI cy (va_A w0 sz) u) (va_A w0 sz)) 0 0 (va_A w0 sz) := by
  refine Met.ofW (cc := cX10_leastBelow) (maxL := 4) (ret := (some .int)) (by decide) rfl ?_
  intro p e s m args below meth c s₁ Bk hml hv
  obtain ⟨rfl, ⟨hsz, hP, hK, hD0⟩, hE, hSR⟩ := hv
  have hx := Bk.exec
  have hb := Bk.bytes
  have hr := Bk.returns
  have hlocks := Bk.notSynchronized
  have hC : CallFix p m c cX10_leastBelow 4 s _ wsX10_leastBelow RX10 := ⟨hx, hb, hml, findClass_of_methodNamed Bk.named, atoms_spec (ws := wsX10_leastBelow) Bk.pre⟩
  subst hsz
  have hD := hD0.self (sz := s.heap.size)
  generalize hAe : va_A w0 s.heap.size = A at hD hE ⊢
  have hA : ∀ q : Nat, s.heap.size ≤ q → A q := fun q h => by rw [← hAe]; exact Or.inr h
  have hw : Wd dC dI A s.heap s.heap [] w0 := ⟨hP, hD, va_S.rf⟩
  have hF : FE ksC [(51, 0, 10)] w0 w0 := FE.rf
  have hl := lv_entry ([.ref (ad 158), .int a1, .int a2]) (n := 4) (Nat.le_of_ble_eq_true rfl)
  rw [lg_entry_eq]
  generalize (lg_sl ([.ref (ad 158), .int a1, .int a2]) ++ List.replicate (4 - (lg_sl ([.ref (ad 158), .int a1, .int a2])).length) Slot.unset).toArray = ls at hl ⊢
  have hl : lv_has ls 4 [(0, .ref (ad 158)), (1, .int a1), (2, .int a2)] := hl
  generalize hloc : ([] : List Loc) = locs at hw ⊢
  have hinX10 : ∀ w ∈ u_ws RX10 TX10 5, w ∈ wsX10_leastBelow := fun _ h => List.mem_cons_of_mem _ (List.mem_append_left _ (List.mem_append_left _ (List.mem_append_right _ (h))))
  have hinX5 : ∀ w ∈ u_ws RX5 TX5 14, w ∈ wsX10_leastBelow := fun _ h => List.mem_cons_of_mem _ (List.mem_append_left _ (List.mem_append_right _ (h)))
  have L9 : ∀ (n9 : Nat) (v9_3 : Int32) (H : Heap) (locs : List Loc) (ls : Array Slot) (w1 : va_W), 0 ≤ a1.toInt → a1.toInt ≤ 8 → 0 ≤ a2.toInt → a2.toInt ≤ 8191 → 0 ≤ v9_3.toInt → v9_3.toInt ≤ 6 → (6 - v9_3.toInt).toNat < n9 → Wd dC dI A s.heap H locs w1 → TW ksC ad cy B qr s1 w1 → FE ksC [(51, 0, 10)] w0 w1 → lv_has ls 4 [(0, .ref (ad 158)), (1, .int a1), (2, .int a2), (3, .int v9_3)] → W p l e ({ frames := 11, cells := 0, slots := 0, locals := 243 }) s m (List.toArray [.ref (ad 158), .int a1, .int a2]) below meth c H locs 0 0 (MQ below (va_Qi (P_X10_leastBelow_5 ad cy B qr s1 a1 a2 w0) (fun u : va_W => wpost dC dI cy A u) A) (List.toArray [.ref (ad 158), .int a1, .int a2]) s 0 0 A) (F0 m 9 ls []) := by
    intro n9
    induction n9 with
    | zero => intro v9_3 H locs ls w1 r2 t3 r4 t5 r6 t7 hm9 hw hT hF hl; omega
    | succ n9 ih9 =>
      intro v9_3 H locs ls w1 r2 t3 r4 t5 r6 t7 hm9 hw hT hF hl
      refine lv_iload_n hx hb dX10_leastBelow_9 rfl (lv_at hl 3 rfl) ?_
      refine lv_aload_n hx hb dX10_leastBelow_10 rfl (lv_at hl 0 rfl) ?_
      refine tk_getA hC hK hw hT hinX10 kC_at158 (by decide) rfl 0 (by decide) (List.mem_of_getElem? (i := 1) rfl) rfl rfl dX10_leastBelow_11 ?_
      refine tk_geti hC hK hw hT hinX5 kC_at38 (by decide) rfl 10 (by decide) (List.mem_of_getElem? (i := 2) rfl) rfl rfl dX10_leastBelow_14 (fun x8 c9 rx8 tx8 => ?_)
      refine lv_icmp_ge (tgt := 36) hx hb dX10_leastBelow_17 (by decide) (fun c10 => ?_) (fun c10 => ?_)
      · have c10 : x8.toInt ≤ v9_3.toInt := wk_le.mp c10
        refine lv_iload_n hx hb dX10_leastBelow_36 rfl (lv_at hl 1 rfl) ?_
        refine lv_if_gt (tgt := 42) hx hb dX10_leastBelow_37 (by decide) (fun c11 => ?_) (fun c11 => ?_)
        · have c11 : (0 : Int) < a1.toInt := wk_lt.mp c11
          refine lv_aload_n hx hb dX10_leastBelow_42 rfl (lv_at hl 0 rfl) ?_
          refine lv_iload_n hx hb dX10_leastBelow_43 rfl (lv_at hl 1 rfl) ?_
          refine lv_iconst (v := 1) hx hb dX10_leastBelow_44 (by decide) ?_
          refine lv_isub hx hb dX10_leastBelow_45 ?_
          refine lv_topi (fun x12 ex12 => ?_)
          have ex12 : x12.toInt = a1.toInt - (1 : Int) := by rw [ex12]; exact wk_sub (show (-2147483648) ≤ a1.toInt - (1 : Int) by omega) (show a1.toInt - (1 : Int) ≤ 2147483647 by omega)
          refine lv_iload_n hx hb dX10_leastBelow_46 rfl (lv_at hl 2 rfl) ?_
          refine tk_Vi hC hK hw hT hA hE hSR kC_at158 (by decide) rfl (k_X10_leastBelow_6 l adK adV dC dI cy ad B (by omega) (by omega) qr s1   x12 (show 0 ≤ x12.toInt by omega) (show x12.toInt ≤ 7 by omega) a2 (show 0 ≤ a2.toInt by omega) (show a2.toInt ≤ 8191 by omega) w1 H.size hT ) (cwV 2 hC.2.2.2.2 gX10_leastBelow_X10_leastBelow rfl rfl rfl (by decide +kernel) ⟨Nat.le_of_ble_eq_true rfl, Nat.le_of_ble_eq_true rfl⟩) rfl hl.1 rfl (Nat.le_of_ble_eq_true rfl) dX10_leastBelow_47 (fun r13 w15 H locs hp14 hw => ?_)
          obtain ⟨hT, k16, hg21⟩ := hp14
          have hF := hF.tr k16 (by decide)
          have c22 := k16.gi kC_at38 (by decide) c9
          rcases hg21 with ⟨g17, g18⟩ | ⟨rfl, ⟨x19, c20, rx19, tx19⟩⟩
          · refine lv_istore_n (lv' := [(3, .int r13), (0, .ref (ad 158)), (1, .int a1), (2, .int a2)]) hx hb dX10_leastBelow_50 rfl hl (by decide) rfl (fun ls hl => ?_)
            refine lv_iload_n hx hb dX10_leastBelow_51 rfl (lv_at hl 0 rfl) ?_
            refine lv_iconst (v := (-1)) hx hb dX10_leastBelow_52 (by decide) ?_
            refine lv_icmp_eq (tgt := 60) hx hb dX10_leastBelow_53 (by decide) (fun c => absurd c (fun h => absurd (show r13.toInt = (-1 : Int) from wk_eq.mp h) (by omega))) (fun _ => ?_)
            refine lv_iload_n hx hb dX10_leastBelow_56 rfl (lv_at hl 0 rfl) ?_
            refine lv_goto (tgt := 74) hx hb dX10_leastBelow_57 (by decide) ?_
            exact tk_iret hC hr hlocks hK ⟨hT, hF, (Or.inl ⟨(show 0 ≤ r13.toInt by omega), (show r13.toInt ≤ 8191 by omega)⟩)⟩ hw dX10_leastBelow_74
          · have ex19 : x19.toInt = x8.toInt := by rw [← c22.symm.trans c20]
            refine lv_istore_n (lv' := [(3, .int (-1)), (0, .ref (ad 158)), (1, .int a1), (2, .int a2)]) hx hb dX10_leastBelow_50 rfl hl (by decide) rfl (fun ls hl => ?_)
            refine lv_iload_n hx hb dX10_leastBelow_51 rfl (lv_at hl 0 rfl) ?_
            refine lv_iconst (v := (-1)) hx hb dX10_leastBelow_52 (by decide) ?_
            refine lv_icmp_eq (tgt := 60) hx hb dX10_leastBelow_53 (by decide) (fun _ => ?_) (fun c => absurd (by decide) c)
            refine lv_aload_n hx hb dX10_leastBelow_60 rfl (lv_at hl 1 rfl) ?_
            refine lv_iload_n hx hb dX10_leastBelow_61 rfl (lv_at hl 2 rfl) ?_
            refine lv_iconst (v := 1) hx hb dX10_leastBelow_62 (by decide) ?_
            refine lv_isub hx hb dX10_leastBelow_63 ?_
            refine lv_topi (fun x23 ex23 => ?_)
            have ex23 : x23.toInt = a1.toInt - (1 : Int) := by rw [ex23]; exact wk_sub (show (-2147483648) ≤ a1.toInt - (1 : Int) by omega) (show a1.toInt - (1 : Int) ≤ 2147483647 by omega)
            refine lv_iload_n hx hb dX10_leastBelow_64 rfl (lv_at hl 3 rfl) ?_
            refine lv_iconst (v := 1) hx hb dX10_leastBelow_65 (by decide) ?_
            refine lv_iload_n hx hb dX10_leastBelow_66 rfl (lv_at hl 2 rfl) ?_
            refine lv_iconst (v := 1) hx hb dX10_leastBelow_67 (by decide) ?_
            refine lv_isub hx hb dX10_leastBelow_68 ?_
            refine lv_topi (fun x24 ex24 => ?_)
            have ex24 : x24.toInt = a1.toInt - (1 : Int) := by rw [ex24]; exact wk_sub (show (-2147483648) ≤ a1.toInt - (1 : Int) by omega) (show a1.toInt - (1 : Int) ≤ 2147483647 by omega)
            refine lv_ishl hx hb dX10_leastBelow_69 ?_
            refine lv_topi (fun x25 ex25 => ?_)
            have bx25 : 1 ≤ x25.toInt ∧ x25.toInt ≤ 128 := by rw [ex25]; exact wk_shl1 7 (by decide) (by omega) (by omega)
            refine lv_ior hx hb dX10_leastBelow_70 ?_
            refine lv_topi (fun x26 ex26 => ?_)
            have bx26 : 0 ≤ x26.toInt ∧ x26.toInt < 8192 := by rw [ex26]; exact wk_or 13 (by decide) (by omega) (by omega) (by omega) (by omega)
            have mx26 : a2.toInt ≤ x26.toInt ∧ x25.toInt ≤ x26.toInt := by rw [ex26]; exact wk_orL 13 (by decide) (by omega) (by omega) (by omega) (by omega)
            refine tk_Vi hC hK hw hT hA hE hSR kC_at158 (by decide) rfl (k_X10_leastBelow_6 l adK adV dC dI cy ad B (by omega) (by omega) qr s1   x23 (show 0 ≤ x23.toInt by omega) (show x23.toInt ≤ 7 by omega) x26 (show 0 ≤ x26.toInt by omega) (show x26.toInt ≤ 8191 by omega) w15 H.size hT ) (cwV 2 hC.2.2.2.2 gX10_leastBelow_X10_leastBelow rfl rfl rfl (by decide +kernel) ⟨Nat.le_of_ble_eq_true rfl, Nat.le_of_ble_eq_true rfl⟩) rfl hl.1 rfl (Nat.le_of_ble_eq_true rfl) dX10_leastBelow_71 (fun r27 w29 H locs hp28 hw => ?_)
            obtain ⟨hT, k30, hg35⟩ := hp28
            have hF := hF.tr k30 (by decide)
            have c36 := k30.gi kC_at38 (by decide) c22
            rcases hg35 with ⟨g31, g32⟩ | ⟨rfl, ⟨x33, c34, rx33, tx33⟩⟩
            · exact tk_iret hC hr hlocks hK ⟨hT, hF, (Or.inl ⟨(show 0 ≤ r27.toInt by omega), (show r27.toInt ≤ 8191 by omega)⟩)⟩ hw dX10_leastBelow_74
            · have ex33 : x33.toInt = x8.toInt := by rw [← c36.symm.trans c34]
              exact tk_iret hC hr hlocks hK ⟨hT, hF, (Or.inr ⟨rfl, ⟨x8, c36, (show 1 ≤ x8.toInt by omega), (show x8.toInt ≤ 6 by omega)⟩⟩)⟩ hw dX10_leastBelow_74
        · have c11 : a1.toInt ≤ (0 : Int) := wk_ltF c11
          refine lv_iload_n hx hb dX10_leastBelow_40 rfl (lv_at hl 2 rfl) ?_
          exact tk_iret hC hr hlocks hK ⟨hT, hF, (Or.inl ⟨(show 0 ≤ a2.toInt by omega), (show a2.toInt ≤ 8191 by omega)⟩)⟩ hw dX10_leastBelow_41
      · have c10 : v9_3.toInt < x8.toInt := wk_leF c10
        refine lv_aload_n hx hb dX10_leastBelow_20 rfl (lv_at hl 0 rfl) ?_
        refine lv_iload_n hx hb dX10_leastBelow_21 rfl (lv_at hl 3 rfl) ?_
        refine tk_Vi hC hK hw hT hA hE hSR kC_at158 (by decide) rfl (k_X10_canDo_1 l adK adV dC dI cy ad B (by omega) (by omega) qr s1   v9_3 (show 0 ≤ v9_3.toInt by omega) (show v9_3.toInt ≤ 5 by omega) w1 H.size hT ) (cwV 1 hC.2.2.2.2 gX10_leastBelow_X10_canDo rfl rfl rfl (by decide +kernel) ⟨Nat.le_of_ble_eq_true rfl, Nat.le_of_ble_eq_true rfl⟩) rfl hl.1 rfl (Nat.le_of_ble_eq_true rfl) dX10_leastBelow_22 (fun r37 w39 H locs hp38 hw => ?_)
        obtain ⟨hT, k40, hg41⟩ := hp38
        have hF := hF.tr k40 (by decide)
        have c42 := k40.gi kC_at38 (by decide) c9
        rcases hg41 with rfl | rfl
        · refine lv_if_ne (tgt := 30) hx hb dX10_leastBelow_25 (by decide) (fun c => absurd (by decide) c) (fun _ => ?_)
          refine lv_iconst (v := (-1)) hx hb dX10_leastBelow_28 (by decide) ?_
          exact tk_iret hC hr hlocks hK ⟨hT, hF, (Or.inr ⟨rfl, ⟨x8, c42, (show 1 ≤ x8.toInt by omega), (show x8.toInt ≤ 6 by omega)⟩⟩)⟩ hw dX10_leastBelow_29
        · refine lv_if_ne (tgt := 30) hx hb dX10_leastBelow_25 (by decide) (fun _ => ?_) (fun c => absurd c (by decide))
          obtain ⟨x43, ex43⟩ : ∃ y : Int32, y = v9_3 + Int32.ofInt 1 := ⟨_, rfl⟩
          refine lv_iinc (v := x43) (lv' := [(3, .int x43), (0, .ref (ad 158)), (1, .int a1), (2, .int a2)]) hx hb dX10_leastBelow_30 hl (k := 3) rfl ex43.symm (by decide) rfl (fun ls hl => ?_)
          have ex43 : x43.toInt = v9_3.toInt + 1 := by rw [ex43]; exact wk_add (y := 1) (show -2147483648 ≤ v9_3.toInt + 1 by omega) (show v9_3.toInt + 1 ≤ 2147483647 by omega)
          refine lv_goto (tgt := 9) hx hb dX10_leastBelow_33 (by decide) ?_
          exact ih9 x43 H locs ls w39 (show 0 ≤ a1.toInt by omega) (show a1.toInt ≤ 8 by omega) (show 0 ≤ a2.toInt by omega) (show a2.toInt ≤ 8191 by omega) (show 0 ≤ x43.toInt by omega) (show x43.toInt ≤ 6 by omega) (show (6 - x43.toInt).toNat < n9 by omega) hw hT hF  (lv_sub hl [1, 2, 3, 0] rfl)
  refine lv_aload_n hx hb dX10_leastBelow_0 rfl (lv_at hl 0 rfl) ?_
  refine lv_iload_n hx hb dX10_leastBelow_1 rfl (lv_at hl 1 rfl) ?_
  refine lv_iload_n hx hb dX10_leastBelow_2 rfl (lv_at hl 2 rfl) ?_
  refine lv_iconst (v := (-1)) hx hb dX10_leastBelow_3 (by decide) ?_
  refine tk_Vv hC hK hw hT hA hE hSR kC_at158 (by decide) rfl (k_X10_layRoads_1 l adK adV dC dI cy ad B (by omega) (by omega) qr s1   a1 (show 0 ≤ a1.toInt by omega) (show a1.toInt ≤ 12 by omega) a2 (show 0 ≤ a2.toInt by omega) (show a2.toInt ≤ 8191 by omega) ((-1)) (by decide) (by decide) w0 s.heap.size hT ) (cwV 3 hC.2.2.2.2 gX10_leastBelow_X10_layRoads rfl rfl rfl (by decide +kernel) ⟨Nat.le_of_ble_eq_true rfl, Nat.le_of_ble_eq_true rfl⟩) rfl hl.1 rfl (Nat.le_of_ble_eq_true rfl) dX10_leastBelow_4 (fun w46 H locs hp45 hw => ?_)
  obtain ⟨hT, k47, hg48⟩ := hp45
  have hF := hF.tr k47 (by decide)
  clear hg48
  refine lv_iconst (v := 0) hx hb dX10_leastBelow_7 (by decide) ?_
  refine lv_istore_n (lv' := [(3, .int 0), (0, .ref (ad 158)), (1, .int a1), (2, .int a2)]) hx hb dX10_leastBelow_8 rfl hl (by decide) rfl (fun ls hl => ?_)
  exact L9 ((6 - (0 : Int)).toNat + 1) 0 H locs ls w46 (show 0 ≤ a1.toInt by omega) (show a1.toInt ≤ 8 by omega) (show 0 ≤ a2.toInt by omega) (show a2.toInt ≤ 8191 by omega) (by decide) (by decide) (Nat.lt_succ_self _) hw hT hF  (lv_sub hl [1, 2, 3, 0] rfl)
abbrev P_X10_leastBelow_4 (ad : Nat → Nat) (cy : Nat → ClassId) (B : Int) (qr : Nat) (s1 : Int) (a1 : Int32) (a2 : Int32) (w0 : va_W) : Int32 → va_W → Prop := fun r u => TW ksC ad cy B qr s1 u ∧ FE ksC [(51, 0, 10)] w0 u ∧ ((0 ≤ r.toInt ∧ r.toInt ≤ 8191) ∨ (r = (-1) ∧ (∃ y : Int32, gi u 38 10 = y ∧ 1 ≤ y.toInt ∧ y.toInt ≤ 6)))
set_option maxHeartbeats 4000000 in
set_option maxRecDepth 100000 in
theorem k_X10_leastBelow_4 (l : Launch) (adK adV : Nat → Nat) (dC : Nat → ClassId) (dI : Nat → Nat → Nat) (cy : Nat → ClassId) (ad : Nat → Nat) (B : Int) (hB0 : 2147483648 ≤ B) (hB1 : B ≤ 1152921504606846976) (qr : Nat) (s1 : Int)  (a1 : Int32) (ra1 : 0 ≤ a1.toInt) (ta1 : a1.toInt ≤ 9) (a2 : Int32) (ra2 : 0 ≤ a2.toInt) (ta2 : a2.toInt ≤ 8191) (w0 : va_W) (sz : Nat) (hT : TW ksC ad cy B qr s1 w0)  : Met l yX10_leastBelow wsX10_leastBelow ({ frames := 12, cells := 0, slots := 0, locals := 266 }) (va_Pc [.ref (ad 158), .int a1, .int a2] (wpreS adK adV dC dI cy sz w0)) (va_Qi (P_X10_leastBelow_4 ad cy B qr s1 a1 a2 w0) (fun u : va_W => wpost dC dI cy (va_A w0 sz) u) (va_A w0 sz)) 0 0 (va_A w0 sz) := by
  refine Met.ofW (cc := cX10_leastBelow) (maxL := 4) (ret := (some .int)) (by decide) rfl ?_
  intro p e s m args below meth c s₁ Bk hml hv
  obtain ⟨rfl, ⟨hsz, hP, hK, hD0⟩, hE, hSR⟩ := hv
  have hx := Bk.exec
  have hb := Bk.bytes
  have hr := Bk.returns
  have hlocks := Bk.notSynchronized
  have hC : CallFix p m c cX10_leastBelow 4 s _ wsX10_leastBelow RX10 := ⟨hx, hb, hml, findClass_of_methodNamed Bk.named, atoms_spec (ws := wsX10_leastBelow) Bk.pre⟩
  subst hsz
  have hD := hD0.self (sz := s.heap.size)
  generalize hAe : va_A w0 s.heap.size = A at hD hE ⊢
  have hA : ∀ q : Nat, s.heap.size ≤ q → A q := fun q h => by rw [← hAe]; exact Or.inr h
  have hw : Wd dC dI A s.heap s.heap [] w0 := ⟨hP, hD, va_S.rf⟩
  have hF : FE ksC [(51, 0, 10)] w0 w0 := FE.rf
  have hl := lv_entry ([.ref (ad 158), .int a1, .int a2]) (n := 4) (Nat.le_of_ble_eq_true rfl)
  rw [lg_entry_eq]
  generalize (lg_sl ([.ref (ad 158), .int a1, .int a2]) ++ List.replicate (4 - (lg_sl ([.ref (ad 158), .int a1, .int a2])).length) Slot.unset).toArray = ls at hl ⊢
  have hl : lv_has ls 4 [(0, .ref (ad 158)), (1, .int a1), (2, .int a2)] := hl
  generalize hloc : ([] : List Loc) = locs at hw ⊢
  have hinX10 : ∀ w ∈ u_ws RX10 TX10 5, w ∈ wsX10_leastBelow := fun _ h => List.mem_cons_of_mem _ (List.mem_append_left _ (List.mem_append_left _ (List.mem_append_right _ (h))))
  have hinX5 : ∀ w ∈ u_ws RX5 TX5 14, w ∈ wsX10_leastBelow := fun _ h => List.mem_cons_of_mem _ (List.mem_append_left _ (List.mem_append_right _ (h)))
  have L9 : ∀ (n9 : Nat) (v9_3 : Int32) (H : Heap) (locs : List Loc) (ls : Array Slot) (w1 : va_W), 0 ≤ a1.toInt → a1.toInt ≤ 9 → 0 ≤ a2.toInt → a2.toInt ≤ 8191 → 0 ≤ v9_3.toInt → v9_3.toInt ≤ 6 → (6 - v9_3.toInt).toNat < n9 → Wd dC dI A s.heap H locs w1 → TW ksC ad cy B qr s1 w1 → FE ksC [(51, 0, 10)] w0 w1 → lv_has ls 4 [(0, .ref (ad 158)), (1, .int a1), (2, .int a2), (3, .int v9_3)] → W p l e ({ frames := 12, cells := 0, slots := 0, locals := 266 }) s m (List.toArray [.ref (ad 158), .int a1, .int a2]) below meth c H locs 0 0 (MQ below (va_Qi (P_X10_leastBelow_4 ad cy B qr s1 a1 a2 w0) (fun u : va_W => wpost dC dI cy A u) A) (List.toArray [.ref (ad 158), .int a1, .int a2]) s 0 0 A) (F0 m 9 ls []) := by
    intro n9
    induction n9 with
    | zero => intro v9_3 H locs ls w1 r2 t3 r4 t5 r6 t7 hm9 hw hT hF hl; omega
    | succ n9 ih9 =>
      intro v9_3 H locs ls w1 r2 t3 r4 t5 r6 t7 hm9 hw hT hF hl
      refine lv_iload_n hx hb dX10_leastBelow_9 rfl (lv_at hl 3 rfl) ?_
      refine lv_aload_n hx hb dX10_leastBelow_10 rfl (lv_at hl 0 rfl) ?_
      refine tk_getA hC hK hw hT hinX10 kC_at158 (by decide) rfl 0 (by decide) (List.mem_of_getElem? (i := 1) rfl) rfl rfl dX10_leastBelow_11 ?_
      refine tk_geti hC hK hw hT hinX5 kC_at38 (by decide) rfl 10 (by decide) (List.mem_of_getElem? (i := 2) rfl) rfl rfl dX10_leastBelow_14 (fun x8 c9 rx8 tx8 => ?_)
      refine lv_icmp_ge (tgt := 36) hx hb dX10_leastBelow_17 (by decide) (fun c10 => ?_) (fun c10 => ?_)
      · have c10 : x8.toInt ≤ v9_3.toInt := wk_le.mp c10
        refine lv_iload_n hx hb dX10_leastBelow_36 rfl (lv_at hl 1 rfl) ?_
        refine lv_if_gt (tgt := 42) hx hb dX10_leastBelow_37 (by decide) (fun c11 => ?_) (fun c11 => ?_)
        · have c11 : (0 : Int) < a1.toInt := wk_lt.mp c11
          refine lv_aload_n hx hb dX10_leastBelow_42 rfl (lv_at hl 0 rfl) ?_
          refine lv_iload_n hx hb dX10_leastBelow_43 rfl (lv_at hl 1 rfl) ?_
          refine lv_iconst (v := 1) hx hb dX10_leastBelow_44 (by decide) ?_
          refine lv_isub hx hb dX10_leastBelow_45 ?_
          refine lv_topi (fun x12 ex12 => ?_)
          have ex12 : x12.toInt = a1.toInt - (1 : Int) := by rw [ex12]; exact wk_sub (show (-2147483648) ≤ a1.toInt - (1 : Int) by omega) (show a1.toInt - (1 : Int) ≤ 2147483647 by omega)
          refine lv_iload_n hx hb dX10_leastBelow_46 rfl (lv_at hl 2 rfl) ?_
          refine tk_Vi hC hK hw hT hA hE hSR kC_at158 (by decide) rfl (k_X10_leastBelow_5 l adK adV dC dI cy ad B (by omega) (by omega) qr s1   x12 (show 0 ≤ x12.toInt by omega) (show x12.toInt ≤ 8 by omega) a2 (show 0 ≤ a2.toInt by omega) (show a2.toInt ≤ 8191 by omega) w1 H.size hT ) (cwV 2 hC.2.2.2.2 gX10_leastBelow_X10_leastBelow rfl rfl rfl (by decide +kernel) ⟨Nat.le_of_ble_eq_true rfl, Nat.le_of_ble_eq_true rfl⟩) rfl hl.1 rfl (Nat.le_of_ble_eq_true rfl) dX10_leastBelow_47 (fun r13 w15 H locs hp14 hw => ?_)
          obtain ⟨hT, k16, hg21⟩ := hp14
          have hF := hF.tr k16 (by decide)
          have c22 := k16.gi kC_at38 (by decide) c9
          rcases hg21 with ⟨g17, g18⟩ | ⟨rfl, ⟨x19, c20, rx19, tx19⟩⟩
          · refine lv_istore_n (lv' := [(3, .int r13), (0, .ref (ad 158)), (1, .int a1), (2, .int a2)]) hx hb dX10_leastBelow_50 rfl hl (by decide) rfl (fun ls hl => ?_)
            refine lv_iload_n hx hb dX10_leastBelow_51 rfl (lv_at hl 0 rfl) ?_
            refine lv_iconst (v := (-1)) hx hb dX10_leastBelow_52 (by decide) ?_
            refine lv_icmp_eq (tgt := 60) hx hb dX10_leastBelow_53 (by decide) (fun c => absurd c (fun h => absurd (show r13.toInt = (-1 : Int) from wk_eq.mp h) (by omega))) (fun _ => ?_)
            refine lv_iload_n hx hb dX10_leastBelow_56 rfl (lv_at hl 0 rfl) ?_
            refine lv_goto (tgt := 74) hx hb dX10_leastBelow_57 (by decide) ?_
            exact tk_iret hC hr hlocks hK ⟨hT, hF, (Or.inl ⟨(show 0 ≤ r13.toInt by omega), (show r13.toInt ≤ 8191 by omega)⟩)⟩ hw dX10_leastBelow_74
          · have ex19 : x19.toInt = x8.toInt := by rw [← c22.symm.trans c20]
            refine lv_istore_n (lv' := [(3, .int (-1)), (0, .ref (ad 158)), (1, .int a1), (2, .int a2)]) hx hb dX10_leastBelow_50 rfl hl (by decide) rfl (fun ls hl => ?_)
            refine lv_iload_n hx hb dX10_leastBelow_51 rfl (lv_at hl 0 rfl) ?_
            refine lv_iconst (v := (-1)) hx hb dX10_leastBelow_52 (by decide) ?_
            refine lv_icmp_eq (tgt := 60) hx hb dX10_leastBelow_53 (by decide) (fun _ => ?_) (fun c => absurd (by decide) c)
            refine lv_aload_n hx hb dX10_leastBelow_60 rfl (lv_at hl 1 rfl) ?_
            refine lv_iload_n hx hb dX10_leastBelow_61 rfl (lv_at hl 2 rfl) ?_
            refine lv_iconst (v := 1) hx hb dX10_leastBelow_62 (by decide) ?_
            refine lv_isub hx hb dX10_leastBelow_63 ?_
            refine lv_topi (fun x23 ex23 => ?_)
            have ex23 : x23.toInt = a1.toInt - (1 : Int) := by rw [ex23]; exact wk_sub (show (-2147483648) ≤ a1.toInt - (1 : Int) by omega) (show a1.toInt - (1 : Int) ≤ 2147483647 by omega)
            refine lv_iload_n hx hb dX10_leastBelow_64 rfl (lv_at hl 3 rfl) ?_
            refine lv_iconst (v := 1) hx hb dX10_leastBelow_65 (by decide) ?_
            refine lv_iload_n hx hb dX10_leastBelow_66 rfl (lv_at hl 2 rfl) ?_
            refine lv_iconst (v := 1) hx hb dX10_leastBelow_67 (by decide) ?_
            refine lv_isub hx hb dX10_leastBelow_68 ?_
            refine lv_topi (fun x24 ex24 => ?_)
            have ex24 : x24.toInt = a1.toInt - (1 : Int) := by rw [ex24]; exact wk_sub (show (-2147483648) ≤ a1.toInt - (1 : Int) by omega) (show a1.toInt - (1 : Int) ≤ 2147483647 by omega)
            refine lv_ishl hx hb dX10_leastBelow_69 ?_
            refine lv_topi (fun x25 ex25 => ?_)
            have bx25 : 1 ≤ x25.toInt ∧ x25.toInt ≤ 256 := by rw [ex25]; exact wk_shl1 8 (by decide) (by omega) (by omega)
            refine lv_ior hx hb dX10_leastBelow_70 ?_
            refine lv_topi (fun x26 ex26 => ?_)
            have bx26 : 0 ≤ x26.toInt ∧ x26.toInt < 8192 := by rw [ex26]; exact wk_or 13 (by decide) (by omega) (by omega) (by omega) (by omega)
            have mx26 : a2.toInt ≤ x26.toInt ∧ x25.toInt ≤ x26.toInt := by rw [ex26]; exact wk_orL 13 (by decide) (by omega) (by omega) (by omega) (by omega)
            refine tk_Vi hC hK hw hT hA hE hSR kC_at158 (by decide) rfl (k_X10_leastBelow_5 l adK adV dC dI cy ad B (by omega) (by omega) qr s1   x23 (show 0 ≤ x23.toInt by omega) (show x23.toInt ≤ 8 by omega) x26 (show 0 ≤ x26.toInt by omega) (show x26.toInt ≤ 8191 by omega) w15 H.size hT ) (cwV 2 hC.2.2.2.2 gX10_leastBelow_X10_leastBelow rfl rfl rfl (by decide +kernel) ⟨Nat.le_of_ble_eq_true rfl, Nat.le_of_ble_eq_true rfl⟩) rfl hl.1 rfl (Nat.le_of_ble_eq_true rfl) dX10_leastBelow_71 (fun r27 w29 H locs hp28 hw => ?_)
            obtain ⟨hT, k30, hg35⟩ := hp28
            have hF := hF.tr k30 (by decide)
            have c36 := k30.gi kC_at38 (by decide) c22
            rcases hg35 with ⟨g31, g32⟩ | ⟨rfl, ⟨x33, c34, rx33, tx33⟩⟩
            · exact tk_iret hC hr hlocks hK ⟨hT, hF, (Or.inl ⟨(show 0 ≤ r27.toInt by omega), (show r27.toInt ≤ 8191 by omega)⟩)⟩ hw dX10_leastBelow_74
            · have ex33 : x33.toInt = x8.toInt := by rw [← c36.symm.trans c34]
              exact tk_iret hC hr hlocks hK ⟨hT, hF, (Or.inr ⟨rfl, ⟨x8, c36, (show 1 ≤ x8.toInt by omega), (show x8.toInt ≤ 6 by omega)⟩⟩)⟩ hw dX10_leastBelow_74
        · have c11 : a1.toInt ≤ (0 : Int) := wk_ltF c11
          refine lv_iload_n hx hb dX10_leastBelow_40 rfl (lv_at hl 2 rfl) ?_
          exact tk_iret hC hr hlocks hK ⟨hT, hF, (Or.inl ⟨(show 0 ≤ a2.toInt by omega), (show a2.toInt ≤ 8191 by omega)⟩)⟩ hw dX10_leastBelow_41
      · have c10 : v9_3.toInt < x8.toInt := wk_leF c10
        refine lv_aload_n hx hb dX10_leastBelow_20 rfl (lv_at hl 0 rfl) ?_
        refine lv_iload_n hx hb dX10_leastBelow_21 rfl (lv_at hl 3 rfl) ?_
        refine tk_Vi hC hK hw hT hA hE hSR kC_at158 (by decide) rfl (k_X10_canDo_1 l adK adV dC dI cy ad B (by omega) (by omega) qr s1   v9_3 (show 0 ≤ v9_3.toInt by omega) (show v9_3.toInt ≤ 5 by omega) w1 H.size hT ) (cwV 1 hC.2.2.2.2 gX10_leastBelow_X10_canDo rfl rfl rfl (by decide +kernel) ⟨Nat.le_of_ble_eq_true rfl, Nat.le_of_ble_eq_true rfl⟩) rfl hl.1 rfl (Nat.le_of_ble_eq_true rfl) dX10_leastBelow_22 (fun r37 w39 H locs hp38 hw => ?_)
        obtain ⟨hT, k40, hg41⟩ := hp38
        have hF := hF.tr k40 (by decide)
        have c42 := k40.gi kC_at38 (by decide) c9
        rcases hg41 with rfl | rfl
        · refine lv_if_ne (tgt := 30) hx hb dX10_leastBelow_25 (by decide) (fun c => absurd (by decide) c) (fun _ => ?_)
          refine lv_iconst (v := (-1)) hx hb dX10_leastBelow_28 (by decide) ?_
          exact tk_iret hC hr hlocks hK ⟨hT, hF, (Or.inr ⟨rfl, ⟨x8, c42, (show 1 ≤ x8.toInt by omega), (show x8.toInt ≤ 6 by omega)⟩⟩)⟩ hw dX10_leastBelow_29
        · refine lv_if_ne (tgt := 30) hx hb dX10_leastBelow_25 (by decide) (fun _ => ?_) (fun c => absurd c (by decide))
          obtain ⟨x43, ex43⟩ : ∃ y : Int32, y = v9_3 + Int32.ofInt 1 := ⟨_, rfl⟩
          refine lv_iinc (v := x43) (lv' := [(3, .int x43), (0, .ref (ad 158)), (1, .int a1), (2, .int a2)]) hx hb dX10_leastBelow_30 hl (k := 3) rfl ex43.symm (by decide) rfl (fun ls hl => ?_)
          have ex43 : x43.toInt = v9_3.toInt + 1 := by rw [ex43]; exact wk_add (y := 1) (show -2147483648 ≤ v9_3.toInt + 1 by omega) (show v9_3.toInt + 1 ≤ 2147483647 by omega)
          refine lv_goto (tgt := 9) hx hb dX10_leastBelow_33 (by decide) ?_
          exact ih9 x43 H locs ls w39 (show 0 ≤ a1.toInt by omega) (show a1.toInt ≤ 9 by omega) (show 0 ≤ a2.toInt by omega) (show a2.toInt ≤ 8191 by omega) (show 0 ≤ x43.toInt by omega) (show x43.toInt ≤ 6 by omega) (show (6 - x43.toInt).toNat < n9 by omega) hw hT hF  (lv_sub hl [1, 2, 3, 0] rfl)
  refine lv_aload_n hx hb dX10_leastBelow_0 rfl (lv_at hl 0 rfl) ?_
  refine lv_iload_n hx hb dX10_leastBelow_1 rfl (lv_at hl 1 rfl) ?_
  refine lv_iload_n hx hb dX10_leastBelow_2 rfl (lv_at hl 2 rfl) ?_
  refine lv_iconst (v := (-1)) hx hb dX10_leastBelow_3 (by decide) ?_
  refine tk_Vv hC hK hw hT hA hE hSR kC_at158 (by decide) rfl (k_X10_layRoads_1 l adK adV dC dI cy ad B (by omega) (by omega) qr s1   a1 (show 0 ≤ a1.toInt by omega) (show a1.toInt ≤ 12 by omega) a2 (show 0 ≤ a2.toInt by omega) (show a2.toInt ≤ 8191 by omega) ((-1)) (by decide) (by decide) w0 s.heap.size hT ) (cwV 3 hC.2.2.2.2 gX10_leastBelow_X10_layRoads rfl rfl rfl (by decide +kernel) ⟨Nat.le_of_ble_eq_true rfl, Nat.le_of_ble_eq_true rfl⟩) rfl hl.1 rfl (Nat.le_of_ble_eq_true rfl) dX10_leastBelow_4 (fun w46 H locs hp45 hw => ?_)
  obtain ⟨hT, k47, hg48⟩ := hp45
  have hF := hF.tr k47 (by decide)
  clear hg48
  refine lv_iconst (v := 0) hx hb dX10_leastBelow_7 (by decide) ?_
  refine lv_istore_n (lv' := [(3, .int 0), (0, .ref (ad 158)), (1, .int a1), (2, .int a2)]) hx hb dX10_leastBelow_8 rfl hl (by decide) rfl (fun ls hl => ?_)
  exact L9 ((6 - (0 : Int)).toNat + 1) 0 H locs ls w46 (show 0 ≤ a1.toInt by omega) (show a1.toInt ≤ 9 by omega) (show 0 ≤ a2.toInt by omega) (show a2.toInt ≤ 8191 by omega) (by decide) (by decide) (Nat.lt_succ_self _) hw hT hF  (lv_sub hl [1, 2, 3, 0] rfl)
abbrev P_X10_leastBelow_3 (ad : Nat → Nat) (cy : Nat → ClassId) (B : Int) (qr : Nat) (s1 : Int) (a1 : Int32) (a2 : Int32) (w0 : va_W) : Int32 → va_W → Prop := fun r u => TW ksC ad cy B qr s1 u ∧ FE ksC [(51, 0, 10)] w0 u ∧ ((0 ≤ r.toInt ∧ r.toInt ≤ 8191) ∨ (r = (-1) ∧ (∃ y : Int32, gi u 38 10 = y ∧ 1 ≤ y.toInt ∧ y.toInt ≤ 6)))
set_option maxHeartbeats 4000000 in
set_option maxRecDepth 100000 in
theorem k_X10_leastBelow_3 (l : Launch) (adK adV : Nat → Nat) (dC : Nat → ClassId) (dI : Nat → Nat → Nat) (cy : Nat → ClassId) (ad : Nat → Nat) (B : Int) (hB0 : 2147483648 ≤ B) (hB1 : B ≤ 1152921504606846976) (qr : Nat) (s1 : Int)  (a1 : Int32) (ra1 : 0 ≤ a1.toInt) (ta1 : a1.toInt ≤ 10) (a2 : Int32) (ra2 : 0 ≤ a2.toInt) (ta2 : a2.toInt ≤ 8191) (w0 : va_W) (sz : Nat) (hT : TW ksC ad cy B qr s1 w0)  : Met l yX10_leastBelow wsX10_leastBelow ({ frames := 13, cells := 0, slots := 0, locals := 289 }) (va_Pc [.ref (ad 158), .int a1, .int a2] (wpreS adK adV dC dI cy sz w0)) (va_Qi (P_X10_leastBelow_3 ad cy B qr s1 a1 a2 w0) (fun u : va_W => wpost dC dI cy (va_A w0 sz) u) (va_A w0 sz)) 0 0 (va_A w0 sz) := by
  refine Met.ofW (cc := cX10_leastBelow) (maxL := 4) (ret := (some .int)) (by decide) rfl ?_
  intro p e s m args below meth c s₁ Bk hml hv
  obtain ⟨rfl, ⟨hsz, hP, hK, hD0⟩, hE, hSR⟩ := hv
  have hx := Bk.exec
  have hb := Bk.bytes
  have hr := Bk.returns
  have hlocks := Bk.notSynchronized
  have hC : CallFix p m c cX10_leastBelow 4 s _ wsX10_leastBelow RX10 := ⟨hx, hb, hml, findClass_of_methodNamed Bk.named, atoms_spec (ws := wsX10_leastBelow) Bk.pre⟩
  subst hsz
  have hD := hD0.self (sz := s.heap.size)
  generalize hAe : va_A w0 s.heap.size = A at hD hE ⊢
  have hA : ∀ q : Nat, s.heap.size ≤ q → A q := fun q h => by rw [← hAe]; exact Or.inr h
  have hw : Wd dC dI A s.heap s.heap [] w0 := ⟨hP, hD, va_S.rf⟩
  have hF : FE ksC [(51, 0, 10)] w0 w0 := FE.rf
  have hl := lv_entry ([.ref (ad 158), .int a1, .int a2]) (n := 4) (Nat.le_of_ble_eq_true rfl)
  rw [lg_entry_eq]
  generalize (lg_sl ([.ref (ad 158), .int a1, .int a2]) ++ List.replicate (4 - (lg_sl ([.ref (ad 158), .int a1, .int a2])).length) Slot.unset).toArray = ls at hl ⊢
  have hl : lv_has ls 4 [(0, .ref (ad 158)), (1, .int a1), (2, .int a2)] := hl
  generalize hloc : ([] : List Loc) = locs at hw ⊢
  have hinX10 : ∀ w ∈ u_ws RX10 TX10 5, w ∈ wsX10_leastBelow := fun _ h => List.mem_cons_of_mem _ (List.mem_append_left _ (List.mem_append_left _ (List.mem_append_right _ (h))))
  have hinX5 : ∀ w ∈ u_ws RX5 TX5 14, w ∈ wsX10_leastBelow := fun _ h => List.mem_cons_of_mem _ (List.mem_append_left _ (List.mem_append_right _ (h)))
  have L9 : ∀ (n9 : Nat) (v9_3 : Int32) (H : Heap) (locs : List Loc) (ls : Array Slot) (w1 : va_W), 0 ≤ a1.toInt → a1.toInt ≤ 10 → 0 ≤ a2.toInt → a2.toInt ≤ 8191 → 0 ≤ v9_3.toInt → v9_3.toInt ≤ 6 → (6 - v9_3.toInt).toNat < n9 → Wd dC dI A s.heap H locs w1 → TW ksC ad cy B qr s1 w1 → FE ksC [(51, 0, 10)] w0 w1 → lv_has ls 4 [(0, .ref (ad 158)), (1, .int a1), (2, .int a2), (3, .int v9_3)] → W p l e ({ frames := 13, cells := 0, slots := 0, locals := 289 }) s m (List.toArray [.ref (ad 158), .int a1, .int a2]) below meth c H locs 0 0 (MQ below (va_Qi (P_X10_leastBelow_3 ad cy B qr s1 a1 a2 w0) (fun u : va_W => wpost dC dI cy A u) A) (List.toArray [.ref (ad 158), .int a1, .int a2]) s 0 0 A) (F0 m 9 ls []) := by
    intro n9
    induction n9 with
    | zero => intro v9_3 H locs ls w1 r2 t3 r4 t5 r6 t7 hm9 hw hT hF hl; omega
    | succ n9 ih9 =>
      intro v9_3 H locs ls w1 r2 t3 r4 t5 r6 t7 hm9 hw hT hF hl
      refine lv_iload_n hx hb dX10_leastBelow_9 rfl (lv_at hl 3 rfl) ?_
      refine lv_aload_n hx hb dX10_leastBelow_10 rfl (lv_at hl 0 rfl) ?_
      refine tk_getA hC hK hw hT hinX10 kC_at158 (by decide) rfl 0 (by decide) (List.mem_of_getElem? (i := 1) rfl) rfl rfl dX10_leastBelow_11 ?_
      refine tk_geti hC hK hw hT hinX5 kC_at38 (by decide) rfl 10 (by decide) (List.mem_of_getElem? (i := 2) rfl) rfl rfl dX10_leastBelow_14 (fun x8 c9 rx8 tx8 => ?_)
      refine lv_icmp_ge (tgt := 36) hx hb dX10_leastBelow_17 (by decide) (fun c10 => ?_) (fun c10 => ?_)
      · have c10 : x8.toInt ≤ v9_3.toInt := wk_le.mp c10
        refine lv_iload_n hx hb dX10_leastBelow_36 rfl (lv_at hl 1 rfl) ?_
        refine lv_if_gt (tgt := 42) hx hb dX10_leastBelow_37 (by decide) (fun c11 => ?_) (fun c11 => ?_)
        · have c11 : (0 : Int) < a1.toInt := wk_lt.mp c11
          refine lv_aload_n hx hb dX10_leastBelow_42 rfl (lv_at hl 0 rfl) ?_
          refine lv_iload_n hx hb dX10_leastBelow_43 rfl (lv_at hl 1 rfl) ?_
          refine lv_iconst (v := 1) hx hb dX10_leastBelow_44 (by decide) ?_
          refine lv_isub hx hb dX10_leastBelow_45 ?_
          refine lv_topi (fun x12 ex12 => ?_)
          have ex12 : x12.toInt = a1.toInt - (1 : Int) := by rw [ex12]; exact wk_sub (show (-2147483648) ≤ a1.toInt - (1 : Int) by omega) (show a1.toInt - (1 : Int) ≤ 2147483647 by omega)
          refine lv_iload_n hx hb dX10_leastBelow_46 rfl (lv_at hl 2 rfl) ?_
          refine tk_Vi hC hK hw hT hA hE hSR kC_at158 (by decide) rfl (k_X10_leastBelow_4 l adK adV dC dI cy ad B (by omega) (by omega) qr s1   x12 (show 0 ≤ x12.toInt by omega) (show x12.toInt ≤ 9 by omega) a2 (show 0 ≤ a2.toInt by omega) (show a2.toInt ≤ 8191 by omega) w1 H.size hT ) (cwV 2 hC.2.2.2.2 gX10_leastBelow_X10_leastBelow rfl rfl rfl (by decide +kernel) ⟨Nat.le_of_ble_eq_true rfl, Nat.le_of_ble_eq_true rfl⟩) rfl hl.1 rfl (Nat.le_of_ble_eq_true rfl) dX10_leastBelow_47 (fun r13 w15 H locs hp14 hw => ?_)
          obtain ⟨hT, k16, hg21⟩ := hp14
          have hF := hF.tr k16 (by decide)
          have c22 := k16.gi kC_at38 (by decide) c9
          rcases hg21 with ⟨g17, g18⟩ | ⟨rfl, ⟨x19, c20, rx19, tx19⟩⟩
          · refine lv_istore_n (lv' := [(3, .int r13), (0, .ref (ad 158)), (1, .int a1), (2, .int a2)]) hx hb dX10_leastBelow_50 rfl hl (by decide) rfl (fun ls hl => ?_)
            refine lv_iload_n hx hb dX10_leastBelow_51 rfl (lv_at hl 0 rfl) ?_
            refine lv_iconst (v := (-1)) hx hb dX10_leastBelow_52 (by decide) ?_
            refine lv_icmp_eq (tgt := 60) hx hb dX10_leastBelow_53 (by decide) (fun c => absurd c (fun h => absurd (show r13.toInt = (-1 : Int) from wk_eq.mp h) (by omega))) (fun _ => ?_)
            refine lv_iload_n hx hb dX10_leastBelow_56 rfl (lv_at hl 0 rfl) ?_
            refine lv_goto (tgt := 74) hx hb dX10_leastBelow_57 (by decide) ?_
            exact tk_iret hC hr hlocks hK ⟨hT, hF, (Or.inl ⟨(show 0 ≤ r13.toInt by omega), (show r13.toInt ≤ 8191 by omega)⟩)⟩ hw dX10_leastBelow_74
          · have ex19 : x19.toInt = x8.toInt := by rw [← c22.symm.trans c20]
            refine lv_istore_n (lv' := [(3, .int (-1)), (0, .ref (ad 158)), (1, .int a1), (2, .int a2)]) hx hb dX10_leastBelow_50 rfl hl (by decide) rfl (fun ls hl => ?_)
            refine lv_iload_n hx hb dX10_leastBelow_51 rfl (lv_at hl 0 rfl) ?_
            refine lv_iconst (v := (-1)) hx hb dX10_leastBelow_52 (by decide) ?_
            refine lv_icmp_eq (tgt := 60) hx hb dX10_leastBelow_53 (by decide) (fun _ => ?_) (fun c => absurd (by decide) c)
            refine lv_aload_n hx hb dX10_leastBelow_60 rfl (lv_at hl 1 rfl) ?_
            refine lv_iload_n hx hb dX10_leastBelow_61 rfl (lv_at hl 2 rfl) ?_
            refine lv_iconst (v := 1) hx hb dX10_leastBelow_62 (by decide) ?_
            refine lv_isub hx hb dX10_leastBelow_63 ?_
            refine lv_topi (fun x23 ex23 => ?_)
            have ex23 : x23.toInt = a1.toInt - (1 : Int) := by rw [ex23]; exact wk_sub (show (-2147483648) ≤ a1.toInt - (1 : Int) by omega) (show a1.toInt - (1 : Int) ≤ 2147483647 by omega)
            refine lv_iload_n hx hb dX10_leastBelow_64 rfl (lv_at hl 3 rfl) ?_
            refine lv_iconst (v := 1) hx hb dX10_leastBelow_65 (by decide) ?_
            refine lv_iload_n hx hb dX10_leastBelow_66 rfl (lv_at hl 2 rfl) ?_
            refine lv_iconst (v := 1) hx hb dX10_leastBelow_67 (by decide) ?_
            refine lv_isub hx hb dX10_leastBelow_68 ?_
            refine lv_topi (fun x24 ex24 => ?_)
            have ex24 : x24.toInt = a1.toInt - (1 : Int) := by rw [ex24]; exact wk_sub (show (-2147483648) ≤ a1.toInt - (1 : Int) by omega) (show a1.toInt - (1 : Int) ≤ 2147483647 by omega)
            refine lv_ishl hx hb dX10_leastBelow_69 ?_
            refine lv_topi (fun x25 ex25 => ?_)
            have bx25 : 1 ≤ x25.toInt ∧ x25.toInt ≤ 512 := by rw [ex25]; exact wk_shl1 9 (by decide) (by omega) (by omega)
            refine lv_ior hx hb dX10_leastBelow_70 ?_
            refine lv_topi (fun x26 ex26 => ?_)
            have bx26 : 0 ≤ x26.toInt ∧ x26.toInt < 8192 := by rw [ex26]; exact wk_or 13 (by decide) (by omega) (by omega) (by omega) (by omega)
            have mx26 : a2.toInt ≤ x26.toInt ∧ x25.toInt ≤ x26.toInt := by rw [ex26]; exact wk_orL 13 (by decide) (by omega) (by omega) (by omega) (by omega)
            refine tk_Vi hC hK hw hT hA hE hSR kC_at158 (by decide) rfl (k_X10_leastBelow_4 l adK adV dC dI cy ad B (by omega) (by omega) qr s1   x23 (show 0 ≤ x23.toInt by omega) (show x23.toInt ≤ 9 by omega) x26 (show 0 ≤ x26.toInt by omega) (show x26.toInt ≤ 8191 by omega) w15 H.size hT ) (cwV 2 hC.2.2.2.2 gX10_leastBelow_X10_leastBelow rfl rfl rfl (by decide +kernel) ⟨Nat.le_of_ble_eq_true rfl, Nat.le_of_ble_eq_true rfl⟩) rfl hl.1 rfl (Nat.le_of_ble_eq_true rfl) dX10_leastBelow_71 (fun r27 w29 H locs hp28 hw => ?_)
            obtain ⟨hT, k30, hg35⟩ := hp28
            have hF := hF.tr k30 (by decide)
            have c36 := k30.gi kC_at38 (by decide) c22
            rcases hg35 with ⟨g31, g32⟩ | ⟨rfl, ⟨x33, c34, rx33, tx33⟩⟩
            · exact tk_iret hC hr hlocks hK ⟨hT, hF, (Or.inl ⟨(show 0 ≤ r27.toInt by omega), (show r27.toInt ≤ 8191 by omega)⟩)⟩ hw dX10_leastBelow_74
            · have ex33 : x33.toInt = x8.toInt := by rw [← c36.symm.trans c34]
              exact tk_iret hC hr hlocks hK ⟨hT, hF, (Or.inr ⟨rfl, ⟨x8, c36, (show 1 ≤ x8.toInt by omega), (show x8.toInt ≤ 6 by omega)⟩⟩)⟩ hw dX10_leastBelow_74
        · have c11 : a1.toInt ≤ (0 : Int) := wk_ltF c11
          refine lv_iload_n hx hb dX10_leastBelow_40 rfl (lv_at hl 2 rfl) ?_
          exact tk_iret hC hr hlocks hK ⟨hT, hF, (Or.inl ⟨(show 0 ≤ a2.toInt by omega), (show a2.toInt ≤ 8191 by omega)⟩)⟩ hw dX10_leastBelow_41
      · have c10 : v9_3.toInt < x8.toInt := wk_leF c10
        refine lv_aload_n hx hb dX10_leastBelow_20 rfl (lv_at hl 0 rfl) ?_
        refine lv_iload_n hx hb dX10_leastBelow_21 rfl (lv_at hl 3 rfl) ?_
        refine tk_Vi hC hK hw hT hA hE hSR kC_at158 (by decide) rfl (k_X10_canDo_1 l adK adV dC dI cy ad B (by omega) (by omega) qr s1   v9_3 (show 0 ≤ v9_3.toInt by omega) (show v9_3.toInt ≤ 5 by omega) w1 H.size hT ) (cwV 1 hC.2.2.2.2 gX10_leastBelow_X10_canDo rfl rfl rfl (by decide +kernel) ⟨Nat.le_of_ble_eq_true rfl, Nat.le_of_ble_eq_true rfl⟩) rfl hl.1 rfl (Nat.le_of_ble_eq_true rfl) dX10_leastBelow_22 (fun r37 w39 H locs hp38 hw => ?_)
        obtain ⟨hT, k40, hg41⟩ := hp38
        have hF := hF.tr k40 (by decide)
        have c42 := k40.gi kC_at38 (by decide) c9
        rcases hg41 with rfl | rfl
        · refine lv_if_ne (tgt := 30) hx hb dX10_leastBelow_25 (by decide) (fun c => absurd (by decide) c) (fun _ => ?_)
          refine lv_iconst (v := (-1)) hx hb dX10_leastBelow_28 (by decide) ?_
          exact tk_iret hC hr hlocks hK ⟨hT, hF, (Or.inr ⟨rfl, ⟨x8, c42, (show 1 ≤ x8.toInt by omega), (show x8.toInt ≤ 6 by omega)⟩⟩)⟩ hw dX10_leastBelow_29
        · refine lv_if_ne (tgt := 30) hx hb dX10_leastBelow_25 (by decide) (fun _ => ?_) (fun c => absurd c (by decide))
          obtain ⟨x43, ex43⟩ : ∃ y : Int32, y = v9_3 + Int32.ofInt 1 := ⟨_, rfl⟩
          refine lv_iinc (v := x43) (lv' := [(3, .int x43), (0, .ref (ad 158)), (1, .int a1), (2, .int a2)]) hx hb dX10_leastBelow_30 hl (k := 3) rfl ex43.symm (by decide) rfl (fun ls hl => ?_)
          have ex43 : x43.toInt = v9_3.toInt + 1 := by rw [ex43]; exact wk_add (y := 1) (show -2147483648 ≤ v9_3.toInt + 1 by omega) (show v9_3.toInt + 1 ≤ 2147483647 by omega)
          refine lv_goto (tgt := 9) hx hb dX10_leastBelow_33 (by decide) ?_
          exact ih9 x43 H locs ls w39 (show 0 ≤ a1.toInt by omega) (show a1.toInt ≤ 10 by omega) (show 0 ≤ a2.toInt by omega) (show a2.toInt ≤ 8191 by omega) (show 0 ≤ x43.toInt by omega) (show x43.toInt ≤ 6 by omega) (show (6 - x43.toInt).toNat < n9 by omega) hw hT hF  (lv_sub hl [1, 2, 3, 0] rfl)
  refine lv_aload_n hx hb dX10_leastBelow_0 rfl (lv_at hl 0 rfl) ?_
  refine lv_iload_n hx hb dX10_leastBelow_1 rfl (lv_at hl 1 rfl) ?_
  refine lv_iload_n hx hb dX10_leastBelow_2 rfl (lv_at hl 2 rfl) ?_
  refine lv_iconst (v := (-1)) hx hb dX10_leastBelow_3 (by decide) ?_
  refine tk_Vv hC hK hw hT hA hE hSR kC_at158 (by decide) rfl (k_X10_layRoads_1 l adK adV dC dI cy ad B (by omega) (by omega) qr s1   a1 (show 0 ≤ a1.toInt by omega) (show a1.toInt ≤ 12 by omega) a2 (show 0 ≤ a2.toInt by omega) (show a2.toInt ≤ 8191 by omega) ((-1)) (by decide) (by decide) w0 s.heap.size hT ) (cwV 3 hC.2.2.2.2 gX10_leastBelow_X10_layRoads rfl rfl rfl (by decide +kernel) ⟨Nat.le_of_ble_eq_true rfl, Nat.le_of_ble_eq_true rfl⟩) rfl hl.1 rfl (Nat.le_of_ble_eq_true rfl) dX10_leastBelow_4 (fun w46 H locs hp45 hw => ?_)
  obtain ⟨hT, k47, hg48⟩ := hp45
  have hF := hF.tr k47 (by decide)
  clear hg48
  refine lv_iconst (v := 0) hx hb dX10_leastBelow_7 (by decide) ?_
  refine lv_istore_n (lv' := [(3, .int 0), (0, .ref (ad 158)), (1, .int a1), (2, .int a2)]) hx hb dX10_leastBelow_8 rfl hl (by decide) rfl (fun ls hl => ?_)
  exact L9 ((6 - (0 : Int)).toNat + 1) 0 H locs ls w46 (show 0 ≤ a1.toInt by omega) (show a1.toInt ≤ 10 by omega) (show 0 ≤ a2.toInt by omega) (show a2.toInt ≤ 8191 by omega) (by decide) (by decide) (Nat.lt_succ_self _) hw hT hF  (lv_sub hl [1, 2, 3, 0] rfl)
abbrev P_X10_leastBelow_2 (ad : Nat → Nat) (cy : Nat → ClassId) (B : Int) (qr : Nat) (s1 : Int) (a1 : Int32) (a2 : Int32) (w0 : va_W) : Int32 → va_W → Prop := fun r u => TW ksC ad cy B qr s1 u ∧ FE ksC [(51, 0, 10)] w0 u ∧ ((0 ≤ r.toInt ∧ r.toInt ≤ 8191) ∨ (r = (-1) ∧ (∃ y : Int32, gi u 38 10 = y ∧ 1 ≤ y.toInt ∧ y.toInt ≤ 6)))
set_option maxHeartbeats 4000000 in
set_option maxRecDepth 100000 in
theorem k_X10_leastBelow_2 (l : Launch) (adK adV : Nat → Nat) (dC : Nat → ClassId) (dI : Nat → Nat → Nat) (cy : Nat → ClassId) (ad : Nat → Nat) (B : Int) (hB0 : 2147483648 ≤ B) (hB1 : B ≤ 1152921504606846976) (qr : Nat) (s1 : Int)  (a1 : Int32) (ra1 : 0 ≤ a1.toInt) (ta1 : a1.toInt ≤ 11) (a2 : Int32) (ra2 : 0 ≤ a2.toInt) (ta2 : a2.toInt ≤ 8191) (w0 : va_W) (sz : Nat) (hT : TW ksC ad cy B qr s1 w0)  : Met l yX10_leastBelow wsX10_leastBelow ({ frames := 14, cells := 0, slots := 0, locals := 312 }) (va_Pc [.ref (ad 158), .int a1, .int a2] (wpreS adK adV dC dI cy sz w0)) (va_Qi (P_X10_leastBelow_2 ad cy B qr s1 a1 a2 w0) (fun u : va_W => wpost dC dI cy (va_A w0 sz) u) (va_A w0 sz)) 0 0 (va_A w0 sz) := by
  refine Met.ofW (cc := cX10_leastBelow) (maxL := 4) (ret := (some .int)) (by decide) rfl ?_
  intro p e s m args below meth c s₁ Bk hml hv
  obtain ⟨rfl, ⟨hsz, hP, hK, hD0⟩, hE, hSR⟩ := hv
  have hx := Bk.exec
  have hb := Bk.bytes
  have hr := Bk.returns
  have hlocks := Bk.notSynchronized
  have hC : CallFix p m c cX10_leastBelow 4 s _ wsX10_leastBelow RX10 := ⟨hx, hb, hml, findClass_of_methodNamed Bk.named, atoms_spec (ws := wsX10_leastBelow) Bk.pre⟩
  subst hsz
  have hD := hD0.self (sz := s.heap.size)
  generalize hAe : va_A w0 s.heap.size = A at hD hE ⊢
  have hA : ∀ q : Nat, s.heap.size ≤ q → A q := fun q h => by rw [← hAe]; exact Or.inr h
  have hw : Wd dC dI A s.heap s.heap [] w0 := ⟨hP, hD, va_S.rf⟩
  have hF : FE ksC [(51, 0, 10)] w0 w0 := FE.rf
  have hl := lv_entry ([.ref (ad 158), .int a1, .int a2]) (n := 4) (Nat.le_of_ble_eq_true rfl)
  rw [lg_entry_eq]
  generalize (lg_sl ([.ref (ad 158), .int a1, .int a2]) ++ List.replicate (4 - (lg_sl ([.ref (ad 158), .int a1, .int a2])).length) Slot.unset).toArray = ls at hl ⊢
  have hl : lv_has ls 4 [(0, .ref (ad 158)), (1, .int a1), (2, .int a2)] := hl
  generalize hloc : ([] : List Loc) = locs at hw ⊢
  have hinX10 : ∀ w ∈ u_ws RX10 TX10 5, w ∈ wsX10_leastBelow := fun _ h => List.mem_cons_of_mem _ (List.mem_append_left _ (List.mem_append_left _ (List.mem_append_right _ (h))))
  have hinX5 : ∀ w ∈ u_ws RX5 TX5 14, w ∈ wsX10_leastBelow := fun _ h => List.mem_cons_of_mem _ (List.mem_append_left _ (List.mem_append_right _ (h)))
  have L9 : ∀ (n9 : Nat) (v9_3 : Int32) (H : Heap) (locs : List Loc) (ls : Array Slot) (w1 : va_W), 0 ≤ a1.toInt → a1.toInt ≤ 11 → 0 ≤ a2.toInt → a2.toInt ≤ 8191 → 0 ≤ v9_3.toInt → v9_3.toInt ≤ 6 → (6 - v9_3.toInt).toNat < n9 → Wd dC dI A s.heap H locs w1 → TW ksC ad cy B qr s1 w1 → FE ksC [(51, 0, 10)] w0 w1 → lv_has ls 4 [(0, .ref (ad 158)), (1, .int a1), (2, .int a2), (3, .int v9_3)] → W p l e ({ frames := 14, cells := 0, slots := 0, locals := 312 }) s m (List.toArray [.ref (ad 158), .int a1, .int a2]) below meth c H locs 0 0 (MQ below (va_Qi (P_X10_leastBelow_2 ad cy B qr s1 a1 a2 w0) (fun u : va_W => wpost dC dI cy A u) A) (List.toArray [.ref (ad 158), .int a1, .int a2]) s 0 0 A) (F0 m 9 ls []) := by
    intro n9
    induction n9 with
    | zero => intro v9_3 H locs ls w1 r2 t3 r4 t5 r6 t7 hm9 hw hT hF hl; omega
    | succ n9 ih9 =>
      intro v9_3 H locs ls w1 r2 t3 r4 t5 r6 t7 hm9 hw hT hF hl
      refine lv_iload_n hx hb dX10_leastBelow_9 rfl (lv_at hl 3 rfl) ?_
      refine lv_aload_n hx hb dX10_leastBelow_10 rfl (lv_at hl 0 rfl) ?_
      refine tk_getA hC hK hw hT hinX10 kC_at158 (by decide) rfl 0 (by decide) (List.mem_of_getElem? (i := 1) rfl) rfl rfl dX10_leastBelow_11 ?_
      refine tk_geti hC hK hw hT hinX5 kC_at38 (by decide) rfl 10 (by decide) (List.mem_of_getElem? (i := 2) rfl) rfl rfl dX10_leastBelow_14 (fun x8 c9 rx8 tx8 => ?_)
      refine lv_icmp_ge (tgt := 36) hx hb dX10_leastBelow_17 (by decide) (fun c10 => ?_) (fun c10 => ?_)
      · have c10 : x8.toInt ≤ v9_3.toInt := wk_le.mp c10
        refine lv_iload_n hx hb dX10_leastBelow_36 rfl (lv_at hl 1 rfl) ?_
        refine lv_if_gt (tgt := 42) hx hb dX10_leastBelow_37 (by decide) (fun c11 => ?_) (fun c11 => ?_)
        · have c11 : (0 : Int) < a1.toInt := wk_lt.mp c11
          refine lv_aload_n hx hb dX10_leastBelow_42 rfl (lv_at hl 0 rfl) ?_
          refine lv_iload_n hx hb dX10_leastBelow_43 rfl (lv_at hl 1 rfl) ?_
          refine lv_iconst (v := 1) hx hb dX10_leastBelow_44 (by decide) ?_
          refine lv_isub hx hb dX10_leastBelow_45 ?_
          refine lv_topi (fun x12 ex12 => ?_)
          have ex12 : x12.toInt = a1.toInt - (1 : Int) := by rw [ex12]; exact wk_sub (show (-2147483648) ≤ a1.toInt - (1 : Int) by omega) (show a1.toInt - (1 : Int) ≤ 2147483647 by omega)
          refine lv_iload_n hx hb dX10_leastBelow_46 rfl (lv_at hl 2 rfl) ?_
          refine tk_Vi hC hK hw hT hA hE hSR kC_at158 (by decide) rfl (k_X10_leastBelow_3 l adK adV dC dI cy ad B (by omega) (by omega) qr s1   x12 (show 0 ≤ x12.toInt by omega) (show x12.toInt ≤ 10 by omega) a2 (show 0 ≤ a2.toInt by omega) (show a2.toInt ≤ 8191 by omega) w1 H.size hT ) (cwV 2 hC.2.2.2.2 gX10_leastBelow_X10_leastBelow rfl rfl rfl (by decide +kernel) ⟨Nat.le_of_ble_eq_true rfl, Nat.le_of_ble_eq_true rfl⟩) rfl hl.1 rfl (Nat.le_of_ble_eq_true rfl) dX10_leastBelow_47 (fun r13 w15 H locs hp14 hw => ?_)
          obtain ⟨hT, k16, hg21⟩ := hp14
          have hF := hF.tr k16 (by decide)
          have c22 := k16.gi kC_at38 (by decide) c9
          rcases hg21 with ⟨g17, g18⟩ | ⟨rfl, ⟨x19, c20, rx19, tx19⟩⟩
          · refine lv_istore_n (lv' := [(3, .int r13), (0, .ref (ad 158)), (1, .int a1), (2, .int a2)]) hx hb dX10_leastBelow_50 rfl hl (by decide) rfl (fun ls hl => ?_)
            refine lv_iload_n hx hb dX10_leastBelow_51 rfl (lv_at hl 0 rfl) ?_
            refine lv_iconst (v := (-1)) hx hb dX10_leastBelow_52 (by decide) ?_
            refine lv_icmp_eq (tgt := 60) hx hb dX10_leastBelow_53 (by decide) (fun c => absurd c (fun h => absurd (show r13.toInt = (-1 : Int) from wk_eq.mp h) (by omega))) (fun _ => ?_)
            refine lv_iload_n hx hb dX10_leastBelow_56 rfl (lv_at hl 0 rfl) ?_
            refine lv_goto (tgt := 74) hx hb dX10_leastBelow_57 (by decide) ?_
            exact tk_iret hC hr hlocks hK ⟨hT, hF, (Or.inl ⟨(show 0 ≤ r13.toInt by omega), (show r13.toInt ≤ 8191 by omega)⟩)⟩ hw dX10_leastBelow_74
          · have ex19 : x19.toInt = x8.toInt := by rw [← c22.symm.trans c20]
            refine lv_istore_n (lv' := [(3, .int (-1)), (0, .ref (ad 158)), (1, .int a1), (2, .int a2)]) hx hb dX10_leastBelow_50 rfl hl (by decide) rfl (fun ls hl => ?_)
            refine lv_iload_n hx hb dX10_leastBelow_51 rfl (lv_at hl 0 rfl) ?_
            refine lv_iconst (v := (-1)) hx hb dX10_leastBelow_52 (by decide) ?_
            refine lv_icmp_eq (tgt := 60) hx hb dX10_leastBelow_53 (by decide) (fun _ => ?_) (fun c => absurd (by decide) c)
            refine lv_aload_n hx hb dX10_leastBelow_60 rfl (lv_at hl 1 rfl) ?_
            refine lv_iload_n hx hb dX10_leastBelow_61 rfl (lv_at hl 2 rfl) ?_
            refine lv_iconst (v := 1) hx hb dX10_leastBelow_62 (by decide) ?_
            refine lv_isub hx hb dX10_leastBelow_63 ?_
            refine lv_topi (fun x23 ex23 => ?_)
            have ex23 : x23.toInt = a1.toInt - (1 : Int) := by rw [ex23]; exact wk_sub (show (-2147483648) ≤ a1.toInt - (1 : Int) by omega) (show a1.toInt - (1 : Int) ≤ 2147483647 by omega)
            refine lv_iload_n hx hb dX10_leastBelow_64 rfl (lv_at hl 3 rfl) ?_
            refine lv_iconst (v := 1) hx hb dX10_leastBelow_65 (by decide) ?_
            refine lv_iload_n hx hb dX10_leastBelow_66 rfl (lv_at hl 2 rfl) ?_
            refine lv_iconst (v := 1) hx hb dX10_leastBelow_67 (by decide) ?_
            refine lv_isub hx hb dX10_leastBelow_68 ?_
            refine lv_topi (fun x24 ex24 => ?_)
            have ex24 : x24.toInt = a1.toInt - (1 : Int) := by rw [ex24]; exact wk_sub (show (-2147483648) ≤ a1.toInt - (1 : Int) by omega) (show a1.toInt - (1 : Int) ≤ 2147483647 by omega)
            refine lv_ishl hx hb dX10_leastBelow_69 ?_
            refine lv_topi (fun x25 ex25 => ?_)
            have bx25 : 1 ≤ x25.toInt ∧ x25.toInt ≤ 1024 := by rw [ex25]; exact wk_shl1 10 (by decide) (by omega) (by omega)
            refine lv_ior hx hb dX10_leastBelow_70 ?_
            refine lv_topi (fun x26 ex26 => ?_)
            have bx26 : 0 ≤ x26.toInt ∧ x26.toInt < 8192 := by rw [ex26]; exact wk_or 13 (by decide) (by omega) (by omega) (by omega) (by omega)
            have mx26 : a2.toInt ≤ x26.toInt ∧ x25.toInt ≤ x26.toInt := by rw [ex26]; exact wk_orL 13 (by decide) (by omega) (by omega) (by omega) (by omega)
            refine tk_Vi hC hK hw hT hA hE hSR kC_at158 (by decide) rfl (k_X10_leastBelow_3 l adK adV dC dI cy ad B (by omega) (by omega) qr s1   x23 (show 0 ≤ x23.toInt by omega) (show x23.toInt ≤ 10 by omega) x26 (show 0 ≤ x26.toInt by omega) (show x26.toInt ≤ 8191 by omega) w15 H.size hT ) (cwV 2 hC.2.2.2.2 gX10_leastBelow_X10_leastBelow rfl rfl rfl (by decide +kernel) ⟨Nat.le_of_ble_eq_true rfl, Nat.le_of_ble_eq_true rfl⟩) rfl hl.1 rfl (Nat.le_of_ble_eq_true rfl) dX10_leastBelow_71 (fun r27 w29 H locs hp28 hw => ?_)
            obtain ⟨hT, k30, hg35⟩ := hp28
            have hF := hF.tr k30 (by decide)
            have c36 := k30.gi kC_at38 (by decide) c22
            rcases hg35 with ⟨g31, g32⟩ | ⟨rfl, ⟨x33, c34, rx33, tx33⟩⟩
            · exact tk_iret hC hr hlocks hK ⟨hT, hF, (Or.inl ⟨(show 0 ≤ r27.toInt by omega), (show r27.toInt ≤ 8191 by omega)⟩)⟩ hw dX10_leastBelow_74
            · have ex33 : x33.toInt = x8.toInt := by rw [← c36.symm.trans c34]
              exact tk_iret hC hr hlocks hK ⟨hT, hF, (Or.inr ⟨rfl, ⟨x8, c36, (show 1 ≤ x8.toInt by omega), (show x8.toInt ≤ 6 by omega)⟩⟩)⟩ hw dX10_leastBelow_74
        · have c11 : a1.toInt ≤ (0 : Int) := wk_ltF c11
          refine lv_iload_n hx hb dX10_leastBelow_40 rfl (lv_at hl 2 rfl) ?_
          exact tk_iret hC hr hlocks hK ⟨hT, hF, (Or.inl ⟨(show 0 ≤ a2.toInt by omega), (show a2.toInt ≤ 8191 by omega)⟩)⟩ hw dX10_leastBelow_41
      · have c10 : v9_3.toInt < x8.toInt := wk_leF c10
        refine lv_aload_n hx hb dX10_leastBelow_20 rfl (lv_at hl 0 rfl) ?_
        refine lv_iload_n hx hb dX10_leastBelow_21 rfl (lv_at hl 3 rfl) ?_
        refine tk_Vi hC hK hw hT hA hE hSR kC_at158 (by decide) rfl (k_X10_canDo_1 l adK adV dC dI cy ad B (by omega) (by omega) qr s1   v9_3 (show 0 ≤ v9_3.toInt by omega) (show v9_3.toInt ≤ 5 by omega) w1 H.size hT ) (cwV 1 hC.2.2.2.2 gX10_leastBelow_X10_canDo rfl rfl rfl (by decide +kernel) ⟨Nat.le_of_ble_eq_true rfl, Nat.le_of_ble_eq_true rfl⟩) rfl hl.1 rfl (Nat.le_of_ble_eq_true rfl) dX10_leastBelow_22 (fun r37 w39 H locs hp38 hw => ?_)
        obtain ⟨hT, k40, hg41⟩ := hp38
        have hF := hF.tr k40 (by decide)
        have c42 := k40.gi kC_at38 (by decide) c9
        rcases hg41 with rfl | rfl
        · refine lv_if_ne (tgt := 30) hx hb dX10_leastBelow_25 (by decide) (fun c => absurd (by decide) c) (fun _ => ?_)
          refine lv_iconst (v := (-1)) hx hb dX10_leastBelow_28 (by decide) ?_
          exact tk_iret hC hr hlocks hK ⟨hT, hF, (Or.inr ⟨rfl, ⟨x8, c42, (show 1 ≤ x8.toInt by omega), (show x8.toInt ≤ 6 by omega)⟩⟩)⟩ hw dX10_leastBelow_29
        · refine lv_if_ne (tgt := 30) hx hb dX10_leastBelow_25 (by decide) (fun _ => ?_) (fun c => absurd c (by decide))
          obtain ⟨x43, ex43⟩ : ∃ y : Int32, y = v9_3 + Int32.ofInt 1 := ⟨_, rfl⟩
          refine lv_iinc (v := x43) (lv' := [(3, .int x43), (0, .ref (ad 158)), (1, .int a1), (2, .int a2)]) hx hb dX10_leastBelow_30 hl (k := 3) rfl ex43.symm (by decide) rfl (fun ls hl => ?_)
          have ex43 : x43.toInt = v9_3.toInt + 1 := by rw [ex43]; exact wk_add (y := 1) (show -2147483648 ≤ v9_3.toInt + 1 by omega) (show v9_3.toInt + 1 ≤ 2147483647 by omega)
          refine lv_goto (tgt := 9) hx hb dX10_leastBelow_33 (by decide) ?_
          exact ih9 x43 H locs ls w39 (show 0 ≤ a1.toInt by omega) (show a1.toInt ≤ 11 by omega) (show 0 ≤ a2.toInt by omega) (show a2.toInt ≤ 8191 by omega) (show 0 ≤ x43.toInt by omega) (show x43.toInt ≤ 6 by omega) (show (6 - x43.toInt).toNat < n9 by omega) hw hT hF  (lv_sub hl [1, 2, 3, 0] rfl)
  refine lv_aload_n hx hb dX10_leastBelow_0 rfl (lv_at hl 0 rfl) ?_
  refine lv_iload_n hx hb dX10_leastBelow_1 rfl (lv_at hl 1 rfl) ?_
  refine lv_iload_n hx hb dX10_leastBelow_2 rfl (lv_at hl 2 rfl) ?_
  refine lv_iconst (v := (-1)) hx hb dX10_leastBelow_3 (by decide) ?_
  refine tk_Vv hC hK hw hT hA hE hSR kC_at158 (by decide) rfl (k_X10_layRoads_1 l adK adV dC dI cy ad B (by omega) (by omega) qr s1   a1 (show 0 ≤ a1.toInt by omega) (show a1.toInt ≤ 12 by omega) a2 (show 0 ≤ a2.toInt by omega) (show a2.toInt ≤ 8191 by omega) ((-1)) (by decide) (by decide) w0 s.heap.size hT ) (cwV 3 hC.2.2.2.2 gX10_leastBelow_X10_layRoads rfl rfl rfl (by decide +kernel) ⟨Nat.le_of_ble_eq_true rfl, Nat.le_of_ble_eq_true rfl⟩) rfl hl.1 rfl (Nat.le_of_ble_eq_true rfl) dX10_leastBelow_4 (fun w46 H locs hp45 hw => ?_)
  obtain ⟨hT, k47, hg48⟩ := hp45
  have hF := hF.tr k47 (by decide)
  clear hg48
  refine lv_iconst (v := 0) hx hb dX10_leastBelow_7 (by decide) ?_
  refine lv_istore_n (lv' := [(3, .int 0), (0, .ref (ad 158)), (1, .int a1), (2, .int a2)]) hx hb dX10_leastBelow_8 rfl hl (by decide) rfl (fun ls hl => ?_)
  exact L9 ((6 - (0 : Int)).toNat + 1) 0 H locs ls w46 (show 0 ≤ a1.toInt by omega) (show a1.toInt ≤ 11 by omega) (show 0 ≤ a2.toInt by omega) (show a2.toInt ≤ 8191 by omega) (by decide) (by decide) (Nat.lt_succ_self _) hw hT hF  (lv_sub hl [1, 2, 3, 0] rfl)
abbrev P_X10_leastBelow_1 (ad : Nat → Nat) (cy : Nat → ClassId) (B : Int) (qr : Nat) (s1 : Int) (a1 : Int32) (a2 : Int32) (w0 : va_W) : Int32 → va_W → Prop := fun r u => TW ksC ad cy B qr s1 u ∧ FE ksC [(51, 0, 10)] w0 u ∧ ((0 ≤ r.toInt ∧ r.toInt ≤ 8191) ∨ (r = (-1) ∧ (∃ y : Int32, gi u 38 10 = y ∧ 1 ≤ y.toInt ∧ y.toInt ≤ 6)))
set_option maxHeartbeats 4000000 in
set_option maxRecDepth 100000 in
theorem k_X10_leastBelow_1 (l : Launch) (adK adV : Nat → Nat) (dC : Nat → ClassId) (dI : Nat → Nat → Nat) (cy : Nat → ClassId) (ad : Nat → Nat) (B : Int) (hB0 : 2147483648 ≤ B) (hB1 : B ≤ 1152921504606846976) (qr : Nat) (s1 : Int)  (a1 : Int32) (ra1 : 0 ≤ a1.toInt) (ta1 : a1.toInt ≤ 12) (a2 : Int32) (ra2 : 0 ≤ a2.toInt) (ta2 : a2.toInt ≤ 8191) (w0 : va_W) (sz : Nat) (hT : TW ksC ad cy B qr s1 w0)  : Met l yX10_leastBelow wsX10_leastBelow ({ frames := 15, cells := 0, slots := 0, locals := 335 }) (va_Pc [.ref (ad 158), .int a1, .int a2] (wpreS adK adV dC dI cy sz w0)) (va_Qi (P_X10_leastBelow_1 ad cy B qr s1 a1 a2 w0) (fun u : va_W => wpost dC dI cy (va_A w0 sz) u) (va_A w0 sz)) 0 0 (va_A w0 sz) := by
  refine Met.ofW (cc := cX10_leastBelow) (maxL := 4) (ret := (some .int)) (by decide) rfl ?_
  intro p e s m args below meth c s₁ Bk hml hv
  obtain ⟨rfl, ⟨hsz, hP, hK, hD0⟩, hE, hSR⟩ := hv
  have hx := Bk.exec
  have hb := Bk.bytes
  have hr := Bk.returns
  have hlocks := Bk.notSynchronized
  have hC : CallFix p m c cX10_leastBelow 4 s _ wsX10_leastBelow RX10 := ⟨hx, hb, hml, findClass_of_methodNamed Bk.named, atoms_spec (ws := wsX10_leastBelow) Bk.pre⟩
  subst hsz
  have hD := hD0.self (sz := s.heap.size)
  generalize hAe : va_A w0 s.heap.size = A at hD hE ⊢
  have hA : ∀ q : Nat, s.heap.size ≤ q → A q := fun q h => by rw [← hAe]; exact Or.inr h
  have hw : Wd dC dI A s.heap s.heap [] w0 := ⟨hP, hD, va_S.rf⟩
  have hF : FE ksC [(51, 0, 10)] w0 w0 := FE.rf
  have hl := lv_entry ([.ref (ad 158), .int a1, .int a2]) (n := 4) (Nat.le_of_ble_eq_true rfl)
  rw [lg_entry_eq]
  generalize (lg_sl ([.ref (ad 158), .int a1, .int a2]) ++ List.replicate (4 - (lg_sl ([.ref (ad 158), .int a1, .int a2])).length) Slot.unset).toArray = ls at hl ⊢
  have hl : lv_has ls 4 [(0, .ref (ad 158)), (1, .int a1), (2, .int a2)] := hl
  generalize hloc : ([] : List Loc) = locs at hw ⊢
  have hinX10 : ∀ w ∈ u_ws RX10 TX10 5, w ∈ wsX10_leastBelow := fun _ h => List.mem_cons_of_mem _ (List.mem_append_left _ (List.mem_append_left _ (List.mem_append_right _ (h))))
  have hinX5 : ∀ w ∈ u_ws RX5 TX5 14, w ∈ wsX10_leastBelow := fun _ h => List.mem_cons_of_mem _ (List.mem_append_left _ (List.mem_append_right _ (h)))
  have L9 : ∀ (n9 : Nat) (v9_3 : Int32) (H : Heap) (locs : List Loc) (ls : Array Slot) (w1 : va_W), 0 ≤ a1.toInt → a1.toInt ≤ 12 → 0 ≤ a2.toInt → a2.toInt ≤ 8191 → 0 ≤ v9_3.toInt → v9_3.toInt ≤ 6 → (6 - v9_3.toInt).toNat < n9 → Wd dC dI A s.heap H locs w1 → TW ksC ad cy B qr s1 w1 → FE ksC [(51, 0, 10)] w0 w1 → lv_has ls 4 [(0, .ref (ad 158)), (1, .int a1), (2, .int a2), (3, .int v9_3)] → W p l e ({ frames := 15, cells := 0, slots := 0, locals := 335 }) s m (List.toArray [.ref (ad 158), .int a1, .int a2]) below meth c H locs 0 0 (MQ below (va_Qi (P_X10_leastBelow_1 ad cy B qr s1 a1 a2 w0) (fun u : va_W => wpost dC dI cy A u) A) (List.toArray [.ref (ad 158), .int a1, .int a2]) s 0 0 A) (F0 m 9 ls []) := by
    intro n9
    induction n9 with
    | zero => intro v9_3 H locs ls w1 r2 t3 r4 t5 r6 t7 hm9 hw hT hF hl; omega
    | succ n9 ih9 =>
      intro v9_3 H locs ls w1 r2 t3 r4 t5 r6 t7 hm9 hw hT hF hl
      refine lv_iload_n hx hb dX10_leastBelow_9 rfl (lv_at hl 3 rfl) ?_
      refine lv_aload_n hx hb dX10_leastBelow_10 rfl (lv_at hl 0 rfl) ?_
      refine tk_getA hC hK hw hT hinX10 kC_at158 (by decide) rfl 0 (by decide) (List.mem_of_getElem? (i := 1) rfl) rfl rfl dX10_leastBelow_11 ?_
      refine tk_geti hC hK hw hT hinX5 kC_at38 (by decide) rfl 10 (by decide) (List.mem_of_getElem? (i := 2) rfl) rfl rfl dX10_leastBelow_14 (fun x8 c9 rx8 tx8 => ?_)
      refine lv_icmp_ge (tgt := 36) hx hb dX10_leastBelow_17 (by decide) (fun c10 => ?_) (fun c10 => ?_)
      · have c10 : x8.toInt ≤ v9_3.toInt := wk_le.mp c10
        refine lv_iload_n hx hb dX10_leastBelow_36 rfl (lv_at hl 1 rfl) ?_
        refine lv_if_gt (tgt := 42) hx hb dX10_leastBelow_37 (by decide) (fun c11 => ?_) (fun c11 => ?_)
        · have c11 : (0 : Int) < a1.toInt := wk_lt.mp c11
          refine lv_aload_n hx hb dX10_leastBelow_42 rfl (lv_at hl 0 rfl) ?_
          refine lv_iload_n hx hb dX10_leastBelow_43 rfl (lv_at hl 1 rfl) ?_
          refine lv_iconst (v := 1) hx hb dX10_leastBelow_44 (by decide) ?_
          refine lv_isub hx hb dX10_leastBelow_45 ?_
          refine lv_topi (fun x12 ex12 => ?_)
          have ex12 : x12.toInt = a1.toInt - (1 : Int) := by rw [ex12]; exact wk_sub (show (-2147483648) ≤ a1.toInt - (1 : Int) by omega) (show a1.toInt - (1 : Int) ≤ 2147483647 by omega)
          refine lv_iload_n hx hb dX10_leastBelow_46 rfl (lv_at hl 2 rfl) ?_
          refine tk_Vi hC hK hw hT hA hE hSR kC_at158 (by decide) rfl (k_X10_leastBelow_2 l adK adV dC dI cy ad B (by omega) (by omega) qr s1   x12 (show 0 ≤ x12.toInt by omega) (show x12.toInt ≤ 11 by omega) a2 (show 0 ≤ a2.toInt by omega) (show a2.toInt ≤ 8191 by omega) w1 H.size hT ) (cwV 2 hC.2.2.2.2 gX10_leastBelow_X10_leastBelow rfl rfl rfl (by decide +kernel) ⟨Nat.le_of_ble_eq_true rfl, Nat.le_of_ble_eq_true rfl⟩) rfl hl.1 rfl (Nat.le_of_ble_eq_true rfl) dX10_leastBelow_47 (fun r13 w15 H locs hp14 hw => ?_)
          obtain ⟨hT, k16, hg21⟩ := hp14
          have hF := hF.tr k16 (by decide)
          have c22 := k16.gi kC_at38 (by decide) c9
          rcases hg21 with ⟨g17, g18⟩ | ⟨rfl, ⟨x19, c20, rx19, tx19⟩⟩
          · refine lv_istore_n (lv' := [(3, .int r13), (0, .ref (ad 158)), (1, .int a1), (2, .int a2)]) hx hb dX10_leastBelow_50 rfl hl (by decide) rfl (fun ls hl => ?_)
            refine lv_iload_n hx hb dX10_leastBelow_51 rfl (lv_at hl 0 rfl) ?_
            refine lv_iconst (v := (-1)) hx hb dX10_leastBelow_52 (by decide) ?_
            refine lv_icmp_eq (tgt := 60) hx hb dX10_leastBelow_53 (by decide) (fun c => absurd c (fun h => absurd (show r13.toInt = (-1 : Int) from wk_eq.mp h) (by omega))) (fun _ => ?_)
            refine lv_iload_n hx hb dX10_leastBelow_56 rfl (lv_at hl 0 rfl) ?_
            refine lv_goto (tgt := 74) hx hb dX10_leastBelow_57 (by decide) ?_
            exact tk_iret hC hr hlocks hK ⟨hT, hF, (Or.inl ⟨(show 0 ≤ r13.toInt by omega), (show r13.toInt ≤ 8191 by omega)⟩)⟩ hw dX10_leastBelow_74
          · have ex19 : x19.toInt = x8.toInt := by rw [← c22.symm.trans c20]
            refine lv_istore_n (lv' := [(3, .int (-1)), (0, .ref (ad 158)), (1, .int a1), (2, .int a2)]) hx hb dX10_leastBelow_50 rfl hl (by decide) rfl (fun ls hl => ?_)
            refine lv_iload_n hx hb dX10_leastBelow_51 rfl (lv_at hl 0 rfl) ?_
            refine lv_iconst (v := (-1)) hx hb dX10_leastBelow_52 (by decide) ?_
            refine lv_icmp_eq (tgt := 60) hx hb dX10_leastBelow_53 (by decide) (fun _ => ?_) (fun c => absurd (by decide) c)
            refine lv_aload_n hx hb dX10_leastBelow_60 rfl (lv_at hl 1 rfl) ?_
            refine lv_iload_n hx hb dX10_leastBelow_61 rfl (lv_at hl 2 rfl) ?_
            refine lv_iconst (v := 1) hx hb dX10_leastBelow_62 (by decide) ?_
            refine lv_isub hx hb dX10_leastBelow_63 ?_
            refine lv_topi (fun x23 ex23 => ?_)
            have ex23 : x23.toInt = a1.toInt - (1 : Int) := by rw [ex23]; exact wk_sub (show (-2147483648) ≤ a1.toInt - (1 : Int) by omega) (show a1.toInt - (1 : Int) ≤ 2147483647 by omega)
            refine lv_iload_n hx hb dX10_leastBelow_64 rfl (lv_at hl 3 rfl) ?_
            refine lv_iconst (v := 1) hx hb dX10_leastBelow_65 (by decide) ?_
            refine lv_iload_n hx hb dX10_leastBelow_66 rfl (lv_at hl 2 rfl) ?_
            refine lv_iconst (v := 1) hx hb dX10_leastBelow_67 (by decide) ?_
            refine lv_isub hx hb dX10_leastBelow_68 ?_
            refine lv_topi (fun x24 ex24 => ?_)
            have ex24 : x24.toInt = a1.toInt - (1 : Int) := by rw [ex24]; exact wk_sub (show (-2147483648) ≤ a1.toInt - (1 : Int) by omega) (show a1.toInt - (1 : Int) ≤ 2147483647 by omega)
            refine lv_ishl hx hb dX10_leastBelow_69 ?_
            refine lv_topi (fun x25 ex25 => ?_)
            have bx25 : 1 ≤ x25.toInt ∧ x25.toInt ≤ 2048 := by rw [ex25]; exact wk_shl1 11 (by decide) (by omega) (by omega)
            refine lv_ior hx hb dX10_leastBelow_70 ?_
            refine lv_topi (fun x26 ex26 => ?_)
            have bx26 : 0 ≤ x26.toInt ∧ x26.toInt < 8192 := by rw [ex26]; exact wk_or 13 (by decide) (by omega) (by omega) (by omega) (by omega)
            have mx26 : a2.toInt ≤ x26.toInt ∧ x25.toInt ≤ x26.toInt := by rw [ex26]; exact wk_orL 13 (by decide) (by omega) (by omega) (by omega) (by omega)
            refine tk_Vi hC hK hw hT hA hE hSR kC_at158 (by decide) rfl (k_X10_leastBelow_2 l adK adV dC dI cy ad B (by omega) (by omega) qr s1   x23 (show 0 ≤ x23.toInt by omega) (show x23.toInt ≤ 11 by omega) x26 (show 0 ≤ x26.toInt by omega) (show x26.toInt ≤ 8191 by omega) w15 H.size hT ) (cwV 2 hC.2.2.2.2 gX10_leastBelow_X10_leastBelow rfl rfl rfl (by decide +kernel) ⟨Nat.le_of_ble_eq_true rfl, Nat.le_of_ble_eq_true rfl⟩) rfl hl.1 rfl (Nat.le_of_ble_eq_true rfl) dX10_leastBelow_71 (fun r27 w29 H locs hp28 hw => ?_)
            obtain ⟨hT, k30, hg35⟩ := hp28
            have hF := hF.tr k30 (by decide)
            have c36 := k30.gi kC_at38 (by decide) c22
            rcases hg35 with ⟨g31, g32⟩ | ⟨rfl, ⟨x33, c34, rx33, tx33⟩⟩
            · exact tk_iret hC hr hlocks hK ⟨hT, hF, (Or.inl ⟨(show 0 ≤ r27.toInt by omega), (show r27.toInt ≤ 8191 by omega)⟩)⟩ hw dX10_leastBelow_74
            · have ex33 : x33.toInt = x8.toInt := by rw [← c36.symm.trans c34]
              exact tk_iret hC hr hlocks hK ⟨hT, hF, (Or.inr ⟨rfl, ⟨x8, c36, (show 1 ≤ x8.toInt by omega), (show x8.toInt ≤ 6 by omega)⟩⟩)⟩ hw dX10_leastBelow_74
        · have c11 : a1.toInt ≤ (0 : Int) := wk_ltF c11
          refine lv_iload_n hx hb dX10_leastBelow_40 rfl (lv_at hl 2 rfl) ?_
          exact tk_iret hC hr hlocks hK ⟨hT, hF, (Or.inl ⟨(show 0 ≤ a2.toInt by omega), (show a2.toInt ≤ 8191 by omega)⟩)⟩ hw dX10_leastBelow_41
      · have c10 : v9_3.toInt < x8.toInt := wk_leF c10
        refine lv_aload_n hx hb dX10_leastBelow_20 rfl (lv_at hl 0 rfl) ?_
        refine lv_iload_n hx hb dX10_leastBelow_21 rfl (lv_at hl 3 rfl) ?_
        refine tk_Vi hC hK hw hT hA hE hSR kC_at158 (by decide) rfl (k_X10_canDo_1 l adK adV dC dI cy ad B (by omega) (by omega) qr s1   v9_3 (show 0 ≤ v9_3.toInt by omega) (show v9_3.toInt ≤ 5 by omega) w1 H.size hT ) (cwV 1 hC.2.2.2.2 gX10_leastBelow_X10_canDo rfl rfl rfl (by decide +kernel) ⟨Nat.le_of_ble_eq_true rfl, Nat.le_of_ble_eq_true rfl⟩) rfl hl.1 rfl (Nat.le_of_ble_eq_true rfl) dX10_leastBelow_22 (fun r37 w39 H locs hp38 hw => ?_)
        obtain ⟨hT, k40, hg41⟩ := hp38
        have hF := hF.tr k40 (by decide)
        have c42 := k40.gi kC_at38 (by decide) c9
        rcases hg41 with rfl | rfl
        · refine lv_if_ne (tgt := 30) hx hb dX10_leastBelow_25 (by decide) (fun c => absurd (by decide) c) (fun _ => ?_)
          refine lv_iconst (v := (-1)) hx hb dX10_leastBelow_28 (by decide) ?_
          exact tk_iret hC hr hlocks hK ⟨hT, hF, (Or.inr ⟨rfl, ⟨x8, c42, (show 1 ≤ x8.toInt by omega), (show x8.toInt ≤ 6 by omega)⟩⟩)⟩ hw dX10_leastBelow_29
        · refine lv_if_ne (tgt := 30) hx hb dX10_leastBelow_25 (by decide) (fun _ => ?_) (fun c => absurd c (by decide))
          obtain ⟨x43, ex43⟩ : ∃ y : Int32, y = v9_3 + Int32.ofInt 1 := ⟨_, rfl⟩
          refine lv_iinc (v := x43) (lv' := [(3, .int x43), (0, .ref (ad 158)), (1, .int a1), (2, .int a2)]) hx hb dX10_leastBelow_30 hl (k := 3) rfl ex43.symm (by decide) rfl (fun ls hl => ?_)
          have ex43 : x43.toInt = v9_3.toInt + 1 := by rw [ex43]; exact wk_add (y := 1) (show -2147483648 ≤ v9_3.toInt + 1 by omega) (show v9_3.toInt + 1 ≤ 2147483647 by omega)
          refine lv_goto (tgt := 9) hx hb dX10_leastBelow_33 (by decide) ?_
          exact ih9 x43 H locs ls w39 (show 0 ≤ a1.toInt by omega) (show a1.toInt ≤ 12 by omega) (show 0 ≤ a2.toInt by omega) (show a2.toInt ≤ 8191 by omega) (show 0 ≤ x43.toInt by omega) (show x43.toInt ≤ 6 by omega) (show (6 - x43.toInt).toNat < n9 by omega) hw hT hF  (lv_sub hl [1, 2, 3, 0] rfl)
  refine lv_aload_n hx hb dX10_leastBelow_0 rfl (lv_at hl 0 rfl) ?_
  refine lv_iload_n hx hb dX10_leastBelow_1 rfl (lv_at hl 1 rfl) ?_
  refine lv_iload_n hx hb dX10_leastBelow_2 rfl (lv_at hl 2 rfl) ?_
  refine lv_iconst (v := (-1)) hx hb dX10_leastBelow_3 (by decide) ?_
  refine tk_Vv hC hK hw hT hA hE hSR kC_at158 (by decide) rfl (k_X10_layRoads_1 l adK adV dC dI cy ad B (by omega) (by omega) qr s1   a1 (show 0 ≤ a1.toInt by omega) (show a1.toInt ≤ 12 by omega) a2 (show 0 ≤ a2.toInt by omega) (show a2.toInt ≤ 8191 by omega) ((-1)) (by decide) (by decide) w0 s.heap.size hT ) (cwV 3 hC.2.2.2.2 gX10_leastBelow_X10_layRoads rfl rfl rfl (by decide +kernel) ⟨Nat.le_of_ble_eq_true rfl, Nat.le_of_ble_eq_true rfl⟩) rfl hl.1 rfl (Nat.le_of_ble_eq_true rfl) dX10_leastBelow_4 (fun w46 H locs hp45 hw => ?_)
  obtain ⟨hT, k47, hg48⟩ := hp45
  have hF := hF.tr k47 (by decide)
  clear hg48
  refine lv_iconst (v := 0) hx hb dX10_leastBelow_7 (by decide) ?_
  refine lv_istore_n (lv' := [(3, .int 0), (0, .ref (ad 158)), (1, .int a1), (2, .int a2)]) hx hb dX10_leastBelow_8 rfl hl (by decide) rfl (fun ls hl => ?_)
  exact L9 ((6 - (0 : Int)).toNat + 1) 0 H locs ls w46 (show 0 ≤ a1.toInt by omega) (show a1.toInt ≤ 12 by omega) (show 0 ≤ a2.toInt by omega) (show a2.toInt ≤ 8191 by omega) (by decide) (by decide) (Nat.lt_succ_self _) hw hT hF  (lv_sub hl [1, 2, 3, 0] rfl)
abbrev P_X10_findLeast_1 (ad : Nat → Nat) (cy : Nat → ClassId) (B : Int) (qr : Nat) (s1 : Int)  (w0 : va_W) : Int32 → va_W → Prop := fun r u => TW ksC ad cy B qr s1 u ∧ FE ksC [(51, 0, 10)] w0 u ∧ ((0 ≤ r.toInt ∧ r.toInt ≤ 8191) ∨ (r = (-1) ∧ (∃ y : Int32, gi u 38 10 = y ∧ 1 ≤ y.toInt ∧ y.toInt ≤ 6)))
set_option maxHeartbeats 4000000 in
set_option maxRecDepth 100000 in
theorem k_X10_findLeast_1 (l : Launch) (adK adV : Nat → Nat) (dC : Nat → ClassId) (dI : Nat → Nat → Nat) (cy : Nat → ClassId) (ad : Nat → Nat) (B : Int) (hB0 : 2147483648 ≤ B) (hB1 : B ≤ 1152921504606846976) (qr : Nat) (s1 : Int)   (w0 : va_W) (sz : Nat) (hT : TW ksC ad cy B qr s1 w0)  : Met l yX10_findLeast wsX10_findLeast ({ frames := 16, cells := 0, slots := 0, locals := 358 }) (va_Pc [.ref (ad 158)] (wpreS adK adV dC dI cy sz w0)) (va_Qi (P_X10_findLeast_1 ad cy B qr s1  w0) (fun u : va_W => wpost dC dI cy (va_A w0 sz) u) (va_A w0 sz)) 0 0 (va_A w0 sz) := by
  refine Met.ofW (cc := cX10_findLeast) (maxL := 1) (ret := (some .int)) (by decide) rfl ?_
  intro p e s m args below meth c s₁ Bk hml hv
  obtain ⟨rfl, ⟨hsz, hP, hK, hD0⟩, hE, hSR⟩ := hv
  have hx := Bk.exec
  have hb := Bk.bytes
  have hr := Bk.returns
  have hlocks := Bk.notSynchronized
  have hC : CallFix p m c cX10_findLeast 1 s _ wsX10_findLeast RX10 := ⟨hx, hb, hml, findClass_of_methodNamed Bk.named, atoms_spec (ws := wsX10_findLeast) Bk.pre⟩
  subst hsz
  have hD := hD0.self (sz := s.heap.size)
  generalize hAe : va_A w0 s.heap.size = A at hD hE ⊢
  have hA : ∀ q : Nat, s.heap.size ≤ q → A q := fun q h => by rw [← hAe]; exact Or.inr h
  have hw : Wd dC dI A s.heap s.heap [] w0 := ⟨hP, hD, va_S.rf⟩
  have hF : FE ksC [(51, 0, 10)] w0 w0 := FE.rf
  have hl := lv_entry ([.ref (ad 158)]) (n := 1) (Nat.le_of_ble_eq_true rfl)
  rw [lg_entry_eq]
  generalize (lg_sl ([.ref (ad 158)]) ++ List.replicate (1 - (lg_sl ([.ref (ad 158)])).length) Slot.unset).toArray = ls at hl ⊢
  have hl : lv_has ls 1 [(0, .ref (ad 158))] := hl
  generalize hloc : ([] : List Loc) = locs at hw ⊢
  have hinX10 : ∀ w ∈ u_ws RX10 TX10 5, w ∈ wsX10_findLeast := fun _ h => List.mem_cons_of_mem _ (List.mem_append_left _ (List.mem_append_left _ (List.mem_append_right _ (h))))
  refine lv_aload_n hx hb dX10_findLeast_0 rfl (lv_at hl 0 rfl) ?_
  refine lv_aload_n hx hb dX10_findLeast_1 rfl (lv_at hl 0 rfl) ?_
  refine tk_geti hC hK hw hT hinX10 kC_at158 (by decide) rfl 4 (by decide) (List.mem_of_getElem? (i := 1) rfl) rfl rfl dX10_findLeast_2 (fun x1 c2 rx1 tx1 => ?_)
  refine lv_iconst (v := 0) hx hb dX10_findLeast_5 (by decide) ?_
  refine tk_Vi hC hK hw hT hA hE hSR kC_at158 (by decide) rfl (k_X10_leastBelow_1 l adK adV dC dI cy ad B (by omega) (by omega) qr s1   x1 (show 0 ≤ x1.toInt by omega) (show x1.toInt ≤ 12 by omega) 0 (by decide) (by decide) w0 s.heap.size hT ) (cwV 2 hC.2.2.2.2 gX10_findLeast_X10_leastBelow rfl rfl rfl (by decide +kernel) ⟨Nat.le_of_ble_eq_true rfl, Nat.le_of_ble_eq_true rfl⟩) rfl hl.1 rfl (Nat.le_of_ble_eq_true rfl) dX10_findLeast_6 (fun r3 w5 H locs hp4 hw => ?_)
  obtain ⟨hT, k6, hg11⟩ := hp4
  have hF := hF.tr k6 (by decide)
  have c12 := k6.gi kC_at158 (by decide) c2
  rcases hg11 with ⟨g7, g8⟩ | ⟨rfl, ⟨x9, c10, rx9, tx9⟩⟩
  · exact tk_iret hC hr hlocks hK ⟨hT, hF, (Or.inl ⟨(show 0 ≤ r3.toInt by omega), (show r3.toInt ≤ 8191 by omega)⟩)⟩ hw dX10_findLeast_9
  · exact tk_iret hC hr hlocks hK ⟨hT, hF, (Or.inr ⟨rfl, ⟨x9, c10, (show 1 ≤ x9.toInt by omega), (show x9.toInt ≤ 6 by omega)⟩⟩)⟩ hw dX10_findLeast_9
abbrev P_X11_ways_1 (ad : Nat → Nat) (cy : Nat → ClassId) (B : Int) (qr : Nat) (s1 : Int) (a1 : Int32) (a2 : Int32) (w0 : va_W) : Int32 → va_W → Prop := fun r u => TW ksC ad cy B qr s1 u ∧ FE ksC [(10, 4, 4), (50, 0, 12), (51, 0, 10)] w0 u ∧ ((r = (-2) ∧ 0 ≤ a1.toInt ∧ a1.toInt ≤ 6 ∧ 0 ≤ a2.toInt ∧ a2.toInt ≤ 0 ∧ (∃ y : Int32, gi u 39 8 = y ∧ 1 ≤ y.toInt ∧ y.toInt ≤ 10)) ∨ (0 ≤ r.toInt ∧ r.toInt ≤ 8191 ∧ 0 ≤ a1.toInt ∧ a1.toInt ≤ 6 ∧ 0 ≤ a2.toInt ∧ a2.toInt ≤ 1 ∧ (∃ y : Int32, gi u 39 8 = y ∧ 1 ≤ y.toInt ∧ y.toInt ≤ 10)) ∨ (r = (-1)))
set_option maxHeartbeats 4000000 in
set_option maxRecDepth 100000 in
theorem k_X11_ways_1 (l : Launch) (adK adV : Nat → Nat) (dC : Nat → ClassId) (dI : Nat → Nat → Nat) (cy : Nat → ClassId) (ad : Nat → Nat) (B : Int) (hB0 : 2147483648 ≤ B) (hB1 : B ≤ 1152921504606846976) (qr : Nat) (s1 : Int)  (a1 : Int32) (a2 : Int32) (w0 : va_W) (sz : Nat) (hT : TW ksC ad cy B qr s1 w0)  : Met l yX11_ways wsX11_ways ({ frames := 17, cells := 0, slots := 0, locals := 378 }) (va_Pc [.ref (ad 0), .int a1, .int a2] (wpreS adK adV dC dI cy sz w0)) (va_Qi (P_X11_ways_1 ad cy B qr s1 a1 a2 w0) (fun u : va_W => wpost dC dI cy (va_A w0 sz) u) (va_A w0 sz)) 0 0 (va_A w0 sz) := by
  refine Met.ofW (cc := cX11_ways) (maxL := 4) (ret := (some .int)) (by decide) rfl ?_
  intro p e s m args below meth c s₁ Bk hml hv
  obtain ⟨rfl, ⟨hsz, hP, hK, hD0⟩, hE, hSR⟩ := hv
  have hx := Bk.exec
  have hb := Bk.bytes
  have hr := Bk.returns
  have hlocks := Bk.notSynchronized
  have hC : CallFix p m c cX11_ways 4 s _ wsX11_ways RX11 := ⟨hx, hb, hml, findClass_of_methodNamed Bk.named, atoms_spec (ws := wsX11_ways) Bk.pre⟩
  subst hsz
  have hD := hD0.self (sz := s.heap.size)
  generalize hAe : va_A w0 s.heap.size = A at hD hE ⊢
  have hA : ∀ q : Nat, s.heap.size ≤ q → A q := fun q h => by rw [← hAe]; exact Or.inr h
  have hw : Wd dC dI A s.heap s.heap [] w0 := ⟨hP, hD, va_S.rf⟩
  have hF : FE ksC [(10, 4, 4), (50, 0, 12), (51, 0, 10)] w0 w0 := FE.rf
  have hl := lv_entry ([.ref (ad 0), .int a1, .int a2]) (n := 4) (Nat.le_of_ble_eq_true rfl)
  rw [lg_entry_eq]
  generalize (lg_sl ([.ref (ad 0), .int a1, .int a2]) ++ List.replicate (4 - (lg_sl ([.ref (ad 0), .int a1, .int a2])).length) Slot.unset).toArray = ls at hl ⊢
  have hl : lv_has ls 4 [(0, .ref (ad 0)), (1, .int a1), (2, .int a2)] := hl
  generalize hloc : ([] : List Loc) = locs at hw ⊢
  have hinX11 : ∀ w ∈ u_ws RX11 TX11 13, w ∈ wsX11_ways := fun _ h => List.mem_cons_of_mem _ (List.mem_append_left _ (List.mem_append_left _ (List.mem_append_left _ (List.mem_append_right _ (h)))))
  have J26 : ∀ (f26_39_8 : Int32) (H : Heap) (locs : List Loc) (ls : Array Slot) (w1 : va_W), (-1) ≤ f26_39_8.toInt → f26_39_8.toInt ≤ 10 → Wd dC dI A s.heap H locs w1 → TW ksC ad cy B qr s1 w1 → FE ksC [(10, 4, 4), (50, 0, 12), (51, 0, 10)] w0 w1 → gi w1 39 8 = f26_39_8 → lv_has ls 4 [(0, .ref (ad 0)), (1, .int a1), (2, .int a2)] → W p l e ({ frames := 17, cells := 0, slots := 0, locals := 378 }) s m (List.toArray [.ref (ad 0), .int a1, .int a2]) below meth c H locs 0 0 (MQ below (va_Qi (P_X11_ways_1 ad cy B qr s1 a1 a2 w0) (fun u : va_W => wpost dC dI cy A u) A) (List.toArray [.ref (ad 0), .int a1, .int a2]) s 0 0 A) (F0 m 26 ls []) := by
    intro f26_39_8 H locs ls w1 r2 t3 hw hT hF c4 hl
    refine lv_iconst (v := (-1)) hx hb dX11_ways_26 (by decide) ?_
    exact tk_iret hC hr hlocks hK ⟨hT, hF, (Or.inr (Or.inr rfl))⟩ hw dX11_ways_27
  refine lv_aload_n hx hb dX11_ways_0 rfl (lv_at hl 0 rfl) ?_
  refine tk_getA hC hK hw hT hinX11 kC_at0 (by decide) rfl 4 (by decide) (List.mem_of_getElem? (i := 1) rfl) rfl rfl dX11_ways_1 ?_
  refine tk_Vi hC hK hw hT hA hE hSR kC_at38 (by decide) rfl (k_X5_hasTown_1 l adK adV dC dI cy ad B (by omega) (by omega) qr s1    w0 s.heap.size hT ) (cwV 0 hC.2.2.2.2 gX11_ways_X5_hasTown rfl rfl rfl (by decide +kernel) ⟨Nat.le_of_ble_eq_true rfl, Nat.le_of_ble_eq_true rfl⟩) rfl hl.1 rfl (Nat.le_of_ble_eq_true rfl) dX11_ways_4 (fun r5 w7 H locs hp6 hw => ?_)
  obtain ⟨hT, k8, hg13⟩ := hp6
  have hF := hF.tr k8 (by decide)
  rcases hg13 with ⟨rfl, ⟨x9, c10, rx9, tx9⟩⟩ | ⟨rfl, ⟨x11, c12, rx11, tx11⟩⟩
  · refine lv_if_eq (tgt := 26) hx hb dX11_ways_7 (by decide) (fun _ => ?_) (fun c => absurd (by decide) c)
    exact J26 x9 H locs ls w7 (show (-1) ≤ x9.toInt by omega) (show x9.toInt ≤ 10 by omega)  hw hT hF c10 (lv_sub hl [0, 1, 2] rfl)
  · refine lv_if_eq (tgt := 26) hx hb dX11_ways_7 (by decide) (fun c => absurd c (by decide)) (fun _ => ?_)
    refine lv_iload_n hx hb dX11_ways_10 rfl (lv_at hl 1 rfl) ?_
    refine tk_Si hC hK hw hT hA hE hSR (k_X11_isWeekday_1 l adK adV dC dI cy ad B (by omega) (by omega) qr s1   a1 w7 H.size hT ) (va_cwS 1 hC.2.2.2.2 gX11_ways_X11_isWeekday rfl rfl rfl (by decide +kernel) ⟨Nat.le_of_ble_eq_true rfl, Nat.le_of_ble_eq_true rfl⟩) rfl hl.1 rfl (Nat.le_of_ble_eq_true rfl) dX11_ways_11 (fun r14 w16 H locs hp15 hw => ?_)
    obtain ⟨hT, k17, hg20⟩ := hp15
    have hF := hF.tr k17 (by decide)
    have c21 := k17.gi kC_at39 (by decide) c12
    rcases hg20 with rfl | ⟨rfl, g18, g19⟩
    · refine lv_if_eq (tgt := 26) hx hb dX11_ways_14 (by decide) (fun _ => ?_) (fun c => absurd (by decide) c)
      exact J26 x11 H locs ls w16 (show (-1) ≤ x11.toInt by omega) (show x11.toInt ≤ 10 by omega)  hw hT hF c21 (lv_sub hl [0, 1, 2] rfl)
    · refine lv_if_eq (tgt := 26) hx hb dX11_ways_14 (by decide) (fun c => absurd c (by decide)) (fun _ => ?_)
      refine lv_iload_n hx hb dX11_ways_17 rfl (lv_at hl 2 rfl) ?_
      refine lv_if_lt (tgt := 26) hx hb dX11_ways_18 (by decide) (fun c22 => ?_) (fun c22 => ?_)
      · have c22 : a2.toInt < (0 : Int) := wk_lt.mp c22
        exact J26 x11 H locs ls w16 (show (-1) ≤ x11.toInt by omega) (show x11.toInt ≤ 10 by omega)  hw hT hF c21 (lv_sub hl [0, 1, 2] rfl)
      · have c22 : (0 : Int) ≤ a2.toInt := wk_ltF c22
        refine lv_iload_n hx hb dX11_ways_21 rfl (lv_at hl 2 rfl) ?_
        refine lv_iconst (v := 1) hx hb dX11_ways_22 (by decide) ?_
        refine lv_icmp_le (tgt := 28) hx hb dX11_ways_23 (by decide) (fun c23 => ?_) (fun c23 => ?_)
        · have c23 : a2.toInt ≤ (1 : Int) := wk_le.mp c23
          refine lv_aload_n hx hb dX11_ways_28 rfl (lv_at hl 0 rfl) ?_
          refine tk_getA hC hK hw hT hinX11 kC_at0 (by decide) rfl 11 (by decide) (List.mem_of_getElem? (i := 2) rfl) rfl rfl dX11_ways_29 ?_
          refine lv_iload_n hx hb dX11_ways_32 rfl (lv_at hl 1 rfl) ?_
          refine tk_Vv hC hK hw hT hA hE hSR kC_at158 (by decide) rfl (k_X10_takeDay_1 l adK adV dC dI cy ad B (by omega) (by omega) qr s1   a1 (show 0 ≤ a1.toInt by omega) (show a1.toInt ≤ 6 by omega) w16 H.size hT ) (cwV 1 hC.2.2.2.2 gX11_ways_X10_takeDay rfl rfl rfl (by decide +kernel) ⟨Nat.le_of_ble_eq_true rfl, Nat.le_of_ble_eq_true rfl⟩) rfl hl.1 rfl (Nat.le_of_ble_eq_true rfl) dX11_ways_33 (fun w26 H locs hp25 hw => ?_)
          obtain ⟨hT, k27, hg28⟩ := hp25
          have hF := hF.tr k27 (by decide)
          have c29 := k27.gi kC_at39 (by decide) c21
          clear hg28
          refine lv_aload_n hx hb dX11_ways_36 rfl (lv_at hl 0 rfl) ?_
          refine tk_getA hC hK hw hT hinX11 kC_at0 (by decide) rfl 11 (by decide) (List.mem_of_getElem? (i := 2) rfl) rfl rfl dX11_ways_37 ?_
          refine tk_Vi hC hK hw hT hA hE hSR kC_at158 (by decide) rfl (k_X10_findClash_1 l adK adV dC dI cy ad B (by omega) (by omega) qr s1    w26 H.size hT ) (cwV 0 hC.2.2.2.2 gX11_ways_X10_findClash rfl rfl rfl (by decide +kernel) ⟨Nat.le_of_ble_eq_true rfl, Nat.le_of_ble_eq_true rfl⟩) rfl hl.1 rfl (Nat.le_of_ble_eq_true rfl) dX11_ways_40 (fun r30 w32 H locs hp31 hw => ?_)
          obtain ⟨hT, k33, hg36⟩ := hp31
          have hF := hF.tr k33 (by decide)
          have c37 := k33.gi kC_at39 (by decide) c29
          obtain ⟨g34, g35⟩ := hg36
          refine lv_istore_n (lv' := [(3, .int r30), (0, .ref (ad 0)), (1, .int a1), (2, .int a2)]) hx hb dX11_ways_43 rfl hl (by decide) rfl (fun ls hl => ?_)
          refine lv_iload_n hx hb dX11_ways_44 rfl (lv_at hl 3 rfl) ?_
          refine lv_iconst (v := 1) hx hb dX11_ways_45 (by decide) ?_
          refine lv_icmp_ne (tgt := 51) hx hb dX11_ways_46 (by decide) (fun c38 => ?_) (fun c38 => ?_)
          · have c38 : ¬ a2.toInt = (1 : Int) := wk_eqF c38
            refine lv_iload_n hx hb dX11_ways_51 rfl (lv_at hl 0 rfl) ?_
            refine lv_if_eq (tgt := 60) hx hb dX11_ways_52 (by decide) (fun c39 => ?_) (fun c39 => ?_)
            · have c39 : r30.toInt = (0 : Int) := wk_eq.mp c39
              refine lv_aload_n hx hb dX11_ways_60 rfl (lv_at hl 1 rfl) ?_
              refine tk_getA hC hK hw hT hinX11 kC_at0 (by decide) rfl 11 (by decide) (List.mem_of_getElem? (i := 2) rfl) rfl rfl dX11_ways_61 ?_
              refine tk_Vi hC hK hw hT hA hE hSR kC_at158 (by decide) rfl (k_X10_findLeast_1 l adK adV dC dI cy ad B (by omega) (by omega) qr s1    w32 H.size hT ) (cwV 0 hC.2.2.2.2 gX11_ways_X10_findLeast rfl rfl rfl (by decide +kernel) ⟨Nat.le_of_ble_eq_true rfl, Nat.le_of_ble_eq_true rfl⟩) rfl hl.1 rfl (Nat.le_of_ble_eq_true rfl) dX11_ways_64 (fun r40 w42 H locs hp41 hw => ?_)
              obtain ⟨hT, k43, hg48⟩ := hp41
              have hF := hF.tr k43 (by decide)
              have c49 := k43.gi kC_at39 (by decide) c37
              rcases hg48 with ⟨g44, g45⟩ | ⟨rfl, ⟨x46, c47, rx46, tx46⟩⟩
              · exact tk_iret hC hr hlocks hK ⟨hT, hF, (Or.inr (Or.inl ⟨(show 0 ≤ r40.toInt by omega), (show r40.toInt ≤ 8191 by omega), (show 0 ≤ a1.toInt by omega), (show a1.toInt ≤ 6 by omega), (show 0 ≤ a2.toInt by omega), (show a2.toInt ≤ 1 by omega), ⟨x11, c49, (show 1 ≤ x11.toInt by omega), (show x11.toInt ≤ 10 by omega)⟩⟩))⟩ hw dX11_ways_67
              · exact tk_iret hC hr hlocks hK ⟨hT, hF, (Or.inr (Or.inr rfl))⟩ hw dX11_ways_67
            · have c39 : ¬ r30.toInt = (0 : Int) := wk_eqF c39
              refine lv_bipush (v := (-2)) hx hb dX11_ways_55 (by decide) ?_
              refine lv_goto (tgt := 67) hx hb dX11_ways_57 (by decide) ?_
              exact tk_iret hC hr hlocks hK ⟨hT, hF, (Or.inl ⟨rfl, (show 0 ≤ a1.toInt by omega), (show a1.toInt ≤ 6 by omega), (show 0 ≤ a2.toInt by omega), (show a2.toInt ≤ 0 by omega), ⟨x11, c37, (show 1 ≤ x11.toInt by omega), (show x11.toInt ≤ 10 by omega)⟩⟩)⟩ hw dX11_ways_67
          · have c38 : a2.toInt = (1 : Int) := wk_eq.mp c38
            refine lv_iload_n hx hb dX11_ways_49 rfl (lv_at hl 0 rfl) ?_
            exact tk_iret hC hr hlocks hK ⟨hT, hF, (Or.inr (Or.inl ⟨(show 0 ≤ r30.toInt by omega), (show r30.toInt ≤ 8191 by omega), (show 0 ≤ a1.toInt by omega), (show a1.toInt ≤ 6 by omega), (show 0 ≤ a2.toInt by omega), (show a2.toInt ≤ 1 by omega), ⟨x11, c37, (show 1 ≤ x11.toInt by omega), (show x11.toInt ≤ 10 by omega)⟩⟩))⟩ hw dX11_ways_50
        · have c23 : (1 : Int) < a2.toInt := wk_leF c23
          exact J26 x11 H locs ls w16 (show (-1) ≤ x11.toInt by omega) (show x11.toInt ≤ 10 by omega)  hw hT hF c21 (lv_sub hl [0, 1, 2] rfl)
abbrev P_X11_sight_1 (ad : Nat → Nat) (cy : Nat → ClassId) (B : Int) (qr : Nat) (s1 : Int) (a1 : Int32) (a2 : Int32) (w0 : va_W) : Int32 → va_W → Prop := fun r u => TW ksC ad cy B qr s1 u ∧ FE ksC [(5, 11, 11), (36, 0, 12), (37, 0, 12)] w0 u ∧ ((r = (-2)) ∨ (0 ≤ r.toInt ∧ r.toInt ≤ 12 ∧ (-1) ≤ a1.toInt ∧ a1.toInt ≤ 11 ∧ (∃ y : Int32, gi u 38 11 = y ∧ 0 ≤ y.toInt ∧ y.toInt ≤ 12)))
set_option maxHeartbeats 4000000 in
set_option maxRecDepth 100000 in
theorem k_X11_sight_1 (l : Launch) (adK adV : Nat → Nat) (dC : Nat → ClassId) (dI : Nat → Nat → Nat) (cy : Nat → ClassId) (ad : Nat → Nat) (B : Int) (hB0 : 2147483648 ≤ B) (hB1 : B ≤ 1152921504606846976) (qr : Nat) (s1 : Int)  (a1 : Int32) (a2 : Int32) (w0 : va_W) (sz : Nat) (hT : TW ksC ad cy B qr s1 w0)  : Met l yX11_sight wsX11_sight ({ frames := 2, cells := 0, slots := 0, locals := 33 }) (va_Pc [.ref (ad 0), .int a1, .int a2] (wpreS adK adV dC dI cy sz w0)) (va_Qi (P_X11_sight_1 ad cy B qr s1 a1 a2 w0) (fun u : va_W => wpost dC dI cy (va_A w0 sz) u) (va_A w0 sz)) 0 0 (va_A w0 sz) := by
  refine Met.ofW (cc := cX11_sight) (maxL := 3) (ret := (some .int)) (by decide) rfl ?_
  intro p e s m args below meth c s₁ Bk hml hv
  obtain ⟨rfl, ⟨hsz, hP, hK, hD0⟩, hE, hSR⟩ := hv
  have hx := Bk.exec
  have hb := Bk.bytes
  have hr := Bk.returns
  have hlocks := Bk.notSynchronized
  have hC : CallFix p m c cX11_sight 3 s _ wsX11_sight RX11 := ⟨hx, hb, hml, findClass_of_methodNamed Bk.named, atoms_spec (ws := wsX11_sight) Bk.pre⟩
  subst hsz
  have hD := hD0.self (sz := s.heap.size)
  generalize hAe : va_A w0 s.heap.size = A at hD hE ⊢
  have hA : ∀ q : Nat, s.heap.size ≤ q → A q := fun q h => by rw [← hAe]; exact Or.inr h
  have hw : Wd dC dI A s.heap s.heap [] w0 := ⟨hP, hD, va_S.rf⟩
  have hF : FE ksC [(5, 11, 11), (36, 0, 12), (37, 0, 12)] w0 w0 := FE.rf
  have hl := lv_entry ([.ref (ad 0), .int a1, .int a2]) (n := 3) (Nat.le_of_ble_eq_true rfl)
  rw [lg_entry_eq]
  generalize (lg_sl ([.ref (ad 0), .int a1, .int a2]) ++ List.replicate (3 - (lg_sl ([.ref (ad 0), .int a1, .int a2])).length) Slot.unset).toArray = ls at hl ⊢
  have hl : lv_has ls 3 [(0, .ref (ad 0)), (1, .int a1), (2, .int a2)] := hl
  generalize hloc : ([] : List Loc) = locs at hw ⊢
  have hinX11 : ∀ w ∈ u_ws RX11 TX11 13, w ∈ wsX11_sight := fun _ h => List.mem_cons_of_mem _ (List.mem_append_left _ (List.mem_append_left _ (List.mem_append_right _ (h))))
  have hinX5 : ∀ w ∈ u_ws RX5 TX5 14, w ∈ wsX11_sight := fun _ h => List.mem_cons_of_mem _ (List.mem_append_left _ (List.mem_append_right _ (h)))
  have J48 : ∀ (H : Heap) (locs : List Loc) (ls : Array Slot) (w1 : va_W), Wd dC dI A s.heap H locs w1 → TW ksC ad cy B qr s1 w1 → FE ksC [(5, 11, 11), (36, 0, 12), (37, 0, 12)] w0 w1 → lv_has ls 3 [(0, .ref (ad 0)), (1, .int a1), (2, .int a2)] → W p l e ({ frames := 2, cells := 0, slots := 0, locals := 33 }) s m (List.toArray [.ref (ad 0), .int a1, .int a2]) below meth c H locs 0 0 (MQ below (va_Qi (P_X11_sight_1 ad cy B qr s1 a1 a2 w0) (fun u : va_W => wpost dC dI cy A u) A) (List.toArray [.ref (ad 0), .int a1, .int a2]) s 0 0 A) (F0 m 48 ls []) := by
    intro H locs ls w1 hw hT hF hl
    refine lv_bipush (v := (-2)) hx hb dX11_sight_48 (by decide) ?_
    exact tk_iret hC hr hlocks hK ⟨hT, hF, (Or.inl rfl)⟩ hw dX11_sight_50
  refine lv_iload_n hx hb dX11_sight_0 rfl (lv_at hl 1 rfl) ?_
  refine lv_iconst (v := (-1)) hx hb dX11_sight_1 (by decide) ?_
  refine lv_icmp_ne (tgt := 15) hx hb dX11_sight_2 (by decide) (fun c2 => ?_) (fun c2 => ?_)
  · have c2 : ¬ a1.toInt = (-1 : Int) := wk_eqF c2
    refine lv_aload_n hx hb dX11_sight_15 rfl (lv_at hl 0 rfl) ?_
    refine tk_getA hC hK hw hT hinX11 kC_at0 (by decide) rfl 4 (by decide) (List.mem_of_getElem? (i := 1) rfl) rfl rfl dX11_sight_16 ?_
    refine tk_getO hC hK hw hT hinX5 kC_at38 (by decide) rfl 0 (by decide) (List.mem_of_getElem? (i := 3) rfl) rfl rfl dX11_sight_19 ?_
    refine lv_iload_n hx hb dX11_sight_22 rfl (lv_at hl 1 rfl) ?_
    refine tk_Vi hC hK hw hT hA hE hSR kC_at39 (by decide) rfl (k_X7_hasStreet_1 l adK adV dC dI cy ad B (by omega) (by omega) qr s1   a1 w0 s.heap.size hT ) (cwV 1 hC.2.2.2.2 gX11_sight_X7_hasStreet rfl rfl rfl (by decide +kernel) ⟨Nat.le_of_ble_eq_true rfl, Nat.le_of_ble_eq_true rfl⟩) rfl hl.1 rfl (Nat.le_of_ble_eq_true rfl) dX11_sight_23 (fun r3 w5 H locs hp4 hw => ?_)
    obtain ⟨hT, k6, hg11⟩ := hp4
    have hF := hF.tr k6 (by decide)
    rcases hg11 with rfl | ⟨rfl, g7, g8, ⟨x9, c10, rx9, tx9⟩⟩
    · refine lv_if_eq (tgt := 48) hx hb dX11_sight_26 (by decide) (fun _ => ?_) (fun c => absurd (by decide) c)
      exact J48  H locs ls w5   hw hT hF  (lv_sub hl [0, 1, 2] rfl)
    · refine lv_if_eq (tgt := 48) hx hb dX11_sight_26 (by decide) (fun c => absurd c (by decide)) (fun _ => ?_)
      refine lv_iload_n hx hb dX11_sight_29 rfl (lv_at hl 2 rfl) ?_
      refine tk_Si hC hK hw hT hA hE hSR (k_X11_isSign_1 l adK adV dC dI cy ad B (by omega) (by omega) qr s1   a2 w5 H.size hT ) (va_cwS 1 hC.2.2.2.2 gX11_sight_X11_isSign rfl rfl rfl (by decide +kernel) ⟨Nat.le_of_ble_eq_true rfl, Nat.le_of_ble_eq_true rfl⟩) rfl hl.1 rfl (Nat.le_of_ble_eq_true rfl) dX11_sight_30 (fun r12 w14 H locs hp13 hw => ?_)
      obtain ⟨hT, k15, hg18⟩ := hp13
      have hF := hF.tr k15 (by decide)
      have c19 := k15.gi kC_at39 (by decide) c10
      rcases hg18 with rfl | ⟨rfl, g16, g17⟩
      · refine lv_if_eq (tgt := 48) hx hb dX11_sight_33 (by decide) (fun _ => ?_) (fun c => absurd (by decide) c)
        exact J48  H locs ls w14   hw hT hF  (lv_sub hl [0, 1, 2] rfl)
      · refine lv_if_eq (tgt := 48) hx hb dX11_sight_33 (by decide) (fun c => absurd c (by decide)) (fun _ => ?_)
        refine lv_aload_n hx hb dX11_sight_36 rfl (lv_at hl 0 rfl) ?_
        refine tk_getA hC hK hw hT hinX11 kC_at0 (by decide) rfl 4 (by decide) (List.mem_of_getElem? (i := 1) rfl) rfl rfl dX11_sight_37 ?_
        refine tk_geti hC hK hw hT hinX5 kC_at38 (by decide) rfl 11 (by decide) (List.mem_of_getElem? (i := 2) rfl) rfl rfl dX11_sight_40 (fun x20 c21 rx20 tx20 => ?_)
        refine lv_bipush (v := 12) hx hb dX11_sight_43 (by decide) ?_
        refine lv_icmp_lt (tgt := 51) hx hb dX11_sight_45 (by decide) (fun c22 => ?_) (fun c22 => ?_)
        · have c22 : x20.toInt < (12 : Int) := wk_lt.mp c22
          refine lv_aload_n hx hb dX11_sight_51 rfl (lv_at hl 0 rfl) ?_
          refine tk_getA hC hK hw hT hinX11 kC_at0 (by decide) rfl 4 (by decide) (List.mem_of_getElem? (i := 1) rfl) rfl rfl dX11_sight_52 ?_
          refine tk_getO hC hK hw hT hinX5 kC_at38 (by decide) rfl 5 (by decide) (List.mem_of_getElem? (i := 4) rfl) rfl rfl dX11_sight_55 ?_
          refine lv_aload_n hx hb dX11_sight_58 rfl (lv_at hl 0 rfl) ?_
          refine tk_getA hC hK hw hT hinX11 kC_at0 (by decide) rfl 4 (by decide) (List.mem_of_getElem? (i := 1) rfl) rfl rfl dX11_sight_59 ?_
          refine tk_geti hC hK hw hT hinX5 kC_at38 (by decide) rfl 11 (by decide) (List.mem_of_getElem? (i := 2) rfl) rfl rfl dX11_sight_62 (fun x23 c24 rx23 tx23 => ?_)
          refine wk_top x20 (c24.symm.trans c21) ?_
          refine lv_iload_n hx hb dX11_sight_65 rfl (lv_at hl 1 rfl) ?_
          refine tk_iast hC hK hw hT kC_at52 (by decide) rfl rfl (show 0 ≤ x20.toInt by omega) (show x20.toInt < 12 by omega) (show 0 ≤ a1.toInt by omega) (show a1.toInt ≤ 11 by omega) dX11_sight_66 (fun H locs w25 hw hT k27 c26 => ?_)
          have hF := hF.put kC_at52 (inE_of (a := 0) (b := 12) (by decide) (show 0 ≤ x20.toInt.toNat by omega) (show x20.toInt.toNat ≤ 12 by omega)) k27
          have c28 := k27.gi (Or.inl (tk_ne kC_at39 kC_at52 (by decide))) c19
          have c29 := k27.gi (Or.inl (tk_ne kC_at38 kC_at52 (by decide))) c21
          refine lv_aload_n hx hb dX11_sight_67 rfl (lv_at hl 0 rfl) ?_
          refine tk_getA hC hK hw hT hinX11 kC_at0 (by decide) rfl 4 (by decide) (List.mem_of_getElem? (i := 1) rfl) rfl rfl dX11_sight_68 ?_
          refine tk_getO hC hK hw hT hinX5 kC_at38 (by decide) rfl 6 (by decide) (List.mem_of_getElem? (i := 5) rfl) rfl rfl dX11_sight_71 ?_
          refine lv_aload_n hx hb dX11_sight_74 rfl (lv_at hl 0 rfl) ?_
          refine tk_getA hC hK hw hT hinX11 kC_at0 (by decide) rfl 4 (by decide) (List.mem_of_getElem? (i := 1) rfl) rfl rfl dX11_sight_75 ?_
          refine tk_geti hC hK hw hT hinX5 kC_at38 (by decide) rfl 11 (by decide) (List.mem_of_getElem? (i := 2) rfl) rfl rfl dX11_sight_78 (fun x30 c31 rx30 tx30 => ?_)
          refine wk_top x20 (c31.symm.trans c29) ?_
          refine lv_iload_n hx hb dX11_sight_81 rfl (lv_at hl 2 rfl) ?_
          refine tk_iast hC hK hw hT kC_at53 (by decide) rfl rfl (show 0 ≤ x20.toInt by omega) (show x20.toInt < 12 by omega) (wk_i32 a2).1 (wk_i32 a2).2 dX11_sight_82 (fun H locs w32 hw hT k34 c33 => ?_)
          have hF := hF.put kC_at53 (inE_of (a := 0) (b := 12) (by decide) (show 0 ≤ x20.toInt.toNat by omega) (show x20.toInt.toNat ≤ 12 by omega)) k34
          have c35 := k34.gi (Or.inl (tk_ne kC_at39 kC_at53 (by decide))) c28
          have c36 := k34.gi (Or.inl (tk_ne kC_at38 kC_at53 (by decide))) c29
          refine lv_aload_n hx hb dX11_sight_83 rfl (lv_at hl 0 rfl) ?_
          refine tk_getA hC hK hw hT hinX11 kC_at0 (by decide) rfl 4 (by decide) (List.mem_of_getElem? (i := 1) rfl) rfl rfl dX11_sight_84 ?_
          refine lv_dup hx hb dX11_sight_87 rfl ?_
          refine tk_geti hC hK hw hT hinX5 kC_at38 (by decide) rfl 11 (by decide) (List.mem_of_getElem? (i := 2) rfl) rfl rfl dX11_sight_88 (fun x37 c38 rx37 tx37 => ?_)
          refine wk_top x20 (c38.symm.trans c36) ?_
          refine lv_iconst (v := 1) hx hb dX11_sight_91 (by decide) ?_
          refine lv_iadd hx hb dX11_sight_92 ?_
          refine lv_topi (fun x39 ex39 => ?_)
          have ex39 : x39.toInt = x20.toInt + (1 : Int) := by rw [ex39]; exact wk_add (show (-2147483648) ≤ x20.toInt + (1 : Int) by omega) (show x20.toInt + (1 : Int) ≤ 2147483647 by omega)
          refine tk_puti hC hK hw hT hinX5 tyX5_ok nmX5 kC_at38 (by decide) rfl rfl 11 (by decide) (List.mem_of_getElem? (i := 2) rfl) rfl rfl rfl rfl (show 0 ≤ x39.toInt by omega) (show x39.toInt ≤ 12 by omega) dX11_sight_93 (fun H locs w40 hw hT k42 c41 => ?_)
          have hF := hF.put kC_at38 (k := 11) (by decide) k42
          have c43 := k42.gi (Or.inr (by decide)) c35
          refine lv_aload_n hx hb dX11_sight_96 rfl (lv_at hl 0 rfl) ?_
          refine tk_getA hC hK hw hT hinX11 kC_at0 (by decide) rfl 4 (by decide) (List.mem_of_getElem? (i := 1) rfl) rfl rfl dX11_sight_97 ?_
          refine tk_geti hC hK hw hT hinX5 kC_at38 (by decide) rfl 11 (by decide) (List.mem_of_getElem? (i := 2) rfl) rfl rfl dX11_sight_100 (fun x44 c45 rx44 tx44 => ?_)
          refine wk_top x39 (c45.symm.trans c41) ?_
          exact tk_iret hC hr hlocks hK ⟨hT, hF, (Or.inr ⟨(show 0 ≤ x39.toInt by omega), (show x39.toInt ≤ 12 by omega), (show (-1) ≤ a1.toInt by omega), (show a1.toInt ≤ 11 by omega), ⟨x39, c41, (show 0 ≤ x39.toInt by omega), (show x39.toInt ≤ 12 by omega)⟩⟩)⟩ hw dX11_sight_103
        · have c22 : (12 : Int) ≤ x20.toInt := wk_ltF c22
          exact J48  H locs ls w14   hw hT hF  (lv_sub hl [0, 1, 2] rfl)
  · have c2 : a1.toInt = (-1 : Int) := wk_eq.mp c2
    refine lv_aload_n hx hb dX11_sight_5 rfl (lv_at hl 0 rfl) ?_
    refine tk_getA hC hK hw hT hinX11 kC_at0 (by decide) rfl 4 (by decide) (List.mem_of_getElem? (i := 1) rfl) rfl rfl dX11_sight_6 ?_
    refine lv_iconst (v := 0) hx hb dX11_sight_9 (by decide) ?_
    refine tk_puti hC hK hw hT hinX5 tyX5_ok nmX5 kC_at38 (by decide) rfl rfl 11 (by decide) (List.mem_of_getElem? (i := 2) rfl) rfl rfl rfl rfl (by decide) (by decide) dX11_sight_10 (fun H locs w46 hw hT k48 c47 => ?_)
    have hF := hF.put kC_at38 (k := 11) (by decide) k48
    refine lv_iconst (v := 0) hx hb dX11_sight_13 (by decide) ?_
    exact tk_iret hC hr hlocks hK ⟨hT, hF, (Or.inr ⟨(by decide), (by decide), (show (-1) ≤ a1.toInt by omega), (show a1.toInt ≤ 11 by omega), ⟨0, c47, (by decide), (by decide)⟩⟩)⟩ hw dX11_sight_14
abbrev P_X5_fitsSights_1 (ad : Nat → Nat) (cy : Nat → ClassId) (B : Int) (qr : Nat) (s1 : Int) (a1 : Int32) (w0 : va_W) : Int32 → va_W → Prop := fun r u => TW ksC ad cy B qr s1 u ∧ FE ksC ([] : List (Nat × Nat × Nat)) w0 u ∧ ((r = 0 ∧ (∃ y : Int32, gi u 38 11 = y ∧ 1 ≤ y.toInt ∧ y.toInt ≤ 12)) ∨ (r = 1))
set_option maxHeartbeats 4000000 in
set_option maxRecDepth 100000 in
theorem k_X5_fitsSights_1 (l : Launch) (adK adV : Nat → Nat) (dC : Nat → ClassId) (dI : Nat → Nat → Nat) (cy : Nat → ClassId) (ad : Nat → Nat) (B : Int) (hB0 : 2147483648 ≤ B) (hB1 : B ≤ 1152921504606846976) (qr : Nat) (s1 : Int)  (a1 : Int32) (ra1 : 0 ≤ a1.toInt) (ta1 : a1.toInt ≤ 6) (w0 : va_W) (sz : Nat) (hT : TW ksC ad cy B qr s1 w0)  : Met l yX5_fitsSights wsX5_fitsSights ({ frames := 2, cells := 0, slots := 0, locals := 34 }) (va_Pc [.ref (ad 38), .int a1] (wpreS adK adV dC dI cy sz w0)) (va_Qi (P_X5_fitsSights_1 ad cy B qr s1 a1 w0) (fun u : va_W => wpost dC dI cy (va_A w0 sz) u) (va_A w0 sz)) 0 0 (va_A w0 sz) := by
  refine Met.ofW (cc := cX5_fitsSights) (maxL := 3) (ret := (some .boolean)) (by decide) rfl ?_
  intro p e s m args below meth c s₁ Bk hml hv
  obtain ⟨rfl, ⟨hsz, hP, hK, hD0⟩, hE, hSR⟩ := hv
  have hx := Bk.exec
  have hb := Bk.bytes
  have hr := Bk.returns
  have hlocks := Bk.notSynchronized
  have hC : CallFix p m c cX5_fitsSights 3 s _ wsX5_fitsSights RX5 := ⟨hx, hb, hml, findClass_of_methodNamed Bk.named, atoms_spec (ws := wsX5_fitsSights) Bk.pre⟩
  subst hsz
  have hD := hD0.self (sz := s.heap.size)
  generalize hAe : va_A w0 s.heap.size = A at hD hE ⊢
  have hA : ∀ q : Nat, s.heap.size ≤ q → A q := fun q h => by rw [← hAe]; exact Or.inr h
  have hw : Wd dC dI A s.heap s.heap [] w0 := ⟨hP, hD, va_S.rf⟩
  have hF : FE ksC ([] : List (Nat × Nat × Nat)) w0 w0 := FE.rf
  have hl := lv_entry ([.ref (ad 38), .int a1]) (n := 3) (Nat.le_of_ble_eq_true rfl)
  rw [lg_entry_eq]
  generalize (lg_sl ([.ref (ad 38), .int a1]) ++ List.replicate (3 - (lg_sl ([.ref (ad 38), .int a1])).length) Slot.unset).toArray = ls at hl ⊢
  have hl : lv_has ls 3 [(0, .ref (ad 38)), (1, .int a1)] := hl
  generalize hloc : ([] : List Loc) = locs at hw ⊢
  have hinX5 : ∀ w ∈ u_ws RX5 TX5 14, w ∈ wsX5_fitsSights := fun _ h => List.mem_cons_of_mem _ (List.mem_append_left _ (List.mem_append_right _ (h)))
  have L2 : ∀ (n2 : Nat) (v2_2 : Int32) (H : Heap) (locs : List Loc) (ls : Array Slot) (w1 : va_W), 0 ≤ a1.toInt → a1.toInt ≤ 6 → 0 ≤ v2_2.toInt → v2_2.toInt ≤ 12 → (12 - v2_2.toInt).toNat < n2 → Wd dC dI A s.heap H locs w1 → TW ksC ad cy B qr s1 w1 → FE ksC ([] : List (Nat × Nat × Nat)) w0 w1 → lv_has ls 3 [(0, .ref (ad 38)), (1, .int a1), (2, .int v2_2)] → W p l e ({ frames := 2, cells := 0, slots := 0, locals := 34 }) s m (List.toArray [.ref (ad 38), .int a1]) below meth c H locs 0 0 (MQ below (va_Qi (P_X5_fitsSights_1 ad cy B qr s1 a1 w0) (fun u : va_W => wpost dC dI cy A u) A) (List.toArray [.ref (ad 38), .int a1]) s 0 0 A) (F0 m 2 ls []) := by
    intro n2
    induction n2 with
    | zero => intro v2_2 H locs ls w1 r2 t3 r4 t5 hm2 hw hT hF hl; omega
    | succ n2 ih2 =>
      intro v2_2 H locs ls w1 r2 t3 r4 t5 hm2 hw hT hF hl
      refine lv_iload_n hx hb dX5_fitsSights_2 rfl (lv_at hl 2 rfl) ?_
      refine lv_aload_n hx hb dX5_fitsSights_3 rfl (lv_at hl 0 rfl) ?_
      refine tk_geti hC hK hw hT hinX5 kC_at38 (by decide) rfl 11 (by decide) (List.mem_of_getElem? (i := 1) rfl) rfl rfl dX5_fitsSights_4 (fun x6 c7 rx6 tx6 => ?_)
      refine lv_icmp_ge (tgt := 41) hx hb dX5_fitsSights_7 (by decide) (fun c8 => ?_) (fun c8 => ?_)
      · have c8 : x6.toInt ≤ v2_2.toInt := wk_le.mp c8
        refine lv_iconst (v := 1) hx hb dX5_fitsSights_41 (by decide) ?_
        exact tk_zret hC hr rfl hlocks hK ⟨hT, hF, (Or.inr rfl)⟩ hw dX5_fitsSights_42
      · have c8 : v2_2.toInt < x6.toInt := wk_leF c8
        refine lv_aload_n hx hb dX5_fitsSights_10 rfl (lv_at hl 0 rfl) ?_
        refine tk_getO hC hK hw hT hinX5 kC_at38 (by decide) rfl 0 (by decide) (List.mem_of_getElem? (i := 2) rfl) rfl rfl dX5_fitsSights_11 ?_
        refine lv_aload_n hx hb dX5_fitsSights_14 rfl (lv_at hl 0 rfl) ?_
        refine tk_getO hC hK hw hT hinX5 kC_at38 (by decide) rfl 5 (by decide) (List.mem_of_getElem? (i := 3) rfl) rfl rfl dX5_fitsSights_15 ?_
        refine lv_iload_n hx hb dX5_fitsSights_18 rfl (lv_at hl 2 rfl) ?_
        refine tk_iald hC hK hw hT kC_at52 rfl rfl (show 0 ≤ v2_2.toInt by omega) (show v2_2.toInt < 12 by omega) dX5_fitsSights_19 (fun x9 c10 rx9 tx9 => ?_)
        refine lv_iload_n hx hb dX5_fitsSights_20 rfl (lv_at hl 1 rfl) ?_
        refine tk_Vi hC hK hw hT hA hE hSR kC_at39 (by decide) rfl (k_X7_signOn_1 l adK adV dC dI cy ad B (by omega) (by omega) qr s1   x9 (show 0 ≤ x9.toInt by omega) (show x9.toInt ≤ 11 by omega) a1 (show 0 ≤ a1.toInt by omega) (show a1.toInt ≤ 6 by omega) w1 H.size hT ) (cwV 2 hC.2.2.2.2 gX5_fitsSights_X7_signOn rfl rfl rfl (by decide +kernel) ⟨Nat.le_of_ble_eq_true rfl, Nat.le_of_ble_eq_true rfl⟩) rfl hl.1 rfl (Nat.le_of_ble_eq_true rfl) dX5_fitsSights_21 (fun r11 w13 H locs hp12 hw => ?_)
        obtain ⟨hT, k14, hg17⟩ := hp12
        have hF := hF.tr k14 (by decide)
        have c18 := k14.gi kC_at38 (by decide) c7
        obtain ⟨g15, g16⟩ := hg17
        refine lv_aload_n hx hb dX5_fitsSights_24 rfl (lv_at hl 0 rfl) ?_
        refine tk_getO hC hK hw hT hinX5 kC_at38 (by decide) rfl 6 (by decide) (List.mem_of_getElem? (i := 4) rfl) rfl rfl dX5_fitsSights_25 ?_
        refine lv_iload_n hx hb dX5_fitsSights_28 rfl (lv_at hl 2 rfl) ?_
        refine tk_iald hC hK hw hT kC_at53 rfl rfl (show 0 ≤ v2_2.toInt by omega) (show v2_2.toInt < 12 by omega) dX5_fitsSights_29 (fun x19 c20 rx19 tx19 => ?_)
        refine lv_icmp_eq (tgt := 35) hx hb dX5_fitsSights_30 (by decide) (fun c21 => ?_) (fun c21 => ?_)
        · have c21 : r11.toInt = x19.toInt := wk_eq.mp c21
          obtain ⟨x22, ex22⟩ : ∃ y : Int32, y = v2_2 + Int32.ofInt 1 := ⟨_, rfl⟩
          refine lv_iinc (v := x22) (lv' := [(2, .int x22), (0, .ref (ad 38)), (1, .int a1)]) hx hb dX5_fitsSights_35 hl (k := 2) rfl ex22.symm (by decide) rfl (fun ls hl => ?_)
          have ex22 : x22.toInt = v2_2.toInt + 1 := by rw [ex22]; exact wk_add (y := 1) (show -2147483648 ≤ v2_2.toInt + 1 by omega) (show v2_2.toInt + 1 ≤ 2147483647 by omega)
          refine lv_goto (tgt := 2) hx hb dX5_fitsSights_38 (by decide) ?_
          exact ih2 x22 H locs ls w13 (show 0 ≤ a1.toInt by omega) (show a1.toInt ≤ 6 by omega) (show 0 ≤ x22.toInt by omega) (show x22.toInt ≤ 12 by omega) (show (12 - x22.toInt).toNat < n2 by omega) hw hT hF  (lv_sub hl [1, 2, 0] rfl)
        · have c21 : ¬ r11.toInt = x19.toInt := wk_eqF c21
          refine lv_iconst (v := 0) hx hb dX5_fitsSights_33 (by decide) ?_
          exact tk_zret hC hr rfl hlocks hK ⟨hT, hF, (Or.inl ⟨rfl, ⟨x6, c18, (show 1 ≤ x6.toInt by omega), (show x6.toInt ≤ 12 by omega)⟩⟩)⟩ hw dX5_fitsSights_34
  refine lv_iconst (v := 0) hx hb dX5_fitsSights_0 (by decide) ?_
  refine lv_istore_n (lv' := [(2, .int 0), (0, .ref (ad 38)), (1, .int a1)]) hx hb dX5_fitsSights_1 rfl hl (by decide) rfl (fun ls hl => ?_)
  exact L2 ((12 - (0 : Int)).toNat + 1) 0 s.heap locs ls w0 (show 0 ≤ a1.toInt by omega) (show a1.toInt ≤ 6 by omega) (by decide) (by decide) (Nat.lt_succ_self _) hw hT hF  (lv_sub hl [1, 2, 0] rfl)
abbrev P_X5_fittingDays_1 (ad : Nat → Nat) (cy : Nat → ClassId) (B : Int) (qr : Nat) (s1 : Int)  (w0 : va_W) : Int32 → va_W → Prop := fun r u => TW ksC ad cy B qr s1 u ∧ FE ksC ([] : List (Nat × Nat × Nat)) w0 u ∧ ((0 ≤ r.toInt ∧ r.toInt ≤ 127))
set_option maxHeartbeats 4000000 in
set_option maxRecDepth 100000 in
theorem k_X5_fittingDays_1 (l : Launch) (adK adV : Nat → Nat) (dC : Nat → ClassId) (dI : Nat → Nat → Nat) (cy : Nat → ClassId) (ad : Nat → Nat) (B : Int) (hB0 : 2147483648 ≤ B) (hB1 : B ≤ 1152921504606846976) (qr : Nat) (s1 : Int)   (w0 : va_W) (sz : Nat) (hT : TW ksC ad cy B qr s1 w0)  : Met l yX5_fittingDays wsX5_fittingDays ({ frames := 3, cells := 0, slots := 0, locals := 56 }) (va_Pc [.ref (ad 38)] (wpreS adK adV dC dI cy sz w0)) (va_Qi (P_X5_fittingDays_1 ad cy B qr s1  w0) (fun u : va_W => wpost dC dI cy (va_A w0 sz) u) (va_A w0 sz)) 0 0 (va_A w0 sz) := by
  refine Met.ofW (cc := cX5_fittingDays) (maxL := 3) (ret := (some .int)) (by decide) rfl ?_
  intro p e s m args below meth c s₁ Bk hml hv
  obtain ⟨rfl, ⟨hsz, hP, hK, hD0⟩, hE, hSR⟩ := hv
  have hx := Bk.exec
  have hb := Bk.bytes
  have hr := Bk.returns
  have hlocks := Bk.notSynchronized
  have hC : CallFix p m c cX5_fittingDays 3 s _ wsX5_fittingDays RX5 := ⟨hx, hb, hml, findClass_of_methodNamed Bk.named, atoms_spec (ws := wsX5_fittingDays) Bk.pre⟩
  subst hsz
  have hD := hD0.self (sz := s.heap.size)
  generalize hAe : va_A w0 s.heap.size = A at hD hE ⊢
  have hA : ∀ q : Nat, s.heap.size ≤ q → A q := fun q h => by rw [← hAe]; exact Or.inr h
  have hw : Wd dC dI A s.heap s.heap [] w0 := ⟨hP, hD, va_S.rf⟩
  have hF : FE ksC ([] : List (Nat × Nat × Nat)) w0 w0 := FE.rf
  have hl := lv_entry ([.ref (ad 38)]) (n := 3) (Nat.le_of_ble_eq_true rfl)
  rw [lg_entry_eq]
  generalize (lg_sl ([.ref (ad 38)]) ++ List.replicate (3 - (lg_sl ([.ref (ad 38)])).length) Slot.unset).toArray = ls at hl ⊢
  have hl : lv_has ls 3 [(0, .ref (ad 38))] := hl
  generalize hloc : ([] : List Loc) = locs at hw ⊢
  have L4 : ∀ (n4 : Nat) (v4_1 : Int32) (v4_2 : Int32) (H : Heap) (locs : List Loc) (ls : Array Slot) (w1 : va_W), 0 ≤ v4_1.toInt → v4_1.toInt ≤ 127 → 0 ≤ v4_2.toInt → v4_2.toInt ≤ 7 → (7 - v4_2.toInt).toNat < n4 → Wd dC dI A s.heap H locs w1 → TW ksC ad cy B qr s1 w1 → FE ksC ([] : List (Nat × Nat × Nat)) w0 w1 → lv_has ls 3 [(0, .ref (ad 38)), (1, .int v4_1), (2, .int v4_2)] → W p l e ({ frames := 3, cells := 0, slots := 0, locals := 56 }) s m (List.toArray [.ref (ad 38)]) below meth c H locs 0 0 (MQ below (va_Qi (P_X5_fittingDays_1 ad cy B qr s1  w0) (fun u : va_W => wpost dC dI cy A u) A) (List.toArray [.ref (ad 38)]) s 0 0 A) (F0 m 4 ls []) := by
    intro n4
    induction n4 with
    | zero => intro v4_1 v4_2 H locs ls w1 r2 t3 r4 t5 hm4 hw hT hF hl; omega
    | succ n4 ih4 =>
      intro v4_1 v4_2 H locs ls w1 r2 t3 r4 t5 hm4 hw hT hF hl
      have J24 : ∀ (v24_1 : Int32) (H : Heap) (locs : List Loc) (ls : Array Slot) (w6 : va_W), 0 ≤ v24_1.toInt → v24_1.toInt ≤ 127 → 0 ≤ v4_2.toInt → v4_2.toInt ≤ 6 → Wd dC dI A s.heap H locs w6 → TW ksC ad cy B qr s1 w6 → FE ksC ([] : List (Nat × Nat × Nat)) w0 w6 → lv_has ls 3 [(0, .ref (ad 38)), (1, .int v24_1), (2, .int v4_2)] → W p l e ({ frames := 3, cells := 0, slots := 0, locals := 56 }) s m (List.toArray [.ref (ad 38)]) below meth c H locs 0 0 (MQ below (va_Qi (P_X5_fittingDays_1 ad cy B qr s1  w0) (fun u : va_W => wpost dC dI cy A u) A) (List.toArray [.ref (ad 38)]) s 0 0 A) (F0 m 24 ls []) := by
        intro v24_1 H locs ls w6 r7 t8 r9 t10 hw hT hF hl
        obtain ⟨x11, ex11⟩ : ∃ y : Int32, y = v4_2 + Int32.ofInt 1 := ⟨_, rfl⟩
        refine lv_iinc (v := x11) (lv' := [(2, .int x11), (0, .ref (ad 38)), (1, .int v24_1)]) hx hb dX5_fittingDays_24 hl (k := 2) rfl ex11.symm (by decide) rfl (fun ls hl => ?_)
        have ex11 : x11.toInt = v4_2.toInt + 1 := by rw [ex11]; exact wk_add (y := 1) (show -2147483648 ≤ v4_2.toInt + 1 by omega) (show v4_2.toInt + 1 ≤ 2147483647 by omega)
        refine lv_goto (tgt := 4) hx hb dX5_fittingDays_27 (by decide) ?_
        exact ih4 v24_1 x11 H locs ls w6 (show 0 ≤ v24_1.toInt by omega) (show v24_1.toInt ≤ 127 by omega) (show 0 ≤ x11.toInt by omega) (show x11.toInt ≤ 7 by omega) (show (7 - x11.toInt).toNat < n4 by omega) hw hT hF  (lv_sub hl [1, 2, 0] rfl)
      refine lv_iload_n hx hb dX5_fittingDays_4 rfl (lv_at hl 2 rfl) ?_
      refine lv_bipush (v := 7) hx hb dX5_fittingDays_5 (by decide) ?_
      refine lv_icmp_ge (tgt := 30) hx hb dX5_fittingDays_7 (by decide) (fun c12 => ?_) (fun c12 => ?_)
      · have c12 : (7 : Int) ≤ v4_2.toInt := wk_le.mp c12
        refine lv_iload_n hx hb dX5_fittingDays_30 rfl (lv_at hl 1 rfl) ?_
        exact tk_iret hC hr hlocks hK ⟨hT, hF, ⟨(show 0 ≤ v4_1.toInt by omega), (show v4_1.toInt ≤ 127 by omega)⟩⟩ hw dX5_fittingDays_31
      · have c12 : v4_2.toInt < (7 : Int) := wk_leF c12
        refine lv_aload_n hx hb dX5_fittingDays_10 rfl (lv_at hl 0 rfl) ?_
        refine lv_iload_n hx hb dX5_fittingDays_11 rfl (lv_at hl 2 rfl) ?_
        refine tk_Vi hC hK hw hT hA hE hSR kC_at38 (by decide) rfl (k_X5_fitsSights_1 l adK adV dC dI cy ad B (by omega) (by omega) qr s1   v4_2 (show 0 ≤ v4_2.toInt by omega) (show v4_2.toInt ≤ 6 by omega) w1 H.size hT ) (cwV 1 hC.2.2.2.2 gX5_fittingDays_X5_fitsSights rfl rfl rfl (by decide +kernel) ⟨Nat.le_of_ble_eq_true rfl, Nat.le_of_ble_eq_true rfl⟩) rfl hl.1 rfl (Nat.le_of_ble_eq_true rfl) dX5_fittingDays_12 (fun r13 w15 H locs hp14 hw => ?_)
        obtain ⟨hT, k16, hg19⟩ := hp14
        have hF := hF.tr k16 (by decide)
        rcases hg19 with ⟨rfl, ⟨x17, c18, rx17, tx17⟩⟩ | rfl
        · refine lv_if_eq (tgt := 24) hx hb dX5_fittingDays_15 (by decide) (fun _ => ?_) (fun c => absurd (by decide) c)
          exact J24 v4_1 H locs ls w15 (show 0 ≤ v4_1.toInt by omega) (show v4_1.toInt ≤ 127 by omega) (show 0 ≤ v4_2.toInt by omega) (show v4_2.toInt ≤ 6 by omega)  hw hT hF  (lv_sub hl [0, 1, 2] rfl)
        · refine lv_if_eq (tgt := 24) hx hb dX5_fittingDays_15 (by decide) (fun c => absurd c (by decide)) (fun _ => ?_)
          refine lv_iload_n hx hb dX5_fittingDays_18 rfl (lv_at hl 1 rfl) ?_
          refine lv_iconst (v := 1) hx hb dX5_fittingDays_19 (by decide) ?_
          refine lv_iload_n hx hb dX5_fittingDays_20 rfl (lv_at hl 2 rfl) ?_
          refine lv_ishl hx hb dX5_fittingDays_21 ?_
          refine lv_topi (fun x20 ex20 => ?_)
          have bx20 : 1 ≤ x20.toInt ∧ x20.toInt ≤ 64 := by rw [ex20]; exact wk_shl1 6 (by decide) (by omega) (by omega)
          refine lv_ior hx hb dX5_fittingDays_22 ?_
          refine lv_topi (fun x21 ex21 => ?_)
          have bx21 : 0 ≤ x21.toInt ∧ x21.toInt < 128 := by rw [ex21]; exact wk_or 7 (by decide) (by omega) (by omega) (by omega) (by omega)
          have mx21 : v4_1.toInt ≤ x21.toInt ∧ x20.toInt ≤ x21.toInt := by rw [ex21]; exact wk_orL 7 (by decide) (by omega) (by omega) (by omega) (by omega)
          refine lv_istore_n (lv' := [(1, .int x21), (0, .ref (ad 38)), (2, .int v4_2)]) hx hb dX5_fittingDays_23 rfl hl (by decide) rfl (fun ls hl => ?_)
          exact J24 x21 H locs ls w15 (show 0 ≤ x21.toInt by omega) (show x21.toInt ≤ 127 by omega) (show 0 ≤ v4_2.toInt by omega) (show v4_2.toInt ≤ 6 by omega)  hw hT hF  (lv_sub hl [1, 0, 2] rfl)
  refine lv_iconst (v := 0) hx hb dX5_fittingDays_0 (by decide) ?_
  refine lv_istore_n (lv' := [(1, .int 0), (0, .ref (ad 38))]) hx hb dX5_fittingDays_1 rfl hl (by decide) rfl (fun ls hl => ?_)
  refine lv_iconst (v := 0) hx hb dX5_fittingDays_2 (by decide) ?_
  refine lv_istore_n (lv' := [(2, .int 0), (1, .int 0), (0, .ref (ad 38))]) hx hb dX5_fittingDays_3 rfl hl (by decide) rfl (fun ls hl => ?_)
  exact L4 ((7 - (0 : Int)).toNat + 1) 0 0 s.heap locs ls w0 (by decide) (by decide) (by decide) (by decide) (Nat.lt_succ_self _) hw hT hF  (lv_sub hl [2, 1, 0] rfl)
abbrev P_X5_mostAlike_1 (ad : Nat → Nat) (cy : Nat → ClassId) (B : Int) (qr : Nat) (s1 : Int) (a1 : Int32) (a2 : Int32) (w0 : va_W) : Int32 → va_W → Prop := fun r u => TW ksC ad cy B qr s1 u ∧ FE ksC ([] : List (Nat × Nat × Nat)) w0 u ∧ ((0 ≤ r.toInt))
set_option maxHeartbeats 4000000 in
set_option maxRecDepth 100000 in
theorem k_X5_mostAlike_1 (l : Launch) (adK adV : Nat → Nat) (dC : Nat → ClassId) (dI : Nat → Nat → Nat) (cy : Nat → ClassId) (ad : Nat → Nat) (B : Int) (hB0 : 2147483648 ≤ B) (hB1 : B ≤ 1152921504606846976) (qr : Nat) (s1 : Int)  (a1 : Int32) (ra1 : 0 ≤ a1.toInt) (ta1 : a1.toInt ≤ 11) (a2 : Int32) (ra2 : 1 ≤ a2.toInt) (ta2 : a2.toInt ≤ 127) (w0 : va_W) (sz : Nat) (hT : TW ksC ad cy B qr s1 w0)  : Met l yX5_mostAlike wsX5_mostAlike ({ frames := 2, cells := 0, slots := 0, locals := 34 }) (va_Pc [.ref (ad 38), .int a1, .int a2] (wpreS adK adV dC dI cy sz w0)) (va_Qi (P_X5_mostAlike_1 ad cy B qr s1 a1 a2 w0) (fun u : va_W => wpost dC dI cy (va_A w0 sz) u) (va_A w0 sz)) 0 0 (va_A w0 sz) := by
  refine Met.ofW (cc := cX5_mostAlike) (maxL := 7) (ret := (some .int)) (by decide) rfl ?_
  intro p e s m args below meth c s₁ Bk hml hv
  obtain ⟨rfl, ⟨hsz, hP, hK, hD0⟩, hE, hSR⟩ := hv
  have hx := Bk.exec
  have hb := Bk.bytes
  have hr := Bk.returns
  have hlocks := Bk.notSynchronized
  have hC : CallFix p m c cX5_mostAlike 7 s _ wsX5_mostAlike RX5 := ⟨hx, hb, hml, findClass_of_methodNamed Bk.named, atoms_spec (ws := wsX5_mostAlike) Bk.pre⟩
  subst hsz
  have hD := hD0.self (sz := s.heap.size)
  generalize hAe : va_A w0 s.heap.size = A at hD hE ⊢
  have hA : ∀ q : Nat, s.heap.size ≤ q → A q := fun q h => by rw [← hAe]; exact Or.inr h
  have hw : Wd dC dI A s.heap s.heap [] w0 := ⟨hP, hD, va_S.rf⟩
  have hF : FE ksC ([] : List (Nat × Nat × Nat)) w0 w0 := FE.rf
  have hl := lv_entry ([.ref (ad 38), .int a1, .int a2]) (n := 7) (Nat.le_of_ble_eq_true rfl)
  rw [lg_entry_eq]
  generalize (lg_sl ([.ref (ad 38), .int a1, .int a2]) ++ List.replicate (7 - (lg_sl ([.ref (ad 38), .int a1, .int a2])).length) Slot.unset).toArray = ls at hl ⊢
  have hl : lv_has ls 7 [(0, .ref (ad 38)), (1, .int a1), (2, .int a2)] := hl
  generalize hloc : ([] : List Loc) = locs at hw ⊢
  have hinX5 : ∀ w ∈ u_ws RX5 TX5 14, w ∈ wsX5_mostAlike := fun _ h => List.mem_cons_of_mem _ (List.mem_append_left _ (List.mem_append_right _ (h)))
  have L5 : ∀ (n5 : Nat) (v5_3 : Int32) (v5_4 : Int32) (H : Heap) (locs : List Loc) (ls : Array Slot) (w1 : va_W), 0 ≤ a1.toInt → a1.toInt ≤ 11 → 1 ≤ a2.toInt → a2.toInt ≤ 127 → 0 ≤ v5_3.toInt → 0 ≤ v5_4.toInt → v5_4.toInt ≤ 4 → (4 - v5_4.toInt).toNat < n5 → Wd dC dI A s.heap H locs w1 → TW ksC ad cy B qr s1 w1 → FE ksC ([] : List (Nat × Nat × Nat)) w0 w1 → lv_has ls 7 [(0, .ref (ad 38)), (1, .int a1), (2, .int a2), (3, .int v5_3), (4, .int v5_4)] → W p l e ({ frames := 2, cells := 0, slots := 0, locals := 34 }) s m (List.toArray [.ref (ad 38), .int a1, .int a2]) below meth c H locs 0 0 (MQ below (va_Qi (P_X5_mostAlike_1 ad cy B qr s1 a1 a2 w0) (fun u : va_W => wpost dC dI cy A u) A) (List.toArray [.ref (ad 38), .int a1, .int a2]) s 0 0 A) (F0 m 5 ls []) := by
    intro n5
    induction n5 with
    | zero => intro v5_3 v5_4 H locs ls w1 r2 t3 r4 t5 r6 r7 t8 hm5 hw hT hF hl; omega
    | succ n5 ih5 =>
      intro v5_3 v5_4 H locs ls w1 r2 t3 r4 t5 r6 r7 t8 hm5 hw hT hF hl
      have L17 : ∀ (n17 : Nat) (v17_5 : Int32) (v17_6 : Int32) (H : Heap) (locs : List Loc) (ls : Array Slot) (w9 : va_W), 0 ≤ a1.toInt → a1.toInt ≤ 11 → 1 ≤ a2.toInt → a2.toInt ≤ 127 → 0 ≤ v5_3.toInt → 0 ≤ v5_4.toInt → v5_4.toInt ≤ 3 → 0 ≤ v17_6.toInt → v17_6.toInt ≤ 7 → (7 - v17_6.toInt).toNat < n17 → Wd dC dI A s.heap H locs w9 → TW ksC ad cy B qr s1 w9 → FE ksC ([] : List (Nat × Nat × Nat)) w0 w9 → lv_has ls 7 [(0, .ref (ad 38)), (1, .int a1), (2, .int a2), (3, .int v5_3), (4, .int v5_4), (5, .int v17_5), (6, .int v17_6)] → W p l e ({ frames := 2, cells := 0, slots := 0, locals := 34 }) s m (List.toArray [.ref (ad 38), .int a1, .int a2]) below meth c H locs 0 0 (MQ below (va_Qi (P_X5_mostAlike_1 ad cy B qr s1 a1 a2 w0) (fun u : va_W => wpost dC dI cy A u) A) (List.toArray [.ref (ad 38), .int a1, .int a2]) s 0 0 A) (F0 m 17 ls []) := by
        intro n17
        induction n17 with
        | zero => intro v17_5 v17_6 H locs ls w9 r10 t11 r12 t13 r14 r15 t16 r17 t18 hm17 hw hT hF hl; omega
        | succ n17 ih17 =>
          intro v17_5 v17_6 H locs ls w9 r10 t11 r12 t13 r14 r15 t16 r17 t18 hm17 hw hT hF hl
          have J51 : ∀ (v51_5 : Int32) (H : Heap) (locs : List Loc) (ls : Array Slot) (w19 : va_W), 0 ≤ a1.toInt → a1.toInt ≤ 11 → 1 ≤ a2.toInt → a2.toInt ≤ 127 → 0 ≤ v5_3.toInt → 0 ≤ v5_4.toInt → v5_4.toInt ≤ 3 → 0 ≤ v17_6.toInt → v17_6.toInt ≤ 6 → Wd dC dI A s.heap H locs w19 → TW ksC ad cy B qr s1 w19 → FE ksC ([] : List (Nat × Nat × Nat)) w0 w19 → lv_has ls 7 [(0, .ref (ad 38)), (1, .int a1), (2, .int a2), (3, .int v5_3), (4, .int v5_4), (5, .int v51_5), (6, .int v17_6)] → W p l e ({ frames := 2, cells := 0, slots := 0, locals := 34 }) s m (List.toArray [.ref (ad 38), .int a1, .int a2]) below meth c H locs 0 0 (MQ below (va_Qi (P_X5_mostAlike_1 ad cy B qr s1 a1 a2 w0) (fun u : va_W => wpost dC dI cy A u) A) (List.toArray [.ref (ad 38), .int a1, .int a2]) s 0 0 A) (F0 m 51 ls []) := by
            intro v51_5 H locs ls w19 r20 t21 r22 t23 r24 r25 t26 r27 t28 hw hT hF hl
            obtain ⟨x29, ex29⟩ : ∃ y : Int32, y = v17_6 + Int32.ofInt 1 := ⟨_, rfl⟩
            refine lv_iinc (v := x29) (lv' := [(6, .int x29), (0, .ref (ad 38)), (1, .int a1), (2, .int a2), (3, .int v5_3), (4, .int v5_4), (5, .int v51_5)]) hx hb dX5_mostAlike_51 hl (k := 6) rfl ex29.symm (by decide) rfl (fun ls hl => ?_)
            have ex29 : x29.toInt = v17_6.toInt + 1 := by rw [ex29]; exact wk_add (y := 1) (show -2147483648 ≤ v17_6.toInt + 1 by omega) (show v17_6.toInt + 1 ≤ 2147483647 by omega)
            refine lv_goto (tgt := 17) hx hb dX5_mostAlike_54 (by decide) ?_
            exact ih17 v51_5 x29 H locs ls w19 (show 0 ≤ a1.toInt by omega) (show a1.toInt ≤ 11 by omega) (show 1 ≤ a2.toInt by omega) (show a2.toInt ≤ 127 by omega) (show 0 ≤ v5_3.toInt by omega) (show 0 ≤ v5_4.toInt by omega) (show v5_4.toInt ≤ 3 by omega) (show 0 ≤ x29.toInt by omega) (show x29.toInt ≤ 7 by omega) (show (7 - x29.toInt).toNat < n17 by omega) hw hT hF  (lv_sub hl [1, 2, 3, 4, 5, 6, 0] rfl)
          refine lv_iload hx hb dX5_mostAlike_17 (lv_at hl 6 rfl) ?_
          refine lv_bipush (v := 7) hx hb dX5_mostAlike_19 (by decide) ?_
          refine lv_icmp_ge (tgt := 57) hx hb dX5_mostAlike_21 (by decide) (fun c30 => ?_) (fun c30 => ?_)
          · have c30 : (7 : Int) ≤ v17_6.toInt := wk_le.mp c30
            refine lv_iload_n hx hb dX5_mostAlike_57 rfl (lv_at hl 3 rfl) ?_
            refine lv_iload hx hb dX5_mostAlike_58 (lv_at hl 5 rfl) ?_
            refine va_mmax hx hb (hC.2.2.1.trans hl.1.symm) hC.2.2.2.1 (hC.2.2.2.2 _ (List.mem_of_getElem? (i := 2) rfl)) (hC.2.2.2.2 _ (List.mem_of_getElem? (i := 3) rfl)) (hC.2.2.2.2 _ (List.mem_of_getElem? (i := 4) rfl)) (hC.2.2.2.2 _ (List.mem_of_getElem? (i := 5) rfl)) (Nat.le_of_ble_eq_true rfl) (Nat.le_of_ble_eq_true rfl) (Nat.zero_le _) (Nat.zero_le _) dX5_mostAlike_60 ?_
            refine lv_topi (fun x31 ex31 => ?_)
            have bx31 : (x31.toInt = v5_3.toInt ∧ v17_5.toInt ≤ v5_3.toInt) ∨ (x31.toInt = v17_5.toInt ∧ v5_3.toInt < v17_5.toInt) := by rw [ex31]; exact wk_max
            refine lv_istore_n (lv' := [(3, .int x31), (0, .ref (ad 38)), (1, .int a1), (2, .int a2), (4, .int v5_4), (5, .int v17_5), (6, .int v17_6)]) hx hb dX5_mostAlike_63 rfl hl (by decide) rfl (fun ls hl => ?_)
            obtain ⟨x32, ex32⟩ : ∃ y : Int32, y = v5_4 + Int32.ofInt 1 := ⟨_, rfl⟩
            refine lv_iinc (v := x32) (lv' := [(4, .int x32), (3, .int x31), (0, .ref (ad 38)), (1, .int a1), (2, .int a2), (5, .int v17_5), (6, .int v17_6)]) hx hb dX5_mostAlike_64 hl (k := 4) rfl ex32.symm (by decide) rfl (fun ls hl => ?_)
            have ex32 : x32.toInt = v5_4.toInt + 1 := by rw [ex32]; exact wk_add (y := 1) (show -2147483648 ≤ v5_4.toInt + 1 by omega) (show v5_4.toInt + 1 ≤ 2147483647 by omega)
            refine lv_goto (tgt := 5) hx hb dX5_mostAlike_67 (by decide) ?_
            exact ih5 x31 x32 H locs ls w9 (show 0 ≤ a1.toInt by omega) (show a1.toInt ≤ 11 by omega) (show 1 ≤ a2.toInt by omega) (show a2.toInt ≤ 127 by omega) (show 0 ≤ x31.toInt by omega) (show 0 ≤ x32.toInt by omega) (show x32.toInt ≤ 4 by omega) (show (4 - x32.toInt).toNat < n5 by omega) hw hT hF  (lv_sub hl [2, 3, 4, 1, 0] rfl)
          · have c30 : v17_6.toInt < (7 : Int) := wk_leF c30
            refine lv_iload_n hx hb dX5_mostAlike_24 rfl (lv_at hl 2 rfl) ?_
            refine lv_iload hx hb dX5_mostAlike_25 (lv_at hl 6 rfl) ?_
            refine lv_ishr hx hb dX5_mostAlike_27 ?_
            refine lv_topi (fun x33 ex33 => ?_)
            have bx33 : 0 ≤ x33.toInt ∧ x33.toInt ≤ a2.toInt := by rw [ex33]; exact wk_shr (by omega)
            refine lv_iconst (v := 1) hx hb dX5_mostAlike_28 (by decide) ?_
            refine lv_iand hx hb dX5_mostAlike_29 ?_
            refine lv_topi (fun x34 ex34 => ?_)
            have bx34 : 0 ≤ x34.toInt ∧ x34.toInt ≤ (1 : Int) := by rw [ex34]; exact wk_and (by decide)
            refine lv_if_eq (tgt := 51) hx hb dX5_mostAlike_30 (by decide) (fun c35 => ?_) (fun c35 => ?_)
            · have c35 : x34.toInt = (0 : Int) := wk_eq.mp c35
              exact J51 v17_5 H locs ls w9 (show 0 ≤ a1.toInt by omega) (show a1.toInt ≤ 11 by omega) (show 1 ≤ a2.toInt by omega) (show a2.toInt ≤ 127 by omega) (show 0 ≤ v5_3.toInt by omega) (show 0 ≤ v5_4.toInt by omega) (show v5_4.toInt ≤ 3 by omega) (show 0 ≤ v17_6.toInt by omega) (show v17_6.toInt ≤ 6 by omega)  hw hT hF  (lv_sub hl [0, 1, 2, 3, 4, 5, 6] rfl)
            · have c35 : ¬ x34.toInt = (0 : Int) := wk_eqF c35
              refine lv_aload_n hx hb dX5_mostAlike_33 rfl (lv_at hl 0 rfl) ?_
              refine tk_getO hC hK hw hT hinX5 kC_at38 (by decide) rfl 0 (by decide) (List.mem_of_getElem? (i := 1) rfl) rfl rfl dX5_mostAlike_34 ?_
              refine lv_iload_n hx hb dX5_mostAlike_37 rfl (lv_at hl 1 rfl) ?_
              refine lv_iload hx hb dX5_mostAlike_38 (lv_at hl 6 rfl) ?_
              refine tk_Vi hC hK hw hT hA hE hSR kC_at39 (by decide) rfl (k_X7_signOn_1 l adK adV dC dI cy ad B (by omega) (by omega) qr s1   a1 (show 0 ≤ a1.toInt by omega) (show a1.toInt ≤ 11 by omega) v17_6 (show 0 ≤ v17_6.toInt by omega) (show v17_6.toInt ≤ 6 by omega) w9 H.size hT ) (cwV 2 hC.2.2.2.2 gX5_mostAlike_X7_signOn rfl rfl rfl (by decide +kernel) ⟨Nat.le_of_ble_eq_true rfl, Nat.le_of_ble_eq_true rfl⟩) rfl hl.1 rfl (Nat.le_of_ble_eq_true rfl) dX5_mostAlike_40 (fun r36 w38 H locs hp37 hw => ?_)
              obtain ⟨hT, k39, hg42⟩ := hp37
              have hF := hF.tr k39 (by decide)
              obtain ⟨g40, g41⟩ := hg42
              refine lv_iload hx hb dX5_mostAlike_43 (lv_at hl 4 rfl) ?_
              refine lv_icmp_ne (tgt := 51) hx hb dX5_mostAlike_45 (by decide) (fun c43 => ?_) (fun c43 => ?_)
              · have c43 : ¬ r36.toInt = v5_4.toInt := wk_eqF c43
                exact J51 v17_5 H locs ls w38 (show 0 ≤ a1.toInt by omega) (show a1.toInt ≤ 11 by omega) (show 1 ≤ a2.toInt by omega) (show a2.toInt ≤ 127 by omega) (show 0 ≤ v5_3.toInt by omega) (show 0 ≤ v5_4.toInt by omega) (show v5_4.toInt ≤ 3 by omega) (show 0 ≤ v17_6.toInt by omega) (show v17_6.toInt ≤ 6 by omega)  hw hT hF  (lv_sub hl [0, 1, 2, 3, 4, 5, 6] rfl)
              · have c43 : r36.toInt = v5_4.toInt := wk_eq.mp c43
                have nx45 := wk_i32 v17_5
                obtain ⟨x44, ex44⟩ : ∃ y : Int32, y = v17_5 + Int32.ofInt 1 := ⟨_, rfl⟩
                refine lv_iinc (v := x44) (lv' := [(5, .int x44), (0, .ref (ad 38)), (1, .int a1), (2, .int a2), (3, .int v5_3), (4, .int v5_4), (6, .int v17_6)]) hx hb dX5_mostAlike_48 hl (k := 5) rfl ex44.symm (by decide) rfl (fun ls hl => ?_)
                exact J51 x44 H locs ls w38 (show 0 ≤ a1.toInt by omega) (show a1.toInt ≤ 11 by omega) (show 1 ≤ a2.toInt by omega) (show a2.toInt ≤ 127 by omega) (show 0 ≤ v5_3.toInt by omega) (show 0 ≤ v5_4.toInt by omega) (show v5_4.toInt ≤ 3 by omega) (show 0 ≤ v17_6.toInt by omega) (show v17_6.toInt ≤ 6 by omega)  hw hT hF  (lv_sub hl [1, 2, 3, 4, 5, 0, 6] rfl)
      refine lv_iload hx hb dX5_mostAlike_5 (lv_at hl 4 rfl) ?_
      refine lv_iconst (v := 3) hx hb dX5_mostAlike_7 (by decide) ?_
      refine lv_icmp_gt (tgt := 70) hx hb dX5_mostAlike_8 (by decide) (fun c46 => ?_) (fun c46 => ?_)
      · have c46 : (3 : Int) < v5_4.toInt := wk_lt.mp c46
        refine lv_iload_n hx hb dX5_mostAlike_70 rfl (lv_at hl 3 rfl) ?_
        exact tk_iret hC hr hlocks hK ⟨hT, hF, (show 0 ≤ v5_3.toInt by omega)⟩ hw dX5_mostAlike_71
      · have c46 : v5_4.toInt ≤ (3 : Int) := wk_ltF c46
        refine lv_iconst (v := 0) hx hb dX5_mostAlike_11 (by decide) ?_
        refine lv_istore (lv' := [(5, .int 0), (0, .ref (ad 38)), (1, .int a1), (2, .int a2), (3, .int v5_3), (4, .int v5_4)]) hx hb dX5_mostAlike_12 hl (by decide) rfl (fun ls hl => ?_)
        refine lv_iconst (v := 0) hx hb dX5_mostAlike_14 (by decide) ?_
        refine lv_istore (lv' := [(6, .int 0), (5, .int 0), (0, .ref (ad 38)), (1, .int a1), (2, .int a2), (3, .int v5_3), (4, .int v5_4)]) hx hb dX5_mostAlike_15 hl (by decide) rfl (fun ls hl => ?_)
        exact L17 ((7 - (0 : Int)).toNat + 1) 0 0 H locs ls w1 (show 0 ≤ a1.toInt by omega) (show a1.toInt ≤ 11 by omega) (show 1 ≤ a2.toInt by omega) (show a2.toInt ≤ 127 by omega) (show 0 ≤ v5_3.toInt by omega) (show 0 ≤ v5_4.toInt by omega) (show v5_4.toInt ≤ 3 by omega) (by decide) (by decide) (Nat.lt_succ_self _) hw hT hF  (lv_sub hl [2, 3, 4, 5, 6, 1, 0] rfl)
  refine lv_iconst (v := 0) hx hb dX5_mostAlike_0 (by decide) ?_
  refine lv_istore_n (lv' := [(3, .int 0), (0, .ref (ad 38)), (1, .int a1), (2, .int a2)]) hx hb dX5_mostAlike_1 rfl hl (by decide) rfl (fun ls hl => ?_)
  refine lv_iconst (v := 0) hx hb dX5_mostAlike_2 (by decide) ?_
  refine lv_istore (lv' := [(4, .int 0), (3, .int 0), (0, .ref (ad 38)), (1, .int a1), (2, .int a2)]) hx hb dX5_mostAlike_3 hl (by decide) rfl (fun ls hl => ?_)
  exact L5 ((4 - (0 : Int)).toNat + 1) 0 0 s.heap locs ls w0 (show 0 ≤ a1.toInt by omega) (show a1.toInt ≤ 11 by omega) (show 1 ≤ a2.toInt by omega) (show a2.toInt ≤ 127 by omega) (by decide) (by decide) (by decide) (Nat.lt_succ_self _) hw hT hF  (lv_sub hl [2, 3, 4, 1, 0] rfl)
abbrev P_X5_streetToLookAt_1 (ad : Nat → Nat) (cy : Nat → ClassId) (B : Int) (qr : Nat) (s1 : Int) (a1 : Int32) (w0 : va_W) : Int32 → va_W → Prop := fun r u => TW ksC ad cy B qr s1 u ∧ FE ksC ([] : List (Nat × Nat × Nat)) w0 u ∧ (((-2) ≤ r.toInt ∧ r.toInt ≤ 11))
set_option maxHeartbeats 4000000 in
set_option maxRecDepth 100000 in
theorem k_X5_streetToLookAt_1 (l : Launch) (adK adV : Nat → Nat) (dC : Nat → ClassId) (dI : Nat → Nat → Nat) (cy : Nat → ClassId) (ad : Nat → Nat) (B : Int) (hB0 : 2147483648 ≤ B) (hB1 : B ≤ 1152921504606846976) (qr : Nat) (s1 : Int)  (a1 : Int32) (ra1 : 1 ≤ a1.toInt) (ta1 : a1.toInt ≤ 127) (w0 : va_W) (sz : Nat) (hT : TW ksC ad cy B qr s1 w0)  : Met l yX5_streetToLookAt wsX5_streetToLookAt ({ frames := 3, cells := 0, slots := 0, locals := 60 }) (va_Pc [.ref (ad 38), .int a1] (wpreS adK adV dC dI cy sz w0)) (va_Qi (P_X5_streetToLookAt_1 ad cy B qr s1 a1 w0) (fun u : va_W => wpost dC dI cy (va_A w0 sz) u) (va_A w0 sz)) 0 0 (va_A w0 sz) := by
  refine Met.ofW (cc := cX5_streetToLookAt) (maxL := 6) (ret := (some .int)) (by decide) rfl ?_
  intro p e s m args below meth c s₁ Bk hml hv
  obtain ⟨rfl, ⟨hsz, hP, hK, hD0⟩, hE, hSR⟩ := hv
  have hx := Bk.exec
  have hb := Bk.bytes
  have hr := Bk.returns
  have hlocks := Bk.notSynchronized
  have hC : CallFix p m c cX5_streetToLookAt 6 s _ wsX5_streetToLookAt RX5 := ⟨hx, hb, hml, findClass_of_methodNamed Bk.named, atoms_spec (ws := wsX5_streetToLookAt) Bk.pre⟩
  subst hsz
  have hD := hD0.self (sz := s.heap.size)
  generalize hAe : va_A w0 s.heap.size = A at hD hE ⊢
  have hA : ∀ q : Nat, s.heap.size ≤ q → A q := fun q h => by rw [← hAe]; exact Or.inr h
  have hw : Wd dC dI A s.heap s.heap [] w0 := ⟨hP, hD, va_S.rf⟩
  have hF : FE ksC ([] : List (Nat × Nat × Nat)) w0 w0 := FE.rf
  have hl := lv_entry ([.ref (ad 38), .int a1]) (n := 6) (Nat.le_of_ble_eq_true rfl)
  rw [lg_entry_eq]
  generalize (lg_sl ([.ref (ad 38), .int a1]) ++ List.replicate (6 - (lg_sl ([.ref (ad 38), .int a1])).length) Slot.unset).toArray = ls at hl ⊢
  have hl : lv_has ls 6 [(0, .ref (ad 38)), (1, .int a1)] := hl
  generalize hloc : ([] : List Loc) = locs at hw ⊢
  have hinX5 : ∀ w ∈ u_ws RX5 TX5 14, w ∈ wsX5_streetToLookAt := fun _ h => List.mem_cons_of_mem _ (List.mem_append_left _ (List.mem_append_right _ (h)))
  have hinX7 : ∀ w ∈ u_ws RX7 TX7 12, w ∈ wsX5_streetToLookAt := fun _ h => List.mem_cons_of_mem _ (List.mem_append_right _ (h))
  have L9 : ∀ (n9 : Nat) (v9_2 : Int32) (v9_3 : Int32) (v9_4 : Int32) (H : Heap) (locs : List Loc) (ls : Array Slot) (w1 : va_W), 1 ≤ a1.toInt → a1.toInt ≤ 127 → (-2) ≤ v9_2.toInt → v9_2.toInt ≤ 11 → 0 ≤ v9_3.toInt → v9_3.toInt ≤ 8 → 0 ≤ v9_4.toInt → v9_4.toInt ≤ 12 → (12 - v9_4.toInt).toNat < n9 → Wd dC dI A s.heap H locs w1 → TW ksC ad cy B qr s1 w1 → FE ksC ([] : List (Nat × Nat × Nat)) w0 w1 → lv_has ls 6 [(0, .ref (ad 38)), (1, .int a1), (2, .int v9_2), (3, .int v9_3), (4, .int v9_4)] → W p l e ({ frames := 3, cells := 0, slots := 0, locals := 60 }) s m (List.toArray [.ref (ad 38), .int a1]) below meth c H locs 0 0 (MQ below (va_Qi (P_X5_streetToLookAt_1 ad cy B qr s1 a1 w0) (fun u : va_W => wpost dC dI cy A u) A) (List.toArray [.ref (ad 38), .int a1]) s 0 0 A) (F0 m 9 ls []) := by
    intro n9
    induction n9 with
    | zero => intro v9_2 v9_3 v9_4 H locs ls w1 r2 t3 r4 t5 r6 t7 r8 t9 hm9 hw hT hF hl; omega
    | succ n9 ih9 =>
      intro v9_2 v9_3 v9_4 H locs ls w1 r2 t3 r4 t5 r6 t7 r8 t9 hm9 hw hT hF hl
      have J42 : ∀ (v42_2 : Int32) (v42_3 : Int32) (v42_5 : Int32) (f42_39_9 : Int32) (H : Heap) (locs : List Loc) (ls : Array Slot) (w10 : va_W), 1 ≤ a1.toInt → a1.toInt ≤ 127 → (-2) ≤ v42_2.toInt → v42_2.toInt ≤ 11 → 0 ≤ v42_3.toInt → v42_3.toInt ≤ 8 → 0 ≤ v9_4.toInt → v9_4.toInt ≤ 11 → 0 ≤ v42_5.toInt → 1 ≤ f42_39_9.toInt → f42_39_9.toInt ≤ 12 → Wd dC dI A s.heap H locs w10 → TW ksC ad cy B qr s1 w10 → FE ksC ([] : List (Nat × Nat × Nat)) w0 w10 → gi w10 39 9 = f42_39_9 → lv_has ls 6 [(0, .ref (ad 38)), (1, .int a1), (2, .int v42_2), (3, .int v42_3), (4, .int v9_4), (5, .int v42_5)] → W p l e ({ frames := 3, cells := 0, slots := 0, locals := 60 }) s m (List.toArray [.ref (ad 38), .int a1]) below meth c H locs 0 0 (MQ below (va_Qi (P_X5_streetToLookAt_1 ad cy B qr s1 a1 w0) (fun u : va_W => wpost dC dI cy A u) A) (List.toArray [.ref (ad 38), .int a1]) s 0 0 A) (F0 m 42 ls []) := by
        intro v42_2 v42_3 v42_5 f42_39_9 H locs ls w10 r11 t12 r13 t14 r15 t16 r17 t18 r19 r20 t21 hw hT hF c22 hl
        obtain ⟨x23, ex23⟩ : ∃ y : Int32, y = v9_4 + Int32.ofInt 1 := ⟨_, rfl⟩
        refine lv_iinc (v := x23) (lv' := [(4, .int x23), (0, .ref (ad 38)), (1, .int a1), (2, .int v42_2), (3, .int v42_3), (5, .int v42_5)]) hx hb dX5_streetToLookAt_42 hl (k := 4) rfl ex23.symm (by decide) rfl (fun ls hl => ?_)
        have ex23 : x23.toInt = v9_4.toInt + 1 := by rw [ex23]; exact wk_add (y := 1) (show -2147483648 ≤ v9_4.toInt + 1 by omega) (show v9_4.toInt + 1 ≤ 2147483647 by omega)
        refine lv_goto (tgt := 9) hx hb dX5_streetToLookAt_45 (by decide) ?_
        exact ih9 v42_2 v42_3 x23 H locs ls w10 (show 1 ≤ a1.toInt by omega) (show a1.toInt ≤ 127 by omega) (show (-2) ≤ v42_2.toInt by omega) (show v42_2.toInt ≤ 11 by omega) (show 0 ≤ v42_3.toInt by omega) (show v42_3.toInt ≤ 8 by omega) (show 0 ≤ x23.toInt by omega) (show x23.toInt ≤ 12 by omega) (show (12 - x23.toInt).toNat < n9 by omega) hw hT hF  (lv_sub hl [1, 2, 3, 4, 0] rfl)
      refine lv_iload hx hb dX5_streetToLookAt_9 (lv_at hl 4 rfl) ?_
      refine lv_aload_n hx hb dX5_streetToLookAt_11 rfl (lv_at hl 0 rfl) ?_
      refine tk_getO hC hK hw hT hinX5 kC_at38 (by decide) rfl 0 (by decide) (List.mem_of_getElem? (i := 1) rfl) rfl rfl dX5_streetToLookAt_12 ?_
      refine tk_geti hC hK hw hT hinX7 kC_at39 (by decide) rfl 9 (by decide) (List.mem_of_getElem? (i := 2) rfl) rfl rfl dX5_streetToLookAt_15 (fun x24 c25 rx24 tx24 => ?_)
      refine lv_icmp_ge (tgt := 48) hx hb dX5_streetToLookAt_18 (by decide) (fun c26 => ?_) (fun c26 => ?_)
      · have c26 : x24.toInt ≤ v9_4.toInt := wk_le.mp c26
        refine lv_iload_n hx hb dX5_streetToLookAt_48 rfl (lv_at hl 2 rfl) ?_
        exact tk_iret hC hr hlocks hK ⟨hT, hF, ⟨(show (-2) ≤ v9_2.toInt by omega), (show v9_2.toInt ≤ 11 by omega)⟩⟩ hw dX5_streetToLookAt_49
      · have c26 : v9_4.toInt < x24.toInt := wk_leF c26
        refine lv_aload_n hx hb dX5_streetToLookAt_21 rfl (lv_at hl 0 rfl) ?_
        refine lv_iload hx hb dX5_streetToLookAt_22 (lv_at hl 4 rfl) ?_
        refine lv_iload_n hx hb dX5_streetToLookAt_24 rfl (lv_at hl 1 rfl) ?_
        refine tk_Vi hC hK hw hT hA hE hSR kC_at38 (by decide) rfl (k_X5_mostAlike_1 l adK adV dC dI cy ad B (by omega) (by omega) qr s1   v9_4 (show 0 ≤ v9_4.toInt by omega) (show v9_4.toInt ≤ 11 by omega) a1 (show 1 ≤ a1.toInt by omega) (show a1.toInt ≤ 127 by omega) w1 H.size hT ) (cwV 2 hC.2.2.2.2 gX5_streetToLookAt_X5_mostAlike rfl rfl rfl (by decide +kernel) ⟨Nat.le_of_ble_eq_true rfl, Nat.le_of_ble_eq_true rfl⟩) rfl hl.1 rfl (Nat.le_of_ble_eq_true rfl) dX5_streetToLookAt_25 (fun r27 w29 H locs hp28 hw => ?_)
        obtain ⟨hT, k30, hg32⟩ := hp28
        have hF := hF.tr k30 (by decide)
        have c33 := k30.gi kC_at39 (by decide) c25
        obtain g31 := hg32
        refine lv_istore (lv' := [(5, .int r27), (0, .ref (ad 38)), (1, .int a1), (2, .int v9_2), (3, .int v9_3), (4, .int v9_4)]) hx hb dX5_streetToLookAt_28 hl (by decide) rfl (fun ls hl => ?_)
        refine lv_iload hx hb dX5_streetToLookAt_30 (lv_at hl 0 rfl) ?_
        refine lv_iload_n hx hb dX5_streetToLookAt_32 rfl (lv_at hl 4 rfl) ?_
        refine lv_icmp_ge (tgt := 42) hx hb dX5_streetToLookAt_33 (by decide) (fun c34 => ?_) (fun c34 => ?_)
        · have c34 : v9_3.toInt ≤ r27.toInt := wk_le.mp c34
          exact J42 v9_2 v9_3 r27 x24 H locs ls w29 (show 1 ≤ a1.toInt by omega) (show a1.toInt ≤ 127 by omega) (show (-2) ≤ v9_2.toInt by omega) (show v9_2.toInt ≤ 11 by omega) (show 0 ≤ v9_3.toInt by omega) (show v9_3.toInt ≤ 8 by omega) (show 0 ≤ v9_4.toInt by omega) (show v9_4.toInt ≤ 11 by omega) (show 0 ≤ r27.toInt by omega) (show 1 ≤ x24.toInt by omega) (show x24.toInt ≤ 12 by omega)  hw hT hF c33 (lv_sub hl [1, 2, 3, 4, 5, 0] rfl)
        · have c34 : r27.toInt < v9_3.toInt := wk_leF c34
          refine lv_iload hx hb dX5_streetToLookAt_36 (lv_at hl 0 rfl) ?_
          refine lv_istore_n (lv' := [(3, .int r27), (5, .int r27), (0, .ref (ad 38)), (1, .int a1), (2, .int v9_2), (4, .int v9_4)]) hx hb dX5_streetToLookAt_38 rfl hl (by decide) rfl (fun ls hl => ?_)
          refine lv_iload hx hb dX5_streetToLookAt_39 (lv_at hl 5 rfl) ?_
          refine lv_istore_n (lv' := [(2, .int v9_4), (3, .int r27), (5, .int r27), (0, .ref (ad 38)), (1, .int a1), (4, .int v9_4)]) hx hb dX5_streetToLookAt_41 rfl hl (by decide) rfl (fun ls hl => ?_)
          exact J42 v9_4 r27 r27 x24 H locs ls w29 (show 1 ≤ a1.toInt by omega) (show a1.toInt ≤ 127 by omega) (show (-2) ≤ v9_4.toInt by omega) (show v9_4.toInt ≤ 11 by omega) (show 0 ≤ r27.toInt by omega) (show r27.toInt ≤ 8 by omega) (show 0 ≤ v9_4.toInt by omega) (show v9_4.toInt ≤ 11 by omega) (show 0 ≤ r27.toInt by omega) (show 1 ≤ x24.toInt by omega) (show x24.toInt ≤ 12 by omega)  hw hT hF c33 (lv_sub hl [3, 4, 0, 1, 5, 2] rfl)
  refine lv_bipush (v := (-2)) hx hb dX5_streetToLookAt_0 (by decide) ?_
  refine lv_istore_n (lv' := [(2, .int (-2)), (0, .ref (ad 38)), (1, .int a1)]) hx hb dX5_streetToLookAt_2 rfl hl (by decide) rfl (fun ls hl => ?_)
  refine lv_bipush (v := 8) hx hb dX5_streetToLookAt_3 (by decide) ?_
  refine lv_istore_n (lv' := [(3, .int 8), (2, .int (-2)), (0, .ref (ad 38)), (1, .int a1)]) hx hb dX5_streetToLookAt_5 rfl hl (by decide) rfl (fun ls hl => ?_)
  refine lv_iconst (v := 0) hx hb dX5_streetToLookAt_6 (by decide) ?_
  refine lv_istore (lv' := [(4, .int 0), (3, .int 8), (2, .int (-2)), (0, .ref (ad 38)), (1, .int a1)]) hx hb dX5_streetToLookAt_7 hl (by decide) rfl (fun ls hl => ?_)
  exact L9 ((12 - (0 : Int)).toNat + 1) (-2) 8 0 s.heap locs ls w0 (show 1 ≤ a1.toInt by omega) (show a1.toInt ≤ 127 by omega) (by decide) (by decide) (by decide) (by decide) (by decide) (by decide) (Nat.lt_succ_self _) hw hT hF  (lv_sub hl [3, 4, 2, 1, 0] rfl)
abbrev P_X11_weekdays_1 (ad : Nat → Nat) (cy : Nat → ClassId) (B : Int) (qr : Nat) (s1 : Int) (a1 : Int32) (w0 : va_W) : Int32 → va_W → Prop := fun r u => TW ksC ad cy B qr s1 u ∧ FE ksC ([] : List (Nat × Nat × Nat)) w0 u ∧ (((-2) ≤ r.toInt ∧ r.toInt ≤ 11 ∧ 1 ≤ a1.toInt ∧ a1.toInt ≤ 1 ∧ (∃ y : Int32, gi u 39 8 = y ∧ 1 ≤ y.toInt ∧ y.toInt ≤ 10)) ∨ (r = (-2) ∧ 1 ≤ a1.toInt ∧ a1.toInt ≤ 1 ∧ (∃ y : Int32, gi u 39 8 = y ∧ 1 ≤ y.toInt ∧ y.toInt ≤ 10)) ∨ (0 ≤ r.toInt ∧ r.toInt ≤ 127 ∧ 0 ≤ a1.toInt ∧ a1.toInt ≤ 0 ∧ (∃ y : Int32, gi u 39 8 = y ∧ 1 ≤ y.toInt ∧ y.toInt ≤ 10)) ∨ (r = (-1)))
set_option maxHeartbeats 4000000 in
set_option maxRecDepth 100000 in
theorem k_X11_weekdays_1 (l : Launch) (adK adV : Nat → Nat) (dC : Nat → ClassId) (dI : Nat → Nat → Nat) (cy : Nat → ClassId) (ad : Nat → Nat) (B : Int) (hB0 : 2147483648 ≤ B) (hB1 : B ≤ 1152921504606846976) (qr : Nat) (s1 : Int)  (a1 : Int32) (w0 : va_W) (sz : Nat) (hT : TW ksC ad cy B qr s1 w0)  : Met l yX11_weekdays wsX11_weekdays ({ frames := 4, cells := 0, slots := 0, locals := 85 }) (va_Pc [.ref (ad 0), .int a1] (wpreS adK adV dC dI cy sz w0)) (va_Qi (P_X11_weekdays_1 ad cy B qr s1 a1 w0) (fun u : va_W => wpost dC dI cy (va_A w0 sz) u) (va_A w0 sz)) 0 0 (va_A w0 sz) := by
  refine Met.ofW (cc := cX11_weekdays) (maxL := 3) (ret := (some .int)) (by decide) rfl ?_
  intro p e s m args below meth c s₁ Bk hml hv
  obtain ⟨rfl, ⟨hsz, hP, hK, hD0⟩, hE, hSR⟩ := hv
  have hx := Bk.exec
  have hb := Bk.bytes
  have hr := Bk.returns
  have hlocks := Bk.notSynchronized
  have hC : CallFix p m c cX11_weekdays 3 s _ wsX11_weekdays RX11 := ⟨hx, hb, hml, findClass_of_methodNamed Bk.named, atoms_spec (ws := wsX11_weekdays) Bk.pre⟩
  subst hsz
  have hD := hD0.self (sz := s.heap.size)
  generalize hAe : va_A w0 s.heap.size = A at hD hE ⊢
  have hA : ∀ q : Nat, s.heap.size ≤ q → A q := fun q h => by rw [← hAe]; exact Or.inr h
  have hw : Wd dC dI A s.heap s.heap [] w0 := ⟨hP, hD, va_S.rf⟩
  have hF : FE ksC ([] : List (Nat × Nat × Nat)) w0 w0 := FE.rf
  have hl := lv_entry ([.ref (ad 0), .int a1]) (n := 3) (Nat.le_of_ble_eq_true rfl)
  rw [lg_entry_eq]
  generalize (lg_sl ([.ref (ad 0), .int a1]) ++ List.replicate (3 - (lg_sl ([.ref (ad 0), .int a1])).length) Slot.unset).toArray = ls at hl ⊢
  have hl : lv_has ls 3 [(0, .ref (ad 0)), (1, .int a1)] := hl
  generalize hloc : ([] : List Loc) = locs at hw ⊢
  have hinX11 : ∀ w ∈ u_ws RX11 TX11 13, w ∈ wsX11_weekdays := fun _ h => List.mem_cons_of_mem _ (List.mem_append_left _ (List.mem_append_left _ (List.mem_append_right _ (h))))
  have J19 : ∀ (f19_39_8 : Int32) (H : Heap) (locs : List Loc) (ls : Array Slot) (w1 : va_W), (-1) ≤ f19_39_8.toInt → f19_39_8.toInt ≤ 10 → Wd dC dI A s.heap H locs w1 → TW ksC ad cy B qr s1 w1 → FE ksC ([] : List (Nat × Nat × Nat)) w0 w1 → gi w1 39 8 = f19_39_8 → lv_has ls 3 [(0, .ref (ad 0)), (1, .int a1)] → W p l e ({ frames := 4, cells := 0, slots := 0, locals := 85 }) s m (List.toArray [.ref (ad 0), .int a1]) below meth c H locs 0 0 (MQ below (va_Qi (P_X11_weekdays_1 ad cy B qr s1 a1 w0) (fun u : va_W => wpost dC dI cy A u) A) (List.toArray [.ref (ad 0), .int a1]) s 0 0 A) (F0 m 19 ls []) := by
    intro f19_39_8 H locs ls w1 r2 t3 hw hT hF c4 hl
    refine lv_iconst (v := (-1)) hx hb dX11_weekdays_19 (by decide) ?_
    exact tk_iret hC hr hlocks hK ⟨hT, hF, (Or.inr (Or.inr (Or.inr rfl)))⟩ hw dX11_weekdays_20
  refine lv_aload_n hx hb dX11_weekdays_0 rfl (lv_at hl 0 rfl) ?_
  refine tk_getA hC hK hw hT hinX11 kC_at0 (by decide) rfl 4 (by decide) (List.mem_of_getElem? (i := 1) rfl) rfl rfl dX11_weekdays_1 ?_
  refine tk_Vi hC hK hw hT hA hE hSR kC_at38 (by decide) rfl (k_X5_hasTown_1 l adK adV dC dI cy ad B (by omega) (by omega) qr s1    w0 s.heap.size hT ) (cwV 0 hC.2.2.2.2 gX11_weekdays_X5_hasTown rfl rfl rfl (by decide +kernel) ⟨Nat.le_of_ble_eq_true rfl, Nat.le_of_ble_eq_true rfl⟩) rfl hl.1 rfl (Nat.le_of_ble_eq_true rfl) dX11_weekdays_4 (fun r5 w7 H locs hp6 hw => ?_)
  obtain ⟨hT, k8, hg13⟩ := hp6
  have hF := hF.tr k8 (by decide)
  rcases hg13 with ⟨rfl, ⟨x9, c10, rx9, tx9⟩⟩ | ⟨rfl, ⟨x11, c12, rx11, tx11⟩⟩
  · refine lv_if_eq (tgt := 19) hx hb dX11_weekdays_7 (by decide) (fun _ => ?_) (fun c => absurd (by decide) c)
    exact J19 x9 H locs ls w7 (show (-1) ≤ x9.toInt by omega) (show x9.toInt ≤ 10 by omega)  hw hT hF c10 (lv_sub hl [0, 1] rfl)
  · refine lv_if_eq (tgt := 19) hx hb dX11_weekdays_7 (by decide) (fun c => absurd c (by decide)) (fun _ => ?_)
    refine lv_iload_n hx hb dX11_weekdays_10 rfl (lv_at hl 1 rfl) ?_
    refine lv_if_lt (tgt := 19) hx hb dX11_weekdays_11 (by decide) (fun c14 => ?_) (fun c14 => ?_)
    · have c14 : a1.toInt < (0 : Int) := wk_lt.mp c14
      exact J19 x11 H locs ls w7 (show (-1) ≤ x11.toInt by omega) (show x11.toInt ≤ 10 by omega)  hw hT hF c12 (lv_sub hl [0, 1] rfl)
    · have c14 : (0 : Int) ≤ a1.toInt := wk_ltF c14
      refine lv_iload_n hx hb dX11_weekdays_14 rfl (lv_at hl 1 rfl) ?_
      refine lv_iconst (v := 1) hx hb dX11_weekdays_15 (by decide) ?_
      refine lv_icmp_le (tgt := 21) hx hb dX11_weekdays_16 (by decide) (fun c15 => ?_) (fun c15 => ?_)
      · have c15 : a1.toInt ≤ (1 : Int) := wk_le.mp c15
        refine lv_aload_n hx hb dX11_weekdays_21 rfl (lv_at hl 0 rfl) ?_
        refine tk_getA hC hK hw hT hinX11 kC_at0 (by decide) rfl 4 (by decide) (List.mem_of_getElem? (i := 1) rfl) rfl rfl dX11_weekdays_22 ?_
        refine tk_Vi hC hK hw hT hA hE hSR kC_at38 (by decide) rfl (k_X5_fittingDays_1 l adK adV dC dI cy ad B (by omega) (by omega) qr s1    w7 H.size hT ) (cwV 0 hC.2.2.2.2 gX11_weekdays_X5_fittingDays rfl rfl rfl (by decide +kernel) ⟨Nat.le_of_ble_eq_true rfl, Nat.le_of_ble_eq_true rfl⟩) rfl hl.1 rfl (Nat.le_of_ble_eq_true rfl) dX11_weekdays_25 (fun r16 w18 H locs hp17 hw => ?_)
        obtain ⟨hT, k19, hg22⟩ := hp17
        have hF := hF.tr k19 (by decide)
        have c23 := k19.gi kC_at39 (by decide) c12
        obtain ⟨g20, g21⟩ := hg22
        refine lv_istore_n (lv' := [(2, .int r16), (0, .ref (ad 0)), (1, .int a1)]) hx hb dX11_weekdays_28 rfl hl (by decide) rfl (fun ls hl => ?_)
        refine lv_iload_n hx hb dX11_weekdays_29 rfl (lv_at hl 2 rfl) ?_
        refine lv_if_ne (tgt := 35) hx hb dX11_weekdays_30 (by decide) (fun c24 => ?_) (fun c24 => ?_)
        · have c24 : ¬ a1.toInt = (0 : Int) := wk_eqF c24
          refine lv_iload_n hx hb dX11_weekdays_35 rfl (lv_at hl 0 rfl) ?_
          refine lv_if_ne (tgt := 44) hx hb dX11_weekdays_36 (by decide) (fun c25 => ?_) (fun c25 => ?_)
          · have c25 : ¬ r16.toInt = (0 : Int) := wk_eqF c25
            refine lv_aload_n hx hb dX11_weekdays_44 rfl (lv_at hl 1 rfl) ?_
            refine tk_getA hC hK hw hT hinX11 kC_at0 (by decide) rfl 4 (by decide) (List.mem_of_getElem? (i := 1) rfl) rfl rfl dX11_weekdays_45 ?_
            refine lv_iload_n hx hb dX11_weekdays_48 rfl (lv_at hl 0 rfl) ?_
            refine tk_Vi hC hK hw hT hA hE hSR kC_at38 (by decide) rfl (k_X5_streetToLookAt_1 l adK adV dC dI cy ad B (by omega) (by omega) qr s1   r16 (show 1 ≤ r16.toInt by omega) (show r16.toInt ≤ 127 by omega) w18 H.size hT ) (cwV 1 hC.2.2.2.2 gX11_weekdays_X5_streetToLookAt rfl rfl rfl (by decide +kernel) ⟨Nat.le_of_ble_eq_true rfl, Nat.le_of_ble_eq_true rfl⟩) rfl hl.1 rfl (Nat.le_of_ble_eq_true rfl) dX11_weekdays_49 (fun r26 w28 H locs hp27 hw => ?_)
            obtain ⟨hT, k29, hg32⟩ := hp27
            have hF := hF.tr k29 (by decide)
            have c33 := k29.gi kC_at39 (by decide) c23
            obtain ⟨g30, g31⟩ := hg32
            exact tk_iret hC hr hlocks hK ⟨hT, hF, (Or.inl ⟨(show (-2) ≤ r26.toInt by omega), (show r26.toInt ≤ 11 by omega), (show 1 ≤ a1.toInt by omega), (show a1.toInt ≤ 1 by omega), ⟨x11, c33, (show 1 ≤ x11.toInt by omega), (show x11.toInt ≤ 10 by omega)⟩⟩)⟩ hw dX11_weekdays_52
          · have c25 : r16.toInt = (0 : Int) := wk_eq.mp c25
            refine lv_bipush (v := (-2)) hx hb dX11_weekdays_39 (by decide) ?_
            refine lv_goto (tgt := 52) hx hb dX11_weekdays_41 (by decide) ?_
            exact tk_iret hC hr hlocks hK ⟨hT, hF, (Or.inr (Or.inl ⟨rfl, (show 1 ≤ a1.toInt by omega), (show a1.toInt ≤ 1 by omega), ⟨x11, c23, (show 1 ≤ x11.toInt by omega), (show x11.toInt ≤ 10 by omega)⟩⟩))⟩ hw dX11_weekdays_52
        · have c24 : a1.toInt = (0 : Int) := wk_eq.mp c24
          refine lv_iload_n hx hb dX11_weekdays_33 rfl (lv_at hl 0 rfl) ?_
          exact tk_iret hC hr hlocks hK ⟨hT, hF, (Or.inr (Or.inr (Or.inl ⟨(show 0 ≤ r16.toInt by omega), (show r16.toInt ≤ 127 by omega), (show 0 ≤ a1.toInt by omega), (show a1.toInt ≤ 0 by omega), ⟨x11, c23, (show 1 ≤ x11.toInt by omega), (show x11.toInt ≤ 10 by omega)⟩⟩)))⟩ hw dX11_weekdays_34
      · have c15 : (1 : Int) < a1.toInt := wk_leF c15
        exact J19 x11 H locs ls w7 (show (-1) ≤ x11.toInt by omega) (show x11.toInt ≤ 10 by omega)  hw hT hF c12 (lv_sub hl [0, 1] rfl)
abbrev P_X11_came_1 (ad : Nat → Nat) (cy : Nat → ClassId) (B : Int) (qr : Nat) (s1 : Int) (a1 : Int32) (w0 : va_W) : Int32 → va_W → Prop := fun r u => TW ksC ad cy B qr s1 u ∧ FE ksC [(5, 12, 12), (38, 0, 8)] w0 u ∧ ((r = (-2)) ∨ (0 ≤ r.toInt ∧ r.toInt ≤ 8 ∧ (-1) ≤ a1.toInt ∧ a1.toInt ≤ 9 ∧ (∃ y : Int32, gi u 38 12 = y ∧ 0 ≤ y.toInt ∧ y.toInt ≤ 8)))
set_option maxHeartbeats 4000000 in
set_option maxRecDepth 100000 in
theorem k_X11_came_1 (l : Launch) (adK adV : Nat → Nat) (dC : Nat → ClassId) (dI : Nat → Nat → Nat) (cy : Nat → ClassId) (ad : Nat → Nat) (B : Int) (hB0 : 2147483648 ≤ B) (hB1 : B ≤ 1152921504606846976) (qr : Nat) (s1 : Int)  (a1 : Int32) (w0 : va_W) (sz : Nat) (hT : TW ksC ad cy B qr s1 w0)  : Met l yX11_came wsX11_came ({ frames := 2, cells := 0, slots := 0, locals := 33 }) (va_Pc [.ref (ad 0), .int a1] (wpreS adK adV dC dI cy sz w0)) (va_Qi (P_X11_came_1 ad cy B qr s1 a1 w0) (fun u : va_W => wpost dC dI cy (va_A w0 sz) u) (va_A w0 sz)) 0 0 (va_A w0 sz) := by
  refine Met.ofW (cc := cX11_came) (maxL := 2) (ret := (some .int)) (by decide) rfl ?_
  intro p e s m args below meth c s₁ Bk hml hv
  obtain ⟨rfl, ⟨hsz, hP, hK, hD0⟩, hE, hSR⟩ := hv
  have hx := Bk.exec
  have hb := Bk.bytes
  have hr := Bk.returns
  have hlocks := Bk.notSynchronized
  have hC : CallFix p m c cX11_came 2 s _ wsX11_came RX11 := ⟨hx, hb, hml, findClass_of_methodNamed Bk.named, atoms_spec (ws := wsX11_came) Bk.pre⟩
  subst hsz
  have hD := hD0.self (sz := s.heap.size)
  generalize hAe : va_A w0 s.heap.size = A at hD hE ⊢
  have hA : ∀ q : Nat, s.heap.size ≤ q → A q := fun q h => by rw [← hAe]; exact Or.inr h
  have hw : Wd dC dI A s.heap s.heap [] w0 := ⟨hP, hD, va_S.rf⟩
  have hF : FE ksC [(5, 12, 12), (38, 0, 8)] w0 w0 := FE.rf
  have hl := lv_entry ([.ref (ad 0), .int a1]) (n := 2) (Nat.le_of_ble_eq_true rfl)
  rw [lg_entry_eq]
  generalize (lg_sl ([.ref (ad 0), .int a1]) ++ List.replicate (2 - (lg_sl ([.ref (ad 0), .int a1])).length) Slot.unset).toArray = ls at hl ⊢
  have hl : lv_has ls 2 [(0, .ref (ad 0)), (1, .int a1)] := hl
  generalize hloc : ([] : List Loc) = locs at hw ⊢
  have hinX11 : ∀ w ∈ u_ws RX11 TX11 13, w ∈ wsX11_came := fun _ h => List.mem_cons_of_mem _ (List.mem_append_left _ (List.mem_append_left _ (List.mem_append_right _ (h))))
  have hinX5 : ∀ w ∈ u_ws RX5 TX5 14, w ∈ wsX11_came := fun _ h => List.mem_cons_of_mem _ (List.mem_append_left _ (List.mem_append_right _ (h)))
  have J35 : ∀ (H : Heap) (locs : List Loc) (ls : Array Slot) (w1 : va_W), Wd dC dI A s.heap H locs w1 → TW ksC ad cy B qr s1 w1 → FE ksC [(5, 12, 12), (38, 0, 8)] w0 w1 → lv_has ls 2 [(0, .ref (ad 0)), (1, .int a1)] → W p l e ({ frames := 2, cells := 0, slots := 0, locals := 33 }) s m (List.toArray [.ref (ad 0), .int a1]) below meth c H locs 0 0 (MQ below (va_Qi (P_X11_came_1 ad cy B qr s1 a1 w0) (fun u : va_W => wpost dC dI cy A u) A) (List.toArray [.ref (ad 0), .int a1]) s 0 0 A) (F0 m 35 ls []) := by
    intro H locs ls w1 hw hT hF hl
    refine lv_bipush (v := (-2)) hx hb dX11_came_35 (by decide) ?_
    exact tk_iret hC hr hlocks hK ⟨hT, hF, (Or.inl rfl)⟩ hw dX11_came_37
  refine lv_iload_n hx hb dX11_came_0 rfl (lv_at hl 1 rfl) ?_
  refine lv_iconst (v := (-1)) hx hb dX11_came_1 (by decide) ?_
  refine lv_icmp_ne (tgt := 15) hx hb dX11_came_2 (by decide) (fun c2 => ?_) (fun c2 => ?_)
  · have c2 : ¬ a1.toInt = (-1 : Int) := wk_eqF c2
    refine lv_aload_n hx hb dX11_came_15 rfl (lv_at hl 0 rfl) ?_
    refine lv_iload_n hx hb dX11_came_16 rfl (lv_at hl 1 rfl) ?_
    refine tk_Vi hC hK hw hT hA hE hSR kC_at0 (by decide) rfl (k_X11_hasCorner_1 l adK adV dC dI cy ad B (by omega) (by omega) qr s1   a1 w0 s.heap.size hT ) (cwV 1 hC.2.2.2.2 gX11_came_X11_hasCorner rfl rfl rfl (by decide +kernel) ⟨Nat.le_of_ble_eq_true rfl, Nat.le_of_ble_eq_true rfl⟩) rfl hl.1 rfl (Nat.le_of_ble_eq_true rfl) dX11_came_17 (fun r3 w5 H locs hp4 hw => ?_)
    obtain ⟨hT, k6, hg11⟩ := hp4
    have hF := hF.tr k6 (by decide)
    rcases hg11 with rfl | ⟨rfl, g7, g8, ⟨x9, c10, rx9, tx9⟩⟩
    · refine lv_if_eq (tgt := 35) hx hb dX11_came_20 (by decide) (fun _ => ?_) (fun c => absurd (by decide) c)
      exact J35  H locs ls w5   hw hT hF  (lv_sub hl [0, 1] rfl)
    · refine lv_if_eq (tgt := 35) hx hb dX11_came_20 (by decide) (fun c => absurd c (by decide)) (fun _ => ?_)
      refine lv_aload_n hx hb dX11_came_23 rfl (lv_at hl 0 rfl) ?_
      refine tk_getA hC hK hw hT hinX11 kC_at0 (by decide) rfl 4 (by decide) (List.mem_of_getElem? (i := 1) rfl) rfl rfl dX11_came_24 ?_
      refine tk_geti hC hK hw hT hinX5 kC_at38 (by decide) rfl 12 (by decide) (List.mem_of_getElem? (i := 2) rfl) rfl rfl dX11_came_27 (fun x12 c13 rx12 tx12 => ?_)
      refine lv_bipush (v := 8) hx hb dX11_came_30 (by decide) ?_
      refine lv_icmp_lt (tgt := 38) hx hb dX11_came_32 (by decide) (fun c14 => ?_) (fun c14 => ?_)
      · have c14 : x12.toInt < (8 : Int) := wk_lt.mp c14
        refine lv_aload_n hx hb dX11_came_38 rfl (lv_at hl 0 rfl) ?_
        refine tk_getA hC hK hw hT hinX11 kC_at0 (by decide) rfl 4 (by decide) (List.mem_of_getElem? (i := 1) rfl) rfl rfl dX11_came_39 ?_
        refine tk_getO hC hK hw hT hinX5 kC_at38 (by decide) rfl 7 (by decide) (List.mem_of_getElem? (i := 3) rfl) rfl rfl dX11_came_42 ?_
        refine lv_aload_n hx hb dX11_came_45 rfl (lv_at hl 0 rfl) ?_
        refine tk_getA hC hK hw hT hinX11 kC_at0 (by decide) rfl 4 (by decide) (List.mem_of_getElem? (i := 1) rfl) rfl rfl dX11_came_46 ?_
        refine tk_geti hC hK hw hT hinX5 kC_at38 (by decide) rfl 12 (by decide) (List.mem_of_getElem? (i := 2) rfl) rfl rfl dX11_came_49 (fun x15 c16 rx15 tx15 => ?_)
        refine wk_top x12 (c16.symm.trans c13) ?_
        refine lv_iload_n hx hb dX11_came_52 rfl (lv_at hl 1 rfl) ?_
        refine tk_iast hC hK hw hT kC_at54 (by decide) rfl rfl (show 0 ≤ x12.toInt by omega) (show x12.toInt < 8 by omega) (wk_i32 a1).1 (wk_i32 a1).2 dX11_came_53 (fun H locs w17 hw hT k19 c18 => ?_)
        have hF := hF.put kC_at54 (inE_of (a := 0) (b := 8) (by decide) (show 0 ≤ x12.toInt.toNat by omega) (show x12.toInt.toNat ≤ 8 by omega)) k19
        have c20 := k19.gi (Or.inl (tk_ne kC_at39 kC_at54 (by decide))) c10
        have c21 := k19.gi (Or.inl (tk_ne kC_at38 kC_at54 (by decide))) c13
        refine lv_aload_n hx hb dX11_came_54 rfl (lv_at hl 0 rfl) ?_
        refine tk_getA hC hK hw hT hinX11 kC_at0 (by decide) rfl 4 (by decide) (List.mem_of_getElem? (i := 1) rfl) rfl rfl dX11_came_55 ?_
        refine lv_dup hx hb dX11_came_58 rfl ?_
        refine tk_geti hC hK hw hT hinX5 kC_at38 (by decide) rfl 12 (by decide) (List.mem_of_getElem? (i := 2) rfl) rfl rfl dX11_came_59 (fun x22 c23 rx22 tx22 => ?_)
        refine wk_top x12 (c23.symm.trans c21) ?_
        refine lv_iconst (v := 1) hx hb dX11_came_62 (by decide) ?_
        refine lv_iadd hx hb dX11_came_63 ?_
        refine lv_topi (fun x24 ex24 => ?_)
        have ex24 : x24.toInt = x12.toInt + (1 : Int) := by rw [ex24]; exact wk_add (show (-2147483648) ≤ x12.toInt + (1 : Int) by omega) (show x12.toInt + (1 : Int) ≤ 2147483647 by omega)
        refine tk_puti hC hK hw hT hinX5 tyX5_ok nmX5 kC_at38 (by decide) rfl rfl 12 (by decide) (List.mem_of_getElem? (i := 2) rfl) rfl rfl rfl rfl (show 0 ≤ x24.toInt by omega) (show x24.toInt ≤ 8 by omega) dX11_came_64 (fun H locs w25 hw hT k27 c26 => ?_)
        have hF := hF.put kC_at38 (k := 12) (by decide) k27
        have c28 := k27.gi (Or.inr (by decide)) c20
        refine lv_aload_n hx hb dX11_came_67 rfl (lv_at hl 0 rfl) ?_
        refine tk_getA hC hK hw hT hinX11 kC_at0 (by decide) rfl 4 (by decide) (List.mem_of_getElem? (i := 1) rfl) rfl rfl dX11_came_68 ?_
        refine tk_geti hC hK hw hT hinX5 kC_at38 (by decide) rfl 12 (by decide) (List.mem_of_getElem? (i := 2) rfl) rfl rfl dX11_came_71 (fun x29 c30 rx29 tx29 => ?_)
        refine wk_top x24 (c30.symm.trans c26) ?_
        exact tk_iret hC hr hlocks hK ⟨hT, hF, (Or.inr ⟨(show 0 ≤ x24.toInt by omega), (show x24.toInt ≤ 8 by omega), (show (-1) ≤ a1.toInt by omega), (show a1.toInt ≤ 9 by omega), ⟨x24, c26, (show 0 ≤ x24.toInt by omega), (show x24.toInt ≤ 8 by omega)⟩⟩)⟩ hw dX11_came_74
      · have c14 : (8 : Int) ≤ x12.toInt := wk_ltF c14
        exact J35  H locs ls w5   hw hT hF  (lv_sub hl [0, 1] rfl)
  · have c2 : a1.toInt = (-1 : Int) := wk_eq.mp c2
    refine lv_aload_n hx hb dX11_came_5 rfl (lv_at hl 0 rfl) ?_
    refine tk_getA hC hK hw hT hinX11 kC_at0 (by decide) rfl 4 (by decide) (List.mem_of_getElem? (i := 1) rfl) rfl rfl dX11_came_6 ?_
    refine lv_iconst (v := 0) hx hb dX11_came_9 (by decide) ?_
    refine tk_puti hC hK hw hT hinX5 tyX5_ok nmX5 kC_at38 (by decide) rfl rfl 12 (by decide) (List.mem_of_getElem? (i := 2) rfl) rfl rfl rfl rfl (by decide) (by decide) dX11_came_10 (fun H locs w31 hw hT k33 c32 => ?_)
    have hF := hF.put kC_at38 (k := 12) (by decide) k33
    refine lv_iconst (v := 0) hx hb dX11_came_13 (by decide) ?_
    exact tk_iret hC hr hlocks hK ⟨hT, hF, (Or.inr ⟨(by decide), (by decide), (show (-1) ≤ a1.toInt by omega), (show a1.toInt ≤ 9 by omega), ⟨0, c32, (by decide), (by decide)⟩⟩)⟩ hw dX11_came_14
abbrev P_X8_ghostComesAsTold_1 (ad : Nat → Nat) (cy : Nat → ClassId) (B : Int) (qr : Nat) (s1 : Int)  (w0 : va_W) : Int32 → va_W → Prop := fun r u => TW ksC ad cy (B + 900) qr s1 u ∧ FE ksC [(1, 4, 4), (1, 5, 5), (1, 6, 6), (1, 7, 7), (1, 8, 8), (9, 0, 0), (9, 4, 4), (9, 5, 5), (9, 6, 6), (9, 7, 7), (9, 8, 8), (45, 0, 64)] w0 u ∧ ((r = 0) ∨ (r = 1))
set_option maxHeartbeats 4000000 in
set_option maxRecDepth 100000 in
theorem k_X8_ghostComesAsTold_1 (l : Launch) (adK adV : Nat → Nat) (dC : Nat → ClassId) (dI : Nat → Nat → Nat) (cy : Nat → ClassId) (ad : Nat → Nat) (B : Int) (hB0 : 2147483648 ≤ B) (hB1 : B ≤ 1152921504606846085) (qr : Nat) (s1 : Int)   (w0 : va_W) (sz : Nat) (hT : TW ksC ad cy B qr s1 w0)  : Met l yX8_ghostComesAsTold wsX8_ghostComesAsTold ({ frames := 6, cells := 0, slots := 0, locals := 135 }) (va_Pc [.ref (ad 151)] (wpreS adK adV dC dI cy sz w0)) (va_Qi (P_X8_ghostComesAsTold_1 ad cy B qr s1  w0) (fun u : va_W => wpost dC dI cy (va_A w0 sz) u) (va_A w0 sz)) 0 0 (va_A w0 sz) := by
  refine Met.ofW (cc := cX8_ghostComesAsTold) (maxL := 4) (ret := (some .boolean)) (by decide) rfl ?_
  intro p e s m args below meth c s₁ Bk hml hv
  obtain ⟨rfl, ⟨hsz, hP, hK, hD0⟩, hE, hSR⟩ := hv
  have hx := Bk.exec
  have hb := Bk.bytes
  have hr := Bk.returns
  have hlocks := Bk.notSynchronized
  have hC : CallFix p m c cX8_ghostComesAsTold 4 s _ wsX8_ghostComesAsTold RX8 := ⟨hx, hb, hml, findClass_of_methodNamed Bk.named, atoms_spec (ws := wsX8_ghostComesAsTold) Bk.pre⟩
  subst hsz
  have hD := hD0.self (sz := s.heap.size)
  generalize hAe : va_A w0 s.heap.size = A at hD hE ⊢
  have hA : ∀ q : Nat, s.heap.size ≤ q → A q := fun q h => by rw [← hAe]; exact Or.inr h
  have hw : Wd dC dI A s.heap s.heap [] w0 := ⟨hP, hD, va_S.rf⟩
  have hF : FE ksC [(1, 4, 4), (1, 5, 5), (1, 6, 6), (1, 7, 7), (1, 8, 8), (9, 0, 0), (9, 4, 4), (9, 5, 5), (9, 6, 6), (9, 7, 7), (9, 8, 8), (45, 0, 64)] w0 w0 := FE.rf
  have hl := lv_entry ([.ref (ad 151)]) (n := 4) (Nat.le_of_ble_eq_true rfl)
  rw [lg_entry_eq]
  generalize (lg_sl ([.ref (ad 151)]) ++ List.replicate (4 - (lg_sl ([.ref (ad 151)])).length) Slot.unset).toArray = ls at hl ⊢
  have hl : lv_has ls 4 [(0, .ref (ad 151))] := hl
  generalize hloc : ([] : List Loc) = locs at hw ⊢
  have hinX8 : ∀ w ∈ u_ws RX8 TX8 8, w ∈ wsX8_ghostComesAsTold := fun _ h => List.mem_cons_of_mem _ (List.mem_append_left _ (List.mem_append_left _ (List.mem_append_left _ (List.mem_append_left _ (List.mem_append_left _ (List.mem_append_left _ (List.mem_append_right _ (h))))))))
  have hinX5 : ∀ w ∈ u_ws RX5 TX5 14, w ∈ wsX8_ghostComesAsTold := fun _ h => List.mem_cons_of_mem _ (List.mem_append_left _ (List.mem_append_left _ (List.mem_append_left _ (List.mem_append_left _ (List.mem_append_left _ (List.mem_append_right _ (h)))))))
  have hinX9 : ∀ w ∈ u_ws RX9 TX9 9, w ∈ wsX8_ghostComesAsTold := fun _ h => List.mem_cons_of_mem _ (List.mem_append_left _ (List.mem_append_left _ (List.mem_append_left _ (List.mem_append_left _ (List.mem_append_right _ (h))))))
  have J79 : ∀ (v79_1 : Int32) (v79_2 : Int32) (H : Heap) (locs : List Loc) (ls : Array Slot) (w1 : va_W), 0 ≤ v79_1.toInt → v79_1.toInt ≤ 8 → 0 ≤ v79_2.toInt → v79_2.toInt ≤ 100 → Wd dC dI A s.heap H locs w1 → TW ksC ad cy (B + 900) qr s1 w1 → FE ksC [(1, 4, 4), (1, 5, 5), (1, 6, 6), (1, 7, 7), (1, 8, 8), (9, 0, 0), (9, 4, 4), (9, 5, 5), (9, 6, 6), (9, 7, 7), (9, 8, 8), (45, 0, 64)] w0 w1 → lv_has ls 4 [(0, .ref (ad 151)), (1, .int v79_1), (2, .int v79_2)] → W p l e ({ frames := 6, cells := 0, slots := 0, locals := 135 }) s m (List.toArray [.ref (ad 151)]) below meth c H locs 0 0 (MQ below (va_Qi (P_X8_ghostComesAsTold_1 ad cy B qr s1  w0) (fun u : va_W => wpost dC dI cy A u) A) (List.toArray [.ref (ad 151)]) s 0 0 A) (F0 m 79 ls []) := by
    intro v79_1 v79_2 H locs ls w1 r2 t3 r4 t5 hw hT hF hl
    refine lv_iload_n hx hb dX8_ghostComesAsTold_79 rfl (lv_at hl 1 rfl) ?_
    refine lv_aload_n hx hb dX8_ghostComesAsTold_80 rfl (lv_at hl 0 rfl) ?_
    refine tk_getA hC hK hw hT hinX8 kC_at151 (by decide) rfl 0 (by decide) (List.mem_of_getElem? (i := 1) rfl) rfl rfl dX8_ghostComesAsTold_81 ?_
    refine tk_geti hC hK hw hT hinX5 kC_at38 (by decide) rfl 12 (by decide) (List.mem_of_getElem? (i := 2) rfl) rfl rfl dX8_ghostComesAsTold_84 (fun x6 c7 rx6 tx6 => ?_)
    refine lv_icmp_ne (tgt := 94) hx hb dX8_ghostComesAsTold_87 (by decide) (fun c8 => ?_) (fun c8 => ?_)
    · have c8 : ¬ v79_1.toInt = x6.toInt := wk_eqF c8
      refine lv_iconst (v := 0) hx hb dX8_ghostComesAsTold_94 (by decide) ?_
      exact tk_zret hC hr rfl hlocks hK ⟨hT, hF, (Or.inl rfl)⟩ hw dX8_ghostComesAsTold_95
    · have c8 : v79_1.toInt = x6.toInt := wk_eq.mp c8
      refine lv_iconst (v := 1) hx hb dX8_ghostComesAsTold_90 (by decide) ?_
      refine lv_goto (tgt := 95) hx hb dX8_ghostComesAsTold_91 (by decide) ?_
      exact tk_zret hC hr rfl hlocks hK ⟨hT, hF, (Or.inr rfl)⟩ hw dX8_ghostComesAsTold_95
  have L4 : ∀ (n4 : Nat) (v4_1 : Int32) (v4_2 : Int32) (H : Heap) (locs : List Loc) (ls : Array Slot) (w9 : va_W), 0 ≤ v4_1.toInt → v4_1.toInt ≤ 8 → 0 ≤ v4_2.toInt → v4_2.toInt ≤ 100 → (100 - v4_2.toInt).toNat < n4 → Wd dC dI A s.heap H locs w9 → TW ksC ad cy (B + 0 + 9 * v4_2.toInt) qr s1 w9 → FE ksC [(1, 4, 4), (1, 5, 5), (1, 6, 6), (1, 7, 7), (1, 8, 8), (9, 0, 0), (9, 4, 4), (9, 5, 5), (9, 6, 6), (9, 7, 7), (9, 8, 8), (45, 0, 64)] w0 w9 → lv_has ls 4 [(0, .ref (ad 151)), (1, .int v4_1), (2, .int v4_2)] → W p l e ({ frames := 6, cells := 0, slots := 0, locals := 135 }) s m (List.toArray [.ref (ad 151)]) below meth c H locs 0 0 (MQ below (va_Qi (P_X8_ghostComesAsTold_1 ad cy B qr s1  w0) (fun u : va_W => wpost dC dI cy A u) A) (List.toArray [.ref (ad 151)]) s 0 0 A) (F0 m 4 ls []) := by
    intro n4
    induction n4 with
    | zero => intro v4_1 v4_2 H locs ls w9 r10 t11 r12 t13 hm4 hw hT hF hl; omega
    | succ n4 ih4 =>
      intro v4_1 v4_2 H locs ls w9 r10 t11 r12 t13 hm4 hw hT hF hl
      have J73 : ∀ (v73_1 : Int32) (v73_3 : Int32) (f73_149_8 : Int32) (f73_38_12 : Int32) (H : Heap) (locs : List Loc) (ls : Array Slot) (w14 : va_W), 0 ≤ v73_1.toInt → v73_1.toInt ≤ 8 → 0 ≤ v4_2.toInt → v4_2.toInt ≤ 99 → 0 ≤ f73_149_8.toInt → f73_149_8.toInt ≤ 999999 → 1 ≤ f73_38_12.toInt → f73_38_12.toInt ≤ 8 → Wd dC dI A s.heap H locs w14 → TW ksC ad cy (B + 9 + 9 * v4_2.toInt) qr s1 w14 → FE ksC [(1, 4, 4), (1, 5, 5), (1, 6, 6), (1, 7, 7), (1, 8, 8), (9, 0, 0), (9, 4, 4), (9, 5, 5), (9, 6, 6), (9, 7, 7), (9, 8, 8), (45, 0, 64)] w0 w14 → gi w14 149 8 = f73_149_8 → gi w14 38 12 = f73_38_12 → lv_has ls 4 [(0, .ref (ad 151)), (1, .int v73_1), (2, .int v4_2), (3, .int v73_3)] → W p l e ({ frames := 6, cells := 0, slots := 0, locals := 135 }) s m (List.toArray [.ref (ad 151)]) below meth c H locs 0 0 (MQ below (va_Qi (P_X8_ghostComesAsTold_1 ad cy B qr s1  w0) (fun u : va_W => wpost dC dI cy A u) A) (List.toArray [.ref (ad 151)]) s 0 0 A) (F0 m 73 ls []) := by
        intro v73_1 v73_3 f73_149_8 f73_38_12 H locs ls w14 r15 t16 r17 t18 r19 t20 r22 t23 hw hT hF c21 c24 hl
        obtain ⟨x25, ex25⟩ : ∃ y : Int32, y = v4_2 + Int32.ofInt 1 := ⟨_, rfl⟩
        refine lv_iinc (v := x25) (lv' := [(2, .int x25), (0, .ref (ad 151)), (1, .int v73_1), (3, .int v73_3)]) hx hb dX8_ghostComesAsTold_73 hl (k := 2) rfl ex25.symm (by decide) rfl (fun ls hl => ?_)
        have ex25 : x25.toInt = v4_2.toInt + 1 := by rw [ex25]; exact wk_add (y := 1) (show -2147483648 ≤ v4_2.toInt + 1 by omega) (show v4_2.toInt + 1 ≤ 2147483647 by omega)
        refine lv_goto (tgt := 4) hx hb dX8_ghostComesAsTold_76 (by decide) ?_
        exact ih4 v73_1 x25 H locs ls w14 (show 0 ≤ v73_1.toInt by omega) (show v73_1.toInt ≤ 8 by omega) (show 0 ≤ x25.toInt by omega) (show x25.toInt ≤ 100 by omega) (show (100 - x25.toInt).toNat < n4 by omega) hw (hT.up (show (B + 9 + 9 * v4_2.toInt) ≤ (B + 0 + 9 * x25.toInt) by omega)) hF  (lv_sub hl [1, 2, 0] rfl)
      have J49 : ∀ (v49_3 : Int32) (f49_149_8 : Int32) (f49_38_12 : Int32) (H : Heap) (locs : List Loc) (ls : Array Slot) (w26 : va_W), 0 ≤ v4_1.toInt → v4_1.toInt ≤ 7 → 0 ≤ v4_2.toInt → v4_2.toInt ≤ 99 → 0 ≤ v49_3.toInt → v49_3.toInt ≤ 1 → 0 ≤ f49_149_8.toInt → f49_149_8.toInt ≤ 999999 → 1 ≤ f49_38_12.toInt → f49_38_12.toInt ≤ 8 → Wd dC dI A s.heap H locs w26 → TW ksC ad cy (B + 9 + 9 * v4_2.toInt) qr s1 w26 → FE ksC [(1, 4, 4), (1, 5, 5), (1, 6, 6), (1, 7, 7), (1, 8, 8), (9, 0, 0), (9, 4, 4), (9, 5, 5), (9, 6, 6), (9, 7, 7), (9, 8, 8), (45, 0, 64)] w0 w26 → gi w26 149 8 = f49_149_8 → gi w26 38 12 = f49_38_12 → lv_has ls 4 [(0, .ref (ad 151)), (1, .int v4_1), (2, .int v4_2), (3, .int v49_3)] → W p l e ({ frames := 6, cells := 0, slots := 0, locals := 135 }) s m (List.toArray [.ref (ad 151)]) below meth c H locs 0 0 (MQ below (va_Qi (P_X8_ghostComesAsTold_1 ad cy B qr s1  w0) (fun u : va_W => wpost dC dI cy A u) A) (List.toArray [.ref (ad 151)]) s 0 0 A) (F0 m 49 ls []) := by
        intro v49_3 f49_149_8 f49_38_12 H locs ls w26 r27 t28 r29 t30 r31 t32 r33 t34 r36 t37 hw hT hF c35 c38 hl
        refine lv_aload_n hx hb dX8_ghostComesAsTold_49 rfl (lv_at hl 0 rfl) ?_
        refine tk_getA hC hK hw hT hinX8 kC_at151 (by decide) rfl 3 (by decide) (List.mem_of_getElem? (i := 4) rfl) rfl rfl dX8_ghostComesAsTold_50 ?_
        refine tk_geti hC hK hw hT hinX9 kC_at152 (by decide) rfl 0 (by decide) (List.mem_of_getElem? (i := 5) rfl) rfl rfl dX8_ghostComesAsTold_53 (fun x39 c40 rx39 tx39 => ?_)
        refine lv_aload_n hx hb dX8_ghostComesAsTold_56 rfl (lv_at hl 0 rfl) ?_
        refine tk_getA hC hK hw hT hinX8 kC_at151 (by decide) rfl 0 (by decide) (List.mem_of_getElem? (i := 1) rfl) rfl rfl dX8_ghostComesAsTold_57 ?_
        refine tk_getO hC hK hw hT hinX5 kC_at38 (by decide) rfl 7 (by decide) (List.mem_of_getElem? (i := 6) rfl) rfl rfl dX8_ghostComesAsTold_60 ?_
        refine lv_iload_n hx hb dX8_ghostComesAsTold_63 rfl (lv_at hl 1 rfl) ?_
        refine tk_iald hC hK hw hT kC_at54 rfl rfl (show 0 ≤ v4_1.toInt by omega) (show v4_1.toInt < 8 by omega) dX8_ghostComesAsTold_64 (fun x41 c42 rx41 tx41 => ?_)
        refine lv_icmp_eq (tgt := 70) hx hb dX8_ghostComesAsTold_65 (by decide) (fun c43 => ?_) (fun c43 => ?_)
        · have c43 : x39.toInt = x41.toInt := wk_eq.mp c43
          obtain ⟨x44, ex44⟩ : ∃ y : Int32, y = v4_1 + Int32.ofInt 1 := ⟨_, rfl⟩
          refine lv_iinc (v := x44) (lv' := [(1, .int x44), (0, .ref (ad 151)), (2, .int v4_2), (3, .int v49_3)]) hx hb dX8_ghostComesAsTold_70 hl (k := 1) rfl ex44.symm (by decide) rfl (fun ls hl => ?_)
          have ex44 : x44.toInt = v4_1.toInt + 1 := by rw [ex44]; exact wk_add (y := 1) (show -2147483648 ≤ v4_1.toInt + 1 by omega) (show v4_1.toInt + 1 ≤ 2147483647 by omega)
          exact J73 x44 v49_3 f49_149_8 f49_38_12 H locs ls w26 (show 0 ≤ x44.toInt by omega) (show x44.toInt ≤ 8 by omega) (show 0 ≤ v4_2.toInt by omega) (show v4_2.toInt ≤ 99 by omega) (show 0 ≤ f49_149_8.toInt by omega) (show f49_149_8.toInt ≤ 999999 by omega) (show 1 ≤ f49_38_12.toInt by omega) (show f49_38_12.toInt ≤ 8 by omega)  hw hT hF c35 c38 (lv_sub hl [1, 0, 2, 3] rfl)
        · have c43 : ¬ x39.toInt = x41.toInt := wk_eqF c43
          refine lv_iconst (v := 0) hx hb dX8_ghostComesAsTold_68 (by decide) ?_
          exact tk_zret hC hr rfl hlocks hK ⟨(hT.up (show (B + 9 + 9 * v4_2.toInt) ≤ (B + 900) by omega)), hF, (Or.inl rfl)⟩ hw dX8_ghostComesAsTold_69
      refine lv_iload_n hx hb dX8_ghostComesAsTold_4 rfl (lv_at hl 2 rfl) ?_
      refine lv_bipush (v := 100) hx hb dX8_ghostComesAsTold_5 (by decide) ?_
      refine lv_icmp_ge (tgt := 79) hx hb dX8_ghostComesAsTold_7 (by decide) (fun c45 => ?_) (fun c45 => ?_)
      · have c45 : (100 : Int) ≤ v4_2.toInt := wk_le.mp c45
        exact J79 v4_1 v4_2 H locs ls w9 (show 0 ≤ v4_1.toInt by omega) (show v4_1.toInt ≤ 8 by omega) (show 0 ≤ v4_2.toInt by omega) (show v4_2.toInt ≤ 100 by omega)  hw (hT.up (show (B + 0 + 9 * v4_2.toInt) ≤ (B + 900) by omega)) hF  (lv_sub hl [0, 1, 2] rfl)
      · have c45 : v4_2.toInt < (100 : Int) := wk_leF c45
        refine lv_iload_n hx hb dX8_ghostComesAsTold_10 rfl (lv_at hl 1 rfl) ?_
        refine lv_aload_n hx hb dX8_ghostComesAsTold_11 rfl (lv_at hl 0 rfl) ?_
        refine tk_getA hC hK hw hT hinX8 kC_at151 (by decide) rfl 0 (by decide) (List.mem_of_getElem? (i := 1) rfl) rfl rfl dX8_ghostComesAsTold_12 ?_
        refine tk_geti hC hK hw hT hinX5 kC_at38 (by decide) rfl 12 (by decide) (List.mem_of_getElem? (i := 2) rfl) rfl rfl dX8_ghostComesAsTold_15 (fun x46 c47 rx46 tx46 => ?_)
        refine lv_icmp_ge (tgt := 79) hx hb dX8_ghostComesAsTold_18 (by decide) (fun c48 => ?_) (fun c48 => ?_)
        · have c48 : x46.toInt ≤ v4_1.toInt := wk_le.mp c48
          exact J79 v4_1 v4_2 H locs ls w9 (show 0 ≤ v4_1.toInt by omega) (show v4_1.toInt ≤ 8 by omega) (show 0 ≤ v4_2.toInt by omega) (show v4_2.toInt ≤ 100 by omega)  hw (hT.up (show (B + 0 + 9 * v4_2.toInt) ≤ (B + 900) by omega)) hF  (lv_sub hl [0, 1, 2] rfl)
        · have c48 : v4_1.toInt < x46.toInt := wk_leF c48
          refine lv_aload_n hx hb dX8_ghostComesAsTold_21 rfl (lv_at hl 0 rfl) ?_
          refine tk_getA hC hK hw hT hinX8 kC_at151 (by decide) rfl 2 (by decide) (List.mem_of_getElem? (i := 3) rfl) rfl rfl dX8_ghostComesAsTold_22 ?_
          refine lv_aload_n hx hb dX8_ghostComesAsTold_25 rfl (lv_at hl 0 rfl) ?_
          refine tk_getA hC hK hw hT hinX8 kC_at151 (by decide) rfl 3 (by decide) (List.mem_of_getElem? (i := 4) rfl) rfl rfl dX8_ghostComesAsTold_26 ?_
          refine tk_Vi hC hK hw hT hA hE hSR kC_at149 (by decide) rfl (k_X1_takeStep_2 l adK adV dC dI cy ad (B + 0 + 9 * v4_2.toInt) (by omega) (by omega) qr s1    w9 H.size hT ) (cwV 1 hC.2.2.2.2 gX8_ghostComesAsTold_X1_takeStep rfl rfl rfl (by decide +kernel) ⟨Nat.le_of_ble_eq_true rfl, Nat.le_of_ble_eq_true rfl⟩) rfl hl.1 rfl (Nat.le_of_ble_eq_true rfl) dX8_ghostComesAsTold_29 (fun r49 w51 H locs hp50 hw => ?_)
          obtain ⟨hT, k52, hg55⟩ := hp50
          have hT := hT.up (B' := (B + 9 + 9 * v4_2.toInt)) (by omega)
          have hF := hF.tr k52 (by decide)
          have c56 := k52.gi kC_at38 (by decide) c47
          rcases hg55 with ⟨x53, c54, rx53, tx53⟩ | rfl
          · refine lv_istore_n (lv' := [(3, .int r49), (0, .ref (ad 151)), (1, .int v4_1), (2, .int v4_2)]) hx hb dX8_ghostComesAsTold_32 rfl hl (by decide) rfl (fun ls hl => ?_)
            refine lv_iload_n hx hb dX8_ghostComesAsTold_33 rfl (lv_at hl 0 rfl) ?_
            refine lv_iconst (v := 4) hx hb dX8_ghostComesAsTold_34 (by decide) ?_
            refine lv_icmp_ne (tgt := 40) hx hb dX8_ghostComesAsTold_35 (by decide) (fun c57 => ?_) (fun c57 => ?_)
            · have c57 : ¬ r49.toInt = (4 : Int) := wk_eqF c57
              refine lv_iload_n hx hb dX8_ghostComesAsTold_40 rfl (lv_at hl 0 rfl) ?_
              refine lv_if_eq (tgt := 49) hx hb dX8_ghostComesAsTold_41 (by decide) (fun c58 => ?_) (fun c58 => ?_)
              · have c58 : r49.toInt = (0 : Int) := wk_eq.mp c58
                exact J49 r49 x53 x46 H locs ls w51 (show 0 ≤ v4_1.toInt by omega) (show v4_1.toInt ≤ 7 by omega) (show 0 ≤ v4_2.toInt by omega) (show v4_2.toInt ≤ 99 by omega) (show 0 ≤ r49.toInt by omega) (show r49.toInt ≤ 1 by omega) (show 0 ≤ x53.toInt by omega) (show x53.toInt ≤ 999999 by omega) (show 1 ≤ x46.toInt by omega) (show x46.toInt ≤ 8 by omega)  hw hT hF c54 c56 (lv_sub hl [1, 2, 3, 0] rfl)
              · have c58 : ¬ r49.toInt = (0 : Int) := wk_eqF c58
                refine lv_iload_n hx hb dX8_ghostComesAsTold_44 rfl (lv_at hl 0 rfl) ?_
                refine lv_iconst (v := 1) hx hb dX8_ghostComesAsTold_45 (by decide) ?_
                refine lv_icmp_ne (tgt := 73) hx hb dX8_ghostComesAsTold_46 (by decide) (fun c59 => ?_) (fun c59 => ?_)
                · have c59 : ¬ r49.toInt = (1 : Int) := wk_eqF c59
                  exact J73 v4_1 r49 x53 x46 H locs ls w51 (show 0 ≤ v4_1.toInt by omega) (show v4_1.toInt ≤ 8 by omega) (show 0 ≤ v4_2.toInt by omega) (show v4_2.toInt ≤ 99 by omega) (show 0 ≤ x53.toInt by omega) (show x53.toInt ≤ 999999 by omega) (show 1 ≤ x46.toInt by omega) (show x46.toInt ≤ 8 by omega)  hw hT hF c54 c56 (lv_sub hl [1, 2, 3, 0] rfl)
                · have c59 : r49.toInt = (1 : Int) := wk_eq.mp c59
                  exact J49 r49 x53 x46 H locs ls w51 (show 0 ≤ v4_1.toInt by omega) (show v4_1.toInt ≤ 7 by omega) (show 0 ≤ v4_2.toInt by omega) (show v4_2.toInt ≤ 99 by omega) (show 0 ≤ r49.toInt by omega) (show r49.toInt ≤ 1 by omega) (show 0 ≤ x53.toInt by omega) (show x53.toInt ≤ 999999 by omega) (show 1 ≤ x46.toInt by omega) (show x46.toInt ≤ 8 by omega)  hw hT hF c54 c56 (lv_sub hl [1, 2, 3, 0] rfl)
            · have c57 : r49.toInt = (4 : Int) := wk_eq.mp c57
              refine lv_iconst (v := 0) hx hb dX8_ghostComesAsTold_38 (by decide) ?_
              exact tk_zret hC hr rfl hlocks hK ⟨(hT.up (show (B + 9 + 9 * v4_2.toInt) ≤ (B + 900) by omega)), hF, (Or.inl rfl)⟩ hw dX8_ghostComesAsTold_39
          · refine lv_istore_n (lv' := [(3, .int 4), (0, .ref (ad 151)), (1, .int v4_1), (2, .int v4_2)]) hx hb dX8_ghostComesAsTold_32 rfl hl (by decide) rfl (fun ls hl => ?_)
            refine lv_iload_n hx hb dX8_ghostComesAsTold_33 rfl (lv_at hl 0 rfl) ?_
            refine lv_iconst (v := 4) hx hb dX8_ghostComesAsTold_34 (by decide) ?_
            refine lv_icmp_ne (tgt := 40) hx hb dX8_ghostComesAsTold_35 (by decide) (fun c => absurd (by decide) c) (fun _ => ?_)
            refine lv_iconst (v := 0) hx hb dX8_ghostComesAsTold_38 (by decide) ?_
            exact tk_zret hC hr rfl hlocks hK ⟨(hT.up (show (B + 9 + 9 * v4_2.toInt) ≤ (B + 900) by omega)), hF, (Or.inl rfl)⟩ hw dX8_ghostComesAsTold_39
  refine lv_iconst (v := 0) hx hb dX8_ghostComesAsTold_0 (by decide) ?_
  refine lv_istore_n (lv' := [(1, .int 0), (0, .ref (ad 151))]) hx hb dX8_ghostComesAsTold_1 rfl hl (by decide) rfl (fun ls hl => ?_)
  refine lv_iconst (v := 0) hx hb dX8_ghostComesAsTold_2 (by decide) ?_
  refine lv_istore_n (lv' := [(2, .int 0), (1, .int 0), (0, .ref (ad 151))]) hx hb dX8_ghostComesAsTold_3 rfl hl (by decide) rfl (fun ls hl => ?_)
  exact L4 ((100 - (0 : Int)).toNat + 1) 0 0 s.heap locs ls w0 (by decide) (by decide) (by decide) (by decide) (Nat.lt_succ_self _) hw (hT.up (show B ≤ (B + 0 + 9 * (0 : Int32).toInt) by rw [show (0 : Int32).toInt = 0 by decide]; omega)) hF  (lv_sub hl [2, 1, 0] rfl)
abbrev P_X8_fittingMaps_1 (ad : Nat → Nat) (cy : Nat → ClassId) (B : Int) (qr : Nat) (s1 : Int) (q1_ : Nat) (w0 : va_W) : Int32 → va_W → Prop := fun r u => TW ksC ad cy (B + 3600) qr s1 u ∧ FE ksC [(1, 4, 4), (1, 5, 5), (1, 6, 6), (1, 7, 7), (1, 8, 8), (9, 0, 0), (9, 1, 1), (9, 2, 2), (9, 3, 3), (9, 4, 4), (9, 5, 5), (9, 6, 6), (9, 7, 7), (9, 8, 8), (45, 0, 64)] w0 u ∧ ((0 ≤ r.toInt ∧ r.toInt ≤ 15))
set_option maxHeartbeats 4000000 in
set_option maxRecDepth 100000 in
theorem k_X8_fittingMaps_1 (l : Launch) (adK adV : Nat → Nat) (dC : Nat → ClassId) (dI : Nat → Nat → Nat) (cy : Nat → ClassId) (ad : Nat → Nat) (B : Int) (hB0 : 2147483648 ≤ B) (hB1 : B ≤ 1152921504606843385) (qr : Nat) (s1 : Int)  (q1_ : Nat) (hkq1_ : ksC[q1_]? = some 9) (w0 : va_W) (sz : Nat) (hT : TW ksC ad cy B qr s1 w0)  : Met l yX8_fittingMaps wsX8_fittingMaps ({ frames := 7, cells := 0, slots := 0, locals := 158 }) (va_Pc [.ref (ad 151), .ref (ad q1_)] (wpreS adK adV dC dI cy sz w0)) (va_Qi (P_X8_fittingMaps_1 ad cy B qr s1 q1_ w0) (fun u : va_W => wpost dC dI cy (va_A w0 sz) u) (va_A w0 sz)) 0 0 (va_A w0 sz) := by
  refine Met.ofW (cc := cX8_fittingMaps) (maxL := 4) (ret := (some .int)) (by decide) rfl ?_
  intro p e s m args below meth c s₁ Bk hml hv
  obtain ⟨rfl, ⟨hsz, hP, hK, hD0⟩, hE, hSR⟩ := hv
  have hx := Bk.exec
  have hb := Bk.bytes
  have hr := Bk.returns
  have hlocks := Bk.notSynchronized
  have hC : CallFix p m c cX8_fittingMaps 4 s _ wsX8_fittingMaps RX8 := ⟨hx, hb, hml, findClass_of_methodNamed Bk.named, atoms_spec (ws := wsX8_fittingMaps) Bk.pre⟩
  subst hsz
  have hD := hD0.self (sz := s.heap.size)
  generalize hAe : va_A w0 s.heap.size = A at hD hE ⊢
  have hA : ∀ q : Nat, s.heap.size ≤ q → A q := fun q h => by rw [← hAe]; exact Or.inr h
  have hw : Wd dC dI A s.heap s.heap [] w0 := ⟨hP, hD, va_S.rf⟩
  have hF : FE ksC [(1, 4, 4), (1, 5, 5), (1, 6, 6), (1, 7, 7), (1, 8, 8), (9, 0, 0), (9, 1, 1), (9, 2, 2), (9, 3, 3), (9, 4, 4), (9, 5, 5), (9, 6, 6), (9, 7, 7), (9, 8, 8), (45, 0, 64)] w0 w0 := FE.rf
  have hl := lv_entry ([.ref (ad 151), .ref (ad q1_)]) (n := 4) (Nat.le_of_ble_eq_true rfl)
  rw [lg_entry_eq]
  generalize (lg_sl ([.ref (ad 151), .ref (ad q1_)]) ++ List.replicate (4 - (lg_sl ([.ref (ad 151), .ref (ad q1_)])).length) Slot.unset).toArray = ls at hl ⊢
  have hl : lv_has ls 4 [(0, .ref (ad 151)), (1, .ref (ad q1_))] := hl
  generalize hloc : ([] : List Loc) = locs at hw ⊢
  have hinX8 : ∀ w ∈ u_ws RX8 TX8 8, w ∈ wsX8_fittingMaps := fun _ h => List.mem_cons_of_mem _ (List.mem_append_left _ (List.mem_append_left _ (List.mem_append_left _ (List.mem_append_left _ (List.mem_append_left _ (List.mem_append_left _ (List.mem_append_right _ (h))))))))
  have hinX5 : ∀ w ∈ u_ws RX5 TX5 14, w ∈ wsX8_fittingMaps := fun _ h => List.mem_cons_of_mem _ (List.mem_append_left _ (List.mem_append_left _ (List.mem_append_left _ (List.mem_append_left _ (List.mem_append_left _ (List.mem_append_right _ (h)))))))
  have hinX9 : ∀ w ∈ u_ws RX9 TX9 9, w ∈ wsX8_fittingMaps := fun _ h => List.mem_cons_of_mem _ (List.mem_append_left _ (List.mem_append_left _ (List.mem_append_left _ (List.mem_append_left _ (List.mem_append_right _ (h))))))
  have L4 : ∀ (n4 : Nat) (v4_2 : Int32) (v4_3 : Int32) (H : Heap) (locs : List Loc) (ls : Array Slot) (w1 : va_W), 0 ≤ v4_2.toInt → v4_2.toInt ≤ 15 → 0 ≤ v4_3.toInt → v4_3.toInt ≤ 4 → (4 - v4_3.toInt).toNat < n4 → Wd dC dI A s.heap H locs w1 → TW ksC ad cy (B + 0 + 900 * v4_3.toInt) qr s1 w1 → FE ksC [(1, 4, 4), (1, 5, 5), (1, 6, 6), (1, 7, 7), (1, 8, 8), (9, 0, 0), (9, 1, 1), (9, 2, 2), (9, 3, 3), (9, 4, 4), (9, 5, 5), (9, 6, 6), (9, 7, 7), (9, 8, 8), (45, 0, 64)] w0 w1 → lv_has ls 4 [(0, .ref (ad 151)), (1, .ref (ad q1_)), (2, .int v4_2), (3, .int v4_3)] → W p l e ({ frames := 7, cells := 0, slots := 0, locals := 158 }) s m (List.toArray [.ref (ad 151), .ref (ad q1_)]) below meth c H locs 0 0 (MQ below (va_Qi (P_X8_fittingMaps_1 ad cy B qr s1 q1_ w0) (fun u : va_W => wpost dC dI cy A u) A) (List.toArray [.ref (ad 151), .ref (ad q1_)]) s 0 0 A) (F0 m 4 ls []) := by
    intro n4
    induction n4 with
    | zero => intro v4_2 v4_3 H locs ls w1 r2 t3 r4 t5 hm4 hw hT hF hl; omega
    | succ n4 ih4 =>
      intro v4_2 v4_3 H locs ls w1 r2 t3 r4 t5 hm4 hw hT hF hl
      have J44 : ∀ (v44_2 : Int32) (f44_38_8 : Int32) (H : Heap) (locs : List Loc) (ls : Array Slot) (w6 : va_W), 0 ≤ v44_2.toInt → v44_2.toInt ≤ 15 → 0 ≤ v4_3.toInt → v4_3.toInt ≤ 3 → 0 ≤ v4_3.toInt → v4_3.toInt ≤ 3 → 1 ≤ f44_38_8.toInt → f44_38_8.toInt ≤ 4 → Wd dC dI A s.heap H locs w6 → TW ksC ad cy (B + 900 + 900 * v4_3.toInt) qr s1 w6 → FE ksC [(1, 4, 4), (1, 5, 5), (1, 6, 6), (1, 7, 7), (1, 8, 8), (9, 0, 0), (9, 1, 1), (9, 2, 2), (9, 3, 3), (9, 4, 4), (9, 5, 5), (9, 6, 6), (9, 7, 7), (9, 8, 8), (45, 0, 64)] w0 w6 → gi w6 152 2 = v4_3 → gi w6 38 8 = f44_38_8 → lv_has ls 4 [(0, .ref (ad 151)), (1, .ref (ad q1_)), (2, .int v44_2), (3, .int v4_3)] → W p l e ({ frames := 7, cells := 0, slots := 0, locals := 158 }) s m (List.toArray [.ref (ad 151), .ref (ad q1_)]) below meth c H locs 0 0 (MQ below (va_Qi (P_X8_fittingMaps_1 ad cy B qr s1 q1_ w0) (fun u : va_W => wpost dC dI cy A u) A) (List.toArray [.ref (ad 151), .ref (ad q1_)]) s 0 0 A) (F0 m 44 ls []) := by
        intro v44_2 f44_38_8 H locs ls w6 r7 t8 r9 t10 r11 t12 r14 t15 hw hT hF c13 c16 hl
        obtain ⟨x17, ex17⟩ : ∃ y : Int32, y = v4_3 + Int32.ofInt 1 := ⟨_, rfl⟩
        refine lv_iinc (v := x17) (lv' := [(3, .int x17), (0, .ref (ad 151)), (1, .ref (ad q1_)), (2, .int v44_2)]) hx hb dX8_fittingMaps_44 hl (k := 3) rfl ex17.symm (by decide) rfl (fun ls hl => ?_)
        have ex17 : x17.toInt = v4_3.toInt + 1 := by rw [ex17]; exact wk_add (y := 1) (show -2147483648 ≤ v4_3.toInt + 1 by omega) (show v4_3.toInt + 1 ≤ 2147483647 by omega)
        refine lv_goto (tgt := 4) hx hb dX8_fittingMaps_47 (by decide) ?_
        exact ih4 v44_2 x17 H locs ls w6 (show 0 ≤ v44_2.toInt by omega) (show v44_2.toInt ≤ 15 by omega) (show 0 ≤ x17.toInt by omega) (show x17.toInt ≤ 4 by omega) (show (4 - x17.toInt).toNat < n4 by omega) hw (hT.up (show (B + 900 + 900 * v4_3.toInt) ≤ (B + 0 + 900 * x17.toInt) by omega)) hF  (lv_sub hl [1, 2, 3, 0] rfl)
      refine lv_iload_n hx hb dX8_fittingMaps_4 rfl (lv_at hl 3 rfl) ?_
      refine lv_aload_n hx hb dX8_fittingMaps_5 rfl (lv_at hl 0 rfl) ?_
      refine tk_getA hC hK hw hT hinX8 kC_at151 (by decide) rfl 0 (by decide) (List.mem_of_getElem? (i := 1) rfl) rfl rfl dX8_fittingMaps_6 ?_
      refine tk_geti hC hK hw hT hinX5 kC_at38 (by decide) rfl 8 (by decide) (List.mem_of_getElem? (i := 2) rfl) rfl rfl dX8_fittingMaps_9 (fun x18 c19 rx18 tx18 => ?_)
      refine lv_icmp_ge (tgt := 50) hx hb dX8_fittingMaps_12 (by decide) (fun c20 => ?_) (fun c20 => ?_)
      · have c20 : x18.toInt ≤ v4_3.toInt := wk_le.mp c20
        refine lv_iload_n hx hb dX8_fittingMaps_50 rfl (lv_at hl 2 rfl) ?_
        exact tk_iret hC hr hlocks hK ⟨(hT.up (show (B + 0 + 900 * v4_3.toInt) ≤ (B + 3600) by omega)), hF, ⟨(show 0 ≤ v4_2.toInt by omega), (show v4_2.toInt ≤ 15 by omega)⟩⟩ hw dX8_fittingMaps_51
      · have c20 : v4_3.toInt < x18.toInt := wk_leF c20
        refine lv_aload_n hx hb dX8_fittingMaps_15 rfl (lv_at hl 0 rfl) ?_
        refine tk_getA hC hK hw hT hinX8 kC_at151 (by decide) rfl 3 (by decide) (List.mem_of_getElem? (i := 3) rfl) rfl rfl dX8_fittingMaps_16 ?_
        refine lv_aload_n hx hb dX8_fittingMaps_19 rfl (lv_at hl 1 rfl) ?_
        refine tk_Vv hC hK hw hT hA hE hSR kC_at152 (by decide) rfl (k_X9_copyFrom_1 l adK adV dC dI cy ad (B + 0 + 900 * v4_3.toInt) (by omega) (by omega) qr s1   q1_ hkq1_ w1 H.size hT ) (cwV 1 hC.2.2.2.2 gX8_fittingMaps_X9_copyFrom rfl rfl rfl (by decide +kernel) ⟨Nat.le_of_ble_eq_true rfl, Nat.le_of_ble_eq_true rfl⟩) rfl hl.1 rfl (Nat.le_of_ble_eq_true rfl) dX8_fittingMaps_20 (fun w23 H locs hp22 hw => ?_)
        obtain ⟨hT, k24, hg25⟩ := hp22
        have hF := hF.tr k24 (by decide)
        have c26 := k24.gi kC_at38 (by decide) c19
        clear hg25
        refine lv_aload_n hx hb dX8_fittingMaps_23 rfl (lv_at hl 0 rfl) ?_
        refine tk_getA hC hK hw hT hinX8 kC_at151 (by decide) rfl 3 (by decide) (List.mem_of_getElem? (i := 3) rfl) rfl rfl dX8_fittingMaps_24 ?_
        refine lv_iload_n hx hb dX8_fittingMaps_27 rfl (lv_at hl 3 rfl) ?_
        refine tk_puti hC hK hw hT hinX9 tyX9_ok nmX9 kC_at152 (by decide) rfl rfl 2 (by decide) (List.mem_of_getElem? (i := 4) rfl) rfl rfl rfl rfl (show 0 ≤ v4_3.toInt by omega) (show v4_3.toInt ≤ 3 by omega) dX8_fittingMaps_28 (fun H locs w27 hw hT k29 c28 => ?_)
        have hF := hF.put kC_at152 (k := 2) (by decide) k29
        have c30 := k29.gi (Or.inr (by decide)) c26
        refine lv_aload_n hx hb dX8_fittingMaps_31 rfl (lv_at hl 0 rfl) ?_
        refine tk_Vi hC hK hw hT hA hE hSR kC_at151 (by decide) rfl (k_X8_ghostComesAsTold_1 l adK adV dC dI cy ad (B + 0 + 900 * v4_3.toInt) (by omega) (by omega) qr s1    w27 H.size hT ) (cwV 0 hC.2.2.2.2 gX8_fittingMaps_X8_ghostComesAsTold rfl rfl rfl (by decide +kernel) ⟨Nat.le_of_ble_eq_true rfl, Nat.le_of_ble_eq_true rfl⟩) rfl hl.1 rfl (Nat.le_of_ble_eq_true rfl) dX8_fittingMaps_32 (fun r31 w33 H locs hp32 hw => ?_)
        obtain ⟨hT, k34, hg35⟩ := hp32
        have hT := hT.up (B' := (B + 900 + 900 * v4_3.toInt)) (by omega)
        have hF := hF.tr k34 (by decide)
        have c36 := k34.gi kC_at38 (by decide) c30
        have c37 := k34.gi kC_at152 (by decide) c28
        rcases hg35 with rfl | rfl
        · refine lv_if_eq (tgt := 44) hx hb dX8_fittingMaps_35 (by decide) (fun _ => ?_) (fun c => absurd (by decide) c)
          exact J44 v4_2 x18 H locs ls w33 (show 0 ≤ v4_2.toInt by omega) (show v4_2.toInt ≤ 15 by omega) (show 0 ≤ v4_3.toInt by omega) (show v4_3.toInt ≤ 3 by omega) (show 0 ≤ v4_3.toInt by omega) (show v4_3.toInt ≤ 3 by omega) (show 1 ≤ x18.toInt by omega) (show x18.toInt ≤ 4 by omega)  hw hT hF c37 c36 (lv_sub hl [0, 1, 2, 3] rfl)
        · refine lv_if_eq (tgt := 44) hx hb dX8_fittingMaps_35 (by decide) (fun c => absurd c (by decide)) (fun _ => ?_)
          refine lv_iload_n hx hb dX8_fittingMaps_38 rfl (lv_at hl 2 rfl) ?_
          refine lv_iconst (v := 1) hx hb dX8_fittingMaps_39 (by decide) ?_
          refine lv_iload_n hx hb dX8_fittingMaps_40 rfl (lv_at hl 3 rfl) ?_
          refine lv_ishl hx hb dX8_fittingMaps_41 ?_
          refine lv_topi (fun x38 ex38 => ?_)
          have bx38 : 1 ≤ x38.toInt ∧ x38.toInt ≤ 8 := by rw [ex38]; exact wk_shl1 3 (by decide) (by omega) (by omega)
          refine lv_ior hx hb dX8_fittingMaps_42 ?_
          refine lv_topi (fun x39 ex39 => ?_)
          have bx39 : 0 ≤ x39.toInt ∧ x39.toInt < 16 := by rw [ex39]; exact wk_or 4 (by decide) (by omega) (by omega) (by omega) (by omega)
          have mx39 : v4_2.toInt ≤ x39.toInt ∧ x38.toInt ≤ x39.toInt := by rw [ex39]; exact wk_orL 4 (by decide) (by omega) (by omega) (by omega) (by omega)
          refine lv_istore_n (lv' := [(2, .int x39), (0, .ref (ad 151)), (1, .ref (ad q1_)), (3, .int v4_3)]) hx hb dX8_fittingMaps_43 rfl hl (by decide) rfl (fun ls hl => ?_)
          exact J44 x39 x18 H locs ls w33 (show 0 ≤ x39.toInt by omega) (show x39.toInt ≤ 15 by omega) (show 0 ≤ v4_3.toInt by omega) (show v4_3.toInt ≤ 3 by omega) (show 0 ≤ v4_3.toInt by omega) (show v4_3.toInt ≤ 3 by omega) (show 1 ≤ x18.toInt by omega) (show x18.toInt ≤ 4 by omega)  hw hT hF c37 c36 (lv_sub hl [1, 2, 0, 3] rfl)
  refine lv_iconst (v := 0) hx hb dX8_fittingMaps_0 (by decide) ?_
  refine lv_istore_n (lv' := [(2, .int 0), (0, .ref (ad 151)), (1, .ref (ad q1_))]) hx hb dX8_fittingMaps_1 rfl hl (by decide) rfl (fun ls hl => ?_)
  refine lv_iconst (v := 0) hx hb dX8_fittingMaps_2 (by decide) ?_
  refine lv_istore_n (lv' := [(3, .int 0), (2, .int 0), (0, .ref (ad 151)), (1, .ref (ad q1_))]) hx hb dX8_fittingMaps_3 rfl hl (by decide) rfl (fun ls hl => ?_)
  exact L4 ((4 - (0 : Int)).toNat + 1) 0 0 s.heap locs ls w0 (by decide) (by decide) (by decide) (by decide) (Nat.lt_succ_self _) hw (hT.up (show B ≤ (B + 0 + 900 * (0 : Int32).toInt) by rw [show (0 : Int32).toInt = 0 by decide]; omega)) hF  (lv_sub hl [2, 3, 1, 0] rfl)
