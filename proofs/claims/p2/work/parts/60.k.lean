abbrev P_X6_hasRoom_1 (ad : Nat → Nat) (cy : Nat → ClassId) (B : Int) (qr : Nat) (s1 : Int)  (w0 : va_W) : Int32 → va_W → Prop := fun r u => TW ksC ad cy B qr s1 u ∧ FE ksC ([] : List (Nat × Nat × Nat)) w0 u ∧ ((r = 0 ∧ (∃ y : Int32, gi u 1 2 = y ∧ 381 ≤ y.toInt ∧ y.toInt ≤ 400)) ∨ (r = 1 ∧ (∃ y : Int32, gi u 1 2 = y ∧ 0 ≤ y.toInt ∧ y.toInt ≤ 380)))
set_option maxHeartbeats 4000000 in
set_option maxRecDepth 100000 in
theorem k_X6_hasRoom_1 (l : Launch) (adK adV : Nat → Nat) (dC : Nat → ClassId) (dI : Nat → Nat → Nat) (cy : Nat → ClassId) (ad : Nat → Nat) (B : Int) (hB0 : 2147483648 ≤ B) (hB1 : B ≤ 1152921504606846976) (qr : Nat) (s1 : Int)   (w0 : va_W) (sz : Nat) (hT : TW ksC ad cy B qr s1 w0)  : Met l yX6_hasRoom wsX6_hasRoom ({ frames := 1, cells := 0, slots := 0, locals := 12 }) (va_Pc [.ref (ad 1)] (wpreS adK adV dC dI cy sz w0)) (va_Qi (P_X6_hasRoom_1 ad cy B qr s1  w0) (fun u : va_W => wpost dC dI cy (va_A w0 sz) u) (va_A w0 sz)) 0 0 (va_A w0 sz) := by
  refine Met.ofW (cc := cX6_hasRoom) (maxL := 1) (ret := (some .boolean)) (by decide) rfl ?_
  intro p e s m args below meth c s₁ Bk hml hv
  obtain ⟨rfl, ⟨hsz, hP, hK, hD0⟩, hE, hSR⟩ := hv
  have hx := Bk.exec
  have hb := Bk.bytes
  have hr := Bk.returns
  have hlocks := Bk.notSynchronized
  have hC : CallFix p m c cX6_hasRoom 1 s _ wsX6_hasRoom RX6 := ⟨hx, hb, hml, findClass_of_methodNamed Bk.named, atoms_spec (ws := wsX6_hasRoom) Bk.pre⟩
  subst hsz
  have hD := hD0.self (sz := s.heap.size)
  generalize hAe : va_A w0 s.heap.size = A at hD hE ⊢
  have hA : ∀ q : Nat, s.heap.size ≤ q → A q := fun q h => by rw [← hAe]; exact Or.inr h
  have hw : Wd dC dI A s.heap s.heap [] w0 := ⟨hP, hD, va_S.rf⟩
  have hF : FE ksC ([] : List (Nat × Nat × Nat)) w0 w0 := FE.rf
  have hl := lv_entry ([.ref (ad 1)]) (n := 1) (Nat.le_of_ble_eq_true rfl)
  rw [lg_entry_eq]
  generalize (lg_sl ([.ref (ad 1)]) ++ List.replicate (1 - (lg_sl ([.ref (ad 1)])).length) Slot.unset).toArray = ls at hl ⊢
  have hl : lv_has ls 1 [(0, .ref (ad 1))] := hl
  generalize hloc : ([] : List Loc) = locs at hw ⊢
  have hinX6 : ∀ w ∈ u_ws RX6 TX6 5, w ∈ wsX6_hasRoom := fun _ h => List.mem_cons_of_mem _ (List.mem_append_right _ (h))
  refine lv_aload_n hx hb dX6_hasRoom_0 rfl (lv_at hl 0 rfl) ?_
  refine tk_geti hC hK hw hT hinX6 kC_at1 (by decide) rfl 2 (by decide) (List.mem_of_getElem? (i := 1) rfl) rfl rfl dX6_hasRoom_1 (fun x1 c2 rx1 tx1 => ?_)
  refine lv_bipush (v := 20) hx hb dX6_hasRoom_4 (by decide) ?_
  refine lv_iadd hx hb dX6_hasRoom_6 ?_
  refine lv_topi (fun x3 ex3 => ?_)
  have ex3 : x3.toInt = x1.toInt + (20 : Int) := by rw [ex3]; exact wk_add (show (-2147483648) ≤ x1.toInt + (20 : Int) by omega) (show x1.toInt + (20 : Int) ≤ 2147483647 by omega)
  refine lv_sipush (v := 400) hx hb dX6_hasRoom_7 (by decide) ?_
  refine lv_icmp_gt (tgt := 17) hx hb dX6_hasRoom_10 (by decide) (fun c4 => ?_) (fun c4 => ?_)
  · have c4 : (400 : Int) < x3.toInt := wk_lt.mp c4
    refine lv_iconst (v := 0) hx hb dX6_hasRoom_17 (by decide) ?_
    exact tk_zret hC hr rfl hlocks hK ⟨hT, hF, (Or.inl ⟨rfl, ⟨x1, c2, (show 381 ≤ x1.toInt by omega), (show x1.toInt ≤ 400 by omega)⟩⟩)⟩ hw dX6_hasRoom_18
  · have c4 : x3.toInt ≤ (400 : Int) := wk_ltF c4
    refine lv_iconst (v := 1) hx hb dX6_hasRoom_13 (by decide) ?_
    refine lv_goto (tgt := 18) hx hb dX6_hasRoom_14 (by decide) ?_
    exact tk_zret hC hr rfl hlocks hK ⟨hT, hF, (Or.inr ⟨rfl, ⟨x1, c2, (show 0 ≤ x1.toInt by omega), (show x1.toInt ≤ 380 by omega)⟩⟩)⟩ hw dX6_hasRoom_18
abbrev P_X6_append_1 (ad : Nat → Nat) (cy : Nat → ClassId) (B : Int) (qr : Nat) (s1 : Int) (a1 : Int32) (w0 : va_W) : va_W → Prop := fun u => TW ksC ad cy B qr s1 u ∧ FE ksC [(6, 2, 2), (20, 0, 400)] w0 u ∧ ((True))
set_option maxHeartbeats 4000000 in
set_option maxRecDepth 100000 in
theorem k_X6_append_1 (l : Launch) (adK adV : Nat → Nat) (dC : Nat → ClassId) (dI : Nat → Nat → Nat) (cy : Nat → ClassId) (ad : Nat → Nat) (B : Int) (hB0 : 2147483648 ≤ B) (hB1 : B ≤ 1152921504606846976) (qr : Nat) (s1 : Int)  (a1 : Int32) (w0 : va_W) (sz : Nat) (hT : TW ksC ad cy B qr s1 w0)  : Met l yX6_append wsX6_append ({ frames := 1, cells := 0, slots := 0, locals := 12 }) (va_Pc [.ref (ad 1), .int a1] (wpreS adK adV dC dI cy sz w0)) (va_Qv (P_X6_append_1 ad cy B qr s1 a1 w0) (fun u : va_W => wpost dC dI cy (va_A w0 sz) u) (va_A w0 sz)) 0 0 (va_A w0 sz) := by
  refine Met.ofW (cc := cX6_append) (maxL := 3) (ret := none) (by decide) rfl ?_
  intro p e s m args below meth c s₁ Bk hml hv
  obtain ⟨rfl, ⟨hsz, hP, hK, hD0⟩, hE, hSR⟩ := hv
  have hx := Bk.exec
  have hb := Bk.bytes
  have hr := Bk.returns
  have hlocks := Bk.notSynchronized
  have hC : CallFix p m c cX6_append 3 s _ wsX6_append RX6 := ⟨hx, hb, hml, findClass_of_methodNamed Bk.named, atoms_spec (ws := wsX6_append) Bk.pre⟩
  subst hsz
  have hD := hD0.self (sz := s.heap.size)
  generalize hAe : va_A w0 s.heap.size = A at hD hE ⊢
  have hA : ∀ q : Nat, s.heap.size ≤ q → A q := fun q h => by rw [← hAe]; exact Or.inr h
  have hw : Wd dC dI A s.heap s.heap [] w0 := ⟨hP, hD, va_S.rf⟩
  have hF : FE ksC [(6, 2, 2), (20, 0, 400)] w0 w0 := FE.rf
  have hl := lv_entry ([.ref (ad 1), .int a1]) (n := 3) (Nat.le_of_ble_eq_true rfl)
  rw [lg_entry_eq]
  generalize (lg_sl ([.ref (ad 1), .int a1]) ++ List.replicate (3 - (lg_sl ([.ref (ad 1), .int a1])).length) Slot.unset).toArray = ls at hl ⊢
  have hl : lv_has ls 3 [(0, .ref (ad 1)), (1, .int a1)] := hl
  generalize hloc : ([] : List Loc) = locs at hw ⊢
  have hinX6 : ∀ w ∈ u_ws RX6 TX6 5, w ∈ wsX6_append := fun _ h => List.mem_cons_of_mem _ (List.mem_append_right _ (h))
  have J49 : ∀ (v49_2 : Int32) (H : Heap) (locs : List Loc) (ls : Array Slot) (w1 : va_W), (-8) ≤ v49_2.toInt → v49_2.toInt ≤ 24 → Wd dC dI A s.heap H locs w1 → TW ksC ad cy B qr s1 w1 → FE ksC [(6, 2, 2), (20, 0, 400)] w0 w1 → lv_has ls 3 [(0, .ref (ad 1)), (1, .int a1), (2, .int v49_2)] → W p l e ({ frames := 1, cells := 0, slots := 0, locals := 12 }) s m (List.toArray [.ref (ad 1), .int a1]) below meth c H locs 0 0 (MQ below (va_Qv (P_X6_append_1 ad cy B qr s1 a1 w0) (fun u : va_W => wpost dC dI cy A u) A) (List.toArray [.ref (ad 1), .int a1]) s 0 0 A) (F0 m 49 ls []) := by
    intro v49_2 H locs ls w1 r2 t3 hw hT hF hl
    exact tk_vret hC hr hlocks hK ⟨hT, hF, trivial⟩ hw dX6_append_49
  have L3 : ∀ (n3 : Nat) (v3_2 : Int32) (H : Heap) (locs : List Loc) (ls : Array Slot) (w4 : va_W), (-8) ≤ v3_2.toInt → v3_2.toInt ≤ 24 → (v3_2.toInt - (-8)).toNat < n3 → Wd dC dI A s.heap H locs w4 → TW ksC ad cy B qr s1 w4 → FE ksC [(6, 2, 2), (20, 0, 400)] w0 w4 → lv_has ls 3 [(0, .ref (ad 1)), (1, .int a1), (2, .int v3_2)] → W p l e ({ frames := 1, cells := 0, slots := 0, locals := 12 }) s m (List.toArray [.ref (ad 1), .int a1]) below meth c H locs 0 0 (MQ below (va_Qv (P_X6_append_1 ad cy B qr s1 a1 w0) (fun u : va_W => wpost dC dI cy A u) A) (List.toArray [.ref (ad 1), .int a1]) s 0 0 A) (F0 m 3 ls []) := by
    intro n3
    induction n3 with
    | zero => intro v3_2 H locs ls w4 r5 t6 hm3 hw hT hF hl; omega
    | succ n3 ih3 =>
      intro v3_2 H locs ls w4 r5 t6 hm3 hw hT hF hl
      refine lv_iload_n hx hb dX6_append_3 rfl (lv_at hl 2 rfl) ?_
      refine lv_if_lt (tgt := 49) hx hb dX6_append_4 (by decide) (fun c7 => ?_) (fun c7 => ?_)
      · have c7 : v3_2.toInt < (0 : Int) := wk_lt.mp c7
        exact J49 v3_2 H locs ls w4 (show (-8) ≤ v3_2.toInt by omega) (show v3_2.toInt ≤ 24 by omega)  hw hT hF  (lv_sub hl [0, 1, 2] rfl)
      · have c7 : (0 : Int) ≤ v3_2.toInt := wk_ltF c7
        refine lv_aload_n hx hb dX6_append_7 rfl (lv_at hl 0 rfl) ?_
        refine tk_geti hC hK hw hT hinX6 kC_at1 (by decide) rfl 2 (by decide) (List.mem_of_getElem? (i := 1) rfl) rfl rfl dX6_append_8 (fun x8 c9 rx8 tx8 => ?_)
        refine lv_sipush (v := 400) hx hb dX6_append_11 (by decide) ?_
        refine lv_icmp_ge (tgt := 49) hx hb dX6_append_14 (by decide) (fun c10 => ?_) (fun c10 => ?_)
        · have c10 : (400 : Int) ≤ x8.toInt := wk_le.mp c10
          exact J49 v3_2 H locs ls w4 (show (-8) ≤ v3_2.toInt by omega) (show v3_2.toInt ≤ 24 by omega)  hw hT hF  (lv_sub hl [0, 1, 2] rfl)
        · have c10 : x8.toInt < (400 : Int) := wk_leF c10
          refine lv_aload_n hx hb dX6_append_17 rfl (lv_at hl 0 rfl) ?_
          refine tk_getA hC hK hw hT hinX6 kC_at1 (by decide) rfl 0 (by decide) (List.mem_of_getElem? (i := 2) rfl) rfl rfl dX6_append_18 ?_
          refine lv_aload_n hx hb dX6_append_21 rfl (lv_at hl 0 rfl) ?_
          refine tk_geti hC hK hw hT hinX6 kC_at1 (by decide) rfl 2 (by decide) (List.mem_of_getElem? (i := 1) rfl) rfl rfl dX6_append_22 (fun x11 c12 rx11 tx11 => ?_)
          refine wk_top x8 (c12.symm.trans c9) ?_
          refine lv_iload_n hx hb dX6_append_25 rfl (lv_at hl 1 rfl) ?_
          refine lv_iload_n hx hb dX6_append_26 rfl (lv_at hl 2 rfl) ?_
          refine lv_ishr hx hb dX6_append_27 ?_
          refine lv_topi (fun x13 ex13 => ?_)
          refine lv_sipush (v := 255) hx hb dX6_append_28 (by decide) ?_
          refine lv_iand hx hb dX6_append_31 ?_
          refine lv_topi (fun x14 ex14 => ?_)
          have bx14 : 0 ≤ x14.toInt ∧ x14.toInt ≤ (255 : Int) := by rw [ex14]; exact wk_and (by decide)
          refine tk_iast hC hK hw hT kC_at2 (by decide) rfl rfl (show 0 ≤ x8.toInt by omega) (show x8.toInt < 400 by omega) (show 0 ≤ x14.toInt by omega) (show x14.toInt ≤ 255 by omega) dX6_append_32 (fun H locs w15 hw hT k17 c16 => ?_)
          have hF := hF.put kC_at2 (inE_of (a := 0) (b := 400) (by decide) (show 0 ≤ x8.toInt.toNat by omega) (show x8.toInt.toNat ≤ 400 by omega)) k17
          have c18 := k17.gi (Or.inl (tk_ne kC_at1 kC_at2 (by decide))) c9
          refine lv_aload_n hx hb dX6_append_33 rfl (lv_at hl 0 rfl) ?_
          refine lv_dup hx hb dX6_append_34 rfl ?_
          refine tk_geti hC hK hw hT hinX6 kC_at1 (by decide) rfl 2 (by decide) (List.mem_of_getElem? (i := 1) rfl) rfl rfl dX6_append_35 (fun x19 c20 rx19 tx19 => ?_)
          refine wk_top x8 (c20.symm.trans c18) ?_
          refine lv_iconst (v := 1) hx hb dX6_append_38 (by decide) ?_
          refine lv_iadd hx hb dX6_append_39 ?_
          refine lv_topi (fun x21 ex21 => ?_)
          have ex21 : x21.toInt = x8.toInt + (1 : Int) := by rw [ex21]; exact wk_add (show (-2147483648) ≤ x8.toInt + (1 : Int) by omega) (show x8.toInt + (1 : Int) ≤ 2147483647 by omega)
          refine tk_puti hC hK hw hT hinX6 tyX6_ok nmX6 kC_at1 (by decide) rfl rfl 2 (by decide) (List.mem_of_getElem? (i := 1) rfl) rfl rfl rfl rfl (show 0 ≤ x21.toInt by omega) (show x21.toInt ≤ 400 by omega) dX6_append_40 (fun H locs w22 hw hT k24 c23 => ?_)
          have hF := hF.put kC_at1 (k := 2) (by decide) k24
          obtain ⟨x25, ex25⟩ : ∃ y : Int32, y = v3_2 + Int32.ofInt (-8) := ⟨_, rfl⟩
          refine lv_iinc (v := x25) (lv' := [(2, .int x25), (0, .ref (ad 1)), (1, .int a1)]) hx hb dX6_append_43 hl (k := 2) rfl ex25.symm (by decide) rfl (fun ls hl => ?_)
          have ex25 : x25.toInt = v3_2.toInt + (-8) := by rw [ex25]; exact wk_add (y := (-8)) (show -2147483648 ≤ v3_2.toInt + (-8) by omega) (show v3_2.toInt + (-8) ≤ 2147483647 by omega)
          refine lv_goto (tgt := 3) hx hb dX6_append_46 (by decide) ?_
          exact ih3 x25 H locs ls w22 (show (-8) ≤ x25.toInt by omega) (show x25.toInt ≤ 24 by omega) (show (x25.toInt - (-8)).toNat < n3 by omega) hw hT hF  (lv_sub hl [1, 2, 0] rfl)
  refine lv_bipush (v := 24) hx hb dX6_append_0 (by decide) ?_
  refine lv_istore_n (lv' := [(2, .int 24), (0, .ref (ad 1)), (1, .int a1)]) hx hb dX6_append_2 rfl hl (by decide) rfl (fun ls hl => ?_)
  exact L3 (((24 : Int) - (-8)).toNat + 1) 24 s.heap locs ls w0 (by decide) (by decide) (Nat.lt_succ_self _) hw hT hF  (lv_sub hl [1, 2, 0] rfl)
abbrev P_X11_feed_1 (ad : Nat → Nat) (cy : Nat → ClassId) (B : Int) (qr : Nat) (s1 : Int) (a1 : Int32) (a2 : Int32) (a3 : Int32) (a4 : Int32) (a5 : Int32) (w0 : va_W) : Int32 → va_W → Prop := fun r u => TW ksC ad cy B qr s1 u ∧ FE ksC [(6, 2, 2), (20, 0, 400)] w0 u ∧ ((0 ≤ r.toInt ∧ r.toInt ≤ 400) ∨ (r = (-1) ∧ (∃ y : Int32, gi u 1 2 = y ∧ 381 ≤ y.toInt ∧ y.toInt ≤ 400)))
set_option maxHeartbeats 4000000 in
set_option maxRecDepth 100000 in
theorem k_X11_feed_1 (l : Launch) (adK adV : Nat → Nat) (dC : Nat → ClassId) (dI : Nat → Nat → Nat) (cy : Nat → ClassId) (ad : Nat → Nat) (B : Int) (hB0 : 2147483648 ≤ B) (hB1 : B ≤ 1152921504606846976) (qr : Nat) (s1 : Int)  (a1 : Int32) (a2 : Int32) (a3 : Int32) (a4 : Int32) (a5 : Int32) (w0 : va_W) (sz : Nat) (hT : TW ksC ad cy B qr s1 w0)  : Met l yX11_feed wsX11_feed ({ frames := 2, cells := 0, slots := 0, locals := 34 }) (va_Pc [.ref (ad 0), .int a1, .int a2, .int a3, .int a4, .int a5] (wpreS adK adV dC dI cy sz w0)) (va_Qi (P_X11_feed_1 ad cy B qr s1 a1 a2 a3 a4 a5 w0) (fun u : va_W => wpost dC dI cy (va_A w0 sz) u) (va_A w0 sz)) 0 0 (va_A w0 sz) := by
  refine Met.ofW (cc := cX11_feed) (maxL := 6) (ret := (some .int)) (by decide) rfl ?_
  intro p e s m args below meth c s₁ Bk hml hv
  obtain ⟨rfl, ⟨hsz, hP, hK, hD0⟩, hE, hSR⟩ := hv
  have hx := Bk.exec
  have hb := Bk.bytes
  have hr := Bk.returns
  have hlocks := Bk.notSynchronized
  have hC : CallFix p m c cX11_feed 6 s _ wsX11_feed RX11 := ⟨hx, hb, hml, findClass_of_methodNamed Bk.named, atoms_spec (ws := wsX11_feed) Bk.pre⟩
  subst hsz
  have hD := hD0.self (sz := s.heap.size)
  generalize hAe : va_A w0 s.heap.size = A at hD hE ⊢
  have hA : ∀ q : Nat, s.heap.size ≤ q → A q := fun q h => by rw [← hAe]; exact Or.inr h
  have hw : Wd dC dI A s.heap s.heap [] w0 := ⟨hP, hD, va_S.rf⟩
  have hF : FE ksC [(6, 2, 2), (20, 0, 400)] w0 w0 := FE.rf
  have hl := lv_entry ([.ref (ad 0), .int a1, .int a2, .int a3, .int a4, .int a5]) (n := 6) (Nat.le_of_ble_eq_true rfl)
  rw [lg_entry_eq]
  generalize (lg_sl ([.ref (ad 0), .int a1, .int a2, .int a3, .int a4, .int a5]) ++ List.replicate (6 - (lg_sl ([.ref (ad 0), .int a1, .int a2, .int a3, .int a4, .int a5])).length) Slot.unset).toArray = ls at hl ⊢
  have hl : lv_has ls 6 [(0, .ref (ad 0)), (1, .int a1), (2, .int a2), (3, .int a3), (4, .int a4), (5, .int a5)] := hl
  generalize hloc : ([] : List Loc) = locs at hw ⊢
  have hinX11 : ∀ w ∈ u_ws RX11 TX11 13, w ∈ wsX11_feed := fun _ h => List.mem_cons_of_mem _ (List.mem_append_left _ (List.mem_append_right _ (h)))
  have hinX6 : ∀ w ∈ u_ws RX6 TX6 5, w ∈ wsX11_feed := fun _ h => List.mem_cons_of_mem _ (List.mem_append_right _ (h))
  refine lv_aload_n hx hb dX11_feed_0 rfl (lv_at hl 0 rfl) ?_
  refine tk_getA hC hK hw hT hinX11 kC_at0 (by decide) rfl 0 (by decide) (List.mem_of_getElem? (i := 1) rfl) rfl rfl dX11_feed_1 ?_
  refine tk_Vi hC hK hw hT hA hE hSR kC_at1 (by decide) rfl (k_X6_hasRoom_1 l adK adV dC dI cy ad B (by omega) (by omega) qr s1    w0 s.heap.size hT ) (cwV 0 hC.2.2.2.2 gX11_feed_X6_hasRoom rfl rfl rfl (by decide +kernel) ⟨Nat.le_of_ble_eq_true rfl, Nat.le_of_ble_eq_true rfl⟩) rfl hl.1 rfl (Nat.le_of_ble_eq_true rfl) dX11_feed_4 (fun r1 w3 H locs hp2 hw => ?_)
  obtain ⟨hT, k4, hg9⟩ := hp2
  have hF := hF.tr k4 (by decide)
  rcases hg9 with ⟨rfl, ⟨x5, c6, rx5, tx5⟩⟩ | ⟨rfl, ⟨x7, c8, rx7, tx7⟩⟩
  · refine lv_if_ne (tgt := 12) hx hb dX11_feed_7 (by decide) (fun c => absurd (by decide) c) (fun _ => ?_)
    refine lv_iconst (v := (-1)) hx hb dX11_feed_10 (by decide) ?_
    exact tk_iret hC hr hlocks hK ⟨hT, hF, (Or.inr ⟨rfl, ⟨x5, c6, (show 381 ≤ x5.toInt by omega), (show x5.toInt ≤ 400 by omega)⟩⟩)⟩ hw dX11_feed_11
  · refine lv_if_ne (tgt := 12) hx hb dX11_feed_7 (by decide) (fun _ => ?_) (fun c => absurd c (by decide))
    refine lv_aload_n hx hb dX11_feed_12 rfl (lv_at hl 0 rfl) ?_
    refine tk_getA hC hK hw hT hinX11 kC_at0 (by decide) rfl 0 (by decide) (List.mem_of_getElem? (i := 1) rfl) rfl rfl dX11_feed_13 ?_
    refine lv_iload_n hx hb dX11_feed_16 rfl (lv_at hl 1 rfl) ?_
    refine tk_Vv hC hK hw hT hA hE hSR kC_at1 (by decide) rfl (k_X6_append_1 l adK adV dC dI cy ad B (by omega) (by omega) qr s1   a1 w3 H.size hT ) (cwV 1 hC.2.2.2.2 gX11_feed_X6_append rfl rfl rfl (by decide +kernel) ⟨Nat.le_of_ble_eq_true rfl, Nat.le_of_ble_eq_true rfl⟩) rfl hl.1 rfl (Nat.le_of_ble_eq_true rfl) dX11_feed_17 (fun w12 H locs hp11 hw => ?_)
    obtain ⟨hT, k13, hg14⟩ := hp11
    have hF := hF.tr k13 (by decide)
    clear hg14
    refine lv_aload_n hx hb dX11_feed_20 rfl (lv_at hl 0 rfl) ?_
    refine tk_getA hC hK hw hT hinX11 kC_at0 (by decide) rfl 0 (by decide) (List.mem_of_getElem? (i := 1) rfl) rfl rfl dX11_feed_21 ?_
    refine lv_iload_n hx hb dX11_feed_24 rfl (lv_at hl 2 rfl) ?_
    refine tk_Vv hC hK hw hT hA hE hSR kC_at1 (by decide) rfl (k_X6_append_1 l adK adV dC dI cy ad B (by omega) (by omega) qr s1   a2 w12 H.size hT ) (cwV 1 hC.2.2.2.2 gX11_feed_X6_append rfl rfl rfl (by decide +kernel) ⟨Nat.le_of_ble_eq_true rfl, Nat.le_of_ble_eq_true rfl⟩) rfl hl.1 rfl (Nat.le_of_ble_eq_true rfl) dX11_feed_25 (fun w17 H locs hp16 hw => ?_)
    obtain ⟨hT, k18, hg19⟩ := hp16
    have hF := hF.tr k18 (by decide)
    clear hg19
    refine lv_aload_n hx hb dX11_feed_28 rfl (lv_at hl 0 rfl) ?_
    refine tk_getA hC hK hw hT hinX11 kC_at0 (by decide) rfl 0 (by decide) (List.mem_of_getElem? (i := 1) rfl) rfl rfl dX11_feed_29 ?_
    refine lv_iload_n hx hb dX11_feed_32 rfl (lv_at hl 3 rfl) ?_
    refine tk_Vv hC hK hw hT hA hE hSR kC_at1 (by decide) rfl (k_X6_append_1 l adK adV dC dI cy ad B (by omega) (by omega) qr s1   a3 w17 H.size hT ) (cwV 1 hC.2.2.2.2 gX11_feed_X6_append rfl rfl rfl (by decide +kernel) ⟨Nat.le_of_ble_eq_true rfl, Nat.le_of_ble_eq_true rfl⟩) rfl hl.1 rfl (Nat.le_of_ble_eq_true rfl) dX11_feed_33 (fun w22 H locs hp21 hw => ?_)
    obtain ⟨hT, k23, hg24⟩ := hp21
    have hF := hF.tr k23 (by decide)
    clear hg24
    refine lv_aload_n hx hb dX11_feed_36 rfl (lv_at hl 0 rfl) ?_
    refine tk_getA hC hK hw hT hinX11 kC_at0 (by decide) rfl 0 (by decide) (List.mem_of_getElem? (i := 1) rfl) rfl rfl dX11_feed_37 ?_
    refine lv_iload hx hb dX11_feed_40 (lv_at hl 4 rfl) ?_
    refine tk_Vv hC hK hw hT hA hE hSR kC_at1 (by decide) rfl (k_X6_append_1 l adK adV dC dI cy ad B (by omega) (by omega) qr s1   a4 w22 H.size hT ) (cwV 1 hC.2.2.2.2 gX11_feed_X6_append rfl rfl rfl (by decide +kernel) ⟨Nat.le_of_ble_eq_true rfl, Nat.le_of_ble_eq_true rfl⟩) rfl hl.1 rfl (Nat.le_of_ble_eq_true rfl) dX11_feed_42 (fun w27 H locs hp26 hw => ?_)
    obtain ⟨hT, k28, hg29⟩ := hp26
    have hF := hF.tr k28 (by decide)
    clear hg29
    refine lv_aload_n hx hb dX11_feed_45 rfl (lv_at hl 0 rfl) ?_
    refine tk_getA hC hK hw hT hinX11 kC_at0 (by decide) rfl 0 (by decide) (List.mem_of_getElem? (i := 1) rfl) rfl rfl dX11_feed_46 ?_
    refine lv_iload hx hb dX11_feed_49 (lv_at hl 5 rfl) ?_
    refine tk_Vv hC hK hw hT hA hE hSR kC_at1 (by decide) rfl (k_X6_append_1 l adK adV dC dI cy ad B (by omega) (by omega) qr s1   a5 w27 H.size hT ) (cwV 1 hC.2.2.2.2 gX11_feed_X6_append rfl rfl rfl (by decide +kernel) ⟨Nat.le_of_ble_eq_true rfl, Nat.le_of_ble_eq_true rfl⟩) rfl hl.1 rfl (Nat.le_of_ble_eq_true rfl) dX11_feed_51 (fun w32 H locs hp31 hw => ?_)
    obtain ⟨hT, k33, hg34⟩ := hp31
    have hF := hF.tr k33 (by decide)
    clear hg34
    refine lv_aload_n hx hb dX11_feed_54 rfl (lv_at hl 0 rfl) ?_
    refine tk_getA hC hK hw hT hinX11 kC_at0 (by decide) rfl 0 (by decide) (List.mem_of_getElem? (i := 1) rfl) rfl rfl dX11_feed_55 ?_
    refine tk_geti hC hK hw hT hinX6 kC_at1 (by decide) rfl 2 (by decide) (List.mem_of_getElem? (i := 2) rfl) rfl rfl dX11_feed_58 (fun x35 c36 rx35 tx35 => ?_)
    exact tk_iret hC hr hlocks hK ⟨hT, hF, (Or.inl ⟨(show 0 ≤ x35.toInt by omega), (show x35.toInt ≤ 400 by omega)⟩)⟩ hw dX11_feed_61
abbrev P_X11_end_1 (ad : Nat → Nat) (cy : Nat → ClassId) (B : Int) (qr : Nat) (s1 : Int) (a1 : Int32) (w0 : va_W) : Int32 → va_W → Prop := fun r u => TW ksC ad cy B qr s1 u ∧ FE ksC [(6, 2, 2)] w0 u ∧ ((0 ≤ r.toInt ∧ r.toInt ≤ 400 ∧ 0 ≤ a1.toInt ∧ a1.toInt ≤ 400) ∨ (r = (-1)))
set_option maxHeartbeats 4000000 in
set_option maxRecDepth 100000 in
theorem k_X11_end_1 (l : Launch) (adK adV : Nat → Nat) (dC : Nat → ClassId) (dI : Nat → Nat → Nat) (cy : Nat → ClassId) (ad : Nat → Nat) (B : Int) (hB0 : 2147483648 ≤ B) (hB1 : B ≤ 1152921504606846976) (qr : Nat) (s1 : Int)  (a1 : Int32) (w0 : va_W) (sz : Nat) (hT : TW ksC ad cy B qr s1 w0)  : Met l yX11_end wsX11_end ({ frames := 1, cells := 0, slots := 0, locals := 12 }) (va_Pc [.ref (ad 0), .int a1] (wpreS adK adV dC dI cy sz w0)) (va_Qi (P_X11_end_1 ad cy B qr s1 a1 w0) (fun u : va_W => wpost dC dI cy (va_A w0 sz) u) (va_A w0 sz)) 0 0 (va_A w0 sz) := by
  refine Met.ofW (cc := cX11_end) (maxL := 2) (ret := (some .int)) (by decide) rfl ?_
  intro p e s m args below meth c s₁ Bk hml hv
  obtain ⟨rfl, ⟨hsz, hP, hK, hD0⟩, hE, hSR⟩ := hv
  have hx := Bk.exec
  have hb := Bk.bytes
  have hr := Bk.returns
  have hlocks := Bk.notSynchronized
  have hC : CallFix p m c cX11_end 2 s _ wsX11_end RX11 := ⟨hx, hb, hml, findClass_of_methodNamed Bk.named, atoms_spec (ws := wsX11_end) Bk.pre⟩
  subst hsz
  have hD := hD0.self (sz := s.heap.size)
  generalize hAe : va_A w0 s.heap.size = A at hD hE ⊢
  have hA : ∀ q : Nat, s.heap.size ≤ q → A q := fun q h => by rw [← hAe]; exact Or.inr h
  have hw : Wd dC dI A s.heap s.heap [] w0 := ⟨hP, hD, va_S.rf⟩
  have hF : FE ksC [(6, 2, 2)] w0 w0 := FE.rf
  have hl := lv_entry ([.ref (ad 0), .int a1]) (n := 2) (Nat.le_of_ble_eq_true rfl)
  rw [lg_entry_eq]
  generalize (lg_sl ([.ref (ad 0), .int a1]) ++ List.replicate (2 - (lg_sl ([.ref (ad 0), .int a1])).length) Slot.unset).toArray = ls at hl ⊢
  have hl : lv_has ls 2 [(0, .ref (ad 0)), (1, .int a1)] := hl
  generalize hloc : ([] : List Loc) = locs at hw ⊢
  have hinX11 : ∀ w ∈ u_ws RX11 TX11 13, w ∈ wsX11_end := fun _ h => List.mem_cons_of_mem _ (List.mem_append_left _ (List.mem_append_right _ (h)))
  have hinX6 : ∀ w ∈ u_ws RX6 TX6 5, w ∈ wsX11_end := fun _ h => List.mem_cons_of_mem _ (List.mem_append_right _ (h))
  have J15 : ∀ (H : Heap) (locs : List Loc) (ls : Array Slot) (w1 : va_W), Wd dC dI A s.heap H locs w1 → TW ksC ad cy B qr s1 w1 → FE ksC [(6, 2, 2)] w0 w1 → lv_has ls 2 [(0, .ref (ad 0)), (1, .int a1)] → W p l e ({ frames := 1, cells := 0, slots := 0, locals := 12 }) s m (List.toArray [.ref (ad 0), .int a1]) below meth c H locs 0 0 (MQ below (va_Qi (P_X11_end_1 ad cy B qr s1 a1 w0) (fun u : va_W => wpost dC dI cy A u) A) (List.toArray [.ref (ad 0), .int a1]) s 0 0 A) (F0 m 15 ls []) := by
    intro H locs ls w1 hw hT hF hl
    refine lv_iconst (v := (-1)) hx hb dX11_end_15 (by decide) ?_
    exact tk_iret hC hr hlocks hK ⟨hT, hF, (Or.inr rfl)⟩ hw dX11_end_16
  refine lv_iload_n hx hb dX11_end_0 rfl (lv_at hl 1 rfl) ?_
  refine lv_if_lt (tgt := 15) hx hb dX11_end_1 (by decide) (fun c2 => ?_) (fun c2 => ?_)
  · have c2 : a1.toInt < (0 : Int) := wk_lt.mp c2
    exact J15  s.heap locs ls w0   hw hT hF  (lv_sub hl [0, 1] rfl)
  · have c2 : (0 : Int) ≤ a1.toInt := wk_ltF c2
    refine lv_iload_n hx hb dX11_end_4 rfl (lv_at hl 1 rfl) ?_
    refine lv_aload_n hx hb dX11_end_5 rfl (lv_at hl 0 rfl) ?_
    refine tk_getA hC hK hw hT hinX11 kC_at0 (by decide) rfl 0 (by decide) (List.mem_of_getElem? (i := 1) rfl) rfl rfl dX11_end_6 ?_
    refine tk_geti hC hK hw hT hinX6 kC_at1 (by decide) rfl 2 (by decide) (List.mem_of_getElem? (i := 2) rfl) rfl rfl dX11_end_9 (fun x3 c4 rx3 tx3 => ?_)
    refine lv_icmp_le (tgt := 17) hx hb dX11_end_12 (by decide) (fun c5 => ?_) (fun c5 => ?_)
    · have c5 : a1.toInt ≤ x3.toInt := wk_le.mp c5
      refine lv_aload_n hx hb dX11_end_17 rfl (lv_at hl 0 rfl) ?_
      refine tk_getA hC hK hw hT hinX11 kC_at0 (by decide) rfl 0 (by decide) (List.mem_of_getElem? (i := 1) rfl) rfl rfl dX11_end_18 ?_
      refine lv_iload_n hx hb dX11_end_21 rfl (lv_at hl 1 rfl) ?_
      refine tk_puti hC hK hw hT hinX6 tyX6_ok nmX6 kC_at1 (by decide) rfl rfl 2 (by decide) (List.mem_of_getElem? (i := 2) rfl) rfl rfl rfl rfl (show 0 ≤ a1.toInt by omega) (show a1.toInt ≤ 400 by omega) dX11_end_22 (fun H locs w6 hw hT k8 c7 => ?_)
      have hF := hF.put kC_at1 (k := 2) (by decide) k8
      refine lv_iload_n hx hb dX11_end_25 rfl (lv_at hl 1 rfl) ?_
      exact tk_iret hC hr hlocks hK ⟨hT, hF, (Or.inl ⟨(show 0 ≤ a1.toInt by omega), (show a1.toInt ≤ 400 by omega), (show 0 ≤ a1.toInt by omega), (show a1.toInt ≤ 400 by omega)⟩)⟩ hw dX11_end_26
    · have c5 : x3.toInt < a1.toInt := wk_leF c5
      exact J15  s.heap locs ls w0   hw hT hF  (lv_sub hl [0, 1] rfl)
abbrev P_X6_isFaulty_1 (ad : Nat → Nat) (cy : Nat → ClassId) (B : Int) (qr : Nat) (s1 : Int)  (w0 : va_W) : Int32 → va_W → Prop := fun r u => TW ksC ad cy B qr s1 u ∧ FE ksC ([] : List (Nat × Nat × Nat)) w0 u ∧ ((r = 0 ∧ (∃ y : Int32, gi u 1 4 = y ∧ 0 ≤ y.toInt ∧ y.toInt ≤ 0)) ∨ (r = 1 ∧ (∃ y : Int32, gi u 1 4 = y ∧ 1 ≤ y.toInt ∧ y.toInt ≤ 3205)))
set_option maxHeartbeats 4000000 in
set_option maxRecDepth 100000 in
theorem k_X6_isFaulty_1 (l : Launch) (adK adV : Nat → Nat) (dC : Nat → ClassId) (dI : Nat → Nat → Nat) (cy : Nat → ClassId) (ad : Nat → Nat) (B : Int) (hB0 : 2147483648 ≤ B) (hB1 : B ≤ 1152921504606846976) (qr : Nat) (s1 : Int)   (w0 : va_W) (sz : Nat) (hT : TW ksC ad cy B qr s1 w0)  : Met l yX6_isFaulty wsX6_isFaulty ({ frames := 1, cells := 0, slots := 0, locals := 12 }) (va_Pc [.ref (ad 1)] (wpreS adK adV dC dI cy sz w0)) (va_Qi (P_X6_isFaulty_1 ad cy B qr s1  w0) (fun u : va_W => wpost dC dI cy (va_A w0 sz) u) (va_A w0 sz)) 0 0 (va_A w0 sz) := by
  refine Met.ofW (cc := cX6_isFaulty) (maxL := 1) (ret := (some .boolean)) (by decide) rfl ?_
  intro p e s m args below meth c s₁ Bk hml hv
  obtain ⟨rfl, ⟨hsz, hP, hK, hD0⟩, hE, hSR⟩ := hv
  have hx := Bk.exec
  have hb := Bk.bytes
  have hr := Bk.returns
  have hlocks := Bk.notSynchronized
  have hC : CallFix p m c cX6_isFaulty 1 s _ wsX6_isFaulty RX6 := ⟨hx, hb, hml, findClass_of_methodNamed Bk.named, atoms_spec (ws := wsX6_isFaulty) Bk.pre⟩
  subst hsz
  have hD := hD0.self (sz := s.heap.size)
  generalize hAe : va_A w0 s.heap.size = A at hD hE ⊢
  have hA : ∀ q : Nat, s.heap.size ≤ q → A q := fun q h => by rw [← hAe]; exact Or.inr h
  have hw : Wd dC dI A s.heap s.heap [] w0 := ⟨hP, hD, va_S.rf⟩
  have hF : FE ksC ([] : List (Nat × Nat × Nat)) w0 w0 := FE.rf
  have hl := lv_entry ([.ref (ad 1)]) (n := 1) (Nat.le_of_ble_eq_true rfl)
  rw [lg_entry_eq]
  generalize (lg_sl ([.ref (ad 1)]) ++ List.replicate (1 - (lg_sl ([.ref (ad 1)])).length) Slot.unset).toArray = ls at hl ⊢
  have hl : lv_has ls 1 [(0, .ref (ad 1))] := hl
  generalize hloc : ([] : List Loc) = locs at hw ⊢
  have hinX6 : ∀ w ∈ u_ws RX6 TX6 5, w ∈ wsX6_isFaulty := fun _ h => List.mem_cons_of_mem _ (List.mem_append_right _ (h))
  refine lv_aload_n hx hb dX6_isFaulty_0 rfl (lv_at hl 0 rfl) ?_
  refine tk_geti hC hK hw hT hinX6 kC_at1 (by decide) rfl 4 (by decide) (List.mem_of_getElem? (i := 1) rfl) rfl rfl dX6_isFaulty_1 (fun x1 c2 rx1 tx1 => ?_)
  refine lv_if_eq (tgt := 11) hx hb dX6_isFaulty_4 (by decide) (fun c3 => ?_) (fun c3 => ?_)
  · have c3 : x1.toInt = (0 : Int) := wk_eq.mp c3
    refine lv_iconst (v := 0) hx hb dX6_isFaulty_11 (by decide) ?_
    exact tk_zret hC hr rfl hlocks hK ⟨hT, hF, (Or.inl ⟨rfl, ⟨x1, c2, (show 0 ≤ x1.toInt by omega), (show x1.toInt ≤ 0 by omega)⟩⟩)⟩ hw dX6_isFaulty_12
  · have c3 : ¬ x1.toInt = (0 : Int) := wk_eqF c3
    refine lv_iconst (v := 1) hx hb dX6_isFaulty_7 (by decide) ?_
    refine lv_goto (tgt := 12) hx hb dX6_isFaulty_8 (by decide) ?_
    exact tk_zret hC hr rfl hlocks hK ⟨hT, hF, (Or.inr ⟨rfl, ⟨x1, c2, (show 1 ≤ x1.toInt by omega), (show x1.toInt ≤ 3205 by omega)⟩⟩)⟩ hw dX6_isFaulty_12
abbrev P_X6_lookBehindBlanks_1 (ad : Nat → Nat) (cy : Nat → ClassId) (B : Int) (qr : Nat) (s1 : Int)  (w0 : va_W) : Int32 → va_W → Prop := fun r u => TW ksC ad cy B qr s1 u ∧ FE ksC [(6, 1, 1), (6, 3, 3)] w0 u ∧ ((0 ≤ r.toInt ∧ r.toInt ≤ 255 ∧ (∃ y : Int32, gi u 1 1 = y ∧ 0 ≤ y.toInt ∧ y.toInt ≤ 399) ∧ (∃ y : Int32, gi u 1 2 = y ∧ 1 ≤ y.toInt ∧ y.toInt ≤ 400) ∧ (∃ y : Int32, gi u 1 3 = y ∧ 0 ≤ y.toInt ∧ y.toInt ≤ 399)) ∨ (r = (-1)))
set_option maxHeartbeats 4000000 in
set_option maxRecDepth 100000 in
theorem k_X6_lookBehindBlanks_1 (l : Launch) (adK adV : Nat → Nat) (dC : Nat → ClassId) (dI : Nat → Nat → Nat) (cy : Nat → ClassId) (ad : Nat → Nat) (B : Int) (hB0 : 2147483648 ≤ B) (hB1 : B ≤ 1152921504606846976) (qr : Nat) (s1 : Int)   (w0 : va_W) (sz : Nat) (hT : TW ksC ad cy B qr s1 w0)  : Met l yX6_lookBehindBlanks wsX6_lookBehindBlanks ({ frames := 1, cells := 0, slots := 0, locals := 12 }) (va_Pc [.ref (ad 1)] (wpreS adK adV dC dI cy sz w0)) (va_Qi (P_X6_lookBehindBlanks_1 ad cy B qr s1  w0) (fun u : va_W => wpost dC dI cy (va_A w0 sz) u) (va_A w0 sz)) 0 0 (va_A w0 sz) := by
  refine Met.ofW (cc := cX6_lookBehindBlanks) (maxL := 1) (ret := (some .int)) (by decide) rfl ?_
  intro p e s m args below meth c s₁ Bk hml hv
  obtain ⟨rfl, ⟨hsz, hP, hK, hD0⟩, hE, hSR⟩ := hv
  have hx := Bk.exec
  have hb := Bk.bytes
  have hr := Bk.returns
  have hlocks := Bk.notSynchronized
  have hC : CallFix p m c cX6_lookBehindBlanks 1 s _ wsX6_lookBehindBlanks RX6 := ⟨hx, hb, hml, findClass_of_methodNamed Bk.named, atoms_spec (ws := wsX6_lookBehindBlanks) Bk.pre⟩
  subst hsz
  have hD := hD0.self (sz := s.heap.size)
  generalize hAe : va_A w0 s.heap.size = A at hD hE ⊢
  have hA : ∀ q : Nat, s.heap.size ≤ q → A q := fun q h => by rw [← hAe]; exact Or.inr h
  have hw : Wd dC dI A s.heap s.heap [] w0 := ⟨hP, hD, va_S.rf⟩
  have hF : FE ksC [(6, 1, 1), (6, 3, 3)] w0 w0 := FE.rf
  have hl := lv_entry ([.ref (ad 1)]) (n := 1) (Nat.le_of_ble_eq_true rfl)
  rw [lg_entry_eq]
  generalize (lg_sl ([.ref (ad 1)]) ++ List.replicate (1 - (lg_sl ([.ref (ad 1)])).length) Slot.unset).toArray = ls at hl ⊢
  have hl : lv_has ls 1 [(0, .ref (ad 1))] := hl
  generalize hloc : ([] : List Loc) = locs at hw ⊢
  have hinX6 : ∀ w ∈ u_ws RX6 TX6 5, w ∈ wsX6_lookBehindBlanks := fun _ h => List.mem_cons_of_mem _ (List.mem_append_right _ (h))
  have J38 : ∀ (f38_1_1 : Int32) (f38_1_2 : Int32) (H : Heap) (locs : List Loc) (ls : Array Slot) (w1 : va_W), 0 ≤ f38_1_1.toInt → f38_1_1.toInt ≤ 400 → 0 ≤ f38_1_2.toInt → f38_1_2.toInt ≤ 400 → Wd dC dI A s.heap H locs w1 → TW ksC ad cy B qr s1 w1 → FE ksC [(6, 1, 1), (6, 3, 3)] w0 w1 → gi w1 1 1 = f38_1_1 → gi w1 1 2 = f38_1_2 → lv_has ls 1 [(0, .ref (ad 1))] → W p l e ({ frames := 1, cells := 0, slots := 0, locals := 12 }) s m (List.toArray [.ref (ad 1)]) below meth c H locs 0 0 (MQ below (va_Qi (P_X6_lookBehindBlanks_1 ad cy B qr s1  w0) (fun u : va_W => wpost dC dI cy A u) A) (List.toArray [.ref (ad 1)]) s 0 0 A) (F0 m 38 ls []) := by
    intro f38_1_1 f38_1_2 H locs ls w1 r2 t3 r5 t6 hw hT hF c4 c7 hl
    refine lv_aload_n hx hb dX6_lookBehindBlanks_38 rfl (lv_at hl 0 rfl) ?_
    refine lv_aload_n hx hb dX6_lookBehindBlanks_39 rfl (lv_at hl 0 rfl) ?_
    refine tk_geti hC hK hw hT hinX6 kC_at1 (by decide) rfl 1 (by decide) (List.mem_of_getElem? (i := 1) rfl) rfl rfl dX6_lookBehindBlanks_40 (fun x8 c9 rx8 tx8 => ?_)
    refine wk_top f38_1_1 (c9.symm.trans c4) ?_
    refine tk_puti hC hK hw hT hinX6 tyX6_ok nmX6 kC_at1 (by decide) rfl rfl 3 (by decide) (List.mem_of_getElem? (i := 4) rfl) rfl rfl rfl rfl (show 0 ≤ f38_1_1.toInt by omega) (show f38_1_1.toInt ≤ 400 by omega) dX6_lookBehindBlanks_43 (fun H locs w10 hw hT k12 c11 => ?_)
    have hF := hF.put kC_at1 (k := 3) (by decide) k12
    have c13 := k12.gi (Or.inr (by decide)) c4
    have c14 := k12.gi (Or.inr (by decide)) c7
    refine lv_aload_n hx hb dX6_lookBehindBlanks_46 rfl (lv_at hl 0 rfl) ?_
    refine tk_geti hC hK hw hT hinX6 kC_at1 (by decide) rfl 1 (by decide) (List.mem_of_getElem? (i := 1) rfl) rfl rfl dX6_lookBehindBlanks_47 (fun x15 c16 rx15 tx15 => ?_)
    refine wk_top f38_1_1 (c16.symm.trans c13) ?_
    refine lv_aload_n hx hb dX6_lookBehindBlanks_50 rfl (lv_at hl 0 rfl) ?_
    refine tk_geti hC hK hw hT hinX6 kC_at1 (by decide) rfl 2 (by decide) (List.mem_of_getElem? (i := 2) rfl) rfl rfl dX6_lookBehindBlanks_51 (fun x17 c18 rx17 tx17 => ?_)
    refine wk_top f38_1_2 (c18.symm.trans c14) ?_
    refine lv_icmp_ge (tgt := 69) hx hb dX6_lookBehindBlanks_54 (by decide) (fun c19 => ?_) (fun c19 => ?_)
    · have c19 : f38_1_2.toInt ≤ f38_1_1.toInt := wk_le.mp c19
      refine lv_iconst (v := (-1)) hx hb dX6_lookBehindBlanks_69 (by decide) ?_
      exact tk_iret hC hr hlocks hK ⟨hT, hF, (Or.inr rfl)⟩ hw dX6_lookBehindBlanks_70
    · have c19 : f38_1_1.toInt < f38_1_2.toInt := wk_leF c19
      refine lv_aload_n hx hb dX6_lookBehindBlanks_57 rfl (lv_at hl 0 rfl) ?_
      refine tk_getA hC hK hw hT hinX6 kC_at1 (by decide) rfl 0 (by decide) (List.mem_of_getElem? (i := 3) rfl) rfl rfl dX6_lookBehindBlanks_58 ?_
      refine lv_aload_n hx hb dX6_lookBehindBlanks_61 rfl (lv_at hl 0 rfl) ?_
      refine tk_geti hC hK hw hT hinX6 kC_at1 (by decide) rfl 1 (by decide) (List.mem_of_getElem? (i := 1) rfl) rfl rfl dX6_lookBehindBlanks_62 (fun x20 c21 rx20 tx20 => ?_)
      refine wk_top f38_1_1 (c21.symm.trans c13) ?_
      refine tk_iald hC hK hw hT kC_at2 rfl rfl (show 0 ≤ f38_1_1.toInt by omega) (show f38_1_1.toInt < 400 by omega) dX6_lookBehindBlanks_65 (fun x22 c23 rx22 tx22 => ?_)
      refine lv_goto (tgt := 70) hx hb dX6_lookBehindBlanks_66 (by decide) ?_
      exact tk_iret hC hr hlocks hK ⟨hT, hF, (Or.inl ⟨(show 0 ≤ x22.toInt by omega), (show x22.toInt ≤ 255 by omega), ⟨f38_1_1, c13, (show 0 ≤ f38_1_1.toInt by omega), (show f38_1_1.toInt ≤ 399 by omega)⟩, ⟨f38_1_2, c14, (show 1 ≤ f38_1_2.toInt by omega), (show f38_1_2.toInt ≤ 400 by omega)⟩, ⟨f38_1_1, c11, (show 0 ≤ f38_1_1.toInt by omega), (show f38_1_1.toInt ≤ 399 by omega)⟩⟩)⟩ hw dX6_lookBehindBlanks_70
  have L0 : ∀ (n0 : Nat) (f0_1_1 : Int32) (f0_1_2 : Int32) (H : Heap) (locs : List Loc) (ls : Array Slot) (w24 : va_W), 1 ≤ f0_1_1.toInt → f0_1_1.toInt ≤ 400 → 1 ≤ f0_1_2.toInt → f0_1_2.toInt ≤ 400 → (400 - f0_1_1.toInt).toNat < n0 → Wd dC dI A s.heap H locs w24 → TW ksC ad cy B qr s1 w24 → FE ksC [(6, 1, 1), (6, 3, 3)] w0 w24 → gi w24 1 1 = f0_1_1 → gi w24 1 2 = f0_1_2 → lv_has ls 1 [(0, .ref (ad 1))] → W p l e ({ frames := 1, cells := 0, slots := 0, locals := 12 }) s m (List.toArray [.ref (ad 1)]) below meth c H locs 0 0 (MQ below (va_Qi (P_X6_lookBehindBlanks_1 ad cy B qr s1  w0) (fun u : va_W => wpost dC dI cy A u) A) (List.toArray [.ref (ad 1)]) s 0 0 A) (F0 m 0 ls []) := by
    intro n0
    induction n0 with
    | zero => intro f0_1_1 f0_1_2 H locs ls w24 r25 t26 r28 t29 hm0 hw hT hF c27 c30 hl; omega
    | succ n0 ih0 =>
      intro f0_1_1 f0_1_2 H locs ls w24 r25 t26 r28 t29 hm0 hw hT hF c27 c30 hl
      refine lv_aload_n hx hb dX6_lookBehindBlanks_0 rfl (lv_at hl 0 rfl) ?_
      refine tk_geti hC hK hw hT hinX6 kC_at1 (by decide) rfl 1 (by decide) (List.mem_of_getElem? (i := 1) rfl) rfl rfl dX6_lookBehindBlanks_1 (fun x31 c32 rx31 tx31 => ?_)
      refine wk_top f0_1_1 (c32.symm.trans c27) ?_
      refine lv_aload_n hx hb dX6_lookBehindBlanks_4 rfl (lv_at hl 0 rfl) ?_
      refine tk_geti hC hK hw hT hinX6 kC_at1 (by decide) rfl 2 (by decide) (List.mem_of_getElem? (i := 2) rfl) rfl rfl dX6_lookBehindBlanks_5 (fun x33 c34 rx33 tx33 => ?_)
      refine wk_top f0_1_2 (c34.symm.trans c30) ?_
      refine lv_icmp_ge (tgt := 38) hx hb dX6_lookBehindBlanks_8 (by decide) (fun c35 => ?_) (fun c35 => ?_)
      · have c35 : f0_1_2.toInt ≤ f0_1_1.toInt := wk_le.mp c35
        exact J38 f0_1_1 f0_1_2 H locs ls w24 (show 0 ≤ f0_1_1.toInt by omega) (show f0_1_1.toInt ≤ 400 by omega) (show 0 ≤ f0_1_2.toInt by omega) (show f0_1_2.toInt ≤ 400 by omega)  hw hT hF c27 c30 (lv_sub hl [0] rfl)
      · have c35 : f0_1_1.toInt < f0_1_2.toInt := wk_leF c35
        refine lv_aload_n hx hb dX6_lookBehindBlanks_11 rfl (lv_at hl 0 rfl) ?_
        refine tk_getA hC hK hw hT hinX6 kC_at1 (by decide) rfl 0 (by decide) (List.mem_of_getElem? (i := 3) rfl) rfl rfl dX6_lookBehindBlanks_12 ?_
        refine lv_aload_n hx hb dX6_lookBehindBlanks_15 rfl (lv_at hl 0 rfl) ?_
        refine tk_geti hC hK hw hT hinX6 kC_at1 (by decide) rfl 1 (by decide) (List.mem_of_getElem? (i := 1) rfl) rfl rfl dX6_lookBehindBlanks_16 (fun x36 c37 rx36 tx36 => ?_)
        refine wk_top f0_1_1 (c37.symm.trans c27) ?_
        refine tk_iald hC hK hw hT kC_at2 rfl rfl (show 0 ≤ f0_1_1.toInt by omega) (show f0_1_1.toInt < 400 by omega) dX6_lookBehindBlanks_19 (fun x38 c39 rx38 tx38 => ?_)
        refine lv_bipush (v := 32) hx hb dX6_lookBehindBlanks_20 (by decide) ?_
        refine lv_icmp_ne (tgt := 38) hx hb dX6_lookBehindBlanks_22 (by decide) (fun c40 => ?_) (fun c40 => ?_)
        · have c40 : ¬ x38.toInt = (32 : Int) := wk_eqF c40
          exact J38 f0_1_1 f0_1_2 H locs ls w24 (show 0 ≤ f0_1_1.toInt by omega) (show f0_1_1.toInt ≤ 400 by omega) (show 0 ≤ f0_1_2.toInt by omega) (show f0_1_2.toInt ≤ 400 by omega)  hw hT hF c27 c30 (lv_sub hl [0] rfl)
        · have c40 : x38.toInt = (32 : Int) := wk_eq.mp c40
          refine lv_aload_n hx hb dX6_lookBehindBlanks_25 rfl (lv_at hl 0 rfl) ?_
          refine lv_dup hx hb dX6_lookBehindBlanks_26 rfl ?_
          refine tk_geti hC hK hw hT hinX6 kC_at1 (by decide) rfl 1 (by decide) (List.mem_of_getElem? (i := 1) rfl) rfl rfl dX6_lookBehindBlanks_27 (fun x41 c42 rx41 tx41 => ?_)
          refine wk_top f0_1_1 (c42.symm.trans c27) ?_
          refine lv_iconst (v := 1) hx hb dX6_lookBehindBlanks_30 (by decide) ?_
          refine lv_iadd hx hb dX6_lookBehindBlanks_31 ?_
          refine lv_topi (fun x43 ex43 => ?_)
          have ex43 : x43.toInt = f0_1_1.toInt + (1 : Int) := by rw [ex43]; exact wk_add (show (-2147483648) ≤ f0_1_1.toInt + (1 : Int) by omega) (show f0_1_1.toInt + (1 : Int) ≤ 2147483647 by omega)
          refine tk_puti hC hK hw hT hinX6 tyX6_ok nmX6 kC_at1 (by decide) rfl rfl 1 (by decide) (List.mem_of_getElem? (i := 1) rfl) rfl rfl rfl rfl (show 0 ≤ x43.toInt by omega) (show x43.toInt ≤ 400 by omega) dX6_lookBehindBlanks_32 (fun H locs w44 hw hT k46 c45 => ?_)
          have hF := hF.put kC_at1 (k := 1) (by decide) k46
          have c47 := k46.gi (Or.inr (by decide)) c30
          refine lv_goto (tgt := 0) hx hb dX6_lookBehindBlanks_35 (by decide) ?_
          exact ih0 x43 f0_1_2 H locs ls w44 (show 1 ≤ x43.toInt by omega) (show x43.toInt ≤ 400 by omega) (show 1 ≤ f0_1_2.toInt by omega) (show f0_1_2.toInt ≤ 400 by omega) (show (400 - x43.toInt).toNat < n0 by omega) hw hT hF c45 c47 (lv_sub hl [0] rfl)
  refine lv_aload_n hx hb dX6_lookBehindBlanks_0 rfl (lv_at hl 0 rfl) ?_
  refine tk_geti hC hK hw hT hinX6 kC_at1 (by decide) rfl 1 (by decide) (List.mem_of_getElem? (i := 1) rfl) rfl rfl dX6_lookBehindBlanks_1 (fun x48 c49 rx48 tx48 => ?_)
  refine lv_aload_n hx hb dX6_lookBehindBlanks_4 rfl (lv_at hl 0 rfl) ?_
  refine tk_geti hC hK hw hT hinX6 kC_at1 (by decide) rfl 2 (by decide) (List.mem_of_getElem? (i := 2) rfl) rfl rfl dX6_lookBehindBlanks_5 (fun x50 c51 rx50 tx50 => ?_)
  refine lv_icmp_ge (tgt := 38) hx hb dX6_lookBehindBlanks_8 (by decide) (fun c52 => ?_) (fun c52 => ?_)
  · have c52 : x50.toInt ≤ x48.toInt := wk_le.mp c52
    exact J38 x48 x50 s.heap locs ls w0 (show 0 ≤ x48.toInt by omega) (show x48.toInt ≤ 400 by omega) (show 0 ≤ x50.toInt by omega) (show x50.toInt ≤ 400 by omega)  hw hT hF c49 c51 (lv_sub hl [0] rfl)
  · have c52 : x48.toInt < x50.toInt := wk_leF c52
    refine lv_aload_n hx hb dX6_lookBehindBlanks_11 rfl (lv_at hl 0 rfl) ?_
    refine tk_getA hC hK hw hT hinX6 kC_at1 (by decide) rfl 0 (by decide) (List.mem_of_getElem? (i := 3) rfl) rfl rfl dX6_lookBehindBlanks_12 ?_
    refine lv_aload_n hx hb dX6_lookBehindBlanks_15 rfl (lv_at hl 0 rfl) ?_
    refine tk_geti hC hK hw hT hinX6 kC_at1 (by decide) rfl 1 (by decide) (List.mem_of_getElem? (i := 1) rfl) rfl rfl dX6_lookBehindBlanks_16 (fun x53 c54 rx53 tx53 => ?_)
    refine wk_top x48 (c54.symm.trans c49) ?_
    refine tk_iald hC hK hw hT kC_at2 rfl rfl (show 0 ≤ x48.toInt by omega) (show x48.toInt < 400 by omega) dX6_lookBehindBlanks_19 (fun x55 c56 rx55 tx55 => ?_)
    refine lv_bipush (v := 32) hx hb dX6_lookBehindBlanks_20 (by decide) ?_
    refine lv_icmp_ne (tgt := 38) hx hb dX6_lookBehindBlanks_22 (by decide) (fun c57 => ?_) (fun c57 => ?_)
    · have c57 : ¬ x55.toInt = (32 : Int) := wk_eqF c57
      exact J38 x48 x50 s.heap locs ls w0 (show 0 ≤ x48.toInt by omega) (show x48.toInt ≤ 400 by omega) (show 0 ≤ x50.toInt by omega) (show x50.toInt ≤ 400 by omega)  hw hT hF c49 c51 (lv_sub hl [0] rfl)
    · have c57 : x55.toInt = (32 : Int) := wk_eq.mp c57
      refine lv_aload_n hx hb dX6_lookBehindBlanks_25 rfl (lv_at hl 0 rfl) ?_
      refine lv_dup hx hb dX6_lookBehindBlanks_26 rfl ?_
      refine tk_geti hC hK hw hT hinX6 kC_at1 (by decide) rfl 1 (by decide) (List.mem_of_getElem? (i := 1) rfl) rfl rfl dX6_lookBehindBlanks_27 (fun x58 c59 rx58 tx58 => ?_)
      refine wk_top x48 (c59.symm.trans c49) ?_
      refine lv_iconst (v := 1) hx hb dX6_lookBehindBlanks_30 (by decide) ?_
      refine lv_iadd hx hb dX6_lookBehindBlanks_31 ?_
      refine lv_topi (fun x60 ex60 => ?_)
      have ex60 : x60.toInt = x48.toInt + (1 : Int) := by rw [ex60]; exact wk_add (show (-2147483648) ≤ x48.toInt + (1 : Int) by omega) (show x48.toInt + (1 : Int) ≤ 2147483647 by omega)
      refine tk_puti hC hK hw hT hinX6 tyX6_ok nmX6 kC_at1 (by decide) rfl rfl 1 (by decide) (List.mem_of_getElem? (i := 1) rfl) rfl rfl rfl rfl (show 0 ≤ x60.toInt by omega) (show x60.toInt ≤ 400 by omega) dX6_lookBehindBlanks_32 (fun H locs w61 hw hT k63 c62 => ?_)
      have hF := hF.put kC_at1 (k := 1) (by decide) k63
      have c64 := k63.gi (Or.inr (by decide)) c51
      refine lv_goto (tgt := 0) hx hb dX6_lookBehindBlanks_35 (by decide) ?_
      exact L0 ((400 - x60.toInt).toNat + 1) x60 x50 H locs ls w61 (show 1 ≤ x60.toInt by omega) (show x60.toInt ≤ 400 by omega) (show 1 ≤ x50.toInt by omega) (show x50.toInt ≤ 400 by omega) (Nat.lt_succ_self _) hw hT hF c62 c64 (lv_sub hl [0] rfl)
abbrev P_X6_pass_1 (ad : Nat → Nat) (cy : Nat → ClassId) (B : Int) (qr : Nat) (s1 : Int)  (w0 : va_W) : va_W → Prop := fun u => TW ksC ad cy B qr s1 u ∧ FE ksC [(6, 1, 1)] w0 u ∧ ((True))
set_option maxHeartbeats 4000000 in
set_option maxRecDepth 100000 in
theorem k_X6_pass_1 (l : Launch) (adK adV : Nat → Nat) (dC : Nat → ClassId) (dI : Nat → Nat → Nat) (cy : Nat → ClassId) (ad : Nat → Nat) (B : Int) (hB0 : 2147483648 ≤ B) (hB1 : B ≤ 1152921504606846976) (qr : Nat) (s1 : Int)   (w0 : va_W) (sz : Nat) (hT : TW ksC ad cy B qr s1 w0)  : Met l yX6_pass wsX6_pass ({ frames := 1, cells := 0, slots := 0, locals := 12 }) (va_Pc [.ref (ad 1)] (wpreS adK adV dC dI cy sz w0)) (va_Qv (P_X6_pass_1 ad cy B qr s1  w0) (fun u : va_W => wpost dC dI cy (va_A w0 sz) u) (va_A w0 sz)) 0 0 (va_A w0 sz) := by
  refine Met.ofW (cc := cX6_pass) (maxL := 1) (ret := none) (by decide) rfl ?_
  intro p e s m args below meth c s₁ Bk hml hv
  obtain ⟨rfl, ⟨hsz, hP, hK, hD0⟩, hE, hSR⟩ := hv
  have hx := Bk.exec
  have hb := Bk.bytes
  have hr := Bk.returns
  have hlocks := Bk.notSynchronized
  have hC : CallFix p m c cX6_pass 1 s _ wsX6_pass RX6 := ⟨hx, hb, hml, findClass_of_methodNamed Bk.named, atoms_spec (ws := wsX6_pass) Bk.pre⟩
  subst hsz
  have hD := hD0.self (sz := s.heap.size)
  generalize hAe : va_A w0 s.heap.size = A at hD hE ⊢
  have hA : ∀ q : Nat, s.heap.size ≤ q → A q := fun q h => by rw [← hAe]; exact Or.inr h
  have hw : Wd dC dI A s.heap s.heap [] w0 := ⟨hP, hD, va_S.rf⟩
  have hF : FE ksC [(6, 1, 1)] w0 w0 := FE.rf
  have hl := lv_entry ([.ref (ad 1)]) (n := 1) (Nat.le_of_ble_eq_true rfl)
  rw [lg_entry_eq]
  generalize (lg_sl ([.ref (ad 1)]) ++ List.replicate (1 - (lg_sl ([.ref (ad 1)])).length) Slot.unset).toArray = ls at hl ⊢
  have hl : lv_has ls 1 [(0, .ref (ad 1))] := hl
  generalize hloc : ([] : List Loc) = locs at hw ⊢
  have hinX6 : ∀ w ∈ u_ws RX6 TX6 5, w ∈ wsX6_pass := fun _ h => List.mem_cons_of_mem _ (List.mem_append_right _ (h))
  have J21 : ∀ (f21_1_1 : Int32) (f21_1_2 : Int32) (H : Heap) (locs : List Loc) (ls : Array Slot) (w1 : va_W), 0 ≤ f21_1_1.toInt → f21_1_1.toInt ≤ 400 → 0 ≤ f21_1_2.toInt → f21_1_2.toInt ≤ 400 → Wd dC dI A s.heap H locs w1 → TW ksC ad cy B qr s1 w1 → FE ksC [(6, 1, 1)] w0 w1 → gi w1 1 1 = f21_1_1 → gi w1 1 2 = f21_1_2 → lv_has ls 1 [(0, .ref (ad 1))] → W p l e ({ frames := 1, cells := 0, slots := 0, locals := 12 }) s m (List.toArray [.ref (ad 1)]) below meth c H locs 0 0 (MQ below (va_Qv (P_X6_pass_1 ad cy B qr s1  w0) (fun u : va_W => wpost dC dI cy A u) A) (List.toArray [.ref (ad 1)]) s 0 0 A) (F0 m 21 ls []) := by
    intro f21_1_1 f21_1_2 H locs ls w1 r2 t3 r5 t6 hw hT hF c4 c7 hl
    exact tk_vret hC hr hlocks hK ⟨hT, hF, trivial⟩ hw dX6_pass_21
  refine lv_aload_n hx hb dX6_pass_0 rfl (lv_at hl 0 rfl) ?_
  refine tk_geti hC hK hw hT hinX6 kC_at1 (by decide) rfl 1 (by decide) (List.mem_of_getElem? (i := 1) rfl) rfl rfl dX6_pass_1 (fun x8 c9 rx8 tx8 => ?_)
  refine lv_aload_n hx hb dX6_pass_4 rfl (lv_at hl 0 rfl) ?_
  refine tk_geti hC hK hw hT hinX6 kC_at1 (by decide) rfl 2 (by decide) (List.mem_of_getElem? (i := 2) rfl) rfl rfl dX6_pass_5 (fun x10 c11 rx10 tx10 => ?_)
  refine lv_icmp_ge (tgt := 21) hx hb dX6_pass_8 (by decide) (fun c12 => ?_) (fun c12 => ?_)
  · have c12 : x10.toInt ≤ x8.toInt := wk_le.mp c12
    exact J21 x8 x10 s.heap locs ls w0 (show 0 ≤ x8.toInt by omega) (show x8.toInt ≤ 400 by omega) (show 0 ≤ x10.toInt by omega) (show x10.toInt ≤ 400 by omega)  hw hT hF c9 c11 (lv_sub hl [0] rfl)
  · have c12 : x8.toInt < x10.toInt := wk_leF c12
    refine lv_aload_n hx hb dX6_pass_11 rfl (lv_at hl 0 rfl) ?_
    refine lv_dup hx hb dX6_pass_12 rfl ?_
    refine tk_geti hC hK hw hT hinX6 kC_at1 (by decide) rfl 1 (by decide) (List.mem_of_getElem? (i := 1) rfl) rfl rfl dX6_pass_13 (fun x13 c14 rx13 tx13 => ?_)
    refine wk_top x8 (c14.symm.trans c9) ?_
    refine lv_iconst (v := 1) hx hb dX6_pass_16 (by decide) ?_
    refine lv_iadd hx hb dX6_pass_17 ?_
    refine lv_topi (fun x15 ex15 => ?_)
    have ex15 : x15.toInt = x8.toInt + (1 : Int) := by rw [ex15]; exact wk_add (show (-2147483648) ≤ x8.toInt + (1 : Int) by omega) (show x8.toInt + (1 : Int) ≤ 2147483647 by omega)
    refine tk_puti hC hK hw hT hinX6 tyX6_ok nmX6 kC_at1 (by decide) rfl rfl 1 (by decide) (List.mem_of_getElem? (i := 1) rfl) rfl rfl rfl rfl (show 0 ≤ x15.toInt by omega) (show x15.toInt ≤ 400 by omega) dX6_pass_18 (fun H locs w16 hw hT k18 c17 => ?_)
    have hF := hF.put kC_at1 (k := 1) (by decide) k18
    have c19 := k18.gi (Or.inr (by decide)) c11
    exact J21 x15 x10 H locs ls w16 (show 0 ≤ x15.toInt by omega) (show x15.toInt ≤ 400 by omega) (show 0 ≤ x10.toInt by omega) (show x10.toInt ≤ 400 by omega)  hw hT hF c17 c19 (lv_sub hl [0] rfl)
abbrev P_X6_takeByte_1 (ad : Nat → Nat) (cy : Nat → ClassId) (B : Int) (qr : Nat) (s1 : Int)  (w0 : va_W) : Int32 → va_W → Prop := fun r u => TW ksC ad cy B qr s1 u ∧ FE ksC [(6, 1, 1), (6, 3, 3)] w0 u ∧ ((r = 0) ∨ (r = 1 ∧ (∃ y : Int32, gi u 1 2 = y ∧ 1 ≤ y.toInt ∧ y.toInt ≤ 400) ∧ (∃ y : Int32, gi u 1 3 = y ∧ 0 ≤ y.toInt ∧ y.toInt ≤ 399)))
set_option maxHeartbeats 4000000 in
set_option maxRecDepth 100000 in
theorem k_X6_takeByte_1 (l : Launch) (adK adV : Nat → Nat) (dC : Nat → ClassId) (dI : Nat → Nat → Nat) (cy : Nat → ClassId) (ad : Nat → Nat) (B : Int) (hB0 : 2147483648 ≤ B) (hB1 : B ≤ 1152921504606846976) (qr : Nat) (s1 : Int)   (w0 : va_W) (sz : Nat) (hT : TW ksC ad cy B qr s1 w0)  : Met l yX6_takeByte wsX6_takeByte ({ frames := 2, cells := 0, slots := 0, locals := 32 }) (va_Pc [.ref (ad 1), .int 59] (wpreS adK adV dC dI cy sz w0)) (va_Qi (P_X6_takeByte_1 ad cy B qr s1  w0) (fun u : va_W => wpost dC dI cy (va_A w0 sz) u) (va_A w0 sz)) 0 0 (va_A w0 sz) := by
  refine Met.ofW (cc := cX6_takeByte) (maxL := 2) (ret := (some .boolean)) (by decide) rfl ?_
  intro p e s m args below meth c s₁ Bk hml hv
  obtain ⟨rfl, ⟨hsz, hP, hK, hD0⟩, hE, hSR⟩ := hv
  have hx := Bk.exec
  have hb := Bk.bytes
  have hr := Bk.returns
  have hlocks := Bk.notSynchronized
  have hC : CallFix p m c cX6_takeByte 2 s _ wsX6_takeByte RX6 := ⟨hx, hb, hml, findClass_of_methodNamed Bk.named, atoms_spec (ws := wsX6_takeByte) Bk.pre⟩
  subst hsz
  have hD := hD0.self (sz := s.heap.size)
  generalize hAe : va_A w0 s.heap.size = A at hD hE ⊢
  have hA : ∀ q : Nat, s.heap.size ≤ q → A q := fun q h => by rw [← hAe]; exact Or.inr h
  have hw : Wd dC dI A s.heap s.heap [] w0 := ⟨hP, hD, va_S.rf⟩
  have hF : FE ksC [(6, 1, 1), (6, 3, 3)] w0 w0 := FE.rf
  have hl := lv_entry ([.ref (ad 1), .int 59]) (n := 2) (Nat.le_of_ble_eq_true rfl)
  rw [lg_entry_eq]
  generalize (lg_sl ([.ref (ad 1), .int 59]) ++ List.replicate (2 - (lg_sl ([.ref (ad 1), .int 59])).length) Slot.unset).toArray = ls at hl ⊢
  have hl : lv_has ls 2 [(0, .ref (ad 1)), (1, .int 59)] := hl
  generalize hloc : ([] : List Loc) = locs at hw ⊢
  refine lv_aload_n hx hb dX6_takeByte_0 rfl (lv_at hl 0 rfl) ?_
  refine tk_Vi hC hK hw hT hA hE hSR kC_at1 (by decide) rfl (k_X6_lookBehindBlanks_1 l adK adV dC dI cy ad B (by omega) (by omega) qr s1    w0 s.heap.size hT ) (cwV 0 hC.2.2.2.2 gX6_takeByte_X6_lookBehindBlanks rfl rfl rfl (by decide +kernel) ⟨Nat.le_of_ble_eq_true rfl, Nat.le_of_ble_eq_true rfl⟩) rfl hl.1 rfl (Nat.le_of_ble_eq_true rfl) dX6_takeByte_1 (fun r1 w3 H locs hp2 hw => ?_)
  obtain ⟨hT, k4, hg13⟩ := hp2
  have hF := hF.tr k4 (by decide)
  rcases hg13 with ⟨g5, g6, ⟨x7, c8, rx7, tx7⟩, ⟨x9, c10, rx9, tx9⟩, ⟨x11, c12, rx11, tx11⟩⟩ | rfl
  · refine lv_iload_n hx hb dX6_takeByte_4 rfl (lv_at hl 1 rfl) ?_
    refine lv_icmp_eq (tgt := 10) hx hb dX6_takeByte_5 (by decide) (fun c14 => ?_) (fun c14 => ?_)
    · have c14 : r1.toInt = (59 : Int) := wk_eq.mp c14
      refine lv_aload_n hx hb dX6_takeByte_10 rfl (lv_at hl 0 rfl) ?_
      refine tk_Vv hC hK hw hT hA hE hSR kC_at1 (by decide) rfl (k_X6_pass_1 l adK adV dC dI cy ad B (by omega) (by omega) qr s1    w3 H.size hT ) (cwV 0 hC.2.2.2.2 gX6_takeByte_X6_pass rfl rfl rfl (by decide +kernel) ⟨Nat.le_of_ble_eq_true rfl, Nat.le_of_ble_eq_true rfl⟩) rfl hl.1 rfl (Nat.le_of_ble_eq_true rfl) dX6_takeByte_11 (fun w17 H locs hp16 hw => ?_)
      obtain ⟨hT, k18, hg19⟩ := hp16
      have hF := hF.tr k18 (by decide)
      have c20 := k18.gi kC_at1 (by decide) c10
      have c21 := k18.gi kC_at1 (by decide) c12
      clear hg19
      refine lv_iconst (v := 1) hx hb dX6_takeByte_14 (by decide) ?_
      exact tk_zret hC hr rfl hlocks hK ⟨hT, hF, (Or.inr ⟨rfl, ⟨x9, c20, (show 1 ≤ x9.toInt by omega), (show x9.toInt ≤ 400 by omega)⟩, ⟨x11, c21, (show 0 ≤ x11.toInt by omega), (show x11.toInt ≤ 399 by omega)⟩⟩)⟩ hw dX6_takeByte_15
    · have c14 : ¬ r1.toInt = (59 : Int) := wk_eqF c14
      refine lv_iconst (v := 0) hx hb dX6_takeByte_8 (by decide) ?_
      exact tk_zret hC hr rfl hlocks hK ⟨hT, hF, (Or.inl rfl)⟩ hw dX6_takeByte_9
  · refine lv_iload_n hx hb dX6_takeByte_4 rfl (lv_at hl 1 rfl) ?_
    refine lv_icmp_eq (tgt := 10) hx hb dX6_takeByte_5 (by decide) (fun c => absurd c (by decide)) (fun _ => ?_)
    refine lv_iconst (v := 0) hx hb dX6_takeByte_8 (by decide) ?_
    exact tk_zret hC hr rfl hlocks hK ⟨hT, hF, (Or.inl rfl)⟩ hw dX6_takeByte_9
abbrev P_X6_look_1 (ad : Nat → Nat) (cy : Nat → ClassId) (B : Int) (qr : Nat) (s1 : Int)  (w0 : va_W) : Int32 → va_W → Prop := fun r u => TW ksC ad cy B qr s1 u ∧ FE ksC ([] : List (Nat × Nat × Nat)) w0 u ∧ ((0 ≤ r.toInt ∧ r.toInt ≤ 255 ∧ (∃ y : Int32, gi u 1 1 = y ∧ 0 ≤ y.toInt ∧ y.toInt ≤ 399) ∧ (∃ y : Int32, gi u 1 2 = y ∧ 1 ≤ y.toInt ∧ y.toInt ≤ 400)) ∨ (r = (-1)))
set_option maxHeartbeats 4000000 in
set_option maxRecDepth 100000 in
theorem k_X6_look_1 (l : Launch) (adK adV : Nat → Nat) (dC : Nat → ClassId) (dI : Nat → Nat → Nat) (cy : Nat → ClassId) (ad : Nat → Nat) (B : Int) (hB0 : 2147483648 ≤ B) (hB1 : B ≤ 1152921504606846976) (qr : Nat) (s1 : Int)   (w0 : va_W) (sz : Nat) (hT : TW ksC ad cy B qr s1 w0)  : Met l yX6_look wsX6_look ({ frames := 1, cells := 0, slots := 0, locals := 12 }) (va_Pc [.ref (ad 1)] (wpreS adK adV dC dI cy sz w0)) (va_Qi (P_X6_look_1 ad cy B qr s1  w0) (fun u : va_W => wpost dC dI cy (va_A w0 sz) u) (va_A w0 sz)) 0 0 (va_A w0 sz) := by
  refine Met.ofW (cc := cX6_look) (maxL := 1) (ret := (some .int)) (by decide) rfl ?_
  intro p e s m args below meth c s₁ Bk hml hv
  obtain ⟨rfl, ⟨hsz, hP, hK, hD0⟩, hE, hSR⟩ := hv
  have hx := Bk.exec
  have hb := Bk.bytes
  have hr := Bk.returns
  have hlocks := Bk.notSynchronized
  have hC : CallFix p m c cX6_look 1 s _ wsX6_look RX6 := ⟨hx, hb, hml, findClass_of_methodNamed Bk.named, atoms_spec (ws := wsX6_look) Bk.pre⟩
  subst hsz
  have hD := hD0.self (sz := s.heap.size)
  generalize hAe : va_A w0 s.heap.size = A at hD hE ⊢
  have hA : ∀ q : Nat, s.heap.size ≤ q → A q := fun q h => by rw [← hAe]; exact Or.inr h
  have hw : Wd dC dI A s.heap s.heap [] w0 := ⟨hP, hD, va_S.rf⟩
  have hF : FE ksC ([] : List (Nat × Nat × Nat)) w0 w0 := FE.rf
  have hl := lv_entry ([.ref (ad 1)]) (n := 1) (Nat.le_of_ble_eq_true rfl)
  rw [lg_entry_eq]
  generalize (lg_sl ([.ref (ad 1)]) ++ List.replicate (1 - (lg_sl ([.ref (ad 1)])).length) Slot.unset).toArray = ls at hl ⊢
  have hl : lv_has ls 1 [(0, .ref (ad 1))] := hl
  generalize hloc : ([] : List Loc) = locs at hw ⊢
  have hinX6 : ∀ w ∈ u_ws RX6 TX6 5, w ∈ wsX6_look := fun _ h => List.mem_cons_of_mem _ (List.mem_append_right _ (h))
  refine lv_aload_n hx hb dX6_look_0 rfl (lv_at hl 0 rfl) ?_
  refine tk_geti hC hK hw hT hinX6 kC_at1 (by decide) rfl 1 (by decide) (List.mem_of_getElem? (i := 1) rfl) rfl rfl dX6_look_1 (fun x1 c2 rx1 tx1 => ?_)
  refine lv_aload_n hx hb dX6_look_4 rfl (lv_at hl 0 rfl) ?_
  refine tk_geti hC hK hw hT hinX6 kC_at1 (by decide) rfl 2 (by decide) (List.mem_of_getElem? (i := 2) rfl) rfl rfl dX6_look_5 (fun x3 c4 rx3 tx3 => ?_)
  refine lv_icmp_ge (tgt := 23) hx hb dX6_look_8 (by decide) (fun c5 => ?_) (fun c5 => ?_)
  · have c5 : x3.toInt ≤ x1.toInt := wk_le.mp c5
    refine lv_iconst (v := (-1)) hx hb dX6_look_23 (by decide) ?_
    exact tk_iret hC hr hlocks hK ⟨hT, hF, (Or.inr rfl)⟩ hw dX6_look_24
  · have c5 : x1.toInt < x3.toInt := wk_leF c5
    refine lv_aload_n hx hb dX6_look_11 rfl (lv_at hl 0 rfl) ?_
    refine tk_getA hC hK hw hT hinX6 kC_at1 (by decide) rfl 0 (by decide) (List.mem_of_getElem? (i := 3) rfl) rfl rfl dX6_look_12 ?_
    refine lv_aload_n hx hb dX6_look_15 rfl (lv_at hl 0 rfl) ?_
    refine tk_geti hC hK hw hT hinX6 kC_at1 (by decide) rfl 1 (by decide) (List.mem_of_getElem? (i := 1) rfl) rfl rfl dX6_look_16 (fun x6 c7 rx6 tx6 => ?_)
    refine wk_top x1 (c7.symm.trans c2) ?_
    refine tk_iald hC hK hw hT kC_at2 rfl rfl (show 0 ≤ x1.toInt by omega) (show x1.toInt < 400 by omega) dX6_look_19 (fun x8 c9 rx8 tx8 => ?_)
    refine lv_goto (tgt := 24) hx hb dX6_look_20 (by decide) ?_
    exact tk_iret hC hr hlocks hK ⟨hT, hF, (Or.inl ⟨(show 0 ≤ x8.toInt by omega), (show x8.toInt ≤ 255 by omega), ⟨x1, c2, (show 0 ≤ x1.toInt by omega), (show x1.toInt ≤ 399 by omega)⟩, ⟨x3, c4, (show 1 ≤ x3.toInt by omega), (show x3.toInt ≤ 400 by omega)⟩⟩)⟩ hw dX6_look_24
abbrev P_X6_blame_1 (ad : Nat → Nat) (cy : Nat → ClassId) (B : Int) (qr : Nat) (s1 : Int) (a1 : Int32) (a2 : Int32) (w0 : va_W) : va_W → Prop := fun u => TW ksC ad cy B qr s1 u ∧ FE ksC [(6, 4, 4)] w0 u ∧ (((∃ y : Int32, gi u 1 4 = y ∧ 1 ≤ y.toInt ∧ y.toInt ≤ 3205)))
set_option maxHeartbeats 4000000 in
set_option maxRecDepth 100000 in
theorem k_X6_blame_1 (l : Launch) (adK adV : Nat → Nat) (dC : Nat → ClassId) (dI : Nat → Nat → Nat) (cy : Nat → ClassId) (ad : Nat → Nat) (B : Int) (hB0 : 2147483648 ≤ B) (hB1 : B ≤ 1152921504606846976) (qr : Nat) (s1 : Int)  (a1 : Int32) (ra1 : 0 ≤ a1.toInt) (ta1 : a1.toInt ≤ 400) (a2 : Int32) (ra2 : 0 ≤ a2.toInt) (ta2 : a2.toInt ≤ 4) (w0 : va_W) (sz : Nat) (hT : TW ksC ad cy B qr s1 w0) (cf0_ : gi w0 1 4 = 0) : Met l yX6_blame wsX6_blame ({ frames := 1, cells := 0, slots := 0, locals := 12 }) (va_Pc [.ref (ad 1), .int a1, .int a2] (wpreS adK adV dC dI cy sz w0)) (va_Qv (P_X6_blame_1 ad cy B qr s1 a1 a2 w0) (fun u : va_W => wpost dC dI cy (va_A w0 sz) u) (va_A w0 sz)) 0 0 (va_A w0 sz) := by
  refine Met.ofW (cc := cX6_blame) (maxL := 3) (ret := none) (by decide) rfl ?_
  intro p e s m args below meth c s₁ Bk hml hv
  obtain ⟨rfl, ⟨hsz, hP, hK, hD0⟩, hE, hSR⟩ := hv
  have hx := Bk.exec
  have hb := Bk.bytes
  have hr := Bk.returns
  have hlocks := Bk.notSynchronized
  have hC : CallFix p m c cX6_blame 3 s _ wsX6_blame RX6 := ⟨hx, hb, hml, findClass_of_methodNamed Bk.named, atoms_spec (ws := wsX6_blame) Bk.pre⟩
  subst hsz
  have hD := hD0.self (sz := s.heap.size)
  generalize hAe : va_A w0 s.heap.size = A at hD hE ⊢
  have hA : ∀ q : Nat, s.heap.size ≤ q → A q := fun q h => by rw [← hAe]; exact Or.inr h
  have hw : Wd dC dI A s.heap s.heap [] w0 := ⟨hP, hD, va_S.rf⟩
  have hF : FE ksC [(6, 4, 4)] w0 w0 := FE.rf
  have hl := lv_entry ([.ref (ad 1), .int a1, .int a2]) (n := 3) (Nat.le_of_ble_eq_true rfl)
  rw [lg_entry_eq]
  generalize (lg_sl ([.ref (ad 1), .int a1, .int a2]) ++ List.replicate (3 - (lg_sl ([.ref (ad 1), .int a1, .int a2])).length) Slot.unset).toArray = ls at hl ⊢
  have hl : lv_has ls 3 [(0, .ref (ad 1)), (1, .int a1), (2, .int a2)] := hl
  generalize hloc : ([] : List Loc) = locs at hw ⊢
  have hinX6 : ∀ w ∈ u_ws RX6 TX6 5, w ∈ wsX6_blame := fun _ h => List.mem_cons_of_mem _ (List.mem_append_right _ (h))
  have J19 : ∀ (f19_1_4 : Int32) (H : Heap) (locs : List Loc) (ls : Array Slot) (w1 : va_W), 0 ≤ a1.toInt → a1.toInt ≤ 400 → 0 ≤ a2.toInt → a2.toInt ≤ 4 → 1 ≤ f19_1_4.toInt → f19_1_4.toInt ≤ 3205 → Wd dC dI A s.heap H locs w1 → TW ksC ad cy B qr s1 w1 → FE ksC [(6, 4, 4)] w0 w1 → gi w1 1 4 = f19_1_4 → lv_has ls 3 [(0, .ref (ad 1)), (1, .int a1), (2, .int a2)] → W p l e ({ frames := 1, cells := 0, slots := 0, locals := 12 }) s m (List.toArray [.ref (ad 1), .int a1, .int a2]) below meth c H locs 0 0 (MQ below (va_Qv (P_X6_blame_1 ad cy B qr s1 a1 a2 w0) (fun u : va_W => wpost dC dI cy A u) A) (List.toArray [.ref (ad 1), .int a1, .int a2]) s 0 0 A) (F0 m 19 ls []) := by
    intro f19_1_4 H locs ls w1 r2 t3 r4 t5 r6 t7 hw hT hF c8 hl
    exact tk_vret hC hr hlocks hK ⟨hT, hF, ⟨f19_1_4, c8, (show 1 ≤ f19_1_4.toInt by omega), (show f19_1_4.toInt ≤ 3205 by omega)⟩⟩ hw dX6_blame_19
  refine lv_aload_n hx hb dX6_blame_0 rfl (lv_at hl 0 rfl) ?_
  refine tk_geti hC hK hw hT hinX6 kC_at1 (by decide) rfl 4 (by decide) (List.mem_of_getElem? (i := 1) rfl) rfl rfl dX6_blame_1 (fun x9 c10 rx9 tx9 => ?_)
  refine wk_top 0 (c10.symm.trans cf0_) ?_
  refine lv_if_ne (tgt := 19) hx hb dX6_blame_4 (by decide) (fun c => absurd (by decide) c) (fun _ => ?_)
  refine lv_aload_n hx hb dX6_blame_7 rfl (lv_at hl 0 rfl) ?_
  refine lv_iconst (v := 1) hx hb dX6_blame_8 (by decide) ?_
  refine lv_bipush (v := 8) hx hb dX6_blame_9 (by decide) ?_
  refine lv_iload_n hx hb dX6_blame_11 rfl (lv_at hl 1 rfl) ?_
  refine lv_imul hx hb dX6_blame_12 ?_
  refine lv_topi (fun x11 ex11 => ?_)
  have ex11 : x11.toInt = (8 : Int) * a1.toInt := by rw [ex11]; exact wk_mul (show (-2147483648) ≤ (8 : Int) * a1.toInt by omega) (show (8 : Int) * a1.toInt ≤ 2147483647 by omega)
  refine lv_iadd hx hb dX6_blame_13 ?_
  refine lv_topi (fun x12 ex12 => ?_)
  have ex12 : x12.toInt = (1 : Int) + x11.toInt := by rw [ex12]; exact wk_add (show (-2147483648) ≤ (1 : Int) + x11.toInt by omega) (show (1 : Int) + x11.toInt ≤ 2147483647 by omega)
  refine lv_iload_n hx hb dX6_blame_14 rfl (lv_at hl 2 rfl) ?_
  refine lv_iadd hx hb dX6_blame_15 ?_
  refine lv_topi (fun x13 ex13 => ?_)
  have ex13 : x13.toInt = x12.toInt + a2.toInt := by rw [ex13]; exact wk_add (show (-2147483648) ≤ x12.toInt + a2.toInt by omega) (show x12.toInt + a2.toInt ≤ 2147483647 by omega)
  refine tk_puti hC hK hw hT hinX6 tyX6_ok nmX6 kC_at1 (by decide) rfl rfl 4 (by decide) (List.mem_of_getElem? (i := 1) rfl) rfl rfl rfl rfl (show 0 ≤ x13.toInt by omega) (show x13.toInt ≤ 3205 by omega) dX6_blame_16 (fun H locs w14 hw hT k16 c15 => ?_)
  have hF := hF.put kC_at1 (k := 4) (by decide) k16
  exact J19 x13 H locs ls w14 (show 0 ≤ a1.toInt by omega) (show a1.toInt ≤ 400 by omega) (show 0 ≤ a2.toInt by omega) (show a2.toInt ≤ 4 by omega) (show 1 ≤ x13.toInt by omega) (show x13.toInt ≤ 3205 by omega)  hw hT hF c15 (lv_sub hl [0, 1, 2] rfl)
abbrev P_X6_blameHere_1 (ad : Nat → Nat) (cy : Nat → ClassId) (B : Int) (qr : Nat) (s1 : Int)  (w0 : va_W) : va_W → Prop := fun u => TW ksC ad cy B qr s1 u ∧ FE ksC [(6, 4, 4)] w0 u ∧ (((∃ y : Int32, gi u 1 4 = y ∧ 1 ≤ y.toInt ∧ y.toInt ≤ 3205)))
set_option maxHeartbeats 4000000 in
set_option maxRecDepth 100000 in
theorem k_X6_blameHere_1 (l : Launch) (adK adV : Nat → Nat) (dC : Nat → ClassId) (dI : Nat → Nat → Nat) (cy : Nat → ClassId) (ad : Nat → Nat) (B : Int) (hB0 : 2147483648 ≤ B) (hB1 : B ≤ 1152921504606846976) (qr : Nat) (s1 : Int)   (w0 : va_W) (sz : Nat) (hT : TW ksC ad cy B qr s1 w0) (cf0_ : gi w0 1 4 = 0) : Met l yX6_blameHere wsX6_blameHere ({ frames := 2, cells := 0, slots := 0, locals := 34 }) (va_Pc [.ref (ad 1)] (wpreS adK adV dC dI cy sz w0)) (va_Qv (P_X6_blameHere_1 ad cy B qr s1  w0) (fun u : va_W => wpost dC dI cy (va_A w0 sz) u) (va_A w0 sz)) 0 0 (va_A w0 sz) := by
  refine Met.ofW (cc := cX6_blameHere) (maxL := 1) (ret := none) (by decide) rfl ?_
  intro p e s m args below meth c s₁ Bk hml hv
  obtain ⟨rfl, ⟨hsz, hP, hK, hD0⟩, hE, hSR⟩ := hv
  have hx := Bk.exec
  have hb := Bk.bytes
  have hr := Bk.returns
  have hlocks := Bk.notSynchronized
  have hC : CallFix p m c cX6_blameHere 1 s _ wsX6_blameHere RX6 := ⟨hx, hb, hml, findClass_of_methodNamed Bk.named, atoms_spec (ws := wsX6_blameHere) Bk.pre⟩
  subst hsz
  have hD := hD0.self (sz := s.heap.size)
  generalize hAe : va_A w0 s.heap.size = A at hD hE ⊢
  have hA : ∀ q : Nat, s.heap.size ≤ q → A q := fun q h => by rw [← hAe]; exact Or.inr h
  have hw : Wd dC dI A s.heap s.heap [] w0 := ⟨hP, hD, va_S.rf⟩
  have hF : FE ksC [(6, 4, 4)] w0 w0 := FE.rf
  have hl := lv_entry ([.ref (ad 1)]) (n := 1) (Nat.le_of_ble_eq_true rfl)
  rw [lg_entry_eq]
  generalize (lg_sl ([.ref (ad 1)]) ++ List.replicate (1 - (lg_sl ([.ref (ad 1)])).length) Slot.unset).toArray = ls at hl ⊢
  have hl : lv_has ls 1 [(0, .ref (ad 1))] := hl
  generalize hloc : ([] : List Loc) = locs at hw ⊢
  have hinX6 : ∀ w ∈ u_ws RX6 TX6 5, w ∈ wsX6_blameHere := fun _ h => List.mem_cons_of_mem _ (List.mem_append_right _ (h))
  refine lv_aload_n hx hb dX6_blameHere_0 rfl (lv_at hl 0 rfl) ?_
  refine lv_aload_n hx hb dX6_blameHere_1 rfl (lv_at hl 0 rfl) ?_
  refine tk_geti hC hK hw hT hinX6 kC_at1 (by decide) rfl 1 (by decide) (List.mem_of_getElem? (i := 1) rfl) rfl rfl dX6_blameHere_2 (fun x1 c2 rx1 tx1 => ?_)
  refine lv_iconst (v := 0) hx hb dX6_blameHere_5 (by decide) ?_
  refine tk_Vv hC hK hw hT hA hE hSR kC_at1 (by decide) rfl (k_X6_blame_1 l adK adV dC dI cy ad B (by omega) (by omega) qr s1   x1 (show 0 ≤ x1.toInt by omega) (show x1.toInt ≤ 400 by omega) 0 (by decide) (by decide) w0 s.heap.size hT cf0_) (cwV 2 hC.2.2.2.2 gX6_blameHere_X6_blame rfl rfl rfl (by decide +kernel) ⟨Nat.le_of_ble_eq_true rfl, Nat.le_of_ble_eq_true rfl⟩) rfl hl.1 rfl (Nat.le_of_ble_eq_true rfl) dX6_blameHere_6 (fun w5 H locs hp4 hw => ?_)
  obtain ⟨hT, k6, hg9⟩ := hp4
  have hF := hF.tr k6 (by decide)
  have c10 := k6.gi kC_at1 (by decide) c2
  obtain ⟨x7, c8, rx7, tx7⟩ := hg9
  exact tk_vret hC hr hlocks hK ⟨hT, hF, ⟨x7, c8, (show 1 ≤ x7.toInt by omega), (show x7.toInt ≤ 3205 by omega)⟩⟩ hw dX6_blameHere_9
abbrev P_X6_takeSemicolon_1 (ad : Nat → Nat) (cy : Nat → ClassId) (B : Int) (qr : Nat) (s1 : Int)  (w0 : va_W) : Int32 → va_W → Prop := fun r u => TW ksC ad cy B qr s1 u ∧ FE ksC [(6, 1, 1), (6, 3, 3), (6, 4, 4)] w0 u ∧ ((r = 0 ∧ (∃ y : Int32, gi u 1 4 = y ∧ 1 ≤ y.toInt ∧ y.toInt ≤ 3205)) ∨ (r = 0 ∧ (∃ y : Int32, gi u 1 4 = y ∧ 0 ≤ y.toInt ∧ y.toInt ≤ 3205)) ∨ (r = 1 ∧ (∃ y : Int32, gi u 1 2 = y ∧ 1 ≤ y.toInt ∧ y.toInt ≤ 400) ∧ (∃ y : Int32, gi u 1 3 = y ∧ 0 ≤ y.toInt ∧ y.toInt ≤ 399) ∧ (∃ y : Int32, gi u 1 4 = y ∧ 0 ≤ y.toInt ∧ y.toInt ≤ 0)))
set_option maxHeartbeats 4000000 in
set_option maxRecDepth 100000 in
theorem k_X6_takeSemicolon_1 (l : Launch) (adK adV : Nat → Nat) (dC : Nat → ClassId) (dI : Nat → Nat → Nat) (cy : Nat → ClassId) (ad : Nat → Nat) (B : Int) (hB0 : 2147483648 ≤ B) (hB1 : B ≤ 1152921504606846976) (qr : Nat) (s1 : Int)   (w0 : va_W) (sz : Nat) (hT : TW ksC ad cy B qr s1 w0)  : Met l yX6_takeSemicolon wsX6_takeSemicolon ({ frames := 3, cells := 0, slots := 0, locals := 54 }) (va_Pc [.ref (ad 1)] (wpreS adK adV dC dI cy sz w0)) (va_Qi (P_X6_takeSemicolon_1 ad cy B qr s1  w0) (fun u : va_W => wpost dC dI cy (va_A w0 sz) u) (va_A w0 sz)) 0 0 (va_A w0 sz) := by
  refine Met.ofW (cc := cX6_takeSemicolon) (maxL := 1) (ret := (some .boolean)) (by decide) rfl ?_
  intro p e s m args below meth c s₁ Bk hml hv
  obtain ⟨rfl, ⟨hsz, hP, hK, hD0⟩, hE, hSR⟩ := hv
  have hx := Bk.exec
  have hb := Bk.bytes
  have hr := Bk.returns
  have hlocks := Bk.notSynchronized
  have hC : CallFix p m c cX6_takeSemicolon 1 s _ wsX6_takeSemicolon RX6 := ⟨hx, hb, hml, findClass_of_methodNamed Bk.named, atoms_spec (ws := wsX6_takeSemicolon) Bk.pre⟩
  subst hsz
  have hD := hD0.self (sz := s.heap.size)
  generalize hAe : va_A w0 s.heap.size = A at hD hE ⊢
  have hA : ∀ q : Nat, s.heap.size ≤ q → A q := fun q h => by rw [← hAe]; exact Or.inr h
  have hw : Wd dC dI A s.heap s.heap [] w0 := ⟨hP, hD, va_S.rf⟩
  have hF : FE ksC [(6, 1, 1), (6, 3, 3), (6, 4, 4)] w0 w0 := FE.rf
  have hl := lv_entry ([.ref (ad 1)]) (n := 1) (Nat.le_of_ble_eq_true rfl)
  rw [lg_entry_eq]
  generalize (lg_sl ([.ref (ad 1)]) ++ List.replicate (1 - (lg_sl ([.ref (ad 1)])).length) Slot.unset).toArray = ls at hl ⊢
  have hl : lv_has ls 1 [(0, .ref (ad 1))] := hl
  generalize hloc : ([] : List Loc) = locs at hw ⊢
  have J32 : ∀ (f32_1_4 : Int32) (H : Heap) (locs : List Loc) (ls : Array Slot) (w1 : va_W), 0 ≤ f32_1_4.toInt → f32_1_4.toInt ≤ 3205 → Wd dC dI A s.heap H locs w1 → TW ksC ad cy B qr s1 w1 → FE ksC [(6, 1, 1), (6, 3, 3), (6, 4, 4)] w0 w1 → gi w1 1 4 = f32_1_4 → lv_has ls 1 [(0, .ref (ad 1))] → W p l e ({ frames := 3, cells := 0, slots := 0, locals := 54 }) s m (List.toArray [.ref (ad 1)]) below meth c H locs 0 0 (MQ below (va_Qi (P_X6_takeSemicolon_1 ad cy B qr s1  w0) (fun u : va_W => wpost dC dI cy A u) A) (List.toArray [.ref (ad 1)]) s 0 0 A) (F0 m 32 ls []) := by
    intro f32_1_4 H locs ls w1 r2 t3 hw hT hF c4 hl
    refine lv_iconst (v := 0) hx hb dX6_takeSemicolon_32 (by decide) ?_
    exact tk_zret hC hr rfl hlocks hK ⟨hT, hF, (Or.inr (Or.inl ⟨rfl, ⟨f32_1_4, c4, (show 0 ≤ f32_1_4.toInt by omega), (show f32_1_4.toInt ≤ 3205 by omega)⟩⟩))⟩ hw dX6_takeSemicolon_33
  refine lv_aload_n hx hb dX6_takeSemicolon_0 rfl (lv_at hl 0 rfl) ?_
  refine tk_Vi hC hK hw hT hA hE hSR kC_at1 (by decide) rfl (k_X6_isFaulty_1 l adK adV dC dI cy ad B (by omega) (by omega) qr s1    w0 s.heap.size hT ) (cwV 0 hC.2.2.2.2 gX6_takeSemicolon_X6_isFaulty rfl rfl rfl (by decide +kernel) ⟨Nat.le_of_ble_eq_true rfl, Nat.le_of_ble_eq_true rfl⟩) rfl hl.1 rfl (Nat.le_of_ble_eq_true rfl) dX6_takeSemicolon_1 (fun r5 w7 H locs hp6 hw => ?_)
  obtain ⟨hT, k8, hg13⟩ := hp6
  have hF := hF.tr k8 (by decide)
  rcases hg13 with ⟨rfl, ⟨x9, c10, rx9, tx9⟩⟩ | ⟨rfl, ⟨x11, c12, rx11, tx11⟩⟩
  · refine lv_if_eq (tgt := 9) hx hb dX6_takeSemicolon_4 (by decide) (fun _ => ?_) (fun c => absurd (by decide) c)
    refine lv_aload_n hx hb dX6_takeSemicolon_9 rfl (lv_at hl 0 rfl) ?_
    refine lv_bipush (v := 59) hx hb dX6_takeSemicolon_10 (by decide) ?_
    refine tk_Vi hC hK hw hT hA hE hSR kC_at1 (by decide) rfl (k_X6_takeByte_1 l adK adV dC dI cy ad B (by omega) (by omega) qr s1    w7 H.size hT ) (cwV 1 hC.2.2.2.2 gX6_takeSemicolon_X6_takeByte rfl rfl rfl (by decide +kernel) ⟨Nat.le_of_ble_eq_true rfl, Nat.le_of_ble_eq_true rfl⟩) rfl hl.1 rfl (Nat.le_of_ble_eq_true rfl) dX6_takeSemicolon_12 (fun r14 w16 H locs hp15 hw => ?_)
    obtain ⟨hT, k17, hg22⟩ := hp15
    have hF := hF.tr k17 (by decide)
    have c23 := k17.gi kC_at1 (by decide) c10
    rcases hg22 with rfl | ⟨rfl, ⟨x18, c19, rx18, tx18⟩, ⟨x20, c21, rx20, tx20⟩⟩
    · refine lv_if_eq (tgt := 20) hx hb dX6_takeSemicolon_15 (by decide) (fun _ => ?_) (fun c => absurd (by decide) c)
      refine lv_aload_n hx hb dX6_takeSemicolon_20 rfl (lv_at hl 0 rfl) ?_
      refine tk_Vi hC hK hw hT hA hE hSR kC_at1 (by decide) rfl (k_X6_look_1 l adK adV dC dI cy ad B (by omega) (by omega) qr s1    w16 H.size hT ) (cwV 0 hC.2.2.2.2 gX6_takeSemicolon_X6_look rfl rfl rfl (by decide +kernel) ⟨Nat.le_of_ble_eq_true rfl, Nat.le_of_ble_eq_true rfl⟩) rfl hl.1 rfl (Nat.le_of_ble_eq_true rfl) dX6_takeSemicolon_21 (fun r24 w26 H locs hp25 hw => ?_)
      obtain ⟨hT, k27, hg34⟩ := hp25
      have hF := hF.tr k27 (by decide)
      have c35 := k27.gi kC_at1 (by decide) c23
      rcases hg34 with ⟨g28, g29, ⟨x30, c31, rx30, tx30⟩, ⟨x32, c33, rx32, tx32⟩⟩ | rfl
      · refine lv_iconst (v := (-1)) hx hb dX6_takeSemicolon_24 (by decide) ?_
        refine lv_icmp_eq (tgt := 32) hx hb dX6_takeSemicolon_25 (by decide) (fun c => absurd c (fun h => absurd (show r24.toInt = (-1 : Int) from wk_eq.mp h) (by omega))) (fun _ => ?_)
        refine lv_aload_n hx hb dX6_takeSemicolon_28 rfl (lv_at hl 0 rfl) ?_
        refine tk_Vv hC hK hw hT hA hE hSR kC_at1 (by decide) rfl (k_X6_blameHere_1 l adK adV dC dI cy ad B (by omega) (by omega) qr s1    w26 H.size hT (c35.trans (wk_eq.mpr (show x9.toInt = 0 by omega)))) (cwV 0 hC.2.2.2.2 gX6_takeSemicolon_X6_blameHere rfl rfl rfl (by decide +kernel) ⟨Nat.le_of_ble_eq_true rfl, Nat.le_of_ble_eq_true rfl⟩) rfl hl.1 rfl (Nat.le_of_ble_eq_true rfl) dX6_takeSemicolon_29 (fun w38 H locs hp37 hw => ?_)
        obtain ⟨hT, k39, hg42⟩ := hp37
        have hF := hF.tr k39 (by decide)
        have c43 := k39.gi kC_at1 (by decide) c31
        have c44 := k39.gi kC_at1 (by decide) c33
        obtain ⟨x40, c41, rx40, tx40⟩ := hg42
        exact J32 x40 H locs ls w38 (show 0 ≤ x40.toInt by omega) (show x40.toInt ≤ 3205 by omega)  hw hT hF c41 (lv_sub hl [0] rfl)
      · refine lv_iconst (v := (-1)) hx hb dX6_takeSemicolon_24 (by decide) ?_
        refine lv_icmp_eq (tgt := 32) hx hb dX6_takeSemicolon_25 (by decide) (fun _ => ?_) (fun c => absurd (by decide) c)
        exact J32 x9 H locs ls w26 (show 0 ≤ x9.toInt by omega) (show x9.toInt ≤ 3205 by omega)  hw hT hF c35 (lv_sub hl [0] rfl)
    · refine lv_if_eq (tgt := 20) hx hb dX6_takeSemicolon_15 (by decide) (fun c => absurd c (by decide)) (fun _ => ?_)
      refine lv_iconst (v := 1) hx hb dX6_takeSemicolon_18 (by decide) ?_
      exact tk_zret hC hr rfl hlocks hK ⟨hT, hF, (Or.inr (Or.inr ⟨rfl, ⟨x18, c19, (show 1 ≤ x18.toInt by omega), (show x18.toInt ≤ 400 by omega)⟩, ⟨x20, c21, (show 0 ≤ x20.toInt by omega), (show x20.toInt ≤ 399 by omega)⟩, ⟨x9, c23, (show 0 ≤ x9.toInt by omega), (show x9.toInt ≤ 0 by omega)⟩⟩))⟩ hw dX6_takeSemicolon_19
  · refine lv_if_eq (tgt := 9) hx hb dX6_takeSemicolon_4 (by decide) (fun c => absurd c (by decide)) (fun _ => ?_)
    refine lv_iconst (v := 0) hx hb dX6_takeSemicolon_7 (by decide) ?_
    exact tk_zret hC hr rfl hlocks hK ⟨hT, hF, (Or.inl ⟨rfl, ⟨x11, c12, (show 1 ≤ x11.toInt by omega), (show x11.toInt ≤ 3205 by omega)⟩⟩)⟩ hw dX6_takeSemicolon_8
abbrev P_X2_isFull_1 (ad : Nat → Nat) (cy : Nat → ClassId) (B : Int) (qr : Nat) (s1 : Int) (q0_ : Nat) (w0 : va_W) : Int32 → va_W → Prop := fun r u => TW ksC ad cy B qr s1 u ∧ FE ksC ([] : List (Nat × Nat × Nat)) w0 u ∧ ((r = 0 ∧ (∃ y : Int32, gi u q0_ 4 = y ∧ 0 ≤ y.toInt ∧ y.toInt ≤ 11)) ∨ (r = 1 ∧ (∃ y : Int32, gi u q0_ 4 = y ∧ 12 ≤ y.toInt ∧ y.toInt ≤ 12)))
set_option maxHeartbeats 4000000 in
set_option maxRecDepth 100000 in
theorem k_X2_isFull_1 (l : Launch) (adK adV : Nat → Nat) (dC : Nat → ClassId) (dI : Nat → Nat → Nat) (cy : Nat → ClassId) (ad : Nat → Nat) (B : Int) (hB0 : 2147483648 ≤ B) (hB1 : B ≤ 1152921504606846976) (qr : Nat) (s1 : Int)  (q0_ : Nat) (hkq0_ : ksC[q0_]? = some 2) (w0 : va_W) (sz : Nat) (hT : TW ksC ad cy B qr s1 w0)  : Met l yX2_isFull wsX2_isFull ({ frames := 1, cells := 0, slots := 0, locals := 12 }) (va_Pc [.ref (ad q0_)] (wpreS adK adV dC dI cy sz w0)) (va_Qi (P_X2_isFull_1 ad cy B qr s1 q0_ w0) (fun u : va_W => wpost dC dI cy (va_A w0 sz) u) (va_A w0 sz)) 0 0 (va_A w0 sz) := by
  refine Met.ofW (cc := cX2_isFull) (maxL := 1) (ret := (some .boolean)) (by decide) rfl ?_
  intro p e s m args below meth c s₁ Bk hml hv
  obtain ⟨rfl, ⟨hsz, hP, hK, hD0⟩, hE, hSR⟩ := hv
  have hx := Bk.exec
  have hb := Bk.bytes
  have hr := Bk.returns
  have hlocks := Bk.notSynchronized
  have hC : CallFix p m c cX2_isFull 1 s _ wsX2_isFull RX2 := ⟨hx, hb, hml, findClass_of_methodNamed Bk.named, atoms_spec (ws := wsX2_isFull) Bk.pre⟩
  subst hsz
  have hD := hD0.self (sz := s.heap.size)
  generalize hAe : va_A w0 s.heap.size = A at hD hE ⊢
  have hA : ∀ q : Nat, s.heap.size ≤ q → A q := fun q h => by rw [← hAe]; exact Or.inr h
  have hw : Wd dC dI A s.heap s.heap [] w0 := ⟨hP, hD, va_S.rf⟩
  have hF : FE ksC ([] : List (Nat × Nat × Nat)) w0 w0 := FE.rf
  have hl := lv_entry ([.ref (ad q0_)]) (n := 1) (Nat.le_of_ble_eq_true rfl)
  rw [lg_entry_eq]
  generalize (lg_sl ([.ref (ad q0_)]) ++ List.replicate (1 - (lg_sl ([.ref (ad q0_)])).length) Slot.unset).toArray = ls at hl ⊢
  have hl : lv_has ls 1 [(0, .ref (ad q0_))] := hl
  generalize hloc : ([] : List Loc) = locs at hw ⊢
  have hinX2 : ∀ w ∈ u_ws RX2 TX2 6, w ∈ wsX2_isFull := fun _ h => List.mem_cons_of_mem _ (List.mem_append_right _ (h))
  refine lv_aload_n hx hb dX2_isFull_0 rfl (lv_at hl 0 rfl) ?_
  refine tk_geti hC hK hw hT hinX2 hkq0_ (by decide) rfl 4 (by decide) (List.mem_of_getElem? (i := 1) rfl) rfl rfl dX2_isFull_1 (fun x1 c2 rx1 tx1 => ?_)
  refine lv_bipush (v := 12) hx hb dX2_isFull_4 (by decide) ?_
  refine lv_icmp_lt (tgt := 13) hx hb dX2_isFull_6 (by decide) (fun c3 => ?_) (fun c3 => ?_)
  · have c3 : x1.toInt < (12 : Int) := wk_lt.mp c3
    refine lv_iconst (v := 0) hx hb dX2_isFull_13 (by decide) ?_
    exact tk_zret hC hr rfl hlocks hK ⟨hT, hF, (Or.inl ⟨rfl, ⟨x1, c2, (show 0 ≤ x1.toInt by omega), (show x1.toInt ≤ 11 by omega)⟩⟩)⟩ hw dX2_isFull_14
  · have c3 : (12 : Int) ≤ x1.toInt := wk_ltF c3
    refine lv_iconst (v := 1) hx hb dX2_isFull_9 (by decide) ?_
    refine lv_goto (tgt := 14) hx hb dX2_isFull_10 (by decide) ?_
    exact tk_zret hC hr rfl hlocks hK ⟨hT, hF, (Or.inr ⟨rfl, ⟨x1, c2, (show 12 ≤ x1.toInt by omega), (show x1.toInt ≤ 12 by omega)⟩⟩)⟩ hw dX2_isFull_14
abbrev P_X2_addClause_1 (ad : Nat → Nat) (cy : Nat → ClassId) (B : Int) (qr : Nat) (s1 : Int) (q0_ : Nat) (a1 : Int32) (w0 : va_W) : va_W → Prop := fun u => TW ksC ad cy B qr s1 u ∧ FE ksC [(2, 4, 4), (2, 5, 5), (21, 0, 12), (22, 0, 13)] w0 u ∧ (((∃ y : Int32, gi u q0_ 4 = y ∧ 1 ≤ y.toInt ∧ y.toInt ≤ 12)))
set_option maxHeartbeats 4000000 in
set_option maxRecDepth 100000 in
theorem k_X2_addClause_1 (l : Launch) (adK adV : Nat → Nat) (dC : Nat → ClassId) (dI : Nat → Nat → Nat) (cy : Nat → ClassId) (ad : Nat → Nat) (B : Int) (hB0 : 2147483648 ≤ B) (hB1 : B ≤ 1152921504606846976) (qr : Nat) (s1 : Int)  (q0_ : Nat) (hkq0_ : ksC[q0_]? = some 2) (a1 : Int32) (ra1 : (-1) ≤ a1.toInt) (ta1 : a1.toInt ≤ 18) (w0 : va_W) (sz : Nat) (hT : TW ksC ad cy B qr s1 w0)  : Met l yX2_addClause wsX2_addClause ({ frames := 2, cells := 0, slots := 0, locals := 32 }) (va_Pc [.ref (ad q0_), .int a1] (wpreS adK adV dC dI cy sz w0)) (va_Qv (P_X2_addClause_1 ad cy B qr s1 q0_ a1 w0) (fun u : va_W => wpost dC dI cy (va_A w0 sz) u) (va_A w0 sz)) 0 0 (va_A w0 sz) := by
  refine Met.ofW (cc := cX2_addClause) (maxL := 2) (ret := none) (by decide) rfl ?_
  intro p e s m args below meth c s₁ Bk hml hv
  obtain ⟨rfl, ⟨hsz, hP, hK, hD0⟩, hE, hSR⟩ := hv
  have hx := Bk.exec
  have hb := Bk.bytes
  have hr := Bk.returns
  have hlocks := Bk.notSynchronized
  have hC : CallFix p m c cX2_addClause 2 s _ wsX2_addClause RX2 := ⟨hx, hb, hml, findClass_of_methodNamed Bk.named, atoms_spec (ws := wsX2_addClause) Bk.pre⟩
  subst hsz
  have hD := hD0.self (sz := s.heap.size)
  generalize hAe : va_A w0 s.heap.size = A at hD hE ⊢
  have hA : ∀ q : Nat, s.heap.size ≤ q → A q := fun q h => by rw [← hAe]; exact Or.inr h
  have hw : Wd dC dI A s.heap s.heap [] w0 := ⟨hP, hD, va_S.rf⟩
  have hF : FE ksC [(2, 4, 4), (2, 5, 5), (21, 0, 12), (22, 0, 13)] w0 w0 := FE.rf
  have hl := lv_entry ([.ref (ad q0_), .int a1]) (n := 2) (Nat.le_of_ble_eq_true rfl)
  rw [lg_entry_eq]
  generalize (lg_sl ([.ref (ad q0_), .int a1]) ++ List.replicate (2 - (lg_sl ([.ref (ad q0_), .int a1])).length) Slot.unset).toArray = ls at hl ⊢
  have hl : lv_has ls 2 [(0, .ref (ad q0_)), (1, .int a1)] := hl
  generalize hloc : ([] : List Loc) = locs at hw ⊢
  have hinX2 : ∀ w ∈ u_ws RX2 TX2 6, w ∈ wsX2_addClause := fun _ h => List.mem_cons_of_mem _ (List.mem_append_right _ (h))
  have J61 : ∀ (f61_q0__4 : Int32) (H : Heap) (locs : List Loc) (ls : Array Slot) (w1 : va_W), (-1) ≤ a1.toInt → a1.toInt ≤ 18 → 1 ≤ f61_q0__4.toInt → f61_q0__4.toInt ≤ 12 → Wd dC dI A s.heap H locs w1 → TW ksC ad cy B qr s1 w1 → FE ksC [(2, 4, 4), (2, 5, 5), (21, 0, 12), (22, 0, 13)] w0 w1 → gi w1 q0_ 4 = f61_q0__4 → lv_has ls 2 [(0, .ref (ad q0_)), (1, .int a1)] → W p l e ({ frames := 2, cells := 0, slots := 0, locals := 32 }) s m (List.toArray [.ref (ad q0_), .int a1]) below meth c H locs 0 0 (MQ below (va_Qv (P_X2_addClause_1 ad cy B qr s1 q0_ a1 w0) (fun u : va_W => wpost dC dI cy A u) A) (List.toArray [.ref (ad q0_), .int a1]) s 0 0 A) (F0 m 61 ls []) := by
    intro f61_q0__4 H locs ls w1 r2 t3 r4 t5 hw hT hF c6 hl
    exact tk_vret hC hr hlocks hK ⟨hT, hF, ⟨f61_q0__4, c6, (show 1 ≤ f61_q0__4.toInt by omega), (show f61_q0__4.toInt ≤ 12 by omega)⟩⟩ hw dX2_addClause_61
  refine lv_aload_n hx hb dX2_addClause_0 rfl (lv_at hl 0 rfl) ?_
  refine tk_Vi hC hK hw hT hA hE hSR hkq0_ (by decide) rfl (k_X2_isFull_1 l adK adV dC dI cy ad B (by omega) (by omega) qr s1   q0_ hkq0_ w0 s.heap.size hT ) (cwV 0 hC.2.2.2.2 gX2_addClause_X2_isFull rfl rfl rfl (by decide +kernel) ⟨Nat.le_of_ble_eq_true rfl, Nat.le_of_ble_eq_true rfl⟩) rfl hl.1 rfl (Nat.le_of_ble_eq_true rfl) dX2_addClause_1 (fun r7 w9 H locs hp8 hw => ?_)
  obtain ⟨hT, k10, hg15⟩ := hp8
  have hF := hF.tr k10 (by decide)
  rcases hg15 with ⟨rfl, ⟨x11, c12, rx11, tx11⟩⟩ | ⟨rfl, ⟨x13, c14, rx13, tx13⟩⟩
  · refine lv_if_ne (tgt := 61) hx hb dX2_addClause_4 (by decide) (fun c => absurd (by decide) c) (fun _ => ?_)
    refine lv_aload_n hx hb dX2_addClause_7 rfl (lv_at hl 0 rfl) ?_
    refine tk_getO hC hK hw hT hinX2 hkq0_ (by decide) rfl 0 (by decide) (List.mem_of_getElem? (i := 1) rfl) rfl rfl dX2_addClause_8 ?_
    refine lv_aload_n hx hb dX2_addClause_11 rfl (lv_at hl 0 rfl) ?_
    refine tk_geti hC hK hw hT hinX2 hkq0_ (by decide) rfl 4 (by decide) (List.mem_of_getElem? (i := 2) rfl) rfl rfl dX2_addClause_12 (fun x16 c17 rx16 tx16 => ?_)
    refine wk_top x11 (c17.symm.trans c12) ?_
    refine lv_iload_n hx hb dX2_addClause_15 rfl (lv_at hl 1 rfl) ?_
    refine tk_iast hC hK hw hT (kC_2_1 hkq0_) (by decide) rfl rfl (show 0 ≤ x11.toInt by omega) (show x11.toInt < 12 by omega) (wk_i32 a1).1 (wk_i32 a1).2 dX2_addClause_16 (fun H locs w18 hw hT k20 c19 => ?_)
    have hF := hF.put (kC_2_1 hkq0_) (inE_of (a := 0) (b := 12) (by decide) (show 0 ≤ x11.toInt.toNat by omega) (show x11.toInt.toNat ≤ 12 by omega)) k20
    have c21 := k20.gi (Or.inl (tk_ne hkq0_ (kC_2_1 hkq0_) (by decide))) c12
    refine lv_aload_n hx hb dX2_addClause_17 rfl (lv_at hl 0 rfl) ?_
    refine lv_aload_n hx hb dX2_addClause_18 rfl (lv_at hl 0 rfl) ?_
    refine tk_geti hC hK hw hT hinX2 hkq0_ (by decide) rfl 5 (by decide) (List.mem_of_getElem? (i := 3) rfl) rfl rfl dX2_addClause_19 (fun x22 c23 rx22 tx22 => ?_)
    refine lv_if_ne (tgt := 30) hx hb dX2_addClause_22 (by decide) (fun c24 => ?_) (fun c24 => ?_)
    · have c24 : ¬ x22.toInt = (0 : Int) := wk_eqF c24
      refine lv_iconst (v := 1) hx hb dX2_addClause_30 (by decide) ?_
      refine lv_goto (tgt := 35) hx hb dX2_addClause_31 (by decide) ?_
      refine tk_putz hC hK hw hT hinX2 tyX2_ok nmX2 hkq0_ (by decide) rfl rfl 5 (by decide) (List.mem_of_getElem? (i := 3) rfl) rfl rfl rfl rfl (by decide) (by decide) dX2_addClause_35 (fun H locs w25 hw hT k27 c26 => ?_)
      have hF := hF.put hkq0_ (k := 5) (by decide) k27
      have c28 := k27.gi (Or.inr (by decide)) c21
      refine lv_aload_n hx hb dX2_addClause_38 rfl (lv_at hl 0 rfl) ?_
      refine lv_dup hx hb dX2_addClause_39 rfl ?_
      refine tk_geti hC hK hw hT hinX2 hkq0_ (by decide) rfl 4 (by decide) (List.mem_of_getElem? (i := 2) rfl) rfl rfl dX2_addClause_40 (fun x29 c30 rx29 tx29 => ?_)
      refine wk_top x11 (c30.symm.trans c28) ?_
      refine lv_iconst (v := 1) hx hb dX2_addClause_43 (by decide) ?_
      refine lv_iadd hx hb dX2_addClause_44 ?_
      refine lv_topi (fun x31 ex31 => ?_)
      have ex31 : x31.toInt = x11.toInt + (1 : Int) := by rw [ex31]; exact wk_add (show (-2147483648) ≤ x11.toInt + (1 : Int) by omega) (show x11.toInt + (1 : Int) ≤ 2147483647 by omega)
      refine tk_puti hC hK hw hT hinX2 tyX2_ok nmX2 hkq0_ (by decide) rfl rfl 4 (by decide) (List.mem_of_getElem? (i := 2) rfl) rfl rfl rfl rfl (show 0 ≤ x31.toInt by omega) (show x31.toInt ≤ 12 by omega) dX2_addClause_45 (fun H locs w32 hw hT k34 c33 => ?_)
      have hF := hF.put hkq0_ (k := 4) (by decide) k34
      have c35 := k34.gi (Or.inr (by decide)) c26
      refine lv_aload_n hx hb dX2_addClause_48 rfl (lv_at hl 0 rfl) ?_
      refine tk_getO hC hK hw hT hinX2 hkq0_ (by decide) rfl 1 (by decide) (List.mem_of_getElem? (i := 4) rfl) rfl rfl dX2_addClause_49 ?_
      refine lv_aload_n hx hb dX2_addClause_52 rfl (lv_at hl 0 rfl) ?_
      refine tk_geti hC hK hw hT hinX2 hkq0_ (by decide) rfl 4 (by decide) (List.mem_of_getElem? (i := 2) rfl) rfl rfl dX2_addClause_53 (fun x36 c37 rx36 tx36 => ?_)
      refine wk_top x31 (c37.symm.trans c33) ?_
      refine lv_aload_n hx hb dX2_addClause_56 rfl (lv_at hl 0 rfl) ?_
      refine tk_geti hC hK hw hT hinX2 hkq0_ (by decide) rfl 3 (by decide) (List.mem_of_getElem? (i := 5) rfl) rfl rfl dX2_addClause_57 (fun x38 c39 rx38 tx38 => ?_)
      refine tk_iast hC hK hw hT (kC_2_2 hkq0_) (by decide) rfl rfl (show 0 ≤ x31.toInt by omega) (show x31.toInt < 13 by omega) (show 0 ≤ x38.toInt by omega) (show x38.toInt ≤ 400 by omega) dX2_addClause_60 (fun H locs w40 hw hT k42 c41 => ?_)
      have hF := hF.put (kC_2_2 hkq0_) (inE_of (a := 0) (b := 13) (by decide) (show 0 ≤ x31.toInt.toNat by omega) (show x31.toInt.toNat ≤ 13 by omega)) k42
      have c43 := k42.gi (Or.inl (tk_ne hkq0_ (kC_2_2 hkq0_) (by decide))) c35
      have c44 := k42.gi (Or.inl (tk_ne hkq0_ (kC_2_2 hkq0_) (by decide))) c33
      have c45 := k42.gi (Or.inl (tk_ne hkq0_ (kC_2_2 hkq0_) (by decide))) c39
      exact J61 x31 H locs ls w40 (show (-1) ≤ a1.toInt by omega) (show a1.toInt ≤ 18 by omega) (show 1 ≤ x31.toInt by omega) (show x31.toInt ≤ 12 by omega)  hw hT hF c44 (lv_sub hl [0, 1] rfl)
    · have c24 : x22.toInt = (0 : Int) := wk_eq.mp c24
      refine lv_iload_n hx hb dX2_addClause_25 rfl (lv_at hl 1 rfl) ?_
      refine lv_iconst (v := 1) hx hb dX2_addClause_26 (by decide) ?_
      refine lv_icmp_ne (tgt := 34) hx hb dX2_addClause_27 (by decide) (fun c46 => ?_) (fun c46 => ?_)
      · have c46 : ¬ a1.toInt = (1 : Int) := wk_eqF c46
        refine lv_iconst (v := 0) hx hb dX2_addClause_34 (by decide) ?_
        refine tk_putz hC hK hw hT hinX2 tyX2_ok nmX2 hkq0_ (by decide) rfl rfl 5 (by decide) (List.mem_of_getElem? (i := 3) rfl) rfl rfl rfl rfl (by decide) (by decide) dX2_addClause_35 (fun H locs w47 hw hT k49 c48 => ?_)
        have hF := hF.put hkq0_ (k := 5) (by decide) k49
        have c50 := k49.gi (Or.inr (by decide)) c21
        refine lv_aload_n hx hb dX2_addClause_38 rfl (lv_at hl 0 rfl) ?_
        refine lv_dup hx hb dX2_addClause_39 rfl ?_
        refine tk_geti hC hK hw hT hinX2 hkq0_ (by decide) rfl 4 (by decide) (List.mem_of_getElem? (i := 2) rfl) rfl rfl dX2_addClause_40 (fun x51 c52 rx51 tx51 => ?_)
        refine wk_top x11 (c52.symm.trans c50) ?_
        refine lv_iconst (v := 1) hx hb dX2_addClause_43 (by decide) ?_
        refine lv_iadd hx hb dX2_addClause_44 ?_
        refine lv_topi (fun x53 ex53 => ?_)
        have ex53 : x53.toInt = x11.toInt + (1 : Int) := by rw [ex53]; exact wk_add (show (-2147483648) ≤ x11.toInt + (1 : Int) by omega) (show x11.toInt + (1 : Int) ≤ 2147483647 by omega)
        refine tk_puti hC hK hw hT hinX2 tyX2_ok nmX2 hkq0_ (by decide) rfl rfl 4 (by decide) (List.mem_of_getElem? (i := 2) rfl) rfl rfl rfl rfl (show 0 ≤ x53.toInt by omega) (show x53.toInt ≤ 12 by omega) dX2_addClause_45 (fun H locs w54 hw hT k56 c55 => ?_)
        have hF := hF.put hkq0_ (k := 4) (by decide) k56
        have c57 := k56.gi (Or.inr (by decide)) c48
        refine lv_aload_n hx hb dX2_addClause_48 rfl (lv_at hl 0 rfl) ?_
        refine tk_getO hC hK hw hT hinX2 hkq0_ (by decide) rfl 1 (by decide) (List.mem_of_getElem? (i := 4) rfl) rfl rfl dX2_addClause_49 ?_
        refine lv_aload_n hx hb dX2_addClause_52 rfl (lv_at hl 0 rfl) ?_
        refine tk_geti hC hK hw hT hinX2 hkq0_ (by decide) rfl 4 (by decide) (List.mem_of_getElem? (i := 2) rfl) rfl rfl dX2_addClause_53 (fun x58 c59 rx58 tx58 => ?_)
        refine wk_top x53 (c59.symm.trans c55) ?_
        refine lv_aload_n hx hb dX2_addClause_56 rfl (lv_at hl 0 rfl) ?_
        refine tk_geti hC hK hw hT hinX2 hkq0_ (by decide) rfl 3 (by decide) (List.mem_of_getElem? (i := 5) rfl) rfl rfl dX2_addClause_57 (fun x60 c61 rx60 tx60 => ?_)
        refine tk_iast hC hK hw hT (kC_2_2 hkq0_) (by decide) rfl rfl (show 0 ≤ x53.toInt by omega) (show x53.toInt < 13 by omega) (show 0 ≤ x60.toInt by omega) (show x60.toInt ≤ 400 by omega) dX2_addClause_60 (fun H locs w62 hw hT k64 c63 => ?_)
        have hF := hF.put (kC_2_2 hkq0_) (inE_of (a := 0) (b := 13) (by decide) (show 0 ≤ x53.toInt.toNat by omega) (show x53.toInt.toNat ≤ 13 by omega)) k64
        have c65 := k64.gi (Or.inl (tk_ne hkq0_ (kC_2_2 hkq0_) (by decide))) c57
        have c66 := k64.gi (Or.inl (tk_ne hkq0_ (kC_2_2 hkq0_) (by decide))) c55
        have c67 := k64.gi (Or.inl (tk_ne hkq0_ (kC_2_2 hkq0_) (by decide))) c61
        exact J61 x53 H locs ls w62 (show (-1) ≤ a1.toInt by omega) (show a1.toInt ≤ 18 by omega) (show 1 ≤ x53.toInt by omega) (show x53.toInt ≤ 12 by omega)  hw hT hF c66 (lv_sub hl [0, 1] rfl)
      · have c46 : a1.toInt = (1 : Int) := wk_eq.mp c46
        refine lv_iconst (v := 1) hx hb dX2_addClause_30 (by decide) ?_
        refine lv_goto (tgt := 35) hx hb dX2_addClause_31 (by decide) ?_
        refine tk_putz hC hK hw hT hinX2 tyX2_ok nmX2 hkq0_ (by decide) rfl rfl 5 (by decide) (List.mem_of_getElem? (i := 3) rfl) rfl rfl rfl rfl (by decide) (by decide) dX2_addClause_35 (fun H locs w68 hw hT k70 c69 => ?_)
        have hF := hF.put hkq0_ (k := 5) (by decide) k70
        have c71 := k70.gi (Or.inr (by decide)) c21
        refine lv_aload_n hx hb dX2_addClause_38 rfl (lv_at hl 0 rfl) ?_
        refine lv_dup hx hb dX2_addClause_39 rfl ?_
        refine tk_geti hC hK hw hT hinX2 hkq0_ (by decide) rfl 4 (by decide) (List.mem_of_getElem? (i := 2) rfl) rfl rfl dX2_addClause_40 (fun x72 c73 rx72 tx72 => ?_)
        refine wk_top x11 (c73.symm.trans c71) ?_
        refine lv_iconst (v := 1) hx hb dX2_addClause_43 (by decide) ?_
        refine lv_iadd hx hb dX2_addClause_44 ?_
        refine lv_topi (fun x74 ex74 => ?_)
        have ex74 : x74.toInt = x11.toInt + (1 : Int) := by rw [ex74]; exact wk_add (show (-2147483648) ≤ x11.toInt + (1 : Int) by omega) (show x11.toInt + (1 : Int) ≤ 2147483647 by omega)
        refine tk_puti hC hK hw hT hinX2 tyX2_ok nmX2 hkq0_ (by decide) rfl rfl 4 (by decide) (List.mem_of_getElem? (i := 2) rfl) rfl rfl rfl rfl (show 0 ≤ x74.toInt by omega) (show x74.toInt ≤ 12 by omega) dX2_addClause_45 (fun H locs w75 hw hT k77 c76 => ?_)
        have hF := hF.put hkq0_ (k := 4) (by decide) k77
        have c78 := k77.gi (Or.inr (by decide)) c69
        refine lv_aload_n hx hb dX2_addClause_48 rfl (lv_at hl 0 rfl) ?_
        refine tk_getO hC hK hw hT hinX2 hkq0_ (by decide) rfl 1 (by decide) (List.mem_of_getElem? (i := 4) rfl) rfl rfl dX2_addClause_49 ?_
        refine lv_aload_n hx hb dX2_addClause_52 rfl (lv_at hl 0 rfl) ?_
        refine tk_geti hC hK hw hT hinX2 hkq0_ (by decide) rfl 4 (by decide) (List.mem_of_getElem? (i := 2) rfl) rfl rfl dX2_addClause_53 (fun x79 c80 rx79 tx79 => ?_)
        refine wk_top x74 (c80.symm.trans c76) ?_
        refine lv_aload_n hx hb dX2_addClause_56 rfl (lv_at hl 0 rfl) ?_
        refine tk_geti hC hK hw hT hinX2 hkq0_ (by decide) rfl 3 (by decide) (List.mem_of_getElem? (i := 5) rfl) rfl rfl dX2_addClause_57 (fun x81 c82 rx81 tx81 => ?_)
        refine tk_iast hC hK hw hT (kC_2_2 hkq0_) (by decide) rfl rfl (show 0 ≤ x74.toInt by omega) (show x74.toInt < 13 by omega) (show 0 ≤ x81.toInt by omega) (show x81.toInt ≤ 400 by omega) dX2_addClause_60 (fun H locs w83 hw hT k85 c84 => ?_)
        have hF := hF.put (kC_2_2 hkq0_) (inE_of (a := 0) (b := 13) (by decide) (show 0 ≤ x74.toInt.toNat by omega) (show x74.toInt.toNat ≤ 13 by omega)) k85
        have c86 := k85.gi (Or.inl (tk_ne hkq0_ (kC_2_2 hkq0_) (by decide))) c78
        have c87 := k85.gi (Or.inl (tk_ne hkq0_ (kC_2_2 hkq0_) (by decide))) c76
        have c88 := k85.gi (Or.inl (tk_ne hkq0_ (kC_2_2 hkq0_) (by decide))) c82
        exact J61 x74 H locs ls w83 (show (-1) ≤ a1.toInt by omega) (show a1.toInt ≤ 18 by omega) (show 1 ≤ x74.toInt by omega) (show x74.toInt ≤ 12 by omega)  hw hT hF c87 (lv_sub hl [0, 1] rfl)
  · refine lv_if_ne (tgt := 61) hx hb dX2_addClause_4 (by decide) (fun _ => ?_) (fun c => absurd c (by decide))
    exact J61 x13 H locs ls w9 (show (-1) ≤ a1.toInt by omega) (show a1.toInt ≤ 18 by omega) (show 1 ≤ x13.toInt by omega) (show x13.toInt ≤ 12 by omega)  hw hT hF c14 (lv_sub hl [0, 1] rfl)
abbrev P_X6_endOfWord_1 (ad : Nat → Nat) (cy : Nat → ClassId) (B : Int) (qr : Nat) (s1 : Int)  (w0 : va_W) : Int32 → va_W → Prop := fun r u => TW ksC ad cy B qr s1 u ∧ FE ksC ([] : List (Nat × Nat × Nat)) w0 u ∧ ((0 ≤ r.toInt ∧ r.toInt ≤ 400))
set_option maxHeartbeats 4000000 in
set_option maxRecDepth 100000 in
theorem k_X6_endOfWord_1 (l : Launch) (adK adV : Nat → Nat) (dC : Nat → ClassId) (dI : Nat → Nat → Nat) (cy : Nat → ClassId) (ad : Nat → Nat) (B : Int) (hB0 : 2147483648 ≤ B) (hB1 : B ≤ 1152921504606846976) (qr : Nat) (s1 : Int)   (w0 : va_W) (sz : Nat) (hT : TW ksC ad cy B qr s1 w0)  : Met l yX6_endOfWord wsX6_endOfWord ({ frames := 1, cells := 0, slots := 0, locals := 12 }) (va_Pc [.ref (ad 1)] (wpreS adK adV dC dI cy sz w0)) (va_Qi (P_X6_endOfWord_1 ad cy B qr s1  w0) (fun u : va_W => wpost dC dI cy (va_A w0 sz) u) (va_A w0 sz)) 0 0 (va_A w0 sz) := by
  refine Met.ofW (cc := cX6_endOfWord) (maxL := 2) (ret := (some .int)) (by decide) rfl ?_
  intro p e s m args below meth c s₁ Bk hml hv
  obtain ⟨rfl, ⟨hsz, hP, hK, hD0⟩, hE, hSR⟩ := hv
  have hx := Bk.exec
  have hb := Bk.bytes
  have hr := Bk.returns
  have hlocks := Bk.notSynchronized
  have hC : CallFix p m c cX6_endOfWord 2 s _ wsX6_endOfWord RX6 := ⟨hx, hb, hml, findClass_of_methodNamed Bk.named, atoms_spec (ws := wsX6_endOfWord) Bk.pre⟩
  subst hsz
  have hD := hD0.self (sz := s.heap.size)
  generalize hAe : va_A w0 s.heap.size = A at hD hE ⊢
  have hA : ∀ q : Nat, s.heap.size ≤ q → A q := fun q h => by rw [← hAe]; exact Or.inr h
  have hw : Wd dC dI A s.heap s.heap [] w0 := ⟨hP, hD, va_S.rf⟩
  have hF : FE ksC ([] : List (Nat × Nat × Nat)) w0 w0 := FE.rf
  have hl := lv_entry ([.ref (ad 1)]) (n := 2) (Nat.le_of_ble_eq_true rfl)
  rw [lg_entry_eq]
  generalize (lg_sl ([.ref (ad 1)]) ++ List.replicate (2 - (lg_sl ([.ref (ad 1)])).length) Slot.unset).toArray = ls at hl ⊢
  have hl : lv_has ls 2 [(0, .ref (ad 1))] := hl
  generalize hloc : ([] : List Loc) = locs at hw ⊢
  have hinX6 : ∀ w ∈ u_ws RX6 TX6 5, w ∈ wsX6_endOfWord := fun _ h => List.mem_cons_of_mem _ (List.mem_append_right _ (h))
  have J41 : ∀ (v41_1 : Int32) (f41_1_1 : Int32) (f41_1_2 : Int32) (H : Heap) (locs : List Loc) (ls : Array Slot) (w1 : va_W), 0 ≤ v41_1.toInt → v41_1.toInt ≤ 400 → 0 ≤ f41_1_1.toInt → f41_1_1.toInt ≤ 400 → 0 ≤ f41_1_2.toInt → f41_1_2.toInt ≤ 400 → Wd dC dI A s.heap H locs w1 → TW ksC ad cy B qr s1 w1 → FE ksC ([] : List (Nat × Nat × Nat)) w0 w1 → gi w1 1 1 = f41_1_1 → gi w1 1 2 = f41_1_2 → lv_has ls 2 [(0, .ref (ad 1)), (1, .int v41_1)] → W p l e ({ frames := 1, cells := 0, slots := 0, locals := 12 }) s m (List.toArray [.ref (ad 1)]) below meth c H locs 0 0 (MQ below (va_Qi (P_X6_endOfWord_1 ad cy B qr s1  w0) (fun u : va_W => wpost dC dI cy A u) A) (List.toArray [.ref (ad 1)]) s 0 0 A) (F0 m 41 ls []) := by
    intro v41_1 f41_1_1 f41_1_2 H locs ls w1 r2 t3 r4 t5 r7 t8 hw hT hF c6 c9 hl
    refine lv_iload_n hx hb dX6_endOfWord_41 rfl (lv_at hl 1 rfl) ?_
    exact tk_iret hC hr hlocks hK ⟨hT, hF, ⟨(show 0 ≤ v41_1.toInt by omega), (show v41_1.toInt ≤ 400 by omega)⟩⟩ hw dX6_endOfWord_42
  have L5 : ∀ (n5 : Nat) (v5_1 : Int32) (f5_1_1 : Int32) (H : Heap) (locs : List Loc) (ls : Array Slot) (w10 : va_W), 0 ≤ v5_1.toInt → v5_1.toInt ≤ 400 → 0 ≤ f5_1_1.toInt → f5_1_1.toInt ≤ 400 → (400 - v5_1.toInt).toNat < n5 → Wd dC dI A s.heap H locs w10 → TW ksC ad cy B qr s1 w10 → FE ksC ([] : List (Nat × Nat × Nat)) w0 w10 → gi w10 1 1 = f5_1_1 → lv_has ls 2 [(0, .ref (ad 1)), (1, .int v5_1)] → W p l e ({ frames := 1, cells := 0, slots := 0, locals := 12 }) s m (List.toArray [.ref (ad 1)]) below meth c H locs 0 0 (MQ below (va_Qi (P_X6_endOfWord_1 ad cy B qr s1  w0) (fun u : va_W => wpost dC dI cy A u) A) (List.toArray [.ref (ad 1)]) s 0 0 A) (F0 m 5 ls []) := by
    intro n5
    induction n5 with
    | zero => intro v5_1 f5_1_1 H locs ls w10 r11 t12 r13 t14 hm5 hw hT hF c15 hl; omega
    | succ n5 ih5 =>
      intro v5_1 f5_1_1 H locs ls w10 r11 t12 r13 t14 hm5 hw hT hF c15 hl
      refine lv_iload_n hx hb dX6_endOfWord_5 rfl (lv_at hl 1 rfl) ?_
      refine lv_aload_n hx hb dX6_endOfWord_6 rfl (lv_at hl 0 rfl) ?_
      refine tk_geti hC hK hw hT hinX6 kC_at1 (by decide) rfl 2 (by decide) (List.mem_of_getElem? (i := 2) rfl) rfl rfl dX6_endOfWord_7 (fun x16 c17 rx16 tx16 => ?_)
      refine lv_icmp_ge (tgt := 41) hx hb dX6_endOfWord_10 (by decide) (fun c18 => ?_) (fun c18 => ?_)
      · have c18 : x16.toInt ≤ v5_1.toInt := wk_le.mp c18
        exact J41 v5_1 f5_1_1 x16 H locs ls w10 (show 0 ≤ v5_1.toInt by omega) (show v5_1.toInt ≤ 400 by omega) (show 0 ≤ f5_1_1.toInt by omega) (show f5_1_1.toInt ≤ 400 by omega) (show 0 ≤ x16.toInt by omega) (show x16.toInt ≤ 400 by omega)  hw hT hF c15 c17 (lv_sub hl [0, 1] rfl)
      · have c18 : v5_1.toInt < x16.toInt := wk_leF c18
        refine lv_aload_n hx hb dX6_endOfWord_13 rfl (lv_at hl 0 rfl) ?_
        refine tk_getA hC hK hw hT hinX6 kC_at1 (by decide) rfl 0 (by decide) (List.mem_of_getElem? (i := 3) rfl) rfl rfl dX6_endOfWord_14 ?_
        refine lv_iload_n hx hb dX6_endOfWord_17 rfl (lv_at hl 1 rfl) ?_
        refine tk_iald hC hK hw hT kC_at2 rfl rfl (show 0 ≤ v5_1.toInt by omega) (show v5_1.toInt < 400 by omega) dX6_endOfWord_18 (fun x19 c20 rx19 tx19 => ?_)
        refine lv_bipush (v := 97) hx hb dX6_endOfWord_19 (by decide) ?_
        refine lv_icmp_lt (tgt := 41) hx hb dX6_endOfWord_21 (by decide) (fun c21 => ?_) (fun c21 => ?_)
        · have c21 : x19.toInt < (97 : Int) := wk_lt.mp c21
          exact J41 v5_1 f5_1_1 x16 H locs ls w10 (show 0 ≤ v5_1.toInt by omega) (show v5_1.toInt ≤ 400 by omega) (show 0 ≤ f5_1_1.toInt by omega) (show f5_1_1.toInt ≤ 400 by omega) (show 0 ≤ x16.toInt by omega) (show x16.toInt ≤ 400 by omega)  hw hT hF c15 c17 (lv_sub hl [0, 1] rfl)
        · have c21 : (97 : Int) ≤ x19.toInt := wk_ltF c21
          refine lv_aload_n hx hb dX6_endOfWord_24 rfl (lv_at hl 0 rfl) ?_
          refine tk_getA hC hK hw hT hinX6 kC_at1 (by decide) rfl 0 (by decide) (List.mem_of_getElem? (i := 3) rfl) rfl rfl dX6_endOfWord_25 ?_
          refine lv_iload_n hx hb dX6_endOfWord_28 rfl (lv_at hl 1 rfl) ?_
          refine tk_iald hC hK hw hT kC_at2 rfl rfl (show 0 ≤ v5_1.toInt by omega) (show v5_1.toInt < 400 by omega) dX6_endOfWord_29 (fun x22 c23 rx22 tx22 => ?_)
          refine lv_bipush (v := 122) hx hb dX6_endOfWord_30 (by decide) ?_
          refine lv_icmp_gt (tgt := 41) hx hb dX6_endOfWord_32 (by decide) (fun c24 => ?_) (fun c24 => ?_)
          · have c24 : (122 : Int) < x22.toInt := wk_lt.mp c24
            exact J41 v5_1 f5_1_1 x16 H locs ls w10 (show 0 ≤ v5_1.toInt by omega) (show v5_1.toInt ≤ 400 by omega) (show 0 ≤ f5_1_1.toInt by omega) (show f5_1_1.toInt ≤ 400 by omega) (show 0 ≤ x16.toInt by omega) (show x16.toInt ≤ 400 by omega)  hw hT hF c15 c17 (lv_sub hl [0, 1] rfl)
          · have c24 : x22.toInt ≤ (122 : Int) := wk_ltF c24
            obtain ⟨x25, ex25⟩ : ∃ y : Int32, y = v5_1 + Int32.ofInt 1 := ⟨_, rfl⟩
            refine lv_iinc (v := x25) (lv' := [(1, .int x25), (0, .ref (ad 1))]) hx hb dX6_endOfWord_35 hl (k := 1) rfl ex25.symm (by decide) rfl (fun ls hl => ?_)
            have ex25 : x25.toInt = v5_1.toInt + 1 := by rw [ex25]; exact wk_add (y := 1) (show -2147483648 ≤ v5_1.toInt + 1 by omega) (show v5_1.toInt + 1 ≤ 2147483647 by omega)
            refine lv_goto (tgt := 5) hx hb dX6_endOfWord_38 (by decide) ?_
            exact ih5 x25 f5_1_1 H locs ls w10 (show 0 ≤ x25.toInt by omega) (show x25.toInt ≤ 400 by omega) (show 0 ≤ f5_1_1.toInt by omega) (show f5_1_1.toInt ≤ 400 by omega) (show (400 - x25.toInt).toNat < n5 by omega) hw hT hF c15 (lv_sub hl [1, 0] rfl)
  refine lv_aload_n hx hb dX6_endOfWord_0 rfl (lv_at hl 0 rfl) ?_
  refine tk_geti hC hK hw hT hinX6 kC_at1 (by decide) rfl 1 (by decide) (List.mem_of_getElem? (i := 1) rfl) rfl rfl dX6_endOfWord_1 (fun x26 c27 rx26 tx26 => ?_)
  refine lv_istore_n (lv' := [(1, .int x26), (0, .ref (ad 1))]) hx hb dX6_endOfWord_4 rfl hl (by decide) rfl (fun ls hl => ?_)
  exact L5 ((400 - x26.toInt).toNat + 1) x26 x26 s.heap locs ls w0 (show 0 ≤ x26.toInt by omega) (show x26.toInt ≤ 400 by omega) (show 0 ≤ x26.toInt by omega) (show x26.toInt ≤ 400 by omega) (Nat.lt_succ_self _) hw hT hF c27 (lv_sub hl [1, 0] rfl)
abbrev P_X6_takeWord_1 (ad : Nat → Nat) (cy : Nat → ClassId) (B : Int) (qr : Nat) (s1 : Int)  (w0 : va_W) : Int32 → va_W → Prop := fun r u => TW ksC ad cy B qr s1 u ∧ FE ksC [(6, 1, 1), (6, 3, 3)] w0 u ∧ ((r = 0) ∨ (r = 1 ∧ (∃ y : Int32, gi u 1 1 = y ∧ 2 ≤ y.toInt ∧ y.toInt ≤ 400)))
set_option maxHeartbeats 4000000 in
set_option maxRecDepth 100000 in
theorem k_X6_takeWord_1 (l : Launch) (adK adV : Nat → Nat) (dC : Nat → ClassId) (dI : Nat → Nat → Nat) (cy : Nat → ClassId) (ad : Nat → Nat) (B : Int) (hB0 : 2147483648 ≤ B) (hB1 : B ≤ 1152921504606846976) (qr : Nat) (s1 : Int)   (w0 : va_W) (sz : Nat) (hT : TW ksC ad cy B qr s1 w0)  : Met l yX6_takeWord wsX6_takeWord ({ frames := 5, cells := 0, slots := 0, locals := 141 }) (va_Pc [.ref (ad 1), .ref (adK 3)] (wpreS adK adV dC dI cy sz w0)) (va_Qi (P_X6_takeWord_1 ad cy B qr s1  w0) (fun u : va_W => wpost dC dI cy (va_A w0 sz) u) (va_A w0 sz)) 0 0 (va_A w0 sz) := by
  refine Met.ofW (cc := cX6_takeWord) (maxL := 4) (ret := (some .boolean)) (by decide) rfl ?_
  intro p e s m args below meth c s₁ Bk hml hv
  obtain ⟨rfl, ⟨hsz, hP, hK, hD0⟩, hE, hSR⟩ := hv
  have hx := Bk.exec
  have hb := Bk.bytes
  have hr := Bk.returns
  have hlocks := Bk.notSynchronized
  have hC : CallFix p m c cX6_takeWord 4 s _ wsX6_takeWord RX6 := ⟨hx, hb, hml, findClass_of_methodNamed Bk.named, atoms_spec (ws := wsX6_takeWord) Bk.pre⟩
  subst hsz
  have hD := hD0.self (sz := s.heap.size)
  generalize hAe : va_A w0 s.heap.size = A at hD hE ⊢
  have hA : ∀ q : Nat, s.heap.size ≤ q → A q := fun q h => by rw [← hAe]; exact Or.inr h
  have hw : Wd dC dI A s.heap s.heap [] w0 := ⟨hP, hD, va_S.rf⟩
  have hF : FE ksC [(6, 1, 1), (6, 3, 3)] w0 w0 := FE.rf
  have hl := lv_entry ([.ref (ad 1), .ref (adK 3)]) (n := 4) (Nat.le_of_ble_eq_true rfl)
  rw [lg_entry_eq]
  generalize (lg_sl ([.ref (ad 1), .ref (adK 3)]) ++ List.replicate (4 - (lg_sl ([.ref (ad 1), .ref (adK 3)])).length) Slot.unset).toArray = ls at hl ⊢
  have hl : lv_has ls 4 [(0, .ref (ad 1)), (1, .ref (adK 3))] := hl
  generalize hloc : ([] : List Loc) = locs at hw ⊢
  have hinX6 : ∀ w ∈ u_ws RX6 TX6 5, w ∈ wsX6_takeWord := fun _ h => List.mem_cons_of_mem _ (List.mem_append_right _ (h))
  have L27 : ∀ (n27 : Nat) (v27_2 : Int32) (v27_3 : Int32) (f27_1_1 : Int32) (H : Heap) (locs : List Loc) (ls : Array Slot) (w1 : va_W), 2 ≤ v27_2.toInt → v27_2.toInt ≤ 400 → 0 ≤ v27_3.toInt → v27_3.toInt ≤ 2 → 0 ≤ f27_1_1.toInt → f27_1_1.toInt ≤ 398 → (2 - v27_3.toInt).toNat < n27 → Wd dC dI A s.heap H locs w1 → TW ksC ad cy B qr s1 w1 → FE ksC [(6, 1, 1), (6, 3, 3)] w0 w1 → gi w1 1 1 = f27_1_1 → lv_has ls 4 [(0, .ref (ad 1)), (1, .ref (adK 3)), (2, .int v27_2), (3, .int v27_3)] → W p l e ({ frames := 5, cells := 0, slots := 0, locals := 141 }) s m (List.toArray [.ref (ad 1), .ref (adK 3)]) below meth c H locs 0 0 (MQ below (va_Qi (P_X6_takeWord_1 ad cy B qr s1  w0) (fun u : va_W => wpost dC dI cy A u) A) (List.toArray [.ref (ad 1), .ref (adK 3)]) s 0 0 A) (F0 m 27 ls []) := by
    intro n27
    induction n27 with
    | zero => intro v27_2 v27_3 f27_1_1 H locs ls w1 r2 t3 r4 t5 r6 t7 hm27 hw hT hF c8 hl; omega
    | succ n27 ih27 =>
      intro v27_2 v27_3 f27_1_1 H locs ls w1 r2 t3 r4 t5 r6 t7 hm27 hw hT hF c8 hl
      refine lv_iload_n hx hb dX6_takeWord_27 rfl (lv_at hl 3 rfl) ?_
      refine lv_aload_n hx hb dX6_takeWord_28 rfl (lv_at hl 1 rfl) ?_
      refine tk_ViT hC hK hw hA hE hSR (s_length l adK adV dC dI cy 3 (by decide) H.size) (cwV 0 hC.2.2.2.2 gX6_takeWord_J0_length_8abf5 rfl rfl rfl (by decide +kernel) ⟨Nat.le_of_ble_eq_true rfl, Nat.le_of_ble_eq_true rfl⟩) 3 (by decide) rfl rfl rfl hl.1 rfl (Nat.le_of_ble_eq_true rfl) dX6_takeWord_29 (fun r9 H locs hp10 hw => ?_)
      obtain ⟨-, hp10⟩ := hp10
      obtain rfl : r9 = 2 := hp10
      refine lv_icmp_ge (tgt := 62) hx hb dX6_takeWord_32 (by decide) (fun c11 => ?_) (fun c11 => ?_)
      · have c11 : (2 : Int) ≤ v27_3.toInt := wk_le.mp c11
        refine lv_aload_n hx hb dX6_takeWord_62 rfl (lv_at hl 0 rfl) ?_
        refine lv_iload_n hx hb dX6_takeWord_63 rfl (lv_at hl 2 rfl) ?_
        refine tk_puti hC hK hw hT hinX6 tyX6_ok nmX6 kC_at1 (by decide) rfl rfl 1 (by decide) (List.mem_of_getElem? (i := 1) rfl) rfl rfl rfl rfl (show 0 ≤ v27_2.toInt by omega) (show v27_2.toInt ≤ 400 by omega) dX6_takeWord_64 (fun H locs w12 hw hT k14 c13 => ?_)
        have hF := hF.put kC_at1 (k := 1) (by decide) k14
        refine lv_iconst (v := 1) hx hb dX6_takeWord_67 (by decide) ?_
        exact tk_zret hC hr rfl hlocks hK ⟨hT, hF, (Or.inr ⟨rfl, ⟨v27_2, c13, (show 2 ≤ v27_2.toInt by omega), (show v27_2.toInt ≤ 400 by omega)⟩⟩)⟩ hw dX6_takeWord_68
      · have c11 : v27_3.toInt < (2 : Int) := wk_leF c11
        refine lv_aload_n hx hb dX6_takeWord_35 rfl (lv_at hl 0 rfl) ?_
        refine tk_getA hC hK hw hT hinX6 kC_at1 (by decide) rfl 0 (by decide) (List.mem_of_getElem? (i := 2) rfl) rfl rfl dX6_takeWord_36 ?_
        refine lv_aload_n hx hb dX6_takeWord_39 rfl (lv_at hl 0 rfl) ?_
        refine tk_geti hC hK hw hT hinX6 kC_at1 (by decide) rfl 1 (by decide) (List.mem_of_getElem? (i := 1) rfl) rfl rfl dX6_takeWord_40 (fun x15 c16 rx15 tx15 => ?_)
        refine wk_top f27_1_1 (c16.symm.trans c8) ?_
        refine lv_iload_n hx hb dX6_takeWord_43 rfl (lv_at hl 3 rfl) ?_
        refine lv_iadd hx hb dX6_takeWord_44 ?_
        refine lv_topi (fun x17 ex17 => ?_)
        have ex17 : x17.toInt = f27_1_1.toInt + v27_3.toInt := by rw [ex17]; exact wk_add (show (-2147483648) ≤ f27_1_1.toInt + v27_3.toInt by omega) (show f27_1_1.toInt + v27_3.toInt ≤ 2147483647 by omega)
        refine tk_iald hC hK hw hT kC_at2 rfl rfl (show 0 ≤ x17.toInt by omega) (show x17.toInt < 400 by omega) dX6_takeWord_45 (fun x18 c19 rx18 tx18 => ?_)
        refine lv_aload_n hx hb dX6_takeWord_46 rfl (lv_at hl 1 rfl) ?_
        refine lv_iload_n hx hb dX6_takeWord_47 rfl (lv_at hl 3 rfl) ?_
        refine tk_ViT hC hK hw hA hE hSR (s_charAt l adK adV dC dI cy 3 (by decide) v27_3 (show 0 ≤ v27_3.toInt by omega) (show v27_3.toInt < 2 by omega) H.size) (cwV 1 hC.2.2.2.2 gX6_takeWord_J0_charAt_5068e rfl rfl rfl (by decide +kernel) ⟨Nat.le_of_ble_eq_true rfl, Nat.le_of_ble_eq_true rfl⟩) 3 (by decide) rfl rfl rfl hl.1 rfl (Nat.le_of_ble_eq_true rfl) dX6_takeWord_48 (fun r20 H locs hp21 hw => ?_)
        refine lv_icmp_eq (tgt := 56) hx hb dX6_takeWord_51 (by decide) (fun c22 => ?_) (fun c22 => ?_)
        · have c22 : x18.toInt = r20.toInt := wk_eq.mp c22
          obtain ⟨x23, ex23⟩ : ∃ y : Int32, y = v27_3 + Int32.ofInt 1 := ⟨_, rfl⟩
          refine lv_iinc (v := x23) (lv' := [(3, .int x23), (0, .ref (ad 1)), (1, .ref (adK 3)), (2, .int v27_2)]) hx hb dX6_takeWord_56 hl (k := 3) rfl ex23.symm (by decide) rfl (fun ls hl => ?_)
          have ex23 : x23.toInt = v27_3.toInt + 1 := by rw [ex23]; exact wk_add (y := 1) (show -2147483648 ≤ v27_3.toInt + 1 by omega) (show v27_3.toInt + 1 ≤ 2147483647 by omega)
          refine lv_goto (tgt := 27) hx hb dX6_takeWord_59 (by decide) ?_
          exact ih27 v27_2 x23 f27_1_1 H locs ls w1 (show 2 ≤ v27_2.toInt by omega) (show v27_2.toInt ≤ 400 by omega) (show 0 ≤ x23.toInt by omega) (show x23.toInt ≤ 2 by omega) (show 0 ≤ f27_1_1.toInt by omega) (show f27_1_1.toInt ≤ 398 by omega) (show (2 - x23.toInt).toNat < n27 by omega) hw hT hF c8 (lv_sub hl [1, 2, 3, 0] rfl)
        · have c22 : ¬ x18.toInt = r20.toInt := wk_eqF c22
          refine lv_iconst (v := 0) hx hb dX6_takeWord_54 (by decide) ?_
          exact tk_zret hC hr rfl hlocks hK ⟨hT, hF, (Or.inl rfl)⟩ hw dX6_takeWord_55
  refine lv_aload_n hx hb dX6_takeWord_0 rfl (lv_at hl 0 rfl) ?_
  refine tk_Vi hC hK hw hT hA hE hSR kC_at1 (by decide) rfl (k_X6_lookBehindBlanks_1 l adK adV dC dI cy ad B (by omega) (by omega) qr s1    w0 s.heap.size hT ) (cwV 0 hC.2.2.2.2 gX6_takeWord_X6_lookBehindBlanks rfl rfl rfl (by decide +kernel) ⟨Nat.le_of_ble_eq_true rfl, Nat.le_of_ble_eq_true rfl⟩) rfl hl.1 rfl (Nat.le_of_ble_eq_true rfl) dX6_takeWord_1 (fun r24 w26 H locs hp25 hw => ?_)
  obtain ⟨hT, k27, hg36⟩ := hp25
  have hF := hF.tr k27 (by decide)
  rcases hg36 with ⟨g28, g29, ⟨x30, c31, rx30, tx30⟩, ⟨x32, c33, rx32, tx32⟩, ⟨x34, c35, rx34, tx34⟩⟩ | rfl
  · refine lv_pop hx hb dX6_takeWord_4 rfl ?_
    refine lv_aload_n hx hb dX6_takeWord_5 rfl (lv_at hl 0 rfl) ?_
    refine tk_Vi hC hK hw hT hA hE hSR kC_at1 (by decide) rfl (k_X6_endOfWord_1 l adK adV dC dI cy ad B (by omega) (by omega) qr s1    w26 H.size hT ) (cwV 0 hC.2.2.2.2 gX6_takeWord_X6_endOfWord rfl rfl rfl (by decide +kernel) ⟨Nat.le_of_ble_eq_true rfl, Nat.le_of_ble_eq_true rfl⟩) rfl hl.1 rfl (Nat.le_of_ble_eq_true rfl) dX6_takeWord_6 (fun r37 w39 H locs hp38 hw => ?_)
    obtain ⟨hT, k40, hg43⟩ := hp38
    have hF := hF.tr k40 (by decide)
    have c44 := k40.gi kC_at1 (by decide) c31
    have c45 := k40.gi kC_at1 (by decide) c33
    have c46 := k40.gi kC_at1 (by decide) c35
    obtain ⟨g41, g42⟩ := hg43
    refine lv_istore_n (lv' := [(2, .int r37), (0, .ref (ad 1)), (1, .ref (adK 3))]) hx hb dX6_takeWord_9 rfl hl (by decide) rfl (fun ls hl => ?_)
    refine lv_iload_n hx hb dX6_takeWord_10 rfl (lv_at hl 0 rfl) ?_
    refine lv_aload_n hx hb dX6_takeWord_11 rfl (lv_at hl 1 rfl) ?_
    refine tk_geti hC hK hw hT hinX6 kC_at1 (by decide) rfl 1 (by decide) (List.mem_of_getElem? (i := 1) rfl) rfl rfl dX6_takeWord_12 (fun x47 c48 rx47 tx47 => ?_)
    refine wk_top x30 (c48.symm.trans c44) ?_
    refine lv_isub hx hb dX6_takeWord_15 ?_
    refine lv_topi (fun x49 ex49 => ?_)
    have ex49 : x49.toInt = r37.toInt - x30.toInt := by rw [ex49]; exact wk_sub (show (-2147483648) ≤ r37.toInt - x30.toInt by omega) (show r37.toInt - x30.toInt ≤ 2147483647 by omega)
    refine lv_aload_n hx hb dX6_takeWord_16 rfl (lv_at hl 2 rfl) ?_
    refine tk_ViT hC hK hw hA hE hSR (s_length l adK adV dC dI cy 3 (by decide) H.size) (cwV 0 hC.2.2.2.2 gX6_takeWord_J0_length_8abf5 rfl rfl rfl (by decide +kernel) ⟨Nat.le_of_ble_eq_true rfl, Nat.le_of_ble_eq_true rfl⟩) 3 (by decide) rfl rfl rfl hl.1 rfl (Nat.le_of_ble_eq_true rfl) dX6_takeWord_17 (fun r50 H locs hp51 hw => ?_)
    obtain ⟨-, hp51⟩ := hp51
    obtain rfl : r50 = 2 := hp51
    refine lv_icmp_eq (tgt := 25) hx hb dX6_takeWord_20 (by decide) (fun c52 => ?_) (fun c52 => ?_)
    · have c52 : x49.toInt = (2 : Int) := wk_eq.mp c52
      refine lv_iconst (v := 0) hx hb dX6_takeWord_25 (by decide) ?_
      refine lv_istore_n (lv' := [(3, .int 0), (2, .int r37), (0, .ref (ad 1)), (1, .ref (adK 3))]) hx hb dX6_takeWord_26 rfl hl (by decide) rfl (fun ls hl => ?_)
      exact L27 ((2 - (0 : Int)).toNat + 1) r37 0 x30 H locs ls w39 (show 2 ≤ r37.toInt by omega) (show r37.toInt ≤ 400 by omega) (by decide) (by decide) (show 0 ≤ x30.toInt by omega) (show x30.toInt ≤ 398 by omega) (Nat.lt_succ_self _) hw hT hF c44 (lv_sub hl [2, 3, 1, 0] rfl)
    · have c52 : ¬ x49.toInt = (2 : Int) := wk_eqF c52
      refine lv_iconst (v := 0) hx hb dX6_takeWord_23 (by decide) ?_
      exact tk_zret hC hr rfl hlocks hK ⟨hT, hF, (Or.inl rfl)⟩ hw dX6_takeWord_24
  · refine lv_pop hx hb dX6_takeWord_4 rfl ?_
    refine lv_aload_n hx hb dX6_takeWord_5 rfl (lv_at hl 0 rfl) ?_
    refine tk_Vi hC hK hw hT hA hE hSR kC_at1 (by decide) rfl (k_X6_endOfWord_1 l adK adV dC dI cy ad B (by omega) (by omega) qr s1    w26 H.size hT ) (cwV 0 hC.2.2.2.2 gX6_takeWord_X6_endOfWord rfl rfl rfl (by decide +kernel) ⟨Nat.le_of_ble_eq_true rfl, Nat.le_of_ble_eq_true rfl⟩) rfl hl.1 rfl (Nat.le_of_ble_eq_true rfl) dX6_takeWord_6 (fun r53 w55 H locs hp54 hw => ?_)
    obtain ⟨hT, k56, hg59⟩ := hp54
    have hF := hF.tr k56 (by decide)
    obtain ⟨g57, g58⟩ := hg59
    refine lv_istore_n (lv' := [(2, .int r53), (0, .ref (ad 1)), (1, .ref (adK 3))]) hx hb dX6_takeWord_9 rfl hl (by decide) rfl (fun ls hl => ?_)
    refine lv_iload_n hx hb dX6_takeWord_10 rfl (lv_at hl 0 rfl) ?_
    refine lv_aload_n hx hb dX6_takeWord_11 rfl (lv_at hl 1 rfl) ?_
    refine tk_geti hC hK hw hT hinX6 kC_at1 (by decide) rfl 1 (by decide) (List.mem_of_getElem? (i := 1) rfl) rfl rfl dX6_takeWord_12 (fun x60 c61 rx60 tx60 => ?_)
    refine lv_isub hx hb dX6_takeWord_15 ?_
    refine lv_topi (fun x62 ex62 => ?_)
    have ex62 : x62.toInt = r53.toInt - x60.toInt := by rw [ex62]; exact wk_sub (show (-2147483648) ≤ r53.toInt - x60.toInt by omega) (show r53.toInt - x60.toInt ≤ 2147483647 by omega)
    refine lv_aload_n hx hb dX6_takeWord_16 rfl (lv_at hl 2 rfl) ?_
    refine tk_ViT hC hK hw hA hE hSR (s_length l adK adV dC dI cy 3 (by decide) H.size) (cwV 0 hC.2.2.2.2 gX6_takeWord_J0_length_8abf5 rfl rfl rfl (by decide +kernel) ⟨Nat.le_of_ble_eq_true rfl, Nat.le_of_ble_eq_true rfl⟩) 3 (by decide) rfl rfl rfl hl.1 rfl (Nat.le_of_ble_eq_true rfl) dX6_takeWord_17 (fun r63 H locs hp64 hw => ?_)
    obtain ⟨-, hp64⟩ := hp64
    obtain rfl : r63 = 2 := hp64
    refine lv_icmp_eq (tgt := 25) hx hb dX6_takeWord_20 (by decide) (fun c65 => ?_) (fun c65 => ?_)
    · have c65 : x62.toInt = (2 : Int) := wk_eq.mp c65
      refine lv_iconst (v := 0) hx hb dX6_takeWord_25 (by decide) ?_
      refine lv_istore_n (lv' := [(3, .int 0), (2, .int r53), (0, .ref (ad 1)), (1, .ref (adK 3))]) hx hb dX6_takeWord_26 rfl hl (by decide) rfl (fun ls hl => ?_)
      exact L27 ((2 - (0 : Int)).toNat + 1) r53 0 x60 H locs ls w55 (show 2 ≤ r53.toInt by omega) (show r53.toInt ≤ 400 by omega) (by decide) (by decide) (show 0 ≤ x60.toInt by omega) (show x60.toInt ≤ 398 by omega) (Nat.lt_succ_self _) hw hT hF c61 (lv_sub hl [2, 3, 1, 0] rfl)
    · have c65 : ¬ x62.toInt = (2 : Int) := wk_eqF c65
      refine lv_iconst (v := 0) hx hb dX6_takeWord_23 (by decide) ?_
      exact tk_zret hC hr rfl hlocks hK ⟨hT, hF, (Or.inl rfl)⟩ hw dX6_takeWord_24
abbrev P_X2_addToken_1 (ad : Nat → Nat) (cy : Nat → ClassId) (B : Int) (qr : Nat) (s1 : Int) (q0_ : Nat) (a1 : Int32) (w0 : va_W) : va_W → Prop := fun u => TW ksC ad cy B qr s1 u ∧ FE ksC [(2, 3, 3), (22, 0, 13), (23, 0, 400)] w0 u ∧ (((∃ y : Int32, gi u q0_ 3 = y ∧ 1 ≤ y.toInt ∧ y.toInt ≤ 400)))
set_option maxHeartbeats 4000000 in
set_option maxRecDepth 100000 in
theorem k_X2_addToken_1 (l : Launch) (adK adV : Nat → Nat) (dC : Nat → ClassId) (dI : Nat → Nat → Nat) (cy : Nat → ClassId) (ad : Nat → Nat) (B : Int) (hB0 : 2147483648 ≤ B) (hB1 : B ≤ 1152921504606846976) (qr : Nat) (s1 : Int)  (q0_ : Nat) (hkq0_ : ksC[q0_]? = some 2) (a1 : Int32) (w0 : va_W) (sz : Nat) (hT : TW ksC ad cy B qr s1 w0)  : Met l yX2_addToken wsX2_addToken ({ frames := 1, cells := 0, slots := 0, locals := 12 }) (va_Pc [.ref (ad q0_), .int a1] (wpreS adK adV dC dI cy sz w0)) (va_Qv (P_X2_addToken_1 ad cy B qr s1 q0_ a1 w0) (fun u : va_W => wpost dC dI cy (va_A w0 sz) u) (va_A w0 sz)) 0 0 (va_A w0 sz) := by
  refine Met.ofW (cc := cX2_addToken) (maxL := 2) (ret := none) (by decide) rfl ?_
  intro p e s m args below meth c s₁ Bk hml hv
  obtain ⟨rfl, ⟨hsz, hP, hK, hD0⟩, hE, hSR⟩ := hv
  have hx := Bk.exec
  have hb := Bk.bytes
  have hr := Bk.returns
  have hlocks := Bk.notSynchronized
  have hC : CallFix p m c cX2_addToken 2 s _ wsX2_addToken RX2 := ⟨hx, hb, hml, findClass_of_methodNamed Bk.named, atoms_spec (ws := wsX2_addToken) Bk.pre⟩
  subst hsz
  have hD := hD0.self (sz := s.heap.size)
  generalize hAe : va_A w0 s.heap.size = A at hD hE ⊢
  have hA : ∀ q : Nat, s.heap.size ≤ q → A q := fun q h => by rw [← hAe]; exact Or.inr h
  have hw : Wd dC dI A s.heap s.heap [] w0 := ⟨hP, hD, va_S.rf⟩
  have hF : FE ksC [(2, 3, 3), (22, 0, 13), (23, 0, 400)] w0 w0 := FE.rf
  have hl := lv_entry ([.ref (ad q0_), .int a1]) (n := 2) (Nat.le_of_ble_eq_true rfl)
  rw [lg_entry_eq]
  generalize (lg_sl ([.ref (ad q0_), .int a1]) ++ List.replicate (2 - (lg_sl ([.ref (ad q0_), .int a1])).length) Slot.unset).toArray = ls at hl ⊢
  have hl : lv_has ls 2 [(0, .ref (ad q0_)), (1, .int a1)] := hl
  generalize hloc : ([] : List Loc) = locs at hw ⊢
  have hinX2 : ∀ w ∈ u_ws RX2 TX2 6, w ∈ wsX2_addToken := fun _ h => List.mem_cons_of_mem _ (List.mem_append_right _ (h))
  have J43 : ∀ (f43_q0__3 : Int32) (H : Heap) (locs : List Loc) (ls : Array Slot) (w1 : va_W), 1 ≤ f43_q0__3.toInt → f43_q0__3.toInt ≤ 400 → Wd dC dI A s.heap H locs w1 → TW ksC ad cy B qr s1 w1 → FE ksC [(2, 3, 3), (22, 0, 13), (23, 0, 400)] w0 w1 → gi w1 q0_ 3 = f43_q0__3 → lv_has ls 2 [(0, .ref (ad q0_)), (1, .int a1)] → W p l e ({ frames := 1, cells := 0, slots := 0, locals := 12 }) s m (List.toArray [.ref (ad q0_), .int a1]) below meth c H locs 0 0 (MQ below (va_Qv (P_X2_addToken_1 ad cy B qr s1 q0_ a1 w0) (fun u : va_W => wpost dC dI cy A u) A) (List.toArray [.ref (ad q0_), .int a1]) s 0 0 A) (F0 m 43 ls []) := by
    intro f43_q0__3 H locs ls w1 r2 t3 hw hT hF c4 hl
    exact tk_vret hC hr hlocks hK ⟨hT, hF, ⟨f43_q0__3, c4, (show 1 ≤ f43_q0__3.toInt by omega), (show f43_q0__3.toInt ≤ 400 by omega)⟩⟩ hw dX2_addToken_43
  refine lv_aload_n hx hb dX2_addToken_0 rfl (lv_at hl 0 rfl) ?_
  refine tk_geti hC hK hw hT hinX2 hkq0_ (by decide) rfl 3 (by decide) (List.mem_of_getElem? (i := 1) rfl) rfl rfl dX2_addToken_1 (fun x5 c6 rx5 tx5 => ?_)
  refine lv_sipush (v := 400) hx hb dX2_addToken_4 (by decide) ?_
  refine lv_icmp_ge (tgt := 43) hx hb dX2_addToken_7 (by decide) (fun c7 => ?_) (fun c7 => ?_)
  · have c7 : (400 : Int) ≤ x5.toInt := wk_le.mp c7
    exact J43 x5 s.heap locs ls w0 (show 1 ≤ x5.toInt by omega) (show x5.toInt ≤ 400 by omega)  hw hT hF c6 (lv_sub hl [0, 1] rfl)
  · have c7 : x5.toInt < (400 : Int) := wk_leF c7
    refine lv_aload_n hx hb dX2_addToken_10 rfl (lv_at hl 0 rfl) ?_
    refine tk_getO hC hK hw hT hinX2 hkq0_ (by decide) rfl 2 (by decide) (List.mem_of_getElem? (i := 2) rfl) rfl rfl dX2_addToken_11 ?_
    refine lv_aload_n hx hb dX2_addToken_14 rfl (lv_at hl 0 rfl) ?_
    refine tk_geti hC hK hw hT hinX2 hkq0_ (by decide) rfl 3 (by decide) (List.mem_of_getElem? (i := 1) rfl) rfl rfl dX2_addToken_15 (fun x8 c9 rx8 tx8 => ?_)
    refine wk_top x5 (c9.symm.trans c6) ?_
    refine lv_iload_n hx hb dX2_addToken_18 rfl (lv_at hl 1 rfl) ?_
    refine tk_iast hC hK hw hT (kC_2_3 hkq0_) (by decide) rfl rfl (show 0 ≤ x5.toInt by omega) (show x5.toInt < 400 by omega) (wk_i32 a1).1 (wk_i32 a1).2 dX2_addToken_19 (fun H locs w10 hw hT k12 c11 => ?_)
    have hF := hF.put (kC_2_3 hkq0_) (inE_of (a := 0) (b := 400) (by decide) (show 0 ≤ x5.toInt.toNat by omega) (show x5.toInt.toNat ≤ 400 by omega)) k12
    have c13 := k12.gi (Or.inl (tk_ne hkq0_ (kC_2_3 hkq0_) (by decide))) c6
    refine lv_aload_n hx hb dX2_addToken_20 rfl (lv_at hl 0 rfl) ?_
    refine lv_dup hx hb dX2_addToken_21 rfl ?_
    refine tk_geti hC hK hw hT hinX2 hkq0_ (by decide) rfl 3 (by decide) (List.mem_of_getElem? (i := 1) rfl) rfl rfl dX2_addToken_22 (fun x14 c15 rx14 tx14 => ?_)
    refine wk_top x5 (c15.symm.trans c13) ?_
    refine lv_iconst (v := 1) hx hb dX2_addToken_25 (by decide) ?_
    refine lv_iadd hx hb dX2_addToken_26 ?_
    refine lv_topi (fun x16 ex16 => ?_)
    have ex16 : x16.toInt = x5.toInt + (1 : Int) := by rw [ex16]; exact wk_add (show (-2147483648) ≤ x5.toInt + (1 : Int) by omega) (show x5.toInt + (1 : Int) ≤ 2147483647 by omega)
    refine tk_puti hC hK hw hT hinX2 tyX2_ok nmX2 hkq0_ (by decide) rfl rfl 3 (by decide) (List.mem_of_getElem? (i := 1) rfl) rfl rfl rfl rfl (show 0 ≤ x16.toInt by omega) (show x16.toInt ≤ 400 by omega) dX2_addToken_27 (fun H locs w17 hw hT k19 c18 => ?_)
    have hF := hF.put hkq0_ (k := 3) (by decide) k19
    refine lv_aload_n hx hb dX2_addToken_30 rfl (lv_at hl 0 rfl) ?_
    refine tk_getO hC hK hw hT hinX2 hkq0_ (by decide) rfl 1 (by decide) (List.mem_of_getElem? (i := 3) rfl) rfl rfl dX2_addToken_31 ?_
    refine lv_aload_n hx hb dX2_addToken_34 rfl (lv_at hl 0 rfl) ?_
    refine tk_geti hC hK hw hT hinX2 hkq0_ (by decide) rfl 4 (by decide) (List.mem_of_getElem? (i := 4) rfl) rfl rfl dX2_addToken_35 (fun x20 c21 rx20 tx20 => ?_)
    refine lv_aload_n hx hb dX2_addToken_38 rfl (lv_at hl 0 rfl) ?_
    refine tk_geti hC hK hw hT hinX2 hkq0_ (by decide) rfl 3 (by decide) (List.mem_of_getElem? (i := 1) rfl) rfl rfl dX2_addToken_39 (fun x22 c23 rx22 tx22 => ?_)
    refine wk_top x16 (c23.symm.trans c18) ?_
    refine tk_iast hC hK hw hT (kC_2_2 hkq0_) (by decide) rfl rfl (show 0 ≤ x20.toInt by omega) (show x20.toInt < 13 by omega) (show 0 ≤ x16.toInt by omega) (show x16.toInt ≤ 400 by omega) dX2_addToken_42 (fun H locs w24 hw hT k26 c25 => ?_)
    have hF := hF.put (kC_2_2 hkq0_) (inE_of (a := 0) (b := 13) (by decide) (show 0 ≤ x20.toInt.toNat by omega) (show x20.toInt.toNat ≤ 13 by omega)) k26
    have c27 := k26.gi (Or.inl (tk_ne hkq0_ (kC_2_2 hkq0_) (by decide))) c18
    have c28 := k26.gi (Or.inl (tk_ne hkq0_ (kC_2_2 hkq0_) (by decide))) c21
    exact J43 x16 H locs ls w24 (show 1 ≤ x16.toInt by omega) (show x16.toInt ≤ 400 by omega)  hw hT hF c27 (lv_sub hl [0, 1] rfl)
abbrev P_X3_addWaiting_1 (ad : Nat → Nat) (cy : Nat → ClassId) (B : Int) (qr : Nat) (s1 : Int) (a1 : Int32) (w0 : va_W) : va_W → Prop := fun u => TW ksC ad cy B qr s1 u ∧ FE ksC [(2, 3, 3), (22, 0, 13), (23, 0, 400)] w0 u ∧ ((True))
set_option maxHeartbeats 4000000 in
set_option maxRecDepth 100000 in
theorem k_X3_addWaiting_1 (l : Launch) (adK adV : Nat → Nat) (dC : Nat → ClassId) (dI : Nat → Nat → Nat) (cy : Nat → ClassId) (ad : Nat → Nat) (B : Int) (hB0 : 2147483648 ≤ B) (hB1 : B ≤ 1152921504606846976) (qr : Nat) (s1 : Int) (hqr : ksC[qr]? = some 2) (a1 : Int32) (w0 : va_W) (sz : Nat) (hT : TW ksC ad cy B qr s1 w0)  : Met l yX3_addWaiting wsX3_addWaiting ({ frames := 2, cells := 0, slots := 0, locals := 33 }) (va_Pc [.ref (ad 3), .int a1] (wpreS adK adV dC dI cy sz w0)) (va_Qv (P_X3_addWaiting_1 ad cy B qr s1 a1 w0) (fun u : va_W => wpost dC dI cy (va_A w0 sz) u) (va_A w0 sz)) 0 0 (va_A w0 sz) := by
  refine Met.ofW (cc := cX3_addWaiting) (maxL := 2) (ret := none) (by decide) rfl ?_
  intro p e s m args below meth c s₁ Bk hml hv
  obtain ⟨rfl, ⟨hsz, hP, hK, hD0⟩, hE, hSR⟩ := hv
  have hx := Bk.exec
  have hb := Bk.bytes
  have hr := Bk.returns
  have hlocks := Bk.notSynchronized
  have hC : CallFix p m c cX3_addWaiting 2 s _ wsX3_addWaiting RX3 := ⟨hx, hb, hml, findClass_of_methodNamed Bk.named, atoms_spec (ws := wsX3_addWaiting) Bk.pre⟩
  subst hsz
  have hD := hD0.self (sz := s.heap.size)
  generalize hAe : va_A w0 s.heap.size = A at hD hE ⊢
  have hA : ∀ q : Nat, s.heap.size ≤ q → A q := fun q h => by rw [← hAe]; exact Or.inr h
  have hw : Wd dC dI A s.heap s.heap [] w0 := ⟨hP, hD, va_S.rf⟩
  have hF : FE ksC [(2, 3, 3), (22, 0, 13), (23, 0, 400)] w0 w0 := FE.rf
  have hl := lv_entry ([.ref (ad 3), .int a1]) (n := 2) (Nat.le_of_ble_eq_true rfl)
  rw [lg_entry_eq]
  generalize (lg_sl ([.ref (ad 3), .int a1]) ++ List.replicate (2 - (lg_sl ([.ref (ad 3), .int a1])).length) Slot.unset).toArray = ls at hl ⊢
  have hl : lv_has ls 2 [(0, .ref (ad 3)), (1, .int a1)] := hl
  generalize hloc : ([] : List Loc) = locs at hw ⊢
  have hinX3 : ∀ w ∈ u_ws RX3 TX3 3, w ∈ wsX3_addWaiting := fun _ h => List.mem_cons_of_mem _ (List.mem_append_left _ (List.mem_append_right _ (h)))
  have J13 : ∀ (H : Heap) (locs : List Loc) (ls : Array Slot) (w1 : va_W), Wd dC dI A s.heap H locs w1 → TW ksC ad cy B qr s1 w1 → FE ksC [(2, 3, 3), (22, 0, 13), (23, 0, 400)] w0 w1 → lv_has ls 2 [(0, .ref (ad 3)), (1, .int a1)] → W p l e ({ frames := 2, cells := 0, slots := 0, locals := 33 }) s m (List.toArray [.ref (ad 3), .int a1]) below meth c H locs 0 0 (MQ below (va_Qv (P_X3_addWaiting_1 ad cy B qr s1 a1 w0) (fun u : va_W => wpost dC dI cy A u) A) (List.toArray [.ref (ad 3), .int a1]) s 0 0 A) (F0 m 13 ls []) := by
    intro H locs ls w1 hw hT hF hl
    exact tk_vret hC hr hlocks hK ⟨hT, hF, trivial⟩ hw dX3_addWaiting_13
  refine lv_iload_n hx hb dX3_addWaiting_0 rfl (lv_at hl 1 rfl) ?_
  refine lv_iconst (v := (-1)) hx hb dX3_addWaiting_1 (by decide) ?_
  refine lv_icmp_eq (tgt := 13) hx hb dX3_addWaiting_2 (by decide) (fun c2 => ?_) (fun c2 => ?_)
  · have c2 : a1.toInt = (-1 : Int) := wk_eq.mp c2
    exact J13  s.heap locs ls w0   hw hT hF  (lv_sub hl [0, 1] rfl)
  · have c2 : ¬ a1.toInt = (-1 : Int) := wk_eqF c2
    refine lv_aload_n hx hb dX3_addWaiting_5 rfl (lv_at hl 0 rfl) ?_
    refine tk_getQ hC hK hw hT hqr (by decide) hinX3 kC_at3 (by decide) rfl 1 (by decide) (List.mem_of_getElem? (i := 1) rfl) rfl rfl dX3_addWaiting_6 ?_
    refine lv_iload_n hx hb dX3_addWaiting_9 rfl (lv_at hl 1 rfl) ?_
    refine tk_Vv hC hK hw hT hA hE hSR hqr (by decide) rfl (k_X2_addToken_1 l adK adV dC dI cy ad B (by omega) (by omega) qr s1   qr hqr a1 w0 s.heap.size hT ) (cwV 1 hC.2.2.2.2 gX3_addWaiting_X2_addToken rfl rfl rfl (by decide +kernel) ⟨Nat.le_of_ble_eq_true rfl, Nat.le_of_ble_eq_true rfl⟩) rfl hl.1 rfl (Nat.le_of_ble_eq_true rfl) dX3_addWaiting_10 (fun w5 H locs hp4 hw => ?_)
    obtain ⟨hT, k6, hg9⟩ := hp4
    have hF := hF.tr k6 (by decide)
    obtain ⟨x7, c8, rx7, tx7⟩ := hg9
    exact J13  H locs ls w5   hw hT hF  (lv_sub hl [0, 1] rfl)
abbrev P_X6_takeWord_2 (ad : Nat → Nat) (cy : Nat → ClassId) (B : Int) (qr : Nat) (s1 : Int)  (w0 : va_W) : Int32 → va_W → Prop := fun r u => TW ksC ad cy B qr s1 u ∧ FE ksC [(6, 1, 1), (6, 3, 3)] w0 u ∧ ((r = 0) ∨ (r = 1 ∧ (∃ y : Int32, gi u 1 1 = y ∧ 3 ≤ y.toInt ∧ y.toInt ≤ 400)))
set_option maxHeartbeats 4000000 in
set_option maxRecDepth 100000 in
theorem k_X6_takeWord_2 (l : Launch) (adK adV : Nat → Nat) (dC : Nat → ClassId) (dI : Nat → Nat → Nat) (cy : Nat → ClassId) (ad : Nat → Nat) (B : Int) (hB0 : 2147483648 ≤ B) (hB1 : B ≤ 1152921504606846976) (qr : Nat) (s1 : Int)   (w0 : va_W) (sz : Nat) (hT : TW ksC ad cy B qr s1 w0)  : Met l yX6_takeWord wsX6_takeWord ({ frames := 5, cells := 0, slots := 0, locals := 141 }) (va_Pc [.ref (ad 1), .ref (adK 6)] (wpreS adK adV dC dI cy sz w0)) (va_Qi (P_X6_takeWord_2 ad cy B qr s1  w0) (fun u : va_W => wpost dC dI cy (va_A w0 sz) u) (va_A w0 sz)) 0 0 (va_A w0 sz) := by
  refine Met.ofW (cc := cX6_takeWord) (maxL := 4) (ret := (some .boolean)) (by decide) rfl ?_
  intro p e s m args below meth c s₁ Bk hml hv
  obtain ⟨rfl, ⟨hsz, hP, hK, hD0⟩, hE, hSR⟩ := hv
  have hx := Bk.exec
  have hb := Bk.bytes
  have hr := Bk.returns
  have hlocks := Bk.notSynchronized
  have hC : CallFix p m c cX6_takeWord 4 s _ wsX6_takeWord RX6 := ⟨hx, hb, hml, findClass_of_methodNamed Bk.named, atoms_spec (ws := wsX6_takeWord) Bk.pre⟩
  subst hsz
  have hD := hD0.self (sz := s.heap.size)
  generalize hAe : va_A w0 s.heap.size = A at hD hE ⊢
  have hA : ∀ q : Nat, s.heap.size ≤ q → A q := fun q h => by rw [← hAe]; exact Or.inr h
  have hw : Wd dC dI A s.heap s.heap [] w0 := ⟨hP, hD, va_S.rf⟩
  have hF : FE ksC [(6, 1, 1), (6, 3, 3)] w0 w0 := FE.rf
  have hl := lv_entry ([.ref (ad 1), .ref (adK 6)]) (n := 4) (Nat.le_of_ble_eq_true rfl)
  rw [lg_entry_eq]
  generalize (lg_sl ([.ref (ad 1), .ref (adK 6)]) ++ List.replicate (4 - (lg_sl ([.ref (ad 1), .ref (adK 6)])).length) Slot.unset).toArray = ls at hl ⊢
  have hl : lv_has ls 4 [(0, .ref (ad 1)), (1, .ref (adK 6))] := hl
  generalize hloc : ([] : List Loc) = locs at hw ⊢
  have hinX6 : ∀ w ∈ u_ws RX6 TX6 5, w ∈ wsX6_takeWord := fun _ h => List.mem_cons_of_mem _ (List.mem_append_right _ (h))
  have L27 : ∀ (n27 : Nat) (v27_2 : Int32) (v27_3 : Int32) (f27_1_1 : Int32) (H : Heap) (locs : List Loc) (ls : Array Slot) (w1 : va_W), 3 ≤ v27_2.toInt → v27_2.toInt ≤ 400 → 0 ≤ v27_3.toInt → v27_3.toInt ≤ 3 → 0 ≤ f27_1_1.toInt → f27_1_1.toInt ≤ 397 → (3 - v27_3.toInt).toNat < n27 → Wd dC dI A s.heap H locs w1 → TW ksC ad cy B qr s1 w1 → FE ksC [(6, 1, 1), (6, 3, 3)] w0 w1 → gi w1 1 1 = f27_1_1 → lv_has ls 4 [(0, .ref (ad 1)), (1, .ref (adK 6)), (2, .int v27_2), (3, .int v27_3)] → W p l e ({ frames := 5, cells := 0, slots := 0, locals := 141 }) s m (List.toArray [.ref (ad 1), .ref (adK 6)]) below meth c H locs 0 0 (MQ below (va_Qi (P_X6_takeWord_2 ad cy B qr s1  w0) (fun u : va_W => wpost dC dI cy A u) A) (List.toArray [.ref (ad 1), .ref (adK 6)]) s 0 0 A) (F0 m 27 ls []) := by
    intro n27
    induction n27 with
    | zero => intro v27_2 v27_3 f27_1_1 H locs ls w1 r2 t3 r4 t5 r6 t7 hm27 hw hT hF c8 hl; omega
    | succ n27 ih27 =>
      intro v27_2 v27_3 f27_1_1 H locs ls w1 r2 t3 r4 t5 r6 t7 hm27 hw hT hF c8 hl
      refine lv_iload_n hx hb dX6_takeWord_27 rfl (lv_at hl 3 rfl) ?_
      refine lv_aload_n hx hb dX6_takeWord_28 rfl (lv_at hl 1 rfl) ?_
      refine tk_ViT hC hK hw hA hE hSR (s_length l adK adV dC dI cy 6 (by decide) H.size) (cwV 0 hC.2.2.2.2 gX6_takeWord_J0_length_8abf5 rfl rfl rfl (by decide +kernel) ⟨Nat.le_of_ble_eq_true rfl, Nat.le_of_ble_eq_true rfl⟩) 6 (by decide) rfl rfl rfl hl.1 rfl (Nat.le_of_ble_eq_true rfl) dX6_takeWord_29 (fun r9 H locs hp10 hw => ?_)
      obtain ⟨-, hp10⟩ := hp10
      obtain rfl : r9 = 3 := hp10
      refine lv_icmp_ge (tgt := 62) hx hb dX6_takeWord_32 (by decide) (fun c11 => ?_) (fun c11 => ?_)
      · have c11 : (3 : Int) ≤ v27_3.toInt := wk_le.mp c11
        refine lv_aload_n hx hb dX6_takeWord_62 rfl (lv_at hl 0 rfl) ?_
        refine lv_iload_n hx hb dX6_takeWord_63 rfl (lv_at hl 2 rfl) ?_
        refine tk_puti hC hK hw hT hinX6 tyX6_ok nmX6 kC_at1 (by decide) rfl rfl 1 (by decide) (List.mem_of_getElem? (i := 1) rfl) rfl rfl rfl rfl (show 0 ≤ v27_2.toInt by omega) (show v27_2.toInt ≤ 400 by omega) dX6_takeWord_64 (fun H locs w12 hw hT k14 c13 => ?_)
        have hF := hF.put kC_at1 (k := 1) (by decide) k14
        refine lv_iconst (v := 1) hx hb dX6_takeWord_67 (by decide) ?_
        exact tk_zret hC hr rfl hlocks hK ⟨hT, hF, (Or.inr ⟨rfl, ⟨v27_2, c13, (show 3 ≤ v27_2.toInt by omega), (show v27_2.toInt ≤ 400 by omega)⟩⟩)⟩ hw dX6_takeWord_68
      · have c11 : v27_3.toInt < (3 : Int) := wk_leF c11
        refine lv_aload_n hx hb dX6_takeWord_35 rfl (lv_at hl 0 rfl) ?_
        refine tk_getA hC hK hw hT hinX6 kC_at1 (by decide) rfl 0 (by decide) (List.mem_of_getElem? (i := 2) rfl) rfl rfl dX6_takeWord_36 ?_
        refine lv_aload_n hx hb dX6_takeWord_39 rfl (lv_at hl 0 rfl) ?_
        refine tk_geti hC hK hw hT hinX6 kC_at1 (by decide) rfl 1 (by decide) (List.mem_of_getElem? (i := 1) rfl) rfl rfl dX6_takeWord_40 (fun x15 c16 rx15 tx15 => ?_)
        refine wk_top f27_1_1 (c16.symm.trans c8) ?_
        refine lv_iload_n hx hb dX6_takeWord_43 rfl (lv_at hl 3 rfl) ?_
        refine lv_iadd hx hb dX6_takeWord_44 ?_
        refine lv_topi (fun x17 ex17 => ?_)
        have ex17 : x17.toInt = f27_1_1.toInt + v27_3.toInt := by rw [ex17]; exact wk_add (show (-2147483648) ≤ f27_1_1.toInt + v27_3.toInt by omega) (show f27_1_1.toInt + v27_3.toInt ≤ 2147483647 by omega)
        refine tk_iald hC hK hw hT kC_at2 rfl rfl (show 0 ≤ x17.toInt by omega) (show x17.toInt < 400 by omega) dX6_takeWord_45 (fun x18 c19 rx18 tx18 => ?_)
        refine lv_aload_n hx hb dX6_takeWord_46 rfl (lv_at hl 1 rfl) ?_
        refine lv_iload_n hx hb dX6_takeWord_47 rfl (lv_at hl 3 rfl) ?_
        refine tk_ViT hC hK hw hA hE hSR (s_charAt l adK adV dC dI cy 6 (by decide) v27_3 (show 0 ≤ v27_3.toInt by omega) (show v27_3.toInt < 3 by omega) H.size) (cwV 1 hC.2.2.2.2 gX6_takeWord_J0_charAt_5068e rfl rfl rfl (by decide +kernel) ⟨Nat.le_of_ble_eq_true rfl, Nat.le_of_ble_eq_true rfl⟩) 6 (by decide) rfl rfl rfl hl.1 rfl (Nat.le_of_ble_eq_true rfl) dX6_takeWord_48 (fun r20 H locs hp21 hw => ?_)
        refine lv_icmp_eq (tgt := 56) hx hb dX6_takeWord_51 (by decide) (fun c22 => ?_) (fun c22 => ?_)
        · have c22 : x18.toInt = r20.toInt := wk_eq.mp c22
          obtain ⟨x23, ex23⟩ : ∃ y : Int32, y = v27_3 + Int32.ofInt 1 := ⟨_, rfl⟩
          refine lv_iinc (v := x23) (lv' := [(3, .int x23), (0, .ref (ad 1)), (1, .ref (adK 6)), (2, .int v27_2)]) hx hb dX6_takeWord_56 hl (k := 3) rfl ex23.symm (by decide) rfl (fun ls hl => ?_)
          have ex23 : x23.toInt = v27_3.toInt + 1 := by rw [ex23]; exact wk_add (y := 1) (show -2147483648 ≤ v27_3.toInt + 1 by omega) (show v27_3.toInt + 1 ≤ 2147483647 by omega)
          refine lv_goto (tgt := 27) hx hb dX6_takeWord_59 (by decide) ?_
          exact ih27 v27_2 x23 f27_1_1 H locs ls w1 (show 3 ≤ v27_2.toInt by omega) (show v27_2.toInt ≤ 400 by omega) (show 0 ≤ x23.toInt by omega) (show x23.toInt ≤ 3 by omega) (show 0 ≤ f27_1_1.toInt by omega) (show f27_1_1.toInt ≤ 397 by omega) (show (3 - x23.toInt).toNat < n27 by omega) hw hT hF c8 (lv_sub hl [1, 2, 3, 0] rfl)
        · have c22 : ¬ x18.toInt = r20.toInt := wk_eqF c22
          refine lv_iconst (v := 0) hx hb dX6_takeWord_54 (by decide) ?_
          exact tk_zret hC hr rfl hlocks hK ⟨hT, hF, (Or.inl rfl)⟩ hw dX6_takeWord_55
  refine lv_aload_n hx hb dX6_takeWord_0 rfl (lv_at hl 0 rfl) ?_
  refine tk_Vi hC hK hw hT hA hE hSR kC_at1 (by decide) rfl (k_X6_lookBehindBlanks_1 l adK adV dC dI cy ad B (by omega) (by omega) qr s1    w0 s.heap.size hT ) (cwV 0 hC.2.2.2.2 gX6_takeWord_X6_lookBehindBlanks rfl rfl rfl (by decide +kernel) ⟨Nat.le_of_ble_eq_true rfl, Nat.le_of_ble_eq_true rfl⟩) rfl hl.1 rfl (Nat.le_of_ble_eq_true rfl) dX6_takeWord_1 (fun r24 w26 H locs hp25 hw => ?_)
  obtain ⟨hT, k27, hg36⟩ := hp25
  have hF := hF.tr k27 (by decide)
  rcases hg36 with ⟨g28, g29, ⟨x30, c31, rx30, tx30⟩, ⟨x32, c33, rx32, tx32⟩, ⟨x34, c35, rx34, tx34⟩⟩ | rfl
  · refine lv_pop hx hb dX6_takeWord_4 rfl ?_
    refine lv_aload_n hx hb dX6_takeWord_5 rfl (lv_at hl 0 rfl) ?_
    refine tk_Vi hC hK hw hT hA hE hSR kC_at1 (by decide) rfl (k_X6_endOfWord_1 l adK adV dC dI cy ad B (by omega) (by omega) qr s1    w26 H.size hT ) (cwV 0 hC.2.2.2.2 gX6_takeWord_X6_endOfWord rfl rfl rfl (by decide +kernel) ⟨Nat.le_of_ble_eq_true rfl, Nat.le_of_ble_eq_true rfl⟩) rfl hl.1 rfl (Nat.le_of_ble_eq_true rfl) dX6_takeWord_6 (fun r37 w39 H locs hp38 hw => ?_)
    obtain ⟨hT, k40, hg43⟩ := hp38
    have hF := hF.tr k40 (by decide)
    have c44 := k40.gi kC_at1 (by decide) c31
    have c45 := k40.gi kC_at1 (by decide) c33
    have c46 := k40.gi kC_at1 (by decide) c35
    obtain ⟨g41, g42⟩ := hg43
    refine lv_istore_n (lv' := [(2, .int r37), (0, .ref (ad 1)), (1, .ref (adK 6))]) hx hb dX6_takeWord_9 rfl hl (by decide) rfl (fun ls hl => ?_)
    refine lv_iload_n hx hb dX6_takeWord_10 rfl (lv_at hl 0 rfl) ?_
    refine lv_aload_n hx hb dX6_takeWord_11 rfl (lv_at hl 1 rfl) ?_
    refine tk_geti hC hK hw hT hinX6 kC_at1 (by decide) rfl 1 (by decide) (List.mem_of_getElem? (i := 1) rfl) rfl rfl dX6_takeWord_12 (fun x47 c48 rx47 tx47 => ?_)
    refine wk_top x30 (c48.symm.trans c44) ?_
    refine lv_isub hx hb dX6_takeWord_15 ?_
    refine lv_topi (fun x49 ex49 => ?_)
    have ex49 : x49.toInt = r37.toInt - x30.toInt := by rw [ex49]; exact wk_sub (show (-2147483648) ≤ r37.toInt - x30.toInt by omega) (show r37.toInt - x30.toInt ≤ 2147483647 by omega)
    refine lv_aload_n hx hb dX6_takeWord_16 rfl (lv_at hl 2 rfl) ?_
    refine tk_ViT hC hK hw hA hE hSR (s_length l adK adV dC dI cy 6 (by decide) H.size) (cwV 0 hC.2.2.2.2 gX6_takeWord_J0_length_8abf5 rfl rfl rfl (by decide +kernel) ⟨Nat.le_of_ble_eq_true rfl, Nat.le_of_ble_eq_true rfl⟩) 6 (by decide) rfl rfl rfl hl.1 rfl (Nat.le_of_ble_eq_true rfl) dX6_takeWord_17 (fun r50 H locs hp51 hw => ?_)
    obtain ⟨-, hp51⟩ := hp51
    obtain rfl : r50 = 3 := hp51
    refine lv_icmp_eq (tgt := 25) hx hb dX6_takeWord_20 (by decide) (fun c52 => ?_) (fun c52 => ?_)
    · have c52 : x49.toInt = (3 : Int) := wk_eq.mp c52
      refine lv_iconst (v := 0) hx hb dX6_takeWord_25 (by decide) ?_
      refine lv_istore_n (lv' := [(3, .int 0), (2, .int r37), (0, .ref (ad 1)), (1, .ref (adK 6))]) hx hb dX6_takeWord_26 rfl hl (by decide) rfl (fun ls hl => ?_)
      exact L27 ((3 - (0 : Int)).toNat + 1) r37 0 x30 H locs ls w39 (show 3 ≤ r37.toInt by omega) (show r37.toInt ≤ 400 by omega) (by decide) (by decide) (show 0 ≤ x30.toInt by omega) (show x30.toInt ≤ 397 by omega) (Nat.lt_succ_self _) hw hT hF c44 (lv_sub hl [2, 3, 1, 0] rfl)
    · have c52 : ¬ x49.toInt = (3 : Int) := wk_eqF c52
      refine lv_iconst (v := 0) hx hb dX6_takeWord_23 (by decide) ?_
      exact tk_zret hC hr rfl hlocks hK ⟨hT, hF, (Or.inl rfl)⟩ hw dX6_takeWord_24
  · refine lv_pop hx hb dX6_takeWord_4 rfl ?_
    refine lv_aload_n hx hb dX6_takeWord_5 rfl (lv_at hl 0 rfl) ?_
    refine tk_Vi hC hK hw hT hA hE hSR kC_at1 (by decide) rfl (k_X6_endOfWord_1 l adK adV dC dI cy ad B (by omega) (by omega) qr s1    w26 H.size hT ) (cwV 0 hC.2.2.2.2 gX6_takeWord_X6_endOfWord rfl rfl rfl (by decide +kernel) ⟨Nat.le_of_ble_eq_true rfl, Nat.le_of_ble_eq_true rfl⟩) rfl hl.1 rfl (Nat.le_of_ble_eq_true rfl) dX6_takeWord_6 (fun r53 w55 H locs hp54 hw => ?_)
    obtain ⟨hT, k56, hg59⟩ := hp54
    have hF := hF.tr k56 (by decide)
    obtain ⟨g57, g58⟩ := hg59
    refine lv_istore_n (lv' := [(2, .int r53), (0, .ref (ad 1)), (1, .ref (adK 6))]) hx hb dX6_takeWord_9 rfl hl (by decide) rfl (fun ls hl => ?_)
    refine lv_iload_n hx hb dX6_takeWord_10 rfl (lv_at hl 0 rfl) ?_
    refine lv_aload_n hx hb dX6_takeWord_11 rfl (lv_at hl 1 rfl) ?_
    refine tk_geti hC hK hw hT hinX6 kC_at1 (by decide) rfl 1 (by decide) (List.mem_of_getElem? (i := 1) rfl) rfl rfl dX6_takeWord_12 (fun x60 c61 rx60 tx60 => ?_)
    refine lv_isub hx hb dX6_takeWord_15 ?_
    refine lv_topi (fun x62 ex62 => ?_)
    have ex62 : x62.toInt = r53.toInt - x60.toInt := by rw [ex62]; exact wk_sub (show (-2147483648) ≤ r53.toInt - x60.toInt by omega) (show r53.toInt - x60.toInt ≤ 2147483647 by omega)
    refine lv_aload_n hx hb dX6_takeWord_16 rfl (lv_at hl 2 rfl) ?_
    refine tk_ViT hC hK hw hA hE hSR (s_length l adK adV dC dI cy 6 (by decide) H.size) (cwV 0 hC.2.2.2.2 gX6_takeWord_J0_length_8abf5 rfl rfl rfl (by decide +kernel) ⟨Nat.le_of_ble_eq_true rfl, Nat.le_of_ble_eq_true rfl⟩) 6 (by decide) rfl rfl rfl hl.1 rfl (Nat.le_of_ble_eq_true rfl) dX6_takeWord_17 (fun r63 H locs hp64 hw => ?_)
    obtain ⟨-, hp64⟩ := hp64
    obtain rfl : r63 = 3 := hp64
    refine lv_icmp_eq (tgt := 25) hx hb dX6_takeWord_20 (by decide) (fun c65 => ?_) (fun c65 => ?_)
    · have c65 : x62.toInt = (3 : Int) := wk_eq.mp c65
      refine lv_iconst (v := 0) hx hb dX6_takeWord_25 (by decide) ?_
      refine lv_istore_n (lv' := [(3, .int 0), (2, .int r53), (0, .ref (ad 1)), (1, .ref (adK 6))]) hx hb dX6_takeWord_26 rfl hl (by decide) rfl (fun ls hl => ?_)
      exact L27 ((3 - (0 : Int)).toNat + 1) r53 0 x60 H locs ls w55 (show 3 ≤ r53.toInt by omega) (show r53.toInt ≤ 400 by omega) (by decide) (by decide) (show 0 ≤ x60.toInt by omega) (show x60.toInt ≤ 397 by omega) (Nat.lt_succ_self _) hw hT hF c61 (lv_sub hl [2, 3, 1, 0] rfl)
    · have c65 : ¬ x62.toInt = (3 : Int) := wk_eqF c65
      refine lv_iconst (v := 0) hx hb dX6_takeWord_23 (by decide) ?_
      exact tk_zret hC hr rfl hlocks hK ⟨hT, hF, (Or.inl rfl)⟩ hw dX6_takeWord_24
abbrev P_X6_takeWord_3 (ad : Nat → Nat) (cy : Nat → ClassId) (B : Int) (qr : Nat) (s1 : Int)  (w0 : va_W) : Int32 → va_W → Prop := fun r u => TW ksC ad cy B qr s1 u ∧ FE ksC [(6, 1, 1), (6, 3, 3)] w0 u ∧ ((r = 0) ∨ (r = 1 ∧ (∃ y : Int32, gi u 1 1 = y ∧ 2 ≤ y.toInt ∧ y.toInt ≤ 400)))
set_option maxHeartbeats 4000000 in
set_option maxRecDepth 100000 in
theorem k_X6_takeWord_3 (l : Launch) (adK adV : Nat → Nat) (dC : Nat → ClassId) (dI : Nat → Nat → Nat) (cy : Nat → ClassId) (ad : Nat → Nat) (B : Int) (hB0 : 2147483648 ≤ B) (hB1 : B ≤ 1152921504606846976) (qr : Nat) (s1 : Int)   (w0 : va_W) (sz : Nat) (hT : TW ksC ad cy B qr s1 w0)  : Met l yX6_takeWord wsX6_takeWord ({ frames := 5, cells := 0, slots := 0, locals := 141 }) (va_Pc [.ref (ad 1), .ref (adK 7)] (wpreS adK adV dC dI cy sz w0)) (va_Qi (P_X6_takeWord_3 ad cy B qr s1  w0) (fun u : va_W => wpost dC dI cy (va_A w0 sz) u) (va_A w0 sz)) 0 0 (va_A w0 sz) := by
  refine Met.ofW (cc := cX6_takeWord) (maxL := 4) (ret := (some .boolean)) (by decide) rfl ?_
  intro p e s m args below meth c s₁ Bk hml hv
  obtain ⟨rfl, ⟨hsz, hP, hK, hD0⟩, hE, hSR⟩ := hv
  have hx := Bk.exec
  have hb := Bk.bytes
  have hr := Bk.returns
  have hlocks := Bk.notSynchronized
  have hC : CallFix p m c cX6_takeWord 4 s _ wsX6_takeWord RX6 := ⟨hx, hb, hml, findClass_of_methodNamed Bk.named, atoms_spec (ws := wsX6_takeWord) Bk.pre⟩
  subst hsz
  have hD := hD0.self (sz := s.heap.size)
  generalize hAe : va_A w0 s.heap.size = A at hD hE ⊢
  have hA : ∀ q : Nat, s.heap.size ≤ q → A q := fun q h => by rw [← hAe]; exact Or.inr h
  have hw : Wd dC dI A s.heap s.heap [] w0 := ⟨hP, hD, va_S.rf⟩
  have hF : FE ksC [(6, 1, 1), (6, 3, 3)] w0 w0 := FE.rf
  have hl := lv_entry ([.ref (ad 1), .ref (adK 7)]) (n := 4) (Nat.le_of_ble_eq_true rfl)
  rw [lg_entry_eq]
  generalize (lg_sl ([.ref (ad 1), .ref (adK 7)]) ++ List.replicate (4 - (lg_sl ([.ref (ad 1), .ref (adK 7)])).length) Slot.unset).toArray = ls at hl ⊢
  have hl : lv_has ls 4 [(0, .ref (ad 1)), (1, .ref (adK 7))] := hl
  generalize hloc : ([] : List Loc) = locs at hw ⊢
  have hinX6 : ∀ w ∈ u_ws RX6 TX6 5, w ∈ wsX6_takeWord := fun _ h => List.mem_cons_of_mem _ (List.mem_append_right _ (h))
  have L27 : ∀ (n27 : Nat) (v27_2 : Int32) (v27_3 : Int32) (f27_1_1 : Int32) (H : Heap) (locs : List Loc) (ls : Array Slot) (w1 : va_W), 2 ≤ v27_2.toInt → v27_2.toInt ≤ 400 → 0 ≤ v27_3.toInt → v27_3.toInt ≤ 2 → 0 ≤ f27_1_1.toInt → f27_1_1.toInt ≤ 398 → (2 - v27_3.toInt).toNat < n27 → Wd dC dI A s.heap H locs w1 → TW ksC ad cy B qr s1 w1 → FE ksC [(6, 1, 1), (6, 3, 3)] w0 w1 → gi w1 1 1 = f27_1_1 → lv_has ls 4 [(0, .ref (ad 1)), (1, .ref (adK 7)), (2, .int v27_2), (3, .int v27_3)] → W p l e ({ frames := 5, cells := 0, slots := 0, locals := 141 }) s m (List.toArray [.ref (ad 1), .ref (adK 7)]) below meth c H locs 0 0 (MQ below (va_Qi (P_X6_takeWord_3 ad cy B qr s1  w0) (fun u : va_W => wpost dC dI cy A u) A) (List.toArray [.ref (ad 1), .ref (adK 7)]) s 0 0 A) (F0 m 27 ls []) := by
    intro n27
    induction n27 with
    | zero => intro v27_2 v27_3 f27_1_1 H locs ls w1 r2 t3 r4 t5 r6 t7 hm27 hw hT hF c8 hl; omega
    | succ n27 ih27 =>
      intro v27_2 v27_3 f27_1_1 H locs ls w1 r2 t3 r4 t5 r6 t7 hm27 hw hT hF c8 hl
      refine lv_iload_n hx hb dX6_takeWord_27 rfl (lv_at hl 3 rfl) ?_
      refine lv_aload_n hx hb dX6_takeWord_28 rfl (lv_at hl 1 rfl) ?_
      refine tk_ViT hC hK hw hA hE hSR (s_length l adK adV dC dI cy 7 (by decide) H.size) (cwV 0 hC.2.2.2.2 gX6_takeWord_J0_length_8abf5 rfl rfl rfl (by decide +kernel) ⟨Nat.le_of_ble_eq_true rfl, Nat.le_of_ble_eq_true rfl⟩) 7 (by decide) rfl rfl rfl hl.1 rfl (Nat.le_of_ble_eq_true rfl) dX6_takeWord_29 (fun r9 H locs hp10 hw => ?_)
      obtain ⟨-, hp10⟩ := hp10
      obtain rfl : r9 = 2 := hp10
      refine lv_icmp_ge (tgt := 62) hx hb dX6_takeWord_32 (by decide) (fun c11 => ?_) (fun c11 => ?_)
      · have c11 : (2 : Int) ≤ v27_3.toInt := wk_le.mp c11
        refine lv_aload_n hx hb dX6_takeWord_62 rfl (lv_at hl 0 rfl) ?_
        refine lv_iload_n hx hb dX6_takeWord_63 rfl (lv_at hl 2 rfl) ?_
        refine tk_puti hC hK hw hT hinX6 tyX6_ok nmX6 kC_at1 (by decide) rfl rfl 1 (by decide) (List.mem_of_getElem? (i := 1) rfl) rfl rfl rfl rfl (show 0 ≤ v27_2.toInt by omega) (show v27_2.toInt ≤ 400 by omega) dX6_takeWord_64 (fun H locs w12 hw hT k14 c13 => ?_)
        have hF := hF.put kC_at1 (k := 1) (by decide) k14
        refine lv_iconst (v := 1) hx hb dX6_takeWord_67 (by decide) ?_
        exact tk_zret hC hr rfl hlocks hK ⟨hT, hF, (Or.inr ⟨rfl, ⟨v27_2, c13, (show 2 ≤ v27_2.toInt by omega), (show v27_2.toInt ≤ 400 by omega)⟩⟩)⟩ hw dX6_takeWord_68
      · have c11 : v27_3.toInt < (2 : Int) := wk_leF c11
        refine lv_aload_n hx hb dX6_takeWord_35 rfl (lv_at hl 0 rfl) ?_
        refine tk_getA hC hK hw hT hinX6 kC_at1 (by decide) rfl 0 (by decide) (List.mem_of_getElem? (i := 2) rfl) rfl rfl dX6_takeWord_36 ?_
        refine lv_aload_n hx hb dX6_takeWord_39 rfl (lv_at hl 0 rfl) ?_
        refine tk_geti hC hK hw hT hinX6 kC_at1 (by decide) rfl 1 (by decide) (List.mem_of_getElem? (i := 1) rfl) rfl rfl dX6_takeWord_40 (fun x15 c16 rx15 tx15 => ?_)
        refine wk_top f27_1_1 (c16.symm.trans c8) ?_
        refine lv_iload_n hx hb dX6_takeWord_43 rfl (lv_at hl 3 rfl) ?_
        refine lv_iadd hx hb dX6_takeWord_44 ?_
        refine lv_topi (fun x17 ex17 => ?_)
        have ex17 : x17.toInt = f27_1_1.toInt + v27_3.toInt := by rw [ex17]; exact wk_add (show (-2147483648) ≤ f27_1_1.toInt + v27_3.toInt by omega) (show f27_1_1.toInt + v27_3.toInt ≤ 2147483647 by omega)
        refine tk_iald hC hK hw hT kC_at2 rfl rfl (show 0 ≤ x17.toInt by omega) (show x17.toInt < 400 by omega) dX6_takeWord_45 (fun x18 c19 rx18 tx18 => ?_)
        refine lv_aload_n hx hb dX6_takeWord_46 rfl (lv_at hl 1 rfl) ?_
        refine lv_iload_n hx hb dX6_takeWord_47 rfl (lv_at hl 3 rfl) ?_
        refine tk_ViT hC hK hw hA hE hSR (s_charAt l adK adV dC dI cy 7 (by decide) v27_3 (show 0 ≤ v27_3.toInt by omega) (show v27_3.toInt < 2 by omega) H.size) (cwV 1 hC.2.2.2.2 gX6_takeWord_J0_charAt_5068e rfl rfl rfl (by decide +kernel) ⟨Nat.le_of_ble_eq_true rfl, Nat.le_of_ble_eq_true rfl⟩) 7 (by decide) rfl rfl rfl hl.1 rfl (Nat.le_of_ble_eq_true rfl) dX6_takeWord_48 (fun r20 H locs hp21 hw => ?_)
        refine lv_icmp_eq (tgt := 56) hx hb dX6_takeWord_51 (by decide) (fun c22 => ?_) (fun c22 => ?_)
        · have c22 : x18.toInt = r20.toInt := wk_eq.mp c22
          obtain ⟨x23, ex23⟩ : ∃ y : Int32, y = v27_3 + Int32.ofInt 1 := ⟨_, rfl⟩
          refine lv_iinc (v := x23) (lv' := [(3, .int x23), (0, .ref (ad 1)), (1, .ref (adK 7)), (2, .int v27_2)]) hx hb dX6_takeWord_56 hl (k := 3) rfl ex23.symm (by decide) rfl (fun ls hl => ?_)
          have ex23 : x23.toInt = v27_3.toInt + 1 := by rw [ex23]; exact wk_add (y := 1) (show -2147483648 ≤ v27_3.toInt + 1 by omega) (show v27_3.toInt + 1 ≤ 2147483647 by omega)
          refine lv_goto (tgt := 27) hx hb dX6_takeWord_59 (by decide) ?_
          exact ih27 v27_2 x23 f27_1_1 H locs ls w1 (show 2 ≤ v27_2.toInt by omega) (show v27_2.toInt ≤ 400 by omega) (show 0 ≤ x23.toInt by omega) (show x23.toInt ≤ 2 by omega) (show 0 ≤ f27_1_1.toInt by omega) (show f27_1_1.toInt ≤ 398 by omega) (show (2 - x23.toInt).toNat < n27 by omega) hw hT hF c8 (lv_sub hl [1, 2, 3, 0] rfl)
        · have c22 : ¬ x18.toInt = r20.toInt := wk_eqF c22
          refine lv_iconst (v := 0) hx hb dX6_takeWord_54 (by decide) ?_
          exact tk_zret hC hr rfl hlocks hK ⟨hT, hF, (Or.inl rfl)⟩ hw dX6_takeWord_55
  refine lv_aload_n hx hb dX6_takeWord_0 rfl (lv_at hl 0 rfl) ?_
  refine tk_Vi hC hK hw hT hA hE hSR kC_at1 (by decide) rfl (k_X6_lookBehindBlanks_1 l adK adV dC dI cy ad B (by omega) (by omega) qr s1    w0 s.heap.size hT ) (cwV 0 hC.2.2.2.2 gX6_takeWord_X6_lookBehindBlanks rfl rfl rfl (by decide +kernel) ⟨Nat.le_of_ble_eq_true rfl, Nat.le_of_ble_eq_true rfl⟩) rfl hl.1 rfl (Nat.le_of_ble_eq_true rfl) dX6_takeWord_1 (fun r24 w26 H locs hp25 hw => ?_)
  obtain ⟨hT, k27, hg36⟩ := hp25
  have hF := hF.tr k27 (by decide)
  rcases hg36 with ⟨g28, g29, ⟨x30, c31, rx30, tx30⟩, ⟨x32, c33, rx32, tx32⟩, ⟨x34, c35, rx34, tx34⟩⟩ | rfl
  · refine lv_pop hx hb dX6_takeWord_4 rfl ?_
    refine lv_aload_n hx hb dX6_takeWord_5 rfl (lv_at hl 0 rfl) ?_
    refine tk_Vi hC hK hw hT hA hE hSR kC_at1 (by decide) rfl (k_X6_endOfWord_1 l adK adV dC dI cy ad B (by omega) (by omega) qr s1    w26 H.size hT ) (cwV 0 hC.2.2.2.2 gX6_takeWord_X6_endOfWord rfl rfl rfl (by decide +kernel) ⟨Nat.le_of_ble_eq_true rfl, Nat.le_of_ble_eq_true rfl⟩) rfl hl.1 rfl (Nat.le_of_ble_eq_true rfl) dX6_takeWord_6 (fun r37 w39 H locs hp38 hw => ?_)
    obtain ⟨hT, k40, hg43⟩ := hp38
    have hF := hF.tr k40 (by decide)
    have c44 := k40.gi kC_at1 (by decide) c31
    have c45 := k40.gi kC_at1 (by decide) c33
    have c46 := k40.gi kC_at1 (by decide) c35
    obtain ⟨g41, g42⟩ := hg43
    refine lv_istore_n (lv' := [(2, .int r37), (0, .ref (ad 1)), (1, .ref (adK 7))]) hx hb dX6_takeWord_9 rfl hl (by decide) rfl (fun ls hl => ?_)
    refine lv_iload_n hx hb dX6_takeWord_10 rfl (lv_at hl 0 rfl) ?_
    refine lv_aload_n hx hb dX6_takeWord_11 rfl (lv_at hl 1 rfl) ?_
    refine tk_geti hC hK hw hT hinX6 kC_at1 (by decide) rfl 1 (by decide) (List.mem_of_getElem? (i := 1) rfl) rfl rfl dX6_takeWord_12 (fun x47 c48 rx47 tx47 => ?_)
    refine wk_top x30 (c48.symm.trans c44) ?_
    refine lv_isub hx hb dX6_takeWord_15 ?_
    refine lv_topi (fun x49 ex49 => ?_)
    have ex49 : x49.toInt = r37.toInt - x30.toInt := by rw [ex49]; exact wk_sub (show (-2147483648) ≤ r37.toInt - x30.toInt by omega) (show r37.toInt - x30.toInt ≤ 2147483647 by omega)
    refine lv_aload_n hx hb dX6_takeWord_16 rfl (lv_at hl 2 rfl) ?_
    refine tk_ViT hC hK hw hA hE hSR (s_length l adK adV dC dI cy 7 (by decide) H.size) (cwV 0 hC.2.2.2.2 gX6_takeWord_J0_length_8abf5 rfl rfl rfl (by decide +kernel) ⟨Nat.le_of_ble_eq_true rfl, Nat.le_of_ble_eq_true rfl⟩) 7 (by decide) rfl rfl rfl hl.1 rfl (Nat.le_of_ble_eq_true rfl) dX6_takeWord_17 (fun r50 H locs hp51 hw => ?_)
    obtain ⟨-, hp51⟩ := hp51
    obtain rfl : r50 = 2 := hp51
    refine lv_icmp_eq (tgt := 25) hx hb dX6_takeWord_20 (by decide) (fun c52 => ?_) (fun c52 => ?_)
    · have c52 : x49.toInt = (2 : Int) := wk_eq.mp c52
      refine lv_iconst (v := 0) hx hb dX6_takeWord_25 (by decide) ?_
      refine lv_istore_n (lv' := [(3, .int 0), (2, .int r37), (0, .ref (ad 1)), (1, .ref (adK 7))]) hx hb dX6_takeWord_26 rfl hl (by decide) rfl (fun ls hl => ?_)
      exact L27 ((2 - (0 : Int)).toNat + 1) r37 0 x30 H locs ls w39 (show 2 ≤ r37.toInt by omega) (show r37.toInt ≤ 400 by omega) (by decide) (by decide) (show 0 ≤ x30.toInt by omega) (show x30.toInt ≤ 398 by omega) (Nat.lt_succ_self _) hw hT hF c44 (lv_sub hl [2, 3, 1, 0] rfl)
    · have c52 : ¬ x49.toInt = (2 : Int) := wk_eqF c52
      refine lv_iconst (v := 0) hx hb dX6_takeWord_23 (by decide) ?_
      exact tk_zret hC hr rfl hlocks hK ⟨hT, hF, (Or.inl rfl)⟩ hw dX6_takeWord_24
  · refine lv_pop hx hb dX6_takeWord_4 rfl ?_
    refine lv_aload_n hx hb dX6_takeWord_5 rfl (lv_at hl 0 rfl) ?_
    refine tk_Vi hC hK hw hT hA hE hSR kC_at1 (by decide) rfl (k_X6_endOfWord_1 l adK adV dC dI cy ad B (by omega) (by omega) qr s1    w26 H.size hT ) (cwV 0 hC.2.2.2.2 gX6_takeWord_X6_endOfWord rfl rfl rfl (by decide +kernel) ⟨Nat.le_of_ble_eq_true rfl, Nat.le_of_ble_eq_true rfl⟩) rfl hl.1 rfl (Nat.le_of_ble_eq_true rfl) dX6_takeWord_6 (fun r53 w55 H locs hp54 hw => ?_)
    obtain ⟨hT, k56, hg59⟩ := hp54
    have hF := hF.tr k56 (by decide)
    obtain ⟨g57, g58⟩ := hg59
    refine lv_istore_n (lv' := [(2, .int r53), (0, .ref (ad 1)), (1, .ref (adK 7))]) hx hb dX6_takeWord_9 rfl hl (by decide) rfl (fun ls hl => ?_)
    refine lv_iload_n hx hb dX6_takeWord_10 rfl (lv_at hl 0 rfl) ?_
    refine lv_aload_n hx hb dX6_takeWord_11 rfl (lv_at hl 1 rfl) ?_
    refine tk_geti hC hK hw hT hinX6 kC_at1 (by decide) rfl 1 (by decide) (List.mem_of_getElem? (i := 1) rfl) rfl rfl dX6_takeWord_12 (fun x60 c61 rx60 tx60 => ?_)
    refine lv_isub hx hb dX6_takeWord_15 ?_
    refine lv_topi (fun x62 ex62 => ?_)
    have ex62 : x62.toInt = r53.toInt - x60.toInt := by rw [ex62]; exact wk_sub (show (-2147483648) ≤ r53.toInt - x60.toInt by omega) (show r53.toInt - x60.toInt ≤ 2147483647 by omega)
    refine lv_aload_n hx hb dX6_takeWord_16 rfl (lv_at hl 2 rfl) ?_
    refine tk_ViT hC hK hw hA hE hSR (s_length l adK adV dC dI cy 7 (by decide) H.size) (cwV 0 hC.2.2.2.2 gX6_takeWord_J0_length_8abf5 rfl rfl rfl (by decide +kernel) ⟨Nat.le_of_ble_eq_true rfl, Nat.le_of_ble_eq_true rfl⟩) 7 (by decide) rfl rfl rfl hl.1 rfl (Nat.le_of_ble_eq_true rfl) dX6_takeWord_17 (fun r63 H locs hp64 hw => ?_)
    obtain ⟨-, hp64⟩ := hp64
    obtain rfl : r63 = 2 := hp64
    refine lv_icmp_eq (tgt := 25) hx hb dX6_takeWord_20 (by decide) (fun c65 => ?_) (fun c65 => ?_)
    · have c65 : x62.toInt = (2 : Int) := wk_eq.mp c65
      refine lv_iconst (v := 0) hx hb dX6_takeWord_25 (by decide) ?_
      refine lv_istore_n (lv' := [(3, .int 0), (2, .int r53), (0, .ref (ad 1)), (1, .ref (adK 7))]) hx hb dX6_takeWord_26 rfl hl (by decide) rfl (fun ls hl => ?_)
      exact L27 ((2 - (0 : Int)).toNat + 1) r53 0 x60 H locs ls w55 (show 2 ≤ r53.toInt by omega) (show r53.toInt ≤ 400 by omega) (by decide) (by decide) (show 0 ≤ x60.toInt by omega) (show x60.toInt ≤ 398 by omega) (Nat.lt_succ_self _) hw hT hF c61 (lv_sub hl [2, 3, 1, 0] rfl)
    · have c65 : ¬ x62.toInt = (2 : Int) := wk_eqF c65
      refine lv_iconst (v := 0) hx hb dX6_takeWord_23 (by decide) ?_
      exact tk_zret hC hr rfl hlocks hK ⟨hT, hF, (Or.inl rfl)⟩ hw dX6_takeWord_24
abbrev P_X6_blame_2 (ad : Nat → Nat) (cy : Nat → ClassId) (B : Int) (qr : Nat) (s1 : Int) (a1 : Int32) (a2 : Int32) (w0 : va_W) : va_W → Prop := fun u => TW ksC ad cy B qr s1 u ∧ FE ksC [(6, 4, 4)] w0 u ∧ (((∃ y : Int32, gi u 1 4 = y ∧ 1 ≤ y.toInt ∧ y.toInt ≤ 3205)))
set_option maxHeartbeats 4000000 in
set_option maxRecDepth 100000 in
theorem k_X6_blame_2 (l : Launch) (adK adV : Nat → Nat) (dC : Nat → ClassId) (dI : Nat → Nat → Nat) (cy : Nat → ClassId) (ad : Nat → Nat) (B : Int) (hB0 : 2147483648 ≤ B) (hB1 : B ≤ 1152921504606846976) (qr : Nat) (s1 : Int)  (a1 : Int32) (ra1 : 0 ≤ a1.toInt) (ta1 : a1.toInt ≤ 400) (a2 : Int32) (ra2 : 0 ≤ a2.toInt) (ta2 : a2.toInt ≤ 4) (w0 : va_W) (sz : Nat) (hT : TW ksC ad cy B qr s1 w0)  : Met l yX6_blame wsX6_blame ({ frames := 1, cells := 0, slots := 0, locals := 12 }) (va_Pc [.ref (ad 1), .int a1, .int a2] (wpreS adK adV dC dI cy sz w0)) (va_Qv (P_X6_blame_2 ad cy B qr s1 a1 a2 w0) (fun u : va_W => wpost dC dI cy (va_A w0 sz) u) (va_A w0 sz)) 0 0 (va_A w0 sz) := by
  refine Met.ofW (cc := cX6_blame) (maxL := 3) (ret := none) (by decide) rfl ?_
  intro p e s m args below meth c s₁ Bk hml hv
  obtain ⟨rfl, ⟨hsz, hP, hK, hD0⟩, hE, hSR⟩ := hv
  have hx := Bk.exec
  have hb := Bk.bytes
  have hr := Bk.returns
  have hlocks := Bk.notSynchronized
  have hC : CallFix p m c cX6_blame 3 s _ wsX6_blame RX6 := ⟨hx, hb, hml, findClass_of_methodNamed Bk.named, atoms_spec (ws := wsX6_blame) Bk.pre⟩
  subst hsz
  have hD := hD0.self (sz := s.heap.size)
  generalize hAe : va_A w0 s.heap.size = A at hD hE ⊢
  have hA : ∀ q : Nat, s.heap.size ≤ q → A q := fun q h => by rw [← hAe]; exact Or.inr h
  have hw : Wd dC dI A s.heap s.heap [] w0 := ⟨hP, hD, va_S.rf⟩
  have hF : FE ksC [(6, 4, 4)] w0 w0 := FE.rf
  have hl := lv_entry ([.ref (ad 1), .int a1, .int a2]) (n := 3) (Nat.le_of_ble_eq_true rfl)
  rw [lg_entry_eq]
  generalize (lg_sl ([.ref (ad 1), .int a1, .int a2]) ++ List.replicate (3 - (lg_sl ([.ref (ad 1), .int a1, .int a2])).length) Slot.unset).toArray = ls at hl ⊢
  have hl : lv_has ls 3 [(0, .ref (ad 1)), (1, .int a1), (2, .int a2)] := hl
  generalize hloc : ([] : List Loc) = locs at hw ⊢
  have hinX6 : ∀ w ∈ u_ws RX6 TX6 5, w ∈ wsX6_blame := fun _ h => List.mem_cons_of_mem _ (List.mem_append_right _ (h))
  have J19 : ∀ (f19_1_4 : Int32) (H : Heap) (locs : List Loc) (ls : Array Slot) (w1 : va_W), 0 ≤ a1.toInt → a1.toInt ≤ 400 → 0 ≤ a2.toInt → a2.toInt ≤ 4 → 1 ≤ f19_1_4.toInt → f19_1_4.toInt ≤ 3205 → Wd dC dI A s.heap H locs w1 → TW ksC ad cy B qr s1 w1 → FE ksC [(6, 4, 4)] w0 w1 → gi w1 1 4 = f19_1_4 → lv_has ls 3 [(0, .ref (ad 1)), (1, .int a1), (2, .int a2)] → W p l e ({ frames := 1, cells := 0, slots := 0, locals := 12 }) s m (List.toArray [.ref (ad 1), .int a1, .int a2]) below meth c H locs 0 0 (MQ below (va_Qv (P_X6_blame_2 ad cy B qr s1 a1 a2 w0) (fun u : va_W => wpost dC dI cy A u) A) (List.toArray [.ref (ad 1), .int a1, .int a2]) s 0 0 A) (F0 m 19 ls []) := by
    intro f19_1_4 H locs ls w1 r2 t3 r4 t5 r6 t7 hw hT hF c8 hl
    exact tk_vret hC hr hlocks hK ⟨hT, hF, ⟨f19_1_4, c8, (show 1 ≤ f19_1_4.toInt by omega), (show f19_1_4.toInt ≤ 3205 by omega)⟩⟩ hw dX6_blame_19
  refine lv_aload_n hx hb dX6_blame_0 rfl (lv_at hl 0 rfl) ?_
  refine tk_geti hC hK hw hT hinX6 kC_at1 (by decide) rfl 4 (by decide) (List.mem_of_getElem? (i := 1) rfl) rfl rfl dX6_blame_1 (fun x9 c10 rx9 tx9 => ?_)
  refine lv_if_ne (tgt := 19) hx hb dX6_blame_4 (by decide) (fun c11 => ?_) (fun c11 => ?_)
  · have c11 : ¬ x9.toInt = (0 : Int) := wk_eqF c11
    exact J19 x9 s.heap locs ls w0 (show 0 ≤ a1.toInt by omega) (show a1.toInt ≤ 400 by omega) (show 0 ≤ a2.toInt by omega) (show a2.toInt ≤ 4 by omega) (show 1 ≤ x9.toInt by omega) (show x9.toInt ≤ 3205 by omega)  hw hT hF c10 (lv_sub hl [0, 1, 2] rfl)
  · have c11 : x9.toInt = (0 : Int) := wk_eq.mp c11
    refine lv_aload_n hx hb dX6_blame_7 rfl (lv_at hl 0 rfl) ?_
    refine lv_iconst (v := 1) hx hb dX6_blame_8 (by decide) ?_
    refine lv_bipush (v := 8) hx hb dX6_blame_9 (by decide) ?_
    refine lv_iload_n hx hb dX6_blame_11 rfl (lv_at hl 1 rfl) ?_
    refine lv_imul hx hb dX6_blame_12 ?_
    refine lv_topi (fun x12 ex12 => ?_)
    have ex12 : x12.toInt = (8 : Int) * a1.toInt := by rw [ex12]; exact wk_mul (show (-2147483648) ≤ (8 : Int) * a1.toInt by omega) (show (8 : Int) * a1.toInt ≤ 2147483647 by omega)
    refine lv_iadd hx hb dX6_blame_13 ?_
    refine lv_topi (fun x13 ex13 => ?_)
    have ex13 : x13.toInt = (1 : Int) + x12.toInt := by rw [ex13]; exact wk_add (show (-2147483648) ≤ (1 : Int) + x12.toInt by omega) (show (1 : Int) + x12.toInt ≤ 2147483647 by omega)
    refine lv_iload_n hx hb dX6_blame_14 rfl (lv_at hl 2 rfl) ?_
    refine lv_iadd hx hb dX6_blame_15 ?_
    refine lv_topi (fun x14 ex14 => ?_)
    have ex14 : x14.toInt = x13.toInt + a2.toInt := by rw [ex14]; exact wk_add (show (-2147483648) ≤ x13.toInt + a2.toInt by omega) (show x13.toInt + a2.toInt ≤ 2147483647 by omega)
    refine tk_puti hC hK hw hT hinX6 tyX6_ok nmX6 kC_at1 (by decide) rfl rfl 4 (by decide) (List.mem_of_getElem? (i := 1) rfl) rfl rfl rfl rfl (show 0 ≤ x14.toInt by omega) (show x14.toInt ≤ 3205 by omega) dX6_blame_16 (fun H locs w15 hw hT k17 c16 => ?_)
    have hF := hF.put kC_at1 (k := 4) (by decide) k17
    exact J19 x14 H locs ls w15 (show 0 ≤ a1.toInt by omega) (show a1.toInt ≤ 400 by omega) (show 0 ≤ a2.toInt by omega) (show a2.toInt ≤ 4 by omega) (show 1 ≤ x14.toInt by omega) (show x14.toInt ≤ 3205 by omega)  hw hT hF c16 (lv_sub hl [0, 1, 2] rfl)
abbrev P_X3_countItem_1 (ad : Nat → Nat) (cy : Nat → ClassId) (B : Int) (qr : Nat) (s1 : Int)  (w0 : va_W) : va_W → Prop := fun u => TW ksC ad cy B qr s1 u ∧ FE ksC [(3, 2, 2), (6, 4, 4)] w0 u ∧ ((True))
set_option maxHeartbeats 4000000 in
set_option maxRecDepth 100000 in
theorem k_X3_countItem_1 (l : Launch) (adK adV : Nat → Nat) (dC : Nat → ClassId) (dI : Nat → Nat → Nat) (cy : Nat → ClassId) (ad : Nat → Nat) (B : Int) (hB0 : 2147483648 ≤ B) (hB1 : B ≤ 1152921504606846976) (qr : Nat) (s1 : Int)   (w0 : va_W) (sz : Nat) (hT : TW ksC ad cy B qr s1 w0)  : Met l yX3_countItem wsX3_countItem ({ frames := 2, cells := 0, slots := 0, locals := 34 }) (va_Pc [.ref (ad 3)] (wpreS adK adV dC dI cy sz w0)) (va_Qv (P_X3_countItem_1 ad cy B qr s1  w0) (fun u : va_W => wpost dC dI cy (va_A w0 sz) u) (va_A w0 sz)) 0 0 (va_A w0 sz) := by
  refine Met.ofW (cc := cX3_countItem) (maxL := 1) (ret := none) (by decide) rfl ?_
  intro p e s m args below meth c s₁ Bk hml hv
  obtain ⟨rfl, ⟨hsz, hP, hK, hD0⟩, hE, hSR⟩ := hv
  have hx := Bk.exec
  have hb := Bk.bytes
  have hr := Bk.returns
  have hlocks := Bk.notSynchronized
  have hC : CallFix p m c cX3_countItem 1 s _ wsX3_countItem RX3 := ⟨hx, hb, hml, findClass_of_methodNamed Bk.named, atoms_spec (ws := wsX3_countItem) Bk.pre⟩
  subst hsz
  have hD := hD0.self (sz := s.heap.size)
  generalize hAe : va_A w0 s.heap.size = A at hD hE ⊢
  have hA : ∀ q : Nat, s.heap.size ≤ q → A q := fun q h => by rw [← hAe]; exact Or.inr h
  have hw : Wd dC dI A s.heap s.heap [] w0 := ⟨hP, hD, va_S.rf⟩
  have hF : FE ksC [(3, 2, 2), (6, 4, 4)] w0 w0 := FE.rf
  have hl := lv_entry ([.ref (ad 3)]) (n := 1) (Nat.le_of_ble_eq_true rfl)
  rw [lg_entry_eq]
  generalize (lg_sl ([.ref (ad 3)]) ++ List.replicate (1 - (lg_sl ([.ref (ad 3)])).length) Slot.unset).toArray = ls at hl ⊢
  have hl : lv_has ls 1 [(0, .ref (ad 3))] := hl
  generalize hloc : ([] : List Loc) = locs at hw ⊢
  have hinX3 : ∀ w ∈ u_ws RX3 TX3 3, w ∈ wsX3_countItem := fun _ h => List.mem_cons_of_mem _ (List.mem_append_left _ (List.mem_append_right _ (h)))
  have hinX6 : ∀ w ∈ u_ws RX6 TX6 5, w ∈ wsX3_countItem := fun _ h => List.mem_cons_of_mem _ (List.mem_append_right _ (h))
  have J34 : ∀ (f34_3_2 : Int32) (H : Heap) (locs : List Loc) (ls : Array Slot) (w1 : va_W), Wd dC dI A s.heap H locs w1 → TW ksC ad cy B qr s1 w1 → FE ksC [(3, 2, 2), (6, 4, 4)] w0 w1 → gi w1 3 2 = f34_3_2 → lv_has ls 1 [(0, .ref (ad 3))] → W p l e ({ frames := 2, cells := 0, slots := 0, locals := 34 }) s m (List.toArray [.ref (ad 3)]) below meth c H locs 0 0 (MQ below (va_Qv (P_X3_countItem_1 ad cy B qr s1  w0) (fun u : va_W => wpost dC dI cy A u) A) (List.toArray [.ref (ad 3)]) s 0 0 A) (F0 m 34 ls []) := by
    intro f34_3_2 H locs ls w1 hw hT hF c2 hl
    exact tk_vret hC hr hlocks hK ⟨hT, hF, trivial⟩ hw dX3_countItem_34
  refine lv_aload_n hx hb dX3_countItem_0 rfl (lv_at hl 0 rfl) ?_
  refine lv_dup hx hb dX3_countItem_1 rfl ?_
  refine tk_geti hC hK hw hT hinX3 kC_at3 (by decide) rfl 2 (by decide) (List.mem_of_getElem? (i := 1) rfl) rfl rfl dX3_countItem_2 (fun x3 c4 rx3 tx3 => ?_)
  refine lv_iconst (v := 1) hx hb dX3_countItem_5 (by decide) ?_
  refine lv_iadd hx hb dX3_countItem_6 ?_
  have nx5 := wk_i32 x3
  refine lv_topi (fun x6 ex6 => ?_)
  refine tk_puti hC hK hw hT hinX3 tyX3_ok nmX3 kC_at3 (by decide) rfl rfl 2 (by decide) (List.mem_of_getElem? (i := 1) rfl) rfl rfl rfl rfl (wk_i32 x6).1 (wk_i32 x6).2 dX3_countItem_7 (fun H locs w7 hw hT k9 c8 => ?_)
  have hF := hF.put kC_at3 (k := 2) (by decide) k9
  refine lv_aload_n hx hb dX3_countItem_10 rfl (lv_at hl 0 rfl) ?_
  refine tk_geti hC hK hw hT hinX3 kC_at3 (by decide) rfl 2 (by decide) (List.mem_of_getElem? (i := 1) rfl) rfl rfl dX3_countItem_11 (fun x10 c11 rx10 tx10 => ?_)
  refine wk_top x6 (c11.symm.trans c8) ?_
  refine lv_bipush (v := 60) hx hb dX3_countItem_14 (by decide) ?_
  refine lv_icmp_le (tgt := 34) hx hb dX3_countItem_16 (by decide) (fun c12 => ?_) (fun c12 => ?_)
  · have c12 : x6.toInt ≤ (60 : Int) := wk_le.mp c12
    exact J34 x6 H locs ls w7   hw hT hF c8 (lv_sub hl [0] rfl)
  · have c12 : (60 : Int) < x6.toInt := wk_leF c12
    refine lv_aload_n hx hb dX3_countItem_19 rfl (lv_at hl 0 rfl) ?_
    refine tk_getA hC hK hw hT hinX3 kC_at3 (by decide) rfl 0 (by decide) (List.mem_of_getElem? (i := 2) rfl) rfl rfl dX3_countItem_20 ?_
    refine lv_aload_n hx hb dX3_countItem_23 rfl (lv_at hl 0 rfl) ?_
    refine tk_getA hC hK hw hT hinX3 kC_at3 (by decide) rfl 0 (by decide) (List.mem_of_getElem? (i := 2) rfl) rfl rfl dX3_countItem_24 ?_
    refine tk_geti hC hK hw hT hinX6 kC_at1 (by decide) rfl 3 (by decide) (List.mem_of_getElem? (i := 3) rfl) rfl rfl dX3_countItem_27 (fun x13 c14 rx13 tx13 => ?_)
    refine lv_iconst (v := 3) hx hb dX3_countItem_30 (by decide) ?_
    refine tk_Vv hC hK hw hT hA hE hSR kC_at1 (by decide) rfl (k_X6_blame_2 l adK adV dC dI cy ad B (by omega) (by omega) qr s1   x13 (show 0 ≤ x13.toInt by omega) (show x13.toInt ≤ 400 by omega) 3 (by decide) (by decide) w7 H.size hT ) (cwV 2 hC.2.2.2.2 gX3_countItem_X6_blame rfl rfl rfl (by decide +kernel) ⟨Nat.le_of_ble_eq_true rfl, Nat.le_of_ble_eq_true rfl⟩) rfl hl.1 rfl (Nat.le_of_ble_eq_true rfl) dX3_countItem_31 (fun w17 H locs hp16 hw => ?_)
    obtain ⟨hT, k18, hg21⟩ := hp16
    have hF := hF.tr k18 (by decide)
    have c22 := k18.gi kC_at3 (by decide) c8
    have c23 := k18.gi kC_at1 (by decide) c14
    obtain ⟨x19, c20, rx19, tx19⟩ := hg21
    exact J34 x6 H locs ls w17   hw hT hF c22 (lv_sub hl [0] rfl)
abbrev P_X6_isFaulty_2 (ad : Nat → Nat) (cy : Nat → ClassId) (B : Int) (qr : Nat) (s1 : Int)  (w0 : va_W) : Int32 → va_W → Prop := fun r u => TW ksC ad cy B qr s1 u ∧ FE ksC ([] : List (Nat × Nat × Nat)) w0 u ∧ ((r = 0 ∧ (∃ y : Int32, gi u 1 4 = y ∧ 0 ≤ y.toInt ∧ y.toInt ≤ 0)))
set_option maxHeartbeats 4000000 in
set_option maxRecDepth 100000 in
theorem k_X6_isFaulty_2 (l : Launch) (adK adV : Nat → Nat) (dC : Nat → ClassId) (dI : Nat → Nat → Nat) (cy : Nat → ClassId) (ad : Nat → Nat) (B : Int) (hB0 : 2147483648 ≤ B) (hB1 : B ≤ 1152921504606846976) (qr : Nat) (s1 : Int)   (w0 : va_W) (sz : Nat) (hT : TW ksC ad cy B qr s1 w0) (cf0_ : gi w0 1 4 = 0) : Met l yX6_isFaulty wsX6_isFaulty ({ frames := 1, cells := 0, slots := 0, locals := 12 }) (va_Pc [.ref (ad 1)] (wpreS adK adV dC dI cy sz w0)) (va_Qi (P_X6_isFaulty_2 ad cy B qr s1  w0) (fun u : va_W => wpost dC dI cy (va_A w0 sz) u) (va_A w0 sz)) 0 0 (va_A w0 sz) := by
  refine Met.ofW (cc := cX6_isFaulty) (maxL := 1) (ret := (some .boolean)) (by decide) rfl ?_
  intro p e s m args below meth c s₁ Bk hml hv
  obtain ⟨rfl, ⟨hsz, hP, hK, hD0⟩, hE, hSR⟩ := hv
  have hx := Bk.exec
  have hb := Bk.bytes
  have hr := Bk.returns
  have hlocks := Bk.notSynchronized
  have hC : CallFix p m c cX6_isFaulty 1 s _ wsX6_isFaulty RX6 := ⟨hx, hb, hml, findClass_of_methodNamed Bk.named, atoms_spec (ws := wsX6_isFaulty) Bk.pre⟩
  subst hsz
  have hD := hD0.self (sz := s.heap.size)
  generalize hAe : va_A w0 s.heap.size = A at hD hE ⊢
  have hA : ∀ q : Nat, s.heap.size ≤ q → A q := fun q h => by rw [← hAe]; exact Or.inr h
  have hw : Wd dC dI A s.heap s.heap [] w0 := ⟨hP, hD, va_S.rf⟩
  have hF : FE ksC ([] : List (Nat × Nat × Nat)) w0 w0 := FE.rf
  have hl := lv_entry ([.ref (ad 1)]) (n := 1) (Nat.le_of_ble_eq_true rfl)
  rw [lg_entry_eq]
  generalize (lg_sl ([.ref (ad 1)]) ++ List.replicate (1 - (lg_sl ([.ref (ad 1)])).length) Slot.unset).toArray = ls at hl ⊢
  have hl : lv_has ls 1 [(0, .ref (ad 1))] := hl
  generalize hloc : ([] : List Loc) = locs at hw ⊢
  have hinX6 : ∀ w ∈ u_ws RX6 TX6 5, w ∈ wsX6_isFaulty := fun _ h => List.mem_cons_of_mem _ (List.mem_append_right _ (h))
  refine lv_aload_n hx hb dX6_isFaulty_0 rfl (lv_at hl 0 rfl) ?_
  refine tk_geti hC hK hw hT hinX6 kC_at1 (by decide) rfl 4 (by decide) (List.mem_of_getElem? (i := 1) rfl) rfl rfl dX6_isFaulty_1 (fun x1 c2 rx1 tx1 => ?_)
  refine wk_top 0 (c2.symm.trans cf0_) ?_
  refine lv_if_eq (tgt := 11) hx hb dX6_isFaulty_4 (by decide) (fun _ => ?_) (fun c => absurd (by decide) c)
  refine lv_iconst (v := 0) hx hb dX6_isFaulty_11 (by decide) ?_
  exact tk_zret hC hr rfl hlocks hK ⟨hT, hF, ⟨rfl, ⟨0, cf0_, (by decide), (by decide)⟩⟩⟩ hw dX6_isFaulty_12
abbrev P_X6_isDigit_1 (ad : Nat → Nat) (cy : Nat → ClassId) (B : Int) (qr : Nat) (s1 : Int) (a0 : Int32) (w0 : va_W) : Int32 → va_W → Prop := fun r u => TW ksC ad cy B qr s1 u ∧ FE ksC ([] : List (Nat × Nat × Nat)) w0 u ∧ ((r = 0) ∨ (r = 1 ∧ 48 ≤ a0.toInt ∧ a0.toInt ≤ 57))
set_option maxHeartbeats 4000000 in
set_option maxRecDepth 100000 in
theorem k_X6_isDigit_1 (l : Launch) (adK adV : Nat → Nat) (dC : Nat → ClassId) (dI : Nat → Nat → Nat) (cy : Nat → ClassId) (ad : Nat → Nat) (B : Int) (hB0 : 2147483648 ≤ B) (hB1 : B ≤ 1152921504606846976) (qr : Nat) (s1 : Int)  (a0 : Int32) (ra0 : 0 ≤ a0.toInt) (ta0 : a0.toInt ≤ 255) (w0 : va_W) (sz : Nat) (hT : TW ksC ad cy B qr s1 w0)  : Met l yX6_isDigit wsX6_isDigit ({ frames := 1, cells := 0, slots := 0, locals := 12 }) (va_Pc [.int a0] (wpreS adK adV dC dI cy sz w0)) (va_Qi (P_X6_isDigit_1 ad cy B qr s1 a0 w0) (fun u : va_W => wpost dC dI cy (va_A w0 sz) u) (va_A w0 sz)) 0 0 (va_A w0 sz) := by
  refine Met.ofW (cc := cX6_isDigit) (maxL := 1) (ret := (some .boolean)) (by decide) rfl ?_
  intro p e s m args below meth c s₁ Bk hml hv
  obtain ⟨rfl, ⟨hsz, hP, hK, hD0⟩, hE, hSR⟩ := hv
  have hx := Bk.exec
  have hb := Bk.bytes
  have hr := Bk.returns
  have hlocks := Bk.notSynchronized
  have hC : CallFix p m c cX6_isDigit 1 s _ wsX6_isDigit RX6 := ⟨hx, hb, hml, findClass_of_methodNamed Bk.named, atoms_spec (ws := wsX6_isDigit) Bk.pre⟩
  subst hsz
  have hD := hD0.self (sz := s.heap.size)
  generalize hAe : va_A w0 s.heap.size = A at hD hE ⊢
  have hA : ∀ q : Nat, s.heap.size ≤ q → A q := fun q h => by rw [← hAe]; exact Or.inr h
  have hw : Wd dC dI A s.heap s.heap [] w0 := ⟨hP, hD, va_S.rf⟩
  have hF : FE ksC ([] : List (Nat × Nat × Nat)) w0 w0 := FE.rf
  have hl := lv_entry ([.int a0]) (n := 1) (Nat.le_of_ble_eq_true rfl)
  rw [lg_entry_eq]
  generalize (lg_sl ([.int a0]) ++ List.replicate (1 - (lg_sl ([.int a0])).length) Slot.unset).toArray = ls at hl ⊢
  have hl : lv_has ls 1 [(0, .int a0)] := hl
  generalize hloc : ([] : List Loc) = locs at hw ⊢
  have J16 : ∀ (H : Heap) (locs : List Loc) (ls : Array Slot) (w1 : va_W), 0 ≤ a0.toInt → a0.toInt ≤ 255 → Wd dC dI A s.heap H locs w1 → TW ksC ad cy B qr s1 w1 → FE ksC ([] : List (Nat × Nat × Nat)) w0 w1 → lv_has ls 1 [(0, .int a0)] → W p l e ({ frames := 1, cells := 0, slots := 0, locals := 12 }) s m (List.toArray [.int a0]) below meth c H locs 0 0 (MQ below (va_Qi (P_X6_isDigit_1 ad cy B qr s1 a0 w0) (fun u : va_W => wpost dC dI cy A u) A) (List.toArray [.int a0]) s 0 0 A) (F0 m 16 ls []) := by
    intro H locs ls w1 r2 t3 hw hT hF hl
    refine lv_iconst (v := 0) hx hb dX6_isDigit_16 (by decide) ?_
    exact tk_zret hC hr rfl hlocks hK ⟨hT, hF, (Or.inl rfl)⟩ hw dX6_isDigit_17
  refine lv_iload_n hx hb dX6_isDigit_0 rfl (lv_at hl 0 rfl) ?_
  refine lv_bipush (v := 48) hx hb dX6_isDigit_1 (by decide) ?_
  refine lv_icmp_lt (tgt := 16) hx hb dX6_isDigit_3 (by decide) (fun c4 => ?_) (fun c4 => ?_)
  · have c4 : a0.toInt < (48 : Int) := wk_lt.mp c4
    exact J16  s.heap locs ls w0 (show 0 ≤ a0.toInt by omega) (show a0.toInt ≤ 255 by omega)  hw hT hF  (lv_sub hl [0] rfl)
  · have c4 : (48 : Int) ≤ a0.toInt := wk_ltF c4
    refine lv_iload_n hx hb dX6_isDigit_6 rfl (lv_at hl 0 rfl) ?_
    refine lv_bipush (v := 57) hx hb dX6_isDigit_7 (by decide) ?_
    refine lv_icmp_gt (tgt := 16) hx hb dX6_isDigit_9 (by decide) (fun c5 => ?_) (fun c5 => ?_)
    · have c5 : (57 : Int) < a0.toInt := wk_lt.mp c5
      exact J16  s.heap locs ls w0 (show 0 ≤ a0.toInt by omega) (show a0.toInt ≤ 255 by omega)  hw hT hF  (lv_sub hl [0] rfl)
    · have c5 : a0.toInt ≤ (57 : Int) := wk_ltF c5
      refine lv_iconst (v := 1) hx hb dX6_isDigit_12 (by decide) ?_
      refine lv_goto (tgt := 17) hx hb dX6_isDigit_13 (by decide) ?_
      exact tk_zret hC hr rfl hlocks hK ⟨hT, hF, (Or.inr ⟨rfl, (show 48 ≤ a0.toInt by omega), (show a0.toInt ≤ 57 by omega)⟩)⟩ hw dX6_isDigit_17
abbrev P_X6_readWord_1 (ad : Nat → Nat) (cy : Nat → ClassId) (B : Int) (qr : Nat) (s1 : Int)  (w0 : va_W) : Int32 → va_W → Prop := fun r u => TW ksC ad cy B qr s1 u ∧ FE ksC [(6, 1, 1), (6, 3, 3), (6, 4, 4)] w0 u ∧ ((0 ≤ r.toInt ∧ r.toInt ≤ 53 ∧ (∃ y : Int32, gi u 1 4 = y ∧ 0 ≤ y.toInt ∧ y.toInt ≤ 0)) ∨ (r = (-1) ∧ (∃ y : Int32, gi u 1 4 = y ∧ 1 ≤ y.toInt ∧ y.toInt ≤ 3205)))
set_option maxHeartbeats 4000000 in
set_option maxRecDepth 100000 in
theorem k_X6_readWord_1 (l : Launch) (adK adV : Nat → Nat) (dC : Nat → ClassId) (dI : Nat → Nat → Nat) (cy : Nat → ClassId) (ad : Nat → Nat) (B : Int) (hB0 : 2147483648 ≤ B) (hB1 : B ≤ 1152921504606846976) (qr : Nat) (s1 : Int)   (w0 : va_W) (sz : Nat) (hT : TW ksC ad cy B qr s1 w0) (cf0_ : gi w0 1 4 = 0) : Met l yX6_readWord wsX6_readWord ({ frames := 5, cells := 0, slots := 0, locals := 141 }) (va_Pc [.ref (ad 1), .ref (adK 5)] (wpreS adK adV dC dI cy sz w0)) (va_Qi (P_X6_readWord_1 ad cy B qr s1  w0) (fun u : va_W => wpost dC dI cy (va_A w0 sz) u) (va_A w0 sz)) 0 0 (va_A w0 sz) := by
  refine Met.ofW (cc := cX6_readWord) (maxL := 8) (ret := (some .int)) (by decide) rfl ?_
  intro p e s m args below meth c s₁ Bk hml hv
  obtain ⟨rfl, ⟨hsz, hP, hK, hD0⟩, hE, hSR⟩ := hv
  have hx := Bk.exec
  have hb := Bk.bytes
  have hr := Bk.returns
  have hlocks := Bk.notSynchronized
  have hC : CallFix p m c cX6_readWord 8 s _ wsX6_readWord RX6 := ⟨hx, hb, hml, findClass_of_methodNamed Bk.named, atoms_spec (ws := wsX6_readWord) Bk.pre⟩
  subst hsz
  have hD := hD0.self (sz := s.heap.size)
  generalize hAe : va_A w0 s.heap.size = A at hD hE ⊢
  have hA : ∀ q : Nat, s.heap.size ≤ q → A q := fun q h => by rw [← hAe]; exact Or.inr h
  have hw : Wd dC dI A s.heap s.heap [] w0 := ⟨hP, hD, va_S.rf⟩
  have hF : FE ksC [(6, 1, 1), (6, 3, 3), (6, 4, 4)] w0 w0 := FE.rf
  have hl := lv_entry ([.ref (ad 1), .ref (adK 5)]) (n := 8) (Nat.le_of_ble_eq_true rfl)
  rw [lg_entry_eq]
  generalize (lg_sl ([.ref (ad 1), .ref (adK 5)]) ++ List.replicate (8 - (lg_sl ([.ref (ad 1), .ref (adK 5)])).length) Slot.unset).toArray = ls at hl ⊢
  have hl : lv_has ls 8 [(0, .ref (ad 1)), (1, .ref (adK 5))] := hl
  generalize hloc : ([] : List Loc) = locs at hw ⊢
  have hinX6 : ∀ w ∈ u_ws RX6 TX6 5, w ∈ wsX6_readWord := fun _ h => List.mem_cons_of_mem _ (List.mem_append_right _ (h))
  have L24 : ∀ (n24 : Nat) (v24_2 : Int32) (v24_3 : Int32) (v24_4 : Int32) (v24_5 : Int32) (v24_6 : Int32) (f24_1_1 : Int32) (H : Heap) (locs : List Loc) (ls : Array Slot) (w1 : va_W), 0 ≤ v24_2.toInt → v24_2.toInt ≤ 400 → 0 ≤ v24_3.toInt → v24_3.toInt ≤ 53 → 0 ≤ v24_4.toInt → v24_4.toInt ≤ 453 → 0 ≤ v24_5.toInt → v24_5.toInt ≤ 1 → 0 ≤ v24_6.toInt → v24_6.toInt ≤ 53 → 0 ≤ f24_1_1.toInt → f24_1_1.toInt ≤ 400 → v24_4.toInt ≤ v24_6.toInt + 400 → v24_3.toInt ≤ v24_6.toInt + 0 → (53 - v24_6.toInt).toNat < n24 → Wd dC dI A s.heap H locs w1 → TW ksC ad cy B qr s1 w1 → FE ksC [(6, 1, 1), (6, 3, 3), (6, 4, 4)] w0 w1 → gi w1 1 1 = f24_1_1 → gi w1 1 4 = 0 → lv_has ls 8 [(0, .ref (ad 1)), (1, .ref (adK 5)), (2, .int v24_2), (3, .int v24_3), (4, .int v24_4), (5, .int v24_5), (6, .int v24_6)] → W p l e ({ frames := 5, cells := 0, slots := 0, locals := 141 }) s m (List.toArray [.ref (ad 1), .ref (adK 5)]) below meth c H locs 0 0 (MQ below (va_Qi (P_X6_readWord_1 ad cy B qr s1  w0) (fun u : va_W => wpost dC dI cy A u) A) (List.toArray [.ref (ad 1), .ref (adK 5)]) s 0 0 A) (F0 m 24 ls []) := by
    intro n24
    induction n24 with
    | zero => intro v24_2 v24_3 v24_4 v24_5 v24_6 f24_1_1 H locs ls w1 r2 t3 r4 t5 r6 t7 r8 t9 r10 t11 r12 t13 i16 i17 hm24 hw hT hF c14 c15 hl; omega
    | succ n24 ih24 =>
      intro v24_2 v24_3 v24_4 v24_5 v24_6 f24_1_1 H locs ls w1 r2 t3 r4 t5 r6 t7 r8 t9 r10 t11 r12 t13 i16 i17 hm24 hw hT hF c14 c15 hl
      have J114 : ∀ (v114_3 : Int32) (v114_4 : Int32) (v114_5 : Int32) (v114_7 : Int32) (H : Heap) (locs : List Loc) (ls : Array Slot) (w18 : va_W), 0 ≤ v24_2.toInt → v24_2.toInt ≤ 400 → 0 ≤ v114_3.toInt → v114_3.toInt ≤ 53 → 0 ≤ v114_4.toInt → v114_4.toInt ≤ 453 → 0 ≤ v114_5.toInt → v114_5.toInt ≤ 1 → 0 ≤ v24_6.toInt → v24_6.toInt ≤ 52 → 0 ≤ f24_1_1.toInt → f24_1_1.toInt ≤ 400 → v114_4.toInt ≤ v24_6.toInt + 401 → v114_3.toInt ≤ v24_6.toInt + 1 → Wd dC dI A s.heap H locs w18 → TW ksC ad cy B qr s1 w18 → FE ksC [(6, 1, 1), (6, 3, 3), (6, 4, 4)] w0 w18 → gi w18 1 1 = f24_1_1 → gi w18 1 4 = 0 → lv_has ls 8 [(0, .ref (ad 1)), (1, .ref (adK 5)), (2, .int v24_2), (3, .int v114_3), (4, .int v114_4), (5, .int v114_5), (6, .int v24_6), (7, .int v114_7)] → W p l e ({ frames := 5, cells := 0, slots := 0, locals := 141 }) s m (List.toArray [.ref (ad 1), .ref (adK 5)]) below meth c H locs 0 0 (MQ below (va_Qi (P_X6_readWord_1 ad cy B qr s1  w0) (fun u : va_W => wpost dC dI cy A u) A) (List.toArray [.ref (ad 1), .ref (adK 5)]) s 0 0 A) (F0 m 114 ls []) := by
        intro v114_3 v114_4 v114_5 v114_7 H locs ls w18 r19 t20 r21 t22 r23 t24 r25 t26 r27 t28 r29 t30 i33 i34 hw hT hF c31 c32 hl
        obtain ⟨x35, ex35⟩ : ∃ y : Int32, y = v24_6 + Int32.ofInt 1 := ⟨_, rfl⟩
        refine lv_iinc (v := x35) (lv' := [(6, .int x35), (0, .ref (ad 1)), (1, .ref (adK 5)), (2, .int v24_2), (3, .int v114_3), (4, .int v114_4), (5, .int v114_5), (7, .int v114_7)]) hx hb dX6_readWord_114 hl (k := 6) rfl ex35.symm (by decide) rfl (fun ls hl => ?_)
        have ex35 : x35.toInt = v24_6.toInt + 1 := by rw [ex35]; exact wk_add (y := 1) (show -2147483648 ≤ v24_6.toInt + 1 by omega) (show v24_6.toInt + 1 ≤ 2147483647 by omega)
        refine lv_goto (tgt := 24) hx hb dX6_readWord_117 (by decide) ?_
        exact ih24 v24_2 v114_3 v114_4 v114_5 x35 f24_1_1 H locs ls w18 (show 0 ≤ v24_2.toInt by omega) (show v24_2.toInt ≤ 400 by omega) (show 0 ≤ v114_3.toInt by omega) (show v114_3.toInt ≤ 53 by omega) (show 0 ≤ v114_4.toInt by omega) (show v114_4.toInt ≤ 453 by omega) (show 0 ≤ v114_5.toInt by omega) (show v114_5.toInt ≤ 1 by omega) (show 0 ≤ x35.toInt by omega) (show x35.toInt ≤ 53 by omega) (show 0 ≤ f24_1_1.toInt by omega) (show f24_1_1.toInt ≤ 400 by omega) (show v114_4.toInt ≤ x35.toInt + 400 by omega) (show v114_3.toInt ≤ x35.toInt + 0 by omega) (show (53 - x35.toInt).toNat < n24 by omega) hw hT hF c31 c32 (lv_sub hl [1, 2, 3, 4, 5, 6, 0] rfl)
      have J75 : ∀ (v75_7 : Int32) (H : Heap) (locs : List Loc) (ls : Array Slot) (w36 : va_W), 0 ≤ v24_2.toInt → v24_2.toInt ≤ 400 → 0 ≤ v24_3.toInt → v24_3.toInt ≤ 53 → 0 ≤ v24_4.toInt → v24_4.toInt ≤ 453 → 0 ≤ v24_5.toInt → v24_5.toInt ≤ 1 → 0 ≤ v24_6.toInt → v24_6.toInt ≤ 52 → 0 ≤ f24_1_1.toInt → f24_1_1.toInt ≤ 400 → v24_4.toInt ≤ v24_6.toInt + 401 → v24_3.toInt ≤ v24_6.toInt + 1 → Wd dC dI A s.heap H locs w36 → TW ksC ad cy B qr s1 w36 → FE ksC [(6, 1, 1), (6, 3, 3), (6, 4, 4)] w0 w36 → gi w36 1 1 = f24_1_1 → gi w36 1 4 = 0 → lv_has ls 8 [(0, .ref (ad 1)), (1, .ref (adK 5)), (2, .int v24_2), (3, .int v24_3), (4, .int v24_4), (5, .int v24_5), (6, .int v24_6), (7, .int v75_7)] → W p l e ({ frames := 5, cells := 0, slots := 0, locals := 141 }) s m (List.toArray [.ref (ad 1), .ref (adK 5)]) below meth c H locs 0 0 (MQ below (va_Qi (P_X6_readWord_1 ad cy B qr s1  w0) (fun u : va_W => wpost dC dI cy A u) A) (List.toArray [.ref (ad 1), .ref (adK 5)]) s 0 0 A) (F0 m 75 ls []) := by
        intro v75_7 H locs ls w36 r37 t38 r39 t40 r41 t42 r43 t44 r45 t46 r47 t48 i51 i52 hw hT hF c49 c50 hl
        refine lv_iconst (v := 0) hx hb dX6_readWord_75 (by decide) ?_
        refine lv_istore (lv' := [(5, .int 0), (0, .ref (ad 1)), (1, .ref (adK 5)), (2, .int v24_2), (3, .int v24_3), (4, .int v24_4), (6, .int v24_6), (7, .int v75_7)]) hx hb dX6_readWord_76 hl (by decide) rfl (fun ls hl => ?_)
        obtain ⟨x53, ex53⟩ : ∃ y : Int32, y = v24_4 + Int32.ofInt 1 := ⟨_, rfl⟩
        refine lv_iinc (v := x53) (lv' := [(4, .int x53), (5, .int 0), (0, .ref (ad 1)), (1, .ref (adK 5)), (2, .int v24_2), (3, .int v24_3), (6, .int v24_6), (7, .int v75_7)]) hx hb dX6_readWord_78 hl (k := 5) rfl ex53.symm (by decide) rfl (fun ls hl => ?_)
        have ex53 : x53.toInt = v24_4.toInt + 1 := by rw [ex53]; exact wk_add (y := 1) (show -2147483648 ≤ v24_4.toInt + 1 by omega) (show v24_4.toInt + 1 ≤ 2147483647 by omega)
        refine lv_goto (tgt := 114) hx hb dX6_readWord_81 (by decide) ?_
        exact J114 v24_3 x53 0 v75_7 H locs ls w36 (show 0 ≤ v24_2.toInt by omega) (show v24_2.toInt ≤ 400 by omega) (show 0 ≤ v24_3.toInt by omega) (show v24_3.toInt ≤ 53 by omega) (show 0 ≤ x53.toInt by omega) (show x53.toInt ≤ 453 by omega) (by decide) (by decide) (show 0 ≤ v24_6.toInt by omega) (show v24_6.toInt ≤ 52 by omega) (show 0 ≤ f24_1_1.toInt by omega) (show f24_1_1.toInt ≤ 400 by omega) (show x53.toInt ≤ v24_6.toInt + 401 by omega) (show v24_3.toInt ≤ v24_6.toInt + 1 by omega)  hw hT hF c49 c50 (lv_sub hl [2, 3, 4, 5, 0, 1, 6, 7] rfl)
      have J102 : ∀ (H : Heap) (locs : List Loc) (ls : Array Slot) (w54 : va_W), 0 ≤ v24_2.toInt → v24_2.toInt ≤ 400 → 0 ≤ v24_3.toInt → v24_3.toInt ≤ 53 → 0 ≤ v24_4.toInt → v24_4.toInt ≤ 453 → 0 ≤ v24_5.toInt → v24_5.toInt ≤ 1 → 0 ≤ v24_6.toInt → v24_6.toInt ≤ 52 → 0 ≤ f24_1_1.toInt → f24_1_1.toInt ≤ 400 → v24_4.toInt ≤ v24_6.toInt + 401 → v24_3.toInt ≤ v24_6.toInt + 1 → Wd dC dI A s.heap H locs w54 → TW ksC ad cy B qr s1 w54 → FE ksC [(6, 1, 1), (6, 3, 3), (6, 4, 4)] w0 w54 → gi w54 1 1 = f24_1_1 → gi w54 1 4 = 0 → lv_has ls 8 [(0, .ref (ad 1)), (1, .ref (adK 5)), (2, .int v24_2), (3, .int v24_3), (4, .int v24_4), (5, .int v24_5), (6, .int v24_6), (7, .int 32)] → W p l e ({ frames := 5, cells := 0, slots := 0, locals := 141 }) s m (List.toArray [.ref (ad 1), .ref (adK 5)]) below meth c H locs 0 0 (MQ below (va_Qi (P_X6_readWord_1 ad cy B qr s1  w0) (fun u : va_W => wpost dC dI cy A u) A) (List.toArray [.ref (ad 1), .ref (adK 5)]) s 0 0 A) (F0 m 102 ls []) := by
        intro H locs ls w54 r55 t56 r57 t58 r59 t60 r61 t62 r63 t64 r65 t66 i69 i70 hw hT hF c67 c68 hl
        obtain ⟨x71, ex71⟩ : ∃ y : Int32, y = v24_3 + Int32.ofInt 1 := ⟨_, rfl⟩
        refine lv_iinc (v := x71) (lv' := [(3, .int x71), (0, .ref (ad 1)), (1, .ref (adK 5)), (2, .int v24_2), (4, .int v24_4), (5, .int v24_5), (6, .int v24_6), (7, .int 32)]) hx hb dX6_readWord_102 hl (k := 3) rfl ex71.symm (by decide) rfl (fun ls hl => ?_)
        have ex71 : x71.toInt = v24_3.toInt + 1 := by rw [ex71]; exact wk_add (y := 1) (show -2147483648 ≤ v24_3.toInt + 1 by omega) (show v24_3.toInt + 1 ≤ 2147483647 by omega)
        refine lv_aload_n hx hb dX6_readWord_105 rfl (lv_at hl 1 rfl) ?_
        refine tk_geti hC hK hw hT hinX6 kC_at1 (by decide) rfl 1 (by decide) (List.mem_of_getElem? (i := 1) rfl) rfl rfl dX6_readWord_106 (fun x72 c73 rx72 tx72 => ?_)
        refine wk_top f24_1_1 (c73.symm.trans c67) ?_
        refine lv_istore (lv' := [(4, .int f24_1_1), (3, .int x71), (0, .ref (ad 1)), (1, .ref (adK 5)), (2, .int v24_2), (5, .int v24_5), (6, .int v24_6), (7, .int 32)]) hx hb dX6_readWord_109 hl (by decide) rfl (fun ls hl => ?_)
        refine lv_iconst (v := 1) hx hb dX6_readWord_111 (by decide) ?_
        refine lv_istore (lv' := [(5, .int 1), (4, .int f24_1_1), (3, .int x71), (0, .ref (ad 1)), (1, .ref (adK 5)), (2, .int v24_2), (6, .int v24_6), (7, .int 32)]) hx hb dX6_readWord_112 hl (by decide) rfl (fun ls hl => ?_)
        exact J114 x71 f24_1_1 1 32 H locs ls w54 (show 0 ≤ v24_2.toInt by omega) (show v24_2.toInt ≤ 400 by omega) (show 0 ≤ x71.toInt by omega) (show x71.toInt ≤ 53 by omega) (show 0 ≤ f24_1_1.toInt by omega) (show f24_1_1.toInt ≤ 453 by omega) (by decide) (by decide) (show 0 ≤ v24_6.toInt by omega) (show v24_6.toInt ≤ 52 by omega) (show 0 ≤ f24_1_1.toInt by omega) (show f24_1_1.toInt ≤ 400 by omega) (show f24_1_1.toInt ≤ v24_6.toInt + 401 by omega) (show x71.toInt ≤ v24_6.toInt + 1 by omega)  hw hT hF c67 c68 (lv_sub hl [3, 4, 5, 2, 1, 0, 6, 7] rfl)
      refine lv_iload hx hb dX6_readWord_24 (lv_at hl 6 rfl) ?_
      refine lv_aload_n hx hb dX6_readWord_26 rfl (lv_at hl 1 rfl) ?_
      refine tk_ViT hC hK hw hA hE hSR (s_length l adK adV dC dI cy 5 (by decide) H.size) (cwV 0 hC.2.2.2.2 gX6_readWord_J0_length_8abf5 rfl rfl rfl (by decide +kernel) ⟨Nat.le_of_ble_eq_true rfl, Nat.le_of_ble_eq_true rfl⟩) 5 (by decide) rfl rfl rfl hl.1 rfl (Nat.le_of_ble_eq_true rfl) dX6_readWord_27 (fun r74 H locs hp75 hw => ?_)
      obtain ⟨-, hp75⟩ := hp75
      obtain rfl : r74 = 53 := hp75
      refine lv_icmp_ge (tgt := 120) hx hb dX6_readWord_30 (by decide) (fun c76 => ?_) (fun c76 => ?_)
      · have c76 : (53 : Int) ≤ v24_6.toInt := wk_le.mp c76
        refine lv_aload_n hx hb dX6_readWord_120 rfl (lv_at hl 0 rfl) ?_
        refine lv_aload_n hx hb dX6_readWord_121 rfl (lv_at hl 0 rfl) ?_
        refine tk_geti hC hK hw hT hinX6 kC_at1 (by decide) rfl 3 (by decide) (List.mem_of_getElem? (i := 3) rfl) rfl rfl dX6_readWord_122 (fun x77 c78 rx77 tx77 => ?_)
        refine lv_iconst (v := 0) hx hb dX6_readWord_125 (by decide) ?_
        refine tk_Vv hC hK hw hT hA hE hSR kC_at1 (by decide) rfl (k_X6_blame_1 l adK adV dC dI cy ad B (by omega) (by omega) qr s1   x77 (show 0 ≤ x77.toInt by omega) (show x77.toInt ≤ 400 by omega) 0 (by decide) (by decide) w1 H.size hT c15) (cwV 2 hC.2.2.2.2 gX6_readWord_X6_blame rfl rfl rfl (by decide +kernel) ⟨Nat.le_of_ble_eq_true rfl, Nat.le_of_ble_eq_true rfl⟩) rfl hl.1 rfl (Nat.le_of_ble_eq_true rfl) dX6_readWord_126 (fun w81 H locs hp80 hw => ?_)
        obtain ⟨hT, k82, hg85⟩ := hp80
        have hF := hF.tr k82 (by decide)
        have c86 := k82.gi kC_at1 (by decide) c14
        have c87 := k82.gi kC_at1 (by decide) c78
        obtain ⟨x83, c84, rx83, tx83⟩ := hg85
        refine lv_iconst (v := (-1)) hx hb dX6_readWord_129 (by decide) ?_
        exact tk_iret hC hr hlocks hK ⟨hT, hF, (Or.inr ⟨rfl, ⟨x83, c84, (show 1 ≤ x83.toInt by omega), (show x83.toInt ≤ 3205 by omega)⟩⟩)⟩ hw dX6_readWord_130
      · have c76 : v24_6.toInt < (53 : Int) := wk_leF c76
        refine lv_aload_n hx hb dX6_readWord_33 rfl (lv_at hl 1 rfl) ?_
        refine lv_iload hx hb dX6_readWord_34 (lv_at hl 6 rfl) ?_
        refine tk_ViT hC hK hw hA hE hSR (s_charAt l adK adV dC dI cy 5 (by decide) v24_6 (show 0 ≤ v24_6.toInt by omega) (show v24_6.toInt < 53 by omega) H.size) (cwV 1 hC.2.2.2.2 gX6_readWord_J0_charAt_5068e rfl rfl rfl (by decide +kernel) ⟨Nat.le_of_ble_eq_true rfl, Nat.le_of_ble_eq_true rfl⟩) 5 (by decide) rfl rfl rfl hl.1 rfl (Nat.le_of_ble_eq_true rfl) dX6_readWord_36 (fun r88 H locs hp89 hw => ?_)
        refine lv_istore (lv' := [(7, .int r88), (0, .ref (ad 1)), (1, .ref (adK 5)), (2, .int v24_2), (3, .int v24_3), (4, .int v24_4), (5, .int v24_5), (6, .int v24_6)]) hx hb dX6_readWord_39 hl (by decide) rfl (fun ls hl => ?_)
        refine lv_iload hx hb dX6_readWord_41 (lv_at hl 0 rfl) ?_
        refine lv_bipush (v := 32) hx hb dX6_readWord_43 (by decide) ?_
        refine lv_icmp_eq (tgt := 84) hx hb dX6_readWord_45 (by decide) (fun c90 => ?_) (fun c90 => ?_)
        · have c90 : r88.toInt = (32 : Int) := wk_eq.mp c90
          refine lv_iload hx hb dX6_readWord_84 (lv_at hl 6 rfl) ?_
          refine lv_if_eq (tgt := 102) hx hb dX6_readWord_86 (by decide) (fun c91 => ?_) (fun c91 => ?_)
          · have c91 : v24_5.toInt = (0 : Int) := wk_eq.mp c91
            obtain rfl : r88 = 32 := wk_eq.mpr (show r88.toInt = 32 by omega)
            exact J102  H locs ls w1 (show 0 ≤ v24_2.toInt by omega) (show v24_2.toInt ≤ 400 by omega) (show 0 ≤ v24_3.toInt by omega) (show v24_3.toInt ≤ 53 by omega) (show 0 ≤ v24_4.toInt by omega) (show v24_4.toInt ≤ 453 by omega) (show 0 ≤ v24_5.toInt by omega) (show v24_5.toInt ≤ 1 by omega) (show 0 ≤ v24_6.toInt by omega) (show v24_6.toInt ≤ 52 by omega) (show 0 ≤ f24_1_1.toInt by omega) (show f24_1_1.toInt ≤ 400 by omega) (show v24_4.toInt ≤ v24_6.toInt + 401 by omega) (show v24_3.toInt ≤ v24_6.toInt + 1 by omega)  hw hT hF c14 c15 (lv_sub hl [1, 2, 3, 4, 5, 6, 7, 0] rfl)
          · have c91 : ¬ v24_5.toInt = (0 : Int) := wk_eqF c91
            refine lv_iload hx hb dX6_readWord_89 (lv_at hl 5 rfl) ?_
            refine lv_iload_n hx hb dX6_readWord_91 rfl (lv_at hl 3 rfl) ?_
            refine lv_icmp_ne (tgt := 102) hx hb dX6_readWord_92 (by decide) (fun c92 => ?_) (fun c92 => ?_)
            · have c92 : ¬ v24_4.toInt = v24_2.toInt := wk_eqF c92
              obtain rfl : r88 = 32 := wk_eq.mpr (show r88.toInt = 32 by omega)
              exact J102  H locs ls w1 (show 0 ≤ v24_2.toInt by omega) (show v24_2.toInt ≤ 400 by omega) (show 0 ≤ v24_3.toInt by omega) (show v24_3.toInt ≤ 53 by omega) (show 0 ≤ v24_4.toInt by omega) (show v24_4.toInt ≤ 453 by omega) (show 0 ≤ v24_5.toInt by omega) (show v24_5.toInt ≤ 1 by omega) (show 0 ≤ v24_6.toInt by omega) (show v24_6.toInt ≤ 52 by omega) (show 0 ≤ f24_1_1.toInt by omega) (show f24_1_1.toInt ≤ 400 by omega) (show v24_4.toInt ≤ v24_6.toInt + 401 by omega) (show v24_3.toInt ≤ v24_6.toInt + 1 by omega)  hw hT hF c14 c15 (lv_sub hl [1, 2, 3, 4, 5, 6, 7, 0] rfl)
            · have c92 : v24_4.toInt = v24_2.toInt := wk_eq.mp c92
              refine lv_aload_n hx hb dX6_readWord_95 rfl (lv_at hl 1 rfl) ?_
              refine lv_iload_n hx hb dX6_readWord_96 rfl (lv_at hl 3 rfl) ?_
              refine tk_puti hC hK hw hT hinX6 tyX6_ok nmX6 kC_at1 (by decide) rfl rfl 1 (by decide) (List.mem_of_getElem? (i := 1) rfl) rfl rfl rfl rfl (show 0 ≤ v24_2.toInt by omega) (show v24_2.toInt ≤ 400 by omega) dX6_readWord_97 (fun H locs w93 hw hT k95 c94 => ?_)
              have hF := hF.put kC_at1 (k := 1) (by decide) k95
              have c96 := k95.gi (Or.inr (by decide)) c15
              refine lv_iload_n hx hb dX6_readWord_100 rfl (lv_at hl 4 rfl) ?_
              exact tk_iret hC hr hlocks hK ⟨hT, hF, (Or.inl ⟨(show 0 ≤ v24_3.toInt by omega), (show v24_3.toInt ≤ 53 by omega), ⟨0, c96, (by decide), (by decide)⟩⟩)⟩ hw dX6_readWord_101
        · have c90 : ¬ r88.toInt = (32 : Int) := wk_eqF c90
          refine lv_iload hx hb dX6_readWord_48 (lv_at hl 6 rfl) ?_
          refine lv_if_eq (tgt := 75) hx hb dX6_readWord_50 (by decide) (fun c97 => ?_) (fun c97 => ?_)
          · have c97 : v24_5.toInt = (0 : Int) := wk_eq.mp c97
            exact J75 r88 H locs ls w1 (show 0 ≤ v24_2.toInt by omega) (show v24_2.toInt ≤ 400 by omega) (show 0 ≤ v24_3.toInt by omega) (show v24_3.toInt ≤ 53 by omega) (show 0 ≤ v24_4.toInt by omega) (show v24_4.toInt ≤ 453 by omega) (show 0 ≤ v24_5.toInt by omega) (show v24_5.toInt ≤ 1 by omega) (show 0 ≤ v24_6.toInt by omega) (show v24_6.toInt ≤ 52 by omega) (show 0 ≤ f24_1_1.toInt by omega) (show f24_1_1.toInt ≤ 400 by omega) (show v24_4.toInt ≤ v24_6.toInt + 401 by omega) (show v24_3.toInt ≤ v24_6.toInt + 1 by omega)  hw hT hF c14 c15 (lv_sub hl [1, 2, 3, 4, 5, 6, 7, 0] rfl)
          · have c97 : ¬ v24_5.toInt = (0 : Int) := wk_eqF c97
            refine lv_iload hx hb dX6_readWord_53 (lv_at hl 5 rfl) ?_
            refine lv_iload_n hx hb dX6_readWord_55 rfl (lv_at hl 3 rfl) ?_
            refine lv_icmp_ge (tgt := 75) hx hb dX6_readWord_56 (by decide) (fun c98 => ?_) (fun c98 => ?_)
            · have c98 : v24_2.toInt ≤ v24_4.toInt := wk_le.mp c98
              exact J75 r88 H locs ls w1 (show 0 ≤ v24_2.toInt by omega) (show v24_2.toInt ≤ 400 by omega) (show 0 ≤ v24_3.toInt by omega) (show v24_3.toInt ≤ 53 by omega) (show 0 ≤ v24_4.toInt by omega) (show v24_4.toInt ≤ 453 by omega) (show 0 ≤ v24_5.toInt by omega) (show v24_5.toInt ≤ 1 by omega) (show 0 ≤ v24_6.toInt by omega) (show v24_6.toInt ≤ 52 by omega) (show 0 ≤ f24_1_1.toInt by omega) (show f24_1_1.toInt ≤ 400 by omega) (show v24_4.toInt ≤ v24_6.toInt + 401 by omega) (show v24_3.toInt ≤ v24_6.toInt + 1 by omega)  hw hT hF c14 c15 (lv_sub hl [1, 2, 3, 4, 5, 6, 7, 0] rfl)
            · have c98 : v24_4.toInt < v24_2.toInt := wk_leF c98
              refine lv_aload_n hx hb dX6_readWord_59 rfl (lv_at hl 1 rfl) ?_
              refine tk_getA hC hK hw hT hinX6 kC_at1 (by decide) rfl 0 (by decide) (List.mem_of_getElem? (i := 2) rfl) rfl rfl dX6_readWord_60 ?_
              refine lv_iload hx hb dX6_readWord_63 (lv_at hl 5 rfl) ?_
              refine tk_iald hC hK hw hT kC_at2 rfl rfl (show 0 ≤ v24_4.toInt by omega) (show v24_4.toInt < 400 by omega) dX6_readWord_65 (fun x99 c100 rx99 tx99 => ?_)
              refine lv_iload hx hb dX6_readWord_66 (lv_at hl 0 rfl) ?_
              refine lv_icmp_ne (tgt := 75) hx hb dX6_readWord_68 (by decide) (fun c101 => ?_) (fun c101 => ?_)
              · have c101 : ¬ x99.toInt = r88.toInt := wk_eqF c101
                exact J75 r88 H locs ls w1 (show 0 ≤ v24_2.toInt by omega) (show v24_2.toInt ≤ 400 by omega) (show 0 ≤ v24_3.toInt by omega) (show v24_3.toInt ≤ 53 by omega) (show 0 ≤ v24_4.toInt by omega) (show v24_4.toInt ≤ 453 by omega) (show 0 ≤ v24_5.toInt by omega) (show v24_5.toInt ≤ 1 by omega) (show 0 ≤ v24_6.toInt by omega) (show v24_6.toInt ≤ 52 by omega) (show 0 ≤ f24_1_1.toInt by omega) (show f24_1_1.toInt ≤ 400 by omega) (show v24_4.toInt ≤ v24_6.toInt + 401 by omega) (show v24_3.toInt ≤ v24_6.toInt + 1 by omega)  hw hT hF c14 c15 (lv_sub hl [1, 2, 3, 4, 5, 6, 7, 0] rfl)
              · have c101 : x99.toInt = r88.toInt := wk_eq.mp c101
                refine lv_iconst (v := 1) hx hb dX6_readWord_71 (by decide) ?_
                refine lv_goto (tgt := 76) hx hb dX6_readWord_72 (by decide) ?_
                refine lv_istore (lv' := [(5, .int 1), (7, .int r88), (0, .ref (ad 1)), (1, .ref (adK 5)), (2, .int v24_2), (3, .int v24_3), (4, .int v24_4), (6, .int v24_6)]) hx hb dX6_readWord_76 hl (by decide) rfl (fun ls hl => ?_)
                obtain ⟨x102, ex102⟩ : ∃ y : Int32, y = v24_4 + Int32.ofInt 1 := ⟨_, rfl⟩
                refine lv_iinc (v := x102) (lv' := [(4, .int x102), (5, .int 1), (7, .int r88), (0, .ref (ad 1)), (1, .ref (adK 5)), (2, .int v24_2), (3, .int v24_3), (6, .int v24_6)]) hx hb dX6_readWord_78 hl (k := 6) rfl ex102.symm (by decide) rfl (fun ls hl => ?_)
                have ex102 : x102.toInt = v24_4.toInt + 1 := by rw [ex102]; exact wk_add (y := 1) (show -2147483648 ≤ v24_4.toInt + 1 by omega) (show v24_4.toInt + 1 ≤ 2147483647 by omega)
                refine lv_goto (tgt := 114) hx hb dX6_readWord_81 (by decide) ?_
                exact J114 v24_3 x102 1 r88 H locs ls w1 (show 0 ≤ v24_2.toInt by omega) (show v24_2.toInt ≤ 400 by omega) (show 0 ≤ v24_3.toInt by omega) (show v24_3.toInt ≤ 53 by omega) (show 0 ≤ x102.toInt by omega) (show x102.toInt ≤ 453 by omega) (by decide) (by decide) (show 0 ≤ v24_6.toInt by omega) (show v24_6.toInt ≤ 52 by omega) (show 0 ≤ f24_1_1.toInt by omega) (show f24_1_1.toInt ≤ 400 by omega) (show x102.toInt ≤ v24_6.toInt + 401 by omega) (show v24_3.toInt ≤ v24_6.toInt + 1 by omega)  hw hT hF c14 c15 (lv_sub hl [3, 4, 5, 6, 0, 1, 7, 2] rfl)
  refine lv_aload_n hx hb dX6_readWord_0 rfl (lv_at hl 0 rfl) ?_
  refine tk_Vi hC hK hw hT hA hE hSR kC_at1 (by decide) rfl (k_X6_lookBehindBlanks_1 l adK adV dC dI cy ad B (by omega) (by omega) qr s1    w0 s.heap.size hT ) (cwV 0 hC.2.2.2.2 gX6_readWord_X6_lookBehindBlanks rfl rfl rfl (by decide +kernel) ⟨Nat.le_of_ble_eq_true rfl, Nat.le_of_ble_eq_true rfl⟩) rfl hl.1 rfl (Nat.le_of_ble_eq_true rfl) dX6_readWord_1 (fun r103 w105 H locs hp104 hw => ?_)
  obtain ⟨hT, k106, hg115⟩ := hp104
  have hF := hF.tr k106 (by decide)
  have c116 := k106.gi kC_at1 (by decide) cf0_
  rcases hg115 with ⟨g107, g108, ⟨x109, c110, rx109, tx109⟩, ⟨x111, c112, rx111, tx111⟩, ⟨x113, c114, rx113, tx113⟩⟩ | rfl
  · refine lv_pop hx hb dX6_readWord_4 rfl ?_
    refine lv_aload_n hx hb dX6_readWord_5 rfl (lv_at hl 0 rfl) ?_
    refine tk_Vi hC hK hw hT hA hE hSR kC_at1 (by decide) rfl (k_X6_endOfWord_1 l adK adV dC dI cy ad B (by omega) (by omega) qr s1    w105 H.size hT ) (cwV 0 hC.2.2.2.2 gX6_readWord_X6_endOfWord rfl rfl rfl (by decide +kernel) ⟨Nat.le_of_ble_eq_true rfl, Nat.le_of_ble_eq_true rfl⟩) rfl hl.1 rfl (Nat.le_of_ble_eq_true rfl) dX6_readWord_6 (fun r117 w119 H locs hp118 hw => ?_)
    obtain ⟨hT, k120, hg123⟩ := hp118
    have hF := hF.tr k120 (by decide)
    have c124 := k120.gi kC_at1 (by decide) c116
    have c125 := k120.gi kC_at1 (by decide) c110
    have c126 := k120.gi kC_at1 (by decide) c112
    have c127 := k120.gi kC_at1 (by decide) c114
    obtain ⟨g121, g122⟩ := hg123
    refine lv_istore_n (lv' := [(2, .int r117), (0, .ref (ad 1)), (1, .ref (adK 5))]) hx hb dX6_readWord_9 rfl hl (by decide) rfl (fun ls hl => ?_)
    refine lv_iconst (v := 0) hx hb dX6_readWord_10 (by decide) ?_
    refine lv_istore_n (lv' := [(3, .int 0), (2, .int r117), (0, .ref (ad 1)), (1, .ref (adK 5))]) hx hb dX6_readWord_11 rfl hl (by decide) rfl (fun ls hl => ?_)
    refine lv_aload_n hx hb dX6_readWord_12 rfl (lv_at hl 2 rfl) ?_
    refine tk_geti hC hK hw hT hinX6 kC_at1 (by decide) rfl 1 (by decide) (List.mem_of_getElem? (i := 1) rfl) rfl rfl dX6_readWord_13 (fun x128 c129 rx128 tx128 => ?_)
    refine wk_top x109 (c129.symm.trans c125) ?_
    refine lv_istore (lv' := [(4, .int x109), (3, .int 0), (2, .int r117), (0, .ref (ad 1)), (1, .ref (adK 5))]) hx hb dX6_readWord_16 hl (by decide) rfl (fun ls hl => ?_)
    refine lv_iconst (v := 1) hx hb dX6_readWord_18 (by decide) ?_
    refine lv_istore (lv' := [(5, .int 1), (4, .int x109), (3, .int 0), (2, .int r117), (0, .ref (ad 1)), (1, .ref (adK 5))]) hx hb dX6_readWord_19 hl (by decide) rfl (fun ls hl => ?_)
    refine lv_iconst (v := 0) hx hb dX6_readWord_21 (by decide) ?_
    refine lv_istore (lv' := [(6, .int 0), (5, .int 1), (4, .int x109), (3, .int 0), (2, .int r117), (0, .ref (ad 1)), (1, .ref (adK 5))]) hx hb dX6_readWord_22 hl (by decide) rfl (fun ls hl => ?_)
    exact L24 ((53 - (0 : Int)).toNat + 1) r117 0 x109 1 0 x109 H locs ls w119 (show 0 ≤ r117.toInt by omega) (show r117.toInt ≤ 400 by omega) (by decide) (by decide) (show 0 ≤ x109.toInt by omega) (show x109.toInt ≤ 453 by omega) (by decide) (by decide) (by decide) (by decide) (show 0 ≤ x109.toInt by omega) (show x109.toInt ≤ 400 by omega) (show x109.toInt ≤ (0 : Int) + 400 by omega) (show (0 : Int) ≤ (0 : Int) + 0 by omega) (Nat.lt_succ_self _) hw hT hF c125 c124 (lv_sub hl [5, 6, 4, 3, 2, 1, 0] rfl)
  · refine lv_pop hx hb dX6_readWord_4 rfl ?_
    refine lv_aload_n hx hb dX6_readWord_5 rfl (lv_at hl 0 rfl) ?_
    refine tk_Vi hC hK hw hT hA hE hSR kC_at1 (by decide) rfl (k_X6_endOfWord_1 l adK adV dC dI cy ad B (by omega) (by omega) qr s1    w105 H.size hT ) (cwV 0 hC.2.2.2.2 gX6_readWord_X6_endOfWord rfl rfl rfl (by decide +kernel) ⟨Nat.le_of_ble_eq_true rfl, Nat.le_of_ble_eq_true rfl⟩) rfl hl.1 rfl (Nat.le_of_ble_eq_true rfl) dX6_readWord_6 (fun r130 w132 H locs hp131 hw => ?_)
    obtain ⟨hT, k133, hg136⟩ := hp131
    have hF := hF.tr k133 (by decide)
    have c137 := k133.gi kC_at1 (by decide) c116
    obtain ⟨g134, g135⟩ := hg136
    refine lv_istore_n (lv' := [(2, .int r130), (0, .ref (ad 1)), (1, .ref (adK 5))]) hx hb dX6_readWord_9 rfl hl (by decide) rfl (fun ls hl => ?_)
    refine lv_iconst (v := 0) hx hb dX6_readWord_10 (by decide) ?_
    refine lv_istore_n (lv' := [(3, .int 0), (2, .int r130), (0, .ref (ad 1)), (1, .ref (adK 5))]) hx hb dX6_readWord_11 rfl hl (by decide) rfl (fun ls hl => ?_)
    refine lv_aload_n hx hb dX6_readWord_12 rfl (lv_at hl 2 rfl) ?_
    refine tk_geti hC hK hw hT hinX6 kC_at1 (by decide) rfl 1 (by decide) (List.mem_of_getElem? (i := 1) rfl) rfl rfl dX6_readWord_13 (fun x138 c139 rx138 tx138 => ?_)
    refine lv_istore (lv' := [(4, .int x138), (3, .int 0), (2, .int r130), (0, .ref (ad 1)), (1, .ref (adK 5))]) hx hb dX6_readWord_16 hl (by decide) rfl (fun ls hl => ?_)
    refine lv_iconst (v := 1) hx hb dX6_readWord_18 (by decide) ?_
    refine lv_istore (lv' := [(5, .int 1), (4, .int x138), (3, .int 0), (2, .int r130), (0, .ref (ad 1)), (1, .ref (adK 5))]) hx hb dX6_readWord_19 hl (by decide) rfl (fun ls hl => ?_)
    refine lv_iconst (v := 0) hx hb dX6_readWord_21 (by decide) ?_
    refine lv_istore (lv' := [(6, .int 0), (5, .int 1), (4, .int x138), (3, .int 0), (2, .int r130), (0, .ref (ad 1)), (1, .ref (adK 5))]) hx hb dX6_readWord_22 hl (by decide) rfl (fun ls hl => ?_)
    exact L24 ((53 - (0 : Int)).toNat + 1) r130 0 x138 1 0 x138 H locs ls w132 (show 0 ≤ r130.toInt by omega) (show r130.toInt ≤ 400 by omega) (by decide) (by decide) (show 0 ≤ x138.toInt by omega) (show x138.toInt ≤ 453 by omega) (by decide) (by decide) (by decide) (by decide) (show 0 ≤ x138.toInt by omega) (show x138.toInt ≤ 400 by omega) (show x138.toInt ≤ (0 : Int) + 400 by omega) (show (0 : Int) ≤ (0 : Int) + 0 by omega) (Nat.lt_succ_self _) hw hT hF c139 c137 (lv_sub hl [5, 6, 4, 3, 2, 1, 0] rfl)
abbrev P_X6_isDigit_2 (ad : Nat → Nat) (cy : Nat → ClassId) (B : Int) (qr : Nat) (s1 : Int)  (w0 : va_W) : Int32 → va_W → Prop := fun r u => TW ksC ad cy B qr s1 u ∧ FE ksC ([] : List (Nat × Nat × Nat)) w0 u ∧ ((r = 0))
set_option maxHeartbeats 4000000 in
set_option maxRecDepth 100000 in
theorem k_X6_isDigit_2 (l : Launch) (adK adV : Nat → Nat) (dC : Nat → ClassId) (dI : Nat → Nat → Nat) (cy : Nat → ClassId) (ad : Nat → Nat) (B : Int) (hB0 : 2147483648 ≤ B) (hB1 : B ≤ 1152921504606846976) (qr : Nat) (s1 : Int)   (w0 : va_W) (sz : Nat) (hT : TW ksC ad cy B qr s1 w0)  : Met l yX6_isDigit wsX6_isDigit ({ frames := 1, cells := 0, slots := 0, locals := 12 }) (va_Pc [.int (-1)] (wpreS adK adV dC dI cy sz w0)) (va_Qi (P_X6_isDigit_2 ad cy B qr s1  w0) (fun u : va_W => wpost dC dI cy (va_A w0 sz) u) (va_A w0 sz)) 0 0 (va_A w0 sz) := by
  refine Met.ofW (cc := cX6_isDigit) (maxL := 1) (ret := (some .boolean)) (by decide) rfl ?_
  intro p e s m args below meth c s₁ Bk hml hv
  obtain ⟨rfl, ⟨hsz, hP, hK, hD0⟩, hE, hSR⟩ := hv
  have hx := Bk.exec
  have hb := Bk.bytes
  have hr := Bk.returns
  have hlocks := Bk.notSynchronized
  have hC : CallFix p m c cX6_isDigit 1 s _ wsX6_isDigit RX6 := ⟨hx, hb, hml, findClass_of_methodNamed Bk.named, atoms_spec (ws := wsX6_isDigit) Bk.pre⟩
  subst hsz
  have hD := hD0.self (sz := s.heap.size)
  generalize hAe : va_A w0 s.heap.size = A at hD hE ⊢
  have hA : ∀ q : Nat, s.heap.size ≤ q → A q := fun q h => by rw [← hAe]; exact Or.inr h
  have hw : Wd dC dI A s.heap s.heap [] w0 := ⟨hP, hD, va_S.rf⟩
  have hF : FE ksC ([] : List (Nat × Nat × Nat)) w0 w0 := FE.rf
  have hl := lv_entry ([.int (-1)]) (n := 1) (Nat.le_of_ble_eq_true rfl)
  rw [lg_entry_eq]
  generalize (lg_sl ([.int (-1)]) ++ List.replicate (1 - (lg_sl ([.int (-1)])).length) Slot.unset).toArray = ls at hl ⊢
  have hl : lv_has ls 1 [(0, .int (-1))] := hl
  generalize hloc : ([] : List Loc) = locs at hw ⊢
  have J16 : ∀ (H : Heap) (locs : List Loc) (ls : Array Slot) (w1 : va_W), Wd dC dI A s.heap H locs w1 → TW ksC ad cy B qr s1 w1 → FE ksC ([] : List (Nat × Nat × Nat)) w0 w1 → lv_has ls 1 [(0, .int (-1))] → W p l e ({ frames := 1, cells := 0, slots := 0, locals := 12 }) s m (List.toArray [.int (-1)]) below meth c H locs 0 0 (MQ below (va_Qi (P_X6_isDigit_2 ad cy B qr s1  w0) (fun u : va_W => wpost dC dI cy A u) A) (List.toArray [.int (-1)]) s 0 0 A) (F0 m 16 ls []) := by
    intro H locs ls w1 hw hT hF hl
    refine lv_iconst (v := 0) hx hb dX6_isDigit_16 (by decide) ?_
    exact tk_zret hC hr rfl hlocks hK ⟨hT, hF, rfl⟩ hw dX6_isDigit_17
  refine lv_iload_n hx hb dX6_isDigit_0 rfl (lv_at hl 0 rfl) ?_
  refine lv_bipush (v := 48) hx hb dX6_isDigit_1 (by decide) ?_
  refine lv_icmp_lt (tgt := 16) hx hb dX6_isDigit_3 (by decide) (fun _ => ?_) (fun c => absurd (by decide) c)
  exact J16  s.heap locs ls w0   hw hT hF  (lv_sub hl [0] rfl)
abbrev P_X6_readNumber_1 (ad : Nat → Nat) (cy : Nat → ClassId) (B : Int) (qr : Nat) (s1 : Int)  (w0 : va_W) : Int32 → va_W → Prop := fun r u => TW ksC ad cy B qr s1 u ∧ FE ksC [(6, 1, 1), (6, 3, 3), (6, 4, 4)] w0 u ∧ ((0 ≤ r.toInt ∧ r.toInt ≤ 99999 ∧ (∃ y : Int32, gi u 1 2 = y ∧ 1 ≤ y.toInt ∧ y.toInt ≤ 400) ∧ (∃ y : Int32, gi u 1 3 = y ∧ 0 ≤ y.toInt ∧ y.toInt ≤ 399) ∧ (∃ y : Int32, gi u 1 4 = y ∧ 0 ≤ y.toInt ∧ y.toInt ≤ 0)) ∨ (r = (-1) ∧ (∃ y : Int32, gi u 1 4 = y ∧ 1 ≤ y.toInt ∧ y.toInt ≤ 3205)))
set_option maxHeartbeats 4000000 in
set_option maxRecDepth 100000 in
theorem k_X6_readNumber_1 (l : Launch) (adK adV : Nat → Nat) (dC : Nat → ClassId) (dI : Nat → Nat → Nat) (cy : Nat → ClassId) (ad : Nat → Nat) (B : Int) (hB0 : 2147483648 ≤ B) (hB1 : B ≤ 1152921504606846976) (qr : Nat) (s1 : Int)   (w0 : va_W) (sz : Nat) (hT : TW ksC ad cy B qr s1 w0) (cf0_ : gi w0 1 4 = 0) : Met l yX6_readNumber wsX6_readNumber ({ frames := 2, cells := 0, slots := 0, locals := 34 }) (va_Pc [.ref (ad 1), .int 0, .int 99999] (wpreS adK adV dC dI cy sz w0)) (va_Qi (P_X6_readNumber_1 ad cy B qr s1  w0) (fun u : va_W => wpost dC dI cy (va_A w0 sz) u) (va_A w0 sz)) 0 0 (va_A w0 sz) := by
  refine Met.ofW (cc := cX6_readNumber) (maxL := 4) (ret := (some .int)) (by decide) rfl ?_
  intro p e s m args below meth c s₁ Bk hml hv
  obtain ⟨rfl, ⟨hsz, hP, hK, hD0⟩, hE, hSR⟩ := hv
  have hx := Bk.exec
  have hb := Bk.bytes
  have hr := Bk.returns
  have hlocks := Bk.notSynchronized
  have hC : CallFix p m c cX6_readNumber 4 s _ wsX6_readNumber RX6 := ⟨hx, hb, hml, findClass_of_methodNamed Bk.named, atoms_spec (ws := wsX6_readNumber) Bk.pre⟩
  subst hsz
  have hD := hD0.self (sz := s.heap.size)
  generalize hAe : va_A w0 s.heap.size = A at hD hE ⊢
  have hA : ∀ q : Nat, s.heap.size ≤ q → A q := fun q h => by rw [← hAe]; exact Or.inr h
  have hw : Wd dC dI A s.heap s.heap [] w0 := ⟨hP, hD, va_S.rf⟩
  have hF : FE ksC [(6, 1, 1), (6, 3, 3), (6, 4, 4)] w0 w0 := FE.rf
  have hl := lv_entry ([.ref (ad 1), .int 0, .int 99999]) (n := 4) (Nat.le_of_ble_eq_true rfl)
  rw [lg_entry_eq]
  generalize (lg_sl ([.ref (ad 1), .int 0, .int 99999]) ++ List.replicate (4 - (lg_sl ([.ref (ad 1), .int 0, .int 99999])).length) Slot.unset).toArray = ls at hl ⊢
  have hl : lv_has ls 4 [(0, .ref (ad 1)), (1, .int 0), (2, .int 99999)] := hl
  generalize hloc : ([] : List Loc) = locs at hw ⊢
  have hinX6 : ∀ w ∈ u_ws RX6 TX6 5, w ∈ wsX6_readNumber := fun _ h => List.mem_cons_of_mem _ (List.mem_append_right _ (h))
  have J125 : ∀ (v125_3 : Int32) (f125_1_1 : Int32) (f125_1_2 : Int32) (f125_1_3 : Int32) (H : Heap) (locs : List Loc) (ls : Array Slot) (w1 : va_W), 0 ≤ f125_1_1.toInt → f125_1_1.toInt ≤ 400 → 1 ≤ f125_1_2.toInt → f125_1_2.toInt ≤ 400 → 0 ≤ f125_1_3.toInt → f125_1_3.toInt ≤ 399 → Wd dC dI A s.heap H locs w1 → TW ksC ad cy B qr s1 w1 → FE ksC [(6, 1, 1), (6, 3, 3), (6, 4, 4)] w0 w1 → gi w1 1 1 = f125_1_1 → gi w1 1 2 = f125_1_2 → gi w1 1 3 = f125_1_3 → gi w1 1 4 = 0 → lv_has ls 4 [(0, .ref (ad 1)), (1, .int 0), (2, .int 99999), (3, .int v125_3)] → W p l e ({ frames := 2, cells := 0, slots := 0, locals := 34 }) s m (List.toArray [.ref (ad 1), .int 0, .int 99999]) below meth c H locs 0 0 (MQ below (va_Qi (P_X6_readNumber_1 ad cy B qr s1  w0) (fun u : va_W => wpost dC dI cy A u) A) (List.toArray [.ref (ad 1), .int 0, .int 99999]) s 0 0 A) (F0 m 125 ls []) := by
    intro v125_3 f125_1_1 f125_1_2 f125_1_3 H locs ls w1 r2 t3 r5 t6 r8 t9 hw hT hF c4 c7 c10 c11 hl
    refine lv_aload_n hx hb dX6_readNumber_125 rfl (lv_at hl 0 rfl) ?_
    refine lv_aload_n hx hb dX6_readNumber_126 rfl (lv_at hl 0 rfl) ?_
    refine tk_geti hC hK hw hT hinX6 kC_at1 (by decide) rfl 3 (by decide) (List.mem_of_getElem? (i := 1) rfl) rfl rfl dX6_readNumber_127 (fun x12 c13 rx12 tx12 => ?_)
    refine wk_top f125_1_3 (c13.symm.trans c10) ?_
    refine lv_iconst (v := 1) hx hb dX6_readNumber_130 (by decide) ?_
    refine tk_Vv hC hK hw hT hA hE hSR kC_at1 (by decide) rfl (k_X6_blame_1 l adK adV dC dI cy ad B (by omega) (by omega) qr s1   f125_1_3 (show 0 ≤ f125_1_3.toInt by omega) (show f125_1_3.toInt ≤ 400 by omega) 1 (by decide) (by decide) w1 H.size hT c11) (cwV 2 hC.2.2.2.2 gX6_readNumber_X6_blame rfl rfl rfl (by decide +kernel) ⟨Nat.le_of_ble_eq_true rfl, Nat.le_of_ble_eq_true rfl⟩) rfl hl.1 rfl (Nat.le_of_ble_eq_true rfl) dX6_readNumber_131 (fun w16 H locs hp15 hw => ?_)
    obtain ⟨hT, k17, hg20⟩ := hp15
    have hF := hF.tr k17 (by decide)
    have c21 := k17.gi kC_at1 (by decide) c4
    have c22 := k17.gi kC_at1 (by decide) c7
    have c23 := k17.gi kC_at1 (by decide) c10
    obtain ⟨x18, c19, rx18, tx18⟩ := hg20
    refine lv_iconst (v := (-1)) hx hb dX6_readNumber_134 (by decide) ?_
    exact tk_iret hC hr hlocks hK ⟨hT, hF, (Or.inr ⟨rfl, ⟨x18, c19, (show 1 ≤ x18.toInt by omega), (show x18.toInt ≤ 3205 by omega)⟩⟩)⟩ hw dX6_readNumber_135
  have J102 : ∀ (v102_3 : Int32) (f102_1_1 : Int32) (f102_1_2 : Int32) (f102_1_3 : Int32) (H : Heap) (locs : List Loc) (ls : Array Slot) (w24 : va_W), 0 ≤ f102_1_1.toInt → f102_1_1.toInt ≤ 400 → 1 ≤ f102_1_2.toInt → f102_1_2.toInt ≤ 400 → 0 ≤ f102_1_3.toInt → f102_1_3.toInt ≤ 399 → Wd dC dI A s.heap H locs w24 → TW ksC ad cy B qr s1 w24 → FE ksC [(6, 1, 1), (6, 3, 3), (6, 4, 4)] w0 w24 → gi w24 1 1 = f102_1_1 → gi w24 1 2 = f102_1_2 → gi w24 1 3 = f102_1_3 → gi w24 1 4 = 0 → lv_has ls 4 [(0, .ref (ad 1)), (1, .int 0), (2, .int 99999), (3, .int v102_3)] → W p l e ({ frames := 2, cells := 0, slots := 0, locals := 34 }) s m (List.toArray [.ref (ad 1), .int 0, .int 99999]) below meth c H locs 0 0 (MQ below (va_Qi (P_X6_readNumber_1 ad cy B qr s1  w0) (fun u : va_W => wpost dC dI cy A u) A) (List.toArray [.ref (ad 1), .int 0, .int 99999]) s 0 0 A) (F0 m 102 ls []) := by
    intro v102_3 f102_1_1 f102_1_2 f102_1_3 H locs ls w24 r25 t26 r28 t29 r31 t32 hw hT hF c27 c30 c33 c34 hl
    refine lv_aload_n hx hb dX6_readNumber_102 rfl (lv_at hl 0 rfl) ?_
    refine tk_geti hC hK hw hT hinX6 kC_at1 (by decide) rfl 1 (by decide) (List.mem_of_getElem? (i := 2) rfl) rfl rfl dX6_readNumber_103 (fun x35 c36 rx35 tx35 => ?_)
    refine wk_top f102_1_1 (c36.symm.trans c27) ?_
    refine lv_aload_n hx hb dX6_readNumber_106 rfl (lv_at hl 0 rfl) ?_
    refine tk_geti hC hK hw hT hinX6 kC_at1 (by decide) rfl 3 (by decide) (List.mem_of_getElem? (i := 1) rfl) rfl rfl dX6_readNumber_107 (fun x37 c38 rx37 tx37 => ?_)
    refine wk_top f102_1_3 (c38.symm.trans c33) ?_
    refine lv_isub hx hb dX6_readNumber_110 ?_
    refine lv_topi (fun x39 ex39 => ?_)
    have ex39 : x39.toInt = f102_1_1.toInt - f102_1_3.toInt := by rw [ex39]; exact wk_sub (show (-2147483648) ≤ f102_1_1.toInt - f102_1_3.toInt by omega) (show f102_1_1.toInt - f102_1_3.toInt ≤ 2147483647 by omega)
    refine lv_iconst (v := 5) hx hb dX6_readNumber_111 (by decide) ?_
    refine lv_icmp_gt (tgt := 125) hx hb dX6_readNumber_112 (by decide) (fun c40 => ?_) (fun c40 => ?_)
    · have c40 : (5 : Int) < x39.toInt := wk_lt.mp c40
      exact J125 v102_3 f102_1_1 f102_1_2 f102_1_3 H locs ls w24 (show 0 ≤ f102_1_1.toInt by omega) (show f102_1_1.toInt ≤ 400 by omega) (show 1 ≤ f102_1_2.toInt by omega) (show f102_1_2.toInt ≤ 400 by omega) (show 0 ≤ f102_1_3.toInt by omega) (show f102_1_3.toInt ≤ 399 by omega)  hw hT hF c27 c30 c33 c34 (lv_sub hl [0, 1, 2, 3] rfl)
    · have c40 : x39.toInt ≤ (5 : Int) := wk_ltF c40
      refine lv_iload_n hx hb dX6_readNumber_115 rfl (lv_at hl 3 rfl) ?_
      refine lv_iload_n hx hb dX6_readNumber_116 rfl (lv_at hl 1 rfl) ?_
      refine lv_icmp_lt (tgt := 125) hx hb dX6_readNumber_117 (by decide) (fun c41 => ?_) (fun c41 => ?_)
      · have c41 : v102_3.toInt < (0 : Int) := wk_lt.mp c41
        exact J125 v102_3 f102_1_1 f102_1_2 f102_1_3 H locs ls w24 (show 0 ≤ f102_1_1.toInt by omega) (show f102_1_1.toInt ≤ 400 by omega) (show 1 ≤ f102_1_2.toInt by omega) (show f102_1_2.toInt ≤ 400 by omega) (show 0 ≤ f102_1_3.toInt by omega) (show f102_1_3.toInt ≤ 399 by omega)  hw hT hF c27 c30 c33 c34 (lv_sub hl [0, 1, 2, 3] rfl)
      · have c41 : (0 : Int) ≤ v102_3.toInt := wk_ltF c41
        refine lv_iload_n hx hb dX6_readNumber_120 rfl (lv_at hl 3 rfl) ?_
        refine lv_iload_n hx hb dX6_readNumber_121 rfl (lv_at hl 2 rfl) ?_
        refine lv_icmp_le (tgt := 136) hx hb dX6_readNumber_122 (by decide) (fun c42 => ?_) (fun c42 => ?_)
        · have c42 : v102_3.toInt ≤ (99999 : Int) := wk_le.mp c42
          refine lv_iload_n hx hb dX6_readNumber_136 rfl (lv_at hl 3 rfl) ?_
          exact tk_iret hC hr hlocks hK ⟨hT, hF, (Or.inl ⟨(show 0 ≤ v102_3.toInt by omega), (show v102_3.toInt ≤ 99999 by omega), ⟨f102_1_2, c30, (show 1 ≤ f102_1_2.toInt by omega), (show f102_1_2.toInt ≤ 400 by omega)⟩, ⟨f102_1_3, c33, (show 0 ≤ f102_1_3.toInt by omega), (show f102_1_3.toInt ≤ 399 by omega)⟩, ⟨0, c34, (by decide), (by decide)⟩⟩)⟩ hw dX6_readNumber_137
        · have c42 : (99999 : Int) < v102_3.toInt := wk_leF c42
          exact J125 v102_3 f102_1_1 f102_1_2 f102_1_3 H locs ls w24 (show 0 ≤ f102_1_1.toInt by omega) (show f102_1_1.toInt ≤ 400 by omega) (show 1 ≤ f102_1_2.toInt by omega) (show f102_1_2.toInt ≤ 400 by omega) (show 0 ≤ f102_1_3.toInt by omega) (show f102_1_3.toInt ≤ 399 by omega)  hw hT hF c27 c30 c33 c34 (lv_sub hl [0, 1, 2, 3] rfl)
  have L32 : ∀ (n32 : Nat) (v32_3 : Int32) (f32_1_1 : Int32) (f32_1_2 : Int32) (f32_1_3 : Int32) (H : Heap) (locs : List Loc) (ls : Array Slot) (w43 : va_W), 0 ≤ f32_1_1.toInt → f32_1_1.toInt ≤ 400 → 1 ≤ f32_1_2.toInt → f32_1_2.toInt ≤ 400 → 0 ≤ f32_1_3.toInt → f32_1_3.toInt ≤ 399 → (400 - f32_1_1.toInt).toNat < n32 → Wd dC dI A s.heap H locs w43 → TW ksC ad cy B qr s1 w43 → FE ksC [(6, 1, 1), (6, 3, 3), (6, 4, 4)] w0 w43 → gi w43 1 1 = f32_1_1 → gi w43 1 2 = f32_1_2 → gi w43 1 3 = f32_1_3 → gi w43 1 4 = 0 → lv_has ls 4 [(0, .ref (ad 1)), (1, .int 0), (2, .int 99999), (3, .int v32_3)] → W p l e ({ frames := 2, cells := 0, slots := 0, locals := 34 }) s m (List.toArray [.ref (ad 1), .int 0, .int 99999]) below meth c H locs 0 0 (MQ below (va_Qi (P_X6_readNumber_1 ad cy B qr s1  w0) (fun u : va_W => wpost dC dI cy A u) A) (List.toArray [.ref (ad 1), .int 0, .int 99999]) s 0 0 A) (F0 m 32 ls []) := by
    intro n32
    induction n32 with
    | zero => intro v32_3 f32_1_1 f32_1_2 f32_1_3 H locs ls w43 r44 t45 r47 t48 r50 t51 hm32 hw hT hF c46 c49 c52 c53 hl; omega
    | succ n32 ih32 =>
      intro v32_3 f32_1_1 f32_1_2 f32_1_3 H locs ls w43 r44 t45 r47 t48 r50 t51 hm32 hw hT hF c46 c49 c52 c53 hl
      have J89 : ∀ (v89_3 : Int32) (H : Heap) (locs : List Loc) (ls : Array Slot) (w54 : va_W), 0 ≤ f32_1_1.toInt → f32_1_1.toInt ≤ 399 → 1 ≤ f32_1_2.toInt → f32_1_2.toInt ≤ 400 → 0 ≤ f32_1_3.toInt → f32_1_3.toInt ≤ 399 → Wd dC dI A s.heap H locs w54 → TW ksC ad cy B qr s1 w54 → FE ksC [(6, 1, 1), (6, 3, 3), (6, 4, 4)] w0 w54 → gi w54 1 1 = f32_1_1 → gi w54 1 2 = f32_1_2 → gi w54 1 3 = f32_1_3 → gi w54 1 4 = 0 → lv_has ls 4 [(0, .ref (ad 1)), (1, .int 0), (2, .int 99999), (3, .int v89_3)] → W p l e ({ frames := 2, cells := 0, slots := 0, locals := 34 }) s m (List.toArray [.ref (ad 1), .int 0, .int 99999]) below meth c H locs 0 0 (MQ below (va_Qi (P_X6_readNumber_1 ad cy B qr s1  w0) (fun u : va_W => wpost dC dI cy A u) A) (List.toArray [.ref (ad 1), .int 0, .int 99999]) s 0 0 A) (F0 m 89 ls []) := by
        intro v89_3 H locs ls w54 r55 t56 r58 t59 r61 t62 hw hT hF c57 c60 c63 c64 hl
        refine lv_aload_n hx hb dX6_readNumber_89 rfl (lv_at hl 0 rfl) ?_
        refine lv_dup hx hb dX6_readNumber_90 rfl ?_
        refine tk_geti hC hK hw hT hinX6 kC_at1 (by decide) rfl 1 (by decide) (List.mem_of_getElem? (i := 2) rfl) rfl rfl dX6_readNumber_91 (fun x65 c66 rx65 tx65 => ?_)
        refine wk_top f32_1_1 (c66.symm.trans c57) ?_
        refine lv_iconst (v := 1) hx hb dX6_readNumber_94 (by decide) ?_
        refine lv_iadd hx hb dX6_readNumber_95 ?_
        refine lv_topi (fun x67 ex67 => ?_)
        have ex67 : x67.toInt = f32_1_1.toInt + (1 : Int) := by rw [ex67]; exact wk_add (show (-2147483648) ≤ f32_1_1.toInt + (1 : Int) by omega) (show f32_1_1.toInt + (1 : Int) ≤ 2147483647 by omega)
        refine tk_puti hC hK hw hT hinX6 tyX6_ok nmX6 kC_at1 (by decide) rfl rfl 1 (by decide) (List.mem_of_getElem? (i := 2) rfl) rfl rfl rfl rfl (show 0 ≤ x67.toInt by omega) (show x67.toInt ≤ 400 by omega) dX6_readNumber_96 (fun H locs w68 hw hT k70 c69 => ?_)
        have hF := hF.put kC_at1 (k := 1) (by decide) k70
        have c71 := k70.gi (Or.inr (by decide)) c60
        have c72 := k70.gi (Or.inr (by decide)) c63
        have c73 := k70.gi (Or.inr (by decide)) c64
        refine lv_goto (tgt := 32) hx hb dX6_readNumber_99 (by decide) ?_
        exact ih32 v89_3 x67 f32_1_2 f32_1_3 H locs ls w68 (show 0 ≤ x67.toInt by omega) (show x67.toInt ≤ 400 by omega) (show 1 ≤ f32_1_2.toInt by omega) (show f32_1_2.toInt ≤ 400 by omega) (show 0 ≤ f32_1_3.toInt by omega) (show f32_1_3.toInt ≤ 399 by omega) (show (400 - x67.toInt).toNat < n32 by omega) hw hT hF c69 c71 c72 c73 (lv_sub hl [0, 1, 2, 3] rfl)
      refine lv_aload_n hx hb dX6_readNumber_32 rfl (lv_at hl 0 rfl) ?_
      refine tk_geti hC hK hw hT hinX6 kC_at1 (by decide) rfl 1 (by decide) (List.mem_of_getElem? (i := 2) rfl) rfl rfl dX6_readNumber_33 (fun x74 c75 rx74 tx74 => ?_)
      refine wk_top f32_1_1 (c75.symm.trans c46) ?_
      refine lv_aload_n hx hb dX6_readNumber_36 rfl (lv_at hl 0 rfl) ?_
      refine tk_geti hC hK hw hT hinX6 kC_at1 (by decide) rfl 2 (by decide) (List.mem_of_getElem? (i := 3) rfl) rfl rfl dX6_readNumber_37 (fun x76 c77 rx76 tx76 => ?_)
      refine wk_top f32_1_2 (c77.symm.trans c49) ?_
      refine lv_icmp_ge (tgt := 102) hx hb dX6_readNumber_40 (by decide) (fun c78 => ?_) (fun c78 => ?_)
      · have c78 : f32_1_2.toInt ≤ f32_1_1.toInt := wk_le.mp c78
        exact J102 v32_3 f32_1_1 f32_1_2 f32_1_3 H locs ls w43 (show 0 ≤ f32_1_1.toInt by omega) (show f32_1_1.toInt ≤ 400 by omega) (show 1 ≤ f32_1_2.toInt by omega) (show f32_1_2.toInt ≤ 400 by omega) (show 0 ≤ f32_1_3.toInt by omega) (show f32_1_3.toInt ≤ 399 by omega)  hw hT hF c46 c49 c52 c53 (lv_sub hl [0, 1, 2, 3] rfl)
      · have c78 : f32_1_1.toInt < f32_1_2.toInt := wk_leF c78
        refine lv_aload_n hx hb dX6_readNumber_43 rfl (lv_at hl 0 rfl) ?_
        refine tk_getA hC hK hw hT hinX6 kC_at1 (by decide) rfl 0 (by decide) (List.mem_of_getElem? (i := 4) rfl) rfl rfl dX6_readNumber_44 ?_
        refine lv_aload_n hx hb dX6_readNumber_47 rfl (lv_at hl 0 rfl) ?_
        refine tk_geti hC hK hw hT hinX6 kC_at1 (by decide) rfl 1 (by decide) (List.mem_of_getElem? (i := 2) rfl) rfl rfl dX6_readNumber_48 (fun x79 c80 rx79 tx79 => ?_)
        refine wk_top f32_1_1 (c80.symm.trans c46) ?_
        refine tk_iald hC hK hw hT kC_at2 rfl rfl (show 0 ≤ f32_1_1.toInt by omega) (show f32_1_1.toInt < 400 by omega) dX6_readNumber_51 (fun x81 c82 rx81 tx81 => ?_)
        refine tk_Si hC hK hw hT hA hE hSR (k_X6_isDigit_1 l adK adV dC dI cy ad B (by omega) (by omega) qr s1   x81 (show 0 ≤ x81.toInt by omega) (show x81.toInt ≤ 255 by omega) w43 H.size hT ) (va_cwS 1 hC.2.2.2.2 gX6_readNumber_X6_isDigit rfl rfl rfl (by decide +kernel) ⟨Nat.le_of_ble_eq_true rfl, Nat.le_of_ble_eq_true rfl⟩) rfl hl.1 rfl (Nat.le_of_ble_eq_true rfl) dX6_readNumber_52 (fun r83 w85 H locs hp84 hw => ?_)
        obtain ⟨hT, k86, hg89⟩ := hp84
        have hF := hF.tr k86 (by decide)
        have c90 := k86.gi kC_at1 (by decide) c46
        have c91 := k86.gi kC_at1 (by decide) c49
        have c92 := k86.gi kC_at1 (by decide) c52
        have c93 := k86.gi kC_at1 (by decide) c53
        rcases hg89 with rfl | ⟨rfl, g87, g88⟩
        · refine lv_if_eq (tgt := 102) hx hb dX6_readNumber_55 (by decide) (fun _ => ?_) (fun c => absurd (by decide) c)
          exact J102 v32_3 f32_1_1 f32_1_2 f32_1_3 H locs ls w85 (show 0 ≤ f32_1_1.toInt by omega) (show f32_1_1.toInt ≤ 400 by omega) (show 1 ≤ f32_1_2.toInt by omega) (show f32_1_2.toInt ≤ 400 by omega) (show 0 ≤ f32_1_3.toInt by omega) (show f32_1_3.toInt ≤ 399 by omega)  hw hT hF c90 c91 c92 c93 (lv_sub hl [0, 1, 2, 3] rfl)
        · refine lv_if_eq (tgt := 102) hx hb dX6_readNumber_55 (by decide) (fun c => absurd c (by decide)) (fun _ => ?_)
          refine lv_aload_n hx hb dX6_readNumber_58 rfl (lv_at hl 0 rfl) ?_
          refine tk_geti hC hK hw hT hinX6 kC_at1 (by decide) rfl 1 (by decide) (List.mem_of_getElem? (i := 2) rfl) rfl rfl dX6_readNumber_59 (fun x94 c95 rx94 tx94 => ?_)
          refine wk_top f32_1_1 (c95.symm.trans c90) ?_
          refine lv_aload_n hx hb dX6_readNumber_62 rfl (lv_at hl 0 rfl) ?_
          refine tk_geti hC hK hw hT hinX6 kC_at1 (by decide) rfl 3 (by decide) (List.mem_of_getElem? (i := 1) rfl) rfl rfl dX6_readNumber_63 (fun x96 c97 rx96 tx96 => ?_)
          refine wk_top f32_1_3 (c97.symm.trans c92) ?_
          refine lv_isub hx hb dX6_readNumber_66 ?_
          refine lv_topi (fun x98 ex98 => ?_)
          have ex98 : x98.toInt = f32_1_1.toInt - f32_1_3.toInt := by rw [ex98]; exact wk_sub (show (-2147483648) ≤ f32_1_1.toInt - f32_1_3.toInt by omega) (show f32_1_1.toInt - f32_1_3.toInt ≤ 2147483647 by omega)
          refine lv_iconst (v := 5) hx hb dX6_readNumber_67 (by decide) ?_
          refine lv_icmp_ge (tgt := 89) hx hb dX6_readNumber_68 (by decide) (fun c99 => ?_) (fun c99 => ?_)
          · have c99 : (5 : Int) ≤ x98.toInt := wk_le.mp c99
            exact J89 v32_3 H locs ls w85 (show 0 ≤ f32_1_1.toInt by omega) (show f32_1_1.toInt ≤ 399 by omega) (show 1 ≤ f32_1_2.toInt by omega) (show f32_1_2.toInt ≤ 400 by omega) (show 0 ≤ f32_1_3.toInt by omega) (show f32_1_3.toInt ≤ 399 by omega)  hw hT hF c90 c91 c92 c93 (lv_sub hl [0, 1, 2, 3] rfl)
          · have c99 : x98.toInt < (5 : Int) := wk_leF c99
            refine lv_iload_n hx hb dX6_readNumber_71 rfl (lv_at hl 3 rfl) ?_
            refine lv_bipush (v := 10) hx hb dX6_readNumber_72 (by decide) ?_
            refine lv_imul hx hb dX6_readNumber_74 ?_
            have nx100 := wk_i32 v32_3
            refine lv_topi (fun x101 ex101 => ?_)
            refine lv_aload_n hx hb dX6_readNumber_75 rfl (lv_at hl 0 rfl) ?_
            refine tk_getA hC hK hw hT hinX6 kC_at1 (by decide) rfl 0 (by decide) (List.mem_of_getElem? (i := 4) rfl) rfl rfl dX6_readNumber_76 ?_
            refine lv_aload_n hx hb dX6_readNumber_79 rfl (lv_at hl 0 rfl) ?_
            refine tk_geti hC hK hw hT hinX6 kC_at1 (by decide) rfl 1 (by decide) (List.mem_of_getElem? (i := 2) rfl) rfl rfl dX6_readNumber_80 (fun x102 c103 rx102 tx102 => ?_)
            refine wk_top f32_1_1 (c103.symm.trans c90) ?_
            refine tk_iald hC hK hw hT kC_at2 rfl rfl (show 0 ≤ f32_1_1.toInt by omega) (show f32_1_1.toInt < 400 by omega) dX6_readNumber_83 (fun x104 c105 rx104 tx104 => ?_)
            refine lv_iadd hx hb dX6_readNumber_84 ?_
            have nx106 := wk_i32 x101
            refine lv_topi (fun x107 ex107 => ?_)
            refine lv_bipush (v := 48) hx hb dX6_readNumber_85 (by decide) ?_
            refine lv_isub hx hb dX6_readNumber_87 ?_
            have nx108 := wk_i32 x107
            refine lv_topi (fun x109 ex109 => ?_)
            refine lv_istore_n (lv' := [(3, .int x109), (0, .ref (ad 1)), (1, .int 0), (2, .int 99999)]) hx hb dX6_readNumber_88 rfl hl (by decide) rfl (fun ls hl => ?_)
            exact J89 x109 H locs ls w85 (show 0 ≤ f32_1_1.toInt by omega) (show f32_1_1.toInt ≤ 399 by omega) (show 1 ≤ f32_1_2.toInt by omega) (show f32_1_2.toInt ≤ 400 by omega) (show 0 ≤ f32_1_3.toInt by omega) (show f32_1_3.toInt ≤ 399 by omega)  hw hT hF c90 c91 c92 c93 (lv_sub hl [1, 2, 3, 0] rfl)
  refine lv_aload_n hx hb dX6_readNumber_0 rfl (lv_at hl 0 rfl) ?_
  refine tk_Vi hC hK hw hT hA hE hSR kC_at1 (by decide) rfl (k_X6_isFaulty_2 l adK adV dC dI cy ad B (by omega) (by omega) qr s1    w0 s.heap.size hT cf0_) (cwV 0 hC.2.2.2.2 gX6_readNumber_X6_isFaulty rfl rfl rfl (by decide +kernel) ⟨Nat.le_of_ble_eq_true rfl, Nat.le_of_ble_eq_true rfl⟩) rfl hl.1 rfl (Nat.le_of_ble_eq_true rfl) dX6_readNumber_1 (fun r110 w112 H locs hp111 hw => ?_)
  obtain ⟨hT, k113, hg116⟩ := hp111
  have hF := hF.tr k113 (by decide)
  have c117 := k113.gi kC_at1 (by decide) cf0_
  obtain ⟨rfl, ⟨x114, c115, rx114, tx114⟩⟩ := hg116
  have ex114 : x114.toInt = (0 : Int) := by rw [show x114 = 0 from c115.symm.trans c117]; decide
  refine lv_if_eq (tgt := 9) hx hb dX6_readNumber_4 (by decide) (fun _ => ?_) (fun c => absurd (by decide) c)
  refine lv_aload_n hx hb dX6_readNumber_9 rfl (lv_at hl 0 rfl) ?_
  refine tk_Vi hC hK hw hT hA hE hSR kC_at1 (by decide) rfl (k_X6_lookBehindBlanks_1 l adK adV dC dI cy ad B (by omega) (by omega) qr s1    w112 H.size hT ) (cwV 0 hC.2.2.2.2 gX6_readNumber_X6_lookBehindBlanks rfl rfl rfl (by decide +kernel) ⟨Nat.le_of_ble_eq_true rfl, Nat.le_of_ble_eq_true rfl⟩) rfl hl.1 rfl (Nat.le_of_ble_eq_true rfl) dX6_readNumber_10 (fun r118 w120 H locs hp119 hw => ?_)
  obtain ⟨hT, k121, hg130⟩ := hp119
  have hF := hF.tr k121 (by decide)
  have c131 := k121.gi kC_at1 (by decide) c117
  rcases hg130 with ⟨g122, g123, ⟨x124, c125, rx124, tx124⟩, ⟨x126, c127, rx126, tx126⟩, ⟨x128, c129, rx128, tx128⟩⟩ | rfl
  · refine tk_Si hC hK hw hT hA hE hSR (k_X6_isDigit_1 l adK adV dC dI cy ad B (by omega) (by omega) qr s1   r118 (show 0 ≤ r118.toInt by omega) (show r118.toInt ≤ 255 by omega) w120 H.size hT ) (va_cwS 1 hC.2.2.2.2 gX6_readNumber_X6_isDigit rfl rfl rfl (by decide +kernel) ⟨Nat.le_of_ble_eq_true rfl, Nat.le_of_ble_eq_true rfl⟩) rfl hl.1 rfl (Nat.le_of_ble_eq_true rfl) dX6_readNumber_13 (fun r132 w134 H locs hp133 hw => ?_)
    obtain ⟨hT, k135, hg138⟩ := hp133
    have hF := hF.tr k135 (by decide)
    have c139 := k135.gi kC_at1 (by decide) c131
    have c140 := k135.gi kC_at1 (by decide) c125
    have c141 := k135.gi kC_at1 (by decide) c127
    have c142 := k135.gi kC_at1 (by decide) c129
    rcases hg138 with rfl | ⟨rfl, g136, g137⟩
    · refine lv_if_ne (tgt := 30) hx hb dX6_readNumber_16 (by decide) (fun c => absurd (by decide) c) (fun _ => ?_)
      refine lv_aload_n hx hb dX6_readNumber_19 rfl (lv_at hl 0 rfl) ?_
      refine lv_aload_n hx hb dX6_readNumber_20 rfl (lv_at hl 0 rfl) ?_
      refine tk_geti hC hK hw hT hinX6 kC_at1 (by decide) rfl 3 (by decide) (List.mem_of_getElem? (i := 1) rfl) rfl rfl dX6_readNumber_21 (fun x143 c144 rx143 tx143 => ?_)
      refine wk_top x128 (c144.symm.trans c142) ?_
      refine lv_iconst (v := 0) hx hb dX6_readNumber_24 (by decide) ?_
      refine tk_Vv hC hK hw hT hA hE hSR kC_at1 (by decide) rfl (k_X6_blame_1 l adK adV dC dI cy ad B (by omega) (by omega) qr s1   x128 (show 0 ≤ x128.toInt by omega) (show x128.toInt ≤ 400 by omega) 0 (by decide) (by decide) w134 H.size hT c139) (cwV 2 hC.2.2.2.2 gX6_readNumber_X6_blame rfl rfl rfl (by decide +kernel) ⟨Nat.le_of_ble_eq_true rfl, Nat.le_of_ble_eq_true rfl⟩) rfl hl.1 rfl (Nat.le_of_ble_eq_true rfl) dX6_readNumber_25 (fun w147 H locs hp146 hw => ?_)
      obtain ⟨hT, k148, hg151⟩ := hp146
      have hF := hF.tr k148 (by decide)
      have c152 := k148.gi kC_at1 (by decide) c140
      have c153 := k148.gi kC_at1 (by decide) c141
      have c154 := k148.gi kC_at1 (by decide) c142
      obtain ⟨x149, c150, rx149, tx149⟩ := hg151
      refine lv_iconst (v := (-1)) hx hb dX6_readNumber_28 (by decide) ?_
      exact tk_iret hC hr hlocks hK ⟨hT, hF, (Or.inr ⟨rfl, ⟨x149, c150, (show 1 ≤ x149.toInt by omega), (show x149.toInt ≤ 3205 by omega)⟩⟩)⟩ hw dX6_readNumber_29
    · refine lv_if_ne (tgt := 30) hx hb dX6_readNumber_16 (by decide) (fun _ => ?_) (fun c => absurd c (by decide))
      refine lv_iconst (v := 0) hx hb dX6_readNumber_30 (by decide) ?_
      refine lv_istore_n (lv' := [(3, .int 0), (0, .ref (ad 1)), (1, .int 0), (2, .int 99999)]) hx hb dX6_readNumber_31 rfl hl (by decide) rfl (fun ls hl => ?_)
      exact L32 ((400 - x124.toInt).toNat + 1) 0 x124 x126 x128 H locs ls w134 (show 0 ≤ x124.toInt by omega) (show x124.toInt ≤ 400 by omega) (show 1 ≤ x126.toInt by omega) (show x126.toInt ≤ 400 by omega) (show 0 ≤ x128.toInt by omega) (show x128.toInt ≤ 399 by omega) (Nat.lt_succ_self _) hw hT hF c140 c141 c142 c139 (lv_sub hl [1, 2, 3, 0] rfl)
  · refine tk_Si hC hK hw hT hA hE hSR (k_X6_isDigit_2 l adK adV dC dI cy ad B (by omega) (by omega) qr s1    w120 H.size hT ) (va_cwS 1 hC.2.2.2.2 gX6_readNumber_X6_isDigit rfl rfl rfl (by decide +kernel) ⟨Nat.le_of_ble_eq_true rfl, Nat.le_of_ble_eq_true rfl⟩) rfl hl.1 rfl (Nat.le_of_ble_eq_true rfl) dX6_readNumber_13 (fun r155 w157 H locs hp156 hw => ?_)
    obtain ⟨hT, k158, hg159⟩ := hp156
    have hF := hF.tr k158 (by decide)
    have c160 := k158.gi kC_at1 (by decide) c131
    obtain rfl := hg159
    refine lv_if_ne (tgt := 30) hx hb dX6_readNumber_16 (by decide) (fun c => absurd (by decide) c) (fun _ => ?_)
    refine lv_aload_n hx hb dX6_readNumber_19 rfl (lv_at hl 0 rfl) ?_
    refine lv_aload_n hx hb dX6_readNumber_20 rfl (lv_at hl 0 rfl) ?_
    refine tk_geti hC hK hw hT hinX6 kC_at1 (by decide) rfl 3 (by decide) (List.mem_of_getElem? (i := 1) rfl) rfl rfl dX6_readNumber_21 (fun x161 c162 rx161 tx161 => ?_)
    refine lv_iconst (v := 0) hx hb dX6_readNumber_24 (by decide) ?_
    refine tk_Vv hC hK hw hT hA hE hSR kC_at1 (by decide) rfl (k_X6_blame_1 l adK adV dC dI cy ad B (by omega) (by omega) qr s1   x161 (show 0 ≤ x161.toInt by omega) (show x161.toInt ≤ 400 by omega) 0 (by decide) (by decide) w157 H.size hT c160) (cwV 2 hC.2.2.2.2 gX6_readNumber_X6_blame rfl rfl rfl (by decide +kernel) ⟨Nat.le_of_ble_eq_true rfl, Nat.le_of_ble_eq_true rfl⟩) rfl hl.1 rfl (Nat.le_of_ble_eq_true rfl) dX6_readNumber_25 (fun w165 H locs hp164 hw => ?_)
    obtain ⟨hT, k166, hg169⟩ := hp164
    have hF := hF.tr k166 (by decide)
    have c170 := k166.gi kC_at1 (by decide) c162
    obtain ⟨x167, c168, rx167, tx167⟩ := hg169
    refine lv_iconst (v := (-1)) hx hb dX6_readNumber_28 (by decide) ?_
    exact tk_iret hC hr hlocks hK ⟨hT, hF, (Or.inr ⟨rfl, ⟨x167, c168, (show 1 ≤ x167.toInt by omega), (show x167.toInt ≤ 3205 by omega)⟩⟩)⟩ hw dX6_readNumber_29
abbrev P_X3_readValue_1 (ad : Nat → Nat) (cy : Nat → ClassId) (B : Int) (qr : Nat) (s1 : Int)  (w0 : va_W) : va_W → Prop := fun u => TW ksC ad cy B qr s1 u ∧ FE ksC [(2, 3, 3), (3, 2, 2), (6, 1, 1), (6, 3, 3), (6, 4, 4), (22, 0, 13), (23, 0, 400)] w0 u ∧ ((True))
set_option maxHeartbeats 4000000 in
set_option maxRecDepth 100000 in
theorem k_X3_readValue_1 (l : Launch) (adK adV : Nat → Nat) (dC : Nat → ClassId) (dI : Nat → Nat → Nat) (cy : Nat → ClassId) (ad : Nat → Nat) (B : Int) (hB0 : 2147483648 ≤ B) (hB1 : B ≤ 1152921504606846976) (qr : Nat) (s1 : Int) (hqr : ksC[qr]? = some 2)  (w0 : va_W) (sz : Nat) (hT : TW ksC ad cy B qr s1 w0) (cf0_ : gi w0 1 4 = 0) : Met l yX3_readValue wsX3_readValue ({ frames := 6, cells := 0, slots := 0, locals := 168 }) (va_Pc [.ref (ad 3)] (wpreS adK adV dC dI cy sz w0)) (va_Qv (P_X3_readValue_1 ad cy B qr s1  w0) (fun u : va_W => wpost dC dI cy (va_A w0 sz) u) (va_A w0 sz)) 0 0 (va_A w0 sz) := by
  refine Met.ofW (cc := cX3_readValue) (maxL := 1) (ret := none) (by decide) rfl ?_
  intro p e s m args below meth c s₁ Bk hml hv
  obtain ⟨rfl, ⟨hsz, hP, hK, hD0⟩, hE, hSR⟩ := hv
  have hx := Bk.exec
  have hb := Bk.bytes
  have hr := Bk.returns
  have hlocks := Bk.notSynchronized
  have hC : CallFix p m c cX3_readValue 1 s _ wsX3_readValue RX3 := ⟨hx, hb, hml, findClass_of_methodNamed Bk.named, atoms_spec (ws := wsX3_readValue) Bk.pre⟩
  subst hsz
  have hD := hD0.self (sz := s.heap.size)
  generalize hAe : va_A w0 s.heap.size = A at hD hE ⊢
  have hA : ∀ q : Nat, s.heap.size ≤ q → A q := fun q h => by rw [← hAe]; exact Or.inr h
  have hw : Wd dC dI A s.heap s.heap [] w0 := ⟨hP, hD, va_S.rf⟩
  have hF : FE ksC [(2, 3, 3), (3, 2, 2), (6, 1, 1), (6, 3, 3), (6, 4, 4), (22, 0, 13), (23, 0, 400)] w0 w0 := FE.rf
  have hl := lv_entry ([.ref (ad 3)]) (n := 1) (Nat.le_of_ble_eq_true rfl)
  rw [lg_entry_eq]
  generalize (lg_sl ([.ref (ad 3)]) ++ List.replicate (1 - (lg_sl ([.ref (ad 3)])).length) Slot.unset).toArray = ls at hl ⊢
  have hl : lv_has ls 1 [(0, .ref (ad 3))] := hl
  generalize hloc : ([] : List Loc) = locs at hw ⊢
  have hinX3 : ∀ w ∈ u_ws RX3 TX3 3, w ∈ wsX3_readValue := fun _ h => List.mem_cons_of_mem _ (List.mem_append_left _ (List.mem_append_left _ (List.mem_append_right _ (h))))
  have J63 : ∀ (f63_1_4 : Int32) (H : Heap) (locs : List Loc) (ls : Array Slot) (w1 : va_W), 0 ≤ f63_1_4.toInt → f63_1_4.toInt ≤ 3205 → Wd dC dI A s.heap H locs w1 → TW ksC ad cy B qr s1 w1 → FE ksC [(2, 3, 3), (3, 2, 2), (6, 1, 1), (6, 3, 3), (6, 4, 4), (22, 0, 13), (23, 0, 400)] w0 w1 → gi w1 1 4 = f63_1_4 → lv_has ls 1 [(0, .ref (ad 3))] → W p l e ({ frames := 6, cells := 0, slots := 0, locals := 168 }) s m (List.toArray [.ref (ad 3)]) below meth c H locs 0 0 (MQ below (va_Qv (P_X3_readValue_1 ad cy B qr s1  w0) (fun u : va_W => wpost dC dI cy A u) A) (List.toArray [.ref (ad 3)]) s 0 0 A) (F0 m 63 ls []) := by
    intro f63_1_4 H locs ls w1 r2 t3 hw hT hF c4 hl
    refine lv_aload_n hx hb dX3_readValue_63 rfl (lv_at hl 0 rfl) ?_
    refine tk_Vv hC hK hw hT hA hE hSR kC_at3 (by decide) rfl (k_X3_countItem_1 l adK adV dC dI cy ad B (by omega) (by omega) qr s1    w1 H.size hT ) (cwV 0 hC.2.2.2.2 gX3_readValue_X3_countItem rfl rfl rfl (by decide +kernel) ⟨Nat.le_of_ble_eq_true rfl, Nat.le_of_ble_eq_true rfl⟩) rfl hl.1 rfl (Nat.le_of_ble_eq_true rfl) dX3_readValue_64 (fun w7 H locs hp6 hw => ?_)
    obtain ⟨hT, k8, hg9⟩ := hp6
    have hF := hF.tr k8 (by decide)
    clear hg9
    exact tk_vret hC hr hlocks hK ⟨hT, hF, trivial⟩ hw dX3_readValue_67
  refine lv_aload_n hx hb dX3_readValue_0 rfl (lv_at hl 0 rfl) ?_
  refine tk_getA hC hK hw hT hinX3 kC_at3 (by decide) rfl 0 (by decide) (List.mem_of_getElem? (i := 1) rfl) rfl rfl dX3_readValue_1 ?_
  refine tk_Vi hC hK hw hT hA hE hSR kC_at1 (by decide) rfl (k_X6_isFaulty_2 l adK adV dC dI cy ad B (by omega) (by omega) qr s1    w0 s.heap.size hT cf0_) (cwV 0 hC.2.2.2.2 gX3_readValue_X6_isFaulty rfl rfl rfl (by decide +kernel) ⟨Nat.le_of_ble_eq_true rfl, Nat.le_of_ble_eq_true rfl⟩) rfl hl.1 rfl (Nat.le_of_ble_eq_true rfl) dX3_readValue_4 (fun r10 w12 H locs hp11 hw => ?_)
  obtain ⟨hT, k13, hg16⟩ := hp11
  have hF := hF.tr k13 (by decide)
  have c17 := k13.gi kC_at1 (by decide) cf0_
  obtain ⟨rfl, ⟨x14, c15, rx14, tx14⟩⟩ := hg16
  have ex14 : x14.toInt = (0 : Int) := by rw [show x14 = 0 from c15.symm.trans c17]; decide
  refine lv_if_eq (tgt := 11) hx hb dX3_readValue_7 (by decide) (fun _ => ?_) (fun c => absurd (by decide) c)
  refine lv_aload_n hx hb dX3_readValue_11 rfl (lv_at hl 0 rfl) ?_
  refine tk_getA hC hK hw hT hinX3 kC_at3 (by decide) rfl 0 (by decide) (List.mem_of_getElem? (i := 1) rfl) rfl rfl dX3_readValue_12 ?_
  refine tk_Vi hC hK hw hT hA hE hSR kC_at1 (by decide) rfl (k_X6_lookBehindBlanks_1 l adK adV dC dI cy ad B (by omega) (by omega) qr s1    w12 H.size hT ) (cwV 0 hC.2.2.2.2 gX3_readValue_X6_lookBehindBlanks rfl rfl rfl (by decide +kernel) ⟨Nat.le_of_ble_eq_true rfl, Nat.le_of_ble_eq_true rfl⟩) rfl hl.1 rfl (Nat.le_of_ble_eq_true rfl) dX3_readValue_15 (fun r18 w20 H locs hp19 hw => ?_)
  obtain ⟨hT, k21, hg30⟩ := hp19
  have hF := hF.tr k21 (by decide)
  have c31 := k21.gi kC_at1 (by decide) c17
  rcases hg30 with ⟨g22, g23, ⟨x24, c25, rx24, tx24⟩, ⟨x26, c27, rx26, tx26⟩, ⟨x28, c29, rx28, tx28⟩⟩ | rfl
  · refine tk_Si hC hK hw hT hA hE hSR (k_X6_isDigit_1 l adK adV dC dI cy ad B (by omega) (by omega) qr s1   r18 (show 0 ≤ r18.toInt by omega) (show r18.toInt ≤ 255 by omega) w20 H.size hT ) (va_cwS 1 hC.2.2.2.2 gX3_readValue_X6_isDigit rfl rfl rfl (by decide +kernel) ⟨Nat.le_of_ble_eq_true rfl, Nat.le_of_ble_eq_true rfl⟩) rfl hl.1 rfl (Nat.le_of_ble_eq_true rfl) dX3_readValue_18 (fun r32 w34 H locs hp33 hw => ?_)
    obtain ⟨hT, k35, hg38⟩ := hp33
    have hF := hF.tr k35 (by decide)
    have c39 := k35.gi kC_at1 (by decide) c31
    have c40 := k35.gi kC_at1 (by decide) c25
    have c41 := k35.gi kC_at1 (by decide) c27
    have c42 := k35.gi kC_at1 (by decide) c29
    rcases hg38 with rfl | ⟨rfl, g36, g37⟩
    · refine lv_if_eq (tgt := 47) hx hb dX3_readValue_21 (by decide) (fun _ => ?_) (fun c => absurd (by decide) c)
      refine lv_aload_n hx hb dX3_readValue_47 rfl (lv_at hl 0 rfl) ?_
      refine tk_getQ hC hK hw hT hqr (by decide) hinX3 kC_at3 (by decide) rfl 1 (by decide) (List.mem_of_getElem? (i := 2) rfl) rfl rfl dX3_readValue_48 ?_
      refine lv_aload_n hx hb dX3_readValue_51 rfl (lv_at hl 0 rfl) ?_
      refine tk_getA hC hK hw hT hinX3 kC_at3 (by decide) rfl 0 (by decide) (List.mem_of_getElem? (i := 1) rfl) rfl rfl dX3_readValue_52 ?_
      refine va_ldcS hx hb hC.2.2.2.1 hSR.2.2.2.2.2.1 dX3_readValue_55 ?_
      refine tk_Vi hC hK hw hT hA hE hSR kC_at1 (by decide) rfl (k_X6_readWord_1 l adK adV dC dI cy ad B (by omega) (by omega) qr s1    w34 H.size hT c39) (cwV 1 hC.2.2.2.2 gX3_readValue_X6_readWord rfl rfl rfl (by decide +kernel) ⟨Nat.le_of_ble_eq_true rfl, Nat.le_of_ble_eq_true rfl⟩) rfl hl.1 rfl (Nat.le_of_ble_eq_true rfl) dX3_readValue_57 (fun r43 w45 H locs hp44 hw => ?_)
      obtain ⟨hT, k46, hg53⟩ := hp44
      have hF := hF.tr k46 (by decide)
      have c54 := k46.gi kC_at1 (by decide) c41
      rcases hg53 with ⟨g47, g48, ⟨x49, c50, rx49, tx49⟩⟩ | ⟨rfl, ⟨x51, c52, rx51, tx51⟩⟩
      · refine tk_Vv hC hK hw hT hA hE hSR hqr (by decide) rfl (k_X2_addToken_1 l adK adV dC dI cy ad B (by omega) (by omega) qr s1   qr hqr r43 w45 H.size hT ) (cwV 1 hC.2.2.2.2 gX3_readValue_X2_addToken rfl rfl rfl (by decide +kernel) ⟨Nat.le_of_ble_eq_true rfl, Nat.le_of_ble_eq_true rfl⟩) rfl hl.1 rfl (Nat.le_of_ble_eq_true rfl) dX3_readValue_60 (fun w57 H locs hp56 hw => ?_)
        obtain ⟨hT, k58, hg61⟩ := hp56
        have hF := hF.tr k58 (by decide)
        have c62 := k58.gi kC_at1 (by decide) c54
        have c63 := k58.gi kC_at1 (by decide) c50
        obtain ⟨x59, c60, rx59, tx59⟩ := hg61
        exact J63 x49 H locs ls w57 (show 0 ≤ x49.toInt by omega) (show x49.toInt ≤ 3205 by omega)  hw hT hF c63 (lv_sub hl [0] rfl)
      · refine tk_Vv hC hK hw hT hA hE hSR hqr (by decide) rfl (k_X2_addToken_1 l adK adV dC dI cy ad B (by omega) (by omega) qr s1   qr hqr ((-1)) w45 H.size hT ) (cwV 1 hC.2.2.2.2 gX3_readValue_X2_addToken rfl rfl rfl (by decide +kernel) ⟨Nat.le_of_ble_eq_true rfl, Nat.le_of_ble_eq_true rfl⟩) rfl hl.1 rfl (Nat.le_of_ble_eq_true rfl) dX3_readValue_60 (fun w66 H locs hp65 hw => ?_)
        obtain ⟨hT, k67, hg70⟩ := hp65
        have hF := hF.tr k67 (by decide)
        have c71 := k67.gi kC_at1 (by decide) c54
        have c72 := k67.gi kC_at1 (by decide) c52
        obtain ⟨x68, c69, rx68, tx68⟩ := hg70
        exact J63 x51 H locs ls w66 (show 0 ≤ x51.toInt by omega) (show x51.toInt ≤ 3205 by omega)  hw hT hF c72 (lv_sub hl [0] rfl)
    · refine lv_if_eq (tgt := 47) hx hb dX3_readValue_21 (by decide) (fun c => absurd c (by decide)) (fun _ => ?_)
      refine lv_aload_n hx hb dX3_readValue_24 rfl (lv_at hl 0 rfl) ?_
      refine tk_getQ hC hK hw hT hqr (by decide) hinX3 kC_at3 (by decide) rfl 1 (by decide) (List.mem_of_getElem? (i := 2) rfl) rfl rfl dX3_readValue_25 ?_
      refine lv_bipush (v := 32) hx hb dX3_readValue_28 (by decide) ?_
      refine lv_aload_n hx hb dX3_readValue_30 rfl (lv_at hl 0 rfl) ?_
      refine tk_getA hC hK hw hT hinX3 kC_at3 (by decide) rfl 0 (by decide) (List.mem_of_getElem? (i := 1) rfl) rfl rfl dX3_readValue_31 ?_
      refine lv_iconst (v := 0) hx hb dX3_readValue_34 (by decide) ?_
      refine lv_ldc (v := 99999) hx hb hC.2.2.2.1 (hC.2.2.2.2 _ (List.mem_of_getElem? (i := 3) rfl)) dX3_readValue_35 ?_
      refine tk_Vi hC hK hw hT hA hE hSR kC_at1 (by decide) rfl (k_X6_readNumber_1 l adK adV dC dI cy ad B (by omega) (by omega) qr s1    w34 H.size hT c39) (cwV 2 hC.2.2.2.2 gX3_readValue_X6_readNumber rfl rfl rfl (by decide +kernel) ⟨Nat.le_of_ble_eq_true rfl, Nat.le_of_ble_eq_true rfl⟩) rfl hl.1 rfl (Nat.le_of_ble_eq_true rfl) dX3_readValue_37 (fun r73 w75 H locs hp74 hw => ?_)
      obtain ⟨hT, k76, hg87⟩ := hp74
      have hF := hF.tr k76 (by decide)
      have c88 := k76.gi kC_at1 (by decide) c41
      rcases hg87 with ⟨g77, g78, ⟨x79, c80, rx79, tx79⟩, ⟨x81, c82, rx81, tx81⟩, ⟨x83, c84, rx83, tx83⟩⟩ | ⟨rfl, ⟨x85, c86, rx85, tx85⟩⟩
      · have ex79 : x79.toInt = x26.toInt := by rw [← c88.symm.trans c80]
        refine lv_iadd hx hb dX3_readValue_40 ?_
        refine lv_topi (fun x89 ex89 => ?_)
        have ex89 : x89.toInt = (32 : Int) + r73.toInt := by rw [ex89]; exact wk_add (show (-2147483648) ≤ (32 : Int) + r73.toInt by omega) (show (32 : Int) + r73.toInt ≤ 2147483647 by omega)
        refine tk_Vv hC hK hw hT hA hE hSR hqr (by decide) rfl (k_X2_addToken_1 l adK adV dC dI cy ad B (by omega) (by omega) qr s1   qr hqr x89 w75 H.size hT ) (cwV 1 hC.2.2.2.2 gX3_readValue_X2_addToken rfl rfl rfl (by decide +kernel) ⟨Nat.le_of_ble_eq_true rfl, Nat.le_of_ble_eq_true rfl⟩) rfl hl.1 rfl (Nat.le_of_ble_eq_true rfl) dX3_readValue_41 (fun w92 H locs hp91 hw => ?_)
        obtain ⟨hT, k93, hg96⟩ := hp91
        have hF := hF.tr k93 (by decide)
        have c97 := k93.gi kC_at1 (by decide) c88
        have c98 := k93.gi kC_at1 (by decide) c82
        have c99 := k93.gi kC_at1 (by decide) c84
        obtain ⟨x94, c95, rx94, tx94⟩ := hg96
        refine lv_goto (tgt := 63) hx hb dX3_readValue_44 (by decide) ?_
        exact J63 x83 H locs ls w92 (show 0 ≤ x83.toInt by omega) (show x83.toInt ≤ 3205 by omega)  hw hT hF c99 (lv_sub hl [0] rfl)
      · refine lv_iadd hx hb dX3_readValue_40 ?_
        refine wk_top 31 (by decide) ?_
        refine tk_Vv hC hK hw hT hA hE hSR hqr (by decide) rfl (k_X2_addToken_1 l adK adV dC dI cy ad B (by omega) (by omega) qr s1   qr hqr 31 w75 H.size hT ) (cwV 1 hC.2.2.2.2 gX3_readValue_X2_addToken rfl rfl rfl (by decide +kernel) ⟨Nat.le_of_ble_eq_true rfl, Nat.le_of_ble_eq_true rfl⟩) rfl hl.1 rfl (Nat.le_of_ble_eq_true rfl) dX3_readValue_41 (fun w102 H locs hp101 hw => ?_)
        obtain ⟨hT, k103, hg106⟩ := hp101
        have hF := hF.tr k103 (by decide)
        have c107 := k103.gi kC_at1 (by decide) c88
        have c108 := k103.gi kC_at1 (by decide) c86
        obtain ⟨x104, c105, rx104, tx104⟩ := hg106
        refine lv_goto (tgt := 63) hx hb dX3_readValue_44 (by decide) ?_
        exact J63 x85 H locs ls w102 (show 0 ≤ x85.toInt by omega) (show x85.toInt ≤ 3205 by omega)  hw hT hF c108 (lv_sub hl [0] rfl)
  · refine tk_Si hC hK hw hT hA hE hSR (k_X6_isDigit_2 l adK adV dC dI cy ad B (by omega) (by omega) qr s1    w20 H.size hT ) (va_cwS 1 hC.2.2.2.2 gX3_readValue_X6_isDigit rfl rfl rfl (by decide +kernel) ⟨Nat.le_of_ble_eq_true rfl, Nat.le_of_ble_eq_true rfl⟩) rfl hl.1 rfl (Nat.le_of_ble_eq_true rfl) dX3_readValue_18 (fun r109 w111 H locs hp110 hw => ?_)
    obtain ⟨hT, k112, hg113⟩ := hp110
    have hF := hF.tr k112 (by decide)
    have c114 := k112.gi kC_at1 (by decide) c31
    obtain rfl := hg113
    refine lv_if_eq (tgt := 47) hx hb dX3_readValue_21 (by decide) (fun _ => ?_) (fun c => absurd (by decide) c)
    refine lv_aload_n hx hb dX3_readValue_47 rfl (lv_at hl 0 rfl) ?_
    refine tk_getQ hC hK hw hT hqr (by decide) hinX3 kC_at3 (by decide) rfl 1 (by decide) (List.mem_of_getElem? (i := 2) rfl) rfl rfl dX3_readValue_48 ?_
    refine lv_aload_n hx hb dX3_readValue_51 rfl (lv_at hl 0 rfl) ?_
    refine tk_getA hC hK hw hT hinX3 kC_at3 (by decide) rfl 0 (by decide) (List.mem_of_getElem? (i := 1) rfl) rfl rfl dX3_readValue_52 ?_
    refine va_ldcS hx hb hC.2.2.2.1 hSR.2.2.2.2.2.1 dX3_readValue_55 ?_
    refine tk_Vi hC hK hw hT hA hE hSR kC_at1 (by decide) rfl (k_X6_readWord_1 l adK adV dC dI cy ad B (by omega) (by omega) qr s1    w111 H.size hT c114) (cwV 1 hC.2.2.2.2 gX3_readValue_X6_readWord rfl rfl rfl (by decide +kernel) ⟨Nat.le_of_ble_eq_true rfl, Nat.le_of_ble_eq_true rfl⟩) rfl hl.1 rfl (Nat.le_of_ble_eq_true rfl) dX3_readValue_57 (fun r115 w117 H locs hp116 hw => ?_)
    obtain ⟨hT, k118, hg125⟩ := hp116
    have hF := hF.tr k118 (by decide)
    rcases hg125 with ⟨g119, g120, ⟨x121, c122, rx121, tx121⟩⟩ | ⟨rfl, ⟨x123, c124, rx123, tx123⟩⟩
    · refine tk_Vv hC hK hw hT hA hE hSR hqr (by decide) rfl (k_X2_addToken_1 l adK adV dC dI cy ad B (by omega) (by omega) qr s1   qr hqr r115 w117 H.size hT ) (cwV 1 hC.2.2.2.2 gX3_readValue_X2_addToken rfl rfl rfl (by decide +kernel) ⟨Nat.le_of_ble_eq_true rfl, Nat.le_of_ble_eq_true rfl⟩) rfl hl.1 rfl (Nat.le_of_ble_eq_true rfl) dX3_readValue_60 (fun w128 H locs hp127 hw => ?_)
      obtain ⟨hT, k129, hg132⟩ := hp127
      have hF := hF.tr k129 (by decide)
      have c133 := k129.gi kC_at1 (by decide) c122
      obtain ⟨x130, c131, rx130, tx130⟩ := hg132
      exact J63 x121 H locs ls w128 (show 0 ≤ x121.toInt by omega) (show x121.toInt ≤ 3205 by omega)  hw hT hF c133 (lv_sub hl [0] rfl)
    · refine tk_Vv hC hK hw hT hA hE hSR hqr (by decide) rfl (k_X2_addToken_1 l adK adV dC dI cy ad B (by omega) (by omega) qr s1   qr hqr ((-1)) w117 H.size hT ) (cwV 1 hC.2.2.2.2 gX3_readValue_X2_addToken rfl rfl rfl (by decide +kernel) ⟨Nat.le_of_ble_eq_true rfl, Nat.le_of_ble_eq_true rfl⟩) rfl hl.1 rfl (Nat.le_of_ble_eq_true rfl) dX3_readValue_60 (fun w136 H locs hp135 hw => ?_)
      obtain ⟨hT, k137, hg140⟩ := hp135
      have hF := hF.tr k137 (by decide)
      have c141 := k137.gi kC_at1 (by decide) c124
      obtain ⟨x138, c139, rx138, tx138⟩ := hg140
      exact J63 x123 H locs ls w136 (show 0 ≤ x123.toInt by omega) (show x123.toInt ≤ 3205 by omega)  hw hT hF c141 (lv_sub hl [0] rfl)
abbrev P_X3_takeOperator_1 (ad : Nat → Nat) (cy : Nat → ClassId) (B : Int) (qr : Nat) (s1 : Int)  (w0 : va_W) : Int32 → va_W → Prop := fun r u => TW ksC ad cy B qr s1 u ∧ FE ksC [(6, 1, 1), (6, 3, 3)] w0 u ∧ ((10 ≤ r.toInt ∧ r.toInt ≤ 13 ∧ (∃ y : Int32, gi u 1 2 = y ∧ 1 ≤ y.toInt ∧ y.toInt ≤ 400) ∧ (∃ y : Int32, gi u 1 3 = y ∧ 0 ≤ y.toInt ∧ y.toInt ≤ 399)) ∨ (r = (-1)))
set_option maxHeartbeats 4000000 in
set_option maxRecDepth 100000 in
theorem k_X3_takeOperator_1 (l : Launch) (adK adV : Nat → Nat) (dC : Nat → ClassId) (dI : Nat → Nat → Nat) (cy : Nat → ClassId) (ad : Nat → Nat) (B : Int) (hB0 : 2147483648 ≤ B) (hB1 : B ≤ 1152921504606846976) (qr : Nat) (s1 : Int)   (w0 : va_W) (sz : Nat) (hT : TW ksC ad cy B qr s1 w0)  : Met l yX3_takeOperator wsX3_takeOperator ({ frames := 2, cells := 0, slots := 0, locals := 32 }) (va_Pc [.ref (ad 3)] (wpreS adK adV dC dI cy sz w0)) (va_Qi (P_X3_takeOperator_1 ad cy B qr s1  w0) (fun u : va_W => wpost dC dI cy (va_A w0 sz) u) (va_A w0 sz)) 0 0 (va_A w0 sz) := by
  refine Met.ofW (cc := cX3_takeOperator) (maxL := 1) (ret := (some .int)) (by decide) rfl ?_
  intro p e s m args below meth c s₁ Bk hml hv
  obtain ⟨rfl, ⟨hsz, hP, hK, hD0⟩, hE, hSR⟩ := hv
  have hx := Bk.exec
  have hb := Bk.bytes
  have hr := Bk.returns
  have hlocks := Bk.notSynchronized
  have hC : CallFix p m c cX3_takeOperator 1 s _ wsX3_takeOperator RX3 := ⟨hx, hb, hml, findClass_of_methodNamed Bk.named, atoms_spec (ws := wsX3_takeOperator) Bk.pre⟩
  subst hsz
  have hD := hD0.self (sz := s.heap.size)
  generalize hAe : va_A w0 s.heap.size = A at hD hE ⊢
  have hA : ∀ q : Nat, s.heap.size ≤ q → A q := fun q h => by rw [← hAe]; exact Or.inr h
  have hw : Wd dC dI A s.heap s.heap [] w0 := ⟨hP, hD, va_S.rf⟩
  have hF : FE ksC [(6, 1, 1), (6, 3, 3)] w0 w0 := FE.rf
  have hl := lv_entry ([.ref (ad 3)]) (n := 1) (Nat.le_of_ble_eq_true rfl)
  rw [lg_entry_eq]
  generalize (lg_sl ([.ref (ad 3)]) ++ List.replicate (1 - (lg_sl ([.ref (ad 3)])).length) Slot.unset).toArray = ls at hl ⊢
  have hl : lv_has ls 1 [(0, .ref (ad 3))] := hl
  generalize hloc : ([] : List Loc) = locs at hw ⊢
  have hinX3 : ∀ w ∈ u_ws RX3 TX3 3, w ∈ wsX3_takeOperator := fun _ h => List.mem_cons_of_mem _ (List.mem_append_left _ (List.mem_append_right _ (h)))
  refine lv_aload_n hx hb dX3_takeOperator_0 rfl (lv_at hl 0 rfl) ?_
  refine tk_getA hC hK hw hT hinX3 kC_at3 (by decide) rfl 0 (by decide) (List.mem_of_getElem? (i := 1) rfl) rfl rfl dX3_takeOperator_1 ?_
  refine tk_Vi hC hK hw hT hA hE hSR kC_at1 (by decide) rfl (k_X6_lookBehindBlanks_1 l adK adV dC dI cy ad B (by omega) (by omega) qr s1    w0 s.heap.size hT ) (cwV 0 hC.2.2.2.2 gX3_takeOperator_X6_lookBehindBlanks rfl rfl rfl (by decide +kernel) ⟨Nat.le_of_ble_eq_true rfl, Nat.le_of_ble_eq_true rfl⟩) rfl hl.1 rfl (Nat.le_of_ble_eq_true rfl) dX3_takeOperator_4 (fun r1 w3 H locs hp2 hw => ?_)
  obtain ⟨hT, k4, hg13⟩ := hp2
  have hF := hF.tr k4 (by decide)
  rcases hg13 with ⟨g5, g6, ⟨x7, c8, rx7, tx7⟩, ⟨x9, c10, rx9, tx9⟩, ⟨x11, c12, rx11, tx11⟩⟩ | rfl
  · rcases (show r1.toInt = 42 ∨ r1.toInt = 43 ∨ r1.toInt = 44 ∨ r1.toInt = 45 ∨ r1.toInt = 46 ∨ r1.toInt = 47 ∨ (r1.toInt < 42 ∨ 47 < r1.toInt) by omega) with c14 | c14 | c14 | c14 | c14 | c14 | c14
    · refine lv_tableIn (off := 57) (tgt := 64) hx hb dX3_takeOperator_7 (by omega) (by omega) (by rw [c14]; rfl) (by decide) ?_
      refine lv_aload_n hx hb dX3_takeOperator_64 rfl (lv_at hl 0 rfl) ?_
      refine tk_getA hC hK hw hT hinX3 kC_at3 (by decide) rfl 0 (by decide) (List.mem_of_getElem? (i := 1) rfl) rfl rfl dX3_takeOperator_65 ?_
      refine tk_Vv hC hK hw hT hA hE hSR kC_at1 (by decide) rfl (k_X6_pass_1 l adK adV dC dI cy ad B (by omega) (by omega) qr s1    w3 H.size hT ) (cwV 0 hC.2.2.2.2 gX3_takeOperator_X6_pass rfl rfl rfl (by decide +kernel) ⟨Nat.le_of_ble_eq_true rfl, Nat.le_of_ble_eq_true rfl⟩) rfl hl.1 rfl (Nat.le_of_ble_eq_true rfl) dX3_takeOperator_68 (fun w17 H locs hp16 hw => ?_)
      obtain ⟨hT, k18, hg19⟩ := hp16
      have hF := hF.tr k18 (by decide)
      have c20 := k18.gi kC_at1 (by decide) c10
      have c21 := k18.gi kC_at1 (by decide) c12
      clear hg19
      refine lv_bipush (v := 12) hx hb dX3_takeOperator_71 (by decide) ?_
      exact tk_iret hC hr hlocks hK ⟨hT, hF, (Or.inl ⟨(by decide), (by decide), ⟨x9, c20, (show 1 ≤ x9.toInt by omega), (show x9.toInt ≤ 400 by omega)⟩, ⟨x11, c21, (show 0 ≤ x11.toInt by omega), (show x11.toInt ≤ 399 by omega)⟩⟩)⟩ hw dX3_takeOperator_73
    · refine lv_tableIn (off := 37) (tgt := 44) hx hb dX3_takeOperator_7 (by omega) (by omega) (by rw [c14]; rfl) (by decide) ?_
      refine lv_aload_n hx hb dX3_takeOperator_44 rfl (lv_at hl 0 rfl) ?_
      refine tk_getA hC hK hw hT hinX3 kC_at3 (by decide) rfl 0 (by decide) (List.mem_of_getElem? (i := 1) rfl) rfl rfl dX3_takeOperator_45 ?_
      refine tk_Vv hC hK hw hT hA hE hSR kC_at1 (by decide) rfl (k_X6_pass_1 l adK adV dC dI cy ad B (by omega) (by omega) qr s1    w3 H.size hT ) (cwV 0 hC.2.2.2.2 gX3_takeOperator_X6_pass rfl rfl rfl (by decide +kernel) ⟨Nat.le_of_ble_eq_true rfl, Nat.le_of_ble_eq_true rfl⟩) rfl hl.1 rfl (Nat.le_of_ble_eq_true rfl) dX3_takeOperator_48 (fun w24 H locs hp23 hw => ?_)
      obtain ⟨hT, k25, hg26⟩ := hp23
      have hF := hF.tr k25 (by decide)
      have c27 := k25.gi kC_at1 (by decide) c10
      have c28 := k25.gi kC_at1 (by decide) c12
      clear hg26
      refine lv_bipush (v := 10) hx hb dX3_takeOperator_51 (by decide) ?_
      exact tk_iret hC hr hlocks hK ⟨hT, hF, (Or.inl ⟨(by decide), (by decide), ⟨x9, c27, (show 1 ≤ x9.toInt by omega), (show x9.toInt ≤ 400 by omega)⟩, ⟨x11, c28, (show 0 ≤ x11.toInt by omega), (show x11.toInt ≤ 399 by omega)⟩⟩)⟩ hw dX3_takeOperator_53
    · refine lv_tableIn (off := 77) (tgt := 84) hx hb dX3_takeOperator_7 (by omega) (by omega) (by rw [c14]; rfl) (by decide) ?_
      refine lv_iconst (v := (-1)) hx hb dX3_takeOperator_84 (by decide) ?_
      exact tk_iret hC hr hlocks hK ⟨hT, hF, (Or.inr rfl)⟩ hw dX3_takeOperator_85
    · refine lv_tableIn (off := 47) (tgt := 54) hx hb dX3_takeOperator_7 (by omega) (by omega) (by rw [c14]; rfl) (by decide) ?_
      refine lv_aload_n hx hb dX3_takeOperator_54 rfl (lv_at hl 0 rfl) ?_
      refine tk_getA hC hK hw hT hinX3 kC_at3 (by decide) rfl 0 (by decide) (List.mem_of_getElem? (i := 1) rfl) rfl rfl dX3_takeOperator_55 ?_
      refine tk_Vv hC hK hw hT hA hE hSR kC_at1 (by decide) rfl (k_X6_pass_1 l adK adV dC dI cy ad B (by omega) (by omega) qr s1    w3 H.size hT ) (cwV 0 hC.2.2.2.2 gX3_takeOperator_X6_pass rfl rfl rfl (by decide +kernel) ⟨Nat.le_of_ble_eq_true rfl, Nat.le_of_ble_eq_true rfl⟩) rfl hl.1 rfl (Nat.le_of_ble_eq_true rfl) dX3_takeOperator_58 (fun w31 H locs hp30 hw => ?_)
      obtain ⟨hT, k32, hg33⟩ := hp30
      have hF := hF.tr k32 (by decide)
      have c34 := k32.gi kC_at1 (by decide) c10
      have c35 := k32.gi kC_at1 (by decide) c12
      clear hg33
      refine lv_bipush (v := 11) hx hb dX3_takeOperator_61 (by decide) ?_
      exact tk_iret hC hr hlocks hK ⟨hT, hF, (Or.inl ⟨(by decide), (by decide), ⟨x9, c34, (show 1 ≤ x9.toInt by omega), (show x9.toInt ≤ 400 by omega)⟩, ⟨x11, c35, (show 0 ≤ x11.toInt by omega), (show x11.toInt ≤ 399 by omega)⟩⟩)⟩ hw dX3_takeOperator_63
    · refine lv_tableIn (off := 77) (tgt := 84) hx hb dX3_takeOperator_7 (by omega) (by omega) (by rw [c14]; rfl) (by decide) ?_
      refine lv_iconst (v := (-1)) hx hb dX3_takeOperator_84 (by decide) ?_
      exact tk_iret hC hr hlocks hK ⟨hT, hF, (Or.inr rfl)⟩ hw dX3_takeOperator_85
    · refine lv_tableIn (off := 67) (tgt := 74) hx hb dX3_takeOperator_7 (by omega) (by omega) (by rw [c14]; rfl) (by decide) ?_
      refine lv_aload_n hx hb dX3_takeOperator_74 rfl (lv_at hl 0 rfl) ?_
      refine tk_getA hC hK hw hT hinX3 kC_at3 (by decide) rfl 0 (by decide) (List.mem_of_getElem? (i := 1) rfl) rfl rfl dX3_takeOperator_75 ?_
      refine tk_Vv hC hK hw hT hA hE hSR kC_at1 (by decide) rfl (k_X6_pass_1 l adK adV dC dI cy ad B (by omega) (by omega) qr s1    w3 H.size hT ) (cwV 0 hC.2.2.2.2 gX3_takeOperator_X6_pass rfl rfl rfl (by decide +kernel) ⟨Nat.le_of_ble_eq_true rfl, Nat.le_of_ble_eq_true rfl⟩) rfl hl.1 rfl (Nat.le_of_ble_eq_true rfl) dX3_takeOperator_78 (fun w38 H locs hp37 hw => ?_)
      obtain ⟨hT, k39, hg40⟩ := hp37
      have hF := hF.tr k39 (by decide)
      have c41 := k39.gi kC_at1 (by decide) c10
      have c42 := k39.gi kC_at1 (by decide) c12
      clear hg40
      refine lv_bipush (v := 13) hx hb dX3_takeOperator_81 (by decide) ?_
      exact tk_iret hC hr hlocks hK ⟨hT, hF, (Or.inl ⟨(by decide), (by decide), ⟨x9, c41, (show 1 ≤ x9.toInt by omega), (show x9.toInt ≤ 400 by omega)⟩, ⟨x11, c42, (show 0 ≤ x11.toInt by omega), (show x11.toInt ≤ 399 by omega)⟩⟩)⟩ hw dX3_takeOperator_83
    · refine lv_tableOut (tgt := 84) hx hb dX3_takeOperator_7 c14 (by decide) ?_
      refine lv_iconst (v := (-1)) hx hb dX3_takeOperator_84 (by decide) ?_
      exact tk_iret hC hr hlocks hK ⟨hT, hF, (Or.inr rfl)⟩ hw dX3_takeOperator_85
  · refine lv_tableOut (tgt := 84) hx hb dX3_takeOperator_7 (by decide) (by decide) ?_
    refine lv_iconst (v := (-1)) hx hb dX3_takeOperator_84 (by decide) ?_
    exact tk_iret hC hr hlocks hK ⟨hT, hF, (Or.inr rfl)⟩ hw dX3_takeOperator_85
abbrev P_X3_readSum_1 (ad : Nat → Nat) (cy : Nat → ClassId) (B : Int) (qr : Nat) (s1 : Int)  (w0 : va_W) : va_W → Prop := fun u => TW ksC ad cy B qr s1 u ∧ FE ksC [(2, 3, 3), (3, 2, 2), (6, 1, 1), (6, 3, 3), (6, 4, 4), (22, 0, 13), (23, 0, 400)] w0 u ∧ ((True))
set_option maxHeartbeats 4000000 in
set_option maxRecDepth 100000 in
theorem k_X3_readSum_1 (l : Launch) (adK adV : Nat → Nat) (dC : Nat → ClassId) (dI : Nat → Nat → Nat) (cy : Nat → ClassId) (ad : Nat → Nat) (B : Int) (hB0 : 2147483648 ≤ B) (hB1 : B ≤ 1152921504606846976) (qr : Nat) (s1 : Int) (hqr : ksC[qr]? = some 2)  (w0 : va_W) (sz : Nat) (hT : TW ksC ad cy B qr s1 w0) (cf0_ : gi w0 1 4 = 0) : Met l yX3_readSum wsX3_readSum ({ frames := 7, cells := 0, slots := 0, locals := 188 }) (va_Pc [.ref (ad 3)] (wpreS adK adV dC dI cy sz w0)) (va_Qv (P_X3_readSum_1 ad cy B qr s1  w0) (fun u : va_W => wpost dC dI cy (va_A w0 sz) u) (va_A w0 sz)) 0 0 (va_A w0 sz) := by
  refine Met.ofW (cc := cX3_readSum) (maxL := 4) (ret := none) (by decide) rfl ?_
  intro p e s m args below meth c s₁ Bk hml hv
  obtain ⟨rfl, ⟨hsz, hP, hK, hD0⟩, hE, hSR⟩ := hv
  have hx := Bk.exec
  have hb := Bk.bytes
  have hr := Bk.returns
  have hlocks := Bk.notSynchronized
  have hC : CallFix p m c cX3_readSum 4 s _ wsX3_readSum RX3 := ⟨hx, hb, hml, findClass_of_methodNamed Bk.named, atoms_spec (ws := wsX3_readSum) Bk.pre⟩
  subst hsz
  have hD := hD0.self (sz := s.heap.size)
  generalize hAe : va_A w0 s.heap.size = A at hD hE ⊢
  have hA : ∀ q : Nat, s.heap.size ≤ q → A q := fun q h => by rw [← hAe]; exact Or.inr h
  have hw : Wd dC dI A s.heap s.heap [] w0 := ⟨hP, hD, va_S.rf⟩
  have hF : FE ksC [(2, 3, 3), (3, 2, 2), (6, 1, 1), (6, 3, 3), (6, 4, 4), (22, 0, 13), (23, 0, 400)] w0 w0 := FE.rf
  have hl := lv_entry ([.ref (ad 3)]) (n := 4) (Nat.le_of_ble_eq_true rfl)
  rw [lg_entry_eq]
  generalize (lg_sl ([.ref (ad 3)]) ++ List.replicate (4 - (lg_sl ([.ref (ad 3)])).length) Slot.unset).toArray = ls at hl ⊢
  have hl : lv_has ls 4 [(0, .ref (ad 3))] := hl
  generalize hloc : ([] : List Loc) = locs at hw ⊢
  have hinX3 : ∀ w ∈ u_ws RX3 TX3 3, w ∈ wsX3_readSum := fun _ h => List.mem_cons_of_mem _ (List.mem_append_left _ (List.mem_append_left _ (List.mem_append_right _ (h))))
  have J82 : ∀ (v82_1 : Int32) (v82_2 : Int32) (H : Heap) (locs : List Loc) (ls : Array Slot) (w1 : va_W), (-1) ≤ v82_1.toInt → v82_1.toInt ≤ 12 → 0 ≤ v82_2.toInt → v82_2.toInt ≤ 400 → Wd dC dI A s.heap H locs w1 → TW ksC ad cy B qr s1 w1 → FE ksC [(2, 3, 3), (3, 2, 2), (6, 1, 1), (6, 3, 3), (6, 4, 4), (22, 0, 13), (23, 0, 400)] w0 w1 → lv_has ls 4 [(0, .ref (ad 3)), (1, .int v82_1), (2, .int v82_2)] → W p l e ({ frames := 7, cells := 0, slots := 0, locals := 188 }) s m (List.toArray [.ref (ad 3)]) below meth c H locs 0 0 (MQ below (va_Qv (P_X3_readSum_1 ad cy B qr s1  w0) (fun u : va_W => wpost dC dI cy A u) A) (List.toArray [.ref (ad 3)]) s 0 0 A) (F0 m 82 ls []) := by
    intro v82_1 v82_2 H locs ls w1 r2 t3 r4 t5 hw hT hF hl
    refine lv_aload_n hx hb dX3_readSum_82 rfl (lv_at hl 0 rfl) ?_
    refine lv_iload_n hx hb dX3_readSum_83 rfl (lv_at hl 1 rfl) ?_
    refine tk_Vv hC hK hw hT hA hE hSR kC_at3 (by decide) rfl (k_X3_addWaiting_1 l adK adV dC dI cy ad B (by omega) (by omega) qr s1 hqr  v82_1 w1 H.size hT ) (cwV 1 hC.2.2.2.2 gX3_readSum_X3_addWaiting rfl rfl rfl (by decide +kernel) ⟨Nat.le_of_ble_eq_true rfl, Nat.le_of_ble_eq_true rfl⟩) rfl hl.1 rfl (Nat.le_of_ble_eq_true rfl) dX3_readSum_84 (fun w8 H locs hp7 hw => ?_)
    obtain ⟨hT, k9, hg10⟩ := hp7
    have hF := hF.tr k9 (by decide)
    clear hg10
    exact tk_vret hC hr hlocks hK ⟨hT, hF, trivial⟩ hw dX3_readSum_87
  have L8 : ∀ (n8 : Nat) (v8_1 : Int32) (v8_2 : Int32) (H : Heap) (locs : List Loc) (ls : Array Slot) (w11 : va_W), (-1) ≤ v8_1.toInt → v8_1.toInt ≤ 12 → 0 ≤ v8_2.toInt → v8_2.toInt ≤ 400 → (400 - v8_2.toInt).toNat < n8 → Wd dC dI A s.heap H locs w11 → TW ksC ad cy B qr s1 w11 → FE ksC [(2, 3, 3), (3, 2, 2), (6, 1, 1), (6, 3, 3), (6, 4, 4), (22, 0, 13), (23, 0, 400)] w0 w11 → lv_has ls 4 [(0, .ref (ad 3)), (1, .int v8_1), (2, .int v8_2)] → W p l e ({ frames := 7, cells := 0, slots := 0, locals := 188 }) s m (List.toArray [.ref (ad 3)]) below meth c H locs 0 0 (MQ below (va_Qv (P_X3_readSum_1 ad cy B qr s1  w0) (fun u : va_W => wpost dC dI cy A u) A) (List.toArray [.ref (ad 3)]) s 0 0 A) (F0 m 8 ls []) := by
    intro n8
    induction n8 with
    | zero => intro v8_1 v8_2 H locs ls w11 r12 t13 r14 t15 hm8 hw hT hF hl; omega
    | succ n8 ih8 =>
      intro v8_1 v8_2 H locs ls w11 r12 t13 r14 t15 hm8 hw hT hF hl
      have J76 : ∀ (v76_1 : Int32) (v76_3 : Int32) (f76_1_2 : Int32) (H : Heap) (locs : List Loc) (ls : Array Slot) (w16 : va_W), (-1) ≤ v76_1.toInt → v76_1.toInt ≤ 12 → 0 ≤ v8_2.toInt → v8_2.toInt ≤ 399 → 10 ≤ v76_3.toInt → v76_3.toInt ≤ 13 → 1 ≤ f76_1_2.toInt → f76_1_2.toInt ≤ 400 → Wd dC dI A s.heap H locs w16 → TW ksC ad cy B qr s1 w16 → FE ksC [(2, 3, 3), (3, 2, 2), (6, 1, 1), (6, 3, 3), (6, 4, 4), (22, 0, 13), (23, 0, 400)] w0 w16 → gi w16 1 2 = f76_1_2 → lv_has ls 4 [(0, .ref (ad 3)), (1, .int v76_1), (2, .int v8_2), (3, .int v76_3)] → W p l e ({ frames := 7, cells := 0, slots := 0, locals := 188 }) s m (List.toArray [.ref (ad 3)]) below meth c H locs 0 0 (MQ below (va_Qv (P_X3_readSum_1 ad cy B qr s1  w0) (fun u : va_W => wpost dC dI cy A u) A) (List.toArray [.ref (ad 3)]) s 0 0 A) (F0 m 76 ls []) := by
        intro v76_1 v76_3 f76_1_2 H locs ls w16 r17 t18 r19 t20 r21 t22 r23 t24 hw hT hF c25 hl
        obtain ⟨x26, ex26⟩ : ∃ y : Int32, y = v8_2 + Int32.ofInt 1 := ⟨_, rfl⟩
        refine lv_iinc (v := x26) (lv' := [(2, .int x26), (0, .ref (ad 3)), (1, .int v76_1), (3, .int v76_3)]) hx hb dX3_readSum_76 hl (k := 2) rfl ex26.symm (by decide) rfl (fun ls hl => ?_)
        have ex26 : x26.toInt = v8_2.toInt + 1 := by rw [ex26]; exact wk_add (y := 1) (show -2147483648 ≤ v8_2.toInt + 1 by omega) (show v8_2.toInt + 1 ≤ 2147483647 by omega)
        refine lv_goto (tgt := 8) hx hb dX3_readSum_79 (by decide) ?_
        exact ih8 v76_1 x26 H locs ls w16 (show (-1) ≤ v76_1.toInt by omega) (show v76_1.toInt ≤ 12 by omega) (show 0 ≤ x26.toInt by omega) (show x26.toInt ≤ 400 by omega) (show (400 - x26.toInt).toNat < n8 by omega) hw hT hF  (lv_sub hl [1, 2, 0] rfl)
      have J50 : ∀ (v50_3 : Int32) (f50_1_2 : Int32) (f50_1_3 : Int32) (H : Heap) (locs : List Loc) (ls : Array Slot) (w27 : va_W), (-1) ≤ v8_1.toInt → v8_1.toInt ≤ 12 → 0 ≤ v8_2.toInt → v8_2.toInt ≤ 399 → 12 ≤ v50_3.toInt → v50_3.toInt ≤ 13 → 1 ≤ f50_1_2.toInt → f50_1_2.toInt ≤ 400 → 0 ≤ f50_1_3.toInt → f50_1_3.toInt ≤ 399 → Wd dC dI A s.heap H locs w27 → TW ksC ad cy B qr s1 w27 → FE ksC [(2, 3, 3), (3, 2, 2), (6, 1, 1), (6, 3, 3), (6, 4, 4), (22, 0, 13), (23, 0, 400)] w0 w27 → gi w27 1 2 = f50_1_2 → gi w27 1 3 = f50_1_3 → gi w27 1 4 = 0 → lv_has ls 4 [(0, .ref (ad 3)), (1, .int v8_1), (2, .int v8_2), (3, .int v50_3)] → W p l e ({ frames := 7, cells := 0, slots := 0, locals := 188 }) s m (List.toArray [.ref (ad 3)]) below meth c H locs 0 0 (MQ below (va_Qv (P_X3_readSum_1 ad cy B qr s1  w0) (fun u : va_W => wpost dC dI cy A u) A) (List.toArray [.ref (ad 3)]) s 0 0 A) (F0 m 50 ls []) := by
        intro v50_3 f50_1_2 f50_1_3 H locs ls w27 r28 t29 r30 t31 r32 t33 r34 t35 r37 t38 hw hT hF c36 c39 c40 hl
        refine lv_aload_n hx hb dX3_readSum_50 rfl (lv_at hl 0 rfl) ?_
        refine tk_Vv hC hK hw hT hA hE hSR kC_at3 (by decide) rfl (k_X3_readValue_1 l adK adV dC dI cy ad B (by omega) (by omega) qr s1 hqr   w27 H.size hT c40) (cwV 0 hC.2.2.2.2 gX3_readSum_X3_readValue rfl rfl rfl (by decide +kernel) ⟨Nat.le_of_ble_eq_true rfl, Nat.le_of_ble_eq_true rfl⟩) rfl hl.1 rfl (Nat.le_of_ble_eq_true rfl) dX3_readSum_51 (fun w43 H locs hp42 hw => ?_)
        obtain ⟨hT, k44, hg45⟩ := hp42
        have hF := hF.tr k44 (by decide)
        have c46 := k44.gi kC_at1 (by decide) c36
        clear hg45
        refine lv_aload_n hx hb dX3_readSum_54 rfl (lv_at hl 0 rfl) ?_
        refine tk_getQ hC hK hw hT hqr (by decide) hinX3 kC_at3 (by decide) rfl 1 (by decide) (List.mem_of_getElem? (i := 2) rfl) rfl rfl dX3_readSum_55 ?_
        refine lv_iload_n hx hb dX3_readSum_58 rfl (lv_at hl 3 rfl) ?_
        refine tk_Vv hC hK hw hT hA hE hSR hqr (by decide) rfl (k_X2_addToken_1 l adK adV dC dI cy ad B (by omega) (by omega) qr s1   qr hqr v50_3 w43 H.size hT ) (cwV 1 hC.2.2.2.2 gX3_readSum_X2_addToken rfl rfl rfl (by decide +kernel) ⟨Nat.le_of_ble_eq_true rfl, Nat.le_of_ble_eq_true rfl⟩) rfl hl.1 rfl (Nat.le_of_ble_eq_true rfl) dX3_readSum_59 (fun w49 H locs hp48 hw => ?_)
        obtain ⟨hT, k50, hg53⟩ := hp48
        have hF := hF.tr k50 (by decide)
        have c54 := k50.gi kC_at1 (by decide) c46
        obtain ⟨x51, c52, rx51, tx51⟩ := hg53
        refine lv_goto (tgt := 76) hx hb dX3_readSum_62 (by decide) ?_
        exact J76 v8_1 v50_3 f50_1_2 H locs ls w49 (show (-1) ≤ v8_1.toInt by omega) (show v8_1.toInt ≤ 12 by omega) (show 0 ≤ v8_2.toInt by omega) (show v8_2.toInt ≤ 399 by omega) (show 10 ≤ v50_3.toInt by omega) (show v50_3.toInt ≤ 13 by omega) (show 1 ≤ f50_1_2.toInt by omega) (show f50_1_2.toInt ≤ 400 by omega)  hw hT hF c54 (lv_sub hl [0, 1, 2, 3] rfl)
      refine lv_iload_n hx hb dX3_readSum_8 rfl (lv_at hl 2 rfl) ?_
      refine lv_sipush (v := 400) hx hb dX3_readSum_9 (by decide) ?_
      refine lv_icmp_ge (tgt := 82) hx hb dX3_readSum_12 (by decide) (fun c55 => ?_) (fun c55 => ?_)
      · have c55 : (400 : Int) ≤ v8_2.toInt := wk_le.mp c55
        exact J82 v8_1 v8_2 H locs ls w11 (show (-1) ≤ v8_1.toInt by omega) (show v8_1.toInt ≤ 12 by omega) (show 0 ≤ v8_2.toInt by omega) (show v8_2.toInt ≤ 400 by omega)  hw hT hF  (lv_sub hl [0, 1, 2] rfl)
      · have c55 : v8_2.toInt < (400 : Int) := wk_leF c55
        refine lv_aload_n hx hb dX3_readSum_15 rfl (lv_at hl 0 rfl) ?_
        refine tk_getA hC hK hw hT hinX3 kC_at3 (by decide) rfl 0 (by decide) (List.mem_of_getElem? (i := 1) rfl) rfl rfl dX3_readSum_16 ?_
        refine tk_Vi hC hK hw hT hA hE hSR kC_at1 (by decide) rfl (k_X6_isFaulty_1 l adK adV dC dI cy ad B (by omega) (by omega) qr s1    w11 H.size hT ) (cwV 0 hC.2.2.2.2 gX3_readSum_X6_isFaulty rfl rfl rfl (by decide +kernel) ⟨Nat.le_of_ble_eq_true rfl, Nat.le_of_ble_eq_true rfl⟩) rfl hl.1 rfl (Nat.le_of_ble_eq_true rfl) dX3_readSum_19 (fun r56 w58 H locs hp57 hw => ?_)
        obtain ⟨hT, k59, hg64⟩ := hp57
        have hF := hF.tr k59 (by decide)
        rcases hg64 with ⟨rfl, ⟨x60, c61, rx60, tx60⟩⟩ | ⟨rfl, ⟨x62, c63, rx62, tx62⟩⟩
        · refine lv_if_ne (tgt := 82) hx hb dX3_readSum_22 (by decide) (fun c => absurd (by decide) c) (fun _ => ?_)
          refine lv_aload_n hx hb dX3_readSum_25 rfl (lv_at hl 0 rfl) ?_
          refine tk_Vi hC hK hw hT hA hE hSR kC_at3 (by decide) rfl (k_X3_takeOperator_1 l adK adV dC dI cy ad B (by omega) (by omega) qr s1    w58 H.size hT ) (cwV 0 hC.2.2.2.2 gX3_readSum_X3_takeOperator rfl rfl rfl (by decide +kernel) ⟨Nat.le_of_ble_eq_true rfl, Nat.le_of_ble_eq_true rfl⟩) rfl hl.1 rfl (Nat.le_of_ble_eq_true rfl) dX3_readSum_26 (fun r65 w67 H locs hp66 hw => ?_)
          obtain ⟨hT, k68, hg75⟩ := hp66
          have hF := hF.tr k68 (by decide)
          have c76 := k68.gi kC_at1 (by decide) c61
          rcases hg75 with ⟨g69, g70, ⟨x71, c72, rx71, tx71⟩, ⟨x73, c74, rx73, tx73⟩⟩ | rfl
          · refine lv_istore_n (lv' := [(3, .int r65), (0, .ref (ad 3)), (1, .int v8_1), (2, .int v8_2)]) hx hb dX3_readSum_29 rfl hl (by decide) rfl (fun ls hl => ?_)
            refine lv_iload_n hx hb dX3_readSum_30 rfl (lv_at hl 0 rfl) ?_
            refine lv_iconst (v := (-1)) hx hb dX3_readSum_31 (by decide) ?_
            refine lv_icmp_ne (tgt := 38) hx hb dX3_readSum_32 (by decide) (fun _ => ?_) (fun c => absurd (show r65.toInt = (-1 : Int) from wk_eq.mp c) (by omega))
            refine lv_iload_n hx hb dX3_readSum_38 rfl (lv_at hl 0 rfl) ?_
            refine lv_bipush (v := 12) hx hb dX3_readSum_39 (by decide) ?_
            refine lv_icmp_eq (tgt := 50) hx hb dX3_readSum_41 (by decide) (fun c77 => ?_) (fun c77 => ?_)
            · have c77 : r65.toInt = (12 : Int) := wk_eq.mp c77
              obtain rfl : x60 = 0 := wk_eq.mpr (show x60.toInt = 0 by omega)
              exact J50 r65 x71 x73 H locs ls w67 (show (-1) ≤ v8_1.toInt by omega) (show v8_1.toInt ≤ 12 by omega) (show 0 ≤ v8_2.toInt by omega) (show v8_2.toInt ≤ 399 by omega) (show 12 ≤ r65.toInt by omega) (show r65.toInt ≤ 13 by omega) (show 1 ≤ x71.toInt by omega) (show x71.toInt ≤ 400 by omega) (show 0 ≤ x73.toInt by omega) (show x73.toInt ≤ 399 by omega)  hw hT hF c72 c74 c76 (lv_sub hl [1, 2, 3, 0] rfl)
            · have c77 : ¬ r65.toInt = (12 : Int) := wk_eqF c77
              refine lv_iload_n hx hb dX3_readSum_44 rfl (lv_at hl 0 rfl) ?_
              refine lv_bipush (v := 13) hx hb dX3_readSum_45 (by decide) ?_
              refine lv_icmp_ne (tgt := 65) hx hb dX3_readSum_47 (by decide) (fun c78 => ?_) (fun c78 => ?_)
              · have c78 : ¬ r65.toInt = (13 : Int) := wk_eqF c78
                refine lv_aload_n hx hb dX3_readSum_65 rfl (lv_at hl 1 rfl) ?_
                refine lv_iload_n hx hb dX3_readSum_66 rfl (lv_at hl 2 rfl) ?_
                refine tk_Vv hC hK hw hT hA hE hSR kC_at3 (by decide) rfl (k_X3_addWaiting_1 l adK adV dC dI cy ad B (by omega) (by omega) qr s1 hqr  v8_1 w67 H.size hT ) (cwV 1 hC.2.2.2.2 gX3_readSum_X3_addWaiting rfl rfl rfl (by decide +kernel) ⟨Nat.le_of_ble_eq_true rfl, Nat.le_of_ble_eq_true rfl⟩) rfl hl.1 rfl (Nat.le_of_ble_eq_true rfl) dX3_readSum_67 (fun w81 H locs hp80 hw => ?_)
                obtain ⟨hT, k82, hg83⟩ := hp80
                have hF := hF.tr k82 (by decide)
                have c84 := k82.gi kC_at1 (by decide) c76
                have c85 := k82.gi kC_at1 (by decide) c72
                have c86 := k82.gi kC_at1 (by decide) c74
                clear hg83
                refine lv_iload_n hx hb dX3_readSum_70 rfl (lv_at hl 0 rfl) ?_
                refine lv_istore_n (lv' := [(1, .int r65), (3, .int r65), (0, .ref (ad 3)), (2, .int v8_2)]) hx hb dX3_readSum_71 rfl hl (by decide) rfl (fun ls hl => ?_)
                refine lv_aload_n hx hb dX3_readSum_72 rfl (lv_at hl 2 rfl) ?_
                refine tk_Vv hC hK hw hT hA hE hSR kC_at3 (by decide) rfl (k_X3_readValue_1 l adK adV dC dI cy ad B (by omega) (by omega) qr s1 hqr   w81 H.size hT (c84.trans (wk_eq.mpr (show x60.toInt = 0 by omega)))) (cwV 0 hC.2.2.2.2 gX3_readSum_X3_readValue rfl rfl rfl (by decide +kernel) ⟨Nat.le_of_ble_eq_true rfl, Nat.le_of_ble_eq_true rfl⟩) rfl hl.1 rfl (Nat.le_of_ble_eq_true rfl) dX3_readSum_73 (fun w89 H locs hp88 hw => ?_)
                obtain ⟨hT, k90, hg91⟩ := hp88
                have hF := hF.tr k90 (by decide)
                have c92 := k90.gi kC_at1 (by decide) c85
                clear hg91
                exact J76 r65 r65 x71 H locs ls w89 (show (-1) ≤ r65.toInt by omega) (show r65.toInt ≤ 12 by omega) (show 0 ≤ v8_2.toInt by omega) (show v8_2.toInt ≤ 399 by omega) (show 10 ≤ r65.toInt by omega) (show r65.toInt ≤ 13 by omega) (show 1 ≤ x71.toInt by omega) (show x71.toInt ≤ 400 by omega)  hw hT hF c92 (lv_sub hl [2, 0, 3, 1] rfl)
              · have c78 : r65.toInt = (13 : Int) := wk_eq.mp c78
                obtain rfl : x60 = 0 := wk_eq.mpr (show x60.toInt = 0 by omega)
                exact J50 r65 x71 x73 H locs ls w67 (show (-1) ≤ v8_1.toInt by omega) (show v8_1.toInt ≤ 12 by omega) (show 0 ≤ v8_2.toInt by omega) (show v8_2.toInt ≤ 399 by omega) (show 12 ≤ r65.toInt by omega) (show r65.toInt ≤ 13 by omega) (show 1 ≤ x71.toInt by omega) (show x71.toInt ≤ 400 by omega) (show 0 ≤ x73.toInt by omega) (show x73.toInt ≤ 399 by omega)  hw hT hF c72 c74 c76 (lv_sub hl [1, 2, 3, 0] rfl)
          · refine lv_istore_n (lv' := [(3, .int (-1)), (0, .ref (ad 3)), (1, .int v8_1), (2, .int v8_2)]) hx hb dX3_readSum_29 rfl hl (by decide) rfl (fun ls hl => ?_)
            refine lv_iload_n hx hb dX3_readSum_30 rfl (lv_at hl 0 rfl) ?_
            refine lv_iconst (v := (-1)) hx hb dX3_readSum_31 (by decide) ?_
            refine lv_icmp_ne (tgt := 38) hx hb dX3_readSum_32 (by decide) (fun c => absurd (by decide) c) (fun _ => ?_)
            refine lv_goto (tgt := 82) hx hb dX3_readSum_35 (by decide) ?_
            exact J82 v8_1 v8_2 H locs ls w67 (show (-1) ≤ v8_1.toInt by omega) (show v8_1.toInt ≤ 12 by omega) (show 0 ≤ v8_2.toInt by omega) (show v8_2.toInt ≤ 400 by omega)  hw hT hF  (lv_sub hl [1, 2, 3] rfl)
        · refine lv_if_ne (tgt := 82) hx hb dX3_readSum_22 (by decide) (fun _ => ?_) (fun c => absurd c (by decide))
          exact J82 v8_1 v8_2 H locs ls w58 (show (-1) ≤ v8_1.toInt by omega) (show v8_1.toInt ≤ 12 by omega) (show 0 ≤ v8_2.toInt by omega) (show v8_2.toInt ≤ 400 by omega)  hw hT hF  (lv_sub hl [0, 1, 2] rfl)
  refine lv_aload_n hx hb dX3_readSum_0 rfl (lv_at hl 0 rfl) ?_
  refine tk_Vv hC hK hw hT hA hE hSR kC_at3 (by decide) rfl (k_X3_readValue_1 l adK adV dC dI cy ad B (by omega) (by omega) qr s1 hqr   w0 s.heap.size hT cf0_) (cwV 0 hC.2.2.2.2 gX3_readSum_X3_readValue rfl rfl rfl (by decide +kernel) ⟨Nat.le_of_ble_eq_true rfl, Nat.le_of_ble_eq_true rfl⟩) rfl hl.1 rfl (Nat.le_of_ble_eq_true rfl) dX3_readSum_1 (fun w95 H locs hp94 hw => ?_)
  obtain ⟨hT, k96, hg97⟩ := hp94
  have hF := hF.tr k96 (by decide)
  clear hg97
  refine lv_iconst (v := (-1)) hx hb dX3_readSum_4 (by decide) ?_
  refine lv_istore_n (lv' := [(1, .int (-1)), (0, .ref (ad 3))]) hx hb dX3_readSum_5 rfl hl (by decide) rfl (fun ls hl => ?_)
  refine lv_iconst (v := 0) hx hb dX3_readSum_6 (by decide) ?_
  refine lv_istore_n (lv' := [(2, .int 0), (1, .int (-1)), (0, .ref (ad 3))]) hx hb dX3_readSum_7 rfl hl (by decide) rfl (fun ls hl => ?_)
  exact L8 ((400 - (0 : Int)).toNat + 1) (-1) 0 H locs ls w95 (by decide) (by decide) (by decide) (by decide) (Nat.lt_succ_self _) hw hT hF  (lv_sub hl [2, 1, 0] rfl)
abbrev P_X3_countItem_2 (ad : Nat → Nat) (cy : Nat → ClassId) (B : Int) (qr : Nat) (s1 : Int)  (w0 : va_W) : va_W → Prop := fun u => TW ksC ad cy B qr s1 u ∧ FE ksC [(3, 2, 2), (6, 4, 4)] w0 u ∧ (((∃ y : Int32, gi u 1 4 = y ∧ 0 ≤ y.toInt ∧ y.toInt ≤ 3205)))
set_option maxHeartbeats 4000000 in
set_option maxRecDepth 100000 in
theorem k_X3_countItem_2 (l : Launch) (adK adV : Nat → Nat) (dC : Nat → ClassId) (dI : Nat → Nat → Nat) (cy : Nat → ClassId) (ad : Nat → Nat) (B : Int) (hB0 : 2147483648 ≤ B) (hB1 : B ≤ 1152921504606846976) (qr : Nat) (s1 : Int)   (w0 : va_W) (sz : Nat) (hT : TW ksC ad cy B qr s1 w0) (cf0_ : gi w0 1 4 = 0) : Met l yX3_countItem wsX3_countItem ({ frames := 2, cells := 0, slots := 0, locals := 34 }) (va_Pc [.ref (ad 3)] (wpreS adK adV dC dI cy sz w0)) (va_Qv (P_X3_countItem_2 ad cy B qr s1  w0) (fun u : va_W => wpost dC dI cy (va_A w0 sz) u) (va_A w0 sz)) 0 0 (va_A w0 sz) := by
  refine Met.ofW (cc := cX3_countItem) (maxL := 1) (ret := none) (by decide) rfl ?_
  intro p e s m args below meth c s₁ Bk hml hv
  obtain ⟨rfl, ⟨hsz, hP, hK, hD0⟩, hE, hSR⟩ := hv
  have hx := Bk.exec
  have hb := Bk.bytes
  have hr := Bk.returns
  have hlocks := Bk.notSynchronized
  have hC : CallFix p m c cX3_countItem 1 s _ wsX3_countItem RX3 := ⟨hx, hb, hml, findClass_of_methodNamed Bk.named, atoms_spec (ws := wsX3_countItem) Bk.pre⟩
  subst hsz
  have hD := hD0.self (sz := s.heap.size)
  generalize hAe : va_A w0 s.heap.size = A at hD hE ⊢
  have hA : ∀ q : Nat, s.heap.size ≤ q → A q := fun q h => by rw [← hAe]; exact Or.inr h
  have hw : Wd dC dI A s.heap s.heap [] w0 := ⟨hP, hD, va_S.rf⟩
  have hF : FE ksC [(3, 2, 2), (6, 4, 4)] w0 w0 := FE.rf
  have hl := lv_entry ([.ref (ad 3)]) (n := 1) (Nat.le_of_ble_eq_true rfl)
  rw [lg_entry_eq]
  generalize (lg_sl ([.ref (ad 3)]) ++ List.replicate (1 - (lg_sl ([.ref (ad 3)])).length) Slot.unset).toArray = ls at hl ⊢
  have hl : lv_has ls 1 [(0, .ref (ad 3))] := hl
  generalize hloc : ([] : List Loc) = locs at hw ⊢
  have hinX3 : ∀ w ∈ u_ws RX3 TX3 3, w ∈ wsX3_countItem := fun _ h => List.mem_cons_of_mem _ (List.mem_append_left _ (List.mem_append_right _ (h)))
  have hinX6 : ∀ w ∈ u_ws RX6 TX6 5, w ∈ wsX3_countItem := fun _ h => List.mem_cons_of_mem _ (List.mem_append_right _ (h))
  have J34 : ∀ (f34_1_4 : Int32) (f34_3_2 : Int32) (H : Heap) (locs : List Loc) (ls : Array Slot) (w1 : va_W), 0 ≤ f34_1_4.toInt → f34_1_4.toInt ≤ 3205 → Wd dC dI A s.heap H locs w1 → TW ksC ad cy B qr s1 w1 → FE ksC [(3, 2, 2), (6, 4, 4)] w0 w1 → gi w1 1 4 = f34_1_4 → gi w1 3 2 = f34_3_2 → lv_has ls 1 [(0, .ref (ad 3))] → W p l e ({ frames := 2, cells := 0, slots := 0, locals := 34 }) s m (List.toArray [.ref (ad 3)]) below meth c H locs 0 0 (MQ below (va_Qv (P_X3_countItem_2 ad cy B qr s1  w0) (fun u : va_W => wpost dC dI cy A u) A) (List.toArray [.ref (ad 3)]) s 0 0 A) (F0 m 34 ls []) := by
    intro f34_1_4 f34_3_2 H locs ls w1 r2 t3 hw hT hF c4 c5 hl
    exact tk_vret hC hr hlocks hK ⟨hT, hF, ⟨f34_1_4, c4, (show 0 ≤ f34_1_4.toInt by omega), (show f34_1_4.toInt ≤ 3205 by omega)⟩⟩ hw dX3_countItem_34
  refine lv_aload_n hx hb dX3_countItem_0 rfl (lv_at hl 0 rfl) ?_
  refine lv_dup hx hb dX3_countItem_1 rfl ?_
  refine tk_geti hC hK hw hT hinX3 kC_at3 (by decide) rfl 2 (by decide) (List.mem_of_getElem? (i := 1) rfl) rfl rfl dX3_countItem_2 (fun x6 c7 rx6 tx6 => ?_)
  refine lv_iconst (v := 1) hx hb dX3_countItem_5 (by decide) ?_
  refine lv_iadd hx hb dX3_countItem_6 ?_
  have nx8 := wk_i32 x6
  refine lv_topi (fun x9 ex9 => ?_)
  refine tk_puti hC hK hw hT hinX3 tyX3_ok nmX3 kC_at3 (by decide) rfl rfl 2 (by decide) (List.mem_of_getElem? (i := 1) rfl) rfl rfl rfl rfl (wk_i32 x9).1 (wk_i32 x9).2 dX3_countItem_7 (fun H locs w10 hw hT k12 c11 => ?_)
  have hF := hF.put kC_at3 (k := 2) (by decide) k12
  have c13 := k12.gi (Or.inr (by decide)) cf0_
  refine lv_aload_n hx hb dX3_countItem_10 rfl (lv_at hl 0 rfl) ?_
  refine tk_geti hC hK hw hT hinX3 kC_at3 (by decide) rfl 2 (by decide) (List.mem_of_getElem? (i := 1) rfl) rfl rfl dX3_countItem_11 (fun x14 c15 rx14 tx14 => ?_)
  refine wk_top x9 (c15.symm.trans c11) ?_
  refine lv_bipush (v := 60) hx hb dX3_countItem_14 (by decide) ?_
  refine lv_icmp_le (tgt := 34) hx hb dX3_countItem_16 (by decide) (fun c16 => ?_) (fun c16 => ?_)
  · have c16 : x9.toInt ≤ (60 : Int) := wk_le.mp c16
    exact J34 0 x9 H locs ls w10 (by decide) (by decide)  hw hT hF c13 c11 (lv_sub hl [0] rfl)
  · have c16 : (60 : Int) < x9.toInt := wk_leF c16
    refine lv_aload_n hx hb dX3_countItem_19 rfl (lv_at hl 0 rfl) ?_
    refine tk_getA hC hK hw hT hinX3 kC_at3 (by decide) rfl 0 (by decide) (List.mem_of_getElem? (i := 2) rfl) rfl rfl dX3_countItem_20 ?_
    refine lv_aload_n hx hb dX3_countItem_23 rfl (lv_at hl 0 rfl) ?_
    refine tk_getA hC hK hw hT hinX3 kC_at3 (by decide) rfl 0 (by decide) (List.mem_of_getElem? (i := 2) rfl) rfl rfl dX3_countItem_24 ?_
    refine tk_geti hC hK hw hT hinX6 kC_at1 (by decide) rfl 3 (by decide) (List.mem_of_getElem? (i := 3) rfl) rfl rfl dX3_countItem_27 (fun x17 c18 rx17 tx17 => ?_)
    refine lv_iconst (v := 3) hx hb dX3_countItem_30 (by decide) ?_
    refine tk_Vv hC hK hw hT hA hE hSR kC_at1 (by decide) rfl (k_X6_blame_1 l adK adV dC dI cy ad B (by omega) (by omega) qr s1   x17 (show 0 ≤ x17.toInt by omega) (show x17.toInt ≤ 400 by omega) 3 (by decide) (by decide) w10 H.size hT c13) (cwV 2 hC.2.2.2.2 gX3_countItem_X6_blame rfl rfl rfl (by decide +kernel) ⟨Nat.le_of_ble_eq_true rfl, Nat.le_of_ble_eq_true rfl⟩) rfl hl.1 rfl (Nat.le_of_ble_eq_true rfl) dX3_countItem_31 (fun w21 H locs hp20 hw => ?_)
    obtain ⟨hT, k22, hg25⟩ := hp20
    have hF := hF.tr k22 (by decide)
    have c26 := k22.gi kC_at3 (by decide) c11
    have c27 := k22.gi kC_at1 (by decide) c18
    obtain ⟨x23, c24, rx23, tx23⟩ := hg25
    exact J34 x23 x9 H locs ls w21 (show 0 ≤ x23.toInt by omega) (show x23.toInt ≤ 3205 by omega)  hw hT hF c24 c26 (lv_sub hl [0] rfl)
abbrev P_X3_readSign_1 (ad : Nat → Nat) (cy : Nat → ClassId) (B : Int) (qr : Nat) (s1 : Int)  (w0 : va_W) : Int32 → va_W → Prop := fun r u => TW ksC ad cy B qr s1 u ∧ FE ksC [(3, 2, 2), (6, 1, 1), (6, 3, 3), (6, 4, 4)] w0 u ∧ ((r = 16 ∧ (∃ y : Int32, gi u 1 4 = y ∧ 1 ≤ y.toInt ∧ y.toInt ≤ 3205)) ∨ (14 ≤ r.toInt ∧ r.toInt ≤ 18 ∧ (∃ y : Int32, gi u 1 2 = y ∧ 1 ≤ y.toInt ∧ y.toInt ≤ 400) ∧ (∃ y : Int32, gi u 1 3 = y ∧ 0 ≤ y.toInt ∧ y.toInt ≤ 399) ∧ (∃ y : Int32, gi u 1 4 = y ∧ 0 ≤ y.toInt ∧ y.toInt ≤ 3205)))
set_option maxHeartbeats 4000000 in
set_option maxRecDepth 100000 in
theorem k_X3_readSign_1 (l : Launch) (adK adV : Nat → Nat) (dC : Nat → ClassId) (dI : Nat → Nat → Nat) (cy : Nat → ClassId) (ad : Nat → Nat) (B : Int) (hB0 : 2147483648 ≤ B) (hB1 : B ≤ 1152921504606846976) (qr : Nat) (s1 : Int)   (w0 : va_W) (sz : Nat) (hT : TW ksC ad cy B qr s1 w0)  : Met l yX3_readSign wsX3_readSign ({ frames := 3, cells := 0, slots := 0, locals := 54 }) (va_Pc [.ref (ad 3)] (wpreS adK adV dC dI cy sz w0)) (va_Qi (P_X3_readSign_1 ad cy B qr s1  w0) (fun u : va_W => wpost dC dI cy (va_A w0 sz) u) (va_A w0 sz)) 0 0 (va_A w0 sz) := by
  refine Met.ofW (cc := cX3_readSign) (maxL := 3) (ret := (some .int)) (by decide) rfl ?_
  intro p e s m args below meth c s₁ Bk hml hv
  obtain ⟨rfl, ⟨hsz, hP, hK, hD0⟩, hE, hSR⟩ := hv
  have hx := Bk.exec
  have hb := Bk.bytes
  have hr := Bk.returns
  have hlocks := Bk.notSynchronized
  have hC : CallFix p m c cX3_readSign 3 s _ wsX3_readSign RX3 := ⟨hx, hb, hml, findClass_of_methodNamed Bk.named, atoms_spec (ws := wsX3_readSign) Bk.pre⟩
  subst hsz
  have hD := hD0.self (sz := s.heap.size)
  generalize hAe : va_A w0 s.heap.size = A at hD hE ⊢
  have hA : ∀ q : Nat, s.heap.size ≤ q → A q := fun q h => by rw [← hAe]; exact Or.inr h
  have hw : Wd dC dI A s.heap s.heap [] w0 := ⟨hP, hD, va_S.rf⟩
  have hF : FE ksC [(3, 2, 2), (6, 1, 1), (6, 3, 3), (6, 4, 4)] w0 w0 := FE.rf
  have hl := lv_entry ([.ref (ad 3)]) (n := 3) (Nat.le_of_ble_eq_true rfl)
  rw [lg_entry_eq]
  generalize (lg_sl ([.ref (ad 3)]) ++ List.replicate (3 - (lg_sl ([.ref (ad 3)])).length) Slot.unset).toArray = ls at hl ⊢
  have hl : lv_has ls 3 [(0, .ref (ad 3))] := hl
  generalize hloc : ([] : List Loc) = locs at hw ⊢
  have hinX3 : ∀ w ∈ u_ws RX3 TX3 3, w ∈ wsX3_readSign := fun _ h => List.mem_cons_of_mem _ (List.mem_append_left _ (List.mem_append_right _ (h)))
  have J98 : ∀ (v98_1 : Int32) (v98_2 : Int32) (f98_1_2 : Int32) (f98_1_3 : Int32) (f98_1_4 : Int32) (H : Heap) (locs : List Loc) (ls : Array Slot) (w1 : va_W), 60 ≤ v98_1.toInt → v98_1.toInt ≤ 62 → 0 ≤ v98_2.toInt → v98_2.toInt ≤ 1 → 1 ≤ f98_1_2.toInt → f98_1_2.toInt ≤ 400 → 0 ≤ f98_1_3.toInt → f98_1_3.toInt ≤ 399 → 0 ≤ f98_1_4.toInt → f98_1_4.toInt ≤ 3205 → Wd dC dI A s.heap H locs w1 → TW ksC ad cy B qr s1 w1 → FE ksC [(3, 2, 2), (6, 1, 1), (6, 3, 3), (6, 4, 4)] w0 w1 → gi w1 1 2 = f98_1_2 → gi w1 1 3 = f98_1_3 → gi w1 1 4 = f98_1_4 → lv_has ls 3 [(0, .ref (ad 3)), (1, .int v98_1), (2, .int v98_2)] → W p l e ({ frames := 3, cells := 0, slots := 0, locals := 54 }) s m (List.toArray [.ref (ad 3)]) below meth c H locs 0 0 (MQ below (va_Qi (P_X3_readSign_1 ad cy B qr s1  w0) (fun u : va_W => wpost dC dI cy A u) A) (List.toArray [.ref (ad 3)]) s 0 0 A) (F0 m 98 ls []) := by
    intro v98_1 v98_2 f98_1_2 f98_1_3 f98_1_4 H locs ls w1 r2 t3 r4 t5 r6 t7 r9 t10 r12 t13 hw hT hF c8 c11 c14 hl
    refine lv_iload_n hx hb dX3_readSign_98 rfl (lv_at hl 1 rfl) ?_
    refine lv_bipush (v := 60) hx hb dX3_readSign_99 (by decide) ?_
    refine lv_icmp_ne (tgt := 116) hx hb dX3_readSign_101 (by decide) (fun c15 => ?_) (fun c15 => ?_)
    · have c15 : ¬ v98_1.toInt = (60 : Int) := wk_eqF c15
      refine lv_iload_n hx hb dX3_readSign_116 rfl (lv_at hl 2 rfl) ?_
      refine lv_if_eq (tgt := 125) hx hb dX3_readSign_117 (by decide) (fun c16 => ?_) (fun c16 => ?_)
      · have c16 : v98_2.toInt = (0 : Int) := wk_eq.mp c16
        refine lv_bipush (v := 18) hx hb dX3_readSign_125 (by decide) ?_
        exact tk_iret hC hr hlocks hK ⟨hT, hF, (Or.inr ⟨(by decide), (by decide), ⟨f98_1_2, c8, (show 1 ≤ f98_1_2.toInt by omega), (show f98_1_2.toInt ≤ 400 by omega)⟩, ⟨f98_1_3, c11, (show 0 ≤ f98_1_3.toInt by omega), (show f98_1_3.toInt ≤ 399 by omega)⟩, ⟨f98_1_4, c14, (show 0 ≤ f98_1_4.toInt by omega), (show f98_1_4.toInt ≤ 3205 by omega)⟩⟩)⟩ hw dX3_readSign_127
      · have c16 : ¬ v98_2.toInt = (0 : Int) := wk_eqF c16
        refine lv_bipush (v := 17) hx hb dX3_readSign_120 (by decide) ?_
        refine lv_goto (tgt := 127) hx hb dX3_readSign_122 (by decide) ?_
        exact tk_iret hC hr hlocks hK ⟨hT, hF, (Or.inr ⟨(by decide), (by decide), ⟨f98_1_2, c8, (show 1 ≤ f98_1_2.toInt by omega), (show f98_1_2.toInt ≤ 400 by omega)⟩, ⟨f98_1_3, c11, (show 0 ≤ f98_1_3.toInt by omega), (show f98_1_3.toInt ≤ 399 by omega)⟩, ⟨f98_1_4, c14, (show 0 ≤ f98_1_4.toInt by omega), (show f98_1_4.toInt ≤ 3205 by omega)⟩⟩)⟩ hw dX3_readSign_127
    · have c15 : v98_1.toInt = (60 : Int) := wk_eq.mp c15
      refine lv_iload_n hx hb dX3_readSign_104 rfl (lv_at hl 2 rfl) ?_
      refine lv_if_eq (tgt := 113) hx hb dX3_readSign_105 (by decide) (fun c17 => ?_) (fun c17 => ?_)
      · have c17 : v98_2.toInt = (0 : Int) := wk_eq.mp c17
        refine lv_bipush (v := 14) hx hb dX3_readSign_113 (by decide) ?_
        exact tk_iret hC hr hlocks hK ⟨hT, hF, (Or.inr ⟨(by decide), (by decide), ⟨f98_1_2, c8, (show 1 ≤ f98_1_2.toInt by omega), (show f98_1_2.toInt ≤ 400 by omega)⟩, ⟨f98_1_3, c11, (show 0 ≤ f98_1_3.toInt by omega), (show f98_1_3.toInt ≤ 399 by omega)⟩, ⟨f98_1_4, c14, (show 0 ≤ f98_1_4.toInt by omega), (show f98_1_4.toInt ≤ 3205 by omega)⟩⟩)⟩ hw dX3_readSign_115
      · have c17 : ¬ v98_2.toInt = (0 : Int) := wk_eqF c17
        refine lv_bipush (v := 15) hx hb dX3_readSign_108 (by decide) ?_
        refine lv_goto (tgt := 115) hx hb dX3_readSign_110 (by decide) ?_
        exact tk_iret hC hr hlocks hK ⟨hT, hF, (Or.inr ⟨(by decide), (by decide), ⟨f98_1_2, c8, (show 1 ≤ f98_1_2.toInt by omega), (show f98_1_2.toInt ≤ 400 by omega)⟩, ⟨f98_1_3, c11, (show 0 ≤ f98_1_3.toInt by omega), (show f98_1_3.toInt ≤ 399 by omega)⟩, ⟨f98_1_4, c14, (show 0 ≤ f98_1_4.toInt by omega), (show f98_1_4.toInt ≤ 3205 by omega)⟩⟩)⟩ hw dX3_readSign_115
  have J49 : ∀ (v49_1 : Int32) (f49_1_1 : Int32) (f49_1_2 : Int32) (f49_1_3 : Int32) (H : Heap) (locs : List Loc) (ls : Array Slot) (w18 : va_W), 60 ≤ v49_1.toInt → v49_1.toInt ≤ 62 → 0 ≤ f49_1_1.toInt → f49_1_1.toInt ≤ 399 → 1 ≤ f49_1_2.toInt → f49_1_2.toInt ≤ 400 → 0 ≤ f49_1_3.toInt → f49_1_3.toInt ≤ 399 → Wd dC dI A s.heap H locs w18 → TW ksC ad cy B qr s1 w18 → FE ksC [(3, 2, 2), (6, 1, 1), (6, 3, 3), (6, 4, 4)] w0 w18 → gi w18 1 1 = f49_1_1 → gi w18 1 2 = f49_1_2 → gi w18 1 3 = f49_1_3 → gi w18 1 4 = 0 → lv_has ls 3 [(0, .ref (ad 3)), (1, .int v49_1)] → W p l e ({ frames := 3, cells := 0, slots := 0, locals := 54 }) s m (List.toArray [.ref (ad 3)]) below meth c H locs 0 0 (MQ below (va_Qi (P_X3_readSign_1 ad cy B qr s1  w0) (fun u : va_W => wpost dC dI cy A u) A) (List.toArray [.ref (ad 3)]) s 0 0 A) (F0 m 49 ls []) := by
    intro v49_1 f49_1_1 f49_1_2 f49_1_3 H locs ls w18 r19 t20 r21 t22 r24 t25 r27 t28 hw hT hF c23 c26 c29 c30 hl
    refine lv_aload_n hx hb dX3_readSign_49 rfl (lv_at hl 0 rfl) ?_
    refine tk_Vv hC hK hw hT hA hE hSR kC_at3 (by decide) rfl (k_X3_countItem_2 l adK adV dC dI cy ad B (by omega) (by omega) qr s1    w18 H.size hT c30) (cwV 0 hC.2.2.2.2 gX3_readSign_X3_countItem rfl rfl rfl (by decide +kernel) ⟨Nat.le_of_ble_eq_true rfl, Nat.le_of_ble_eq_true rfl⟩) rfl hl.1 rfl (Nat.le_of_ble_eq_true rfl) dX3_readSign_50 (fun w33 H locs hp32 hw => ?_)
    obtain ⟨hT, k34, hg37⟩ := hp32
    have hF := hF.tr k34 (by decide)
    have c38 := k34.gi kC_at1 (by decide) c23
    have c39 := k34.gi kC_at1 (by decide) c26
    have c40 := k34.gi kC_at1 (by decide) c29
    obtain ⟨x35, c36, rx35, tx35⟩ := hg37
    refine lv_aload_n hx hb dX3_readSign_53 rfl (lv_at hl 0 rfl) ?_
    refine tk_getA hC hK hw hT hinX3 kC_at3 (by decide) rfl 0 (by decide) (List.mem_of_getElem? (i := 1) rfl) rfl rfl dX3_readSign_54 ?_
    refine tk_Vv hC hK hw hT hA hE hSR kC_at1 (by decide) rfl (k_X6_pass_1 l adK adV dC dI cy ad B (by omega) (by omega) qr s1    w33 H.size hT ) (cwV 0 hC.2.2.2.2 gX3_readSign_X6_pass rfl rfl rfl (by decide +kernel) ⟨Nat.le_of_ble_eq_true rfl, Nat.le_of_ble_eq_true rfl⟩) rfl hl.1 rfl (Nat.le_of_ble_eq_true rfl) dX3_readSign_57 (fun w43 H locs hp42 hw => ?_)
    obtain ⟨hT, k44, hg45⟩ := hp42
    have hF := hF.tr k44 (by decide)
    have c46 := k44.gi kC_at1 (by decide) c39
    have c47 := k44.gi kC_at1 (by decide) c40
    have c48 := k44.gi kC_at1 (by decide) c36
    clear hg45
    refine lv_iload_n hx hb dX3_readSign_60 rfl (lv_at hl 1 rfl) ?_
    refine lv_bipush (v := 61) hx hb dX3_readSign_61 (by decide) ?_
    refine lv_icmp_ne (tgt := 69) hx hb dX3_readSign_63 (by decide) (fun c49 => ?_) (fun c49 => ?_)
    · have c49 : ¬ v49_1.toInt = (61 : Int) := wk_eqF c49
      refine lv_aload_n hx hb dX3_readSign_69 rfl (lv_at hl 0 rfl) ?_
      refine tk_getA hC hK hw hT hinX3 kC_at3 (by decide) rfl 0 (by decide) (List.mem_of_getElem? (i := 1) rfl) rfl rfl dX3_readSign_70 ?_
      refine tk_Vi hC hK hw hT hA hE hSR kC_at1 (by decide) rfl (k_X6_look_1 l adK adV dC dI cy ad B (by omega) (by omega) qr s1    w43 H.size hT ) (cwV 0 hC.2.2.2.2 gX3_readSign_X6_look rfl rfl rfl (by decide +kernel) ⟨Nat.le_of_ble_eq_true rfl, Nat.le_of_ble_eq_true rfl⟩) rfl hl.1 rfl (Nat.le_of_ble_eq_true rfl) dX3_readSign_73 (fun r50 w52 H locs hp51 hw => ?_)
      obtain ⟨hT, k53, hg60⟩ := hp51
      have hF := hF.tr k53 (by decide)
      have c61 := k53.gi kC_at1 (by decide) c46
      have c62 := k53.gi kC_at1 (by decide) c47
      have c63 := k53.gi kC_at1 (by decide) c48
      rcases hg60 with ⟨g54, g55, ⟨x56, c57, rx56, tx56⟩, ⟨x58, c59, rx58, tx58⟩⟩ | rfl
      · have ex58 : x58.toInt = f49_1_2.toInt := by rw [← c61.symm.trans c59]
        refine lv_bipush (v := 61) hx hb dX3_readSign_76 (by decide) ?_
        refine lv_icmp_ne (tgt := 85) hx hb dX3_readSign_78 (by decide) (fun c64 => ?_) (fun c64 => ?_)
        · have c64 : ¬ r50.toInt = (61 : Int) := wk_eqF c64
          refine lv_iconst (v := 0) hx hb dX3_readSign_85 (by decide) ?_
          refine lv_istore_n (lv' := [(2, .int 0), (0, .ref (ad 3)), (1, .int v49_1)]) hx hb dX3_readSign_86 rfl hl (by decide) rfl (fun ls hl => ?_)
          refine lv_iload_n hx hb dX3_readSign_87 rfl (lv_at hl 0 rfl) ?_
          refine lv_if_eq (tgt := 98) hx hb dX3_readSign_88 (by decide) (fun _ => ?_) (fun c => absurd (by decide) c)
          exact J98 v49_1 0 f49_1_2 f49_1_3 x35 H locs ls w52 (show 60 ≤ v49_1.toInt by omega) (show v49_1.toInt ≤ 62 by omega) (by decide) (by decide) (show 1 ≤ f49_1_2.toInt by omega) (show f49_1_2.toInt ≤ 400 by omega) (show 0 ≤ f49_1_3.toInt by omega) (show f49_1_3.toInt ≤ 399 by omega) (show 0 ≤ x35.toInt by omega) (show x35.toInt ≤ 3205 by omega)  hw hT hF c61 c62 c63 (lv_sub hl [1, 2, 0] rfl)
        · have c64 : r50.toInt = (61 : Int) := wk_eq.mp c64
          refine lv_iconst (v := 1) hx hb dX3_readSign_81 (by decide) ?_
          refine lv_goto (tgt := 86) hx hb dX3_readSign_82 (by decide) ?_
          refine lv_istore_n (lv' := [(2, .int 1), (0, .ref (ad 3)), (1, .int v49_1)]) hx hb dX3_readSign_86 rfl hl (by decide) rfl (fun ls hl => ?_)
          refine lv_iload_n hx hb dX3_readSign_87 rfl (lv_at hl 0 rfl) ?_
          refine lv_if_eq (tgt := 98) hx hb dX3_readSign_88 (by decide) (fun c => absurd c (by decide)) (fun _ => ?_)
          refine lv_aload_n hx hb dX3_readSign_91 rfl (lv_at hl 1 rfl) ?_
          refine tk_getA hC hK hw hT hinX3 kC_at3 (by decide) rfl 0 (by decide) (List.mem_of_getElem? (i := 1) rfl) rfl rfl dX3_readSign_92 ?_
          refine tk_Vv hC hK hw hT hA hE hSR kC_at1 (by decide) rfl (k_X6_pass_1 l adK adV dC dI cy ad B (by omega) (by omega) qr s1    w52 H.size hT ) (cwV 0 hC.2.2.2.2 gX3_readSign_X6_pass rfl rfl rfl (by decide +kernel) ⟨Nat.le_of_ble_eq_true rfl, Nat.le_of_ble_eq_true rfl⟩) rfl hl.1 rfl (Nat.le_of_ble_eq_true rfl) dX3_readSign_95 (fun w67 H locs hp66 hw => ?_)
          obtain ⟨hT, k68, hg69⟩ := hp66
          have hF := hF.tr k68 (by decide)
          have c70 := k68.gi kC_at1 (by decide) c61
          have c71 := k68.gi kC_at1 (by decide) c62
          have c72 := k68.gi kC_at1 (by decide) c63
          clear hg69
          exact J98 v49_1 1 f49_1_2 f49_1_3 x35 H locs ls w67 (show 60 ≤ v49_1.toInt by omega) (show v49_1.toInt ≤ 62 by omega) (by decide) (by decide) (show 1 ≤ f49_1_2.toInt by omega) (show f49_1_2.toInt ≤ 400 by omega) (show 0 ≤ f49_1_3.toInt by omega) (show f49_1_3.toInt ≤ 399 by omega) (show 0 ≤ x35.toInt by omega) (show x35.toInt ≤ 3205 by omega)  hw hT hF c70 c71 c72 (lv_sub hl [1, 2, 0] rfl)
      · refine lv_bipush (v := 61) hx hb dX3_readSign_76 (by decide) ?_
        refine lv_icmp_ne (tgt := 85) hx hb dX3_readSign_78 (by decide) (fun _ => ?_) (fun c => absurd c (by decide))
        refine lv_iconst (v := 0) hx hb dX3_readSign_85 (by decide) ?_
        refine lv_istore_n (lv' := [(2, .int 0), (0, .ref (ad 3)), (1, .int v49_1)]) hx hb dX3_readSign_86 rfl hl (by decide) rfl (fun ls hl => ?_)
        refine lv_iload_n hx hb dX3_readSign_87 rfl (lv_at hl 0 rfl) ?_
        refine lv_if_eq (tgt := 98) hx hb dX3_readSign_88 (by decide) (fun _ => ?_) (fun c => absurd (by decide) c)
        exact J98 v49_1 0 f49_1_2 f49_1_3 x35 H locs ls w52 (show 60 ≤ v49_1.toInt by omega) (show v49_1.toInt ≤ 62 by omega) (by decide) (by decide) (show 1 ≤ f49_1_2.toInt by omega) (show f49_1_2.toInt ≤ 400 by omega) (show 0 ≤ f49_1_3.toInt by omega) (show f49_1_3.toInt ≤ 399 by omega) (show 0 ≤ x35.toInt by omega) (show x35.toInt ≤ 3205 by omega)  hw hT hF c61 c62 c63 (lv_sub hl [1, 2, 0] rfl)
    · have c49 : v49_1.toInt = (61 : Int) := wk_eq.mp c49
      refine lv_bipush (v := 16) hx hb dX3_readSign_66 (by decide) ?_
      exact tk_iret hC hr hlocks hK ⟨hT, hF, (Or.inr ⟨(by decide), (by decide), ⟨f49_1_2, c46, (show 1 ≤ f49_1_2.toInt by omega), (show f49_1_2.toInt ≤ 400 by omega)⟩, ⟨f49_1_3, c47, (show 0 ≤ f49_1_3.toInt by omega), (show f49_1_3.toInt ≤ 399 by omega)⟩, ⟨x35, c48, (show 0 ≤ x35.toInt by omega), (show x35.toInt ≤ 3205 by omega)⟩⟩)⟩ hw dX3_readSign_68
  refine lv_aload_n hx hb dX3_readSign_0 rfl (lv_at hl 0 rfl) ?_
  refine tk_getA hC hK hw hT hinX3 kC_at3 (by decide) rfl 0 (by decide) (List.mem_of_getElem? (i := 1) rfl) rfl rfl dX3_readSign_1 ?_
  refine tk_Vi hC hK hw hT hA hE hSR kC_at1 (by decide) rfl (k_X6_isFaulty_1 l adK adV dC dI cy ad B (by omega) (by omega) qr s1    w0 s.heap.size hT ) (cwV 0 hC.2.2.2.2 gX3_readSign_X6_isFaulty rfl rfl rfl (by decide +kernel) ⟨Nat.le_of_ble_eq_true rfl, Nat.le_of_ble_eq_true rfl⟩) rfl hl.1 rfl (Nat.le_of_ble_eq_true rfl) dX3_readSign_4 (fun r73 w75 H locs hp74 hw => ?_)
  obtain ⟨hT, k76, hg81⟩ := hp74
  have hF := hF.tr k76 (by decide)
  rcases hg81 with ⟨rfl, ⟨x77, c78, rx77, tx77⟩⟩ | ⟨rfl, ⟨x79, c80, rx79, tx79⟩⟩
  · refine lv_if_eq (tgt := 13) hx hb dX3_readSign_7 (by decide) (fun _ => ?_) (fun c => absurd (by decide) c)
    refine lv_aload_n hx hb dX3_readSign_13 rfl (lv_at hl 0 rfl) ?_
    refine tk_getA hC hK hw hT hinX3 kC_at3 (by decide) rfl 0 (by decide) (List.mem_of_getElem? (i := 1) rfl) rfl rfl dX3_readSign_14 ?_
    refine tk_Vi hC hK hw hT hA hE hSR kC_at1 (by decide) rfl (k_X6_lookBehindBlanks_1 l adK adV dC dI cy ad B (by omega) (by omega) qr s1    w75 H.size hT ) (cwV 0 hC.2.2.2.2 gX3_readSign_X6_lookBehindBlanks rfl rfl rfl (by decide +kernel) ⟨Nat.le_of_ble_eq_true rfl, Nat.le_of_ble_eq_true rfl⟩) rfl hl.1 rfl (Nat.le_of_ble_eq_true rfl) dX3_readSign_17 (fun r82 w84 H locs hp83 hw => ?_)
    obtain ⟨hT, k85, hg94⟩ := hp83
    have hF := hF.tr k85 (by decide)
    have c95 := k85.gi kC_at1 (by decide) c78
    rcases hg94 with ⟨g86, g87, ⟨x88, c89, rx88, tx88⟩, ⟨x90, c91, rx90, tx90⟩, ⟨x92, c93, rx92, tx92⟩⟩ | rfl
    · refine lv_istore_n (lv' := [(1, .int r82), (0, .ref (ad 3))]) hx hb dX3_readSign_20 rfl hl (by decide) rfl (fun ls hl => ?_)
      refine lv_iload_n hx hb dX3_readSign_21 rfl (lv_at hl 0 rfl) ?_
      refine lv_bipush (v := 60) hx hb dX3_readSign_22 (by decide) ?_
      refine lv_icmp_eq (tgt := 49) hx hb dX3_readSign_24 (by decide) (fun c96 => ?_) (fun c96 => ?_)
      · have c96 : r82.toInt = (60 : Int) := wk_eq.mp c96
        obtain rfl : x77 = 0 := wk_eq.mpr (show x77.toInt = 0 by omega)
        exact J49 r82 x88 x90 x92 H locs ls w84 (show 60 ≤ r82.toInt by omega) (show r82.toInt ≤ 62 by omega) (show 0 ≤ x88.toInt by omega) (show x88.toInt ≤ 399 by omega) (show 1 ≤ x90.toInt by omega) (show x90.toInt ≤ 400 by omega) (show 0 ≤ x92.toInt by omega) (show x92.toInt ≤ 399 by omega)  hw hT hF c89 c91 c93 c95 (lv_sub hl [1, 0] rfl)
      · have c96 : ¬ r82.toInt = (60 : Int) := wk_eqF c96
        refine lv_iload_n hx hb dX3_readSign_27 rfl (lv_at hl 0 rfl) ?_
        refine lv_bipush (v := 61) hx hb dX3_readSign_28 (by decide) ?_
        refine lv_icmp_eq (tgt := 49) hx hb dX3_readSign_30 (by decide) (fun c97 => ?_) (fun c97 => ?_)
        · have c97 : r82.toInt = (61 : Int) := wk_eq.mp c97
          obtain rfl : x77 = 0 := wk_eq.mpr (show x77.toInt = 0 by omega)
          exact J49 r82 x88 x90 x92 H locs ls w84 (show 60 ≤ r82.toInt by omega) (show r82.toInt ≤ 62 by omega) (show 0 ≤ x88.toInt by omega) (show x88.toInt ≤ 399 by omega) (show 1 ≤ x90.toInt by omega) (show x90.toInt ≤ 400 by omega) (show 0 ≤ x92.toInt by omega) (show x92.toInt ≤ 399 by omega)  hw hT hF c89 c91 c93 c95 (lv_sub hl [1, 0] rfl)
        · have c97 : ¬ r82.toInt = (61 : Int) := wk_eqF c97
          refine lv_iload_n hx hb dX3_readSign_33 rfl (lv_at hl 0 rfl) ?_
          refine lv_bipush (v := 62) hx hb dX3_readSign_34 (by decide) ?_
          refine lv_icmp_eq (tgt := 49) hx hb dX3_readSign_36 (by decide) (fun c98 => ?_) (fun c98 => ?_)
          · have c98 : r82.toInt = (62 : Int) := wk_eq.mp c98
            obtain rfl : x77 = 0 := wk_eq.mpr (show x77.toInt = 0 by omega)
            exact J49 r82 x88 x90 x92 H locs ls w84 (show 60 ≤ r82.toInt by omega) (show r82.toInt ≤ 62 by omega) (show 0 ≤ x88.toInt by omega) (show x88.toInt ≤ 399 by omega) (show 1 ≤ x90.toInt by omega) (show x90.toInt ≤ 400 by omega) (show 0 ≤ x92.toInt by omega) (show x92.toInt ≤ 399 by omega)  hw hT hF c89 c91 c93 c95 (lv_sub hl [1, 0] rfl)
          · have c98 : ¬ r82.toInt = (62 : Int) := wk_eqF c98
            refine lv_aload_n hx hb dX3_readSign_39 rfl (lv_at hl 1 rfl) ?_
            refine tk_getA hC hK hw hT hinX3 kC_at3 (by decide) rfl 0 (by decide) (List.mem_of_getElem? (i := 1) rfl) rfl rfl dX3_readSign_40 ?_
            refine tk_Vv hC hK hw hT hA hE hSR kC_at1 (by decide) rfl (k_X6_blameHere_1 l adK adV dC dI cy ad B (by omega) (by omega) qr s1    w84 H.size hT (c95.trans (wk_eq.mpr (show x77.toInt = 0 by omega)))) (cwV 0 hC.2.2.2.2 gX3_readSign_X6_blameHere rfl rfl rfl (by decide +kernel) ⟨Nat.le_of_ble_eq_true rfl, Nat.le_of_ble_eq_true rfl⟩) rfl hl.1 rfl (Nat.le_of_ble_eq_true rfl) dX3_readSign_43 (fun w101 H locs hp100 hw => ?_)
            obtain ⟨hT, k102, hg105⟩ := hp100
            have hF := hF.tr k102 (by decide)
            have c106 := k102.gi kC_at1 (by decide) c89
            have c107 := k102.gi kC_at1 (by decide) c91
            have c108 := k102.gi kC_at1 (by decide) c93
            obtain ⟨x103, c104, rx103, tx103⟩ := hg105
            refine lv_bipush (v := 16) hx hb dX3_readSign_46 (by decide) ?_
            exact tk_iret hC hr hlocks hK ⟨hT, hF, (Or.inl ⟨rfl, ⟨x103, c104, (show 1 ≤ x103.toInt by omega), (show x103.toInt ≤ 3205 by omega)⟩⟩)⟩ hw dX3_readSign_48
    · refine lv_istore_n (lv' := [(1, .int (-1)), (0, .ref (ad 3))]) hx hb dX3_readSign_20 rfl hl (by decide) rfl (fun ls hl => ?_)
      refine lv_iload_n hx hb dX3_readSign_21 rfl (lv_at hl 0 rfl) ?_
      refine lv_bipush (v := 60) hx hb dX3_readSign_22 (by decide) ?_
      refine lv_icmp_eq (tgt := 49) hx hb dX3_readSign_24 (by decide) (fun c => absurd c (by decide)) (fun _ => ?_)
      refine lv_iload_n hx hb dX3_readSign_27 rfl (lv_at hl 0 rfl) ?_
      refine lv_bipush (v := 61) hx hb dX3_readSign_28 (by decide) ?_
      refine lv_icmp_eq (tgt := 49) hx hb dX3_readSign_30 (by decide) (fun c => absurd c (by decide)) (fun _ => ?_)
      refine lv_iload_n hx hb dX3_readSign_33 rfl (lv_at hl 0 rfl) ?_
      refine lv_bipush (v := 62) hx hb dX3_readSign_34 (by decide) ?_
      refine lv_icmp_eq (tgt := 49) hx hb dX3_readSign_36 (by decide) (fun c => absurd c (by decide)) (fun _ => ?_)
      refine lv_aload_n hx hb dX3_readSign_39 rfl (lv_at hl 1 rfl) ?_
      refine tk_getA hC hK hw hT hinX3 kC_at3 (by decide) rfl 0 (by decide) (List.mem_of_getElem? (i := 1) rfl) rfl rfl dX3_readSign_40 ?_
      refine tk_Vv hC hK hw hT hA hE hSR kC_at1 (by decide) rfl (k_X6_blameHere_1 l adK adV dC dI cy ad B (by omega) (by omega) qr s1    w84 H.size hT (c95.trans (wk_eq.mpr (show x77.toInt = 0 by omega)))) (cwV 0 hC.2.2.2.2 gX3_readSign_X6_blameHere rfl rfl rfl (by decide +kernel) ⟨Nat.le_of_ble_eq_true rfl, Nat.le_of_ble_eq_true rfl⟩) rfl hl.1 rfl (Nat.le_of_ble_eq_true rfl) dX3_readSign_43 (fun w111 H locs hp110 hw => ?_)
      obtain ⟨hT, k112, hg115⟩ := hp110
      have hF := hF.tr k112 (by decide)
      obtain ⟨x113, c114, rx113, tx113⟩ := hg115
      refine lv_bipush (v := 16) hx hb dX3_readSign_46 (by decide) ?_
      exact tk_iret hC hr hlocks hK ⟨hT, hF, (Or.inl ⟨rfl, ⟨x113, c114, (show 1 ≤ x113.toInt by omega), (show x113.toInt ≤ 3205 by omega)⟩⟩)⟩ hw dX3_readSign_48
  · refine lv_if_eq (tgt := 13) hx hb dX3_readSign_7 (by decide) (fun c => absurd c (by decide)) (fun _ => ?_)
    refine lv_bipush (v := 16) hx hb dX3_readSign_10 (by decide) ?_
    exact tk_iret hC hr hlocks hK ⟨hT, hF, (Or.inl ⟨rfl, ⟨x79, c80, (show 1 ≤ x79.toInt by omega), (show x79.toInt ≤ 3205 by omega)⟩⟩)⟩ hw dX3_readSign_12
abbrev P_X6_isFaulty_3 (ad : Nat → Nat) (cy : Nat → ClassId) (B : Int) (qr : Nat) (s1 : Int)  (w0 : va_W) : Int32 → va_W → Prop := fun r u => TW ksC ad cy B qr s1 u ∧ FE ksC ([] : List (Nat × Nat × Nat)) w0 u ∧ ((r = 1 ∧ (∃ y : Int32, gi u 1 4 = y ∧ 1 ≤ y.toInt ∧ y.toInt ≤ 3205)))
set_option maxHeartbeats 4000000 in
set_option maxRecDepth 100000 in
theorem k_X6_isFaulty_3 (l : Launch) (adK adV : Nat → Nat) (dC : Nat → ClassId) (dI : Nat → Nat → Nat) (cy : Nat → ClassId) (ad : Nat → Nat) (B : Int) (hB0 : 2147483648 ≤ B) (hB1 : B ≤ 1152921504606846976) (qr : Nat) (s1 : Int)   (w0 : va_W) (sz : Nat) (hT : TW ksC ad cy B qr s1 w0) (f0_ : Int32) (cf0_ : gi w0 1 4 = f0_) (rf0_ : 1 ≤ f0_.toInt) (tf0_ : f0_.toInt ≤ 3205) : Met l yX6_isFaulty wsX6_isFaulty ({ frames := 1, cells := 0, slots := 0, locals := 12 }) (va_Pc [.ref (ad 1)] (wpreS adK adV dC dI cy sz w0)) (va_Qi (P_X6_isFaulty_3 ad cy B qr s1  w0) (fun u : va_W => wpost dC dI cy (va_A w0 sz) u) (va_A w0 sz)) 0 0 (va_A w0 sz) := by
  refine Met.ofW (cc := cX6_isFaulty) (maxL := 1) (ret := (some .boolean)) (by decide) rfl ?_
  intro p e s m args below meth c s₁ Bk hml hv
  obtain ⟨rfl, ⟨hsz, hP, hK, hD0⟩, hE, hSR⟩ := hv
  have hx := Bk.exec
  have hb := Bk.bytes
  have hr := Bk.returns
  have hlocks := Bk.notSynchronized
  have hC : CallFix p m c cX6_isFaulty 1 s _ wsX6_isFaulty RX6 := ⟨hx, hb, hml, findClass_of_methodNamed Bk.named, atoms_spec (ws := wsX6_isFaulty) Bk.pre⟩
  subst hsz
  have hD := hD0.self (sz := s.heap.size)
  generalize hAe : va_A w0 s.heap.size = A at hD hE ⊢
  have hA : ∀ q : Nat, s.heap.size ≤ q → A q := fun q h => by rw [← hAe]; exact Or.inr h
  have hw : Wd dC dI A s.heap s.heap [] w0 := ⟨hP, hD, va_S.rf⟩
  have hF : FE ksC ([] : List (Nat × Nat × Nat)) w0 w0 := FE.rf
  have hl := lv_entry ([.ref (ad 1)]) (n := 1) (Nat.le_of_ble_eq_true rfl)
  rw [lg_entry_eq]
  generalize (lg_sl ([.ref (ad 1)]) ++ List.replicate (1 - (lg_sl ([.ref (ad 1)])).length) Slot.unset).toArray = ls at hl ⊢
  have hl : lv_has ls 1 [(0, .ref (ad 1))] := hl
  generalize hloc : ([] : List Loc) = locs at hw ⊢
  have hinX6 : ∀ w ∈ u_ws RX6 TX6 5, w ∈ wsX6_isFaulty := fun _ h => List.mem_cons_of_mem _ (List.mem_append_right _ (h))
  refine lv_aload_n hx hb dX6_isFaulty_0 rfl (lv_at hl 0 rfl) ?_
  refine tk_geti hC hK hw hT hinX6 kC_at1 (by decide) rfl 4 (by decide) (List.mem_of_getElem? (i := 1) rfl) rfl rfl dX6_isFaulty_1 (fun x1 c2 rx1 tx1 => ?_)
  refine wk_top f0_ (c2.symm.trans cf0_) ?_
  refine lv_if_eq (tgt := 11) hx hb dX6_isFaulty_4 (by decide) (fun c => absurd c (fun h => absurd (show f0_.toInt = (0 : Int) from wk_eq.mp h) (by omega))) (fun _ => ?_)
  refine lv_iconst (v := 1) hx hb dX6_isFaulty_7 (by decide) ?_
  refine lv_goto (tgt := 12) hx hb dX6_isFaulty_8 (by decide) ?_
  exact tk_zret hC hr rfl hlocks hK ⟨hT, hF, ⟨rfl, ⟨f0_, cf0_, (show 1 ≤ f0_.toInt by omega), (show f0_.toInt ≤ 3205 by omega)⟩⟩⟩ hw dX6_isFaulty_12
abbrev P_X3_readValue_2 (ad : Nat → Nat) (cy : Nat → ClassId) (B : Int) (qr : Nat) (s1 : Int)  (w0 : va_W) : va_W → Prop := fun u => TW ksC ad cy B qr s1 u ∧ FE ksC ([] : List (Nat × Nat × Nat)) w0 u ∧ (((∃ y : Int32, gi u 1 4 = y ∧ 1 ≤ y.toInt ∧ y.toInt ≤ 3205)))
set_option maxHeartbeats 4000000 in
set_option maxRecDepth 100000 in
theorem k_X3_readValue_2 (l : Launch) (adK adV : Nat → Nat) (dC : Nat → ClassId) (dI : Nat → Nat → Nat) (cy : Nat → ClassId) (ad : Nat → Nat) (B : Int) (hB0 : 2147483648 ≤ B) (hB1 : B ≤ 1152921504606846976) (qr : Nat) (s1 : Int) (hqr : ksC[qr]? = some 2)  (w0 : va_W) (sz : Nat) (hT : TW ksC ad cy B qr s1 w0) (f0_ : Int32) (cf0_ : gi w0 1 4 = f0_) (rf0_ : 1 ≤ f0_.toInt) (tf0_ : f0_.toInt ≤ 3205) : Met l yX3_readValue wsX3_readValue ({ frames := 2, cells := 0, slots := 0, locals := 32 }) (va_Pc [.ref (ad 3)] (wpreS adK adV dC dI cy sz w0)) (va_Qv (P_X3_readValue_2 ad cy B qr s1  w0) (fun u : va_W => wpost dC dI cy (va_A w0 sz) u) (va_A w0 sz)) 0 0 (va_A w0 sz) := by
  refine Met.ofW (cc := cX3_readValue) (maxL := 1) (ret := none) (by decide) rfl ?_
  intro p e s m args below meth c s₁ Bk hml hv
  obtain ⟨rfl, ⟨hsz, hP, hK, hD0⟩, hE, hSR⟩ := hv
  have hx := Bk.exec
  have hb := Bk.bytes
  have hr := Bk.returns
  have hlocks := Bk.notSynchronized
  have hC : CallFix p m c cX3_readValue 1 s _ wsX3_readValue RX3 := ⟨hx, hb, hml, findClass_of_methodNamed Bk.named, atoms_spec (ws := wsX3_readValue) Bk.pre⟩
  subst hsz
  have hD := hD0.self (sz := s.heap.size)
  generalize hAe : va_A w0 s.heap.size = A at hD hE ⊢
  have hA : ∀ q : Nat, s.heap.size ≤ q → A q := fun q h => by rw [← hAe]; exact Or.inr h
  have hw : Wd dC dI A s.heap s.heap [] w0 := ⟨hP, hD, va_S.rf⟩
  have hF : FE ksC ([] : List (Nat × Nat × Nat)) w0 w0 := FE.rf
  have hl := lv_entry ([.ref (ad 3)]) (n := 1) (Nat.le_of_ble_eq_true rfl)
  rw [lg_entry_eq]
  generalize (lg_sl ([.ref (ad 3)]) ++ List.replicate (1 - (lg_sl ([.ref (ad 3)])).length) Slot.unset).toArray = ls at hl ⊢
  have hl : lv_has ls 1 [(0, .ref (ad 3))] := hl
  generalize hloc : ([] : List Loc) = locs at hw ⊢
  have hinX3 : ∀ w ∈ u_ws RX3 TX3 3, w ∈ wsX3_readValue := fun _ h => List.mem_cons_of_mem _ (List.mem_append_left _ (List.mem_append_left _ (List.mem_append_right _ (h))))
  refine lv_aload_n hx hb dX3_readValue_0 rfl (lv_at hl 0 rfl) ?_
  refine tk_getA hC hK hw hT hinX3 kC_at3 (by decide) rfl 0 (by decide) (List.mem_of_getElem? (i := 1) rfl) rfl rfl dX3_readValue_1 ?_
  refine tk_Vi hC hK hw hT hA hE hSR kC_at1 (by decide) rfl (k_X6_isFaulty_3 l adK adV dC dI cy ad B (by omega) (by omega) qr s1    w0 s.heap.size hT f0_ cf0_ (show 1 ≤ f0_.toInt by omega) (show f0_.toInt ≤ 3205 by omega)) (cwV 0 hC.2.2.2.2 gX3_readValue_X6_isFaulty rfl rfl rfl (by decide +kernel) ⟨Nat.le_of_ble_eq_true rfl, Nat.le_of_ble_eq_true rfl⟩) rfl hl.1 rfl (Nat.le_of_ble_eq_true rfl) dX3_readValue_4 (fun r1 w3 H locs hp2 hw => ?_)
  obtain ⟨hT, k4, hg7⟩ := hp2
  have hF := hF.tr k4 (by decide)
  have c8 := k4.gi kC_at1 (by decide) cf0_
  obtain ⟨rfl, ⟨x5, c6, rx5, tx5⟩⟩ := hg7
  have ex5 : x5.toInt = f0_.toInt := by rw [← c8.symm.trans c6]
  refine lv_if_eq (tgt := 11) hx hb dX3_readValue_7 (by decide) (fun c => absurd c (by decide)) (fun _ => ?_)
  exact tk_vret hC hr hlocks hK ⟨hT, hF, ⟨f0_, c8, (show 1 ≤ f0_.toInt by omega), (show f0_.toInt ≤ 3205 by omega)⟩⟩ hw dX3_readValue_10
abbrev P_X3_readSum_2 (ad : Nat → Nat) (cy : Nat → ClassId) (B : Int) (qr : Nat) (s1 : Int)  (w0 : va_W) : va_W → Prop := fun u => TW ksC ad cy B qr s1 u ∧ FE ksC [(2, 3, 3), (22, 0, 13), (23, 0, 400)] w0 u ∧ (((∃ y : Int32, gi u 1 4 = y ∧ 1 ≤ y.toInt ∧ y.toInt ≤ 3205)))
set_option maxHeartbeats 4000000 in
set_option maxRecDepth 100000 in
theorem k_X3_readSum_2 (l : Launch) (adK adV : Nat → Nat) (dC : Nat → ClassId) (dI : Nat → Nat → Nat) (cy : Nat → ClassId) (ad : Nat → Nat) (B : Int) (hB0 : 2147483648 ≤ B) (hB1 : B ≤ 1152921504606846976) (qr : Nat) (s1 : Int) (hqr : ksC[qr]? = some 2)  (w0 : va_W) (sz : Nat) (hT : TW ksC ad cy B qr s1 w0) (f0_ : Int32) (cf0_ : gi w0 1 4 = f0_) (rf0_ : 1 ≤ f0_.toInt) (tf0_ : f0_.toInt ≤ 3205) : Met l yX3_readSum wsX3_readSum ({ frames := 3, cells := 0, slots := 0, locals := 54 }) (va_Pc [.ref (ad 3)] (wpreS adK adV dC dI cy sz w0)) (va_Qv (P_X3_readSum_2 ad cy B qr s1  w0) (fun u : va_W => wpost dC dI cy (va_A w0 sz) u) (va_A w0 sz)) 0 0 (va_A w0 sz) := by
  refine Met.ofW (cc := cX3_readSum) (maxL := 4) (ret := none) (by decide) rfl ?_
  intro p e s m args below meth c s₁ Bk hml hv
  obtain ⟨rfl, ⟨hsz, hP, hK, hD0⟩, hE, hSR⟩ := hv
  have hx := Bk.exec
  have hb := Bk.bytes
  have hr := Bk.returns
  have hlocks := Bk.notSynchronized
  have hC : CallFix p m c cX3_readSum 4 s _ wsX3_readSum RX3 := ⟨hx, hb, hml, findClass_of_methodNamed Bk.named, atoms_spec (ws := wsX3_readSum) Bk.pre⟩
  subst hsz
  have hD := hD0.self (sz := s.heap.size)
  generalize hAe : va_A w0 s.heap.size = A at hD hE ⊢
  have hA : ∀ q : Nat, s.heap.size ≤ q → A q := fun q h => by rw [← hAe]; exact Or.inr h
  have hw : Wd dC dI A s.heap s.heap [] w0 := ⟨hP, hD, va_S.rf⟩
  have hF : FE ksC [(2, 3, 3), (22, 0, 13), (23, 0, 400)] w0 w0 := FE.rf
  have hl := lv_entry ([.ref (ad 3)]) (n := 4) (Nat.le_of_ble_eq_true rfl)
  rw [lg_entry_eq]
  generalize (lg_sl ([.ref (ad 3)]) ++ List.replicate (4 - (lg_sl ([.ref (ad 3)])).length) Slot.unset).toArray = ls at hl ⊢
  have hl : lv_has ls 4 [(0, .ref (ad 3))] := hl
  generalize hloc : ([] : List Loc) = locs at hw ⊢
  have hinX3 : ∀ w ∈ u_ws RX3 TX3 3, w ∈ wsX3_readSum := fun _ h => List.mem_cons_of_mem _ (List.mem_append_left _ (List.mem_append_left _ (List.mem_append_right _ (h))))
  have J82 : ∀ (H : Heap) (locs : List Loc) (ls : Array Slot) (w1 : va_W), 1 ≤ f0_.toInt → f0_.toInt ≤ 3205 → Wd dC dI A s.heap H locs w1 → TW ksC ad cy B qr s1 w1 → FE ksC [(2, 3, 3), (22, 0, 13), (23, 0, 400)] w0 w1 → gi w1 1 4 = f0_ → lv_has ls 4 [(0, .ref (ad 3)), (1, .int (-1)), (2, .int 0)] → W p l e ({ frames := 3, cells := 0, slots := 0, locals := 54 }) s m (List.toArray [.ref (ad 3)]) below meth c H locs 0 0 (MQ below (va_Qv (P_X3_readSum_2 ad cy B qr s1  w0) (fun u : va_W => wpost dC dI cy A u) A) (List.toArray [.ref (ad 3)]) s 0 0 A) (F0 m 82 ls []) := by
    intro H locs ls w1 r2 t3 hw hT hF c4 hl
    refine lv_aload_n hx hb dX3_readSum_82 rfl (lv_at hl 0 rfl) ?_
    refine lv_iload_n hx hb dX3_readSum_83 rfl (lv_at hl 1 rfl) ?_
    refine tk_Vv hC hK hw hT hA hE hSR kC_at3 (by decide) rfl (k_X3_addWaiting_1 l adK adV dC dI cy ad B (by omega) (by omega) qr s1 hqr  ((-1)) w1 H.size hT ) (cwV 1 hC.2.2.2.2 gX3_readSum_X3_addWaiting rfl rfl rfl (by decide +kernel) ⟨Nat.le_of_ble_eq_true rfl, Nat.le_of_ble_eq_true rfl⟩) rfl hl.1 rfl (Nat.le_of_ble_eq_true rfl) dX3_readSum_84 (fun w7 H locs hp6 hw => ?_)
    obtain ⟨hT, k8, hg9⟩ := hp6
    have hF := hF.tr k8 (by decide)
    have c10 := k8.gi kC_at1 (by decide) c4
    clear hg9
    exact tk_vret hC hr hlocks hK ⟨hT, hF, ⟨f0_, c10, (show 1 ≤ f0_.toInt by omega), (show f0_.toInt ≤ 3205 by omega)⟩⟩ hw dX3_readSum_87
  have L8 : ∀ (H : Heap) (locs : List Loc) (ls : Array Slot) (w11 : va_W), 1 ≤ f0_.toInt → f0_.toInt ≤ 3205 → Wd dC dI A s.heap H locs w11 → TW ksC ad cy B qr s1 w11 → FE ksC [(2, 3, 3), (22, 0, 13), (23, 0, 400)] w0 w11 → gi w11 1 4 = f0_ → lv_has ls 4 [(0, .ref (ad 3)), (1, .int (-1)), (2, .int 0)] → W p l e ({ frames := 3, cells := 0, slots := 0, locals := 54 }) s m (List.toArray [.ref (ad 3)]) below meth c H locs 0 0 (MQ below (va_Qv (P_X3_readSum_2 ad cy B qr s1  w0) (fun u : va_W => wpost dC dI cy A u) A) (List.toArray [.ref (ad 3)]) s 0 0 A) (F0 m 8 ls []) := by
    intro H locs ls w11 r12 t13 hw hT hF c14 hl
    refine lv_iload_n hx hb dX3_readSum_8 rfl (lv_at hl 2 rfl) ?_
    refine lv_sipush (v := 400) hx hb dX3_readSum_9 (by decide) ?_
    refine lv_icmp_ge (tgt := 82) hx hb dX3_readSum_12 (by decide) (fun c => absurd c (by decide)) (fun _ => ?_)
    refine lv_aload_n hx hb dX3_readSum_15 rfl (lv_at hl 0 rfl) ?_
    refine tk_getA hC hK hw hT hinX3 kC_at3 (by decide) rfl 0 (by decide) (List.mem_of_getElem? (i := 1) rfl) rfl rfl dX3_readSum_16 ?_
    refine tk_Vi hC hK hw hT hA hE hSR kC_at1 (by decide) rfl (k_X6_isFaulty_3 l adK adV dC dI cy ad B (by omega) (by omega) qr s1    w11 H.size hT f0_ c14 (show 1 ≤ f0_.toInt by omega) (show f0_.toInt ≤ 3205 by omega)) (cwV 0 hC.2.2.2.2 gX3_readSum_X6_isFaulty rfl rfl rfl (by decide +kernel) ⟨Nat.le_of_ble_eq_true rfl, Nat.le_of_ble_eq_true rfl⟩) rfl hl.1 rfl (Nat.le_of_ble_eq_true rfl) dX3_readSum_19 (fun r15 w17 H locs hp16 hw => ?_)
    obtain ⟨hT, k18, hg21⟩ := hp16
    have hF := hF.tr k18 (by decide)
    have c22 := k18.gi kC_at1 (by decide) c14
    obtain ⟨rfl, ⟨x19, c20, rx19, tx19⟩⟩ := hg21
    have ex19 : x19.toInt = f0_.toInt := by rw [← c22.symm.trans c20]
    refine lv_if_ne (tgt := 82) hx hb dX3_readSum_22 (by decide) (fun _ => ?_) (fun c => absurd c (by decide))
    exact J82  H locs ls w17 (show 1 ≤ f0_.toInt by omega) (show f0_.toInt ≤ 3205 by omega)  hw hT hF c22 (lv_sub hl [0, 1, 2] rfl)
  refine lv_aload_n hx hb dX3_readSum_0 rfl (lv_at hl 0 rfl) ?_
  refine tk_Vv hC hK hw hT hA hE hSR kC_at3 (by decide) rfl (k_X3_readValue_2 l adK adV dC dI cy ad B (by omega) (by omega) qr s1 hqr   w0 s.heap.size hT f0_ cf0_ (show 1 ≤ f0_.toInt by omega) (show f0_.toInt ≤ 3205 by omega)) (cwV 0 hC.2.2.2.2 gX3_readSum_X3_readValue rfl rfl rfl (by decide +kernel) ⟨Nat.le_of_ble_eq_true rfl, Nat.le_of_ble_eq_true rfl⟩) rfl hl.1 rfl (Nat.le_of_ble_eq_true rfl) dX3_readSum_1 (fun w25 H locs hp24 hw => ?_)
  obtain ⟨hT, k26, hg29⟩ := hp24
  have hF := hF.tr k26 (by decide)
  have c30 := k26.gi kC_at1 (by decide) cf0_
  obtain ⟨x27, c28, rx27, tx27⟩ := hg29
  have ex27 : x27.toInt = f0_.toInt := by rw [← c30.symm.trans c28]
  refine lv_iconst (v := (-1)) hx hb dX3_readSum_4 (by decide) ?_
  refine lv_istore_n (lv' := [(1, .int (-1)), (0, .ref (ad 3))]) hx hb dX3_readSum_5 rfl hl (by decide) rfl (fun ls hl => ?_)
  refine lv_iconst (v := 0) hx hb dX3_readSum_6 (by decide) ?_
  refine lv_istore_n (lv' := [(2, .int 0), (1, .int (-1)), (0, .ref (ad 3))]) hx hb dX3_readSum_7 rfl hl (by decide) rfl (fun ls hl => ?_)
  exact L8  H locs ls w25 (show 1 ≤ f0_.toInt by omega) (show f0_.toInt ≤ 3205 by omega)  hw hT hF c30 (lv_sub hl [2, 1, 0] rfl)
abbrev P_X3_readValue_3 (ad : Nat → Nat) (cy : Nat → ClassId) (B : Int) (qr : Nat) (s1 : Int)  (w0 : va_W) : va_W → Prop := fun u => TW ksC ad cy B qr s1 u ∧ FE ksC [(2, 3, 3), (3, 2, 2), (6, 1, 1), (6, 3, 3), (6, 4, 4), (22, 0, 13), (23, 0, 400)] w0 u ∧ ((True) ∨ ((∃ y : Int32, gi u 1 4 = y ∧ 1 ≤ y.toInt ∧ y.toInt ≤ 3205)))
set_option maxHeartbeats 4000000 in
set_option maxRecDepth 100000 in
theorem k_X3_readValue_3 (l : Launch) (adK adV : Nat → Nat) (dC : Nat → ClassId) (dI : Nat → Nat → Nat) (cy : Nat → ClassId) (ad : Nat → Nat) (B : Int) (hB0 : 2147483648 ≤ B) (hB1 : B ≤ 1152921504606846976) (qr : Nat) (s1 : Int) (hqr : ksC[qr]? = some 2)  (w0 : va_W) (sz : Nat) (hT : TW ksC ad cy B qr s1 w0)  : Met l yX3_readValue wsX3_readValue ({ frames := 6, cells := 0, slots := 0, locals := 168 }) (va_Pc [.ref (ad 3)] (wpreS adK adV dC dI cy sz w0)) (va_Qv (P_X3_readValue_3 ad cy B qr s1  w0) (fun u : va_W => wpost dC dI cy (va_A w0 sz) u) (va_A w0 sz)) 0 0 (va_A w0 sz) := by
  refine Met.ofW (cc := cX3_readValue) (maxL := 1) (ret := none) (by decide) rfl ?_
  intro p e s m args below meth c s₁ Bk hml hv
  obtain ⟨rfl, ⟨hsz, hP, hK, hD0⟩, hE, hSR⟩ := hv
  have hx := Bk.exec
  have hb := Bk.bytes
  have hr := Bk.returns
  have hlocks := Bk.notSynchronized
  have hC : CallFix p m c cX3_readValue 1 s _ wsX3_readValue RX3 := ⟨hx, hb, hml, findClass_of_methodNamed Bk.named, atoms_spec (ws := wsX3_readValue) Bk.pre⟩
  subst hsz
  have hD := hD0.self (sz := s.heap.size)
  generalize hAe : va_A w0 s.heap.size = A at hD hE ⊢
  have hA : ∀ q : Nat, s.heap.size ≤ q → A q := fun q h => by rw [← hAe]; exact Or.inr h
  have hw : Wd dC dI A s.heap s.heap [] w0 := ⟨hP, hD, va_S.rf⟩
  have hF : FE ksC [(2, 3, 3), (3, 2, 2), (6, 1, 1), (6, 3, 3), (6, 4, 4), (22, 0, 13), (23, 0, 400)] w0 w0 := FE.rf
  have hl := lv_entry ([.ref (ad 3)]) (n := 1) (Nat.le_of_ble_eq_true rfl)
  rw [lg_entry_eq]
  generalize (lg_sl ([.ref (ad 3)]) ++ List.replicate (1 - (lg_sl ([.ref (ad 3)])).length) Slot.unset).toArray = ls at hl ⊢
  have hl : lv_has ls 1 [(0, .ref (ad 3))] := hl
  generalize hloc : ([] : List Loc) = locs at hw ⊢
  have hinX3 : ∀ w ∈ u_ws RX3 TX3 3, w ∈ wsX3_readValue := fun _ h => List.mem_cons_of_mem _ (List.mem_append_left _ (List.mem_append_left _ (List.mem_append_right _ (h))))
  have J63 : ∀ (f63_1_4 : Int32) (H : Heap) (locs : List Loc) (ls : Array Slot) (w1 : va_W), 0 ≤ f63_1_4.toInt → f63_1_4.toInt ≤ 3205 → Wd dC dI A s.heap H locs w1 → TW ksC ad cy B qr s1 w1 → FE ksC [(2, 3, 3), (3, 2, 2), (6, 1, 1), (6, 3, 3), (6, 4, 4), (22, 0, 13), (23, 0, 400)] w0 w1 → gi w1 1 4 = f63_1_4 → lv_has ls 1 [(0, .ref (ad 3))] → W p l e ({ frames := 6, cells := 0, slots := 0, locals := 168 }) s m (List.toArray [.ref (ad 3)]) below meth c H locs 0 0 (MQ below (va_Qv (P_X3_readValue_3 ad cy B qr s1  w0) (fun u : va_W => wpost dC dI cy A u) A) (List.toArray [.ref (ad 3)]) s 0 0 A) (F0 m 63 ls []) := by
    intro f63_1_4 H locs ls w1 r2 t3 hw hT hF c4 hl
    refine lv_aload_n hx hb dX3_readValue_63 rfl (lv_at hl 0 rfl) ?_
    refine tk_Vv hC hK hw hT hA hE hSR kC_at3 (by decide) rfl (k_X3_countItem_1 l adK adV dC dI cy ad B (by omega) (by omega) qr s1    w1 H.size hT ) (cwV 0 hC.2.2.2.2 gX3_readValue_X3_countItem rfl rfl rfl (by decide +kernel) ⟨Nat.le_of_ble_eq_true rfl, Nat.le_of_ble_eq_true rfl⟩) rfl hl.1 rfl (Nat.le_of_ble_eq_true rfl) dX3_readValue_64 (fun w7 H locs hp6 hw => ?_)
    obtain ⟨hT, k8, hg9⟩ := hp6
    have hF := hF.tr k8 (by decide)
    clear hg9
    exact tk_vret hC hr hlocks hK ⟨hT, hF, (Or.inl trivial)⟩ hw dX3_readValue_67
  refine lv_aload_n hx hb dX3_readValue_0 rfl (lv_at hl 0 rfl) ?_
  refine tk_getA hC hK hw hT hinX3 kC_at3 (by decide) rfl 0 (by decide) (List.mem_of_getElem? (i := 1) rfl) rfl rfl dX3_readValue_1 ?_
  refine tk_Vi hC hK hw hT hA hE hSR kC_at1 (by decide) rfl (k_X6_isFaulty_1 l adK adV dC dI cy ad B (by omega) (by omega) qr s1    w0 s.heap.size hT ) (cwV 0 hC.2.2.2.2 gX3_readValue_X6_isFaulty rfl rfl rfl (by decide +kernel) ⟨Nat.le_of_ble_eq_true rfl, Nat.le_of_ble_eq_true rfl⟩) rfl hl.1 rfl (Nat.le_of_ble_eq_true rfl) dX3_readValue_4 (fun r10 w12 H locs hp11 hw => ?_)
  obtain ⟨hT, k13, hg18⟩ := hp11
  have hF := hF.tr k13 (by decide)
  rcases hg18 with ⟨rfl, ⟨x14, c15, rx14, tx14⟩⟩ | ⟨rfl, ⟨x16, c17, rx16, tx16⟩⟩
  · refine lv_if_eq (tgt := 11) hx hb dX3_readValue_7 (by decide) (fun _ => ?_) (fun c => absurd (by decide) c)
    refine lv_aload_n hx hb dX3_readValue_11 rfl (lv_at hl 0 rfl) ?_
    refine tk_getA hC hK hw hT hinX3 kC_at3 (by decide) rfl 0 (by decide) (List.mem_of_getElem? (i := 1) rfl) rfl rfl dX3_readValue_12 ?_
    refine tk_Vi hC hK hw hT hA hE hSR kC_at1 (by decide) rfl (k_X6_lookBehindBlanks_1 l adK adV dC dI cy ad B (by omega) (by omega) qr s1    w12 H.size hT ) (cwV 0 hC.2.2.2.2 gX3_readValue_X6_lookBehindBlanks rfl rfl rfl (by decide +kernel) ⟨Nat.le_of_ble_eq_true rfl, Nat.le_of_ble_eq_true rfl⟩) rfl hl.1 rfl (Nat.le_of_ble_eq_true rfl) dX3_readValue_15 (fun r19 w21 H locs hp20 hw => ?_)
    obtain ⟨hT, k22, hg31⟩ := hp20
    have hF := hF.tr k22 (by decide)
    have c32 := k22.gi kC_at1 (by decide) c15
    rcases hg31 with ⟨g23, g24, ⟨x25, c26, rx25, tx25⟩, ⟨x27, c28, rx27, tx27⟩, ⟨x29, c30, rx29, tx29⟩⟩ | rfl
    · refine tk_Si hC hK hw hT hA hE hSR (k_X6_isDigit_1 l adK adV dC dI cy ad B (by omega) (by omega) qr s1   r19 (show 0 ≤ r19.toInt by omega) (show r19.toInt ≤ 255 by omega) w21 H.size hT ) (va_cwS 1 hC.2.2.2.2 gX3_readValue_X6_isDigit rfl rfl rfl (by decide +kernel) ⟨Nat.le_of_ble_eq_true rfl, Nat.le_of_ble_eq_true rfl⟩) rfl hl.1 rfl (Nat.le_of_ble_eq_true rfl) dX3_readValue_18 (fun r33 w35 H locs hp34 hw => ?_)
      obtain ⟨hT, k36, hg39⟩ := hp34
      have hF := hF.tr k36 (by decide)
      have c40 := k36.gi kC_at1 (by decide) c32
      have c41 := k36.gi kC_at1 (by decide) c26
      have c42 := k36.gi kC_at1 (by decide) c28
      have c43 := k36.gi kC_at1 (by decide) c30
      rcases hg39 with rfl | ⟨rfl, g37, g38⟩
      · refine lv_if_eq (tgt := 47) hx hb dX3_readValue_21 (by decide) (fun _ => ?_) (fun c => absurd (by decide) c)
        refine lv_aload_n hx hb dX3_readValue_47 rfl (lv_at hl 0 rfl) ?_
        refine tk_getQ hC hK hw hT hqr (by decide) hinX3 kC_at3 (by decide) rfl 1 (by decide) (List.mem_of_getElem? (i := 2) rfl) rfl rfl dX3_readValue_48 ?_
        refine lv_aload_n hx hb dX3_readValue_51 rfl (lv_at hl 0 rfl) ?_
        refine tk_getA hC hK hw hT hinX3 kC_at3 (by decide) rfl 0 (by decide) (List.mem_of_getElem? (i := 1) rfl) rfl rfl dX3_readValue_52 ?_
        refine va_ldcS hx hb hC.2.2.2.1 hSR.2.2.2.2.2.1 dX3_readValue_55 ?_
        refine tk_Vi hC hK hw hT hA hE hSR kC_at1 (by decide) rfl (k_X6_readWord_1 l adK adV dC dI cy ad B (by omega) (by omega) qr s1    w35 H.size hT (c40.trans (wk_eq.mpr (show x14.toInt = 0 by omega)))) (cwV 1 hC.2.2.2.2 gX3_readValue_X6_readWord rfl rfl rfl (by decide +kernel) ⟨Nat.le_of_ble_eq_true rfl, Nat.le_of_ble_eq_true rfl⟩) rfl hl.1 rfl (Nat.le_of_ble_eq_true rfl) dX3_readValue_57 (fun r44 w46 H locs hp45 hw => ?_)
        obtain ⟨hT, k47, hg54⟩ := hp45
        have hF := hF.tr k47 (by decide)
        have c55 := k47.gi kC_at1 (by decide) c42
        rcases hg54 with ⟨g48, g49, ⟨x50, c51, rx50, tx50⟩⟩ | ⟨rfl, ⟨x52, c53, rx52, tx52⟩⟩
        · refine tk_Vv hC hK hw hT hA hE hSR hqr (by decide) rfl (k_X2_addToken_1 l adK adV dC dI cy ad B (by omega) (by omega) qr s1   qr hqr r44 w46 H.size hT ) (cwV 1 hC.2.2.2.2 gX3_readValue_X2_addToken rfl rfl rfl (by decide +kernel) ⟨Nat.le_of_ble_eq_true rfl, Nat.le_of_ble_eq_true rfl⟩) rfl hl.1 rfl (Nat.le_of_ble_eq_true rfl) dX3_readValue_60 (fun w58 H locs hp57 hw => ?_)
          obtain ⟨hT, k59, hg62⟩ := hp57
          have hF := hF.tr k59 (by decide)
          have c63 := k59.gi kC_at1 (by decide) c55
          have c64 := k59.gi kC_at1 (by decide) c51
          obtain ⟨x60, c61, rx60, tx60⟩ := hg62
          exact J63 x50 H locs ls w58 (show 0 ≤ x50.toInt by omega) (show x50.toInt ≤ 3205 by omega)  hw hT hF c64 (lv_sub hl [0] rfl)
        · refine tk_Vv hC hK hw hT hA hE hSR hqr (by decide) rfl (k_X2_addToken_1 l adK adV dC dI cy ad B (by omega) (by omega) qr s1   qr hqr ((-1)) w46 H.size hT ) (cwV 1 hC.2.2.2.2 gX3_readValue_X2_addToken rfl rfl rfl (by decide +kernel) ⟨Nat.le_of_ble_eq_true rfl, Nat.le_of_ble_eq_true rfl⟩) rfl hl.1 rfl (Nat.le_of_ble_eq_true rfl) dX3_readValue_60 (fun w67 H locs hp66 hw => ?_)
          obtain ⟨hT, k68, hg71⟩ := hp66
          have hF := hF.tr k68 (by decide)
          have c72 := k68.gi kC_at1 (by decide) c55
          have c73 := k68.gi kC_at1 (by decide) c53
          obtain ⟨x69, c70, rx69, tx69⟩ := hg71
          exact J63 x52 H locs ls w67 (show 0 ≤ x52.toInt by omega) (show x52.toInt ≤ 3205 by omega)  hw hT hF c73 (lv_sub hl [0] rfl)
      · refine lv_if_eq (tgt := 47) hx hb dX3_readValue_21 (by decide) (fun c => absurd c (by decide)) (fun _ => ?_)
        refine lv_aload_n hx hb dX3_readValue_24 rfl (lv_at hl 0 rfl) ?_
        refine tk_getQ hC hK hw hT hqr (by decide) hinX3 kC_at3 (by decide) rfl 1 (by decide) (List.mem_of_getElem? (i := 2) rfl) rfl rfl dX3_readValue_25 ?_
        refine lv_bipush (v := 32) hx hb dX3_readValue_28 (by decide) ?_
        refine lv_aload_n hx hb dX3_readValue_30 rfl (lv_at hl 0 rfl) ?_
        refine tk_getA hC hK hw hT hinX3 kC_at3 (by decide) rfl 0 (by decide) (List.mem_of_getElem? (i := 1) rfl) rfl rfl dX3_readValue_31 ?_
        refine lv_iconst (v := 0) hx hb dX3_readValue_34 (by decide) ?_
        refine lv_ldc (v := 99999) hx hb hC.2.2.2.1 (hC.2.2.2.2 _ (List.mem_of_getElem? (i := 3) rfl)) dX3_readValue_35 ?_
        refine tk_Vi hC hK hw hT hA hE hSR kC_at1 (by decide) rfl (k_X6_readNumber_1 l adK adV dC dI cy ad B (by omega) (by omega) qr s1    w35 H.size hT (c40.trans (wk_eq.mpr (show x14.toInt = 0 by omega)))) (cwV 2 hC.2.2.2.2 gX3_readValue_X6_readNumber rfl rfl rfl (by decide +kernel) ⟨Nat.le_of_ble_eq_true rfl, Nat.le_of_ble_eq_true rfl⟩) rfl hl.1 rfl (Nat.le_of_ble_eq_true rfl) dX3_readValue_37 (fun r74 w76 H locs hp75 hw => ?_)
        obtain ⟨hT, k77, hg88⟩ := hp75
        have hF := hF.tr k77 (by decide)
        have c89 := k77.gi kC_at1 (by decide) c42
        rcases hg88 with ⟨g78, g79, ⟨x80, c81, rx80, tx80⟩, ⟨x82, c83, rx82, tx82⟩, ⟨x84, c85, rx84, tx84⟩⟩ | ⟨rfl, ⟨x86, c87, rx86, tx86⟩⟩
        · have ex80 : x80.toInt = x27.toInt := by rw [← c89.symm.trans c81]
          refine lv_iadd hx hb dX3_readValue_40 ?_
          refine lv_topi (fun x90 ex90 => ?_)
          have ex90 : x90.toInt = (32 : Int) + r74.toInt := by rw [ex90]; exact wk_add (show (-2147483648) ≤ (32 : Int) + r74.toInt by omega) (show (32 : Int) + r74.toInt ≤ 2147483647 by omega)
          refine tk_Vv hC hK hw hT hA hE hSR hqr (by decide) rfl (k_X2_addToken_1 l adK adV dC dI cy ad B (by omega) (by omega) qr s1   qr hqr x90 w76 H.size hT ) (cwV 1 hC.2.2.2.2 gX3_readValue_X2_addToken rfl rfl rfl (by decide +kernel) ⟨Nat.le_of_ble_eq_true rfl, Nat.le_of_ble_eq_true rfl⟩) rfl hl.1 rfl (Nat.le_of_ble_eq_true rfl) dX3_readValue_41 (fun w93 H locs hp92 hw => ?_)
          obtain ⟨hT, k94, hg97⟩ := hp92
          have hF := hF.tr k94 (by decide)
          have c98 := k94.gi kC_at1 (by decide) c89
          have c99 := k94.gi kC_at1 (by decide) c83
          have c100 := k94.gi kC_at1 (by decide) c85
          obtain ⟨x95, c96, rx95, tx95⟩ := hg97
          refine lv_goto (tgt := 63) hx hb dX3_readValue_44 (by decide) ?_
          exact J63 x84 H locs ls w93 (show 0 ≤ x84.toInt by omega) (show x84.toInt ≤ 3205 by omega)  hw hT hF c100 (lv_sub hl [0] rfl)
        · refine lv_iadd hx hb dX3_readValue_40 ?_
          refine wk_top 31 (by decide) ?_
          refine tk_Vv hC hK hw hT hA hE hSR hqr (by decide) rfl (k_X2_addToken_1 l adK adV dC dI cy ad B (by omega) (by omega) qr s1   qr hqr 31 w76 H.size hT ) (cwV 1 hC.2.2.2.2 gX3_readValue_X2_addToken rfl rfl rfl (by decide +kernel) ⟨Nat.le_of_ble_eq_true rfl, Nat.le_of_ble_eq_true rfl⟩) rfl hl.1 rfl (Nat.le_of_ble_eq_true rfl) dX3_readValue_41 (fun w103 H locs hp102 hw => ?_)
          obtain ⟨hT, k104, hg107⟩ := hp102
          have hF := hF.tr k104 (by decide)
          have c108 := k104.gi kC_at1 (by decide) c89
          have c109 := k104.gi kC_at1 (by decide) c87
          obtain ⟨x105, c106, rx105, tx105⟩ := hg107
          refine lv_goto (tgt := 63) hx hb dX3_readValue_44 (by decide) ?_
          exact J63 x86 H locs ls w103 (show 0 ≤ x86.toInt by omega) (show x86.toInt ≤ 3205 by omega)  hw hT hF c109 (lv_sub hl [0] rfl)
    · refine tk_Si hC hK hw hT hA hE hSR (k_X6_isDigit_2 l adK adV dC dI cy ad B (by omega) (by omega) qr s1    w21 H.size hT ) (va_cwS 1 hC.2.2.2.2 gX3_readValue_X6_isDigit rfl rfl rfl (by decide +kernel) ⟨Nat.le_of_ble_eq_true rfl, Nat.le_of_ble_eq_true rfl⟩) rfl hl.1 rfl (Nat.le_of_ble_eq_true rfl) dX3_readValue_18 (fun r110 w112 H locs hp111 hw => ?_)
      obtain ⟨hT, k113, hg114⟩ := hp111
      have hF := hF.tr k113 (by decide)
      have c115 := k113.gi kC_at1 (by decide) c32
      obtain rfl := hg114
      refine lv_if_eq (tgt := 47) hx hb dX3_readValue_21 (by decide) (fun _ => ?_) (fun c => absurd (by decide) c)
      refine lv_aload_n hx hb dX3_readValue_47 rfl (lv_at hl 0 rfl) ?_
      refine tk_getQ hC hK hw hT hqr (by decide) hinX3 kC_at3 (by decide) rfl 1 (by decide) (List.mem_of_getElem? (i := 2) rfl) rfl rfl dX3_readValue_48 ?_
      refine lv_aload_n hx hb dX3_readValue_51 rfl (lv_at hl 0 rfl) ?_
      refine tk_getA hC hK hw hT hinX3 kC_at3 (by decide) rfl 0 (by decide) (List.mem_of_getElem? (i := 1) rfl) rfl rfl dX3_readValue_52 ?_
      refine va_ldcS hx hb hC.2.2.2.1 hSR.2.2.2.2.2.1 dX3_readValue_55 ?_
      refine tk_Vi hC hK hw hT hA hE hSR kC_at1 (by decide) rfl (k_X6_readWord_1 l adK adV dC dI cy ad B (by omega) (by omega) qr s1    w112 H.size hT (c115.trans (wk_eq.mpr (show x14.toInt = 0 by omega)))) (cwV 1 hC.2.2.2.2 gX3_readValue_X6_readWord rfl rfl rfl (by decide +kernel) ⟨Nat.le_of_ble_eq_true rfl, Nat.le_of_ble_eq_true rfl⟩) rfl hl.1 rfl (Nat.le_of_ble_eq_true rfl) dX3_readValue_57 (fun r116 w118 H locs hp117 hw => ?_)
      obtain ⟨hT, k119, hg126⟩ := hp117
      have hF := hF.tr k119 (by decide)
      rcases hg126 with ⟨g120, g121, ⟨x122, c123, rx122, tx122⟩⟩ | ⟨rfl, ⟨x124, c125, rx124, tx124⟩⟩
      · refine tk_Vv hC hK hw hT hA hE hSR hqr (by decide) rfl (k_X2_addToken_1 l adK adV dC dI cy ad B (by omega) (by omega) qr s1   qr hqr r116 w118 H.size hT ) (cwV 1 hC.2.2.2.2 gX3_readValue_X2_addToken rfl rfl rfl (by decide +kernel) ⟨Nat.le_of_ble_eq_true rfl, Nat.le_of_ble_eq_true rfl⟩) rfl hl.1 rfl (Nat.le_of_ble_eq_true rfl) dX3_readValue_60 (fun w129 H locs hp128 hw => ?_)
        obtain ⟨hT, k130, hg133⟩ := hp128
        have hF := hF.tr k130 (by decide)
        have c134 := k130.gi kC_at1 (by decide) c123
        obtain ⟨x131, c132, rx131, tx131⟩ := hg133
        exact J63 x122 H locs ls w129 (show 0 ≤ x122.toInt by omega) (show x122.toInt ≤ 3205 by omega)  hw hT hF c134 (lv_sub hl [0] rfl)
      · refine tk_Vv hC hK hw hT hA hE hSR hqr (by decide) rfl (k_X2_addToken_1 l adK adV dC dI cy ad B (by omega) (by omega) qr s1   qr hqr ((-1)) w118 H.size hT ) (cwV 1 hC.2.2.2.2 gX3_readValue_X2_addToken rfl rfl rfl (by decide +kernel) ⟨Nat.le_of_ble_eq_true rfl, Nat.le_of_ble_eq_true rfl⟩) rfl hl.1 rfl (Nat.le_of_ble_eq_true rfl) dX3_readValue_60 (fun w137 H locs hp136 hw => ?_)
        obtain ⟨hT, k138, hg141⟩ := hp136
        have hF := hF.tr k138 (by decide)
        have c142 := k138.gi kC_at1 (by decide) c125
        obtain ⟨x139, c140, rx139, tx139⟩ := hg141
        exact J63 x124 H locs ls w137 (show 0 ≤ x124.toInt by omega) (show x124.toInt ≤ 3205 by omega)  hw hT hF c142 (lv_sub hl [0] rfl)
  · refine lv_if_eq (tgt := 11) hx hb dX3_readValue_7 (by decide) (fun c => absurd c (by decide)) (fun _ => ?_)
    exact tk_vret hC hr hlocks hK ⟨hT, hF, (Or.inr ⟨x16, c17, (show 1 ≤ x16.toInt by omega), (show x16.toInt ≤ 3205 by omega)⟩)⟩ hw dX3_readValue_10
abbrev P_X3_readSum_3 (ad : Nat → Nat) (cy : Nat → ClassId) (B : Int) (qr : Nat) (s1 : Int)  (w0 : va_W) : va_W → Prop := fun u => TW ksC ad cy B qr s1 u ∧ FE ksC [(2, 3, 3), (3, 2, 2), (6, 1, 1), (6, 3, 3), (6, 4, 4), (22, 0, 13), (23, 0, 400)] w0 u ∧ ((True))
set_option maxHeartbeats 4000000 in
set_option maxRecDepth 100000 in
theorem k_X3_readSum_3 (l : Launch) (adK adV : Nat → Nat) (dC : Nat → ClassId) (dI : Nat → Nat → Nat) (cy : Nat → ClassId) (ad : Nat → Nat) (B : Int) (hB0 : 2147483648 ≤ B) (hB1 : B ≤ 1152921504606846976) (qr : Nat) (s1 : Int) (hqr : ksC[qr]? = some 2)  (w0 : va_W) (sz : Nat) (hT : TW ksC ad cy B qr s1 w0)  : Met l yX3_readSum wsX3_readSum ({ frames := 7, cells := 0, slots := 0, locals := 188 }) (va_Pc [.ref (ad 3)] (wpreS adK adV dC dI cy sz w0)) (va_Qv (P_X3_readSum_3 ad cy B qr s1  w0) (fun u : va_W => wpost dC dI cy (va_A w0 sz) u) (va_A w0 sz)) 0 0 (va_A w0 sz) := by
  refine Met.ofW (cc := cX3_readSum) (maxL := 4) (ret := none) (by decide) rfl ?_
  intro p e s m args below meth c s₁ Bk hml hv
  obtain ⟨rfl, ⟨hsz, hP, hK, hD0⟩, hE, hSR⟩ := hv
  have hx := Bk.exec
  have hb := Bk.bytes
  have hr := Bk.returns
  have hlocks := Bk.notSynchronized
  have hC : CallFix p m c cX3_readSum 4 s _ wsX3_readSum RX3 := ⟨hx, hb, hml, findClass_of_methodNamed Bk.named, atoms_spec (ws := wsX3_readSum) Bk.pre⟩
  subst hsz
  have hD := hD0.self (sz := s.heap.size)
  generalize hAe : va_A w0 s.heap.size = A at hD hE ⊢
  have hA : ∀ q : Nat, s.heap.size ≤ q → A q := fun q h => by rw [← hAe]; exact Or.inr h
  have hw : Wd dC dI A s.heap s.heap [] w0 := ⟨hP, hD, va_S.rf⟩
  have hF : FE ksC [(2, 3, 3), (3, 2, 2), (6, 1, 1), (6, 3, 3), (6, 4, 4), (22, 0, 13), (23, 0, 400)] w0 w0 := FE.rf
  have hl := lv_entry ([.ref (ad 3)]) (n := 4) (Nat.le_of_ble_eq_true rfl)
  rw [lg_entry_eq]
  generalize (lg_sl ([.ref (ad 3)]) ++ List.replicate (4 - (lg_sl ([.ref (ad 3)])).length) Slot.unset).toArray = ls at hl ⊢
  have hl : lv_has ls 4 [(0, .ref (ad 3))] := hl
  generalize hloc : ([] : List Loc) = locs at hw ⊢
  have hinX3 : ∀ w ∈ u_ws RX3 TX3 3, w ∈ wsX3_readSum := fun _ h => List.mem_cons_of_mem _ (List.mem_append_left _ (List.mem_append_left _ (List.mem_append_right _ (h))))
  have J82 : ∀ (v82_1 : Int32) (v82_2 : Int32) (H : Heap) (locs : List Loc) (ls : Array Slot) (w1 : va_W), (-1) ≤ v82_1.toInt → v82_1.toInt ≤ 12 → 0 ≤ v82_2.toInt → v82_2.toInt ≤ 400 → Wd dC dI A s.heap H locs w1 → TW ksC ad cy B qr s1 w1 → FE ksC [(2, 3, 3), (3, 2, 2), (6, 1, 1), (6, 3, 3), (6, 4, 4), (22, 0, 13), (23, 0, 400)] w0 w1 → lv_has ls 4 [(0, .ref (ad 3)), (1, .int v82_1), (2, .int v82_2)] → W p l e ({ frames := 7, cells := 0, slots := 0, locals := 188 }) s m (List.toArray [.ref (ad 3)]) below meth c H locs 0 0 (MQ below (va_Qv (P_X3_readSum_3 ad cy B qr s1  w0) (fun u : va_W => wpost dC dI cy A u) A) (List.toArray [.ref (ad 3)]) s 0 0 A) (F0 m 82 ls []) := by
    intro v82_1 v82_2 H locs ls w1 r2 t3 r4 t5 hw hT hF hl
    refine lv_aload_n hx hb dX3_readSum_82 rfl (lv_at hl 0 rfl) ?_
    refine lv_iload_n hx hb dX3_readSum_83 rfl (lv_at hl 1 rfl) ?_
    refine tk_Vv hC hK hw hT hA hE hSR kC_at3 (by decide) rfl (k_X3_addWaiting_1 l adK adV dC dI cy ad B (by omega) (by omega) qr s1 hqr  v82_1 w1 H.size hT ) (cwV 1 hC.2.2.2.2 gX3_readSum_X3_addWaiting rfl rfl rfl (by decide +kernel) ⟨Nat.le_of_ble_eq_true rfl, Nat.le_of_ble_eq_true rfl⟩) rfl hl.1 rfl (Nat.le_of_ble_eq_true rfl) dX3_readSum_84 (fun w8 H locs hp7 hw => ?_)
    obtain ⟨hT, k9, hg10⟩ := hp7
    have hF := hF.tr k9 (by decide)
    clear hg10
    exact tk_vret hC hr hlocks hK ⟨hT, hF, trivial⟩ hw dX3_readSum_87
  have L8 : ∀ (n8 : Nat) (v8_1 : Int32) (v8_2 : Int32) (H : Heap) (locs : List Loc) (ls : Array Slot) (w11 : va_W), (-1) ≤ v8_1.toInt → v8_1.toInt ≤ 12 → 0 ≤ v8_2.toInt → v8_2.toInt ≤ 400 → (400 - v8_2.toInt).toNat < n8 → Wd dC dI A s.heap H locs w11 → TW ksC ad cy B qr s1 w11 → FE ksC [(2, 3, 3), (3, 2, 2), (6, 1, 1), (6, 3, 3), (6, 4, 4), (22, 0, 13), (23, 0, 400)] w0 w11 → lv_has ls 4 [(0, .ref (ad 3)), (1, .int v8_1), (2, .int v8_2)] → W p l e ({ frames := 7, cells := 0, slots := 0, locals := 188 }) s m (List.toArray [.ref (ad 3)]) below meth c H locs 0 0 (MQ below (va_Qv (P_X3_readSum_3 ad cy B qr s1  w0) (fun u : va_W => wpost dC dI cy A u) A) (List.toArray [.ref (ad 3)]) s 0 0 A) (F0 m 8 ls []) := by
    intro n8
    induction n8 with
    | zero => intro v8_1 v8_2 H locs ls w11 r12 t13 r14 t15 hm8 hw hT hF hl; omega
    | succ n8 ih8 =>
      intro v8_1 v8_2 H locs ls w11 r12 t13 r14 t15 hm8 hw hT hF hl
      have J76 : ∀ (v76_1 : Int32) (v76_3 : Int32) (f76_1_2 : Int32) (H : Heap) (locs : List Loc) (ls : Array Slot) (w16 : va_W), (-1) ≤ v76_1.toInt → v76_1.toInt ≤ 12 → 0 ≤ v8_2.toInt → v8_2.toInt ≤ 399 → 10 ≤ v76_3.toInt → v76_3.toInt ≤ 13 → 1 ≤ f76_1_2.toInt → f76_1_2.toInt ≤ 400 → Wd dC dI A s.heap H locs w16 → TW ksC ad cy B qr s1 w16 → FE ksC [(2, 3, 3), (3, 2, 2), (6, 1, 1), (6, 3, 3), (6, 4, 4), (22, 0, 13), (23, 0, 400)] w0 w16 → gi w16 1 2 = f76_1_2 → lv_has ls 4 [(0, .ref (ad 3)), (1, .int v76_1), (2, .int v8_2), (3, .int v76_3)] → W p l e ({ frames := 7, cells := 0, slots := 0, locals := 188 }) s m (List.toArray [.ref (ad 3)]) below meth c H locs 0 0 (MQ below (va_Qv (P_X3_readSum_3 ad cy B qr s1  w0) (fun u : va_W => wpost dC dI cy A u) A) (List.toArray [.ref (ad 3)]) s 0 0 A) (F0 m 76 ls []) := by
        intro v76_1 v76_3 f76_1_2 H locs ls w16 r17 t18 r19 t20 r21 t22 r23 t24 hw hT hF c25 hl
        obtain ⟨x26, ex26⟩ : ∃ y : Int32, y = v8_2 + Int32.ofInt 1 := ⟨_, rfl⟩
        refine lv_iinc (v := x26) (lv' := [(2, .int x26), (0, .ref (ad 3)), (1, .int v76_1), (3, .int v76_3)]) hx hb dX3_readSum_76 hl (k := 2) rfl ex26.symm (by decide) rfl (fun ls hl => ?_)
        have ex26 : x26.toInt = v8_2.toInt + 1 := by rw [ex26]; exact wk_add (y := 1) (show -2147483648 ≤ v8_2.toInt + 1 by omega) (show v8_2.toInt + 1 ≤ 2147483647 by omega)
        refine lv_goto (tgt := 8) hx hb dX3_readSum_79 (by decide) ?_
        exact ih8 v76_1 x26 H locs ls w16 (show (-1) ≤ v76_1.toInt by omega) (show v76_1.toInt ≤ 12 by omega) (show 0 ≤ x26.toInt by omega) (show x26.toInt ≤ 400 by omega) (show (400 - x26.toInt).toNat < n8 by omega) hw hT hF  (lv_sub hl [1, 2, 0] rfl)
      have J50 : ∀ (v50_3 : Int32) (f50_1_2 : Int32) (f50_1_3 : Int32) (H : Heap) (locs : List Loc) (ls : Array Slot) (w27 : va_W), (-1) ≤ v8_1.toInt → v8_1.toInt ≤ 12 → 0 ≤ v8_2.toInt → v8_2.toInt ≤ 399 → 12 ≤ v50_3.toInt → v50_3.toInt ≤ 13 → 1 ≤ f50_1_2.toInt → f50_1_2.toInt ≤ 400 → 0 ≤ f50_1_3.toInt → f50_1_3.toInt ≤ 399 → Wd dC dI A s.heap H locs w27 → TW ksC ad cy B qr s1 w27 → FE ksC [(2, 3, 3), (3, 2, 2), (6, 1, 1), (6, 3, 3), (6, 4, 4), (22, 0, 13), (23, 0, 400)] w0 w27 → gi w27 1 2 = f50_1_2 → gi w27 1 3 = f50_1_3 → gi w27 1 4 = 0 → lv_has ls 4 [(0, .ref (ad 3)), (1, .int v8_1), (2, .int v8_2), (3, .int v50_3)] → W p l e ({ frames := 7, cells := 0, slots := 0, locals := 188 }) s m (List.toArray [.ref (ad 3)]) below meth c H locs 0 0 (MQ below (va_Qv (P_X3_readSum_3 ad cy B qr s1  w0) (fun u : va_W => wpost dC dI cy A u) A) (List.toArray [.ref (ad 3)]) s 0 0 A) (F0 m 50 ls []) := by
        intro v50_3 f50_1_2 f50_1_3 H locs ls w27 r28 t29 r30 t31 r32 t33 r34 t35 r37 t38 hw hT hF c36 c39 c40 hl
        refine lv_aload_n hx hb dX3_readSum_50 rfl (lv_at hl 0 rfl) ?_
        refine tk_Vv hC hK hw hT hA hE hSR kC_at3 (by decide) rfl (k_X3_readValue_1 l adK adV dC dI cy ad B (by omega) (by omega) qr s1 hqr   w27 H.size hT c40) (cwV 0 hC.2.2.2.2 gX3_readSum_X3_readValue rfl rfl rfl (by decide +kernel) ⟨Nat.le_of_ble_eq_true rfl, Nat.le_of_ble_eq_true rfl⟩) rfl hl.1 rfl (Nat.le_of_ble_eq_true rfl) dX3_readSum_51 (fun w43 H locs hp42 hw => ?_)
        obtain ⟨hT, k44, hg45⟩ := hp42
        have hF := hF.tr k44 (by decide)
        have c46 := k44.gi kC_at1 (by decide) c36
        clear hg45
        refine lv_aload_n hx hb dX3_readSum_54 rfl (lv_at hl 0 rfl) ?_
        refine tk_getQ hC hK hw hT hqr (by decide) hinX3 kC_at3 (by decide) rfl 1 (by decide) (List.mem_of_getElem? (i := 2) rfl) rfl rfl dX3_readSum_55 ?_
        refine lv_iload_n hx hb dX3_readSum_58 rfl (lv_at hl 3 rfl) ?_
        refine tk_Vv hC hK hw hT hA hE hSR hqr (by decide) rfl (k_X2_addToken_1 l adK adV dC dI cy ad B (by omega) (by omega) qr s1   qr hqr v50_3 w43 H.size hT ) (cwV 1 hC.2.2.2.2 gX3_readSum_X2_addToken rfl rfl rfl (by decide +kernel) ⟨Nat.le_of_ble_eq_true rfl, Nat.le_of_ble_eq_true rfl⟩) rfl hl.1 rfl (Nat.le_of_ble_eq_true rfl) dX3_readSum_59 (fun w49 H locs hp48 hw => ?_)
        obtain ⟨hT, k50, hg53⟩ := hp48
        have hF := hF.tr k50 (by decide)
        have c54 := k50.gi kC_at1 (by decide) c46
        obtain ⟨x51, c52, rx51, tx51⟩ := hg53
        refine lv_goto (tgt := 76) hx hb dX3_readSum_62 (by decide) ?_
        exact J76 v8_1 v50_3 f50_1_2 H locs ls w49 (show (-1) ≤ v8_1.toInt by omega) (show v8_1.toInt ≤ 12 by omega) (show 0 ≤ v8_2.toInt by omega) (show v8_2.toInt ≤ 399 by omega) (show 10 ≤ v50_3.toInt by omega) (show v50_3.toInt ≤ 13 by omega) (show 1 ≤ f50_1_2.toInt by omega) (show f50_1_2.toInt ≤ 400 by omega)  hw hT hF c54 (lv_sub hl [0, 1, 2, 3] rfl)
      refine lv_iload_n hx hb dX3_readSum_8 rfl (lv_at hl 2 rfl) ?_
      refine lv_sipush (v := 400) hx hb dX3_readSum_9 (by decide) ?_
      refine lv_icmp_ge (tgt := 82) hx hb dX3_readSum_12 (by decide) (fun c55 => ?_) (fun c55 => ?_)
      · have c55 : (400 : Int) ≤ v8_2.toInt := wk_le.mp c55
        exact J82 v8_1 v8_2 H locs ls w11 (show (-1) ≤ v8_1.toInt by omega) (show v8_1.toInt ≤ 12 by omega) (show 0 ≤ v8_2.toInt by omega) (show v8_2.toInt ≤ 400 by omega)  hw hT hF  (lv_sub hl [0, 1, 2] rfl)
      · have c55 : v8_2.toInt < (400 : Int) := wk_leF c55
        refine lv_aload_n hx hb dX3_readSum_15 rfl (lv_at hl 0 rfl) ?_
        refine tk_getA hC hK hw hT hinX3 kC_at3 (by decide) rfl 0 (by decide) (List.mem_of_getElem? (i := 1) rfl) rfl rfl dX3_readSum_16 ?_
        refine tk_Vi hC hK hw hT hA hE hSR kC_at1 (by decide) rfl (k_X6_isFaulty_1 l adK adV dC dI cy ad B (by omega) (by omega) qr s1    w11 H.size hT ) (cwV 0 hC.2.2.2.2 gX3_readSum_X6_isFaulty rfl rfl rfl (by decide +kernel) ⟨Nat.le_of_ble_eq_true rfl, Nat.le_of_ble_eq_true rfl⟩) rfl hl.1 rfl (Nat.le_of_ble_eq_true rfl) dX3_readSum_19 (fun r56 w58 H locs hp57 hw => ?_)
        obtain ⟨hT, k59, hg64⟩ := hp57
        have hF := hF.tr k59 (by decide)
        rcases hg64 with ⟨rfl, ⟨x60, c61, rx60, tx60⟩⟩ | ⟨rfl, ⟨x62, c63, rx62, tx62⟩⟩
        · refine lv_if_ne (tgt := 82) hx hb dX3_readSum_22 (by decide) (fun c => absurd (by decide) c) (fun _ => ?_)
          refine lv_aload_n hx hb dX3_readSum_25 rfl (lv_at hl 0 rfl) ?_
          refine tk_Vi hC hK hw hT hA hE hSR kC_at3 (by decide) rfl (k_X3_takeOperator_1 l adK adV dC dI cy ad B (by omega) (by omega) qr s1    w58 H.size hT ) (cwV 0 hC.2.2.2.2 gX3_readSum_X3_takeOperator rfl rfl rfl (by decide +kernel) ⟨Nat.le_of_ble_eq_true rfl, Nat.le_of_ble_eq_true rfl⟩) rfl hl.1 rfl (Nat.le_of_ble_eq_true rfl) dX3_readSum_26 (fun r65 w67 H locs hp66 hw => ?_)
          obtain ⟨hT, k68, hg75⟩ := hp66
          have hF := hF.tr k68 (by decide)
          have c76 := k68.gi kC_at1 (by decide) c61
          rcases hg75 with ⟨g69, g70, ⟨x71, c72, rx71, tx71⟩, ⟨x73, c74, rx73, tx73⟩⟩ | rfl
          · refine lv_istore_n (lv' := [(3, .int r65), (0, .ref (ad 3)), (1, .int v8_1), (2, .int v8_2)]) hx hb dX3_readSum_29 rfl hl (by decide) rfl (fun ls hl => ?_)
            refine lv_iload_n hx hb dX3_readSum_30 rfl (lv_at hl 0 rfl) ?_
            refine lv_iconst (v := (-1)) hx hb dX3_readSum_31 (by decide) ?_
            refine lv_icmp_ne (tgt := 38) hx hb dX3_readSum_32 (by decide) (fun _ => ?_) (fun c => absurd (show r65.toInt = (-1 : Int) from wk_eq.mp c) (by omega))
            refine lv_iload_n hx hb dX3_readSum_38 rfl (lv_at hl 0 rfl) ?_
            refine lv_bipush (v := 12) hx hb dX3_readSum_39 (by decide) ?_
            refine lv_icmp_eq (tgt := 50) hx hb dX3_readSum_41 (by decide) (fun c77 => ?_) (fun c77 => ?_)
            · have c77 : r65.toInt = (12 : Int) := wk_eq.mp c77
              obtain rfl : x60 = 0 := wk_eq.mpr (show x60.toInt = 0 by omega)
              exact J50 r65 x71 x73 H locs ls w67 (show (-1) ≤ v8_1.toInt by omega) (show v8_1.toInt ≤ 12 by omega) (show 0 ≤ v8_2.toInt by omega) (show v8_2.toInt ≤ 399 by omega) (show 12 ≤ r65.toInt by omega) (show r65.toInt ≤ 13 by omega) (show 1 ≤ x71.toInt by omega) (show x71.toInt ≤ 400 by omega) (show 0 ≤ x73.toInt by omega) (show x73.toInt ≤ 399 by omega)  hw hT hF c72 c74 c76 (lv_sub hl [1, 2, 3, 0] rfl)
            · have c77 : ¬ r65.toInt = (12 : Int) := wk_eqF c77
              refine lv_iload_n hx hb dX3_readSum_44 rfl (lv_at hl 0 rfl) ?_
              refine lv_bipush (v := 13) hx hb dX3_readSum_45 (by decide) ?_
              refine lv_icmp_ne (tgt := 65) hx hb dX3_readSum_47 (by decide) (fun c78 => ?_) (fun c78 => ?_)
              · have c78 : ¬ r65.toInt = (13 : Int) := wk_eqF c78
                refine lv_aload_n hx hb dX3_readSum_65 rfl (lv_at hl 1 rfl) ?_
                refine lv_iload_n hx hb dX3_readSum_66 rfl (lv_at hl 2 rfl) ?_
                refine tk_Vv hC hK hw hT hA hE hSR kC_at3 (by decide) rfl (k_X3_addWaiting_1 l adK adV dC dI cy ad B (by omega) (by omega) qr s1 hqr  v8_1 w67 H.size hT ) (cwV 1 hC.2.2.2.2 gX3_readSum_X3_addWaiting rfl rfl rfl (by decide +kernel) ⟨Nat.le_of_ble_eq_true rfl, Nat.le_of_ble_eq_true rfl⟩) rfl hl.1 rfl (Nat.le_of_ble_eq_true rfl) dX3_readSum_67 (fun w81 H locs hp80 hw => ?_)
                obtain ⟨hT, k82, hg83⟩ := hp80
                have hF := hF.tr k82 (by decide)
                have c84 := k82.gi kC_at1 (by decide) c76
                have c85 := k82.gi kC_at1 (by decide) c72
                have c86 := k82.gi kC_at1 (by decide) c74
                clear hg83
                refine lv_iload_n hx hb dX3_readSum_70 rfl (lv_at hl 0 rfl) ?_
                refine lv_istore_n (lv' := [(1, .int r65), (3, .int r65), (0, .ref (ad 3)), (2, .int v8_2)]) hx hb dX3_readSum_71 rfl hl (by decide) rfl (fun ls hl => ?_)
                refine lv_aload_n hx hb dX3_readSum_72 rfl (lv_at hl 2 rfl) ?_
                refine tk_Vv hC hK hw hT hA hE hSR kC_at3 (by decide) rfl (k_X3_readValue_1 l adK adV dC dI cy ad B (by omega) (by omega) qr s1 hqr   w81 H.size hT (c84.trans (wk_eq.mpr (show x60.toInt = 0 by omega)))) (cwV 0 hC.2.2.2.2 gX3_readSum_X3_readValue rfl rfl rfl (by decide +kernel) ⟨Nat.le_of_ble_eq_true rfl, Nat.le_of_ble_eq_true rfl⟩) rfl hl.1 rfl (Nat.le_of_ble_eq_true rfl) dX3_readSum_73 (fun w89 H locs hp88 hw => ?_)
                obtain ⟨hT, k90, hg91⟩ := hp88
                have hF := hF.tr k90 (by decide)
                have c92 := k90.gi kC_at1 (by decide) c85
                clear hg91
                exact J76 r65 r65 x71 H locs ls w89 (show (-1) ≤ r65.toInt by omega) (show r65.toInt ≤ 12 by omega) (show 0 ≤ v8_2.toInt by omega) (show v8_2.toInt ≤ 399 by omega) (show 10 ≤ r65.toInt by omega) (show r65.toInt ≤ 13 by omega) (show 1 ≤ x71.toInt by omega) (show x71.toInt ≤ 400 by omega)  hw hT hF c92 (lv_sub hl [2, 0, 3, 1] rfl)
              · have c78 : r65.toInt = (13 : Int) := wk_eq.mp c78
                obtain rfl : x60 = 0 := wk_eq.mpr (show x60.toInt = 0 by omega)
                exact J50 r65 x71 x73 H locs ls w67 (show (-1) ≤ v8_1.toInt by omega) (show v8_1.toInt ≤ 12 by omega) (show 0 ≤ v8_2.toInt by omega) (show v8_2.toInt ≤ 399 by omega) (show 12 ≤ r65.toInt by omega) (show r65.toInt ≤ 13 by omega) (show 1 ≤ x71.toInt by omega) (show x71.toInt ≤ 400 by omega) (show 0 ≤ x73.toInt by omega) (show x73.toInt ≤ 399 by omega)  hw hT hF c72 c74 c76 (lv_sub hl [1, 2, 3, 0] rfl)
          · refine lv_istore_n (lv' := [(3, .int (-1)), (0, .ref (ad 3)), (1, .int v8_1), (2, .int v8_2)]) hx hb dX3_readSum_29 rfl hl (by decide) rfl (fun ls hl => ?_)
            refine lv_iload_n hx hb dX3_readSum_30 rfl (lv_at hl 0 rfl) ?_
            refine lv_iconst (v := (-1)) hx hb dX3_readSum_31 (by decide) ?_
            refine lv_icmp_ne (tgt := 38) hx hb dX3_readSum_32 (by decide) (fun c => absurd (by decide) c) (fun _ => ?_)
            refine lv_goto (tgt := 82) hx hb dX3_readSum_35 (by decide) ?_
            exact J82 v8_1 v8_2 H locs ls w67 (show (-1) ≤ v8_1.toInt by omega) (show v8_1.toInt ≤ 12 by omega) (show 0 ≤ v8_2.toInt by omega) (show v8_2.toInt ≤ 400 by omega)  hw hT hF  (lv_sub hl [1, 2, 3] rfl)
        · refine lv_if_ne (tgt := 82) hx hb dX3_readSum_22 (by decide) (fun _ => ?_) (fun c => absurd c (by decide))
          exact J82 v8_1 v8_2 H locs ls w58 (show (-1) ≤ v8_1.toInt by omega) (show v8_1.toInt ≤ 12 by omega) (show 0 ≤ v8_2.toInt by omega) (show v8_2.toInt ≤ 400 by omega)  hw hT hF  (lv_sub hl [0, 1, 2] rfl)
  refine lv_aload_n hx hb dX3_readSum_0 rfl (lv_at hl 0 rfl) ?_
  refine tk_Vv hC hK hw hT hA hE hSR kC_at3 (by decide) rfl (k_X3_readValue_3 l adK adV dC dI cy ad B (by omega) (by omega) qr s1 hqr   w0 s.heap.size hT ) (cwV 0 hC.2.2.2.2 gX3_readSum_X3_readValue rfl rfl rfl (by decide +kernel) ⟨Nat.le_of_ble_eq_true rfl, Nat.le_of_ble_eq_true rfl⟩) rfl hl.1 rfl (Nat.le_of_ble_eq_true rfl) dX3_readSum_1 (fun w95 H locs hp94 hw => ?_)
  obtain ⟨hT, k96, hg99⟩ := hp94
  have hF := hF.tr k96 (by decide)
  rcases hg99 with - | ⟨x97, c98, rx97, tx97⟩
  · refine lv_iconst (v := (-1)) hx hb dX3_readSum_4 (by decide) ?_
    refine lv_istore_n (lv' := [(1, .int (-1)), (0, .ref (ad 3))]) hx hb dX3_readSum_5 rfl hl (by decide) rfl (fun ls hl => ?_)
    refine lv_iconst (v := 0) hx hb dX3_readSum_6 (by decide) ?_
    refine lv_istore_n (lv' := [(2, .int 0), (1, .int (-1)), (0, .ref (ad 3))]) hx hb dX3_readSum_7 rfl hl (by decide) rfl (fun ls hl => ?_)
    exact L8 ((400 - (0 : Int)).toNat + 1) (-1) 0 H locs ls w95 (by decide) (by decide) (by decide) (by decide) (Nat.lt_succ_self _) hw hT hF  (lv_sub hl [2, 1, 0] rfl)
  · refine lv_iconst (v := (-1)) hx hb dX3_readSum_4 (by decide) ?_
    refine lv_istore_n (lv' := [(1, .int (-1)), (0, .ref (ad 3))]) hx hb dX3_readSum_5 rfl hl (by decide) rfl (fun ls hl => ?_)
    refine lv_iconst (v := 0) hx hb dX3_readSum_6 (by decide) ?_
    refine lv_istore_n (lv' := [(2, .int 0), (1, .int (-1)), (0, .ref (ad 3))]) hx hb dX3_readSum_7 rfl hl (by decide) rfl (fun ls hl => ?_)
    exact L8 ((400 - (0 : Int)).toNat + 1) (-1) 0 H locs ls w95 (by decide) (by decide) (by decide) (by decide) (Nat.lt_succ_self _) hw hT hF  (lv_sub hl [2, 1, 0] rfl)
abbrev P_X6_takeWord_4 (ad : Nat → Nat) (cy : Nat → ClassId) (B : Int) (qr : Nat) (s1 : Int)  (w0 : va_W) : Int32 → va_W → Prop := fun r u => TW ksC ad cy B qr s1 u ∧ FE ksC [(6, 1, 1), (6, 3, 3)] w0 u ∧ ((r = 0) ∨ (r = 1 ∧ (∃ y : Int32, gi u 1 1 = y ∧ 3 ≤ y.toInt ∧ y.toInt ≤ 400)))
set_option maxHeartbeats 4000000 in
set_option maxRecDepth 100000 in
theorem k_X6_takeWord_4 (l : Launch) (adK adV : Nat → Nat) (dC : Nat → ClassId) (dI : Nat → Nat → Nat) (cy : Nat → ClassId) (ad : Nat → Nat) (B : Int) (hB0 : 2147483648 ≤ B) (hB1 : B ≤ 1152921504606846976) (qr : Nat) (s1 : Int)   (w0 : va_W) (sz : Nat) (hT : TW ksC ad cy B qr s1 w0)  : Met l yX6_takeWord wsX6_takeWord ({ frames := 5, cells := 0, slots := 0, locals := 141 }) (va_Pc [.ref (ad 1), .ref (adK 4)] (wpreS adK adV dC dI cy sz w0)) (va_Qi (P_X6_takeWord_4 ad cy B qr s1  w0) (fun u : va_W => wpost dC dI cy (va_A w0 sz) u) (va_A w0 sz)) 0 0 (va_A w0 sz) := by
  refine Met.ofW (cc := cX6_takeWord) (maxL := 4) (ret := (some .boolean)) (by decide) rfl ?_
  intro p e s m args below meth c s₁ Bk hml hv
  obtain ⟨rfl, ⟨hsz, hP, hK, hD0⟩, hE, hSR⟩ := hv
  have hx := Bk.exec
  have hb := Bk.bytes
  have hr := Bk.returns
  have hlocks := Bk.notSynchronized
  have hC : CallFix p m c cX6_takeWord 4 s _ wsX6_takeWord RX6 := ⟨hx, hb, hml, findClass_of_methodNamed Bk.named, atoms_spec (ws := wsX6_takeWord) Bk.pre⟩
  subst hsz
  have hD := hD0.self (sz := s.heap.size)
  generalize hAe : va_A w0 s.heap.size = A at hD hE ⊢
  have hA : ∀ q : Nat, s.heap.size ≤ q → A q := fun q h => by rw [← hAe]; exact Or.inr h
  have hw : Wd dC dI A s.heap s.heap [] w0 := ⟨hP, hD, va_S.rf⟩
  have hF : FE ksC [(6, 1, 1), (6, 3, 3)] w0 w0 := FE.rf
  have hl := lv_entry ([.ref (ad 1), .ref (adK 4)]) (n := 4) (Nat.le_of_ble_eq_true rfl)
  rw [lg_entry_eq]
  generalize (lg_sl ([.ref (ad 1), .ref (adK 4)]) ++ List.replicate (4 - (lg_sl ([.ref (ad 1), .ref (adK 4)])).length) Slot.unset).toArray = ls at hl ⊢
  have hl : lv_has ls 4 [(0, .ref (ad 1)), (1, .ref (adK 4))] := hl
  generalize hloc : ([] : List Loc) = locs at hw ⊢
  have hinX6 : ∀ w ∈ u_ws RX6 TX6 5, w ∈ wsX6_takeWord := fun _ h => List.mem_cons_of_mem _ (List.mem_append_right _ (h))
  have L27 : ∀ (n27 : Nat) (v27_2 : Int32) (v27_3 : Int32) (f27_1_1 : Int32) (H : Heap) (locs : List Loc) (ls : Array Slot) (w1 : va_W), 3 ≤ v27_2.toInt → v27_2.toInt ≤ 400 → 0 ≤ v27_3.toInt → v27_3.toInt ≤ 3 → 0 ≤ f27_1_1.toInt → f27_1_1.toInt ≤ 397 → (3 - v27_3.toInt).toNat < n27 → Wd dC dI A s.heap H locs w1 → TW ksC ad cy B qr s1 w1 → FE ksC [(6, 1, 1), (6, 3, 3)] w0 w1 → gi w1 1 1 = f27_1_1 → lv_has ls 4 [(0, .ref (ad 1)), (1, .ref (adK 4)), (2, .int v27_2), (3, .int v27_3)] → W p l e ({ frames := 5, cells := 0, slots := 0, locals := 141 }) s m (List.toArray [.ref (ad 1), .ref (adK 4)]) below meth c H locs 0 0 (MQ below (va_Qi (P_X6_takeWord_4 ad cy B qr s1  w0) (fun u : va_W => wpost dC dI cy A u) A) (List.toArray [.ref (ad 1), .ref (adK 4)]) s 0 0 A) (F0 m 27 ls []) := by
    intro n27
    induction n27 with
    | zero => intro v27_2 v27_3 f27_1_1 H locs ls w1 r2 t3 r4 t5 r6 t7 hm27 hw hT hF c8 hl; omega
    | succ n27 ih27 =>
      intro v27_2 v27_3 f27_1_1 H locs ls w1 r2 t3 r4 t5 r6 t7 hm27 hw hT hF c8 hl
      refine lv_iload_n hx hb dX6_takeWord_27 rfl (lv_at hl 3 rfl) ?_
      refine lv_aload_n hx hb dX6_takeWord_28 rfl (lv_at hl 1 rfl) ?_
      refine tk_ViT hC hK hw hA hE hSR (s_length l adK adV dC dI cy 4 (by decide) H.size) (cwV 0 hC.2.2.2.2 gX6_takeWord_J0_length_8abf5 rfl rfl rfl (by decide +kernel) ⟨Nat.le_of_ble_eq_true rfl, Nat.le_of_ble_eq_true rfl⟩) 4 (by decide) rfl rfl rfl hl.1 rfl (Nat.le_of_ble_eq_true rfl) dX6_takeWord_29 (fun r9 H locs hp10 hw => ?_)
      obtain ⟨-, hp10⟩ := hp10
      obtain rfl : r9 = 3 := hp10
      refine lv_icmp_ge (tgt := 62) hx hb dX6_takeWord_32 (by decide) (fun c11 => ?_) (fun c11 => ?_)
      · have c11 : (3 : Int) ≤ v27_3.toInt := wk_le.mp c11
        refine lv_aload_n hx hb dX6_takeWord_62 rfl (lv_at hl 0 rfl) ?_
        refine lv_iload_n hx hb dX6_takeWord_63 rfl (lv_at hl 2 rfl) ?_
        refine tk_puti hC hK hw hT hinX6 tyX6_ok nmX6 kC_at1 (by decide) rfl rfl 1 (by decide) (List.mem_of_getElem? (i := 1) rfl) rfl rfl rfl rfl (show 0 ≤ v27_2.toInt by omega) (show v27_2.toInt ≤ 400 by omega) dX6_takeWord_64 (fun H locs w12 hw hT k14 c13 => ?_)
        have hF := hF.put kC_at1 (k := 1) (by decide) k14
        refine lv_iconst (v := 1) hx hb dX6_takeWord_67 (by decide) ?_
        exact tk_zret hC hr rfl hlocks hK ⟨hT, hF, (Or.inr ⟨rfl, ⟨v27_2, c13, (show 3 ≤ v27_2.toInt by omega), (show v27_2.toInt ≤ 400 by omega)⟩⟩)⟩ hw dX6_takeWord_68
      · have c11 : v27_3.toInt < (3 : Int) := wk_leF c11
        refine lv_aload_n hx hb dX6_takeWord_35 rfl (lv_at hl 0 rfl) ?_
        refine tk_getA hC hK hw hT hinX6 kC_at1 (by decide) rfl 0 (by decide) (List.mem_of_getElem? (i := 2) rfl) rfl rfl dX6_takeWord_36 ?_
        refine lv_aload_n hx hb dX6_takeWord_39 rfl (lv_at hl 0 rfl) ?_
        refine tk_geti hC hK hw hT hinX6 kC_at1 (by decide) rfl 1 (by decide) (List.mem_of_getElem? (i := 1) rfl) rfl rfl dX6_takeWord_40 (fun x15 c16 rx15 tx15 => ?_)
        refine wk_top f27_1_1 (c16.symm.trans c8) ?_
        refine lv_iload_n hx hb dX6_takeWord_43 rfl (lv_at hl 3 rfl) ?_
        refine lv_iadd hx hb dX6_takeWord_44 ?_
        refine lv_topi (fun x17 ex17 => ?_)
        have ex17 : x17.toInt = f27_1_1.toInt + v27_3.toInt := by rw [ex17]; exact wk_add (show (-2147483648) ≤ f27_1_1.toInt + v27_3.toInt by omega) (show f27_1_1.toInt + v27_3.toInt ≤ 2147483647 by omega)
        refine tk_iald hC hK hw hT kC_at2 rfl rfl (show 0 ≤ x17.toInt by omega) (show x17.toInt < 400 by omega) dX6_takeWord_45 (fun x18 c19 rx18 tx18 => ?_)
        refine lv_aload_n hx hb dX6_takeWord_46 rfl (lv_at hl 1 rfl) ?_
        refine lv_iload_n hx hb dX6_takeWord_47 rfl (lv_at hl 3 rfl) ?_
        refine tk_ViT hC hK hw hA hE hSR (s_charAt l adK adV dC dI cy 4 (by decide) v27_3 (show 0 ≤ v27_3.toInt by omega) (show v27_3.toInt < 3 by omega) H.size) (cwV 1 hC.2.2.2.2 gX6_takeWord_J0_charAt_5068e rfl rfl rfl (by decide +kernel) ⟨Nat.le_of_ble_eq_true rfl, Nat.le_of_ble_eq_true rfl⟩) 4 (by decide) rfl rfl rfl hl.1 rfl (Nat.le_of_ble_eq_true rfl) dX6_takeWord_48 (fun r20 H locs hp21 hw => ?_)
        refine lv_icmp_eq (tgt := 56) hx hb dX6_takeWord_51 (by decide) (fun c22 => ?_) (fun c22 => ?_)
        · have c22 : x18.toInt = r20.toInt := wk_eq.mp c22
          obtain ⟨x23, ex23⟩ : ∃ y : Int32, y = v27_3 + Int32.ofInt 1 := ⟨_, rfl⟩
          refine lv_iinc (v := x23) (lv' := [(3, .int x23), (0, .ref (ad 1)), (1, .ref (adK 4)), (2, .int v27_2)]) hx hb dX6_takeWord_56 hl (k := 3) rfl ex23.symm (by decide) rfl (fun ls hl => ?_)
          have ex23 : x23.toInt = v27_3.toInt + 1 := by rw [ex23]; exact wk_add (y := 1) (show -2147483648 ≤ v27_3.toInt + 1 by omega) (show v27_3.toInt + 1 ≤ 2147483647 by omega)
          refine lv_goto (tgt := 27) hx hb dX6_takeWord_59 (by decide) ?_
          exact ih27 v27_2 x23 f27_1_1 H locs ls w1 (show 3 ≤ v27_2.toInt by omega) (show v27_2.toInt ≤ 400 by omega) (show 0 ≤ x23.toInt by omega) (show x23.toInt ≤ 3 by omega) (show 0 ≤ f27_1_1.toInt by omega) (show f27_1_1.toInt ≤ 397 by omega) (show (3 - x23.toInt).toNat < n27 by omega) hw hT hF c8 (lv_sub hl [1, 2, 3, 0] rfl)
        · have c22 : ¬ x18.toInt = r20.toInt := wk_eqF c22
          refine lv_iconst (v := 0) hx hb dX6_takeWord_54 (by decide) ?_
          exact tk_zret hC hr rfl hlocks hK ⟨hT, hF, (Or.inl rfl)⟩ hw dX6_takeWord_55
  refine lv_aload_n hx hb dX6_takeWord_0 rfl (lv_at hl 0 rfl) ?_
  refine tk_Vi hC hK hw hT hA hE hSR kC_at1 (by decide) rfl (k_X6_lookBehindBlanks_1 l adK adV dC dI cy ad B (by omega) (by omega) qr s1    w0 s.heap.size hT ) (cwV 0 hC.2.2.2.2 gX6_takeWord_X6_lookBehindBlanks rfl rfl rfl (by decide +kernel) ⟨Nat.le_of_ble_eq_true rfl, Nat.le_of_ble_eq_true rfl⟩) rfl hl.1 rfl (Nat.le_of_ble_eq_true rfl) dX6_takeWord_1 (fun r24 w26 H locs hp25 hw => ?_)
  obtain ⟨hT, k27, hg36⟩ := hp25
  have hF := hF.tr k27 (by decide)
  rcases hg36 with ⟨g28, g29, ⟨x30, c31, rx30, tx30⟩, ⟨x32, c33, rx32, tx32⟩, ⟨x34, c35, rx34, tx34⟩⟩ | rfl
  · refine lv_pop hx hb dX6_takeWord_4 rfl ?_
    refine lv_aload_n hx hb dX6_takeWord_5 rfl (lv_at hl 0 rfl) ?_
    refine tk_Vi hC hK hw hT hA hE hSR kC_at1 (by decide) rfl (k_X6_endOfWord_1 l adK adV dC dI cy ad B (by omega) (by omega) qr s1    w26 H.size hT ) (cwV 0 hC.2.2.2.2 gX6_takeWord_X6_endOfWord rfl rfl rfl (by decide +kernel) ⟨Nat.le_of_ble_eq_true rfl, Nat.le_of_ble_eq_true rfl⟩) rfl hl.1 rfl (Nat.le_of_ble_eq_true rfl) dX6_takeWord_6 (fun r37 w39 H locs hp38 hw => ?_)
    obtain ⟨hT, k40, hg43⟩ := hp38
    have hF := hF.tr k40 (by decide)
    have c44 := k40.gi kC_at1 (by decide) c31
    have c45 := k40.gi kC_at1 (by decide) c33
    have c46 := k40.gi kC_at1 (by decide) c35
    obtain ⟨g41, g42⟩ := hg43
    refine lv_istore_n (lv' := [(2, .int r37), (0, .ref (ad 1)), (1, .ref (adK 4))]) hx hb dX6_takeWord_9 rfl hl (by decide) rfl (fun ls hl => ?_)
    refine lv_iload_n hx hb dX6_takeWord_10 rfl (lv_at hl 0 rfl) ?_
    refine lv_aload_n hx hb dX6_takeWord_11 rfl (lv_at hl 1 rfl) ?_
    refine tk_geti hC hK hw hT hinX6 kC_at1 (by decide) rfl 1 (by decide) (List.mem_of_getElem? (i := 1) rfl) rfl rfl dX6_takeWord_12 (fun x47 c48 rx47 tx47 => ?_)
    refine wk_top x30 (c48.symm.trans c44) ?_
    refine lv_isub hx hb dX6_takeWord_15 ?_
    refine lv_topi (fun x49 ex49 => ?_)
    have ex49 : x49.toInt = r37.toInt - x30.toInt := by rw [ex49]; exact wk_sub (show (-2147483648) ≤ r37.toInt - x30.toInt by omega) (show r37.toInt - x30.toInt ≤ 2147483647 by omega)
    refine lv_aload_n hx hb dX6_takeWord_16 rfl (lv_at hl 2 rfl) ?_
    refine tk_ViT hC hK hw hA hE hSR (s_length l adK adV dC dI cy 4 (by decide) H.size) (cwV 0 hC.2.2.2.2 gX6_takeWord_J0_length_8abf5 rfl rfl rfl (by decide +kernel) ⟨Nat.le_of_ble_eq_true rfl, Nat.le_of_ble_eq_true rfl⟩) 4 (by decide) rfl rfl rfl hl.1 rfl (Nat.le_of_ble_eq_true rfl) dX6_takeWord_17 (fun r50 H locs hp51 hw => ?_)
    obtain ⟨-, hp51⟩ := hp51
    obtain rfl : r50 = 3 := hp51
    refine lv_icmp_eq (tgt := 25) hx hb dX6_takeWord_20 (by decide) (fun c52 => ?_) (fun c52 => ?_)
    · have c52 : x49.toInt = (3 : Int) := wk_eq.mp c52
      refine lv_iconst (v := 0) hx hb dX6_takeWord_25 (by decide) ?_
      refine lv_istore_n (lv' := [(3, .int 0), (2, .int r37), (0, .ref (ad 1)), (1, .ref (adK 4))]) hx hb dX6_takeWord_26 rfl hl (by decide) rfl (fun ls hl => ?_)
      exact L27 ((3 - (0 : Int)).toNat + 1) r37 0 x30 H locs ls w39 (show 3 ≤ r37.toInt by omega) (show r37.toInt ≤ 400 by omega) (by decide) (by decide) (show 0 ≤ x30.toInt by omega) (show x30.toInt ≤ 397 by omega) (Nat.lt_succ_self _) hw hT hF c44 (lv_sub hl [2, 3, 1, 0] rfl)
    · have c52 : ¬ x49.toInt = (3 : Int) := wk_eqF c52
      refine lv_iconst (v := 0) hx hb dX6_takeWord_23 (by decide) ?_
      exact tk_zret hC hr rfl hlocks hK ⟨hT, hF, (Or.inl rfl)⟩ hw dX6_takeWord_24
  · refine lv_pop hx hb dX6_takeWord_4 rfl ?_
    refine lv_aload_n hx hb dX6_takeWord_5 rfl (lv_at hl 0 rfl) ?_
    refine tk_Vi hC hK hw hT hA hE hSR kC_at1 (by decide) rfl (k_X6_endOfWord_1 l adK adV dC dI cy ad B (by omega) (by omega) qr s1    w26 H.size hT ) (cwV 0 hC.2.2.2.2 gX6_takeWord_X6_endOfWord rfl rfl rfl (by decide +kernel) ⟨Nat.le_of_ble_eq_true rfl, Nat.le_of_ble_eq_true rfl⟩) rfl hl.1 rfl (Nat.le_of_ble_eq_true rfl) dX6_takeWord_6 (fun r53 w55 H locs hp54 hw => ?_)
    obtain ⟨hT, k56, hg59⟩ := hp54
    have hF := hF.tr k56 (by decide)
    obtain ⟨g57, g58⟩ := hg59
    refine lv_istore_n (lv' := [(2, .int r53), (0, .ref (ad 1)), (1, .ref (adK 4))]) hx hb dX6_takeWord_9 rfl hl (by decide) rfl (fun ls hl => ?_)
    refine lv_iload_n hx hb dX6_takeWord_10 rfl (lv_at hl 0 rfl) ?_
    refine lv_aload_n hx hb dX6_takeWord_11 rfl (lv_at hl 1 rfl) ?_
    refine tk_geti hC hK hw hT hinX6 kC_at1 (by decide) rfl 1 (by decide) (List.mem_of_getElem? (i := 1) rfl) rfl rfl dX6_takeWord_12 (fun x60 c61 rx60 tx60 => ?_)
    refine lv_isub hx hb dX6_takeWord_15 ?_
    refine lv_topi (fun x62 ex62 => ?_)
    have ex62 : x62.toInt = r53.toInt - x60.toInt := by rw [ex62]; exact wk_sub (show (-2147483648) ≤ r53.toInt - x60.toInt by omega) (show r53.toInt - x60.toInt ≤ 2147483647 by omega)
    refine lv_aload_n hx hb dX6_takeWord_16 rfl (lv_at hl 2 rfl) ?_
    refine tk_ViT hC hK hw hA hE hSR (s_length l adK adV dC dI cy 4 (by decide) H.size) (cwV 0 hC.2.2.2.2 gX6_takeWord_J0_length_8abf5 rfl rfl rfl (by decide +kernel) ⟨Nat.le_of_ble_eq_true rfl, Nat.le_of_ble_eq_true rfl⟩) 4 (by decide) rfl rfl rfl hl.1 rfl (Nat.le_of_ble_eq_true rfl) dX6_takeWord_17 (fun r63 H locs hp64 hw => ?_)
    obtain ⟨-, hp64⟩ := hp64
    obtain rfl : r63 = 3 := hp64
    refine lv_icmp_eq (tgt := 25) hx hb dX6_takeWord_20 (by decide) (fun c65 => ?_) (fun c65 => ?_)
    · have c65 : x62.toInt = (3 : Int) := wk_eq.mp c65
      refine lv_iconst (v := 0) hx hb dX6_takeWord_25 (by decide) ?_
      refine lv_istore_n (lv' := [(3, .int 0), (2, .int r53), (0, .ref (ad 1)), (1, .ref (adK 4))]) hx hb dX6_takeWord_26 rfl hl (by decide) rfl (fun ls hl => ?_)
      exact L27 ((3 - (0 : Int)).toNat + 1) r53 0 x60 H locs ls w55 (show 3 ≤ r53.toInt by omega) (show r53.toInt ≤ 400 by omega) (by decide) (by decide) (show 0 ≤ x60.toInt by omega) (show x60.toInt ≤ 397 by omega) (Nat.lt_succ_self _) hw hT hF c61 (lv_sub hl [2, 3, 1, 0] rfl)
    · have c65 : ¬ x62.toInt = (3 : Int) := wk_eqF c65
      refine lv_iconst (v := 0) hx hb dX6_takeWord_23 (by decide) ?_
      exact tk_zret hC hr rfl hlocks hK ⟨hT, hF, (Or.inl rfl)⟩ hw dX6_takeWord_24
abbrev P_X6_takeByte_2 (ad : Nat → Nat) (cy : Nat → ClassId) (B : Int) (qr : Nat) (s1 : Int)  (w0 : va_W) : Int32 → va_W → Prop := fun r u => TW ksC ad cy B qr s1 u ∧ FE ksC [(6, 1, 1), (6, 3, 3)] w0 u ∧ ((r = 0) ∨ (r = 1 ∧ (∃ y : Int32, gi u 1 2 = y ∧ 1 ≤ y.toInt ∧ y.toInt ≤ 400) ∧ (∃ y : Int32, gi u 1 3 = y ∧ 0 ≤ y.toInt ∧ y.toInt ≤ 399)))
set_option maxHeartbeats 4000000 in
set_option maxRecDepth 100000 in
theorem k_X6_takeByte_2 (l : Launch) (adK adV : Nat → Nat) (dC : Nat → ClassId) (dI : Nat → Nat → Nat) (cy : Nat → ClassId) (ad : Nat → Nat) (B : Int) (hB0 : 2147483648 ≤ B) (hB1 : B ≤ 1152921504606846976) (qr : Nat) (s1 : Int)   (w0 : va_W) (sz : Nat) (hT : TW ksC ad cy B qr s1 w0)  : Met l yX6_takeByte wsX6_takeByte ({ frames := 2, cells := 0, slots := 0, locals := 32 }) (va_Pc [.ref (ad 1), .int 91] (wpreS adK adV dC dI cy sz w0)) (va_Qi (P_X6_takeByte_2 ad cy B qr s1  w0) (fun u : va_W => wpost dC dI cy (va_A w0 sz) u) (va_A w0 sz)) 0 0 (va_A w0 sz) := by
  refine Met.ofW (cc := cX6_takeByte) (maxL := 2) (ret := (some .boolean)) (by decide) rfl ?_
  intro p e s m args below meth c s₁ Bk hml hv
  obtain ⟨rfl, ⟨hsz, hP, hK, hD0⟩, hE, hSR⟩ := hv
  have hx := Bk.exec
  have hb := Bk.bytes
  have hr := Bk.returns
  have hlocks := Bk.notSynchronized
  have hC : CallFix p m c cX6_takeByte 2 s _ wsX6_takeByte RX6 := ⟨hx, hb, hml, findClass_of_methodNamed Bk.named, atoms_spec (ws := wsX6_takeByte) Bk.pre⟩
  subst hsz
  have hD := hD0.self (sz := s.heap.size)
  generalize hAe : va_A w0 s.heap.size = A at hD hE ⊢
  have hA : ∀ q : Nat, s.heap.size ≤ q → A q := fun q h => by rw [← hAe]; exact Or.inr h
  have hw : Wd dC dI A s.heap s.heap [] w0 := ⟨hP, hD, va_S.rf⟩
  have hF : FE ksC [(6, 1, 1), (6, 3, 3)] w0 w0 := FE.rf
  have hl := lv_entry ([.ref (ad 1), .int 91]) (n := 2) (Nat.le_of_ble_eq_true rfl)
  rw [lg_entry_eq]
  generalize (lg_sl ([.ref (ad 1), .int 91]) ++ List.replicate (2 - (lg_sl ([.ref (ad 1), .int 91])).length) Slot.unset).toArray = ls at hl ⊢
  have hl : lv_has ls 2 [(0, .ref (ad 1)), (1, .int 91)] := hl
  generalize hloc : ([] : List Loc) = locs at hw ⊢
  refine lv_aload_n hx hb dX6_takeByte_0 rfl (lv_at hl 0 rfl) ?_
  refine tk_Vi hC hK hw hT hA hE hSR kC_at1 (by decide) rfl (k_X6_lookBehindBlanks_1 l adK adV dC dI cy ad B (by omega) (by omega) qr s1    w0 s.heap.size hT ) (cwV 0 hC.2.2.2.2 gX6_takeByte_X6_lookBehindBlanks rfl rfl rfl (by decide +kernel) ⟨Nat.le_of_ble_eq_true rfl, Nat.le_of_ble_eq_true rfl⟩) rfl hl.1 rfl (Nat.le_of_ble_eq_true rfl) dX6_takeByte_1 (fun r1 w3 H locs hp2 hw => ?_)
  obtain ⟨hT, k4, hg13⟩ := hp2
  have hF := hF.tr k4 (by decide)
  rcases hg13 with ⟨g5, g6, ⟨x7, c8, rx7, tx7⟩, ⟨x9, c10, rx9, tx9⟩, ⟨x11, c12, rx11, tx11⟩⟩ | rfl
  · refine lv_iload_n hx hb dX6_takeByte_4 rfl (lv_at hl 1 rfl) ?_
    refine lv_icmp_eq (tgt := 10) hx hb dX6_takeByte_5 (by decide) (fun c14 => ?_) (fun c14 => ?_)
    · have c14 : r1.toInt = (91 : Int) := wk_eq.mp c14
      refine lv_aload_n hx hb dX6_takeByte_10 rfl (lv_at hl 0 rfl) ?_
      refine tk_Vv hC hK hw hT hA hE hSR kC_at1 (by decide) rfl (k_X6_pass_1 l adK adV dC dI cy ad B (by omega) (by omega) qr s1    w3 H.size hT ) (cwV 0 hC.2.2.2.2 gX6_takeByte_X6_pass rfl rfl rfl (by decide +kernel) ⟨Nat.le_of_ble_eq_true rfl, Nat.le_of_ble_eq_true rfl⟩) rfl hl.1 rfl (Nat.le_of_ble_eq_true rfl) dX6_takeByte_11 (fun w17 H locs hp16 hw => ?_)
      obtain ⟨hT, k18, hg19⟩ := hp16
      have hF := hF.tr k18 (by decide)
      have c20 := k18.gi kC_at1 (by decide) c10
      have c21 := k18.gi kC_at1 (by decide) c12
      clear hg19
      refine lv_iconst (v := 1) hx hb dX6_takeByte_14 (by decide) ?_
      exact tk_zret hC hr rfl hlocks hK ⟨hT, hF, (Or.inr ⟨rfl, ⟨x9, c20, (show 1 ≤ x9.toInt by omega), (show x9.toInt ≤ 400 by omega)⟩, ⟨x11, c21, (show 0 ≤ x11.toInt by omega), (show x11.toInt ≤ 399 by omega)⟩⟩)⟩ hw dX6_takeByte_15
    · have c14 : ¬ r1.toInt = (91 : Int) := wk_eqF c14
      refine lv_iconst (v := 0) hx hb dX6_takeByte_8 (by decide) ?_
      exact tk_zret hC hr rfl hlocks hK ⟨hT, hF, (Or.inl rfl)⟩ hw dX6_takeByte_9
  · refine lv_iload_n hx hb dX6_takeByte_4 rfl (lv_at hl 1 rfl) ?_
    refine lv_icmp_eq (tgt := 10) hx hb dX6_takeByte_5 (by decide) (fun c => absurd c (by decide)) (fun _ => ?_)
    refine lv_iconst (v := 0) hx hb dX6_takeByte_8 (by decide) ?_
    exact tk_zret hC hr rfl hlocks hK ⟨hT, hF, (Or.inl rfl)⟩ hw dX6_takeByte_9
abbrev P_X3_readFact_11 (ad : Nat → Nat) (cy : Nat → ClassId) (B : Int) (qr : Nat) (s1 : Int)  (w0 : va_W) : va_W → Prop := fun u => TW ksC ad cy B qr s1 u ∧ FE ksC [(2, 3, 3), (3, 2, 2), (6, 1, 1), (6, 3, 3), (6, 4, 4), (22, 0, 13), (23, 0, 400)] w0 u ∧ ((True))
set_option maxHeartbeats 4000000 in
set_option maxRecDepth 100000 in
theorem k_X3_readFact_11 (l : Launch) (adK adV : Nat → Nat) (dC : Nat → ClassId) (dI : Nat → Nat → Nat) (cy : Nat → ClassId) (ad : Nat → Nat) (B : Int) (hB0 : 2147483648 ≤ B) (hB1 : B ≤ 1152921504606846976) (qr : Nat) (s1 : Int) (hqr : ksC[qr]? = some 2)  (w0 : va_W) (sz : Nat) (hT : TW ksC ad cy B qr s1 w0) (cf0_ : gi w0 1 4 = 0) : Met l yX3_readFact wsX3_readFact ({ frames := 8, cells := 0, slots := 0, locals := 211 }) (va_Pc [.ref (ad 3), .int 10] (wpreS adK adV dC dI cy sz w0)) (va_Qv (P_X3_readFact_11 ad cy B qr s1  w0) (fun u : va_W => wpost dC dI cy (va_A w0 sz) u) (va_A w0 sz)) 0 0 (va_A w0 sz) := by
  refine Met.ofW (cc := cX3_readFact) (maxL := 5) (ret := none) (by decide) rfl ?_
  intro p e s m args below meth c s₁ Bk hml hv
  obtain ⟨rfl, ⟨hsz, hP, hK, hD0⟩, hE, hSR⟩ := hv
  have hx := Bk.exec
  have hb := Bk.bytes
  have hr := Bk.returns
  have hlocks := Bk.notSynchronized
  have hC : CallFix p m c cX3_readFact 5 s _ wsX3_readFact RX3 := ⟨hx, hb, hml, findClass_of_methodNamed Bk.named, atoms_spec (ws := wsX3_readFact) Bk.pre⟩
  subst hsz
  have hD := hD0.self (sz := s.heap.size)
  generalize hAe : va_A w0 s.heap.size = A at hD hE ⊢
  have hA : ∀ q : Nat, s.heap.size ≤ q → A q := fun q h => by rw [← hAe]; exact Or.inr h
  have hw : Wd dC dI A s.heap s.heap [] w0 := ⟨hP, hD, va_S.rf⟩
  have hF : FE ksC [(2, 3, 3), (3, 2, 2), (6, 1, 1), (6, 3, 3), (6, 4, 4), (22, 0, 13), (23, 0, 400)] w0 w0 := FE.rf
  have hl := lv_entry ([.ref (ad 3), .int 10]) (n := 5) (Nat.le_of_ble_eq_true rfl)
  rw [lg_entry_eq]
  generalize (lg_sl ([.ref (ad 3), .int 10]) ++ List.replicate (5 - (lg_sl ([.ref (ad 3), .int 10])).length) Slot.unset).toArray = ls at hl ⊢
  have hl : lv_has ls 5 [(0, .ref (ad 3)), (1, .int 10)] := hl
  generalize hloc : ([] : List Loc) = locs at hw ⊢
  have hinX3 : ∀ w ∈ u_ws RX3 TX3 3, w ∈ wsX3_readFact := fun _ h => List.mem_cons_of_mem _ (List.mem_append_left _ (List.mem_append_left _ (List.mem_append_right _ (h))))
  have hinX6 : ∀ w ∈ u_ws RX6 TX6 5, w ∈ wsX3_readFact := fun _ h => List.mem_cons_of_mem _ (List.mem_append_left _ (List.mem_append_right _ (h)))
  have J160 : ∀ (v160_2 : Int32) (v160_3 : Int32) (H : Heap) (locs : List Loc) (ls : Array Slot) (w1 : va_W), 0 ≤ v160_2.toInt → v160_2.toInt ≤ 1 → 0 ≤ v160_3.toInt → v160_3.toInt ≤ 1 → Wd dC dI A s.heap H locs w1 → TW ksC ad cy B qr s1 w1 → FE ksC [(2, 3, 3), (3, 2, 2), (6, 1, 1), (6, 3, 3), (6, 4, 4), (22, 0, 13), (23, 0, 400)] w0 w1 → lv_has ls 5 [(0, .ref (ad 3)), (1, .int 10), (2, .int v160_2), (3, .int v160_3)] → W p l e ({ frames := 8, cells := 0, slots := 0, locals := 211 }) s m (List.toArray [.ref (ad 3), .int 10]) below meth c H locs 0 0 (MQ below (va_Qv (P_X3_readFact_11 ad cy B qr s1  w0) (fun u : va_W => wpost dC dI cy A u) A) (List.toArray [.ref (ad 3), .int 10]) s 0 0 A) (F0 m 160 ls []) := by
    intro v160_2 v160_3 H locs ls w1 r2 t3 r4 t5 hw hT hF hl
    exact tk_vret hC hr hlocks hK ⟨hT, hF, trivial⟩ hw dX3_readFact_160
  have J77 : ∀ (v77_2 : Int32) (v77_3 : Int32) (H : Heap) (locs : List Loc) (ls : Array Slot) (w6 : va_W), 0 ≤ v77_2.toInt → v77_2.toInt ≤ 1 → 0 ≤ v77_3.toInt → v77_3.toInt ≤ 1 → Wd dC dI A s.heap H locs w6 → TW ksC ad cy B qr s1 w6 → FE ksC [(2, 3, 3), (3, 2, 2), (6, 1, 1), (6, 3, 3), (6, 4, 4), (22, 0, 13), (23, 0, 400)] w0 w6 → gi w6 1 4 = 0 → lv_has ls 5 [(0, .ref (ad 3)), (1, .int 10), (2, .int v77_2), (3, .int v77_3)] → W p l e ({ frames := 8, cells := 0, slots := 0, locals := 211 }) s m (List.toArray [.ref (ad 3), .int 10]) below meth c H locs 0 0 (MQ below (va_Qv (P_X3_readFact_11 ad cy B qr s1  w0) (fun u : va_W => wpost dC dI cy A u) A) (List.toArray [.ref (ad 3), .int 10]) s 0 0 A) (F0 m 77 ls []) := by
    intro v77_2 v77_3 H locs ls w6 r7 t8 r9 t10 hw hT hF c11 hl
    refine lv_iload_n hx hb dX3_readFact_77 rfl (lv_at hl 1 rfl) ?_
    refine lv_bipush (v := 10) hx hb dX3_readFact_78 (by decide) ?_
    refine lv_icmp_lt (tgt := 101) hx hb dX3_readFact_80 (by decide) (fun c => absurd c (by decide)) (fun _ => ?_)
    refine lv_aload_n hx hb dX3_readFact_83 rfl (lv_at hl 0 rfl) ?_
    refine tk_getA hC hK hw hT hinX3 kC_at3 (by decide) rfl 0 (by decide) (List.mem_of_getElem? (i := 1) rfl) rfl rfl dX3_readFact_84 ?_
    refine lv_aload_n hx hb dX3_readFact_87 rfl (lv_at hl 0 rfl) ?_
    refine tk_getA hC hK hw hT hinX3 kC_at3 (by decide) rfl 0 (by decide) (List.mem_of_getElem? (i := 1) rfl) rfl rfl dX3_readFact_88 ?_
    refine tk_geti hC hK hw hT hinX6 kC_at1 (by decide) rfl 3 (by decide) (List.mem_of_getElem? (i := 3) rfl) rfl rfl dX3_readFact_91 (fun x12 c13 rx12 tx12 => ?_)
    refine lv_iconst (v := 2) hx hb dX3_readFact_94 (by decide) ?_
    refine tk_Vv hC hK hw hT hA hE hSR kC_at1 (by decide) rfl (k_X6_blame_1 l adK adV dC dI cy ad B (by omega) (by omega) qr s1   x12 (show 0 ≤ x12.toInt by omega) (show x12.toInt ≤ 400 by omega) 2 (by decide) (by decide) w6 H.size hT c11) (cwV 2 hC.2.2.2.2 gX3_readFact_X6_blame rfl rfl rfl (by decide +kernel) ⟨Nat.le_of_ble_eq_true rfl, Nat.le_of_ble_eq_true rfl⟩) rfl hl.1 rfl (Nat.le_of_ble_eq_true rfl) dX3_readFact_95 (fun w16 H locs hp15 hw => ?_)
    obtain ⟨hT, k17, hg20⟩ := hp15
    have hF := hF.tr k17 (by decide)
    have c21 := k17.gi kC_at1 (by decide) c13
    obtain ⟨x18, c19, rx18, tx18⟩ := hg20
    refine lv_goto (tgt := 160) hx hb dX3_readFact_98 (by decide) ?_
    exact J160 v77_2 v77_3 H locs ls w16 (show 0 ≤ v77_2.toInt by omega) (show v77_2.toInt ≤ 1 by omega) (show 0 ≤ v77_3.toInt by omega) (show v77_3.toInt ≤ 1 by omega)  hw hT hF  (lv_sub hl [0, 1, 2, 3] rfl)
  have J41 : ∀ (v41_2 : Int32) (H : Heap) (locs : List Loc) (ls : Array Slot) (w22 : va_W), 0 ≤ v41_2.toInt → v41_2.toInt ≤ 1 → Wd dC dI A s.heap H locs w22 → TW ksC ad cy B qr s1 w22 → FE ksC [(2, 3, 3), (3, 2, 2), (6, 1, 1), (6, 3, 3), (6, 4, 4), (22, 0, 13), (23, 0, 400)] w0 w22 → gi w22 1 4 = 0 → lv_has ls 5 [(0, .ref (ad 3)), (1, .int 10), (2, .int v41_2)] → W p l e ({ frames := 8, cells := 0, slots := 0, locals := 211 }) s m (List.toArray [.ref (ad 3), .int 10]) below meth c H locs 0 0 (MQ below (va_Qv (P_X3_readFact_11 ad cy B qr s1  w0) (fun u : va_W => wpost dC dI cy A u) A) (List.toArray [.ref (ad 3), .int 10]) s 0 0 A) (F0 m 41 ls []) := by
    intro v41_2 H locs ls w22 r23 t24 hw hT hF c25 hl
    refine lv_iconst (v := 0) hx hb dX3_readFact_41 (by decide) ?_
    refine lv_istore_n (lv' := [(3, .int 0), (0, .ref (ad 3)), (1, .int 10), (2, .int v41_2)]) hx hb dX3_readFact_42 rfl hl (by decide) rfl (fun ls hl => ?_)
    refine lv_iload_n hx hb dX3_readFact_43 rfl (lv_at hl 3 rfl) ?_
    refine lv_if_ne (tgt := 77) hx hb dX3_readFact_44 (by decide) (fun c26 => ?_) (fun c26 => ?_)
    · have c26 : ¬ v41_2.toInt = (0 : Int) := wk_eqF c26
      exact J77 v41_2 0 H locs ls w22 (show 0 ≤ v41_2.toInt by omega) (show v41_2.toInt ≤ 1 by omega) (by decide) (by decide)  hw hT hF c25 (lv_sub hl [1, 2, 3, 0] rfl)
    · have c26 : v41_2.toInt = (0 : Int) := wk_eq.mp c26
      refine lv_iload_n hx hb dX3_readFact_47 rfl (lv_at hl 0 rfl) ?_
      refine lv_if_ne (tgt := 77) hx hb dX3_readFact_48 (by decide) (fun c => absurd (by decide) c) (fun _ => ?_)
      refine lv_aload_n hx hb dX3_readFact_51 rfl (lv_at hl 1 rfl) ?_
      refine tk_Vv hC hK hw hT hA hE hSR kC_at3 (by decide) rfl (k_X3_readSum_1 l adK adV dC dI cy ad B (by omega) (by omega) qr s1 hqr   w22 H.size hT c25) (cwV 0 hC.2.2.2.2 gX3_readFact_X3_readSum rfl rfl rfl (by decide +kernel) ⟨Nat.le_of_ble_eq_true rfl, Nat.le_of_ble_eq_true rfl⟩) rfl hl.1 rfl (Nat.le_of_ble_eq_true rfl) dX3_readFact_52 (fun w29 H locs hp28 hw => ?_)
      obtain ⟨hT, k30, hg31⟩ := hp28
      have hF := hF.tr k30 (by decide)
      clear hg31
      refine lv_aload_n hx hb dX3_readFact_55 rfl (lv_at hl 1 rfl) ?_
      refine tk_Vi hC hK hw hT hA hE hSR kC_at3 (by decide) rfl (k_X3_readSign_1 l adK adV dC dI cy ad B (by omega) (by omega) qr s1    w29 H.size hT ) (cwV 0 hC.2.2.2.2 gX3_readFact_X3_readSign rfl rfl rfl (by decide +kernel) ⟨Nat.le_of_ble_eq_true rfl, Nat.le_of_ble_eq_true rfl⟩) rfl hl.1 rfl (Nat.le_of_ble_eq_true rfl) dX3_readFact_56 (fun r32 w34 H locs hp33 hw => ?_)
      obtain ⟨hT, k35, hg46⟩ := hp33
      have hF := hF.tr k35 (by decide)
      rcases hg46 with ⟨rfl, ⟨x36, c37, rx36, tx36⟩⟩ | ⟨g38, g39, ⟨x40, c41, rx40, tx40⟩, ⟨x42, c43, rx42, tx42⟩, ⟨x44, c45, rx44, tx44⟩⟩
      · refine lv_istore (lv' := [(4, .int 16), (3, .int 0), (0, .ref (ad 3)), (1, .int 10), (2, .int v41_2)]) hx hb dX3_readFact_59 hl (by decide) rfl (fun ls hl => ?_)
        refine lv_aload_n hx hb dX3_readFact_61 rfl (lv_at hl 2 rfl) ?_
        refine tk_Vv hC hK hw hT hA hE hSR kC_at3 (by decide) rfl (k_X3_readSum_2 l adK adV dC dI cy ad B (by omega) (by omega) qr s1 hqr   w34 H.size hT x36 c37 (show 1 ≤ x36.toInt by omega) (show x36.toInt ≤ 3205 by omega)) (cwV 0 hC.2.2.2.2 gX3_readFact_X3_readSum rfl rfl rfl (by decide +kernel) ⟨Nat.le_of_ble_eq_true rfl, Nat.le_of_ble_eq_true rfl⟩) rfl hl.1 rfl (Nat.le_of_ble_eq_true rfl) dX3_readFact_62 (fun w49 H locs hp48 hw => ?_)
        obtain ⟨hT, k50, hg53⟩ := hp48
        have hF := hF.tr k50 (by decide)
        have c54 := k50.gi kC_at1 (by decide) c37
        obtain ⟨x51, c52, rx51, tx51⟩ := hg53
        have ex51 : x51.toInt = x36.toInt := by rw [← c54.symm.trans c52]
        refine lv_aload_n hx hb dX3_readFact_65 rfl (lv_at hl 2 rfl) ?_
        refine tk_getQ hC hK hw hT hqr (by decide) hinX3 kC_at3 (by decide) rfl 1 (by decide) (List.mem_of_getElem? (i := 2) rfl) rfl rfl dX3_readFact_66 ?_
        refine lv_iload hx hb dX3_readFact_69 (lv_at hl 0 rfl) ?_
        refine tk_Vv hC hK hw hT hA hE hSR hqr (by decide) rfl (k_X2_addToken_1 l adK adV dC dI cy ad B (by omega) (by omega) qr s1   qr hqr 16 w49 H.size hT ) (cwV 1 hC.2.2.2.2 gX3_readFact_X2_addToken rfl rfl rfl (by decide +kernel) ⟨Nat.le_of_ble_eq_true rfl, Nat.le_of_ble_eq_true rfl⟩) rfl hl.1 rfl (Nat.le_of_ble_eq_true rfl) dX3_readFact_71 (fun w57 H locs hp56 hw => ?_)
        obtain ⟨hT, k58, hg61⟩ := hp56
        have hF := hF.tr k58 (by decide)
        have c62 := k58.gi kC_at1 (by decide) c54
        obtain ⟨x59, c60, rx59, tx59⟩ := hg61
        refine lv_goto (tgt := 160) hx hb dX3_readFact_74 (by decide) ?_
        exact J160 v41_2 0 H locs ls w57 (show 0 ≤ v41_2.toInt by omega) (show v41_2.toInt ≤ 1 by omega) (by decide) (by decide)  hw hT hF  (lv_sub hl [2, 3, 4, 1] rfl)
      · refine lv_istore (lv' := [(4, .int r32), (3, .int 0), (0, .ref (ad 3)), (1, .int 10), (2, .int v41_2)]) hx hb dX3_readFact_59 hl (by decide) rfl (fun ls hl => ?_)
        refine lv_aload_n hx hb dX3_readFact_61 rfl (lv_at hl 2 rfl) ?_
        refine tk_Vv hC hK hw hT hA hE hSR kC_at3 (by decide) rfl (k_X3_readSum_3 l adK adV dC dI cy ad B (by omega) (by omega) qr s1 hqr   w34 H.size hT ) (cwV 0 hC.2.2.2.2 gX3_readFact_X3_readSum rfl rfl rfl (by decide +kernel) ⟨Nat.le_of_ble_eq_true rfl, Nat.le_of_ble_eq_true rfl⟩) rfl hl.1 rfl (Nat.le_of_ble_eq_true rfl) dX3_readFact_62 (fun w65 H locs hp64 hw => ?_)
        obtain ⟨hT, k66, hg67⟩ := hp64
        have hF := hF.tr k66 (by decide)
        have c68 := k66.gi kC_at1 (by decide) c41
        clear hg67
        refine lv_aload_n hx hb dX3_readFact_65 rfl (lv_at hl 2 rfl) ?_
        refine tk_getQ hC hK hw hT hqr (by decide) hinX3 kC_at3 (by decide) rfl 1 (by decide) (List.mem_of_getElem? (i := 2) rfl) rfl rfl dX3_readFact_66 ?_
        refine lv_iload hx hb dX3_readFact_69 (lv_at hl 0 rfl) ?_
        refine tk_Vv hC hK hw hT hA hE hSR hqr (by decide) rfl (k_X2_addToken_1 l adK adV dC dI cy ad B (by omega) (by omega) qr s1   qr hqr r32 w65 H.size hT ) (cwV 1 hC.2.2.2.2 gX3_readFact_X2_addToken rfl rfl rfl (by decide +kernel) ⟨Nat.le_of_ble_eq_true rfl, Nat.le_of_ble_eq_true rfl⟩) rfl hl.1 rfl (Nat.le_of_ble_eq_true rfl) dX3_readFact_71 (fun w71 H locs hp70 hw => ?_)
        obtain ⟨hT, k72, hg75⟩ := hp70
        have hF := hF.tr k72 (by decide)
        have c76 := k72.gi kC_at1 (by decide) c68
        obtain ⟨x73, c74, rx73, tx73⟩ := hg75
        refine lv_goto (tgt := 160) hx hb dX3_readFact_74 (by decide) ?_
        exact J160 v41_2 0 H locs ls w71 (show 0 ≤ v41_2.toInt by omega) (show v41_2.toInt ≤ 1 by omega) (by decide) (by decide)  hw hT hF  (lv_sub hl [2, 3, 4, 1] rfl)
  refine lv_aload_n hx hb dX3_readFact_0 rfl (lv_at hl 0 rfl) ?_
  refine tk_getA hC hK hw hT hinX3 kC_at3 (by decide) rfl 0 (by decide) (List.mem_of_getElem? (i := 1) rfl) rfl rfl dX3_readFact_1 ?_
  refine tk_Vi hC hK hw hT hA hE hSR kC_at1 (by decide) rfl (k_X6_isFaulty_2 l adK adV dC dI cy ad B (by omega) (by omega) qr s1    w0 s.heap.size hT cf0_) (cwV 0 hC.2.2.2.2 gX3_readFact_X6_isFaulty rfl rfl rfl (by decide +kernel) ⟨Nat.le_of_ble_eq_true rfl, Nat.le_of_ble_eq_true rfl⟩) rfl hl.1 rfl (Nat.le_of_ble_eq_true rfl) dX3_readFact_4 (fun r77 w79 H locs hp78 hw => ?_)
  obtain ⟨hT, k80, hg83⟩ := hp78
  have hF := hF.tr k80 (by decide)
  have c84 := k80.gi kC_at1 (by decide) cf0_
  obtain ⟨rfl, ⟨x81, c82, rx81, tx81⟩⟩ := hg83
  have ex81 : x81.toInt = (0 : Int) := by rw [show x81 = 0 from c82.symm.trans c84]; decide
  refine lv_if_eq (tgt := 11) hx hb dX3_readFact_7 (by decide) (fun _ => ?_) (fun c => absurd (by decide) c)
  refine lv_aload_n hx hb dX3_readFact_11 rfl (lv_at hl 0 rfl) ?_
  refine tk_getA hC hK hw hT hinX3 kC_at3 (by decide) rfl 0 (by decide) (List.mem_of_getElem? (i := 1) rfl) rfl rfl dX3_readFact_12 ?_
  refine va_ldcS hx hb hC.2.2.2.1 hSR.2.2.2.2.1 dX3_readFact_15 ?_
  refine tk_Vi hC hK hw hT hA hE hSR kC_at1 (by decide) rfl (k_X6_takeWord_4 l adK adV dC dI cy ad B (by omega) (by omega) qr s1    w79 H.size hT ) (cwV 1 hC.2.2.2.2 gX3_readFact_X6_takeWord rfl rfl rfl (by decide +kernel) ⟨Nat.le_of_ble_eq_true rfl, Nat.le_of_ble_eq_true rfl⟩) rfl hl.1 rfl (Nat.le_of_ble_eq_true rfl) dX3_readFact_17 (fun r85 w87 H locs hp86 hw => ?_)
  obtain ⟨hT, k88, hg91⟩ := hp86
  have hF := hF.tr k88 (by decide)
  have c92 := k88.gi kC_at1 (by decide) c84
  rcases hg91 with rfl | ⟨rfl, ⟨x89, c90, rx89, tx89⟩⟩
  · refine lv_istore_n (lv' := [(2, .int 0), (0, .ref (ad 3)), (1, .int 10)]) hx hb dX3_readFact_20 rfl hl (by decide) rfl (fun ls hl => ?_)
    refine lv_iload_n hx hb dX3_readFact_21 rfl (lv_at hl 0 rfl) ?_
    refine lv_if_ne (tgt := 41) hx hb dX3_readFact_22 (by decide) (fun c => absurd (by decide) c) (fun _ => ?_)
    refine lv_aload_n hx hb dX3_readFact_25 rfl (lv_at hl 1 rfl) ?_
    refine tk_getA hC hK hw hT hinX3 kC_at3 (by decide) rfl 0 (by decide) (List.mem_of_getElem? (i := 1) rfl) rfl rfl dX3_readFact_26 ?_
    refine lv_bipush (v := 91) hx hb dX3_readFact_29 (by decide) ?_
    refine tk_Vi hC hK hw hT hA hE hSR kC_at1 (by decide) rfl (k_X6_takeByte_2 l adK adV dC dI cy ad B (by omega) (by omega) qr s1    w87 H.size hT ) (cwV 1 hC.2.2.2.2 gX3_readFact_X6_takeByte rfl rfl rfl (by decide +kernel) ⟨Nat.le_of_ble_eq_true rfl, Nat.le_of_ble_eq_true rfl⟩) rfl hl.1 rfl (Nat.le_of_ble_eq_true rfl) dX3_readFact_31 (fun r93 w95 H locs hp94 hw => ?_)
    obtain ⟨hT, k96, hg101⟩ := hp94
    have hF := hF.tr k96 (by decide)
    have c102 := k96.gi kC_at1 (by decide) c92
    rcases hg101 with rfl | ⟨rfl, ⟨x97, c98, rx97, tx97⟩, ⟨x99, c100, rx99, tx99⟩⟩
    · refine lv_if_eq (tgt := 41) hx hb dX3_readFact_34 (by decide) (fun _ => ?_) (fun c => absurd (by decide) c)
      exact J41 0 H locs ls w95 (by decide) (by decide)  hw hT hF c102 (lv_sub hl [1, 2, 0] rfl)
    · refine lv_if_eq (tgt := 41) hx hb dX3_readFact_34 (by decide) (fun c => absurd c (by decide)) (fun _ => ?_)
      refine lv_iconst (v := 1) hx hb dX3_readFact_37 (by decide) ?_
      refine lv_goto (tgt := 42) hx hb dX3_readFact_38 (by decide) ?_
      refine lv_istore_n (lv' := [(3, .int 1), (2, .int 0), (0, .ref (ad 3)), (1, .int 10)]) hx hb dX3_readFact_42 rfl hl (by decide) rfl (fun ls hl => ?_)
      refine lv_iload_n hx hb dX3_readFact_43 rfl (lv_at hl 1 rfl) ?_
      refine lv_if_ne (tgt := 77) hx hb dX3_readFact_44 (by decide) (fun c => absurd (by decide) c) (fun _ => ?_)
      refine lv_iload_n hx hb dX3_readFact_47 rfl (lv_at hl 0 rfl) ?_
      refine lv_if_ne (tgt := 77) hx hb dX3_readFact_48 (by decide) (fun _ => ?_) (fun c => absurd c (by decide))
      exact J77 0 1 H locs ls w95 (by decide) (by decide) (by decide) (by decide)  hw hT hF c102 (lv_sub hl [2, 3, 1, 0] rfl)
  · refine lv_istore_n (lv' := [(2, .int 1), (0, .ref (ad 3)), (1, .int 10)]) hx hb dX3_readFact_20 rfl hl (by decide) rfl (fun ls hl => ?_)
    refine lv_iload_n hx hb dX3_readFact_21 rfl (lv_at hl 0 rfl) ?_
    refine lv_if_ne (tgt := 41) hx hb dX3_readFact_22 (by decide) (fun _ => ?_) (fun c => absurd c (by decide))
    exact J41 1 H locs ls w87 (by decide) (by decide)  hw hT hF c92 (lv_sub hl [1, 2, 0] rfl)
abbrev P_X3_readTest_11 (ad : Nat → Nat) (cy : Nat → ClassId) (B : Int) (qr : Nat) (s1 : Int)  (w0 : va_W) : va_W → Prop := fun u => TW ksC ad cy B qr s1 u ∧ FE ksC [(2, 3, 3), (3, 2, 2), (6, 1, 1), (6, 3, 3), (6, 4, 4), (22, 0, 13), (23, 0, 400)] w0 u ∧ ((True))
set_option maxHeartbeats 4000000 in
set_option maxRecDepth 100000 in
theorem k_X3_readTest_11 (l : Launch) (adK adV : Nat → Nat) (dC : Nat → ClassId) (dI : Nat → Nat → Nat) (cy : Nat → ClassId) (ad : Nat → Nat) (B : Int) (hB0 : 2147483648 ≤ B) (hB1 : B ≤ 1152921504606846976) (qr : Nat) (s1 : Int) (hqr : ksC[qr]? = some 2)  (w0 : va_W) (sz : Nat) (hT : TW ksC ad cy B qr s1 w0) (cf0_ : gi w0 1 4 = 0) : Met l yX3_readTest wsX3_readTest ({ frames := 9, cells := 0, slots := 0, locals := 235 }) (va_Pc [.ref (ad 3), .int 10] (wpreS adK adV dC dI cy sz w0)) (va_Qv (P_X3_readTest_11 ad cy B qr s1  w0) (fun u : va_W => wpost dC dI cy (va_A w0 sz) u) (va_A w0 sz)) 0 0 (va_A w0 sz) := by
  refine Met.ofW (cc := cX3_readTest) (maxL := 4) (ret := none) (by decide) rfl ?_
  intro p e s m args below meth c s₁ Bk hml hv
  obtain ⟨rfl, ⟨hsz, hP, hK, hD0⟩, hE, hSR⟩ := hv
  have hx := Bk.exec
  have hb := Bk.bytes
  have hr := Bk.returns
  have hlocks := Bk.notSynchronized
  have hC : CallFix p m c cX3_readTest 4 s _ wsX3_readTest RX3 := ⟨hx, hb, hml, findClass_of_methodNamed Bk.named, atoms_spec (ws := wsX3_readTest) Bk.pre⟩
  subst hsz
  have hD := hD0.self (sz := s.heap.size)
  generalize hAe : va_A w0 s.heap.size = A at hD hE ⊢
  have hA : ∀ q : Nat, s.heap.size ≤ q → A q := fun q h => by rw [← hAe]; exact Or.inr h
  have hw : Wd dC dI A s.heap s.heap [] w0 := ⟨hP, hD, va_S.rf⟩
  have hF : FE ksC [(2, 3, 3), (3, 2, 2), (6, 1, 1), (6, 3, 3), (6, 4, 4), (22, 0, 13), (23, 0, 400)] w0 w0 := FE.rf
  have hl := lv_entry ([.ref (ad 3), .int 10]) (n := 4) (Nat.le_of_ble_eq_true rfl)
  rw [lg_entry_eq]
  generalize (lg_sl ([.ref (ad 3), .int 10]) ++ List.replicate (4 - (lg_sl ([.ref (ad 3), .int 10])).length) Slot.unset).toArray = ls at hl ⊢
  have hl : lv_has ls 4 [(0, .ref (ad 3)), (1, .int 10)] := hl
  generalize hloc : ([] : List Loc) = locs at hw ⊢
  have hinX3 : ∀ w ∈ u_ws RX3 TX3 3, w ∈ wsX3_readTest := fun _ h => List.mem_cons_of_mem _ (List.mem_append_left _ (List.mem_append_left _ (List.mem_append_right _ (h))))
  have J86 : ∀ (v86_2 : Int32) (v86_3 : Int32) (H : Heap) (locs : List Loc) (ls : Array Slot) (w1 : va_W), (-1) ≤ v86_2.toInt → v86_2.toInt ≤ 21 → 0 ≤ v86_3.toInt → v86_3.toInt ≤ 400 → Wd dC dI A s.heap H locs w1 → TW ksC ad cy B qr s1 w1 → FE ksC [(2, 3, 3), (3, 2, 2), (6, 1, 1), (6, 3, 3), (6, 4, 4), (22, 0, 13), (23, 0, 400)] w0 w1 → lv_has ls 4 [(0, .ref (ad 3)), (1, .int 10), (2, .int v86_2), (3, .int v86_3)] → W p l e ({ frames := 9, cells := 0, slots := 0, locals := 235 }) s m (List.toArray [.ref (ad 3), .int 10]) below meth c H locs 0 0 (MQ below (va_Qv (P_X3_readTest_11 ad cy B qr s1  w0) (fun u : va_W => wpost dC dI cy A u) A) (List.toArray [.ref (ad 3), .int 10]) s 0 0 A) (F0 m 86 ls []) := by
    intro v86_2 v86_3 H locs ls w1 r2 t3 r4 t5 hw hT hF hl
    refine lv_aload_n hx hb dX3_readTest_86 rfl (lv_at hl 0 rfl) ?_
    refine lv_iload_n hx hb dX3_readTest_87 rfl (lv_at hl 2 rfl) ?_
    refine tk_Vv hC hK hw hT hA hE hSR kC_at3 (by decide) rfl (k_X3_addWaiting_1 l adK adV dC dI cy ad B (by omega) (by omega) qr s1 hqr  v86_2 w1 H.size hT ) (cwV 1 hC.2.2.2.2 gX3_readTest_X3_addWaiting rfl rfl rfl (by decide +kernel) ⟨Nat.le_of_ble_eq_true rfl, Nat.le_of_ble_eq_true rfl⟩) rfl hl.1 rfl (Nat.le_of_ble_eq_true rfl) dX3_readTest_88 (fun w8 H locs hp7 hw => ?_)
    obtain ⟨hT, k9, hg10⟩ := hp7
    have hF := hF.tr k9 (by decide)
    clear hg10
    exact tk_vret hC hr hlocks hK ⟨hT, hF, trivial⟩ hw dX3_readTest_91
  have L9 : ∀ (n9 : Nat) (v9_2 : Int32) (v9_3 : Int32) (H : Heap) (locs : List Loc) (ls : Array Slot) (w11 : va_W), (-1) ≤ v9_2.toInt → v9_2.toInt ≤ 21 → 0 ≤ v9_3.toInt → v9_3.toInt ≤ 400 → (400 - v9_3.toInt).toNat < n9 → Wd dC dI A s.heap H locs w11 → TW ksC ad cy B qr s1 w11 → FE ksC [(2, 3, 3), (3, 2, 2), (6, 1, 1), (6, 3, 3), (6, 4, 4), (22, 0, 13), (23, 0, 400)] w0 w11 → lv_has ls 4 [(0, .ref (ad 3)), (1, .int 10), (2, .int v9_2), (3, .int v9_3)] → W p l e ({ frames := 9, cells := 0, slots := 0, locals := 235 }) s m (List.toArray [.ref (ad 3), .int 10]) below meth c H locs 0 0 (MQ below (va_Qv (P_X3_readTest_11 ad cy B qr s1  w0) (fun u : va_W => wpost dC dI cy A u) A) (List.toArray [.ref (ad 3), .int 10]) s 0 0 A) (F0 m 9 ls []) := by
    intro n9
    induction n9 with
    | zero => intro v9_2 v9_3 H locs ls w11 r12 t13 r14 t15 hm9 hw hT hF hl; omega
    | succ n9 ih9 =>
      intro v9_2 v9_3 H locs ls w11 r12 t13 r14 t15 hm9 hw hT hF hl
      have J80 : ∀ (v80_2 : Int32) (H : Heap) (locs : List Loc) (ls : Array Slot) (w16 : va_W), (-1) ≤ v80_2.toInt → v80_2.toInt ≤ 21 → 0 ≤ v9_3.toInt → v9_3.toInt ≤ 399 → Wd dC dI A s.heap H locs w16 → TW ksC ad cy B qr s1 w16 → FE ksC [(2, 3, 3), (3, 2, 2), (6, 1, 1), (6, 3, 3), (6, 4, 4), (22, 0, 13), (23, 0, 400)] w0 w16 → lv_has ls 4 [(0, .ref (ad 3)), (1, .int 10), (2, .int v80_2), (3, .int v9_3)] → W p l e ({ frames := 9, cells := 0, slots := 0, locals := 235 }) s m (List.toArray [.ref (ad 3), .int 10]) below meth c H locs 0 0 (MQ below (va_Qv (P_X3_readTest_11 ad cy B qr s1  w0) (fun u : va_W => wpost dC dI cy A u) A) (List.toArray [.ref (ad 3), .int 10]) s 0 0 A) (F0 m 80 ls []) := by
        intro v80_2 H locs ls w16 r17 t18 r19 t20 hw hT hF hl
        obtain ⟨x21, ex21⟩ : ∃ y : Int32, y = v9_3 + Int32.ofInt 1 := ⟨_, rfl⟩
        refine lv_iinc (v := x21) (lv' := [(3, .int x21), (0, .ref (ad 3)), (1, .int 10), (2, .int v80_2)]) hx hb dX3_readTest_80 hl (k := 3) rfl ex21.symm (by decide) rfl (fun ls hl => ?_)
        have ex21 : x21.toInt = v9_3.toInt + 1 := by rw [ex21]; exact wk_add (y := 1) (show -2147483648 ≤ v9_3.toInt + 1 by omega) (show v9_3.toInt + 1 ≤ 2147483647 by omega)
        refine lv_goto (tgt := 9) hx hb dX3_readTest_83 (by decide) ?_
        exact ih9 v80_2 x21 H locs ls w16 (show (-1) ≤ v80_2.toInt by omega) (show v80_2.toInt ≤ 21 by omega) (show 0 ≤ x21.toInt by omega) (show x21.toInt ≤ 400 by omega) (show (400 - x21.toInt).toNat < n9 by omega) hw hT hF  (lv_sub hl [1, 2, 3, 0] rfl)
      refine lv_iload_n hx hb dX3_readTest_9 rfl (lv_at hl 3 rfl) ?_
      refine lv_sipush (v := 400) hx hb dX3_readTest_10 (by decide) ?_
      refine lv_icmp_ge (tgt := 86) hx hb dX3_readTest_13 (by decide) (fun c22 => ?_) (fun c22 => ?_)
      · have c22 : (400 : Int) ≤ v9_3.toInt := wk_le.mp c22
        exact J86 v9_2 v9_3 H locs ls w11 (show (-1) ≤ v9_2.toInt by omega) (show v9_2.toInt ≤ 21 by omega) (show 0 ≤ v9_3.toInt by omega) (show v9_3.toInt ≤ 400 by omega)  hw hT hF  (lv_sub hl [0, 1, 2, 3] rfl)
      · have c22 : v9_3.toInt < (400 : Int) := wk_leF c22
        refine lv_aload_n hx hb dX3_readTest_16 rfl (lv_at hl 0 rfl) ?_
        refine tk_getA hC hK hw hT hinX3 kC_at3 (by decide) rfl 0 (by decide) (List.mem_of_getElem? (i := 1) rfl) rfl rfl dX3_readTest_17 ?_
        refine tk_Vi hC hK hw hT hA hE hSR kC_at1 (by decide) rfl (k_X6_isFaulty_1 l adK adV dC dI cy ad B (by omega) (by omega) qr s1    w11 H.size hT ) (cwV 0 hC.2.2.2.2 gX3_readTest_X6_isFaulty rfl rfl rfl (by decide +kernel) ⟨Nat.le_of_ble_eq_true rfl, Nat.le_of_ble_eq_true rfl⟩) rfl hl.1 rfl (Nat.le_of_ble_eq_true rfl) dX3_readTest_20 (fun r23 w25 H locs hp24 hw => ?_)
        obtain ⟨hT, k26, hg31⟩ := hp24
        have hF := hF.tr k26 (by decide)
        rcases hg31 with ⟨rfl, ⟨x27, c28, rx27, tx27⟩⟩ | ⟨rfl, ⟨x29, c30, rx29, tx29⟩⟩
        · refine lv_if_ne (tgt := 86) hx hb dX3_readTest_23 (by decide) (fun c => absurd (by decide) c) (fun _ => ?_)
          refine lv_aload_n hx hb dX3_readTest_26 rfl (lv_at hl 0 rfl) ?_
          refine tk_getA hC hK hw hT hinX3 kC_at3 (by decide) rfl 0 (by decide) (List.mem_of_getElem? (i := 1) rfl) rfl rfl dX3_readTest_27 ?_
          refine va_ldcS hx hb hC.2.2.2.1 hSR.2.2.2.2.2.2.1 dX3_readTest_30 ?_
          refine tk_Vi hC hK hw hT hA hE hSR kC_at1 (by decide) rfl (k_X6_takeWord_2 l adK adV dC dI cy ad B (by omega) (by omega) qr s1    w25 H.size hT ) (cwV 1 hC.2.2.2.2 gX3_readTest_X6_takeWord rfl rfl rfl (by decide +kernel) ⟨Nat.le_of_ble_eq_true rfl, Nat.le_of_ble_eq_true rfl⟩) rfl hl.1 rfl (Nat.le_of_ble_eq_true rfl) dX3_readTest_32 (fun r32 w34 H locs hp33 hw => ?_)
          obtain ⟨hT, k35, hg38⟩ := hp33
          have hF := hF.tr k35 (by decide)
          have c39 := k35.gi kC_at1 (by decide) c28
          rcases hg38 with rfl | ⟨rfl, ⟨x36, c37, rx36, tx36⟩⟩
          · refine lv_if_eq (tgt := 55) hx hb dX3_readTest_35 (by decide) (fun _ => ?_) (fun c => absurd (by decide) c)
            refine lv_aload_n hx hb dX3_readTest_55 rfl (lv_at hl 0 rfl) ?_
            refine tk_getA hC hK hw hT hinX3 kC_at3 (by decide) rfl 0 (by decide) (List.mem_of_getElem? (i := 1) rfl) rfl rfl dX3_readTest_56 ?_
            refine va_ldcS hx hb hC.2.2.2.1 hSR.2.2.2.2.2.2.2 dX3_readTest_59 ?_
            refine tk_Vi hC hK hw hT hA hE hSR kC_at1 (by decide) rfl (k_X6_takeWord_3 l adK adV dC dI cy ad B (by omega) (by omega) qr s1    w34 H.size hT ) (cwV 1 hC.2.2.2.2 gX3_readTest_X6_takeWord rfl rfl rfl (by decide +kernel) ⟨Nat.le_of_ble_eq_true rfl, Nat.le_of_ble_eq_true rfl⟩) rfl hl.1 rfl (Nat.le_of_ble_eq_true rfl) dX3_readTest_61 (fun r40 w42 H locs hp41 hw => ?_)
            obtain ⟨hT, k43, hg46⟩ := hp41
            have hF := hF.tr k43 (by decide)
            have c47 := k43.gi kC_at1 (by decide) c39
            rcases hg46 with rfl | ⟨rfl, ⟨x44, c45, rx44, tx44⟩⟩
            · refine lv_if_eq (tgt := 86) hx hb dX3_readTest_64 (by decide) (fun _ => ?_) (fun c => absurd (by decide) c)
              exact J86 v9_2 v9_3 H locs ls w42 (show (-1) ≤ v9_2.toInt by omega) (show v9_2.toInt ≤ 21 by omega) (show 0 ≤ v9_3.toInt by omega) (show v9_3.toInt ≤ 400 by omega)  hw hT hF  (lv_sub hl [0, 1, 2, 3] rfl)
            · refine lv_if_eq (tgt := 86) hx hb dX3_readTest_64 (by decide) (fun c => absurd c (by decide)) (fun _ => ?_)
              refine lv_aload_n hx hb dX3_readTest_67 rfl (lv_at hl 0 rfl) ?_
              refine lv_iload_n hx hb dX3_readTest_68 rfl (lv_at hl 2 rfl) ?_
              refine tk_Vv hC hK hw hT hA hE hSR kC_at3 (by decide) rfl (k_X3_addWaiting_1 l adK adV dC dI cy ad B (by omega) (by omega) qr s1 hqr  v9_2 w42 H.size hT ) (cwV 1 hC.2.2.2.2 gX3_readTest_X3_addWaiting rfl rfl rfl (by decide +kernel) ⟨Nat.le_of_ble_eq_true rfl, Nat.le_of_ble_eq_true rfl⟩) rfl hl.1 rfl (Nat.le_of_ble_eq_true rfl) dX3_readTest_69 (fun w50 H locs hp49 hw => ?_)
              obtain ⟨hT, k51, hg52⟩ := hp49
              have hF := hF.tr k51 (by decide)
              have c53 := k51.gi kC_at1 (by decide) c47
              have c54 := k51.gi kC_at1 (by decide) c45
              clear hg52
              refine lv_bipush (v := 21) hx hb dX3_readTest_72 (by decide) ?_
              refine lv_istore_n (lv' := [(2, .int 21), (0, .ref (ad 3)), (1, .int 10), (3, .int v9_3)]) hx hb dX3_readTest_74 rfl hl (by decide) rfl (fun ls hl => ?_)
              refine lv_aload_n hx hb dX3_readTest_75 rfl (lv_at hl 1 rfl) ?_
              refine lv_iload_n hx hb dX3_readTest_76 rfl (lv_at hl 2 rfl) ?_
              refine tk_Vv hC hK hw hT hA hE hSR kC_at3 (by decide) rfl (k_X3_readFact_11 l adK adV dC dI cy ad B (by omega) (by omega) qr s1 hqr   w50 H.size hT (c53.trans (wk_eq.mpr (show x27.toInt = 0 by omega)))) (cwV 1 hC.2.2.2.2 gX3_readTest_X3_readFact rfl rfl rfl (by decide +kernel) ⟨Nat.le_of_ble_eq_true rfl, Nat.le_of_ble_eq_true rfl⟩) rfl hl.1 rfl (Nat.le_of_ble_eq_true rfl) dX3_readTest_77 (fun w57 H locs hp56 hw => ?_)
              obtain ⟨hT, k58, hg59⟩ := hp56
              have hF := hF.tr k58 (by decide)
              clear hg59
              exact J80 21 H locs ls w57 (by decide) (by decide) (show 0 ≤ v9_3.toInt by omega) (show v9_3.toInt ≤ 399 by omega)  hw hT hF  (lv_sub hl [1, 2, 0, 3] rfl)
          · refine lv_if_eq (tgt := 55) hx hb dX3_readTest_35 (by decide) (fun c => absurd c (by decide)) (fun _ => ?_)
            refine lv_aload_n hx hb dX3_readTest_38 rfl (lv_at hl 0 rfl) ?_
            refine lv_iload_n hx hb dX3_readTest_39 rfl (lv_at hl 1 rfl) ?_
            refine tk_Vv hC hK hw hT hA hE hSR kC_at3 (by decide) rfl (k_X3_readFact_11 l adK adV dC dI cy ad B (by omega) (by omega) qr s1 hqr   w34 H.size hT (c39.trans (wk_eq.mpr (show x27.toInt = 0 by omega)))) (cwV 1 hC.2.2.2.2 gX3_readTest_X3_readFact rfl rfl rfl (by decide +kernel) ⟨Nat.le_of_ble_eq_true rfl, Nat.le_of_ble_eq_true rfl⟩) rfl hl.1 rfl (Nat.le_of_ble_eq_true rfl) dX3_readTest_40 (fun w62 H locs hp61 hw => ?_)
            obtain ⟨hT, k63, hg64⟩ := hp61
            have hF := hF.tr k63 (by decide)
            clear hg64
            refine lv_aload_n hx hb dX3_readTest_43 rfl (lv_at hl 0 rfl) ?_
            refine tk_getQ hC hK hw hT hqr (by decide) hinX3 kC_at3 (by decide) rfl 1 (by decide) (List.mem_of_getElem? (i := 2) rfl) rfl rfl dX3_readTest_44 ?_
            refine lv_bipush (v := 20) hx hb dX3_readTest_47 (by decide) ?_
            refine tk_Vv hC hK hw hT hA hE hSR hqr (by decide) rfl (k_X2_addToken_1 l adK adV dC dI cy ad B (by omega) (by omega) qr s1   qr hqr 20 w62 H.size hT ) (cwV 1 hC.2.2.2.2 gX3_readTest_X2_addToken rfl rfl rfl (by decide +kernel) ⟨Nat.le_of_ble_eq_true rfl, Nat.le_of_ble_eq_true rfl⟩) rfl hl.1 rfl (Nat.le_of_ble_eq_true rfl) dX3_readTest_49 (fun w67 H locs hp66 hw => ?_)
            obtain ⟨hT, k68, hg71⟩ := hp66
            have hF := hF.tr k68 (by decide)
            obtain ⟨x69, c70, rx69, tx69⟩ := hg71
            refine lv_goto (tgt := 80) hx hb dX3_readTest_52 (by decide) ?_
            exact J80 v9_2 H locs ls w67 (show (-1) ≤ v9_2.toInt by omega) (show v9_2.toInt ≤ 21 by omega) (show 0 ≤ v9_3.toInt by omega) (show v9_3.toInt ≤ 399 by omega)  hw hT hF  (lv_sub hl [0, 1, 2, 3] rfl)
        · refine lv_if_ne (tgt := 86) hx hb dX3_readTest_23 (by decide) (fun _ => ?_) (fun c => absurd c (by decide))
          exact J86 v9_2 v9_3 H locs ls w25 (show (-1) ≤ v9_2.toInt by omega) (show v9_2.toInt ≤ 21 by omega) (show 0 ≤ v9_3.toInt by omega) (show v9_3.toInt ≤ 400 by omega)  hw hT hF  (lv_sub hl [0, 1, 2, 3] rfl)
  refine lv_aload_n hx hb dX3_readTest_0 rfl (lv_at hl 0 rfl) ?_
  refine lv_iload_n hx hb dX3_readTest_1 rfl (lv_at hl 1 rfl) ?_
  refine tk_Vv hC hK hw hT hA hE hSR kC_at3 (by decide) rfl (k_X3_readFact_11 l adK adV dC dI cy ad B (by omega) (by omega) qr s1 hqr   w0 s.heap.size hT cf0_) (cwV 1 hC.2.2.2.2 gX3_readTest_X3_readFact rfl rfl rfl (by decide +kernel) ⟨Nat.le_of_ble_eq_true rfl, Nat.le_of_ble_eq_true rfl⟩) rfl hl.1 rfl (Nat.le_of_ble_eq_true rfl) dX3_readTest_2 (fun w74 H locs hp73 hw => ?_)
  obtain ⟨hT, k75, hg76⟩ := hp73
  have hF := hF.tr k75 (by decide)
  clear hg76
  refine lv_iconst (v := (-1)) hx hb dX3_readTest_5 (by decide) ?_
  refine lv_istore_n (lv' := [(2, .int (-1)), (0, .ref (ad 3)), (1, .int 10)]) hx hb dX3_readTest_6 rfl hl (by decide) rfl (fun ls hl => ?_)
  refine lv_iconst (v := 0) hx hb dX3_readTest_7 (by decide) ?_
  refine lv_istore_n (lv' := [(3, .int 0), (2, .int (-1)), (0, .ref (ad 3)), (1, .int 10)]) hx hb dX3_readTest_8 rfl hl (by decide) rfl (fun ls hl => ?_)
  exact L9 ((400 - (0 : Int)).toNat + 1) (-1) 0 H locs ls w74 (by decide) (by decide) (by decide) (by decide) (Nat.lt_succ_self _) hw hT hF  (lv_sub hl [2, 3, 1, 0] rfl)
abbrev P_X6_takeByte_3 (ad : Nat → Nat) (cy : Nat → ClassId) (B : Int) (qr : Nat) (s1 : Int)  (w0 : va_W) : Int32 → va_W → Prop := fun r u => TW ksC ad cy B qr s1 u ∧ FE ksC [(6, 1, 1), (6, 3, 3)] w0 u ∧ ((r = 0) ∨ (r = 1 ∧ (∃ y : Int32, gi u 1 2 = y ∧ 1 ≤ y.toInt ∧ y.toInt ≤ 400) ∧ (∃ y : Int32, gi u 1 3 = y ∧ 0 ≤ y.toInt ∧ y.toInt ≤ 399)))
set_option maxHeartbeats 4000000 in
set_option maxRecDepth 100000 in
theorem k_X6_takeByte_3 (l : Launch) (adK adV : Nat → Nat) (dC : Nat → ClassId) (dI : Nat → Nat → Nat) (cy : Nat → ClassId) (ad : Nat → Nat) (B : Int) (hB0 : 2147483648 ≤ B) (hB1 : B ≤ 1152921504606846976) (qr : Nat) (s1 : Int)   (w0 : va_W) (sz : Nat) (hT : TW ksC ad cy B qr s1 w0)  : Met l yX6_takeByte wsX6_takeByte ({ frames := 2, cells := 0, slots := 0, locals := 32 }) (va_Pc [.ref (ad 1), .int 93] (wpreS adK adV dC dI cy sz w0)) (va_Qi (P_X6_takeByte_3 ad cy B qr s1  w0) (fun u : va_W => wpost dC dI cy (va_A w0 sz) u) (va_A w0 sz)) 0 0 (va_A w0 sz) := by
  refine Met.ofW (cc := cX6_takeByte) (maxL := 2) (ret := (some .boolean)) (by decide) rfl ?_
  intro p e s m args below meth c s₁ Bk hml hv
  obtain ⟨rfl, ⟨hsz, hP, hK, hD0⟩, hE, hSR⟩ := hv
  have hx := Bk.exec
  have hb := Bk.bytes
  have hr := Bk.returns
  have hlocks := Bk.notSynchronized
  have hC : CallFix p m c cX6_takeByte 2 s _ wsX6_takeByte RX6 := ⟨hx, hb, hml, findClass_of_methodNamed Bk.named, atoms_spec (ws := wsX6_takeByte) Bk.pre⟩
  subst hsz
  have hD := hD0.self (sz := s.heap.size)
  generalize hAe : va_A w0 s.heap.size = A at hD hE ⊢
  have hA : ∀ q : Nat, s.heap.size ≤ q → A q := fun q h => by rw [← hAe]; exact Or.inr h
  have hw : Wd dC dI A s.heap s.heap [] w0 := ⟨hP, hD, va_S.rf⟩
  have hF : FE ksC [(6, 1, 1), (6, 3, 3)] w0 w0 := FE.rf
  have hl := lv_entry ([.ref (ad 1), .int 93]) (n := 2) (Nat.le_of_ble_eq_true rfl)
  rw [lg_entry_eq]
  generalize (lg_sl ([.ref (ad 1), .int 93]) ++ List.replicate (2 - (lg_sl ([.ref (ad 1), .int 93])).length) Slot.unset).toArray = ls at hl ⊢
  have hl : lv_has ls 2 [(0, .ref (ad 1)), (1, .int 93)] := hl
  generalize hloc : ([] : List Loc) = locs at hw ⊢
  refine lv_aload_n hx hb dX6_takeByte_0 rfl (lv_at hl 0 rfl) ?_
  refine tk_Vi hC hK hw hT hA hE hSR kC_at1 (by decide) rfl (k_X6_lookBehindBlanks_1 l adK adV dC dI cy ad B (by omega) (by omega) qr s1    w0 s.heap.size hT ) (cwV 0 hC.2.2.2.2 gX6_takeByte_X6_lookBehindBlanks rfl rfl rfl (by decide +kernel) ⟨Nat.le_of_ble_eq_true rfl, Nat.le_of_ble_eq_true rfl⟩) rfl hl.1 rfl (Nat.le_of_ble_eq_true rfl) dX6_takeByte_1 (fun r1 w3 H locs hp2 hw => ?_)
  obtain ⟨hT, k4, hg13⟩ := hp2
  have hF := hF.tr k4 (by decide)
  rcases hg13 with ⟨g5, g6, ⟨x7, c8, rx7, tx7⟩, ⟨x9, c10, rx9, tx9⟩, ⟨x11, c12, rx11, tx11⟩⟩ | rfl
  · refine lv_iload_n hx hb dX6_takeByte_4 rfl (lv_at hl 1 rfl) ?_
    refine lv_icmp_eq (tgt := 10) hx hb dX6_takeByte_5 (by decide) (fun c14 => ?_) (fun c14 => ?_)
    · have c14 : r1.toInt = (93 : Int) := wk_eq.mp c14
      refine lv_aload_n hx hb dX6_takeByte_10 rfl (lv_at hl 0 rfl) ?_
      refine tk_Vv hC hK hw hT hA hE hSR kC_at1 (by decide) rfl (k_X6_pass_1 l adK adV dC dI cy ad B (by omega) (by omega) qr s1    w3 H.size hT ) (cwV 0 hC.2.2.2.2 gX6_takeByte_X6_pass rfl rfl rfl (by decide +kernel) ⟨Nat.le_of_ble_eq_true rfl, Nat.le_of_ble_eq_true rfl⟩) rfl hl.1 rfl (Nat.le_of_ble_eq_true rfl) dX6_takeByte_11 (fun w17 H locs hp16 hw => ?_)
      obtain ⟨hT, k18, hg19⟩ := hp16
      have hF := hF.tr k18 (by decide)
      have c20 := k18.gi kC_at1 (by decide) c10
      have c21 := k18.gi kC_at1 (by decide) c12
      clear hg19
      refine lv_iconst (v := 1) hx hb dX6_takeByte_14 (by decide) ?_
      exact tk_zret hC hr rfl hlocks hK ⟨hT, hF, (Or.inr ⟨rfl, ⟨x9, c20, (show 1 ≤ x9.toInt by omega), (show x9.toInt ≤ 400 by omega)⟩, ⟨x11, c21, (show 0 ≤ x11.toInt by omega), (show x11.toInt ≤ 399 by omega)⟩⟩)⟩ hw dX6_takeByte_15
    · have c14 : ¬ r1.toInt = (93 : Int) := wk_eqF c14
      refine lv_iconst (v := 0) hx hb dX6_takeByte_8 (by decide) ?_
      exact tk_zret hC hr rfl hlocks hK ⟨hT, hF, (Or.inl rfl)⟩ hw dX6_takeByte_9
  · refine lv_iload_n hx hb dX6_takeByte_4 rfl (lv_at hl 1 rfl) ?_
    refine lv_icmp_eq (tgt := 10) hx hb dX6_takeByte_5 (by decide) (fun c => absurd c (by decide)) (fun _ => ?_)
    refine lv_iconst (v := 0) hx hb dX6_takeByte_8 (by decide) ?_
    exact tk_zret hC hr rfl hlocks hK ⟨hT, hF, (Or.inl rfl)⟩ hw dX6_takeByte_9
abbrev P_X3_readFact_10 (ad : Nat → Nat) (cy : Nat → ClassId) (B : Int) (qr : Nat) (s1 : Int)  (w0 : va_W) : va_W → Prop := fun u => TW ksC ad cy B qr s1 u ∧ FE ksC [(2, 3, 3), (3, 2, 2), (6, 1, 1), (6, 3, 3), (6, 4, 4), (22, 0, 13), (23, 0, 400)] w0 u ∧ ((True))
set_option maxHeartbeats 4000000 in
set_option maxRecDepth 100000 in
theorem k_X3_readFact_10 (l : Launch) (adK adV : Nat → Nat) (dC : Nat → ClassId) (dI : Nat → Nat → Nat) (cy : Nat → ClassId) (ad : Nat → Nat) (B : Int) (hB0 : 2147483648 ≤ B) (hB1 : B ≤ 1152921504606846976) (qr : Nat) (s1 : Int) (hqr : ksC[qr]? = some 2)  (w0 : va_W) (sz : Nat) (hT : TW ksC ad cy B qr s1 w0) (cf0_ : gi w0 1 4 = 0) : Met l yX3_readFact wsX3_readFact ({ frames := 10, cells := 0, slots := 0, locals := 258 }) (va_Pc [.ref (ad 3), .int 9] (wpreS adK adV dC dI cy sz w0)) (va_Qv (P_X3_readFact_10 ad cy B qr s1  w0) (fun u : va_W => wpost dC dI cy (va_A w0 sz) u) (va_A w0 sz)) 0 0 (va_A w0 sz) := by
  refine Met.ofW (cc := cX3_readFact) (maxL := 5) (ret := none) (by decide) rfl ?_
  intro p e s m args below meth c s₁ Bk hml hv
  obtain ⟨rfl, ⟨hsz, hP, hK, hD0⟩, hE, hSR⟩ := hv
  have hx := Bk.exec
  have hb := Bk.bytes
  have hr := Bk.returns
  have hlocks := Bk.notSynchronized
  have hC : CallFix p m c cX3_readFact 5 s _ wsX3_readFact RX3 := ⟨hx, hb, hml, findClass_of_methodNamed Bk.named, atoms_spec (ws := wsX3_readFact) Bk.pre⟩
  subst hsz
  have hD := hD0.self (sz := s.heap.size)
  generalize hAe : va_A w0 s.heap.size = A at hD hE ⊢
  have hA : ∀ q : Nat, s.heap.size ≤ q → A q := fun q h => by rw [← hAe]; exact Or.inr h
  have hw : Wd dC dI A s.heap s.heap [] w0 := ⟨hP, hD, va_S.rf⟩
  have hF : FE ksC [(2, 3, 3), (3, 2, 2), (6, 1, 1), (6, 3, 3), (6, 4, 4), (22, 0, 13), (23, 0, 400)] w0 w0 := FE.rf
  have hl := lv_entry ([.ref (ad 3), .int 9]) (n := 5) (Nat.le_of_ble_eq_true rfl)
  rw [lg_entry_eq]
  generalize (lg_sl ([.ref (ad 3), .int 9]) ++ List.replicate (5 - (lg_sl ([.ref (ad 3), .int 9])).length) Slot.unset).toArray = ls at hl ⊢
  have hl : lv_has ls 5 [(0, .ref (ad 3)), (1, .int 9)] := hl
  generalize hloc : ([] : List Loc) = locs at hw ⊢
  have hinX3 : ∀ w ∈ u_ws RX3 TX3 3, w ∈ wsX3_readFact := fun _ h => List.mem_cons_of_mem _ (List.mem_append_left _ (List.mem_append_left _ (List.mem_append_right _ (h))))
  have J160 : ∀ (v160_2 : Int32) (v160_3 : Int32) (H : Heap) (locs : List Loc) (ls : Array Slot) (w1 : va_W), 0 ≤ v160_2.toInt → v160_2.toInt ≤ 1 → 0 ≤ v160_3.toInt → v160_3.toInt ≤ 1 → Wd dC dI A s.heap H locs w1 → TW ksC ad cy B qr s1 w1 → FE ksC [(2, 3, 3), (3, 2, 2), (6, 1, 1), (6, 3, 3), (6, 4, 4), (22, 0, 13), (23, 0, 400)] w0 w1 → lv_has ls 5 [(0, .ref (ad 3)), (1, .int 9), (2, .int v160_2), (3, .int v160_3)] → W p l e ({ frames := 10, cells := 0, slots := 0, locals := 258 }) s m (List.toArray [.ref (ad 3), .int 9]) below meth c H locs 0 0 (MQ below (va_Qv (P_X3_readFact_10 ad cy B qr s1  w0) (fun u : va_W => wpost dC dI cy A u) A) (List.toArray [.ref (ad 3), .int 9]) s 0 0 A) (F0 m 160 ls []) := by
    intro v160_2 v160_3 H locs ls w1 r2 t3 r4 t5 hw hT hF hl
    exact tk_vret hC hr hlocks hK ⟨hT, hF, trivial⟩ hw dX3_readFact_160
  have J77 : ∀ (v77_2 : Int32) (v77_3 : Int32) (H : Heap) (locs : List Loc) (ls : Array Slot) (w6 : va_W), 0 ≤ v77_2.toInt → v77_2.toInt ≤ 1 → 0 ≤ v77_3.toInt → v77_3.toInt ≤ 1 → Wd dC dI A s.heap H locs w6 → TW ksC ad cy B qr s1 w6 → FE ksC [(2, 3, 3), (3, 2, 2), (6, 1, 1), (6, 3, 3), (6, 4, 4), (22, 0, 13), (23, 0, 400)] w0 w6 → gi w6 1 4 = 0 → lv_has ls 5 [(0, .ref (ad 3)), (1, .int 9), (2, .int v77_2), (3, .int v77_3)] → W p l e ({ frames := 10, cells := 0, slots := 0, locals := 258 }) s m (List.toArray [.ref (ad 3), .int 9]) below meth c H locs 0 0 (MQ below (va_Qv (P_X3_readFact_10 ad cy B qr s1  w0) (fun u : va_W => wpost dC dI cy A u) A) (List.toArray [.ref (ad 3), .int 9]) s 0 0 A) (F0 m 77 ls []) := by
    intro v77_2 v77_3 H locs ls w6 r7 t8 r9 t10 hw hT hF c11 hl
    refine lv_iload_n hx hb dX3_readFact_77 rfl (lv_at hl 1 rfl) ?_
    refine lv_bipush (v := 10) hx hb dX3_readFact_78 (by decide) ?_
    refine lv_icmp_lt (tgt := 101) hx hb dX3_readFact_80 (by decide) (fun _ => ?_) (fun c => absurd (by decide) c)
    refine lv_iload_n hx hb dX3_readFact_101 rfl (lv_at hl 2 rfl) ?_
    refine lv_if_eq (tgt := 124) hx hb dX3_readFact_102 (by decide) (fun c12 => ?_) (fun c12 => ?_)
    · have c12 : v77_2.toInt = (0 : Int) := wk_eq.mp c12
      refine lv_aload_n hx hb dX3_readFact_124 rfl (lv_at hl 0 rfl) ?_
      refine lv_iload_n hx hb dX3_readFact_125 rfl (lv_at hl 1 rfl) ?_
      refine lv_iconst (v := 1) hx hb dX3_readFact_126 (by decide) ?_
      refine lv_iadd hx hb dX3_readFact_127 ?_
      refine wk_top 10 (by decide) ?_
      refine tk_Vv hC hK hw hT hA hE hSR kC_at3 (by decide) rfl (k_X3_readTest_11 l adK adV dC dI cy ad B (by omega) (by omega) qr s1 hqr   w6 H.size hT c11) (cwV 1 hC.2.2.2.2 gX3_readFact_X3_readTest rfl rfl rfl (by decide +kernel) ⟨Nat.le_of_ble_eq_true rfl, Nat.le_of_ble_eq_true rfl⟩) rfl hl.1 rfl (Nat.le_of_ble_eq_true rfl) dX3_readFact_128 (fun w15 H locs hp14 hw => ?_)
      obtain ⟨hT, k16, hg17⟩ := hp14
      have hF := hF.tr k16 (by decide)
      clear hg17
      refine lv_aload_n hx hb dX3_readFact_131 rfl (lv_at hl 0 rfl) ?_
      refine tk_getA hC hK hw hT hinX3 kC_at3 (by decide) rfl 0 (by decide) (List.mem_of_getElem? (i := 1) rfl) rfl rfl dX3_readFact_132 ?_
      refine tk_Vi hC hK hw hT hA hE hSR kC_at1 (by decide) rfl (k_X6_isFaulty_1 l adK adV dC dI cy ad B (by omega) (by omega) qr s1    w15 H.size hT ) (cwV 0 hC.2.2.2.2 gX3_readFact_X6_isFaulty rfl rfl rfl (by decide +kernel) ⟨Nat.le_of_ble_eq_true rfl, Nat.le_of_ble_eq_true rfl⟩) rfl hl.1 rfl (Nat.le_of_ble_eq_true rfl) dX3_readFact_135 (fun r18 w20 H locs hp19 hw => ?_)
      obtain ⟨hT, k21, hg26⟩ := hp19
      have hF := hF.tr k21 (by decide)
      rcases hg26 with ⟨rfl, ⟨x22, c23, rx22, tx22⟩⟩ | ⟨rfl, ⟨x24, c25, rx24, tx24⟩⟩
      · refine lv_if_ne (tgt := 160) hx hb dX3_readFact_138 (by decide) (fun c => absurd (by decide) c) (fun _ => ?_)
        refine lv_aload_n hx hb dX3_readFact_141 rfl (lv_at hl 0 rfl) ?_
        refine tk_getA hC hK hw hT hinX3 kC_at3 (by decide) rfl 0 (by decide) (List.mem_of_getElem? (i := 1) rfl) rfl rfl dX3_readFact_142 ?_
        refine lv_bipush (v := 93) hx hb dX3_readFact_145 (by decide) ?_
        refine tk_Vi hC hK hw hT hA hE hSR kC_at1 (by decide) rfl (k_X6_takeByte_3 l adK adV dC dI cy ad B (by omega) (by omega) qr s1    w20 H.size hT ) (cwV 1 hC.2.2.2.2 gX3_readFact_X6_takeByte rfl rfl rfl (by decide +kernel) ⟨Nat.le_of_ble_eq_true rfl, Nat.le_of_ble_eq_true rfl⟩) rfl hl.1 rfl (Nat.le_of_ble_eq_true rfl) dX3_readFact_147 (fun r27 w29 H locs hp28 hw => ?_)
        obtain ⟨hT, k30, hg35⟩ := hp28
        have hF := hF.tr k30 (by decide)
        have c36 := k30.gi kC_at1 (by decide) c23
        rcases hg35 with rfl | ⟨rfl, ⟨x31, c32, rx31, tx31⟩, ⟨x33, c34, rx33, tx33⟩⟩
        · refine lv_if_ne (tgt := 160) hx hb dX3_readFact_150 (by decide) (fun c => absurd (by decide) c) (fun _ => ?_)
          refine lv_aload_n hx hb dX3_readFact_153 rfl (lv_at hl 0 rfl) ?_
          refine tk_getA hC hK hw hT hinX3 kC_at3 (by decide) rfl 0 (by decide) (List.mem_of_getElem? (i := 1) rfl) rfl rfl dX3_readFact_154 ?_
          refine tk_Vv hC hK hw hT hA hE hSR kC_at1 (by decide) rfl (k_X6_blameHere_1 l adK adV dC dI cy ad B (by omega) (by omega) qr s1    w29 H.size hT (c36.trans (wk_eq.mpr (show x22.toInt = 0 by omega)))) (cwV 0 hC.2.2.2.2 gX3_readFact_X6_blameHere rfl rfl rfl (by decide +kernel) ⟨Nat.le_of_ble_eq_true rfl, Nat.le_of_ble_eq_true rfl⟩) rfl hl.1 rfl (Nat.le_of_ble_eq_true rfl) dX3_readFact_157 (fun w39 H locs hp38 hw => ?_)
          obtain ⟨hT, k40, hg43⟩ := hp38
          have hF := hF.tr k40 (by decide)
          obtain ⟨x41, c42, rx41, tx41⟩ := hg43
          exact J160 v77_2 v77_3 H locs ls w39 (show 0 ≤ v77_2.toInt by omega) (show v77_2.toInt ≤ 1 by omega) (show 0 ≤ v77_3.toInt by omega) (show v77_3.toInt ≤ 1 by omega)  hw hT hF  (lv_sub hl [0, 1, 2, 3] rfl)
        · refine lv_if_ne (tgt := 160) hx hb dX3_readFact_150 (by decide) (fun _ => ?_) (fun c => absurd c (by decide))
          exact J160 v77_2 v77_3 H locs ls w29 (show 0 ≤ v77_2.toInt by omega) (show v77_2.toInt ≤ 1 by omega) (show 0 ≤ v77_3.toInt by omega) (show v77_3.toInt ≤ 1 by omega)  hw hT hF  (lv_sub hl [0, 1, 2, 3] rfl)
      · refine lv_if_ne (tgt := 160) hx hb dX3_readFact_138 (by decide) (fun _ => ?_) (fun c => absurd c (by decide))
        exact J160 v77_2 v77_3 H locs ls w20 (show 0 ≤ v77_2.toInt by omega) (show v77_2.toInt ≤ 1 by omega) (show 0 ≤ v77_3.toInt by omega) (show v77_3.toInt ≤ 1 by omega)  hw hT hF  (lv_sub hl [0, 1, 2, 3] rfl)
    · have c12 : ¬ v77_2.toInt = (0 : Int) := wk_eqF c12
      refine lv_aload_n hx hb dX3_readFact_105 rfl (lv_at hl 0 rfl) ?_
      refine lv_iload_n hx hb dX3_readFact_106 rfl (lv_at hl 1 rfl) ?_
      refine lv_iconst (v := 1) hx hb dX3_readFact_107 (by decide) ?_
      refine lv_iadd hx hb dX3_readFact_108 ?_
      refine wk_top 10 (by decide) ?_
      refine tk_Vv hC hK hw hT hA hE hSR kC_at3 (by decide) rfl (k_X3_readFact_11 l adK adV dC dI cy ad B (by omega) (by omega) qr s1 hqr   w6 H.size hT c11) (cwV 1 hC.2.2.2.2 gX3_readFact_X3_readFact rfl rfl rfl (by decide +kernel) ⟨Nat.le_of_ble_eq_true rfl, Nat.le_of_ble_eq_true rfl⟩) rfl hl.1 rfl (Nat.le_of_ble_eq_true rfl) dX3_readFact_109 (fun w46 H locs hp45 hw => ?_)
      obtain ⟨hT, k47, hg48⟩ := hp45
      have hF := hF.tr k47 (by decide)
      clear hg48
      refine lv_aload_n hx hb dX3_readFact_112 rfl (lv_at hl 0 rfl) ?_
      refine tk_getQ hC hK hw hT hqr (by decide) hinX3 kC_at3 (by decide) rfl 1 (by decide) (List.mem_of_getElem? (i := 2) rfl) rfl rfl dX3_readFact_113 ?_
      refine lv_bipush (v := 19) hx hb dX3_readFact_116 (by decide) ?_
      refine tk_Vv hC hK hw hT hA hE hSR hqr (by decide) rfl (k_X2_addToken_1 l adK adV dC dI cy ad B (by omega) (by omega) qr s1   qr hqr 19 w46 H.size hT ) (cwV 1 hC.2.2.2.2 gX3_readFact_X2_addToken rfl rfl rfl (by decide +kernel) ⟨Nat.le_of_ble_eq_true rfl, Nat.le_of_ble_eq_true rfl⟩) rfl hl.1 rfl (Nat.le_of_ble_eq_true rfl) dX3_readFact_118 (fun w51 H locs hp50 hw => ?_)
      obtain ⟨hT, k52, hg55⟩ := hp50
      have hF := hF.tr k52 (by decide)
      obtain ⟨x53, c54, rx53, tx53⟩ := hg55
      refine lv_goto (tgt := 160) hx hb dX3_readFact_121 (by decide) ?_
      exact J160 v77_2 v77_3 H locs ls w51 (show 0 ≤ v77_2.toInt by omega) (show v77_2.toInt ≤ 1 by omega) (show 0 ≤ v77_3.toInt by omega) (show v77_3.toInt ≤ 1 by omega)  hw hT hF  (lv_sub hl [0, 1, 2, 3] rfl)
  have J41 : ∀ (v41_2 : Int32) (H : Heap) (locs : List Loc) (ls : Array Slot) (w56 : va_W), 0 ≤ v41_2.toInt → v41_2.toInt ≤ 1 → Wd dC dI A s.heap H locs w56 → TW ksC ad cy B qr s1 w56 → FE ksC [(2, 3, 3), (3, 2, 2), (6, 1, 1), (6, 3, 3), (6, 4, 4), (22, 0, 13), (23, 0, 400)] w0 w56 → gi w56 1 4 = 0 → lv_has ls 5 [(0, .ref (ad 3)), (1, .int 9), (2, .int v41_2)] → W p l e ({ frames := 10, cells := 0, slots := 0, locals := 258 }) s m (List.toArray [.ref (ad 3), .int 9]) below meth c H locs 0 0 (MQ below (va_Qv (P_X3_readFact_10 ad cy B qr s1  w0) (fun u : va_W => wpost dC dI cy A u) A) (List.toArray [.ref (ad 3), .int 9]) s 0 0 A) (F0 m 41 ls []) := by
    intro v41_2 H locs ls w56 r57 t58 hw hT hF c59 hl
    refine lv_iconst (v := 0) hx hb dX3_readFact_41 (by decide) ?_
    refine lv_istore_n (lv' := [(3, .int 0), (0, .ref (ad 3)), (1, .int 9), (2, .int v41_2)]) hx hb dX3_readFact_42 rfl hl (by decide) rfl (fun ls hl => ?_)
    refine lv_iload_n hx hb dX3_readFact_43 rfl (lv_at hl 3 rfl) ?_
    refine lv_if_ne (tgt := 77) hx hb dX3_readFact_44 (by decide) (fun c60 => ?_) (fun c60 => ?_)
    · have c60 : ¬ v41_2.toInt = (0 : Int) := wk_eqF c60
      exact J77 v41_2 0 H locs ls w56 (show 0 ≤ v41_2.toInt by omega) (show v41_2.toInt ≤ 1 by omega) (by decide) (by decide)  hw hT hF c59 (lv_sub hl [1, 2, 3, 0] rfl)
    · have c60 : v41_2.toInt = (0 : Int) := wk_eq.mp c60
      refine lv_iload_n hx hb dX3_readFact_47 rfl (lv_at hl 0 rfl) ?_
      refine lv_if_ne (tgt := 77) hx hb dX3_readFact_48 (by decide) (fun c => absurd (by decide) c) (fun _ => ?_)
      refine lv_aload_n hx hb dX3_readFact_51 rfl (lv_at hl 1 rfl) ?_
      refine tk_Vv hC hK hw hT hA hE hSR kC_at3 (by decide) rfl (k_X3_readSum_1 l adK adV dC dI cy ad B (by omega) (by omega) qr s1 hqr   w56 H.size hT c59) (cwV 0 hC.2.2.2.2 gX3_readFact_X3_readSum rfl rfl rfl (by decide +kernel) ⟨Nat.le_of_ble_eq_true rfl, Nat.le_of_ble_eq_true rfl⟩) rfl hl.1 rfl (Nat.le_of_ble_eq_true rfl) dX3_readFact_52 (fun w63 H locs hp62 hw => ?_)
      obtain ⟨hT, k64, hg65⟩ := hp62
      have hF := hF.tr k64 (by decide)
      clear hg65
      refine lv_aload_n hx hb dX3_readFact_55 rfl (lv_at hl 1 rfl) ?_
      refine tk_Vi hC hK hw hT hA hE hSR kC_at3 (by decide) rfl (k_X3_readSign_1 l adK adV dC dI cy ad B (by omega) (by omega) qr s1    w63 H.size hT ) (cwV 0 hC.2.2.2.2 gX3_readFact_X3_readSign rfl rfl rfl (by decide +kernel) ⟨Nat.le_of_ble_eq_true rfl, Nat.le_of_ble_eq_true rfl⟩) rfl hl.1 rfl (Nat.le_of_ble_eq_true rfl) dX3_readFact_56 (fun r66 w68 H locs hp67 hw => ?_)
      obtain ⟨hT, k69, hg80⟩ := hp67
      have hF := hF.tr k69 (by decide)
      rcases hg80 with ⟨rfl, ⟨x70, c71, rx70, tx70⟩⟩ | ⟨g72, g73, ⟨x74, c75, rx74, tx74⟩, ⟨x76, c77, rx76, tx76⟩, ⟨x78, c79, rx78, tx78⟩⟩
      · refine lv_istore (lv' := [(4, .int 16), (3, .int 0), (0, .ref (ad 3)), (1, .int 9), (2, .int v41_2)]) hx hb dX3_readFact_59 hl (by decide) rfl (fun ls hl => ?_)
        refine lv_aload_n hx hb dX3_readFact_61 rfl (lv_at hl 2 rfl) ?_
        refine tk_Vv hC hK hw hT hA hE hSR kC_at3 (by decide) rfl (k_X3_readSum_2 l adK adV dC dI cy ad B (by omega) (by omega) qr s1 hqr   w68 H.size hT x70 c71 (show 1 ≤ x70.toInt by omega) (show x70.toInt ≤ 3205 by omega)) (cwV 0 hC.2.2.2.2 gX3_readFact_X3_readSum rfl rfl rfl (by decide +kernel) ⟨Nat.le_of_ble_eq_true rfl, Nat.le_of_ble_eq_true rfl⟩) rfl hl.1 rfl (Nat.le_of_ble_eq_true rfl) dX3_readFact_62 (fun w83 H locs hp82 hw => ?_)
        obtain ⟨hT, k84, hg87⟩ := hp82
        have hF := hF.tr k84 (by decide)
        have c88 := k84.gi kC_at1 (by decide) c71
        obtain ⟨x85, c86, rx85, tx85⟩ := hg87
        have ex85 : x85.toInt = x70.toInt := by rw [← c88.symm.trans c86]
        refine lv_aload_n hx hb dX3_readFact_65 rfl (lv_at hl 2 rfl) ?_
        refine tk_getQ hC hK hw hT hqr (by decide) hinX3 kC_at3 (by decide) rfl 1 (by decide) (List.mem_of_getElem? (i := 2) rfl) rfl rfl dX3_readFact_66 ?_
        refine lv_iload hx hb dX3_readFact_69 (lv_at hl 0 rfl) ?_
        refine tk_Vv hC hK hw hT hA hE hSR hqr (by decide) rfl (k_X2_addToken_1 l adK adV dC dI cy ad B (by omega) (by omega) qr s1   qr hqr 16 w83 H.size hT ) (cwV 1 hC.2.2.2.2 gX3_readFact_X2_addToken rfl rfl rfl (by decide +kernel) ⟨Nat.le_of_ble_eq_true rfl, Nat.le_of_ble_eq_true rfl⟩) rfl hl.1 rfl (Nat.le_of_ble_eq_true rfl) dX3_readFact_71 (fun w91 H locs hp90 hw => ?_)
        obtain ⟨hT, k92, hg95⟩ := hp90
        have hF := hF.tr k92 (by decide)
        have c96 := k92.gi kC_at1 (by decide) c88
        obtain ⟨x93, c94, rx93, tx93⟩ := hg95
        refine lv_goto (tgt := 160) hx hb dX3_readFact_74 (by decide) ?_
        exact J160 v41_2 0 H locs ls w91 (show 0 ≤ v41_2.toInt by omega) (show v41_2.toInt ≤ 1 by omega) (by decide) (by decide)  hw hT hF  (lv_sub hl [2, 3, 4, 1] rfl)
      · refine lv_istore (lv' := [(4, .int r66), (3, .int 0), (0, .ref (ad 3)), (1, .int 9), (2, .int v41_2)]) hx hb dX3_readFact_59 hl (by decide) rfl (fun ls hl => ?_)
        refine lv_aload_n hx hb dX3_readFact_61 rfl (lv_at hl 2 rfl) ?_
        refine tk_Vv hC hK hw hT hA hE hSR kC_at3 (by decide) rfl (k_X3_readSum_3 l adK adV dC dI cy ad B (by omega) (by omega) qr s1 hqr   w68 H.size hT ) (cwV 0 hC.2.2.2.2 gX3_readFact_X3_readSum rfl rfl rfl (by decide +kernel) ⟨Nat.le_of_ble_eq_true rfl, Nat.le_of_ble_eq_true rfl⟩) rfl hl.1 rfl (Nat.le_of_ble_eq_true rfl) dX3_readFact_62 (fun w99 H locs hp98 hw => ?_)
        obtain ⟨hT, k100, hg101⟩ := hp98
        have hF := hF.tr k100 (by decide)
        have c102 := k100.gi kC_at1 (by decide) c75
        clear hg101
        refine lv_aload_n hx hb dX3_readFact_65 rfl (lv_at hl 2 rfl) ?_
        refine tk_getQ hC hK hw hT hqr (by decide) hinX3 kC_at3 (by decide) rfl 1 (by decide) (List.mem_of_getElem? (i := 2) rfl) rfl rfl dX3_readFact_66 ?_
        refine lv_iload hx hb dX3_readFact_69 (lv_at hl 0 rfl) ?_
        refine tk_Vv hC hK hw hT hA hE hSR hqr (by decide) rfl (k_X2_addToken_1 l adK adV dC dI cy ad B (by omega) (by omega) qr s1   qr hqr r66 w99 H.size hT ) (cwV 1 hC.2.2.2.2 gX3_readFact_X2_addToken rfl rfl rfl (by decide +kernel) ⟨Nat.le_of_ble_eq_true rfl, Nat.le_of_ble_eq_true rfl⟩) rfl hl.1 rfl (Nat.le_of_ble_eq_true rfl) dX3_readFact_71 (fun w105 H locs hp104 hw => ?_)
        obtain ⟨hT, k106, hg109⟩ := hp104
        have hF := hF.tr k106 (by decide)
        have c110 := k106.gi kC_at1 (by decide) c102
        obtain ⟨x107, c108, rx107, tx107⟩ := hg109
        refine lv_goto (tgt := 160) hx hb dX3_readFact_74 (by decide) ?_
        exact J160 v41_2 0 H locs ls w105 (show 0 ≤ v41_2.toInt by omega) (show v41_2.toInt ≤ 1 by omega) (by decide) (by decide)  hw hT hF  (lv_sub hl [2, 3, 4, 1] rfl)
  refine lv_aload_n hx hb dX3_readFact_0 rfl (lv_at hl 0 rfl) ?_
  refine tk_getA hC hK hw hT hinX3 kC_at3 (by decide) rfl 0 (by decide) (List.mem_of_getElem? (i := 1) rfl) rfl rfl dX3_readFact_1 ?_
  refine tk_Vi hC hK hw hT hA hE hSR kC_at1 (by decide) rfl (k_X6_isFaulty_2 l adK adV dC dI cy ad B (by omega) (by omega) qr s1    w0 s.heap.size hT cf0_) (cwV 0 hC.2.2.2.2 gX3_readFact_X6_isFaulty rfl rfl rfl (by decide +kernel) ⟨Nat.le_of_ble_eq_true rfl, Nat.le_of_ble_eq_true rfl⟩) rfl hl.1 rfl (Nat.le_of_ble_eq_true rfl) dX3_readFact_4 (fun r111 w113 H locs hp112 hw => ?_)
  obtain ⟨hT, k114, hg117⟩ := hp112
  have hF := hF.tr k114 (by decide)
  have c118 := k114.gi kC_at1 (by decide) cf0_
  obtain ⟨rfl, ⟨x115, c116, rx115, tx115⟩⟩ := hg117
  have ex115 : x115.toInt = (0 : Int) := by rw [show x115 = 0 from c116.symm.trans c118]; decide
  refine lv_if_eq (tgt := 11) hx hb dX3_readFact_7 (by decide) (fun _ => ?_) (fun c => absurd (by decide) c)
  refine lv_aload_n hx hb dX3_readFact_11 rfl (lv_at hl 0 rfl) ?_
  refine tk_getA hC hK hw hT hinX3 kC_at3 (by decide) rfl 0 (by decide) (List.mem_of_getElem? (i := 1) rfl) rfl rfl dX3_readFact_12 ?_
  refine va_ldcS hx hb hC.2.2.2.1 hSR.2.2.2.2.1 dX3_readFact_15 ?_
  refine tk_Vi hC hK hw hT hA hE hSR kC_at1 (by decide) rfl (k_X6_takeWord_4 l adK adV dC dI cy ad B (by omega) (by omega) qr s1    w113 H.size hT ) (cwV 1 hC.2.2.2.2 gX3_readFact_X6_takeWord rfl rfl rfl (by decide +kernel) ⟨Nat.le_of_ble_eq_true rfl, Nat.le_of_ble_eq_true rfl⟩) rfl hl.1 rfl (Nat.le_of_ble_eq_true rfl) dX3_readFact_17 (fun r119 w121 H locs hp120 hw => ?_)
  obtain ⟨hT, k122, hg125⟩ := hp120
  have hF := hF.tr k122 (by decide)
  have c126 := k122.gi kC_at1 (by decide) c118
  rcases hg125 with rfl | ⟨rfl, ⟨x123, c124, rx123, tx123⟩⟩
  · refine lv_istore_n (lv' := [(2, .int 0), (0, .ref (ad 3)), (1, .int 9)]) hx hb dX3_readFact_20 rfl hl (by decide) rfl (fun ls hl => ?_)
    refine lv_iload_n hx hb dX3_readFact_21 rfl (lv_at hl 0 rfl) ?_
    refine lv_if_ne (tgt := 41) hx hb dX3_readFact_22 (by decide) (fun c => absurd (by decide) c) (fun _ => ?_)
    refine lv_aload_n hx hb dX3_readFact_25 rfl (lv_at hl 1 rfl) ?_
    refine tk_getA hC hK hw hT hinX3 kC_at3 (by decide) rfl 0 (by decide) (List.mem_of_getElem? (i := 1) rfl) rfl rfl dX3_readFact_26 ?_
    refine lv_bipush (v := 91) hx hb dX3_readFact_29 (by decide) ?_
    refine tk_Vi hC hK hw hT hA hE hSR kC_at1 (by decide) rfl (k_X6_takeByte_2 l adK adV dC dI cy ad B (by omega) (by omega) qr s1    w121 H.size hT ) (cwV 1 hC.2.2.2.2 gX3_readFact_X6_takeByte rfl rfl rfl (by decide +kernel) ⟨Nat.le_of_ble_eq_true rfl, Nat.le_of_ble_eq_true rfl⟩) rfl hl.1 rfl (Nat.le_of_ble_eq_true rfl) dX3_readFact_31 (fun r127 w129 H locs hp128 hw => ?_)
    obtain ⟨hT, k130, hg135⟩ := hp128
    have hF := hF.tr k130 (by decide)
    have c136 := k130.gi kC_at1 (by decide) c126
    rcases hg135 with rfl | ⟨rfl, ⟨x131, c132, rx131, tx131⟩, ⟨x133, c134, rx133, tx133⟩⟩
    · refine lv_if_eq (tgt := 41) hx hb dX3_readFact_34 (by decide) (fun _ => ?_) (fun c => absurd (by decide) c)
      exact J41 0 H locs ls w129 (by decide) (by decide)  hw hT hF c136 (lv_sub hl [1, 2, 0] rfl)
    · refine lv_if_eq (tgt := 41) hx hb dX3_readFact_34 (by decide) (fun c => absurd c (by decide)) (fun _ => ?_)
      refine lv_iconst (v := 1) hx hb dX3_readFact_37 (by decide) ?_
      refine lv_goto (tgt := 42) hx hb dX3_readFact_38 (by decide) ?_
      refine lv_istore_n (lv' := [(3, .int 1), (2, .int 0), (0, .ref (ad 3)), (1, .int 9)]) hx hb dX3_readFact_42 rfl hl (by decide) rfl (fun ls hl => ?_)
      refine lv_iload_n hx hb dX3_readFact_43 rfl (lv_at hl 1 rfl) ?_
      refine lv_if_ne (tgt := 77) hx hb dX3_readFact_44 (by decide) (fun c => absurd (by decide) c) (fun _ => ?_)
      refine lv_iload_n hx hb dX3_readFact_47 rfl (lv_at hl 0 rfl) ?_
      refine lv_if_ne (tgt := 77) hx hb dX3_readFact_48 (by decide) (fun _ => ?_) (fun c => absurd c (by decide))
      exact J77 0 1 H locs ls w129 (by decide) (by decide) (by decide) (by decide)  hw hT hF c136 (lv_sub hl [2, 3, 1, 0] rfl)
  · refine lv_istore_n (lv' := [(2, .int 1), (0, .ref (ad 3)), (1, .int 9)]) hx hb dX3_readFact_20 rfl hl (by decide) rfl (fun ls hl => ?_)
    refine lv_iload_n hx hb dX3_readFact_21 rfl (lv_at hl 0 rfl) ?_
    refine lv_if_ne (tgt := 41) hx hb dX3_readFact_22 (by decide) (fun _ => ?_) (fun c => absurd c (by decide))
    exact J41 1 H locs ls w121 (by decide) (by decide)  hw hT hF c126 (lv_sub hl [1, 2, 0] rfl)
