abbrev Pz_X6_hasRoom_1 (ad : Nat → Nat) (cy : Nat → ClassId) (B : Int) (qr : Nat) (s1 : Int)  (w0 : va_W) : Int32 → va_W → Prop := fun r u => TW ksC ad cy B qr s1 u ∧ FE ksC ([] : List (Nat × Nat × Nat)) w0 u ∧ Ev (fun n => m_X6_hasRoom n 1 (sI w0)) (r.toInt, sI u) ∧ ((r = 0 ∧ (∃ y : Int32, gi u 1 2 = y ∧ 381 ≤ y.toInt ∧ y.toInt ≤ 400)) ∨ (r = 1 ∧ (∃ y : Int32, gi u 1 2 = y ∧ 0 ≤ y.toInt ∧ y.toInt ≤ 380)))
set_option maxHeartbeats 4000000 in
set_option maxRecDepth 100000 in
theorem kz_X6_hasRoom_1 (l : Launch) (adK adV : Nat → Nat) (dC : Nat → ClassId) (dI : Nat → Nat → Nat) (cy : Nat → ClassId) (ad : Nat → Nat) (B : Int) (hB0 : 2147483648 ≤ B) (hB1 : B ≤ 1152921504606846976) (qr : Nat) (s1 : Int)   (w0 : va_W) (sz : Nat) (hT : TW ksC ad cy B qr s1 w0)  : Met l yX6_hasRoom (wu yX6_hasRoom cX6_hasRoom 1 (some .boolean)) ({ frames := 1, cells := 0, slots := 0, locals := 12 }) (va_Pc [.ref (ad 1)] (wpreS adK adV dC dI cy sz w0)) (va_Qi (Pz_X6_hasRoom_1 ad cy B qr s1  w0) (fun u : va_W => wpost dC dI cy (va_A w0 sz) u) (va_A w0 sz)) 0 0 (va_A w0 sz) := by
  refine Met.ofW (cc := cX6_hasRoom) (maxL := 1) (ret := (some .boolean)) (by decide) rfl ?_
  intro p e s m args below meth c s₁ Bk hml hv
  obtain ⟨rfl, ⟨hsz, hP, hK, hD0⟩, hE, hSR⟩ := hv
  have hx := Bk.exec
  have hb := Bk.bytes
  have hr := Bk.returns
  have hlocks := Bk.notSynchronized
  have hC : CallFix p m c cX6_hasRoom 1 s _ (wu yX6_hasRoom cX6_hasRoom 1 (some .boolean)) RX6 := ⟨hx, hb, hml, findClass_of_methodNamed Bk.named, atoms_spec (ws := (wu yX6_hasRoom cX6_hasRoom 1 (some .boolean))) Bk.pre⟩
  subst hsz
  have hD := hD0.self (sz := s.heap.size)
  generalize hAe : va_A w0 s.heap.size = A at hD hE ⊢
  have hA : ∀ q : Nat, s.heap.size ≤ q → A q := fun q h => by rw [← hAe]; exact Or.inr h
  have hw : Wd dC dI A s.heap s.heap [] w0 := ⟨hP, hD, va_S.rf⟩
  have hF : FE ksC ([] : List (Nat × Nat × Nat)) w0 w0 := FE.rf
  have hl := lv_entry ([.ref (ad 1)]) (n := 1) (Nat.le_of_ble_eq_true rfl)
  rw [lg_entry_eq]
  generalize (lg_sl ([.ref (ad 1)]) ++ List.replicate (1 - (lg_sl ([.ref (ad 1)])).length) Slot.unset).toArray = ls at hl ⊢
  have hl : lv_has ls 1 [(0, .ref (ad 1))] := hl
  generalize hloc : ([] : List Loc) = locs at hw ⊢
  have hinX6 : ∀ w ∈ u_ws RX6 TX6 5, w ∈ (wu yX6_hasRoom cX6_hasRoom 1 (some .boolean)) := fun _ h => List.mem_cons_of_mem _ (up_72 h)
  have hM : TT (fun n => m_X6_hasRoom n 1 (sI w0)) (fun n => m_X6_hasRoom n 1 (sI w0)) := TT.rf
  refine lv_aload_n hx hb dX6_hasRoom_0 rfl (lv_at hl 0 rfl) ?_
  refine tk_geti hC hK hw hT hinX6 kC_at1 (by decide) rfl 2 (by decide) (List.mem_cons_of_mem _ uw_7_22) rfl rfl dX6_hasRoom_1 (fun x1 c2 rx1 tx1 => ?_)
  replace hM := hM.rd (sI_at c2)
  refine lv_bipush (v := 20) hx hb dX6_hasRoom_4 (by decide) ?_
  refine lv_iadd hx hb dX6_hasRoom_6 ?_
  refine lv_topi (fun x3 ex3 => ?_)
  have ezx3 := ex3
  have ex3 : x3.toInt = x1.toInt + (20 : Int) := by rw [ex3]; exact wk_add (show (-2147483648) ≤ x1.toInt + (20 : Int) by omega) (show x1.toInt + (20 : Int) ≤ 2147483647 by omega)
  replace hM := hM.lt ex3.symm
  refine lv_sipush (v := 400) hx hb dX6_hasRoom_7 (by decide) ?_
  refine lv_icmp_gt (tgt := 17) hx hb dX6_hasRoom_10 (by decide) (fun c4 => ?_) (fun c4 => ?_)
  · have c4 : (400 : Int) < x3.toInt := wk_lt.mp c4
    replace hM := hM.pos c4
    refine lv_iconst (v := 0) hx hb dX6_hasRoom_17 (by decide) ?_
    exact tk_zret hC hr rfl hlocks hK ⟨hT, hF, hM.ret (by decide), (Or.inl ⟨rfl, ⟨x1, c2, (show 381 ≤ x1.toInt by omega), (show x1.toInt ≤ 400 by omega)⟩⟩)⟩ hw dX6_hasRoom_18
  · have c4 : x3.toInt ≤ (400 : Int) := wk_ltF c4
    replace hM := hM.neg (Int.not_lt.mpr c4)
    refine lv_iconst (v := 1) hx hb dX6_hasRoom_13 (by decide) ?_
    refine lv_goto (tgt := 18) hx hb dX6_hasRoom_14 (by decide) ?_
    exact tk_zret hC hr rfl hlocks hK ⟨hT, hF, hM.ret (by decide), (Or.inr ⟨rfl, ⟨x1, c2, (show 0 ≤ x1.toInt by omega), (show x1.toInt ≤ 380 by omega)⟩⟩)⟩ hw dX6_hasRoom_18
abbrev Pz_X6_append_1 (ad : Nat → Nat) (cy : Nat → ClassId) (B : Int) (qr : Nat) (s1 : Int) (a1 : Int32) (w0 : va_W) : va_W → Prop := fun u => TW ksC ad cy B qr s1 u ∧ FE ksC [(6, 2, 2), (20, 0, 400)] w0 u ∧ Ev (fun n => m_X6_append n 1 a1.toInt (sI w0)) (0, sI u) ∧ ((True))
set_option maxHeartbeats 4000000 in
set_option maxRecDepth 100000 in
theorem kz_X6_append_1 (l : Launch) (adK adV : Nat → Nat) (dC : Nat → ClassId) (dI : Nat → Nat → Nat) (cy : Nat → ClassId) (ad : Nat → Nat) (B : Int) (hB0 : 2147483648 ≤ B) (hB1 : B ≤ 1152921504606846976) (qr : Nat) (s1 : Int)  (a1 : Int32) (w0 : va_W) (sz : Nat) (hT : TW ksC ad cy B qr s1 w0)  : Met l yX6_append (wu yX6_append cX6_append 3 none) ({ frames := 1, cells := 0, slots := 0, locals := 12 }) (va_Pc [.ref (ad 1), .int a1] (wpreS adK adV dC dI cy sz w0)) (va_Qv (Pz_X6_append_1 ad cy B qr s1 a1 w0) (fun u : va_W => wpost dC dI cy (va_A w0 sz) u) (va_A w0 sz)) 0 0 (va_A w0 sz) := by
  refine Met.ofW (cc := cX6_append) (maxL := 3) (ret := none) (by decide) rfl ?_
  intro p e s m args below meth c s₁ Bk hml hv
  obtain ⟨rfl, ⟨hsz, hP, hK, hD0⟩, hE, hSR⟩ := hv
  have hx := Bk.exec
  have hb := Bk.bytes
  have hr := Bk.returns
  have hlocks := Bk.notSynchronized
  have hC : CallFix p m c cX6_append 3 s _ (wu yX6_append cX6_append 3 none) RX6 := ⟨hx, hb, hml, findClass_of_methodNamed Bk.named, atoms_spec (ws := (wu yX6_append cX6_append 3 none)) Bk.pre⟩
  subst hsz
  have hD := hD0.self (sz := s.heap.size)
  generalize hAe : va_A w0 s.heap.size = A at hD hE ⊢
  have hA : ∀ q : Nat, s.heap.size ≤ q → A q := fun q h => by rw [← hAe]; exact Or.inr h
  have hw : Wd dC dI A s.heap s.heap [] w0 := ⟨hP, hD, va_S.rf⟩
  have hF : FE ksC [(6, 2, 2), (20, 0, 400)] w0 w0 := FE.rf
  have hl := lv_entry ([.ref (ad 1), .int a1]) (n := 3) (Nat.le_of_ble_eq_true rfl)
  rw [lg_entry_eq]
  generalize (lg_sl ([.ref (ad 1), .int a1]) ++ List.replicate (3 - (lg_sl ([.ref (ad 1), .int a1])).length) Slot.unset).toArray = ls at hl ⊢
  have hl : lv_has ls 3 [(0, .ref (ad 1)), (1, .int a1)] := hl
  generalize hloc : ([] : List Loc) = locs at hw ⊢
  have hinX6 : ∀ w ∈ u_ws RX6 TX6 5, w ∈ (wu yX6_append cX6_append 3 none) := fun _ h => List.mem_cons_of_mem _ (up_72 h)
  have J49 : ∀ (v49_2 : Int32) (H : Heap) (locs : List Loc) (ls : Array Slot) (w1 : va_W), (-8) ≤ v49_2.toInt → v49_2.toInt ≤ 24 → Wd dC dI A s.heap H locs w1 → TW ksC ad cy B qr s1 w1 → FE ksC [(6, 2, 2), (20, 0, 400)] w0 w1 → TT (fun n => m_X6_append n 1 a1.toInt (sI w0)) (fun n => b_X6_append_49 (j_X6_append 1 n) n 1 (sI w1)) → lv_has ls 3 [(0, .ref (ad 1)), (1, .int a1), (2, .int v49_2)] → W p l e ({ frames := 1, cells := 0, slots := 0, locals := 12 }) s m (List.toArray [.ref (ad 1), .int a1]) below meth c H locs 0 0 (MQ below (va_Qv (Pz_X6_append_1 ad cy B qr s1 a1 w0) (fun u : va_W => wpost dC dI cy A u) A) (List.toArray [.ref (ad 1), .int a1]) s 0 0 A) (F0 m 49 ls []) := by
    intro v49_2 H locs ls w1 r2 t3 hw hT hF hM hl
    exact tk_vret hC hr hlocks hK ⟨hT, hF, hM.ret rfl, trivial⟩ hw dX6_append_49
  have L3 : ∀ (n3 : Nat) (v3_2 : Int32) (H : Heap) (locs : List Loc) (ls : Array Slot) (w4 : va_W), (-8) ≤ v3_2.toInt → v3_2.toInt ≤ 24 → (v3_2.toInt - (-8)).toNat < n3 → Wd dC dI A s.heap H locs w4 → TW ksC ad cy B qr s1 w4 → FE ksC [(6, 2, 2), (20, 0, 400)] w0 w4 → TT (fun n => m_X6_append n 1 a1.toInt (sI w0)) (fun n => j_X6_append 1 n 3 [a1.toInt, v3_2.toInt] (sI w4)) → lv_has ls 3 [(0, .ref (ad 1)), (1, .int a1), (2, .int v3_2)] → W p l e ({ frames := 1, cells := 0, slots := 0, locals := 12 }) s m (List.toArray [.ref (ad 1), .int a1]) below meth c H locs 0 0 (MQ below (va_Qv (Pz_X6_append_1 ad cy B qr s1 a1 w0) (fun u : va_W => wpost dC dI cy A u) A) (List.toArray [.ref (ad 1), .int a1]) s 0 0 A) (F0 m 3 ls []) := by
    intro n3
    induction n3 with
    | zero => intro v3_2 H locs ls w4 r5 t6 hm3 hw hT hF hM hl; omega
    | succ n3 ih3 =>
      intro v3_2 H locs ls w4 r5 t6 hm3 hw hT hF hM hl
      replace hM := hM.suc (fun _ => e_X6_append_3)
      refine lv_iload_n hx hb dX6_append_3 rfl (lv_at hl 2 rfl) ?_
      refine lv_if_lt (tgt := 49) hx hb dX6_append_4 (by decide) (fun c7 => ?_) (fun c7 => ?_)
      · have c7 : v3_2.toInt < (0 : Int) := wk_lt.mp c7
        replace hM := hM.pos c7
        exact J49 v3_2 H locs ls w4 (show (-8) ≤ v3_2.toInt by omega) (show v3_2.toInt ≤ 24 by omega)  hw hT hF hM (lv_sub hl [0, 1, 2] rfl)
      · have c7 : (0 : Int) ≤ v3_2.toInt := wk_ltF c7
        replace hM := hM.neg (Int.not_lt.mpr c7)
        refine lv_aload_n hx hb dX6_append_7 rfl (lv_at hl 0 rfl) ?_
        refine tk_geti hC hK hw hT hinX6 kC_at1 (by decide) rfl 2 (by decide) (List.mem_cons_of_mem _ uw_7_22) rfl rfl dX6_append_8 (fun x8 c9 rx8 tx8 => ?_)
        replace hM := hM.rd (sI_at c9)
        refine lv_sipush (v := 400) hx hb dX6_append_11 (by decide) ?_
        refine lv_icmp_ge (tgt := 49) hx hb dX6_append_14 (by decide) (fun c10 => ?_) (fun c10 => ?_)
        · have c10 : (400 : Int) ≤ x8.toInt := wk_le.mp c10
          replace hM := hM.pos c10
          exact J49 v3_2 H locs ls w4 (show (-8) ≤ v3_2.toInt by omega) (show v3_2.toInt ≤ 24 by omega)  hw hT hF hM (lv_sub hl [0, 1, 2] rfl)
        · have c10 : x8.toInt < (400 : Int) := wk_leF c10
          replace hM := hM.neg (Int.not_le.mpr c10)
          refine lv_aload_n hx hb dX6_append_17 rfl (lv_at hl 0 rfl) ?_
          refine tk_getA hC hK hw hT hinX6 kC_at1 (by decide) rfl 0 (by decide) (List.mem_cons_of_mem _ uw_2_12) rfl rfl dX6_append_18 ?_
          refine lv_aload_n hx hb dX6_append_21 rfl (lv_at hl 0 rfl) ?_
          refine tk_geti hC hK hw hT hinX6 kC_at1 (by decide) rfl 2 (by decide) (List.mem_cons_of_mem _ uw_7_22) rfl rfl dX6_append_22 (fun x11 c12 rx11 tx11 => ?_)
          refine wk_top x8 (c12.symm.trans c9) ?_
          replace hM := hM.rd (sI_at c9)
          refine lv_iload_n hx hb dX6_append_25 rfl (lv_at hl 1 rfl) ?_
          refine lv_iload_n hx hb dX6_append_26 rfl (lv_at hl 2 rfl) ?_
          refine lv_ishr hx hb dX6_append_27 ?_
          refine lv_topi (fun x13 ex13 => ?_)
          have ezx13 := ex13
          replace hM := hM.lt (o32_e (f := fun x y => x >>> (y &&& 31)) ezx13 rfl rfl)
          refine lv_sipush (v := 255) hx hb dX6_append_28 (by decide) ?_
          refine lv_iand hx hb dX6_append_31 ?_
          refine lv_topi (fun x14 ex14 => ?_)
          have ezx14 := ex14
          have bx14 : 0 ≤ x14.toInt ∧ x14.toInt ≤ (255 : Int) := by rw [ex14]; exact wk_and (by decide)
          replace hM := hM.lt (o32_e (f := fun x y => x &&& y) ezx14 rfl (by decide))
          refine tk_iast hC hK hw hT kC_at2 (by decide) rfl rfl (show 0 ≤ x8.toInt by omega) (show x8.toInt < 400 by omega) (show 0 ≤ x14.toInt by omega) (show x14.toInt ≤ 255 by omega) dX6_append_32 (fun H locs w15 hw hT k17 c16 => ?_)
          replace hM := hM.wr (sI_up k17 c16)
          have hF := hF.put kC_at2 (inE_of (a := 0) (b := 400) (by decide) (show 0 ≤ x8.toInt.toNat by omega) (show x8.toInt.toNat ≤ 400 by omega)) k17
          have c18 := k17.gi (Or.inl (tk_ne kC_at1 kC_at2 (by decide))) c9
          refine lv_aload_n hx hb dX6_append_33 rfl (lv_at hl 0 rfl) ?_
          refine lv_dup hx hb dX6_append_34 rfl ?_
          refine tk_geti hC hK hw hT hinX6 kC_at1 (by decide) rfl 2 (by decide) (List.mem_cons_of_mem _ uw_7_22) rfl rfl dX6_append_35 (fun x19 c20 rx19 tx19 => ?_)
          refine wk_top x8 (c20.symm.trans c18) ?_
          replace hM := hM.rd (sI_at c18)
          refine lv_iconst (v := 1) hx hb dX6_append_38 (by decide) ?_
          refine lv_iadd hx hb dX6_append_39 ?_
          refine lv_topi (fun x21 ex21 => ?_)
          have ezx21 := ex21
          have ex21 : x21.toInt = x8.toInt + (1 : Int) := by rw [ex21]; exact wk_add (show (-2147483648) ≤ x8.toInt + (1 : Int) by omega) (show x8.toInt + (1 : Int) ≤ 2147483647 by omega)
          replace hM := hM.lt ex21.symm
          refine tk_puti hC hK hw hT hinX6 tyX6_ok nmX6 kC_at1 (by decide) rfl rfl 2 (by decide) (List.mem_cons_of_mem _ uw_7_22) rfl rfl rfl rfl (show 0 ≤ x21.toInt by omega) (show x21.toInt ≤ 400 by omega) dX6_append_40 (fun H locs w22 hw hT k24 c23 => ?_)
          replace hM := hM.wr (sI_up k24 c23)
          have hF := hF.put kC_at1 (k := 2) (by decide) k24
          obtain ⟨x25, ex25⟩ : ∃ y : Int32, y = v3_2 + Int32.ofInt (-8) := ⟨_, rfl⟩
          have erx25 := ex25
          refine lv_iinc (v := x25) (lv' := [(2, .int x25), (0, .ref (ad 1)), (1, .int a1)]) hx hb dX6_append_43 hl (k := 2) rfl ex25.symm (by decide) rfl (fun ls hl => ?_)
          have ex25 : x25.toInt = v3_2.toInt + (-8) := by rw [ex25]; exact wk_add (y := (-8)) (show -2147483648 ≤ v3_2.toInt + (-8) by omega) (show v3_2.toInt + (-8) ≤ 2147483647 by omega)
          replace hM := hM.lt ex25.symm
          refine lv_goto (tgt := 3) hx hb dX6_append_46 (by decide) ?_
          exact ih3 x25 H locs ls w22 (show (-8) ≤ x25.toInt by omega) (show x25.toInt ≤ 24 by omega) (show (x25.toInt - (-8)).toNat < n3 by omega) hw hT hF hM (lv_sub hl [1, 2, 0] rfl)
  have hM : TT (fun n => m_X6_append n 1 a1.toInt (sI w0)) (fun n => m_X6_append n 1 a1.toInt (sI w0)) := TT.rf
  refine lv_bipush (v := 24) hx hb dX6_append_0 (by decide) ?_
  refine lv_istore_n (lv' := [(2, .int 24), (0, .ref (ad 1)), (1, .int a1)]) hx hb dX6_append_2 rfl hl (by decide) rfl (fun ls hl => ?_)
  exact L3 (((24 : Int) - (-8)).toNat + 1) 24 s.heap locs ls w0 (by decide) (by decide) (Nat.lt_succ_self _) hw hT hF hM (lv_sub hl [1, 2, 0] rfl)
abbrev Pz_X11_feed_1 (ad : Nat → Nat) (cy : Nat → ClassId) (B : Int) (qr : Nat) (s1 : Int) (a1 : Int32) (a2 : Int32) (a3 : Int32) (a4 : Int32) (a5 : Int32) (w0 : va_W) : Int32 → va_W → Prop := fun r u => TW ksC ad cy B qr s1 u ∧ FE ksC [(6, 2, 2), (20, 0, 400)] w0 u ∧ Ev (fun n => m_X11_feed n 0 a1.toInt a2.toInt a3.toInt a4.toInt a5.toInt (sI w0)) (r.toInt, sI u) ∧ ((0 ≤ r.toInt ∧ r.toInt ≤ 400) ∨ (r = (-1) ∧ (∃ y : Int32, gi u 1 2 = y ∧ 381 ≤ y.toInt ∧ y.toInt ≤ 400)))
set_option maxHeartbeats 4000000 in
set_option maxRecDepth 100000 in
theorem kz_X11_feed_1 (l : Launch) (adK adV : Nat → Nat) (dC : Nat → ClassId) (dI : Nat → Nat → Nat) (cy : Nat → ClassId) (ad : Nat → Nat) (B : Int) (hB0 : 2147483648 ≤ B) (hB1 : B ≤ 1152921504606846976) (qr : Nat) (s1 : Int)  (a1 : Int32) (a2 : Int32) (a3 : Int32) (a4 : Int32) (a5 : Int32) (w0 : va_W) (sz : Nat) (hT : TW ksC ad cy B qr s1 w0)  : Met l yX11_feed (wu yX11_feed cX11_feed 6 (some .int)) ({ frames := 2, cells := 0, slots := 0, locals := 34 }) (va_Pc [.ref (ad 0), .int a1, .int a2, .int a3, .int a4, .int a5] (wpreS adK adV dC dI cy sz w0)) (va_Qi (Pz_X11_feed_1 ad cy B qr s1 a1 a2 a3 a4 a5 w0) (fun u : va_W => wpost dC dI cy (va_A w0 sz) u) (va_A w0 sz)) 0 0 (va_A w0 sz) := by
  refine Met.ofW (cc := cX11_feed) (maxL := 6) (ret := (some .int)) (by decide) rfl ?_
  intro p e s m args below meth c s₁ Bk hml hv
  obtain ⟨rfl, ⟨hsz, hP, hK, hD0⟩, hE, hSR⟩ := hv
  have hx := Bk.exec
  have hb := Bk.bytes
  have hr := Bk.returns
  have hlocks := Bk.notSynchronized
  have hC : CallFix p m c cX11_feed 6 s _ (wu yX11_feed cX11_feed 6 (some .int)) RX11 := ⟨hx, hb, hml, findClass_of_methodNamed Bk.named, atoms_spec (ws := (wu yX11_feed cX11_feed 6 (some .int))) Bk.pre⟩
  subst hsz
  have hD := hD0.self (sz := s.heap.size)
  generalize hAe : va_A w0 s.heap.size = A at hD hE ⊢
  have hA : ∀ q : Nat, s.heap.size ≤ q → A q := fun q h => by rw [← hAe]; exact Or.inr h
  have hw : Wd dC dI A s.heap s.heap [] w0 := ⟨hP, hD, va_S.rf⟩
  have hF : FE ksC [(6, 2, 2), (20, 0, 400)] w0 w0 := FE.rf
  have hl := lv_entry ([.ref (ad 0), .int a1, .int a2, .int a3, .int a4, .int a5]) (n := 6) (Nat.le_of_ble_eq_true rfl)
  rw [lg_entry_eq]
  generalize (lg_sl ([.ref (ad 0), .int a1, .int a2, .int a3, .int a4, .int a5]) ++ List.replicate (6 - (lg_sl ([.ref (ad 0), .int a1, .int a2, .int a3, .int a4, .int a5])).length) Slot.unset).toArray = ls at hl ⊢
  have hl : lv_has ls 6 [(0, .ref (ad 0)), (1, .int a1), (2, .int a2), (3, .int a3), (4, .int a4), (5, .int a5)] := hl
  generalize hloc : ([] : List Loc) = locs at hw ⊢
  have hinX11 : ∀ w ∈ u_ws RX11 TX11 13, w ∈ (wu yX11_feed cX11_feed 6 (some .int)) := fun _ h => List.mem_cons_of_mem _ (up_70 h)
  have hinX6 : ∀ w ∈ u_ws RX6 TX6 5, w ∈ (wu yX11_feed cX11_feed 6 (some .int)) := fun _ h => List.mem_cons_of_mem _ (up_72 h)
  have hM : TT (fun n => m_X11_feed n 0 a1.toInt a2.toInt a3.toInt a4.toInt a5.toInt (sI w0)) (fun n => m_X11_feed n 0 a1.toInt a2.toInt a3.toInt a4.toInt a5.toInt (sI w0)) := TT.rf
  refine lv_aload_n hx hb dX11_feed_0 rfl (lv_at hl 0 rfl) ?_
  refine tk_getA hC hK hw hT hinX11 kC_at0 (by decide) rfl 0 (by decide) (List.mem_cons_of_mem _ uw_0_15) rfl rfl dX11_feed_1 ?_
  refine tk_Vi hC hK hw hT hA hE hSR kC_at1 (by decide) rfl (kz_X6_hasRoom_1 l adK adV dC dI cy ad B (by omega) (by omega) qr s1    w0 s.heap.size hT ) (cwV 0 hC.2.2.2.2 uV_RX11_95 rfl rfl rfl (by decide +kernel) ⟨Nat.le_of_ble_eq_true rfl, Nat.le_of_ble_eq_true rfl⟩) rfl hl.1 rfl (Nat.le_of_ble_eq_true rfl) dX11_feed_4 (fun r1 w3 H locs hp2 hw => ?_)
  obtain ⟨hT, k4, hv10, hg9⟩ := hp2
  have hF := hF.tr k4 (by decide)
  rcases hg9 with ⟨rfl, ⟨x5, c6, rx5, tx5⟩⟩ | ⟨rfl, ⟨x7, c8, rx7, tx7⟩⟩
  · replace hM := hM.call (r' := 0) hv10 (by decide)
    refine lv_if_ne (tgt := 12) hx hb dX11_feed_7 (by decide) (fun c => absurd (by decide) c) (fun _ => ?_)
    replace hM := hM.neg (by decide)
    refine lv_iconst (v := (-1)) hx hb dX11_feed_10 (by decide) ?_
    exact tk_iret hC hr hlocks hK ⟨hT, hF, hM.ret (by decide), (Or.inr ⟨rfl, ⟨x5, c6, (show 381 ≤ x5.toInt by omega), (show x5.toInt ≤ 400 by omega)⟩⟩)⟩ hw dX11_feed_11
  · replace hM := hM.call (r' := 1) hv10 (by decide)
    refine lv_if_ne (tgt := 12) hx hb dX11_feed_7 (by decide) (fun _ => ?_) (fun c => absurd c (by decide))
    replace hM := hM.pos (by decide)
    refine lv_aload_n hx hb dX11_feed_12 rfl (lv_at hl 0 rfl) ?_
    refine tk_getA hC hK hw hT hinX11 kC_at0 (by decide) rfl 0 (by decide) (List.mem_cons_of_mem _ uw_0_15) rfl rfl dX11_feed_13 ?_
    refine lv_iload_n hx hb dX11_feed_16 rfl (lv_at hl 1 rfl) ?_
    refine tk_Vv hC hK hw hT hA hE hSR kC_at1 (by decide) rfl (kz_X6_append_1 l adK adV dC dI cy ad B (by omega) (by omega) qr s1   a1 w3 H.size hT ) (cwV 1 hC.2.2.2.2 uV_RX11_99 rfl rfl rfl (by decide +kernel) ⟨Nat.le_of_ble_eq_true rfl, Nat.le_of_ble_eq_true rfl⟩) rfl hl.1 rfl (Nat.le_of_ble_eq_true rfl) dX11_feed_17 (fun w13 H locs hp12 hw => ?_)
    obtain ⟨hT, k14, hv16, hg15⟩ := hp12
    have hF := hF.tr k14 (by decide)
    clear hg15
    replace hM := hM.call hv16 rfl
    refine lv_aload_n hx hb dX11_feed_20 rfl (lv_at hl 0 rfl) ?_
    refine tk_getA hC hK hw hT hinX11 kC_at0 (by decide) rfl 0 (by decide) (List.mem_cons_of_mem _ uw_0_15) rfl rfl dX11_feed_21 ?_
    refine lv_iload_n hx hb dX11_feed_24 rfl (lv_at hl 2 rfl) ?_
    refine tk_Vv hC hK hw hT hA hE hSR kC_at1 (by decide) rfl (kz_X6_append_1 l adK adV dC dI cy ad B (by omega) (by omega) qr s1   a2 w13 H.size hT ) (cwV 1 hC.2.2.2.2 uV_RX11_99 rfl rfl rfl (by decide +kernel) ⟨Nat.le_of_ble_eq_true rfl, Nat.le_of_ble_eq_true rfl⟩) rfl hl.1 rfl (Nat.le_of_ble_eq_true rfl) dX11_feed_25 (fun w19 H locs hp18 hw => ?_)
    obtain ⟨hT, k20, hv22, hg21⟩ := hp18
    have hF := hF.tr k20 (by decide)
    clear hg21
    replace hM := hM.call hv22 rfl
    refine lv_aload_n hx hb dX11_feed_28 rfl (lv_at hl 0 rfl) ?_
    refine tk_getA hC hK hw hT hinX11 kC_at0 (by decide) rfl 0 (by decide) (List.mem_cons_of_mem _ uw_0_15) rfl rfl dX11_feed_29 ?_
    refine lv_iload_n hx hb dX11_feed_32 rfl (lv_at hl 3 rfl) ?_
    refine tk_Vv hC hK hw hT hA hE hSR kC_at1 (by decide) rfl (kz_X6_append_1 l adK adV dC dI cy ad B (by omega) (by omega) qr s1   a3 w19 H.size hT ) (cwV 1 hC.2.2.2.2 uV_RX11_99 rfl rfl rfl (by decide +kernel) ⟨Nat.le_of_ble_eq_true rfl, Nat.le_of_ble_eq_true rfl⟩) rfl hl.1 rfl (Nat.le_of_ble_eq_true rfl) dX11_feed_33 (fun w25 H locs hp24 hw => ?_)
    obtain ⟨hT, k26, hv28, hg27⟩ := hp24
    have hF := hF.tr k26 (by decide)
    clear hg27
    replace hM := hM.call hv28 rfl
    refine lv_aload_n hx hb dX11_feed_36 rfl (lv_at hl 0 rfl) ?_
    refine tk_getA hC hK hw hT hinX11 kC_at0 (by decide) rfl 0 (by decide) (List.mem_cons_of_mem _ uw_0_15) rfl rfl dX11_feed_37 ?_
    refine lv_iload hx hb dX11_feed_40 (lv_at hl 4 rfl) ?_
    refine tk_Vv hC hK hw hT hA hE hSR kC_at1 (by decide) rfl (kz_X6_append_1 l adK adV dC dI cy ad B (by omega) (by omega) qr s1   a4 w25 H.size hT ) (cwV 1 hC.2.2.2.2 uV_RX11_99 rfl rfl rfl (by decide +kernel) ⟨Nat.le_of_ble_eq_true rfl, Nat.le_of_ble_eq_true rfl⟩) rfl hl.1 rfl (Nat.le_of_ble_eq_true rfl) dX11_feed_42 (fun w31 H locs hp30 hw => ?_)
    obtain ⟨hT, k32, hv34, hg33⟩ := hp30
    have hF := hF.tr k32 (by decide)
    clear hg33
    replace hM := hM.call hv34 rfl
    refine lv_aload_n hx hb dX11_feed_45 rfl (lv_at hl 0 rfl) ?_
    refine tk_getA hC hK hw hT hinX11 kC_at0 (by decide) rfl 0 (by decide) (List.mem_cons_of_mem _ uw_0_15) rfl rfl dX11_feed_46 ?_
    refine lv_iload hx hb dX11_feed_49 (lv_at hl 5 rfl) ?_
    refine tk_Vv hC hK hw hT hA hE hSR kC_at1 (by decide) rfl (kz_X6_append_1 l adK adV dC dI cy ad B (by omega) (by omega) qr s1   a5 w31 H.size hT ) (cwV 1 hC.2.2.2.2 uV_RX11_99 rfl rfl rfl (by decide +kernel) ⟨Nat.le_of_ble_eq_true rfl, Nat.le_of_ble_eq_true rfl⟩) rfl hl.1 rfl (Nat.le_of_ble_eq_true rfl) dX11_feed_51 (fun w37 H locs hp36 hw => ?_)
    obtain ⟨hT, k38, hv40, hg39⟩ := hp36
    have hF := hF.tr k38 (by decide)
    clear hg39
    replace hM := hM.call hv40 rfl
    refine lv_aload_n hx hb dX11_feed_54 rfl (lv_at hl 0 rfl) ?_
    refine tk_getA hC hK hw hT hinX11 kC_at0 (by decide) rfl 0 (by decide) (List.mem_cons_of_mem _ uw_0_15) rfl rfl dX11_feed_55 ?_
    refine tk_geti hC hK hw hT hinX6 kC_at1 (by decide) rfl 2 (by decide) (List.mem_cons_of_mem _ uw_7_17) rfl rfl dX11_feed_58 (fun x41 c42 rx41 tx41 => ?_)
    replace hM := hM.rd (sI_at c42)
    exact tk_iret hC hr hlocks hK ⟨hT, hF, hM.ret rfl, (Or.inl ⟨(show 0 ≤ x41.toInt by omega), (show x41.toInt ≤ 400 by omega)⟩)⟩ hw dX11_feed_61
abbrev Pz_X11_end_1 (ad : Nat → Nat) (cy : Nat → ClassId) (B : Int) (qr : Nat) (s1 : Int) (a1 : Int32) (w0 : va_W) : Int32 → va_W → Prop := fun r u => TW ksC ad cy B qr s1 u ∧ FE ksC [(6, 2, 2)] w0 u ∧ Ev (fun n => m_X11_end n 0 a1.toInt (sI w0)) (r.toInt, sI u) ∧ ((0 ≤ r.toInt ∧ r.toInt ≤ 400 ∧ 0 ≤ a1.toInt ∧ a1.toInt ≤ 400) ∨ (r = (-1)))
set_option maxHeartbeats 4000000 in
set_option maxRecDepth 100000 in
theorem kz_X11_end_1 (l : Launch) (adK adV : Nat → Nat) (dC : Nat → ClassId) (dI : Nat → Nat → Nat) (cy : Nat → ClassId) (ad : Nat → Nat) (B : Int) (hB0 : 2147483648 ≤ B) (hB1 : B ≤ 1152921504606846976) (qr : Nat) (s1 : Int)  (a1 : Int32) (w0 : va_W) (sz : Nat) (hT : TW ksC ad cy B qr s1 w0)  : Met l yX11_end (wu yX11_end cX11_end 2 (some .int)) ({ frames := 1, cells := 0, slots := 0, locals := 12 }) (va_Pc [.ref (ad 0), .int a1] (wpreS adK adV dC dI cy sz w0)) (va_Qi (Pz_X11_end_1 ad cy B qr s1 a1 w0) (fun u : va_W => wpost dC dI cy (va_A w0 sz) u) (va_A w0 sz)) 0 0 (va_A w0 sz) := by
  refine Met.ofW (cc := cX11_end) (maxL := 2) (ret := (some .int)) (by decide) rfl ?_
  intro p e s m args below meth c s₁ Bk hml hv
  obtain ⟨rfl, ⟨hsz, hP, hK, hD0⟩, hE, hSR⟩ := hv
  have hx := Bk.exec
  have hb := Bk.bytes
  have hr := Bk.returns
  have hlocks := Bk.notSynchronized
  have hC : CallFix p m c cX11_end 2 s _ (wu yX11_end cX11_end 2 (some .int)) RX11 := ⟨hx, hb, hml, findClass_of_methodNamed Bk.named, atoms_spec (ws := (wu yX11_end cX11_end 2 (some .int))) Bk.pre⟩
  subst hsz
  have hD := hD0.self (sz := s.heap.size)
  generalize hAe : va_A w0 s.heap.size = A at hD hE ⊢
  have hA : ∀ q : Nat, s.heap.size ≤ q → A q := fun q h => by rw [← hAe]; exact Or.inr h
  have hw : Wd dC dI A s.heap s.heap [] w0 := ⟨hP, hD, va_S.rf⟩
  have hF : FE ksC [(6, 2, 2)] w0 w0 := FE.rf
  have hl := lv_entry ([.ref (ad 0), .int a1]) (n := 2) (Nat.le_of_ble_eq_true rfl)
  rw [lg_entry_eq]
  generalize (lg_sl ([.ref (ad 0), .int a1]) ++ List.replicate (2 - (lg_sl ([.ref (ad 0), .int a1])).length) Slot.unset).toArray = ls at hl ⊢
  have hl : lv_has ls 2 [(0, .ref (ad 0)), (1, .int a1)] := hl
  generalize hloc : ([] : List Loc) = locs at hw ⊢
  have hinX11 : ∀ w ∈ u_ws RX11 TX11 13, w ∈ (wu yX11_end cX11_end 2 (some .int)) := fun _ h => List.mem_cons_of_mem _ (up_70 h)
  have hinX6 : ∀ w ∈ u_ws RX6 TX6 5, w ∈ (wu yX11_end cX11_end 2 (some .int)) := fun _ h => List.mem_cons_of_mem _ (up_72 h)
  have J15 : ∀ (H : Heap) (locs : List Loc) (ls : Array Slot) (w1 : va_W), Wd dC dI A s.heap H locs w1 → TW ksC ad cy B qr s1 w1 → FE ksC [(6, 2, 2)] w0 w1 → TT (fun n => m_X11_end n 0 a1.toInt (sI w0)) (fun n => b_X11_end_15 n 0 (sI w1)) → lv_has ls 2 [(0, .ref (ad 0)), (1, .int a1)] → W p l e ({ frames := 1, cells := 0, slots := 0, locals := 12 }) s m (List.toArray [.ref (ad 0), .int a1]) below meth c H locs 0 0 (MQ below (va_Qi (Pz_X11_end_1 ad cy B qr s1 a1 w0) (fun u : va_W => wpost dC dI cy A u) A) (List.toArray [.ref (ad 0), .int a1]) s 0 0 A) (F0 m 15 ls []) := by
    intro H locs ls w1 hw hT hF hM hl
    refine lv_iconst (v := (-1)) hx hb dX11_end_15 (by decide) ?_
    exact tk_iret hC hr hlocks hK ⟨hT, hF, hM.ret (by decide), (Or.inr rfl)⟩ hw dX11_end_16
  have hM : TT (fun n => m_X11_end n 0 a1.toInt (sI w0)) (fun n => m_X11_end n 0 a1.toInt (sI w0)) := TT.rf
  refine lv_iload_n hx hb dX11_end_0 rfl (lv_at hl 1 rfl) ?_
  refine lv_if_lt (tgt := 15) hx hb dX11_end_1 (by decide) (fun c2 => ?_) (fun c2 => ?_)
  · have c2 : a1.toInt < (0 : Int) := wk_lt.mp c2
    replace hM := hM.pos c2
    exact J15  s.heap locs ls w0   hw hT hF hM (lv_sub hl [0, 1] rfl)
  · have c2 : (0 : Int) ≤ a1.toInt := wk_ltF c2
    replace hM := hM.neg (Int.not_lt.mpr c2)
    refine lv_iload_n hx hb dX11_end_4 rfl (lv_at hl 1 rfl) ?_
    refine lv_aload_n hx hb dX11_end_5 rfl (lv_at hl 0 rfl) ?_
    refine tk_getA hC hK hw hT hinX11 kC_at0 (by decide) rfl 0 (by decide) (List.mem_cons_of_mem _ uw_0_15) rfl rfl dX11_end_6 ?_
    refine tk_geti hC hK hw hT hinX6 kC_at1 (by decide) rfl 2 (by decide) (List.mem_cons_of_mem _ uw_7_17) rfl rfl dX11_end_9 (fun x3 c4 rx3 tx3 => ?_)
    replace hM := hM.rd (sI_at c4)
    refine lv_icmp_le (tgt := 17) hx hb dX11_end_12 (by decide) (fun c5 => ?_) (fun c5 => ?_)
    · have c5 : a1.toInt ≤ x3.toInt := wk_le.mp c5
      replace hM := hM.pos c5
      refine lv_aload_n hx hb dX11_end_17 rfl (lv_at hl 0 rfl) ?_
      refine tk_getA hC hK hw hT hinX11 kC_at0 (by decide) rfl 0 (by decide) (List.mem_cons_of_mem _ uw_0_15) rfl rfl dX11_end_18 ?_
      refine lv_iload_n hx hb dX11_end_21 rfl (lv_at hl 1 rfl) ?_
      refine tk_puti hC hK hw hT hinX6 tyX6_ok nmX6 kC_at1 (by decide) rfl rfl 2 (by decide) (List.mem_cons_of_mem _ uw_7_17) rfl rfl rfl rfl (show 0 ≤ a1.toInt by omega) (show a1.toInt ≤ 400 by omega) dX11_end_22 (fun H locs w6 hw hT k8 c7 => ?_)
      replace hM := hM.wr (sI_up k8 c7)
      have hF := hF.put kC_at1 (k := 2) (by decide) k8
      refine lv_iload_n hx hb dX11_end_25 rfl (lv_at hl 1 rfl) ?_
      exact tk_iret hC hr hlocks hK ⟨hT, hF, hM.ret rfl, (Or.inl ⟨(show 0 ≤ a1.toInt by omega), (show a1.toInt ≤ 400 by omega), (show 0 ≤ a1.toInt by omega), (show a1.toInt ≤ 400 by omega)⟩)⟩ hw dX11_end_26
    · have c5 : x3.toInt < a1.toInt := wk_leF c5
      replace hM := hM.neg (Int.not_le.mpr c5)
      exact J15  s.heap locs ls w0   hw hT hF hM (lv_sub hl [0, 1] rfl)
abbrev Pz_X7_sideOf_1 (ad : Nat → Nat) (cy : Nat → ClassId) (B : Int) (qr : Nat) (s1 : Int) (a1 : Int32) (a2 : Int32) (w0 : va_W) : Int32 → va_W → Prop := fun r u => TW ksC ad cy B qr s1 u ∧ FE ksC ([] : List (Nat × Nat × Nat)) w0 u ∧ Ev (fun n => m_X7_sideOf n 29 a1.toInt a2.toInt (sI w0)) (r.toInt, sI u) ∧ ((r = (-1)) ∨ (r = 0 ∧ 0 ≤ a2.toInt ∧ a2.toInt ≤ 9 ∧ gi u 30 (2 * a1.toInt + 0).toNat = a2) ∨ (r = 1 ∧ 0 ≤ a2.toInt ∧ a2.toInt ≤ 9 ∧ gi u 30 (2 * a1.toInt + 1).toNat = a2))
set_option maxHeartbeats 4000000 in
set_option maxRecDepth 100000 in
theorem kz_X7_sideOf_1 (l : Launch) (adK adV : Nat → Nat) (dC : Nat → ClassId) (dI : Nat → Nat → Nat) (cy : Nat → ClassId) (ad : Nat → Nat) (B : Int) (hB0 : 2147483648 ≤ B) (hB1 : B ≤ 1152921504606846976) (qr : Nat) (s1 : Int)  (a1 : Int32) (ra1 : 0 ≤ a1.toInt) (ta1 : a1.toInt ≤ 11) (a2 : Int32) (w0 : va_W) (sz : Nat) (hT : TW ksC ad cy B qr s1 w0)  : Met l yX7_sideOf (wu yX7_sideOf cX7_sideOf 3 (some .int)) ({ frames := 1, cells := 0, slots := 0, locals := 12 }) (va_Pc [.ref (ad 29), .int a1, .int a2] (wpreS adK adV dC dI cy sz w0)) (va_Qi (Pz_X7_sideOf_1 ad cy B qr s1 a1 a2 w0) (fun u : va_W => wpost dC dI cy (va_A w0 sz) u) (va_A w0 sz)) 0 0 (va_A w0 sz) := by
  refine Met.ofW (cc := cX7_sideOf) (maxL := 3) (ret := (some .int)) (by decide) rfl ?_
  intro p e s m args below meth c s₁ Bk hml hv
  obtain ⟨rfl, ⟨hsz, hP, hK, hD0⟩, hE, hSR⟩ := hv
  have hx := Bk.exec
  have hb := Bk.bytes
  have hr := Bk.returns
  have hlocks := Bk.notSynchronized
  have hC : CallFix p m c cX7_sideOf 3 s _ (wu yX7_sideOf cX7_sideOf 3 (some .int)) RX7 := ⟨hx, hb, hml, findClass_of_methodNamed Bk.named, atoms_spec (ws := (wu yX7_sideOf cX7_sideOf 3 (some .int))) Bk.pre⟩
  subst hsz
  have hD := hD0.self (sz := s.heap.size)
  generalize hAe : va_A w0 s.heap.size = A at hD hE ⊢
  have hA : ∀ q : Nat, s.heap.size ≤ q → A q := fun q h => by rw [← hAe]; exact Or.inr h
  have hw : Wd dC dI A s.heap s.heap [] w0 := ⟨hP, hD, va_S.rf⟩
  have hF : FE ksC ([] : List (Nat × Nat × Nat)) w0 w0 := FE.rf
  have hl := lv_entry ([.ref (ad 29), .int a1, .int a2]) (n := 3) (Nat.le_of_ble_eq_true rfl)
  rw [lg_entry_eq]
  generalize (lg_sl ([.ref (ad 29), .int a1, .int a2]) ++ List.replicate (3 - (lg_sl ([.ref (ad 29), .int a1, .int a2])).length) Slot.unset).toArray = ls at hl ⊢
  have hl : lv_has ls 3 [(0, .ref (ad 29)), (1, .int a1), (2, .int a2)] := hl
  generalize hloc : ([] : List Loc) = locs at hw ⊢
  have hinX7 : ∀ w ∈ u_ws RX7 TX7 12, w ∈ (wu yX7_sideOf cX7_sideOf 3 (some .int)) := fun _ h => List.mem_cons_of_mem _ (up_73 h)
  have hM : TT (fun n => m_X7_sideOf n 29 a1.toInt a2.toInt (sI w0)) (fun n => m_X7_sideOf n 29 a1.toInt a2.toInt (sI w0)) := TT.rf
  refine lv_aload_n hx hb dX7_sideOf_0 rfl (lv_at hl 0 rfl) ?_
  refine tk_getO hC hK hw hT hinX7 kC_at29 (by decide) rfl 0 (by decide) (List.mem_cons_of_mem _ uw_2_17) rfl rfl dX7_sideOf_1 ?_
  refine lv_iconst (v := 2) hx hb dX7_sideOf_4 (by decide) ?_
  refine lv_iload_n hx hb dX7_sideOf_5 rfl (lv_at hl 1 rfl) ?_
  refine lv_imul hx hb dX7_sideOf_6 ?_
  refine lv_topi (fun x1 ex1 => ?_)
  have ezx1 := ex1
  have ex1 : x1.toInt = (2 : Int) * a1.toInt := by rw [ex1]; exact wk_mul (show (-2147483648) ≤ (2 : Int) * a1.toInt by omega) (show (2 : Int) * a1.toInt ≤ 2147483647 by omega)
  replace hM := hM.lt ex1.symm
  refine tk_iald hC hK hw hT kC_at30 rfl rfl (show 0 ≤ x1.toInt by omega) (show x1.toInt < 26 by omega) dX7_sideOf_7 (fun x2 c3 rx2 tx2 => ?_)
  have hox2 := c3
  replace hM := hM.rd (sI_at hox2)
  have c3 : gi w0 30 (2 * a1.toInt + 0).toNat = x2 := (congrArg (gi w0 30) (congrArg Int.toNat (show 2 * a1.toInt + 0 = x1.toInt by omega))).trans c3
  refine lv_iload_n hx hb dX7_sideOf_8 rfl (lv_at hl 2 rfl) ?_
  refine lv_icmp_ne (tgt := 14) hx hb dX7_sideOf_9 (by decide) (fun c4 => ?_) (fun c4 => ?_)
  · have c4 : ¬ x2.toInt = a2.toInt := wk_eqF c4
    replace hM := hM.pos c4
    refine lv_aload_n hx hb dX7_sideOf_14 rfl (lv_at hl 0 rfl) ?_
    refine tk_getO hC hK hw hT hinX7 kC_at29 (by decide) rfl 0 (by decide) (List.mem_cons_of_mem _ uw_2_17) rfl rfl dX7_sideOf_15 ?_
    refine lv_iconst (v := 2) hx hb dX7_sideOf_18 (by decide) ?_
    refine lv_iload_n hx hb dX7_sideOf_19 rfl (lv_at hl 1 rfl) ?_
    refine lv_imul hx hb dX7_sideOf_20 ?_
    refine lv_topi (fun x5 ex5 => ?_)
    have ezx5 := ex5
    have ex5 : x5.toInt = (2 : Int) * a1.toInt := by rw [ex5]; exact wk_mul (show (-2147483648) ≤ (2 : Int) * a1.toInt by omega) (show (2 : Int) * a1.toInt ≤ 2147483647 by omega)
    replace hM := hM.lt ex5.symm
    refine lv_iconst (v := 1) hx hb dX7_sideOf_21 (by decide) ?_
    refine lv_iadd hx hb dX7_sideOf_22 ?_
    refine lv_topi (fun x6 ex6 => ?_)
    have ezx6 := ex6
    have ex6 : x6.toInt = x5.toInt + (1 : Int) := by rw [ex6]; exact wk_add (show (-2147483648) ≤ x5.toInt + (1 : Int) by omega) (show x5.toInt + (1 : Int) ≤ 2147483647 by omega)
    replace hM := hM.lt ex6.symm
    refine tk_iald hC hK hw hT kC_at30 rfl rfl (show 0 ≤ x6.toInt by omega) (show x6.toInt < 26 by omega) dX7_sideOf_23 (fun x7 c8 rx7 tx7 => ?_)
    have hox7 := c8
    replace hM := hM.rd (sI_at hox7)
    have c8 : gi w0 30 (2 * a1.toInt + 1).toNat = x7 := (congrArg (gi w0 30) (congrArg Int.toNat (show 2 * a1.toInt + 1 = x6.toInt by omega))).trans c8
    refine lv_iload_n hx hb dX7_sideOf_24 rfl (lv_at hl 2 rfl) ?_
    refine lv_icmp_ne (tgt := 32) hx hb dX7_sideOf_25 (by decide) (fun c9 => ?_) (fun c9 => ?_)
    · have c9 : ¬ x7.toInt = a2.toInt := wk_eqF c9
      replace hM := hM.pos c9
      refine lv_iconst (v := (-1)) hx hb dX7_sideOf_32 (by decide) ?_
      exact tk_iret hC hr hlocks hK ⟨hT, hF, hM.ret (by decide), (Or.inl rfl)⟩ hw dX7_sideOf_33
    · have c9 : x7.toInt = a2.toInt := wk_eq.mp c9
      replace hM := hM.neg (fun q => q c9)
      refine lv_iconst (v := 1) hx hb dX7_sideOf_28 (by decide) ?_
      refine lv_goto (tgt := 33) hx hb dX7_sideOf_29 (by decide) ?_
      exact tk_iret hC hr hlocks hK ⟨hT, hF, hM.ret (by decide), (Or.inr (Or.inr ⟨rfl, (show 0 ≤ a2.toInt by omega), (show a2.toInt ≤ 9 by omega), (c8.trans (wk_eq.mpr (show x7.toInt = a2.toInt by omega)))⟩))⟩ hw dX7_sideOf_33
  · have c4 : x2.toInt = a2.toInt := wk_eq.mp c4
    replace hM := hM.neg (fun q => q c4)
    refine lv_iconst (v := 0) hx hb dX7_sideOf_12 (by decide) ?_
    exact tk_iret hC hr hlocks hK ⟨hT, hF, hM.ret (by decide), (Or.inr (Or.inl ⟨rfl, (show 0 ≤ a2.toInt by omega), (show a2.toInt ≤ 9 by omega), (c3.trans (wk_eq.mpr (show x2.toInt = a2.toInt by omega)))⟩))⟩ hw dX7_sideOf_13
abbrev Pz_X7_findSaints_1 (ad : Nat → Nat) (cy : Nat → ClassId) (B : Int) (qr : Nat) (s1 : Int) (a1 : Int32) (w0 : va_W) : va_W → Prop := fun u => TW ksC ad cy B qr s1 u ∧ FE ksC [(31, 0, 13)] w0 u ∧ Ev (fun n => m_X7_findSaints n 29 a1.toInt (sI w0)) (0, sI u) ∧ (((∃ y : Int32, gi u 29 10 = y ∧ 0 ≤ y.toInt ∧ y.toInt ≤ 8)))
set_option maxHeartbeats 4000000 in
set_option maxRecDepth 100000 in
theorem kz_X7_findSaints_1 (l : Launch) (adK adV : Nat → Nat) (dC : Nat → ClassId) (dI : Nat → Nat → Nat) (cy : Nat → ClassId) (ad : Nat → Nat) (B : Int) (hB0 : 2147483648 ≤ B) (hB1 : B ≤ 1152921504606846976) (qr : Nat) (s1 : Int)  (a1 : Int32) (ra1 : 0 ≤ a1.toInt) (ta1 : a1.toInt ≤ 11) (w0 : va_W) (sz : Nat) (hT : TW ksC ad cy B qr s1 w0)  : Met l yX7_findSaints (wu yX7_findSaints cX7_findSaints 3 none) ({ frames := 2, cells := 0, slots := 0, locals := 34 }) (va_Pc [.ref (ad 29), .int a1] (wpreS adK adV dC dI cy sz w0)) (va_Qv (Pz_X7_findSaints_1 ad cy B qr s1 a1 w0) (fun u : va_W => wpost dC dI cy (va_A w0 sz) u) (va_A w0 sz)) 0 0 (va_A w0 sz) := by
  refine Met.ofW (cc := cX7_findSaints) (maxL := 3) (ret := none) (by decide) rfl ?_
  intro p e s m args below meth c s₁ Bk hml hv
  obtain ⟨rfl, ⟨hsz, hP, hK, hD0⟩, hE, hSR⟩ := hv
  have hx := Bk.exec
  have hb := Bk.bytes
  have hr := Bk.returns
  have hlocks := Bk.notSynchronized
  have hC : CallFix p m c cX7_findSaints 3 s _ (wu yX7_findSaints cX7_findSaints 3 none) RX7 := ⟨hx, hb, hml, findClass_of_methodNamed Bk.named, atoms_spec (ws := (wu yX7_findSaints cX7_findSaints 3 none)) Bk.pre⟩
  subst hsz
  have hD := hD0.self (sz := s.heap.size)
  generalize hAe : va_A w0 s.heap.size = A at hD hE ⊢
  have hA : ∀ q : Nat, s.heap.size ≤ q → A q := fun q h => by rw [← hAe]; exact Or.inr h
  have hw : Wd dC dI A s.heap s.heap [] w0 := ⟨hP, hD, va_S.rf⟩
  have hF : FE ksC [(31, 0, 13)] w0 w0 := FE.rf
  have hl := lv_entry ([.ref (ad 29), .int a1]) (n := 3) (Nat.le_of_ble_eq_true rfl)
  rw [lg_entry_eq]
  generalize (lg_sl ([.ref (ad 29), .int a1]) ++ List.replicate (3 - (lg_sl ([.ref (ad 29), .int a1])).length) Slot.unset).toArray = ls at hl ⊢
  have hl : lv_has ls 3 [(0, .ref (ad 29)), (1, .int a1)] := hl
  generalize hloc : ([] : List Loc) = locs at hw ⊢
  have hinX7 : ∀ w ∈ u_ws RX7 TX7 12, w ∈ (wu yX7_findSaints cX7_findSaints 3 none) := fun _ h => List.mem_cons_of_mem _ (up_73 h)
  have L9 : ∀ (n9 : Nat) (v9_2 : Int32) (H : Heap) (locs : List Loc) (ls : Array Slot) (w1 : va_W), 0 ≤ a1.toInt → a1.toInt ≤ 11 → 0 ≤ v9_2.toInt → v9_2.toInt ≤ 8 → (8 - v9_2.toInt).toNat < n9 → Wd dC dI A s.heap H locs w1 → TW ksC ad cy B qr s1 w1 → FE ksC [(31, 0, 13)] w0 w1 → TT (fun n => m_X7_findSaints n 29 a1.toInt (sI w0)) (fun n => j_X7_findSaints 29 n 9 [a1.toInt, v9_2.toInt] (sI w1)) → lv_has ls 3 [(0, .ref (ad 29)), (1, .int a1), (2, .int v9_2)] → W p l e ({ frames := 2, cells := 0, slots := 0, locals := 34 }) s m (List.toArray [.ref (ad 29), .int a1]) below meth c H locs 0 0 (MQ below (va_Qv (Pz_X7_findSaints_1 ad cy B qr s1 a1 w0) (fun u : va_W => wpost dC dI cy A u) A) (List.toArray [.ref (ad 29), .int a1]) s 0 0 A) (F0 m 9 ls []) := by
    intro n9
    induction n9 with
    | zero => intro v9_2 H locs ls w1 r2 t3 r4 t5 hm9 hw hT hF hM hl; omega
    | succ n9 ih9 =>
      intro v9_2 H locs ls w1 r2 t3 r4 t5 hm9 hw hT hF hM hl
      have J44 : ∀ (f44_29_10 : Int32) (H : Heap) (locs : List Loc) (ls : Array Slot) (w6 : va_W), 0 ≤ a1.toInt → a1.toInt ≤ 11 → 0 ≤ v9_2.toInt → v9_2.toInt ≤ 7 → 1 ≤ f44_29_10.toInt → f44_29_10.toInt ≤ 8 → Wd dC dI A s.heap H locs w6 → TW ksC ad cy B qr s1 w6 → FE ksC [(31, 0, 13)] w0 w6 → gi w6 29 10 = f44_29_10 → TT (fun n => m_X7_findSaints n 29 a1.toInt (sI w0)) (fun n => b_X7_findSaints_44 (j_X7_findSaints 29 n) n 29 (a1.toInt) (v9_2.toInt) (sI w6)) → lv_has ls 3 [(0, .ref (ad 29)), (1, .int a1), (2, .int v9_2)] → W p l e ({ frames := 2, cells := 0, slots := 0, locals := 34 }) s m (List.toArray [.ref (ad 29), .int a1]) below meth c H locs 0 0 (MQ below (va_Qv (Pz_X7_findSaints_1 ad cy B qr s1 a1 w0) (fun u : va_W => wpost dC dI cy A u) A) (List.toArray [.ref (ad 29), .int a1]) s 0 0 A) (F0 m 44 ls []) := by
        intro f44_29_10 H locs ls w6 r7 t8 r9 t10 r11 t12 hw hT hF c13 hM hl
        obtain ⟨x14, ex14⟩ : ∃ y : Int32, y = v9_2 + Int32.ofInt 1 := ⟨_, rfl⟩
        have erx14 := ex14
        refine lv_iinc (v := x14) (lv' := [(2, .int x14), (0, .ref (ad 29)), (1, .int a1)]) hx hb dX7_findSaints_44 hl (k := 2) rfl ex14.symm (by decide) rfl (fun ls hl => ?_)
        have ex14 : x14.toInt = v9_2.toInt + 1 := by rw [ex14]; exact wk_add (y := 1) (show -2147483648 ≤ v9_2.toInt + 1 by omega) (show v9_2.toInt + 1 ≤ 2147483647 by omega)
        replace hM := hM.lt ex14.symm
        refine lv_goto (tgt := 9) hx hb dX7_findSaints_47 (by decide) ?_
        exact ih9 x14 H locs ls w6 (show 0 ≤ a1.toInt by omega) (show a1.toInt ≤ 11 by omega) (show 0 ≤ x14.toInt by omega) (show x14.toInt ≤ 8 by omega) (show (8 - x14.toInt).toNat < n9 by omega) hw hT hF hM (lv_sub hl [1, 2, 0] rfl)
      replace hM := hM.suc (fun _ => e_X7_findSaints_9)
      refine lv_iload_n hx hb dX7_findSaints_9 rfl (lv_at hl 2 rfl) ?_
      refine lv_aload_n hx hb dX7_findSaints_10 rfl (lv_at hl 0 rfl) ?_
      refine tk_geti hC hK hw hT hinX7 kC_at29 (by decide) rfl 10 (by decide) (List.mem_cons_of_mem _ uw_9_9) rfl rfl dX7_findSaints_11 (fun x15 c16 rx15 tx15 => ?_)
      replace hM := hM.rd (sI_at c16)
      refine lv_icmp_ge (tgt := 50) hx hb dX7_findSaints_14 (by decide) (fun c17 => ?_) (fun c17 => ?_)
      · have c17 : x15.toInt ≤ v9_2.toInt := wk_le.mp c17
        replace hM := hM.pos c17
        exact tk_vret hC hr hlocks hK ⟨hT, hF, hM.ret rfl, ⟨x15, c16, (show 0 ≤ x15.toInt by omega), (show x15.toInt ≤ 8 by omega)⟩⟩ hw dX7_findSaints_50
      · have c17 : v9_2.toInt < x15.toInt := wk_leF c17
        replace hM := hM.neg (Int.not_le.mpr c17)
        refine lv_aload_n hx hb dX7_findSaints_17 rfl (lv_at hl 0 rfl) ?_
        refine lv_iload_n hx hb dX7_findSaints_18 rfl (lv_at hl 1 rfl) ?_
        refine lv_aload_n hx hb dX7_findSaints_19 rfl (lv_at hl 0 rfl) ?_
        refine tk_getO hC hK hw hT hinX7 kC_at29 (by decide) rfl 5 (by decide) (List.mem_cons_of_mem _ uw_2_22) rfl rfl dX7_findSaints_20 ?_
        refine lv_iload_n hx hb dX7_findSaints_23 rfl (lv_at hl 2 rfl) ?_
        refine tk_iald hC hK hw hT kC_at35 rfl rfl (show 0 ≤ v9_2.toInt by omega) (show v9_2.toInt < 8 by omega) dX7_findSaints_24 (fun x18 c19 rx18 tx18 => ?_)
        have hox18 := c19
        replace hM := hM.rd (sI_at hox18)
        refine tk_Vi hC hK hw hT hA hE hSR kC_at29 (by decide) rfl (kz_X7_sideOf_1 l adK adV dC dI cy ad B (by omega) (by omega) qr s1   a1 (show 0 ≤ a1.toInt by omega) (show a1.toInt ≤ 11 by omega) x18 w1 H.size hT ) (cwV 2 hC.2.2.2.2 uV_RX7_138 rfl rfl rfl (by decide +kernel) ⟨Nat.le_of_ble_eq_true rfl, Nat.le_of_ble_eq_true rfl⟩) rfl hl.1 rfl (Nat.le_of_ble_eq_true rfl) dX7_findSaints_25 (fun r20 w22 H locs hp21 hw => ?_)
        obtain ⟨hT, k23, hv31, hg30⟩ := hp21
        have hF := hF.tr k23 (by decide)
        have c32 := k23.gi kC_at29 (by decide) c16
        rcases hg30 with rfl | ⟨rfl, g24, g25, c26⟩ | ⟨rfl, g27, g28, c29⟩
        · replace hM := hM.call (r' := (-1)) hv31 (by decide)
          refine lv_iconst (v := (-1)) hx hb dX7_findSaints_28 (by decide) ?_
          refine lv_icmp_eq (tgt := 44) hx hb dX7_findSaints_29 (by decide) (fun _ => ?_) (fun c => absurd (by decide) c)
          replace hM := hM.pos (by decide)
          exact J44 x15 H locs ls w22 (show 0 ≤ a1.toInt by omega) (show a1.toInt ≤ 11 by omega) (show 0 ≤ v9_2.toInt by omega) (show v9_2.toInt ≤ 7 by omega) (show 1 ≤ x15.toInt by omega) (show x15.toInt ≤ 8 by omega)  hw hT hF c32 hM (lv_sub hl [0, 1, 2] rfl)
        · replace hM := hM.call (r' := 0) hv31 (by decide)
          refine lv_iconst (v := (-1)) hx hb dX7_findSaints_28 (by decide) ?_
          refine lv_icmp_eq (tgt := 44) hx hb dX7_findSaints_29 (by decide) (fun c => absurd c (by decide)) (fun _ => ?_)
          replace hM := hM.neg (by decide)
          refine lv_aload_n hx hb dX7_findSaints_32 rfl (lv_at hl 0 rfl) ?_
          refine tk_getO hC hK hw hT hinX7 kC_at29 (by decide) rfl 7 (by decide) (List.mem_cons_of_mem _ uw_3_0) rfl rfl dX7_findSaints_33 ?_
          refine lv_iload_n hx hb dX7_findSaints_36 rfl (lv_at hl 1 rfl) ?_
          refine lv_dup2_11 hx hb dX7_findSaints_37 rfl rfl ?_
          refine tk_iald hC hK hw hT kC_at37 rfl rfl (show 0 ≤ a1.toInt by omega) (show a1.toInt < 13 by omega) dX7_findSaints_38 (fun x33 c34 rx33 tx33 => ?_)
          have hox33 := c34
          replace hM := hM.rd (sI_at hox33)
          refine lv_iconst (v := 1) hx hb dX7_findSaints_39 (by decide) ?_
          refine lv_iload_n hx hb dX7_findSaints_40 rfl (lv_at hl 2 rfl) ?_
          refine lv_ishl hx hb dX7_findSaints_41 ?_
          refine lv_topi (fun x35 ex35 => ?_)
          have ezx35 := ex35
          have bx35 : 1 ≤ x35.toInt ∧ x35.toInt ≤ 128 := by rw [ex35]; exact wk_shl1 7 (by decide) (by omega) (by omega)
          replace hM := hM.lt (o32_e (f := fun x y => x <<< (y &&& 31)) ezx35 (by decide) rfl)
          refine lv_ior hx hb dX7_findSaints_42 ?_
          refine lv_topi (fun x36 ex36 => ?_)
          have ezx36 := ex36
          replace hM := hM.lt (o32_e (f := fun x y => x ||| y) ezx36 rfl rfl)
          refine tk_iast hC hK hw hT kC_at37 (by decide) rfl rfl (show 0 ≤ a1.toInt by omega) (show a1.toInt < 13 by omega) (wk_i32 x36).1 (wk_i32 x36).2 dX7_findSaints_43 (fun H locs w37 hw hT k39 c38 => ?_)
          replace hM := hM.wr (sI_up k39 c38)
          have hF := hF.put kC_at37 (inE_of (a := 0) (b := 13) (by decide) (show 0 ≤ a1.toInt.toNat by omega) (show a1.toInt.toNat ≤ 13 by omega)) k39
          have c40 := k39.gi (Or.inl (tk_ne kC_at29 kC_at37 (by decide))) c32
          have c41 := k39.gi (Or.inl (tk_ne kC_at30 kC_at37 (by decide))) c26
          exact J44 x15 H locs ls w37 (show 0 ≤ a1.toInt by omega) (show a1.toInt ≤ 11 by omega) (show 0 ≤ v9_2.toInt by omega) (show v9_2.toInt ≤ 7 by omega) (show 1 ≤ x15.toInt by omega) (show x15.toInt ≤ 8 by omega)  hw hT hF c40 hM (lv_sub hl [0, 1, 2] rfl)
        · replace hM := hM.call (r' := 1) hv31 (by decide)
          refine lv_iconst (v := (-1)) hx hb dX7_findSaints_28 (by decide) ?_
          refine lv_icmp_eq (tgt := 44) hx hb dX7_findSaints_29 (by decide) (fun c => absurd c (by decide)) (fun _ => ?_)
          replace hM := hM.neg (by decide)
          refine lv_aload_n hx hb dX7_findSaints_32 rfl (lv_at hl 0 rfl) ?_
          refine tk_getO hC hK hw hT hinX7 kC_at29 (by decide) rfl 7 (by decide) (List.mem_cons_of_mem _ uw_3_0) rfl rfl dX7_findSaints_33 ?_
          refine lv_iload_n hx hb dX7_findSaints_36 rfl (lv_at hl 1 rfl) ?_
          refine lv_dup2_11 hx hb dX7_findSaints_37 rfl rfl ?_
          refine tk_iald hC hK hw hT kC_at37 rfl rfl (show 0 ≤ a1.toInt by omega) (show a1.toInt < 13 by omega) dX7_findSaints_38 (fun x42 c43 rx42 tx42 => ?_)
          have hox42 := c43
          replace hM := hM.rd (sI_at hox42)
          refine lv_iconst (v := 1) hx hb dX7_findSaints_39 (by decide) ?_
          refine lv_iload_n hx hb dX7_findSaints_40 rfl (lv_at hl 2 rfl) ?_
          refine lv_ishl hx hb dX7_findSaints_41 ?_
          refine lv_topi (fun x44 ex44 => ?_)
          have ezx44 := ex44
          have bx44 : 1 ≤ x44.toInt ∧ x44.toInt ≤ 128 := by rw [ex44]; exact wk_shl1 7 (by decide) (by omega) (by omega)
          replace hM := hM.lt (o32_e (f := fun x y => x <<< (y &&& 31)) ezx44 (by decide) rfl)
          refine lv_ior hx hb dX7_findSaints_42 ?_
          refine lv_topi (fun x45 ex45 => ?_)
          have ezx45 := ex45
          replace hM := hM.lt (o32_e (f := fun x y => x ||| y) ezx45 rfl rfl)
          refine tk_iast hC hK hw hT kC_at37 (by decide) rfl rfl (show 0 ≤ a1.toInt by omega) (show a1.toInt < 13 by omega) (wk_i32 x45).1 (wk_i32 x45).2 dX7_findSaints_43 (fun H locs w46 hw hT k48 c47 => ?_)
          replace hM := hM.wr (sI_up k48 c47)
          have hF := hF.put kC_at37 (inE_of (a := 0) (b := 13) (by decide) (show 0 ≤ a1.toInt.toNat by omega) (show a1.toInt.toNat ≤ 13 by omega)) k48
          have c49 := k48.gi (Or.inl (tk_ne kC_at29 kC_at37 (by decide))) c32
          have c50 := k48.gi (Or.inl (tk_ne kC_at30 kC_at37 (by decide))) c29
          exact J44 x15 H locs ls w46 (show 0 ≤ a1.toInt by omega) (show a1.toInt ≤ 11 by omega) (show 0 ≤ v9_2.toInt by omega) (show v9_2.toInt ≤ 7 by omega) (show 1 ≤ x15.toInt by omega) (show x15.toInt ≤ 8 by omega)  hw hT hF c49 hM (lv_sub hl [0, 1, 2] rfl)
  have hM : TT (fun n => m_X7_findSaints n 29 a1.toInt (sI w0)) (fun n => m_X7_findSaints n 29 a1.toInt (sI w0)) := TT.rf
  refine lv_aload_n hx hb dX7_findSaints_0 rfl (lv_at hl 0 rfl) ?_
  refine tk_getO hC hK hw hT hinX7 kC_at29 (by decide) rfl 7 (by decide) (List.mem_cons_of_mem _ uw_3_0) rfl rfl dX7_findSaints_1 ?_
  refine lv_iload_n hx hb dX7_findSaints_4 rfl (lv_at hl 1 rfl) ?_
  refine lv_iconst (v := 0) hx hb dX7_findSaints_5 (by decide) ?_
  refine tk_iast hC hK hw hT kC_at37 (by decide) rfl rfl (show 0 ≤ a1.toInt by omega) (show a1.toInt < 13 by omega) (by decide) (by decide) dX7_findSaints_6 (fun H locs w51 hw hT k53 c52 => ?_)
  replace hM := hM.wr (sI_upc k53 c52 (by decide))
  have hF := hF.put kC_at37 (inE_of (a := 0) (b := 13) (by decide) (show 0 ≤ a1.toInt.toNat by omega) (show a1.toInt.toNat ≤ 13 by omega)) k53
  refine lv_iconst (v := 0) hx hb dX7_findSaints_7 (by decide) ?_
  refine lv_istore_n (lv' := [(2, .int 0), (0, .ref (ad 29)), (1, .int a1)]) hx hb dX7_findSaints_8 rfl hl (by decide) rfl (fun ls hl => ?_)
  exact L9 ((8 - (0 : Int)).toNat + 1) 0 H locs ls w51 (show 0 ≤ a1.toInt by omega) (show a1.toInt ≤ 11 by omega) (by decide) (by decide) (Nat.lt_succ_self _) hw hT hF hM (lv_sub hl [1, 2, 0] rfl)
abbrev Pz_X6_blame_1 (ad : Nat → Nat) (cy : Nat → ClassId) (B : Int) (qr : Nat) (s1 : Int) (a1 : Int32) (a2 : Int32) (w0 : va_W) : va_W → Prop := fun u => TW ksC ad cy B qr s1 u ∧ FE ksC [(6, 4, 4)] w0 u ∧ Ev (fun n => m_X6_blame n 1 a1.toInt a2.toInt (sI w0)) (0, sI u) ∧ (((∃ y : Int32, gi u 1 4 = y ∧ 1 ≤ y.toInt ∧ y.toInt ≤ 3205)))
set_option maxHeartbeats 4000000 in
set_option maxRecDepth 100000 in
theorem kz_X6_blame_1 (l : Launch) (adK adV : Nat → Nat) (dC : Nat → ClassId) (dI : Nat → Nat → Nat) (cy : Nat → ClassId) (ad : Nat → Nat) (B : Int) (hB0 : 2147483648 ≤ B) (hB1 : B ≤ 1152921504606846976) (qr : Nat) (s1 : Int)  (a1 : Int32) (ra1 : 0 ≤ a1.toInt) (ta1 : a1.toInt ≤ 400) (a2 : Int32) (ra2 : 0 ≤ a2.toInt) (ta2 : a2.toInt ≤ 4) (w0 : va_W) (sz : Nat) (hT : TW ksC ad cy B qr s1 w0)  : Met l yX6_blame (wu yX6_blame cX6_blame 3 none) ({ frames := 1, cells := 0, slots := 0, locals := 12 }) (va_Pc [.ref (ad 1), .int a1, .int a2] (wpreS adK adV dC dI cy sz w0)) (va_Qv (Pz_X6_blame_1 ad cy B qr s1 a1 a2 w0) (fun u : va_W => wpost dC dI cy (va_A w0 sz) u) (va_A w0 sz)) 0 0 (va_A w0 sz) := by
  refine Met.ofW (cc := cX6_blame) (maxL := 3) (ret := none) (by decide) rfl ?_
  intro p e s m args below meth c s₁ Bk hml hv
  obtain ⟨rfl, ⟨hsz, hP, hK, hD0⟩, hE, hSR⟩ := hv
  have hx := Bk.exec
  have hb := Bk.bytes
  have hr := Bk.returns
  have hlocks := Bk.notSynchronized
  have hC : CallFix p m c cX6_blame 3 s _ (wu yX6_blame cX6_blame 3 none) RX6 := ⟨hx, hb, hml, findClass_of_methodNamed Bk.named, atoms_spec (ws := (wu yX6_blame cX6_blame 3 none)) Bk.pre⟩
  subst hsz
  have hD := hD0.self (sz := s.heap.size)
  generalize hAe : va_A w0 s.heap.size = A at hD hE ⊢
  have hA : ∀ q : Nat, s.heap.size ≤ q → A q := fun q h => by rw [← hAe]; exact Or.inr h
  have hw : Wd dC dI A s.heap s.heap [] w0 := ⟨hP, hD, va_S.rf⟩
  have hF : FE ksC [(6, 4, 4)] w0 w0 := FE.rf
  have hl := lv_entry ([.ref (ad 1), .int a1, .int a2]) (n := 3) (Nat.le_of_ble_eq_true rfl)
  rw [lg_entry_eq]
  generalize (lg_sl ([.ref (ad 1), .int a1, .int a2]) ++ List.replicate (3 - (lg_sl ([.ref (ad 1), .int a1, .int a2])).length) Slot.unset).toArray = ls at hl ⊢
  have hl : lv_has ls 3 [(0, .ref (ad 1)), (1, .int a1), (2, .int a2)] := hl
  generalize hloc : ([] : List Loc) = locs at hw ⊢
  have hinX6 : ∀ w ∈ u_ws RX6 TX6 5, w ∈ (wu yX6_blame cX6_blame 3 none) := fun _ h => List.mem_cons_of_mem _ (up_72 h)
  have J19 : ∀ (f19_1_4 : Int32) (H : Heap) (locs : List Loc) (ls : Array Slot) (w1 : va_W), 0 ≤ a1.toInt → a1.toInt ≤ 400 → 0 ≤ a2.toInt → a2.toInt ≤ 4 → 1 ≤ f19_1_4.toInt → f19_1_4.toInt ≤ 3205 → Wd dC dI A s.heap H locs w1 → TW ksC ad cy B qr s1 w1 → FE ksC [(6, 4, 4)] w0 w1 → gi w1 1 4 = f19_1_4 → TT (fun n => m_X6_blame n 1 a1.toInt a2.toInt (sI w0)) (fun n => b_X6_blame_19 n 1 (sI w1)) → lv_has ls 3 [(0, .ref (ad 1)), (1, .int a1), (2, .int a2)] → W p l e ({ frames := 1, cells := 0, slots := 0, locals := 12 }) s m (List.toArray [.ref (ad 1), .int a1, .int a2]) below meth c H locs 0 0 (MQ below (va_Qv (Pz_X6_blame_1 ad cy B qr s1 a1 a2 w0) (fun u : va_W => wpost dC dI cy A u) A) (List.toArray [.ref (ad 1), .int a1, .int a2]) s 0 0 A) (F0 m 19 ls []) := by
    intro f19_1_4 H locs ls w1 r2 t3 r4 t5 r6 t7 hw hT hF c8 hM hl
    exact tk_vret hC hr hlocks hK ⟨hT, hF, hM.ret rfl, ⟨f19_1_4, c8, (show 1 ≤ f19_1_4.toInt by omega), (show f19_1_4.toInt ≤ 3205 by omega)⟩⟩ hw dX6_blame_19
  have hM : TT (fun n => m_X6_blame n 1 a1.toInt a2.toInt (sI w0)) (fun n => m_X6_blame n 1 a1.toInt a2.toInt (sI w0)) := TT.rf
  refine lv_aload_n hx hb dX6_blame_0 rfl (lv_at hl 0 rfl) ?_
  refine tk_geti hC hK hw hT hinX6 kC_at1 (by decide) rfl 4 (by decide) (List.mem_cons_of_mem _ uw_9_18) rfl rfl dX6_blame_1 (fun x9 c10 rx9 tx9 => ?_)
  replace hM := hM.rd (sI_at c10)
  refine lv_if_ne (tgt := 19) hx hb dX6_blame_4 (by decide) (fun c11 => ?_) (fun c11 => ?_)
  · have c11 : ¬ x9.toInt = (0 : Int) := wk_eqF c11
    replace hM := hM.pos c11
    exact J19 x9 s.heap locs ls w0 (show 0 ≤ a1.toInt by omega) (show a1.toInt ≤ 400 by omega) (show 0 ≤ a2.toInt by omega) (show a2.toInt ≤ 4 by omega) (show 1 ≤ x9.toInt by omega) (show x9.toInt ≤ 3205 by omega)  hw hT hF c10 hM (lv_sub hl [0, 1, 2] rfl)
  · have c11 : x9.toInt = (0 : Int) := wk_eq.mp c11
    replace hM := hM.neg (fun q => q c11)
    refine lv_aload_n hx hb dX6_blame_7 rfl (lv_at hl 0 rfl) ?_
    refine lv_iconst (v := 1) hx hb dX6_blame_8 (by decide) ?_
    refine lv_bipush (v := 8) hx hb dX6_blame_9 (by decide) ?_
    refine lv_iload_n hx hb dX6_blame_11 rfl (lv_at hl 1 rfl) ?_
    refine lv_imul hx hb dX6_blame_12 ?_
    refine lv_topi (fun x12 ex12 => ?_)
    have ezx12 := ex12
    have ex12 : x12.toInt = (8 : Int) * a1.toInt := by rw [ex12]; exact wk_mul (show (-2147483648) ≤ (8 : Int) * a1.toInt by omega) (show (8 : Int) * a1.toInt ≤ 2147483647 by omega)
    replace hM := hM.lt ex12.symm
    refine lv_iadd hx hb dX6_blame_13 ?_
    refine lv_topi (fun x13 ex13 => ?_)
    have ezx13 := ex13
    have ex13 : x13.toInt = (1 : Int) + x12.toInt := by rw [ex13]; exact wk_add (show (-2147483648) ≤ (1 : Int) + x12.toInt by omega) (show (1 : Int) + x12.toInt ≤ 2147483647 by omega)
    replace hM := hM.lt ex13.symm
    refine lv_iload_n hx hb dX6_blame_14 rfl (lv_at hl 2 rfl) ?_
    refine lv_iadd hx hb dX6_blame_15 ?_
    refine lv_topi (fun x14 ex14 => ?_)
    have ezx14 := ex14
    have ex14 : x14.toInt = x13.toInt + a2.toInt := by rw [ex14]; exact wk_add (show (-2147483648) ≤ x13.toInt + a2.toInt by omega) (show x13.toInt + a2.toInt ≤ 2147483647 by omega)
    replace hM := hM.lt ex14.symm
    refine tk_puti hC hK hw hT hinX6 tyX6_ok nmX6 kC_at1 (by decide) rfl rfl 4 (by decide) (List.mem_cons_of_mem _ uw_9_18) rfl rfl rfl rfl (show 0 ≤ x14.toInt by omega) (show x14.toInt ≤ 3205 by omega) dX6_blame_16 (fun H locs w15 hw hT k17 c16 => ?_)
    replace hM := hM.wr (sI_up k17 c16)
    have hF := hF.put kC_at1 (k := 4) (by decide) k17
    exact J19 x14 H locs ls w15 (show 0 ≤ a1.toInt by omega) (show a1.toInt ≤ 400 by omega) (show 0 ≤ a2.toInt by omega) (show a2.toInt ≤ 4 by omega) (show 1 ≤ x14.toInt by omega) (show x14.toInt ≤ 3205 by omega)  hw hT hF c16 hM (lv_sub hl [0, 1, 2] rfl)
abbrev Pz_X6_lookBehindBlanks_1 (ad : Nat → Nat) (cy : Nat → ClassId) (B : Int) (qr : Nat) (s1 : Int)  (w0 : va_W) : Int32 → va_W → Prop := fun r u => TW ksC ad cy B qr s1 u ∧ FE ksC [(6, 1, 1), (6, 3, 3)] w0 u ∧ Ev (fun n => m_X6_lookBehindBlanks n 1 (sI w0)) (r.toInt, sI u) ∧ ((0 ≤ r.toInt ∧ r.toInt ≤ 255 ∧ (∃ y : Int32, gi u 1 1 = y ∧ 0 ≤ y.toInt ∧ y.toInt ≤ 399) ∧ (∃ y : Int32, gi u 1 2 = y ∧ 1 ≤ y.toInt ∧ y.toInt ≤ 400) ∧ (∃ y : Int32, gi u 1 3 = y ∧ 0 ≤ y.toInt ∧ y.toInt ≤ 399)) ∨ (r = (-1)))
set_option maxHeartbeats 4000000 in
set_option maxRecDepth 100000 in
theorem kz_X6_lookBehindBlanks_1 (l : Launch) (adK adV : Nat → Nat) (dC : Nat → ClassId) (dI : Nat → Nat → Nat) (cy : Nat → ClassId) (ad : Nat → Nat) (B : Int) (hB0 : 2147483648 ≤ B) (hB1 : B ≤ 1152921504606846976) (qr : Nat) (s1 : Int)   (w0 : va_W) (sz : Nat) (hT : TW ksC ad cy B qr s1 w0)  : Met l yX6_lookBehindBlanks (wu yX6_lookBehindBlanks cX6_lookBehindBlanks 1 (some .int)) ({ frames := 1, cells := 0, slots := 0, locals := 12 }) (va_Pc [.ref (ad 1)] (wpreS adK adV dC dI cy sz w0)) (va_Qi (Pz_X6_lookBehindBlanks_1 ad cy B qr s1  w0) (fun u : va_W => wpost dC dI cy (va_A w0 sz) u) (va_A w0 sz)) 0 0 (va_A w0 sz) := by
  refine Met.ofW (cc := cX6_lookBehindBlanks) (maxL := 1) (ret := (some .int)) (by decide) rfl ?_
  intro p e s m args below meth c s₁ Bk hml hv
  obtain ⟨rfl, ⟨hsz, hP, hK, hD0⟩, hE, hSR⟩ := hv
  have hx := Bk.exec
  have hb := Bk.bytes
  have hr := Bk.returns
  have hlocks := Bk.notSynchronized
  have hC : CallFix p m c cX6_lookBehindBlanks 1 s _ (wu yX6_lookBehindBlanks cX6_lookBehindBlanks 1 (some .int)) RX6 := ⟨hx, hb, hml, findClass_of_methodNamed Bk.named, atoms_spec (ws := (wu yX6_lookBehindBlanks cX6_lookBehindBlanks 1 (some .int))) Bk.pre⟩
  subst hsz
  have hD := hD0.self (sz := s.heap.size)
  generalize hAe : va_A w0 s.heap.size = A at hD hE ⊢
  have hA : ∀ q : Nat, s.heap.size ≤ q → A q := fun q h => by rw [← hAe]; exact Or.inr h
  have hw : Wd dC dI A s.heap s.heap [] w0 := ⟨hP, hD, va_S.rf⟩
  have hF : FE ksC [(6, 1, 1), (6, 3, 3)] w0 w0 := FE.rf
  have hl := lv_entry ([.ref (ad 1)]) (n := 1) (Nat.le_of_ble_eq_true rfl)
  rw [lg_entry_eq]
  generalize (lg_sl ([.ref (ad 1)]) ++ List.replicate (1 - (lg_sl ([.ref (ad 1)])).length) Slot.unset).toArray = ls at hl ⊢
  have hl : lv_has ls 1 [(0, .ref (ad 1))] := hl
  generalize hloc : ([] : List Loc) = locs at hw ⊢
  have hinX6 : ∀ w ∈ u_ws RX6 TX6 5, w ∈ (wu yX6_lookBehindBlanks cX6_lookBehindBlanks 1 (some .int)) := fun _ h => List.mem_cons_of_mem _ (up_72 h)
  have J38 : ∀ (f38_1_1 : Int32) (f38_1_2 : Int32) (H : Heap) (locs : List Loc) (ls : Array Slot) (w1 : va_W), 0 ≤ f38_1_1.toInt → f38_1_1.toInt ≤ 400 → 0 ≤ f38_1_2.toInt → f38_1_2.toInt ≤ 400 → Wd dC dI A s.heap H locs w1 → TW ksC ad cy B qr s1 w1 → FE ksC [(6, 1, 1), (6, 3, 3)] w0 w1 → gi w1 1 1 = f38_1_1 → gi w1 1 2 = f38_1_2 → TT (fun n => m_X6_lookBehindBlanks n 1 (sI w0)) (fun n => b_X6_lookBehindBlanks_38 (j_X6_lookBehindBlanks 1 n) n 1 (sI w1)) → lv_has ls 1 [(0, .ref (ad 1))] → W p l e ({ frames := 1, cells := 0, slots := 0, locals := 12 }) s m (List.toArray [.ref (ad 1)]) below meth c H locs 0 0 (MQ below (va_Qi (Pz_X6_lookBehindBlanks_1 ad cy B qr s1  w0) (fun u : va_W => wpost dC dI cy A u) A) (List.toArray [.ref (ad 1)]) s 0 0 A) (F0 m 38 ls []) := by
    intro f38_1_1 f38_1_2 H locs ls w1 r2 t3 r5 t6 hw hT hF c4 c7 hM hl
    refine lv_aload_n hx hb dX6_lookBehindBlanks_38 rfl (lv_at hl 0 rfl) ?_
    refine lv_aload_n hx hb dX6_lookBehindBlanks_39 rfl (lv_at hl 0 rfl) ?_
    refine tk_geti hC hK hw hT hinX6 kC_at1 (by decide) rfl 1 (by decide) (List.mem_cons_of_mem _ uw_9_16) rfl rfl dX6_lookBehindBlanks_40 (fun x8 c9 rx8 tx8 => ?_)
    refine wk_top f38_1_1 (c9.symm.trans c4) ?_
    replace hM := hM.rd (sI_at c4)
    refine tk_puti hC hK hw hT hinX6 tyX6_ok nmX6 kC_at1 (by decide) rfl rfl 3 (by decide) (List.mem_cons_of_mem _ uw_9_17) rfl rfl rfl rfl (show 0 ≤ f38_1_1.toInt by omega) (show f38_1_1.toInt ≤ 400 by omega) dX6_lookBehindBlanks_43 (fun H locs w10 hw hT k12 c11 => ?_)
    replace hM := hM.wr (sI_up k12 c11)
    have hF := hF.put kC_at1 (k := 3) (by decide) k12
    have c13 := k12.gi (Or.inr (by decide)) c4
    have c14 := k12.gi (Or.inr (by decide)) c7
    refine lv_aload_n hx hb dX6_lookBehindBlanks_46 rfl (lv_at hl 0 rfl) ?_
    refine tk_geti hC hK hw hT hinX6 kC_at1 (by decide) rfl 1 (by decide) (List.mem_cons_of_mem _ uw_9_16) rfl rfl dX6_lookBehindBlanks_47 (fun x15 c16 rx15 tx15 => ?_)
    refine wk_top f38_1_1 (c16.symm.trans c13) ?_
    replace hM := hM.rd (sI_at c13)
    refine lv_aload_n hx hb dX6_lookBehindBlanks_50 rfl (lv_at hl 0 rfl) ?_
    refine tk_geti hC hK hw hT hinX6 kC_at1 (by decide) rfl 2 (by decide) (List.mem_cons_of_mem _ uw_7_22) rfl rfl dX6_lookBehindBlanks_51 (fun x17 c18 rx17 tx17 => ?_)
    refine wk_top f38_1_2 (c18.symm.trans c14) ?_
    replace hM := hM.rd (sI_at c14)
    refine lv_icmp_ge (tgt := 69) hx hb dX6_lookBehindBlanks_54 (by decide) (fun c19 => ?_) (fun c19 => ?_)
    · have c19 : f38_1_2.toInt ≤ f38_1_1.toInt := wk_le.mp c19
      replace hM := hM.pos c19
      refine lv_iconst (v := (-1)) hx hb dX6_lookBehindBlanks_69 (by decide) ?_
      exact tk_iret hC hr hlocks hK ⟨hT, hF, hM.ret (by decide), (Or.inr rfl)⟩ hw dX6_lookBehindBlanks_70
    · have c19 : f38_1_1.toInt < f38_1_2.toInt := wk_leF c19
      replace hM := hM.neg (Int.not_le.mpr c19)
      refine lv_aload_n hx hb dX6_lookBehindBlanks_57 rfl (lv_at hl 0 rfl) ?_
      refine tk_getA hC hK hw hT hinX6 kC_at1 (by decide) rfl 0 (by decide) (List.mem_cons_of_mem _ uw_2_12) rfl rfl dX6_lookBehindBlanks_58 ?_
      refine lv_aload_n hx hb dX6_lookBehindBlanks_61 rfl (lv_at hl 0 rfl) ?_
      refine tk_geti hC hK hw hT hinX6 kC_at1 (by decide) rfl 1 (by decide) (List.mem_cons_of_mem _ uw_9_16) rfl rfl dX6_lookBehindBlanks_62 (fun x20 c21 rx20 tx20 => ?_)
      refine wk_top f38_1_1 (c21.symm.trans c13) ?_
      replace hM := hM.rd (sI_at c13)
      refine tk_iald hC hK hw hT kC_at2 rfl rfl (show 0 ≤ f38_1_1.toInt by omega) (show f38_1_1.toInt < 400 by omega) dX6_lookBehindBlanks_65 (fun x22 c23 rx22 tx22 => ?_)
      have hox22 := c23
      replace hM := hM.rd (sI_at hox22)
      refine lv_goto (tgt := 70) hx hb dX6_lookBehindBlanks_66 (by decide) ?_
      exact tk_iret hC hr hlocks hK ⟨hT, hF, hM.ret rfl, (Or.inl ⟨(show 0 ≤ x22.toInt by omega), (show x22.toInt ≤ 255 by omega), ⟨f38_1_1, c13, (show 0 ≤ f38_1_1.toInt by omega), (show f38_1_1.toInt ≤ 399 by omega)⟩, ⟨f38_1_2, c14, (show 1 ≤ f38_1_2.toInt by omega), (show f38_1_2.toInt ≤ 400 by omega)⟩, ⟨f38_1_1, c11, (show 0 ≤ f38_1_1.toInt by omega), (show f38_1_1.toInt ≤ 399 by omega)⟩⟩)⟩ hw dX6_lookBehindBlanks_70
  have L0 : ∀ (n0 : Nat) (f0_1_1 : Int32) (f0_1_2 : Int32) (H : Heap) (locs : List Loc) (ls : Array Slot) (w24 : va_W), 1 ≤ f0_1_1.toInt → f0_1_1.toInt ≤ 400 → 1 ≤ f0_1_2.toInt → f0_1_2.toInt ≤ 400 → (400 - f0_1_1.toInt).toNat < n0 → Wd dC dI A s.heap H locs w24 → TW ksC ad cy B qr s1 w24 → FE ksC [(6, 1, 1), (6, 3, 3)] w0 w24 → gi w24 1 1 = f0_1_1 → gi w24 1 2 = f0_1_2 → TT (fun n => m_X6_lookBehindBlanks n 1 (sI w0)) (fun n => j_X6_lookBehindBlanks 1 n 0 [] (sI w24)) → lv_has ls 1 [(0, .ref (ad 1))] → W p l e ({ frames := 1, cells := 0, slots := 0, locals := 12 }) s m (List.toArray [.ref (ad 1)]) below meth c H locs 0 0 (MQ below (va_Qi (Pz_X6_lookBehindBlanks_1 ad cy B qr s1  w0) (fun u : va_W => wpost dC dI cy A u) A) (List.toArray [.ref (ad 1)]) s 0 0 A) (F0 m 0 ls []) := by
    intro n0
    induction n0 with
    | zero => intro f0_1_1 f0_1_2 H locs ls w24 r25 t26 r28 t29 hm0 hw hT hF c27 c30 hM hl; omega
    | succ n0 ih0 =>
      intro f0_1_1 f0_1_2 H locs ls w24 r25 t26 r28 t29 hm0 hw hT hF c27 c30 hM hl
      replace hM := hM.suc (fun _ => e_X6_lookBehindBlanks_0)
      refine lv_aload_n hx hb dX6_lookBehindBlanks_0 rfl (lv_at hl 0 rfl) ?_
      refine tk_geti hC hK hw hT hinX6 kC_at1 (by decide) rfl 1 (by decide) (List.mem_cons_of_mem _ uw_9_16) rfl rfl dX6_lookBehindBlanks_1 (fun x31 c32 rx31 tx31 => ?_)
      refine wk_top f0_1_1 (c32.symm.trans c27) ?_
      replace hM := hM.rd (sI_at c27)
      refine lv_aload_n hx hb dX6_lookBehindBlanks_4 rfl (lv_at hl 0 rfl) ?_
      refine tk_geti hC hK hw hT hinX6 kC_at1 (by decide) rfl 2 (by decide) (List.mem_cons_of_mem _ uw_7_22) rfl rfl dX6_lookBehindBlanks_5 (fun x33 c34 rx33 tx33 => ?_)
      refine wk_top f0_1_2 (c34.symm.trans c30) ?_
      replace hM := hM.rd (sI_at c30)
      refine lv_icmp_ge (tgt := 38) hx hb dX6_lookBehindBlanks_8 (by decide) (fun c35 => ?_) (fun c35 => ?_)
      · have c35 : f0_1_2.toInt ≤ f0_1_1.toInt := wk_le.mp c35
        replace hM := hM.pos c35
        exact J38 f0_1_1 f0_1_2 H locs ls w24 (show 0 ≤ f0_1_1.toInt by omega) (show f0_1_1.toInt ≤ 400 by omega) (show 0 ≤ f0_1_2.toInt by omega) (show f0_1_2.toInt ≤ 400 by omega)  hw hT hF c27 c30 hM (lv_sub hl [0] rfl)
      · have c35 : f0_1_1.toInt < f0_1_2.toInt := wk_leF c35
        replace hM := hM.neg (Int.not_le.mpr c35)
        refine lv_aload_n hx hb dX6_lookBehindBlanks_11 rfl (lv_at hl 0 rfl) ?_
        refine tk_getA hC hK hw hT hinX6 kC_at1 (by decide) rfl 0 (by decide) (List.mem_cons_of_mem _ uw_2_12) rfl rfl dX6_lookBehindBlanks_12 ?_
        refine lv_aload_n hx hb dX6_lookBehindBlanks_15 rfl (lv_at hl 0 rfl) ?_
        refine tk_geti hC hK hw hT hinX6 kC_at1 (by decide) rfl 1 (by decide) (List.mem_cons_of_mem _ uw_9_16) rfl rfl dX6_lookBehindBlanks_16 (fun x36 c37 rx36 tx36 => ?_)
        refine wk_top f0_1_1 (c37.symm.trans c27) ?_
        replace hM := hM.rd (sI_at c27)
        refine tk_iald hC hK hw hT kC_at2 rfl rfl (show 0 ≤ f0_1_1.toInt by omega) (show f0_1_1.toInt < 400 by omega) dX6_lookBehindBlanks_19 (fun x38 c39 rx38 tx38 => ?_)
        have hox38 := c39
        replace hM := hM.rd (sI_at hox38)
        refine lv_bipush (v := 32) hx hb dX6_lookBehindBlanks_20 (by decide) ?_
        refine lv_icmp_ne (tgt := 38) hx hb dX6_lookBehindBlanks_22 (by decide) (fun c40 => ?_) (fun c40 => ?_)
        · have c40 : ¬ x38.toInt = (32 : Int) := wk_eqF c40
          replace hM := hM.pos c40
          exact J38 f0_1_1 f0_1_2 H locs ls w24 (show 0 ≤ f0_1_1.toInt by omega) (show f0_1_1.toInt ≤ 400 by omega) (show 0 ≤ f0_1_2.toInt by omega) (show f0_1_2.toInt ≤ 400 by omega)  hw hT hF c27 c30 hM (lv_sub hl [0] rfl)
        · have c40 : x38.toInt = (32 : Int) := wk_eq.mp c40
          replace hM := hM.neg (fun q => q c40)
          refine lv_aload_n hx hb dX6_lookBehindBlanks_25 rfl (lv_at hl 0 rfl) ?_
          refine lv_dup hx hb dX6_lookBehindBlanks_26 rfl ?_
          refine tk_geti hC hK hw hT hinX6 kC_at1 (by decide) rfl 1 (by decide) (List.mem_cons_of_mem _ uw_9_16) rfl rfl dX6_lookBehindBlanks_27 (fun x41 c42 rx41 tx41 => ?_)
          refine wk_top f0_1_1 (c42.symm.trans c27) ?_
          replace hM := hM.rd (sI_at c27)
          refine lv_iconst (v := 1) hx hb dX6_lookBehindBlanks_30 (by decide) ?_
          refine lv_iadd hx hb dX6_lookBehindBlanks_31 ?_
          refine lv_topi (fun x43 ex43 => ?_)
          have ezx43 := ex43
          have ex43 : x43.toInt = f0_1_1.toInt + (1 : Int) := by rw [ex43]; exact wk_add (show (-2147483648) ≤ f0_1_1.toInt + (1 : Int) by omega) (show f0_1_1.toInt + (1 : Int) ≤ 2147483647 by omega)
          replace hM := hM.lt ex43.symm
          refine tk_puti hC hK hw hT hinX6 tyX6_ok nmX6 kC_at1 (by decide) rfl rfl 1 (by decide) (List.mem_cons_of_mem _ uw_9_16) rfl rfl rfl rfl (show 0 ≤ x43.toInt by omega) (show x43.toInt ≤ 400 by omega) dX6_lookBehindBlanks_32 (fun H locs w44 hw hT k46 c45 => ?_)
          replace hM := hM.wr (sI_up k46 c45)
          have hF := hF.put kC_at1 (k := 1) (by decide) k46
          have c47 := k46.gi (Or.inr (by decide)) c30
          refine lv_goto (tgt := 0) hx hb dX6_lookBehindBlanks_35 (by decide) ?_
          exact ih0 x43 f0_1_2 H locs ls w44 (show 1 ≤ x43.toInt by omega) (show x43.toInt ≤ 400 by omega) (show 1 ≤ f0_1_2.toInt by omega) (show f0_1_2.toInt ≤ 400 by omega) (show (400 - x43.toInt).toNat < n0 by omega) hw hT hF c45 c47 hM (lv_sub hl [0] rfl)
  have hM : TT (fun n => m_X6_lookBehindBlanks n 1 (sI w0)) (fun n => j_X6_lookBehindBlanks 1 n 0 [] (sI w0)) := TT.rf
  replace hM := hM.suc (fun _ => e_X6_lookBehindBlanks_0)
  refine lv_aload_n hx hb dX6_lookBehindBlanks_0 rfl (lv_at hl 0 rfl) ?_
  refine tk_geti hC hK hw hT hinX6 kC_at1 (by decide) rfl 1 (by decide) (List.mem_cons_of_mem _ uw_9_16) rfl rfl dX6_lookBehindBlanks_1 (fun x48 c49 rx48 tx48 => ?_)
  replace hM := hM.rd (sI_at c49)
  refine lv_aload_n hx hb dX6_lookBehindBlanks_4 rfl (lv_at hl 0 rfl) ?_
  refine tk_geti hC hK hw hT hinX6 kC_at1 (by decide) rfl 2 (by decide) (List.mem_cons_of_mem _ uw_7_22) rfl rfl dX6_lookBehindBlanks_5 (fun x50 c51 rx50 tx50 => ?_)
  replace hM := hM.rd (sI_at c51)
  refine lv_icmp_ge (tgt := 38) hx hb dX6_lookBehindBlanks_8 (by decide) (fun c52 => ?_) (fun c52 => ?_)
  · have c52 : x50.toInt ≤ x48.toInt := wk_le.mp c52
    replace hM := hM.pos c52
    exact J38 x48 x50 s.heap locs ls w0 (show 0 ≤ x48.toInt by omega) (show x48.toInt ≤ 400 by omega) (show 0 ≤ x50.toInt by omega) (show x50.toInt ≤ 400 by omega)  hw hT hF c49 c51 hM (lv_sub hl [0] rfl)
  · have c52 : x48.toInt < x50.toInt := wk_leF c52
    replace hM := hM.neg (Int.not_le.mpr c52)
    refine lv_aload_n hx hb dX6_lookBehindBlanks_11 rfl (lv_at hl 0 rfl) ?_
    refine tk_getA hC hK hw hT hinX6 kC_at1 (by decide) rfl 0 (by decide) (List.mem_cons_of_mem _ uw_2_12) rfl rfl dX6_lookBehindBlanks_12 ?_
    refine lv_aload_n hx hb dX6_lookBehindBlanks_15 rfl (lv_at hl 0 rfl) ?_
    refine tk_geti hC hK hw hT hinX6 kC_at1 (by decide) rfl 1 (by decide) (List.mem_cons_of_mem _ uw_9_16) rfl rfl dX6_lookBehindBlanks_16 (fun x53 c54 rx53 tx53 => ?_)
    refine wk_top x48 (c54.symm.trans c49) ?_
    replace hM := hM.rd (sI_at c49)
    refine tk_iald hC hK hw hT kC_at2 rfl rfl (show 0 ≤ x48.toInt by omega) (show x48.toInt < 400 by omega) dX6_lookBehindBlanks_19 (fun x55 c56 rx55 tx55 => ?_)
    have hox55 := c56
    replace hM := hM.rd (sI_at hox55)
    refine lv_bipush (v := 32) hx hb dX6_lookBehindBlanks_20 (by decide) ?_
    refine lv_icmp_ne (tgt := 38) hx hb dX6_lookBehindBlanks_22 (by decide) (fun c57 => ?_) (fun c57 => ?_)
    · have c57 : ¬ x55.toInt = (32 : Int) := wk_eqF c57
      replace hM := hM.pos c57
      exact J38 x48 x50 s.heap locs ls w0 (show 0 ≤ x48.toInt by omega) (show x48.toInt ≤ 400 by omega) (show 0 ≤ x50.toInt by omega) (show x50.toInt ≤ 400 by omega)  hw hT hF c49 c51 hM (lv_sub hl [0] rfl)
    · have c57 : x55.toInt = (32 : Int) := wk_eq.mp c57
      replace hM := hM.neg (fun q => q c57)
      refine lv_aload_n hx hb dX6_lookBehindBlanks_25 rfl (lv_at hl 0 rfl) ?_
      refine lv_dup hx hb dX6_lookBehindBlanks_26 rfl ?_
      refine tk_geti hC hK hw hT hinX6 kC_at1 (by decide) rfl 1 (by decide) (List.mem_cons_of_mem _ uw_9_16) rfl rfl dX6_lookBehindBlanks_27 (fun x58 c59 rx58 tx58 => ?_)
      refine wk_top x48 (c59.symm.trans c49) ?_
      replace hM := hM.rd (sI_at c49)
      refine lv_iconst (v := 1) hx hb dX6_lookBehindBlanks_30 (by decide) ?_
      refine lv_iadd hx hb dX6_lookBehindBlanks_31 ?_
      refine lv_topi (fun x60 ex60 => ?_)
      have ezx60 := ex60
      have ex60 : x60.toInt = x48.toInt + (1 : Int) := by rw [ex60]; exact wk_add (show (-2147483648) ≤ x48.toInt + (1 : Int) by omega) (show x48.toInt + (1 : Int) ≤ 2147483647 by omega)
      replace hM := hM.lt ex60.symm
      refine tk_puti hC hK hw hT hinX6 tyX6_ok nmX6 kC_at1 (by decide) rfl rfl 1 (by decide) (List.mem_cons_of_mem _ uw_9_16) rfl rfl rfl rfl (show 0 ≤ x60.toInt by omega) (show x60.toInt ≤ 400 by omega) dX6_lookBehindBlanks_32 (fun H locs w61 hw hT k63 c62 => ?_)
      replace hM := hM.wr (sI_up k63 c62)
      have hF := hF.put kC_at1 (k := 1) (by decide) k63
      have c64 := k63.gi (Or.inr (by decide)) c51
      refine lv_goto (tgt := 0) hx hb dX6_lookBehindBlanks_35 (by decide) ?_
      exact L0 ((400 - x60.toInt).toNat + 1) x60 x50 H locs ls w61 (show 1 ≤ x60.toInt by omega) (show x60.toInt ≤ 400 by omega) (show 1 ≤ x50.toInt by omega) (show x50.toInt ≤ 400 by omega) (Nat.lt_succ_self _) hw hT hF c62 c64 hM (lv_sub hl [0] rfl)
abbrev Pz_X6_endOfWord_1 (ad : Nat → Nat) (cy : Nat → ClassId) (B : Int) (qr : Nat) (s1 : Int)  (w0 : va_W) : Int32 → va_W → Prop := fun r u => TW ksC ad cy B qr s1 u ∧ FE ksC ([] : List (Nat × Nat × Nat)) w0 u ∧ Ev (fun n => m_X6_endOfWord n 1 (sI w0)) (r.toInt, sI u) ∧ ((0 ≤ r.toInt ∧ r.toInt ≤ 400))
set_option maxHeartbeats 4000000 in
set_option maxRecDepth 100000 in
theorem kz_X6_endOfWord_1 (l : Launch) (adK adV : Nat → Nat) (dC : Nat → ClassId) (dI : Nat → Nat → Nat) (cy : Nat → ClassId) (ad : Nat → Nat) (B : Int) (hB0 : 2147483648 ≤ B) (hB1 : B ≤ 1152921504606846976) (qr : Nat) (s1 : Int)   (w0 : va_W) (sz : Nat) (hT : TW ksC ad cy B qr s1 w0)  : Met l yX6_endOfWord (wu yX6_endOfWord cX6_endOfWord 2 (some .int)) ({ frames := 1, cells := 0, slots := 0, locals := 12 }) (va_Pc [.ref (ad 1)] (wpreS adK adV dC dI cy sz w0)) (va_Qi (Pz_X6_endOfWord_1 ad cy B qr s1  w0) (fun u : va_W => wpost dC dI cy (va_A w0 sz) u) (va_A w0 sz)) 0 0 (va_A w0 sz) := by
  refine Met.ofW (cc := cX6_endOfWord) (maxL := 2) (ret := (some .int)) (by decide) rfl ?_
  intro p e s m args below meth c s₁ Bk hml hv
  obtain ⟨rfl, ⟨hsz, hP, hK, hD0⟩, hE, hSR⟩ := hv
  have hx := Bk.exec
  have hb := Bk.bytes
  have hr := Bk.returns
  have hlocks := Bk.notSynchronized
  have hC : CallFix p m c cX6_endOfWord 2 s _ (wu yX6_endOfWord cX6_endOfWord 2 (some .int)) RX6 := ⟨hx, hb, hml, findClass_of_methodNamed Bk.named, atoms_spec (ws := (wu yX6_endOfWord cX6_endOfWord 2 (some .int))) Bk.pre⟩
  subst hsz
  have hD := hD0.self (sz := s.heap.size)
  generalize hAe : va_A w0 s.heap.size = A at hD hE ⊢
  have hA : ∀ q : Nat, s.heap.size ≤ q → A q := fun q h => by rw [← hAe]; exact Or.inr h
  have hw : Wd dC dI A s.heap s.heap [] w0 := ⟨hP, hD, va_S.rf⟩
  have hF : FE ksC ([] : List (Nat × Nat × Nat)) w0 w0 := FE.rf
  have hl := lv_entry ([.ref (ad 1)]) (n := 2) (Nat.le_of_ble_eq_true rfl)
  rw [lg_entry_eq]
  generalize (lg_sl ([.ref (ad 1)]) ++ List.replicate (2 - (lg_sl ([.ref (ad 1)])).length) Slot.unset).toArray = ls at hl ⊢
  have hl : lv_has ls 2 [(0, .ref (ad 1))] := hl
  generalize hloc : ([] : List Loc) = locs at hw ⊢
  have hinX6 : ∀ w ∈ u_ws RX6 TX6 5, w ∈ (wu yX6_endOfWord cX6_endOfWord 2 (some .int)) := fun _ h => List.mem_cons_of_mem _ (up_72 h)
  have J41 : ∀ (v41_1 : Int32) (f41_1_1 : Int32) (f41_1_2 : Int32) (H : Heap) (locs : List Loc) (ls : Array Slot) (w1 : va_W), 0 ≤ v41_1.toInt → v41_1.toInt ≤ 400 → 0 ≤ f41_1_1.toInt → f41_1_1.toInt ≤ 400 → 0 ≤ f41_1_2.toInt → f41_1_2.toInt ≤ 400 → Wd dC dI A s.heap H locs w1 → TW ksC ad cy B qr s1 w1 → FE ksC ([] : List (Nat × Nat × Nat)) w0 w1 → gi w1 1 1 = f41_1_1 → gi w1 1 2 = f41_1_2 → TT (fun n => m_X6_endOfWord n 1 (sI w0)) (fun n => b_X6_endOfWord_41 (j_X6_endOfWord 1 n) n 1 (v41_1.toInt) (sI w1)) → lv_has ls 2 [(0, .ref (ad 1)), (1, .int v41_1)] → W p l e ({ frames := 1, cells := 0, slots := 0, locals := 12 }) s m (List.toArray [.ref (ad 1)]) below meth c H locs 0 0 (MQ below (va_Qi (Pz_X6_endOfWord_1 ad cy B qr s1  w0) (fun u : va_W => wpost dC dI cy A u) A) (List.toArray [.ref (ad 1)]) s 0 0 A) (F0 m 41 ls []) := by
    intro v41_1 f41_1_1 f41_1_2 H locs ls w1 r2 t3 r4 t5 r7 t8 hw hT hF c6 c9 hM hl
    refine lv_iload_n hx hb dX6_endOfWord_41 rfl (lv_at hl 1 rfl) ?_
    exact tk_iret hC hr hlocks hK ⟨hT, hF, hM.ret rfl, ⟨(show 0 ≤ v41_1.toInt by omega), (show v41_1.toInt ≤ 400 by omega)⟩⟩ hw dX6_endOfWord_42
  have L5 : ∀ (n5 : Nat) (v5_1 : Int32) (f5_1_1 : Int32) (H : Heap) (locs : List Loc) (ls : Array Slot) (w10 : va_W), 0 ≤ v5_1.toInt → v5_1.toInt ≤ 400 → 0 ≤ f5_1_1.toInt → f5_1_1.toInt ≤ 400 → (400 - v5_1.toInt).toNat < n5 → Wd dC dI A s.heap H locs w10 → TW ksC ad cy B qr s1 w10 → FE ksC ([] : List (Nat × Nat × Nat)) w0 w10 → gi w10 1 1 = f5_1_1 → TT (fun n => m_X6_endOfWord n 1 (sI w0)) (fun n => j_X6_endOfWord 1 n 5 [v5_1.toInt] (sI w10)) → lv_has ls 2 [(0, .ref (ad 1)), (1, .int v5_1)] → W p l e ({ frames := 1, cells := 0, slots := 0, locals := 12 }) s m (List.toArray [.ref (ad 1)]) below meth c H locs 0 0 (MQ below (va_Qi (Pz_X6_endOfWord_1 ad cy B qr s1  w0) (fun u : va_W => wpost dC dI cy A u) A) (List.toArray [.ref (ad 1)]) s 0 0 A) (F0 m 5 ls []) := by
    intro n5
    induction n5 with
    | zero => intro v5_1 f5_1_1 H locs ls w10 r11 t12 r13 t14 hm5 hw hT hF c15 hM hl; omega
    | succ n5 ih5 =>
      intro v5_1 f5_1_1 H locs ls w10 r11 t12 r13 t14 hm5 hw hT hF c15 hM hl
      replace hM := hM.suc (fun _ => e_X6_endOfWord_5)
      refine lv_iload_n hx hb dX6_endOfWord_5 rfl (lv_at hl 1 rfl) ?_
      refine lv_aload_n hx hb dX6_endOfWord_6 rfl (lv_at hl 0 rfl) ?_
      refine tk_geti hC hK hw hT hinX6 kC_at1 (by decide) rfl 2 (by decide) (List.mem_cons_of_mem _ uw_7_22) rfl rfl dX6_endOfWord_7 (fun x16 c17 rx16 tx16 => ?_)
      replace hM := hM.rd (sI_at c17)
      refine lv_icmp_ge (tgt := 41) hx hb dX6_endOfWord_10 (by decide) (fun c18 => ?_) (fun c18 => ?_)
      · have c18 : x16.toInt ≤ v5_1.toInt := wk_le.mp c18
        replace hM := hM.pos c18
        exact J41 v5_1 f5_1_1 x16 H locs ls w10 (show 0 ≤ v5_1.toInt by omega) (show v5_1.toInt ≤ 400 by omega) (show 0 ≤ f5_1_1.toInt by omega) (show f5_1_1.toInt ≤ 400 by omega) (show 0 ≤ x16.toInt by omega) (show x16.toInt ≤ 400 by omega)  hw hT hF c15 c17 hM (lv_sub hl [0, 1] rfl)
      · have c18 : v5_1.toInt < x16.toInt := wk_leF c18
        replace hM := hM.neg (Int.not_le.mpr c18)
        refine lv_aload_n hx hb dX6_endOfWord_13 rfl (lv_at hl 0 rfl) ?_
        refine tk_getA hC hK hw hT hinX6 kC_at1 (by decide) rfl 0 (by decide) (List.mem_cons_of_mem _ uw_2_12) rfl rfl dX6_endOfWord_14 ?_
        refine lv_iload_n hx hb dX6_endOfWord_17 rfl (lv_at hl 1 rfl) ?_
        refine tk_iald hC hK hw hT kC_at2 rfl rfl (show 0 ≤ v5_1.toInt by omega) (show v5_1.toInt < 400 by omega) dX6_endOfWord_18 (fun x19 c20 rx19 tx19 => ?_)
        have hox19 := c20
        replace hM := hM.rd (sI_at hox19)
        refine lv_bipush (v := 97) hx hb dX6_endOfWord_19 (by decide) ?_
        refine lv_icmp_lt (tgt := 41) hx hb dX6_endOfWord_21 (by decide) (fun c21 => ?_) (fun c21 => ?_)
        · have c21 : x19.toInt < (97 : Int) := wk_lt.mp c21
          replace hM := hM.pos c21
          exact J41 v5_1 f5_1_1 x16 H locs ls w10 (show 0 ≤ v5_1.toInt by omega) (show v5_1.toInt ≤ 400 by omega) (show 0 ≤ f5_1_1.toInt by omega) (show f5_1_1.toInt ≤ 400 by omega) (show 0 ≤ x16.toInt by omega) (show x16.toInt ≤ 400 by omega)  hw hT hF c15 c17 hM (lv_sub hl [0, 1] rfl)
        · have c21 : (97 : Int) ≤ x19.toInt := wk_ltF c21
          replace hM := hM.neg (Int.not_lt.mpr c21)
          refine lv_aload_n hx hb dX6_endOfWord_24 rfl (lv_at hl 0 rfl) ?_
          refine tk_getA hC hK hw hT hinX6 kC_at1 (by decide) rfl 0 (by decide) (List.mem_cons_of_mem _ uw_2_12) rfl rfl dX6_endOfWord_25 ?_
          refine lv_iload_n hx hb dX6_endOfWord_28 rfl (lv_at hl 1 rfl) ?_
          refine tk_iald hC hK hw hT kC_at2 rfl rfl (show 0 ≤ v5_1.toInt by omega) (show v5_1.toInt < 400 by omega) dX6_endOfWord_29 (fun x22 c23 rx22 tx22 => ?_)
          have hox22 := c23
          replace hM := hM.rd (sI_at hox22)
          refine lv_bipush (v := 122) hx hb dX6_endOfWord_30 (by decide) ?_
          refine lv_icmp_gt (tgt := 41) hx hb dX6_endOfWord_32 (by decide) (fun c24 => ?_) (fun c24 => ?_)
          · have c24 : (122 : Int) < x22.toInt := wk_lt.mp c24
            replace hM := hM.pos c24
            exact J41 v5_1 f5_1_1 x16 H locs ls w10 (show 0 ≤ v5_1.toInt by omega) (show v5_1.toInt ≤ 400 by omega) (show 0 ≤ f5_1_1.toInt by omega) (show f5_1_1.toInt ≤ 400 by omega) (show 0 ≤ x16.toInt by omega) (show x16.toInt ≤ 400 by omega)  hw hT hF c15 c17 hM (lv_sub hl [0, 1] rfl)
          · have c24 : x22.toInt ≤ (122 : Int) := wk_ltF c24
            replace hM := hM.neg (Int.not_lt.mpr c24)
            obtain ⟨x25, ex25⟩ : ∃ y : Int32, y = v5_1 + Int32.ofInt 1 := ⟨_, rfl⟩
            have erx25 := ex25
            refine lv_iinc (v := x25) (lv' := [(1, .int x25), (0, .ref (ad 1))]) hx hb dX6_endOfWord_35 hl (k := 1) rfl ex25.symm (by decide) rfl (fun ls hl => ?_)
            have ex25 : x25.toInt = v5_1.toInt + 1 := by rw [ex25]; exact wk_add (y := 1) (show -2147483648 ≤ v5_1.toInt + 1 by omega) (show v5_1.toInt + 1 ≤ 2147483647 by omega)
            replace hM := hM.lt ex25.symm
            refine lv_goto (tgt := 5) hx hb dX6_endOfWord_38 (by decide) ?_
            exact ih5 x25 f5_1_1 H locs ls w10 (show 0 ≤ x25.toInt by omega) (show x25.toInt ≤ 400 by omega) (show 0 ≤ f5_1_1.toInt by omega) (show f5_1_1.toInt ≤ 400 by omega) (show (400 - x25.toInt).toNat < n5 by omega) hw hT hF c15 hM (lv_sub hl [1, 0] rfl)
  have hM : TT (fun n => m_X6_endOfWord n 1 (sI w0)) (fun n => m_X6_endOfWord n 1 (sI w0)) := TT.rf
  refine lv_aload_n hx hb dX6_endOfWord_0 rfl (lv_at hl 0 rfl) ?_
  refine tk_geti hC hK hw hT hinX6 kC_at1 (by decide) rfl 1 (by decide) (List.mem_cons_of_mem _ uw_9_16) rfl rfl dX6_endOfWord_1 (fun x26 c27 rx26 tx26 => ?_)
  replace hM := hM.rd (sI_at c27)
  refine lv_istore_n (lv' := [(1, .int x26), (0, .ref (ad 1))]) hx hb dX6_endOfWord_4 rfl hl (by decide) rfl (fun ls hl => ?_)
  exact L5 ((400 - x26.toInt).toNat + 1) x26 x26 s.heap locs ls w0 (show 0 ≤ x26.toInt by omega) (show x26.toInt ≤ 400 by omega) (show 0 ≤ x26.toInt by omega) (show x26.toInt ≤ 400 by omega) (Nat.lt_succ_self _) hw hT hF c27 hM (lv_sub hl [1, 0] rfl)
abbrev Pz_X6_readWord_1 (ad : Nat → Nat) (cy : Nat → ClassId) (B : Int) (qr : Nat) (s1 : Int)  (w0 : va_W) : Int32 → va_W → Prop := fun r u => TW ksC ad cy B qr s1 u ∧ FE ksC [(6, 1, 1), (6, 3, 3), (6, 4, 4)] w0 u ∧ Ev (fun n => m_X6_readWord n 1 0 (sI w0)) (r.toInt, sI u) ∧ ((0 ≤ r.toInt ∧ r.toInt ≤ 26) ∨ (r = (-1) ∧ (∃ y : Int32, gi u 1 4 = y ∧ 1 ≤ y.toInt ∧ y.toInt ≤ 3205)))
set_option maxHeartbeats 4000000 in
set_option maxRecDepth 100000 in
theorem kz_X6_readWord_1 (l : Launch) (adK adV : Nat → Nat) (dC : Nat → ClassId) (dI : Nat → Nat → Nat) (cy : Nat → ClassId) (ad : Nat → Nat) (B : Int) (hB0 : 2147483648 ≤ B) (hB1 : B ≤ 1152921504606846976) (qr : Nat) (s1 : Int)   (w0 : va_W) (sz : Nat) (hT : TW ksC ad cy B qr s1 w0)  : Met l yX6_readWord (wu yX6_readWord cX6_readWord 8 (some .int)) ({ frames := 5, cells := 0, slots := 0, locals := 141 }) (va_Pc [.ref (ad 1), .ref (adK 0)] (wpreS adK adV dC dI cy sz w0)) (va_Qi (Pz_X6_readWord_1 ad cy B qr s1  w0) (fun u : va_W => wpost dC dI cy (va_A w0 sz) u) (va_A w0 sz)) 0 0 (va_A w0 sz) := by
  refine Met.ofW (cc := cX6_readWord) (maxL := 8) (ret := (some .int)) (by decide) rfl ?_
  intro p e s m args below meth c s₁ Bk hml hv
  obtain ⟨rfl, ⟨hsz, hP, hK, hD0⟩, hE, hSR⟩ := hv
  have hx := Bk.exec
  have hb := Bk.bytes
  have hr := Bk.returns
  have hlocks := Bk.notSynchronized
  have hC : CallFix p m c cX6_readWord 8 s _ (wu yX6_readWord cX6_readWord 8 (some .int)) RX6 := ⟨hx, hb, hml, findClass_of_methodNamed Bk.named, atoms_spec (ws := (wu yX6_readWord cX6_readWord 8 (some .int))) Bk.pre⟩
  subst hsz
  have hD := hD0.self (sz := s.heap.size)
  generalize hAe : va_A w0 s.heap.size = A at hD hE ⊢
  have hA : ∀ q : Nat, s.heap.size ≤ q → A q := fun q h => by rw [← hAe]; exact Or.inr h
  have hw : Wd dC dI A s.heap s.heap [] w0 := ⟨hP, hD, va_S.rf⟩
  have hF : FE ksC [(6, 1, 1), (6, 3, 3), (6, 4, 4)] w0 w0 := FE.rf
  have hl := lv_entry ([.ref (ad 1), .ref (adK 0)]) (n := 8) (Nat.le_of_ble_eq_true rfl)
  rw [lg_entry_eq]
  generalize (lg_sl ([.ref (ad 1), .ref (adK 0)]) ++ List.replicate (8 - (lg_sl ([.ref (ad 1), .ref (adK 0)])).length) Slot.unset).toArray = ls at hl ⊢
  have hl : lv_has ls 8 [(0, .ref (ad 1)), (1, .ref (adK 0))] := hl
  generalize hloc : ([] : List Loc) = locs at hw ⊢
  have hinX6 : ∀ w ∈ u_ws RX6 TX6 5, w ∈ (wu yX6_readWord cX6_readWord 8 (some .int)) := fun _ h => List.mem_cons_of_mem _ (up_72 h)
  have L24 : ∀ (n24 : Nat) (v24_2 : Int32) (v24_3 : Int32) (v24_4 : Int32) (v24_5 : Int32) (v24_6 : Int32) (f24_1_1 : Int32) (H : Heap) (locs : List Loc) (ls : Array Slot) (w1 : va_W), 0 ≤ v24_2.toInt → v24_2.toInt ≤ 400 → 0 ≤ v24_3.toInt → v24_3.toInt ≤ 26 → 0 ≤ v24_4.toInt → v24_4.toInt ≤ 426 → 0 ≤ v24_5.toInt → v24_5.toInt ≤ 1 → 0 ≤ v24_6.toInt → v24_6.toInt ≤ 26 → 0 ≤ f24_1_1.toInt → f24_1_1.toInt ≤ 400 → v24_4.toInt ≤ v24_6.toInt + 400 → v24_3.toInt ≤ v24_6.toInt + 0 → (26 - v24_6.toInt).toNat < n24 → Wd dC dI A s.heap H locs w1 → TW ksC ad cy B qr s1 w1 → FE ksC [(6, 1, 1), (6, 3, 3), (6, 4, 4)] w0 w1 → gi w1 1 1 = f24_1_1 → TT (fun n => m_X6_readWord n 1 0 (sI w0)) (fun n => j_X6_readWord 1 0 n 24 [v24_2.toInt, v24_3.toInt, v24_4.toInt, v24_5.toInt, v24_6.toInt] (sI w1)) → lv_has ls 8 [(0, .ref (ad 1)), (1, .ref (adK 0)), (2, .int v24_2), (3, .int v24_3), (4, .int v24_4), (5, .int v24_5), (6, .int v24_6)] → W p l e ({ frames := 5, cells := 0, slots := 0, locals := 141 }) s m (List.toArray [.ref (ad 1), .ref (adK 0)]) below meth c H locs 0 0 (MQ below (va_Qi (Pz_X6_readWord_1 ad cy B qr s1  w0) (fun u : va_W => wpost dC dI cy A u) A) (List.toArray [.ref (ad 1), .ref (adK 0)]) s 0 0 A) (F0 m 24 ls []) := by
    intro n24
    induction n24 with
    | zero => intro v24_2 v24_3 v24_4 v24_5 v24_6 f24_1_1 H locs ls w1 r2 t3 r4 t5 r6 t7 r8 t9 r10 t11 r12 t13 i15 i16 hm24 hw hT hF c14 hM hl; omega
    | succ n24 ih24 =>
      intro v24_2 v24_3 v24_4 v24_5 v24_6 f24_1_1 H locs ls w1 r2 t3 r4 t5 r6 t7 r8 t9 r10 t11 r12 t13 i15 i16 hm24 hw hT hF c14 hM hl
      have J114 : ∀ (v114_3 : Int32) (v114_4 : Int32) (v114_5 : Int32) (v114_7 : Int32) (H : Heap) (locs : List Loc) (ls : Array Slot) (w17 : va_W), 0 ≤ v24_2.toInt → v24_2.toInt ≤ 400 → 0 ≤ v114_3.toInt → v114_3.toInt ≤ 26 → 0 ≤ v114_4.toInt → v114_4.toInt ≤ 426 → 0 ≤ v114_5.toInt → v114_5.toInt ≤ 1 → 0 ≤ v24_6.toInt → v24_6.toInt ≤ 25 → 0 ≤ f24_1_1.toInt → f24_1_1.toInt ≤ 400 → v114_4.toInt ≤ v24_6.toInt + 401 → v114_3.toInt ≤ v24_6.toInt + 1 → Wd dC dI A s.heap H locs w17 → TW ksC ad cy B qr s1 w17 → FE ksC [(6, 1, 1), (6, 3, 3), (6, 4, 4)] w0 w17 → gi w17 1 1 = f24_1_1 → TT (fun n => m_X6_readWord n 1 0 (sI w0)) (fun n => b_X6_readWord_114 (j_X6_readWord 1 0 n) n 1 0 (v24_2.toInt) (v114_3.toInt) (v114_4.toInt) (v114_5.toInt) (v24_6.toInt) (sI w17)) → lv_has ls 8 [(0, .ref (ad 1)), (1, .ref (adK 0)), (2, .int v24_2), (3, .int v114_3), (4, .int v114_4), (5, .int v114_5), (6, .int v24_6), (7, .int v114_7)] → W p l e ({ frames := 5, cells := 0, slots := 0, locals := 141 }) s m (List.toArray [.ref (ad 1), .ref (adK 0)]) below meth c H locs 0 0 (MQ below (va_Qi (Pz_X6_readWord_1 ad cy B qr s1  w0) (fun u : va_W => wpost dC dI cy A u) A) (List.toArray [.ref (ad 1), .ref (adK 0)]) s 0 0 A) (F0 m 114 ls []) := by
        intro v114_3 v114_4 v114_5 v114_7 H locs ls w17 r18 t19 r20 t21 r22 t23 r24 t25 r26 t27 r28 t29 i31 i32 hw hT hF c30 hM hl
        obtain ⟨x33, ex33⟩ : ∃ y : Int32, y = v24_6 + Int32.ofInt 1 := ⟨_, rfl⟩
        have erx33 := ex33
        refine lv_iinc (v := x33) (lv' := [(6, .int x33), (0, .ref (ad 1)), (1, .ref (adK 0)), (2, .int v24_2), (3, .int v114_3), (4, .int v114_4), (5, .int v114_5), (7, .int v114_7)]) hx hb dX6_readWord_114 hl (k := 6) rfl ex33.symm (by decide) rfl (fun ls hl => ?_)
        have ex33 : x33.toInt = v24_6.toInt + 1 := by rw [ex33]; exact wk_add (y := 1) (show -2147483648 ≤ v24_6.toInt + 1 by omega) (show v24_6.toInt + 1 ≤ 2147483647 by omega)
        replace hM := hM.lt ex33.symm
        refine lv_goto (tgt := 24) hx hb dX6_readWord_117 (by decide) ?_
        exact ih24 v24_2 v114_3 v114_4 v114_5 x33 f24_1_1 H locs ls w17 (show 0 ≤ v24_2.toInt by omega) (show v24_2.toInt ≤ 400 by omega) (show 0 ≤ v114_3.toInt by omega) (show v114_3.toInt ≤ 26 by omega) (show 0 ≤ v114_4.toInt by omega) (show v114_4.toInt ≤ 426 by omega) (show 0 ≤ v114_5.toInt by omega) (show v114_5.toInt ≤ 1 by omega) (show 0 ≤ x33.toInt by omega) (show x33.toInt ≤ 26 by omega) (show 0 ≤ f24_1_1.toInt by omega) (show f24_1_1.toInt ≤ 400 by omega) (show v114_4.toInt ≤ x33.toInt + 400 by omega) (show v114_3.toInt ≤ x33.toInt + 0 by omega) (show (26 - x33.toInt).toNat < n24 by omega) hw hT hF c30 hM (lv_sub hl [1, 2, 3, 4, 5, 6, 0] rfl)
      have J75 : ∀ (v75_7 : Int32) (H : Heap) (locs : List Loc) (ls : Array Slot) (w34 : va_W), 0 ≤ v24_2.toInt → v24_2.toInt ≤ 400 → 0 ≤ v24_3.toInt → v24_3.toInt ≤ 26 → 0 ≤ v24_4.toInt → v24_4.toInt ≤ 426 → 0 ≤ v24_5.toInt → v24_5.toInt ≤ 1 → 0 ≤ v24_6.toInt → v24_6.toInt ≤ 25 → 0 ≤ f24_1_1.toInt → f24_1_1.toInt ≤ 400 → v24_4.toInt ≤ v24_6.toInt + 401 → v24_3.toInt ≤ v24_6.toInt + 1 → Wd dC dI A s.heap H locs w34 → TW ksC ad cy B qr s1 w34 → FE ksC [(6, 1, 1), (6, 3, 3), (6, 4, 4)] w0 w34 → gi w34 1 1 = f24_1_1 → TT (fun n => m_X6_readWord n 1 0 (sI w0)) (fun n => b_X6_readWord_75 (j_X6_readWord 1 0 n) n 1 0 (v24_2.toInt) (v24_3.toInt) (v24_4.toInt) (v24_6.toInt) (sI w34)) → lv_has ls 8 [(0, .ref (ad 1)), (1, .ref (adK 0)), (2, .int v24_2), (3, .int v24_3), (4, .int v24_4), (5, .int v24_5), (6, .int v24_6), (7, .int v75_7)] → W p l e ({ frames := 5, cells := 0, slots := 0, locals := 141 }) s m (List.toArray [.ref (ad 1), .ref (adK 0)]) below meth c H locs 0 0 (MQ below (va_Qi (Pz_X6_readWord_1 ad cy B qr s1  w0) (fun u : va_W => wpost dC dI cy A u) A) (List.toArray [.ref (ad 1), .ref (adK 0)]) s 0 0 A) (F0 m 75 ls []) := by
        intro v75_7 H locs ls w34 r35 t36 r37 t38 r39 t40 r41 t42 r43 t44 r45 t46 i48 i49 hw hT hF c47 hM hl
        refine lv_iconst (v := 0) hx hb dX6_readWord_75 (by decide) ?_
        refine lv_istore (lv' := [(5, .int 0), (0, .ref (ad 1)), (1, .ref (adK 0)), (2, .int v24_2), (3, .int v24_3), (4, .int v24_4), (6, .int v24_6), (7, .int v75_7)]) hx hb dX6_readWord_76 hl (by decide) rfl (fun ls hl => ?_)
        obtain ⟨x50, ex50⟩ : ∃ y : Int32, y = v24_4 + Int32.ofInt 1 := ⟨_, rfl⟩
        have erx50 := ex50
        refine lv_iinc (v := x50) (lv' := [(4, .int x50), (5, .int 0), (0, .ref (ad 1)), (1, .ref (adK 0)), (2, .int v24_2), (3, .int v24_3), (6, .int v24_6), (7, .int v75_7)]) hx hb dX6_readWord_78 hl (k := 5) rfl ex50.symm (by decide) rfl (fun ls hl => ?_)
        have ex50 : x50.toInt = v24_4.toInt + 1 := by rw [ex50]; exact wk_add (y := 1) (show -2147483648 ≤ v24_4.toInt + 1 by omega) (show v24_4.toInt + 1 ≤ 2147483647 by omega)
        replace hM := hM.lt ex50.symm
        refine lv_goto (tgt := 114) hx hb dX6_readWord_81 (by decide) ?_
        exact J114 v24_3 x50 0 v75_7 H locs ls w34 (show 0 ≤ v24_2.toInt by omega) (show v24_2.toInt ≤ 400 by omega) (show 0 ≤ v24_3.toInt by omega) (show v24_3.toInt ≤ 26 by omega) (show 0 ≤ x50.toInt by omega) (show x50.toInt ≤ 426 by omega) (by decide) (by decide) (show 0 ≤ v24_6.toInt by omega) (show v24_6.toInt ≤ 25 by omega) (show 0 ≤ f24_1_1.toInt by omega) (show f24_1_1.toInt ≤ 400 by omega) (show x50.toInt ≤ v24_6.toInt + 401 by omega) (show v24_3.toInt ≤ v24_6.toInt + 1 by omega)  hw hT hF c47 hM (lv_sub hl [2, 3, 4, 5, 0, 1, 6, 7] rfl)
      have J102 : ∀ (H : Heap) (locs : List Loc) (ls : Array Slot) (w51 : va_W), 0 ≤ v24_2.toInt → v24_2.toInt ≤ 400 → 0 ≤ v24_3.toInt → v24_3.toInt ≤ 26 → 0 ≤ v24_4.toInt → v24_4.toInt ≤ 426 → 0 ≤ v24_5.toInt → v24_5.toInt ≤ 1 → 0 ≤ v24_6.toInt → v24_6.toInt ≤ 25 → 0 ≤ f24_1_1.toInt → f24_1_1.toInt ≤ 400 → v24_4.toInt ≤ v24_6.toInt + 401 → v24_3.toInt ≤ v24_6.toInt + 1 → Wd dC dI A s.heap H locs w51 → TW ksC ad cy B qr s1 w51 → FE ksC [(6, 1, 1), (6, 3, 3), (6, 4, 4)] w0 w51 → gi w51 1 1 = f24_1_1 → TT (fun n => m_X6_readWord n 1 0 (sI w0)) (fun n => b_X6_readWord_102 (j_X6_readWord 1 0 n) n 1 0 (v24_2.toInt) (v24_3.toInt) (v24_6.toInt) (sI w51)) → lv_has ls 8 [(0, .ref (ad 1)), (1, .ref (adK 0)), (2, .int v24_2), (3, .int v24_3), (4, .int v24_4), (5, .int v24_5), (6, .int v24_6), (7, .int 32)] → W p l e ({ frames := 5, cells := 0, slots := 0, locals := 141 }) s m (List.toArray [.ref (ad 1), .ref (adK 0)]) below meth c H locs 0 0 (MQ below (va_Qi (Pz_X6_readWord_1 ad cy B qr s1  w0) (fun u : va_W => wpost dC dI cy A u) A) (List.toArray [.ref (ad 1), .ref (adK 0)]) s 0 0 A) (F0 m 102 ls []) := by
        intro H locs ls w51 r52 t53 r54 t55 r56 t57 r58 t59 r60 t61 r62 t63 i65 i66 hw hT hF c64 hM hl
        obtain ⟨x67, ex67⟩ : ∃ y : Int32, y = v24_3 + Int32.ofInt 1 := ⟨_, rfl⟩
        have erx67 := ex67
        refine lv_iinc (v := x67) (lv' := [(3, .int x67), (0, .ref (ad 1)), (1, .ref (adK 0)), (2, .int v24_2), (4, .int v24_4), (5, .int v24_5), (6, .int v24_6), (7, .int 32)]) hx hb dX6_readWord_102 hl (k := 3) rfl ex67.symm (by decide) rfl (fun ls hl => ?_)
        have ex67 : x67.toInt = v24_3.toInt + 1 := by rw [ex67]; exact wk_add (y := 1) (show -2147483648 ≤ v24_3.toInt + 1 by omega) (show v24_3.toInt + 1 ≤ 2147483647 by omega)
        replace hM := hM.lt ex67.symm
        refine lv_aload_n hx hb dX6_readWord_105 rfl (lv_at hl 1 rfl) ?_
        refine tk_geti hC hK hw hT hinX6 kC_at1 (by decide) rfl 1 (by decide) (List.mem_cons_of_mem _ uw_9_16) rfl rfl dX6_readWord_106 (fun x68 c69 rx68 tx68 => ?_)
        refine wk_top f24_1_1 (c69.symm.trans c64) ?_
        replace hM := hM.rd (sI_at c64)
        refine lv_istore (lv' := [(4, .int f24_1_1), (3, .int x67), (0, .ref (ad 1)), (1, .ref (adK 0)), (2, .int v24_2), (5, .int v24_5), (6, .int v24_6), (7, .int 32)]) hx hb dX6_readWord_109 hl (by decide) rfl (fun ls hl => ?_)
        refine lv_iconst (v := 1) hx hb dX6_readWord_111 (by decide) ?_
        refine lv_istore (lv' := [(5, .int 1), (4, .int f24_1_1), (3, .int x67), (0, .ref (ad 1)), (1, .ref (adK 0)), (2, .int v24_2), (6, .int v24_6), (7, .int 32)]) hx hb dX6_readWord_112 hl (by decide) rfl (fun ls hl => ?_)
        exact J114 x67 f24_1_1 1 32 H locs ls w51 (show 0 ≤ v24_2.toInt by omega) (show v24_2.toInt ≤ 400 by omega) (show 0 ≤ x67.toInt by omega) (show x67.toInt ≤ 26 by omega) (show 0 ≤ f24_1_1.toInt by omega) (show f24_1_1.toInt ≤ 426 by omega) (by decide) (by decide) (show 0 ≤ v24_6.toInt by omega) (show v24_6.toInt ≤ 25 by omega) (show 0 ≤ f24_1_1.toInt by omega) (show f24_1_1.toInt ≤ 400 by omega) (show f24_1_1.toInt ≤ v24_6.toInt + 401 by omega) (show x67.toInt ≤ v24_6.toInt + 1 by omega)  hw hT hF c64 hM (lv_sub hl [3, 4, 5, 2, 1, 0, 6, 7] rfl)
      replace hM := hM.suc (fun _ => e_X6_readWord_24)
      refine lv_iload hx hb dX6_readWord_24 (lv_at hl 6 rfl) ?_
      refine lv_aload_n hx hb dX6_readWord_26 rfl (lv_at hl 1 rfl) ?_
      refine tk_ViT hC hK hw hA hE hSR (s_length l adK adV dC dI cy 0 (by decide) H.size) (cwV 0 hC.2.2.2.2 uV_RX6_56 rfl rfl rfl (by decide +kernel) ⟨Nat.le_of_ble_eq_true rfl, Nat.le_of_ble_eq_true rfl⟩) 0 (by decide) rfl rfl rfl hl.1 rfl (Nat.le_of_ble_eq_true rfl) dX6_readWord_27 (fun r70 H locs hp71 hw => ?_)
      obtain ⟨-, hp71⟩ := hp71
      obtain rfl : r70 = 26 := hp71
      replace hM := hM.lt (v := 26) (by decide)
      refine lv_icmp_ge (tgt := 120) hx hb dX6_readWord_30 (by decide) (fun c72 => ?_) (fun c72 => ?_)
      · have c72 : (26 : Int) ≤ v24_6.toInt := wk_le.mp c72
        replace hM := hM.pos c72
        refine lv_aload_n hx hb dX6_readWord_120 rfl (lv_at hl 0 rfl) ?_
        refine lv_aload_n hx hb dX6_readWord_121 rfl (lv_at hl 0 rfl) ?_
        refine tk_geti hC hK hw hT hinX6 kC_at1 (by decide) rfl 3 (by decide) (List.mem_cons_of_mem _ uw_9_17) rfl rfl dX6_readWord_122 (fun x73 c74 rx73 tx73 => ?_)
        replace hM := hM.rd (sI_at c74)
        refine lv_iconst (v := 0) hx hb dX6_readWord_125 (by decide) ?_
        refine tk_Vv hC hK hw hT hA hE hSR kC_at1 (by decide) rfl (kz_X6_blame_1 l adK adV dC dI cy ad B (by omega) (by omega) qr s1   x73 (show 0 ≤ x73.toInt by omega) (show x73.toInt ≤ 400 by omega) 0 (by decide) (by decide) w1 H.size hT ) (cwV 2 hC.2.2.2.2 uV_RX6_35 rfl rfl rfl (by decide +kernel) ⟨Nat.le_of_ble_eq_true rfl, Nat.le_of_ble_eq_true rfl⟩) rfl hl.1 rfl (Nat.le_of_ble_eq_true rfl) dX6_readWord_126 (fun w77 H locs hp76 hw => ?_)
        obtain ⟨hT, k78, hv82, hg81⟩ := hp76
        try simp only [show (0 : Int32).toInt = 0 by decide] at hv82
        have hF := hF.tr k78 (by decide)
        have c83 := k78.gi kC_at1 (by decide) c14
        have c84 := k78.gi kC_at1 (by decide) c74
        obtain ⟨x79, c80, rx79, tx79⟩ := hg81
        replace hM := hM.call hv82 rfl
        refine lv_iconst (v := (-1)) hx hb dX6_readWord_129 (by decide) ?_
        exact tk_iret hC hr hlocks hK ⟨hT, hF, hM.ret (by decide), (Or.inr ⟨rfl, ⟨x79, c80, (show 1 ≤ x79.toInt by omega), (show x79.toInt ≤ 3205 by omega)⟩⟩)⟩ hw dX6_readWord_130
      · have c72 : v24_6.toInt < (26 : Int) := wk_leF c72
        replace hM := hM.neg (Int.not_le.mpr c72)
        refine lv_aload_n hx hb dX6_readWord_33 rfl (lv_at hl 1 rfl) ?_
        refine lv_iload hx hb dX6_readWord_34 (lv_at hl 6 rfl) ?_
        refine tk_ViT hC hK hw hA hE hSR (s_charAt l adK adV dC dI cy 0 (by decide) v24_6 (show 0 ≤ v24_6.toInt by omega) (show v24_6.toInt < 26 by omega) H.size) (cwV 1 hC.2.2.2.2 uV_RX6_60 rfl rfl rfl (by decide +kernel) ⟨Nat.le_of_ble_eq_true rfl, Nat.le_of_ble_eq_true rfl⟩) 0 (by decide) rfl rfl rfl hl.1 rfl (Nat.le_of_ble_eq_true rfl) dX6_readWord_36 (fun r85 H locs hp86 hw => ?_)
        obtain ⟨-, hp86⟩ := hp86
        replace hM := hM.lt (chS_e hp86 rfl)
        refine lv_istore (lv' := [(7, .int r85), (0, .ref (ad 1)), (1, .ref (adK 0)), (2, .int v24_2), (3, .int v24_3), (4, .int v24_4), (5, .int v24_5), (6, .int v24_6)]) hx hb dX6_readWord_39 hl (by decide) rfl (fun ls hl => ?_)
        refine lv_iload hx hb dX6_readWord_41 (lv_at hl 0 rfl) ?_
        refine lv_bipush (v := 32) hx hb dX6_readWord_43 (by decide) ?_
        refine lv_icmp_eq (tgt := 84) hx hb dX6_readWord_45 (by decide) (fun c87 => ?_) (fun c87 => ?_)
        · have c87 : r85.toInt = (32 : Int) := wk_eq.mp c87
          replace hM := hM.pos c87
          refine lv_iload hx hb dX6_readWord_84 (lv_at hl 6 rfl) ?_
          refine lv_if_eq (tgt := 102) hx hb dX6_readWord_86 (by decide) (fun c88 => ?_) (fun c88 => ?_)
          · have c88 : v24_5.toInt = (0 : Int) := wk_eq.mp c88
            replace hM := hM.pos c88
            obtain rfl : r85 = 32 := wk_eq.mpr (show r85.toInt = 32 by omega)
            try simp only [show (32 : Int32).toInt = 32 by decide] at hM
            exact J102  H locs ls w1 (show 0 ≤ v24_2.toInt by omega) (show v24_2.toInt ≤ 400 by omega) (show 0 ≤ v24_3.toInt by omega) (show v24_3.toInt ≤ 26 by omega) (show 0 ≤ v24_4.toInt by omega) (show v24_4.toInt ≤ 426 by omega) (show 0 ≤ v24_5.toInt by omega) (show v24_5.toInt ≤ 1 by omega) (show 0 ≤ v24_6.toInt by omega) (show v24_6.toInt ≤ 25 by omega) (show 0 ≤ f24_1_1.toInt by omega) (show f24_1_1.toInt ≤ 400 by omega) (show v24_4.toInt ≤ v24_6.toInt + 401 by omega) (show v24_3.toInt ≤ v24_6.toInt + 1 by omega)  hw hT hF c14 hM (lv_sub hl [1, 2, 3, 4, 5, 6, 7, 0] rfl)
          · have c88 : ¬ v24_5.toInt = (0 : Int) := wk_eqF c88
            replace hM := hM.neg c88
            refine lv_iload hx hb dX6_readWord_89 (lv_at hl 5 rfl) ?_
            refine lv_iload_n hx hb dX6_readWord_91 rfl (lv_at hl 3 rfl) ?_
            refine lv_icmp_ne (tgt := 102) hx hb dX6_readWord_92 (by decide) (fun c89 => ?_) (fun c89 => ?_)
            · have c89 : ¬ v24_4.toInt = v24_2.toInt := wk_eqF c89
              replace hM := hM.pos c89
              obtain rfl : r85 = 32 := wk_eq.mpr (show r85.toInt = 32 by omega)
              try simp only [show (32 : Int32).toInt = 32 by decide] at hM
              exact J102  H locs ls w1 (show 0 ≤ v24_2.toInt by omega) (show v24_2.toInt ≤ 400 by omega) (show 0 ≤ v24_3.toInt by omega) (show v24_3.toInt ≤ 26 by omega) (show 0 ≤ v24_4.toInt by omega) (show v24_4.toInt ≤ 426 by omega) (show 0 ≤ v24_5.toInt by omega) (show v24_5.toInt ≤ 1 by omega) (show 0 ≤ v24_6.toInt by omega) (show v24_6.toInt ≤ 25 by omega) (show 0 ≤ f24_1_1.toInt by omega) (show f24_1_1.toInt ≤ 400 by omega) (show v24_4.toInt ≤ v24_6.toInt + 401 by omega) (show v24_3.toInt ≤ v24_6.toInt + 1 by omega)  hw hT hF c14 hM (lv_sub hl [1, 2, 3, 4, 5, 6, 7, 0] rfl)
            · have c89 : v24_4.toInt = v24_2.toInt := wk_eq.mp c89
              replace hM := hM.neg (fun q => q c89)
              refine lv_aload_n hx hb dX6_readWord_95 rfl (lv_at hl 1 rfl) ?_
              refine lv_iload_n hx hb dX6_readWord_96 rfl (lv_at hl 3 rfl) ?_
              refine tk_puti hC hK hw hT hinX6 tyX6_ok nmX6 kC_at1 (by decide) rfl rfl 1 (by decide) (List.mem_cons_of_mem _ uw_9_16) rfl rfl rfl rfl (show 0 ≤ v24_2.toInt by omega) (show v24_2.toInt ≤ 400 by omega) dX6_readWord_97 (fun H locs w90 hw hT k92 c91 => ?_)
              replace hM := hM.wr (sI_up k92 c91)
              have hF := hF.put kC_at1 (k := 1) (by decide) k92
              refine lv_iload_n hx hb dX6_readWord_100 rfl (lv_at hl 4 rfl) ?_
              exact tk_iret hC hr hlocks hK ⟨hT, hF, hM.ret rfl, (Or.inl ⟨(show 0 ≤ v24_3.toInt by omega), (show v24_3.toInt ≤ 26 by omega)⟩)⟩ hw dX6_readWord_101
        · have c87 : ¬ r85.toInt = (32 : Int) := wk_eqF c87
          replace hM := hM.neg c87
          refine lv_iload hx hb dX6_readWord_48 (lv_at hl 6 rfl) ?_
          refine lv_if_eq (tgt := 75) hx hb dX6_readWord_50 (by decide) (fun c93 => ?_) (fun c93 => ?_)
          · have c93 : v24_5.toInt = (0 : Int) := wk_eq.mp c93
            replace hM := hM.pos c93
            exact J75 r85 H locs ls w1 (show 0 ≤ v24_2.toInt by omega) (show v24_2.toInt ≤ 400 by omega) (show 0 ≤ v24_3.toInt by omega) (show v24_3.toInt ≤ 26 by omega) (show 0 ≤ v24_4.toInt by omega) (show v24_4.toInt ≤ 426 by omega) (show 0 ≤ v24_5.toInt by omega) (show v24_5.toInt ≤ 1 by omega) (show 0 ≤ v24_6.toInt by omega) (show v24_6.toInt ≤ 25 by omega) (show 0 ≤ f24_1_1.toInt by omega) (show f24_1_1.toInt ≤ 400 by omega) (show v24_4.toInt ≤ v24_6.toInt + 401 by omega) (show v24_3.toInt ≤ v24_6.toInt + 1 by omega)  hw hT hF c14 hM (lv_sub hl [1, 2, 3, 4, 5, 6, 7, 0] rfl)
          · have c93 : ¬ v24_5.toInt = (0 : Int) := wk_eqF c93
            replace hM := hM.neg c93
            refine lv_iload hx hb dX6_readWord_53 (lv_at hl 5 rfl) ?_
            refine lv_iload_n hx hb dX6_readWord_55 rfl (lv_at hl 3 rfl) ?_
            refine lv_icmp_ge (tgt := 75) hx hb dX6_readWord_56 (by decide) (fun c94 => ?_) (fun c94 => ?_)
            · have c94 : v24_2.toInt ≤ v24_4.toInt := wk_le.mp c94
              replace hM := hM.pos c94
              exact J75 r85 H locs ls w1 (show 0 ≤ v24_2.toInt by omega) (show v24_2.toInt ≤ 400 by omega) (show 0 ≤ v24_3.toInt by omega) (show v24_3.toInt ≤ 26 by omega) (show 0 ≤ v24_4.toInt by omega) (show v24_4.toInt ≤ 426 by omega) (show 0 ≤ v24_5.toInt by omega) (show v24_5.toInt ≤ 1 by omega) (show 0 ≤ v24_6.toInt by omega) (show v24_6.toInt ≤ 25 by omega) (show 0 ≤ f24_1_1.toInt by omega) (show f24_1_1.toInt ≤ 400 by omega) (show v24_4.toInt ≤ v24_6.toInt + 401 by omega) (show v24_3.toInt ≤ v24_6.toInt + 1 by omega)  hw hT hF c14 hM (lv_sub hl [1, 2, 3, 4, 5, 6, 7, 0] rfl)
            · have c94 : v24_4.toInt < v24_2.toInt := wk_leF c94
              replace hM := hM.neg (Int.not_le.mpr c94)
              refine lv_aload_n hx hb dX6_readWord_59 rfl (lv_at hl 1 rfl) ?_
              refine tk_getA hC hK hw hT hinX6 kC_at1 (by decide) rfl 0 (by decide) (List.mem_cons_of_mem _ uw_2_12) rfl rfl dX6_readWord_60 ?_
              refine lv_iload hx hb dX6_readWord_63 (lv_at hl 5 rfl) ?_
              refine tk_iald hC hK hw hT kC_at2 rfl rfl (show 0 ≤ v24_4.toInt by omega) (show v24_4.toInt < 400 by omega) dX6_readWord_65 (fun x95 c96 rx95 tx95 => ?_)
              have hox95 := c96
              replace hM := hM.rd (sI_at hox95)
              refine lv_iload hx hb dX6_readWord_66 (lv_at hl 0 rfl) ?_
              refine lv_icmp_ne (tgt := 75) hx hb dX6_readWord_68 (by decide) (fun c97 => ?_) (fun c97 => ?_)
              · have c97 : ¬ x95.toInt = r85.toInt := wk_eqF c97
                replace hM := hM.pos c97
                exact J75 r85 H locs ls w1 (show 0 ≤ v24_2.toInt by omega) (show v24_2.toInt ≤ 400 by omega) (show 0 ≤ v24_3.toInt by omega) (show v24_3.toInt ≤ 26 by omega) (show 0 ≤ v24_4.toInt by omega) (show v24_4.toInt ≤ 426 by omega) (show 0 ≤ v24_5.toInt by omega) (show v24_5.toInt ≤ 1 by omega) (show 0 ≤ v24_6.toInt by omega) (show v24_6.toInt ≤ 25 by omega) (show 0 ≤ f24_1_1.toInt by omega) (show f24_1_1.toInt ≤ 400 by omega) (show v24_4.toInt ≤ v24_6.toInt + 401 by omega) (show v24_3.toInt ≤ v24_6.toInt + 1 by omega)  hw hT hF c14 hM (lv_sub hl [1, 2, 3, 4, 5, 6, 7, 0] rfl)
              · have c97 : x95.toInt = r85.toInt := wk_eq.mp c97
                replace hM := hM.neg (fun q => q c97)
                refine lv_iconst (v := 1) hx hb dX6_readWord_71 (by decide) ?_
                refine lv_goto (tgt := 76) hx hb dX6_readWord_72 (by decide) ?_
                refine lv_istore (lv' := [(5, .int 1), (7, .int r85), (0, .ref (ad 1)), (1, .ref (adK 0)), (2, .int v24_2), (3, .int v24_3), (4, .int v24_4), (6, .int v24_6)]) hx hb dX6_readWord_76 hl (by decide) rfl (fun ls hl => ?_)
                obtain ⟨x98, ex98⟩ : ∃ y : Int32, y = v24_4 + Int32.ofInt 1 := ⟨_, rfl⟩
                have erx98 := ex98
                refine lv_iinc (v := x98) (lv' := [(4, .int x98), (5, .int 1), (7, .int r85), (0, .ref (ad 1)), (1, .ref (adK 0)), (2, .int v24_2), (3, .int v24_3), (6, .int v24_6)]) hx hb dX6_readWord_78 hl (k := 6) rfl ex98.symm (by decide) rfl (fun ls hl => ?_)
                have ex98 : x98.toInt = v24_4.toInt + 1 := by rw [ex98]; exact wk_add (y := 1) (show -2147483648 ≤ v24_4.toInt + 1 by omega) (show v24_4.toInt + 1 ≤ 2147483647 by omega)
                replace hM := hM.lt ex98.symm
                refine lv_goto (tgt := 114) hx hb dX6_readWord_81 (by decide) ?_
                exact J114 v24_3 x98 1 r85 H locs ls w1 (show 0 ≤ v24_2.toInt by omega) (show v24_2.toInt ≤ 400 by omega) (show 0 ≤ v24_3.toInt by omega) (show v24_3.toInt ≤ 26 by omega) (show 0 ≤ x98.toInt by omega) (show x98.toInt ≤ 426 by omega) (by decide) (by decide) (show 0 ≤ v24_6.toInt by omega) (show v24_6.toInt ≤ 25 by omega) (show 0 ≤ f24_1_1.toInt by omega) (show f24_1_1.toInt ≤ 400 by omega) (show x98.toInt ≤ v24_6.toInt + 401 by omega) (show v24_3.toInt ≤ v24_6.toInt + 1 by omega)  hw hT hF c14 hM (lv_sub hl [3, 4, 5, 6, 0, 1, 7, 2] rfl)
  have hM : TT (fun n => m_X6_readWord n 1 0 (sI w0)) (fun n => m_X6_readWord n 1 0 (sI w0)) := TT.rf
  refine lv_aload_n hx hb dX6_readWord_0 rfl (lv_at hl 0 rfl) ?_
  refine tk_Vi hC hK hw hT hA hE hSR kC_at1 (by decide) rfl (kz_X6_lookBehindBlanks_1 l adK adV dC dI cy ad B (by omega) (by omega) qr s1    w0 s.heap.size hT ) (cwV 0 hC.2.2.2.2 uV_RX6_28 rfl rfl rfl (by decide +kernel) ⟨Nat.le_of_ble_eq_true rfl, Nat.le_of_ble_eq_true rfl⟩) rfl hl.1 rfl (Nat.le_of_ble_eq_true rfl) dX6_readWord_1 (fun r99 w101 H locs hp100 hw => ?_)
  obtain ⟨hT, k102, hv112, hg111⟩ := hp100
  have hF := hF.tr k102 (by decide)
  rcases hg111 with ⟨g103, g104, ⟨x105, c106, rx105, tx105⟩, ⟨x107, c108, rx107, tx107⟩, ⟨x109, c110, rx109, tx109⟩⟩ | rfl
  · replace hM := hM.call hv112 rfl
    refine lv_pop hx hb dX6_readWord_4 rfl ?_
    refine lv_aload_n hx hb dX6_readWord_5 rfl (lv_at hl 0 rfl) ?_
    refine tk_Vi hC hK hw hT hA hE hSR kC_at1 (by decide) rfl (kz_X6_endOfWord_1 l adK adV dC dI cy ad B (by omega) (by omega) qr s1    w101 H.size hT ) (cwV 0 hC.2.2.2.2 uV_RX6_53 rfl rfl rfl (by decide +kernel) ⟨Nat.le_of_ble_eq_true rfl, Nat.le_of_ble_eq_true rfl⟩) rfl hl.1 rfl (Nat.le_of_ble_eq_true rfl) dX6_readWord_6 (fun r113 w115 H locs hp114 hw => ?_)
    obtain ⟨hT, k116, hv120, hg119⟩ := hp114
    have hF := hF.tr k116 (by decide)
    have c121 := k116.gi kC_at1 (by decide) c106
    have c122 := k116.gi kC_at1 (by decide) c108
    have c123 := k116.gi kC_at1 (by decide) c110
    obtain ⟨g117, g118⟩ := hg119
    replace hM := hM.call hv120 rfl
    refine lv_istore_n (lv' := [(2, .int r113), (0, .ref (ad 1)), (1, .ref (adK 0))]) hx hb dX6_readWord_9 rfl hl (by decide) rfl (fun ls hl => ?_)
    refine lv_iconst (v := 0) hx hb dX6_readWord_10 (by decide) ?_
    refine lv_istore_n (lv' := [(3, .int 0), (2, .int r113), (0, .ref (ad 1)), (1, .ref (adK 0))]) hx hb dX6_readWord_11 rfl hl (by decide) rfl (fun ls hl => ?_)
    refine lv_aload_n hx hb dX6_readWord_12 rfl (lv_at hl 2 rfl) ?_
    refine tk_geti hC hK hw hT hinX6 kC_at1 (by decide) rfl 1 (by decide) (List.mem_cons_of_mem _ uw_9_16) rfl rfl dX6_readWord_13 (fun x124 c125 rx124 tx124 => ?_)
    refine wk_top x105 (c125.symm.trans c121) ?_
    replace hM := hM.rd (sI_at c121)
    refine lv_istore (lv' := [(4, .int x105), (3, .int 0), (2, .int r113), (0, .ref (ad 1)), (1, .ref (adK 0))]) hx hb dX6_readWord_16 hl (by decide) rfl (fun ls hl => ?_)
    refine lv_iconst (v := 1) hx hb dX6_readWord_18 (by decide) ?_
    refine lv_istore (lv' := [(5, .int 1), (4, .int x105), (3, .int 0), (2, .int r113), (0, .ref (ad 1)), (1, .ref (adK 0))]) hx hb dX6_readWord_19 hl (by decide) rfl (fun ls hl => ?_)
    refine lv_iconst (v := 0) hx hb dX6_readWord_21 (by decide) ?_
    refine lv_istore (lv' := [(6, .int 0), (5, .int 1), (4, .int x105), (3, .int 0), (2, .int r113), (0, .ref (ad 1)), (1, .ref (adK 0))]) hx hb dX6_readWord_22 hl (by decide) rfl (fun ls hl => ?_)
    exact L24 ((26 - (0 : Int)).toNat + 1) r113 0 x105 1 0 x105 H locs ls w115 (show 0 ≤ r113.toInt by omega) (show r113.toInt ≤ 400 by omega) (by decide) (by decide) (show 0 ≤ x105.toInt by omega) (show x105.toInt ≤ 426 by omega) (by decide) (by decide) (by decide) (by decide) (show 0 ≤ x105.toInt by omega) (show x105.toInt ≤ 400 by omega) (show x105.toInt ≤ (0 : Int) + 400 by omega) (show (0 : Int) ≤ (0 : Int) + 0 by omega) (Nat.lt_succ_self _) hw hT hF c121 hM (lv_sub hl [5, 6, 4, 3, 2, 1, 0] rfl)
  · replace hM := hM.call (r' := (-1)) hv112 (by decide)
    refine lv_pop hx hb dX6_readWord_4 rfl ?_
    refine lv_aload_n hx hb dX6_readWord_5 rfl (lv_at hl 0 rfl) ?_
    refine tk_Vi hC hK hw hT hA hE hSR kC_at1 (by decide) rfl (kz_X6_endOfWord_1 l adK adV dC dI cy ad B (by omega) (by omega) qr s1    w101 H.size hT ) (cwV 0 hC.2.2.2.2 uV_RX6_53 rfl rfl rfl (by decide +kernel) ⟨Nat.le_of_ble_eq_true rfl, Nat.le_of_ble_eq_true rfl⟩) rfl hl.1 rfl (Nat.le_of_ble_eq_true rfl) dX6_readWord_6 (fun r126 w128 H locs hp127 hw => ?_)
    obtain ⟨hT, k129, hv133, hg132⟩ := hp127
    have hF := hF.tr k129 (by decide)
    obtain ⟨g130, g131⟩ := hg132
    replace hM := hM.call hv133 rfl
    refine lv_istore_n (lv' := [(2, .int r126), (0, .ref (ad 1)), (1, .ref (adK 0))]) hx hb dX6_readWord_9 rfl hl (by decide) rfl (fun ls hl => ?_)
    refine lv_iconst (v := 0) hx hb dX6_readWord_10 (by decide) ?_
    refine lv_istore_n (lv' := [(3, .int 0), (2, .int r126), (0, .ref (ad 1)), (1, .ref (adK 0))]) hx hb dX6_readWord_11 rfl hl (by decide) rfl (fun ls hl => ?_)
    refine lv_aload_n hx hb dX6_readWord_12 rfl (lv_at hl 2 rfl) ?_
    refine tk_geti hC hK hw hT hinX6 kC_at1 (by decide) rfl 1 (by decide) (List.mem_cons_of_mem _ uw_9_16) rfl rfl dX6_readWord_13 (fun x134 c135 rx134 tx134 => ?_)
    replace hM := hM.rd (sI_at c135)
    refine lv_istore (lv' := [(4, .int x134), (3, .int 0), (2, .int r126), (0, .ref (ad 1)), (1, .ref (adK 0))]) hx hb dX6_readWord_16 hl (by decide) rfl (fun ls hl => ?_)
    refine lv_iconst (v := 1) hx hb dX6_readWord_18 (by decide) ?_
    refine lv_istore (lv' := [(5, .int 1), (4, .int x134), (3, .int 0), (2, .int r126), (0, .ref (ad 1)), (1, .ref (adK 0))]) hx hb dX6_readWord_19 hl (by decide) rfl (fun ls hl => ?_)
    refine lv_iconst (v := 0) hx hb dX6_readWord_21 (by decide) ?_
    refine lv_istore (lv' := [(6, .int 0), (5, .int 1), (4, .int x134), (3, .int 0), (2, .int r126), (0, .ref (ad 1)), (1, .ref (adK 0))]) hx hb dX6_readWord_22 hl (by decide) rfl (fun ls hl => ?_)
    exact L24 ((26 - (0 : Int)).toNat + 1) r126 0 x134 1 0 x134 H locs ls w128 (show 0 ≤ r126.toInt by omega) (show r126.toInt ≤ 400 by omega) (by decide) (by decide) (show 0 ≤ x134.toInt by omega) (show x134.toInt ≤ 426 by omega) (by decide) (by decide) (by decide) (by decide) (show 0 ≤ x134.toInt by omega) (show x134.toInt ≤ 400 by omega) (show x134.toInt ≤ (0 : Int) + 400 by omega) (show (0 : Int) ≤ (0 : Int) + 0 by omega) (Nat.lt_succ_self _) hw hT hF c135 hM (lv_sub hl [5, 6, 4, 3, 2, 1, 0] rfl)
abbrev Pz_X7_isTooMany_1 (ad : Nat → Nat) (cy : Nat → ClassId) (B : Int) (qr : Nat) (s1 : Int) (a1 : Int32) (a2 : Int32) (w0 : va_W) : Int32 → va_W → Prop := fun r u => TW ksC ad cy B qr s1 u ∧ FE ksC ([] : List (Nat × Nat × Nat)) w0 u ∧ Ev (fun n => m_X7_isTooMany n 29 a1.toInt a2.toInt (sI w0)) (r.toInt, sI u) ∧ ((r = 0 ∧ a1.toInt ≤ 0 ∧ a2.toInt ≤ 0) ∨ (r = 0 ∧ 1 ≤ a1.toInt ∧ a1.toInt ≤ 1 ∧ 1 ≤ a2.toInt ∧ a2.toInt ≤ 31 ∧ (∃ y : Int32, gi u 29 9 = y ∧ 0 ≤ y.toInt ∧ y.toInt ≤ 11)) ∨ (r = 0 ∧ 2 ≤ a1.toInt ∧ a1.toInt ≤ 2 ∧ 1 ≤ a2.toInt ∧ a2.toInt ≤ 31 ∧ (∃ y : Int32, gi u 29 10 = y ∧ 0 ≤ y.toInt ∧ y.toInt ≤ 7)) ∨ (r = 0 ∧ 3 ≤ a1.toInt ∧ 1 ≤ a2.toInt ∧ a2.toInt ≤ 31 ∧ (∃ y : Int32, gi u 29 11 = y ∧ 0 ≤ y.toInt ∧ y.toInt ≤ 3)) ∨ (r = 1) ∨ (r = 1 ∧ 1 ≤ a1.toInt ∧ a1.toInt ≤ 1 ∧ 1 ≤ a2.toInt ∧ a2.toInt ≤ 31 ∧ (∃ y : Int32, gi u 29 9 = y ∧ 12 ≤ y.toInt ∧ y.toInt ≤ 12)) ∨ (r = 1 ∧ 2 ≤ a1.toInt ∧ a1.toInt ≤ 2 ∧ 1 ≤ a2.toInt ∧ a2.toInt ≤ 31 ∧ (∃ y : Int32, gi u 29 10 = y ∧ 8 ≤ y.toInt ∧ y.toInt ≤ 8)) ∨ (r = 1 ∧ 3 ≤ a1.toInt ∧ 1 ≤ a2.toInt ∧ a2.toInt ≤ 31 ∧ (∃ y : Int32, gi u 29 11 = y ∧ 4 ≤ y.toInt ∧ y.toInt ≤ 4)))
set_option maxHeartbeats 4000000 in
set_option maxRecDepth 100000 in
theorem kz_X7_isTooMany_1 (l : Launch) (adK adV : Nat → Nat) (dC : Nat → ClassId) (dI : Nat → Nat → Nat) (cy : Nat → ClassId) (ad : Nat → Nat) (B : Int) (hB0 : 2147483648 ≤ B) (hB1 : B ≤ 1152921504606846976) (qr : Nat) (s1 : Int)  (a1 : Int32) (ra1 : 0 ≤ a1.toInt) (ta1 : a1.toInt ≤ 26) (a2 : Int32) (ra2 : 0 ≤ a2.toInt) (ta2 : a2.toInt ≤ 32) (w0 : va_W) (sz : Nat) (hT : TW ksC ad cy B qr s1 w0)  : Met l yX7_isTooMany (wu yX7_isTooMany cX7_isTooMany 3 (some .boolean)) ({ frames := 1, cells := 0, slots := 0, locals := 12 }) (va_Pc [.ref (ad 29), .int a1, .int a2] (wpreS adK adV dC dI cy sz w0)) (va_Qi (Pz_X7_isTooMany_1 ad cy B qr s1 a1 a2 w0) (fun u : va_W => wpost dC dI cy (va_A w0 sz) u) (va_A w0 sz)) 0 0 (va_A w0 sz) := by
  refine Met.ofW (cc := cX7_isTooMany) (maxL := 3) (ret := (some .boolean)) (by decide) rfl ?_
  intro p e s m args below meth c s₁ Bk hml hv
  obtain ⟨rfl, ⟨hsz, hP, hK, hD0⟩, hE, hSR⟩ := hv
  have hx := Bk.exec
  have hb := Bk.bytes
  have hr := Bk.returns
  have hlocks := Bk.notSynchronized
  have hC : CallFix p m c cX7_isTooMany 3 s _ (wu yX7_isTooMany cX7_isTooMany 3 (some .boolean)) RX7 := ⟨hx, hb, hml, findClass_of_methodNamed Bk.named, atoms_spec (ws := (wu yX7_isTooMany cX7_isTooMany 3 (some .boolean))) Bk.pre⟩
  subst hsz
  have hD := hD0.self (sz := s.heap.size)
  generalize hAe : va_A w0 s.heap.size = A at hD hE ⊢
  have hA : ∀ q : Nat, s.heap.size ≤ q → A q := fun q h => by rw [← hAe]; exact Or.inr h
  have hw : Wd dC dI A s.heap s.heap [] w0 := ⟨hP, hD, va_S.rf⟩
  have hF : FE ksC ([] : List (Nat × Nat × Nat)) w0 w0 := FE.rf
  have hl := lv_entry ([.ref (ad 29), .int a1, .int a2]) (n := 3) (Nat.le_of_ble_eq_true rfl)
  rw [lg_entry_eq]
  generalize (lg_sl ([.ref (ad 29), .int a1, .int a2]) ++ List.replicate (3 - (lg_sl ([.ref (ad 29), .int a1, .int a2])).length) Slot.unset).toArray = ls at hl ⊢
  have hl : lv_has ls 3 [(0, .ref (ad 29)), (1, .int a1), (2, .int a2)] := hl
  generalize hloc : ([] : List Loc) = locs at hw ⊢
  have hinX7 : ∀ w ∈ u_ws RX7 TX7 12, w ∈ (wu yX7_isTooMany cX7_isTooMany 3 (some .boolean)) := fun _ h => List.mem_cons_of_mem _ (up_73 h)
  have J27 : ∀ (H : Heap) (locs : List Loc) (ls : Array Slot) (w1 : va_W), 0 ≤ a1.toInt → a1.toInt ≤ 26 → 0 ≤ a2.toInt → a2.toInt ≤ 32 → Wd dC dI A s.heap H locs w1 → TW ksC ad cy B qr s1 w1 → FE ksC ([] : List (Nat × Nat × Nat)) w0 w1 → TT (fun n => m_X7_isTooMany n 29 a1.toInt a2.toInt (sI w0)) (fun n => b_X7_isTooMany_27 n 29 (sI w1)) → lv_has ls 3 [(0, .ref (ad 29)), (1, .int a1), (2, .int a2)] → W p l e ({ frames := 1, cells := 0, slots := 0, locals := 12 }) s m (List.toArray [.ref (ad 29), .int a1, .int a2]) below meth c H locs 0 0 (MQ below (va_Qi (Pz_X7_isTooMany_1 ad cy B qr s1 a1 a2 w0) (fun u : va_W => wpost dC dI cy A u) A) (List.toArray [.ref (ad 29), .int a1, .int a2]) s 0 0 A) (F0 m 27 ls []) := by
    intro H locs ls w1 r2 t3 r4 t5 hw hT hF hM hl
    refine lv_iconst (v := 1) hx hb dX7_isTooMany_27 (by decide) ?_
    exact tk_zret hC hr rfl hlocks hK ⟨hT, hF, hM.ret (by decide), (Or.inr (Or.inr (Or.inr (Or.inr (Or.inl rfl)))))⟩ hw dX7_isTooMany_28
  have hM : TT (fun n => m_X7_isTooMany n 29 a1.toInt a2.toInt (sI w0)) (fun n => m_X7_isTooMany n 29 a1.toInt a2.toInt (sI w0)) := TT.rf
  refine lv_iload_n hx hb dX7_isTooMany_0 rfl (lv_at hl 2 rfl) ?_
  refine lv_bipush (v := 32) hx hb dX7_isTooMany_1 (by decide) ?_
  refine lv_icmp_ge (tgt := 27) hx hb dX7_isTooMany_3 (by decide) (fun c6 => ?_) (fun c6 => ?_)
  · have c6 : (32 : Int) ≤ a2.toInt := wk_le.mp c6
    replace hM := hM.pos c6
    exact J27  s.heap locs ls w0 (show 0 ≤ a1.toInt by omega) (show a1.toInt ≤ 26 by omega) (show 0 ≤ a2.toInt by omega) (show a2.toInt ≤ 32 by omega)  hw hT hF hM (lv_sub hl [0, 1, 2] rfl)
  · have c6 : a2.toInt < (32 : Int) := wk_leF c6
    replace hM := hM.neg (Int.not_le.mpr c6)
    refine lv_iload_n hx hb dX7_isTooMany_6 rfl (lv_at hl 1 rfl) ?_
    refine lv_if_ne (tgt := 14) hx hb dX7_isTooMany_7 (by decide) (fun c7 => ?_) (fun c7 => ?_)
    · have c7 : ¬ a1.toInt = (0 : Int) := wk_eqF c7
      replace hM := hM.pos c7
      refine lv_iconst (v := 0) hx hb dX7_isTooMany_14 (by decide) ?_
      refine lv_iload_n hx hb dX7_isTooMany_15 rfl (lv_at hl 2 rfl) ?_
      refine lv_if_ne (tgt := 23) hx hb dX7_isTooMany_16 (by decide) (fun c8 => ?_) (fun c8 => ?_)
      · have c8 : ¬ a2.toInt = (0 : Int) := wk_eqF c8
        replace hM := hM.pos c8
        refine lv_iconst (v := 0) hx hb dX7_isTooMany_23 (by decide) ?_
        refine lv_icmp_eq (tgt := 29) hx hb dX7_isTooMany_24 (by decide) (fun _ => ?_) (fun c => absurd (by decide) c)
        replace hM := hM.pos (by decide)
        refine lv_iload_n hx hb dX7_isTooMany_29 rfl (lv_at hl 1 rfl) ?_
        rcases (show a1.toInt = 1 ∨ a1.toInt = 2 ∨ (a1.toInt < 0 ∨ 2 < a1.toInt) by omega) with c9 | c9 | c9
        · refine lv_tableIn (off := 28) (tgt := 58) hx hb dX7_isTooMany_30 (by omega) (by omega) (by rw [c9]; rfl) (by decide) ?_
          replace hM := hM.neg (by omega)
          replace hM := hM.pos (by omega)
          refine lv_aload_n hx hb dX7_isTooMany_58 rfl (lv_at hl 0 rfl) ?_
          refine tk_geti hC hK hw hT hinX7 kC_at29 (by decide) rfl 9 (by decide) (List.mem_cons_of_mem _ uw_9_8) rfl rfl dX7_isTooMany_59 (fun x10 c11 rx10 tx10 => ?_)
          replace hM := hM.rd (sI_at c11)
          refine lv_bipush (v := 12) hx hb dX7_isTooMany_62 (by decide) ?_
          refine lv_icmp_lt (tgt := 71) hx hb dX7_isTooMany_64 (by decide) (fun c12 => ?_) (fun c12 => ?_)
          · have c12 : x10.toInt < (12 : Int) := wk_lt.mp c12
            replace hM := hM.pos c12
            refine lv_iconst (v := 0) hx hb dX7_isTooMany_71 (by decide) ?_
            exact tk_zret hC hr rfl hlocks hK ⟨hT, hF, hM.ret (by decide), (Or.inr (Or.inl ⟨rfl, (show 1 ≤ a1.toInt by omega), (show a1.toInt ≤ 1 by omega), (show 1 ≤ a2.toInt by omega), (show a2.toInt ≤ 31 by omega), ⟨x10, c11, (show 0 ≤ x10.toInt by omega), (show x10.toInt ≤ 11 by omega)⟩⟩))⟩ hw dX7_isTooMany_72
          · have c12 : (12 : Int) ≤ x10.toInt := wk_ltF c12
            replace hM := hM.neg (Int.not_lt.mpr c12)
            refine lv_iconst (v := 1) hx hb dX7_isTooMany_67 (by decide) ?_
            refine lv_goto (tgt := 72) hx hb dX7_isTooMany_68 (by decide) ?_
            exact tk_zret hC hr rfl hlocks hK ⟨hT, hF, hM.ret (by decide), (Or.inr (Or.inr (Or.inr (Or.inr (Or.inr (Or.inl ⟨rfl, (show 1 ≤ a1.toInt by omega), (show a1.toInt ≤ 1 by omega), (show 1 ≤ a2.toInt by omega), (show a2.toInt ≤ 31 by omega), ⟨x10, c11, (show 12 ≤ x10.toInt by omega), (show x10.toInt ≤ 12 by omega)⟩⟩))))))⟩ hw dX7_isTooMany_72
        · refine lv_tableIn (off := 43) (tgt := 73) hx hb dX7_isTooMany_30 (by omega) (by omega) (by rw [c9]; rfl) (by decide) ?_
          replace hM := hM.neg (by omega)
          replace hM := hM.neg (by omega)
          replace hM := hM.pos (by omega)
          refine lv_aload_n hx hb dX7_isTooMany_73 rfl (lv_at hl 0 rfl) ?_
          refine tk_geti hC hK hw hT hinX7 kC_at29 (by decide) rfl 10 (by decide) (List.mem_cons_of_mem _ uw_9_9) rfl rfl dX7_isTooMany_74 (fun x13 c14 rx13 tx13 => ?_)
          replace hM := hM.rd (sI_at c14)
          refine lv_bipush (v := 8) hx hb dX7_isTooMany_77 (by decide) ?_
          refine lv_icmp_lt (tgt := 86) hx hb dX7_isTooMany_79 (by decide) (fun c15 => ?_) (fun c15 => ?_)
          · have c15 : x13.toInt < (8 : Int) := wk_lt.mp c15
            replace hM := hM.pos c15
            refine lv_iconst (v := 0) hx hb dX7_isTooMany_86 (by decide) ?_
            exact tk_zret hC hr rfl hlocks hK ⟨hT, hF, hM.ret (by decide), (Or.inr (Or.inr (Or.inl ⟨rfl, (show 2 ≤ a1.toInt by omega), (show a1.toInt ≤ 2 by omega), (show 1 ≤ a2.toInt by omega), (show a2.toInt ≤ 31 by omega), ⟨x13, c14, (show 0 ≤ x13.toInt by omega), (show x13.toInt ≤ 7 by omega)⟩⟩)))⟩ hw dX7_isTooMany_87
          · have c15 : (8 : Int) ≤ x13.toInt := wk_ltF c15
            replace hM := hM.neg (Int.not_lt.mpr c15)
            refine lv_iconst (v := 1) hx hb dX7_isTooMany_82 (by decide) ?_
            refine lv_goto (tgt := 87) hx hb dX7_isTooMany_83 (by decide) ?_
            exact tk_zret hC hr rfl hlocks hK ⟨hT, hF, hM.ret (by decide), (Or.inr (Or.inr (Or.inr (Or.inr (Or.inr (Or.inr (Or.inl ⟨rfl, (show 2 ≤ a1.toInt by omega), (show a1.toInt ≤ 2 by omega), (show 1 ≤ a2.toInt by omega), (show a2.toInt ≤ 31 by omega), ⟨x13, c14, (show 8 ≤ x13.toInt by omega), (show x13.toInt ≤ 8 by omega)⟩⟩)))))))⟩ hw dX7_isTooMany_87
        · refine lv_tableOut (tgt := 88) hx hb dX7_isTooMany_30 c9 (by decide) ?_
          replace hM := hM.neg (by omega)
          replace hM := hM.neg (by omega)
          replace hM := hM.neg (by omega)
          refine lv_aload_n hx hb dX7_isTooMany_88 rfl (lv_at hl 0 rfl) ?_
          refine tk_geti hC hK hw hT hinX7 kC_at29 (by decide) rfl 11 (by decide) (List.mem_cons_of_mem _ uw_9_10) rfl rfl dX7_isTooMany_89 (fun x16 c17 rx16 tx16 => ?_)
          replace hM := hM.rd (sI_at c17)
          refine lv_iconst (v := 4) hx hb dX7_isTooMany_92 (by decide) ?_
          refine lv_icmp_lt (tgt := 100) hx hb dX7_isTooMany_93 (by decide) (fun c18 => ?_) (fun c18 => ?_)
          · have c18 : x16.toInt < (4 : Int) := wk_lt.mp c18
            replace hM := hM.pos c18
            refine lv_iconst (v := 0) hx hb dX7_isTooMany_100 (by decide) ?_
            exact tk_zret hC hr rfl hlocks hK ⟨hT, hF, hM.ret (by decide), (Or.inr (Or.inr (Or.inr (Or.inl ⟨rfl, (show 3 ≤ a1.toInt by omega), (show 1 ≤ a2.toInt by omega), (show a2.toInt ≤ 31 by omega), ⟨x16, c17, (show 0 ≤ x16.toInt by omega), (show x16.toInt ≤ 3 by omega)⟩⟩))))⟩ hw dX7_isTooMany_101
          · have c18 : (4 : Int) ≤ x16.toInt := wk_ltF c18
            replace hM := hM.neg (Int.not_lt.mpr c18)
            refine lv_iconst (v := 1) hx hb dX7_isTooMany_96 (by decide) ?_
            refine lv_goto (tgt := 101) hx hb dX7_isTooMany_97 (by decide) ?_
            exact tk_zret hC hr rfl hlocks hK ⟨hT, hF, hM.ret (by decide), (Or.inr (Or.inr (Or.inr (Or.inr (Or.inr (Or.inr (Or.inr ⟨rfl, (show 3 ≤ a1.toInt by omega), (show 1 ≤ a2.toInt by omega), (show a2.toInt ≤ 31 by omega), ⟨x16, c17, (show 4 ≤ x16.toInt by omega), (show x16.toInt ≤ 4 by omega)⟩⟩)))))))⟩ hw dX7_isTooMany_101
      · have c8 : a2.toInt = (0 : Int) := wk_eq.mp c8
        replace hM := hM.neg (fun q => q c8)
        refine lv_iconst (v := 1) hx hb dX7_isTooMany_19 (by decide) ?_
        refine lv_goto (tgt := 24) hx hb dX7_isTooMany_20 (by decide) ?_
        refine lv_icmp_eq (tgt := 29) hx hb dX7_isTooMany_24 (by decide) (fun c => absurd c (by decide)) (fun _ => ?_)
        replace hM := hM.neg (by decide)
        exact J27  s.heap locs ls w0 (show 0 ≤ a1.toInt by omega) (show a1.toInt ≤ 26 by omega) (show 0 ≤ a2.toInt by omega) (show a2.toInt ≤ 32 by omega)  hw hT hF hM (lv_sub hl [0, 1, 2] rfl)
    · have c7 : a1.toInt = (0 : Int) := wk_eq.mp c7
      replace hM := hM.neg (fun q => q c7)
      refine lv_iconst (v := 1) hx hb dX7_isTooMany_10 (by decide) ?_
      refine lv_goto (tgt := 15) hx hb dX7_isTooMany_11 (by decide) ?_
      refine lv_iload_n hx hb dX7_isTooMany_15 rfl (lv_at hl 2 rfl) ?_
      refine lv_if_ne (tgt := 23) hx hb dX7_isTooMany_16 (by decide) (fun c19 => ?_) (fun c19 => ?_)
      · have c19 : ¬ a2.toInt = (0 : Int) := wk_eqF c19
        replace hM := hM.pos c19
        refine lv_iconst (v := 0) hx hb dX7_isTooMany_23 (by decide) ?_
        refine lv_icmp_eq (tgt := 29) hx hb dX7_isTooMany_24 (by decide) (fun c => absurd c (by decide)) (fun _ => ?_)
        replace hM := hM.neg (by decide)
        exact J27  s.heap locs ls w0 (show 0 ≤ a1.toInt by omega) (show a1.toInt ≤ 26 by omega) (show 0 ≤ a2.toInt by omega) (show a2.toInt ≤ 32 by omega)  hw hT hF hM (lv_sub hl [0, 1, 2] rfl)
      · have c19 : a2.toInt = (0 : Int) := wk_eq.mp c19
        replace hM := hM.neg (fun q => q c19)
        refine lv_iconst (v := 1) hx hb dX7_isTooMany_19 (by decide) ?_
        refine lv_goto (tgt := 24) hx hb dX7_isTooMany_20 (by decide) ?_
        refine lv_icmp_eq (tgt := 29) hx hb dX7_isTooMany_24 (by decide) (fun _ => ?_) (fun c => absurd (by decide) c)
        replace hM := hM.pos (by decide)
        refine lv_iload_n hx hb dX7_isTooMany_29 rfl (lv_at hl 1 rfl) ?_
        have c20 : a1.toInt = 0 := by omega
        refine lv_tableIn (off := 26) (tgt := 56) hx hb dX7_isTooMany_30 (by omega) (by omega) (by rw [c20]; rfl) (by decide) ?_
        replace hM := hM.pos (by omega)
        refine lv_iconst (v := 0) hx hb dX7_isTooMany_56 (by decide) ?_
        exact tk_zret hC hr rfl hlocks hK ⟨hT, hF, hM.ret (by decide), (Or.inl ⟨rfl, (show a1.toInt ≤ 0 by omega), (show a2.toInt ≤ 0 by omega)⟩)⟩ hw dX7_isTooMany_57
abbrev Pz_X6_isFaulty_1 (ad : Nat → Nat) (cy : Nat → ClassId) (B : Int) (qr : Nat) (s1 : Int)  (w0 : va_W) : Int32 → va_W → Prop := fun r u => TW ksC ad cy B qr s1 u ∧ FE ksC ([] : List (Nat × Nat × Nat)) w0 u ∧ Ev (fun n => m_X6_isFaulty n 1 (sI w0)) (r.toInt, sI u) ∧ ((r = 0 ∧ (∃ y : Int32, gi u 1 4 = y ∧ 0 ≤ y.toInt ∧ y.toInt ≤ 0)) ∨ (r = 1 ∧ (∃ y : Int32, gi u 1 4 = y ∧ 1 ≤ y.toInt ∧ y.toInt ≤ 3205)))
set_option maxHeartbeats 4000000 in
set_option maxRecDepth 100000 in
theorem kz_X6_isFaulty_1 (l : Launch) (adK adV : Nat → Nat) (dC : Nat → ClassId) (dI : Nat → Nat → Nat) (cy : Nat → ClassId) (ad : Nat → Nat) (B : Int) (hB0 : 2147483648 ≤ B) (hB1 : B ≤ 1152921504606846976) (qr : Nat) (s1 : Int)   (w0 : va_W) (sz : Nat) (hT : TW ksC ad cy B qr s1 w0)  : Met l yX6_isFaulty (wu yX6_isFaulty cX6_isFaulty 1 (some .boolean)) ({ frames := 1, cells := 0, slots := 0, locals := 12 }) (va_Pc [.ref (ad 1)] (wpreS adK adV dC dI cy sz w0)) (va_Qi (Pz_X6_isFaulty_1 ad cy B qr s1  w0) (fun u : va_W => wpost dC dI cy (va_A w0 sz) u) (va_A w0 sz)) 0 0 (va_A w0 sz) := by
  refine Met.ofW (cc := cX6_isFaulty) (maxL := 1) (ret := (some .boolean)) (by decide) rfl ?_
  intro p e s m args below meth c s₁ Bk hml hv
  obtain ⟨rfl, ⟨hsz, hP, hK, hD0⟩, hE, hSR⟩ := hv
  have hx := Bk.exec
  have hb := Bk.bytes
  have hr := Bk.returns
  have hlocks := Bk.notSynchronized
  have hC : CallFix p m c cX6_isFaulty 1 s _ (wu yX6_isFaulty cX6_isFaulty 1 (some .boolean)) RX6 := ⟨hx, hb, hml, findClass_of_methodNamed Bk.named, atoms_spec (ws := (wu yX6_isFaulty cX6_isFaulty 1 (some .boolean))) Bk.pre⟩
  subst hsz
  have hD := hD0.self (sz := s.heap.size)
  generalize hAe : va_A w0 s.heap.size = A at hD hE ⊢
  have hA : ∀ q : Nat, s.heap.size ≤ q → A q := fun q h => by rw [← hAe]; exact Or.inr h
  have hw : Wd dC dI A s.heap s.heap [] w0 := ⟨hP, hD, va_S.rf⟩
  have hF : FE ksC ([] : List (Nat × Nat × Nat)) w0 w0 := FE.rf
  have hl := lv_entry ([.ref (ad 1)]) (n := 1) (Nat.le_of_ble_eq_true rfl)
  rw [lg_entry_eq]
  generalize (lg_sl ([.ref (ad 1)]) ++ List.replicate (1 - (lg_sl ([.ref (ad 1)])).length) Slot.unset).toArray = ls at hl ⊢
  have hl : lv_has ls 1 [(0, .ref (ad 1))] := hl
  generalize hloc : ([] : List Loc) = locs at hw ⊢
  have hinX6 : ∀ w ∈ u_ws RX6 TX6 5, w ∈ (wu yX6_isFaulty cX6_isFaulty 1 (some .boolean)) := fun _ h => List.mem_cons_of_mem _ (up_72 h)
  have hM : TT (fun n => m_X6_isFaulty n 1 (sI w0)) (fun n => m_X6_isFaulty n 1 (sI w0)) := TT.rf
  refine lv_aload_n hx hb dX6_isFaulty_0 rfl (lv_at hl 0 rfl) ?_
  refine tk_geti hC hK hw hT hinX6 kC_at1 (by decide) rfl 4 (by decide) (List.mem_cons_of_mem _ uw_9_18) rfl rfl dX6_isFaulty_1 (fun x1 c2 rx1 tx1 => ?_)
  replace hM := hM.rd (sI_at c2)
  refine lv_if_eq (tgt := 11) hx hb dX6_isFaulty_4 (by decide) (fun c3 => ?_) (fun c3 => ?_)
  · have c3 : x1.toInt = (0 : Int) := wk_eq.mp c3
    replace hM := hM.pos c3
    refine lv_iconst (v := 0) hx hb dX6_isFaulty_11 (by decide) ?_
    exact tk_zret hC hr rfl hlocks hK ⟨hT, hF, hM.ret (by decide), (Or.inl ⟨rfl, ⟨x1, c2, (show 0 ≤ x1.toInt by omega), (show x1.toInt ≤ 0 by omega)⟩⟩)⟩ hw dX6_isFaulty_12
  · have c3 : ¬ x1.toInt = (0 : Int) := wk_eqF c3
    replace hM := hM.neg c3
    refine lv_iconst (v := 1) hx hb dX6_isFaulty_7 (by decide) ?_
    refine lv_goto (tgt := 12) hx hb dX6_isFaulty_8 (by decide) ?_
    exact tk_zret hC hr rfl hlocks hK ⟨hT, hF, hM.ret (by decide), (Or.inr ⟨rfl, ⟨x1, c2, (show 1 ≤ x1.toInt by omega), (show x1.toInt ≤ 3205 by omega)⟩⟩)⟩ hw dX6_isFaulty_12
abbrev Pz_X6_blame_2 (ad : Nat → Nat) (cy : Nat → ClassId) (B : Int) (qr : Nat) (s1 : Int) (a1 : Int32) (a2 : Int32) (w0 : va_W) : va_W → Prop := fun u => TW ksC ad cy B qr s1 u ∧ FE ksC [(6, 4, 4)] w0 u ∧ Ev (fun n => m_X6_blame n 1 a1.toInt a2.toInt (sI w0)) (0, sI u) ∧ (((∃ y : Int32, gi u 1 4 = y ∧ 1 ≤ y.toInt ∧ y.toInt ≤ 3205)))
set_option maxHeartbeats 4000000 in
set_option maxRecDepth 100000 in
theorem kz_X6_blame_2 (l : Launch) (adK adV : Nat → Nat) (dC : Nat → ClassId) (dI : Nat → Nat → Nat) (cy : Nat → ClassId) (ad : Nat → Nat) (B : Int) (hB0 : 2147483648 ≤ B) (hB1 : B ≤ 1152921504606846976) (qr : Nat) (s1 : Int)  (a1 : Int32) (ra1 : 0 ≤ a1.toInt) (ta1 : a1.toInt ≤ 400) (a2 : Int32) (ra2 : 0 ≤ a2.toInt) (ta2 : a2.toInt ≤ 4) (w0 : va_W) (sz : Nat) (hT : TW ksC ad cy B qr s1 w0) (cf0_ : gi w0 1 4 = 0) : Met l yX6_blame (wu yX6_blame cX6_blame 3 none) ({ frames := 1, cells := 0, slots := 0, locals := 12 }) (va_Pc [.ref (ad 1), .int a1, .int a2] (wpreS adK adV dC dI cy sz w0)) (va_Qv (Pz_X6_blame_2 ad cy B qr s1 a1 a2 w0) (fun u : va_W => wpost dC dI cy (va_A w0 sz) u) (va_A w0 sz)) 0 0 (va_A w0 sz) := by
  refine Met.ofW (cc := cX6_blame) (maxL := 3) (ret := none) (by decide) rfl ?_
  intro p e s m args below meth c s₁ Bk hml hv
  obtain ⟨rfl, ⟨hsz, hP, hK, hD0⟩, hE, hSR⟩ := hv
  have hx := Bk.exec
  have hb := Bk.bytes
  have hr := Bk.returns
  have hlocks := Bk.notSynchronized
  have hC : CallFix p m c cX6_blame 3 s _ (wu yX6_blame cX6_blame 3 none) RX6 := ⟨hx, hb, hml, findClass_of_methodNamed Bk.named, atoms_spec (ws := (wu yX6_blame cX6_blame 3 none)) Bk.pre⟩
  subst hsz
  have hD := hD0.self (sz := s.heap.size)
  generalize hAe : va_A w0 s.heap.size = A at hD hE ⊢
  have hA : ∀ q : Nat, s.heap.size ≤ q → A q := fun q h => by rw [← hAe]; exact Or.inr h
  have hw : Wd dC dI A s.heap s.heap [] w0 := ⟨hP, hD, va_S.rf⟩
  have hF : FE ksC [(6, 4, 4)] w0 w0 := FE.rf
  have hl := lv_entry ([.ref (ad 1), .int a1, .int a2]) (n := 3) (Nat.le_of_ble_eq_true rfl)
  rw [lg_entry_eq]
  generalize (lg_sl ([.ref (ad 1), .int a1, .int a2]) ++ List.replicate (3 - (lg_sl ([.ref (ad 1), .int a1, .int a2])).length) Slot.unset).toArray = ls at hl ⊢
  have hl : lv_has ls 3 [(0, .ref (ad 1)), (1, .int a1), (2, .int a2)] := hl
  generalize hloc : ([] : List Loc) = locs at hw ⊢
  have hinX6 : ∀ w ∈ u_ws RX6 TX6 5, w ∈ (wu yX6_blame cX6_blame 3 none) := fun _ h => List.mem_cons_of_mem _ (up_72 h)
  have J19 : ∀ (f19_1_4 : Int32) (H : Heap) (locs : List Loc) (ls : Array Slot) (w1 : va_W), 0 ≤ a1.toInt → a1.toInt ≤ 400 → 0 ≤ a2.toInt → a2.toInt ≤ 4 → 1 ≤ f19_1_4.toInt → f19_1_4.toInt ≤ 3205 → Wd dC dI A s.heap H locs w1 → TW ksC ad cy B qr s1 w1 → FE ksC [(6, 4, 4)] w0 w1 → gi w1 1 4 = f19_1_4 → TT (fun n => m_X6_blame n 1 a1.toInt a2.toInt (sI w0)) (fun n => b_X6_blame_19 n 1 (sI w1)) → lv_has ls 3 [(0, .ref (ad 1)), (1, .int a1), (2, .int a2)] → W p l e ({ frames := 1, cells := 0, slots := 0, locals := 12 }) s m (List.toArray [.ref (ad 1), .int a1, .int a2]) below meth c H locs 0 0 (MQ below (va_Qv (Pz_X6_blame_2 ad cy B qr s1 a1 a2 w0) (fun u : va_W => wpost dC dI cy A u) A) (List.toArray [.ref (ad 1), .int a1, .int a2]) s 0 0 A) (F0 m 19 ls []) := by
    intro f19_1_4 H locs ls w1 r2 t3 r4 t5 r6 t7 hw hT hF c8 hM hl
    exact tk_vret hC hr hlocks hK ⟨hT, hF, hM.ret rfl, ⟨f19_1_4, c8, (show 1 ≤ f19_1_4.toInt by omega), (show f19_1_4.toInt ≤ 3205 by omega)⟩⟩ hw dX6_blame_19
  have hM : TT (fun n => m_X6_blame n 1 a1.toInt a2.toInt (sI w0)) (fun n => m_X6_blame n 1 a1.toInt a2.toInt (sI w0)) := TT.rf
  refine lv_aload_n hx hb dX6_blame_0 rfl (lv_at hl 0 rfl) ?_
  refine tk_geti hC hK hw hT hinX6 kC_at1 (by decide) rfl 4 (by decide) (List.mem_cons_of_mem _ uw_9_18) rfl rfl dX6_blame_1 (fun x9 c10 rx9 tx9 => ?_)
  refine wk_top 0 (c10.symm.trans cf0_) ?_
  replace hM := hM.rd (v := 0) ((sI_at cf0_).trans (by decide))
  refine lv_if_ne (tgt := 19) hx hb dX6_blame_4 (by decide) (fun c => absurd (by decide) c) (fun _ => ?_)
  replace hM := hM.neg (by decide)
  refine lv_aload_n hx hb dX6_blame_7 rfl (lv_at hl 0 rfl) ?_
  refine lv_iconst (v := 1) hx hb dX6_blame_8 (by decide) ?_
  refine lv_bipush (v := 8) hx hb dX6_blame_9 (by decide) ?_
  refine lv_iload_n hx hb dX6_blame_11 rfl (lv_at hl 1 rfl) ?_
  refine lv_imul hx hb dX6_blame_12 ?_
  refine lv_topi (fun x11 ex11 => ?_)
  have ezx11 := ex11
  have ex11 : x11.toInt = (8 : Int) * a1.toInt := by rw [ex11]; exact wk_mul (show (-2147483648) ≤ (8 : Int) * a1.toInt by omega) (show (8 : Int) * a1.toInt ≤ 2147483647 by omega)
  replace hM := hM.lt ex11.symm
  refine lv_iadd hx hb dX6_blame_13 ?_
  refine lv_topi (fun x12 ex12 => ?_)
  have ezx12 := ex12
  have ex12 : x12.toInt = (1 : Int) + x11.toInt := by rw [ex12]; exact wk_add (show (-2147483648) ≤ (1 : Int) + x11.toInt by omega) (show (1 : Int) + x11.toInt ≤ 2147483647 by omega)
  replace hM := hM.lt ex12.symm
  refine lv_iload_n hx hb dX6_blame_14 rfl (lv_at hl 2 rfl) ?_
  refine lv_iadd hx hb dX6_blame_15 ?_
  refine lv_topi (fun x13 ex13 => ?_)
  have ezx13 := ex13
  have ex13 : x13.toInt = x12.toInt + a2.toInt := by rw [ex13]; exact wk_add (show (-2147483648) ≤ x12.toInt + a2.toInt by omega) (show x12.toInt + a2.toInt ≤ 2147483647 by omega)
  replace hM := hM.lt ex13.symm
  refine tk_puti hC hK hw hT hinX6 tyX6_ok nmX6 kC_at1 (by decide) rfl rfl 4 (by decide) (List.mem_cons_of_mem _ uw_9_18) rfl rfl rfl rfl (show 0 ≤ x13.toInt by omega) (show x13.toInt ≤ 3205 by omega) dX6_blame_16 (fun H locs w14 hw hT k16 c15 => ?_)
  replace hM := hM.wr (sI_up k16 c15)
  have hF := hF.put kC_at1 (k := 4) (by decide) k16
  exact J19 x13 H locs ls w14 (show 0 ≤ a1.toInt by omega) (show a1.toInt ≤ 400 by omega) (show 0 ≤ a2.toInt by omega) (show a2.toInt ≤ 4 by omega) (show 1 ≤ x13.toInt by omega) (show x13.toInt ≤ 3205 by omega)  hw hT hF c15 hM (lv_sub hl [0, 1, 2] rfl)
abbrev Pz_X6_isDigit_1 (ad : Nat → Nat) (cy : Nat → ClassId) (B : Int) (qr : Nat) (s1 : Int) (a0 : Int32) (w0 : va_W) : Int32 → va_W → Prop := fun r u => TW ksC ad cy B qr s1 u ∧ FE ksC ([] : List (Nat × Nat × Nat)) w0 u ∧ Ev (fun n => m_X6_isDigit n a0.toInt (sI w0)) (r.toInt, sI u) ∧ ((r = 0) ∨ (r = 1 ∧ 48 ≤ a0.toInt ∧ a0.toInt ≤ 57))
set_option maxHeartbeats 4000000 in
set_option maxRecDepth 100000 in
theorem kz_X6_isDigit_1 (l : Launch) (adK adV : Nat → Nat) (dC : Nat → ClassId) (dI : Nat → Nat → Nat) (cy : Nat → ClassId) (ad : Nat → Nat) (B : Int) (hB0 : 2147483648 ≤ B) (hB1 : B ≤ 1152921504606846976) (qr : Nat) (s1 : Int)  (a0 : Int32) (ra0 : 0 ≤ a0.toInt) (ta0 : a0.toInt ≤ 255) (w0 : va_W) (sz : Nat) (hT : TW ksC ad cy B qr s1 w0)  : Met l yX6_isDigit (wu yX6_isDigit cX6_isDigit 1 (some .boolean)) ({ frames := 1, cells := 0, slots := 0, locals := 12 }) (va_Pc [.int a0] (wpreS adK adV dC dI cy sz w0)) (va_Qi (Pz_X6_isDigit_1 ad cy B qr s1 a0 w0) (fun u : va_W => wpost dC dI cy (va_A w0 sz) u) (va_A w0 sz)) 0 0 (va_A w0 sz) := by
  refine Met.ofW (cc := cX6_isDigit) (maxL := 1) (ret := (some .boolean)) (by decide) rfl ?_
  intro p e s m args below meth c s₁ Bk hml hv
  obtain ⟨rfl, ⟨hsz, hP, hK, hD0⟩, hE, hSR⟩ := hv
  have hx := Bk.exec
  have hb := Bk.bytes
  have hr := Bk.returns
  have hlocks := Bk.notSynchronized
  have hC : CallFix p m c cX6_isDigit 1 s _ (wu yX6_isDigit cX6_isDigit 1 (some .boolean)) RX6 := ⟨hx, hb, hml, findClass_of_methodNamed Bk.named, atoms_spec (ws := (wu yX6_isDigit cX6_isDigit 1 (some .boolean))) Bk.pre⟩
  subst hsz
  have hD := hD0.self (sz := s.heap.size)
  generalize hAe : va_A w0 s.heap.size = A at hD hE ⊢
  have hA : ∀ q : Nat, s.heap.size ≤ q → A q := fun q h => by rw [← hAe]; exact Or.inr h
  have hw : Wd dC dI A s.heap s.heap [] w0 := ⟨hP, hD, va_S.rf⟩
  have hF : FE ksC ([] : List (Nat × Nat × Nat)) w0 w0 := FE.rf
  have hl := lv_entry ([.int a0]) (n := 1) (Nat.le_of_ble_eq_true rfl)
  rw [lg_entry_eq]
  generalize (lg_sl ([.int a0]) ++ List.replicate (1 - (lg_sl ([.int a0])).length) Slot.unset).toArray = ls at hl ⊢
  have hl : lv_has ls 1 [(0, .int a0)] := hl
  generalize hloc : ([] : List Loc) = locs at hw ⊢
  have J16 : ∀ (H : Heap) (locs : List Loc) (ls : Array Slot) (w1 : va_W), 0 ≤ a0.toInt → a0.toInt ≤ 255 → Wd dC dI A s.heap H locs w1 → TW ksC ad cy B qr s1 w1 → FE ksC ([] : List (Nat × Nat × Nat)) w0 w1 → TT (fun n => m_X6_isDigit n a0.toInt (sI w0)) (fun n => b_X6_isDigit_16 n (sI w1)) → lv_has ls 1 [(0, .int a0)] → W p l e ({ frames := 1, cells := 0, slots := 0, locals := 12 }) s m (List.toArray [.int a0]) below meth c H locs 0 0 (MQ below (va_Qi (Pz_X6_isDigit_1 ad cy B qr s1 a0 w0) (fun u : va_W => wpost dC dI cy A u) A) (List.toArray [.int a0]) s 0 0 A) (F0 m 16 ls []) := by
    intro H locs ls w1 r2 t3 hw hT hF hM hl
    refine lv_iconst (v := 0) hx hb dX6_isDigit_16 (by decide) ?_
    exact tk_zret hC hr rfl hlocks hK ⟨hT, hF, hM.ret (by decide), (Or.inl rfl)⟩ hw dX6_isDigit_17
  have hM : TT (fun n => m_X6_isDigit n a0.toInt (sI w0)) (fun n => m_X6_isDigit n a0.toInt (sI w0)) := TT.rf
  refine lv_iload_n hx hb dX6_isDigit_0 rfl (lv_at hl 0 rfl) ?_
  refine lv_bipush (v := 48) hx hb dX6_isDigit_1 (by decide) ?_
  refine lv_icmp_lt (tgt := 16) hx hb dX6_isDigit_3 (by decide) (fun c4 => ?_) (fun c4 => ?_)
  · have c4 : a0.toInt < (48 : Int) := wk_lt.mp c4
    replace hM := hM.pos c4
    exact J16  s.heap locs ls w0 (show 0 ≤ a0.toInt by omega) (show a0.toInt ≤ 255 by omega)  hw hT hF hM (lv_sub hl [0] rfl)
  · have c4 : (48 : Int) ≤ a0.toInt := wk_ltF c4
    replace hM := hM.neg (Int.not_lt.mpr c4)
    refine lv_iload_n hx hb dX6_isDigit_6 rfl (lv_at hl 0 rfl) ?_
    refine lv_bipush (v := 57) hx hb dX6_isDigit_7 (by decide) ?_
    refine lv_icmp_gt (tgt := 16) hx hb dX6_isDigit_9 (by decide) (fun c5 => ?_) (fun c5 => ?_)
    · have c5 : (57 : Int) < a0.toInt := wk_lt.mp c5
      replace hM := hM.pos c5
      exact J16  s.heap locs ls w0 (show 0 ≤ a0.toInt by omega) (show a0.toInt ≤ 255 by omega)  hw hT hF hM (lv_sub hl [0] rfl)
    · have c5 : a0.toInt ≤ (57 : Int) := wk_ltF c5
      replace hM := hM.neg (Int.not_lt.mpr c5)
      refine lv_iconst (v := 1) hx hb dX6_isDigit_12 (by decide) ?_
      refine lv_goto (tgt := 17) hx hb dX6_isDigit_13 (by decide) ?_
      exact tk_zret hC hr rfl hlocks hK ⟨hT, hF, hM.ret (by decide), (Or.inr ⟨rfl, (show 48 ≤ a0.toInt by omega), (show a0.toInt ≤ 57 by omega)⟩)⟩ hw dX6_isDigit_17
abbrev Pz_X6_isFaulty_2 (ad : Nat → Nat) (cy : Nat → ClassId) (B : Int) (qr : Nat) (s1 : Int)  (w0 : va_W) : Int32 → va_W → Prop := fun r u => TW ksC ad cy B qr s1 u ∧ FE ksC ([] : List (Nat × Nat × Nat)) w0 u ∧ Ev (fun n => m_X6_isFaulty n 1 (sI w0)) (r.toInt, sI u) ∧ ((r = 0 ∧ (∃ y : Int32, gi u 1 4 = y ∧ 0 ≤ y.toInt ∧ y.toInt ≤ 0)))
set_option maxHeartbeats 4000000 in
set_option maxRecDepth 100000 in
theorem kz_X6_isFaulty_2 (l : Launch) (adK adV : Nat → Nat) (dC : Nat → ClassId) (dI : Nat → Nat → Nat) (cy : Nat → ClassId) (ad : Nat → Nat) (B : Int) (hB0 : 2147483648 ≤ B) (hB1 : B ≤ 1152921504606846976) (qr : Nat) (s1 : Int)   (w0 : va_W) (sz : Nat) (hT : TW ksC ad cy B qr s1 w0) (cf0_ : gi w0 1 4 = 0) : Met l yX6_isFaulty (wu yX6_isFaulty cX6_isFaulty 1 (some .boolean)) ({ frames := 1, cells := 0, slots := 0, locals := 12 }) (va_Pc [.ref (ad 1)] (wpreS adK adV dC dI cy sz w0)) (va_Qi (Pz_X6_isFaulty_2 ad cy B qr s1  w0) (fun u : va_W => wpost dC dI cy (va_A w0 sz) u) (va_A w0 sz)) 0 0 (va_A w0 sz) := by
  refine Met.ofW (cc := cX6_isFaulty) (maxL := 1) (ret := (some .boolean)) (by decide) rfl ?_
  intro p e s m args below meth c s₁ Bk hml hv
  obtain ⟨rfl, ⟨hsz, hP, hK, hD0⟩, hE, hSR⟩ := hv
  have hx := Bk.exec
  have hb := Bk.bytes
  have hr := Bk.returns
  have hlocks := Bk.notSynchronized
  have hC : CallFix p m c cX6_isFaulty 1 s _ (wu yX6_isFaulty cX6_isFaulty 1 (some .boolean)) RX6 := ⟨hx, hb, hml, findClass_of_methodNamed Bk.named, atoms_spec (ws := (wu yX6_isFaulty cX6_isFaulty 1 (some .boolean))) Bk.pre⟩
  subst hsz
  have hD := hD0.self (sz := s.heap.size)
  generalize hAe : va_A w0 s.heap.size = A at hD hE ⊢
  have hA : ∀ q : Nat, s.heap.size ≤ q → A q := fun q h => by rw [← hAe]; exact Or.inr h
  have hw : Wd dC dI A s.heap s.heap [] w0 := ⟨hP, hD, va_S.rf⟩
  have hF : FE ksC ([] : List (Nat × Nat × Nat)) w0 w0 := FE.rf
  have hl := lv_entry ([.ref (ad 1)]) (n := 1) (Nat.le_of_ble_eq_true rfl)
  rw [lg_entry_eq]
  generalize (lg_sl ([.ref (ad 1)]) ++ List.replicate (1 - (lg_sl ([.ref (ad 1)])).length) Slot.unset).toArray = ls at hl ⊢
  have hl : lv_has ls 1 [(0, .ref (ad 1))] := hl
  generalize hloc : ([] : List Loc) = locs at hw ⊢
  have hinX6 : ∀ w ∈ u_ws RX6 TX6 5, w ∈ (wu yX6_isFaulty cX6_isFaulty 1 (some .boolean)) := fun _ h => List.mem_cons_of_mem _ (up_72 h)
  have hM : TT (fun n => m_X6_isFaulty n 1 (sI w0)) (fun n => m_X6_isFaulty n 1 (sI w0)) := TT.rf
  refine lv_aload_n hx hb dX6_isFaulty_0 rfl (lv_at hl 0 rfl) ?_
  refine tk_geti hC hK hw hT hinX6 kC_at1 (by decide) rfl 4 (by decide) (List.mem_cons_of_mem _ uw_9_18) rfl rfl dX6_isFaulty_1 (fun x1 c2 rx1 tx1 => ?_)
  refine wk_top 0 (c2.symm.trans cf0_) ?_
  replace hM := hM.rd (v := 0) ((sI_at cf0_).trans (by decide))
  refine lv_if_eq (tgt := 11) hx hb dX6_isFaulty_4 (by decide) (fun _ => ?_) (fun c => absurd (by decide) c)
  replace hM := hM.pos (by decide)
  refine lv_iconst (v := 0) hx hb dX6_isFaulty_11 (by decide) ?_
  exact tk_zret hC hr rfl hlocks hK ⟨hT, hF, hM.ret (by decide), ⟨rfl, ⟨0, cf0_, (by decide), (by decide)⟩⟩⟩ hw dX6_isFaulty_12
abbrev Pz_X6_isDigit_2 (ad : Nat → Nat) (cy : Nat → ClassId) (B : Int) (qr : Nat) (s1 : Int)  (w0 : va_W) : Int32 → va_W → Prop := fun r u => TW ksC ad cy B qr s1 u ∧ FE ksC ([] : List (Nat × Nat × Nat)) w0 u ∧ Ev (fun n => m_X6_isDigit n (-1) (sI w0)) (r.toInt, sI u) ∧ ((r = 0))
set_option maxHeartbeats 4000000 in
set_option maxRecDepth 100000 in
theorem kz_X6_isDigit_2 (l : Launch) (adK adV : Nat → Nat) (dC : Nat → ClassId) (dI : Nat → Nat → Nat) (cy : Nat → ClassId) (ad : Nat → Nat) (B : Int) (hB0 : 2147483648 ≤ B) (hB1 : B ≤ 1152921504606846976) (qr : Nat) (s1 : Int)   (w0 : va_W) (sz : Nat) (hT : TW ksC ad cy B qr s1 w0)  : Met l yX6_isDigit (wu yX6_isDigit cX6_isDigit 1 (some .boolean)) ({ frames := 1, cells := 0, slots := 0, locals := 12 }) (va_Pc [.int (-1)] (wpreS adK adV dC dI cy sz w0)) (va_Qi (Pz_X6_isDigit_2 ad cy B qr s1  w0) (fun u : va_W => wpost dC dI cy (va_A w0 sz) u) (va_A w0 sz)) 0 0 (va_A w0 sz) := by
  refine Met.ofW (cc := cX6_isDigit) (maxL := 1) (ret := (some .boolean)) (by decide) rfl ?_
  intro p e s m args below meth c s₁ Bk hml hv
  obtain ⟨rfl, ⟨hsz, hP, hK, hD0⟩, hE, hSR⟩ := hv
  have hx := Bk.exec
  have hb := Bk.bytes
  have hr := Bk.returns
  have hlocks := Bk.notSynchronized
  have hC : CallFix p m c cX6_isDigit 1 s _ (wu yX6_isDigit cX6_isDigit 1 (some .boolean)) RX6 := ⟨hx, hb, hml, findClass_of_methodNamed Bk.named, atoms_spec (ws := (wu yX6_isDigit cX6_isDigit 1 (some .boolean))) Bk.pre⟩
  subst hsz
  have hD := hD0.self (sz := s.heap.size)
  generalize hAe : va_A w0 s.heap.size = A at hD hE ⊢
  have hA : ∀ q : Nat, s.heap.size ≤ q → A q := fun q h => by rw [← hAe]; exact Or.inr h
  have hw : Wd dC dI A s.heap s.heap [] w0 := ⟨hP, hD, va_S.rf⟩
  have hF : FE ksC ([] : List (Nat × Nat × Nat)) w0 w0 := FE.rf
  have hl := lv_entry ([.int (-1)]) (n := 1) (Nat.le_of_ble_eq_true rfl)
  rw [lg_entry_eq]
  generalize (lg_sl ([.int (-1)]) ++ List.replicate (1 - (lg_sl ([.int (-1)])).length) Slot.unset).toArray = ls at hl ⊢
  have hl : lv_has ls 1 [(0, .int (-1))] := hl
  generalize hloc : ([] : List Loc) = locs at hw ⊢
  have J16 : ∀ (H : Heap) (locs : List Loc) (ls : Array Slot) (w1 : va_W), Wd dC dI A s.heap H locs w1 → TW ksC ad cy B qr s1 w1 → FE ksC ([] : List (Nat × Nat × Nat)) w0 w1 → TT (fun n => m_X6_isDigit n (-1) (sI w0)) (fun n => b_X6_isDigit_16 n (sI w1)) → lv_has ls 1 [(0, .int (-1))] → W p l e ({ frames := 1, cells := 0, slots := 0, locals := 12 }) s m (List.toArray [.int (-1)]) below meth c H locs 0 0 (MQ below (va_Qi (Pz_X6_isDigit_2 ad cy B qr s1  w0) (fun u : va_W => wpost dC dI cy A u) A) (List.toArray [.int (-1)]) s 0 0 A) (F0 m 16 ls []) := by
    intro H locs ls w1 hw hT hF hM hl
    refine lv_iconst (v := 0) hx hb dX6_isDigit_16 (by decide) ?_
    exact tk_zret hC hr rfl hlocks hK ⟨hT, hF, hM.ret (by decide), rfl⟩ hw dX6_isDigit_17
  have hM : TT (fun n => m_X6_isDigit n (-1) (sI w0)) (fun n => m_X6_isDigit n (-1) (sI w0)) := TT.rf
  refine lv_iload_n hx hb dX6_isDigit_0 rfl (lv_at hl 0 rfl) ?_
  refine lv_bipush (v := 48) hx hb dX6_isDigit_1 (by decide) ?_
  refine lv_icmp_lt (tgt := 16) hx hb dX6_isDigit_3 (by decide) (fun _ => ?_) (fun c => absurd (by decide) c)
  replace hM := hM.pos (by decide)
  exact J16  s.heap locs ls w0   hw hT hF hM (lv_sub hl [0] rfl)
abbrev Pz_X6_readNumber_1 (ad : Nat → Nat) (cy : Nat → ClassId) (B : Int) (qr : Nat) (s1 : Int)  (w0 : va_W) : Int32 → va_W → Prop := fun r u => TW ksC ad cy B qr s1 u ∧ FE ksC [(6, 1, 1), (6, 3, 3), (6, 4, 4)] w0 u ∧ Ev (fun n => m_X6_readNumber n 1 2 10 (sI w0)) (r.toInt, sI u) ∧ ((2 ≤ r.toInt ∧ r.toInt ≤ 10 ∧ (∃ y : Int32, gi u 1 2 = y ∧ 1 ≤ y.toInt ∧ y.toInt ≤ 400) ∧ (∃ y : Int32, gi u 1 3 = y ∧ 0 ≤ y.toInt ∧ y.toInt ≤ 399) ∧ (∃ y : Int32, gi u 1 4 = y ∧ 0 ≤ y.toInt ∧ y.toInt ≤ 0)) ∨ (r = (-1) ∧ (∃ y : Int32, gi u 1 4 = y ∧ 1 ≤ y.toInt ∧ y.toInt ≤ 3205)))
set_option maxHeartbeats 4000000 in
set_option maxRecDepth 100000 in
theorem kz_X6_readNumber_1 (l : Launch) (adK adV : Nat → Nat) (dC : Nat → ClassId) (dI : Nat → Nat → Nat) (cy : Nat → ClassId) (ad : Nat → Nat) (B : Int) (hB0 : 2147483648 ≤ B) (hB1 : B ≤ 1152921504606846976) (qr : Nat) (s1 : Int)   (w0 : va_W) (sz : Nat) (hT : TW ksC ad cy B qr s1 w0) (cf0_ : gi w0 1 4 = 0) : Met l yX6_readNumber (wu yX6_readNumber cX6_readNumber 4 (some .int)) ({ frames := 2, cells := 0, slots := 0, locals := 34 }) (va_Pc [.ref (ad 1), .int 2, .int 10] (wpreS adK adV dC dI cy sz w0)) (va_Qi (Pz_X6_readNumber_1 ad cy B qr s1  w0) (fun u : va_W => wpost dC dI cy (va_A w0 sz) u) (va_A w0 sz)) 0 0 (va_A w0 sz) := by
  refine Met.ofW (cc := cX6_readNumber) (maxL := 4) (ret := (some .int)) (by decide) rfl ?_
  intro p e s m args below meth c s₁ Bk hml hv
  obtain ⟨rfl, ⟨hsz, hP, hK, hD0⟩, hE, hSR⟩ := hv
  have hx := Bk.exec
  have hb := Bk.bytes
  have hr := Bk.returns
  have hlocks := Bk.notSynchronized
  have hC : CallFix p m c cX6_readNumber 4 s _ (wu yX6_readNumber cX6_readNumber 4 (some .int)) RX6 := ⟨hx, hb, hml, findClass_of_methodNamed Bk.named, atoms_spec (ws := (wu yX6_readNumber cX6_readNumber 4 (some .int))) Bk.pre⟩
  subst hsz
  have hD := hD0.self (sz := s.heap.size)
  generalize hAe : va_A w0 s.heap.size = A at hD hE ⊢
  have hA : ∀ q : Nat, s.heap.size ≤ q → A q := fun q h => by rw [← hAe]; exact Or.inr h
  have hw : Wd dC dI A s.heap s.heap [] w0 := ⟨hP, hD, va_S.rf⟩
  have hF : FE ksC [(6, 1, 1), (6, 3, 3), (6, 4, 4)] w0 w0 := FE.rf
  have hl := lv_entry ([.ref (ad 1), .int 2, .int 10]) (n := 4) (Nat.le_of_ble_eq_true rfl)
  rw [lg_entry_eq]
  generalize (lg_sl ([.ref (ad 1), .int 2, .int 10]) ++ List.replicate (4 - (lg_sl ([.ref (ad 1), .int 2, .int 10])).length) Slot.unset).toArray = ls at hl ⊢
  have hl : lv_has ls 4 [(0, .ref (ad 1)), (1, .int 2), (2, .int 10)] := hl
  generalize hloc : ([] : List Loc) = locs at hw ⊢
  have hinX6 : ∀ w ∈ u_ws RX6 TX6 5, w ∈ (wu yX6_readNumber cX6_readNumber 4 (some .int)) := fun _ h => List.mem_cons_of_mem _ (up_72 h)
  have J125 : ∀ (v125_3 : Int32) (f125_1_1 : Int32) (f125_1_2 : Int32) (f125_1_3 : Int32) (H : Heap) (locs : List Loc) (ls : Array Slot) (w1 : va_W), 0 ≤ f125_1_1.toInt → f125_1_1.toInt ≤ 400 → 1 ≤ f125_1_2.toInt → f125_1_2.toInt ≤ 400 → 0 ≤ f125_1_3.toInt → f125_1_3.toInt ≤ 399 → Wd dC dI A s.heap H locs w1 → TW ksC ad cy B qr s1 w1 → FE ksC [(6, 1, 1), (6, 3, 3), (6, 4, 4)] w0 w1 → gi w1 1 1 = f125_1_1 → gi w1 1 2 = f125_1_2 → gi w1 1 3 = f125_1_3 → gi w1 1 4 = 0 → TT (fun n => m_X6_readNumber n 1 2 10 (sI w0)) (fun n => b_X6_readNumber_125 (j_X6_readNumber 1 n) n 1 (sI w1)) → lv_has ls 4 [(0, .ref (ad 1)), (1, .int 2), (2, .int 10), (3, .int v125_3)] → W p l e ({ frames := 2, cells := 0, slots := 0, locals := 34 }) s m (List.toArray [.ref (ad 1), .int 2, .int 10]) below meth c H locs 0 0 (MQ below (va_Qi (Pz_X6_readNumber_1 ad cy B qr s1  w0) (fun u : va_W => wpost dC dI cy A u) A) (List.toArray [.ref (ad 1), .int 2, .int 10]) s 0 0 A) (F0 m 125 ls []) := by
    intro v125_3 f125_1_1 f125_1_2 f125_1_3 H locs ls w1 r2 t3 r5 t6 r8 t9 hw hT hF c4 c7 c10 c11 hM hl
    refine lv_aload_n hx hb dX6_readNumber_125 rfl (lv_at hl 0 rfl) ?_
    refine lv_aload_n hx hb dX6_readNumber_126 rfl (lv_at hl 0 rfl) ?_
    refine tk_geti hC hK hw hT hinX6 kC_at1 (by decide) rfl 3 (by decide) (List.mem_cons_of_mem _ uw_9_17) rfl rfl dX6_readNumber_127 (fun x12 c13 rx12 tx12 => ?_)
    refine wk_top f125_1_3 (c13.symm.trans c10) ?_
    replace hM := hM.rd (sI_at c10)
    refine lv_iconst (v := 1) hx hb dX6_readNumber_130 (by decide) ?_
    refine tk_Vv hC hK hw hT hA hE hSR kC_at1 (by decide) rfl (kz_X6_blame_2 l adK adV dC dI cy ad B (by omega) (by omega) qr s1   f125_1_3 (show 0 ≤ f125_1_3.toInt by omega) (show f125_1_3.toInt ≤ 400 by omega) 1 (by decide) (by decide) w1 H.size hT c11) (cwV 2 hC.2.2.2.2 uV_RX6_35 rfl rfl rfl (by decide +kernel) ⟨Nat.le_of_ble_eq_true rfl, Nat.le_of_ble_eq_true rfl⟩) rfl hl.1 rfl (Nat.le_of_ble_eq_true rfl) dX6_readNumber_131 (fun w16 H locs hp15 hw => ?_)
    obtain ⟨hT, k17, hv21, hg20⟩ := hp15
    try simp only [show (1 : Int32).toInt = 1 by decide] at hv21
    have hF := hF.tr k17 (by decide)
    have c22 := k17.gi kC_at1 (by decide) c4
    have c23 := k17.gi kC_at1 (by decide) c7
    have c24 := k17.gi kC_at1 (by decide) c10
    obtain ⟨x18, c19, rx18, tx18⟩ := hg20
    replace hM := hM.call hv21 rfl
    refine lv_iconst (v := (-1)) hx hb dX6_readNumber_134 (by decide) ?_
    exact tk_iret hC hr hlocks hK ⟨hT, hF, hM.ret (by decide), (Or.inr ⟨rfl, ⟨x18, c19, (show 1 ≤ x18.toInt by omega), (show x18.toInt ≤ 3205 by omega)⟩⟩)⟩ hw dX6_readNumber_135
  have J102 : ∀ (v102_3 : Int32) (f102_1_1 : Int32) (f102_1_2 : Int32) (f102_1_3 : Int32) (H : Heap) (locs : List Loc) (ls : Array Slot) (w25 : va_W), 0 ≤ f102_1_1.toInt → f102_1_1.toInt ≤ 400 → 1 ≤ f102_1_2.toInt → f102_1_2.toInt ≤ 400 → 0 ≤ f102_1_3.toInt → f102_1_3.toInt ≤ 399 → Wd dC dI A s.heap H locs w25 → TW ksC ad cy B qr s1 w25 → FE ksC [(6, 1, 1), (6, 3, 3), (6, 4, 4)] w0 w25 → gi w25 1 1 = f102_1_1 → gi w25 1 2 = f102_1_2 → gi w25 1 3 = f102_1_3 → gi w25 1 4 = 0 → TT (fun n => m_X6_readNumber n 1 2 10 (sI w0)) (fun n => b_X6_readNumber_102 (j_X6_readNumber 1 n) n 1 (2 : Int) (10 : Int) (v102_3.toInt) (sI w25)) → lv_has ls 4 [(0, .ref (ad 1)), (1, .int 2), (2, .int 10), (3, .int v102_3)] → W p l e ({ frames := 2, cells := 0, slots := 0, locals := 34 }) s m (List.toArray [.ref (ad 1), .int 2, .int 10]) below meth c H locs 0 0 (MQ below (va_Qi (Pz_X6_readNumber_1 ad cy B qr s1  w0) (fun u : va_W => wpost dC dI cy A u) A) (List.toArray [.ref (ad 1), .int 2, .int 10]) s 0 0 A) (F0 m 102 ls []) := by
    intro v102_3 f102_1_1 f102_1_2 f102_1_3 H locs ls w25 r26 t27 r29 t30 r32 t33 hw hT hF c28 c31 c34 c35 hM hl
    refine lv_aload_n hx hb dX6_readNumber_102 rfl (lv_at hl 0 rfl) ?_
    refine tk_geti hC hK hw hT hinX6 kC_at1 (by decide) rfl 1 (by decide) (List.mem_cons_of_mem _ uw_9_16) rfl rfl dX6_readNumber_103 (fun x36 c37 rx36 tx36 => ?_)
    refine wk_top f102_1_1 (c37.symm.trans c28) ?_
    replace hM := hM.rd (sI_at c28)
    refine lv_aload_n hx hb dX6_readNumber_106 rfl (lv_at hl 0 rfl) ?_
    refine tk_geti hC hK hw hT hinX6 kC_at1 (by decide) rfl 3 (by decide) (List.mem_cons_of_mem _ uw_9_17) rfl rfl dX6_readNumber_107 (fun x38 c39 rx38 tx38 => ?_)
    refine wk_top f102_1_3 (c39.symm.trans c34) ?_
    replace hM := hM.rd (sI_at c34)
    refine lv_isub hx hb dX6_readNumber_110 ?_
    refine lv_topi (fun x40 ex40 => ?_)
    have ezx40 := ex40
    have ex40 : x40.toInt = f102_1_1.toInt - f102_1_3.toInt := by rw [ex40]; exact wk_sub (show (-2147483648) ≤ f102_1_1.toInt - f102_1_3.toInt by omega) (show f102_1_1.toInt - f102_1_3.toInt ≤ 2147483647 by omega)
    replace hM := hM.lt ex40.symm
    refine lv_iconst (v := 5) hx hb dX6_readNumber_111 (by decide) ?_
    refine lv_icmp_gt (tgt := 125) hx hb dX6_readNumber_112 (by decide) (fun c41 => ?_) (fun c41 => ?_)
    · have c41 : (5 : Int) < x40.toInt := wk_lt.mp c41
      replace hM := hM.pos c41
      exact J125 v102_3 f102_1_1 f102_1_2 f102_1_3 H locs ls w25 (show 0 ≤ f102_1_1.toInt by omega) (show f102_1_1.toInt ≤ 400 by omega) (show 1 ≤ f102_1_2.toInt by omega) (show f102_1_2.toInt ≤ 400 by omega) (show 0 ≤ f102_1_3.toInt by omega) (show f102_1_3.toInt ≤ 399 by omega)  hw hT hF c28 c31 c34 c35 hM (lv_sub hl [0, 1, 2, 3] rfl)
    · have c41 : x40.toInt ≤ (5 : Int) := wk_ltF c41
      replace hM := hM.neg (Int.not_lt.mpr c41)
      refine lv_iload_n hx hb dX6_readNumber_115 rfl (lv_at hl 3 rfl) ?_
      refine lv_iload_n hx hb dX6_readNumber_116 rfl (lv_at hl 1 rfl) ?_
      refine lv_icmp_lt (tgt := 125) hx hb dX6_readNumber_117 (by decide) (fun c42 => ?_) (fun c42 => ?_)
      · have c42 : v102_3.toInt < (2 : Int) := wk_lt.mp c42
        replace hM := hM.pos c42
        exact J125 v102_3 f102_1_1 f102_1_2 f102_1_3 H locs ls w25 (show 0 ≤ f102_1_1.toInt by omega) (show f102_1_1.toInt ≤ 400 by omega) (show 1 ≤ f102_1_2.toInt by omega) (show f102_1_2.toInt ≤ 400 by omega) (show 0 ≤ f102_1_3.toInt by omega) (show f102_1_3.toInt ≤ 399 by omega)  hw hT hF c28 c31 c34 c35 hM (lv_sub hl [0, 1, 2, 3] rfl)
      · have c42 : (2 : Int) ≤ v102_3.toInt := wk_ltF c42
        replace hM := hM.neg (Int.not_lt.mpr c42)
        refine lv_iload_n hx hb dX6_readNumber_120 rfl (lv_at hl 3 rfl) ?_
        refine lv_iload_n hx hb dX6_readNumber_121 rfl (lv_at hl 2 rfl) ?_
        refine lv_icmp_le (tgt := 136) hx hb dX6_readNumber_122 (by decide) (fun c43 => ?_) (fun c43 => ?_)
        · have c43 : v102_3.toInt ≤ (10 : Int) := wk_le.mp c43
          replace hM := hM.pos c43
          refine lv_iload_n hx hb dX6_readNumber_136 rfl (lv_at hl 3 rfl) ?_
          exact tk_iret hC hr hlocks hK ⟨hT, hF, hM.ret rfl, (Or.inl ⟨(show 2 ≤ v102_3.toInt by omega), (show v102_3.toInt ≤ 10 by omega), ⟨f102_1_2, c31, (show 1 ≤ f102_1_2.toInt by omega), (show f102_1_2.toInt ≤ 400 by omega)⟩, ⟨f102_1_3, c34, (show 0 ≤ f102_1_3.toInt by omega), (show f102_1_3.toInt ≤ 399 by omega)⟩, ⟨0, c35, (by decide), (by decide)⟩⟩)⟩ hw dX6_readNumber_137
        · have c43 : (10 : Int) < v102_3.toInt := wk_leF c43
          replace hM := hM.neg (Int.not_le.mpr c43)
          exact J125 v102_3 f102_1_1 f102_1_2 f102_1_3 H locs ls w25 (show 0 ≤ f102_1_1.toInt by omega) (show f102_1_1.toInt ≤ 400 by omega) (show 1 ≤ f102_1_2.toInt by omega) (show f102_1_2.toInt ≤ 400 by omega) (show 0 ≤ f102_1_3.toInt by omega) (show f102_1_3.toInt ≤ 399 by omega)  hw hT hF c28 c31 c34 c35 hM (lv_sub hl [0, 1, 2, 3] rfl)
  have L32 : ∀ (n32 : Nat) (v32_3 : Int32) (f32_1_1 : Int32) (f32_1_2 : Int32) (f32_1_3 : Int32) (H : Heap) (locs : List Loc) (ls : Array Slot) (w44 : va_W), 0 ≤ f32_1_1.toInt → f32_1_1.toInt ≤ 400 → 1 ≤ f32_1_2.toInt → f32_1_2.toInt ≤ 400 → 0 ≤ f32_1_3.toInt → f32_1_3.toInt ≤ 399 → (400 - f32_1_1.toInt).toNat < n32 → Wd dC dI A s.heap H locs w44 → TW ksC ad cy B qr s1 w44 → FE ksC [(6, 1, 1), (6, 3, 3), (6, 4, 4)] w0 w44 → gi w44 1 1 = f32_1_1 → gi w44 1 2 = f32_1_2 → gi w44 1 3 = f32_1_3 → gi w44 1 4 = 0 → TT (fun n => m_X6_readNumber n 1 2 10 (sI w0)) (fun n => j_X6_readNumber 1 n 32 [(2 : Int), (10 : Int), v32_3.toInt] (sI w44)) → lv_has ls 4 [(0, .ref (ad 1)), (1, .int 2), (2, .int 10), (3, .int v32_3)] → W p l e ({ frames := 2, cells := 0, slots := 0, locals := 34 }) s m (List.toArray [.ref (ad 1), .int 2, .int 10]) below meth c H locs 0 0 (MQ below (va_Qi (Pz_X6_readNumber_1 ad cy B qr s1  w0) (fun u : va_W => wpost dC dI cy A u) A) (List.toArray [.ref (ad 1), .int 2, .int 10]) s 0 0 A) (F0 m 32 ls []) := by
    intro n32
    induction n32 with
    | zero => intro v32_3 f32_1_1 f32_1_2 f32_1_3 H locs ls w44 r45 t46 r48 t49 r51 t52 hm32 hw hT hF c47 c50 c53 c54 hM hl; omega
    | succ n32 ih32 =>
      intro v32_3 f32_1_1 f32_1_2 f32_1_3 H locs ls w44 r45 t46 r48 t49 r51 t52 hm32 hw hT hF c47 c50 c53 c54 hM hl
      have J89 : ∀ (v89_3 : Int32) (H : Heap) (locs : List Loc) (ls : Array Slot) (w55 : va_W), 0 ≤ f32_1_1.toInt → f32_1_1.toInt ≤ 399 → 1 ≤ f32_1_2.toInt → f32_1_2.toInt ≤ 400 → 0 ≤ f32_1_3.toInt → f32_1_3.toInt ≤ 399 → Wd dC dI A s.heap H locs w55 → TW ksC ad cy B qr s1 w55 → FE ksC [(6, 1, 1), (6, 3, 3), (6, 4, 4)] w0 w55 → gi w55 1 1 = f32_1_1 → gi w55 1 2 = f32_1_2 → gi w55 1 3 = f32_1_3 → gi w55 1 4 = 0 → TT (fun n => m_X6_readNumber n 1 2 10 (sI w0)) (fun n => b_X6_readNumber_89 (j_X6_readNumber 1 n) n 1 (2 : Int) (10 : Int) (v89_3.toInt) (sI w55)) → lv_has ls 4 [(0, .ref (ad 1)), (1, .int 2), (2, .int 10), (3, .int v89_3)] → W p l e ({ frames := 2, cells := 0, slots := 0, locals := 34 }) s m (List.toArray [.ref (ad 1), .int 2, .int 10]) below meth c H locs 0 0 (MQ below (va_Qi (Pz_X6_readNumber_1 ad cy B qr s1  w0) (fun u : va_W => wpost dC dI cy A u) A) (List.toArray [.ref (ad 1), .int 2, .int 10]) s 0 0 A) (F0 m 89 ls []) := by
        intro v89_3 H locs ls w55 r56 t57 r59 t60 r62 t63 hw hT hF c58 c61 c64 c65 hM hl
        refine lv_aload_n hx hb dX6_readNumber_89 rfl (lv_at hl 0 rfl) ?_
        refine lv_dup hx hb dX6_readNumber_90 rfl ?_
        refine tk_geti hC hK hw hT hinX6 kC_at1 (by decide) rfl 1 (by decide) (List.mem_cons_of_mem _ uw_9_16) rfl rfl dX6_readNumber_91 (fun x66 c67 rx66 tx66 => ?_)
        refine wk_top f32_1_1 (c67.symm.trans c58) ?_
        replace hM := hM.rd (sI_at c58)
        refine lv_iconst (v := 1) hx hb dX6_readNumber_94 (by decide) ?_
        refine lv_iadd hx hb dX6_readNumber_95 ?_
        refine lv_topi (fun x68 ex68 => ?_)
        have ezx68 := ex68
        have ex68 : x68.toInt = f32_1_1.toInt + (1 : Int) := by rw [ex68]; exact wk_add (show (-2147483648) ≤ f32_1_1.toInt + (1 : Int) by omega) (show f32_1_1.toInt + (1 : Int) ≤ 2147483647 by omega)
        replace hM := hM.lt ex68.symm
        refine tk_puti hC hK hw hT hinX6 tyX6_ok nmX6 kC_at1 (by decide) rfl rfl 1 (by decide) (List.mem_cons_of_mem _ uw_9_16) rfl rfl rfl rfl (show 0 ≤ x68.toInt by omega) (show x68.toInt ≤ 400 by omega) dX6_readNumber_96 (fun H locs w69 hw hT k71 c70 => ?_)
        replace hM := hM.wr (sI_up k71 c70)
        have hF := hF.put kC_at1 (k := 1) (by decide) k71
        have c72 := k71.gi (Or.inr (by decide)) c61
        have c73 := k71.gi (Or.inr (by decide)) c64
        have c74 := k71.gi (Or.inr (by decide)) c65
        refine lv_goto (tgt := 32) hx hb dX6_readNumber_99 (by decide) ?_
        exact ih32 v89_3 x68 f32_1_2 f32_1_3 H locs ls w69 (show 0 ≤ x68.toInt by omega) (show x68.toInt ≤ 400 by omega) (show 1 ≤ f32_1_2.toInt by omega) (show f32_1_2.toInt ≤ 400 by omega) (show 0 ≤ f32_1_3.toInt by omega) (show f32_1_3.toInt ≤ 399 by omega) (show (400 - x68.toInt).toNat < n32 by omega) hw hT hF c70 c72 c73 c74 hM (lv_sub hl [0, 1, 2, 3] rfl)
      replace hM := hM.suc (fun _ => e_X6_readNumber_32)
      refine lv_aload_n hx hb dX6_readNumber_32 rfl (lv_at hl 0 rfl) ?_
      refine tk_geti hC hK hw hT hinX6 kC_at1 (by decide) rfl 1 (by decide) (List.mem_cons_of_mem _ uw_9_16) rfl rfl dX6_readNumber_33 (fun x75 c76 rx75 tx75 => ?_)
      refine wk_top f32_1_1 (c76.symm.trans c47) ?_
      replace hM := hM.rd (sI_at c47)
      refine lv_aload_n hx hb dX6_readNumber_36 rfl (lv_at hl 0 rfl) ?_
      refine tk_geti hC hK hw hT hinX6 kC_at1 (by decide) rfl 2 (by decide) (List.mem_cons_of_mem _ uw_7_22) rfl rfl dX6_readNumber_37 (fun x77 c78 rx77 tx77 => ?_)
      refine wk_top f32_1_2 (c78.symm.trans c50) ?_
      replace hM := hM.rd (sI_at c50)
      refine lv_icmp_ge (tgt := 102) hx hb dX6_readNumber_40 (by decide) (fun c79 => ?_) (fun c79 => ?_)
      · have c79 : f32_1_2.toInt ≤ f32_1_1.toInt := wk_le.mp c79
        replace hM := hM.pos c79
        exact J102 v32_3 f32_1_1 f32_1_2 f32_1_3 H locs ls w44 (show 0 ≤ f32_1_1.toInt by omega) (show f32_1_1.toInt ≤ 400 by omega) (show 1 ≤ f32_1_2.toInt by omega) (show f32_1_2.toInt ≤ 400 by omega) (show 0 ≤ f32_1_3.toInt by omega) (show f32_1_3.toInt ≤ 399 by omega)  hw hT hF c47 c50 c53 c54 hM (lv_sub hl [0, 1, 2, 3] rfl)
      · have c79 : f32_1_1.toInt < f32_1_2.toInt := wk_leF c79
        replace hM := hM.neg (Int.not_le.mpr c79)
        refine lv_aload_n hx hb dX6_readNumber_43 rfl (lv_at hl 0 rfl) ?_
        refine tk_getA hC hK hw hT hinX6 kC_at1 (by decide) rfl 0 (by decide) (List.mem_cons_of_mem _ uw_2_12) rfl rfl dX6_readNumber_44 ?_
        refine lv_aload_n hx hb dX6_readNumber_47 rfl (lv_at hl 0 rfl) ?_
        refine tk_geti hC hK hw hT hinX6 kC_at1 (by decide) rfl 1 (by decide) (List.mem_cons_of_mem _ uw_9_16) rfl rfl dX6_readNumber_48 (fun x80 c81 rx80 tx80 => ?_)
        refine wk_top f32_1_1 (c81.symm.trans c47) ?_
        replace hM := hM.rd (sI_at c47)
        refine tk_iald hC hK hw hT kC_at2 rfl rfl (show 0 ≤ f32_1_1.toInt by omega) (show f32_1_1.toInt < 400 by omega) dX6_readNumber_51 (fun x82 c83 rx82 tx82 => ?_)
        have hox82 := c83
        replace hM := hM.rd (sI_at hox82)
        refine tk_Si hC hK hw hT hA hE hSR (kz_X6_isDigit_1 l adK adV dC dI cy ad B (by omega) (by omega) qr s1   x82 (show 0 ≤ x82.toInt by omega) (show x82.toInt ≤ 255 by omega) w44 H.size hT ) (va_cwS 1 hC.2.2.2.2 uS_RX6_64 rfl rfl rfl (by decide +kernel) ⟨Nat.le_of_ble_eq_true rfl, Nat.le_of_ble_eq_true rfl⟩) rfl hl.1 rfl (Nat.le_of_ble_eq_true rfl) dX6_readNumber_52 (fun r84 w86 H locs hp85 hw => ?_)
        obtain ⟨hT, k87, hv91, hg90⟩ := hp85
        have hF := hF.tr k87 (by decide)
        have c92 := k87.gi kC_at1 (by decide) c47
        have c93 := k87.gi kC_at1 (by decide) c50
        have c94 := k87.gi kC_at1 (by decide) c53
        have c95 := k87.gi kC_at1 (by decide) c54
        rcases hg90 with rfl | ⟨rfl, g88, g89⟩
        · replace hM := hM.call (r' := 0) hv91 (by decide)
          refine lv_if_eq (tgt := 102) hx hb dX6_readNumber_55 (by decide) (fun _ => ?_) (fun c => absurd (by decide) c)
          replace hM := hM.pos (by decide)
          exact J102 v32_3 f32_1_1 f32_1_2 f32_1_3 H locs ls w86 (show 0 ≤ f32_1_1.toInt by omega) (show f32_1_1.toInt ≤ 400 by omega) (show 1 ≤ f32_1_2.toInt by omega) (show f32_1_2.toInt ≤ 400 by omega) (show 0 ≤ f32_1_3.toInt by omega) (show f32_1_3.toInt ≤ 399 by omega)  hw hT hF c92 c93 c94 c95 hM (lv_sub hl [0, 1, 2, 3] rfl)
        · replace hM := hM.call (r' := 1) hv91 (by decide)
          refine lv_if_eq (tgt := 102) hx hb dX6_readNumber_55 (by decide) (fun c => absurd c (by decide)) (fun _ => ?_)
          replace hM := hM.neg (by decide)
          refine lv_aload_n hx hb dX6_readNumber_58 rfl (lv_at hl 0 rfl) ?_
          refine tk_geti hC hK hw hT hinX6 kC_at1 (by decide) rfl 1 (by decide) (List.mem_cons_of_mem _ uw_9_16) rfl rfl dX6_readNumber_59 (fun x96 c97 rx96 tx96 => ?_)
          refine wk_top f32_1_1 (c97.symm.trans c92) ?_
          replace hM := hM.rd (sI_at c92)
          refine lv_aload_n hx hb dX6_readNumber_62 rfl (lv_at hl 0 rfl) ?_
          refine tk_geti hC hK hw hT hinX6 kC_at1 (by decide) rfl 3 (by decide) (List.mem_cons_of_mem _ uw_9_17) rfl rfl dX6_readNumber_63 (fun x98 c99 rx98 tx98 => ?_)
          refine wk_top f32_1_3 (c99.symm.trans c94) ?_
          replace hM := hM.rd (sI_at c94)
          refine lv_isub hx hb dX6_readNumber_66 ?_
          refine lv_topi (fun x100 ex100 => ?_)
          have ezx100 := ex100
          have ex100 : x100.toInt = f32_1_1.toInt - f32_1_3.toInt := by rw [ex100]; exact wk_sub (show (-2147483648) ≤ f32_1_1.toInt - f32_1_3.toInt by omega) (show f32_1_1.toInt - f32_1_3.toInt ≤ 2147483647 by omega)
          replace hM := hM.lt ex100.symm
          refine lv_iconst (v := 5) hx hb dX6_readNumber_67 (by decide) ?_
          refine lv_icmp_ge (tgt := 89) hx hb dX6_readNumber_68 (by decide) (fun c101 => ?_) (fun c101 => ?_)
          · have c101 : (5 : Int) ≤ x100.toInt := wk_le.mp c101
            replace hM := hM.pos c101
            exact J89 v32_3 H locs ls w86 (show 0 ≤ f32_1_1.toInt by omega) (show f32_1_1.toInt ≤ 399 by omega) (show 1 ≤ f32_1_2.toInt by omega) (show f32_1_2.toInt ≤ 400 by omega) (show 0 ≤ f32_1_3.toInt by omega) (show f32_1_3.toInt ≤ 399 by omega)  hw hT hF c92 c93 c94 c95 hM (lv_sub hl [0, 1, 2, 3] rfl)
          · have c101 : x100.toInt < (5 : Int) := wk_leF c101
            replace hM := hM.neg (Int.not_le.mpr c101)
            refine lv_iload_n hx hb dX6_readNumber_71 rfl (lv_at hl 3 rfl) ?_
            refine lv_bipush (v := 10) hx hb dX6_readNumber_72 (by decide) ?_
            refine lv_imul hx hb dX6_readNumber_74 ?_
            have nx102 := wk_i32 v32_3
            refine lv_topi (fun x103 ex103 => ?_)
            have ezx103 := ex103
            replace hM := hM.lt (o32_e (f := fun x y => x * y) ezx103 rfl (by decide))
            refine lv_aload_n hx hb dX6_readNumber_75 rfl (lv_at hl 0 rfl) ?_
            refine tk_getA hC hK hw hT hinX6 kC_at1 (by decide) rfl 0 (by decide) (List.mem_cons_of_mem _ uw_2_12) rfl rfl dX6_readNumber_76 ?_
            refine lv_aload_n hx hb dX6_readNumber_79 rfl (lv_at hl 0 rfl) ?_
            refine tk_geti hC hK hw hT hinX6 kC_at1 (by decide) rfl 1 (by decide) (List.mem_cons_of_mem _ uw_9_16) rfl rfl dX6_readNumber_80 (fun x104 c105 rx104 tx104 => ?_)
            refine wk_top f32_1_1 (c105.symm.trans c92) ?_
            replace hM := hM.rd (sI_at c92)
            refine tk_iald hC hK hw hT kC_at2 rfl rfl (show 0 ≤ f32_1_1.toInt by omega) (show f32_1_1.toInt < 400 by omega) dX6_readNumber_83 (fun x106 c107 rx106 tx106 => ?_)
            have hox106 := c107
            replace hM := hM.rd (sI_at hox106)
            refine lv_iadd hx hb dX6_readNumber_84 ?_
            have nx108 := wk_i32 x103
            refine lv_topi (fun x109 ex109 => ?_)
            have ezx109 := ex109
            replace hM := hM.lt (o32_e (f := fun x y => x + y) ezx109 rfl rfl)
            refine lv_bipush (v := 48) hx hb dX6_readNumber_85 (by decide) ?_
            refine lv_isub hx hb dX6_readNumber_87 ?_
            have nx110 := wk_i32 x109
            refine lv_topi (fun x111 ex111 => ?_)
            have ezx111 := ex111
            replace hM := hM.lt (o32_e (f := fun x y => x - y) ezx111 rfl (by decide))
            refine lv_istore_n (lv' := [(3, .int x111), (0, .ref (ad 1)), (1, .int 2), (2, .int 10)]) hx hb dX6_readNumber_88 rfl hl (by decide) rfl (fun ls hl => ?_)
            exact J89 x111 H locs ls w86 (show 0 ≤ f32_1_1.toInt by omega) (show f32_1_1.toInt ≤ 399 by omega) (show 1 ≤ f32_1_2.toInt by omega) (show f32_1_2.toInt ≤ 400 by omega) (show 0 ≤ f32_1_3.toInt by omega) (show f32_1_3.toInt ≤ 399 by omega)  hw hT hF c92 c93 c94 c95 hM (lv_sub hl [1, 2, 3, 0] rfl)
  have hM : TT (fun n => m_X6_readNumber n 1 2 10 (sI w0)) (fun n => m_X6_readNumber n 1 2 10 (sI w0)) := TT.rf
  refine lv_aload_n hx hb dX6_readNumber_0 rfl (lv_at hl 0 rfl) ?_
  refine tk_Vi hC hK hw hT hA hE hSR kC_at1 (by decide) rfl (kz_X6_isFaulty_2 l adK adV dC dI cy ad B (by omega) (by omega) qr s1    w0 s.heap.size hT cf0_) (cwV 0 hC.2.2.2.2 uV_RX6_39 rfl rfl rfl (by decide +kernel) ⟨Nat.le_of_ble_eq_true rfl, Nat.le_of_ble_eq_true rfl⟩) rfl hl.1 rfl (Nat.le_of_ble_eq_true rfl) dX6_readNumber_1 (fun r112 w114 H locs hp113 hw => ?_)
  obtain ⟨hT, k115, hv119, hg118⟩ := hp113
  have hF := hF.tr k115 (by decide)
  have c120 := k115.gi kC_at1 (by decide) cf0_
  obtain ⟨rfl, ⟨x116, c117, rx116, tx116⟩⟩ := hg118
  replace hM := hM.call (r' := 0) hv119 (by decide)
  have ex116 : x116.toInt = (0 : Int) := by rw [show x116 = 0 from c117.symm.trans c120]; decide
  refine lv_if_eq (tgt := 9) hx hb dX6_readNumber_4 (by decide) (fun _ => ?_) (fun c => absurd (by decide) c)
  replace hM := hM.pos (by decide)
  refine lv_aload_n hx hb dX6_readNumber_9 rfl (lv_at hl 0 rfl) ?_
  refine tk_Vi hC hK hw hT hA hE hSR kC_at1 (by decide) rfl (kz_X6_lookBehindBlanks_1 l adK adV dC dI cy ad B (by omega) (by omega) qr s1    w114 H.size hT ) (cwV 0 hC.2.2.2.2 uV_RX6_28 rfl rfl rfl (by decide +kernel) ⟨Nat.le_of_ble_eq_true rfl, Nat.le_of_ble_eq_true rfl⟩) rfl hl.1 rfl (Nat.le_of_ble_eq_true rfl) dX6_readNumber_10 (fun r121 w123 H locs hp122 hw => ?_)
  obtain ⟨hT, k124, hv134, hg133⟩ := hp122
  have hF := hF.tr k124 (by decide)
  have c135 := k124.gi kC_at1 (by decide) c120
  rcases hg133 with ⟨g125, g126, ⟨x127, c128, rx127, tx127⟩, ⟨x129, c130, rx129, tx129⟩, ⟨x131, c132, rx131, tx131⟩⟩ | rfl
  · replace hM := hM.call hv134 rfl
    refine tk_Si hC hK hw hT hA hE hSR (kz_X6_isDigit_1 l adK adV dC dI cy ad B (by omega) (by omega) qr s1   r121 (show 0 ≤ r121.toInt by omega) (show r121.toInt ≤ 255 by omega) w123 H.size hT ) (va_cwS 1 hC.2.2.2.2 uS_RX6_64 rfl rfl rfl (by decide +kernel) ⟨Nat.le_of_ble_eq_true rfl, Nat.le_of_ble_eq_true rfl⟩) rfl hl.1 rfl (Nat.le_of_ble_eq_true rfl) dX6_readNumber_13 (fun r136 w138 H locs hp137 hw => ?_)
    obtain ⟨hT, k139, hv143, hg142⟩ := hp137
    have hF := hF.tr k139 (by decide)
    have c144 := k139.gi kC_at1 (by decide) c135
    have c145 := k139.gi kC_at1 (by decide) c128
    have c146 := k139.gi kC_at1 (by decide) c130
    have c147 := k139.gi kC_at1 (by decide) c132
    rcases hg142 with rfl | ⟨rfl, g140, g141⟩
    · replace hM := hM.call (r' := 0) hv143 (by decide)
      refine lv_if_ne (tgt := 30) hx hb dX6_readNumber_16 (by decide) (fun c => absurd (by decide) c) (fun _ => ?_)
      replace hM := hM.neg (by decide)
      refine lv_aload_n hx hb dX6_readNumber_19 rfl (lv_at hl 0 rfl) ?_
      refine lv_aload_n hx hb dX6_readNumber_20 rfl (lv_at hl 0 rfl) ?_
      refine tk_geti hC hK hw hT hinX6 kC_at1 (by decide) rfl 3 (by decide) (List.mem_cons_of_mem _ uw_9_17) rfl rfl dX6_readNumber_21 (fun x148 c149 rx148 tx148 => ?_)
      refine wk_top x131 (c149.symm.trans c147) ?_
      replace hM := hM.rd (sI_at c147)
      refine lv_iconst (v := 0) hx hb dX6_readNumber_24 (by decide) ?_
      refine tk_Vv hC hK hw hT hA hE hSR kC_at1 (by decide) rfl (kz_X6_blame_2 l adK adV dC dI cy ad B (by omega) (by omega) qr s1   x131 (show 0 ≤ x131.toInt by omega) (show x131.toInt ≤ 400 by omega) 0 (by decide) (by decide) w138 H.size hT c144) (cwV 2 hC.2.2.2.2 uV_RX6_35 rfl rfl rfl (by decide +kernel) ⟨Nat.le_of_ble_eq_true rfl, Nat.le_of_ble_eq_true rfl⟩) rfl hl.1 rfl (Nat.le_of_ble_eq_true rfl) dX6_readNumber_25 (fun w152 H locs hp151 hw => ?_)
      obtain ⟨hT, k153, hv157, hg156⟩ := hp151
      try simp only [show (0 : Int32).toInt = 0 by decide] at hv157
      have hF := hF.tr k153 (by decide)
      have c158 := k153.gi kC_at1 (by decide) c145
      have c159 := k153.gi kC_at1 (by decide) c146
      have c160 := k153.gi kC_at1 (by decide) c147
      obtain ⟨x154, c155, rx154, tx154⟩ := hg156
      replace hM := hM.call hv157 rfl
      refine lv_iconst (v := (-1)) hx hb dX6_readNumber_28 (by decide) ?_
      exact tk_iret hC hr hlocks hK ⟨hT, hF, hM.ret (by decide), (Or.inr ⟨rfl, ⟨x154, c155, (show 1 ≤ x154.toInt by omega), (show x154.toInt ≤ 3205 by omega)⟩⟩)⟩ hw dX6_readNumber_29
    · replace hM := hM.call (r' := 1) hv143 (by decide)
      refine lv_if_ne (tgt := 30) hx hb dX6_readNumber_16 (by decide) (fun _ => ?_) (fun c => absurd c (by decide))
      replace hM := hM.pos (by decide)
      refine lv_iconst (v := 0) hx hb dX6_readNumber_30 (by decide) ?_
      refine lv_istore_n (lv' := [(3, .int 0), (0, .ref (ad 1)), (1, .int 2), (2, .int 10)]) hx hb dX6_readNumber_31 rfl hl (by decide) rfl (fun ls hl => ?_)
      exact L32 ((400 - x127.toInt).toNat + 1) 0 x127 x129 x131 H locs ls w138 (show 0 ≤ x127.toInt by omega) (show x127.toInt ≤ 400 by omega) (show 1 ≤ x129.toInt by omega) (show x129.toInt ≤ 400 by omega) (show 0 ≤ x131.toInt by omega) (show x131.toInt ≤ 399 by omega) (Nat.lt_succ_self _) hw hT hF c145 c146 c147 c144 hM (lv_sub hl [1, 2, 3, 0] rfl)
  · replace hM := hM.call (r' := (-1)) hv134 (by decide)
    refine tk_Si hC hK hw hT hA hE hSR (kz_X6_isDigit_2 l adK adV dC dI cy ad B (by omega) (by omega) qr s1    w123 H.size hT ) (va_cwS 1 hC.2.2.2.2 uS_RX6_64 rfl rfl rfl (by decide +kernel) ⟨Nat.le_of_ble_eq_true rfl, Nat.le_of_ble_eq_true rfl⟩) rfl hl.1 rfl (Nat.le_of_ble_eq_true rfl) dX6_readNumber_13 (fun r161 w163 H locs hp162 hw => ?_)
    obtain ⟨hT, k164, hv166, hg165⟩ := hp162
    have hF := hF.tr k164 (by decide)
    have c167 := k164.gi kC_at1 (by decide) c135
    obtain rfl := hg165
    replace hM := hM.call (r' := 0) hv166 (by decide)
    refine lv_if_ne (tgt := 30) hx hb dX6_readNumber_16 (by decide) (fun c => absurd (by decide) c) (fun _ => ?_)
    replace hM := hM.neg (by decide)
    refine lv_aload_n hx hb dX6_readNumber_19 rfl (lv_at hl 0 rfl) ?_
    refine lv_aload_n hx hb dX6_readNumber_20 rfl (lv_at hl 0 rfl) ?_
    refine tk_geti hC hK hw hT hinX6 kC_at1 (by decide) rfl 3 (by decide) (List.mem_cons_of_mem _ uw_9_17) rfl rfl dX6_readNumber_21 (fun x168 c169 rx168 tx168 => ?_)
    replace hM := hM.rd (sI_at c169)
    refine lv_iconst (v := 0) hx hb dX6_readNumber_24 (by decide) ?_
    refine tk_Vv hC hK hw hT hA hE hSR kC_at1 (by decide) rfl (kz_X6_blame_2 l adK adV dC dI cy ad B (by omega) (by omega) qr s1   x168 (show 0 ≤ x168.toInt by omega) (show x168.toInt ≤ 400 by omega) 0 (by decide) (by decide) w163 H.size hT c167) (cwV 2 hC.2.2.2.2 uV_RX6_35 rfl rfl rfl (by decide +kernel) ⟨Nat.le_of_ble_eq_true rfl, Nat.le_of_ble_eq_true rfl⟩) rfl hl.1 rfl (Nat.le_of_ble_eq_true rfl) dX6_readNumber_25 (fun w172 H locs hp171 hw => ?_)
    obtain ⟨hT, k173, hv177, hg176⟩ := hp171
    try simp only [show (0 : Int32).toInt = 0 by decide] at hv177
    have hF := hF.tr k173 (by decide)
    have c178 := k173.gi kC_at1 (by decide) c169
    obtain ⟨x174, c175, rx174, tx174⟩ := hg176
    replace hM := hM.call hv177 rfl
    refine lv_iconst (v := (-1)) hx hb dX6_readNumber_28 (by decide) ?_
    exact tk_iret hC hr hlocks hK ⟨hT, hF, hM.ret (by decide), (Or.inr ⟨rfl, ⟨x174, c175, (show 1 ≤ x174.toInt by omega), (show x174.toInt ≤ 3205 by omega)⟩⟩)⟩ hw dX6_readNumber_29
abbrev Pz_X7_readClause_1 (ad : Nat → Nat) (cy : Nat → ClassId) (B : Int) (qr : Nat) (s1 : Int)  (w0 : va_W) : va_W → Prop := fun u => TW ksC ad cy B qr s1 u ∧ FE ksC [(6, 1, 1), (6, 3, 3), (6, 4, 4), (7, 8, 8)] w0 u ∧ Ev (fun n => m_X7_readClause n 29 1 0 (sI w0)) (0, sI u) ∧ (((∃ y : Int32, gi u 1 4 = y ∧ 1 ≤ y.toInt ∧ y.toInt ≤ 3205)) ∨ ((∃ y : Int32, gi u 1 4 = y ∧ 0 ≤ y.toInt ∧ y.toInt ≤ 3205)))
set_option maxHeartbeats 4000000 in
set_option maxRecDepth 100000 in
theorem kz_X7_readClause_1 (l : Launch) (adK adV : Nat → Nat) (dC : Nat → ClassId) (dI : Nat → Nat → Nat) (cy : Nat → ClassId) (ad : Nat → Nat) (B : Int) (hB0 : 2147483648 ≤ B) (hB1 : B ≤ 1152921504606846976) (qr : Nat) (s1 : Int)   (w0 : va_W) (sz : Nat) (hT : TW ksC ad cy B qr s1 w0)  : Met l yX7_readClause (wu yX7_readClause cX7_readClause 3 none) ({ frames := 3, cells := 0, slots := 0, locals := 57 }) (va_Pc [.ref (ad 29), .ref (ad 1), .int 0] (wpreS adK adV dC dI cy sz w0)) (va_Qv (Pz_X7_readClause_1 ad cy B qr s1  w0) (fun u : va_W => wpost dC dI cy (va_A w0 sz) u) (va_A w0 sz)) 0 0 (va_A w0 sz) := by
  refine Met.ofW (cc := cX7_readClause) (maxL := 3) (ret := none) (by decide) rfl ?_
  intro p e s m args below meth c s₁ Bk hml hv
  obtain ⟨rfl, ⟨hsz, hP, hK, hD0⟩, hE, hSR⟩ := hv
  have hx := Bk.exec
  have hb := Bk.bytes
  have hr := Bk.returns
  have hlocks := Bk.notSynchronized
  have hC : CallFix p m c cX7_readClause 3 s _ (wu yX7_readClause cX7_readClause 3 none) RX7 := ⟨hx, hb, hml, findClass_of_methodNamed Bk.named, atoms_spec (ws := (wu yX7_readClause cX7_readClause 3 none)) Bk.pre⟩
  subst hsz
  have hD := hD0.self (sz := s.heap.size)
  generalize hAe : va_A w0 s.heap.size = A at hD hE ⊢
  have hA : ∀ q : Nat, s.heap.size ≤ q → A q := fun q h => by rw [← hAe]; exact Or.inr h
  have hw : Wd dC dI A s.heap s.heap [] w0 := ⟨hP, hD, va_S.rf⟩
  have hF : FE ksC [(6, 1, 1), (6, 3, 3), (6, 4, 4), (7, 8, 8)] w0 w0 := FE.rf
  have hl := lv_entry ([.ref (ad 29), .ref (ad 1), .int 0]) (n := 3) (Nat.le_of_ble_eq_true rfl)
  rw [lg_entry_eq]
  generalize (lg_sl ([.ref (ad 29), .ref (ad 1), .int 0]) ++ List.replicate (3 - (lg_sl ([.ref (ad 29), .ref (ad 1), .int 0])).length) Slot.unset).toArray = ls at hl ⊢
  have hl : lv_has ls 3 [(0, .ref (ad 29)), (1, .ref (ad 1)), (2, .int 0)] := hl
  generalize hloc : ([] : List Loc) = locs at hw ⊢
  have hinX7 : ∀ w ∈ u_ws RX7 TX7 12, w ∈ (wu yX7_readClause cX7_readClause 3 none) := fun _ h => List.mem_cons_of_mem _ (up_73 h)
  have J57 : ∀ (f57_1_4 : Int32) (f57_29_8 : Int32) (H : Heap) (locs : List Loc) (ls : Array Slot) (w1 : va_W), 0 ≤ f57_1_4.toInt → f57_1_4.toInt ≤ 3205 → (-1) ≤ f57_29_8.toInt → f57_29_8.toInt ≤ 10 → Wd dC dI A s.heap H locs w1 → TW ksC ad cy B qr s1 w1 → FE ksC [(6, 1, 1), (6, 3, 3), (6, 4, 4), (7, 8, 8)] w0 w1 → gi w1 1 4 = f57_1_4 → gi w1 29 8 = f57_29_8 → TT (fun n => m_X7_readClause n 29 1 0 (sI w0)) (fun n => b_X7_readClause_57 n 29 1 (sI w1)) → lv_has ls 3 [(0, .ref (ad 29)), (1, .ref (ad 1)), (2, .int 0)] → W p l e ({ frames := 3, cells := 0, slots := 0, locals := 57 }) s m (List.toArray [.ref (ad 29), .ref (ad 1), .int 0]) below meth c H locs 0 0 (MQ below (va_Qv (Pz_X7_readClause_1 ad cy B qr s1  w0) (fun u : va_W => wpost dC dI cy A u) A) (List.toArray [.ref (ad 29), .ref (ad 1), .int 0]) s 0 0 A) (F0 m 57 ls []) := by
    intro f57_1_4 f57_29_8 H locs ls w1 r2 t3 r5 t6 hw hT hF c4 c7 hM hl
    exact tk_vret hC hr hlocks hK ⟨hT, hF, hM.ret rfl, (Or.inr ⟨f57_1_4, c4, (show 0 ≤ f57_1_4.toInt by omega), (show f57_1_4.toInt ≤ 3205 by omega)⟩)⟩ hw dX7_readClause_57
  have hM : TT (fun n => m_X7_readClause n 29 1 0 (sI w0)) (fun n => m_X7_readClause n 29 1 0 (sI w0)) := TT.rf
  refine lv_aload_n hx hb dX7_readClause_0 rfl (lv_at hl 1 rfl) ?_
  refine tk_Vi hC hK hw hT hA hE hSR kC_at1 (by decide) rfl (kz_X6_isFaulty_1 l adK adV dC dI cy ad B (by omega) (by omega) qr s1    w0 s.heap.size hT ) (cwV 0 hC.2.2.2.2 uV_RX7_89 rfl rfl rfl (by decide +kernel) ⟨Nat.le_of_ble_eq_true rfl, Nat.le_of_ble_eq_true rfl⟩) rfl hl.1 rfl (Nat.le_of_ble_eq_true rfl) dX7_readClause_1 (fun r8 w10 H locs hp9 hw => ?_)
  obtain ⟨hT, k11, hv17, hg16⟩ := hp9
  have hF := hF.tr k11 (by decide)
  rcases hg16 with ⟨rfl, ⟨x12, c13, rx12, tx12⟩⟩ | ⟨rfl, ⟨x14, c15, rx14, tx14⟩⟩
  · replace hM := hM.call (r' := 0) hv17 (by decide)
    refine lv_if_eq (tgt := 8) hx hb dX7_readClause_4 (by decide) (fun _ => ?_) (fun c => absurd (by decide) c)
    replace hM := hM.pos (by decide)
    refine lv_iload_n hx hb dX7_readClause_8 rfl (lv_at hl 2 rfl) ?_
    refine lv_if_ne (tgt := 26) hx hb dX7_readClause_9 (by decide) (fun c => absurd (by decide) c) (fun _ => ?_)
    replace hM := hM.neg (by decide)
    refine lv_aload_n hx hb dX7_readClause_12 rfl (lv_at hl 0 rfl) ?_
    refine lv_aload_n hx hb dX7_readClause_13 rfl (lv_at hl 1 rfl) ?_
    refine lv_iconst (v := 2) hx hb dX7_readClause_14 (by decide) ?_
    refine lv_bipush (v := 10) hx hb dX7_readClause_15 (by decide) ?_
    refine tk_Vi hC hK hw hT hA hE hSR kC_at1 (by decide) rfl (kz_X6_readNumber_1 l adK adV dC dI cy ad B (by omega) (by omega) qr s1    w10 H.size hT (c13.trans (wk_eq.mpr (show x12.toInt = 0 by omega)))) (cwV 2 hC.2.2.2.2 uV_RX7_92 rfl rfl rfl (by decide +kernel) ⟨Nat.le_of_ble_eq_true rfl, Nat.le_of_ble_eq_true rfl⟩) rfl hl.1 rfl (Nat.le_of_ble_eq_true rfl) dX7_readClause_17 (fun r18 w20 H locs hp19 hw => ?_)
    obtain ⟨hT, k21, hv33, hg32⟩ := hp19
    have hF := hF.tr k21 (by decide)
    rcases hg32 with ⟨g22, g23, ⟨x24, c25, rx24, tx24⟩, ⟨x26, c27, rx26, tx26⟩, ⟨x28, c29, rx28, tx28⟩⟩ | ⟨rfl, ⟨x30, c31, rx30, tx30⟩⟩
    · replace hM := hM.call hv33 rfl
      refine tk_puti hC hK hw hT hinX7 tyX7_ok nmX7 kC_at29 (by decide) rfl rfl 8 (by decide) (List.mem_cons_of_mem _ uw_9_7) rfl rfl rfl rfl (show (-1) ≤ r18.toInt by omega) (show r18.toInt ≤ 10 by omega) dX7_readClause_20 (fun H locs w34 hw hT k36 c35 => ?_)
      replace hM := hM.wr (sI_up k36 c35)
      have hF := hF.put kC_at29 (k := 8) (by decide) k36
      have c37 := k36.gi (Or.inr (by decide)) c25
      have c38 := k36.gi (Or.inr (by decide)) c27
      have c39 := k36.gi (Or.inr (by decide)) c29
      refine lv_goto (tgt := 57) hx hb dX7_readClause_23 (by decide) ?_
      exact J57 x28 r18 H locs ls w34 (show 0 ≤ x28.toInt by omega) (show x28.toInt ≤ 3205 by omega) (show (-1) ≤ r18.toInt by omega) (show r18.toInt ≤ 10 by omega)  hw hT hF c39 c35 hM (lv_sub hl [0, 1, 2] rfl)
    · replace hM := hM.call (r' := (-1)) hv33 (by decide)
      refine tk_puti hC hK hw hT hinX7 tyX7_ok nmX7 kC_at29 (by decide) rfl rfl 8 (by decide) (List.mem_cons_of_mem _ uw_9_7) rfl rfl rfl rfl (by decide) (by decide) dX7_readClause_20 (fun H locs w40 hw hT k42 c41 => ?_)
      replace hM := hM.wr (sI_upc k42 c41 (by decide))
      have hF := hF.put kC_at29 (k := 8) (by decide) k42
      have c43 := k42.gi (Or.inr (by decide)) c31
      refine lv_goto (tgt := 57) hx hb dX7_readClause_23 (by decide) ?_
      exact J57 x30 (-1) H locs ls w40 (show 0 ≤ x30.toInt by omega) (show x30.toInt ≤ 3205 by omega) (by decide) (by decide)  hw hT hF c43 c41 hM (lv_sub hl [0, 1, 2] rfl)
  · replace hM := hM.call (r' := 1) hv17 (by decide)
    refine lv_if_eq (tgt := 8) hx hb dX7_readClause_4 (by decide) (fun c => absurd c (by decide)) (fun _ => ?_)
    replace hM := hM.neg (by decide)
    exact tk_vret hC hr hlocks hK ⟨hT, hF, hM.ret rfl, (Or.inl ⟨x14, c15, (show 1 ≤ x14.toInt by omega), (show x14.toInt ≤ 3205 by omega)⟩)⟩ hw dX7_readClause_7
abbrev Pz_X6_isFaulty_3 (ad : Nat → Nat) (cy : Nat → ClassId) (B : Int) (qr : Nat) (s1 : Int)  (w0 : va_W) : Int32 → va_W → Prop := fun r u => TW ksC ad cy B qr s1 u ∧ FE ksC ([] : List (Nat × Nat × Nat)) w0 u ∧ Ev (fun n => m_X6_isFaulty n 1 (sI w0)) (r.toInt, sI u) ∧ ((r = 1 ∧ (∃ y : Int32, gi u 1 4 = y ∧ 1 ≤ y.toInt ∧ y.toInt ≤ 3205)))
set_option maxHeartbeats 4000000 in
set_option maxRecDepth 100000 in
theorem kz_X6_isFaulty_3 (l : Launch) (adK adV : Nat → Nat) (dC : Nat → ClassId) (dI : Nat → Nat → Nat) (cy : Nat → ClassId) (ad : Nat → Nat) (B : Int) (hB0 : 2147483648 ≤ B) (hB1 : B ≤ 1152921504606846976) (qr : Nat) (s1 : Int)   (w0 : va_W) (sz : Nat) (hT : TW ksC ad cy B qr s1 w0) (f0_ : Int32) (cf0_ : gi w0 1 4 = f0_) (rf0_ : 1 ≤ f0_.toInt) (tf0_ : f0_.toInt ≤ 3205) : Met l yX6_isFaulty (wu yX6_isFaulty cX6_isFaulty 1 (some .boolean)) ({ frames := 1, cells := 0, slots := 0, locals := 12 }) (va_Pc [.ref (ad 1)] (wpreS adK adV dC dI cy sz w0)) (va_Qi (Pz_X6_isFaulty_3 ad cy B qr s1  w0) (fun u : va_W => wpost dC dI cy (va_A w0 sz) u) (va_A w0 sz)) 0 0 (va_A w0 sz) := by
  refine Met.ofW (cc := cX6_isFaulty) (maxL := 1) (ret := (some .boolean)) (by decide) rfl ?_
  intro p e s m args below meth c s₁ Bk hml hv
  obtain ⟨rfl, ⟨hsz, hP, hK, hD0⟩, hE, hSR⟩ := hv
  have hx := Bk.exec
  have hb := Bk.bytes
  have hr := Bk.returns
  have hlocks := Bk.notSynchronized
  have hC : CallFix p m c cX6_isFaulty 1 s _ (wu yX6_isFaulty cX6_isFaulty 1 (some .boolean)) RX6 := ⟨hx, hb, hml, findClass_of_methodNamed Bk.named, atoms_spec (ws := (wu yX6_isFaulty cX6_isFaulty 1 (some .boolean))) Bk.pre⟩
  subst hsz
  have hD := hD0.self (sz := s.heap.size)
  generalize hAe : va_A w0 s.heap.size = A at hD hE ⊢
  have hA : ∀ q : Nat, s.heap.size ≤ q → A q := fun q h => by rw [← hAe]; exact Or.inr h
  have hw : Wd dC dI A s.heap s.heap [] w0 := ⟨hP, hD, va_S.rf⟩
  have hF : FE ksC ([] : List (Nat × Nat × Nat)) w0 w0 := FE.rf
  have hl := lv_entry ([.ref (ad 1)]) (n := 1) (Nat.le_of_ble_eq_true rfl)
  rw [lg_entry_eq]
  generalize (lg_sl ([.ref (ad 1)]) ++ List.replicate (1 - (lg_sl ([.ref (ad 1)])).length) Slot.unset).toArray = ls at hl ⊢
  have hl : lv_has ls 1 [(0, .ref (ad 1))] := hl
  generalize hloc : ([] : List Loc) = locs at hw ⊢
  have hinX6 : ∀ w ∈ u_ws RX6 TX6 5, w ∈ (wu yX6_isFaulty cX6_isFaulty 1 (some .boolean)) := fun _ h => List.mem_cons_of_mem _ (up_72 h)
  have hM : TT (fun n => m_X6_isFaulty n 1 (sI w0)) (fun n => m_X6_isFaulty n 1 (sI w0)) := TT.rf
  refine lv_aload_n hx hb dX6_isFaulty_0 rfl (lv_at hl 0 rfl) ?_
  refine tk_geti hC hK hw hT hinX6 kC_at1 (by decide) rfl 4 (by decide) (List.mem_cons_of_mem _ uw_9_18) rfl rfl dX6_isFaulty_1 (fun x1 c2 rx1 tx1 => ?_)
  refine wk_top f0_ (c2.symm.trans cf0_) ?_
  replace hM := hM.rd (sI_at cf0_)
  refine lv_if_eq (tgt := 11) hx hb dX6_isFaulty_4 (by decide) (fun c => absurd c (fun h => absurd (show f0_.toInt = (0 : Int) from wk_eq.mp h) (by omega))) (fun _ => ?_)
  replace hM := hM.neg (by omega)
  refine lv_iconst (v := 1) hx hb dX6_isFaulty_7 (by decide) ?_
  refine lv_goto (tgt := 12) hx hb dX6_isFaulty_8 (by decide) ?_
  exact tk_zret hC hr rfl hlocks hK ⟨hT, hF, hM.ret (by decide), ⟨rfl, ⟨f0_, cf0_, (show 1 ≤ f0_.toInt by omega), (show f0_.toInt ≤ 3205 by omega)⟩⟩⟩ hw dX6_isFaulty_12
abbrev Pz_X6_takeSemicolon_1 (ad : Nat → Nat) (cy : Nat → ClassId) (B : Int) (qr : Nat) (s1 : Int)  (w0 : va_W) : Int32 → va_W → Prop := fun r u => TW ksC ad cy B qr s1 u ∧ FE ksC ([] : List (Nat × Nat × Nat)) w0 u ∧ Ev (fun n => m_X6_takeSemicolon n 1 (sI w0)) (r.toInt, sI u) ∧ ((r = 0 ∧ (∃ y : Int32, gi u 1 4 = y ∧ 1 ≤ y.toInt ∧ y.toInt ≤ 3205)))
set_option maxHeartbeats 4000000 in
set_option maxRecDepth 100000 in
theorem kz_X6_takeSemicolon_1 (l : Launch) (adK adV : Nat → Nat) (dC : Nat → ClassId) (dI : Nat → Nat → Nat) (cy : Nat → ClassId) (ad : Nat → Nat) (B : Int) (hB0 : 2147483648 ≤ B) (hB1 : B ≤ 1152921504606846976) (qr : Nat) (s1 : Int)   (w0 : va_W) (sz : Nat) (hT : TW ksC ad cy B qr s1 w0) (f0_ : Int32) (cf0_ : gi w0 1 4 = f0_) (rf0_ : 1 ≤ f0_.toInt) (tf0_ : f0_.toInt ≤ 3205) : Met l yX6_takeSemicolon (wu yX6_takeSemicolon cX6_takeSemicolon 1 (some .boolean)) ({ frames := 2, cells := 0, slots := 0, locals := 32 }) (va_Pc [.ref (ad 1)] (wpreS adK adV dC dI cy sz w0)) (va_Qi (Pz_X6_takeSemicolon_1 ad cy B qr s1  w0) (fun u : va_W => wpost dC dI cy (va_A w0 sz) u) (va_A w0 sz)) 0 0 (va_A w0 sz) := by
  refine Met.ofW (cc := cX6_takeSemicolon) (maxL := 1) (ret := (some .boolean)) (by decide) rfl ?_
  intro p e s m args below meth c s₁ Bk hml hv
  obtain ⟨rfl, ⟨hsz, hP, hK, hD0⟩, hE, hSR⟩ := hv
  have hx := Bk.exec
  have hb := Bk.bytes
  have hr := Bk.returns
  have hlocks := Bk.notSynchronized
  have hC : CallFix p m c cX6_takeSemicolon 1 s _ (wu yX6_takeSemicolon cX6_takeSemicolon 1 (some .boolean)) RX6 := ⟨hx, hb, hml, findClass_of_methodNamed Bk.named, atoms_spec (ws := (wu yX6_takeSemicolon cX6_takeSemicolon 1 (some .boolean))) Bk.pre⟩
  subst hsz
  have hD := hD0.self (sz := s.heap.size)
  generalize hAe : va_A w0 s.heap.size = A at hD hE ⊢
  have hA : ∀ q : Nat, s.heap.size ≤ q → A q := fun q h => by rw [← hAe]; exact Or.inr h
  have hw : Wd dC dI A s.heap s.heap [] w0 := ⟨hP, hD, va_S.rf⟩
  have hF : FE ksC ([] : List (Nat × Nat × Nat)) w0 w0 := FE.rf
  have hl := lv_entry ([.ref (ad 1)]) (n := 1) (Nat.le_of_ble_eq_true rfl)
  rw [lg_entry_eq]
  generalize (lg_sl ([.ref (ad 1)]) ++ List.replicate (1 - (lg_sl ([.ref (ad 1)])).length) Slot.unset).toArray = ls at hl ⊢
  have hl : lv_has ls 1 [(0, .ref (ad 1))] := hl
  generalize hloc : ([] : List Loc) = locs at hw ⊢
  have hM : TT (fun n => m_X6_takeSemicolon n 1 (sI w0)) (fun n => m_X6_takeSemicolon n 1 (sI w0)) := TT.rf
  refine lv_aload_n hx hb dX6_takeSemicolon_0 rfl (lv_at hl 0 rfl) ?_
  refine tk_Vi hC hK hw hT hA hE hSR kC_at1 (by decide) rfl (kz_X6_isFaulty_3 l adK adV dC dI cy ad B (by omega) (by omega) qr s1    w0 s.heap.size hT f0_ cf0_ (show 1 ≤ f0_.toInt by omega) (show f0_.toInt ≤ 3205 by omega)) (cwV 0 hC.2.2.2.2 uV_RX6_39 rfl rfl rfl (by decide +kernel) ⟨Nat.le_of_ble_eq_true rfl, Nat.le_of_ble_eq_true rfl⟩) rfl hl.1 rfl (Nat.le_of_ble_eq_true rfl) dX6_takeSemicolon_1 (fun r1 w3 H locs hp2 hw => ?_)
  obtain ⟨hT, k4, hv8, hg7⟩ := hp2
  have hF := hF.tr k4 (by decide)
  have c9 := k4.gi kC_at1 (by decide) cf0_
  obtain ⟨rfl, ⟨x5, c6, rx5, tx5⟩⟩ := hg7
  replace hM := hM.call (r' := 1) hv8 (by decide)
  have ex5 : x5.toInt = f0_.toInt := by rw [← c9.symm.trans c6]
  refine lv_if_eq (tgt := 9) hx hb dX6_takeSemicolon_4 (by decide) (fun c => absurd c (by decide)) (fun _ => ?_)
  replace hM := hM.neg (by decide)
  refine lv_iconst (v := 0) hx hb dX6_takeSemicolon_7 (by decide) ?_
  exact tk_zret hC hr rfl hlocks hK ⟨hT, hF, hM.ret (by decide), ⟨rfl, ⟨f0_, c9, (show 1 ≤ f0_.toInt by omega), (show f0_.toInt ≤ 3205 by omega)⟩⟩⟩ hw dX6_takeSemicolon_8
abbrev Pz_X6_pass_1 (ad : Nat → Nat) (cy : Nat → ClassId) (B : Int) (qr : Nat) (s1 : Int)  (w0 : va_W) : va_W → Prop := fun u => TW ksC ad cy B qr s1 u ∧ FE ksC [(6, 1, 1)] w0 u ∧ Ev (fun n => m_X6_pass n 1 (sI w0)) (0, sI u) ∧ ((True))
set_option maxHeartbeats 4000000 in
set_option maxRecDepth 100000 in
theorem kz_X6_pass_1 (l : Launch) (adK adV : Nat → Nat) (dC : Nat → ClassId) (dI : Nat → Nat → Nat) (cy : Nat → ClassId) (ad : Nat → Nat) (B : Int) (hB0 : 2147483648 ≤ B) (hB1 : B ≤ 1152921504606846976) (qr : Nat) (s1 : Int)   (w0 : va_W) (sz : Nat) (hT : TW ksC ad cy B qr s1 w0)  : Met l yX6_pass (wu yX6_pass cX6_pass 1 none) ({ frames := 1, cells := 0, slots := 0, locals := 12 }) (va_Pc [.ref (ad 1)] (wpreS adK adV dC dI cy sz w0)) (va_Qv (Pz_X6_pass_1 ad cy B qr s1  w0) (fun u : va_W => wpost dC dI cy (va_A w0 sz) u) (va_A w0 sz)) 0 0 (va_A w0 sz) := by
  refine Met.ofW (cc := cX6_pass) (maxL := 1) (ret := none) (by decide) rfl ?_
  intro p e s m args below meth c s₁ Bk hml hv
  obtain ⟨rfl, ⟨hsz, hP, hK, hD0⟩, hE, hSR⟩ := hv
  have hx := Bk.exec
  have hb := Bk.bytes
  have hr := Bk.returns
  have hlocks := Bk.notSynchronized
  have hC : CallFix p m c cX6_pass 1 s _ (wu yX6_pass cX6_pass 1 none) RX6 := ⟨hx, hb, hml, findClass_of_methodNamed Bk.named, atoms_spec (ws := (wu yX6_pass cX6_pass 1 none)) Bk.pre⟩
  subst hsz
  have hD := hD0.self (sz := s.heap.size)
  generalize hAe : va_A w0 s.heap.size = A at hD hE ⊢
  have hA : ∀ q : Nat, s.heap.size ≤ q → A q := fun q h => by rw [← hAe]; exact Or.inr h
  have hw : Wd dC dI A s.heap s.heap [] w0 := ⟨hP, hD, va_S.rf⟩
  have hF : FE ksC [(6, 1, 1)] w0 w0 := FE.rf
  have hl := lv_entry ([.ref (ad 1)]) (n := 1) (Nat.le_of_ble_eq_true rfl)
  rw [lg_entry_eq]
  generalize (lg_sl ([.ref (ad 1)]) ++ List.replicate (1 - (lg_sl ([.ref (ad 1)])).length) Slot.unset).toArray = ls at hl ⊢
  have hl : lv_has ls 1 [(0, .ref (ad 1))] := hl
  generalize hloc : ([] : List Loc) = locs at hw ⊢
  have hinX6 : ∀ w ∈ u_ws RX6 TX6 5, w ∈ (wu yX6_pass cX6_pass 1 none) := fun _ h => List.mem_cons_of_mem _ (up_72 h)
  have J21 : ∀ (f21_1_1 : Int32) (f21_1_2 : Int32) (H : Heap) (locs : List Loc) (ls : Array Slot) (w1 : va_W), 0 ≤ f21_1_1.toInt → f21_1_1.toInt ≤ 400 → 0 ≤ f21_1_2.toInt → f21_1_2.toInt ≤ 400 → Wd dC dI A s.heap H locs w1 → TW ksC ad cy B qr s1 w1 → FE ksC [(6, 1, 1)] w0 w1 → gi w1 1 1 = f21_1_1 → gi w1 1 2 = f21_1_2 → TT (fun n => m_X6_pass n 1 (sI w0)) (fun n => b_X6_pass_21 n 1 (sI w1)) → lv_has ls 1 [(0, .ref (ad 1))] → W p l e ({ frames := 1, cells := 0, slots := 0, locals := 12 }) s m (List.toArray [.ref (ad 1)]) below meth c H locs 0 0 (MQ below (va_Qv (Pz_X6_pass_1 ad cy B qr s1  w0) (fun u : va_W => wpost dC dI cy A u) A) (List.toArray [.ref (ad 1)]) s 0 0 A) (F0 m 21 ls []) := by
    intro f21_1_1 f21_1_2 H locs ls w1 r2 t3 r5 t6 hw hT hF c4 c7 hM hl
    exact tk_vret hC hr hlocks hK ⟨hT, hF, hM.ret rfl, trivial⟩ hw dX6_pass_21
  have hM : TT (fun n => m_X6_pass n 1 (sI w0)) (fun n => m_X6_pass n 1 (sI w0)) := TT.rf
  refine lv_aload_n hx hb dX6_pass_0 rfl (lv_at hl 0 rfl) ?_
  refine tk_geti hC hK hw hT hinX6 kC_at1 (by decide) rfl 1 (by decide) (List.mem_cons_of_mem _ uw_9_16) rfl rfl dX6_pass_1 (fun x8 c9 rx8 tx8 => ?_)
  replace hM := hM.rd (sI_at c9)
  refine lv_aload_n hx hb dX6_pass_4 rfl (lv_at hl 0 rfl) ?_
  refine tk_geti hC hK hw hT hinX6 kC_at1 (by decide) rfl 2 (by decide) (List.mem_cons_of_mem _ uw_7_22) rfl rfl dX6_pass_5 (fun x10 c11 rx10 tx10 => ?_)
  replace hM := hM.rd (sI_at c11)
  refine lv_icmp_ge (tgt := 21) hx hb dX6_pass_8 (by decide) (fun c12 => ?_) (fun c12 => ?_)
  · have c12 : x10.toInt ≤ x8.toInt := wk_le.mp c12
    replace hM := hM.pos c12
    exact J21 x8 x10 s.heap locs ls w0 (show 0 ≤ x8.toInt by omega) (show x8.toInt ≤ 400 by omega) (show 0 ≤ x10.toInt by omega) (show x10.toInt ≤ 400 by omega)  hw hT hF c9 c11 hM (lv_sub hl [0] rfl)
  · have c12 : x8.toInt < x10.toInt := wk_leF c12
    replace hM := hM.neg (Int.not_le.mpr c12)
    refine lv_aload_n hx hb dX6_pass_11 rfl (lv_at hl 0 rfl) ?_
    refine lv_dup hx hb dX6_pass_12 rfl ?_
    refine tk_geti hC hK hw hT hinX6 kC_at1 (by decide) rfl 1 (by decide) (List.mem_cons_of_mem _ uw_9_16) rfl rfl dX6_pass_13 (fun x13 c14 rx13 tx13 => ?_)
    refine wk_top x8 (c14.symm.trans c9) ?_
    replace hM := hM.rd (sI_at c9)
    refine lv_iconst (v := 1) hx hb dX6_pass_16 (by decide) ?_
    refine lv_iadd hx hb dX6_pass_17 ?_
    refine lv_topi (fun x15 ex15 => ?_)
    have ezx15 := ex15
    have ex15 : x15.toInt = x8.toInt + (1 : Int) := by rw [ex15]; exact wk_add (show (-2147483648) ≤ x8.toInt + (1 : Int) by omega) (show x8.toInt + (1 : Int) ≤ 2147483647 by omega)
    replace hM := hM.lt ex15.symm
    refine tk_puti hC hK hw hT hinX6 tyX6_ok nmX6 kC_at1 (by decide) rfl rfl 1 (by decide) (List.mem_cons_of_mem _ uw_9_16) rfl rfl rfl rfl (show 0 ≤ x15.toInt by omega) (show x15.toInt ≤ 400 by omega) dX6_pass_18 (fun H locs w16 hw hT k18 c17 => ?_)
    replace hM := hM.wr (sI_up k18 c17)
    have hF := hF.put kC_at1 (k := 1) (by decide) k18
    have c19 := k18.gi (Or.inr (by decide)) c11
    exact J21 x15 x10 H locs ls w16 (show 0 ≤ x15.toInt by omega) (show x15.toInt ≤ 400 by omega) (show 0 ≤ x10.toInt by omega) (show x10.toInt ≤ 400 by omega)  hw hT hF c17 c19 hM (lv_sub hl [0] rfl)
abbrev Pz_X6_takeByte_1 (ad : Nat → Nat) (cy : Nat → ClassId) (B : Int) (qr : Nat) (s1 : Int)  (w0 : va_W) : Int32 → va_W → Prop := fun r u => TW ksC ad cy B qr s1 u ∧ FE ksC [(6, 1, 1), (6, 3, 3)] w0 u ∧ Ev (fun n => m_X6_takeByte n 1 59 (sI w0)) (r.toInt, sI u) ∧ ((r = 0) ∨ (r = 1 ∧ (∃ y : Int32, gi u 1 2 = y ∧ 1 ≤ y.toInt ∧ y.toInt ≤ 400) ∧ (∃ y : Int32, gi u 1 3 = y ∧ 0 ≤ y.toInt ∧ y.toInt ≤ 399)))
set_option maxHeartbeats 4000000 in
set_option maxRecDepth 100000 in
theorem kz_X6_takeByte_1 (l : Launch) (adK adV : Nat → Nat) (dC : Nat → ClassId) (dI : Nat → Nat → Nat) (cy : Nat → ClassId) (ad : Nat → Nat) (B : Int) (hB0 : 2147483648 ≤ B) (hB1 : B ≤ 1152921504606846976) (qr : Nat) (s1 : Int)   (w0 : va_W) (sz : Nat) (hT : TW ksC ad cy B qr s1 w0)  : Met l yX6_takeByte (wu yX6_takeByte cX6_takeByte 2 (some .boolean)) ({ frames := 2, cells := 0, slots := 0, locals := 32 }) (va_Pc [.ref (ad 1), .int 59] (wpreS adK adV dC dI cy sz w0)) (va_Qi (Pz_X6_takeByte_1 ad cy B qr s1  w0) (fun u : va_W => wpost dC dI cy (va_A w0 sz) u) (va_A w0 sz)) 0 0 (va_A w0 sz) := by
  refine Met.ofW (cc := cX6_takeByte) (maxL := 2) (ret := (some .boolean)) (by decide) rfl ?_
  intro p e s m args below meth c s₁ Bk hml hv
  obtain ⟨rfl, ⟨hsz, hP, hK, hD0⟩, hE, hSR⟩ := hv
  have hx := Bk.exec
  have hb := Bk.bytes
  have hr := Bk.returns
  have hlocks := Bk.notSynchronized
  have hC : CallFix p m c cX6_takeByte 2 s _ (wu yX6_takeByte cX6_takeByte 2 (some .boolean)) RX6 := ⟨hx, hb, hml, findClass_of_methodNamed Bk.named, atoms_spec (ws := (wu yX6_takeByte cX6_takeByte 2 (some .boolean))) Bk.pre⟩
  subst hsz
  have hD := hD0.self (sz := s.heap.size)
  generalize hAe : va_A w0 s.heap.size = A at hD hE ⊢
  have hA : ∀ q : Nat, s.heap.size ≤ q → A q := fun q h => by rw [← hAe]; exact Or.inr h
  have hw : Wd dC dI A s.heap s.heap [] w0 := ⟨hP, hD, va_S.rf⟩
  have hF : FE ksC [(6, 1, 1), (6, 3, 3)] w0 w0 := FE.rf
  have hl := lv_entry ([.ref (ad 1), .int 59]) (n := 2) (Nat.le_of_ble_eq_true rfl)
  rw [lg_entry_eq]
  generalize (lg_sl ([.ref (ad 1), .int 59]) ++ List.replicate (2 - (lg_sl ([.ref (ad 1), .int 59])).length) Slot.unset).toArray = ls at hl ⊢
  have hl : lv_has ls 2 [(0, .ref (ad 1)), (1, .int 59)] := hl
  generalize hloc : ([] : List Loc) = locs at hw ⊢
  have hM : TT (fun n => m_X6_takeByte n 1 59 (sI w0)) (fun n => m_X6_takeByte n 1 59 (sI w0)) := TT.rf
  refine lv_aload_n hx hb dX6_takeByte_0 rfl (lv_at hl 0 rfl) ?_
  refine tk_Vi hC hK hw hT hA hE hSR kC_at1 (by decide) rfl (kz_X6_lookBehindBlanks_1 l adK adV dC dI cy ad B (by omega) (by omega) qr s1    w0 s.heap.size hT ) (cwV 0 hC.2.2.2.2 uV_RX6_28 rfl rfl rfl (by decide +kernel) ⟨Nat.le_of_ble_eq_true rfl, Nat.le_of_ble_eq_true rfl⟩) rfl hl.1 rfl (Nat.le_of_ble_eq_true rfl) dX6_takeByte_1 (fun r1 w3 H locs hp2 hw => ?_)
  obtain ⟨hT, k4, hv14, hg13⟩ := hp2
  have hF := hF.tr k4 (by decide)
  rcases hg13 with ⟨g5, g6, ⟨x7, c8, rx7, tx7⟩, ⟨x9, c10, rx9, tx9⟩, ⟨x11, c12, rx11, tx11⟩⟩ | rfl
  · replace hM := hM.call hv14 rfl
    refine lv_iload_n hx hb dX6_takeByte_4 rfl (lv_at hl 1 rfl) ?_
    refine lv_icmp_eq (tgt := 10) hx hb dX6_takeByte_5 (by decide) (fun c15 => ?_) (fun c15 => ?_)
    · have c15 : r1.toInt = (59 : Int) := wk_eq.mp c15
      replace hM := hM.pos c15
      refine lv_aload_n hx hb dX6_takeByte_10 rfl (lv_at hl 0 rfl) ?_
      refine tk_Vv hC hK hw hT hA hE hSR kC_at1 (by decide) rfl (kz_X6_pass_1 l adK adV dC dI cy ad B (by omega) (by omega) qr s1    w3 H.size hT ) (cwV 0 hC.2.2.2.2 uV_RX6_32 rfl rfl rfl (by decide +kernel) ⟨Nat.le_of_ble_eq_true rfl, Nat.le_of_ble_eq_true rfl⟩) rfl hl.1 rfl (Nat.le_of_ble_eq_true rfl) dX6_takeByte_11 (fun w18 H locs hp17 hw => ?_)
      obtain ⟨hT, k19, hv21, hg20⟩ := hp17
      have hF := hF.tr k19 (by decide)
      have c22 := k19.gi kC_at1 (by decide) c10
      have c23 := k19.gi kC_at1 (by decide) c12
      clear hg20
      replace hM := hM.call hv21 rfl
      refine lv_iconst (v := 1) hx hb dX6_takeByte_14 (by decide) ?_
      exact tk_zret hC hr rfl hlocks hK ⟨hT, hF, hM.ret (by decide), (Or.inr ⟨rfl, ⟨x9, c22, (show 1 ≤ x9.toInt by omega), (show x9.toInt ≤ 400 by omega)⟩, ⟨x11, c23, (show 0 ≤ x11.toInt by omega), (show x11.toInt ≤ 399 by omega)⟩⟩)⟩ hw dX6_takeByte_15
    · have c15 : ¬ r1.toInt = (59 : Int) := wk_eqF c15
      replace hM := hM.neg c15
      refine lv_iconst (v := 0) hx hb dX6_takeByte_8 (by decide) ?_
      exact tk_zret hC hr rfl hlocks hK ⟨hT, hF, hM.ret (by decide), (Or.inl rfl)⟩ hw dX6_takeByte_9
  · replace hM := hM.call (r' := (-1)) hv14 (by decide)
    refine lv_iload_n hx hb dX6_takeByte_4 rfl (lv_at hl 1 rfl) ?_
    refine lv_icmp_eq (tgt := 10) hx hb dX6_takeByte_5 (by decide) (fun c => absurd c (by decide)) (fun _ => ?_)
    replace hM := hM.neg (by decide)
    refine lv_iconst (v := 0) hx hb dX6_takeByte_8 (by decide) ?_
    exact tk_zret hC hr rfl hlocks hK ⟨hT, hF, hM.ret (by decide), (Or.inl rfl)⟩ hw dX6_takeByte_9
abbrev Pz_X6_look_1 (ad : Nat → Nat) (cy : Nat → ClassId) (B : Int) (qr : Nat) (s1 : Int)  (w0 : va_W) : Int32 → va_W → Prop := fun r u => TW ksC ad cy B qr s1 u ∧ FE ksC ([] : List (Nat × Nat × Nat)) w0 u ∧ Ev (fun n => m_X6_look n 1 (sI w0)) (r.toInt, sI u) ∧ ((0 ≤ r.toInt ∧ r.toInt ≤ 255 ∧ (∃ y : Int32, gi u 1 1 = y ∧ 0 ≤ y.toInt ∧ y.toInt ≤ 399) ∧ (∃ y : Int32, gi u 1 2 = y ∧ 1 ≤ y.toInt ∧ y.toInt ≤ 400)) ∨ (r = (-1)))
set_option maxHeartbeats 4000000 in
set_option maxRecDepth 100000 in
theorem kz_X6_look_1 (l : Launch) (adK adV : Nat → Nat) (dC : Nat → ClassId) (dI : Nat → Nat → Nat) (cy : Nat → ClassId) (ad : Nat → Nat) (B : Int) (hB0 : 2147483648 ≤ B) (hB1 : B ≤ 1152921504606846976) (qr : Nat) (s1 : Int)   (w0 : va_W) (sz : Nat) (hT : TW ksC ad cy B qr s1 w0)  : Met l yX6_look (wu yX6_look cX6_look 1 (some .int)) ({ frames := 1, cells := 0, slots := 0, locals := 12 }) (va_Pc [.ref (ad 1)] (wpreS adK adV dC dI cy sz w0)) (va_Qi (Pz_X6_look_1 ad cy B qr s1  w0) (fun u : va_W => wpost dC dI cy (va_A w0 sz) u) (va_A w0 sz)) 0 0 (va_A w0 sz) := by
  refine Met.ofW (cc := cX6_look) (maxL := 1) (ret := (some .int)) (by decide) rfl ?_
  intro p e s m args below meth c s₁ Bk hml hv
  obtain ⟨rfl, ⟨hsz, hP, hK, hD0⟩, hE, hSR⟩ := hv
  have hx := Bk.exec
  have hb := Bk.bytes
  have hr := Bk.returns
  have hlocks := Bk.notSynchronized
  have hC : CallFix p m c cX6_look 1 s _ (wu yX6_look cX6_look 1 (some .int)) RX6 := ⟨hx, hb, hml, findClass_of_methodNamed Bk.named, atoms_spec (ws := (wu yX6_look cX6_look 1 (some .int))) Bk.pre⟩
  subst hsz
  have hD := hD0.self (sz := s.heap.size)
  generalize hAe : va_A w0 s.heap.size = A at hD hE ⊢
  have hA : ∀ q : Nat, s.heap.size ≤ q → A q := fun q h => by rw [← hAe]; exact Or.inr h
  have hw : Wd dC dI A s.heap s.heap [] w0 := ⟨hP, hD, va_S.rf⟩
  have hF : FE ksC ([] : List (Nat × Nat × Nat)) w0 w0 := FE.rf
  have hl := lv_entry ([.ref (ad 1)]) (n := 1) (Nat.le_of_ble_eq_true rfl)
  rw [lg_entry_eq]
  generalize (lg_sl ([.ref (ad 1)]) ++ List.replicate (1 - (lg_sl ([.ref (ad 1)])).length) Slot.unset).toArray = ls at hl ⊢
  have hl : lv_has ls 1 [(0, .ref (ad 1))] := hl
  generalize hloc : ([] : List Loc) = locs at hw ⊢
  have hinX6 : ∀ w ∈ u_ws RX6 TX6 5, w ∈ (wu yX6_look cX6_look 1 (some .int)) := fun _ h => List.mem_cons_of_mem _ (up_72 h)
  have hM : TT (fun n => m_X6_look n 1 (sI w0)) (fun n => m_X6_look n 1 (sI w0)) := TT.rf
  refine lv_aload_n hx hb dX6_look_0 rfl (lv_at hl 0 rfl) ?_
  refine tk_geti hC hK hw hT hinX6 kC_at1 (by decide) rfl 1 (by decide) (List.mem_cons_of_mem _ uw_9_16) rfl rfl dX6_look_1 (fun x1 c2 rx1 tx1 => ?_)
  replace hM := hM.rd (sI_at c2)
  refine lv_aload_n hx hb dX6_look_4 rfl (lv_at hl 0 rfl) ?_
  refine tk_geti hC hK hw hT hinX6 kC_at1 (by decide) rfl 2 (by decide) (List.mem_cons_of_mem _ uw_7_22) rfl rfl dX6_look_5 (fun x3 c4 rx3 tx3 => ?_)
  replace hM := hM.rd (sI_at c4)
  refine lv_icmp_ge (tgt := 23) hx hb dX6_look_8 (by decide) (fun c5 => ?_) (fun c5 => ?_)
  · have c5 : x3.toInt ≤ x1.toInt := wk_le.mp c5
    replace hM := hM.pos c5
    refine lv_iconst (v := (-1)) hx hb dX6_look_23 (by decide) ?_
    exact tk_iret hC hr hlocks hK ⟨hT, hF, hM.ret (by decide), (Or.inr rfl)⟩ hw dX6_look_24
  · have c5 : x1.toInt < x3.toInt := wk_leF c5
    replace hM := hM.neg (Int.not_le.mpr c5)
    refine lv_aload_n hx hb dX6_look_11 rfl (lv_at hl 0 rfl) ?_
    refine tk_getA hC hK hw hT hinX6 kC_at1 (by decide) rfl 0 (by decide) (List.mem_cons_of_mem _ uw_2_12) rfl rfl dX6_look_12 ?_
    refine lv_aload_n hx hb dX6_look_15 rfl (lv_at hl 0 rfl) ?_
    refine tk_geti hC hK hw hT hinX6 kC_at1 (by decide) rfl 1 (by decide) (List.mem_cons_of_mem _ uw_9_16) rfl rfl dX6_look_16 (fun x6 c7 rx6 tx6 => ?_)
    refine wk_top x1 (c7.symm.trans c2) ?_
    replace hM := hM.rd (sI_at c2)
    refine tk_iald hC hK hw hT kC_at2 rfl rfl (show 0 ≤ x1.toInt by omega) (show x1.toInt < 400 by omega) dX6_look_19 (fun x8 c9 rx8 tx8 => ?_)
    have hox8 := c9
    replace hM := hM.rd (sI_at hox8)
    refine lv_goto (tgt := 24) hx hb dX6_look_20 (by decide) ?_
    exact tk_iret hC hr hlocks hK ⟨hT, hF, hM.ret rfl, (Or.inl ⟨(show 0 ≤ x8.toInt by omega), (show x8.toInt ≤ 255 by omega), ⟨x1, c2, (show 0 ≤ x1.toInt by omega), (show x1.toInt ≤ 399 by omega)⟩, ⟨x3, c4, (show 1 ≤ x3.toInt by omega), (show x3.toInt ≤ 400 by omega)⟩⟩)⟩ hw dX6_look_24
abbrev Pz_X6_blameHere_1 (ad : Nat → Nat) (cy : Nat → ClassId) (B : Int) (qr : Nat) (s1 : Int)  (w0 : va_W) : va_W → Prop := fun u => TW ksC ad cy B qr s1 u ∧ FE ksC [(6, 4, 4)] w0 u ∧ Ev (fun n => m_X6_blameHere n 1 (sI w0)) (0, sI u) ∧ (((∃ y : Int32, gi u 1 4 = y ∧ 1 ≤ y.toInt ∧ y.toInt ≤ 3205)))
set_option maxHeartbeats 4000000 in
set_option maxRecDepth 100000 in
theorem kz_X6_blameHere_1 (l : Launch) (adK adV : Nat → Nat) (dC : Nat → ClassId) (dI : Nat → Nat → Nat) (cy : Nat → ClassId) (ad : Nat → Nat) (B : Int) (hB0 : 2147483648 ≤ B) (hB1 : B ≤ 1152921504606846976) (qr : Nat) (s1 : Int)   (w0 : va_W) (sz : Nat) (hT : TW ksC ad cy B qr s1 w0) (cf0_ : gi w0 1 4 = 0) : Met l yX6_blameHere (wu yX6_blameHere cX6_blameHere 1 none) ({ frames := 2, cells := 0, slots := 0, locals := 34 }) (va_Pc [.ref (ad 1)] (wpreS adK adV dC dI cy sz w0)) (va_Qv (Pz_X6_blameHere_1 ad cy B qr s1  w0) (fun u : va_W => wpost dC dI cy (va_A w0 sz) u) (va_A w0 sz)) 0 0 (va_A w0 sz) := by
  refine Met.ofW (cc := cX6_blameHere) (maxL := 1) (ret := none) (by decide) rfl ?_
  intro p e s m args below meth c s₁ Bk hml hv
  obtain ⟨rfl, ⟨hsz, hP, hK, hD0⟩, hE, hSR⟩ := hv
  have hx := Bk.exec
  have hb := Bk.bytes
  have hr := Bk.returns
  have hlocks := Bk.notSynchronized
  have hC : CallFix p m c cX6_blameHere 1 s _ (wu yX6_blameHere cX6_blameHere 1 none) RX6 := ⟨hx, hb, hml, findClass_of_methodNamed Bk.named, atoms_spec (ws := (wu yX6_blameHere cX6_blameHere 1 none)) Bk.pre⟩
  subst hsz
  have hD := hD0.self (sz := s.heap.size)
  generalize hAe : va_A w0 s.heap.size = A at hD hE ⊢
  have hA : ∀ q : Nat, s.heap.size ≤ q → A q := fun q h => by rw [← hAe]; exact Or.inr h
  have hw : Wd dC dI A s.heap s.heap [] w0 := ⟨hP, hD, va_S.rf⟩
  have hF : FE ksC [(6, 4, 4)] w0 w0 := FE.rf
  have hl := lv_entry ([.ref (ad 1)]) (n := 1) (Nat.le_of_ble_eq_true rfl)
  rw [lg_entry_eq]
  generalize (lg_sl ([.ref (ad 1)]) ++ List.replicate (1 - (lg_sl ([.ref (ad 1)])).length) Slot.unset).toArray = ls at hl ⊢
  have hl : lv_has ls 1 [(0, .ref (ad 1))] := hl
  generalize hloc : ([] : List Loc) = locs at hw ⊢
  have hinX6 : ∀ w ∈ u_ws RX6 TX6 5, w ∈ (wu yX6_blameHere cX6_blameHere 1 none) := fun _ h => List.mem_cons_of_mem _ (up_72 h)
  have hM : TT (fun n => m_X6_blameHere n 1 (sI w0)) (fun n => m_X6_blameHere n 1 (sI w0)) := TT.rf
  refine lv_aload_n hx hb dX6_blameHere_0 rfl (lv_at hl 0 rfl) ?_
  refine lv_aload_n hx hb dX6_blameHere_1 rfl (lv_at hl 0 rfl) ?_
  refine tk_geti hC hK hw hT hinX6 kC_at1 (by decide) rfl 1 (by decide) (List.mem_cons_of_mem _ uw_9_16) rfl rfl dX6_blameHere_2 (fun x1 c2 rx1 tx1 => ?_)
  replace hM := hM.rd (sI_at c2)
  refine lv_iconst (v := 0) hx hb dX6_blameHere_5 (by decide) ?_
  refine tk_Vv hC hK hw hT hA hE hSR kC_at1 (by decide) rfl (kz_X6_blame_2 l adK adV dC dI cy ad B (by omega) (by omega) qr s1   x1 (show 0 ≤ x1.toInt by omega) (show x1.toInt ≤ 400 by omega) 0 (by decide) (by decide) w0 s.heap.size hT cf0_) (cwV 2 hC.2.2.2.2 uV_RX6_35 rfl rfl rfl (by decide +kernel) ⟨Nat.le_of_ble_eq_true rfl, Nat.le_of_ble_eq_true rfl⟩) rfl hl.1 rfl (Nat.le_of_ble_eq_true rfl) dX6_blameHere_6 (fun w5 H locs hp4 hw => ?_)
  obtain ⟨hT, k6, hv10, hg9⟩ := hp4
  try simp only [show (0 : Int32).toInt = 0 by decide] at hv10
  have hF := hF.tr k6 (by decide)
  have c11 := k6.gi kC_at1 (by decide) c2
  obtain ⟨x7, c8, rx7, tx7⟩ := hg9
  replace hM := hM.call hv10 rfl
  exact tk_vret hC hr hlocks hK ⟨hT, hF, hM.ret rfl, ⟨x7, c8, (show 1 ≤ x7.toInt by omega), (show x7.toInt ≤ 3205 by omega)⟩⟩ hw dX6_blameHere_9
abbrev Pz_X6_takeSemicolon_2 (ad : Nat → Nat) (cy : Nat → ClassId) (B : Int) (qr : Nat) (s1 : Int)  (w0 : va_W) : Int32 → va_W → Prop := fun r u => TW ksC ad cy B qr s1 u ∧ FE ksC [(6, 1, 1), (6, 3, 3), (6, 4, 4)] w0 u ∧ Ev (fun n => m_X6_takeSemicolon n 1 (sI w0)) (r.toInt, sI u) ∧ ((r = 0 ∧ (∃ y : Int32, gi u 1 4 = y ∧ 1 ≤ y.toInt ∧ y.toInt ≤ 3205)) ∨ (r = 0 ∧ (∃ y : Int32, gi u 1 4 = y ∧ 0 ≤ y.toInt ∧ y.toInt ≤ 3205)) ∨ (r = 1 ∧ (∃ y : Int32, gi u 1 2 = y ∧ 1 ≤ y.toInt ∧ y.toInt ≤ 400) ∧ (∃ y : Int32, gi u 1 3 = y ∧ 0 ≤ y.toInt ∧ y.toInt ≤ 399) ∧ (∃ y : Int32, gi u 1 4 = y ∧ 0 ≤ y.toInt ∧ y.toInt ≤ 0)))
set_option maxHeartbeats 4000000 in
set_option maxRecDepth 100000 in
theorem kz_X6_takeSemicolon_2 (l : Launch) (adK adV : Nat → Nat) (dC : Nat → ClassId) (dI : Nat → Nat → Nat) (cy : Nat → ClassId) (ad : Nat → Nat) (B : Int) (hB0 : 2147483648 ≤ B) (hB1 : B ≤ 1152921504606846976) (qr : Nat) (s1 : Int)   (w0 : va_W) (sz : Nat) (hT : TW ksC ad cy B qr s1 w0)  : Met l yX6_takeSemicolon (wu yX6_takeSemicolon cX6_takeSemicolon 1 (some .boolean)) ({ frames := 3, cells := 0, slots := 0, locals := 54 }) (va_Pc [.ref (ad 1)] (wpreS adK adV dC dI cy sz w0)) (va_Qi (Pz_X6_takeSemicolon_2 ad cy B qr s1  w0) (fun u : va_W => wpost dC dI cy (va_A w0 sz) u) (va_A w0 sz)) 0 0 (va_A w0 sz) := by
  refine Met.ofW (cc := cX6_takeSemicolon) (maxL := 1) (ret := (some .boolean)) (by decide) rfl ?_
  intro p e s m args below meth c s₁ Bk hml hv
  obtain ⟨rfl, ⟨hsz, hP, hK, hD0⟩, hE, hSR⟩ := hv
  have hx := Bk.exec
  have hb := Bk.bytes
  have hr := Bk.returns
  have hlocks := Bk.notSynchronized
  have hC : CallFix p m c cX6_takeSemicolon 1 s _ (wu yX6_takeSemicolon cX6_takeSemicolon 1 (some .boolean)) RX6 := ⟨hx, hb, hml, findClass_of_methodNamed Bk.named, atoms_spec (ws := (wu yX6_takeSemicolon cX6_takeSemicolon 1 (some .boolean))) Bk.pre⟩
  subst hsz
  have hD := hD0.self (sz := s.heap.size)
  generalize hAe : va_A w0 s.heap.size = A at hD hE ⊢
  have hA : ∀ q : Nat, s.heap.size ≤ q → A q := fun q h => by rw [← hAe]; exact Or.inr h
  have hw : Wd dC dI A s.heap s.heap [] w0 := ⟨hP, hD, va_S.rf⟩
  have hF : FE ksC [(6, 1, 1), (6, 3, 3), (6, 4, 4)] w0 w0 := FE.rf
  have hl := lv_entry ([.ref (ad 1)]) (n := 1) (Nat.le_of_ble_eq_true rfl)
  rw [lg_entry_eq]
  generalize (lg_sl ([.ref (ad 1)]) ++ List.replicate (1 - (lg_sl ([.ref (ad 1)])).length) Slot.unset).toArray = ls at hl ⊢
  have hl : lv_has ls 1 [(0, .ref (ad 1))] := hl
  generalize hloc : ([] : List Loc) = locs at hw ⊢
  have J32 : ∀ (f32_1_4 : Int32) (H : Heap) (locs : List Loc) (ls : Array Slot) (w1 : va_W), 0 ≤ f32_1_4.toInt → f32_1_4.toInt ≤ 3205 → Wd dC dI A s.heap H locs w1 → TW ksC ad cy B qr s1 w1 → FE ksC [(6, 1, 1), (6, 3, 3), (6, 4, 4)] w0 w1 → gi w1 1 4 = f32_1_4 → TT (fun n => m_X6_takeSemicolon n 1 (sI w0)) (fun n => b_X6_takeSemicolon_32 n 1 (sI w1)) → lv_has ls 1 [(0, .ref (ad 1))] → W p l e ({ frames := 3, cells := 0, slots := 0, locals := 54 }) s m (List.toArray [.ref (ad 1)]) below meth c H locs 0 0 (MQ below (va_Qi (Pz_X6_takeSemicolon_2 ad cy B qr s1  w0) (fun u : va_W => wpost dC dI cy A u) A) (List.toArray [.ref (ad 1)]) s 0 0 A) (F0 m 32 ls []) := by
    intro f32_1_4 H locs ls w1 r2 t3 hw hT hF c4 hM hl
    refine lv_iconst (v := 0) hx hb dX6_takeSemicolon_32 (by decide) ?_
    exact tk_zret hC hr rfl hlocks hK ⟨hT, hF, hM.ret (by decide), (Or.inr (Or.inl ⟨rfl, ⟨f32_1_4, c4, (show 0 ≤ f32_1_4.toInt by omega), (show f32_1_4.toInt ≤ 3205 by omega)⟩⟩))⟩ hw dX6_takeSemicolon_33
  have hM : TT (fun n => m_X6_takeSemicolon n 1 (sI w0)) (fun n => m_X6_takeSemicolon n 1 (sI w0)) := TT.rf
  refine lv_aload_n hx hb dX6_takeSemicolon_0 rfl (lv_at hl 0 rfl) ?_
  refine tk_Vi hC hK hw hT hA hE hSR kC_at1 (by decide) rfl (kz_X6_isFaulty_1 l adK adV dC dI cy ad B (by omega) (by omega) qr s1    w0 s.heap.size hT ) (cwV 0 hC.2.2.2.2 uV_RX6_39 rfl rfl rfl (by decide +kernel) ⟨Nat.le_of_ble_eq_true rfl, Nat.le_of_ble_eq_true rfl⟩) rfl hl.1 rfl (Nat.le_of_ble_eq_true rfl) dX6_takeSemicolon_1 (fun r5 w7 H locs hp6 hw => ?_)
  obtain ⟨hT, k8, hv14, hg13⟩ := hp6
  have hF := hF.tr k8 (by decide)
  rcases hg13 with ⟨rfl, ⟨x9, c10, rx9, tx9⟩⟩ | ⟨rfl, ⟨x11, c12, rx11, tx11⟩⟩
  · replace hM := hM.call (r' := 0) hv14 (by decide)
    refine lv_if_eq (tgt := 9) hx hb dX6_takeSemicolon_4 (by decide) (fun _ => ?_) (fun c => absurd (by decide) c)
    replace hM := hM.pos (by decide)
    refine lv_aload_n hx hb dX6_takeSemicolon_9 rfl (lv_at hl 0 rfl) ?_
    refine lv_bipush (v := 59) hx hb dX6_takeSemicolon_10 (by decide) ?_
    refine tk_Vi hC hK hw hT hA hE hSR kC_at1 (by decide) rfl (kz_X6_takeByte_1 l adK adV dC dI cy ad B (by omega) (by omega) qr s1    w7 H.size hT ) (cwV 1 hC.2.2.2.2 uV_RX6_43 rfl rfl rfl (by decide +kernel) ⟨Nat.le_of_ble_eq_true rfl, Nat.le_of_ble_eq_true rfl⟩) rfl hl.1 rfl (Nat.le_of_ble_eq_true rfl) dX6_takeSemicolon_12 (fun r15 w17 H locs hp16 hw => ?_)
    obtain ⟨hT, k18, hv24, hg23⟩ := hp16
    have hF := hF.tr k18 (by decide)
    have c25 := k18.gi kC_at1 (by decide) c10
    rcases hg23 with rfl | ⟨rfl, ⟨x19, c20, rx19, tx19⟩, ⟨x21, c22, rx21, tx21⟩⟩
    · replace hM := hM.call (r' := 0) hv24 (by decide)
      refine lv_if_eq (tgt := 20) hx hb dX6_takeSemicolon_15 (by decide) (fun _ => ?_) (fun c => absurd (by decide) c)
      replace hM := hM.pos (by decide)
      refine lv_aload_n hx hb dX6_takeSemicolon_20 rfl (lv_at hl 0 rfl) ?_
      refine tk_Vi hC hK hw hT hA hE hSR kC_at1 (by decide) rfl (kz_X6_look_1 l adK adV dC dI cy ad B (by omega) (by omega) qr s1    w17 H.size hT ) (cwV 0 hC.2.2.2.2 uV_RX6_47 rfl rfl rfl (by decide +kernel) ⟨Nat.le_of_ble_eq_true rfl, Nat.le_of_ble_eq_true rfl⟩) rfl hl.1 rfl (Nat.le_of_ble_eq_true rfl) dX6_takeSemicolon_21 (fun r26 w28 H locs hp27 hw => ?_)
      obtain ⟨hT, k29, hv37, hg36⟩ := hp27
      have hF := hF.tr k29 (by decide)
      have c38 := k29.gi kC_at1 (by decide) c25
      rcases hg36 with ⟨g30, g31, ⟨x32, c33, rx32, tx32⟩, ⟨x34, c35, rx34, tx34⟩⟩ | rfl
      · replace hM := hM.call hv37 rfl
        refine lv_iconst (v := (-1)) hx hb dX6_takeSemicolon_24 (by decide) ?_
        refine lv_icmp_eq (tgt := 32) hx hb dX6_takeSemicolon_25 (by decide) (fun c => absurd c (fun h => absurd (show r26.toInt = (-1 : Int) from wk_eq.mp h) (by omega))) (fun _ => ?_)
        replace hM := hM.neg (by omega)
        refine lv_aload_n hx hb dX6_takeSemicolon_28 rfl (lv_at hl 0 rfl) ?_
        refine tk_Vv hC hK hw hT hA hE hSR kC_at1 (by decide) rfl (kz_X6_blameHere_1 l adK adV dC dI cy ad B (by omega) (by omega) qr s1    w28 H.size hT (c38.trans (wk_eq.mpr (show x9.toInt = 0 by omega)))) (cwV 0 hC.2.2.2.2 uV_RX6_50 rfl rfl rfl (by decide +kernel) ⟨Nat.le_of_ble_eq_true rfl, Nat.le_of_ble_eq_true rfl⟩) rfl hl.1 rfl (Nat.le_of_ble_eq_true rfl) dX6_takeSemicolon_29 (fun w41 H locs hp40 hw => ?_)
        obtain ⟨hT, k42, hv46, hg45⟩ := hp40
        have hF := hF.tr k42 (by decide)
        have c47 := k42.gi kC_at1 (by decide) c33
        have c48 := k42.gi kC_at1 (by decide) c35
        obtain ⟨x43, c44, rx43, tx43⟩ := hg45
        replace hM := hM.call hv46 rfl
        exact J32 x43 H locs ls w41 (show 0 ≤ x43.toInt by omega) (show x43.toInt ≤ 3205 by omega)  hw hT hF c44 hM (lv_sub hl [0] rfl)
      · replace hM := hM.call (r' := (-1)) hv37 (by decide)
        refine lv_iconst (v := (-1)) hx hb dX6_takeSemicolon_24 (by decide) ?_
        refine lv_icmp_eq (tgt := 32) hx hb dX6_takeSemicolon_25 (by decide) (fun _ => ?_) (fun c => absurd (by decide) c)
        replace hM := hM.pos (by decide)
        exact J32 x9 H locs ls w28 (show 0 ≤ x9.toInt by omega) (show x9.toInt ≤ 3205 by omega)  hw hT hF c38 hM (lv_sub hl [0] rfl)
    · replace hM := hM.call (r' := 1) hv24 (by decide)
      refine lv_if_eq (tgt := 20) hx hb dX6_takeSemicolon_15 (by decide) (fun c => absurd c (by decide)) (fun _ => ?_)
      replace hM := hM.neg (by decide)
      refine lv_iconst (v := 1) hx hb dX6_takeSemicolon_18 (by decide) ?_
      exact tk_zret hC hr rfl hlocks hK ⟨hT, hF, hM.ret (by decide), (Or.inr (Or.inr ⟨rfl, ⟨x19, c20, (show 1 ≤ x19.toInt by omega), (show x19.toInt ≤ 400 by omega)⟩, ⟨x21, c22, (show 0 ≤ x21.toInt by omega), (show x21.toInt ≤ 399 by omega)⟩, ⟨x9, c25, (show 0 ≤ x9.toInt by omega), (show x9.toInt ≤ 0 by omega)⟩⟩))⟩ hw dX6_takeSemicolon_19
  · replace hM := hM.call (r' := 1) hv14 (by decide)
    refine lv_if_eq (tgt := 9) hx hb dX6_takeSemicolon_4 (by decide) (fun c => absurd c (by decide)) (fun _ => ?_)
    replace hM := hM.neg (by decide)
    refine lv_iconst (v := 0) hx hb dX6_takeSemicolon_7 (by decide) ?_
    exact tk_zret hC hr rfl hlocks hK ⟨hT, hF, hM.ret (by decide), (Or.inl ⟨rfl, ⟨x11, c12, (show 1 ≤ x11.toInt by omega), (show x11.toInt ≤ 3205 by omega)⟩⟩)⟩ hw dX6_takeSemicolon_8
abbrev Pz_X6_readNumber_2 (ad : Nat → Nat) (cy : Nat → ClassId) (B : Int) (qr : Nat) (s1 : Int) (a2 : Int32) (w0 : va_W) : Int32 → va_W → Prop := fun r u => TW ksC ad cy B qr s1 u ∧ FE ksC [(6, 1, 1), (6, 3, 3), (6, 4, 4)] w0 u ∧ Ev (fun n => m_X6_readNumber n 1 0 a2.toInt (sI w0)) (r.toInt, sI u) ∧ ((0 ≤ r.toInt ∧ r.toInt ≤ 9 ∧ 0 ≤ a2.toInt ∧ (∃ y : Int32, gi u 1 2 = y ∧ 1 ≤ y.toInt ∧ y.toInt ≤ 400) ∧ (∃ y : Int32, gi u 1 3 = y ∧ 0 ≤ y.toInt ∧ y.toInt ≤ 399) ∧ (∃ y : Int32, gi u 1 4 = y ∧ 0 ≤ y.toInt ∧ y.toInt ≤ 0)) ∨ (r = (-1) ∧ (∃ y : Int32, gi u 1 4 = y ∧ 1 ≤ y.toInt ∧ y.toInt ≤ 3205)))
set_option maxHeartbeats 4000000 in
set_option maxRecDepth 100000 in
theorem kz_X6_readNumber_2 (l : Launch) (adK adV : Nat → Nat) (dC : Nat → ClassId) (dI : Nat → Nat → Nat) (cy : Nat → ClassId) (ad : Nat → Nat) (B : Int) (hB0 : 2147483648 ≤ B) (hB1 : B ≤ 1152921504606846976) (qr : Nat) (s1 : Int)  (a2 : Int32) (ra2 : (-2) ≤ a2.toInt) (ta2 : a2.toInt ≤ 9) (w0 : va_W) (sz : Nat) (hT : TW ksC ad cy B qr s1 w0) (cf0_ : gi w0 1 4 = 0) : Met l yX6_readNumber (wu yX6_readNumber cX6_readNumber 4 (some .int)) ({ frames := 2, cells := 0, slots := 0, locals := 34 }) (va_Pc [.ref (ad 1), .int 0, .int a2] (wpreS adK adV dC dI cy sz w0)) (va_Qi (Pz_X6_readNumber_2 ad cy B qr s1 a2 w0) (fun u : va_W => wpost dC dI cy (va_A w0 sz) u) (va_A w0 sz)) 0 0 (va_A w0 sz) := by
  refine Met.ofW (cc := cX6_readNumber) (maxL := 4) (ret := (some .int)) (by decide) rfl ?_
  intro p e s m args below meth c s₁ Bk hml hv
  obtain ⟨rfl, ⟨hsz, hP, hK, hD0⟩, hE, hSR⟩ := hv
  have hx := Bk.exec
  have hb := Bk.bytes
  have hr := Bk.returns
  have hlocks := Bk.notSynchronized
  have hC : CallFix p m c cX6_readNumber 4 s _ (wu yX6_readNumber cX6_readNumber 4 (some .int)) RX6 := ⟨hx, hb, hml, findClass_of_methodNamed Bk.named, atoms_spec (ws := (wu yX6_readNumber cX6_readNumber 4 (some .int))) Bk.pre⟩
  subst hsz
  have hD := hD0.self (sz := s.heap.size)
  generalize hAe : va_A w0 s.heap.size = A at hD hE ⊢
  have hA : ∀ q : Nat, s.heap.size ≤ q → A q := fun q h => by rw [← hAe]; exact Or.inr h
  have hw : Wd dC dI A s.heap s.heap [] w0 := ⟨hP, hD, va_S.rf⟩
  have hF : FE ksC [(6, 1, 1), (6, 3, 3), (6, 4, 4)] w0 w0 := FE.rf
  have hl := lv_entry ([.ref (ad 1), .int 0, .int a2]) (n := 4) (Nat.le_of_ble_eq_true rfl)
  rw [lg_entry_eq]
  generalize (lg_sl ([.ref (ad 1), .int 0, .int a2]) ++ List.replicate (4 - (lg_sl ([.ref (ad 1), .int 0, .int a2])).length) Slot.unset).toArray = ls at hl ⊢
  have hl : lv_has ls 4 [(0, .ref (ad 1)), (1, .int 0), (2, .int a2)] := hl
  generalize hloc : ([] : List Loc) = locs at hw ⊢
  have hinX6 : ∀ w ∈ u_ws RX6 TX6 5, w ∈ (wu yX6_readNumber cX6_readNumber 4 (some .int)) := fun _ h => List.mem_cons_of_mem _ (up_72 h)
  have J125 : ∀ (v125_3 : Int32) (f125_1_1 : Int32) (f125_1_2 : Int32) (f125_1_3 : Int32) (H : Heap) (locs : List Loc) (ls : Array Slot) (w1 : va_W), (-2) ≤ a2.toInt → a2.toInt ≤ 9 → 0 ≤ f125_1_1.toInt → f125_1_1.toInt ≤ 400 → 1 ≤ f125_1_2.toInt → f125_1_2.toInt ≤ 400 → 0 ≤ f125_1_3.toInt → f125_1_3.toInt ≤ 399 → Wd dC dI A s.heap H locs w1 → TW ksC ad cy B qr s1 w1 → FE ksC [(6, 1, 1), (6, 3, 3), (6, 4, 4)] w0 w1 → gi w1 1 1 = f125_1_1 → gi w1 1 2 = f125_1_2 → gi w1 1 3 = f125_1_3 → gi w1 1 4 = 0 → TT (fun n => m_X6_readNumber n 1 0 a2.toInt (sI w0)) (fun n => b_X6_readNumber_125 (j_X6_readNumber 1 n) n 1 (sI w1)) → lv_has ls 4 [(0, .ref (ad 1)), (1, .int 0), (2, .int a2), (3, .int v125_3)] → W p l e ({ frames := 2, cells := 0, slots := 0, locals := 34 }) s m (List.toArray [.ref (ad 1), .int 0, .int a2]) below meth c H locs 0 0 (MQ below (va_Qi (Pz_X6_readNumber_2 ad cy B qr s1 a2 w0) (fun u : va_W => wpost dC dI cy A u) A) (List.toArray [.ref (ad 1), .int 0, .int a2]) s 0 0 A) (F0 m 125 ls []) := by
    intro v125_3 f125_1_1 f125_1_2 f125_1_3 H locs ls w1 r2 t3 r4 t5 r7 t8 r10 t11 hw hT hF c6 c9 c12 c13 hM hl
    refine lv_aload_n hx hb dX6_readNumber_125 rfl (lv_at hl 0 rfl) ?_
    refine lv_aload_n hx hb dX6_readNumber_126 rfl (lv_at hl 0 rfl) ?_
    refine tk_geti hC hK hw hT hinX6 kC_at1 (by decide) rfl 3 (by decide) (List.mem_cons_of_mem _ uw_9_17) rfl rfl dX6_readNumber_127 (fun x14 c15 rx14 tx14 => ?_)
    refine wk_top f125_1_3 (c15.symm.trans c12) ?_
    replace hM := hM.rd (sI_at c12)
    refine lv_iconst (v := 1) hx hb dX6_readNumber_130 (by decide) ?_
    refine tk_Vv hC hK hw hT hA hE hSR kC_at1 (by decide) rfl (kz_X6_blame_2 l adK adV dC dI cy ad B (by omega) (by omega) qr s1   f125_1_3 (show 0 ≤ f125_1_3.toInt by omega) (show f125_1_3.toInt ≤ 400 by omega) 1 (by decide) (by decide) w1 H.size hT c13) (cwV 2 hC.2.2.2.2 uV_RX6_35 rfl rfl rfl (by decide +kernel) ⟨Nat.le_of_ble_eq_true rfl, Nat.le_of_ble_eq_true rfl⟩) rfl hl.1 rfl (Nat.le_of_ble_eq_true rfl) dX6_readNumber_131 (fun w18 H locs hp17 hw => ?_)
    obtain ⟨hT, k19, hv23, hg22⟩ := hp17
    try simp only [show (1 : Int32).toInt = 1 by decide] at hv23
    have hF := hF.tr k19 (by decide)
    have c24 := k19.gi kC_at1 (by decide) c6
    have c25 := k19.gi kC_at1 (by decide) c9
    have c26 := k19.gi kC_at1 (by decide) c12
    obtain ⟨x20, c21, rx20, tx20⟩ := hg22
    replace hM := hM.call hv23 rfl
    refine lv_iconst (v := (-1)) hx hb dX6_readNumber_134 (by decide) ?_
    exact tk_iret hC hr hlocks hK ⟨hT, hF, hM.ret (by decide), (Or.inr ⟨rfl, ⟨x20, c21, (show 1 ≤ x20.toInt by omega), (show x20.toInt ≤ 3205 by omega)⟩⟩)⟩ hw dX6_readNumber_135
  have J102 : ∀ (v102_3 : Int32) (f102_1_1 : Int32) (f102_1_2 : Int32) (f102_1_3 : Int32) (H : Heap) (locs : List Loc) (ls : Array Slot) (w27 : va_W), (-2) ≤ a2.toInt → a2.toInt ≤ 9 → 0 ≤ f102_1_1.toInt → f102_1_1.toInt ≤ 400 → 1 ≤ f102_1_2.toInt → f102_1_2.toInt ≤ 400 → 0 ≤ f102_1_3.toInt → f102_1_3.toInt ≤ 399 → Wd dC dI A s.heap H locs w27 → TW ksC ad cy B qr s1 w27 → FE ksC [(6, 1, 1), (6, 3, 3), (6, 4, 4)] w0 w27 → gi w27 1 1 = f102_1_1 → gi w27 1 2 = f102_1_2 → gi w27 1 3 = f102_1_3 → gi w27 1 4 = 0 → TT (fun n => m_X6_readNumber n 1 0 a2.toInt (sI w0)) (fun n => b_X6_readNumber_102 (j_X6_readNumber 1 n) n 1 (0 : Int) (a2.toInt) (v102_3.toInt) (sI w27)) → lv_has ls 4 [(0, .ref (ad 1)), (1, .int 0), (2, .int a2), (3, .int v102_3)] → W p l e ({ frames := 2, cells := 0, slots := 0, locals := 34 }) s m (List.toArray [.ref (ad 1), .int 0, .int a2]) below meth c H locs 0 0 (MQ below (va_Qi (Pz_X6_readNumber_2 ad cy B qr s1 a2 w0) (fun u : va_W => wpost dC dI cy A u) A) (List.toArray [.ref (ad 1), .int 0, .int a2]) s 0 0 A) (F0 m 102 ls []) := by
    intro v102_3 f102_1_1 f102_1_2 f102_1_3 H locs ls w27 r28 t29 r30 t31 r33 t34 r36 t37 hw hT hF c32 c35 c38 c39 hM hl
    refine lv_aload_n hx hb dX6_readNumber_102 rfl (lv_at hl 0 rfl) ?_
    refine tk_geti hC hK hw hT hinX6 kC_at1 (by decide) rfl 1 (by decide) (List.mem_cons_of_mem _ uw_9_16) rfl rfl dX6_readNumber_103 (fun x40 c41 rx40 tx40 => ?_)
    refine wk_top f102_1_1 (c41.symm.trans c32) ?_
    replace hM := hM.rd (sI_at c32)
    refine lv_aload_n hx hb dX6_readNumber_106 rfl (lv_at hl 0 rfl) ?_
    refine tk_geti hC hK hw hT hinX6 kC_at1 (by decide) rfl 3 (by decide) (List.mem_cons_of_mem _ uw_9_17) rfl rfl dX6_readNumber_107 (fun x42 c43 rx42 tx42 => ?_)
    refine wk_top f102_1_3 (c43.symm.trans c38) ?_
    replace hM := hM.rd (sI_at c38)
    refine lv_isub hx hb dX6_readNumber_110 ?_
    refine lv_topi (fun x44 ex44 => ?_)
    have ezx44 := ex44
    have ex44 : x44.toInt = f102_1_1.toInt - f102_1_3.toInt := by rw [ex44]; exact wk_sub (show (-2147483648) ≤ f102_1_1.toInt - f102_1_3.toInt by omega) (show f102_1_1.toInt - f102_1_3.toInt ≤ 2147483647 by omega)
    replace hM := hM.lt ex44.symm
    refine lv_iconst (v := 5) hx hb dX6_readNumber_111 (by decide) ?_
    refine lv_icmp_gt (tgt := 125) hx hb dX6_readNumber_112 (by decide) (fun c45 => ?_) (fun c45 => ?_)
    · have c45 : (5 : Int) < x44.toInt := wk_lt.mp c45
      replace hM := hM.pos c45
      exact J125 v102_3 f102_1_1 f102_1_2 f102_1_3 H locs ls w27 (show (-2) ≤ a2.toInt by omega) (show a2.toInt ≤ 9 by omega) (show 0 ≤ f102_1_1.toInt by omega) (show f102_1_1.toInt ≤ 400 by omega) (show 1 ≤ f102_1_2.toInt by omega) (show f102_1_2.toInt ≤ 400 by omega) (show 0 ≤ f102_1_3.toInt by omega) (show f102_1_3.toInt ≤ 399 by omega)  hw hT hF c32 c35 c38 c39 hM (lv_sub hl [0, 1, 2, 3] rfl)
    · have c45 : x44.toInt ≤ (5 : Int) := wk_ltF c45
      replace hM := hM.neg (Int.not_lt.mpr c45)
      refine lv_iload_n hx hb dX6_readNumber_115 rfl (lv_at hl 3 rfl) ?_
      refine lv_iload_n hx hb dX6_readNumber_116 rfl (lv_at hl 1 rfl) ?_
      refine lv_icmp_lt (tgt := 125) hx hb dX6_readNumber_117 (by decide) (fun c46 => ?_) (fun c46 => ?_)
      · have c46 : v102_3.toInt < (0 : Int) := wk_lt.mp c46
        replace hM := hM.pos c46
        exact J125 v102_3 f102_1_1 f102_1_2 f102_1_3 H locs ls w27 (show (-2) ≤ a2.toInt by omega) (show a2.toInt ≤ 9 by omega) (show 0 ≤ f102_1_1.toInt by omega) (show f102_1_1.toInt ≤ 400 by omega) (show 1 ≤ f102_1_2.toInt by omega) (show f102_1_2.toInt ≤ 400 by omega) (show 0 ≤ f102_1_3.toInt by omega) (show f102_1_3.toInt ≤ 399 by omega)  hw hT hF c32 c35 c38 c39 hM (lv_sub hl [0, 1, 2, 3] rfl)
      · have c46 : (0 : Int) ≤ v102_3.toInt := wk_ltF c46
        replace hM := hM.neg (Int.not_lt.mpr c46)
        refine lv_iload_n hx hb dX6_readNumber_120 rfl (lv_at hl 3 rfl) ?_
        refine lv_iload_n hx hb dX6_readNumber_121 rfl (lv_at hl 2 rfl) ?_
        refine lv_icmp_le (tgt := 136) hx hb dX6_readNumber_122 (by decide) (fun c47 => ?_) (fun c47 => ?_)
        · have c47 : v102_3.toInt ≤ a2.toInt := wk_le.mp c47
          replace hM := hM.pos c47
          refine lv_iload_n hx hb dX6_readNumber_136 rfl (lv_at hl 3 rfl) ?_
          exact tk_iret hC hr hlocks hK ⟨hT, hF, hM.ret rfl, (Or.inl ⟨(show 0 ≤ v102_3.toInt by omega), (show v102_3.toInt ≤ 9 by omega), (show 0 ≤ a2.toInt by omega), ⟨f102_1_2, c35, (show 1 ≤ f102_1_2.toInt by omega), (show f102_1_2.toInt ≤ 400 by omega)⟩, ⟨f102_1_3, c38, (show 0 ≤ f102_1_3.toInt by omega), (show f102_1_3.toInt ≤ 399 by omega)⟩, ⟨0, c39, (by decide), (by decide)⟩⟩)⟩ hw dX6_readNumber_137
        · have c47 : a2.toInt < v102_3.toInt := wk_leF c47
          replace hM := hM.neg (Int.not_le.mpr c47)
          exact J125 v102_3 f102_1_1 f102_1_2 f102_1_3 H locs ls w27 (show (-2) ≤ a2.toInt by omega) (show a2.toInt ≤ 9 by omega) (show 0 ≤ f102_1_1.toInt by omega) (show f102_1_1.toInt ≤ 400 by omega) (show 1 ≤ f102_1_2.toInt by omega) (show f102_1_2.toInt ≤ 400 by omega) (show 0 ≤ f102_1_3.toInt by omega) (show f102_1_3.toInt ≤ 399 by omega)  hw hT hF c32 c35 c38 c39 hM (lv_sub hl [0, 1, 2, 3] rfl)
  have L32 : ∀ (n32 : Nat) (v32_3 : Int32) (f32_1_1 : Int32) (f32_1_2 : Int32) (f32_1_3 : Int32) (H : Heap) (locs : List Loc) (ls : Array Slot) (w48 : va_W), (-2) ≤ a2.toInt → a2.toInt ≤ 9 → 0 ≤ f32_1_1.toInt → f32_1_1.toInt ≤ 400 → 1 ≤ f32_1_2.toInt → f32_1_2.toInt ≤ 400 → 0 ≤ f32_1_3.toInt → f32_1_3.toInt ≤ 399 → (400 - f32_1_1.toInt).toNat < n32 → Wd dC dI A s.heap H locs w48 → TW ksC ad cy B qr s1 w48 → FE ksC [(6, 1, 1), (6, 3, 3), (6, 4, 4)] w0 w48 → gi w48 1 1 = f32_1_1 → gi w48 1 2 = f32_1_2 → gi w48 1 3 = f32_1_3 → gi w48 1 4 = 0 → TT (fun n => m_X6_readNumber n 1 0 a2.toInt (sI w0)) (fun n => j_X6_readNumber 1 n 32 [(0 : Int), a2.toInt, v32_3.toInt] (sI w48)) → lv_has ls 4 [(0, .ref (ad 1)), (1, .int 0), (2, .int a2), (3, .int v32_3)] → W p l e ({ frames := 2, cells := 0, slots := 0, locals := 34 }) s m (List.toArray [.ref (ad 1), .int 0, .int a2]) below meth c H locs 0 0 (MQ below (va_Qi (Pz_X6_readNumber_2 ad cy B qr s1 a2 w0) (fun u : va_W => wpost dC dI cy A u) A) (List.toArray [.ref (ad 1), .int 0, .int a2]) s 0 0 A) (F0 m 32 ls []) := by
    intro n32
    induction n32 with
    | zero => intro v32_3 f32_1_1 f32_1_2 f32_1_3 H locs ls w48 r49 t50 r51 t52 r54 t55 r57 t58 hm32 hw hT hF c53 c56 c59 c60 hM hl; omega
    | succ n32 ih32 =>
      intro v32_3 f32_1_1 f32_1_2 f32_1_3 H locs ls w48 r49 t50 r51 t52 r54 t55 r57 t58 hm32 hw hT hF c53 c56 c59 c60 hM hl
      have J89 : ∀ (v89_3 : Int32) (H : Heap) (locs : List Loc) (ls : Array Slot) (w61 : va_W), (-2) ≤ a2.toInt → a2.toInt ≤ 9 → 0 ≤ f32_1_1.toInt → f32_1_1.toInt ≤ 399 → 1 ≤ f32_1_2.toInt → f32_1_2.toInt ≤ 400 → 0 ≤ f32_1_3.toInt → f32_1_3.toInt ≤ 399 → Wd dC dI A s.heap H locs w61 → TW ksC ad cy B qr s1 w61 → FE ksC [(6, 1, 1), (6, 3, 3), (6, 4, 4)] w0 w61 → gi w61 1 1 = f32_1_1 → gi w61 1 2 = f32_1_2 → gi w61 1 3 = f32_1_3 → gi w61 1 4 = 0 → TT (fun n => m_X6_readNumber n 1 0 a2.toInt (sI w0)) (fun n => b_X6_readNumber_89 (j_X6_readNumber 1 n) n 1 (0 : Int) (a2.toInt) (v89_3.toInt) (sI w61)) → lv_has ls 4 [(0, .ref (ad 1)), (1, .int 0), (2, .int a2), (3, .int v89_3)] → W p l e ({ frames := 2, cells := 0, slots := 0, locals := 34 }) s m (List.toArray [.ref (ad 1), .int 0, .int a2]) below meth c H locs 0 0 (MQ below (va_Qi (Pz_X6_readNumber_2 ad cy B qr s1 a2 w0) (fun u : va_W => wpost dC dI cy A u) A) (List.toArray [.ref (ad 1), .int 0, .int a2]) s 0 0 A) (F0 m 89 ls []) := by
        intro v89_3 H locs ls w61 r62 t63 r64 t65 r67 t68 r70 t71 hw hT hF c66 c69 c72 c73 hM hl
        refine lv_aload_n hx hb dX6_readNumber_89 rfl (lv_at hl 0 rfl) ?_
        refine lv_dup hx hb dX6_readNumber_90 rfl ?_
        refine tk_geti hC hK hw hT hinX6 kC_at1 (by decide) rfl 1 (by decide) (List.mem_cons_of_mem _ uw_9_16) rfl rfl dX6_readNumber_91 (fun x74 c75 rx74 tx74 => ?_)
        refine wk_top f32_1_1 (c75.symm.trans c66) ?_
        replace hM := hM.rd (sI_at c66)
        refine lv_iconst (v := 1) hx hb dX6_readNumber_94 (by decide) ?_
        refine lv_iadd hx hb dX6_readNumber_95 ?_
        refine lv_topi (fun x76 ex76 => ?_)
        have ezx76 := ex76
        have ex76 : x76.toInt = f32_1_1.toInt + (1 : Int) := by rw [ex76]; exact wk_add (show (-2147483648) ≤ f32_1_1.toInt + (1 : Int) by omega) (show f32_1_1.toInt + (1 : Int) ≤ 2147483647 by omega)
        replace hM := hM.lt ex76.symm
        refine tk_puti hC hK hw hT hinX6 tyX6_ok nmX6 kC_at1 (by decide) rfl rfl 1 (by decide) (List.mem_cons_of_mem _ uw_9_16) rfl rfl rfl rfl (show 0 ≤ x76.toInt by omega) (show x76.toInt ≤ 400 by omega) dX6_readNumber_96 (fun H locs w77 hw hT k79 c78 => ?_)
        replace hM := hM.wr (sI_up k79 c78)
        have hF := hF.put kC_at1 (k := 1) (by decide) k79
        have c80 := k79.gi (Or.inr (by decide)) c69
        have c81 := k79.gi (Or.inr (by decide)) c72
        have c82 := k79.gi (Or.inr (by decide)) c73
        refine lv_goto (tgt := 32) hx hb dX6_readNumber_99 (by decide) ?_
        exact ih32 v89_3 x76 f32_1_2 f32_1_3 H locs ls w77 (show (-2) ≤ a2.toInt by omega) (show a2.toInt ≤ 9 by omega) (show 0 ≤ x76.toInt by omega) (show x76.toInt ≤ 400 by omega) (show 1 ≤ f32_1_2.toInt by omega) (show f32_1_2.toInt ≤ 400 by omega) (show 0 ≤ f32_1_3.toInt by omega) (show f32_1_3.toInt ≤ 399 by omega) (show (400 - x76.toInt).toNat < n32 by omega) hw hT hF c78 c80 c81 c82 hM (lv_sub hl [0, 1, 2, 3] rfl)
      replace hM := hM.suc (fun _ => e_X6_readNumber_32)
      refine lv_aload_n hx hb dX6_readNumber_32 rfl (lv_at hl 0 rfl) ?_
      refine tk_geti hC hK hw hT hinX6 kC_at1 (by decide) rfl 1 (by decide) (List.mem_cons_of_mem _ uw_9_16) rfl rfl dX6_readNumber_33 (fun x83 c84 rx83 tx83 => ?_)
      refine wk_top f32_1_1 (c84.symm.trans c53) ?_
      replace hM := hM.rd (sI_at c53)
      refine lv_aload_n hx hb dX6_readNumber_36 rfl (lv_at hl 0 rfl) ?_
      refine tk_geti hC hK hw hT hinX6 kC_at1 (by decide) rfl 2 (by decide) (List.mem_cons_of_mem _ uw_7_22) rfl rfl dX6_readNumber_37 (fun x85 c86 rx85 tx85 => ?_)
      refine wk_top f32_1_2 (c86.symm.trans c56) ?_
      replace hM := hM.rd (sI_at c56)
      refine lv_icmp_ge (tgt := 102) hx hb dX6_readNumber_40 (by decide) (fun c87 => ?_) (fun c87 => ?_)
      · have c87 : f32_1_2.toInt ≤ f32_1_1.toInt := wk_le.mp c87
        replace hM := hM.pos c87
        exact J102 v32_3 f32_1_1 f32_1_2 f32_1_3 H locs ls w48 (show (-2) ≤ a2.toInt by omega) (show a2.toInt ≤ 9 by omega) (show 0 ≤ f32_1_1.toInt by omega) (show f32_1_1.toInt ≤ 400 by omega) (show 1 ≤ f32_1_2.toInt by omega) (show f32_1_2.toInt ≤ 400 by omega) (show 0 ≤ f32_1_3.toInt by omega) (show f32_1_3.toInt ≤ 399 by omega)  hw hT hF c53 c56 c59 c60 hM (lv_sub hl [0, 1, 2, 3] rfl)
      · have c87 : f32_1_1.toInt < f32_1_2.toInt := wk_leF c87
        replace hM := hM.neg (Int.not_le.mpr c87)
        refine lv_aload_n hx hb dX6_readNumber_43 rfl (lv_at hl 0 rfl) ?_
        refine tk_getA hC hK hw hT hinX6 kC_at1 (by decide) rfl 0 (by decide) (List.mem_cons_of_mem _ uw_2_12) rfl rfl dX6_readNumber_44 ?_
        refine lv_aload_n hx hb dX6_readNumber_47 rfl (lv_at hl 0 rfl) ?_
        refine tk_geti hC hK hw hT hinX6 kC_at1 (by decide) rfl 1 (by decide) (List.mem_cons_of_mem _ uw_9_16) rfl rfl dX6_readNumber_48 (fun x88 c89 rx88 tx88 => ?_)
        refine wk_top f32_1_1 (c89.symm.trans c53) ?_
        replace hM := hM.rd (sI_at c53)
        refine tk_iald hC hK hw hT kC_at2 rfl rfl (show 0 ≤ f32_1_1.toInt by omega) (show f32_1_1.toInt < 400 by omega) dX6_readNumber_51 (fun x90 c91 rx90 tx90 => ?_)
        have hox90 := c91
        replace hM := hM.rd (sI_at hox90)
        refine tk_Si hC hK hw hT hA hE hSR (kz_X6_isDigit_1 l adK adV dC dI cy ad B (by omega) (by omega) qr s1   x90 (show 0 ≤ x90.toInt by omega) (show x90.toInt ≤ 255 by omega) w48 H.size hT ) (va_cwS 1 hC.2.2.2.2 uS_RX6_64 rfl rfl rfl (by decide +kernel) ⟨Nat.le_of_ble_eq_true rfl, Nat.le_of_ble_eq_true rfl⟩) rfl hl.1 rfl (Nat.le_of_ble_eq_true rfl) dX6_readNumber_52 (fun r92 w94 H locs hp93 hw => ?_)
        obtain ⟨hT, k95, hv99, hg98⟩ := hp93
        have hF := hF.tr k95 (by decide)
        have c100 := k95.gi kC_at1 (by decide) c53
        have c101 := k95.gi kC_at1 (by decide) c56
        have c102 := k95.gi kC_at1 (by decide) c59
        have c103 := k95.gi kC_at1 (by decide) c60
        rcases hg98 with rfl | ⟨rfl, g96, g97⟩
        · replace hM := hM.call (r' := 0) hv99 (by decide)
          refine lv_if_eq (tgt := 102) hx hb dX6_readNumber_55 (by decide) (fun _ => ?_) (fun c => absurd (by decide) c)
          replace hM := hM.pos (by decide)
          exact J102 v32_3 f32_1_1 f32_1_2 f32_1_3 H locs ls w94 (show (-2) ≤ a2.toInt by omega) (show a2.toInt ≤ 9 by omega) (show 0 ≤ f32_1_1.toInt by omega) (show f32_1_1.toInt ≤ 400 by omega) (show 1 ≤ f32_1_2.toInt by omega) (show f32_1_2.toInt ≤ 400 by omega) (show 0 ≤ f32_1_3.toInt by omega) (show f32_1_3.toInt ≤ 399 by omega)  hw hT hF c100 c101 c102 c103 hM (lv_sub hl [0, 1, 2, 3] rfl)
        · replace hM := hM.call (r' := 1) hv99 (by decide)
          refine lv_if_eq (tgt := 102) hx hb dX6_readNumber_55 (by decide) (fun c => absurd c (by decide)) (fun _ => ?_)
          replace hM := hM.neg (by decide)
          refine lv_aload_n hx hb dX6_readNumber_58 rfl (lv_at hl 0 rfl) ?_
          refine tk_geti hC hK hw hT hinX6 kC_at1 (by decide) rfl 1 (by decide) (List.mem_cons_of_mem _ uw_9_16) rfl rfl dX6_readNumber_59 (fun x104 c105 rx104 tx104 => ?_)
          refine wk_top f32_1_1 (c105.symm.trans c100) ?_
          replace hM := hM.rd (sI_at c100)
          refine lv_aload_n hx hb dX6_readNumber_62 rfl (lv_at hl 0 rfl) ?_
          refine tk_geti hC hK hw hT hinX6 kC_at1 (by decide) rfl 3 (by decide) (List.mem_cons_of_mem _ uw_9_17) rfl rfl dX6_readNumber_63 (fun x106 c107 rx106 tx106 => ?_)
          refine wk_top f32_1_3 (c107.symm.trans c102) ?_
          replace hM := hM.rd (sI_at c102)
          refine lv_isub hx hb dX6_readNumber_66 ?_
          refine lv_topi (fun x108 ex108 => ?_)
          have ezx108 := ex108
          have ex108 : x108.toInt = f32_1_1.toInt - f32_1_3.toInt := by rw [ex108]; exact wk_sub (show (-2147483648) ≤ f32_1_1.toInt - f32_1_3.toInt by omega) (show f32_1_1.toInt - f32_1_3.toInt ≤ 2147483647 by omega)
          replace hM := hM.lt ex108.symm
          refine lv_iconst (v := 5) hx hb dX6_readNumber_67 (by decide) ?_
          refine lv_icmp_ge (tgt := 89) hx hb dX6_readNumber_68 (by decide) (fun c109 => ?_) (fun c109 => ?_)
          · have c109 : (5 : Int) ≤ x108.toInt := wk_le.mp c109
            replace hM := hM.pos c109
            exact J89 v32_3 H locs ls w94 (show (-2) ≤ a2.toInt by omega) (show a2.toInt ≤ 9 by omega) (show 0 ≤ f32_1_1.toInt by omega) (show f32_1_1.toInt ≤ 399 by omega) (show 1 ≤ f32_1_2.toInt by omega) (show f32_1_2.toInt ≤ 400 by omega) (show 0 ≤ f32_1_3.toInt by omega) (show f32_1_3.toInt ≤ 399 by omega)  hw hT hF c100 c101 c102 c103 hM (lv_sub hl [0, 1, 2, 3] rfl)
          · have c109 : x108.toInt < (5 : Int) := wk_leF c109
            replace hM := hM.neg (Int.not_le.mpr c109)
            refine lv_iload_n hx hb dX6_readNumber_71 rfl (lv_at hl 3 rfl) ?_
            refine lv_bipush (v := 10) hx hb dX6_readNumber_72 (by decide) ?_
            refine lv_imul hx hb dX6_readNumber_74 ?_
            have nx110 := wk_i32 v32_3
            refine lv_topi (fun x111 ex111 => ?_)
            have ezx111 := ex111
            replace hM := hM.lt (o32_e (f := fun x y => x * y) ezx111 rfl (by decide))
            refine lv_aload_n hx hb dX6_readNumber_75 rfl (lv_at hl 0 rfl) ?_
            refine tk_getA hC hK hw hT hinX6 kC_at1 (by decide) rfl 0 (by decide) (List.mem_cons_of_mem _ uw_2_12) rfl rfl dX6_readNumber_76 ?_
            refine lv_aload_n hx hb dX6_readNumber_79 rfl (lv_at hl 0 rfl) ?_
            refine tk_geti hC hK hw hT hinX6 kC_at1 (by decide) rfl 1 (by decide) (List.mem_cons_of_mem _ uw_9_16) rfl rfl dX6_readNumber_80 (fun x112 c113 rx112 tx112 => ?_)
            refine wk_top f32_1_1 (c113.symm.trans c100) ?_
            replace hM := hM.rd (sI_at c100)
            refine tk_iald hC hK hw hT kC_at2 rfl rfl (show 0 ≤ f32_1_1.toInt by omega) (show f32_1_1.toInt < 400 by omega) dX6_readNumber_83 (fun x114 c115 rx114 tx114 => ?_)
            have hox114 := c115
            replace hM := hM.rd (sI_at hox114)
            refine lv_iadd hx hb dX6_readNumber_84 ?_
            have nx116 := wk_i32 x111
            refine lv_topi (fun x117 ex117 => ?_)
            have ezx117 := ex117
            replace hM := hM.lt (o32_e (f := fun x y => x + y) ezx117 rfl rfl)
            refine lv_bipush (v := 48) hx hb dX6_readNumber_85 (by decide) ?_
            refine lv_isub hx hb dX6_readNumber_87 ?_
            have nx118 := wk_i32 x117
            refine lv_topi (fun x119 ex119 => ?_)
            have ezx119 := ex119
            replace hM := hM.lt (o32_e (f := fun x y => x - y) ezx119 rfl (by decide))
            refine lv_istore_n (lv' := [(3, .int x119), (0, .ref (ad 1)), (1, .int 0), (2, .int a2)]) hx hb dX6_readNumber_88 rfl hl (by decide) rfl (fun ls hl => ?_)
            exact J89 x119 H locs ls w94 (show (-2) ≤ a2.toInt by omega) (show a2.toInt ≤ 9 by omega) (show 0 ≤ f32_1_1.toInt by omega) (show f32_1_1.toInt ≤ 399 by omega) (show 1 ≤ f32_1_2.toInt by omega) (show f32_1_2.toInt ≤ 400 by omega) (show 0 ≤ f32_1_3.toInt by omega) (show f32_1_3.toInt ≤ 399 by omega)  hw hT hF c100 c101 c102 c103 hM (lv_sub hl [1, 2, 3, 0] rfl)
  have hM : TT (fun n => m_X6_readNumber n 1 0 a2.toInt (sI w0)) (fun n => m_X6_readNumber n 1 0 a2.toInt (sI w0)) := TT.rf
  refine lv_aload_n hx hb dX6_readNumber_0 rfl (lv_at hl 0 rfl) ?_
  refine tk_Vi hC hK hw hT hA hE hSR kC_at1 (by decide) rfl (kz_X6_isFaulty_2 l adK adV dC dI cy ad B (by omega) (by omega) qr s1    w0 s.heap.size hT cf0_) (cwV 0 hC.2.2.2.2 uV_RX6_39 rfl rfl rfl (by decide +kernel) ⟨Nat.le_of_ble_eq_true rfl, Nat.le_of_ble_eq_true rfl⟩) rfl hl.1 rfl (Nat.le_of_ble_eq_true rfl) dX6_readNumber_1 (fun r120 w122 H locs hp121 hw => ?_)
  obtain ⟨hT, k123, hv127, hg126⟩ := hp121
  have hF := hF.tr k123 (by decide)
  have c128 := k123.gi kC_at1 (by decide) cf0_
  obtain ⟨rfl, ⟨x124, c125, rx124, tx124⟩⟩ := hg126
  replace hM := hM.call (r' := 0) hv127 (by decide)
  have ex124 : x124.toInt = (0 : Int) := by rw [show x124 = 0 from c125.symm.trans c128]; decide
  refine lv_if_eq (tgt := 9) hx hb dX6_readNumber_4 (by decide) (fun _ => ?_) (fun c => absurd (by decide) c)
  replace hM := hM.pos (by decide)
  refine lv_aload_n hx hb dX6_readNumber_9 rfl (lv_at hl 0 rfl) ?_
  refine tk_Vi hC hK hw hT hA hE hSR kC_at1 (by decide) rfl (kz_X6_lookBehindBlanks_1 l adK adV dC dI cy ad B (by omega) (by omega) qr s1    w122 H.size hT ) (cwV 0 hC.2.2.2.2 uV_RX6_28 rfl rfl rfl (by decide +kernel) ⟨Nat.le_of_ble_eq_true rfl, Nat.le_of_ble_eq_true rfl⟩) rfl hl.1 rfl (Nat.le_of_ble_eq_true rfl) dX6_readNumber_10 (fun r129 w131 H locs hp130 hw => ?_)
  obtain ⟨hT, k132, hv142, hg141⟩ := hp130
  have hF := hF.tr k132 (by decide)
  have c143 := k132.gi kC_at1 (by decide) c128
  rcases hg141 with ⟨g133, g134, ⟨x135, c136, rx135, tx135⟩, ⟨x137, c138, rx137, tx137⟩, ⟨x139, c140, rx139, tx139⟩⟩ | rfl
  · replace hM := hM.call hv142 rfl
    refine tk_Si hC hK hw hT hA hE hSR (kz_X6_isDigit_1 l adK adV dC dI cy ad B (by omega) (by omega) qr s1   r129 (show 0 ≤ r129.toInt by omega) (show r129.toInt ≤ 255 by omega) w131 H.size hT ) (va_cwS 1 hC.2.2.2.2 uS_RX6_64 rfl rfl rfl (by decide +kernel) ⟨Nat.le_of_ble_eq_true rfl, Nat.le_of_ble_eq_true rfl⟩) rfl hl.1 rfl (Nat.le_of_ble_eq_true rfl) dX6_readNumber_13 (fun r144 w146 H locs hp145 hw => ?_)
    obtain ⟨hT, k147, hv151, hg150⟩ := hp145
    have hF := hF.tr k147 (by decide)
    have c152 := k147.gi kC_at1 (by decide) c143
    have c153 := k147.gi kC_at1 (by decide) c136
    have c154 := k147.gi kC_at1 (by decide) c138
    have c155 := k147.gi kC_at1 (by decide) c140
    rcases hg150 with rfl | ⟨rfl, g148, g149⟩
    · replace hM := hM.call (r' := 0) hv151 (by decide)
      refine lv_if_ne (tgt := 30) hx hb dX6_readNumber_16 (by decide) (fun c => absurd (by decide) c) (fun _ => ?_)
      replace hM := hM.neg (by decide)
      refine lv_aload_n hx hb dX6_readNumber_19 rfl (lv_at hl 0 rfl) ?_
      refine lv_aload_n hx hb dX6_readNumber_20 rfl (lv_at hl 0 rfl) ?_
      refine tk_geti hC hK hw hT hinX6 kC_at1 (by decide) rfl 3 (by decide) (List.mem_cons_of_mem _ uw_9_17) rfl rfl dX6_readNumber_21 (fun x156 c157 rx156 tx156 => ?_)
      refine wk_top x139 (c157.symm.trans c155) ?_
      replace hM := hM.rd (sI_at c155)
      refine lv_iconst (v := 0) hx hb dX6_readNumber_24 (by decide) ?_
      refine tk_Vv hC hK hw hT hA hE hSR kC_at1 (by decide) rfl (kz_X6_blame_2 l adK adV dC dI cy ad B (by omega) (by omega) qr s1   x139 (show 0 ≤ x139.toInt by omega) (show x139.toInt ≤ 400 by omega) 0 (by decide) (by decide) w146 H.size hT c152) (cwV 2 hC.2.2.2.2 uV_RX6_35 rfl rfl rfl (by decide +kernel) ⟨Nat.le_of_ble_eq_true rfl, Nat.le_of_ble_eq_true rfl⟩) rfl hl.1 rfl (Nat.le_of_ble_eq_true rfl) dX6_readNumber_25 (fun w160 H locs hp159 hw => ?_)
      obtain ⟨hT, k161, hv165, hg164⟩ := hp159
      try simp only [show (0 : Int32).toInt = 0 by decide] at hv165
      have hF := hF.tr k161 (by decide)
      have c166 := k161.gi kC_at1 (by decide) c153
      have c167 := k161.gi kC_at1 (by decide) c154
      have c168 := k161.gi kC_at1 (by decide) c155
      obtain ⟨x162, c163, rx162, tx162⟩ := hg164
      replace hM := hM.call hv165 rfl
      refine lv_iconst (v := (-1)) hx hb dX6_readNumber_28 (by decide) ?_
      exact tk_iret hC hr hlocks hK ⟨hT, hF, hM.ret (by decide), (Or.inr ⟨rfl, ⟨x162, c163, (show 1 ≤ x162.toInt by omega), (show x162.toInt ≤ 3205 by omega)⟩⟩)⟩ hw dX6_readNumber_29
    · replace hM := hM.call (r' := 1) hv151 (by decide)
      refine lv_if_ne (tgt := 30) hx hb dX6_readNumber_16 (by decide) (fun _ => ?_) (fun c => absurd c (by decide))
      replace hM := hM.pos (by decide)
      refine lv_iconst (v := 0) hx hb dX6_readNumber_30 (by decide) ?_
      refine lv_istore_n (lv' := [(3, .int 0), (0, .ref (ad 1)), (1, .int 0), (2, .int a2)]) hx hb dX6_readNumber_31 rfl hl (by decide) rfl (fun ls hl => ?_)
      exact L32 ((400 - x135.toInt).toNat + 1) 0 x135 x137 x139 H locs ls w146 (show (-2) ≤ a2.toInt by omega) (show a2.toInt ≤ 9 by omega) (show 0 ≤ x135.toInt by omega) (show x135.toInt ≤ 400 by omega) (show 1 ≤ x137.toInt by omega) (show x137.toInt ≤ 400 by omega) (show 0 ≤ x139.toInt by omega) (show x139.toInt ≤ 399 by omega) (Nat.lt_succ_self _) hw hT hF c153 c154 c155 c152 hM (lv_sub hl [1, 2, 3, 0] rfl)
  · replace hM := hM.call (r' := (-1)) hv142 (by decide)
    refine tk_Si hC hK hw hT hA hE hSR (kz_X6_isDigit_2 l adK adV dC dI cy ad B (by omega) (by omega) qr s1    w131 H.size hT ) (va_cwS 1 hC.2.2.2.2 uS_RX6_64 rfl rfl rfl (by decide +kernel) ⟨Nat.le_of_ble_eq_true rfl, Nat.le_of_ble_eq_true rfl⟩) rfl hl.1 rfl (Nat.le_of_ble_eq_true rfl) dX6_readNumber_13 (fun r169 w171 H locs hp170 hw => ?_)
    obtain ⟨hT, k172, hv174, hg173⟩ := hp170
    have hF := hF.tr k172 (by decide)
    have c175 := k172.gi kC_at1 (by decide) c143
    obtain rfl := hg173
    replace hM := hM.call (r' := 0) hv174 (by decide)
    refine lv_if_ne (tgt := 30) hx hb dX6_readNumber_16 (by decide) (fun c => absurd (by decide) c) (fun _ => ?_)
    replace hM := hM.neg (by decide)
    refine lv_aload_n hx hb dX6_readNumber_19 rfl (lv_at hl 0 rfl) ?_
    refine lv_aload_n hx hb dX6_readNumber_20 rfl (lv_at hl 0 rfl) ?_
    refine tk_geti hC hK hw hT hinX6 kC_at1 (by decide) rfl 3 (by decide) (List.mem_cons_of_mem _ uw_9_17) rfl rfl dX6_readNumber_21 (fun x176 c177 rx176 tx176 => ?_)
    replace hM := hM.rd (sI_at c177)
    refine lv_iconst (v := 0) hx hb dX6_readNumber_24 (by decide) ?_
    refine tk_Vv hC hK hw hT hA hE hSR kC_at1 (by decide) rfl (kz_X6_blame_2 l adK adV dC dI cy ad B (by omega) (by omega) qr s1   x176 (show 0 ≤ x176.toInt by omega) (show x176.toInt ≤ 400 by omega) 0 (by decide) (by decide) w171 H.size hT c175) (cwV 2 hC.2.2.2.2 uV_RX6_35 rfl rfl rfl (by decide +kernel) ⟨Nat.le_of_ble_eq_true rfl, Nat.le_of_ble_eq_true rfl⟩) rfl hl.1 rfl (Nat.le_of_ble_eq_true rfl) dX6_readNumber_25 (fun w180 H locs hp179 hw => ?_)
    obtain ⟨hT, k181, hv185, hg184⟩ := hp179
    try simp only [show (0 : Int32).toInt = 0 by decide] at hv185
    have hF := hF.tr k181 (by decide)
    have c186 := k181.gi kC_at1 (by decide) c177
    obtain ⟨x182, c183, rx182, tx182⟩ := hg184
    replace hM := hM.call hv185 rfl
    refine lv_iconst (v := (-1)) hx hb dX6_readNumber_28 (by decide) ?_
    exact tk_iret hC hr hlocks hK ⟨hT, hF, hM.ret (by decide), (Or.inr ⟨rfl, ⟨x182, c183, (show 1 ≤ x182.toInt by omega), (show x182.toInt ≤ 3205 by omega)⟩⟩)⟩ hw dX6_readNumber_29
abbrev Pz_X6_readNumber_3 (ad : Nat → Nat) (cy : Nat → ClassId) (B : Int) (qr : Nat) (s1 : Int) (a2 : Int32) (w0 : va_W) : Int32 → va_W → Prop := fun r u => TW ksC ad cy B qr s1 u ∧ FE ksC [(6, 1, 1), (6, 3, 3), (6, 4, 4)] w0 u ∧ Ev (fun n => m_X6_readNumber n 1 0 a2.toInt (sI w0)) (r.toInt, sI u) ∧ ((0 ≤ r.toInt ∧ r.toInt ≤ 9 ∧ (∃ y : Int32, gi u 1 2 = y ∧ 1 ≤ y.toInt ∧ y.toInt ≤ 400) ∧ (∃ y : Int32, gi u 1 3 = y ∧ 0 ≤ y.toInt ∧ y.toInt ≤ 399) ∧ (∃ y : Int32, gi u 1 4 = y ∧ 0 ≤ y.toInt ∧ y.toInt ≤ 0)) ∨ (r = (-1) ∧ (∃ y : Int32, gi u 1 4 = y ∧ 1 ≤ y.toInt ∧ y.toInt ≤ 3205)))
set_option maxHeartbeats 4000000 in
set_option maxRecDepth 100000 in
theorem kz_X6_readNumber_3 (l : Launch) (adK adV : Nat → Nat) (dC : Nat → ClassId) (dI : Nat → Nat → Nat) (cy : Nat → ClassId) (ad : Nat → Nat) (B : Int) (hB0 : 2147483648 ≤ B) (hB1 : B ≤ 1152921504606846976) (qr : Nat) (s1 : Int)  (a2 : Int32) (ra2 : 0 ≤ a2.toInt) (ta2 : a2.toInt ≤ 9) (w0 : va_W) (sz : Nat) (hT : TW ksC ad cy B qr s1 w0) (cf0_ : gi w0 1 4 = 0) : Met l yX6_readNumber (wu yX6_readNumber cX6_readNumber 4 (some .int)) ({ frames := 2, cells := 0, slots := 0, locals := 34 }) (va_Pc [.ref (ad 1), .int 0, .int a2] (wpreS adK adV dC dI cy sz w0)) (va_Qi (Pz_X6_readNumber_3 ad cy B qr s1 a2 w0) (fun u : va_W => wpost dC dI cy (va_A w0 sz) u) (va_A w0 sz)) 0 0 (va_A w0 sz) := by
  refine Met.ofW (cc := cX6_readNumber) (maxL := 4) (ret := (some .int)) (by decide) rfl ?_
  intro p e s m args below meth c s₁ Bk hml hv
  obtain ⟨rfl, ⟨hsz, hP, hK, hD0⟩, hE, hSR⟩ := hv
  have hx := Bk.exec
  have hb := Bk.bytes
  have hr := Bk.returns
  have hlocks := Bk.notSynchronized
  have hC : CallFix p m c cX6_readNumber 4 s _ (wu yX6_readNumber cX6_readNumber 4 (some .int)) RX6 := ⟨hx, hb, hml, findClass_of_methodNamed Bk.named, atoms_spec (ws := (wu yX6_readNumber cX6_readNumber 4 (some .int))) Bk.pre⟩
  subst hsz
  have hD := hD0.self (sz := s.heap.size)
  generalize hAe : va_A w0 s.heap.size = A at hD hE ⊢
  have hA : ∀ q : Nat, s.heap.size ≤ q → A q := fun q h => by rw [← hAe]; exact Or.inr h
  have hw : Wd dC dI A s.heap s.heap [] w0 := ⟨hP, hD, va_S.rf⟩
  have hF : FE ksC [(6, 1, 1), (6, 3, 3), (6, 4, 4)] w0 w0 := FE.rf
  have hl := lv_entry ([.ref (ad 1), .int 0, .int a2]) (n := 4) (Nat.le_of_ble_eq_true rfl)
  rw [lg_entry_eq]
  generalize (lg_sl ([.ref (ad 1), .int 0, .int a2]) ++ List.replicate (4 - (lg_sl ([.ref (ad 1), .int 0, .int a2])).length) Slot.unset).toArray = ls at hl ⊢
  have hl : lv_has ls 4 [(0, .ref (ad 1)), (1, .int 0), (2, .int a2)] := hl
  generalize hloc : ([] : List Loc) = locs at hw ⊢
  have hinX6 : ∀ w ∈ u_ws RX6 TX6 5, w ∈ (wu yX6_readNumber cX6_readNumber 4 (some .int)) := fun _ h => List.mem_cons_of_mem _ (up_72 h)
  have J125 : ∀ (v125_3 : Int32) (f125_1_1 : Int32) (f125_1_2 : Int32) (f125_1_3 : Int32) (H : Heap) (locs : List Loc) (ls : Array Slot) (w1 : va_W), 0 ≤ a2.toInt → a2.toInt ≤ 9 → 0 ≤ f125_1_1.toInt → f125_1_1.toInt ≤ 400 → 1 ≤ f125_1_2.toInt → f125_1_2.toInt ≤ 400 → 0 ≤ f125_1_3.toInt → f125_1_3.toInt ≤ 399 → Wd dC dI A s.heap H locs w1 → TW ksC ad cy B qr s1 w1 → FE ksC [(6, 1, 1), (6, 3, 3), (6, 4, 4)] w0 w1 → gi w1 1 1 = f125_1_1 → gi w1 1 2 = f125_1_2 → gi w1 1 3 = f125_1_3 → gi w1 1 4 = 0 → TT (fun n => m_X6_readNumber n 1 0 a2.toInt (sI w0)) (fun n => b_X6_readNumber_125 (j_X6_readNumber 1 n) n 1 (sI w1)) → lv_has ls 4 [(0, .ref (ad 1)), (1, .int 0), (2, .int a2), (3, .int v125_3)] → W p l e ({ frames := 2, cells := 0, slots := 0, locals := 34 }) s m (List.toArray [.ref (ad 1), .int 0, .int a2]) below meth c H locs 0 0 (MQ below (va_Qi (Pz_X6_readNumber_3 ad cy B qr s1 a2 w0) (fun u : va_W => wpost dC dI cy A u) A) (List.toArray [.ref (ad 1), .int 0, .int a2]) s 0 0 A) (F0 m 125 ls []) := by
    intro v125_3 f125_1_1 f125_1_2 f125_1_3 H locs ls w1 r2 t3 r4 t5 r7 t8 r10 t11 hw hT hF c6 c9 c12 c13 hM hl
    refine lv_aload_n hx hb dX6_readNumber_125 rfl (lv_at hl 0 rfl) ?_
    refine lv_aload_n hx hb dX6_readNumber_126 rfl (lv_at hl 0 rfl) ?_
    refine tk_geti hC hK hw hT hinX6 kC_at1 (by decide) rfl 3 (by decide) (List.mem_cons_of_mem _ uw_9_17) rfl rfl dX6_readNumber_127 (fun x14 c15 rx14 tx14 => ?_)
    refine wk_top f125_1_3 (c15.symm.trans c12) ?_
    replace hM := hM.rd (sI_at c12)
    refine lv_iconst (v := 1) hx hb dX6_readNumber_130 (by decide) ?_
    refine tk_Vv hC hK hw hT hA hE hSR kC_at1 (by decide) rfl (kz_X6_blame_2 l adK adV dC dI cy ad B (by omega) (by omega) qr s1   f125_1_3 (show 0 ≤ f125_1_3.toInt by omega) (show f125_1_3.toInt ≤ 400 by omega) 1 (by decide) (by decide) w1 H.size hT c13) (cwV 2 hC.2.2.2.2 uV_RX6_35 rfl rfl rfl (by decide +kernel) ⟨Nat.le_of_ble_eq_true rfl, Nat.le_of_ble_eq_true rfl⟩) rfl hl.1 rfl (Nat.le_of_ble_eq_true rfl) dX6_readNumber_131 (fun w18 H locs hp17 hw => ?_)
    obtain ⟨hT, k19, hv23, hg22⟩ := hp17
    try simp only [show (1 : Int32).toInt = 1 by decide] at hv23
    have hF := hF.tr k19 (by decide)
    have c24 := k19.gi kC_at1 (by decide) c6
    have c25 := k19.gi kC_at1 (by decide) c9
    have c26 := k19.gi kC_at1 (by decide) c12
    obtain ⟨x20, c21, rx20, tx20⟩ := hg22
    replace hM := hM.call hv23 rfl
    refine lv_iconst (v := (-1)) hx hb dX6_readNumber_134 (by decide) ?_
    exact tk_iret hC hr hlocks hK ⟨hT, hF, hM.ret (by decide), (Or.inr ⟨rfl, ⟨x20, c21, (show 1 ≤ x20.toInt by omega), (show x20.toInt ≤ 3205 by omega)⟩⟩)⟩ hw dX6_readNumber_135
  have J102 : ∀ (v102_3 : Int32) (f102_1_1 : Int32) (f102_1_2 : Int32) (f102_1_3 : Int32) (H : Heap) (locs : List Loc) (ls : Array Slot) (w27 : va_W), 0 ≤ a2.toInt → a2.toInt ≤ 9 → 0 ≤ f102_1_1.toInt → f102_1_1.toInt ≤ 400 → 1 ≤ f102_1_2.toInt → f102_1_2.toInt ≤ 400 → 0 ≤ f102_1_3.toInt → f102_1_3.toInt ≤ 399 → Wd dC dI A s.heap H locs w27 → TW ksC ad cy B qr s1 w27 → FE ksC [(6, 1, 1), (6, 3, 3), (6, 4, 4)] w0 w27 → gi w27 1 1 = f102_1_1 → gi w27 1 2 = f102_1_2 → gi w27 1 3 = f102_1_3 → gi w27 1 4 = 0 → TT (fun n => m_X6_readNumber n 1 0 a2.toInt (sI w0)) (fun n => b_X6_readNumber_102 (j_X6_readNumber 1 n) n 1 (0 : Int) (a2.toInt) (v102_3.toInt) (sI w27)) → lv_has ls 4 [(0, .ref (ad 1)), (1, .int 0), (2, .int a2), (3, .int v102_3)] → W p l e ({ frames := 2, cells := 0, slots := 0, locals := 34 }) s m (List.toArray [.ref (ad 1), .int 0, .int a2]) below meth c H locs 0 0 (MQ below (va_Qi (Pz_X6_readNumber_3 ad cy B qr s1 a2 w0) (fun u : va_W => wpost dC dI cy A u) A) (List.toArray [.ref (ad 1), .int 0, .int a2]) s 0 0 A) (F0 m 102 ls []) := by
    intro v102_3 f102_1_1 f102_1_2 f102_1_3 H locs ls w27 r28 t29 r30 t31 r33 t34 r36 t37 hw hT hF c32 c35 c38 c39 hM hl
    refine lv_aload_n hx hb dX6_readNumber_102 rfl (lv_at hl 0 rfl) ?_
    refine tk_geti hC hK hw hT hinX6 kC_at1 (by decide) rfl 1 (by decide) (List.mem_cons_of_mem _ uw_9_16) rfl rfl dX6_readNumber_103 (fun x40 c41 rx40 tx40 => ?_)
    refine wk_top f102_1_1 (c41.symm.trans c32) ?_
    replace hM := hM.rd (sI_at c32)
    refine lv_aload_n hx hb dX6_readNumber_106 rfl (lv_at hl 0 rfl) ?_
    refine tk_geti hC hK hw hT hinX6 kC_at1 (by decide) rfl 3 (by decide) (List.mem_cons_of_mem _ uw_9_17) rfl rfl dX6_readNumber_107 (fun x42 c43 rx42 tx42 => ?_)
    refine wk_top f102_1_3 (c43.symm.trans c38) ?_
    replace hM := hM.rd (sI_at c38)
    refine lv_isub hx hb dX6_readNumber_110 ?_
    refine lv_topi (fun x44 ex44 => ?_)
    have ezx44 := ex44
    have ex44 : x44.toInt = f102_1_1.toInt - f102_1_3.toInt := by rw [ex44]; exact wk_sub (show (-2147483648) ≤ f102_1_1.toInt - f102_1_3.toInt by omega) (show f102_1_1.toInt - f102_1_3.toInt ≤ 2147483647 by omega)
    replace hM := hM.lt ex44.symm
    refine lv_iconst (v := 5) hx hb dX6_readNumber_111 (by decide) ?_
    refine lv_icmp_gt (tgt := 125) hx hb dX6_readNumber_112 (by decide) (fun c45 => ?_) (fun c45 => ?_)
    · have c45 : (5 : Int) < x44.toInt := wk_lt.mp c45
      replace hM := hM.pos c45
      exact J125 v102_3 f102_1_1 f102_1_2 f102_1_3 H locs ls w27 (show 0 ≤ a2.toInt by omega) (show a2.toInt ≤ 9 by omega) (show 0 ≤ f102_1_1.toInt by omega) (show f102_1_1.toInt ≤ 400 by omega) (show 1 ≤ f102_1_2.toInt by omega) (show f102_1_2.toInt ≤ 400 by omega) (show 0 ≤ f102_1_3.toInt by omega) (show f102_1_3.toInt ≤ 399 by omega)  hw hT hF c32 c35 c38 c39 hM (lv_sub hl [0, 1, 2, 3] rfl)
    · have c45 : x44.toInt ≤ (5 : Int) := wk_ltF c45
      replace hM := hM.neg (Int.not_lt.mpr c45)
      refine lv_iload_n hx hb dX6_readNumber_115 rfl (lv_at hl 3 rfl) ?_
      refine lv_iload_n hx hb dX6_readNumber_116 rfl (lv_at hl 1 rfl) ?_
      refine lv_icmp_lt (tgt := 125) hx hb dX6_readNumber_117 (by decide) (fun c46 => ?_) (fun c46 => ?_)
      · have c46 : v102_3.toInt < (0 : Int) := wk_lt.mp c46
        replace hM := hM.pos c46
        exact J125 v102_3 f102_1_1 f102_1_2 f102_1_3 H locs ls w27 (show 0 ≤ a2.toInt by omega) (show a2.toInt ≤ 9 by omega) (show 0 ≤ f102_1_1.toInt by omega) (show f102_1_1.toInt ≤ 400 by omega) (show 1 ≤ f102_1_2.toInt by omega) (show f102_1_2.toInt ≤ 400 by omega) (show 0 ≤ f102_1_3.toInt by omega) (show f102_1_3.toInt ≤ 399 by omega)  hw hT hF c32 c35 c38 c39 hM (lv_sub hl [0, 1, 2, 3] rfl)
      · have c46 : (0 : Int) ≤ v102_3.toInt := wk_ltF c46
        replace hM := hM.neg (Int.not_lt.mpr c46)
        refine lv_iload_n hx hb dX6_readNumber_120 rfl (lv_at hl 3 rfl) ?_
        refine lv_iload_n hx hb dX6_readNumber_121 rfl (lv_at hl 2 rfl) ?_
        refine lv_icmp_le (tgt := 136) hx hb dX6_readNumber_122 (by decide) (fun c47 => ?_) (fun c47 => ?_)
        · have c47 : v102_3.toInt ≤ a2.toInt := wk_le.mp c47
          replace hM := hM.pos c47
          refine lv_iload_n hx hb dX6_readNumber_136 rfl (lv_at hl 3 rfl) ?_
          exact tk_iret hC hr hlocks hK ⟨hT, hF, hM.ret rfl, (Or.inl ⟨(show 0 ≤ v102_3.toInt by omega), (show v102_3.toInt ≤ 9 by omega), ⟨f102_1_2, c35, (show 1 ≤ f102_1_2.toInt by omega), (show f102_1_2.toInt ≤ 400 by omega)⟩, ⟨f102_1_3, c38, (show 0 ≤ f102_1_3.toInt by omega), (show f102_1_3.toInt ≤ 399 by omega)⟩, ⟨0, c39, (by decide), (by decide)⟩⟩)⟩ hw dX6_readNumber_137
        · have c47 : a2.toInt < v102_3.toInt := wk_leF c47
          replace hM := hM.neg (Int.not_le.mpr c47)
          exact J125 v102_3 f102_1_1 f102_1_2 f102_1_3 H locs ls w27 (show 0 ≤ a2.toInt by omega) (show a2.toInt ≤ 9 by omega) (show 0 ≤ f102_1_1.toInt by omega) (show f102_1_1.toInt ≤ 400 by omega) (show 1 ≤ f102_1_2.toInt by omega) (show f102_1_2.toInt ≤ 400 by omega) (show 0 ≤ f102_1_3.toInt by omega) (show f102_1_3.toInt ≤ 399 by omega)  hw hT hF c32 c35 c38 c39 hM (lv_sub hl [0, 1, 2, 3] rfl)
  have L32 : ∀ (n32 : Nat) (v32_3 : Int32) (f32_1_1 : Int32) (f32_1_2 : Int32) (f32_1_3 : Int32) (H : Heap) (locs : List Loc) (ls : Array Slot) (w48 : va_W), 0 ≤ a2.toInt → a2.toInt ≤ 9 → 0 ≤ f32_1_1.toInt → f32_1_1.toInt ≤ 400 → 1 ≤ f32_1_2.toInt → f32_1_2.toInt ≤ 400 → 0 ≤ f32_1_3.toInt → f32_1_3.toInt ≤ 399 → (400 - f32_1_1.toInt).toNat < n32 → Wd dC dI A s.heap H locs w48 → TW ksC ad cy B qr s1 w48 → FE ksC [(6, 1, 1), (6, 3, 3), (6, 4, 4)] w0 w48 → gi w48 1 1 = f32_1_1 → gi w48 1 2 = f32_1_2 → gi w48 1 3 = f32_1_3 → gi w48 1 4 = 0 → TT (fun n => m_X6_readNumber n 1 0 a2.toInt (sI w0)) (fun n => j_X6_readNumber 1 n 32 [(0 : Int), a2.toInt, v32_3.toInt] (sI w48)) → lv_has ls 4 [(0, .ref (ad 1)), (1, .int 0), (2, .int a2), (3, .int v32_3)] → W p l e ({ frames := 2, cells := 0, slots := 0, locals := 34 }) s m (List.toArray [.ref (ad 1), .int 0, .int a2]) below meth c H locs 0 0 (MQ below (va_Qi (Pz_X6_readNumber_3 ad cy B qr s1 a2 w0) (fun u : va_W => wpost dC dI cy A u) A) (List.toArray [.ref (ad 1), .int 0, .int a2]) s 0 0 A) (F0 m 32 ls []) := by
    intro n32
    induction n32 with
    | zero => intro v32_3 f32_1_1 f32_1_2 f32_1_3 H locs ls w48 r49 t50 r51 t52 r54 t55 r57 t58 hm32 hw hT hF c53 c56 c59 c60 hM hl; omega
    | succ n32 ih32 =>
      intro v32_3 f32_1_1 f32_1_2 f32_1_3 H locs ls w48 r49 t50 r51 t52 r54 t55 r57 t58 hm32 hw hT hF c53 c56 c59 c60 hM hl
      have J89 : ∀ (v89_3 : Int32) (H : Heap) (locs : List Loc) (ls : Array Slot) (w61 : va_W), 0 ≤ a2.toInt → a2.toInt ≤ 9 → 0 ≤ f32_1_1.toInt → f32_1_1.toInt ≤ 399 → 1 ≤ f32_1_2.toInt → f32_1_2.toInt ≤ 400 → 0 ≤ f32_1_3.toInt → f32_1_3.toInt ≤ 399 → Wd dC dI A s.heap H locs w61 → TW ksC ad cy B qr s1 w61 → FE ksC [(6, 1, 1), (6, 3, 3), (6, 4, 4)] w0 w61 → gi w61 1 1 = f32_1_1 → gi w61 1 2 = f32_1_2 → gi w61 1 3 = f32_1_3 → gi w61 1 4 = 0 → TT (fun n => m_X6_readNumber n 1 0 a2.toInt (sI w0)) (fun n => b_X6_readNumber_89 (j_X6_readNumber 1 n) n 1 (0 : Int) (a2.toInt) (v89_3.toInt) (sI w61)) → lv_has ls 4 [(0, .ref (ad 1)), (1, .int 0), (2, .int a2), (3, .int v89_3)] → W p l e ({ frames := 2, cells := 0, slots := 0, locals := 34 }) s m (List.toArray [.ref (ad 1), .int 0, .int a2]) below meth c H locs 0 0 (MQ below (va_Qi (Pz_X6_readNumber_3 ad cy B qr s1 a2 w0) (fun u : va_W => wpost dC dI cy A u) A) (List.toArray [.ref (ad 1), .int 0, .int a2]) s 0 0 A) (F0 m 89 ls []) := by
        intro v89_3 H locs ls w61 r62 t63 r64 t65 r67 t68 r70 t71 hw hT hF c66 c69 c72 c73 hM hl
        refine lv_aload_n hx hb dX6_readNumber_89 rfl (lv_at hl 0 rfl) ?_
        refine lv_dup hx hb dX6_readNumber_90 rfl ?_
        refine tk_geti hC hK hw hT hinX6 kC_at1 (by decide) rfl 1 (by decide) (List.mem_cons_of_mem _ uw_9_16) rfl rfl dX6_readNumber_91 (fun x74 c75 rx74 tx74 => ?_)
        refine wk_top f32_1_1 (c75.symm.trans c66) ?_
        replace hM := hM.rd (sI_at c66)
        refine lv_iconst (v := 1) hx hb dX6_readNumber_94 (by decide) ?_
        refine lv_iadd hx hb dX6_readNumber_95 ?_
        refine lv_topi (fun x76 ex76 => ?_)
        have ezx76 := ex76
        have ex76 : x76.toInt = f32_1_1.toInt + (1 : Int) := by rw [ex76]; exact wk_add (show (-2147483648) ≤ f32_1_1.toInt + (1 : Int) by omega) (show f32_1_1.toInt + (1 : Int) ≤ 2147483647 by omega)
        replace hM := hM.lt ex76.symm
        refine tk_puti hC hK hw hT hinX6 tyX6_ok nmX6 kC_at1 (by decide) rfl rfl 1 (by decide) (List.mem_cons_of_mem _ uw_9_16) rfl rfl rfl rfl (show 0 ≤ x76.toInt by omega) (show x76.toInt ≤ 400 by omega) dX6_readNumber_96 (fun H locs w77 hw hT k79 c78 => ?_)
        replace hM := hM.wr (sI_up k79 c78)
        have hF := hF.put kC_at1 (k := 1) (by decide) k79
        have c80 := k79.gi (Or.inr (by decide)) c69
        have c81 := k79.gi (Or.inr (by decide)) c72
        have c82 := k79.gi (Or.inr (by decide)) c73
        refine lv_goto (tgt := 32) hx hb dX6_readNumber_99 (by decide) ?_
        exact ih32 v89_3 x76 f32_1_2 f32_1_3 H locs ls w77 (show 0 ≤ a2.toInt by omega) (show a2.toInt ≤ 9 by omega) (show 0 ≤ x76.toInt by omega) (show x76.toInt ≤ 400 by omega) (show 1 ≤ f32_1_2.toInt by omega) (show f32_1_2.toInt ≤ 400 by omega) (show 0 ≤ f32_1_3.toInt by omega) (show f32_1_3.toInt ≤ 399 by omega) (show (400 - x76.toInt).toNat < n32 by omega) hw hT hF c78 c80 c81 c82 hM (lv_sub hl [0, 1, 2, 3] rfl)
      replace hM := hM.suc (fun _ => e_X6_readNumber_32)
      refine lv_aload_n hx hb dX6_readNumber_32 rfl (lv_at hl 0 rfl) ?_
      refine tk_geti hC hK hw hT hinX6 kC_at1 (by decide) rfl 1 (by decide) (List.mem_cons_of_mem _ uw_9_16) rfl rfl dX6_readNumber_33 (fun x83 c84 rx83 tx83 => ?_)
      refine wk_top f32_1_1 (c84.symm.trans c53) ?_
      replace hM := hM.rd (sI_at c53)
      refine lv_aload_n hx hb dX6_readNumber_36 rfl (lv_at hl 0 rfl) ?_
      refine tk_geti hC hK hw hT hinX6 kC_at1 (by decide) rfl 2 (by decide) (List.mem_cons_of_mem _ uw_7_22) rfl rfl dX6_readNumber_37 (fun x85 c86 rx85 tx85 => ?_)
      refine wk_top f32_1_2 (c86.symm.trans c56) ?_
      replace hM := hM.rd (sI_at c56)
      refine lv_icmp_ge (tgt := 102) hx hb dX6_readNumber_40 (by decide) (fun c87 => ?_) (fun c87 => ?_)
      · have c87 : f32_1_2.toInt ≤ f32_1_1.toInt := wk_le.mp c87
        replace hM := hM.pos c87
        exact J102 v32_3 f32_1_1 f32_1_2 f32_1_3 H locs ls w48 (show 0 ≤ a2.toInt by omega) (show a2.toInt ≤ 9 by omega) (show 0 ≤ f32_1_1.toInt by omega) (show f32_1_1.toInt ≤ 400 by omega) (show 1 ≤ f32_1_2.toInt by omega) (show f32_1_2.toInt ≤ 400 by omega) (show 0 ≤ f32_1_3.toInt by omega) (show f32_1_3.toInt ≤ 399 by omega)  hw hT hF c53 c56 c59 c60 hM (lv_sub hl [0, 1, 2, 3] rfl)
      · have c87 : f32_1_1.toInt < f32_1_2.toInt := wk_leF c87
        replace hM := hM.neg (Int.not_le.mpr c87)
        refine lv_aload_n hx hb dX6_readNumber_43 rfl (lv_at hl 0 rfl) ?_
        refine tk_getA hC hK hw hT hinX6 kC_at1 (by decide) rfl 0 (by decide) (List.mem_cons_of_mem _ uw_2_12) rfl rfl dX6_readNumber_44 ?_
        refine lv_aload_n hx hb dX6_readNumber_47 rfl (lv_at hl 0 rfl) ?_
        refine tk_geti hC hK hw hT hinX6 kC_at1 (by decide) rfl 1 (by decide) (List.mem_cons_of_mem _ uw_9_16) rfl rfl dX6_readNumber_48 (fun x88 c89 rx88 tx88 => ?_)
        refine wk_top f32_1_1 (c89.symm.trans c53) ?_
        replace hM := hM.rd (sI_at c53)
        refine tk_iald hC hK hw hT kC_at2 rfl rfl (show 0 ≤ f32_1_1.toInt by omega) (show f32_1_1.toInt < 400 by omega) dX6_readNumber_51 (fun x90 c91 rx90 tx90 => ?_)
        have hox90 := c91
        replace hM := hM.rd (sI_at hox90)
        refine tk_Si hC hK hw hT hA hE hSR (kz_X6_isDigit_1 l adK adV dC dI cy ad B (by omega) (by omega) qr s1   x90 (show 0 ≤ x90.toInt by omega) (show x90.toInt ≤ 255 by omega) w48 H.size hT ) (va_cwS 1 hC.2.2.2.2 uS_RX6_64 rfl rfl rfl (by decide +kernel) ⟨Nat.le_of_ble_eq_true rfl, Nat.le_of_ble_eq_true rfl⟩) rfl hl.1 rfl (Nat.le_of_ble_eq_true rfl) dX6_readNumber_52 (fun r92 w94 H locs hp93 hw => ?_)
        obtain ⟨hT, k95, hv99, hg98⟩ := hp93
        have hF := hF.tr k95 (by decide)
        have c100 := k95.gi kC_at1 (by decide) c53
        have c101 := k95.gi kC_at1 (by decide) c56
        have c102 := k95.gi kC_at1 (by decide) c59
        have c103 := k95.gi kC_at1 (by decide) c60
        rcases hg98 with rfl | ⟨rfl, g96, g97⟩
        · replace hM := hM.call (r' := 0) hv99 (by decide)
          refine lv_if_eq (tgt := 102) hx hb dX6_readNumber_55 (by decide) (fun _ => ?_) (fun c => absurd (by decide) c)
          replace hM := hM.pos (by decide)
          exact J102 v32_3 f32_1_1 f32_1_2 f32_1_3 H locs ls w94 (show 0 ≤ a2.toInt by omega) (show a2.toInt ≤ 9 by omega) (show 0 ≤ f32_1_1.toInt by omega) (show f32_1_1.toInt ≤ 400 by omega) (show 1 ≤ f32_1_2.toInt by omega) (show f32_1_2.toInt ≤ 400 by omega) (show 0 ≤ f32_1_3.toInt by omega) (show f32_1_3.toInt ≤ 399 by omega)  hw hT hF c100 c101 c102 c103 hM (lv_sub hl [0, 1, 2, 3] rfl)
        · replace hM := hM.call (r' := 1) hv99 (by decide)
          refine lv_if_eq (tgt := 102) hx hb dX6_readNumber_55 (by decide) (fun c => absurd c (by decide)) (fun _ => ?_)
          replace hM := hM.neg (by decide)
          refine lv_aload_n hx hb dX6_readNumber_58 rfl (lv_at hl 0 rfl) ?_
          refine tk_geti hC hK hw hT hinX6 kC_at1 (by decide) rfl 1 (by decide) (List.mem_cons_of_mem _ uw_9_16) rfl rfl dX6_readNumber_59 (fun x104 c105 rx104 tx104 => ?_)
          refine wk_top f32_1_1 (c105.symm.trans c100) ?_
          replace hM := hM.rd (sI_at c100)
          refine lv_aload_n hx hb dX6_readNumber_62 rfl (lv_at hl 0 rfl) ?_
          refine tk_geti hC hK hw hT hinX6 kC_at1 (by decide) rfl 3 (by decide) (List.mem_cons_of_mem _ uw_9_17) rfl rfl dX6_readNumber_63 (fun x106 c107 rx106 tx106 => ?_)
          refine wk_top f32_1_3 (c107.symm.trans c102) ?_
          replace hM := hM.rd (sI_at c102)
          refine lv_isub hx hb dX6_readNumber_66 ?_
          refine lv_topi (fun x108 ex108 => ?_)
          have ezx108 := ex108
          have ex108 : x108.toInt = f32_1_1.toInt - f32_1_3.toInt := by rw [ex108]; exact wk_sub (show (-2147483648) ≤ f32_1_1.toInt - f32_1_3.toInt by omega) (show f32_1_1.toInt - f32_1_3.toInt ≤ 2147483647 by omega)
          replace hM := hM.lt ex108.symm
          refine lv_iconst (v := 5) hx hb dX6_readNumber_67 (by decide) ?_
          refine lv_icmp_ge (tgt := 89) hx hb dX6_readNumber_68 (by decide) (fun c109 => ?_) (fun c109 => ?_)
          · have c109 : (5 : Int) ≤ x108.toInt := wk_le.mp c109
            replace hM := hM.pos c109
            exact J89 v32_3 H locs ls w94 (show 0 ≤ a2.toInt by omega) (show a2.toInt ≤ 9 by omega) (show 0 ≤ f32_1_1.toInt by omega) (show f32_1_1.toInt ≤ 399 by omega) (show 1 ≤ f32_1_2.toInt by omega) (show f32_1_2.toInt ≤ 400 by omega) (show 0 ≤ f32_1_3.toInt by omega) (show f32_1_3.toInt ≤ 399 by omega)  hw hT hF c100 c101 c102 c103 hM (lv_sub hl [0, 1, 2, 3] rfl)
          · have c109 : x108.toInt < (5 : Int) := wk_leF c109
            replace hM := hM.neg (Int.not_le.mpr c109)
            refine lv_iload_n hx hb dX6_readNumber_71 rfl (lv_at hl 3 rfl) ?_
            refine lv_bipush (v := 10) hx hb dX6_readNumber_72 (by decide) ?_
            refine lv_imul hx hb dX6_readNumber_74 ?_
            have nx110 := wk_i32 v32_3
            refine lv_topi (fun x111 ex111 => ?_)
            have ezx111 := ex111
            replace hM := hM.lt (o32_e (f := fun x y => x * y) ezx111 rfl (by decide))
            refine lv_aload_n hx hb dX6_readNumber_75 rfl (lv_at hl 0 rfl) ?_
            refine tk_getA hC hK hw hT hinX6 kC_at1 (by decide) rfl 0 (by decide) (List.mem_cons_of_mem _ uw_2_12) rfl rfl dX6_readNumber_76 ?_
            refine lv_aload_n hx hb dX6_readNumber_79 rfl (lv_at hl 0 rfl) ?_
            refine tk_geti hC hK hw hT hinX6 kC_at1 (by decide) rfl 1 (by decide) (List.mem_cons_of_mem _ uw_9_16) rfl rfl dX6_readNumber_80 (fun x112 c113 rx112 tx112 => ?_)
            refine wk_top f32_1_1 (c113.symm.trans c100) ?_
            replace hM := hM.rd (sI_at c100)
            refine tk_iald hC hK hw hT kC_at2 rfl rfl (show 0 ≤ f32_1_1.toInt by omega) (show f32_1_1.toInt < 400 by omega) dX6_readNumber_83 (fun x114 c115 rx114 tx114 => ?_)
            have hox114 := c115
            replace hM := hM.rd (sI_at hox114)
            refine lv_iadd hx hb dX6_readNumber_84 ?_
            have nx116 := wk_i32 x111
            refine lv_topi (fun x117 ex117 => ?_)
            have ezx117 := ex117
            replace hM := hM.lt (o32_e (f := fun x y => x + y) ezx117 rfl rfl)
            refine lv_bipush (v := 48) hx hb dX6_readNumber_85 (by decide) ?_
            refine lv_isub hx hb dX6_readNumber_87 ?_
            have nx118 := wk_i32 x117
            refine lv_topi (fun x119 ex119 => ?_)
            have ezx119 := ex119
            replace hM := hM.lt (o32_e (f := fun x y => x - y) ezx119 rfl (by decide))
            refine lv_istore_n (lv' := [(3, .int x119), (0, .ref (ad 1)), (1, .int 0), (2, .int a2)]) hx hb dX6_readNumber_88 rfl hl (by decide) rfl (fun ls hl => ?_)
            exact J89 x119 H locs ls w94 (show 0 ≤ a2.toInt by omega) (show a2.toInt ≤ 9 by omega) (show 0 ≤ f32_1_1.toInt by omega) (show f32_1_1.toInt ≤ 399 by omega) (show 1 ≤ f32_1_2.toInt by omega) (show f32_1_2.toInt ≤ 400 by omega) (show 0 ≤ f32_1_3.toInt by omega) (show f32_1_3.toInt ≤ 399 by omega)  hw hT hF c100 c101 c102 c103 hM (lv_sub hl [1, 2, 3, 0] rfl)
  have hM : TT (fun n => m_X6_readNumber n 1 0 a2.toInt (sI w0)) (fun n => m_X6_readNumber n 1 0 a2.toInt (sI w0)) := TT.rf
  refine lv_aload_n hx hb dX6_readNumber_0 rfl (lv_at hl 0 rfl) ?_
  refine tk_Vi hC hK hw hT hA hE hSR kC_at1 (by decide) rfl (kz_X6_isFaulty_2 l adK adV dC dI cy ad B (by omega) (by omega) qr s1    w0 s.heap.size hT cf0_) (cwV 0 hC.2.2.2.2 uV_RX6_39 rfl rfl rfl (by decide +kernel) ⟨Nat.le_of_ble_eq_true rfl, Nat.le_of_ble_eq_true rfl⟩) rfl hl.1 rfl (Nat.le_of_ble_eq_true rfl) dX6_readNumber_1 (fun r120 w122 H locs hp121 hw => ?_)
  obtain ⟨hT, k123, hv127, hg126⟩ := hp121
  have hF := hF.tr k123 (by decide)
  have c128 := k123.gi kC_at1 (by decide) cf0_
  obtain ⟨rfl, ⟨x124, c125, rx124, tx124⟩⟩ := hg126
  replace hM := hM.call (r' := 0) hv127 (by decide)
  have ex124 : x124.toInt = (0 : Int) := by rw [show x124 = 0 from c125.symm.trans c128]; decide
  refine lv_if_eq (tgt := 9) hx hb dX6_readNumber_4 (by decide) (fun _ => ?_) (fun c => absurd (by decide) c)
  replace hM := hM.pos (by decide)
  refine lv_aload_n hx hb dX6_readNumber_9 rfl (lv_at hl 0 rfl) ?_
  refine tk_Vi hC hK hw hT hA hE hSR kC_at1 (by decide) rfl (kz_X6_lookBehindBlanks_1 l adK adV dC dI cy ad B (by omega) (by omega) qr s1    w122 H.size hT ) (cwV 0 hC.2.2.2.2 uV_RX6_28 rfl rfl rfl (by decide +kernel) ⟨Nat.le_of_ble_eq_true rfl, Nat.le_of_ble_eq_true rfl⟩) rfl hl.1 rfl (Nat.le_of_ble_eq_true rfl) dX6_readNumber_10 (fun r129 w131 H locs hp130 hw => ?_)
  obtain ⟨hT, k132, hv142, hg141⟩ := hp130
  have hF := hF.tr k132 (by decide)
  have c143 := k132.gi kC_at1 (by decide) c128
  rcases hg141 with ⟨g133, g134, ⟨x135, c136, rx135, tx135⟩, ⟨x137, c138, rx137, tx137⟩, ⟨x139, c140, rx139, tx139⟩⟩ | rfl
  · replace hM := hM.call hv142 rfl
    refine tk_Si hC hK hw hT hA hE hSR (kz_X6_isDigit_1 l adK adV dC dI cy ad B (by omega) (by omega) qr s1   r129 (show 0 ≤ r129.toInt by omega) (show r129.toInt ≤ 255 by omega) w131 H.size hT ) (va_cwS 1 hC.2.2.2.2 uS_RX6_64 rfl rfl rfl (by decide +kernel) ⟨Nat.le_of_ble_eq_true rfl, Nat.le_of_ble_eq_true rfl⟩) rfl hl.1 rfl (Nat.le_of_ble_eq_true rfl) dX6_readNumber_13 (fun r144 w146 H locs hp145 hw => ?_)
    obtain ⟨hT, k147, hv151, hg150⟩ := hp145
    have hF := hF.tr k147 (by decide)
    have c152 := k147.gi kC_at1 (by decide) c143
    have c153 := k147.gi kC_at1 (by decide) c136
    have c154 := k147.gi kC_at1 (by decide) c138
    have c155 := k147.gi kC_at1 (by decide) c140
    rcases hg150 with rfl | ⟨rfl, g148, g149⟩
    · replace hM := hM.call (r' := 0) hv151 (by decide)
      refine lv_if_ne (tgt := 30) hx hb dX6_readNumber_16 (by decide) (fun c => absurd (by decide) c) (fun _ => ?_)
      replace hM := hM.neg (by decide)
      refine lv_aload_n hx hb dX6_readNumber_19 rfl (lv_at hl 0 rfl) ?_
      refine lv_aload_n hx hb dX6_readNumber_20 rfl (lv_at hl 0 rfl) ?_
      refine tk_geti hC hK hw hT hinX6 kC_at1 (by decide) rfl 3 (by decide) (List.mem_cons_of_mem _ uw_9_17) rfl rfl dX6_readNumber_21 (fun x156 c157 rx156 tx156 => ?_)
      refine wk_top x139 (c157.symm.trans c155) ?_
      replace hM := hM.rd (sI_at c155)
      refine lv_iconst (v := 0) hx hb dX6_readNumber_24 (by decide) ?_
      refine tk_Vv hC hK hw hT hA hE hSR kC_at1 (by decide) rfl (kz_X6_blame_2 l adK adV dC dI cy ad B (by omega) (by omega) qr s1   x139 (show 0 ≤ x139.toInt by omega) (show x139.toInt ≤ 400 by omega) 0 (by decide) (by decide) w146 H.size hT c152) (cwV 2 hC.2.2.2.2 uV_RX6_35 rfl rfl rfl (by decide +kernel) ⟨Nat.le_of_ble_eq_true rfl, Nat.le_of_ble_eq_true rfl⟩) rfl hl.1 rfl (Nat.le_of_ble_eq_true rfl) dX6_readNumber_25 (fun w160 H locs hp159 hw => ?_)
      obtain ⟨hT, k161, hv165, hg164⟩ := hp159
      try simp only [show (0 : Int32).toInt = 0 by decide] at hv165
      have hF := hF.tr k161 (by decide)
      have c166 := k161.gi kC_at1 (by decide) c153
      have c167 := k161.gi kC_at1 (by decide) c154
      have c168 := k161.gi kC_at1 (by decide) c155
      obtain ⟨x162, c163, rx162, tx162⟩ := hg164
      replace hM := hM.call hv165 rfl
      refine lv_iconst (v := (-1)) hx hb dX6_readNumber_28 (by decide) ?_
      exact tk_iret hC hr hlocks hK ⟨hT, hF, hM.ret (by decide), (Or.inr ⟨rfl, ⟨x162, c163, (show 1 ≤ x162.toInt by omega), (show x162.toInt ≤ 3205 by omega)⟩⟩)⟩ hw dX6_readNumber_29
    · replace hM := hM.call (r' := 1) hv151 (by decide)
      refine lv_if_ne (tgt := 30) hx hb dX6_readNumber_16 (by decide) (fun _ => ?_) (fun c => absurd c (by decide))
      replace hM := hM.pos (by decide)
      refine lv_iconst (v := 0) hx hb dX6_readNumber_30 (by decide) ?_
      refine lv_istore_n (lv' := [(3, .int 0), (0, .ref (ad 1)), (1, .int 0), (2, .int a2)]) hx hb dX6_readNumber_31 rfl hl (by decide) rfl (fun ls hl => ?_)
      exact L32 ((400 - x135.toInt).toNat + 1) 0 x135 x137 x139 H locs ls w146 (show 0 ≤ a2.toInt by omega) (show a2.toInt ≤ 9 by omega) (show 0 ≤ x135.toInt by omega) (show x135.toInt ≤ 400 by omega) (show 1 ≤ x137.toInt by omega) (show x137.toInt ≤ 400 by omega) (show 0 ≤ x139.toInt by omega) (show x139.toInt ≤ 399 by omega) (Nat.lt_succ_self _) hw hT hF c153 c154 c155 c152 hM (lv_sub hl [1, 2, 3, 0] rfl)
  · replace hM := hM.call (r' := (-1)) hv142 (by decide)
    refine tk_Si hC hK hw hT hA hE hSR (kz_X6_isDigit_2 l adK adV dC dI cy ad B (by omega) (by omega) qr s1    w131 H.size hT ) (va_cwS 1 hC.2.2.2.2 uS_RX6_64 rfl rfl rfl (by decide +kernel) ⟨Nat.le_of_ble_eq_true rfl, Nat.le_of_ble_eq_true rfl⟩) rfl hl.1 rfl (Nat.le_of_ble_eq_true rfl) dX6_readNumber_13 (fun r169 w171 H locs hp170 hw => ?_)
    obtain ⟨hT, k172, hv174, hg173⟩ := hp170
    have hF := hF.tr k172 (by decide)
    have c175 := k172.gi kC_at1 (by decide) c143
    obtain rfl := hg173
    replace hM := hM.call (r' := 0) hv174 (by decide)
    refine lv_if_ne (tgt := 30) hx hb dX6_readNumber_16 (by decide) (fun c => absurd (by decide) c) (fun _ => ?_)
    replace hM := hM.neg (by decide)
    refine lv_aload_n hx hb dX6_readNumber_19 rfl (lv_at hl 0 rfl) ?_
    refine lv_aload_n hx hb dX6_readNumber_20 rfl (lv_at hl 0 rfl) ?_
    refine tk_geti hC hK hw hT hinX6 kC_at1 (by decide) rfl 3 (by decide) (List.mem_cons_of_mem _ uw_9_17) rfl rfl dX6_readNumber_21 (fun x176 c177 rx176 tx176 => ?_)
    replace hM := hM.rd (sI_at c177)
    refine lv_iconst (v := 0) hx hb dX6_readNumber_24 (by decide) ?_
    refine tk_Vv hC hK hw hT hA hE hSR kC_at1 (by decide) rfl (kz_X6_blame_2 l adK adV dC dI cy ad B (by omega) (by omega) qr s1   x176 (show 0 ≤ x176.toInt by omega) (show x176.toInt ≤ 400 by omega) 0 (by decide) (by decide) w171 H.size hT c175) (cwV 2 hC.2.2.2.2 uV_RX6_35 rfl rfl rfl (by decide +kernel) ⟨Nat.le_of_ble_eq_true rfl, Nat.le_of_ble_eq_true rfl⟩) rfl hl.1 rfl (Nat.le_of_ble_eq_true rfl) dX6_readNumber_25 (fun w180 H locs hp179 hw => ?_)
    obtain ⟨hT, k181, hv185, hg184⟩ := hp179
    try simp only [show (0 : Int32).toInt = 0 by decide] at hv185
    have hF := hF.tr k181 (by decide)
    have c186 := k181.gi kC_at1 (by decide) c177
    obtain ⟨x182, c183, rx182, tx182⟩ := hg184
    replace hM := hM.call hv185 rfl
    refine lv_iconst (v := (-1)) hx hb dX6_readNumber_28 (by decide) ?_
    exact tk_iret hC hr hlocks hK ⟨hT, hF, hM.ret (by decide), (Or.inr ⟨rfl, ⟨x182, c183, (show 1 ≤ x182.toInt by omega), (show x182.toInt ≤ 3205 by omega)⟩⟩)⟩ hw dX6_readNumber_29
abbrev Pz_X6_readNumber_4 (ad : Nat → Nat) (cy : Nat → ClassId) (B : Int) (qr : Nat) (s1 : Int)  (w0 : va_W) : Int32 → va_W → Prop := fun r u => TW ksC ad cy B qr s1 u ∧ FE ksC [(6, 1, 1), (6, 3, 3), (6, 4, 4)] w0 u ∧ Ev (fun n => m_X6_readNumber n 1 1 9 (sI w0)) (r.toInt, sI u) ∧ ((1 ≤ r.toInt ∧ r.toInt ≤ 9 ∧ (∃ y : Int32, gi u 1 2 = y ∧ 1 ≤ y.toInt ∧ y.toInt ≤ 400) ∧ (∃ y : Int32, gi u 1 3 = y ∧ 0 ≤ y.toInt ∧ y.toInt ≤ 399) ∧ (∃ y : Int32, gi u 1 4 = y ∧ 0 ≤ y.toInt ∧ y.toInt ≤ 0)) ∨ (r = (-1) ∧ (∃ y : Int32, gi u 1 4 = y ∧ 1 ≤ y.toInt ∧ y.toInt ≤ 3205)))
set_option maxHeartbeats 4000000 in
set_option maxRecDepth 100000 in
theorem kz_X6_readNumber_4 (l : Launch) (adK adV : Nat → Nat) (dC : Nat → ClassId) (dI : Nat → Nat → Nat) (cy : Nat → ClassId) (ad : Nat → Nat) (B : Int) (hB0 : 2147483648 ≤ B) (hB1 : B ≤ 1152921504606846976) (qr : Nat) (s1 : Int)   (w0 : va_W) (sz : Nat) (hT : TW ksC ad cy B qr s1 w0) (cf0_ : gi w0 1 4 = 0) : Met l yX6_readNumber (wu yX6_readNumber cX6_readNumber 4 (some .int)) ({ frames := 2, cells := 0, slots := 0, locals := 34 }) (va_Pc [.ref (ad 1), .int 1, .int 9] (wpreS adK adV dC dI cy sz w0)) (va_Qi (Pz_X6_readNumber_4 ad cy B qr s1  w0) (fun u : va_W => wpost dC dI cy (va_A w0 sz) u) (va_A w0 sz)) 0 0 (va_A w0 sz) := by
  refine Met.ofW (cc := cX6_readNumber) (maxL := 4) (ret := (some .int)) (by decide) rfl ?_
  intro p e s m args below meth c s₁ Bk hml hv
  obtain ⟨rfl, ⟨hsz, hP, hK, hD0⟩, hE, hSR⟩ := hv
  have hx := Bk.exec
  have hb := Bk.bytes
  have hr := Bk.returns
  have hlocks := Bk.notSynchronized
  have hC : CallFix p m c cX6_readNumber 4 s _ (wu yX6_readNumber cX6_readNumber 4 (some .int)) RX6 := ⟨hx, hb, hml, findClass_of_methodNamed Bk.named, atoms_spec (ws := (wu yX6_readNumber cX6_readNumber 4 (some .int))) Bk.pre⟩
  subst hsz
  have hD := hD0.self (sz := s.heap.size)
  generalize hAe : va_A w0 s.heap.size = A at hD hE ⊢
  have hA : ∀ q : Nat, s.heap.size ≤ q → A q := fun q h => by rw [← hAe]; exact Or.inr h
  have hw : Wd dC dI A s.heap s.heap [] w0 := ⟨hP, hD, va_S.rf⟩
  have hF : FE ksC [(6, 1, 1), (6, 3, 3), (6, 4, 4)] w0 w0 := FE.rf
  have hl := lv_entry ([.ref (ad 1), .int 1, .int 9]) (n := 4) (Nat.le_of_ble_eq_true rfl)
  rw [lg_entry_eq]
  generalize (lg_sl ([.ref (ad 1), .int 1, .int 9]) ++ List.replicate (4 - (lg_sl ([.ref (ad 1), .int 1, .int 9])).length) Slot.unset).toArray = ls at hl ⊢
  have hl : lv_has ls 4 [(0, .ref (ad 1)), (1, .int 1), (2, .int 9)] := hl
  generalize hloc : ([] : List Loc) = locs at hw ⊢
  have hinX6 : ∀ w ∈ u_ws RX6 TX6 5, w ∈ (wu yX6_readNumber cX6_readNumber 4 (some .int)) := fun _ h => List.mem_cons_of_mem _ (up_72 h)
  have J125 : ∀ (v125_3 : Int32) (f125_1_1 : Int32) (f125_1_2 : Int32) (f125_1_3 : Int32) (H : Heap) (locs : List Loc) (ls : Array Slot) (w1 : va_W), 0 ≤ f125_1_1.toInt → f125_1_1.toInt ≤ 400 → 1 ≤ f125_1_2.toInt → f125_1_2.toInt ≤ 400 → 0 ≤ f125_1_3.toInt → f125_1_3.toInt ≤ 399 → Wd dC dI A s.heap H locs w1 → TW ksC ad cy B qr s1 w1 → FE ksC [(6, 1, 1), (6, 3, 3), (6, 4, 4)] w0 w1 → gi w1 1 1 = f125_1_1 → gi w1 1 2 = f125_1_2 → gi w1 1 3 = f125_1_3 → gi w1 1 4 = 0 → TT (fun n => m_X6_readNumber n 1 1 9 (sI w0)) (fun n => b_X6_readNumber_125 (j_X6_readNumber 1 n) n 1 (sI w1)) → lv_has ls 4 [(0, .ref (ad 1)), (1, .int 1), (2, .int 9), (3, .int v125_3)] → W p l e ({ frames := 2, cells := 0, slots := 0, locals := 34 }) s m (List.toArray [.ref (ad 1), .int 1, .int 9]) below meth c H locs 0 0 (MQ below (va_Qi (Pz_X6_readNumber_4 ad cy B qr s1  w0) (fun u : va_W => wpost dC dI cy A u) A) (List.toArray [.ref (ad 1), .int 1, .int 9]) s 0 0 A) (F0 m 125 ls []) := by
    intro v125_3 f125_1_1 f125_1_2 f125_1_3 H locs ls w1 r2 t3 r5 t6 r8 t9 hw hT hF c4 c7 c10 c11 hM hl
    refine lv_aload_n hx hb dX6_readNumber_125 rfl (lv_at hl 0 rfl) ?_
    refine lv_aload_n hx hb dX6_readNumber_126 rfl (lv_at hl 0 rfl) ?_
    refine tk_geti hC hK hw hT hinX6 kC_at1 (by decide) rfl 3 (by decide) (List.mem_cons_of_mem _ uw_9_17) rfl rfl dX6_readNumber_127 (fun x12 c13 rx12 tx12 => ?_)
    refine wk_top f125_1_3 (c13.symm.trans c10) ?_
    replace hM := hM.rd (sI_at c10)
    refine lv_iconst (v := 1) hx hb dX6_readNumber_130 (by decide) ?_
    refine tk_Vv hC hK hw hT hA hE hSR kC_at1 (by decide) rfl (kz_X6_blame_2 l adK adV dC dI cy ad B (by omega) (by omega) qr s1   f125_1_3 (show 0 ≤ f125_1_3.toInt by omega) (show f125_1_3.toInt ≤ 400 by omega) 1 (by decide) (by decide) w1 H.size hT c11) (cwV 2 hC.2.2.2.2 uV_RX6_35 rfl rfl rfl (by decide +kernel) ⟨Nat.le_of_ble_eq_true rfl, Nat.le_of_ble_eq_true rfl⟩) rfl hl.1 rfl (Nat.le_of_ble_eq_true rfl) dX6_readNumber_131 (fun w16 H locs hp15 hw => ?_)
    obtain ⟨hT, k17, hv21, hg20⟩ := hp15
    try simp only [show (1 : Int32).toInt = 1 by decide] at hv21
    have hF := hF.tr k17 (by decide)
    have c22 := k17.gi kC_at1 (by decide) c4
    have c23 := k17.gi kC_at1 (by decide) c7
    have c24 := k17.gi kC_at1 (by decide) c10
    obtain ⟨x18, c19, rx18, tx18⟩ := hg20
    replace hM := hM.call hv21 rfl
    refine lv_iconst (v := (-1)) hx hb dX6_readNumber_134 (by decide) ?_
    exact tk_iret hC hr hlocks hK ⟨hT, hF, hM.ret (by decide), (Or.inr ⟨rfl, ⟨x18, c19, (show 1 ≤ x18.toInt by omega), (show x18.toInt ≤ 3205 by omega)⟩⟩)⟩ hw dX6_readNumber_135
  have J102 : ∀ (v102_3 : Int32) (f102_1_1 : Int32) (f102_1_2 : Int32) (f102_1_3 : Int32) (H : Heap) (locs : List Loc) (ls : Array Slot) (w25 : va_W), 0 ≤ f102_1_1.toInt → f102_1_1.toInt ≤ 400 → 1 ≤ f102_1_2.toInt → f102_1_2.toInt ≤ 400 → 0 ≤ f102_1_3.toInt → f102_1_3.toInt ≤ 399 → Wd dC dI A s.heap H locs w25 → TW ksC ad cy B qr s1 w25 → FE ksC [(6, 1, 1), (6, 3, 3), (6, 4, 4)] w0 w25 → gi w25 1 1 = f102_1_1 → gi w25 1 2 = f102_1_2 → gi w25 1 3 = f102_1_3 → gi w25 1 4 = 0 → TT (fun n => m_X6_readNumber n 1 1 9 (sI w0)) (fun n => b_X6_readNumber_102 (j_X6_readNumber 1 n) n 1 (1 : Int) (9 : Int) (v102_3.toInt) (sI w25)) → lv_has ls 4 [(0, .ref (ad 1)), (1, .int 1), (2, .int 9), (3, .int v102_3)] → W p l e ({ frames := 2, cells := 0, slots := 0, locals := 34 }) s m (List.toArray [.ref (ad 1), .int 1, .int 9]) below meth c H locs 0 0 (MQ below (va_Qi (Pz_X6_readNumber_4 ad cy B qr s1  w0) (fun u : va_W => wpost dC dI cy A u) A) (List.toArray [.ref (ad 1), .int 1, .int 9]) s 0 0 A) (F0 m 102 ls []) := by
    intro v102_3 f102_1_1 f102_1_2 f102_1_3 H locs ls w25 r26 t27 r29 t30 r32 t33 hw hT hF c28 c31 c34 c35 hM hl
    refine lv_aload_n hx hb dX6_readNumber_102 rfl (lv_at hl 0 rfl) ?_
    refine tk_geti hC hK hw hT hinX6 kC_at1 (by decide) rfl 1 (by decide) (List.mem_cons_of_mem _ uw_9_16) rfl rfl dX6_readNumber_103 (fun x36 c37 rx36 tx36 => ?_)
    refine wk_top f102_1_1 (c37.symm.trans c28) ?_
    replace hM := hM.rd (sI_at c28)
    refine lv_aload_n hx hb dX6_readNumber_106 rfl (lv_at hl 0 rfl) ?_
    refine tk_geti hC hK hw hT hinX6 kC_at1 (by decide) rfl 3 (by decide) (List.mem_cons_of_mem _ uw_9_17) rfl rfl dX6_readNumber_107 (fun x38 c39 rx38 tx38 => ?_)
    refine wk_top f102_1_3 (c39.symm.trans c34) ?_
    replace hM := hM.rd (sI_at c34)
    refine lv_isub hx hb dX6_readNumber_110 ?_
    refine lv_topi (fun x40 ex40 => ?_)
    have ezx40 := ex40
    have ex40 : x40.toInt = f102_1_1.toInt - f102_1_3.toInt := by rw [ex40]; exact wk_sub (show (-2147483648) ≤ f102_1_1.toInt - f102_1_3.toInt by omega) (show f102_1_1.toInt - f102_1_3.toInt ≤ 2147483647 by omega)
    replace hM := hM.lt ex40.symm
    refine lv_iconst (v := 5) hx hb dX6_readNumber_111 (by decide) ?_
    refine lv_icmp_gt (tgt := 125) hx hb dX6_readNumber_112 (by decide) (fun c41 => ?_) (fun c41 => ?_)
    · have c41 : (5 : Int) < x40.toInt := wk_lt.mp c41
      replace hM := hM.pos c41
      exact J125 v102_3 f102_1_1 f102_1_2 f102_1_3 H locs ls w25 (show 0 ≤ f102_1_1.toInt by omega) (show f102_1_1.toInt ≤ 400 by omega) (show 1 ≤ f102_1_2.toInt by omega) (show f102_1_2.toInt ≤ 400 by omega) (show 0 ≤ f102_1_3.toInt by omega) (show f102_1_3.toInt ≤ 399 by omega)  hw hT hF c28 c31 c34 c35 hM (lv_sub hl [0, 1, 2, 3] rfl)
    · have c41 : x40.toInt ≤ (5 : Int) := wk_ltF c41
      replace hM := hM.neg (Int.not_lt.mpr c41)
      refine lv_iload_n hx hb dX6_readNumber_115 rfl (lv_at hl 3 rfl) ?_
      refine lv_iload_n hx hb dX6_readNumber_116 rfl (lv_at hl 1 rfl) ?_
      refine lv_icmp_lt (tgt := 125) hx hb dX6_readNumber_117 (by decide) (fun c42 => ?_) (fun c42 => ?_)
      · have c42 : v102_3.toInt < (1 : Int) := wk_lt.mp c42
        replace hM := hM.pos c42
        exact J125 v102_3 f102_1_1 f102_1_2 f102_1_3 H locs ls w25 (show 0 ≤ f102_1_1.toInt by omega) (show f102_1_1.toInt ≤ 400 by omega) (show 1 ≤ f102_1_2.toInt by omega) (show f102_1_2.toInt ≤ 400 by omega) (show 0 ≤ f102_1_3.toInt by omega) (show f102_1_3.toInt ≤ 399 by omega)  hw hT hF c28 c31 c34 c35 hM (lv_sub hl [0, 1, 2, 3] rfl)
      · have c42 : (1 : Int) ≤ v102_3.toInt := wk_ltF c42
        replace hM := hM.neg (Int.not_lt.mpr c42)
        refine lv_iload_n hx hb dX6_readNumber_120 rfl (lv_at hl 3 rfl) ?_
        refine lv_iload_n hx hb dX6_readNumber_121 rfl (lv_at hl 2 rfl) ?_
        refine lv_icmp_le (tgt := 136) hx hb dX6_readNumber_122 (by decide) (fun c43 => ?_) (fun c43 => ?_)
        · have c43 : v102_3.toInt ≤ (9 : Int) := wk_le.mp c43
          replace hM := hM.pos c43
          refine lv_iload_n hx hb dX6_readNumber_136 rfl (lv_at hl 3 rfl) ?_
          exact tk_iret hC hr hlocks hK ⟨hT, hF, hM.ret rfl, (Or.inl ⟨(show 1 ≤ v102_3.toInt by omega), (show v102_3.toInt ≤ 9 by omega), ⟨f102_1_2, c31, (show 1 ≤ f102_1_2.toInt by omega), (show f102_1_2.toInt ≤ 400 by omega)⟩, ⟨f102_1_3, c34, (show 0 ≤ f102_1_3.toInt by omega), (show f102_1_3.toInt ≤ 399 by omega)⟩, ⟨0, c35, (by decide), (by decide)⟩⟩)⟩ hw dX6_readNumber_137
        · have c43 : (9 : Int) < v102_3.toInt := wk_leF c43
          replace hM := hM.neg (Int.not_le.mpr c43)
          exact J125 v102_3 f102_1_1 f102_1_2 f102_1_3 H locs ls w25 (show 0 ≤ f102_1_1.toInt by omega) (show f102_1_1.toInt ≤ 400 by omega) (show 1 ≤ f102_1_2.toInt by omega) (show f102_1_2.toInt ≤ 400 by omega) (show 0 ≤ f102_1_3.toInt by omega) (show f102_1_3.toInt ≤ 399 by omega)  hw hT hF c28 c31 c34 c35 hM (lv_sub hl [0, 1, 2, 3] rfl)
  have L32 : ∀ (n32 : Nat) (v32_3 : Int32) (f32_1_1 : Int32) (f32_1_2 : Int32) (f32_1_3 : Int32) (H : Heap) (locs : List Loc) (ls : Array Slot) (w44 : va_W), 0 ≤ f32_1_1.toInt → f32_1_1.toInt ≤ 400 → 1 ≤ f32_1_2.toInt → f32_1_2.toInt ≤ 400 → 0 ≤ f32_1_3.toInt → f32_1_3.toInt ≤ 399 → (400 - f32_1_1.toInt).toNat < n32 → Wd dC dI A s.heap H locs w44 → TW ksC ad cy B qr s1 w44 → FE ksC [(6, 1, 1), (6, 3, 3), (6, 4, 4)] w0 w44 → gi w44 1 1 = f32_1_1 → gi w44 1 2 = f32_1_2 → gi w44 1 3 = f32_1_3 → gi w44 1 4 = 0 → TT (fun n => m_X6_readNumber n 1 1 9 (sI w0)) (fun n => j_X6_readNumber 1 n 32 [(1 : Int), (9 : Int), v32_3.toInt] (sI w44)) → lv_has ls 4 [(0, .ref (ad 1)), (1, .int 1), (2, .int 9), (3, .int v32_3)] → W p l e ({ frames := 2, cells := 0, slots := 0, locals := 34 }) s m (List.toArray [.ref (ad 1), .int 1, .int 9]) below meth c H locs 0 0 (MQ below (va_Qi (Pz_X6_readNumber_4 ad cy B qr s1  w0) (fun u : va_W => wpost dC dI cy A u) A) (List.toArray [.ref (ad 1), .int 1, .int 9]) s 0 0 A) (F0 m 32 ls []) := by
    intro n32
    induction n32 with
    | zero => intro v32_3 f32_1_1 f32_1_2 f32_1_3 H locs ls w44 r45 t46 r48 t49 r51 t52 hm32 hw hT hF c47 c50 c53 c54 hM hl; omega
    | succ n32 ih32 =>
      intro v32_3 f32_1_1 f32_1_2 f32_1_3 H locs ls w44 r45 t46 r48 t49 r51 t52 hm32 hw hT hF c47 c50 c53 c54 hM hl
      have J89 : ∀ (v89_3 : Int32) (H : Heap) (locs : List Loc) (ls : Array Slot) (w55 : va_W), 0 ≤ f32_1_1.toInt → f32_1_1.toInt ≤ 399 → 1 ≤ f32_1_2.toInt → f32_1_2.toInt ≤ 400 → 0 ≤ f32_1_3.toInt → f32_1_3.toInt ≤ 399 → Wd dC dI A s.heap H locs w55 → TW ksC ad cy B qr s1 w55 → FE ksC [(6, 1, 1), (6, 3, 3), (6, 4, 4)] w0 w55 → gi w55 1 1 = f32_1_1 → gi w55 1 2 = f32_1_2 → gi w55 1 3 = f32_1_3 → gi w55 1 4 = 0 → TT (fun n => m_X6_readNumber n 1 1 9 (sI w0)) (fun n => b_X6_readNumber_89 (j_X6_readNumber 1 n) n 1 (1 : Int) (9 : Int) (v89_3.toInt) (sI w55)) → lv_has ls 4 [(0, .ref (ad 1)), (1, .int 1), (2, .int 9), (3, .int v89_3)] → W p l e ({ frames := 2, cells := 0, slots := 0, locals := 34 }) s m (List.toArray [.ref (ad 1), .int 1, .int 9]) below meth c H locs 0 0 (MQ below (va_Qi (Pz_X6_readNumber_4 ad cy B qr s1  w0) (fun u : va_W => wpost dC dI cy A u) A) (List.toArray [.ref (ad 1), .int 1, .int 9]) s 0 0 A) (F0 m 89 ls []) := by
        intro v89_3 H locs ls w55 r56 t57 r59 t60 r62 t63 hw hT hF c58 c61 c64 c65 hM hl
        refine lv_aload_n hx hb dX6_readNumber_89 rfl (lv_at hl 0 rfl) ?_
        refine lv_dup hx hb dX6_readNumber_90 rfl ?_
        refine tk_geti hC hK hw hT hinX6 kC_at1 (by decide) rfl 1 (by decide) (List.mem_cons_of_mem _ uw_9_16) rfl rfl dX6_readNumber_91 (fun x66 c67 rx66 tx66 => ?_)
        refine wk_top f32_1_1 (c67.symm.trans c58) ?_
        replace hM := hM.rd (sI_at c58)
        refine lv_iconst (v := 1) hx hb dX6_readNumber_94 (by decide) ?_
        refine lv_iadd hx hb dX6_readNumber_95 ?_
        refine lv_topi (fun x68 ex68 => ?_)
        have ezx68 := ex68
        have ex68 : x68.toInt = f32_1_1.toInt + (1 : Int) := by rw [ex68]; exact wk_add (show (-2147483648) ≤ f32_1_1.toInt + (1 : Int) by omega) (show f32_1_1.toInt + (1 : Int) ≤ 2147483647 by omega)
        replace hM := hM.lt ex68.symm
        refine tk_puti hC hK hw hT hinX6 tyX6_ok nmX6 kC_at1 (by decide) rfl rfl 1 (by decide) (List.mem_cons_of_mem _ uw_9_16) rfl rfl rfl rfl (show 0 ≤ x68.toInt by omega) (show x68.toInt ≤ 400 by omega) dX6_readNumber_96 (fun H locs w69 hw hT k71 c70 => ?_)
        replace hM := hM.wr (sI_up k71 c70)
        have hF := hF.put kC_at1 (k := 1) (by decide) k71
        have c72 := k71.gi (Or.inr (by decide)) c61
        have c73 := k71.gi (Or.inr (by decide)) c64
        have c74 := k71.gi (Or.inr (by decide)) c65
        refine lv_goto (tgt := 32) hx hb dX6_readNumber_99 (by decide) ?_
        exact ih32 v89_3 x68 f32_1_2 f32_1_3 H locs ls w69 (show 0 ≤ x68.toInt by omega) (show x68.toInt ≤ 400 by omega) (show 1 ≤ f32_1_2.toInt by omega) (show f32_1_2.toInt ≤ 400 by omega) (show 0 ≤ f32_1_3.toInt by omega) (show f32_1_3.toInt ≤ 399 by omega) (show (400 - x68.toInt).toNat < n32 by omega) hw hT hF c70 c72 c73 c74 hM (lv_sub hl [0, 1, 2, 3] rfl)
      replace hM := hM.suc (fun _ => e_X6_readNumber_32)
      refine lv_aload_n hx hb dX6_readNumber_32 rfl (lv_at hl 0 rfl) ?_
      refine tk_geti hC hK hw hT hinX6 kC_at1 (by decide) rfl 1 (by decide) (List.mem_cons_of_mem _ uw_9_16) rfl rfl dX6_readNumber_33 (fun x75 c76 rx75 tx75 => ?_)
      refine wk_top f32_1_1 (c76.symm.trans c47) ?_
      replace hM := hM.rd (sI_at c47)
      refine lv_aload_n hx hb dX6_readNumber_36 rfl (lv_at hl 0 rfl) ?_
      refine tk_geti hC hK hw hT hinX6 kC_at1 (by decide) rfl 2 (by decide) (List.mem_cons_of_mem _ uw_7_22) rfl rfl dX6_readNumber_37 (fun x77 c78 rx77 tx77 => ?_)
      refine wk_top f32_1_2 (c78.symm.trans c50) ?_
      replace hM := hM.rd (sI_at c50)
      refine lv_icmp_ge (tgt := 102) hx hb dX6_readNumber_40 (by decide) (fun c79 => ?_) (fun c79 => ?_)
      · have c79 : f32_1_2.toInt ≤ f32_1_1.toInt := wk_le.mp c79
        replace hM := hM.pos c79
        exact J102 v32_3 f32_1_1 f32_1_2 f32_1_3 H locs ls w44 (show 0 ≤ f32_1_1.toInt by omega) (show f32_1_1.toInt ≤ 400 by omega) (show 1 ≤ f32_1_2.toInt by omega) (show f32_1_2.toInt ≤ 400 by omega) (show 0 ≤ f32_1_3.toInt by omega) (show f32_1_3.toInt ≤ 399 by omega)  hw hT hF c47 c50 c53 c54 hM (lv_sub hl [0, 1, 2, 3] rfl)
      · have c79 : f32_1_1.toInt < f32_1_2.toInt := wk_leF c79
        replace hM := hM.neg (Int.not_le.mpr c79)
        refine lv_aload_n hx hb dX6_readNumber_43 rfl (lv_at hl 0 rfl) ?_
        refine tk_getA hC hK hw hT hinX6 kC_at1 (by decide) rfl 0 (by decide) (List.mem_cons_of_mem _ uw_2_12) rfl rfl dX6_readNumber_44 ?_
        refine lv_aload_n hx hb dX6_readNumber_47 rfl (lv_at hl 0 rfl) ?_
        refine tk_geti hC hK hw hT hinX6 kC_at1 (by decide) rfl 1 (by decide) (List.mem_cons_of_mem _ uw_9_16) rfl rfl dX6_readNumber_48 (fun x80 c81 rx80 tx80 => ?_)
        refine wk_top f32_1_1 (c81.symm.trans c47) ?_
        replace hM := hM.rd (sI_at c47)
        refine tk_iald hC hK hw hT kC_at2 rfl rfl (show 0 ≤ f32_1_1.toInt by omega) (show f32_1_1.toInt < 400 by omega) dX6_readNumber_51 (fun x82 c83 rx82 tx82 => ?_)
        have hox82 := c83
        replace hM := hM.rd (sI_at hox82)
        refine tk_Si hC hK hw hT hA hE hSR (kz_X6_isDigit_1 l adK adV dC dI cy ad B (by omega) (by omega) qr s1   x82 (show 0 ≤ x82.toInt by omega) (show x82.toInt ≤ 255 by omega) w44 H.size hT ) (va_cwS 1 hC.2.2.2.2 uS_RX6_64 rfl rfl rfl (by decide +kernel) ⟨Nat.le_of_ble_eq_true rfl, Nat.le_of_ble_eq_true rfl⟩) rfl hl.1 rfl (Nat.le_of_ble_eq_true rfl) dX6_readNumber_52 (fun r84 w86 H locs hp85 hw => ?_)
        obtain ⟨hT, k87, hv91, hg90⟩ := hp85
        have hF := hF.tr k87 (by decide)
        have c92 := k87.gi kC_at1 (by decide) c47
        have c93 := k87.gi kC_at1 (by decide) c50
        have c94 := k87.gi kC_at1 (by decide) c53
        have c95 := k87.gi kC_at1 (by decide) c54
        rcases hg90 with rfl | ⟨rfl, g88, g89⟩
        · replace hM := hM.call (r' := 0) hv91 (by decide)
          refine lv_if_eq (tgt := 102) hx hb dX6_readNumber_55 (by decide) (fun _ => ?_) (fun c => absurd (by decide) c)
          replace hM := hM.pos (by decide)
          exact J102 v32_3 f32_1_1 f32_1_2 f32_1_3 H locs ls w86 (show 0 ≤ f32_1_1.toInt by omega) (show f32_1_1.toInt ≤ 400 by omega) (show 1 ≤ f32_1_2.toInt by omega) (show f32_1_2.toInt ≤ 400 by omega) (show 0 ≤ f32_1_3.toInt by omega) (show f32_1_3.toInt ≤ 399 by omega)  hw hT hF c92 c93 c94 c95 hM (lv_sub hl [0, 1, 2, 3] rfl)
        · replace hM := hM.call (r' := 1) hv91 (by decide)
          refine lv_if_eq (tgt := 102) hx hb dX6_readNumber_55 (by decide) (fun c => absurd c (by decide)) (fun _ => ?_)
          replace hM := hM.neg (by decide)
          refine lv_aload_n hx hb dX6_readNumber_58 rfl (lv_at hl 0 rfl) ?_
          refine tk_geti hC hK hw hT hinX6 kC_at1 (by decide) rfl 1 (by decide) (List.mem_cons_of_mem _ uw_9_16) rfl rfl dX6_readNumber_59 (fun x96 c97 rx96 tx96 => ?_)
          refine wk_top f32_1_1 (c97.symm.trans c92) ?_
          replace hM := hM.rd (sI_at c92)
          refine lv_aload_n hx hb dX6_readNumber_62 rfl (lv_at hl 0 rfl) ?_
          refine tk_geti hC hK hw hT hinX6 kC_at1 (by decide) rfl 3 (by decide) (List.mem_cons_of_mem _ uw_9_17) rfl rfl dX6_readNumber_63 (fun x98 c99 rx98 tx98 => ?_)
          refine wk_top f32_1_3 (c99.symm.trans c94) ?_
          replace hM := hM.rd (sI_at c94)
          refine lv_isub hx hb dX6_readNumber_66 ?_
          refine lv_topi (fun x100 ex100 => ?_)
          have ezx100 := ex100
          have ex100 : x100.toInt = f32_1_1.toInt - f32_1_3.toInt := by rw [ex100]; exact wk_sub (show (-2147483648) ≤ f32_1_1.toInt - f32_1_3.toInt by omega) (show f32_1_1.toInt - f32_1_3.toInt ≤ 2147483647 by omega)
          replace hM := hM.lt ex100.symm
          refine lv_iconst (v := 5) hx hb dX6_readNumber_67 (by decide) ?_
          refine lv_icmp_ge (tgt := 89) hx hb dX6_readNumber_68 (by decide) (fun c101 => ?_) (fun c101 => ?_)
          · have c101 : (5 : Int) ≤ x100.toInt := wk_le.mp c101
            replace hM := hM.pos c101
            exact J89 v32_3 H locs ls w86 (show 0 ≤ f32_1_1.toInt by omega) (show f32_1_1.toInt ≤ 399 by omega) (show 1 ≤ f32_1_2.toInt by omega) (show f32_1_2.toInt ≤ 400 by omega) (show 0 ≤ f32_1_3.toInt by omega) (show f32_1_3.toInt ≤ 399 by omega)  hw hT hF c92 c93 c94 c95 hM (lv_sub hl [0, 1, 2, 3] rfl)
          · have c101 : x100.toInt < (5 : Int) := wk_leF c101
            replace hM := hM.neg (Int.not_le.mpr c101)
            refine lv_iload_n hx hb dX6_readNumber_71 rfl (lv_at hl 3 rfl) ?_
            refine lv_bipush (v := 10) hx hb dX6_readNumber_72 (by decide) ?_
            refine lv_imul hx hb dX6_readNumber_74 ?_
            have nx102 := wk_i32 v32_3
            refine lv_topi (fun x103 ex103 => ?_)
            have ezx103 := ex103
            replace hM := hM.lt (o32_e (f := fun x y => x * y) ezx103 rfl (by decide))
            refine lv_aload_n hx hb dX6_readNumber_75 rfl (lv_at hl 0 rfl) ?_
            refine tk_getA hC hK hw hT hinX6 kC_at1 (by decide) rfl 0 (by decide) (List.mem_cons_of_mem _ uw_2_12) rfl rfl dX6_readNumber_76 ?_
            refine lv_aload_n hx hb dX6_readNumber_79 rfl (lv_at hl 0 rfl) ?_
            refine tk_geti hC hK hw hT hinX6 kC_at1 (by decide) rfl 1 (by decide) (List.mem_cons_of_mem _ uw_9_16) rfl rfl dX6_readNumber_80 (fun x104 c105 rx104 tx104 => ?_)
            refine wk_top f32_1_1 (c105.symm.trans c92) ?_
            replace hM := hM.rd (sI_at c92)
            refine tk_iald hC hK hw hT kC_at2 rfl rfl (show 0 ≤ f32_1_1.toInt by omega) (show f32_1_1.toInt < 400 by omega) dX6_readNumber_83 (fun x106 c107 rx106 tx106 => ?_)
            have hox106 := c107
            replace hM := hM.rd (sI_at hox106)
            refine lv_iadd hx hb dX6_readNumber_84 ?_
            have nx108 := wk_i32 x103
            refine lv_topi (fun x109 ex109 => ?_)
            have ezx109 := ex109
            replace hM := hM.lt (o32_e (f := fun x y => x + y) ezx109 rfl rfl)
            refine lv_bipush (v := 48) hx hb dX6_readNumber_85 (by decide) ?_
            refine lv_isub hx hb dX6_readNumber_87 ?_
            have nx110 := wk_i32 x109
            refine lv_topi (fun x111 ex111 => ?_)
            have ezx111 := ex111
            replace hM := hM.lt (o32_e (f := fun x y => x - y) ezx111 rfl (by decide))
            refine lv_istore_n (lv' := [(3, .int x111), (0, .ref (ad 1)), (1, .int 1), (2, .int 9)]) hx hb dX6_readNumber_88 rfl hl (by decide) rfl (fun ls hl => ?_)
            exact J89 x111 H locs ls w86 (show 0 ≤ f32_1_1.toInt by omega) (show f32_1_1.toInt ≤ 399 by omega) (show 1 ≤ f32_1_2.toInt by omega) (show f32_1_2.toInt ≤ 400 by omega) (show 0 ≤ f32_1_3.toInt by omega) (show f32_1_3.toInt ≤ 399 by omega)  hw hT hF c92 c93 c94 c95 hM (lv_sub hl [1, 2, 3, 0] rfl)
  have hM : TT (fun n => m_X6_readNumber n 1 1 9 (sI w0)) (fun n => m_X6_readNumber n 1 1 9 (sI w0)) := TT.rf
  refine lv_aload_n hx hb dX6_readNumber_0 rfl (lv_at hl 0 rfl) ?_
  refine tk_Vi hC hK hw hT hA hE hSR kC_at1 (by decide) rfl (kz_X6_isFaulty_2 l adK adV dC dI cy ad B (by omega) (by omega) qr s1    w0 s.heap.size hT cf0_) (cwV 0 hC.2.2.2.2 uV_RX6_39 rfl rfl rfl (by decide +kernel) ⟨Nat.le_of_ble_eq_true rfl, Nat.le_of_ble_eq_true rfl⟩) rfl hl.1 rfl (Nat.le_of_ble_eq_true rfl) dX6_readNumber_1 (fun r112 w114 H locs hp113 hw => ?_)
  obtain ⟨hT, k115, hv119, hg118⟩ := hp113
  have hF := hF.tr k115 (by decide)
  have c120 := k115.gi kC_at1 (by decide) cf0_
  obtain ⟨rfl, ⟨x116, c117, rx116, tx116⟩⟩ := hg118
  replace hM := hM.call (r' := 0) hv119 (by decide)
  have ex116 : x116.toInt = (0 : Int) := by rw [show x116 = 0 from c117.symm.trans c120]; decide
  refine lv_if_eq (tgt := 9) hx hb dX6_readNumber_4 (by decide) (fun _ => ?_) (fun c => absurd (by decide) c)
  replace hM := hM.pos (by decide)
  refine lv_aload_n hx hb dX6_readNumber_9 rfl (lv_at hl 0 rfl) ?_
  refine tk_Vi hC hK hw hT hA hE hSR kC_at1 (by decide) rfl (kz_X6_lookBehindBlanks_1 l adK adV dC dI cy ad B (by omega) (by omega) qr s1    w114 H.size hT ) (cwV 0 hC.2.2.2.2 uV_RX6_28 rfl rfl rfl (by decide +kernel) ⟨Nat.le_of_ble_eq_true rfl, Nat.le_of_ble_eq_true rfl⟩) rfl hl.1 rfl (Nat.le_of_ble_eq_true rfl) dX6_readNumber_10 (fun r121 w123 H locs hp122 hw => ?_)
  obtain ⟨hT, k124, hv134, hg133⟩ := hp122
  have hF := hF.tr k124 (by decide)
  have c135 := k124.gi kC_at1 (by decide) c120
  rcases hg133 with ⟨g125, g126, ⟨x127, c128, rx127, tx127⟩, ⟨x129, c130, rx129, tx129⟩, ⟨x131, c132, rx131, tx131⟩⟩ | rfl
  · replace hM := hM.call hv134 rfl
    refine tk_Si hC hK hw hT hA hE hSR (kz_X6_isDigit_1 l adK adV dC dI cy ad B (by omega) (by omega) qr s1   r121 (show 0 ≤ r121.toInt by omega) (show r121.toInt ≤ 255 by omega) w123 H.size hT ) (va_cwS 1 hC.2.2.2.2 uS_RX6_64 rfl rfl rfl (by decide +kernel) ⟨Nat.le_of_ble_eq_true rfl, Nat.le_of_ble_eq_true rfl⟩) rfl hl.1 rfl (Nat.le_of_ble_eq_true rfl) dX6_readNumber_13 (fun r136 w138 H locs hp137 hw => ?_)
    obtain ⟨hT, k139, hv143, hg142⟩ := hp137
    have hF := hF.tr k139 (by decide)
    have c144 := k139.gi kC_at1 (by decide) c135
    have c145 := k139.gi kC_at1 (by decide) c128
    have c146 := k139.gi kC_at1 (by decide) c130
    have c147 := k139.gi kC_at1 (by decide) c132
    rcases hg142 with rfl | ⟨rfl, g140, g141⟩
    · replace hM := hM.call (r' := 0) hv143 (by decide)
      refine lv_if_ne (tgt := 30) hx hb dX6_readNumber_16 (by decide) (fun c => absurd (by decide) c) (fun _ => ?_)
      replace hM := hM.neg (by decide)
      refine lv_aload_n hx hb dX6_readNumber_19 rfl (lv_at hl 0 rfl) ?_
      refine lv_aload_n hx hb dX6_readNumber_20 rfl (lv_at hl 0 rfl) ?_
      refine tk_geti hC hK hw hT hinX6 kC_at1 (by decide) rfl 3 (by decide) (List.mem_cons_of_mem _ uw_9_17) rfl rfl dX6_readNumber_21 (fun x148 c149 rx148 tx148 => ?_)
      refine wk_top x131 (c149.symm.trans c147) ?_
      replace hM := hM.rd (sI_at c147)
      refine lv_iconst (v := 0) hx hb dX6_readNumber_24 (by decide) ?_
      refine tk_Vv hC hK hw hT hA hE hSR kC_at1 (by decide) rfl (kz_X6_blame_2 l adK adV dC dI cy ad B (by omega) (by omega) qr s1   x131 (show 0 ≤ x131.toInt by omega) (show x131.toInt ≤ 400 by omega) 0 (by decide) (by decide) w138 H.size hT c144) (cwV 2 hC.2.2.2.2 uV_RX6_35 rfl rfl rfl (by decide +kernel) ⟨Nat.le_of_ble_eq_true rfl, Nat.le_of_ble_eq_true rfl⟩) rfl hl.1 rfl (Nat.le_of_ble_eq_true rfl) dX6_readNumber_25 (fun w152 H locs hp151 hw => ?_)
      obtain ⟨hT, k153, hv157, hg156⟩ := hp151
      try simp only [show (0 : Int32).toInt = 0 by decide] at hv157
      have hF := hF.tr k153 (by decide)
      have c158 := k153.gi kC_at1 (by decide) c145
      have c159 := k153.gi kC_at1 (by decide) c146
      have c160 := k153.gi kC_at1 (by decide) c147
      obtain ⟨x154, c155, rx154, tx154⟩ := hg156
      replace hM := hM.call hv157 rfl
      refine lv_iconst (v := (-1)) hx hb dX6_readNumber_28 (by decide) ?_
      exact tk_iret hC hr hlocks hK ⟨hT, hF, hM.ret (by decide), (Or.inr ⟨rfl, ⟨x154, c155, (show 1 ≤ x154.toInt by omega), (show x154.toInt ≤ 3205 by omega)⟩⟩)⟩ hw dX6_readNumber_29
    · replace hM := hM.call (r' := 1) hv143 (by decide)
      refine lv_if_ne (tgt := 30) hx hb dX6_readNumber_16 (by decide) (fun _ => ?_) (fun c => absurd c (by decide))
      replace hM := hM.pos (by decide)
      refine lv_iconst (v := 0) hx hb dX6_readNumber_30 (by decide) ?_
      refine lv_istore_n (lv' := [(3, .int 0), (0, .ref (ad 1)), (1, .int 1), (2, .int 9)]) hx hb dX6_readNumber_31 rfl hl (by decide) rfl (fun ls hl => ?_)
      exact L32 ((400 - x127.toInt).toNat + 1) 0 x127 x129 x131 H locs ls w138 (show 0 ≤ x127.toInt by omega) (show x127.toInt ≤ 400 by omega) (show 1 ≤ x129.toInt by omega) (show x129.toInt ≤ 400 by omega) (show 0 ≤ x131.toInt by omega) (show x131.toInt ≤ 399 by omega) (Nat.lt_succ_self _) hw hT hF c145 c146 c147 c144 hM (lv_sub hl [1, 2, 3, 0] rfl)
  · replace hM := hM.call (r' := (-1)) hv134 (by decide)
    refine tk_Si hC hK hw hT hA hE hSR (kz_X6_isDigit_2 l adK adV dC dI cy ad B (by omega) (by omega) qr s1    w123 H.size hT ) (va_cwS 1 hC.2.2.2.2 uS_RX6_64 rfl rfl rfl (by decide +kernel) ⟨Nat.le_of_ble_eq_true rfl, Nat.le_of_ble_eq_true rfl⟩) rfl hl.1 rfl (Nat.le_of_ble_eq_true rfl) dX6_readNumber_13 (fun r161 w163 H locs hp162 hw => ?_)
    obtain ⟨hT, k164, hv166, hg165⟩ := hp162
    have hF := hF.tr k164 (by decide)
    have c167 := k164.gi kC_at1 (by decide) c135
    obtain rfl := hg165
    replace hM := hM.call (r' := 0) hv166 (by decide)
    refine lv_if_ne (tgt := 30) hx hb dX6_readNumber_16 (by decide) (fun c => absurd (by decide) c) (fun _ => ?_)
    replace hM := hM.neg (by decide)
    refine lv_aload_n hx hb dX6_readNumber_19 rfl (lv_at hl 0 rfl) ?_
    refine lv_aload_n hx hb dX6_readNumber_20 rfl (lv_at hl 0 rfl) ?_
    refine tk_geti hC hK hw hT hinX6 kC_at1 (by decide) rfl 3 (by decide) (List.mem_cons_of_mem _ uw_9_17) rfl rfl dX6_readNumber_21 (fun x168 c169 rx168 tx168 => ?_)
    replace hM := hM.rd (sI_at c169)
    refine lv_iconst (v := 0) hx hb dX6_readNumber_24 (by decide) ?_
    refine tk_Vv hC hK hw hT hA hE hSR kC_at1 (by decide) rfl (kz_X6_blame_2 l adK adV dC dI cy ad B (by omega) (by omega) qr s1   x168 (show 0 ≤ x168.toInt by omega) (show x168.toInt ≤ 400 by omega) 0 (by decide) (by decide) w163 H.size hT c167) (cwV 2 hC.2.2.2.2 uV_RX6_35 rfl rfl rfl (by decide +kernel) ⟨Nat.le_of_ble_eq_true rfl, Nat.le_of_ble_eq_true rfl⟩) rfl hl.1 rfl (Nat.le_of_ble_eq_true rfl) dX6_readNumber_25 (fun w172 H locs hp171 hw => ?_)
    obtain ⟨hT, k173, hv177, hg176⟩ := hp171
    try simp only [show (0 : Int32).toInt = 0 by decide] at hv177
    have hF := hF.tr k173 (by decide)
    have c178 := k173.gi kC_at1 (by decide) c169
    obtain ⟨x174, c175, rx174, tx174⟩ := hg176
    replace hM := hM.call hv177 rfl
    refine lv_iconst (v := (-1)) hx hb dX6_readNumber_28 (by decide) ?_
    exact tk_iret hC hr hlocks hK ⟨hT, hF, hM.ret (by decide), (Or.inr ⟨rfl, ⟨x174, c175, (show 1 ≤ x174.toInt by omega), (show x174.toInt ≤ 3205 by omega)⟩⟩)⟩ hw dX6_readNumber_29
abbrev Pz_X7_placeStreet_1 (ad : Nat → Nat) (cy : Nat → ClassId) (B : Int) (qr : Nat) (s1 : Int) (a1 : Int32) (a2 : Int32) (a3 : Int32) (a4 : Int32) (w0 : va_W) : va_W → Prop := fun u => TW ksC ad cy B qr s1 u ∧ FE ksC [(24, 0, 26), (25, 0, 13), (27, 0, 13), (28, 0, 26)] w0 u ∧ Ev (fun n => m_X7_placeStreet n 29 a1.toInt a2.toInt a3.toInt a4.toInt (sI w0)) (0, sI u) ∧ ((True))
set_option maxHeartbeats 4000000 in
set_option maxRecDepth 100000 in
theorem kz_X7_placeStreet_1 (l : Launch) (adK adV : Nat → Nat) (dC : Nat → ClassId) (dI : Nat → Nat → Nat) (cy : Nat → ClassId) (ad : Nat → Nat) (B : Int) (hB0 : 2147483648 ≤ B) (hB1 : B ≤ 1152921504606846976) (qr : Nat) (s1 : Int)  (a1 : Int32) (ra1 : 0 ≤ a1.toInt) (ta1 : a1.toInt ≤ 11) (a2 : Int32) (ra2 : 0 ≤ a2.toInt) (ta2 : a2.toInt ≤ 9) (a3 : Int32) (ra3 : 0 ≤ a3.toInt) (ta3 : a3.toInt ≤ 9) (a4 : Int32) (ra4 : 1 ≤ a4.toInt) (ta4 : a4.toInt ≤ 9) (w0 : va_W) (sz : Nat) (hT : TW ksC ad cy B qr s1 w0)  : Met l yX7_placeStreet (wu yX7_placeStreet cX7_placeStreet 5 none) ({ frames := 1, cells := 0, slots := 0, locals := 12 }) (va_Pc [.ref (ad 29), .int a1, .int a2, .int a3, .int a4] (wpreS adK adV dC dI cy sz w0)) (va_Qv (Pz_X7_placeStreet_1 ad cy B qr s1 a1 a2 a3 a4 w0) (fun u : va_W => wpost dC dI cy (va_A w0 sz) u) (va_A w0 sz)) 0 0 (va_A w0 sz) := by
  refine Met.ofW (cc := cX7_placeStreet) (maxL := 5) (ret := none) (by decide) rfl ?_
  intro p e s m args below meth c s₁ Bk hml hv
  obtain ⟨rfl, ⟨hsz, hP, hK, hD0⟩, hE, hSR⟩ := hv
  have hx := Bk.exec
  have hb := Bk.bytes
  have hr := Bk.returns
  have hlocks := Bk.notSynchronized
  have hC : CallFix p m c cX7_placeStreet 5 s _ (wu yX7_placeStreet cX7_placeStreet 5 none) RX7 := ⟨hx, hb, hml, findClass_of_methodNamed Bk.named, atoms_spec (ws := (wu yX7_placeStreet cX7_placeStreet 5 none)) Bk.pre⟩
  subst hsz
  have hD := hD0.self (sz := s.heap.size)
  generalize hAe : va_A w0 s.heap.size = A at hD hE ⊢
  have hA : ∀ q : Nat, s.heap.size ≤ q → A q := fun q h => by rw [← hAe]; exact Or.inr h
  have hw : Wd dC dI A s.heap s.heap [] w0 := ⟨hP, hD, va_S.rf⟩
  have hF : FE ksC [(24, 0, 26), (25, 0, 13), (27, 0, 13), (28, 0, 26)] w0 w0 := FE.rf
  have hl := lv_entry ([.ref (ad 29), .int a1, .int a2, .int a3, .int a4]) (n := 5) (Nat.le_of_ble_eq_true rfl)
  rw [lg_entry_eq]
  generalize (lg_sl ([.ref (ad 29), .int a1, .int a2, .int a3, .int a4]) ++ List.replicate (5 - (lg_sl ([.ref (ad 29), .int a1, .int a2, .int a3, .int a4])).length) Slot.unset).toArray = ls at hl ⊢
  have hl : lv_has ls 5 [(0, .ref (ad 29)), (1, .int a1), (2, .int a2), (3, .int a3), (4, .int a4)] := hl
  generalize hloc : ([] : List Loc) = locs at hw ⊢
  have hinX7 : ∀ w ∈ u_ws RX7 TX7 12, w ∈ (wu yX7_placeStreet cX7_placeStreet 5 none) := fun _ h => List.mem_cons_of_mem _ (up_73 h)
  have hM : TT (fun n => m_X7_placeStreet n 29 a1.toInt a2.toInt a3.toInt a4.toInt (sI w0)) (fun n => m_X7_placeStreet n 29 a1.toInt a2.toInt a3.toInt a4.toInt (sI w0)) := TT.rf
  refine lv_aload_n hx hb dX7_placeStreet_0 rfl (lv_at hl 0 rfl) ?_
  refine tk_getO hC hK hw hT hinX7 kC_at29 (by decide) rfl 0 (by decide) (List.mem_cons_of_mem _ uw_2_17) rfl rfl dX7_placeStreet_1 ?_
  refine lv_iconst (v := 2) hx hb dX7_placeStreet_4 (by decide) ?_
  refine lv_iload_n hx hb dX7_placeStreet_5 rfl (lv_at hl 1 rfl) ?_
  refine lv_imul hx hb dX7_placeStreet_6 ?_
  refine lv_topi (fun x1 ex1 => ?_)
  have ezx1 := ex1
  have ex1 : x1.toInt = (2 : Int) * a1.toInt := by rw [ex1]; exact wk_mul (show (-2147483648) ≤ (2 : Int) * a1.toInt by omega) (show (2 : Int) * a1.toInt ≤ 2147483647 by omega)
  replace hM := hM.lt ex1.symm
  refine lv_iload_n hx hb dX7_placeStreet_7 rfl (lv_at hl 2 rfl) ?_
  refine tk_iast hC hK hw hT kC_at30 (by decide) rfl rfl (show 0 ≤ x1.toInt by omega) (show x1.toInt < 26 by omega) (show 0 ≤ a2.toInt by omega) (show a2.toInt ≤ 9 by omega) dX7_placeStreet_8 (fun H locs w2 hw hT k4 c3 => ?_)
  replace hM := hM.wr (sI_up k4 c3)
  have hF := hF.put kC_at30 (inE_of (a := 0) (b := 26) (by decide) (show 0 ≤ x1.toInt.toNat by omega) (show x1.toInt.toNat ≤ 26 by omega)) k4
  refine lv_aload_n hx hb dX7_placeStreet_9 rfl (lv_at hl 0 rfl) ?_
  refine tk_getO hC hK hw hT hinX7 kC_at29 (by decide) rfl 0 (by decide) (List.mem_cons_of_mem _ uw_2_17) rfl rfl dX7_placeStreet_10 ?_
  refine lv_iconst (v := 2) hx hb dX7_placeStreet_13 (by decide) ?_
  refine lv_iload_n hx hb dX7_placeStreet_14 rfl (lv_at hl 1 rfl) ?_
  refine lv_imul hx hb dX7_placeStreet_15 ?_
  refine lv_topi (fun x5 ex5 => ?_)
  have ezx5 := ex5
  have ex5 : x5.toInt = (2 : Int) * a1.toInt := by rw [ex5]; exact wk_mul (show (-2147483648) ≤ (2 : Int) * a1.toInt by omega) (show (2 : Int) * a1.toInt ≤ 2147483647 by omega)
  replace hM := hM.lt ex5.symm
  refine lv_iconst (v := 1) hx hb dX7_placeStreet_16 (by decide) ?_
  refine lv_iadd hx hb dX7_placeStreet_17 ?_
  refine lv_topi (fun x6 ex6 => ?_)
  have ezx6 := ex6
  have ex6 : x6.toInt = x5.toInt + (1 : Int) := by rw [ex6]; exact wk_add (show (-2147483648) ≤ x5.toInt + (1 : Int) by omega) (show x5.toInt + (1 : Int) ≤ 2147483647 by omega)
  replace hM := hM.lt ex6.symm
  refine lv_iload_n hx hb dX7_placeStreet_18 rfl (lv_at hl 3 rfl) ?_
  refine tk_iast hC hK hw hT kC_at30 (by decide) rfl rfl (show 0 ≤ x6.toInt by omega) (show x6.toInt < 26 by omega) (show 0 ≤ a3.toInt by omega) (show a3.toInt ≤ 9 by omega) dX7_placeStreet_19 (fun H locs w7 hw hT k9 c8 => ?_)
  replace hM := hM.wr (sI_up k9 c8)
  have hF := hF.put kC_at30 (inE_of (a := 0) (b := 26) (by decide) (show 0 ≤ x6.toInt.toNat by omega) (show x6.toInt.toNat ≤ 26 by omega)) k9
  refine lv_aload_n hx hb dX7_placeStreet_20 rfl (lv_at hl 0 rfl) ?_
  refine tk_getO hC hK hw hT hinX7 kC_at29 (by decide) rfl 1 (by decide) (List.mem_cons_of_mem _ uw_2_18) rfl rfl dX7_placeStreet_21 ?_
  refine lv_iload_n hx hb dX7_placeStreet_24 rfl (lv_at hl 1 rfl) ?_
  refine lv_iload hx hb dX7_placeStreet_25 (lv_at hl 4 rfl) ?_
  refine tk_iast hC hK hw hT kC_at31 (by decide) rfl rfl (show 0 ≤ a1.toInt by omega) (show a1.toInt < 13 by omega) (show 0 ≤ a4.toInt by omega) (show a4.toInt ≤ 9 by omega) dX7_placeStreet_27 (fun H locs w10 hw hT k12 c11 => ?_)
  replace hM := hM.wr (sI_up k12 c11)
  have hF := hF.put kC_at31 (inE_of (a := 0) (b := 13) (by decide) (show 0 ≤ a1.toInt.toNat by omega) (show a1.toInt.toNat ≤ 13 by omega)) k12
  refine lv_aload_n hx hb dX7_placeStreet_28 rfl (lv_at hl 0 rfl) ?_
  refine tk_getO hC hK hw hT hinX7 kC_at29 (by decide) rfl 3 (by decide) (List.mem_cons_of_mem _ uw_2_20) rfl rfl dX7_placeStreet_29 ?_
  refine lv_iload_n hx hb dX7_placeStreet_32 rfl (lv_at hl 1 rfl) ?_
  refine lv_iconst (v := 0) hx hb dX7_placeStreet_33 (by decide) ?_
  refine tk_iast hC hK hw hT kC_at33 (by decide) rfl rfl (show 0 ≤ a1.toInt by omega) (show a1.toInt < 13 by omega) (by decide) (by decide) dX7_placeStreet_34 (fun H locs w13 hw hT k15 c14 => ?_)
  replace hM := hM.wr (sI_upc k15 c14 (by decide))
  have hF := hF.put kC_at33 (inE_of (a := 0) (b := 13) (by decide) (show 0 ≤ a1.toInt.toNat by omega) (show a1.toInt.toNat ≤ 13 by omega)) k15
  refine lv_aload_n hx hb dX7_placeStreet_35 rfl (lv_at hl 0 rfl) ?_
  refine tk_getO hC hK hw hT hinX7 kC_at29 (by decide) rfl 4 (by decide) (List.mem_cons_of_mem _ uw_2_21) rfl rfl dX7_placeStreet_36 ?_
  refine lv_iconst (v := 2) hx hb dX7_placeStreet_39 (by decide) ?_
  refine lv_iload_n hx hb dX7_placeStreet_40 rfl (lv_at hl 1 rfl) ?_
  refine lv_imul hx hb dX7_placeStreet_41 ?_
  refine lv_topi (fun x16 ex16 => ?_)
  have ezx16 := ex16
  have ex16 : x16.toInt = (2 : Int) * a1.toInt := by rw [ex16]; exact wk_mul (show (-2147483648) ≤ (2 : Int) * a1.toInt by omega) (show (2 : Int) * a1.toInt ≤ 2147483647 by omega)
  replace hM := hM.lt ex16.symm
  refine lv_iconst (v := 0) hx hb dX7_placeStreet_42 (by decide) ?_
  refine tk_iast hC hK hw hT kC_at34 (by decide) rfl rfl (show 0 ≤ x16.toInt by omega) (show x16.toInt < 26 by omega) (by decide) (by decide) dX7_placeStreet_43 (fun H locs w17 hw hT k19 c18 => ?_)
  replace hM := hM.wr (sI_upc k19 c18 (by decide))
  have hF := hF.put kC_at34 (inE_of (a := 0) (b := 26) (by decide) (show 0 ≤ x16.toInt.toNat by omega) (show x16.toInt.toNat ≤ 26 by omega)) k19
  refine lv_aload_n hx hb dX7_placeStreet_44 rfl (lv_at hl 0 rfl) ?_
  refine tk_getO hC hK hw hT hinX7 kC_at29 (by decide) rfl 4 (by decide) (List.mem_cons_of_mem _ uw_2_21) rfl rfl dX7_placeStreet_45 ?_
  refine lv_iconst (v := 2) hx hb dX7_placeStreet_48 (by decide) ?_
  refine lv_iload_n hx hb dX7_placeStreet_49 rfl (lv_at hl 1 rfl) ?_
  refine lv_imul hx hb dX7_placeStreet_50 ?_
  refine lv_topi (fun x20 ex20 => ?_)
  have ezx20 := ex20
  have ex20 : x20.toInt = (2 : Int) * a1.toInt := by rw [ex20]; exact wk_mul (show (-2147483648) ≤ (2 : Int) * a1.toInt by omega) (show (2 : Int) * a1.toInt ≤ 2147483647 by omega)
  replace hM := hM.lt ex20.symm
  refine lv_iconst (v := 1) hx hb dX7_placeStreet_51 (by decide) ?_
  refine lv_iadd hx hb dX7_placeStreet_52 ?_
  refine lv_topi (fun x21 ex21 => ?_)
  have ezx21 := ex21
  have ex21 : x21.toInt = x20.toInt + (1 : Int) := by rw [ex21]; exact wk_add (show (-2147483648) ≤ x20.toInt + (1 : Int) by omega) (show x20.toInt + (1 : Int) ≤ 2147483647 by omega)
  replace hM := hM.lt ex21.symm
  refine lv_iconst (v := 0) hx hb dX7_placeStreet_53 (by decide) ?_
  refine tk_iast hC hK hw hT kC_at34 (by decide) rfl rfl (show 0 ≤ x21.toInt by omega) (show x21.toInt < 26 by omega) (by decide) (by decide) dX7_placeStreet_54 (fun H locs w22 hw hT k24 c23 => ?_)
  replace hM := hM.wr (sI_upc k24 c23 (by decide))
  have hF := hF.put kC_at34 (inE_of (a := 0) (b := 26) (by decide) (show 0 ≤ x21.toInt.toNat by omega) (show x21.toInt.toNat ≤ 26 by omega)) k24
  exact tk_vret hC hr hlocks hK ⟨hT, hF, hM.ret rfl, trivial⟩ hw dX7_placeStreet_55
abbrev Pz_X7_placeSign_1 (ad : Nat → Nat) (cy : Nat → ClassId) (B : Int) (qr : Nat) (s1 : Int) (a1 : Int32) (a2 : Int32) (a3 : Int32) (w0 : va_W) : va_W → Prop := fun u => TW ksC ad cy B qr s1 u ∧ FE ksC [(26, 0, 91), (28, 0, 26)] w0 u ∧ Ev (fun n => m_X7_placeSign n 29 a1.toInt a2.toInt a3.toInt (sI w0)) (0, sI u) ∧ ((True))
set_option maxHeartbeats 4000000 in
set_option maxRecDepth 100000 in
theorem kz_X7_placeSign_1 (l : Launch) (adK adV : Nat → Nat) (dC : Nat → ClassId) (dI : Nat → Nat → Nat) (cy : Nat → ClassId) (ad : Nat → Nat) (B : Int) (hB0 : 2147483648 ≤ B) (hB1 : B ≤ 1152921504606846976) (qr : Nat) (s1 : Int)  (a1 : Int32) (ra1 : 0 ≤ a1.toInt) (ta1 : a1.toInt ≤ 11) (a2 : Int32) (ra2 : 0 ≤ a2.toInt) (ta2 : a2.toInt ≤ 6) (a3 : Int32) (ra3 : 0 ≤ a3.toInt) (ta3 : a3.toInt ≤ 3) (w0 : va_W) (sz : Nat) (hT : TW ksC ad cy B qr s1 w0)  : Met l yX7_placeSign (wu yX7_placeSign cX7_placeSign 4 none) ({ frames := 1, cells := 0, slots := 0, locals := 12 }) (va_Pc [.ref (ad 29), .int a1, .int a2, .int a3] (wpreS adK adV dC dI cy sz w0)) (va_Qv (Pz_X7_placeSign_1 ad cy B qr s1 a1 a2 a3 w0) (fun u : va_W => wpost dC dI cy (va_A w0 sz) u) (va_A w0 sz)) 0 0 (va_A w0 sz) := by
  refine Met.ofW (cc := cX7_placeSign) (maxL := 4) (ret := none) (by decide) rfl ?_
  intro p e s m args below meth c s₁ Bk hml hv
  obtain ⟨rfl, ⟨hsz, hP, hK, hD0⟩, hE, hSR⟩ := hv
  have hx := Bk.exec
  have hb := Bk.bytes
  have hr := Bk.returns
  have hlocks := Bk.notSynchronized
  have hC : CallFix p m c cX7_placeSign 4 s _ (wu yX7_placeSign cX7_placeSign 4 none) RX7 := ⟨hx, hb, hml, findClass_of_methodNamed Bk.named, atoms_spec (ws := (wu yX7_placeSign cX7_placeSign 4 none)) Bk.pre⟩
  subst hsz
  have hD := hD0.self (sz := s.heap.size)
  generalize hAe : va_A w0 s.heap.size = A at hD hE ⊢
  have hA : ∀ q : Nat, s.heap.size ≤ q → A q := fun q h => by rw [← hAe]; exact Or.inr h
  have hw : Wd dC dI A s.heap s.heap [] w0 := ⟨hP, hD, va_S.rf⟩
  have hF : FE ksC [(26, 0, 91), (28, 0, 26)] w0 w0 := FE.rf
  have hl := lv_entry ([.ref (ad 29), .int a1, .int a2, .int a3]) (n := 4) (Nat.le_of_ble_eq_true rfl)
  rw [lg_entry_eq]
  generalize (lg_sl ([.ref (ad 29), .int a1, .int a2, .int a3]) ++ List.replicate (4 - (lg_sl ([.ref (ad 29), .int a1, .int a2, .int a3])).length) Slot.unset).toArray = ls at hl ⊢
  have hl : lv_has ls 4 [(0, .ref (ad 29)), (1, .int a1), (2, .int a2), (3, .int a3)] := hl
  generalize hloc : ([] : List Loc) = locs at hw ⊢
  have hinX7 : ∀ w ∈ u_ws RX7 TX7 12, w ∈ (wu yX7_placeSign cX7_placeSign 4 none) := fun _ h => List.mem_cons_of_mem _ (up_73 h)
  have hM : TT (fun n => m_X7_placeSign n 29 a1.toInt a2.toInt a3.toInt (sI w0)) (fun n => m_X7_placeSign n 29 a1.toInt a2.toInt a3.toInt (sI w0)) := TT.rf
  refine lv_aload_n hx hb dX7_placeSign_0 rfl (lv_at hl 0 rfl) ?_
  refine tk_getO hC hK hw hT hinX7 kC_at29 (by decide) rfl 2 (by decide) (List.mem_cons_of_mem _ uw_2_19) rfl rfl dX7_placeSign_1 ?_
  refine lv_bipush (v := 7) hx hb dX7_placeSign_4 (by decide) ?_
  refine lv_iload_n hx hb dX7_placeSign_6 rfl (lv_at hl 1 rfl) ?_
  refine lv_imul hx hb dX7_placeSign_7 ?_
  refine lv_topi (fun x1 ex1 => ?_)
  have ezx1 := ex1
  have ex1 : x1.toInt = (7 : Int) * a1.toInt := by rw [ex1]; exact wk_mul (show (-2147483648) ≤ (7 : Int) * a1.toInt by omega) (show (7 : Int) * a1.toInt ≤ 2147483647 by omega)
  replace hM := hM.lt ex1.symm
  refine lv_iload_n hx hb dX7_placeSign_8 rfl (lv_at hl 2 rfl) ?_
  refine lv_iadd hx hb dX7_placeSign_9 ?_
  refine lv_topi (fun x2 ex2 => ?_)
  have ezx2 := ex2
  have ex2 : x2.toInt = x1.toInt + a2.toInt := by rw [ex2]; exact wk_add (show (-2147483648) ≤ x1.toInt + a2.toInt by omega) (show x1.toInt + a2.toInt ≤ 2147483647 by omega)
  replace hM := hM.lt ex2.symm
  refine lv_iload_n hx hb dX7_placeSign_10 rfl (lv_at hl 3 rfl) ?_
  refine tk_iast hC hK hw hT kC_at32 (by decide) rfl rfl (show 0 ≤ x2.toInt by omega) (show x2.toInt < 91 by omega) (show 0 ≤ a3.toInt by omega) (show a3.toInt ≤ 3 by omega) dX7_placeSign_11 (fun H locs w3 hw hT k5 c4 => ?_)
  replace hM := hM.wr (sI_up k5 c4)
  have hF := hF.put kC_at32 (inE_of (a := 0) (b := 91) (by decide) (show 0 ≤ x2.toInt.toNat by omega) (show x2.toInt.toNat ≤ 91 by omega)) k5
  refine lv_aload_n hx hb dX7_placeSign_12 rfl (lv_at hl 0 rfl) ?_
  refine tk_getO hC hK hw hT hinX7 kC_at29 (by decide) rfl 4 (by decide) (List.mem_cons_of_mem _ uw_2_21) rfl rfl dX7_placeSign_13 ?_
  refine lv_iconst (v := 2) hx hb dX7_placeSign_16 (by decide) ?_
  refine lv_iload_n hx hb dX7_placeSign_17 rfl (lv_at hl 1 rfl) ?_
  refine lv_imul hx hb dX7_placeSign_18 ?_
  refine lv_topi (fun x6 ex6 => ?_)
  have ezx6 := ex6
  have ex6 : x6.toInt = (2 : Int) * a1.toInt := by rw [ex6]; exact wk_mul (show (-2147483648) ≤ (2 : Int) * a1.toInt by omega) (show (2 : Int) * a1.toInt ≤ 2147483647 by omega)
  replace hM := hM.lt ex6.symm
  refine lv_dup2_11 hx hb dX7_placeSign_19 rfl rfl ?_
  refine tk_iald hC hK hw hT kC_at34 rfl rfl (show 0 ≤ x6.toInt by omega) (show x6.toInt < 26 by omega) dX7_placeSign_20 (fun x7 c8 rx7 tx7 => ?_)
  have hox7 := c8
  replace hM := hM.rd (sI_at hox7)
  refine lv_iload_n hx hb dX7_placeSign_21 rfl (lv_at hl 3 rfl) ?_
  refine lv_iconst (v := 1) hx hb dX7_placeSign_22 (by decide) ?_
  refine lv_iand hx hb dX7_placeSign_23 ?_
  refine lv_topi (fun x9 ex9 => ?_)
  have ezx9 := ex9
  have bx9 : 0 ≤ x9.toInt ∧ x9.toInt ≤ (1 : Int) := by rw [ex9]; exact wk_and (by decide)
  replace hM := hM.lt (o32_e (f := fun x y => x &&& y) ezx9 rfl (by decide))
  refine lv_iload_n hx hb dX7_placeSign_24 rfl (lv_at hl 2 rfl) ?_
  refine lv_ishl hx hb dX7_placeSign_25 ?_
  refine lv_topi (fun x10 ex10 => ?_)
  have ezx10 := ex10
  replace hM := hM.lt (o32_e (f := fun x y => x <<< (y &&& 31)) ezx10 rfl rfl)
  refine lv_ior hx hb dX7_placeSign_26 ?_
  refine lv_topi (fun x11 ex11 => ?_)
  have ezx11 := ex11
  replace hM := hM.lt (o32_e (f := fun x y => x ||| y) ezx11 rfl rfl)
  refine tk_iast hC hK hw hT kC_at34 (by decide) rfl rfl (show 0 ≤ x6.toInt by omega) (show x6.toInt < 26 by omega) (wk_i32 x11).1 (wk_i32 x11).2 dX7_placeSign_27 (fun H locs w12 hw hT k14 c13 => ?_)
  replace hM := hM.wr (sI_up k14 c13)
  have hF := hF.put kC_at34 (inE_of (a := 0) (b := 26) (by decide) (show 0 ≤ x6.toInt.toNat by omega) (show x6.toInt.toNat ≤ 26 by omega)) k14
  refine lv_aload_n hx hb dX7_placeSign_28 rfl (lv_at hl 0 rfl) ?_
  refine tk_getO hC hK hw hT hinX7 kC_at29 (by decide) rfl 4 (by decide) (List.mem_cons_of_mem _ uw_2_21) rfl rfl dX7_placeSign_29 ?_
  refine lv_iconst (v := 2) hx hb dX7_placeSign_32 (by decide) ?_
  refine lv_iload_n hx hb dX7_placeSign_33 rfl (lv_at hl 1 rfl) ?_
  refine lv_imul hx hb dX7_placeSign_34 ?_
  refine lv_topi (fun x15 ex15 => ?_)
  have ezx15 := ex15
  have ex15 : x15.toInt = (2 : Int) * a1.toInt := by rw [ex15]; exact wk_mul (show (-2147483648) ≤ (2 : Int) * a1.toInt by omega) (show (2 : Int) * a1.toInt ≤ 2147483647 by omega)
  replace hM := hM.lt ex15.symm
  refine lv_iconst (v := 1) hx hb dX7_placeSign_35 (by decide) ?_
  refine lv_iadd hx hb dX7_placeSign_36 ?_
  refine lv_topi (fun x16 ex16 => ?_)
  have ezx16 := ex16
  have ex16 : x16.toInt = x15.toInt + (1 : Int) := by rw [ex16]; exact wk_add (show (-2147483648) ≤ x15.toInt + (1 : Int) by omega) (show x15.toInt + (1 : Int) ≤ 2147483647 by omega)
  replace hM := hM.lt ex16.symm
  refine lv_dup2_11 hx hb dX7_placeSign_37 rfl rfl ?_
  refine tk_iald hC hK hw hT kC_at34 rfl rfl (show 0 ≤ x16.toInt by omega) (show x16.toInt < 26 by omega) dX7_placeSign_38 (fun x17 c18 rx17 tx17 => ?_)
  have hox17 := c18
  replace hM := hM.rd (sI_at hox17)
  refine lv_iload_n hx hb dX7_placeSign_39 rfl (lv_at hl 3 rfl) ?_
  refine lv_iconst (v := 1) hx hb dX7_placeSign_40 (by decide) ?_
  refine lv_ishr hx hb dX7_placeSign_41 ?_
  refine lv_topi (fun x19 ex19 => ?_)
  have ezx19 := ex19
  have bx19 : 0 ≤ x19.toInt ∧ x19.toInt ≤ a3.toInt := by rw [ex19]; exact wk_shr (by omega)
  replace hM := hM.lt (o32_e (f := fun x y => x >>> (y &&& 31)) ezx19 rfl (by decide))
  refine lv_iload_n hx hb dX7_placeSign_42 rfl (lv_at hl 2 rfl) ?_
  refine lv_ishl hx hb dX7_placeSign_43 ?_
  refine lv_topi (fun x20 ex20 => ?_)
  have ezx20 := ex20
  replace hM := hM.lt (o32_e (f := fun x y => x <<< (y &&& 31)) ezx20 rfl rfl)
  refine lv_ior hx hb dX7_placeSign_44 ?_
  refine lv_topi (fun x21 ex21 => ?_)
  have ezx21 := ex21
  replace hM := hM.lt (o32_e (f := fun x y => x ||| y) ezx21 rfl rfl)
  refine tk_iast hC hK hw hT kC_at34 (by decide) rfl rfl (show 0 ≤ x16.toInt by omega) (show x16.toInt < 26 by omega) (wk_i32 x21).1 (wk_i32 x21).2 dX7_placeSign_45 (fun H locs w22 hw hT k24 c23 => ?_)
  replace hM := hM.wr (sI_up k24 c23)
  have hF := hF.put kC_at34 (inE_of (a := 0) (b := 26) (by decide) (show 0 ≤ x16.toInt.toNat by omega) (show x16.toInt.toNat ≤ 26 by omega)) k24
  exact tk_vret hC hr hlocks hK ⟨hT, hF, hM.ret rfl, trivial⟩ hw dX7_placeSign_46
abbrev Pz_X7_readSigns_1 (ad : Nat → Nat) (cy : Nat → ClassId) (B : Int) (qr : Nat) (s1 : Int)  (w0 : va_W) : va_W → Prop := fun u => TW ksC ad cy B qr s1 u ∧ FE ksC [(6, 1, 1), (6, 3, 3), (6, 4, 4), (26, 0, 91), (28, 0, 26)] w0 u ∧ Ev (fun n => m_X7_readSigns n 29 1 (sI w0)) (0, sI u) ∧ (((∃ y : Int32, gi u 1 4 = y ∧ 1 ≤ y.toInt ∧ y.toInt ≤ 3205) ∧ (∃ y : Int32, gi u 29 9 = y ∧ 0 ≤ y.toInt ∧ y.toInt ≤ 11)) ∨ ((∃ y : Int32, gi u 1 4 = y ∧ 0 ≤ y.toInt ∧ y.toInt ≤ 0) ∧ (∃ y : Int32, gi u 29 9 = y ∧ 0 ≤ y.toInt ∧ y.toInt ≤ 11)))
set_option maxHeartbeats 4000000 in
set_option maxRecDepth 100000 in
theorem kz_X7_readSigns_1 (l : Launch) (adK adV : Nat → Nat) (dC : Nat → ClassId) (dI : Nat → Nat → Nat) (cy : Nat → ClassId) (ad : Nat → Nat) (B : Int) (hB0 : 2147483648 ≤ B) (hB1 : B ≤ 1152921504606846976) (qr : Nat) (s1 : Int)   (w0 : va_W) (sz : Nat) (hT : TW ksC ad cy B qr s1 w0) (cf0_ : gi w0 1 4 = 0) (f1_ : Int32) (cf1_ : gi w0 29 9 = f1_) (rf1_ : 0 ≤ f1_.toInt) (tf1_ : f1_.toInt ≤ 11) : Met l yX7_readSigns (wu yX7_readSigns cX7_readSigns 5 none) ({ frames := 5, cells := 0, slots := 0, locals := 161 }) (va_Pc [.ref (ad 29), .ref (ad 1)] (wpreS adK adV dC dI cy sz w0)) (va_Qv (Pz_X7_readSigns_1 ad cy B qr s1  w0) (fun u : va_W => wpost dC dI cy (va_A w0 sz) u) (va_A w0 sz)) 0 0 (va_A w0 sz) := by
  refine Met.ofW (cc := cX7_readSigns) (maxL := 5) (ret := none) (by decide) rfl ?_
  intro p e s m args below meth c s₁ Bk hml hv
  obtain ⟨rfl, ⟨hsz, hP, hK, hD0⟩, hE, hSR⟩ := hv
  have hx := Bk.exec
  have hb := Bk.bytes
  have hr := Bk.returns
  have hlocks := Bk.notSynchronized
  have hC : CallFix p m c cX7_readSigns 5 s _ (wu yX7_readSigns cX7_readSigns 5 none) RX7 := ⟨hx, hb, hml, findClass_of_methodNamed Bk.named, atoms_spec (ws := (wu yX7_readSigns cX7_readSigns 5 none)) Bk.pre⟩
  subst hsz
  have hD := hD0.self (sz := s.heap.size)
  generalize hAe : va_A w0 s.heap.size = A at hD hE ⊢
  have hA : ∀ q : Nat, s.heap.size ≤ q → A q := fun q h => by rw [← hAe]; exact Or.inr h
  have hw : Wd dC dI A s.heap s.heap [] w0 := ⟨hP, hD, va_S.rf⟩
  have hF : FE ksC [(6, 1, 1), (6, 3, 3), (6, 4, 4), (26, 0, 91), (28, 0, 26)] w0 w0 := FE.rf
  have hl := lv_entry ([.ref (ad 29), .ref (ad 1)]) (n := 5) (Nat.le_of_ble_eq_true rfl)
  rw [lg_entry_eq]
  generalize (lg_sl ([.ref (ad 29), .ref (ad 1)]) ++ List.replicate (5 - (lg_sl ([.ref (ad 29), .ref (ad 1)])).length) Slot.unset).toArray = ls at hl ⊢
  have hl : lv_has ls 5 [(0, .ref (ad 29)), (1, .ref (ad 1))] := hl
  generalize hloc : ([] : List Loc) = locs at hw ⊢
  have hinX7 : ∀ w ∈ u_ws RX7 TX7 12, w ∈ (wu yX7_readSigns cX7_readSigns 5 none) := fun _ h => List.mem_cons_of_mem _ (up_73 h)
  have L7 : ∀ (n7 : Nat) (v7_2 : Int32) (H : Heap) (locs : List Loc) (ls : Array Slot) (w1 : va_W), 0 ≤ v7_2.toInt → v7_2.toInt ≤ 7 → 0 ≤ f1_.toInt → f1_.toInt ≤ 11 → (7 - v7_2.toInt).toNat < n7 → Wd dC dI A s.heap H locs w1 → TW ksC ad cy B qr s1 w1 → FE ksC [(6, 1, 1), (6, 3, 3), (6, 4, 4), (26, 0, 91), (28, 0, 26)] w0 w1 → gi w1 1 4 = 0 → gi w1 29 9 = f1_ → TT (fun n => m_X7_readSigns n 29 1 (sI w0)) (fun n => j_X7_readSigns 29 1 n 7 [v7_2.toInt] (sI w1)) → lv_has ls 5 [(0, .ref (ad 29)), (1, .ref (ad 1)), (2, .int v7_2)] → W p l e ({ frames := 5, cells := 0, slots := 0, locals := 161 }) s m (List.toArray [.ref (ad 29), .ref (ad 1)]) below meth c H locs 0 0 (MQ below (va_Qv (Pz_X7_readSigns_1 ad cy B qr s1  w0) (fun u : va_W => wpost dC dI cy A u) A) (List.toArray [.ref (ad 29), .ref (ad 1)]) s 0 0 A) (F0 m 7 ls []) := by
    intro n7
    induction n7 with
    | zero => intro v7_2 H locs ls w1 r2 t3 r5 t6 hm7 hw hT hF c4 c7 hM hl; omega
    | succ n7 ih7 =>
      intro v7_2 H locs ls w1 r2 t3 r5 t6 hm7 hw hT hF c4 c7 hM hl
      replace hM := hM.suc (fun _ => e_X7_readSigns_7)
      refine lv_iload_n hx hb dX7_readSigns_7 rfl (lv_at hl 2 rfl) ?_
      refine lv_bipush (v := 7) hx hb dX7_readSigns_8 (by decide) ?_
      refine lv_icmp_ge (tgt := 67) hx hb dX7_readSigns_10 (by decide) (fun c8 => ?_) (fun c8 => ?_)
      · have c8 : (7 : Int) ≤ v7_2.toInt := wk_le.mp c8
        replace hM := hM.pos c8
        exact tk_vret hC hr hlocks hK ⟨hT, hF, hM.ret rfl, (Or.inr ⟨⟨0, c4, (by decide), (by decide)⟩, ⟨f1_, c7, (show 0 ≤ f1_.toInt by omega), (show f1_.toInt ≤ 11 by omega)⟩⟩)⟩ hw dX7_readSigns_67
      · have c8 : v7_2.toInt < (7 : Int) := wk_leF c8
        replace hM := hM.neg (Int.not_le.mpr c8)
        refine lv_aload_n hx hb dX7_readSigns_13 rfl (lv_at hl 1 rfl) ?_
        refine tk_Vi hC hK hw hT hA hE hSR kC_at1 (by decide) rfl (kz_X6_look_1 l adK adV dC dI cy ad B (by omega) (by omega) qr s1    w1 H.size hT ) (cwV 0 hC.2.2.2.2 uV_RX7_117 rfl rfl rfl (by decide +kernel) ⟨Nat.le_of_ble_eq_true rfl, Nat.le_of_ble_eq_true rfl⟩) rfl hl.1 rfl (Nat.le_of_ble_eq_true rfl) dX7_readSigns_14 (fun r9 w11 H locs hp10 hw => ?_)
        obtain ⟨hT, k12, hv20, hg19⟩ := hp10
        have hF := hF.tr k12 (by decide)
        have c21 := k12.gi kC_at1 (by decide) c4
        have c22 := k12.gi kC_at29 (by decide) c7
        rcases hg19 with ⟨g13, g14, ⟨x15, c16, rx15, tx15⟩, ⟨x17, c18, rx17, tx17⟩⟩ | rfl
        · replace hM := hM.call hv20 rfl
          refine lv_istore_n (lv' := [(3, .int r9), (0, .ref (ad 29)), (1, .ref (ad 1)), (2, .int v7_2)]) hx hb dX7_readSigns_17 rfl hl (by decide) rfl (fun ls hl => ?_)
          refine lv_iload_n hx hb dX7_readSigns_18 rfl (lv_at hl 0 rfl) ?_
          refine lv_iconst (v := (-1)) hx hb dX7_readSigns_19 (by decide) ?_
          refine lv_icmp_ne (tgt := 27) hx hb dX7_readSigns_20 (by decide) (fun _ => ?_) (fun c => absurd (show r9.toInt = (-1 : Int) from wk_eq.mp c) (by omega))
          replace hM := hM.pos (by omega)
          refine va_ldcS hx hb hC.2.2.2.1 hSR.2.1 dX7_readSigns_27 ?_
          refine lv_iload_n hx hb dX7_readSigns_29 rfl (lv_at hl 0 rfl) ?_
          refine lv_i2c hx hb dX7_readSigns_30 rfl ?_
          refine lv_topi (fun x23 ex23 => ?_)
          have eix23 : x23.toInt = r9.toInt := i2c_id ex23 (by omega) (by omega)
          replace hM := hM.lt eix23.symm
          refine tk_ViT hC hK hw hA hE hSR (x_io l adK adV dC dI cy x23 H.size) (cwV 1 hC.2.2.2.2 uV_RX7_122 rfl rfl rfl (by decide +kernel) ⟨Nat.le_of_ble_eq_true rfl, Nat.le_of_ble_eq_true rfl⟩) 1 (by decide) rfl rfl rfl hl.1 rfl (Nat.le_of_ble_eq_true rfl) dX7_readSigns_31 (fun r24 H locs hp25 hw => ?_)
          obtain ⟨-, uhp25, vhp25, whp25⟩ := hp25
          replace hM := hM.lt (whp25 (by omega) (by omega))
          refine lv_istore (lv' := [(4, .int r24), (3, .int r9), (0, .ref (ad 29)), (1, .ref (ad 1)), (2, .int v7_2)]) hx hb dX7_readSigns_34 hl (by decide) rfl (fun ls hl => ?_)
          refine lv_iload hx hb dX7_readSigns_36 (lv_at hl 0 rfl) ?_
          refine lv_if_ge (tgt := 46) hx hb dX7_readSigns_38 (by decide) (fun c26 => ?_) (fun c26 => ?_)
          · have c26 : (0 : Int) ≤ r24.toInt := wk_le.mp c26
            replace hM := hM.pos c26
            refine lv_aload_n hx hb dX7_readSigns_46 rfl (lv_at hl 3 rfl) ?_
            refine tk_Vv hC hK hw hT hA hE hSR kC_at1 (by decide) rfl (kz_X6_pass_1 l adK adV dC dI cy ad B (by omega) (by omega) qr s1    w11 H.size hT ) (cwV 0 hC.2.2.2.2 uV_RX7_131 rfl rfl rfl (by decide +kernel) ⟨Nat.le_of_ble_eq_true rfl, Nat.le_of_ble_eq_true rfl⟩) rfl hl.1 rfl (Nat.le_of_ble_eq_true rfl) dX7_readSigns_47 (fun w29 H locs hp28 hw => ?_)
            obtain ⟨hT, k30, hv32, hg31⟩ := hp28
            have hF := hF.tr k30 (by decide)
            have c33 := k30.gi kC_at1 (by decide) c21
            have c34 := k30.gi kC_at29 (by decide) c22
            have c35 := k30.gi kC_at1 (by decide) c18
            clear hg31
            replace hM := hM.call hv32 rfl
            refine lv_aload_n hx hb dX7_readSigns_50 rfl (lv_at hl 2 rfl) ?_
            refine lv_aload_n hx hb dX7_readSigns_51 rfl (lv_at hl 2 rfl) ?_
            refine tk_geti hC hK hw hT hinX7 kC_at29 (by decide) rfl 9 (by decide) (List.mem_cons_of_mem _ uw_9_8) rfl rfl dX7_readSigns_52 (fun x36 c37 rx36 tx36 => ?_)
            refine wk_top f1_ (c37.symm.trans c34) ?_
            replace hM := hM.rd (sI_at c34)
            refine lv_iload_n hx hb dX7_readSigns_55 rfl (lv_at hl 4 rfl) ?_
            refine lv_iload hx hb dX7_readSigns_56 (lv_at hl 0 rfl) ?_
            refine tk_Vv hC hK hw hT hA hE hSR kC_at29 (by decide) rfl (kz_X7_placeSign_1 l adK adV dC dI cy ad B (by omega) (by omega) qr s1   f1_ (show 0 ≤ f1_.toInt by omega) (show f1_.toInt ≤ 11 by omega) v7_2 (show 0 ≤ v7_2.toInt by omega) (show v7_2.toInt ≤ 6 by omega) r24 (show 0 ≤ r24.toInt by omega) (show r24.toInt ≤ 3 by omega) w29 H.size hT ) (cwV 3 hC.2.2.2.2 uV_RX7_134 rfl rfl rfl (by decide +kernel) ⟨Nat.le_of_ble_eq_true rfl, Nat.le_of_ble_eq_true rfl⟩) rfl hl.1 rfl (Nat.le_of_ble_eq_true rfl) dX7_readSigns_58 (fun w40 H locs hp39 hw => ?_)
            obtain ⟨hT, k41, hv43, hg42⟩ := hp39
            have hF := hF.tr k41 (by decide)
            have c44 := k41.gi kC_at1 (by decide) c33
            have c45 := k41.gi kC_at29 (by decide) c34
            have c46 := k41.gi kC_at1 (by decide) c35
            clear hg42
            replace hM := hM.call hv43 rfl
            obtain ⟨x47, ex47⟩ : ∃ y : Int32, y = v7_2 + Int32.ofInt 1 := ⟨_, rfl⟩
            have erx47 := ex47
            refine lv_iinc (v := x47) (lv' := [(2, .int x47), (4, .int r24), (3, .int r9), (0, .ref (ad 29)), (1, .ref (ad 1))]) hx hb dX7_readSigns_61 hl (k := 4) rfl ex47.symm (by decide) rfl (fun ls hl => ?_)
            have ex47 : x47.toInt = v7_2.toInt + 1 := by rw [ex47]; exact wk_add (y := 1) (show -2147483648 ≤ v7_2.toInt + 1 by omega) (show v7_2.toInt + 1 ≤ 2147483647 by omega)
            replace hM := hM.lt ex47.symm
            refine lv_goto (tgt := 7) hx hb dX7_readSigns_64 (by decide) ?_
            exact ih7 x47 H locs ls w40 (show 0 ≤ x47.toInt by omega) (show x47.toInt ≤ 7 by omega) (show 0 ≤ f1_.toInt by omega) (show f1_.toInt ≤ 11 by omega) (show (7 - x47.toInt).toNat < n7 by omega) hw hT hF c44 c45 hM (lv_sub hl [3, 4, 0] rfl)
          · have c26 : r24.toInt < (0 : Int) := wk_leF c26
            replace hM := hM.neg (Int.not_le.mpr c26)
            refine lv_aload_n hx hb dX7_readSigns_41 rfl (lv_at hl 3 rfl) ?_
            refine tk_Vv hC hK hw hT hA hE hSR kC_at1 (by decide) rfl (kz_X6_blameHere_1 l adK adV dC dI cy ad B (by omega) (by omega) qr s1    w11 H.size hT c21) (cwV 0 hC.2.2.2.2 uV_RX7_128 rfl rfl rfl (by decide +kernel) ⟨Nat.le_of_ble_eq_true rfl, Nat.le_of_ble_eq_true rfl⟩) rfl hl.1 rfl (Nat.le_of_ble_eq_true rfl) dX7_readSigns_42 (fun w50 H locs hp49 hw => ?_)
            obtain ⟨hT, k51, hv55, hg54⟩ := hp49
            have hF := hF.tr k51 (by decide)
            have c56 := k51.gi kC_at29 (by decide) c22
            have c57 := k51.gi kC_at1 (by decide) c16
            have c58 := k51.gi kC_at1 (by decide) c18
            obtain ⟨x52, c53, rx52, tx52⟩ := hg54
            replace hM := hM.call hv55 rfl
            exact tk_vret hC hr hlocks hK ⟨hT, hF, hM.ret rfl, (Or.inl ⟨⟨x52, c53, (show 1 ≤ x52.toInt by omega), (show x52.toInt ≤ 3205 by omega)⟩, ⟨f1_, c56, (show 0 ≤ f1_.toInt by omega), (show f1_.toInt ≤ 11 by omega)⟩⟩)⟩ hw dX7_readSigns_45
        · replace hM := hM.call (r' := (-1)) hv20 (by decide)
          refine lv_istore_n (lv' := [(3, .int (-1)), (0, .ref (ad 29)), (1, .ref (ad 1)), (2, .int v7_2)]) hx hb dX7_readSigns_17 rfl hl (by decide) rfl (fun ls hl => ?_)
          refine lv_iload_n hx hb dX7_readSigns_18 rfl (lv_at hl 0 rfl) ?_
          refine lv_iconst (v := (-1)) hx hb dX7_readSigns_19 (by decide) ?_
          refine lv_icmp_ne (tgt := 27) hx hb dX7_readSigns_20 (by decide) (fun c => absurd (by decide) c) (fun _ => ?_)
          replace hM := hM.neg (by decide)
          refine lv_iconst (v := (-1)) hx hb dX7_readSigns_23 (by decide) ?_
          refine lv_goto (tgt := 34) hx hb dX7_readSigns_24 (by decide) ?_
          refine lv_istore (lv' := [(4, .int (-1)), (3, .int (-1)), (0, .ref (ad 29)), (1, .ref (ad 1)), (2, .int v7_2)]) hx hb dX7_readSigns_34 hl (by decide) rfl (fun ls hl => ?_)
          refine lv_iload hx hb dX7_readSigns_36 (lv_at hl 0 rfl) ?_
          refine lv_if_ge (tgt := 46) hx hb dX7_readSigns_38 (by decide) (fun c => absurd c (by decide)) (fun _ => ?_)
          replace hM := hM.neg (by decide)
          refine lv_aload_n hx hb dX7_readSigns_41 rfl (lv_at hl 3 rfl) ?_
          refine tk_Vv hC hK hw hT hA hE hSR kC_at1 (by decide) rfl (kz_X6_blameHere_1 l adK adV dC dI cy ad B (by omega) (by omega) qr s1    w11 H.size hT c21) (cwV 0 hC.2.2.2.2 uV_RX7_128 rfl rfl rfl (by decide +kernel) ⟨Nat.le_of_ble_eq_true rfl, Nat.le_of_ble_eq_true rfl⟩) rfl hl.1 rfl (Nat.le_of_ble_eq_true rfl) dX7_readSigns_42 (fun w61 H locs hp60 hw => ?_)
          obtain ⟨hT, k62, hv66, hg65⟩ := hp60
          have hF := hF.tr k62 (by decide)
          have c67 := k62.gi kC_at29 (by decide) c22
          obtain ⟨x63, c64, rx63, tx63⟩ := hg65
          replace hM := hM.call hv66 rfl
          exact tk_vret hC hr hlocks hK ⟨hT, hF, hM.ret rfl, (Or.inl ⟨⟨x63, c64, (show 1 ≤ x63.toInt by omega), (show x63.toInt ≤ 3205 by omega)⟩, ⟨f1_, c67, (show 0 ≤ f1_.toInt by omega), (show f1_.toInt ≤ 11 by omega)⟩⟩)⟩ hw dX7_readSigns_45
  have hM : TT (fun n => m_X7_readSigns n 29 1 (sI w0)) (fun n => m_X7_readSigns n 29 1 (sI w0)) := TT.rf
  refine lv_aload_n hx hb dX7_readSigns_0 rfl (lv_at hl 1 rfl) ?_
  refine tk_Vi hC hK hw hT hA hE hSR kC_at1 (by decide) rfl (kz_X6_lookBehindBlanks_1 l adK adV dC dI cy ad B (by omega) (by omega) qr s1    w0 s.heap.size hT ) (cwV 0 hC.2.2.2.2 uV_RX7_113 rfl rfl rfl (by decide +kernel) ⟨Nat.le_of_ble_eq_true rfl, Nat.le_of_ble_eq_true rfl⟩) rfl hl.1 rfl (Nat.le_of_ble_eq_true rfl) dX7_readSigns_1 (fun r68 w70 H locs hp69 hw => ?_)
  obtain ⟨hT, k71, hv81, hg80⟩ := hp69
  have hF := hF.tr k71 (by decide)
  have c82 := k71.gi kC_at1 (by decide) cf0_
  have c83 := k71.gi kC_at29 (by decide) cf1_
  rcases hg80 with ⟨g72, g73, ⟨x74, c75, rx74, tx74⟩, ⟨x76, c77, rx76, tx76⟩, ⟨x78, c79, rx78, tx78⟩⟩ | rfl
  · replace hM := hM.call hv81 rfl
    refine lv_pop hx hb dX7_readSigns_4 rfl ?_
    refine lv_iconst (v := 0) hx hb dX7_readSigns_5 (by decide) ?_
    refine lv_istore_n (lv' := [(2, .int 0), (0, .ref (ad 29)), (1, .ref (ad 1))]) hx hb dX7_readSigns_6 rfl hl (by decide) rfl (fun ls hl => ?_)
    exact L7 ((7 - (0 : Int)).toNat + 1) 0 H locs ls w70 (by decide) (by decide) (show 0 ≤ f1_.toInt by omega) (show f1_.toInt ≤ 11 by omega) (Nat.lt_succ_self _) hw hT hF c82 c83 hM (lv_sub hl [1, 2, 0] rfl)
  · replace hM := hM.call (r' := (-1)) hv81 (by decide)
    refine lv_pop hx hb dX7_readSigns_4 rfl ?_
    refine lv_iconst (v := 0) hx hb dX7_readSigns_5 (by decide) ?_
    refine lv_istore_n (lv' := [(2, .int 0), (0, .ref (ad 29)), (1, .ref (ad 1))]) hx hb dX7_readSigns_6 rfl hl (by decide) rfl (fun ls hl => ?_)
    exact L7 ((7 - (0 : Int)).toNat + 1) 0 H locs ls w70 (by decide) (by decide) (show 0 ≤ f1_.toInt by omega) (show f1_.toInt ≤ 11 by omega) (Nat.lt_succ_self _) hw hT hF c82 c83 hM (lv_sub hl [1, 2, 0] rfl)
abbrev Pz_X6_readNumber_5 (ad : Nat → Nat) (cy : Nat → ClassId) (B : Int) (qr : Nat) (s1 : Int)  (w0 : va_W) : Int32 → va_W → Prop := fun r u => TW ksC ad cy B qr s1 u ∧ FE ksC ([] : List (Nat × Nat × Nat)) w0 u ∧ Ev (fun n => m_X6_readNumber n 1 1 9 (sI w0)) (r.toInt, sI u) ∧ ((r = (-1) ∧ (∃ y : Int32, gi u 1 4 = y ∧ 1 ≤ y.toInt ∧ y.toInt ≤ 3205)))
set_option maxHeartbeats 4000000 in
set_option maxRecDepth 100000 in
theorem kz_X6_readNumber_5 (l : Launch) (adK adV : Nat → Nat) (dC : Nat → ClassId) (dI : Nat → Nat → Nat) (cy : Nat → ClassId) (ad : Nat → Nat) (B : Int) (hB0 : 2147483648 ≤ B) (hB1 : B ≤ 1152921504606846976) (qr : Nat) (s1 : Int)   (w0 : va_W) (sz : Nat) (hT : TW ksC ad cy B qr s1 w0) (f0_ : Int32) (cf0_ : gi w0 1 4 = f0_) (rf0_ : 1 ≤ f0_.toInt) (tf0_ : f0_.toInt ≤ 3205) : Met l yX6_readNumber (wu yX6_readNumber cX6_readNumber 4 (some .int)) ({ frames := 2, cells := 0, slots := 0, locals := 32 }) (va_Pc [.ref (ad 1), .int 1, .int 9] (wpreS adK adV dC dI cy sz w0)) (va_Qi (Pz_X6_readNumber_5 ad cy B qr s1  w0) (fun u : va_W => wpost dC dI cy (va_A w0 sz) u) (va_A w0 sz)) 0 0 (va_A w0 sz) := by
  refine Met.ofW (cc := cX6_readNumber) (maxL := 4) (ret := (some .int)) (by decide) rfl ?_
  intro p e s m args below meth c s₁ Bk hml hv
  obtain ⟨rfl, ⟨hsz, hP, hK, hD0⟩, hE, hSR⟩ := hv
  have hx := Bk.exec
  have hb := Bk.bytes
  have hr := Bk.returns
  have hlocks := Bk.notSynchronized
  have hC : CallFix p m c cX6_readNumber 4 s _ (wu yX6_readNumber cX6_readNumber 4 (some .int)) RX6 := ⟨hx, hb, hml, findClass_of_methodNamed Bk.named, atoms_spec (ws := (wu yX6_readNumber cX6_readNumber 4 (some .int))) Bk.pre⟩
  subst hsz
  have hD := hD0.self (sz := s.heap.size)
  generalize hAe : va_A w0 s.heap.size = A at hD hE ⊢
  have hA : ∀ q : Nat, s.heap.size ≤ q → A q := fun q h => by rw [← hAe]; exact Or.inr h
  have hw : Wd dC dI A s.heap s.heap [] w0 := ⟨hP, hD, va_S.rf⟩
  have hF : FE ksC ([] : List (Nat × Nat × Nat)) w0 w0 := FE.rf
  have hl := lv_entry ([.ref (ad 1), .int 1, .int 9]) (n := 4) (Nat.le_of_ble_eq_true rfl)
  rw [lg_entry_eq]
  generalize (lg_sl ([.ref (ad 1), .int 1, .int 9]) ++ List.replicate (4 - (lg_sl ([.ref (ad 1), .int 1, .int 9])).length) Slot.unset).toArray = ls at hl ⊢
  have hl : lv_has ls 4 [(0, .ref (ad 1)), (1, .int 1), (2, .int 9)] := hl
  generalize hloc : ([] : List Loc) = locs at hw ⊢
  have hM : TT (fun n => m_X6_readNumber n 1 1 9 (sI w0)) (fun n => m_X6_readNumber n 1 1 9 (sI w0)) := TT.rf
  refine lv_aload_n hx hb dX6_readNumber_0 rfl (lv_at hl 0 rfl) ?_
  refine tk_Vi hC hK hw hT hA hE hSR kC_at1 (by decide) rfl (kz_X6_isFaulty_3 l adK adV dC dI cy ad B (by omega) (by omega) qr s1    w0 s.heap.size hT f0_ cf0_ (show 1 ≤ f0_.toInt by omega) (show f0_.toInt ≤ 3205 by omega)) (cwV 0 hC.2.2.2.2 uV_RX6_39 rfl rfl rfl (by decide +kernel) ⟨Nat.le_of_ble_eq_true rfl, Nat.le_of_ble_eq_true rfl⟩) rfl hl.1 rfl (Nat.le_of_ble_eq_true rfl) dX6_readNumber_1 (fun r1 w3 H locs hp2 hw => ?_)
  obtain ⟨hT, k4, hv8, hg7⟩ := hp2
  have hF := hF.tr k4 (by decide)
  have c9 := k4.gi kC_at1 (by decide) cf0_
  obtain ⟨rfl, ⟨x5, c6, rx5, tx5⟩⟩ := hg7
  replace hM := hM.call (r' := 1) hv8 (by decide)
  have ex5 : x5.toInt = f0_.toInt := by rw [← c9.symm.trans c6]
  refine lv_if_eq (tgt := 9) hx hb dX6_readNumber_4 (by decide) (fun c => absurd c (by decide)) (fun _ => ?_)
  replace hM := hM.neg (by decide)
  refine lv_iconst (v := (-1)) hx hb dX6_readNumber_7 (by decide) ?_
  exact tk_iret hC hr hlocks hK ⟨hT, hF, hM.ret (by decide), ⟨rfl, ⟨f0_, c9, (show 1 ≤ f0_.toInt by omega), (show f0_.toInt ≤ 3205 by omega)⟩⟩⟩ hw dX6_readNumber_8
abbrev Pz_X6_readNumber_6 (ad : Nat → Nat) (cy : Nat → ClassId) (B : Int) (qr : Nat) (s1 : Int) (a2 : Int32) (w0 : va_W) : Int32 → va_W → Prop := fun r u => TW ksC ad cy B qr s1 u ∧ FE ksC ([] : List (Nat × Nat × Nat)) w0 u ∧ Ev (fun n => m_X6_readNumber n 1 0 a2.toInt (sI w0)) (r.toInt, sI u) ∧ ((r = (-1) ∧ (∃ y : Int32, gi u 1 4 = y ∧ 1 ≤ y.toInt ∧ y.toInt ≤ 3205)))
set_option maxHeartbeats 4000000 in
set_option maxRecDepth 100000 in
theorem kz_X6_readNumber_6 (l : Launch) (adK adV : Nat → Nat) (dC : Nat → ClassId) (dI : Nat → Nat → Nat) (cy : Nat → ClassId) (ad : Nat → Nat) (B : Int) (hB0 : 2147483648 ≤ B) (hB1 : B ≤ 1152921504606846976) (qr : Nat) (s1 : Int)  (a2 : Int32) (ra2 : (-2) ≤ a2.toInt) (ta2 : a2.toInt ≤ 9) (w0 : va_W) (sz : Nat) (hT : TW ksC ad cy B qr s1 w0) (f0_ : Int32) (cf0_ : gi w0 1 4 = f0_) (rf0_ : 1 ≤ f0_.toInt) (tf0_ : f0_.toInt ≤ 3205) : Met l yX6_readNumber (wu yX6_readNumber cX6_readNumber 4 (some .int)) ({ frames := 2, cells := 0, slots := 0, locals := 32 }) (va_Pc [.ref (ad 1), .int 0, .int a2] (wpreS adK adV dC dI cy sz w0)) (va_Qi (Pz_X6_readNumber_6 ad cy B qr s1 a2 w0) (fun u : va_W => wpost dC dI cy (va_A w0 sz) u) (va_A w0 sz)) 0 0 (va_A w0 sz) := by
  refine Met.ofW (cc := cX6_readNumber) (maxL := 4) (ret := (some .int)) (by decide) rfl ?_
  intro p e s m args below meth c s₁ Bk hml hv
  obtain ⟨rfl, ⟨hsz, hP, hK, hD0⟩, hE, hSR⟩ := hv
  have hx := Bk.exec
  have hb := Bk.bytes
  have hr := Bk.returns
  have hlocks := Bk.notSynchronized
  have hC : CallFix p m c cX6_readNumber 4 s _ (wu yX6_readNumber cX6_readNumber 4 (some .int)) RX6 := ⟨hx, hb, hml, findClass_of_methodNamed Bk.named, atoms_spec (ws := (wu yX6_readNumber cX6_readNumber 4 (some .int))) Bk.pre⟩
  subst hsz
  have hD := hD0.self (sz := s.heap.size)
  generalize hAe : va_A w0 s.heap.size = A at hD hE ⊢
  have hA : ∀ q : Nat, s.heap.size ≤ q → A q := fun q h => by rw [← hAe]; exact Or.inr h
  have hw : Wd dC dI A s.heap s.heap [] w0 := ⟨hP, hD, va_S.rf⟩
  have hF : FE ksC ([] : List (Nat × Nat × Nat)) w0 w0 := FE.rf
  have hl := lv_entry ([.ref (ad 1), .int 0, .int a2]) (n := 4) (Nat.le_of_ble_eq_true rfl)
  rw [lg_entry_eq]
  generalize (lg_sl ([.ref (ad 1), .int 0, .int a2]) ++ List.replicate (4 - (lg_sl ([.ref (ad 1), .int 0, .int a2])).length) Slot.unset).toArray = ls at hl ⊢
  have hl : lv_has ls 4 [(0, .ref (ad 1)), (1, .int 0), (2, .int a2)] := hl
  generalize hloc : ([] : List Loc) = locs at hw ⊢
  have hM : TT (fun n => m_X6_readNumber n 1 0 a2.toInt (sI w0)) (fun n => m_X6_readNumber n 1 0 a2.toInt (sI w0)) := TT.rf
  refine lv_aload_n hx hb dX6_readNumber_0 rfl (lv_at hl 0 rfl) ?_
  refine tk_Vi hC hK hw hT hA hE hSR kC_at1 (by decide) rfl (kz_X6_isFaulty_3 l adK adV dC dI cy ad B (by omega) (by omega) qr s1    w0 s.heap.size hT f0_ cf0_ (show 1 ≤ f0_.toInt by omega) (show f0_.toInt ≤ 3205 by omega)) (cwV 0 hC.2.2.2.2 uV_RX6_39 rfl rfl rfl (by decide +kernel) ⟨Nat.le_of_ble_eq_true rfl, Nat.le_of_ble_eq_true rfl⟩) rfl hl.1 rfl (Nat.le_of_ble_eq_true rfl) dX6_readNumber_1 (fun r1 w3 H locs hp2 hw => ?_)
  obtain ⟨hT, k4, hv8, hg7⟩ := hp2
  have hF := hF.tr k4 (by decide)
  have c9 := k4.gi kC_at1 (by decide) cf0_
  obtain ⟨rfl, ⟨x5, c6, rx5, tx5⟩⟩ := hg7
  replace hM := hM.call (r' := 1) hv8 (by decide)
  have ex5 : x5.toInt = f0_.toInt := by rw [← c9.symm.trans c6]
  refine lv_if_eq (tgt := 9) hx hb dX6_readNumber_4 (by decide) (fun c => absurd c (by decide)) (fun _ => ?_)
  replace hM := hM.neg (by decide)
  refine lv_iconst (v := (-1)) hx hb dX6_readNumber_7 (by decide) ?_
  exact tk_iret hC hr hlocks hK ⟨hT, hF, hM.ret (by decide), ⟨rfl, ⟨f0_, c9, (show 1 ≤ f0_.toInt by omega), (show f0_.toInt ≤ 3205 by omega)⟩⟩⟩ hw dX6_readNumber_8
abbrev Pz_X6_blame_3 (ad : Nat → Nat) (cy : Nat → ClassId) (B : Int) (qr : Nat) (s1 : Int) (a1 : Int32) (a2 : Int32) (w0 : va_W) : va_W → Prop := fun u => TW ksC ad cy B qr s1 u ∧ FE ksC ([] : List (Nat × Nat × Nat)) w0 u ∧ Ev (fun n => m_X6_blame n 1 a1.toInt a2.toInt (sI w0)) (0, sI u) ∧ (((∃ y : Int32, gi u 1 4 = y ∧ 1 ≤ y.toInt ∧ y.toInt ≤ 3205)))
set_option maxHeartbeats 4000000 in
set_option maxRecDepth 100000 in
theorem kz_X6_blame_3 (l : Launch) (adK adV : Nat → Nat) (dC : Nat → ClassId) (dI : Nat → Nat → Nat) (cy : Nat → ClassId) (ad : Nat → Nat) (B : Int) (hB0 : 2147483648 ≤ B) (hB1 : B ≤ 1152921504606846976) (qr : Nat) (s1 : Int)  (a1 : Int32) (ra1 : 0 ≤ a1.toInt) (ta1 : a1.toInt ≤ 400) (a2 : Int32) (ra2 : 0 ≤ a2.toInt) (ta2 : a2.toInt ≤ 4) (w0 : va_W) (sz : Nat) (hT : TW ksC ad cy B qr s1 w0) (f0_ : Int32) (cf0_ : gi w0 1 4 = f0_) (rf0_ : 1 ≤ f0_.toInt) (tf0_ : f0_.toInt ≤ 3205) : Met l yX6_blame (wu yX6_blame cX6_blame 3 none) ({ frames := 1, cells := 0, slots := 0, locals := 12 }) (va_Pc [.ref (ad 1), .int a1, .int a2] (wpreS adK adV dC dI cy sz w0)) (va_Qv (Pz_X6_blame_3 ad cy B qr s1 a1 a2 w0) (fun u : va_W => wpost dC dI cy (va_A w0 sz) u) (va_A w0 sz)) 0 0 (va_A w0 sz) := by
  refine Met.ofW (cc := cX6_blame) (maxL := 3) (ret := none) (by decide) rfl ?_
  intro p e s m args below meth c s₁ Bk hml hv
  obtain ⟨rfl, ⟨hsz, hP, hK, hD0⟩, hE, hSR⟩ := hv
  have hx := Bk.exec
  have hb := Bk.bytes
  have hr := Bk.returns
  have hlocks := Bk.notSynchronized
  have hC : CallFix p m c cX6_blame 3 s _ (wu yX6_blame cX6_blame 3 none) RX6 := ⟨hx, hb, hml, findClass_of_methodNamed Bk.named, atoms_spec (ws := (wu yX6_blame cX6_blame 3 none)) Bk.pre⟩
  subst hsz
  have hD := hD0.self (sz := s.heap.size)
  generalize hAe : va_A w0 s.heap.size = A at hD hE ⊢
  have hA : ∀ q : Nat, s.heap.size ≤ q → A q := fun q h => by rw [← hAe]; exact Or.inr h
  have hw : Wd dC dI A s.heap s.heap [] w0 := ⟨hP, hD, va_S.rf⟩
  have hF : FE ksC ([] : List (Nat × Nat × Nat)) w0 w0 := FE.rf
  have hl := lv_entry ([.ref (ad 1), .int a1, .int a2]) (n := 3) (Nat.le_of_ble_eq_true rfl)
  rw [lg_entry_eq]
  generalize (lg_sl ([.ref (ad 1), .int a1, .int a2]) ++ List.replicate (3 - (lg_sl ([.ref (ad 1), .int a1, .int a2])).length) Slot.unset).toArray = ls at hl ⊢
  have hl : lv_has ls 3 [(0, .ref (ad 1)), (1, .int a1), (2, .int a2)] := hl
  generalize hloc : ([] : List Loc) = locs at hw ⊢
  have hinX6 : ∀ w ∈ u_ws RX6 TX6 5, w ∈ (wu yX6_blame cX6_blame 3 none) := fun _ h => List.mem_cons_of_mem _ (up_72 h)
  have J19 : ∀ (H : Heap) (locs : List Loc) (ls : Array Slot) (w1 : va_W), 0 ≤ a1.toInt → a1.toInt ≤ 400 → 0 ≤ a2.toInt → a2.toInt ≤ 4 → 1 ≤ f0_.toInt → f0_.toInt ≤ 3205 → Wd dC dI A s.heap H locs w1 → TW ksC ad cy B qr s1 w1 → FE ksC ([] : List (Nat × Nat × Nat)) w0 w1 → gi w1 1 4 = f0_ → TT (fun n => m_X6_blame n 1 a1.toInt a2.toInt (sI w0)) (fun n => b_X6_blame_19 n 1 (sI w1)) → lv_has ls 3 [(0, .ref (ad 1)), (1, .int a1), (2, .int a2)] → W p l e ({ frames := 1, cells := 0, slots := 0, locals := 12 }) s m (List.toArray [.ref (ad 1), .int a1, .int a2]) below meth c H locs 0 0 (MQ below (va_Qv (Pz_X6_blame_3 ad cy B qr s1 a1 a2 w0) (fun u : va_W => wpost dC dI cy A u) A) (List.toArray [.ref (ad 1), .int a1, .int a2]) s 0 0 A) (F0 m 19 ls []) := by
    intro H locs ls w1 r2 t3 r4 t5 r6 t7 hw hT hF c8 hM hl
    exact tk_vret hC hr hlocks hK ⟨hT, hF, hM.ret rfl, ⟨f0_, c8, (show 1 ≤ f0_.toInt by omega), (show f0_.toInt ≤ 3205 by omega)⟩⟩ hw dX6_blame_19
  have hM : TT (fun n => m_X6_blame n 1 a1.toInt a2.toInt (sI w0)) (fun n => m_X6_blame n 1 a1.toInt a2.toInt (sI w0)) := TT.rf
  refine lv_aload_n hx hb dX6_blame_0 rfl (lv_at hl 0 rfl) ?_
  refine tk_geti hC hK hw hT hinX6 kC_at1 (by decide) rfl 4 (by decide) (List.mem_cons_of_mem _ uw_9_18) rfl rfl dX6_blame_1 (fun x9 c10 rx9 tx9 => ?_)
  refine wk_top f0_ (c10.symm.trans cf0_) ?_
  replace hM := hM.rd (sI_at cf0_)
  refine lv_if_ne (tgt := 19) hx hb dX6_blame_4 (by decide) (fun _ => ?_) (fun c => absurd (show f0_.toInt = (0 : Int) from wk_eq.mp c) (by omega))
  replace hM := hM.pos (by omega)
  exact J19  s.heap locs ls w0 (show 0 ≤ a1.toInt by omega) (show a1.toInt ≤ 400 by omega) (show 0 ≤ a2.toInt by omega) (show a2.toInt ≤ 4 by omega) (show 1 ≤ f0_.toInt by omega) (show f0_.toInt ≤ 3205 by omega)  hw hT hF cf0_ hM (lv_sub hl [0, 1, 2] rfl)
abbrev Pz_X7_readStreet_1 (ad : Nat → Nat) (cy : Nat → ClassId) (B : Int) (qr : Nat) (s1 : Int)  (w0 : va_W) : va_W → Prop := fun u => TW ksC ad cy B qr s1 u ∧ FE ksC [(6, 1, 1), (6, 3, 3), (6, 4, 4), (7, 9, 9), (24, 0, 26), (25, 0, 13), (26, 0, 91), (27, 0, 13), (28, 0, 26)] w0 u ∧ Ev (fun n => m_X7_readStreet n 29 1 (sI w0)) (0, sI u) ∧ (((∃ y : Int32, gi u 1 4 = y ∧ 1 ≤ y.toInt ∧ y.toInt ≤ 3205) ∧ (∃ y : Int32, gi u 29 9 = y ∧ 0 ≤ y.toInt ∧ y.toInt ≤ 12)) ∨ ((∃ y : Int32, gi u 1 2 = y ∧ 1 ≤ y.toInt ∧ y.toInt ≤ 400) ∧ (∃ y : Int32, gi u 1 4 = y ∧ 0 ≤ y.toInt ∧ y.toInt ≤ 0) ∧ (∃ y : Int32, gi u 29 8 = y ∧ 1 ≤ y.toInt ∧ y.toInt ≤ 10) ∧ (∃ y : Int32, gi u 29 9 = y ∧ 1 ≤ y.toInt ∧ y.toInt ≤ 12)))
set_option maxHeartbeats 4000000 in
set_option maxRecDepth 100000 in
theorem kz_X7_readStreet_1 (l : Launch) (adK adV : Nat → Nat) (dC : Nat → ClassId) (dI : Nat → Nat → Nat) (cy : Nat → ClassId) (ad : Nat → Nat) (B : Int) (hB0 : 2147483648 ≤ B) (hB1 : B ≤ 1152921504606846976) (qr : Nat) (s1 : Int)   (w0 : va_W) (sz : Nat) (hT : TW ksC ad cy B qr s1 w0) (cf0_ : gi w0 1 4 = 0) (f1_ : Int32) (cf1_ : gi w0 29 9 = f1_) (rf1_ : 0 ≤ f1_.toInt) (tf1_ : f1_.toInt ≤ 11) : Met l yX7_readStreet (wu yX7_readStreet cX7_readStreet 5 none) ({ frames := 6, cells := 0, slots := 0, locals := 185 }) (va_Pc [.ref (ad 29), .ref (ad 1)] (wpreS adK adV dC dI cy sz w0)) (va_Qv (Pz_X7_readStreet_1 ad cy B qr s1  w0) (fun u : va_W => wpost dC dI cy (va_A w0 sz) u) (va_A w0 sz)) 0 0 (va_A w0 sz) := by
  refine Met.ofW (cc := cX7_readStreet) (maxL := 5) (ret := none) (by decide) rfl ?_
  intro p e s m args below meth c s₁ Bk hml hv
  obtain ⟨rfl, ⟨hsz, hP, hK, hD0⟩, hE, hSR⟩ := hv
  have hx := Bk.exec
  have hb := Bk.bytes
  have hr := Bk.returns
  have hlocks := Bk.notSynchronized
  have hC : CallFix p m c cX7_readStreet 5 s _ (wu yX7_readStreet cX7_readStreet 5 none) RX7 := ⟨hx, hb, hml, findClass_of_methodNamed Bk.named, atoms_spec (ws := (wu yX7_readStreet cX7_readStreet 5 none)) Bk.pre⟩
  subst hsz
  have hD := hD0.self (sz := s.heap.size)
  generalize hAe : va_A w0 s.heap.size = A at hD hE ⊢
  have hA : ∀ q : Nat, s.heap.size ≤ q → A q := fun q h => by rw [← hAe]; exact Or.inr h
  have hw : Wd dC dI A s.heap s.heap [] w0 := ⟨hP, hD, va_S.rf⟩
  have hF : FE ksC [(6, 1, 1), (6, 3, 3), (6, 4, 4), (7, 9, 9), (24, 0, 26), (25, 0, 13), (26, 0, 91), (27, 0, 13), (28, 0, 26)] w0 w0 := FE.rf
  have hl := lv_entry ([.ref (ad 29), .ref (ad 1)]) (n := 5) (Nat.le_of_ble_eq_true rfl)
  rw [lg_entry_eq]
  generalize (lg_sl ([.ref (ad 29), .ref (ad 1)]) ++ List.replicate (5 - (lg_sl ([.ref (ad 29), .ref (ad 1)])).length) Slot.unset).toArray = ls at hl ⊢
  have hl : lv_has ls 5 [(0, .ref (ad 29)), (1, .ref (ad 1))] := hl
  generalize hloc : ([] : List Loc) = locs at hw ⊢
  have hinX7 : ∀ w ∈ u_ws RX7 TX7 12, w ∈ (wu yX7_readStreet cX7_readStreet 5 none) := fun _ h => List.mem_cons_of_mem _ (up_73 h)
  have hinX6 : ∀ w ∈ u_ws RX6 TX6 5, w ∈ (wu yX7_readStreet cX7_readStreet 5 none) := fun _ h => List.mem_cons_of_mem _ (up_72 h)
  have hM : TT (fun n => m_X7_readStreet n 29 1 (sI w0)) (fun n => m_X7_readStreet n 29 1 (sI w0)) := TT.rf
  refine lv_aload_n hx hb dX7_readStreet_0 rfl (lv_at hl 1 rfl) ?_
  refine lv_iconst (v := 0) hx hb dX7_readStreet_1 (by decide) ?_
  refine lv_aload_n hx hb dX7_readStreet_2 rfl (lv_at hl 0 rfl) ?_
  refine tk_geti hC hK hw hT hinX7 kC_at29 (by decide) rfl 8 (by decide) (List.mem_cons_of_mem _ uw_9_7) rfl rfl dX7_readStreet_3 (fun x1 c2 rx1 tx1 => ?_)
  replace hM := hM.rd (sI_at c2)
  refine lv_iconst (v := 1) hx hb dX7_readStreet_6 (by decide) ?_
  refine lv_isub hx hb dX7_readStreet_7 ?_
  refine lv_topi (fun x3 ex3 => ?_)
  have ezx3 := ex3
  have ex3 : x3.toInt = x1.toInt - (1 : Int) := by rw [ex3]; exact wk_sub (show (-2147483648) ≤ x1.toInt - (1 : Int) by omega) (show x1.toInt - (1 : Int) ≤ 2147483647 by omega)
  replace hM := hM.lt ex3.symm
  refine tk_Vi hC hK hw hT hA hE hSR kC_at1 (by decide) rfl (kz_X6_readNumber_2 l adK adV dC dI cy ad B (by omega) (by omega) qr s1   x3 (show (-2) ≤ x3.toInt by omega) (show x3.toInt ≤ 9 by omega) w0 s.heap.size hT cf0_) (cwV 2 hC.2.2.2.2 uV_RX7_92 rfl rfl rfl (by decide +kernel) ⟨Nat.le_of_ble_eq_true rfl, Nat.le_of_ble_eq_true rfl⟩) rfl hl.1 rfl (Nat.le_of_ble_eq_true rfl) dX7_readStreet_8 (fun r4 w6 H locs hp5 hw => ?_)
  obtain ⟨hT, k7, hv20, hg19⟩ := hp5
  have hF := hF.tr k7 (by decide)
  have c21 := k7.gi kC_at29 (by decide) cf1_
  have c22 := k7.gi kC_at29 (by decide) c2
  rcases hg19 with ⟨g8, g9, g10, ⟨x11, c12, rx11, tx11⟩, ⟨x13, c14, rx13, tx13⟩, ⟨x15, c16, rx15, tx15⟩⟩ | ⟨rfl, ⟨x17, c18, rx17, tx17⟩⟩
  · replace hM := hM.call hv20 rfl
    refine lv_istore_n (lv' := [(2, .int r4), (0, .ref (ad 29)), (1, .ref (ad 1))]) hx hb dX7_readStreet_11 rfl hl (by decide) rfl (fun ls hl => ?_)
    refine lv_aload_n hx hb dX7_readStreet_12 rfl (lv_at hl 2 rfl) ?_
    refine lv_iconst (v := 0) hx hb dX7_readStreet_13 (by decide) ?_
    refine lv_aload_n hx hb dX7_readStreet_14 rfl (lv_at hl 1 rfl) ?_
    refine tk_geti hC hK hw hT hinX7 kC_at29 (by decide) rfl 8 (by decide) (List.mem_cons_of_mem _ uw_9_7) rfl rfl dX7_readStreet_15 (fun x23 c24 rx23 tx23 => ?_)
    refine wk_top x1 (c24.symm.trans c22) ?_
    replace hM := hM.rd (sI_at c22)
    refine lv_iconst (v := 1) hx hb dX7_readStreet_18 (by decide) ?_
    refine lv_isub hx hb dX7_readStreet_19 ?_
    refine lv_topi (fun x25 ex25 => ?_)
    have ezx25 := ex25
    have ex25 : x25.toInt = x1.toInt - (1 : Int) := by rw [ex25]; exact wk_sub (show (-2147483648) ≤ x1.toInt - (1 : Int) by omega) (show x1.toInt - (1 : Int) ≤ 2147483647 by omega)
    replace hM := hM.lt ex25.symm
    refine tk_Vi hC hK hw hT hA hE hSR kC_at1 (by decide) rfl (kz_X6_readNumber_3 l adK adV dC dI cy ad B (by omega) (by omega) qr s1   x25 (show 0 ≤ x25.toInt by omega) (show x25.toInt ≤ 9 by omega) w6 H.size hT (c16.trans (wk_eq.mpr (show x15.toInt = 0 by omega)))) (cwV 2 hC.2.2.2.2 uV_RX7_92 rfl rfl rfl (by decide +kernel) ⟨Nat.le_of_ble_eq_true rfl, Nat.le_of_ble_eq_true rfl⟩) rfl hl.1 rfl (Nat.le_of_ble_eq_true rfl) dX7_readStreet_20 (fun r26 w28 H locs hp27 hw => ?_)
    obtain ⟨hT, k29, hv41, hg40⟩ := hp27
    have hF := hF.tr k29 (by decide)
    have c42 := k29.gi kC_at29 (by decide) c21
    have c43 := k29.gi kC_at29 (by decide) c22
    have c44 := k29.gi kC_at1 (by decide) c12
    rcases hg40 with ⟨g30, g31, ⟨x32, c33, rx32, tx32⟩, ⟨x34, c35, rx34, tx34⟩, ⟨x36, c37, rx36, tx36⟩⟩ | ⟨rfl, ⟨x38, c39, rx38, tx38⟩⟩
    · replace hM := hM.call hv41 rfl
      have ex32 : x32.toInt = x11.toInt := by rw [← c44.symm.trans c33]
      refine lv_istore_n (lv' := [(3, .int r26), (2, .int r4), (0, .ref (ad 29)), (1, .ref (ad 1))]) hx hb dX7_readStreet_23 rfl hl (by decide) rfl (fun ls hl => ?_)
      refine lv_iload_n hx hb dX7_readStreet_24 rfl (lv_at hl 0 rfl) ?_
      refine lv_iload_n hx hb dX7_readStreet_25 rfl (lv_at hl 1 rfl) ?_
      refine lv_icmp_ne (tgt := 38) hx hb dX7_readStreet_26 (by decide) (fun c45 => ?_) (fun c45 => ?_)
      · have c45 : ¬ r26.toInt = r4.toInt := wk_eqF c45
        replace hM := hM.pos c45
        refine lv_aload_n hx hb dX7_readStreet_38 rfl (lv_at hl 3 rfl) ?_
        refine lv_iconst (v := 1) hx hb dX7_readStreet_39 (by decide) ?_
        refine lv_bipush (v := 9) hx hb dX7_readStreet_40 (by decide) ?_
        refine tk_Vi hC hK hw hT hA hE hSR kC_at1 (by decide) rfl (kz_X6_readNumber_4 l adK adV dC dI cy ad B (by omega) (by omega) qr s1    w28 H.size hT (c37.trans (wk_eq.mpr (show x36.toInt = 0 by omega)))) (cwV 2 hC.2.2.2.2 uV_RX7_92 rfl rfl rfl (by decide +kernel) ⟨Nat.le_of_ble_eq_true rfl, Nat.le_of_ble_eq_true rfl⟩) rfl hl.1 rfl (Nat.le_of_ble_eq_true rfl) dX7_readStreet_42 (fun r46 w48 H locs hp47 hw => ?_)
        obtain ⟨hT, k49, hv61, hg60⟩ := hp47
        have hF := hF.tr k49 (by decide)
        have c62 := k49.gi kC_at29 (by decide) c42
        have c63 := k49.gi kC_at29 (by decide) c43
        have c64 := k49.gi kC_at1 (by decide) c44
        rcases hg60 with ⟨g50, g51, ⟨x52, c53, rx52, tx52⟩, ⟨x54, c55, rx54, tx54⟩, ⟨x56, c57, rx56, tx56⟩⟩ | ⟨rfl, ⟨x58, c59, rx58, tx58⟩⟩
        · replace hM := hM.call hv61 rfl
          have ex52 : x52.toInt = x11.toInt := by rw [← c64.symm.trans c53]
          refine lv_istore (lv' := [(4, .int r46), (3, .int r26), (2, .int r4), (0, .ref (ad 29)), (1, .ref (ad 1))]) hx hb dX7_readStreet_45 hl (by decide) rfl (fun ls hl => ?_)
          refine lv_aload_n hx hb dX7_readStreet_47 rfl (lv_at hl 4 rfl) ?_
          refine tk_Vi hC hK hw hT hA hE hSR kC_at1 (by decide) rfl (kz_X6_isFaulty_2 l adK adV dC dI cy ad B (by omega) (by omega) qr s1    w48 H.size hT (c57.trans (wk_eq.mpr (show x56.toInt = 0 by omega)))) (cwV 0 hC.2.2.2.2 uV_RX7_89 rfl rfl rfl (by decide +kernel) ⟨Nat.le_of_ble_eq_true rfl, Nat.le_of_ble_eq_true rfl⟩) rfl hl.1 rfl (Nat.le_of_ble_eq_true rfl) dX7_readStreet_48 (fun r65 w67 H locs hp66 hw => ?_)
          obtain ⟨hT, k68, hv72, hg71⟩ := hp66
          have hF := hF.tr k68 (by decide)
          have c73 := k68.gi kC_at29 (by decide) c62
          have c74 := k68.gi kC_at29 (by decide) c63
          have c75 := k68.gi kC_at1 (by decide) c64
          have c76 := k68.gi kC_at1 (by decide) c55
          have c77 := k68.gi kC_at1 (by decide) c57
          obtain ⟨rfl, ⟨x69, c70, rx69, tx69⟩⟩ := hg71
          replace hM := hM.call (r' := 0) hv72 (by decide)
          have ex69 : x69.toInt = x56.toInt := by rw [← c77.symm.trans c70]
          refine lv_if_eq (tgt := 55) hx hb dX7_readStreet_51 (by decide) (fun _ => ?_) (fun c => absurd (by decide) c)
          replace hM := hM.pos (by decide)
          refine lv_aload_n hx hb dX7_readStreet_55 rfl (lv_at hl 3 rfl) ?_
          refine lv_aload_n hx hb dX7_readStreet_56 rfl (lv_at hl 3 rfl) ?_
          refine tk_geti hC hK hw hT hinX7 kC_at29 (by decide) rfl 9 (by decide) (List.mem_cons_of_mem _ uw_9_8) rfl rfl dX7_readStreet_57 (fun x78 c79 rx78 tx78 => ?_)
          refine wk_top f1_ (c79.symm.trans c73) ?_
          replace hM := hM.rd (sI_at c73)
          refine lv_iload_n hx hb dX7_readStreet_60 rfl (lv_at hl 2 rfl) ?_
          refine lv_iload_n hx hb dX7_readStreet_61 rfl (lv_at hl 1 rfl) ?_
          refine lv_iload hx hb dX7_readStreet_62 (lv_at hl 0 rfl) ?_
          refine tk_Vv hC hK hw hT hA hE hSR kC_at29 (by decide) rfl (kz_X7_placeStreet_1 l adK adV dC dI cy ad B (by omega) (by omega) qr s1   f1_ (show 0 ≤ f1_.toInt by omega) (show f1_.toInt ≤ 11 by omega) r4 (show 0 ≤ r4.toInt by omega) (show r4.toInt ≤ 9 by omega) r26 (show 0 ≤ r26.toInt by omega) (show r26.toInt ≤ 9 by omega) r46 (show 1 ≤ r46.toInt by omega) (show r46.toInt ≤ 9 by omega) w67 H.size hT ) (cwV 4 hC.2.2.2.2 uV_RX7_106 rfl rfl rfl (by decide +kernel) ⟨Nat.le_of_ble_eq_true rfl, Nat.le_of_ble_eq_true rfl⟩) rfl hl.1 rfl (Nat.le_of_ble_eq_true rfl) dX7_readStreet_64 (fun w82 H locs hp81 hw => ?_)
          obtain ⟨hT, k83, hv85, hg84⟩ := hp81
          have hF := hF.tr k83 (by decide)
          have c86 := k83.gi kC_at29 (by decide) c73
          have c87 := k83.gi kC_at29 (by decide) c74
          have c88 := k83.gi kC_at1 (by decide) c75
          have c89 := k83.gi kC_at1 (by decide) c76
          have c90 := k83.gi kC_at1 (by decide) c77
          clear hg84
          replace hM := hM.call hv85 rfl
          refine lv_aload_n hx hb dX7_readStreet_67 rfl (lv_at hl 3 rfl) ?_
          refine lv_aload_n hx hb dX7_readStreet_68 rfl (lv_at hl 4 rfl) ?_
          refine tk_Vv hC hK hw hT hA hE hSR kC_at29 (by decide) rfl (kz_X7_readSigns_1 l adK adV dC dI cy ad B (by omega) (by omega) qr s1    w82 H.size hT (c90.trans (wk_eq.mpr (show x56.toInt = 0 by omega))) f1_ c86 (show 0 ≤ f1_.toInt by omega) (show f1_.toInt ≤ 11 by omega)) (cwV 1 hC.2.2.2.2 uV_RX7_110 rfl rfl rfl (by decide +kernel) ⟨Nat.le_of_ble_eq_true rfl, Nat.le_of_ble_eq_true rfl⟩) rfl hl.1 rfl (Nat.le_of_ble_eq_true rfl) dX7_readStreet_69 (fun w93 H locs hp92 hw => ?_)
          obtain ⟨hT, k94, hv104, hg103⟩ := hp92
          have hF := hF.tr k94 (by decide)
          have c105 := k94.gi kC_at29 (by decide) c86
          have c106 := k94.gi kC_at29 (by decide) c87
          have c107 := k94.gi kC_at1 (by decide) c88
          rcases hg103 with ⟨⟨x95, c96, rx95, tx95⟩, ⟨x97, c98, rx97, tx97⟩⟩ | ⟨⟨x99, c100, rx99, tx99⟩, ⟨x101, c102, rx101, tx101⟩⟩
          · replace hM := hM.call hv104 rfl
            have ex97 : x97.toInt = f1_.toInt := by rw [← c105.symm.trans c98]
            refine lv_aload_n hx hb dX7_readStreet_72 rfl (lv_at hl 3 rfl) ?_
            refine lv_dup hx hb dX7_readStreet_73 rfl ?_
            refine tk_geti hC hK hw hT hinX7 kC_at29 (by decide) rfl 9 (by decide) (List.mem_cons_of_mem _ uw_9_8) rfl rfl dX7_readStreet_74 (fun x108 c109 rx108 tx108 => ?_)
            refine wk_top f1_ (c109.symm.trans c105) ?_
            replace hM := hM.rd (sI_at c105)
            refine lv_iconst (v := 1) hx hb dX7_readStreet_77 (by decide) ?_
            refine lv_iadd hx hb dX7_readStreet_78 ?_
            refine lv_topi (fun x110 ex110 => ?_)
            have ezx110 := ex110
            have ex110 : x110.toInt = f1_.toInt + (1 : Int) := by rw [ex110]; exact wk_add (show (-2147483648) ≤ f1_.toInt + (1 : Int) by omega) (show f1_.toInt + (1 : Int) ≤ 2147483647 by omega)
            replace hM := hM.lt ex110.symm
            refine tk_puti hC hK hw hT hinX7 tyX7_ok nmX7 kC_at29 (by decide) rfl rfl 9 (by decide) (List.mem_cons_of_mem _ uw_9_8) rfl rfl rfl rfl (show 0 ≤ x110.toInt by omega) (show x110.toInt ≤ 12 by omega) dX7_readStreet_79 (fun H locs w111 hw hT k113 c112 => ?_)
            replace hM := hM.wr (sI_up k113 c112)
            have hF := hF.put kC_at29 (k := 9) (by decide) k113
            have c114 := k113.gi (Or.inr (by decide)) c106
            have c115 := k113.gi (Or.inr (by decide)) c107
            have c116 := k113.gi (Or.inr (by decide)) c96
            exact tk_vret hC hr hlocks hK ⟨hT, hF, hM.ret rfl, (Or.inl ⟨⟨x95, c116, (show 1 ≤ x95.toInt by omega), (show x95.toInt ≤ 3205 by omega)⟩, ⟨x110, c112, (show 0 ≤ x110.toInt by omega), (show x110.toInt ≤ 12 by omega)⟩⟩)⟩ hw dX7_readStreet_82
          · replace hM := hM.call hv104 rfl
            have ex101 : x101.toInt = f1_.toInt := by rw [← c105.symm.trans c102]
            refine lv_aload_n hx hb dX7_readStreet_72 rfl (lv_at hl 3 rfl) ?_
            refine lv_dup hx hb dX7_readStreet_73 rfl ?_
            refine tk_geti hC hK hw hT hinX7 kC_at29 (by decide) rfl 9 (by decide) (List.mem_cons_of_mem _ uw_9_8) rfl rfl dX7_readStreet_74 (fun x117 c118 rx117 tx117 => ?_)
            refine wk_top f1_ (c118.symm.trans c105) ?_
            replace hM := hM.rd (sI_at c105)
            refine lv_iconst (v := 1) hx hb dX7_readStreet_77 (by decide) ?_
            refine lv_iadd hx hb dX7_readStreet_78 ?_
            refine lv_topi (fun x119 ex119 => ?_)
            have ezx119 := ex119
            have ex119 : x119.toInt = f1_.toInt + (1 : Int) := by rw [ex119]; exact wk_add (show (-2147483648) ≤ f1_.toInt + (1 : Int) by omega) (show f1_.toInt + (1 : Int) ≤ 2147483647 by omega)
            replace hM := hM.lt ex119.symm
            refine tk_puti hC hK hw hT hinX7 tyX7_ok nmX7 kC_at29 (by decide) rfl rfl 9 (by decide) (List.mem_cons_of_mem _ uw_9_8) rfl rfl rfl rfl (show 0 ≤ x119.toInt by omega) (show x119.toInt ≤ 12 by omega) dX7_readStreet_79 (fun H locs w120 hw hT k122 c121 => ?_)
            replace hM := hM.wr (sI_up k122 c121)
            have hF := hF.put kC_at29 (k := 9) (by decide) k122
            have c123 := k122.gi (Or.inr (by decide)) c106
            have c124 := k122.gi (Or.inr (by decide)) c107
            have c125 := k122.gi (Or.inr (by decide)) c100
            exact tk_vret hC hr hlocks hK ⟨hT, hF, hM.ret rfl, (Or.inr ⟨⟨x11, c124, (show 1 ≤ x11.toInt by omega), (show x11.toInt ≤ 400 by omega)⟩, ⟨x99, c125, (show 0 ≤ x99.toInt by omega), (show x99.toInt ≤ 0 by omega)⟩, ⟨x1, c123, (show 1 ≤ x1.toInt by omega), (show x1.toInt ≤ 10 by omega)⟩, ⟨x119, c121, (show 1 ≤ x119.toInt by omega), (show x119.toInt ≤ 12 by omega)⟩⟩)⟩ hw dX7_readStreet_82
        · replace hM := hM.call (r' := (-1)) hv61 (by decide)
          refine lv_istore (lv' := [(4, .int (-1)), (3, .int r26), (2, .int r4), (0, .ref (ad 29)), (1, .ref (ad 1))]) hx hb dX7_readStreet_45 hl (by decide) rfl (fun ls hl => ?_)
          refine lv_aload_n hx hb dX7_readStreet_47 rfl (lv_at hl 4 rfl) ?_
          refine tk_Vi hC hK hw hT hA hE hSR kC_at1 (by decide) rfl (kz_X6_isFaulty_3 l adK adV dC dI cy ad B (by omega) (by omega) qr s1    w48 H.size hT x58 c59 (show 1 ≤ x58.toInt by omega) (show x58.toInt ≤ 3205 by omega)) (cwV 0 hC.2.2.2.2 uV_RX7_89 rfl rfl rfl (by decide +kernel) ⟨Nat.le_of_ble_eq_true rfl, Nat.le_of_ble_eq_true rfl⟩) rfl hl.1 rfl (Nat.le_of_ble_eq_true rfl) dX7_readStreet_48 (fun r126 w128 H locs hp127 hw => ?_)
          obtain ⟨hT, k129, hv133, hg132⟩ := hp127
          have hF := hF.tr k129 (by decide)
          have c134 := k129.gi kC_at29 (by decide) c62
          have c135 := k129.gi kC_at29 (by decide) c63
          have c136 := k129.gi kC_at1 (by decide) c64
          have c137 := k129.gi kC_at1 (by decide) c59
          obtain ⟨rfl, ⟨x130, c131, rx130, tx130⟩⟩ := hg132
          replace hM := hM.call (r' := 1) hv133 (by decide)
          have ex130 : x130.toInt = x58.toInt := by rw [← c137.symm.trans c131]
          refine lv_if_eq (tgt := 55) hx hb dX7_readStreet_51 (by decide) (fun c => absurd c (by decide)) (fun _ => ?_)
          replace hM := hM.neg (by decide)
          exact tk_vret hC hr hlocks hK ⟨hT, hF, hM.ret rfl, (Or.inl ⟨⟨x58, c137, (show 1 ≤ x58.toInt by omega), (show x58.toInt ≤ 3205 by omega)⟩, ⟨f1_, c134, (show 0 ≤ f1_.toInt by omega), (show f1_.toInt ≤ 12 by omega)⟩⟩)⟩ hw dX7_readStreet_54
      · have c45 : r26.toInt = r4.toInt := wk_eq.mp c45
        replace hM := hM.neg (fun q => q c45)
        refine lv_aload_n hx hb dX7_readStreet_29 rfl (lv_at hl 3 rfl) ?_
        refine lv_aload_n hx hb dX7_readStreet_30 rfl (lv_at hl 3 rfl) ?_
        refine tk_geti hC hK hw hT hinX6 kC_at1 (by decide) rfl 3 (by decide) (List.mem_cons_of_mem _ uw_9_11) rfl rfl dX7_readStreet_31 (fun x138 c139 rx138 tx138 => ?_)
        refine wk_top x34 (c139.symm.trans c35) ?_
        replace hM := hM.rd (sI_at c35)
        refine lv_iconst (v := 1) hx hb dX7_readStreet_34 (by decide) ?_
        refine tk_Vv hC hK hw hT hA hE hSR kC_at1 (by decide) rfl (kz_X6_blame_2 l adK adV dC dI cy ad B (by omega) (by omega) qr s1   x34 (show 0 ≤ x34.toInt by omega) (show x34.toInt ≤ 400 by omega) 1 (by decide) (by decide) w28 H.size hT (c37.trans (wk_eq.mpr (show x36.toInt = 0 by omega)))) (cwV 2 hC.2.2.2.2 uV_RX7_73 rfl rfl rfl (by decide +kernel) ⟨Nat.le_of_ble_eq_true rfl, Nat.le_of_ble_eq_true rfl⟩) rfl hl.1 rfl (Nat.le_of_ble_eq_true rfl) dX7_readStreet_35 (fun w142 H locs hp141 hw => ?_)
        obtain ⟨hT, k143, hv147, hg146⟩ := hp141
        try simp only [show (1 : Int32).toInt = 1 by decide] at hv147
        have hF := hF.tr k143 (by decide)
        have c148 := k143.gi kC_at29 (by decide) c42
        have c149 := k143.gi kC_at29 (by decide) c43
        have c150 := k143.gi kC_at1 (by decide) c44
        have c151 := k143.gi kC_at1 (by decide) c35
        obtain ⟨x144, c145, rx144, tx144⟩ := hg146
        replace hM := hM.call hv147 rfl
        refine lv_aload_n hx hb dX7_readStreet_38 rfl (lv_at hl 3 rfl) ?_
        refine lv_iconst (v := 1) hx hb dX7_readStreet_39 (by decide) ?_
        refine lv_bipush (v := 9) hx hb dX7_readStreet_40 (by decide) ?_
        refine tk_Vi hC hK hw hT hA hE hSR kC_at1 (by decide) rfl (kz_X6_readNumber_5 l adK adV dC dI cy ad B (by omega) (by omega) qr s1    w142 H.size hT x144 c145 (show 1 ≤ x144.toInt by omega) (show x144.toInt ≤ 3205 by omega)) (cwV 2 hC.2.2.2.2 uV_RX7_92 rfl rfl rfl (by decide +kernel) ⟨Nat.le_of_ble_eq_true rfl, Nat.le_of_ble_eq_true rfl⟩) rfl hl.1 rfl (Nat.le_of_ble_eq_true rfl) dX7_readStreet_42 (fun r152 w154 H locs hp153 hw => ?_)
        obtain ⟨hT, k155, hv159, hg158⟩ := hp153
        have hF := hF.tr k155 (by decide)
        have c160 := k155.gi kC_at29 (by decide) c148
        have c161 := k155.gi kC_at29 (by decide) c149
        have c162 := k155.gi kC_at1 (by decide) c150
        have c163 := k155.gi kC_at1 (by decide) c151
        have c164 := k155.gi kC_at1 (by decide) c145
        obtain ⟨rfl, ⟨x156, c157, rx156, tx156⟩⟩ := hg158
        replace hM := hM.call (r' := (-1)) hv159 (by decide)
        have ex156 : x156.toInt = x144.toInt := by rw [← c164.symm.trans c157]
        refine lv_istore (lv' := [(4, .int (-1)), (3, .int r26), (2, .int r4), (0, .ref (ad 29)), (1, .ref (ad 1))]) hx hb dX7_readStreet_45 hl (by decide) rfl (fun ls hl => ?_)
        refine lv_aload_n hx hb dX7_readStreet_47 rfl (lv_at hl 4 rfl) ?_
        refine tk_Vi hC hK hw hT hA hE hSR kC_at1 (by decide) rfl (kz_X6_isFaulty_3 l adK adV dC dI cy ad B (by omega) (by omega) qr s1    w154 H.size hT x144 c164 (show 1 ≤ x144.toInt by omega) (show x144.toInt ≤ 3205 by omega)) (cwV 0 hC.2.2.2.2 uV_RX7_89 rfl rfl rfl (by decide +kernel) ⟨Nat.le_of_ble_eq_true rfl, Nat.le_of_ble_eq_true rfl⟩) rfl hl.1 rfl (Nat.le_of_ble_eq_true rfl) dX7_readStreet_48 (fun r165 w167 H locs hp166 hw => ?_)
        obtain ⟨hT, k168, hv172, hg171⟩ := hp166
        have hF := hF.tr k168 (by decide)
        have c173 := k168.gi kC_at29 (by decide) c160
        have c174 := k168.gi kC_at29 (by decide) c161
        have c175 := k168.gi kC_at1 (by decide) c162
        have c176 := k168.gi kC_at1 (by decide) c163
        have c177 := k168.gi kC_at1 (by decide) c164
        obtain ⟨rfl, ⟨x169, c170, rx169, tx169⟩⟩ := hg171
        replace hM := hM.call (r' := 1) hv172 (by decide)
        have ex169 : x169.toInt = x144.toInt := by rw [← c177.symm.trans c170]
        refine lv_if_eq (tgt := 55) hx hb dX7_readStreet_51 (by decide) (fun c => absurd c (by decide)) (fun _ => ?_)
        replace hM := hM.neg (by decide)
        exact tk_vret hC hr hlocks hK ⟨hT, hF, hM.ret rfl, (Or.inl ⟨⟨x144, c177, (show 1 ≤ x144.toInt by omega), (show x144.toInt ≤ 3205 by omega)⟩, ⟨f1_, c173, (show 0 ≤ f1_.toInt by omega), (show f1_.toInt ≤ 12 by omega)⟩⟩)⟩ hw dX7_readStreet_54
    · replace hM := hM.call (r' := (-1)) hv41 (by decide)
      refine lv_istore_n (lv' := [(3, .int (-1)), (2, .int r4), (0, .ref (ad 29)), (1, .ref (ad 1))]) hx hb dX7_readStreet_23 rfl hl (by decide) rfl (fun ls hl => ?_)
      refine lv_iload_n hx hb dX7_readStreet_24 rfl (lv_at hl 0 rfl) ?_
      refine lv_iload_n hx hb dX7_readStreet_25 rfl (lv_at hl 1 rfl) ?_
      refine lv_icmp_ne (tgt := 38) hx hb dX7_readStreet_26 (by decide) (fun _ => ?_) (fun c => absurd (show (-1 : Int) = r4.toInt from wk_eq.mp c) (by omega))
      replace hM := hM.pos (by omega)
      refine lv_aload_n hx hb dX7_readStreet_38 rfl (lv_at hl 3 rfl) ?_
      refine lv_iconst (v := 1) hx hb dX7_readStreet_39 (by decide) ?_
      refine lv_bipush (v := 9) hx hb dX7_readStreet_40 (by decide) ?_
      refine tk_Vi hC hK hw hT hA hE hSR kC_at1 (by decide) rfl (kz_X6_readNumber_5 l adK adV dC dI cy ad B (by omega) (by omega) qr s1    w28 H.size hT x38 c39 (show 1 ≤ x38.toInt by omega) (show x38.toInt ≤ 3205 by omega)) (cwV 2 hC.2.2.2.2 uV_RX7_92 rfl rfl rfl (by decide +kernel) ⟨Nat.le_of_ble_eq_true rfl, Nat.le_of_ble_eq_true rfl⟩) rfl hl.1 rfl (Nat.le_of_ble_eq_true rfl) dX7_readStreet_42 (fun r178 w180 H locs hp179 hw => ?_)
      obtain ⟨hT, k181, hv185, hg184⟩ := hp179
      have hF := hF.tr k181 (by decide)
      have c186 := k181.gi kC_at29 (by decide) c42
      have c187 := k181.gi kC_at29 (by decide) c43
      have c188 := k181.gi kC_at1 (by decide) c44
      have c189 := k181.gi kC_at1 (by decide) c39
      obtain ⟨rfl, ⟨x182, c183, rx182, tx182⟩⟩ := hg184
      replace hM := hM.call (r' := (-1)) hv185 (by decide)
      have ex182 : x182.toInt = x38.toInt := by rw [← c189.symm.trans c183]
      refine lv_istore (lv' := [(4, .int (-1)), (3, .int (-1)), (2, .int r4), (0, .ref (ad 29)), (1, .ref (ad 1))]) hx hb dX7_readStreet_45 hl (by decide) rfl (fun ls hl => ?_)
      refine lv_aload_n hx hb dX7_readStreet_47 rfl (lv_at hl 4 rfl) ?_
      refine tk_Vi hC hK hw hT hA hE hSR kC_at1 (by decide) rfl (kz_X6_isFaulty_3 l adK adV dC dI cy ad B (by omega) (by omega) qr s1    w180 H.size hT x38 c189 (show 1 ≤ x38.toInt by omega) (show x38.toInt ≤ 3205 by omega)) (cwV 0 hC.2.2.2.2 uV_RX7_89 rfl rfl rfl (by decide +kernel) ⟨Nat.le_of_ble_eq_true rfl, Nat.le_of_ble_eq_true rfl⟩) rfl hl.1 rfl (Nat.le_of_ble_eq_true rfl) dX7_readStreet_48 (fun r190 w192 H locs hp191 hw => ?_)
      obtain ⟨hT, k193, hv197, hg196⟩ := hp191
      have hF := hF.tr k193 (by decide)
      have c198 := k193.gi kC_at29 (by decide) c186
      have c199 := k193.gi kC_at29 (by decide) c187
      have c200 := k193.gi kC_at1 (by decide) c188
      have c201 := k193.gi kC_at1 (by decide) c189
      obtain ⟨rfl, ⟨x194, c195, rx194, tx194⟩⟩ := hg196
      replace hM := hM.call (r' := 1) hv197 (by decide)
      have ex194 : x194.toInt = x38.toInt := by rw [← c201.symm.trans c195]
      refine lv_if_eq (tgt := 55) hx hb dX7_readStreet_51 (by decide) (fun c => absurd c (by decide)) (fun _ => ?_)
      replace hM := hM.neg (by decide)
      exact tk_vret hC hr hlocks hK ⟨hT, hF, hM.ret rfl, (Or.inl ⟨⟨x38, c201, (show 1 ≤ x38.toInt by omega), (show x38.toInt ≤ 3205 by omega)⟩, ⟨f1_, c198, (show 0 ≤ f1_.toInt by omega), (show f1_.toInt ≤ 12 by omega)⟩⟩)⟩ hw dX7_readStreet_54
  · replace hM := hM.call (r' := (-1)) hv20 (by decide)
    refine lv_istore_n (lv' := [(2, .int (-1)), (0, .ref (ad 29)), (1, .ref (ad 1))]) hx hb dX7_readStreet_11 rfl hl (by decide) rfl (fun ls hl => ?_)
    refine lv_aload_n hx hb dX7_readStreet_12 rfl (lv_at hl 2 rfl) ?_
    refine lv_iconst (v := 0) hx hb dX7_readStreet_13 (by decide) ?_
    refine lv_aload_n hx hb dX7_readStreet_14 rfl (lv_at hl 1 rfl) ?_
    refine tk_geti hC hK hw hT hinX7 kC_at29 (by decide) rfl 8 (by decide) (List.mem_cons_of_mem _ uw_9_7) rfl rfl dX7_readStreet_15 (fun x202 c203 rx202 tx202 => ?_)
    refine wk_top x1 (c203.symm.trans c22) ?_
    replace hM := hM.rd (sI_at c22)
    refine lv_iconst (v := 1) hx hb dX7_readStreet_18 (by decide) ?_
    refine lv_isub hx hb dX7_readStreet_19 ?_
    refine lv_topi (fun x204 ex204 => ?_)
    have ezx204 := ex204
    have ex204 : x204.toInt = x1.toInt - (1 : Int) := by rw [ex204]; exact wk_sub (show (-2147483648) ≤ x1.toInt - (1 : Int) by omega) (show x1.toInt - (1 : Int) ≤ 2147483647 by omega)
    replace hM := hM.lt ex204.symm
    refine tk_Vi hC hK hw hT hA hE hSR kC_at1 (by decide) rfl (kz_X6_readNumber_6 l adK adV dC dI cy ad B (by omega) (by omega) qr s1   x204 (show (-2) ≤ x204.toInt by omega) (show x204.toInt ≤ 9 by omega) w6 H.size hT x17 c18 (show 1 ≤ x17.toInt by omega) (show x17.toInt ≤ 3205 by omega)) (cwV 2 hC.2.2.2.2 uV_RX7_92 rfl rfl rfl (by decide +kernel) ⟨Nat.le_of_ble_eq_true rfl, Nat.le_of_ble_eq_true rfl⟩) rfl hl.1 rfl (Nat.le_of_ble_eq_true rfl) dX7_readStreet_20 (fun r205 w207 H locs hp206 hw => ?_)
    obtain ⟨hT, k208, hv212, hg211⟩ := hp206
    have hF := hF.tr k208 (by decide)
    have c213 := k208.gi kC_at29 (by decide) c21
    have c214 := k208.gi kC_at29 (by decide) c22
    have c215 := k208.gi kC_at1 (by decide) c18
    obtain ⟨rfl, ⟨x209, c210, rx209, tx209⟩⟩ := hg211
    replace hM := hM.call (r' := (-1)) hv212 (by decide)
    have ex209 : x209.toInt = x17.toInt := by rw [← c215.symm.trans c210]
    refine lv_istore_n (lv' := [(3, .int (-1)), (2, .int (-1)), (0, .ref (ad 29)), (1, .ref (ad 1))]) hx hb dX7_readStreet_23 rfl hl (by decide) rfl (fun ls hl => ?_)
    refine lv_iload_n hx hb dX7_readStreet_24 rfl (lv_at hl 0 rfl) ?_
    refine lv_iload_n hx hb dX7_readStreet_25 rfl (lv_at hl 1 rfl) ?_
    refine lv_icmp_ne (tgt := 38) hx hb dX7_readStreet_26 (by decide) (fun c => absurd (by decide) c) (fun _ => ?_)
    replace hM := hM.neg (by decide)
    refine lv_aload_n hx hb dX7_readStreet_29 rfl (lv_at hl 3 rfl) ?_
    refine lv_aload_n hx hb dX7_readStreet_30 rfl (lv_at hl 3 rfl) ?_
    refine tk_geti hC hK hw hT hinX6 kC_at1 (by decide) rfl 3 (by decide) (List.mem_cons_of_mem _ uw_9_11) rfl rfl dX7_readStreet_31 (fun x216 c217 rx216 tx216 => ?_)
    replace hM := hM.rd (sI_at c217)
    refine lv_iconst (v := 1) hx hb dX7_readStreet_34 (by decide) ?_
    refine tk_Vv hC hK hw hT hA hE hSR kC_at1 (by decide) rfl (kz_X6_blame_3 l adK adV dC dI cy ad B (by omega) (by omega) qr s1   x216 (show 0 ≤ x216.toInt by omega) (show x216.toInt ≤ 400 by omega) 1 (by decide) (by decide) w207 H.size hT x17 c215 (show 1 ≤ x17.toInt by omega) (show x17.toInt ≤ 3205 by omega)) (cwV 2 hC.2.2.2.2 uV_RX7_73 rfl rfl rfl (by decide +kernel) ⟨Nat.le_of_ble_eq_true rfl, Nat.le_of_ble_eq_true rfl⟩) rfl hl.1 rfl (Nat.le_of_ble_eq_true rfl) dX7_readStreet_35 (fun w220 H locs hp219 hw => ?_)
    obtain ⟨hT, k221, hv225, hg224⟩ := hp219
    try simp only [show (1 : Int32).toInt = 1 by decide] at hv225
    have hF := hF.tr k221 (by decide)
    have c226 := k221.gi kC_at29 (by decide) c213
    have c227 := k221.gi kC_at29 (by decide) c214
    have c228 := k221.gi kC_at1 (by decide) c215
    have c229 := k221.gi kC_at1 (by decide) c217
    obtain ⟨x222, c223, rx222, tx222⟩ := hg224
    replace hM := hM.call hv225 rfl
    have ex222 : x222.toInt = x17.toInt := by rw [← c228.symm.trans c223]
    refine lv_aload_n hx hb dX7_readStreet_38 rfl (lv_at hl 3 rfl) ?_
    refine lv_iconst (v := 1) hx hb dX7_readStreet_39 (by decide) ?_
    refine lv_bipush (v := 9) hx hb dX7_readStreet_40 (by decide) ?_
    refine tk_Vi hC hK hw hT hA hE hSR kC_at1 (by decide) rfl (kz_X6_readNumber_5 l adK adV dC dI cy ad B (by omega) (by omega) qr s1    w220 H.size hT x17 c228 (show 1 ≤ x17.toInt by omega) (show x17.toInt ≤ 3205 by omega)) (cwV 2 hC.2.2.2.2 uV_RX7_92 rfl rfl rfl (by decide +kernel) ⟨Nat.le_of_ble_eq_true rfl, Nat.le_of_ble_eq_true rfl⟩) rfl hl.1 rfl (Nat.le_of_ble_eq_true rfl) dX7_readStreet_42 (fun r230 w232 H locs hp231 hw => ?_)
    obtain ⟨hT, k233, hv237, hg236⟩ := hp231
    have hF := hF.tr k233 (by decide)
    have c238 := k233.gi kC_at29 (by decide) c226
    have c239 := k233.gi kC_at29 (by decide) c227
    have c240 := k233.gi kC_at1 (by decide) c228
    have c241 := k233.gi kC_at1 (by decide) c229
    obtain ⟨rfl, ⟨x234, c235, rx234, tx234⟩⟩ := hg236
    replace hM := hM.call (r' := (-1)) hv237 (by decide)
    have ex234 : x234.toInt = x17.toInt := by rw [← c240.symm.trans c235]
    refine lv_istore (lv' := [(4, .int (-1)), (3, .int (-1)), (2, .int (-1)), (0, .ref (ad 29)), (1, .ref (ad 1))]) hx hb dX7_readStreet_45 hl (by decide) rfl (fun ls hl => ?_)
    refine lv_aload_n hx hb dX7_readStreet_47 rfl (lv_at hl 4 rfl) ?_
    refine tk_Vi hC hK hw hT hA hE hSR kC_at1 (by decide) rfl (kz_X6_isFaulty_3 l adK adV dC dI cy ad B (by omega) (by omega) qr s1    w232 H.size hT x17 c240 (show 1 ≤ x17.toInt by omega) (show x17.toInt ≤ 3205 by omega)) (cwV 0 hC.2.2.2.2 uV_RX7_89 rfl rfl rfl (by decide +kernel) ⟨Nat.le_of_ble_eq_true rfl, Nat.le_of_ble_eq_true rfl⟩) rfl hl.1 rfl (Nat.le_of_ble_eq_true rfl) dX7_readStreet_48 (fun r242 w244 H locs hp243 hw => ?_)
    obtain ⟨hT, k245, hv249, hg248⟩ := hp243
    have hF := hF.tr k245 (by decide)
    have c250 := k245.gi kC_at29 (by decide) c238
    have c251 := k245.gi kC_at29 (by decide) c239
    have c252 := k245.gi kC_at1 (by decide) c240
    have c253 := k245.gi kC_at1 (by decide) c241
    obtain ⟨rfl, ⟨x246, c247, rx246, tx246⟩⟩ := hg248
    replace hM := hM.call (r' := 1) hv249 (by decide)
    have ex246 : x246.toInt = x17.toInt := by rw [← c252.symm.trans c247]
    refine lv_if_eq (tgt := 55) hx hb dX7_readStreet_51 (by decide) (fun c => absurd c (by decide)) (fun _ => ?_)
    replace hM := hM.neg (by decide)
    exact tk_vret hC hr hlocks hK ⟨hT, hF, hM.ret rfl, (Or.inl ⟨⟨x17, c252, (show 1 ≤ x17.toInt by omega), (show x17.toInt ≤ 3205 by omega)⟩, ⟨f1_, c250, (show 0 ≤ f1_.toInt by omega), (show f1_.toInt ≤ 12 by omega)⟩⟩)⟩ hw dX7_readStreet_54
abbrev Pz_X7_readClause_2 (ad : Nat → Nat) (cy : Nat → ClassId) (B : Int) (qr : Nat) (s1 : Int)  (w0 : va_W) : va_W → Prop := fun u => TW ksC ad cy B qr s1 u ∧ FE ksC [(6, 1, 1), (6, 3, 3), (6, 4, 4), (7, 9, 9), (24, 0, 26), (25, 0, 13), (26, 0, 91), (27, 0, 13), (28, 0, 26)] w0 u ∧ Ev (fun n => m_X7_readClause n 29 1 1 (sI w0)) (0, sI u) ∧ (((∃ y : Int32, gi u 1 4 = y ∧ 1 ≤ y.toInt ∧ y.toInt ≤ 3205) ∧ (∃ y : Int32, gi u 29 9 = y ∧ 0 ≤ y.toInt ∧ y.toInt ≤ 11)) ∨ ((∃ y : Int32, gi u 1 4 = y ∧ 0 ≤ y.toInt ∧ y.toInt ≤ 3205) ∧ (∃ y : Int32, gi u 29 9 = y ∧ 0 ≤ y.toInt ∧ y.toInt ≤ 12)))
set_option maxHeartbeats 4000000 in
set_option maxRecDepth 100000 in
theorem kz_X7_readClause_2 (l : Launch) (adK adV : Nat → Nat) (dC : Nat → ClassId) (dI : Nat → Nat → Nat) (cy : Nat → ClassId) (ad : Nat → Nat) (B : Int) (hB0 : 2147483648 ≤ B) (hB1 : B ≤ 1152921504606846976) (qr : Nat) (s1 : Int)   (w0 : va_W) (sz : Nat) (hT : TW ksC ad cy B qr s1 w0) (f0_ : Int32) (cf0_ : gi w0 29 9 = f0_) (rf0_ : 0 ≤ f0_.toInt) (tf0_ : f0_.toInt ≤ 11) : Met l yX7_readClause (wu yX7_readClause cX7_readClause 3 none) ({ frames := 7, cells := 0, slots := 0, locals := 209 }) (va_Pc [.ref (ad 29), .ref (ad 1), .int 1] (wpreS adK adV dC dI cy sz w0)) (va_Qv (Pz_X7_readClause_2 ad cy B qr s1  w0) (fun u : va_W => wpost dC dI cy (va_A w0 sz) u) (va_A w0 sz)) 0 0 (va_A w0 sz) := by
  refine Met.ofW (cc := cX7_readClause) (maxL := 3) (ret := none) (by decide) rfl ?_
  intro p e s m args below meth c s₁ Bk hml hv
  obtain ⟨rfl, ⟨hsz, hP, hK, hD0⟩, hE, hSR⟩ := hv
  have hx := Bk.exec
  have hb := Bk.bytes
  have hr := Bk.returns
  have hlocks := Bk.notSynchronized
  have hC : CallFix p m c cX7_readClause 3 s _ (wu yX7_readClause cX7_readClause 3 none) RX7 := ⟨hx, hb, hml, findClass_of_methodNamed Bk.named, atoms_spec (ws := (wu yX7_readClause cX7_readClause 3 none)) Bk.pre⟩
  subst hsz
  have hD := hD0.self (sz := s.heap.size)
  generalize hAe : va_A w0 s.heap.size = A at hD hE ⊢
  have hA : ∀ q : Nat, s.heap.size ≤ q → A q := fun q h => by rw [← hAe]; exact Or.inr h
  have hw : Wd dC dI A s.heap s.heap [] w0 := ⟨hP, hD, va_S.rf⟩
  have hF : FE ksC [(6, 1, 1), (6, 3, 3), (6, 4, 4), (7, 9, 9), (24, 0, 26), (25, 0, 13), (26, 0, 91), (27, 0, 13), (28, 0, 26)] w0 w0 := FE.rf
  have hl := lv_entry ([.ref (ad 29), .ref (ad 1), .int 1]) (n := 3) (Nat.le_of_ble_eq_true rfl)
  rw [lg_entry_eq]
  generalize (lg_sl ([.ref (ad 29), .ref (ad 1), .int 1]) ++ List.replicate (3 - (lg_sl ([.ref (ad 29), .ref (ad 1), .int 1])).length) Slot.unset).toArray = ls at hl ⊢
  have hl : lv_has ls 3 [(0, .ref (ad 29)), (1, .ref (ad 1)), (2, .int 1)] := hl
  generalize hloc : ([] : List Loc) = locs at hw ⊢
  have J57 : ∀ (f57_1_4 : Int32) (f57_29_9 : Int32) (H : Heap) (locs : List Loc) (ls : Array Slot) (w1 : va_W), 0 ≤ f57_1_4.toInt → f57_1_4.toInt ≤ 3205 → 0 ≤ f57_29_9.toInt → f57_29_9.toInt ≤ 12 → Wd dC dI A s.heap H locs w1 → TW ksC ad cy B qr s1 w1 → FE ksC [(6, 1, 1), (6, 3, 3), (6, 4, 4), (7, 9, 9), (24, 0, 26), (25, 0, 13), (26, 0, 91), (27, 0, 13), (28, 0, 26)] w0 w1 → gi w1 1 4 = f57_1_4 → gi w1 29 9 = f57_29_9 → TT (fun n => m_X7_readClause n 29 1 1 (sI w0)) (fun n => b_X7_readClause_57 n 29 1 (sI w1)) → lv_has ls 3 [(0, .ref (ad 29)), (1, .ref (ad 1)), (2, .int 1)] → W p l e ({ frames := 7, cells := 0, slots := 0, locals := 209 }) s m (List.toArray [.ref (ad 29), .ref (ad 1), .int 1]) below meth c H locs 0 0 (MQ below (va_Qv (Pz_X7_readClause_2 ad cy B qr s1  w0) (fun u : va_W => wpost dC dI cy A u) A) (List.toArray [.ref (ad 29), .ref (ad 1), .int 1]) s 0 0 A) (F0 m 57 ls []) := by
    intro f57_1_4 f57_29_9 H locs ls w1 r2 t3 r5 t6 hw hT hF c4 c7 hM hl
    exact tk_vret hC hr hlocks hK ⟨hT, hF, hM.ret rfl, (Or.inr ⟨⟨f57_1_4, c4, (show 0 ≤ f57_1_4.toInt by omega), (show f57_1_4.toInt ≤ 3205 by omega)⟩, ⟨f57_29_9, c7, (show 0 ≤ f57_29_9.toInt by omega), (show f57_29_9.toInt ≤ 12 by omega)⟩⟩)⟩ hw dX7_readClause_57
  have hM : TT (fun n => m_X7_readClause n 29 1 1 (sI w0)) (fun n => m_X7_readClause n 29 1 1 (sI w0)) := TT.rf
  refine lv_aload_n hx hb dX7_readClause_0 rfl (lv_at hl 1 rfl) ?_
  refine tk_Vi hC hK hw hT hA hE hSR kC_at1 (by decide) rfl (kz_X6_isFaulty_1 l adK adV dC dI cy ad B (by omega) (by omega) qr s1    w0 s.heap.size hT ) (cwV 0 hC.2.2.2.2 uV_RX7_89 rfl rfl rfl (by decide +kernel) ⟨Nat.le_of_ble_eq_true rfl, Nat.le_of_ble_eq_true rfl⟩) rfl hl.1 rfl (Nat.le_of_ble_eq_true rfl) dX7_readClause_1 (fun r8 w10 H locs hp9 hw => ?_)
  obtain ⟨hT, k11, hv17, hg16⟩ := hp9
  have hF := hF.tr k11 (by decide)
  have c18 := k11.gi kC_at29 (by decide) cf0_
  rcases hg16 with ⟨rfl, ⟨x12, c13, rx12, tx12⟩⟩ | ⟨rfl, ⟨x14, c15, rx14, tx14⟩⟩
  · replace hM := hM.call (r' := 0) hv17 (by decide)
    refine lv_if_eq (tgt := 8) hx hb dX7_readClause_4 (by decide) (fun _ => ?_) (fun c => absurd (by decide) c)
    replace hM := hM.pos (by decide)
    refine lv_iload_n hx hb dX7_readClause_8 rfl (lv_at hl 2 rfl) ?_
    refine lv_if_ne (tgt := 26) hx hb dX7_readClause_9 (by decide) (fun _ => ?_) (fun c => absurd c (by decide))
    replace hM := hM.pos (by decide)
    refine lv_iload_n hx hb dX7_readClause_26 rfl (lv_at hl 2 rfl) ?_
    refine lv_iconst (v := 1) hx hb dX7_readClause_27 (by decide) ?_
    refine lv_icmp_ne (tgt := 39) hx hb dX7_readClause_28 (by decide) (fun c => absurd (by decide) c) (fun _ => ?_)
    replace hM := hM.neg (by decide)
    refine lv_aload_n hx hb dX7_readClause_31 rfl (lv_at hl 0 rfl) ?_
    refine lv_aload_n hx hb dX7_readClause_32 rfl (lv_at hl 1 rfl) ?_
    refine tk_Vv hC hK hw hT hA hE hSR kC_at29 (by decide) rfl (kz_X7_readStreet_1 l adK adV dC dI cy ad B (by omega) (by omega) qr s1    w10 H.size hT (c13.trans (wk_eq.mpr (show x12.toInt = 0 by omega))) f0_ c18 (show 0 ≤ f0_.toInt by omega) (show f0_.toInt ≤ 11 by omega)) (cwV 1 hC.2.2.2.2 uV_RX7_96 rfl rfl rfl (by decide +kernel) ⟨Nat.le_of_ble_eq_true rfl, Nat.le_of_ble_eq_true rfl⟩) rfl hl.1 rfl (Nat.le_of_ble_eq_true rfl) dX7_readClause_33 (fun w21 H locs hp20 hw => ?_)
    obtain ⟨hT, k22, hv36, hg35⟩ := hp20
    have hF := hF.tr k22 (by decide)
    rcases hg35 with ⟨⟨x23, c24, rx23, tx23⟩, ⟨x25, c26, rx25, tx25⟩⟩ | ⟨⟨x27, c28, rx27, tx27⟩, ⟨x29, c30, rx29, tx29⟩, ⟨x31, c32, rx31, tx31⟩, ⟨x33, c34, rx33, tx33⟩⟩
    · replace hM := hM.call hv36 rfl
      refine lv_goto (tgt := 57) hx hb dX7_readClause_36 (by decide) ?_
      exact J57 x23 x25 H locs ls w21 (show 0 ≤ x23.toInt by omega) (show x23.toInt ≤ 3205 by omega) (show 0 ≤ x25.toInt by omega) (show x25.toInt ≤ 12 by omega)  hw hT hF c24 c26 hM (lv_sub hl [0, 1, 2] rfl)
    · replace hM := hM.call hv36 rfl
      refine lv_goto (tgt := 57) hx hb dX7_readClause_36 (by decide) ?_
      exact J57 x29 x33 H locs ls w21 (show 0 ≤ x29.toInt by omega) (show x29.toInt ≤ 3205 by omega) (show 0 ≤ x33.toInt by omega) (show x33.toInt ≤ 12 by omega)  hw hT hF c30 c34 hM (lv_sub hl [0, 1, 2] rfl)
  · replace hM := hM.call (r' := 1) hv17 (by decide)
    refine lv_if_eq (tgt := 8) hx hb dX7_readClause_4 (by decide) (fun c => absurd c (by decide)) (fun _ => ?_)
    replace hM := hM.neg (by decide)
    exact tk_vret hC hr hlocks hK ⟨hT, hF, hM.ret rfl, (Or.inl ⟨⟨x14, c15, (show 1 ≤ x14.toInt by omega), (show x14.toInt ≤ 3205 by omega)⟩, ⟨f0_, c18, (show 0 ≤ f0_.toInt by omega), (show f0_.toInt ≤ 11 by omega)⟩⟩)⟩ hw dX7_readClause_7
abbrev Pz_X6_readNumber_7 (ad : Nat → Nat) (cy : Nat → ClassId) (B : Int) (qr : Nat) (s1 : Int)  (w0 : va_W) : Int32 → va_W → Prop := fun r u => TW ksC ad cy B qr s1 u ∧ FE ksC [(6, 1, 1), (6, 3, 3), (6, 4, 4)] w0 u ∧ Ev (fun n => m_X6_readNumber n 1 0 359 (sI w0)) (r.toInt, sI u) ∧ ((0 ≤ r.toInt ∧ r.toInt ≤ 359 ∧ (∃ y : Int32, gi u 1 2 = y ∧ 1 ≤ y.toInt ∧ y.toInt ≤ 400) ∧ (∃ y : Int32, gi u 1 3 = y ∧ 0 ≤ y.toInt ∧ y.toInt ≤ 399) ∧ (∃ y : Int32, gi u 1 4 = y ∧ 0 ≤ y.toInt ∧ y.toInt ≤ 0)) ∨ (r = (-1) ∧ (∃ y : Int32, gi u 1 4 = y ∧ 1 ≤ y.toInt ∧ y.toInt ≤ 3205)))
set_option maxHeartbeats 4000000 in
set_option maxRecDepth 100000 in
theorem kz_X6_readNumber_7 (l : Launch) (adK adV : Nat → Nat) (dC : Nat → ClassId) (dI : Nat → Nat → Nat) (cy : Nat → ClassId) (ad : Nat → Nat) (B : Int) (hB0 : 2147483648 ≤ B) (hB1 : B ≤ 1152921504606846976) (qr : Nat) (s1 : Int)   (w0 : va_W) (sz : Nat) (hT : TW ksC ad cy B qr s1 w0) (cf0_ : gi w0 1 4 = 0) : Met l yX6_readNumber (wu yX6_readNumber cX6_readNumber 4 (some .int)) ({ frames := 2, cells := 0, slots := 0, locals := 34 }) (va_Pc [.ref (ad 1), .int 0, .int 359] (wpreS adK adV dC dI cy sz w0)) (va_Qi (Pz_X6_readNumber_7 ad cy B qr s1  w0) (fun u : va_W => wpost dC dI cy (va_A w0 sz) u) (va_A w0 sz)) 0 0 (va_A w0 sz) := by
  refine Met.ofW (cc := cX6_readNumber) (maxL := 4) (ret := (some .int)) (by decide) rfl ?_
  intro p e s m args below meth c s₁ Bk hml hv
  obtain ⟨rfl, ⟨hsz, hP, hK, hD0⟩, hE, hSR⟩ := hv
  have hx := Bk.exec
  have hb := Bk.bytes
  have hr := Bk.returns
  have hlocks := Bk.notSynchronized
  have hC : CallFix p m c cX6_readNumber 4 s _ (wu yX6_readNumber cX6_readNumber 4 (some .int)) RX6 := ⟨hx, hb, hml, findClass_of_methodNamed Bk.named, atoms_spec (ws := (wu yX6_readNumber cX6_readNumber 4 (some .int))) Bk.pre⟩
  subst hsz
  have hD := hD0.self (sz := s.heap.size)
  generalize hAe : va_A w0 s.heap.size = A at hD hE ⊢
  have hA : ∀ q : Nat, s.heap.size ≤ q → A q := fun q h => by rw [← hAe]; exact Or.inr h
  have hw : Wd dC dI A s.heap s.heap [] w0 := ⟨hP, hD, va_S.rf⟩
  have hF : FE ksC [(6, 1, 1), (6, 3, 3), (6, 4, 4)] w0 w0 := FE.rf
  have hl := lv_entry ([.ref (ad 1), .int 0, .int 359]) (n := 4) (Nat.le_of_ble_eq_true rfl)
  rw [lg_entry_eq]
  generalize (lg_sl ([.ref (ad 1), .int 0, .int 359]) ++ List.replicate (4 - (lg_sl ([.ref (ad 1), .int 0, .int 359])).length) Slot.unset).toArray = ls at hl ⊢
  have hl : lv_has ls 4 [(0, .ref (ad 1)), (1, .int 0), (2, .int 359)] := hl
  generalize hloc : ([] : List Loc) = locs at hw ⊢
  have hinX6 : ∀ w ∈ u_ws RX6 TX6 5, w ∈ (wu yX6_readNumber cX6_readNumber 4 (some .int)) := fun _ h => List.mem_cons_of_mem _ (up_72 h)
  have J125 : ∀ (v125_3 : Int32) (f125_1_1 : Int32) (f125_1_2 : Int32) (f125_1_3 : Int32) (H : Heap) (locs : List Loc) (ls : Array Slot) (w1 : va_W), 0 ≤ f125_1_1.toInt → f125_1_1.toInt ≤ 400 → 1 ≤ f125_1_2.toInt → f125_1_2.toInt ≤ 400 → 0 ≤ f125_1_3.toInt → f125_1_3.toInt ≤ 399 → Wd dC dI A s.heap H locs w1 → TW ksC ad cy B qr s1 w1 → FE ksC [(6, 1, 1), (6, 3, 3), (6, 4, 4)] w0 w1 → gi w1 1 1 = f125_1_1 → gi w1 1 2 = f125_1_2 → gi w1 1 3 = f125_1_3 → gi w1 1 4 = 0 → TT (fun n => m_X6_readNumber n 1 0 359 (sI w0)) (fun n => b_X6_readNumber_125 (j_X6_readNumber 1 n) n 1 (sI w1)) → lv_has ls 4 [(0, .ref (ad 1)), (1, .int 0), (2, .int 359), (3, .int v125_3)] → W p l e ({ frames := 2, cells := 0, slots := 0, locals := 34 }) s m (List.toArray [.ref (ad 1), .int 0, .int 359]) below meth c H locs 0 0 (MQ below (va_Qi (Pz_X6_readNumber_7 ad cy B qr s1  w0) (fun u : va_W => wpost dC dI cy A u) A) (List.toArray [.ref (ad 1), .int 0, .int 359]) s 0 0 A) (F0 m 125 ls []) := by
    intro v125_3 f125_1_1 f125_1_2 f125_1_3 H locs ls w1 r2 t3 r5 t6 r8 t9 hw hT hF c4 c7 c10 c11 hM hl
    refine lv_aload_n hx hb dX6_readNumber_125 rfl (lv_at hl 0 rfl) ?_
    refine lv_aload_n hx hb dX6_readNumber_126 rfl (lv_at hl 0 rfl) ?_
    refine tk_geti hC hK hw hT hinX6 kC_at1 (by decide) rfl 3 (by decide) (List.mem_cons_of_mem _ uw_9_17) rfl rfl dX6_readNumber_127 (fun x12 c13 rx12 tx12 => ?_)
    refine wk_top f125_1_3 (c13.symm.trans c10) ?_
    replace hM := hM.rd (sI_at c10)
    refine lv_iconst (v := 1) hx hb dX6_readNumber_130 (by decide) ?_
    refine tk_Vv hC hK hw hT hA hE hSR kC_at1 (by decide) rfl (kz_X6_blame_2 l adK adV dC dI cy ad B (by omega) (by omega) qr s1   f125_1_3 (show 0 ≤ f125_1_3.toInt by omega) (show f125_1_3.toInt ≤ 400 by omega) 1 (by decide) (by decide) w1 H.size hT c11) (cwV 2 hC.2.2.2.2 uV_RX6_35 rfl rfl rfl (by decide +kernel) ⟨Nat.le_of_ble_eq_true rfl, Nat.le_of_ble_eq_true rfl⟩) rfl hl.1 rfl (Nat.le_of_ble_eq_true rfl) dX6_readNumber_131 (fun w16 H locs hp15 hw => ?_)
    obtain ⟨hT, k17, hv21, hg20⟩ := hp15
    try simp only [show (1 : Int32).toInt = 1 by decide] at hv21
    have hF := hF.tr k17 (by decide)
    have c22 := k17.gi kC_at1 (by decide) c4
    have c23 := k17.gi kC_at1 (by decide) c7
    have c24 := k17.gi kC_at1 (by decide) c10
    obtain ⟨x18, c19, rx18, tx18⟩ := hg20
    replace hM := hM.call hv21 rfl
    refine lv_iconst (v := (-1)) hx hb dX6_readNumber_134 (by decide) ?_
    exact tk_iret hC hr hlocks hK ⟨hT, hF, hM.ret (by decide), (Or.inr ⟨rfl, ⟨x18, c19, (show 1 ≤ x18.toInt by omega), (show x18.toInt ≤ 3205 by omega)⟩⟩)⟩ hw dX6_readNumber_135
  have J102 : ∀ (v102_3 : Int32) (f102_1_1 : Int32) (f102_1_2 : Int32) (f102_1_3 : Int32) (H : Heap) (locs : List Loc) (ls : Array Slot) (w25 : va_W), 0 ≤ f102_1_1.toInt → f102_1_1.toInt ≤ 400 → 1 ≤ f102_1_2.toInt → f102_1_2.toInt ≤ 400 → 0 ≤ f102_1_3.toInt → f102_1_3.toInt ≤ 399 → Wd dC dI A s.heap H locs w25 → TW ksC ad cy B qr s1 w25 → FE ksC [(6, 1, 1), (6, 3, 3), (6, 4, 4)] w0 w25 → gi w25 1 1 = f102_1_1 → gi w25 1 2 = f102_1_2 → gi w25 1 3 = f102_1_3 → gi w25 1 4 = 0 → TT (fun n => m_X6_readNumber n 1 0 359 (sI w0)) (fun n => b_X6_readNumber_102 (j_X6_readNumber 1 n) n 1 (0 : Int) (359 : Int) (v102_3.toInt) (sI w25)) → lv_has ls 4 [(0, .ref (ad 1)), (1, .int 0), (2, .int 359), (3, .int v102_3)] → W p l e ({ frames := 2, cells := 0, slots := 0, locals := 34 }) s m (List.toArray [.ref (ad 1), .int 0, .int 359]) below meth c H locs 0 0 (MQ below (va_Qi (Pz_X6_readNumber_7 ad cy B qr s1  w0) (fun u : va_W => wpost dC dI cy A u) A) (List.toArray [.ref (ad 1), .int 0, .int 359]) s 0 0 A) (F0 m 102 ls []) := by
    intro v102_3 f102_1_1 f102_1_2 f102_1_3 H locs ls w25 r26 t27 r29 t30 r32 t33 hw hT hF c28 c31 c34 c35 hM hl
    refine lv_aload_n hx hb dX6_readNumber_102 rfl (lv_at hl 0 rfl) ?_
    refine tk_geti hC hK hw hT hinX6 kC_at1 (by decide) rfl 1 (by decide) (List.mem_cons_of_mem _ uw_9_16) rfl rfl dX6_readNumber_103 (fun x36 c37 rx36 tx36 => ?_)
    refine wk_top f102_1_1 (c37.symm.trans c28) ?_
    replace hM := hM.rd (sI_at c28)
    refine lv_aload_n hx hb dX6_readNumber_106 rfl (lv_at hl 0 rfl) ?_
    refine tk_geti hC hK hw hT hinX6 kC_at1 (by decide) rfl 3 (by decide) (List.mem_cons_of_mem _ uw_9_17) rfl rfl dX6_readNumber_107 (fun x38 c39 rx38 tx38 => ?_)
    refine wk_top f102_1_3 (c39.symm.trans c34) ?_
    replace hM := hM.rd (sI_at c34)
    refine lv_isub hx hb dX6_readNumber_110 ?_
    refine lv_topi (fun x40 ex40 => ?_)
    have ezx40 := ex40
    have ex40 : x40.toInt = f102_1_1.toInt - f102_1_3.toInt := by rw [ex40]; exact wk_sub (show (-2147483648) ≤ f102_1_1.toInt - f102_1_3.toInt by omega) (show f102_1_1.toInt - f102_1_3.toInt ≤ 2147483647 by omega)
    replace hM := hM.lt ex40.symm
    refine lv_iconst (v := 5) hx hb dX6_readNumber_111 (by decide) ?_
    refine lv_icmp_gt (tgt := 125) hx hb dX6_readNumber_112 (by decide) (fun c41 => ?_) (fun c41 => ?_)
    · have c41 : (5 : Int) < x40.toInt := wk_lt.mp c41
      replace hM := hM.pos c41
      exact J125 v102_3 f102_1_1 f102_1_2 f102_1_3 H locs ls w25 (show 0 ≤ f102_1_1.toInt by omega) (show f102_1_1.toInt ≤ 400 by omega) (show 1 ≤ f102_1_2.toInt by omega) (show f102_1_2.toInt ≤ 400 by omega) (show 0 ≤ f102_1_3.toInt by omega) (show f102_1_3.toInt ≤ 399 by omega)  hw hT hF c28 c31 c34 c35 hM (lv_sub hl [0, 1, 2, 3] rfl)
    · have c41 : x40.toInt ≤ (5 : Int) := wk_ltF c41
      replace hM := hM.neg (Int.not_lt.mpr c41)
      refine lv_iload_n hx hb dX6_readNumber_115 rfl (lv_at hl 3 rfl) ?_
      refine lv_iload_n hx hb dX6_readNumber_116 rfl (lv_at hl 1 rfl) ?_
      refine lv_icmp_lt (tgt := 125) hx hb dX6_readNumber_117 (by decide) (fun c42 => ?_) (fun c42 => ?_)
      · have c42 : v102_3.toInt < (0 : Int) := wk_lt.mp c42
        replace hM := hM.pos c42
        exact J125 v102_3 f102_1_1 f102_1_2 f102_1_3 H locs ls w25 (show 0 ≤ f102_1_1.toInt by omega) (show f102_1_1.toInt ≤ 400 by omega) (show 1 ≤ f102_1_2.toInt by omega) (show f102_1_2.toInt ≤ 400 by omega) (show 0 ≤ f102_1_3.toInt by omega) (show f102_1_3.toInt ≤ 399 by omega)  hw hT hF c28 c31 c34 c35 hM (lv_sub hl [0, 1, 2, 3] rfl)
      · have c42 : (0 : Int) ≤ v102_3.toInt := wk_ltF c42
        replace hM := hM.neg (Int.not_lt.mpr c42)
        refine lv_iload_n hx hb dX6_readNumber_120 rfl (lv_at hl 3 rfl) ?_
        refine lv_iload_n hx hb dX6_readNumber_121 rfl (lv_at hl 2 rfl) ?_
        refine lv_icmp_le (tgt := 136) hx hb dX6_readNumber_122 (by decide) (fun c43 => ?_) (fun c43 => ?_)
        · have c43 : v102_3.toInt ≤ (359 : Int) := wk_le.mp c43
          replace hM := hM.pos c43
          refine lv_iload_n hx hb dX6_readNumber_136 rfl (lv_at hl 3 rfl) ?_
          exact tk_iret hC hr hlocks hK ⟨hT, hF, hM.ret rfl, (Or.inl ⟨(show 0 ≤ v102_3.toInt by omega), (show v102_3.toInt ≤ 359 by omega), ⟨f102_1_2, c31, (show 1 ≤ f102_1_2.toInt by omega), (show f102_1_2.toInt ≤ 400 by omega)⟩, ⟨f102_1_3, c34, (show 0 ≤ f102_1_3.toInt by omega), (show f102_1_3.toInt ≤ 399 by omega)⟩, ⟨0, c35, (by decide), (by decide)⟩⟩)⟩ hw dX6_readNumber_137
        · have c43 : (359 : Int) < v102_3.toInt := wk_leF c43
          replace hM := hM.neg (Int.not_le.mpr c43)
          exact J125 v102_3 f102_1_1 f102_1_2 f102_1_3 H locs ls w25 (show 0 ≤ f102_1_1.toInt by omega) (show f102_1_1.toInt ≤ 400 by omega) (show 1 ≤ f102_1_2.toInt by omega) (show f102_1_2.toInt ≤ 400 by omega) (show 0 ≤ f102_1_3.toInt by omega) (show f102_1_3.toInt ≤ 399 by omega)  hw hT hF c28 c31 c34 c35 hM (lv_sub hl [0, 1, 2, 3] rfl)
  have L32 : ∀ (n32 : Nat) (v32_3 : Int32) (f32_1_1 : Int32) (f32_1_2 : Int32) (f32_1_3 : Int32) (H : Heap) (locs : List Loc) (ls : Array Slot) (w44 : va_W), 0 ≤ f32_1_1.toInt → f32_1_1.toInt ≤ 400 → 1 ≤ f32_1_2.toInt → f32_1_2.toInt ≤ 400 → 0 ≤ f32_1_3.toInt → f32_1_3.toInt ≤ 399 → (400 - f32_1_1.toInt).toNat < n32 → Wd dC dI A s.heap H locs w44 → TW ksC ad cy B qr s1 w44 → FE ksC [(6, 1, 1), (6, 3, 3), (6, 4, 4)] w0 w44 → gi w44 1 1 = f32_1_1 → gi w44 1 2 = f32_1_2 → gi w44 1 3 = f32_1_3 → gi w44 1 4 = 0 → TT (fun n => m_X6_readNumber n 1 0 359 (sI w0)) (fun n => j_X6_readNumber 1 n 32 [(0 : Int), (359 : Int), v32_3.toInt] (sI w44)) → lv_has ls 4 [(0, .ref (ad 1)), (1, .int 0), (2, .int 359), (3, .int v32_3)] → W p l e ({ frames := 2, cells := 0, slots := 0, locals := 34 }) s m (List.toArray [.ref (ad 1), .int 0, .int 359]) below meth c H locs 0 0 (MQ below (va_Qi (Pz_X6_readNumber_7 ad cy B qr s1  w0) (fun u : va_W => wpost dC dI cy A u) A) (List.toArray [.ref (ad 1), .int 0, .int 359]) s 0 0 A) (F0 m 32 ls []) := by
    intro n32
    induction n32 with
    | zero => intro v32_3 f32_1_1 f32_1_2 f32_1_3 H locs ls w44 r45 t46 r48 t49 r51 t52 hm32 hw hT hF c47 c50 c53 c54 hM hl; omega
    | succ n32 ih32 =>
      intro v32_3 f32_1_1 f32_1_2 f32_1_3 H locs ls w44 r45 t46 r48 t49 r51 t52 hm32 hw hT hF c47 c50 c53 c54 hM hl
      have J89 : ∀ (v89_3 : Int32) (H : Heap) (locs : List Loc) (ls : Array Slot) (w55 : va_W), 0 ≤ f32_1_1.toInt → f32_1_1.toInt ≤ 399 → 1 ≤ f32_1_2.toInt → f32_1_2.toInt ≤ 400 → 0 ≤ f32_1_3.toInt → f32_1_3.toInt ≤ 399 → Wd dC dI A s.heap H locs w55 → TW ksC ad cy B qr s1 w55 → FE ksC [(6, 1, 1), (6, 3, 3), (6, 4, 4)] w0 w55 → gi w55 1 1 = f32_1_1 → gi w55 1 2 = f32_1_2 → gi w55 1 3 = f32_1_3 → gi w55 1 4 = 0 → TT (fun n => m_X6_readNumber n 1 0 359 (sI w0)) (fun n => b_X6_readNumber_89 (j_X6_readNumber 1 n) n 1 (0 : Int) (359 : Int) (v89_3.toInt) (sI w55)) → lv_has ls 4 [(0, .ref (ad 1)), (1, .int 0), (2, .int 359), (3, .int v89_3)] → W p l e ({ frames := 2, cells := 0, slots := 0, locals := 34 }) s m (List.toArray [.ref (ad 1), .int 0, .int 359]) below meth c H locs 0 0 (MQ below (va_Qi (Pz_X6_readNumber_7 ad cy B qr s1  w0) (fun u : va_W => wpost dC dI cy A u) A) (List.toArray [.ref (ad 1), .int 0, .int 359]) s 0 0 A) (F0 m 89 ls []) := by
        intro v89_3 H locs ls w55 r56 t57 r59 t60 r62 t63 hw hT hF c58 c61 c64 c65 hM hl
        refine lv_aload_n hx hb dX6_readNumber_89 rfl (lv_at hl 0 rfl) ?_
        refine lv_dup hx hb dX6_readNumber_90 rfl ?_
        refine tk_geti hC hK hw hT hinX6 kC_at1 (by decide) rfl 1 (by decide) (List.mem_cons_of_mem _ uw_9_16) rfl rfl dX6_readNumber_91 (fun x66 c67 rx66 tx66 => ?_)
        refine wk_top f32_1_1 (c67.symm.trans c58) ?_
        replace hM := hM.rd (sI_at c58)
        refine lv_iconst (v := 1) hx hb dX6_readNumber_94 (by decide) ?_
        refine lv_iadd hx hb dX6_readNumber_95 ?_
        refine lv_topi (fun x68 ex68 => ?_)
        have ezx68 := ex68
        have ex68 : x68.toInt = f32_1_1.toInt + (1 : Int) := by rw [ex68]; exact wk_add (show (-2147483648) ≤ f32_1_1.toInt + (1 : Int) by omega) (show f32_1_1.toInt + (1 : Int) ≤ 2147483647 by omega)
        replace hM := hM.lt ex68.symm
        refine tk_puti hC hK hw hT hinX6 tyX6_ok nmX6 kC_at1 (by decide) rfl rfl 1 (by decide) (List.mem_cons_of_mem _ uw_9_16) rfl rfl rfl rfl (show 0 ≤ x68.toInt by omega) (show x68.toInt ≤ 400 by omega) dX6_readNumber_96 (fun H locs w69 hw hT k71 c70 => ?_)
        replace hM := hM.wr (sI_up k71 c70)
        have hF := hF.put kC_at1 (k := 1) (by decide) k71
        have c72 := k71.gi (Or.inr (by decide)) c61
        have c73 := k71.gi (Or.inr (by decide)) c64
        have c74 := k71.gi (Or.inr (by decide)) c65
        refine lv_goto (tgt := 32) hx hb dX6_readNumber_99 (by decide) ?_
        exact ih32 v89_3 x68 f32_1_2 f32_1_3 H locs ls w69 (show 0 ≤ x68.toInt by omega) (show x68.toInt ≤ 400 by omega) (show 1 ≤ f32_1_2.toInt by omega) (show f32_1_2.toInt ≤ 400 by omega) (show 0 ≤ f32_1_3.toInt by omega) (show f32_1_3.toInt ≤ 399 by omega) (show (400 - x68.toInt).toNat < n32 by omega) hw hT hF c70 c72 c73 c74 hM (lv_sub hl [0, 1, 2, 3] rfl)
      replace hM := hM.suc (fun _ => e_X6_readNumber_32)
      refine lv_aload_n hx hb dX6_readNumber_32 rfl (lv_at hl 0 rfl) ?_
      refine tk_geti hC hK hw hT hinX6 kC_at1 (by decide) rfl 1 (by decide) (List.mem_cons_of_mem _ uw_9_16) rfl rfl dX6_readNumber_33 (fun x75 c76 rx75 tx75 => ?_)
      refine wk_top f32_1_1 (c76.symm.trans c47) ?_
      replace hM := hM.rd (sI_at c47)
      refine lv_aload_n hx hb dX6_readNumber_36 rfl (lv_at hl 0 rfl) ?_
      refine tk_geti hC hK hw hT hinX6 kC_at1 (by decide) rfl 2 (by decide) (List.mem_cons_of_mem _ uw_7_22) rfl rfl dX6_readNumber_37 (fun x77 c78 rx77 tx77 => ?_)
      refine wk_top f32_1_2 (c78.symm.trans c50) ?_
      replace hM := hM.rd (sI_at c50)
      refine lv_icmp_ge (tgt := 102) hx hb dX6_readNumber_40 (by decide) (fun c79 => ?_) (fun c79 => ?_)
      · have c79 : f32_1_2.toInt ≤ f32_1_1.toInt := wk_le.mp c79
        replace hM := hM.pos c79
        exact J102 v32_3 f32_1_1 f32_1_2 f32_1_3 H locs ls w44 (show 0 ≤ f32_1_1.toInt by omega) (show f32_1_1.toInt ≤ 400 by omega) (show 1 ≤ f32_1_2.toInt by omega) (show f32_1_2.toInt ≤ 400 by omega) (show 0 ≤ f32_1_3.toInt by omega) (show f32_1_3.toInt ≤ 399 by omega)  hw hT hF c47 c50 c53 c54 hM (lv_sub hl [0, 1, 2, 3] rfl)
      · have c79 : f32_1_1.toInt < f32_1_2.toInt := wk_leF c79
        replace hM := hM.neg (Int.not_le.mpr c79)
        refine lv_aload_n hx hb dX6_readNumber_43 rfl (lv_at hl 0 rfl) ?_
        refine tk_getA hC hK hw hT hinX6 kC_at1 (by decide) rfl 0 (by decide) (List.mem_cons_of_mem _ uw_2_12) rfl rfl dX6_readNumber_44 ?_
        refine lv_aload_n hx hb dX6_readNumber_47 rfl (lv_at hl 0 rfl) ?_
        refine tk_geti hC hK hw hT hinX6 kC_at1 (by decide) rfl 1 (by decide) (List.mem_cons_of_mem _ uw_9_16) rfl rfl dX6_readNumber_48 (fun x80 c81 rx80 tx80 => ?_)
        refine wk_top f32_1_1 (c81.symm.trans c47) ?_
        replace hM := hM.rd (sI_at c47)
        refine tk_iald hC hK hw hT kC_at2 rfl rfl (show 0 ≤ f32_1_1.toInt by omega) (show f32_1_1.toInt < 400 by omega) dX6_readNumber_51 (fun x82 c83 rx82 tx82 => ?_)
        have hox82 := c83
        replace hM := hM.rd (sI_at hox82)
        refine tk_Si hC hK hw hT hA hE hSR (kz_X6_isDigit_1 l adK adV dC dI cy ad B (by omega) (by omega) qr s1   x82 (show 0 ≤ x82.toInt by omega) (show x82.toInt ≤ 255 by omega) w44 H.size hT ) (va_cwS 1 hC.2.2.2.2 uS_RX6_64 rfl rfl rfl (by decide +kernel) ⟨Nat.le_of_ble_eq_true rfl, Nat.le_of_ble_eq_true rfl⟩) rfl hl.1 rfl (Nat.le_of_ble_eq_true rfl) dX6_readNumber_52 (fun r84 w86 H locs hp85 hw => ?_)
        obtain ⟨hT, k87, hv91, hg90⟩ := hp85
        have hF := hF.tr k87 (by decide)
        have c92 := k87.gi kC_at1 (by decide) c47
        have c93 := k87.gi kC_at1 (by decide) c50
        have c94 := k87.gi kC_at1 (by decide) c53
        have c95 := k87.gi kC_at1 (by decide) c54
        rcases hg90 with rfl | ⟨rfl, g88, g89⟩
        · replace hM := hM.call (r' := 0) hv91 (by decide)
          refine lv_if_eq (tgt := 102) hx hb dX6_readNumber_55 (by decide) (fun _ => ?_) (fun c => absurd (by decide) c)
          replace hM := hM.pos (by decide)
          exact J102 v32_3 f32_1_1 f32_1_2 f32_1_3 H locs ls w86 (show 0 ≤ f32_1_1.toInt by omega) (show f32_1_1.toInt ≤ 400 by omega) (show 1 ≤ f32_1_2.toInt by omega) (show f32_1_2.toInt ≤ 400 by omega) (show 0 ≤ f32_1_3.toInt by omega) (show f32_1_3.toInt ≤ 399 by omega)  hw hT hF c92 c93 c94 c95 hM (lv_sub hl [0, 1, 2, 3] rfl)
        · replace hM := hM.call (r' := 1) hv91 (by decide)
          refine lv_if_eq (tgt := 102) hx hb dX6_readNumber_55 (by decide) (fun c => absurd c (by decide)) (fun _ => ?_)
          replace hM := hM.neg (by decide)
          refine lv_aload_n hx hb dX6_readNumber_58 rfl (lv_at hl 0 rfl) ?_
          refine tk_geti hC hK hw hT hinX6 kC_at1 (by decide) rfl 1 (by decide) (List.mem_cons_of_mem _ uw_9_16) rfl rfl dX6_readNumber_59 (fun x96 c97 rx96 tx96 => ?_)
          refine wk_top f32_1_1 (c97.symm.trans c92) ?_
          replace hM := hM.rd (sI_at c92)
          refine lv_aload_n hx hb dX6_readNumber_62 rfl (lv_at hl 0 rfl) ?_
          refine tk_geti hC hK hw hT hinX6 kC_at1 (by decide) rfl 3 (by decide) (List.mem_cons_of_mem _ uw_9_17) rfl rfl dX6_readNumber_63 (fun x98 c99 rx98 tx98 => ?_)
          refine wk_top f32_1_3 (c99.symm.trans c94) ?_
          replace hM := hM.rd (sI_at c94)
          refine lv_isub hx hb dX6_readNumber_66 ?_
          refine lv_topi (fun x100 ex100 => ?_)
          have ezx100 := ex100
          have ex100 : x100.toInt = f32_1_1.toInt - f32_1_3.toInt := by rw [ex100]; exact wk_sub (show (-2147483648) ≤ f32_1_1.toInt - f32_1_3.toInt by omega) (show f32_1_1.toInt - f32_1_3.toInt ≤ 2147483647 by omega)
          replace hM := hM.lt ex100.symm
          refine lv_iconst (v := 5) hx hb dX6_readNumber_67 (by decide) ?_
          refine lv_icmp_ge (tgt := 89) hx hb dX6_readNumber_68 (by decide) (fun c101 => ?_) (fun c101 => ?_)
          · have c101 : (5 : Int) ≤ x100.toInt := wk_le.mp c101
            replace hM := hM.pos c101
            exact J89 v32_3 H locs ls w86 (show 0 ≤ f32_1_1.toInt by omega) (show f32_1_1.toInt ≤ 399 by omega) (show 1 ≤ f32_1_2.toInt by omega) (show f32_1_2.toInt ≤ 400 by omega) (show 0 ≤ f32_1_3.toInt by omega) (show f32_1_3.toInt ≤ 399 by omega)  hw hT hF c92 c93 c94 c95 hM (lv_sub hl [0, 1, 2, 3] rfl)
          · have c101 : x100.toInt < (5 : Int) := wk_leF c101
            replace hM := hM.neg (Int.not_le.mpr c101)
            refine lv_iload_n hx hb dX6_readNumber_71 rfl (lv_at hl 3 rfl) ?_
            refine lv_bipush (v := 10) hx hb dX6_readNumber_72 (by decide) ?_
            refine lv_imul hx hb dX6_readNumber_74 ?_
            have nx102 := wk_i32 v32_3
            refine lv_topi (fun x103 ex103 => ?_)
            have ezx103 := ex103
            replace hM := hM.lt (o32_e (f := fun x y => x * y) ezx103 rfl (by decide))
            refine lv_aload_n hx hb dX6_readNumber_75 rfl (lv_at hl 0 rfl) ?_
            refine tk_getA hC hK hw hT hinX6 kC_at1 (by decide) rfl 0 (by decide) (List.mem_cons_of_mem _ uw_2_12) rfl rfl dX6_readNumber_76 ?_
            refine lv_aload_n hx hb dX6_readNumber_79 rfl (lv_at hl 0 rfl) ?_
            refine tk_geti hC hK hw hT hinX6 kC_at1 (by decide) rfl 1 (by decide) (List.mem_cons_of_mem _ uw_9_16) rfl rfl dX6_readNumber_80 (fun x104 c105 rx104 tx104 => ?_)
            refine wk_top f32_1_1 (c105.symm.trans c92) ?_
            replace hM := hM.rd (sI_at c92)
            refine tk_iald hC hK hw hT kC_at2 rfl rfl (show 0 ≤ f32_1_1.toInt by omega) (show f32_1_1.toInt < 400 by omega) dX6_readNumber_83 (fun x106 c107 rx106 tx106 => ?_)
            have hox106 := c107
            replace hM := hM.rd (sI_at hox106)
            refine lv_iadd hx hb dX6_readNumber_84 ?_
            have nx108 := wk_i32 x103
            refine lv_topi (fun x109 ex109 => ?_)
            have ezx109 := ex109
            replace hM := hM.lt (o32_e (f := fun x y => x + y) ezx109 rfl rfl)
            refine lv_bipush (v := 48) hx hb dX6_readNumber_85 (by decide) ?_
            refine lv_isub hx hb dX6_readNumber_87 ?_
            have nx110 := wk_i32 x109
            refine lv_topi (fun x111 ex111 => ?_)
            have ezx111 := ex111
            replace hM := hM.lt (o32_e (f := fun x y => x - y) ezx111 rfl (by decide))
            refine lv_istore_n (lv' := [(3, .int x111), (0, .ref (ad 1)), (1, .int 0), (2, .int 359)]) hx hb dX6_readNumber_88 rfl hl (by decide) rfl (fun ls hl => ?_)
            exact J89 x111 H locs ls w86 (show 0 ≤ f32_1_1.toInt by omega) (show f32_1_1.toInt ≤ 399 by omega) (show 1 ≤ f32_1_2.toInt by omega) (show f32_1_2.toInt ≤ 400 by omega) (show 0 ≤ f32_1_3.toInt by omega) (show f32_1_3.toInt ≤ 399 by omega)  hw hT hF c92 c93 c94 c95 hM (lv_sub hl [1, 2, 3, 0] rfl)
  have hM : TT (fun n => m_X6_readNumber n 1 0 359 (sI w0)) (fun n => m_X6_readNumber n 1 0 359 (sI w0)) := TT.rf
  refine lv_aload_n hx hb dX6_readNumber_0 rfl (lv_at hl 0 rfl) ?_
  refine tk_Vi hC hK hw hT hA hE hSR kC_at1 (by decide) rfl (kz_X6_isFaulty_2 l adK adV dC dI cy ad B (by omega) (by omega) qr s1    w0 s.heap.size hT cf0_) (cwV 0 hC.2.2.2.2 uV_RX6_39 rfl rfl rfl (by decide +kernel) ⟨Nat.le_of_ble_eq_true rfl, Nat.le_of_ble_eq_true rfl⟩) rfl hl.1 rfl (Nat.le_of_ble_eq_true rfl) dX6_readNumber_1 (fun r112 w114 H locs hp113 hw => ?_)
  obtain ⟨hT, k115, hv119, hg118⟩ := hp113
  have hF := hF.tr k115 (by decide)
  have c120 := k115.gi kC_at1 (by decide) cf0_
  obtain ⟨rfl, ⟨x116, c117, rx116, tx116⟩⟩ := hg118
  replace hM := hM.call (r' := 0) hv119 (by decide)
  have ex116 : x116.toInt = (0 : Int) := by rw [show x116 = 0 from c117.symm.trans c120]; decide
  refine lv_if_eq (tgt := 9) hx hb dX6_readNumber_4 (by decide) (fun _ => ?_) (fun c => absurd (by decide) c)
  replace hM := hM.pos (by decide)
  refine lv_aload_n hx hb dX6_readNumber_9 rfl (lv_at hl 0 rfl) ?_
  refine tk_Vi hC hK hw hT hA hE hSR kC_at1 (by decide) rfl (kz_X6_lookBehindBlanks_1 l adK adV dC dI cy ad B (by omega) (by omega) qr s1    w114 H.size hT ) (cwV 0 hC.2.2.2.2 uV_RX6_28 rfl rfl rfl (by decide +kernel) ⟨Nat.le_of_ble_eq_true rfl, Nat.le_of_ble_eq_true rfl⟩) rfl hl.1 rfl (Nat.le_of_ble_eq_true rfl) dX6_readNumber_10 (fun r121 w123 H locs hp122 hw => ?_)
  obtain ⟨hT, k124, hv134, hg133⟩ := hp122
  have hF := hF.tr k124 (by decide)
  have c135 := k124.gi kC_at1 (by decide) c120
  rcases hg133 with ⟨g125, g126, ⟨x127, c128, rx127, tx127⟩, ⟨x129, c130, rx129, tx129⟩, ⟨x131, c132, rx131, tx131⟩⟩ | rfl
  · replace hM := hM.call hv134 rfl
    refine tk_Si hC hK hw hT hA hE hSR (kz_X6_isDigit_1 l adK adV dC dI cy ad B (by omega) (by omega) qr s1   r121 (show 0 ≤ r121.toInt by omega) (show r121.toInt ≤ 255 by omega) w123 H.size hT ) (va_cwS 1 hC.2.2.2.2 uS_RX6_64 rfl rfl rfl (by decide +kernel) ⟨Nat.le_of_ble_eq_true rfl, Nat.le_of_ble_eq_true rfl⟩) rfl hl.1 rfl (Nat.le_of_ble_eq_true rfl) dX6_readNumber_13 (fun r136 w138 H locs hp137 hw => ?_)
    obtain ⟨hT, k139, hv143, hg142⟩ := hp137
    have hF := hF.tr k139 (by decide)
    have c144 := k139.gi kC_at1 (by decide) c135
    have c145 := k139.gi kC_at1 (by decide) c128
    have c146 := k139.gi kC_at1 (by decide) c130
    have c147 := k139.gi kC_at1 (by decide) c132
    rcases hg142 with rfl | ⟨rfl, g140, g141⟩
    · replace hM := hM.call (r' := 0) hv143 (by decide)
      refine lv_if_ne (tgt := 30) hx hb dX6_readNumber_16 (by decide) (fun c => absurd (by decide) c) (fun _ => ?_)
      replace hM := hM.neg (by decide)
      refine lv_aload_n hx hb dX6_readNumber_19 rfl (lv_at hl 0 rfl) ?_
      refine lv_aload_n hx hb dX6_readNumber_20 rfl (lv_at hl 0 rfl) ?_
      refine tk_geti hC hK hw hT hinX6 kC_at1 (by decide) rfl 3 (by decide) (List.mem_cons_of_mem _ uw_9_17) rfl rfl dX6_readNumber_21 (fun x148 c149 rx148 tx148 => ?_)
      refine wk_top x131 (c149.symm.trans c147) ?_
      replace hM := hM.rd (sI_at c147)
      refine lv_iconst (v := 0) hx hb dX6_readNumber_24 (by decide) ?_
      refine tk_Vv hC hK hw hT hA hE hSR kC_at1 (by decide) rfl (kz_X6_blame_2 l adK adV dC dI cy ad B (by omega) (by omega) qr s1   x131 (show 0 ≤ x131.toInt by omega) (show x131.toInt ≤ 400 by omega) 0 (by decide) (by decide) w138 H.size hT c144) (cwV 2 hC.2.2.2.2 uV_RX6_35 rfl rfl rfl (by decide +kernel) ⟨Nat.le_of_ble_eq_true rfl, Nat.le_of_ble_eq_true rfl⟩) rfl hl.1 rfl (Nat.le_of_ble_eq_true rfl) dX6_readNumber_25 (fun w152 H locs hp151 hw => ?_)
      obtain ⟨hT, k153, hv157, hg156⟩ := hp151
      try simp only [show (0 : Int32).toInt = 0 by decide] at hv157
      have hF := hF.tr k153 (by decide)
      have c158 := k153.gi kC_at1 (by decide) c145
      have c159 := k153.gi kC_at1 (by decide) c146
      have c160 := k153.gi kC_at1 (by decide) c147
      obtain ⟨x154, c155, rx154, tx154⟩ := hg156
      replace hM := hM.call hv157 rfl
      refine lv_iconst (v := (-1)) hx hb dX6_readNumber_28 (by decide) ?_
      exact tk_iret hC hr hlocks hK ⟨hT, hF, hM.ret (by decide), (Or.inr ⟨rfl, ⟨x154, c155, (show 1 ≤ x154.toInt by omega), (show x154.toInt ≤ 3205 by omega)⟩⟩)⟩ hw dX6_readNumber_29
    · replace hM := hM.call (r' := 1) hv143 (by decide)
      refine lv_if_ne (tgt := 30) hx hb dX6_readNumber_16 (by decide) (fun _ => ?_) (fun c => absurd c (by decide))
      replace hM := hM.pos (by decide)
      refine lv_iconst (v := 0) hx hb dX6_readNumber_30 (by decide) ?_
      refine lv_istore_n (lv' := [(3, .int 0), (0, .ref (ad 1)), (1, .int 0), (2, .int 359)]) hx hb dX6_readNumber_31 rfl hl (by decide) rfl (fun ls hl => ?_)
      exact L32 ((400 - x127.toInt).toNat + 1) 0 x127 x129 x131 H locs ls w138 (show 0 ≤ x127.toInt by omega) (show x127.toInt ≤ 400 by omega) (show 1 ≤ x129.toInt by omega) (show x129.toInt ≤ 400 by omega) (show 0 ≤ x131.toInt by omega) (show x131.toInt ≤ 399 by omega) (Nat.lt_succ_self _) hw hT hF c145 c146 c147 c144 hM (lv_sub hl [1, 2, 3, 0] rfl)
  · replace hM := hM.call (r' := (-1)) hv134 (by decide)
    refine tk_Si hC hK hw hT hA hE hSR (kz_X6_isDigit_2 l adK adV dC dI cy ad B (by omega) (by omega) qr s1    w123 H.size hT ) (va_cwS 1 hC.2.2.2.2 uS_RX6_64 rfl rfl rfl (by decide +kernel) ⟨Nat.le_of_ble_eq_true rfl, Nat.le_of_ble_eq_true rfl⟩) rfl hl.1 rfl (Nat.le_of_ble_eq_true rfl) dX6_readNumber_13 (fun r161 w163 H locs hp162 hw => ?_)
    obtain ⟨hT, k164, hv166, hg165⟩ := hp162
    have hF := hF.tr k164 (by decide)
    have c167 := k164.gi kC_at1 (by decide) c135
    obtain rfl := hg165
    replace hM := hM.call (r' := 0) hv166 (by decide)
    refine lv_if_ne (tgt := 30) hx hb dX6_readNumber_16 (by decide) (fun c => absurd (by decide) c) (fun _ => ?_)
    replace hM := hM.neg (by decide)
    refine lv_aload_n hx hb dX6_readNumber_19 rfl (lv_at hl 0 rfl) ?_
    refine lv_aload_n hx hb dX6_readNumber_20 rfl (lv_at hl 0 rfl) ?_
    refine tk_geti hC hK hw hT hinX6 kC_at1 (by decide) rfl 3 (by decide) (List.mem_cons_of_mem _ uw_9_17) rfl rfl dX6_readNumber_21 (fun x168 c169 rx168 tx168 => ?_)
    replace hM := hM.rd (sI_at c169)
    refine lv_iconst (v := 0) hx hb dX6_readNumber_24 (by decide) ?_
    refine tk_Vv hC hK hw hT hA hE hSR kC_at1 (by decide) rfl (kz_X6_blame_2 l adK adV dC dI cy ad B (by omega) (by omega) qr s1   x168 (show 0 ≤ x168.toInt by omega) (show x168.toInt ≤ 400 by omega) 0 (by decide) (by decide) w163 H.size hT c167) (cwV 2 hC.2.2.2.2 uV_RX6_35 rfl rfl rfl (by decide +kernel) ⟨Nat.le_of_ble_eq_true rfl, Nat.le_of_ble_eq_true rfl⟩) rfl hl.1 rfl (Nat.le_of_ble_eq_true rfl) dX6_readNumber_25 (fun w172 H locs hp171 hw => ?_)
    obtain ⟨hT, k173, hv177, hg176⟩ := hp171
    try simp only [show (0 : Int32).toInt = 0 by decide] at hv177
    have hF := hF.tr k173 (by decide)
    have c178 := k173.gi kC_at1 (by decide) c169
    obtain ⟨x174, c175, rx174, tx174⟩ := hg176
    replace hM := hM.call hv177 rfl
    refine lv_iconst (v := (-1)) hx hb dX6_readNumber_28 (by decide) ?_
    exact tk_iret hC hr hlocks hK ⟨hT, hF, hM.ret (by decide), (Or.inr ⟨rfl, ⟨x174, c175, (show 1 ≤ x174.toInt by omega), (show x174.toInt ≤ 3205 by omega)⟩⟩)⟩ hw dX6_readNumber_29
