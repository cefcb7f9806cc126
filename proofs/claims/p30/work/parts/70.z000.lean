abbrev Pz_X6_hasRoom_1 (ad : Nat → Nat) (cy : Nat → ClassId) (B : Int) (qr : Nat) (s1 : Int)  (w0 : va_W) : Int32 → va_W → Prop := fun r u => TW ksC ad cy B qr s1 u ∧ FE ksC ([] : List (Nat × Nat × Nat)) w0 u ∧ Ev (fun n => m_X6_hasRoom n 1 (sI w0)) (r.toInt, sI u) ∧ ((r = 0 ∧ (∃ y : Int32, gi u 1 2 = y ∧ 381 ≤ y.toInt ∧ y.toInt ≤ 400)) ∨ (r = 1 ∧ (∃ y : Int32, gi u 1 2 = y ∧ 0 ≤ y.toInt ∧ y.toInt ≤ 380)))
set_option maxHeartbeats 4000000 in
set_option maxRecDepth 100000 in
theorem kz_X6_hasRoom_1 (l : Launch) (adK adV : Nat → Nat) (dC : Nat → ClassId) (dI : Nat → Nat → Nat) (cy : Nat → ClassId) (ad : Nat → Nat) (B : Int) (hB0 : 2147483648 ≤ B) (hB1 : B ≤ 1152921504606846976) (qr : Nat) (s1 : Int)   (w0 : va_W) (sz : Nat) (hT : TW ksC ad cy B qr s1 w0)  : Met l yX6_hasRoom (wu yX6_hasRoom cX6_hasRoom 1 (some .boolean)) ({ frames := 1, cells := 0, slots := 0, locals := 12 }) (va_Pc [.ref (ad 1)] (wpreS adK adV dC dI cy sz w0)) (va_Qi (Pz_X6_hasRoom_1 ad cy B qr s1  w0) (fun u : va_W => wpost dC dI cy (va_A w0 sz) u) (va_A w0 sz)) 0 0 (va_A w0 sz) := by
  refine Met.ofW (cc := cX6_hasRoom) (maxL := 1) (ret := (some .boolean)) (by decide) rfl ?_
  intro p e s m args below meth c s₁ Bk hml hv
  obtain ⟨rfl, ⟨hsz, hP, hK, hD0⟩, hE, hSR⟩ := hv
  have hx := Bk.exec
  have hb := Bk.bytes
  have hr := Bk.returns
  have hlocks := Bk.notSynchronized
  have hC : CallFix p m c cX6_hasRoom 1 s _ (wu yX6_hasRoom cX6_hasRoom 1 (some .boolean)) RX6 := ⟨hx, hb, hml, findClass_of_methodNamed Bk.named, atoms_spec (ws := (wu yX6_hasRoom cX6_hasRoom 1 (some .boolean))) Bk.pre⟩
  subst hsz
  have hD := hD0.self (sz := s.heap.size)
  generalize hAe : va_A w0 s.heap.size = A at hD hE ⊢
  have hA : ∀ q : Nat, s.heap.size ≤ q → A q := fun q h => by rw [← hAe]; exact Or.inr h
  have hw : Wd dC dI A s.heap s.heap [] w0 := ⟨hP, hD, va_S.rf⟩
  have hF : FE ksC ([] : List (Nat × Nat × Nat)) w0 w0 := FE.rf
  have hl := lv_entry ([.ref (ad 1)]) (n := 1) (Nat.le_of_ble_eq_true rfl)
  rw [lg_entry_eq]
  generalize (lg_sl ([.ref (ad 1)]) ++ List.replicate (1 - (lg_sl ([.ref (ad 1)])).length) Slot.unset).toArray = ls at hl ⊢
  have hl : lv_has ls 1 [(0, .ref (ad 1))] := hl
  generalize hloc : ([] : List Loc) = locs at hw ⊢
  have hinX6 : ∀ w ∈ u_ws RX6 TX6 5, w ∈ (wu yX6_hasRoom cX6_hasRoom 1 (some .boolean)) := fun _ h => List.mem_cons_of_mem _ (up_72 h)
  have hM : TT (fun n => m_X6_hasRoom n 1 (sI w0)) (fun n => m_X6_hasRoom n 1 (sI w0)) := TT.rf
  refine lv_aload_n hx hb dX6_hasRoom_0 rfl (lv_at hl 0 rfl) ?_
  refine tk_geti hC hK hw hT hinX6 kC_at1 (by decide) rfl 2 (by decide) (List.mem_cons_of_mem _ uw_7_22) rfl rfl dX6_hasRoom_1 (fun x1 c2 rx1 tx1 => ?_)
  replace hM := hM.rd (sI_at c2)
  refine lv_bipush (v := 20) hx hb dX6_hasRoom_4 (by decide) ?_
  refine lv_iadd hx hb dX6_hasRoom_6 ?_
  refine lv_topi (fun x3 ex3 => ?_)
  have ezx3 := ex3
  have ex3 : x3.toInt = x1.toInt + (20 : Int) := by rw [ex3]; exact wk_add (show (-2147483648) ≤ x1.toInt + (20 : Int) by omega) (show x1.toInt + (20 : Int) ≤ 2147483647 by omega)
  replace hM := hM.lt ex3.symm
  refine lv_sipush (v := 400) hx hb dX6_hasRoom_7 (by decide) ?_
  refine lv_icmp_gt (tgt := 17) hx hb dX6_hasRoom_10 (by decide) (fun c4 => ?_) (fun c4 => ?_)
  · have c4 : (400 : Int) < x3.toInt := wk_lt.mp c4
    replace hM := hM.pos c4
    refine lv_iconst (v := 0) hx hb dX6_hasRoom_17 (by decide) ?_
    exact tk_zret hC hr rfl hlocks hK ⟨hT, hF, hM.ret (by decide), (Or.inl ⟨rfl, ⟨x1, c2, (show 381 ≤ x1.toInt by first | with_reducible assumption | omega), (show x1.toInt ≤ 400 from tx1)⟩⟩)⟩ hw dX6_hasRoom_18
  · have c4 : x3.toInt ≤ (400 : Int) := wk_ltF c4
    replace hM := hM.neg (Int.not_lt.mpr c4)
    refine lv_iconst (v := 1) hx hb dX6_hasRoom_13 (by decide) ?_
    refine lv_goto (tgt := 18) hx hb dX6_hasRoom_14 (by decide) ?_
    exact tk_zret hC hr rfl hlocks hK ⟨hT, hF, hM.ret (by decide), (Or.inr ⟨rfl, ⟨x1, c2, (show 0 ≤ x1.toInt from rx1), (show x1.toInt ≤ 380 by first | with_reducible assumption | omega)⟩⟩)⟩ hw dX6_hasRoom_18
abbrev Pz_X6_append_1 (ad : Nat → Nat) (cy : Nat → ClassId) (B : Int) (qr : Nat) (s1 : Int) (a1 : Int32) (w0 : va_W) : va_W → Prop := fun u => TW ksC ad cy B qr s1 u ∧ FE ksC [(6, 2, 2), (20, 0, 400)] w0 u ∧ Ev (fun n => m_X6_append n 1 a1.toInt (sI w0)) (0, sI u) ∧ ((True))
set_option maxHeartbeats 4000000 in
set_option maxRecDepth 100000 in
theorem kz_X6_append_1 (l : Launch) (adK adV : Nat → Nat) (dC : Nat → ClassId) (dI : Nat → Nat → Nat) (cy : Nat → ClassId) (ad : Nat → Nat) (B : Int) (hB0 : 2147483648 ≤ B) (hB1 : B ≤ 1152921504606846976) (qr : Nat) (s1 : Int)  (a1 : Int32) (w0 : va_W) (sz : Nat) (hT : TW ksC ad cy B qr s1 w0)  : Met l yX6_append (wu yX6_append cX6_append 3 none) ({ frames := 1, cells := 0, slots := 0, locals := 12 }) (va_Pc [.ref (ad 1), .int a1] (wpreS adK adV dC dI cy sz w0)) (va_Qv (Pz_X6_append_1 ad cy B qr s1 a1 w0) (fun u : va_W => wpost dC dI cy (va_A w0 sz) u) (va_A w0 sz)) 0 0 (va_A w0 sz) := by
  refine Met.ofW (cc := cX6_append) (maxL := 3) (ret := none) (by decide) rfl ?_
  intro p e s m args below meth c s₁ Bk hml hv
  obtain ⟨rfl, ⟨hsz, hP, hK, hD0⟩, hE, hSR⟩ := hv
  have hx := Bk.exec
  have hb := Bk.bytes
  have hr := Bk.returns
  have hlocks := Bk.notSynchronized
  have hC : CallFix p m c cX6_append 3 s _ (wu yX6_append cX6_append 3 none) RX6 := ⟨hx, hb, hml, findClass_of_methodNamed Bk.named, atoms_spec (ws := (wu yX6_append cX6_append 3 none)) Bk.pre⟩
  subst hsz
  have hD := hD0.self (sz := s.heap.size)
  generalize hAe : va_A w0 s.heap.size = A at hD hE ⊢
  have hA : ∀ q : Nat, s.heap.size ≤ q → A q := fun q h => by rw [← hAe]; exact Or.inr h
  have hw : Wd dC dI A s.heap s.heap [] w0 := ⟨hP, hD, va_S.rf⟩
  have hF : FE ksC [(6, 2, 2), (20, 0, 400)] w0 w0 := FE.rf
  have hl := lv_entry ([.ref (ad 1), .int a1]) (n := 3) (Nat.le_of_ble_eq_true rfl)
  rw [lg_entry_eq]
  generalize (lg_sl ([.ref (ad 1), .int a1]) ++ List.replicate (3 - (lg_sl ([.ref (ad 1), .int a1])).length) Slot.unset).toArray = ls at hl ⊢
  have hl : lv_has ls 3 [(0, .ref (ad 1)), (1, .int a1)] := hl
  generalize hloc : ([] : List Loc) = locs at hw ⊢
  have hinX6 : ∀ w ∈ u_ws RX6 TX6 5, w ∈ (wu yX6_append cX6_append 3 none) := fun _ h => List.mem_cons_of_mem _ (up_72 h)
  have J49 : ∀ (v49_2 : Int32) (H : Heap) (locs : List Loc) (ls : Array Slot) (w1 : va_W), (-8) ≤ v49_2.toInt → v49_2.toInt ≤ 24 → Wd dC dI A s.heap H locs w1 → TW ksC ad cy B qr s1 w1 → FE ksC [(6, 2, 2), (20, 0, 400)] w0 w1 → TT (fun n => m_X6_append n 1 a1.toInt (sI w0)) (fun n => b_X6_append_49 (j_X6_append 1 n) n 1 (sI w1)) → lv_has ls 3 [(0, .ref (ad 1)), (1, .int a1), (2, .int v49_2)] → W p l e ({ frames := 1, cells := 0, slots := 0, locals := 12 }) s m (List.toArray [.ref (ad 1), .int a1]) below meth c H locs 0 0 (MQ below (va_Qv (Pz_X6_append_1 ad cy B qr s1 a1 w0) (fun u : va_W => wpost dC dI cy A u) A) (List.toArray [.ref (ad 1), .int a1]) s 0 0 A) (F0 m 49 ls []) := by
    intro v49_2 H locs ls w1 r2 t3 hw hT hF hM hl
    exact tk_vret hC hr hlocks hK ⟨hT, hF, hM.ret rfl, trivial⟩ hw dX6_append_49
  have L3 : ∀ (n3 : Nat) (v3_2 : Int32) (H : Heap) (locs : List Loc) (ls : Array Slot) (w4 : va_W), (-8) ≤ v3_2.toInt → v3_2.toInt ≤ 24 → (v3_2.toInt - (-8)).toNat < n3 → Wd dC dI A s.heap H locs w4 → TW ksC ad cy B qr s1 w4 → FE ksC [(6, 2, 2), (20, 0, 400)] w0 w4 → TT (fun n => m_X6_append n 1 a1.toInt (sI w0)) (fun n => j_X6_append 1 n 3 [a1.toInt, v3_2.toInt] (sI w4)) → lv_has ls 3 [(0, .ref (ad 1)), (1, .int a1), (2, .int v3_2)] → W p l e ({ frames := 1, cells := 0, slots := 0, locals := 12 }) s m (List.toArray [.ref (ad 1), .int a1]) below meth c H locs 0 0 (MQ below (va_Qv (Pz_X6_append_1 ad cy B qr s1 a1 w0) (fun u : va_W => wpost dC dI cy A u) A) (List.toArray [.ref (ad 1), .int a1]) s 0 0 A) (F0 m 3 ls []) := by
    intro n3
    induction n3 with
    | zero => intro v3_2 H locs ls w4 r5 t6 hm3 hw hT hF hM hl; omega
    | succ n3 ih3 =>
      intro v3_2 H locs ls w4 r5 t6 hm3 hw hT hF hM hl
      replace hM := hM.suc (fun _ => e_X6_append_3)
      refine lv_iload_n hx hb dX6_append_3 rfl (lv_at hl 2 rfl) ?_
      refine lv_if_lt (tgt := 49) hx hb dX6_append_4 (by decide) (fun c7 => ?_) (fun c7 => ?_)
      · have c7 : v3_2.toInt < (0 : Int) := wk_lt.mp c7
        replace hM := hM.pos c7
        exact J49 v3_2 H locs ls w4 (show (-8) ≤ v3_2.toInt from r5) (show v3_2.toInt ≤ 24 from t6)  hw hT hF hM (lv_sub hl [0, 1, 2] rfl)
      · have c7 : (0 : Int) ≤ v3_2.toInt := wk_ltF c7
        replace hM := hM.neg (Int.not_lt.mpr c7)
        refine lv_aload_n hx hb dX6_append_7 rfl (lv_at hl 0 rfl) ?_
        refine tk_geti hC hK hw hT hinX6 kC_at1 (by decide) rfl 2 (by decide) (List.mem_cons_of_mem _ uw_7_22) rfl rfl dX6_append_8 (fun x8 c9 rx8 tx8 => ?_)
        replace hM := hM.rd (sI_at c9)
        refine lv_sipush (v := 400) hx hb dX6_append_11 (by decide) ?_
        refine lv_icmp_ge (tgt := 49) hx hb dX6_append_14 (by decide) (fun c10 => ?_) (fun c10 => ?_)
        · have c10 : (400 : Int) ≤ x8.toInt := wk_le.mp c10
          replace hM := hM.pos c10
          exact J49 v3_2 H locs ls w4 (show (-8) ≤ v3_2.toInt from r5) (show v3_2.toInt ≤ 24 from t6)  hw hT hF hM (lv_sub hl [0, 1, 2] rfl)
        · have c10 : x8.toInt < (400 : Int) := wk_leF c10
          replace hM := hM.neg (Int.not_le.mpr c10)
          refine lv_aload_n hx hb dX6_append_17 rfl (lv_at hl 0 rfl) ?_
          refine tk_getA hC hK hw hT hinX6 kC_at1 (by decide) rfl 0 (by decide) (List.mem_cons_of_mem _ uw_2_12) rfl rfl dX6_append_18 ?_
          refine lv_aload_n hx hb dX6_append_21 rfl (lv_at hl 0 rfl) ?_
          refine tk_geti hC hK hw hT hinX6 kC_at1 (by decide) rfl 2 (by decide) (List.mem_cons_of_mem _ uw_7_22) rfl rfl dX6_append_22 (fun x11 c12 rx11 tx11 => ?_)
          refine wk_top x8 (c12.symm.trans c9) ?_
          replace hM := hM.rd (sI_at c9)
          refine lv_iload_n hx hb dX6_append_25 rfl (lv_at hl 1 rfl) ?_
          refine lv_iload_n hx hb dX6_append_26 rfl (lv_at hl 2 rfl) ?_
          refine lv_ishr hx hb dX6_append_27 ?_
          refine lv_topi (fun x13 ex13 => ?_)
          have ezx13 := ex13
          replace hM := hM.lt (o32_e (f := fun x y => x >>> (y &&& 31)) ezx13 rfl rfl)
          refine lv_sipush (v := 255) hx hb dX6_append_28 (by decide) ?_
          refine lv_iand hx hb dX6_append_31 ?_
          refine lv_topi (fun x14 ex14 => ?_)
          have ezx14 := ex14
          have bx14 : 0 ≤ x14.toInt ∧ x14.toInt ≤ (255 : Int) := by rw [ex14]; exact wk_and (by decide)
          replace hM := hM.lt (o32_e (f := fun x y => x &&& y) ezx14 rfl (by decide))
          refine tk_iast hC hK hw hT kC_at2 (by decide) rfl rfl (show 0 ≤ x8.toInt from rx8) (show x8.toInt < 400 by first | with_reducible assumption | omega) (show 0 ≤ x14.toInt by first | with_reducible assumption | omega) (show x14.toInt ≤ 255 by first | with_reducible assumption | omega) dX6_append_32 (fun H locs w15 hw hT k17 c16 => ?_)
          replace hM := hM.wr (sI_up k17 c16)
          have hF := hF.put kC_at2 (inE_of (a := 0) (b := 400) (by decide) (show 0 ≤ x8.toInt.toNat by omega) (show x8.toInt.toNat ≤ 400 by omega)) k17
          have c18 := k17.gi (Or.inl (tk_ne kC_at1 kC_at2 (by decide))) c9
          refine lv_aload_n hx hb dX6_append_33 rfl (lv_at hl 0 rfl) ?_
          refine lv_dup hx hb dX6_append_34 rfl ?_
          refine tk_geti hC hK hw hT hinX6 kC_at1 (by decide) rfl 2 (by decide) (List.mem_cons_of_mem _ uw_7_22) rfl rfl dX6_append_35 (fun x19 c20 rx19 tx19 => ?_)
          refine wk_top x8 (c20.symm.trans c18) ?_
          replace hM := hM.rd (sI_at c18)
          refine lv_iconst (v := 1) hx hb dX6_append_38 (by decide) ?_
          refine lv_iadd hx hb dX6_append_39 ?_
          refine lv_topi (fun x21 ex21 => ?_)
          have ezx21 := ex21
          have ex21 : x21.toInt = x8.toInt + (1 : Int) := by rw [ex21]; exact wk_add (show (-2147483648) ≤ x8.toInt + (1 : Int) by omega) (show x8.toInt + (1 : Int) ≤ 2147483647 by omega)
          replace hM := hM.lt ex21.symm
          refine tk_puti hC hK hw hT hinX6 tyX6_ok nmX6 kC_at1 (by decide) rfl rfl 2 (by decide) (List.mem_cons_of_mem _ uw_7_22) rfl rfl rfl rfl (show 0 ≤ x21.toInt by first | with_reducible assumption | omega) (show x21.toInt ≤ 400 by first | with_reducible assumption | omega) dX6_append_40 (fun H locs w22 hw hT k24 c23 => ?_)
          replace hM := hM.wr (sI_up k24 c23)
          have hF := hF.put kC_at1 (k := 2) (by decide) k24
          obtain ⟨x25, ex25⟩ : ∃ y : Int32, y = v3_2 + Int32.ofInt (-8) := ⟨_, rfl⟩
          have erx25 := ex25
          refine lv_iinc (v := x25) (lv' := [(2, .int x25), (0, .ref (ad 1)), (1, .int a1)]) hx hb dX6_append_43 hl (k := 2) rfl ex25.symm (by decide) rfl (fun ls hl => ?_)
          have ex25 : x25.toInt = v3_2.toInt + (-8) := by rw [ex25]; exact wk_add (y := (-8)) (show -2147483648 ≤ v3_2.toInt + (-8) by omega) (show v3_2.toInt + (-8) ≤ 2147483647 by omega)
          replace hM := hM.lt ex25.symm
          refine lv_goto (tgt := 3) hx hb dX6_append_46 (by decide) ?_
          exact ih3 x25 H locs ls w22 (show (-8) ≤ x25.toInt by first | with_reducible assumption | omega) (show x25.toInt ≤ 24 by first | with_reducible assumption | omega) (show (x25.toInt - (-8)).toNat < n3 by first | exact tn_lt hm3 (by omega) (by omega) | omega) hw hT hF hM (lv_sub hl [1, 2, 0] rfl)
  have hM : TT (fun n => m_X6_append n 1 a1.toInt (sI w0)) (fun n => m_X6_append n 1 a1.toInt (sI w0)) := TT.rf
  refine lv_bipush (v := 24) hx hb dX6_append_0 (by decide) ?_
  refine lv_istore_n (lv' := [(2, .int 24), (0, .ref (ad 1)), (1, .int a1)]) hx hb dX6_append_2 rfl hl (by decide) rfl (fun ls hl => ?_)
  exact L3 (((24 : Int) - (-8)).toNat + 1) 24 s.heap locs ls w0 (by decide) (by decide) (Nat.lt_succ_self _) hw hT hF hM (lv_sub hl [1, 2, 0] rfl)
abbrev Pz_X11_feed_1 (ad : Nat → Nat) (cy : Nat → ClassId) (B : Int) (qr : Nat) (s1 : Int) (a1 : Int32) (a2 : Int32) (a3 : Int32) (a4 : Int32) (a5 : Int32) (w0 : va_W) : Int32 → va_W → Prop := fun r u => TW ksC ad cy B qr s1 u ∧ FE ksC [(6, 2, 2), (20, 0, 400)] w0 u ∧ Ev (fun n => m_X11_feed n 0 a1.toInt a2.toInt a3.toInt a4.toInt a5.toInt (sI w0)) (r.toInt, sI u) ∧ ((0 ≤ r.toInt ∧ r.toInt ≤ 400) ∨ (r = (-1) ∧ (∃ y : Int32, gi u 1 2 = y ∧ 381 ≤ y.toInt ∧ y.toInt ≤ 400)))
set_option maxHeartbeats 4000000 in
set_option maxRecDepth 100000 in
theorem kz_X11_feed_1 (l : Launch) (adK adV : Nat → Nat) (dC : Nat → ClassId) (dI : Nat → Nat → Nat) (cy : Nat → ClassId) (ad : Nat → Nat) (B : Int) (hB0 : 2147483648 ≤ B) (hB1 : B ≤ 1152921504606846976) (qr : Nat) (s1 : Int)  (a1 : Int32) (a2 : Int32) (a3 : Int32) (a4 : Int32) (a5 : Int32) (w0 : va_W) (sz : Nat) (hT : TW ksC ad cy B qr s1 w0)  : Met l yX11_feed (wu yX11_feed cX11_feed 6 (some .int)) ({ frames := 2, cells := 0, slots := 0, locals := 34 }) (va_Pc [.ref (ad 0), .int a1, .int a2, .int a3, .int a4, .int a5] (wpreS adK adV dC dI cy sz w0)) (va_Qi (Pz_X11_feed_1 ad cy B qr s1 a1 a2 a3 a4 a5 w0) (fun u : va_W => wpost dC dI cy (va_A w0 sz) u) (va_A w0 sz)) 0 0 (va_A w0 sz) := by
  refine Met.ofW (cc := cX11_feed) (maxL := 6) (ret := (some .int)) (by decide) rfl ?_
  intro p e s m args below meth c s₁ Bk hml hv
  obtain ⟨rfl, ⟨hsz, hP, hK, hD0⟩, hE, hSR⟩ := hv
  have hx := Bk.exec
  have hb := Bk.bytes
  have hr := Bk.returns
  have hlocks := Bk.notSynchronized
  have hC : CallFix p m c cX11_feed 6 s _ (wu yX11_feed cX11_feed 6 (some .int)) RX11 := ⟨hx, hb, hml, findClass_of_methodNamed Bk.named, atoms_spec (ws := (wu yX11_feed cX11_feed 6 (some .int))) Bk.pre⟩
  subst hsz
  have hD := hD0.self (sz := s.heap.size)
  generalize hAe : va_A w0 s.heap.size = A at hD hE ⊢
  have hA : ∀ q : Nat, s.heap.size ≤ q → A q := fun q h => by rw [← hAe]; exact Or.inr h
  have hw : Wd dC dI A s.heap s.heap [] w0 := ⟨hP, hD, va_S.rf⟩
  have hF : FE ksC [(6, 2, 2), (20, 0, 400)] w0 w0 := FE.rf
  have hl := lv_entry ([.ref (ad 0), .int a1, .int a2, .int a3, .int a4, .int a5]) (n := 6) (Nat.le_of_ble_eq_true rfl)
  rw [lg_entry_eq]
  generalize (lg_sl ([.ref (ad 0), .int a1, .int a2, .int a3, .int a4, .int a5]) ++ List.replicate (6 - (lg_sl ([.ref (ad 0), .int a1, .int a2, .int a3, .int a4, .int a5])).length) Slot.unset).toArray = ls at hl ⊢
  have hl : lv_has ls 6 [(0, .ref (ad 0)), (1, .int a1), (2, .int a2), (3, .int a3), (4, .int a4), (5, .int a5)] := hl
  generalize hloc : ([] : List Loc) = locs at hw ⊢
  have hinX11 : ∀ w ∈ u_ws RX11 TX11 13, w ∈ (wu yX11_feed cX11_feed 6 (some .int)) := fun _ h => List.mem_cons_of_mem _ (up_70 h)
  have hinX6 : ∀ w ∈ u_ws RX6 TX6 5, w ∈ (wu yX11_feed cX11_feed 6 (some .int)) := fun _ h => List.mem_cons_of_mem _ (up_72 h)
  have hM : TT (fun n => m_X11_feed n 0 a1.toInt a2.toInt a3.toInt a4.toInt a5.toInt (sI w0)) (fun n => m_X11_feed n 0 a1.toInt a2.toInt a3.toInt a4.toInt a5.toInt (sI w0)) := TT.rf
  refine lv_aload_n hx hb dX11_feed_0 rfl (lv_at hl 0 rfl) ?_
  refine tk_getA hC hK hw hT hinX11 kC_at0 (by decide) rfl 0 (by decide) (List.mem_cons_of_mem _ uw_0_15) rfl rfl dX11_feed_1 ?_
  refine tk_Vi hC hK hw hT hA hE hSR kC_at1 (by decide) rfl (kz_X6_hasRoom_1 l adK adV dC dI cy ad B hB0 (Int.le_trans hB1 (by decide)) qr s1    w0 s.heap.size hT ) (cwV 0 hC.2.2.2.2 uV_RX11_95 rfl rfl rfl (by decide +kernel) ⟨Nat.le_of_ble_eq_true rfl, Nat.le_of_ble_eq_true rfl⟩) rfl hl.1 rfl (Nat.le_of_ble_eq_true rfl) dX11_feed_4 (fun r1 w3 H locs hp2 hw => ?_)
  obtain ⟨hT, k4, hv10, hg9⟩ := hp2
  have hF := hF.tr k4 (by decide)
  rcases hg9 with ⟨rfl, ⟨x5, c6, rx5, tx5⟩⟩ | ⟨rfl, ⟨x7, c8, rx7, tx7⟩⟩
  · replace hM := hM.call (r' := 0) hv10 (by decide)
    refine lv_if_ne (tgt := 12) hx hb dX11_feed_7 (by decide) (fun c => absurd (by decide) c) (fun _ => ?_)
    replace hM := hM.neg (by decide)
    refine lv_iconst (v := (-1)) hx hb dX11_feed_10 (by decide) ?_
    exact tk_iret hC hr hlocks hK ⟨hT, hF, hM.ret (by decide), (Or.inr ⟨rfl, ⟨x5, c6, (show 381 ≤ x5.toInt by first | with_reducible assumption | omega), (show x5.toInt ≤ 400 by first | with_reducible assumption | omega)⟩⟩)⟩ hw dX11_feed_11
  · replace hM := hM.call (r' := 1) hv10 (by decide)
    refine lv_if_ne (tgt := 12) hx hb dX11_feed_7 (by decide) (fun _ => ?_) (fun c => absurd c (by decide))
    replace hM := hM.pos (by decide)
    refine lv_aload_n hx hb dX11_feed_12 rfl (lv_at hl 0 rfl) ?_
    refine tk_getA hC hK hw hT hinX11 kC_at0 (by decide) rfl 0 (by decide) (List.mem_cons_of_mem _ uw_0_15) rfl rfl dX11_feed_13 ?_
    refine lv_iload_n hx hb dX11_feed_16 rfl (lv_at hl 1 rfl) ?_
    refine tk_Vv hC hK hw hT hA hE hSR kC_at1 (by decide) rfl (kz_X6_append_1 l adK adV dC dI cy ad B hB0 (Int.le_trans hB1 (by decide)) qr s1   a1 w3 H.size hT ) (cwV 1 hC.2.2.2.2 uV_RX11_99 rfl rfl rfl (by decide +kernel) ⟨Nat.le_of_ble_eq_true rfl, Nat.le_of_ble_eq_true rfl⟩) rfl hl.1 rfl (Nat.le_of_ble_eq_true rfl) dX11_feed_17 (fun w13 H locs hp12 hw => ?_)
    obtain ⟨hT, k14, hv16, hg15⟩ := hp12
    have hF := hF.tr k14 (by decide)
    clear hg15
    replace hM := hM.call hv16 rfl
    refine lv_aload_n hx hb dX11_feed_20 rfl (lv_at hl 0 rfl) ?_
    refine tk_getA hC hK hw hT hinX11 kC_at0 (by decide) rfl 0 (by decide) (List.mem_cons_of_mem _ uw_0_15) rfl rfl dX11_feed_21 ?_
    refine lv_iload_n hx hb dX11_feed_24 rfl (lv_at hl 2 rfl) ?_
    refine tk_Vv hC hK hw hT hA hE hSR kC_at1 (by decide) rfl (kz_X6_append_1 l adK adV dC dI cy ad B hB0 (Int.le_trans hB1 (by decide)) qr s1   a2 w13 H.size hT ) (cwV 1 hC.2.2.2.2 uV_RX11_99 rfl rfl rfl (by decide +kernel) ⟨Nat.le_of_ble_eq_true rfl, Nat.le_of_ble_eq_true rfl⟩) rfl hl.1 rfl (Nat.le_of_ble_eq_true rfl) dX11_feed_25 (fun w19 H locs hp18 hw => ?_)
    obtain ⟨hT, k20, hv22, hg21⟩ := hp18
    have hF := hF.tr k20 (by decide)
    clear hg21
    replace hM := hM.call hv22 rfl
    refine lv_aload_n hx hb dX11_feed_28 rfl (lv_at hl 0 rfl) ?_
    refine tk_getA hC hK hw hT hinX11 kC_at0 (by decide) rfl 0 (by decide) (List.mem_cons_of_mem _ uw_0_15) rfl rfl dX11_feed_29 ?_
    refine lv_iload_n hx hb dX11_feed_32 rfl (lv_at hl 3 rfl) ?_
    refine tk_Vv hC hK hw hT hA hE hSR kC_at1 (by decide) rfl (kz_X6_append_1 l adK adV dC dI cy ad B hB0 (Int.le_trans hB1 (by decide)) qr s1   a3 w19 H.size hT ) (cwV 1 hC.2.2.2.2 uV_RX11_99 rfl rfl rfl (by decide +kernel) ⟨Nat.le_of_ble_eq_true rfl, Nat.le_of_ble_eq_true rfl⟩) rfl hl.1 rfl (Nat.le_of_ble_eq_true rfl) dX11_feed_33 (fun w25 H locs hp24 hw => ?_)
    obtain ⟨hT, k26, hv28, hg27⟩ := hp24
    have hF := hF.tr k26 (by decide)
    clear hg27
    replace hM := hM.call hv28 rfl
    refine lv_aload_n hx hb dX11_feed_36 rfl (lv_at hl 0 rfl) ?_
    refine tk_getA hC hK hw hT hinX11 kC_at0 (by decide) rfl 0 (by decide) (List.mem_cons_of_mem _ uw_0_15) rfl rfl dX11_feed_37 ?_
    refine lv_iload hx hb dX11_feed_40 (lv_at hl 4 rfl) ?_
    refine tk_Vv hC hK hw hT hA hE hSR kC_at1 (by decide) rfl (kz_X6_append_1 l adK adV dC dI cy ad B hB0 (Int.le_trans hB1 (by decide)) qr s1   a4 w25 H.size hT ) (cwV 1 hC.2.2.2.2 uV_RX11_99 rfl rfl rfl (by decide +kernel) ⟨Nat.le_of_ble_eq_true rfl, Nat.le_of_ble_eq_true rfl⟩) rfl hl.1 rfl (Nat.le_of_ble_eq_true rfl) dX11_feed_42 (fun w31 H locs hp30 hw => ?_)
    obtain ⟨hT, k32, hv34, hg33⟩ := hp30
    have hF := hF.tr k32 (by decide)
    clear hg33
    replace hM := hM.call hv34 rfl
    refine lv_aload_n hx hb dX11_feed_45 rfl (lv_at hl 0 rfl) ?_
    refine tk_getA hC hK hw hT hinX11 kC_at0 (by decide) rfl 0 (by decide) (List.mem_cons_of_mem _ uw_0_15) rfl rfl dX11_feed_46 ?_
    refine lv_iload hx hb dX11_feed_49 (lv_at hl 5 rfl) ?_
    refine tk_Vv hC hK hw hT hA hE hSR kC_at1 (by decide) rfl (kz_X6_append_1 l adK adV dC dI cy ad B hB0 (Int.le_trans hB1 (by decide)) qr s1   a5 w31 H.size hT ) (cwV 1 hC.2.2.2.2 uV_RX11_99 rfl rfl rfl (by decide +kernel) ⟨Nat.le_of_ble_eq_true rfl, Nat.le_of_ble_eq_true rfl⟩) rfl hl.1 rfl (Nat.le_of_ble_eq_true rfl) dX11_feed_51 (fun w37 H locs hp36 hw => ?_)
    obtain ⟨hT, k38, hv40, hg39⟩ := hp36
    have hF := hF.tr k38 (by decide)
    clear hg39
    replace hM := hM.call hv40 rfl
    refine lv_aload_n hx hb dX11_feed_54 rfl (lv_at hl 0 rfl) ?_
    refine tk_getA hC hK hw hT hinX11 kC_at0 (by decide) rfl 0 (by decide) (List.mem_cons_of_mem _ uw_0_15) rfl rfl dX11_feed_55 ?_
    refine tk_geti hC hK hw hT hinX6 kC_at1 (by decide) rfl 2 (by decide) (List.mem_cons_of_mem _ uw_7_17) rfl rfl dX11_feed_58 (fun x41 c42 rx41 tx41 => ?_)
    replace hM := hM.rd (sI_at c42)
    exact tk_iret hC hr hlocks hK ⟨hT, hF, hM.ret rfl, (Or.inl ⟨(show 0 ≤ x41.toInt from rx41), (show x41.toInt ≤ 400 from tx41)⟩)⟩ hw dX11_feed_61
abbrev Pz_X11_end_1 (ad : Nat → Nat) (cy : Nat → ClassId) (B : Int) (qr : Nat) (s1 : Int) (a1 : Int32) (w0 : va_W) : Int32 → va_W → Prop := fun r u => TW ksC ad cy B qr s1 u ∧ FE ksC [(6, 2, 2)] w0 u ∧ Ev (fun n => m_X11_end n 0 a1.toInt (sI w0)) (r.toInt, sI u) ∧ ((0 ≤ r.toInt ∧ r.toInt ≤ 400 ∧ 0 ≤ a1.toInt ∧ a1.toInt ≤ 400) ∨ (r = (-1)))
set_option maxHeartbeats 4000000 in
set_option maxRecDepth 100000 in
theorem kz_X11_end_1 (l : Launch) (adK adV : Nat → Nat) (dC : Nat → ClassId) (dI : Nat → Nat → Nat) (cy : Nat → ClassId) (ad : Nat → Nat) (B : Int) (hB0 : 2147483648 ≤ B) (hB1 : B ≤ 1152921504606846976) (qr : Nat) (s1 : Int)  (a1 : Int32) (w0 : va_W) (sz : Nat) (hT : TW ksC ad cy B qr s1 w0)  : Met l yX11_end (wu yX11_end cX11_end 2 (some .int)) ({ frames := 1, cells := 0, slots := 0, locals := 12 }) (va_Pc [.ref (ad 0), .int a1] (wpreS adK adV dC dI cy sz w0)) (va_Qi (Pz_X11_end_1 ad cy B qr s1 a1 w0) (fun u : va_W => wpost dC dI cy (va_A w0 sz) u) (va_A w0 sz)) 0 0 (va_A w0 sz) := by
  refine Met.ofW (cc := cX11_end) (maxL := 2) (ret := (some .int)) (by decide) rfl ?_
  intro p e s m args below meth c s₁ Bk hml hv
  obtain ⟨rfl, ⟨hsz, hP, hK, hD0⟩, hE, hSR⟩ := hv
  have hx := Bk.exec
  have hb := Bk.bytes
  have hr := Bk.returns
  have hlocks := Bk.notSynchronized
  have hC : CallFix p m c cX11_end 2 s _ (wu yX11_end cX11_end 2 (some .int)) RX11 := ⟨hx, hb, hml, findClass_of_methodNamed Bk.named, atoms_spec (ws := (wu yX11_end cX11_end 2 (some .int))) Bk.pre⟩
  subst hsz
  have hD := hD0.self (sz := s.heap.size)
  generalize hAe : va_A w0 s.heap.size = A at hD hE ⊢
  have hA : ∀ q : Nat, s.heap.size ≤ q → A q := fun q h => by rw [← hAe]; exact Or.inr h
  have hw : Wd dC dI A s.heap s.heap [] w0 := ⟨hP, hD, va_S.rf⟩
  have hF : FE ksC [(6, 2, 2)] w0 w0 := FE.rf
  have hl := lv_entry ([.ref (ad 0), .int a1]) (n := 2) (Nat.le_of_ble_eq_true rfl)
  rw [lg_entry_eq]
  generalize (lg_sl ([.ref (ad 0), .int a1]) ++ List.replicate (2 - (lg_sl ([.ref (ad 0), .int a1])).length) Slot.unset).toArray = ls at hl ⊢
  have hl : lv_has ls 2 [(0, .ref (ad 0)), (1, .int a1)] := hl
  generalize hloc : ([] : List Loc) = locs at hw ⊢
  have hinX11 : ∀ w ∈ u_ws RX11 TX11 13, w ∈ (wu yX11_end cX11_end 2 (some .int)) := fun _ h => List.mem_cons_of_mem _ (up_70 h)
  have hinX6 : ∀ w ∈ u_ws RX6 TX6 5, w ∈ (wu yX11_end cX11_end 2 (some .int)) := fun _ h => List.mem_cons_of_mem _ (up_72 h)
  have J15 : ∀ (H : Heap) (locs : List Loc) (ls : Array Slot) (w1 : va_W), Wd dC dI A s.heap H locs w1 → TW ksC ad cy B qr s1 w1 → FE ksC [(6, 2, 2)] w0 w1 → TT (fun n => m_X11_end n 0 a1.toInt (sI w0)) (fun n => b_X11_end_15 n 0 (sI w1)) → lv_has ls 2 [(0, .ref (ad 0)), (1, .int a1)] → W p l e ({ frames := 1, cells := 0, slots := 0, locals := 12 }) s m (List.toArray [.ref (ad 0), .int a1]) below meth c H locs 0 0 (MQ below (va_Qi (Pz_X11_end_1 ad cy B qr s1 a1 w0) (fun u : va_W => wpost dC dI cy A u) A) (List.toArray [.ref (ad 0), .int a1]) s 0 0 A) (F0 m 15 ls []) := by
    intro H locs ls w1 hw hT hF hM hl
    refine lv_iconst (v := (-1)) hx hb dX11_end_15 (by decide) ?_
    exact tk_iret hC hr hlocks hK ⟨hT, hF, hM.ret (by decide), (Or.inr rfl)⟩ hw dX11_end_16
  have hM : TT (fun n => m_X11_end n 0 a1.toInt (sI w0)) (fun n => m_X11_end n 0 a1.toInt (sI w0)) := TT.rf
  refine lv_iload_n hx hb dX11_end_0 rfl (lv_at hl 1 rfl) ?_
  refine lv_if_lt (tgt := 15) hx hb dX11_end_1 (by decide) (fun c2 => ?_) (fun c2 => ?_)
  · have c2 : a1.toInt < (0 : Int) := wk_lt.mp c2
    replace hM := hM.pos c2
    exact J15  s.heap locs ls w0   hw hT hF hM (lv_sub hl [0, 1] rfl)
  · have c2 : (0 : Int) ≤ a1.toInt := wk_ltF c2
    replace hM := hM.neg (Int.not_lt.mpr c2)
    refine lv_iload_n hx hb dX11_end_4 rfl (lv_at hl 1 rfl) ?_
    refine lv_aload_n hx hb dX11_end_5 rfl (lv_at hl 0 rfl) ?_
    refine tk_getA hC hK hw hT hinX11 kC_at0 (by decide) rfl 0 (by decide) (List.mem_cons_of_mem _ uw_0_15) rfl rfl dX11_end_6 ?_
    refine tk_geti hC hK hw hT hinX6 kC_at1 (by decide) rfl 2 (by decide) (List.mem_cons_of_mem _ uw_7_17) rfl rfl dX11_end_9 (fun x3 c4 rx3 tx3 => ?_)
    replace hM := hM.rd (sI_at c4)
    refine lv_icmp_le (tgt := 17) hx hb dX11_end_12 (by decide) (fun c5 => ?_) (fun c5 => ?_)
    · have c5 : a1.toInt ≤ x3.toInt := wk_le.mp c5
      replace hM := hM.pos c5
      refine lv_aload_n hx hb dX11_end_17 rfl (lv_at hl 0 rfl) ?_
      refine tk_getA hC hK hw hT hinX11 kC_at0 (by decide) rfl 0 (by decide) (List.mem_cons_of_mem _ uw_0_15) rfl rfl dX11_end_18 ?_
      refine lv_iload_n hx hb dX11_end_21 rfl (lv_at hl 1 rfl) ?_
      refine tk_puti hC hK hw hT hinX6 tyX6_ok nmX6 kC_at1 (by decide) rfl rfl 2 (by decide) (List.mem_cons_of_mem _ uw_7_17) rfl rfl rfl rfl (show 0 ≤ a1.toInt by first | with_reducible assumption | omega) (show a1.toInt ≤ 400 by first | with_reducible assumption | omega) dX11_end_22 (fun H locs w6 hw hT k8 c7 => ?_)
      replace hM := hM.wr (sI_up k8 c7)
      have hF := hF.put kC_at1 (k := 2) (by decide) k8
      refine lv_iload_n hx hb dX11_end_25 rfl (lv_at hl 1 rfl) ?_
      exact tk_iret hC hr hlocks hK ⟨hT, hF, hM.ret rfl, (Or.inl ⟨(show 0 ≤ a1.toInt by first | with_reducible assumption | omega), (show a1.toInt ≤ 400 by first | with_reducible assumption | omega), (show 0 ≤ a1.toInt by first | with_reducible assumption | omega), (show a1.toInt ≤ 400 by first | with_reducible assumption | omega)⟩)⟩ hw dX11_end_26
    · have c5 : x3.toInt < a1.toInt := wk_leF c5
      replace hM := hM.neg (Int.not_le.mpr c5)
      exact J15  s.heap locs ls w0   hw hT hF hM (lv_sub hl [0, 1] rfl)
abbrev Pz_X7_sideOf_1 (ad : Nat → Nat) (cy : Nat → ClassId) (B : Int) (qr : Nat) (s1 : Int) (a1 : Int32) (a2 : Int32) (w0 : va_W) : Int32 → va_W → Prop := fun r u => TW ksC ad cy B qr s1 u ∧ FE ksC ([] : List (Nat × Nat × Nat)) w0 u ∧ Ev (fun n => m_X7_sideOf n 29 a1.toInt a2.toInt (sI w0)) (r.toInt, sI u) ∧ ((r = (-1)) ∨ (r = 0 ∧ 0 ≤ a2.toInt ∧ a2.toInt ≤ 9 ∧ gi u 30 (2 * a1.toInt + 0).toNat = a2) ∨ (r = 1 ∧ 0 ≤ a2.toInt ∧ a2.toInt ≤ 9 ∧ gi u 30 (2 * a1.toInt + 1).toNat = a2))
set_option maxHeartbeats 4000000 in
set_option maxRecDepth 100000 in
theorem kz_X7_sideOf_1 (l : Launch) (adK adV : Nat → Nat) (dC : Nat → ClassId) (dI : Nat → Nat → Nat) (cy : Nat → ClassId) (ad : Nat → Nat) (B : Int) (hB0 : 2147483648 ≤ B) (hB1 : B ≤ 1152921504606846976) (qr : Nat) (s1 : Int)  (a1 : Int32) (ra1 : 0 ≤ a1.toInt) (ta1 : a1.toInt ≤ 11) (a2 : Int32) (w0 : va_W) (sz : Nat) (hT : TW ksC ad cy B qr s1 w0)  : Met l yX7_sideOf (wu yX7_sideOf cX7_sideOf 3 (some .int)) ({ frames := 1, cells := 0, slots := 0, locals := 12 }) (va_Pc [.ref (ad 29), .int a1, .int a2] (wpreS adK adV dC dI cy sz w0)) (va_Qi (Pz_X7_sideOf_1 ad cy B qr s1 a1 a2 w0) (fun u : va_W => wpost dC dI cy (va_A w0 sz) u) (va_A w0 sz)) 0 0 (va_A w0 sz) := by
  refine Met.ofW (cc := cX7_sideOf) (maxL := 3) (ret := (some .int)) (by decide) rfl ?_
  intro p e s m args below meth c s₁ Bk hml hv
  obtain ⟨rfl, ⟨hsz, hP, hK, hD0⟩, hE, hSR⟩ := hv
  have hx := Bk.exec
  have hb := Bk.bytes
  have hr := Bk.returns
  have hlocks := Bk.notSynchronized
  have hC : CallFix p m c cX7_sideOf 3 s _ (wu yX7_sideOf cX7_sideOf 3 (some .int)) RX7 := ⟨hx, hb, hml, findClass_of_methodNamed Bk.named, atoms_spec (ws := (wu yX7_sideOf cX7_sideOf 3 (some .int))) Bk.pre⟩
  subst hsz
  have hD := hD0.self (sz := s.heap.size)
  generalize hAe : va_A w0 s.heap.size = A at hD hE ⊢
  have hA : ∀ q : Nat, s.heap.size ≤ q → A q := fun q h => by rw [← hAe]; exact Or.inr h
  have hw : Wd dC dI A s.heap s.heap [] w0 := ⟨hP, hD, va_S.rf⟩
  have hF : FE ksC ([] : List (Nat × Nat × Nat)) w0 w0 := FE.rf
  have hl := lv_entry ([.ref (ad 29), .int a1, .int a2]) (n := 3) (Nat.le_of_ble_eq_true rfl)
  rw [lg_entry_eq]
  generalize (lg_sl ([.ref (ad 29), .int a1, .int a2]) ++ List.replicate (3 - (lg_sl ([.ref (ad 29), .int a1, .int a2])).length) Slot.unset).toArray = ls at hl ⊢
  have hl : lv_has ls 3 [(0, .ref (ad 29)), (1, .int a1), (2, .int a2)] := hl
  generalize hloc : ([] : List Loc) = locs at hw ⊢
  have hinX7 : ∀ w ∈ u_ws RX7 TX7 12, w ∈ (wu yX7_sideOf cX7_sideOf 3 (some .int)) := fun _ h => List.mem_cons_of_mem _ (up_73 h)
  have hM : TT (fun n => m_X7_sideOf n 29 a1.toInt a2.toInt (sI w0)) (fun n => m_X7_sideOf n 29 a1.toInt a2.toInt (sI w0)) := TT.rf
  refine lv_aload_n hx hb dX7_sideOf_0 rfl (lv_at hl 0 rfl) ?_
  refine tk_getO hC hK hw hT hinX7 kC_at29 (by decide) rfl 0 (by decide) (List.mem_cons_of_mem _ uw_2_17) rfl rfl dX7_sideOf_1 ?_
  refine lv_iconst (v := 2) hx hb dX7_sideOf_4 (by decide) ?_
  refine lv_iload_n hx hb dX7_sideOf_5 rfl (lv_at hl 1 rfl) ?_
  refine lv_imul hx hb dX7_sideOf_6 ?_
  refine lv_topi (fun x1 ex1 => ?_)
  have ezx1 := ex1
  have ex1 : x1.toInt = (2 : Int) * a1.toInt := by rw [ex1]; exact wk_mul (show (-2147483648) ≤ (2 : Int) * a1.toInt by omega) (show (2 : Int) * a1.toInt ≤ 2147483647 by omega)
  replace hM := hM.lt ex1.symm
  refine tk_iald hC hK hw hT kC_at30 rfl rfl (show 0 ≤ x1.toInt by first | with_reducible assumption | omega) (show x1.toInt < 26 by first | with_reducible assumption | omega) dX7_sideOf_7 (fun x2 c3 rx2 tx2 => ?_)
  have hox2 := c3
  replace hM := hM.rd (sI_at hox2)
  have c3 : gi w0 30 (2 * a1.toInt + 0).toNat = x2 := (congrArg (gi w0 30) (congrArg Int.toNat (show 2 * a1.toInt + 0 = x1.toInt by first | exact Int.le_antisymm (by omega) (by omega) | omega))).trans c3
  refine lv_iload_n hx hb dX7_sideOf_8 rfl (lv_at hl 2 rfl) ?_
  refine lv_icmp_ne (tgt := 14) hx hb dX7_sideOf_9 (by decide) (fun c4 => ?_) (fun c4 => ?_)
  · have c4 : ¬ x2.toInt = a2.toInt := wk_eqF c4
    replace hM := hM.pos c4
    refine lv_aload_n hx hb dX7_sideOf_14 rfl (lv_at hl 0 rfl) ?_
    refine tk_getO hC hK hw hT hinX7 kC_at29 (by decide) rfl 0 (by decide) (List.mem_cons_of_mem _ uw_2_17) rfl rfl dX7_sideOf_15 ?_
    refine lv_iconst (v := 2) hx hb dX7_sideOf_18 (by decide) ?_
    refine lv_iload_n hx hb dX7_sideOf_19 rfl (lv_at hl 1 rfl) ?_
    refine lv_imul hx hb dX7_sideOf_20 ?_
    refine lv_topi (fun x5 ex5 => ?_)
    have ezx5 := ex5
    have ex5 : x5.toInt = (2 : Int) * a1.toInt := by rw [ex5]; exact wk_mul (show (-2147483648) ≤ (2 : Int) * a1.toInt by omega) (show (2 : Int) * a1.toInt ≤ 2147483647 by omega)
    replace hM := hM.lt ex5.symm
    refine lv_iconst (v := 1) hx hb dX7_sideOf_21 (by decide) ?_
    refine lv_iadd hx hb dX7_sideOf_22 ?_
    refine lv_topi (fun x6 ex6 => ?_)
    have ezx6 := ex6
    have ex6 : x6.toInt = x5.toInt + (1 : Int) := by rw [ex6]; exact wk_add (show (-2147483648) ≤ x5.toInt + (1 : Int) by omega) (show x5.toInt + (1 : Int) ≤ 2147483647 by omega)
    replace hM := hM.lt ex6.symm
    refine tk_iald hC hK hw hT kC_at30 rfl rfl (show 0 ≤ x6.toInt by first | with_reducible assumption | omega) (show x6.toInt < 26 by first | with_reducible assumption | omega) dX7_sideOf_23 (fun x7 c8 rx7 tx7 => ?_)
    have hox7 := c8
    replace hM := hM.rd (sI_at hox7)
    have c8 : gi w0 30 (2 * a1.toInt + 1).toNat = x7 := (congrArg (gi w0 30) (congrArg Int.toNat (show 2 * a1.toInt + 1 = x6.toInt by first | exact Int.le_antisymm (by omega) (by omega) | omega))).trans c8
    refine lv_iload_n hx hb dX7_sideOf_24 rfl (lv_at hl 2 rfl) ?_
    refine lv_icmp_ne (tgt := 32) hx hb dX7_sideOf_25 (by decide) (fun c9 => ?_) (fun c9 => ?_)
    · have c9 : ¬ x7.toInt = a2.toInt := wk_eqF c9
      replace hM := hM.pos c9
      refine lv_iconst (v := (-1)) hx hb dX7_sideOf_32 (by decide) ?_
      exact tk_iret hC hr hlocks hK ⟨hT, hF, hM.ret (by decide), (Or.inl rfl)⟩ hw dX7_sideOf_33
    · have c9 : x7.toInt = a2.toInt := wk_eq.mp c9
      replace hM := hM.neg (fun q => q c9)
      refine lv_iconst (v := 1) hx hb dX7_sideOf_28 (by decide) ?_
      refine lv_goto (tgt := 33) hx hb dX7_sideOf_29 (by decide) ?_
      exact tk_iret hC hr hlocks hK ⟨hT, hF, hM.ret (by decide), (Or.inr (Or.inr ⟨rfl, (show 0 ≤ a2.toInt by first | with_reducible assumption | omega), (show a2.toInt ≤ 9 by first | with_reducible assumption | omega), (c8.trans (wk_eq.mpr (show x7.toInt = a2.toInt by first | exact Int.le_antisymm (by omega) (by omega) | omega)))⟩))⟩ hw dX7_sideOf_33
  · have c4 : x2.toInt = a2.toInt := wk_eq.mp c4
    replace hM := hM.neg (fun q => q c4)
    refine lv_iconst (v := 0) hx hb dX7_sideOf_12 (by decide) ?_
    exact tk_iret hC hr hlocks hK ⟨hT, hF, hM.ret (by decide), (Or.inr (Or.inl ⟨rfl, (show 0 ≤ a2.toInt by first | with_reducible assumption | omega), (show a2.toInt ≤ 9 by first | with_reducible assumption | omega), (c3.trans (wk_eq.mpr (show x2.toInt = a2.toInt by first | exact Int.le_antisymm (by omega) (by omega) | omega)))⟩))⟩ hw dX7_sideOf_13
abbrev Pz_X7_findSaints_1 (ad : Nat → Nat) (cy : Nat → ClassId) (B : Int) (qr : Nat) (s1 : Int) (a1 : Int32) (w0 : va_W) : va_W → Prop := fun u => TW ksC ad cy B qr s1 u ∧ FE ksC [(31, 0, 13)] w0 u ∧ Ev (fun n => m_X7_findSaints n 29 a1.toInt (sI w0)) (0, sI u) ∧ (((∃ y : Int32, gi u 29 10 = y ∧ 0 ≤ y.toInt ∧ y.toInt ≤ 8)))
set_option maxHeartbeats 4000000 in
set_option maxRecDepth 100000 in
theorem kz_X7_findSaints_1 (l : Launch) (adK adV : Nat → Nat) (dC : Nat → ClassId) (dI : Nat → Nat → Nat) (cy : Nat → ClassId) (ad : Nat → Nat) (B : Int) (hB0 : 2147483648 ≤ B) (hB1 : B ≤ 1152921504606846976) (qr : Nat) (s1 : Int)  (a1 : Int32) (ra1 : 0 ≤ a1.toInt) (ta1 : a1.toInt ≤ 11) (w0 : va_W) (sz : Nat) (hT : TW ksC ad cy B qr s1 w0)  : Met l yX7_findSaints (wu yX7_findSaints cX7_findSaints 3 none) ({ frames := 2, cells := 0, slots := 0, locals := 34 }) (va_Pc [.ref (ad 29), .int a1] (wpreS adK adV dC dI cy sz w0)) (va_Qv (Pz_X7_findSaints_1 ad cy B qr s1 a1 w0) (fun u : va_W => wpost dC dI cy (va_A w0 sz) u) (va_A w0 sz)) 0 0 (va_A w0 sz) := by
  refine Met.ofW (cc := cX7_findSaints) (maxL := 3) (ret := none) (by decide) rfl ?_
  intro p e s m args below meth c s₁ Bk hml hv
  obtain ⟨rfl, ⟨hsz, hP, hK, hD0⟩, hE, hSR⟩ := hv
  have hx := Bk.exec
  have hb := Bk.bytes
  have hr := Bk.returns
  have hlocks := Bk.notSynchronized
  have hC : CallFix p m c cX7_findSaints 3 s _ (wu yX7_findSaints cX7_findSaints 3 none) RX7 := ⟨hx, hb, hml, findClass_of_methodNamed Bk.named, atoms_spec (ws := (wu yX7_findSaints cX7_findSaints 3 none)) Bk.pre⟩
  subst hsz
  have hD := hD0.self (sz := s.heap.size)
  generalize hAe : va_A w0 s.heap.size = A at hD hE ⊢
  have hA : ∀ q : Nat, s.heap.size ≤ q → A q := fun q h => by rw [← hAe]; exact Or.inr h
  have hw : Wd dC dI A s.heap s.heap [] w0 := ⟨hP, hD, va_S.rf⟩
  have hF : FE ksC [(31, 0, 13)] w0 w0 := FE.rf
  have hl := lv_entry ([.ref (ad 29), .int a1]) (n := 3) (Nat.le_of_ble_eq_true rfl)
  rw [lg_entry_eq]
  generalize (lg_sl ([.ref (ad 29), .int a1]) ++ List.replicate (3 - (lg_sl ([.ref (ad 29), .int a1])).length) Slot.unset).toArray = ls at hl ⊢
  have hl : lv_has ls 3 [(0, .ref (ad 29)), (1, .int a1)] := hl
  generalize hloc : ([] : List Loc) = locs at hw ⊢
  have hinX7 : ∀ w ∈ u_ws RX7 TX7 12, w ∈ (wu yX7_findSaints cX7_findSaints 3 none) := fun _ h => List.mem_cons_of_mem _ (up_73 h)
  have L9 : ∀ (n9 : Nat) (v9_2 : Int32) (H : Heap) (locs : List Loc) (ls : Array Slot) (w1 : va_W), 0 ≤ a1.toInt → a1.toInt ≤ 11 → 0 ≤ v9_2.toInt → v9_2.toInt ≤ 8 → (8 - v9_2.toInt).toNat < n9 → Wd dC dI A s.heap H locs w1 → TW ksC ad cy B qr s1 w1 → FE ksC [(31, 0, 13)] w0 w1 → TT (fun n => m_X7_findSaints n 29 a1.toInt (sI w0)) (fun n => j_X7_findSaints 29 n 9 [a1.toInt, v9_2.toInt] (sI w1)) → lv_has ls 3 [(0, .ref (ad 29)), (1, .int a1), (2, .int v9_2)] → W p l e ({ frames := 2, cells := 0, slots := 0, locals := 34 }) s m (List.toArray [.ref (ad 29), .int a1]) below meth c H locs 0 0 (MQ below (va_Qv (Pz_X7_findSaints_1 ad cy B qr s1 a1 w0) (fun u : va_W => wpost dC dI cy A u) A) (List.toArray [.ref (ad 29), .int a1]) s 0 0 A) (F0 m 9 ls []) := by
    intro n9
    induction n9 with
    | zero => intro v9_2 H locs ls w1 r2 t3 r4 t5 hm9 hw hT hF hM hl; omega
    | succ n9 ih9 =>
      intro v9_2 H locs ls w1 r2 t3 r4 t5 hm9 hw hT hF hM hl
      have J44 : ∀ (f44_29_10 : Int32) (H : Heap) (locs : List Loc) (ls : Array Slot) (w6 : va_W), 0 ≤ a1.toInt → a1.toInt ≤ 11 → 0 ≤ v9_2.toInt → v9_2.toInt ≤ 7 → 1 ≤ f44_29_10.toInt → f44_29_10.toInt ≤ 8 → Wd dC dI A s.heap H locs w6 → TW ksC ad cy B qr s1 w6 → FE ksC [(31, 0, 13)] w0 w6 → gi w6 29 10 = f44_29_10 → TT (fun n => m_X7_findSaints n 29 a1.toInt (sI w0)) (fun n => b_X7_findSaints_44 (j_X7_findSaints 29 n) n 29 (a1.toInt) (v9_2.toInt) (sI w6)) → lv_has ls 3 [(0, .ref (ad 29)), (1, .int a1), (2, .int v9_2)] → W p l e ({ frames := 2, cells := 0, slots := 0, locals := 34 }) s m (List.toArray [.ref (ad 29), .int a1]) below meth c H locs 0 0 (MQ below (va_Qv (Pz_X7_findSaints_1 ad cy B qr s1 a1 w0) (fun u : va_W => wpost dC dI cy A u) A) (List.toArray [.ref (ad 29), .int a1]) s 0 0 A) (F0 m 44 ls []) := by
        intro f44_29_10 H locs ls w6 r7 t8 r9 t10 r11 t12 hw hT hF c13 hM hl
        obtain ⟨x14, ex14⟩ : ∃ y : Int32, y = v9_2 + Int32.ofInt 1 := ⟨_, rfl⟩
        have erx14 := ex14
        refine lv_iinc (v := x14) (lv' := [(2, .int x14), (0, .ref (ad 29)), (1, .int a1)]) hx hb dX7_findSaints_44 hl (k := 2) rfl ex14.symm (by decide) rfl (fun ls hl => ?_)
        have ex14 : x14.toInt = v9_2.toInt + 1 := by rw [ex14]; exact wk_add (y := 1) (show -2147483648 ≤ v9_2.toInt + 1 by omega) (show v9_2.toInt + 1 ≤ 2147483647 by omega)
        replace hM := hM.lt ex14.symm
        refine lv_goto (tgt := 9) hx hb dX7_findSaints_47 (by decide) ?_
        exact ih9 x14 H locs ls w6 (show 0 ≤ a1.toInt from r7) (show a1.toInt ≤ 11 from t8) (show 0 ≤ x14.toInt by first | with_reducible assumption | omega) (show x14.toInt ≤ 8 by first | with_reducible assumption | omega) (show (8 - x14.toInt).toNat < n9 by first | exact tn_lt hm9 (by omega) (by omega) | omega) hw hT hF hM (lv_sub hl [1, 2, 0] rfl)
      replace hM := hM.suc (fun _ => e_X7_findSaints_9)
      refine lv_iload_n hx hb dX7_findSaints_9 rfl (lv_at hl 2 rfl) ?_
      refine lv_aload_n hx hb dX7_findSaints_10 rfl (lv_at hl 0 rfl) ?_
      refine tk_geti hC hK hw hT hinX7 kC_at29 (by decide) rfl 10 (by decide) (List.mem_cons_of_mem _ uw_9_9) rfl rfl dX7_findSaints_11 (fun x15 c16 rx15 tx15 => ?_)
      replace hM := hM.rd (sI_at c16)
      refine lv_icmp_ge (tgt := 50) hx hb dX7_findSaints_14 (by decide) (fun c17 => ?_) (fun c17 => ?_)
      · have c17 : x15.toInt ≤ v9_2.toInt := wk_le.mp c17
        replace hM := hM.pos c17
        exact tk_vret hC hr hlocks hK ⟨hT, hF, hM.ret rfl, ⟨x15, c16, (show 0 ≤ x15.toInt from rx15), (show x15.toInt ≤ 8 from tx15)⟩⟩ hw dX7_findSaints_50
      · have c17 : v9_2.toInt < x15.toInt := wk_leF c17
        replace hM := hM.neg (Int.not_le.mpr c17)
        refine lv_aload_n hx hb dX7_findSaints_17 rfl (lv_at hl 0 rfl) ?_
        refine lv_iload_n hx hb dX7_findSaints_18 rfl (lv_at hl 1 rfl) ?_
        refine lv_aload_n hx hb dX7_findSaints_19 rfl (lv_at hl 0 rfl) ?_
        refine tk_getO hC hK hw hT hinX7 kC_at29 (by decide) rfl 5 (by decide) (List.mem_cons_of_mem _ uw_2_22) rfl rfl dX7_findSaints_20 ?_
        refine lv_iload_n hx hb dX7_findSaints_23 rfl (lv_at hl 2 rfl) ?_
        refine tk_iald hC hK hw hT kC_at35 rfl rfl (show 0 ≤ v9_2.toInt from r4) (show v9_2.toInt < 8 by first | with_reducible assumption | omega) dX7_findSaints_24 (fun x18 c19 rx18 tx18 => ?_)
        have hox18 := c19
        replace hM := hM.rd (sI_at hox18)
        refine tk_Vi hC hK hw hT hA hE hSR kC_at29 (by decide) rfl (kz_X7_sideOf_1 l adK adV dC dI cy ad B hB0 (Int.le_trans hB1 (by decide)) qr s1   a1 (show 0 ≤ a1.toInt from r2) (show a1.toInt ≤ 11 from t3) x18 w1 H.size hT ) (cwV 2 hC.2.2.2.2 uV_RX7_138 rfl rfl rfl (by decide +kernel) ⟨Nat.le_of_ble_eq_true rfl, Nat.le_of_ble_eq_true rfl⟩) rfl hl.1 rfl (Nat.le_of_ble_eq_true rfl) dX7_findSaints_25 (fun r20 w22 H locs hp21 hw => ?_)
        obtain ⟨hT, k23, hv31, hg30⟩ := hp21
        have hF := hF.tr k23 (by decide)
        have c32 := k23.gi kC_at29 (by decide) c16
        rcases hg30 with rfl | ⟨rfl, g24, g25, c26⟩ | ⟨rfl, g27, g28, c29⟩
        · replace hM := hM.call (r' := (-1)) hv31 (by decide)
          refine lv_iconst (v := (-1)) hx hb dX7_findSaints_28 (by decide) ?_
          refine lv_icmp_eq (tgt := 44) hx hb dX7_findSaints_29 (by decide) (fun _ => ?_) (fun c => absurd (by decide) c)
          replace hM := hM.pos (by decide)
          exact J44 x15 H locs ls w22 (show 0 ≤ a1.toInt from r2) (show a1.toInt ≤ 11 from t3) (show 0 ≤ v9_2.toInt from r4) (show v9_2.toInt ≤ 7 by first | with_reducible assumption | omega) (show 1 ≤ x15.toInt by first | with_reducible assumption | omega) (show x15.toInt ≤ 8 from tx15)  hw hT hF c32 hM (lv_sub hl [0, 1, 2] rfl)
        · replace hM := hM.call (r' := 0) hv31 (by decide)
          refine lv_iconst (v := (-1)) hx hb dX7_findSaints_28 (by decide) ?_
          refine lv_icmp_eq (tgt := 44) hx hb dX7_findSaints_29 (by decide) (fun c => absurd c (by decide)) (fun _ => ?_)
          replace hM := hM.neg (by decide)
          refine lv_aload_n hx hb dX7_findSaints_32 rfl (lv_at hl 0 rfl) ?_
          refine tk_getO hC hK hw hT hinX7 kC_at29 (by decide) rfl 7 (by decide) (List.mem_cons_of_mem _ uw_3_0) rfl rfl dX7_findSaints_33 ?_
          refine lv_iload_n hx hb dX7_findSaints_36 rfl (lv_at hl 1 rfl) ?_
          refine lv_dup2_11 hx hb dX7_findSaints_37 rfl rfl ?_
          refine tk_iald hC hK hw hT kC_at37 rfl rfl (show 0 ≤ a1.toInt from r2) (show a1.toInt < 13 from Int.lt_of_le_of_lt t3 (by decide)) dX7_findSaints_38 (fun x33 c34 rx33 tx33 => ?_)
          have hox33 := c34
          replace hM := hM.rd (sI_at hox33)
          refine lv_iconst (v := 1) hx hb dX7_findSaints_39 (by decide) ?_
          refine lv_iload_n hx hb dX7_findSaints_40 rfl (lv_at hl 2 rfl) ?_
          refine lv_ishl hx hb dX7_findSaints_41 ?_
          refine lv_topi (fun x35 ex35 => ?_)
          have ezx35 := ex35
          have bx35 : 1 ≤ x35.toInt ∧ x35.toInt ≤ 128 := by rw [ex35]; exact wk_shl1 7 (by decide) (by omega) (by omega)
          replace hM := hM.lt (o32_e (f := fun x y => x <<< (y &&& 31)) ezx35 (by decide) rfl)
          refine lv_ior hx hb dX7_findSaints_42 ?_
          refine lv_topi (fun x36 ex36 => ?_)
          have ezx36 := ex36
          replace hM := hM.lt (o32_e (f := fun x y => x ||| y) ezx36 rfl rfl)
          refine tk_iast hC hK hw hT kC_at37 (by decide) rfl rfl (show 0 ≤ a1.toInt from r2) (show a1.toInt < 13 from Int.lt_of_le_of_lt t3 (by decide)) (wk_i32 x36).1 (wk_i32 x36).2 dX7_findSaints_43 (fun H locs w37 hw hT k39 c38 => ?_)
          replace hM := hM.wr (sI_up k39 c38)
          have hF := hF.put kC_at37 (inE_of (a := 0) (b := 13) (by decide) (show 0 ≤ a1.toInt.toNat by omega) (show a1.toInt.toNat ≤ 13 by omega)) k39
          have c40 := k39.gi (Or.inl (tk_ne kC_at29 kC_at37 (by decide))) c32
          have c41 := k39.gi (Or.inl (tk_ne kC_at30 kC_at37 (by decide))) c26
          exact J44 x15 H locs ls w37 (show 0 ≤ a1.toInt from r2) (show a1.toInt ≤ 11 from t3) (show 0 ≤ v9_2.toInt from r4) (show v9_2.toInt ≤ 7 by first | with_reducible assumption | omega) (show 1 ≤ x15.toInt by first | with_reducible assumption | omega) (show x15.toInt ≤ 8 from tx15)  hw hT hF c40 hM (lv_sub hl [0, 1, 2] rfl)
        · replace hM := hM.call (r' := 1) hv31 (by decide)
          refine lv_iconst (v := (-1)) hx hb dX7_findSaints_28 (by decide) ?_
          refine lv_icmp_eq (tgt := 44) hx hb dX7_findSaints_29 (by decide) (fun c => absurd c (by decide)) (fun _ => ?_)
          replace hM := hM.neg (by decide)
          refine lv_aload_n hx hb dX7_findSaints_32 rfl (lv_at hl 0 rfl) ?_
          refine tk_getO hC hK hw hT hinX7 kC_at29 (by decide) rfl 7 (by decide) (List.mem_cons_of_mem _ uw_3_0) rfl rfl dX7_findSaints_33 ?_
          refine lv_iload_n hx hb dX7_findSaints_36 rfl (lv_at hl 1 rfl) ?_
          refine lv_dup2_11 hx hb dX7_findSaints_37 rfl rfl ?_
          refine tk_iald hC hK hw hT kC_at37 rfl rfl (show 0 ≤ a1.toInt from r2) (show a1.toInt < 13 from Int.lt_of_le_of_lt t3 (by decide)) dX7_findSaints_38 (fun x42 c43 rx42 tx42 => ?_)
          have hox42 := c43
          replace hM := hM.rd (sI_at hox42)
          refine lv_iconst (v := 1) hx hb dX7_findSaints_39 (by decide) ?_
          refine lv_iload_n hx hb dX7_findSaints_40 rfl (lv_at hl 2 rfl) ?_
          refine lv_ishl hx hb dX7_findSaints_41 ?_
          refine lv_topi (fun x44 ex44 => ?_)
          have ezx44 := ex44
          have bx44 : 1 ≤ x44.toInt ∧ x44.toInt ≤ 128 := by rw [ex44]; exact wk_shl1 7 (by decide) (by omega) (by omega)
          replace hM := hM.lt (o32_e (f := fun x y => x <<< (y &&& 31)) ezx44 (by decide) rfl)
          refine lv_ior hx hb dX7_findSaints_42 ?_
          refine lv_topi (fun x45 ex45 => ?_)
          have ezx45 := ex45
          replace hM := hM.lt (o32_e (f := fun x y => x ||| y) ezx45 rfl rfl)
          refine tk_iast hC hK hw hT kC_at37 (by decide) rfl rfl (show 0 ≤ a1.toInt from r2) (show a1.toInt < 13 from Int.lt_of_le_of_lt t3 (by decide)) (wk_i32 x45).1 (wk_i32 x45).2 dX7_findSaints_43 (fun H locs w46 hw hT k48 c47 => ?_)
          replace hM := hM.wr (sI_up k48 c47)
          have hF := hF.put kC_at37 (inE_of (a := 0) (b := 13) (by decide) (show 0 ≤ a1.toInt.toNat by omega) (show a1.toInt.toNat ≤ 13 by omega)) k48
          have c49 := k48.gi (Or.inl (tk_ne kC_at29 kC_at37 (by decide))) c32
          have c50 := k48.gi (Or.inl (tk_ne kC_at30 kC_at37 (by decide))) c29
          exact J44 x15 H locs ls w46 (show 0 ≤ a1.toInt from r2) (show a1.toInt ≤ 11 from t3) (show 0 ≤ v9_2.toInt from r4) (show v9_2.toInt ≤ 7 by first | with_reducible assumption | omega) (show 1 ≤ x15.toInt by first | with_reducible assumption | omega) (show x15.toInt ≤ 8 from tx15)  hw hT hF c49 hM (lv_sub hl [0, 1, 2] rfl)
  have hM : TT (fun n => m_X7_findSaints n 29 a1.toInt (sI w0)) (fun n => m_X7_findSaints n 29 a1.toInt (sI w0)) := TT.rf
  refine lv_aload_n hx hb dX7_findSaints_0 rfl (lv_at hl 0 rfl) ?_
  refine tk_getO hC hK hw hT hinX7 kC_at29 (by decide) rfl 7 (by decide) (List.mem_cons_of_mem _ uw_3_0) rfl rfl dX7_findSaints_1 ?_
  refine lv_iload_n hx hb dX7_findSaints_4 rfl (lv_at hl 1 rfl) ?_
  refine lv_iconst (v := 0) hx hb dX7_findSaints_5 (by decide) ?_
  refine tk_iast hC hK hw hT kC_at37 (by decide) rfl rfl (show 0 ≤ a1.toInt from ra1) (show a1.toInt < 13 from Int.lt_of_le_of_lt ta1 (by decide)) (by decide) (by decide) dX7_findSaints_6 (fun H locs w51 hw hT k53 c52 => ?_)
  replace hM := hM.wr (sI_upc k53 c52 (by decide))
  have hF := hF.put kC_at37 (inE_of (a := 0) (b := 13) (by decide) (show 0 ≤ a1.toInt.toNat by omega) (show a1.toInt.toNat ≤ 13 by omega)) k53
  refine lv_iconst (v := 0) hx hb dX7_findSaints_7 (by decide) ?_
  refine lv_istore_n (lv' := [(2, .int 0), (0, .ref (ad 29)), (1, .int a1)]) hx hb dX7_findSaints_8 rfl hl (by decide) rfl (fun ls hl => ?_)
  exact L9 ((8 - (0 : Int)).toNat + 1) 0 H locs ls w51 (show 0 ≤ a1.toInt from ra1) (show a1.toInt ≤ 11 from ta1) (by decide) (by decide) (Nat.lt_succ_self _) hw hT hF hM (lv_sub hl [1, 2, 0] rfl)
abbrev Pz_X6_blame_1 (ad : Nat → Nat) (cy : Nat → ClassId) (B : Int) (qr : Nat) (s1 : Int) (a1 : Int32) (a2 : Int32) (w0 : va_W) : va_W → Prop := fun u => TW ksC ad cy B qr s1 u ∧ FE ksC [(6, 4, 4)] w0 u ∧ Ev (fun n => m_X6_blame n 1 a1.toInt a2.toInt (sI w0)) (0, sI u) ∧ (((∃ y : Int32, gi u 1 4 = y ∧ 1 ≤ y.toInt ∧ y.toInt ≤ 3205)))
set_option maxHeartbeats 4000000 in
set_option maxRecDepth 100000 in
theorem kz_X6_blame_1 (l : Launch) (adK adV : Nat → Nat) (dC : Nat → ClassId) (dI : Nat → Nat → Nat) (cy : Nat → ClassId) (ad : Nat → Nat) (B : Int) (hB0 : 2147483648 ≤ B) (hB1 : B ≤ 1152921504606846976) (qr : Nat) (s1 : Int)  (a1 : Int32) (ra1 : 0 ≤ a1.toInt) (ta1 : a1.toInt ≤ 400) (a2 : Int32) (ra2 : 0 ≤ a2.toInt) (ta2 : a2.toInt ≤ 4) (w0 : va_W) (sz : Nat) (hT : TW ksC ad cy B qr s1 w0)  : Met l yX6_blame (wu yX6_blame cX6_blame 3 none) ({ frames := 1, cells := 0, slots := 0, locals := 12 }) (va_Pc [.ref (ad 1), .int a1, .int a2] (wpreS adK adV dC dI cy sz w0)) (va_Qv (Pz_X6_blame_1 ad cy B qr s1 a1 a2 w0) (fun u : va_W => wpost dC dI cy (va_A w0 sz) u) (va_A w0 sz)) 0 0 (va_A w0 sz) := by
  refine Met.ofW (cc := cX6_blame) (maxL := 3) (ret := none) (by decide) rfl ?_
  intro p e s m args below meth c s₁ Bk hml hv
  obtain ⟨rfl, ⟨hsz, hP, hK, hD0⟩, hE, hSR⟩ := hv
  have hx := Bk.exec
  have hb := Bk.bytes
  have hr := Bk.returns
  have hlocks := Bk.notSynchronized
  have hC : CallFix p m c cX6_blame 3 s _ (wu yX6_blame cX6_blame 3 none) RX6 := ⟨hx, hb, hml, findClass_of_methodNamed Bk.named, atoms_spec (ws := (wu yX6_blame cX6_blame 3 none)) Bk.pre⟩
  subst hsz
  have hD := hD0.self (sz := s.heap.size)
  generalize hAe : va_A w0 s.heap.size = A at hD hE ⊢
  have hA : ∀ q : Nat, s.heap.size ≤ q → A q := fun q h => by rw [← hAe]; exact Or.inr h
  have hw : Wd dC dI A s.heap s.heap [] w0 := ⟨hP, hD, va_S.rf⟩
  have hF : FE ksC [(6, 4, 4)] w0 w0 := FE.rf
  have hl := lv_entry ([.ref (ad 1), .int a1, .int a2]) (n := 3) (Nat.le_of_ble_eq_true rfl)
  rw [lg_entry_eq]
  generalize (lg_sl ([.ref (ad 1), .int a1, .int a2]) ++ List.replicate (3 - (lg_sl ([.ref (ad 1), .int a1, .int a2])).length) Slot.unset).toArray = ls at hl ⊢
  have hl : lv_has ls 3 [(0, .ref (ad 1)), (1, .int a1), (2, .int a2)] := hl
  generalize hloc : ([] : List Loc) = locs at hw ⊢
  have hinX6 : ∀ w ∈ u_ws RX6 TX6 5, w ∈ (wu yX6_blame cX6_blame 3 none) := fun _ h => List.mem_cons_of_mem _ (up_72 h)
  have J19 : ∀ (f19_1_4 : Int32) (H : Heap) (locs : List Loc) (ls : Array Slot) (w1 : va_W), 0 ≤ a1.toInt → a1.toInt ≤ 400 → 0 ≤ a2.toInt → a2.toInt ≤ 4 → 1 ≤ f19_1_4.toInt → f19_1_4.toInt ≤ 3205 → Wd dC dI A s.heap H locs w1 → TW ksC ad cy B qr s1 w1 → FE ksC [(6, 4, 4)] w0 w1 → gi w1 1 4 = f19_1_4 → TT (fun n => m_X6_blame n 1 a1.toInt a2.toInt (sI w0)) (fun n => b_X6_blame_19 n 1 (sI w1)) → lv_has ls 3 [(0, .ref (ad 1)), (1, .int a1), (2, .int a2)] → W p l e ({ frames := 1, cells := 0, slots := 0, locals := 12 }) s m (List.toArray [.ref (ad 1), .int a1, .int a2]) below meth c H locs 0 0 (MQ below (va_Qv (Pz_X6_blame_1 ad cy B qr s1 a1 a2 w0) (fun u : va_W => wpost dC dI cy A u) A) (List.toArray [.ref (ad 1), .int a1, .int a2]) s 0 0 A) (F0 m 19 ls []) := by
    intro f19_1_4 H locs ls w1 r2 t3 r4 t5 r6 t7 hw hT hF c8 hM hl
    exact tk_vret hC hr hlocks hK ⟨hT, hF, hM.ret rfl, ⟨f19_1_4, c8, (show 1 ≤ f19_1_4.toInt from r6), (show f19_1_4.toInt ≤ 3205 from t7)⟩⟩ hw dX6_blame_19
  have hM : TT (fun n => m_X6_blame n 1 a1.toInt a2.toInt (sI w0)) (fun n => m_X6_blame n 1 a1.toInt a2.toInt (sI w0)) := TT.rf
  refine lv_aload_n hx hb dX6_blame_0 rfl (lv_at hl 0 rfl) ?_
  refine tk_geti hC hK hw hT hinX6 kC_at1 (by decide) rfl 4 (by decide) (List.mem_cons_of_mem _ uw_9_18) rfl rfl dX6_blame_1 (fun x9 c10 rx9 tx9 => ?_)
  replace hM := hM.rd (sI_at c10)
  refine lv_if_ne (tgt := 19) hx hb dX6_blame_4 (by decide) (fun c11 => ?_) (fun c11 => ?_)
  · have c11 : ¬ x9.toInt = (0 : Int) := wk_eqF c11
    replace hM := hM.pos c11
    exact J19 x9 s.heap locs ls w0 (show 0 ≤ a1.toInt from ra1) (show a1.toInt ≤ 400 from ta1) (show 0 ≤ a2.toInt from ra2) (show a2.toInt ≤ 4 from ta2) (show 1 ≤ x9.toInt by first | with_reducible assumption | omega) (show x9.toInt ≤ 3205 from tx9)  hw hT hF c10 hM (lv_sub hl [0, 1, 2] rfl)
  · have c11 : x9.toInt = (0 : Int) := wk_eq.mp c11
    replace hM := hM.neg (fun q => q c11)
    refine lv_aload_n hx hb dX6_blame_7 rfl (lv_at hl 0 rfl) ?_
    refine lv_iconst (v := 1) hx hb dX6_blame_8 (by decide) ?_
    refine lv_bipush (v := 8) hx hb dX6_blame_9 (by decide) ?_
    refine lv_iload_n hx hb dX6_blame_11 rfl (lv_at hl 1 rfl) ?_
    refine lv_imul hx hb dX6_blame_12 ?_
    refine lv_topi (fun x12 ex12 => ?_)
    have ezx12 := ex12
    have ex12 : x12.toInt = (8 : Int) * a1.toInt := by rw [ex12]; exact wk_mul (show (-2147483648) ≤ (8 : Int) * a1.toInt by omega) (show (8 : Int) * a1.toInt ≤ 2147483647 by omega)
    replace hM := hM.lt ex12.symm
    refine lv_iadd hx hb dX6_blame_13 ?_
    refine lv_topi (fun x13 ex13 => ?_)
    have ezx13 := ex13
    have ex13 : x13.toInt = (1 : Int) + x12.toInt := by rw [ex13]; exact wk_add (show (-2147483648) ≤ (1 : Int) + x12.toInt by omega) (show (1 : Int) + x12.toInt ≤ 2147483647 by omega)
    replace hM := hM.lt ex13.symm
    refine lv_iload_n hx hb dX6_blame_14 rfl (lv_at hl 2 rfl) ?_
    refine lv_iadd hx hb dX6_blame_15 ?_
    refine lv_topi (fun x14 ex14 => ?_)
    have ezx14 := ex14
    have ex14 : x14.toInt = x13.toInt + a2.toInt := by rw [ex14]; exact wk_add (show (-2147483648) ≤ x13.toInt + a2.toInt by omega) (show x13.toInt + a2.toInt ≤ 2147483647 by omega)
    replace hM := hM.lt ex14.symm
    refine tk_puti hC hK hw hT hinX6 tyX6_ok nmX6 kC_at1 (by decide) rfl rfl 4 (by decide) (List.mem_cons_of_mem _ uw_9_18) rfl rfl rfl rfl (show 0 ≤ x14.toInt by first | with_reducible assumption | omega) (show x14.toInt ≤ 3205 by first | with_reducible assumption | omega) dX6_blame_16 (fun H locs w15 hw hT k17 c16 => ?_)
    replace hM := hM.wr (sI_up k17 c16)
    have hF := hF.put kC_at1 (k := 4) (by decide) k17
    exact J19 x14 H locs ls w15 (show 0 ≤ a1.toInt from ra1) (show a1.toInt ≤ 400 from ta1) (show 0 ≤ a2.toInt from ra2) (show a2.toInt ≤ 4 from ta2) (show 1 ≤ x14.toInt by first | with_reducible assumption | omega) (show x14.toInt ≤ 3205 by first | with_reducible assumption | omega)  hw hT hF c16 hM (lv_sub hl [0, 1, 2] rfl)
abbrev Pz_X6_lookBehindBlanks_1 (ad : Nat → Nat) (cy : Nat → ClassId) (B : Int) (qr : Nat) (s1 : Int)  (w0 : va_W) : Int32 → va_W → Prop := fun r u => TW ksC ad cy B qr s1 u ∧ FE ksC [(6, 1, 1), (6, 3, 3)] w0 u ∧ Ev (fun n => m_X6_lookBehindBlanks n 1 (sI w0)) (r.toInt, sI u) ∧ ((0 ≤ r.toInt ∧ r.toInt ≤ 255 ∧ (∃ y : Int32, gi u 1 1 = y ∧ 0 ≤ y.toInt ∧ y.toInt ≤ 399) ∧ (∃ y : Int32, gi u 1 2 = y ∧ 1 ≤ y.toInt ∧ y.toInt ≤ 400) ∧ (∃ y : Int32, gi u 1 3 = y ∧ 0 ≤ y.toInt ∧ y.toInt ≤ 399)) ∨ (r = (-1)))
set_option maxHeartbeats 4000000 in
set_option maxRecDepth 100000 in
theorem kz_X6_lookBehindBlanks_1 (l : Launch) (adK adV : Nat → Nat) (dC : Nat → ClassId) (dI : Nat → Nat → Nat) (cy : Nat → ClassId) (ad : Nat → Nat) (B : Int) (hB0 : 2147483648 ≤ B) (hB1 : B ≤ 1152921504606846976) (qr : Nat) (s1 : Int)   (w0 : va_W) (sz : Nat) (hT : TW ksC ad cy B qr s1 w0)  : Met l yX6_lookBehindBlanks (wu yX6_lookBehindBlanks cX6_lookBehindBlanks 1 (some .int)) ({ frames := 1, cells := 0, slots := 0, locals := 12 }) (va_Pc [.ref (ad 1)] (wpreS adK adV dC dI cy sz w0)) (va_Qi (Pz_X6_lookBehindBlanks_1 ad cy B qr s1  w0) (fun u : va_W => wpost dC dI cy (va_A w0 sz) u) (va_A w0 sz)) 0 0 (va_A w0 sz) := by
  refine Met.ofW (cc := cX6_lookBehindBlanks) (maxL := 1) (ret := (some .int)) (by decide) rfl ?_
  intro p e s m args below meth c s₁ Bk hml hv
  obtain ⟨rfl, ⟨hsz, hP, hK, hD0⟩, hE, hSR⟩ := hv
  have hx := Bk.exec
  have hb := Bk.bytes
  have hr := Bk.returns
  have hlocks := Bk.notSynchronized
  have hC : CallFix p m c cX6_lookBehindBlanks 1 s _ (wu yX6_lookBehindBlanks cX6_lookBehindBlanks 1 (some .int)) RX6 := ⟨hx, hb, hml, findClass_of_methodNamed Bk.named, atoms_spec (ws := (wu yX6_lookBehindBlanks cX6_lookBehindBlanks 1 (some .int))) Bk.pre⟩
  subst hsz
  have hD := hD0.self (sz := s.heap.size)
  generalize hAe : va_A w0 s.heap.size = A at hD hE ⊢
  have hA : ∀ q : Nat, s.heap.size ≤ q → A q := fun q h => by rw [← hAe]; exact Or.inr h
  have hw : Wd dC dI A s.heap s.heap [] w0 := ⟨hP, hD, va_S.rf⟩
  have hF : FE ksC [(6, 1, 1), (6, 3, 3)] w0 w0 := FE.rf
  have hl := lv_entry ([.ref (ad 1)]) (n := 1) (Nat.le_of_ble_eq_true rfl)
  rw [lg_entry_eq]
  generalize (lg_sl ([.ref (ad 1)]) ++ List.replicate (1 - (lg_sl ([.ref (ad 1)])).length) Slot.unset).toArray = ls at hl ⊢
  have hl : lv_has ls 1 [(0, .ref (ad 1))] := hl
  generalize hloc : ([] : List Loc) = locs at hw ⊢
  have hinX6 : ∀ w ∈ u_ws RX6 TX6 5, w ∈ (wu yX6_lookBehindBlanks cX6_lookBehindBlanks 1 (some .int)) := fun _ h => List.mem_cons_of_mem _ (up_72 h)
  have J38 : ∀ (f38_1_1 : Int32) (f38_1_2 : Int32) (H : Heap) (locs : List Loc) (ls : Array Slot) (w1 : va_W), 0 ≤ f38_1_1.toInt → f38_1_1.toInt ≤ 400 → 0 ≤ f38_1_2.toInt → f38_1_2.toInt ≤ 400 → Wd dC dI A s.heap H locs w1 → TW ksC ad cy B qr s1 w1 → FE ksC [(6, 1, 1), (6, 3, 3)] w0 w1 → gi w1 1 1 = f38_1_1 → gi w1 1 2 = f38_1_2 → TT (fun n => m_X6_lookBehindBlanks n 1 (sI w0)) (fun n => b_X6_lookBehindBlanks_38 (j_X6_lookBehindBlanks 1 n) n 1 (sI w1)) → lv_has ls 1 [(0, .ref (ad 1))] → W p l e ({ frames := 1, cells := 0, slots := 0, locals := 12 }) s m (List.toArray [.ref (ad 1)]) below meth c H locs 0 0 (MQ below (va_Qi (Pz_X6_lookBehindBlanks_1 ad cy B qr s1  w0) (fun u : va_W => wpost dC dI cy A u) A) (List.toArray [.ref (ad 1)]) s 0 0 A) (F0 m 38 ls []) := by
    intro f38_1_1 f38_1_2 H locs ls w1 r2 t3 r5 t6 hw hT hF c4 c7 hM hl
    refine lv_aload_n hx hb dX6_lookBehindBlanks_38 rfl (lv_at hl 0 rfl) ?_
    refine lv_aload_n hx hb dX6_lookBehindBlanks_39 rfl (lv_at hl 0 rfl) ?_
    refine tk_geti hC hK hw hT hinX6 kC_at1 (by decide) rfl 1 (by decide) (List.mem_cons_of_mem _ uw_9_16) rfl rfl dX6_lookBehindBlanks_40 (fun x8 c9 rx8 tx8 => ?_)
    refine wk_top f38_1_1 (c9.symm.trans c4) ?_
    replace hM := hM.rd (sI_at c4)
    refine tk_puti hC hK hw hT hinX6 tyX6_ok nmX6 kC_at1 (by decide) rfl rfl 3 (by decide) (List.mem_cons_of_mem _ uw_9_17) rfl rfl rfl rfl (show 0 ≤ f38_1_1.toInt from r2) (show f38_1_1.toInt ≤ 400 from t3) dX6_lookBehindBlanks_43 (fun H locs w10 hw hT k12 c11 => ?_)
    replace hM := hM.wr (sI_up k12 c11)
    have hF := hF.put kC_at1 (k := 3) (by decide) k12
    have c13 := k12.gi (Or.inr (by decide)) c4
    have c14 := k12.gi (Or.inr (by decide)) c7
    refine lv_aload_n hx hb dX6_lookBehindBlanks_46 rfl (lv_at hl 0 rfl) ?_
    refine tk_geti hC hK hw hT hinX6 kC_at1 (by decide) rfl 1 (by decide) (List.mem_cons_of_mem _ uw_9_16) rfl rfl dX6_lookBehindBlanks_47 (fun x15 c16 rx15 tx15 => ?_)
    refine wk_top f38_1_1 (c16.symm.trans c13) ?_
    replace hM := hM.rd (sI_at c13)
    refine lv_aload_n hx hb dX6_lookBehindBlanks_50 rfl (lv_at hl 0 rfl) ?_
    refine tk_geti hC hK hw hT hinX6 kC_at1 (by decide) rfl 2 (by decide) (List.mem_cons_of_mem _ uw_7_22) rfl rfl dX6_lookBehindBlanks_51 (fun x17 c18 rx17 tx17 => ?_)
    refine wk_top f38_1_2 (c18.symm.trans c14) ?_
    replace hM := hM.rd (sI_at c14)
    refine lv_icmp_ge (tgt := 69) hx hb dX6_lookBehindBlanks_54 (by decide) (fun c19 => ?_) (fun c19 => ?_)
    · have c19 : f38_1_2.toInt ≤ f38_1_1.toInt := wk_le.mp c19
      replace hM := hM.pos c19
      refine lv_iconst (v := (-1)) hx hb dX6_lookBehindBlanks_69 (by decide) ?_
      exact tk_iret hC hr hlocks hK ⟨hT, hF, hM.ret (by decide), (Or.inr rfl)⟩ hw dX6_lookBehindBlanks_70
    · have c19 : f38_1_1.toInt < f38_1_2.toInt := wk_leF c19
      replace hM := hM.neg (Int.not_le.mpr c19)
      refine lv_aload_n hx hb dX6_lookBehindBlanks_57 rfl (lv_at hl 0 rfl) ?_
      refine tk_getA hC hK hw hT hinX6 kC_at1 (by decide) rfl 0 (by decide) (List.mem_cons_of_mem _ uw_2_12) rfl rfl dX6_lookBehindBlanks_58 ?_
      refine lv_aload_n hx hb dX6_lookBehindBlanks_61 rfl (lv_at hl 0 rfl) ?_
      refine tk_geti hC hK hw hT hinX6 kC_at1 (by decide) rfl 1 (by decide) (List.mem_cons_of_mem _ uw_9_16) rfl rfl dX6_lookBehindBlanks_62 (fun x20 c21 rx20 tx20 => ?_)
      refine wk_top f38_1_1 (c21.symm.trans c13) ?_
      replace hM := hM.rd (sI_at c13)
      refine tk_iald hC hK hw hT kC_at2 rfl rfl (show 0 ≤ f38_1_1.toInt from r2) (show f38_1_1.toInt < 400 by first | with_reducible assumption | omega) dX6_lookBehindBlanks_65 (fun x22 c23 rx22 tx22 => ?_)
      have hox22 := c23
      replace hM := hM.rd (sI_at hox22)
      refine lv_goto (tgt := 70) hx hb dX6_lookBehindBlanks_66 (by decide) ?_
      exact tk_iret hC hr hlocks hK ⟨hT, hF, hM.ret rfl, (Or.inl ⟨(show 0 ≤ x22.toInt from rx22), (show x22.toInt ≤ 255 from tx22), ⟨f38_1_1, c13, (show 0 ≤ f38_1_1.toInt from r2), (show f38_1_1.toInt ≤ 399 by first | with_reducible assumption | omega)⟩, ⟨f38_1_2, c14, (show 1 ≤ f38_1_2.toInt by first | with_reducible assumption | omega), (show f38_1_2.toInt ≤ 400 from t6)⟩, ⟨f38_1_1, c11, (show 0 ≤ f38_1_1.toInt from r2), (show f38_1_1.toInt ≤ 399 by first | with_reducible assumption | omega)⟩⟩)⟩ hw dX6_lookBehindBlanks_70
  have L0 : ∀ (n0 : Nat) (f0_1_1 : Int32) (f0_1_2 : Int32) (H : Heap) (locs : List Loc) (ls : Array Slot) (w24 : va_W), 1 ≤ f0_1_1.toInt → f0_1_1.toInt ≤ 400 → 1 ≤ f0_1_2.toInt → f0_1_2.toInt ≤ 400 → (400 - f0_1_1.toInt).toNat < n0 → Wd dC dI A s.heap H locs w24 → TW ksC ad cy B qr s1 w24 → FE ksC [(6, 1, 1), (6, 3, 3)] w0 w24 → gi w24 1 1 = f0_1_1 → gi w24 1 2 = f0_1_2 → TT (fun n => m_X6_lookBehindBlanks n 1 (sI w0)) (fun n => j_X6_lookBehindBlanks 1 n 0 [] (sI w24)) → lv_has ls 1 [(0, .ref (ad 1))] → W p l e ({ frames := 1, cells := 0, slots := 0, locals := 12 }) s m (List.toArray [.ref (ad 1)]) below meth c H locs 0 0 (MQ below (va_Qi (Pz_X6_lookBehindBlanks_1 ad cy B qr s1  w0) (fun u : va_W => wpost dC dI cy A u) A) (List.toArray [.ref (ad 1)]) s 0 0 A) (F0 m 0 ls []) := by
    intro n0
    induction n0 with
    | zero => intro f0_1_1 f0_1_2 H locs ls w24 r25 t26 r28 t29 hm0 hw hT hF c27 c30 hM hl; omega
    | succ n0 ih0 =>
      intro f0_1_1 f0_1_2 H locs ls w24 r25 t26 r28 t29 hm0 hw hT hF c27 c30 hM hl
      replace hM := hM.suc (fun _ => e_X6_lookBehindBlanks_0)
      refine lv_aload_n hx hb dX6_lookBehindBlanks_0 rfl (lv_at hl 0 rfl) ?_
      refine tk_geti hC hK hw hT hinX6 kC_at1 (by decide) rfl 1 (by decide) (List.mem_cons_of_mem _ uw_9_16) rfl rfl dX6_lookBehindBlanks_1 (fun x31 c32 rx31 tx31 => ?_)
      refine wk_top f0_1_1 (c32.symm.trans c27) ?_
      replace hM := hM.rd (sI_at c27)
      refine lv_aload_n hx hb dX6_lookBehindBlanks_4 rfl (lv_at hl 0 rfl) ?_
      refine tk_geti hC hK hw hT hinX6 kC_at1 (by decide) rfl 2 (by decide) (List.mem_cons_of_mem _ uw_7_22) rfl rfl dX6_lookBehindBlanks_5 (fun x33 c34 rx33 tx33 => ?_)
      refine wk_top f0_1_2 (c34.symm.trans c30) ?_
      replace hM := hM.rd (sI_at c30)
      refine lv_icmp_ge (tgt := 38) hx hb dX6_lookBehindBlanks_8 (by decide) (fun c35 => ?_) (fun c35 => ?_)
      · have c35 : f0_1_2.toInt ≤ f0_1_1.toInt := wk_le.mp c35
        replace hM := hM.pos c35
        exact J38 f0_1_1 f0_1_2 H locs ls w24 (show 0 ≤ f0_1_1.toInt from Int.le_trans (by decide) r25) (show f0_1_1.toInt ≤ 400 from t26) (show 0 ≤ f0_1_2.toInt from Int.le_trans (by decide) r28) (show f0_1_2.toInt ≤ 400 from t29)  hw hT hF c27 c30 hM (lv_sub hl [0] rfl)
      · have c35 : f0_1_1.toInt < f0_1_2.toInt := wk_leF c35
        replace hM := hM.neg (Int.not_le.mpr c35)
        refine lv_aload_n hx hb dX6_lookBehindBlanks_11 rfl (lv_at hl 0 rfl) ?_
        refine tk_getA hC hK hw hT hinX6 kC_at1 (by decide) rfl 0 (by decide) (List.mem_cons_of_mem _ uw_2_12) rfl rfl dX6_lookBehindBlanks_12 ?_
        refine lv_aload_n hx hb dX6_lookBehindBlanks_15 rfl (lv_at hl 0 rfl) ?_
        refine tk_geti hC hK hw hT hinX6 kC_at1 (by decide) rfl 1 (by decide) (List.mem_cons_of_mem _ uw_9_16) rfl rfl dX6_lookBehindBlanks_16 (fun x36 c37 rx36 tx36 => ?_)
        refine wk_top f0_1_1 (c37.symm.trans c27) ?_
        replace hM := hM.rd (sI_at c27)
        refine tk_iald hC hK hw hT kC_at2 rfl rfl (show 0 ≤ f0_1_1.toInt from Int.le_trans (by decide) r25) (show f0_1_1.toInt < 400 by first | with_reducible assumption | omega) dX6_lookBehindBlanks_19 (fun x38 c39 rx38 tx38 => ?_)
        have hox38 := c39
        replace hM := hM.rd (sI_at hox38)
        refine lv_bipush (v := 32) hx hb dX6_lookBehindBlanks_20 (by decide) ?_
        refine lv_icmp_ne (tgt := 38) hx hb dX6_lookBehindBlanks_22 (by decide) (fun c40 => ?_) (fun c40 => ?_)
        · have c40 : ¬ x38.toInt = (32 : Int) := wk_eqF c40
          replace hM := hM.pos c40
          exact J38 f0_1_1 f0_1_2 H locs ls w24 (show 0 ≤ f0_1_1.toInt from Int.le_trans (by decide) r25) (show f0_1_1.toInt ≤ 400 from t26) (show 0 ≤ f0_1_2.toInt from Int.le_trans (by decide) r28) (show f0_1_2.toInt ≤ 400 from t29)  hw hT hF c27 c30 hM (lv_sub hl [0] rfl)
        · have c40 : x38.toInt = (32 : Int) := wk_eq.mp c40
          replace hM := hM.neg (fun q => q c40)
          refine lv_aload_n hx hb dX6_lookBehindBlanks_25 rfl (lv_at hl 0 rfl) ?_
          refine lv_dup hx hb dX6_lookBehindBlanks_26 rfl ?_
          refine tk_geti hC hK hw hT hinX6 kC_at1 (by decide) rfl 1 (by decide) (List.mem_cons_of_mem _ uw_9_16) rfl rfl dX6_lookBehindBlanks_27 (fun x41 c42 rx41 tx41 => ?_)
          refine wk_top f0_1_1 (c42.symm.trans c27) ?_
          replace hM := hM.rd (sI_at c27)
          refine lv_iconst (v := 1) hx hb dX6_lookBehindBlanks_30 (by decide) ?_
          refine lv_iadd hx hb dX6_lookBehindBlanks_31 ?_
          refine lv_topi (fun x43 ex43 => ?_)
          have ezx43 := ex43
          have ex43 : x43.toInt = f0_1_1.toInt + (1 : Int) := by rw [ex43]; exact wk_add (show (-2147483648) ≤ f0_1_1.toInt + (1 : Int) by omega) (show f0_1_1.toInt + (1 : Int) ≤ 2147483647 by omega)
          replace hM := hM.lt ex43.symm
          refine tk_puti hC hK hw hT hinX6 tyX6_ok nmX6 kC_at1 (by decide) rfl rfl 1 (by decide) (List.mem_cons_of_mem _ uw_9_16) rfl rfl rfl rfl (show 0 ≤ x43.toInt by first | with_reducible assumption | omega) (show x43.toInt ≤ 400 by first | with_reducible assumption | omega) dX6_lookBehindBlanks_32 (fun H locs w44 hw hT k46 c45 => ?_)
          replace hM := hM.wr (sI_up k46 c45)
          have hF := hF.put kC_at1 (k := 1) (by decide) k46
          have c47 := k46.gi (Or.inr (by decide)) c30
          refine lv_goto (tgt := 0) hx hb dX6_lookBehindBlanks_35 (by decide) ?_
          exact ih0 x43 f0_1_2 H locs ls w44 (show 1 ≤ x43.toInt by first | with_reducible assumption | omega) (show x43.toInt ≤ 400 by first | with_reducible assumption | omega) (show 1 ≤ f0_1_2.toInt from r28) (show f0_1_2.toInt ≤ 400 from t29) (show (400 - x43.toInt).toNat < n0 by first | exact tn_lt hm0 (by omega) (by omega) | omega) hw hT hF c45 c47 hM (lv_sub hl [0] rfl)
  have hM : TT (fun n => m_X6_lookBehindBlanks n 1 (sI w0)) (fun n => j_X6_lookBehindBlanks 1 n 0 [] (sI w0)) := TT.rf
  replace hM := hM.suc (fun _ => e_X6_lookBehindBlanks_0)
  refine lv_aload_n hx hb dX6_lookBehindBlanks_0 rfl (lv_at hl 0 rfl) ?_
  refine tk_geti hC hK hw hT hinX6 kC_at1 (by decide) rfl 1 (by decide) (List.mem_cons_of_mem _ uw_9_16) rfl rfl dX6_lookBehindBlanks_1 (fun x48 c49 rx48 tx48 => ?_)
  replace hM := hM.rd (sI_at c49)
  refine lv_aload_n hx hb dX6_lookBehindBlanks_4 rfl (lv_at hl 0 rfl) ?_
  refine tk_geti hC hK hw hT hinX6 kC_at1 (by decide) rfl 2 (by decide) (List.mem_cons_of_mem _ uw_7_22) rfl rfl dX6_lookBehindBlanks_5 (fun x50 c51 rx50 tx50 => ?_)
  replace hM := hM.rd (sI_at c51)
  refine lv_icmp_ge (tgt := 38) hx hb dX6_lookBehindBlanks_8 (by decide) (fun c52 => ?_) (fun c52 => ?_)
  · have c52 : x50.toInt ≤ x48.toInt := wk_le.mp c52
    replace hM := hM.pos c52
    exact J38 x48 x50 s.heap locs ls w0 (show 0 ≤ x48.toInt from rx48) (show x48.toInt ≤ 400 from tx48) (show 0 ≤ x50.toInt from rx50) (show x50.toInt ≤ 400 from tx50)  hw hT hF c49 c51 hM (lv_sub hl [0] rfl)
  · have c52 : x48.toInt < x50.toInt := wk_leF c52
    replace hM := hM.neg (Int.not_le.mpr c52)
    refine lv_aload_n hx hb dX6_lookBehindBlanks_11 rfl (lv_at hl 0 rfl) ?_
    refine tk_getA hC hK hw hT hinX6 kC_at1 (by decide) rfl 0 (by decide) (List.mem_cons_of_mem _ uw_2_12) rfl rfl dX6_lookBehindBlanks_12 ?_
    refine lv_aload_n hx hb dX6_lookBehindBlanks_15 rfl (lv_at hl 0 rfl) ?_
    refine tk_geti hC hK hw hT hinX6 kC_at1 (by decide) rfl 1 (by decide) (List.mem_cons_of_mem _ uw_9_16) rfl rfl dX6_lookBehindBlanks_16 (fun x53 c54 rx53 tx53 => ?_)
    refine wk_top x48 (c54.symm.trans c49) ?_
    replace hM := hM.rd (sI_at c49)
    refine tk_iald hC hK hw hT kC_at2 rfl rfl (show 0 ≤ x48.toInt from rx48) (show x48.toInt < 400 by first | with_reducible assumption | omega) dX6_lookBehindBlanks_19 (fun x55 c56 rx55 tx55 => ?_)
    have hox55 := c56
    replace hM := hM.rd (sI_at hox55)
    refine lv_bipush (v := 32) hx hb dX6_lookBehindBlanks_20 (by decide) ?_
    refine lv_icmp_ne (tgt := 38) hx hb dX6_lookBehindBlanks_22 (by decide) (fun c57 => ?_) (fun c57 => ?_)
    · have c57 : ¬ x55.toInt = (32 : Int) := wk_eqF c57
      replace hM := hM.pos c57
      exact J38 x48 x50 s.heap locs ls w0 (show 0 ≤ x48.toInt from rx48) (show x48.toInt ≤ 400 from tx48) (show 0 ≤ x50.toInt from rx50) (show x50.toInt ≤ 400 from tx50)  hw hT hF c49 c51 hM (lv_sub hl [0] rfl)
    · have c57 : x55.toInt = (32 : Int) := wk_eq.mp c57
      replace hM := hM.neg (fun q => q c57)
      refine lv_aload_n hx hb dX6_lookBehindBlanks_25 rfl (lv_at hl 0 rfl) ?_
      refine lv_dup hx hb dX6_lookBehindBlanks_26 rfl ?_
      refine tk_geti hC hK hw hT hinX6 kC_at1 (by decide) rfl 1 (by decide) (List.mem_cons_of_mem _ uw_9_16) rfl rfl dX6_lookBehindBlanks_27 (fun x58 c59 rx58 tx58 => ?_)
      refine wk_top x48 (c59.symm.trans c49) ?_
      replace hM := hM.rd (sI_at c49)
      refine lv_iconst (v := 1) hx hb dX6_lookBehindBlanks_30 (by decide) ?_
      refine lv_iadd hx hb dX6_lookBehindBlanks_31 ?_
      refine lv_topi (fun x60 ex60 => ?_)
      have ezx60 := ex60
      have ex60 : x60.toInt = x48.toInt + (1 : Int) := by rw [ex60]; exact wk_add (show (-2147483648) ≤ x48.toInt + (1 : Int) by omega) (show x48.toInt + (1 : Int) ≤ 2147483647 by omega)
      replace hM := hM.lt ex60.symm
      refine tk_puti hC hK hw hT hinX6 tyX6_ok nmX6 kC_at1 (by decide) rfl rfl 1 (by decide) (List.mem_cons_of_mem _ uw_9_16) rfl rfl rfl rfl (show 0 ≤ x60.toInt by first | with_reducible assumption | omega) (show x60.toInt ≤ 400 by first | with_reducible assumption | omega) dX6_lookBehindBlanks_32 (fun H locs w61 hw hT k63 c62 => ?_)
      replace hM := hM.wr (sI_up k63 c62)
      have hF := hF.put kC_at1 (k := 1) (by decide) k63
      have c64 := k63.gi (Or.inr (by decide)) c51
      refine lv_goto (tgt := 0) hx hb dX6_lookBehindBlanks_35 (by decide) ?_
      exact L0 ((400 - x60.toInt).toNat + 1) x60 x50 H locs ls w61 (show 1 ≤ x60.toInt by first | with_reducible assumption | omega) (show x60.toInt ≤ 400 by first | with_reducible assumption | omega) (show 1 ≤ x50.toInt by first | with_reducible assumption | omega) (show x50.toInt ≤ 400 from tx50) (Nat.lt_succ_self _) hw hT hF c62 c64 hM (lv_sub hl [0] rfl)
abbrev Pz_X6_endOfWord_1 (ad : Nat → Nat) (cy : Nat → ClassId) (B : Int) (qr : Nat) (s1 : Int)  (w0 : va_W) : Int32 → va_W → Prop := fun r u => TW ksC ad cy B qr s1 u ∧ FE ksC ([] : List (Nat × Nat × Nat)) w0 u ∧ Ev (fun n => m_X6_endOfWord n 1 (sI w0)) (r.toInt, sI u) ∧ ((0 ≤ r.toInt ∧ r.toInt ≤ 400))
set_option maxHeartbeats 4000000 in
set_option maxRecDepth 100000 in
theorem kz_X6_endOfWord_1 (l : Launch) (adK adV : Nat → Nat) (dC : Nat → ClassId) (dI : Nat → Nat → Nat) (cy : Nat → ClassId) (ad : Nat → Nat) (B : Int) (hB0 : 2147483648 ≤ B) (hB1 : B ≤ 1152921504606846976) (qr : Nat) (s1 : Int)   (w0 : va_W) (sz : Nat) (hT : TW ksC ad cy B qr s1 w0)  : Met l yX6_endOfWord (wu yX6_endOfWord cX6_endOfWord 2 (some .int)) ({ frames := 1, cells := 0, slots := 0, locals := 12 }) (va_Pc [.ref (ad 1)] (wpreS adK adV dC dI cy sz w0)) (va_Qi (Pz_X6_endOfWord_1 ad cy B qr s1  w0) (fun u : va_W => wpost dC dI cy (va_A w0 sz) u) (va_A w0 sz)) 0 0 (va_A w0 sz) := by
  refine Met.ofW (cc := cX6_endOfWord) (maxL := 2) (ret := (some .int)) (by decide) rfl ?_
  intro p e s m args below meth c s₁ Bk hml hv
  obtain ⟨rfl, ⟨hsz, hP, hK, hD0⟩, hE, hSR⟩ := hv
  have hx := Bk.exec
  have hb := Bk.bytes
  have hr := Bk.returns
  have hlocks := Bk.notSynchronized
  have hC : CallFix p m c cX6_endOfWord 2 s _ (wu yX6_endOfWord cX6_endOfWord 2 (some .int)) RX6 := ⟨hx, hb, hml, findClass_of_methodNamed Bk.named, atoms_spec (ws := (wu yX6_endOfWord cX6_endOfWord 2 (some .int))) Bk.pre⟩
  subst hsz
  have hD := hD0.self (sz := s.heap.size)
  generalize hAe : va_A w0 s.heap.size = A at hD hE ⊢
  have hA : ∀ q : Nat, s.heap.size ≤ q → A q := fun q h => by rw [← hAe]; exact Or.inr h
  have hw : Wd dC dI A s.heap s.heap [] w0 := ⟨hP, hD, va_S.rf⟩
  have hF : FE ksC ([] : List (Nat × Nat × Nat)) w0 w0 := FE.rf
  have hl := lv_entry ([.ref (ad 1)]) (n := 2) (Nat.le_of_ble_eq_true rfl)
  rw [lg_entry_eq]
  generalize (lg_sl ([.ref (ad 1)]) ++ List.replicate (2 - (lg_sl ([.ref (ad 1)])).length) Slot.unset).toArray = ls at hl ⊢
  have hl : lv_has ls 2 [(0, .ref (ad 1))] := hl
  generalize hloc : ([] : List Loc) = locs at hw ⊢
  have hinX6 : ∀ w ∈ u_ws RX6 TX6 5, w ∈ (wu yX6_endOfWord cX6_endOfWord 2 (some .int)) := fun _ h => List.mem_cons_of_mem _ (up_72 h)
  have J41 : ∀ (v41_1 : Int32) (f41_1_1 : Int32) (f41_1_2 : Int32) (H : Heap) (locs : List Loc) (ls : Array Slot) (w1 : va_W), 0 ≤ v41_1.toInt → v41_1.toInt ≤ 400 → 0 ≤ f41_1_1.toInt → f41_1_1.toInt ≤ 400 → 0 ≤ f41_1_2.toInt → f41_1_2.toInt ≤ 400 → Wd dC dI A s.heap H locs w1 → TW ksC ad cy B qr s1 w1 → FE ksC ([] : List (Nat × Nat × Nat)) w0 w1 → gi w1 1 1 = f41_1_1 → gi w1 1 2 = f41_1_2 → TT (fun n => m_X6_endOfWord n 1 (sI w0)) (fun n => b_X6_endOfWord_41 (j_X6_endOfWord 1 n) n 1 (v41_1.toInt) (sI w1)) → lv_has ls 2 [(0, .ref (ad 1)), (1, .int v41_1)] → W p l e ({ frames := 1, cells := 0, slots := 0, locals := 12 }) s m (List.toArray [.ref (ad 1)]) below meth c H locs 0 0 (MQ below (va_Qi (Pz_X6_endOfWord_1 ad cy B qr s1  w0) (fun u : va_W => wpost dC dI cy A u) A) (List.toArray [.ref (ad 1)]) s 0 0 A) (F0 m 41 ls []) := by
    intro v41_1 f41_1_1 f41_1_2 H locs ls w1 r2 t3 r4 t5 r7 t8 hw hT hF c6 c9 hM hl
    refine lv_iload_n hx hb dX6_endOfWord_41 rfl (lv_at hl 1 rfl) ?_
    exact tk_iret hC hr hlocks hK ⟨hT, hF, hM.ret rfl, ⟨(show 0 ≤ v41_1.toInt from r2), (show v41_1.toInt ≤ 400 from t3)⟩⟩ hw dX6_endOfWord_42
  have L5 : ∀ (n5 : Nat) (v5_1 : Int32) (f5_1_1 : Int32) (H : Heap) (locs : List Loc) (ls : Array Slot) (w10 : va_W), 0 ≤ v5_1.toInt → v5_1.toInt ≤ 400 → 0 ≤ f5_1_1.toInt → f5_1_1.toInt ≤ 400 → (400 - v5_1.toInt).toNat < n5 → Wd dC dI A s.heap H locs w10 → TW ksC ad cy B qr s1 w10 → FE ksC ([] : List (Nat × Nat × Nat)) w0 w10 → gi w10 1 1 = f5_1_1 → TT (fun n => m_X6_endOfWord n 1 (sI w0)) (fun n => j_X6_endOfWord 1 n 5 [v5_1.toInt] (sI w10)) → lv_has ls 2 [(0, .ref (ad 1)), (1, .int v5_1)] → W p l e ({ frames := 1, cells := 0, slots := 0, locals := 12 }) s m (List.toArray [.ref (ad 1)]) below meth c H locs 0 0 (MQ below (va_Qi (Pz_X6_endOfWord_1 ad cy B qr s1  w0) (fun u : va_W => wpost dC dI cy A u) A) (List.toArray [.ref (ad 1)]) s 0 0 A) (F0 m 5 ls []) := by
    intro n5
    induction n5 with
    | zero => intro v5_1 f5_1_1 H locs ls w10 r11 t12 r13 t14 hm5 hw hT hF c15 hM hl; omega
    | succ n5 ih5 =>
      intro v5_1 f5_1_1 H locs ls w10 r11 t12 r13 t14 hm5 hw hT hF c15 hM hl
      replace hM := hM.suc (fun _ => e_X6_endOfWord_5)
      refine lv_iload_n hx hb dX6_endOfWord_5 rfl (lv_at hl 1 rfl) ?_
      refine lv_aload_n hx hb dX6_endOfWord_6 rfl (lv_at hl 0 rfl) ?_
      refine tk_geti hC hK hw hT hinX6 kC_at1 (by decide) rfl 2 (by decide) (List.mem_cons_of_mem _ uw_7_22) rfl rfl dX6_endOfWord_7 (fun x16 c17 rx16 tx16 => ?_)
      replace hM := hM.rd (sI_at c17)
      refine lv_icmp_ge (tgt := 41) hx hb dX6_endOfWord_10 (by decide) (fun c18 => ?_) (fun c18 => ?_)
      · have c18 : x16.toInt ≤ v5_1.toInt := wk_le.mp c18
        replace hM := hM.pos c18
        exact J41 v5_1 f5_1_1 x16 H locs ls w10 (show 0 ≤ v5_1.toInt from r11) (show v5_1.toInt ≤ 400 from t12) (show 0 ≤ f5_1_1.toInt from r13) (show f5_1_1.toInt ≤ 400 from t14) (show 0 ≤ x16.toInt from rx16) (show x16.toInt ≤ 400 from tx16)  hw hT hF c15 c17 hM (lv_sub hl [0, 1] rfl)
      · have c18 : v5_1.toInt < x16.toInt := wk_leF c18
        replace hM := hM.neg (Int.not_le.mpr c18)
        refine lv_aload_n hx hb dX6_endOfWord_13 rfl (lv_at hl 0 rfl) ?_
        refine tk_getA hC hK hw hT hinX6 kC_at1 (by decide) rfl 0 (by decide) (List.mem_cons_of_mem _ uw_2_12) rfl rfl dX6_endOfWord_14 ?_
        refine lv_iload_n hx hb dX6_endOfWord_17 rfl (lv_at hl 1 rfl) ?_
        refine tk_iald hC hK hw hT kC_at2 rfl rfl (show 0 ≤ v5_1.toInt from r11) (show v5_1.toInt < 400 by first | with_reducible assumption | omega) dX6_endOfWord_18 (fun x19 c20 rx19 tx19 => ?_)
        have hox19 := c20
        replace hM := hM.rd (sI_at hox19)
        refine lv_bipush (v := 97) hx hb dX6_endOfWord_19 (by decide) ?_
        refine lv_icmp_lt (tgt := 41) hx hb dX6_endOfWord_21 (by decide) (fun c21 => ?_) (fun c21 => ?_)
        · have c21 : x19.toInt < (97 : Int) := wk_lt.mp c21
          replace hM := hM.pos c21
          exact J41 v5_1 f5_1_1 x16 H locs ls w10 (show 0 ≤ v5_1.toInt from r11) (show v5_1.toInt ≤ 400 from t12) (show 0 ≤ f5_1_1.toInt from r13) (show f5_1_1.toInt ≤ 400 from t14) (show 0 ≤ x16.toInt from rx16) (show x16.toInt ≤ 400 from tx16)  hw hT hF c15 c17 hM (lv_sub hl [0, 1] rfl)
        · have c21 : (97 : Int) ≤ x19.toInt := wk_ltF c21
          replace hM := hM.neg (Int.not_lt.mpr c21)
          refine lv_aload_n hx hb dX6_endOfWord_24 rfl (lv_at hl 0 rfl) ?_
          refine tk_getA hC hK hw hT hinX6 kC_at1 (by decide) rfl 0 (by decide) (List.mem_cons_of_mem _ uw_2_12) rfl rfl dX6_endOfWord_25 ?_
          refine lv_iload_n hx hb dX6_endOfWord_28 rfl (lv_at hl 1 rfl) ?_
          refine tk_iald hC hK hw hT kC_at2 rfl rfl (show 0 ≤ v5_1.toInt from r11) (show v5_1.toInt < 400 by first | with_reducible assumption | omega) dX6_endOfWord_29 (fun x22 c23 rx22 tx22 => ?_)
          have hox22 := c23
          replace hM := hM.rd (sI_at hox22)
          refine lv_bipush (v := 122) hx hb dX6_endOfWord_30 (by decide) ?_
          refine lv_icmp_gt (tgt := 41) hx hb dX6_endOfWord_32 (by decide) (fun c24 => ?_) (fun c24 => ?_)
          · have c24 : (122 : Int) < x22.toInt := wk_lt.mp c24
            replace hM := hM.pos c24
            exact J41 v5_1 f5_1_1 x16 H locs ls w10 (show 0 ≤ v5_1.toInt from r11) (show v5_1.toInt ≤ 400 from t12) (show 0 ≤ f5_1_1.toInt from r13) (show f5_1_1.toInt ≤ 400 from t14) (show 0 ≤ x16.toInt from rx16) (show x16.toInt ≤ 400 from tx16)  hw hT hF c15 c17 hM (lv_sub hl [0, 1] rfl)
          · have c24 : x22.toInt ≤ (122 : Int) := wk_ltF c24
            replace hM := hM.neg (Int.not_lt.mpr c24)
            obtain ⟨x25, ex25⟩ : ∃ y : Int32, y = v5_1 + Int32.ofInt 1 := ⟨_, rfl⟩
            have erx25 := ex25
            refine lv_iinc (v := x25) (lv' := [(1, .int x25), (0, .ref (ad 1))]) hx hb dX6_endOfWord_35 hl (k := 1) rfl ex25.symm (by decide) rfl (fun ls hl => ?_)
            have ex25 : x25.toInt = v5_1.toInt + 1 := by rw [ex25]; exact wk_add (y := 1) (show -2147483648 ≤ v5_1.toInt + 1 by omega) (show v5_1.toInt + 1 ≤ 2147483647 by omega)
            replace hM := hM.lt ex25.symm
            refine lv_goto (tgt := 5) hx hb dX6_endOfWord_38 (by decide) ?_
            exact ih5 x25 f5_1_1 H locs ls w10 (show 0 ≤ x25.toInt by first | with_reducible assumption | omega) (show x25.toInt ≤ 400 by first | with_reducible assumption | omega) (show 0 ≤ f5_1_1.toInt from r13) (show f5_1_1.toInt ≤ 400 from t14) (show (400 - x25.toInt).toNat < n5 by first | exact tn_lt hm5 (by omega) (by omega) | omega) hw hT hF c15 hM (lv_sub hl [1, 0] rfl)
  have hM : TT (fun n => m_X6_endOfWord n 1 (sI w0)) (fun n => m_X6_endOfWord n 1 (sI w0)) := TT.rf
  refine lv_aload_n hx hb dX6_endOfWord_0 rfl (lv_at hl 0 rfl) ?_
  refine tk_geti hC hK hw hT hinX6 kC_at1 (by decide) rfl 1 (by decide) (List.mem_cons_of_mem _ uw_9_16) rfl rfl dX6_endOfWord_1 (fun x26 c27 rx26 tx26 => ?_)
  replace hM := hM.rd (sI_at c27)
  refine lv_istore_n (lv' := [(1, .int x26), (0, .ref (ad 1))]) hx hb dX6_endOfWord_4 rfl hl (by decide) rfl (fun ls hl => ?_)
  exact L5 ((400 - x26.toInt).toNat + 1) x26 x26 s.heap locs ls w0 (show 0 ≤ x26.toInt from rx26) (show x26.toInt ≤ 400 from tx26) (show 0 ≤ x26.toInt from rx26) (show x26.toInt ≤ 400 from tx26) (Nat.lt_succ_self _) hw hT hF c27 hM (lv_sub hl [1, 0] rfl)
abbrev Pz_X6_readWord_1 (ad : Nat → Nat) (cy : Nat → ClassId) (B : Int) (qr : Nat) (s1 : Int)  (w0 : va_W) : Int32 → va_W → Prop := fun r u => TW ksC ad cy B qr s1 u ∧ FE ksC [(6, 1, 1), (6, 3, 3), (6, 4, 4)] w0 u ∧ Ev (fun n => m_X6_readWord n 1 0 (sI w0)) (r.toInt, sI u) ∧ ((0 ≤ r.toInt ∧ r.toInt ≤ 26) ∨ (r = (-1) ∧ (∃ y : Int32, gi u 1 4 = y ∧ 1 ≤ y.toInt ∧ y.toInt ≤ 3205)))
set_option maxHeartbeats 4000000 in
set_option maxRecDepth 100000 in
theorem kz_X6_readWord_1 (l : Launch) (adK adV : Nat → Nat) (dC : Nat → ClassId) (dI : Nat → Nat → Nat) (cy : Nat → ClassId) (ad : Nat → Nat) (B : Int) (hB0 : 2147483648 ≤ B) (hB1 : B ≤ 1152921504606846976) (qr : Nat) (s1 : Int)   (w0 : va_W) (sz : Nat) (hT : TW ksC ad cy B qr s1 w0)  : Met l yX6_readWord (wu yX6_readWord cX6_readWord 8 (some .int)) ({ frames := 5, cells := 0, slots := 0, locals := 141 }) (va_Pc [.ref (ad 1), .ref (adK 0)] (wpreS adK adV dC dI cy sz w0)) (va_Qi (Pz_X6_readWord_1 ad cy B qr s1  w0) (fun u : va_W => wpost dC dI cy (va_A w0 sz) u) (va_A w0 sz)) 0 0 (va_A w0 sz) := by
  refine Met.ofW (cc := cX6_readWord) (maxL := 8) (ret := (some .int)) (by decide) rfl ?_
  intro p e s m args below meth c s₁ Bk hml hv
  obtain ⟨rfl, ⟨hsz, hP, hK, hD0⟩, hE, hSR⟩ := hv
  have hx := Bk.exec
  have hb := Bk.bytes
  have hr := Bk.returns
  have hlocks := Bk.notSynchronized
  have hC : CallFix p m c cX6_readWord 8 s _ (wu yX6_readWord cX6_readWord 8 (some .int)) RX6 := ⟨hx, hb, hml, findClass_of_methodNamed Bk.named, atoms_spec (ws := (wu yX6_readWord cX6_readWord 8 (some .int))) Bk.pre⟩
  subst hsz
  have hD := hD0.self (sz := s.heap.size)
  generalize hAe : va_A w0 s.heap.size = A at hD hE ⊢
  have hA : ∀ q : Nat, s.heap.size ≤ q → A q := fun q h => by rw [← hAe]; exact Or.inr h
  have hw : Wd dC dI A s.heap s.heap [] w0 := ⟨hP, hD, va_S.rf⟩
  have hF : FE ksC [(6, 1, 1), (6, 3, 3), (6, 4, 4)] w0 w0 := FE.rf
  have hl := lv_entry ([.ref (ad 1), .ref (adK 0)]) (n := 8) (Nat.le_of_ble_eq_true rfl)
  rw [lg_entry_eq]
  generalize (lg_sl ([.ref (ad 1), .ref (adK 0)]) ++ List.replicate (8 - (lg_sl ([.ref (ad 1), .ref (adK 0)])).length) Slot.unset).toArray = ls at hl ⊢
  have hl : lv_has ls 8 [(0, .ref (ad 1)), (1, .ref (adK 0))] := hl
  generalize hloc : ([] : List Loc) = locs at hw ⊢
  have hinX6 : ∀ w ∈ u_ws RX6 TX6 5, w ∈ (wu yX6_readWord cX6_readWord 8 (some .int)) := fun _ h => List.mem_cons_of_mem _ (up_72 h)
  have L24 : ∀ (n24 : Nat) (v24_2 : Int32) (v24_3 : Int32) (v24_4 : Int32) (v24_5 : Int32) (v24_6 : Int32) (f24_1_1 : Int32) (H : Heap) (locs : List Loc) (ls : Array Slot) (w1 : va_W), 0 ≤ v24_2.toInt → v24_2.toInt ≤ 400 → 0 ≤ v24_3.toInt → v24_3.toInt ≤ 26 → 0 ≤ v24_4.toInt → v24_4.toInt ≤ 426 → 0 ≤ v24_5.toInt → v24_5.toInt ≤ 1 → 0 ≤ v24_6.toInt → v24_6.toInt ≤ 26 → 0 ≤ f24_1_1.toInt → f24_1_1.toInt ≤ 400 → v24_4.toInt ≤ v24_6.toInt + 400 → v24_3.toInt ≤ v24_6.toInt + 0 → (26 - v24_6.toInt).toNat < n24 → Wd dC dI A s.heap H locs w1 → TW ksC ad cy B qr s1 w1 → FE ksC [(6, 1, 1), (6, 3, 3), (6, 4, 4)] w0 w1 → gi w1 1 1 = f24_1_1 → TT (fun n => m_X6_readWord n 1 0 (sI w0)) (fun n => j_X6_readWord 1 0 n 24 [v24_2.toInt, v24_3.toInt, v24_4.toInt, v24_5.toInt, v24_6.toInt] (sI w1)) → lv_has ls 8 [(0, .ref (ad 1)), (1, .ref (adK 0)), (2, .int v24_2), (3, .int v24_3), (4, .int v24_4), (5, .int v24_5), (6, .int v24_6)] → W p l e ({ frames := 5, cells := 0, slots := 0, locals := 141 }) s m (List.toArray [.ref (ad 1), .ref (adK 0)]) below meth c H locs 0 0 (MQ below (va_Qi (Pz_X6_readWord_1 ad cy B qr s1  w0) (fun u : va_W => wpost dC dI cy A u) A) (List.toArray [.ref (ad 1), .ref (adK 0)]) s 0 0 A) (F0 m 24 ls []) := by
    intro n24
    induction n24 with
    | zero => intro v24_2 v24_3 v24_4 v24_5 v24_6 f24_1_1 H locs ls w1 r2 t3 r4 t5 r6 t7 r8 t9 r10 t11 r12 t13 i15 i16 hm24 hw hT hF c14 hM hl; omega
    | succ n24 ih24 =>
      intro v24_2 v24_3 v24_4 v24_5 v24_6 f24_1_1 H locs ls w1 r2 t3 r4 t5 r6 t7 r8 t9 r10 t11 r12 t13 i15 i16 hm24 hw hT hF c14 hM hl
      have J114 : ∀ (v114_3 : Int32) (v114_4 : Int32) (v114_5 : Int32) (v114_7 : Int32) (H : Heap) (locs : List Loc) (ls : Array Slot) (w17 : va_W), 0 ≤ v24_2.toInt → v24_2.toInt ≤ 400 → 0 ≤ v114_3.toInt → v114_3.toInt ≤ 26 → 0 ≤ v114_4.toInt → v114_4.toInt ≤ 426 → 0 ≤ v114_5.toInt → v114_5.toInt ≤ 1 → 0 ≤ v24_6.toInt → v24_6.toInt ≤ 25 → 0 ≤ f24_1_1.toInt → f24_1_1.toInt ≤ 400 → v114_4.toInt ≤ v24_6.toInt + 401 → v114_3.toInt ≤ v24_6.toInt + 1 → Wd dC dI A s.heap H locs w17 → TW ksC ad cy B qr s1 w17 → FE ksC [(6, 1, 1), (6, 3, 3), (6, 4, 4)] w0 w17 → gi w17 1 1 = f24_1_1 → TT (fun n => m_X6_readWord n 1 0 (sI w0)) (fun n => b_X6_readWord_114 (j_X6_readWord 1 0 n) n 1 0 (v24_2.toInt) (v114_3.toInt) (v114_4.toInt) (v114_5.toInt) (v24_6.toInt) (sI w17)) → lv_has ls 8 [(0, .ref (ad 1)), (1, .ref (adK 0)), (2, .int v24_2), (3, .int v114_3), (4, .int v114_4), (5, .int v114_5), (6, .int v24_6), (7, .int v114_7)] → W p l e ({ frames := 5, cells := 0, slots := 0, locals := 141 }) s m (List.toArray [.ref (ad 1), .ref (adK 0)]) below meth c H locs 0 0 (MQ below (va_Qi (Pz_X6_readWord_1 ad cy B qr s1  w0) (fun u : va_W => wpost dC dI cy A u) A) (List.toArray [.ref (ad 1), .ref (adK 0)]) s 0 0 A) (F0 m 114 ls []) := by
        intro v114_3 v114_4 v114_5 v114_7 H locs ls w17 r18 t19 r20 t21 r22 t23 r24 t25 r26 t27 r28 t29 i31 i32 hw hT hF c30 hM hl
        obtain ⟨x33, ex33⟩ : ∃ y : Int32, y = v24_6 + Int32.ofInt 1 := ⟨_, rfl⟩
        have erx33 := ex33
        refine lv_iinc (v := x33) (lv' := [(6, .int x33), (0, .ref (ad 1)), (1, .ref (adK 0)), (2, .int v24_2), (3, .int v114_3), (4, .int v114_4), (5, .int v114_5), (7, .int v114_7)]) hx hb dX6_readWord_114 hl (k := 6) rfl ex33.symm (by decide) rfl (fun ls hl => ?_)
        have ex33 : x33.toInt = v24_6.toInt + 1 := by rw [ex33]; exact wk_add (y := 1) (show -2147483648 ≤ v24_6.toInt + 1 by omega) (show v24_6.toInt + 1 ≤ 2147483647 by omega)
        replace hM := hM.lt ex33.symm
        refine lv_goto (tgt := 24) hx hb dX6_readWord_117 (by decide) ?_
        exact ih24 v24_2 v114_3 v114_4 v114_5 x33 f24_1_1 H locs ls w17 (show 0 ≤ v24_2.toInt from r18) (show v24_2.toInt ≤ 400 from t19) (show 0 ≤ v114_3.toInt from r20) (show v114_3.toInt ≤ 26 from t21) (show 0 ≤ v114_4.toInt from r22) (show v114_4.toInt ≤ 426 from t23) (show 0 ≤ v114_5.toInt from r24) (show v114_5.toInt ≤ 1 from t25) (show 0 ≤ x33.toInt by first | with_reducible assumption | omega) (show x33.toInt ≤ 26 by first | with_reducible assumption | omega) (show 0 ≤ f24_1_1.toInt from r28) (show f24_1_1.toInt ≤ 400 from t29) (show v114_4.toInt ≤ x33.toInt + 400 by omega) (show v114_3.toInt ≤ x33.toInt + 0 by omega) (show (26 - x33.toInt).toNat < n24 by first | exact tn_lt hm24 (by omega) (by omega) | omega) hw hT hF c30 hM (lv_sub hl [1, 2, 3, 4, 5, 6, 0] rfl)
      have J75 : ∀ (v75_7 : Int32) (H : Heap) (locs : List Loc) (ls : Array Slot) (w34 : va_W), 0 ≤ v24_2.toInt → v24_2.toInt ≤ 400 → 0 ≤ v24_3.toInt → v24_3.toInt ≤ 26 → 0 ≤ v24_4.toInt → v24_4.toInt ≤ 426 → 0 ≤ v24_5.toInt → v24_5.toInt ≤ 1 → 0 ≤ v24_6.toInt → v24_6.toInt ≤ 25 → 0 ≤ f24_1_1.toInt → f24_1_1.toInt ≤ 400 → v24_4.toInt ≤ v24_6.toInt + 401 → v24_3.toInt ≤ v24_6.toInt + 1 → Wd dC dI A s.heap H locs w34 → TW ksC ad cy B qr s1 w34 → FE ksC [(6, 1, 1), (6, 3, 3), (6, 4, 4)] w0 w34 → gi w34 1 1 = f24_1_1 → TT (fun n => m_X6_readWord n 1 0 (sI w0)) (fun n => b_X6_readWord_75 (j_X6_readWord 1 0 n) n 1 0 (v24_2.toInt) (v24_3.toInt) (v24_4.toInt) (v24_6.toInt) (sI w34)) → lv_has ls 8 [(0, .ref (ad 1)), (1, .ref (adK 0)), (2, .int v24_2), (3, .int v24_3), (4, .int v24_4), (5, .int v24_5), (6, .int v24_6), (7, .int v75_7)] → W p l e ({ frames := 5, cells := 0, slots := 0, locals := 141 }) s m (List.toArray [.ref (ad 1), .ref (adK 0)]) below meth c H locs 0 0 (MQ below (va_Qi (Pz_X6_readWord_1 ad cy B qr s1  w0) (fun u : va_W => wpost dC dI cy A u) A) (List.toArray [.ref (ad 1), .ref (adK 0)]) s 0 0 A) (F0 m 75 ls []) := by
        intro v75_7 H locs ls w34 r35 t36 r37 t38 r39 t40 r41 t42 r43 t44 r45 t46 i48 i49 hw hT hF c47 hM hl
        refine lv_iconst (v := 0) hx hb dX6_readWord_75 (by decide) ?_
        refine lv_istore (lv' := [(5, .int 0), (0, .ref (ad 1)), (1, .ref (adK 0)), (2, .int v24_2), (3, .int v24_3), (4, .int v24_4), (6, .int v24_6), (7, .int v75_7)]) hx hb dX6_readWord_76 hl (by decide) rfl (fun ls hl => ?_)
        obtain ⟨x50, ex50⟩ : ∃ y : Int32, y = v24_4 + Int32.ofInt 1 := ⟨_, rfl⟩
        have erx50 := ex50
        refine lv_iinc (v := x50) (lv' := [(4, .int x50), (5, .int 0), (0, .ref (ad 1)), (1, .ref (adK 0)), (2, .int v24_2), (3, .int v24_3), (6, .int v24_6), (7, .int v75_7)]) hx hb dX6_readWord_78 hl (k := 5) rfl ex50.symm (by decide) rfl (fun ls hl => ?_)
        have ex50 : x50.toInt = v24_4.toInt + 1 := by rw [ex50]; exact wk_add (y := 1) (show -2147483648 ≤ v24_4.toInt + 1 by omega) (show v24_4.toInt + 1 ≤ 2147483647 by omega)
        replace hM := hM.lt ex50.symm
        refine lv_goto (tgt := 114) hx hb dX6_readWord_81 (by decide) ?_
        exact J114 v24_3 x50 0 v75_7 H locs ls w34 (show 0 ≤ v24_2.toInt from r35) (show v24_2.toInt ≤ 400 from t36) (show 0 ≤ v24_3.toInt from r37) (show v24_3.toInt ≤ 26 from t38) (show 0 ≤ x50.toInt by first | with_reducible assumption | omega) (show x50.toInt ≤ 426 by first | with_reducible assumption | omega) (by decide) (by decide) (show 0 ≤ v24_6.toInt from r43) (show v24_6.toInt ≤ 25 from t44) (show 0 ≤ f24_1_1.toInt from r45) (show f24_1_1.toInt ≤ 400 from t46) (show x50.toInt ≤ v24_6.toInt + 401 by omega) (show v24_3.toInt ≤ v24_6.toInt + 1 from i49)  hw hT hF c47 hM (lv_sub hl [2, 3, 4, 5, 0, 1, 6, 7] rfl)
      have J102 : ∀ (H : Heap) (locs : List Loc) (ls : Array Slot) (w51 : va_W), 0 ≤ v24_2.toInt → v24_2.toInt ≤ 400 → 0 ≤ v24_3.toInt → v24_3.toInt ≤ 26 → 0 ≤ v24_4.toInt → v24_4.toInt ≤ 426 → 0 ≤ v24_5.toInt → v24_5.toInt ≤ 1 → 0 ≤ v24_6.toInt → v24_6.toInt ≤ 25 → 0 ≤ f24_1_1.toInt → f24_1_1.toInt ≤ 400 → v24_4.toInt ≤ v24_6.toInt + 401 → v24_3.toInt ≤ v24_6.toInt + 1 → Wd dC dI A s.heap H locs w51 → TW ksC ad cy B qr s1 w51 → FE ksC [(6, 1, 1), (6, 3, 3), (6, 4, 4)] w0 w51 → gi w51 1 1 = f24_1_1 → TT (fun n => m_X6_readWord n 1 0 (sI w0)) (fun n => b_X6_readWord_102 (j_X6_readWord 1 0 n) n 1 0 (v24_2.toInt) (v24_3.toInt) (v24_6.toInt) (sI w51)) → lv_has ls 8 [(0, .ref (ad 1)), (1, .ref (adK 0)), (2, .int v24_2), (3, .int v24_3), (4, .int v24_4), (5, .int v24_5), (6, .int v24_6), (7, .int 32)] → W p l e ({ frames := 5, cells := 0, slots := 0, locals := 141 }) s m (List.toArray [.ref (ad 1), .ref (adK 0)]) below meth c H locs 0 0 (MQ below (va_Qi (Pz_X6_readWord_1 ad cy B qr s1  w0) (fun u : va_W => wpost dC dI cy A u) A) (List.toArray [.ref (ad 1), .ref (adK 0)]) s 0 0 A) (F0 m 102 ls []) := by
        intro H locs ls w51 r52 t53 r54 t55 r56 t57 r58 t59 r60 t61 r62 t63 i65 i66 hw hT hF c64 hM hl
        obtain ⟨x67, ex67⟩ : ∃ y : Int32, y = v24_3 + Int32.ofInt 1 := ⟨_, rfl⟩
        have erx67 := ex67
        refine lv_iinc (v := x67) (lv' := [(3, .int x67), (0, .ref (ad 1)), (1, .ref (adK 0)), (2, .int v24_2), (4, .int v24_4), (5, .int v24_5), (6, .int v24_6), (7, .int 32)]) hx hb dX6_readWord_102 hl (k := 3) rfl ex67.symm (by decide) rfl (fun ls hl => ?_)
        have ex67 : x67.toInt = v24_3.toInt + 1 := by rw [ex67]; exact wk_add (y := 1) (show -2147483648 ≤ v24_3.toInt + 1 by omega) (show v24_3.toInt + 1 ≤ 2147483647 by omega)
        replace hM := hM.lt ex67.symm
        refine lv_aload_n hx hb dX6_readWord_105 rfl (lv_at hl 1 rfl) ?_
        refine tk_geti hC hK hw hT hinX6 kC_at1 (by decide) rfl 1 (by decide) (List.mem_cons_of_mem _ uw_9_16) rfl rfl dX6_readWord_106 (fun x68 c69 rx68 tx68 => ?_)
        refine wk_top f24_1_1 (c69.symm.trans c64) ?_
        replace hM := hM.rd (sI_at c64)
        refine lv_istore (lv' := [(4, .int f24_1_1), (3, .int x67), (0, .ref (ad 1)), (1, .ref (adK 0)), (2, .int v24_2), (5, .int v24_5), (6, .int v24_6), (7, .int 32)]) hx hb dX6_readWord_109 hl (by decide) rfl (fun ls hl => ?_)
        refine lv_iconst (v := 1) hx hb dX6_readWord_111 (by decide) ?_
        refine lv_istore (lv' := [(5, .int 1), (4, .int f24_1_1), (3, .int x67), (0, .ref (ad 1)), (1, .ref (adK 0)), (2, .int v24_2), (6, .int v24_6), (7, .int 32)]) hx hb dX6_readWord_112 hl (by decide) rfl (fun ls hl => ?_)
        exact J114 x67 f24_1_1 1 32 H locs ls w51 (show 0 ≤ v24_2.toInt from r52) (show v24_2.toInt ≤ 400 from t53) (show 0 ≤ x67.toInt by first | with_reducible assumption | omega) (show x67.toInt ≤ 26 by first | with_reducible assumption | omega) (show 0 ≤ f24_1_1.toInt from r62) (show f24_1_1.toInt ≤ 426 from Int.le_trans t63 (by decide)) (by decide) (by decide) (show 0 ≤ v24_6.toInt from r60) (show v24_6.toInt ≤ 25 from t61) (show 0 ≤ f24_1_1.toInt from r62) (show f24_1_1.toInt ≤ 400 from t63) (show f24_1_1.toInt ≤ v24_6.toInt + 401 by omega) (show x67.toInt ≤ v24_6.toInt + 1 by omega)  hw hT hF c64 hM (lv_sub hl [3, 4, 5, 2, 1, 0, 6, 7] rfl)
      replace hM := hM.suc (fun _ => e_X6_readWord_24)
      refine lv_iload hx hb dX6_readWord_24 (lv_at hl 6 rfl) ?_
      refine lv_aload_n hx hb dX6_readWord_26 rfl (lv_at hl 1 rfl) ?_
      refine tk_ViT hC hK hw hA hE hSR (s_length l adK adV dC dI cy 0 (by decide) H.size) (cwV 0 hC.2.2.2.2 uV_RX6_56 rfl rfl rfl (by decide +kernel) ⟨Nat.le_of_ble_eq_true rfl, Nat.le_of_ble_eq_true rfl⟩) 0 (by decide) rfl rfl rfl hl.1 rfl (Nat.le_of_ble_eq_true rfl) dX6_readWord_27 (fun r70 H locs hp71 hw => ?_)
      obtain ⟨-, hp71⟩ := hp71
      obtain rfl : r70 = 26 := hp71
      replace hM := hM.lt (v := 26) (by decide)
      refine lv_icmp_ge (tgt := 120) hx hb dX6_readWord_30 (by decide) (fun c72 => ?_) (fun c72 => ?_)
      · have c72 : (26 : Int) ≤ v24_6.toInt := wk_le.mp c72
        replace hM := hM.pos c72
        refine lv_aload_n hx hb dX6_readWord_120 rfl (lv_at hl 0 rfl) ?_
        refine lv_aload_n hx hb dX6_readWord_121 rfl (lv_at hl 0 rfl) ?_
        refine tk_geti hC hK hw hT hinX6 kC_at1 (by decide) rfl 3 (by decide) (List.mem_cons_of_mem _ uw_9_17) rfl rfl dX6_readWord_122 (fun x73 c74 rx73 tx73 => ?_)
        replace hM := hM.rd (sI_at c74)
        refine lv_iconst (v := 0) hx hb dX6_readWord_125 (by decide) ?_
        refine tk_Vv hC hK hw hT hA hE hSR kC_at1 (by decide) rfl (kz_X6_blame_1 l adK adV dC dI cy ad B hB0 (Int.le_trans hB1 (by decide)) qr s1   x73 (show 0 ≤ x73.toInt from rx73) (show x73.toInt ≤ 400 from tx73) 0 (by decide) (by decide) w1 H.size hT ) (cwV 2 hC.2.2.2.2 uV_RX6_35 rfl rfl rfl (by decide +kernel) ⟨Nat.le_of_ble_eq_true rfl, Nat.le_of_ble_eq_true rfl⟩) rfl hl.1 rfl (Nat.le_of_ble_eq_true rfl) dX6_readWord_126 (fun w77 H locs hp76 hw => ?_)
        obtain ⟨hT, k78, hv82, hg81⟩ := hp76
        try simp only [show (0 : Int32).toInt = 0 by decide] at hv82
        have hF := hF.tr k78 (by decide)
        have c83 := k78.gi kC_at1 (by decide) c14
        have c84 := k78.gi kC_at1 (by decide) c74
        obtain ⟨x79, c80, rx79, tx79⟩ := hg81
        replace hM := hM.call hv82 rfl
        refine lv_iconst (v := (-1)) hx hb dX6_readWord_129 (by decide) ?_
        exact tk_iret hC hr hlocks hK ⟨hT, hF, hM.ret (by decide), (Or.inr ⟨rfl, ⟨x79, c80, (show 1 ≤ x79.toInt by first | with_reducible assumption | omega), (show x79.toInt ≤ 3205 by first | with_reducible assumption | omega)⟩⟩)⟩ hw dX6_readWord_130
      · have c72 : v24_6.toInt < (26 : Int) := wk_leF c72
        replace hM := hM.neg (Int.not_le.mpr c72)
        refine lv_aload_n hx hb dX6_readWord_33 rfl (lv_at hl 1 rfl) ?_
        refine lv_iload hx hb dX6_readWord_34 (lv_at hl 6 rfl) ?_
        refine tk_ViT hC hK hw hA hE hSR (s_charAt l adK adV dC dI cy 0 (by decide) v24_6 (show 0 ≤ v24_6.toInt from r10) (show v24_6.toInt < 26 by first | with_reducible assumption | omega) H.size) (cwV 1 hC.2.2.2.2 uV_RX6_60 rfl rfl rfl (by decide +kernel) ⟨Nat.le_of_ble_eq_true rfl, Nat.le_of_ble_eq_true rfl⟩) 0 (by decide) rfl rfl rfl hl.1 rfl (Nat.le_of_ble_eq_true rfl) dX6_readWord_36 (fun r85 H locs hp86 hw => ?_)
        obtain ⟨-, hp86⟩ := hp86
        replace hM := hM.lt (chS_e hp86 rfl)
        refine lv_istore (lv' := [(7, .int r85), (0, .ref (ad 1)), (1, .ref (adK 0)), (2, .int v24_2), (3, .int v24_3), (4, .int v24_4), (5, .int v24_5), (6, .int v24_6)]) hx hb dX6_readWord_39 hl (by decide) rfl (fun ls hl => ?_)
        refine lv_iload hx hb dX6_readWord_41 (lv_at hl 0 rfl) ?_
        refine lv_bipush (v := 32) hx hb dX6_readWord_43 (by decide) ?_
        refine lv_icmp_eq (tgt := 84) hx hb dX6_readWord_45 (by decide) (fun c87 => ?_) (fun c87 => ?_)
        · have c87 : r85.toInt = (32 : Int) := wk_eq.mp c87
          replace hM := hM.pos c87
          refine lv_iload hx hb dX6_readWord_84 (lv_at hl 6 rfl) ?_
          refine lv_if_eq (tgt := 102) hx hb dX6_readWord_86 (by decide) (fun c88 => ?_) (fun c88 => ?_)
          · have c88 : v24_5.toInt = (0 : Int) := wk_eq.mp c88
            replace hM := hM.pos c88
            obtain rfl : r85 = 32 := wk_eq.mpr (show r85.toInt = 32 by first | exact Int.le_antisymm (by omega) (by omega) | omega)
            try simp only [show (32 : Int32).toInt = 32 by decide] at hM
            exact J102  H locs ls w1 (show 0 ≤ v24_2.toInt from r2) (show v24_2.toInt ≤ 400 from t3) (show 0 ≤ v24_3.toInt from r4) (show v24_3.toInt ≤ 26 from t5) (show 0 ≤ v24_4.toInt from r6) (show v24_4.toInt ≤ 426 from t7) (show 0 ≤ v24_5.toInt from r8) (show v24_5.toInt ≤ 1 from t9) (show 0 ≤ v24_6.toInt from r10) (show v24_6.toInt ≤ 25 by first | with_reducible assumption | omega) (show 0 ≤ f24_1_1.toInt from r12) (show f24_1_1.toInt ≤ 400 from t13) (show v24_4.toInt ≤ v24_6.toInt + 401 by omega) (show v24_3.toInt ≤ v24_6.toInt + 1 by omega)  hw hT hF c14 hM (lv_sub hl [1, 2, 3, 4, 5, 6, 7, 0] rfl)
          · have c88 : ¬ v24_5.toInt = (0 : Int) := wk_eqF c88
            replace hM := hM.neg c88
            refine lv_iload hx hb dX6_readWord_89 (lv_at hl 5 rfl) ?_
            refine lv_iload_n hx hb dX6_readWord_91 rfl (lv_at hl 3 rfl) ?_
            refine lv_icmp_ne (tgt := 102) hx hb dX6_readWord_92 (by decide) (fun c89 => ?_) (fun c89 => ?_)
            · have c89 : ¬ v24_4.toInt = v24_2.toInt := wk_eqF c89
              replace hM := hM.pos c89
              obtain rfl : r85 = 32 := wk_eq.mpr (show r85.toInt = 32 by first | exact Int.le_antisymm (by omega) (by omega) | omega)
              try simp only [show (32 : Int32).toInt = 32 by decide] at hM
              exact J102  H locs ls w1 (show 0 ≤ v24_2.toInt from r2) (show v24_2.toInt ≤ 400 from t3) (show 0 ≤ v24_3.toInt from r4) (show v24_3.toInt ≤ 26 from t5) (show 0 ≤ v24_4.toInt from r6) (show v24_4.toInt ≤ 426 from t7) (show 0 ≤ v24_5.toInt from r8) (show v24_5.toInt ≤ 1 from t9) (show 0 ≤ v24_6.toInt from r10) (show v24_6.toInt ≤ 25 by first | with_reducible assumption | omega) (show 0 ≤ f24_1_1.toInt from r12) (show f24_1_1.toInt ≤ 400 from t13) (show v24_4.toInt ≤ v24_6.toInt + 401 by omega) (show v24_3.toInt ≤ v24_6.toInt + 1 by omega)  hw hT hF c14 hM (lv_sub hl [1, 2, 3, 4, 5, 6, 7, 0] rfl)
            · have c89 : v24_4.toInt = v24_2.toInt := wk_eq.mp c89
              replace hM := hM.neg (fun q => q c89)
              refine lv_aload_n hx hb dX6_readWord_95 rfl (lv_at hl 1 rfl) ?_
              refine lv_iload_n hx hb dX6_readWord_96 rfl (lv_at hl 3 rfl) ?_
              refine tk_puti hC hK hw hT hinX6 tyX6_ok nmX6 kC_at1 (by decide) rfl rfl 1 (by decide) (List.mem_cons_of_mem _ uw_9_16) rfl rfl rfl rfl (show 0 ≤ v24_2.toInt from r2) (show v24_2.toInt ≤ 400 from t3) dX6_readWord_97 (fun H locs w90 hw hT k92 c91 => ?_)
              replace hM := hM.wr (sI_up k92 c91)
              have hF := hF.put kC_at1 (k := 1) (by decide) k92
              refine lv_iload_n hx hb dX6_readWord_100 rfl (lv_at hl 4 rfl) ?_
              exact tk_iret hC hr hlocks hK ⟨hT, hF, hM.ret rfl, (Or.inl ⟨(show 0 ≤ v24_3.toInt from r4), (show v24_3.toInt ≤ 26 from t5)⟩)⟩ hw dX6_readWord_101
        · have c87 : ¬ r85.toInt = (32 : Int) := wk_eqF c87
          replace hM := hM.neg c87
          refine lv_iload hx hb dX6_readWord_48 (lv_at hl 6 rfl) ?_
          refine lv_if_eq (tgt := 75) hx hb dX6_readWord_50 (by decide) (fun c93 => ?_) (fun c93 => ?_)
          · have c93 : v24_5.toInt = (0 : Int) := wk_eq.mp c93
            replace hM := hM.pos c93
            exact J75 r85 H locs ls w1 (show 0 ≤ v24_2.toInt from r2) (show v24_2.toInt ≤ 400 from t3) (show 0 ≤ v24_3.toInt from r4) (show v24_3.toInt ≤ 26 from t5) (show 0 ≤ v24_4.toInt from r6) (show v24_4.toInt ≤ 426 from t7) (show 0 ≤ v24_5.toInt from r8) (show v24_5.toInt ≤ 1 from t9) (show 0 ≤ v24_6.toInt from r10) (show v24_6.toInt ≤ 25 by first | with_reducible assumption | omega) (show 0 ≤ f24_1_1.toInt from r12) (show f24_1_1.toInt ≤ 400 from t13) (show v24_4.toInt ≤ v24_6.toInt + 401 by omega) (show v24_3.toInt ≤ v24_6.toInt + 1 by omega)  hw hT hF c14 hM (lv_sub hl [1, 2, 3, 4, 5, 6, 7, 0] rfl)
          · have c93 : ¬ v24_5.toInt = (0 : Int) := wk_eqF c93
            replace hM := hM.neg c93
            refine lv_iload hx hb dX6_readWord_53 (lv_at hl 5 rfl) ?_
            refine lv_iload_n hx hb dX6_readWord_55 rfl (lv_at hl 3 rfl) ?_
            refine lv_icmp_ge (tgt := 75) hx hb dX6_readWord_56 (by decide) (fun c94 => ?_) (fun c94 => ?_)
            · have c94 : v24_2.toInt ≤ v24_4.toInt := wk_le.mp c94
              replace hM := hM.pos c94
              exact J75 r85 H locs ls w1 (show 0 ≤ v24_2.toInt from r2) (show v24_2.toInt ≤ 400 from t3) (show 0 ≤ v24_3.toInt from r4) (show v24_3.toInt ≤ 26 from t5) (show 0 ≤ v24_4.toInt from r6) (show v24_4.toInt ≤ 426 from t7) (show 0 ≤ v24_5.toInt from r8) (show v24_5.toInt ≤ 1 from t9) (show 0 ≤ v24_6.toInt from r10) (show v24_6.toInt ≤ 25 by first | with_reducible assumption | omega) (show 0 ≤ f24_1_1.toInt from r12) (show f24_1_1.toInt ≤ 400 from t13) (show v24_4.toInt ≤ v24_6.toInt + 401 by omega) (show v24_3.toInt ≤ v24_6.toInt + 1 by omega)  hw hT hF c14 hM (lv_sub hl [1, 2, 3, 4, 5, 6, 7, 0] rfl)
            · have c94 : v24_4.toInt < v24_2.toInt := wk_leF c94
              replace hM := hM.neg (Int.not_le.mpr c94)
              refine lv_aload_n hx hb dX6_readWord_59 rfl (lv_at hl 1 rfl) ?_
              refine tk_getA hC hK hw hT hinX6 kC_at1 (by decide) rfl 0 (by decide) (List.mem_cons_of_mem _ uw_2_12) rfl rfl dX6_readWord_60 ?_
              refine lv_iload hx hb dX6_readWord_63 (lv_at hl 5 rfl) ?_
              refine tk_iald hC hK hw hT kC_at2 rfl rfl (show 0 ≤ v24_4.toInt from r6) (show v24_4.toInt < 400 by first | with_reducible assumption | omega) dX6_readWord_65 (fun x95 c96 rx95 tx95 => ?_)
              have hox95 := c96
              replace hM := hM.rd (sI_at hox95)
              refine lv_iload hx hb dX6_readWord_66 (lv_at hl 0 rfl) ?_
              refine lv_icmp_ne (tgt := 75) hx hb dX6_readWord_68 (by decide) (fun c97 => ?_) (fun c97 => ?_)
              · have c97 : ¬ x95.toInt = r85.toInt := wk_eqF c97
                replace hM := hM.pos c97
                exact J75 r85 H locs ls w1 (show 0 ≤ v24_2.toInt from r2) (show v24_2.toInt ≤ 400 from t3) (show 0 ≤ v24_3.toInt from r4) (show v24_3.toInt ≤ 26 from t5) (show 0 ≤ v24_4.toInt from r6) (show v24_4.toInt ≤ 426 from t7) (show 0 ≤ v24_5.toInt from r8) (show v24_5.toInt ≤ 1 from t9) (show 0 ≤ v24_6.toInt from r10) (show v24_6.toInt ≤ 25 by first | with_reducible assumption | omega) (show 0 ≤ f24_1_1.toInt from r12) (show f24_1_1.toInt ≤ 400 from t13) (show v24_4.toInt ≤ v24_6.toInt + 401 by omega) (show v24_3.toInt ≤ v24_6.toInt + 1 by omega)  hw hT hF c14 hM (lv_sub hl [1, 2, 3, 4, 5, 6, 7, 0] rfl)
              · have c97 : x95.toInt = r85.toInt := wk_eq.mp c97
                replace hM := hM.neg (fun q => q c97)
                refine lv_iconst (v := 1) hx hb dX6_readWord_71 (by decide) ?_
                refine lv_goto (tgt := 76) hx hb dX6_readWord_72 (by decide) ?_
                refine lv_istore (lv' := [(5, .int 1), (7, .int r85), (0, .ref (ad 1)), (1, .ref (adK 0)), (2, .int v24_2), (3, .int v24_3), (4, .int v24_4), (6, .int v24_6)]) hx hb dX6_readWord_76 hl (by decide) rfl (fun ls hl => ?_)
                obtain ⟨x98, ex98⟩ : ∃ y : Int32, y = v24_4 + Int32.ofInt 1 := ⟨_, rfl⟩
                have erx98 := ex98
                refine lv_iinc (v := x98) (lv' := [(4, .int x98), (5, .int 1), (7, .int r85), (0, .ref (ad 1)), (1, .ref (adK 0)), (2, .int v24_2), (3, .int v24_3), (6, .int v24_6)]) hx hb dX6_readWord_78 hl (k := 6) rfl ex98.symm (by decide) rfl (fun ls hl => ?_)
                have ex98 : x98.toInt = v24_4.toInt + 1 := by rw [ex98]; exact wk_add (y := 1) (show -2147483648 ≤ v24_4.toInt + 1 by omega) (show v24_4.toInt + 1 ≤ 2147483647 by omega)
                replace hM := hM.lt ex98.symm
                refine lv_goto (tgt := 114) hx hb dX6_readWord_81 (by decide) ?_
                exact J114 v24_3 x98 1 r85 H locs ls w1 (show 0 ≤ v24_2.toInt from r2) (show v24_2.toInt ≤ 400 from t3) (show 0 ≤ v24_3.toInt from r4) (show v24_3.toInt ≤ 26 from t5) (show 0 ≤ x98.toInt by first | with_reducible assumption | omega) (show x98.toInt ≤ 426 by first | with_reducible assumption | omega) (by decide) (by decide) (show 0 ≤ v24_6.toInt from r10) (show v24_6.toInt ≤ 25 by first | with_reducible assumption | omega) (show 0 ≤ f24_1_1.toInt from r12) (show f24_1_1.toInt ≤ 400 from t13) (show x98.toInt ≤ v24_6.toInt + 401 by omega) (show v24_3.toInt ≤ v24_6.toInt + 1 by omega)  hw hT hF c14 hM (lv_sub hl [3, 4, 5, 6, 0, 1, 7, 2] rfl)
  have hM : TT (fun n => m_X6_readWord n 1 0 (sI w0)) (fun n => m_X6_readWord n 1 0 (sI w0)) := TT.rf
  refine lv_aload_n hx hb dX6_readWord_0 rfl (lv_at hl 0 rfl) ?_
  refine tk_Vi hC hK hw hT hA hE hSR kC_at1 (by decide) rfl (kz_X6_lookBehindBlanks_1 l adK adV dC dI cy ad B hB0 (Int.le_trans hB1 (by decide)) qr s1    w0 s.heap.size hT ) (cwV 0 hC.2.2.2.2 uV_RX6_28 rfl rfl rfl (by decide +kernel) ⟨Nat.le_of_ble_eq_true rfl, Nat.le_of_ble_eq_true rfl⟩) rfl hl.1 rfl (Nat.le_of_ble_eq_true rfl) dX6_readWord_1 (fun r99 w101 H locs hp100 hw => ?_)
  obtain ⟨hT, k102, hv112, hg111⟩ := hp100
  have hF := hF.tr k102 (by decide)
  rcases hg111 with ⟨g103, g104, ⟨x105, c106, rx105, tx105⟩, ⟨x107, c108, rx107, tx107⟩, ⟨x109, c110, rx109, tx109⟩⟩ | rfl
  · replace hM := hM.call hv112 rfl
    refine lv_pop hx hb dX6_readWord_4 rfl ?_
    refine lv_aload_n hx hb dX6_readWord_5 rfl (lv_at hl 0 rfl) ?_
    refine tk_Vi hC hK hw hT hA hE hSR kC_at1 (by decide) rfl (kz_X6_endOfWord_1 l adK adV dC dI cy ad B hB0 (Int.le_trans hB1 (by decide)) qr s1    w101 H.size hT ) (cwV 0 hC.2.2.2.2 uV_RX6_53 rfl rfl rfl (by decide +kernel) ⟨Nat.le_of_ble_eq_true rfl, Nat.le_of_ble_eq_true rfl⟩) rfl hl.1 rfl (Nat.le_of_ble_eq_true rfl) dX6_readWord_6 (fun r113 w115 H locs hp114 hw => ?_)
    obtain ⟨hT, k116, hv120, hg119⟩ := hp114
    have hF := hF.tr k116 (by decide)
    have c121 := k116.gi kC_at1 (by decide) c106
    have c122 := k116.gi kC_at1 (by decide) c108
    have c123 := k116.gi kC_at1 (by decide) c110
    obtain ⟨g117, g118⟩ := hg119
    replace hM := hM.call hv120 rfl
    refine lv_istore_n (lv' := [(2, .int r113), (0, .ref (ad 1)), (1, .ref (adK 0))]) hx hb dX6_readWord_9 rfl hl (by decide) rfl (fun ls hl => ?_)
    refine lv_iconst (v := 0) hx hb dX6_readWord_10 (by decide) ?_
    refine lv_istore_n (lv' := [(3, .int 0), (2, .int r113), (0, .ref (ad 1)), (1, .ref (adK 0))]) hx hb dX6_readWord_11 rfl hl (by decide) rfl (fun ls hl => ?_)
    refine lv_aload_n hx hb dX6_readWord_12 rfl (lv_at hl 2 rfl) ?_
    refine tk_geti hC hK hw hT hinX6 kC_at1 (by decide) rfl 1 (by decide) (List.mem_cons_of_mem _ uw_9_16) rfl rfl dX6_readWord_13 (fun x124 c125 rx124 tx124 => ?_)
    refine wk_top x105 (c125.symm.trans c121) ?_
    replace hM := hM.rd (sI_at c121)
    refine lv_istore (lv' := [(4, .int x105), (3, .int 0), (2, .int r113), (0, .ref (ad 1)), (1, .ref (adK 0))]) hx hb dX6_readWord_16 hl (by decide) rfl (fun ls hl => ?_)
    refine lv_iconst (v := 1) hx hb dX6_readWord_18 (by decide) ?_
    refine lv_istore (lv' := [(5, .int 1), (4, .int x105), (3, .int 0), (2, .int r113), (0, .ref (ad 1)), (1, .ref (adK 0))]) hx hb dX6_readWord_19 hl (by decide) rfl (fun ls hl => ?_)
    refine lv_iconst (v := 0) hx hb dX6_readWord_21 (by decide) ?_
    refine lv_istore (lv' := [(6, .int 0), (5, .int 1), (4, .int x105), (3, .int 0), (2, .int r113), (0, .ref (ad 1)), (1, .ref (adK 0))]) hx hb dX6_readWord_22 hl (by decide) rfl (fun ls hl => ?_)
    exact L24 ((26 - (0 : Int)).toNat + 1) r113 0 x105 1 0 x105 H locs ls w115 (show 0 ≤ r113.toInt by first | with_reducible assumption | omega) (show r113.toInt ≤ 400 by first | with_reducible assumption | omega) (by decide) (by decide) (show 0 ≤ x105.toInt by first | with_reducible assumption | omega) (show x105.toInt ≤ 426 by first | with_reducible assumption | omega) (by decide) (by decide) (by decide) (by decide) (show 0 ≤ x105.toInt by first | with_reducible assumption | omega) (show x105.toInt ≤ 400 by first | with_reducible assumption | omega) (show x105.toInt ≤ (0 : Int) + 400 by omega) (show (0 : Int) ≤ (0 : Int) + 0 by omega) (Nat.lt_succ_self _) hw hT hF c121 hM (lv_sub hl [5, 6, 4, 3, 2, 1, 0] rfl)
  · replace hM := hM.call (r' := (-1)) hv112 (by decide)
    refine lv_pop hx hb dX6_readWord_4 rfl ?_
    refine lv_aload_n hx hb dX6_readWord_5 rfl (lv_at hl 0 rfl) ?_
    refine tk_Vi hC hK hw hT hA hE hSR kC_at1 (by decide) rfl (kz_X6_endOfWord_1 l adK adV dC dI cy ad B hB0 (Int.le_trans hB1 (by decide)) qr s1    w101 H.size hT ) (cwV 0 hC.2.2.2.2 uV_RX6_53 rfl rfl rfl (by decide +kernel) ⟨Nat.le_of_ble_eq_true rfl, Nat.le_of_ble_eq_true rfl⟩) rfl hl.1 rfl (Nat.le_of_ble_eq_true rfl) dX6_readWord_6 (fun r126 w128 H locs hp127 hw => ?_)
    obtain ⟨hT, k129, hv133, hg132⟩ := hp127
    have hF := hF.tr k129 (by decide)
    obtain ⟨g130, g131⟩ := hg132
    replace hM := hM.call hv133 rfl
    refine lv_istore_n (lv' := [(2, .int r126), (0, .ref (ad 1)), (1, .ref (adK 0))]) hx hb dX6_readWord_9 rfl hl (by decide) rfl (fun ls hl => ?_)
    refine lv_iconst (v := 0) hx hb dX6_readWord_10 (by decide) ?_
    refine lv_istore_n (lv' := [(3, .int 0), (2, .int r126), (0, .ref (ad 1)), (1, .ref (adK 0))]) hx hb dX6_readWord_11 rfl hl (by decide) rfl (fun ls hl => ?_)
    refine lv_aload_n hx hb dX6_readWord_12 rfl (lv_at hl 2 rfl) ?_
    refine tk_geti hC hK hw hT hinX6 kC_at1 (by decide) rfl 1 (by decide) (List.mem_cons_of_mem _ uw_9_16) rfl rfl dX6_readWord_13 (fun x134 c135 rx134 tx134 => ?_)
    replace hM := hM.rd (sI_at c135)
    refine lv_istore (lv' := [(4, .int x134), (3, .int 0), (2, .int r126), (0, .ref (ad 1)), (1, .ref (adK 0))]) hx hb dX6_readWord_16 hl (by decide) rfl (fun ls hl => ?_)
    refine lv_iconst (v := 1) hx hb dX6_readWord_18 (by decide) ?_
    refine lv_istore (lv' := [(5, .int 1), (4, .int x134), (3, .int 0), (2, .int r126), (0, .ref (ad 1)), (1, .ref (adK 0))]) hx hb dX6_readWord_19 hl (by decide) rfl (fun ls hl => ?_)
    refine lv_iconst (v := 0) hx hb dX6_readWord_21 (by decide) ?_
    refine lv_istore (lv' := [(6, .int 0), (5, .int 1), (4, .int x134), (3, .int 0), (2, .int r126), (0, .ref (ad 1)), (1, .ref (adK 0))]) hx hb dX6_readWord_22 hl (by decide) rfl (fun ls hl => ?_)
    exact L24 ((26 - (0 : Int)).toNat + 1) r126 0 x134 1 0 x134 H locs ls w128 (show 0 ≤ r126.toInt by first | with_reducible assumption | omega) (show r126.toInt ≤ 400 by first | with_reducible assumption | omega) (by decide) (by decide) (show 0 ≤ x134.toInt from rx134) (show x134.toInt ≤ 426 from Int.le_trans tx134 (by decide)) (by decide) (by decide) (by decide) (by decide) (show 0 ≤ x134.toInt from rx134) (show x134.toInt ≤ 400 from tx134) (show x134.toInt ≤ (0 : Int) + 400 by omega) (show (0 : Int) ≤ (0 : Int) + 0 by omega) (Nat.lt_succ_self _) hw hT hF c135 hM (lv_sub hl [5, 6, 4, 3, 2, 1, 0] rfl)
abbrev Pz_X7_isTooMany_1 (ad : Nat → Nat) (cy : Nat → ClassId) (B : Int) (qr : Nat) (s1 : Int) (a1 : Int32) (a2 : Int32) (w0 : va_W) : Int32 → va_W → Prop := fun r u => TW ksC ad cy B qr s1 u ∧ FE ksC ([] : List (Nat × Nat × Nat)) w0 u ∧ Ev (fun n => m_X7_isTooMany n 29 a1.toInt a2.toInt (sI w0)) (r.toInt, sI u) ∧ ((r = 0 ∧ a1.toInt ≤ 0 ∧ a2.toInt ≤ 0) ∨ (r = 0 ∧ 1 ≤ a1.toInt ∧ a1.toInt ≤ 1 ∧ 1 ≤ a2.toInt ∧ a2.toInt ≤ 31 ∧ (∃ y : Int32, gi u 29 9 = y ∧ 0 ≤ y.toInt ∧ y.toInt ≤ 11)) ∨ (r = 0 ∧ 2 ≤ a1.toInt ∧ a1.toInt ≤ 2 ∧ 1 ≤ a2.toInt ∧ a2.toInt ≤ 31 ∧ (∃ y : Int32, gi u 29 10 = y ∧ 0 ≤ y.toInt ∧ y.toInt ≤ 7)) ∨ (r = 0 ∧ 3 ≤ a1.toInt ∧ 1 ≤ a2.toInt ∧ a2.toInt ≤ 31 ∧ (∃ y : Int32, gi u 29 11 = y ∧ 0 ≤ y.toInt ∧ y.toInt ≤ 3)) ∨ (r = 1) ∨ (r = 1 ∧ 1 ≤ a1.toInt ∧ a1.toInt ≤ 1 ∧ 1 ≤ a2.toInt ∧ a2.toInt ≤ 31 ∧ (∃ y : Int32, gi u 29 9 = y ∧ 12 ≤ y.toInt ∧ y.toInt ≤ 12)) ∨ (r = 1 ∧ 2 ≤ a1.toInt ∧ a1.toInt ≤ 2 ∧ 1 ≤ a2.toInt ∧ a2.toInt ≤ 31 ∧ (∃ y : Int32, gi u 29 10 = y ∧ 8 ≤ y.toInt ∧ y.toInt ≤ 8)) ∨ (r = 1 ∧ 3 ≤ a1.toInt ∧ 1 ≤ a2.toInt ∧ a2.toInt ≤ 31 ∧ (∃ y : Int32, gi u 29 11 = y ∧ 4 ≤ y.toInt ∧ y.toInt ≤ 4)))
set_option maxHeartbeats 4000000 in
set_option maxRecDepth 100000 in
theorem kz_X7_isTooMany_1 (l : Launch) (adK adV : Nat → Nat) (dC : Nat → ClassId) (dI : Nat → Nat → Nat) (cy : Nat → ClassId) (ad : Nat → Nat) (B : Int) (hB0 : 2147483648 ≤ B) (hB1 : B ≤ 1152921504606846976) (qr : Nat) (s1 : Int)  (a1 : Int32) (ra1 : 0 ≤ a1.toInt) (ta1 : a1.toInt ≤ 26) (a2 : Int32) (ra2 : 0 ≤ a2.toInt) (ta2 : a2.toInt ≤ 32) (w0 : va_W) (sz : Nat) (hT : TW ksC ad cy B qr s1 w0)  : Met l yX7_isTooMany (wu yX7_isTooMany cX7_isTooMany 3 (some .boolean)) ({ frames := 1, cells := 0, slots := 0, locals := 12 }) (va_Pc [.ref (ad 29), .int a1, .int a2] (wpreS adK adV dC dI cy sz w0)) (va_Qi (Pz_X7_isTooMany_1 ad cy B qr s1 a1 a2 w0) (fun u : va_W => wpost dC dI cy (va_A w0 sz) u) (va_A w0 sz)) 0 0 (va_A w0 sz) := by
  refine Met.ofW (cc := cX7_isTooMany) (maxL := 3) (ret := (some .boolean)) (by decide) rfl ?_
  intro p e s m args below meth c s₁ Bk hml hv
  obtain ⟨rfl, ⟨hsz, hP, hK, hD0⟩, hE, hSR⟩ := hv
  have hx := Bk.exec
  have hb := Bk.bytes
  have hr := Bk.returns
  have hlocks := Bk.notSynchronized
  have hC : CallFix p m c cX7_isTooMany 3 s _ (wu yX7_isTooMany cX7_isTooMany 3 (some .boolean)) RX7 := ⟨hx, hb, hml, findClass_of_methodNamed Bk.named, atoms_spec (ws := (wu yX7_isTooMany cX7_isTooMany 3 (some .boolean))) Bk.pre⟩
  subst hsz
  have hD := hD0.self (sz := s.heap.size)
  generalize hAe : va_A w0 s.heap.size = A at hD hE ⊢
  have hA : ∀ q : Nat, s.heap.size ≤ q → A q := fun q h => by rw [← hAe]; exact Or.inr h
  have hw : Wd dC dI A s.heap s.heap [] w0 := ⟨hP, hD, va_S.rf⟩
  have hF : FE ksC ([] : List (Nat × Nat × Nat)) w0 w0 := FE.rf
  have hl := lv_entry ([.ref (ad 29), .int a1, .int a2]) (n := 3) (Nat.le_of_ble_eq_true rfl)
  rw [lg_entry_eq]
  generalize (lg_sl ([.ref (ad 29), .int a1, .int a2]) ++ List.replicate (3 - (lg_sl ([.ref (ad 29), .int a1, .int a2])).length) Slot.unset).toArray = ls at hl ⊢
  have hl : lv_has ls 3 [(0, .ref (ad 29)), (1, .int a1), (2, .int a2)] := hl
  generalize hloc : ([] : List Loc) = locs at hw ⊢
  have hinX7 : ∀ w ∈ u_ws RX7 TX7 12, w ∈ (wu yX7_isTooMany cX7_isTooMany 3 (some .boolean)) := fun _ h => List.mem_cons_of_mem _ (up_73 h)
  have J27 : ∀ (H : Heap) (locs : List Loc) (ls : Array Slot) (w1 : va_W), 0 ≤ a1.toInt → a1.toInt ≤ 26 → 0 ≤ a2.toInt → a2.toInt ≤ 32 → Wd dC dI A s.heap H locs w1 → TW ksC ad cy B qr s1 w1 → FE ksC ([] : List (Nat × Nat × Nat)) w0 w1 → TT (fun n => m_X7_isTooMany n 29 a1.toInt a2.toInt (sI w0)) (fun n => b_X7_isTooMany_27 n 29 (sI w1)) → lv_has ls 3 [(0, .ref (ad 29)), (1, .int a1), (2, .int a2)] → W p l e ({ frames := 1, cells := 0, slots := 0, locals := 12 }) s m (List.toArray [.ref (ad 29), .int a1, .int a2]) below meth c H locs 0 0 (MQ below (va_Qi (Pz_X7_isTooMany_1 ad cy B qr s1 a1 a2 w0) (fun u : va_W => wpost dC dI cy A u) A) (List.toArray [.ref (ad 29), .int a1, .int a2]) s 0 0 A) (F0 m 27 ls []) := by
    intro H locs ls w1 r2 t3 r4 t5 hw hT hF hM hl
    refine lv_iconst (v := 1) hx hb dX7_isTooMany_27 (by decide) ?_
    exact tk_zret hC hr rfl hlocks hK ⟨hT, hF, hM.ret (by decide), (Or.inr (Or.inr (Or.inr (Or.inr (Or.inl rfl)))))⟩ hw dX7_isTooMany_28
  have hM : TT (fun n => m_X7_isTooMany n 29 a1.toInt a2.toInt (sI w0)) (fun n => m_X7_isTooMany n 29 a1.toInt a2.toInt (sI w0)) := TT.rf
  refine lv_iload_n hx hb dX7_isTooMany_0 rfl (lv_at hl 2 rfl) ?_
  refine lv_bipush (v := 32) hx hb dX7_isTooMany_1 (by decide) ?_
  refine lv_icmp_ge (tgt := 27) hx hb dX7_isTooMany_3 (by decide) (fun c6 => ?_) (fun c6 => ?_)
  · have c6 : (32 : Int) ≤ a2.toInt := wk_le.mp c6
    replace hM := hM.pos c6
    exact J27  s.heap locs ls w0 (show 0 ≤ a1.toInt from ra1) (show a1.toInt ≤ 26 from ta1) (show 0 ≤ a2.toInt from ra2) (show a2.toInt ≤ 32 from ta2)  hw hT hF hM (lv_sub hl [0, 1, 2] rfl)
  · have c6 : a2.toInt < (32 : Int) := wk_leF c6
    replace hM := hM.neg (Int.not_le.mpr c6)
    refine lv_iload_n hx hb dX7_isTooMany_6 rfl (lv_at hl 1 rfl) ?_
    refine lv_if_ne (tgt := 14) hx hb dX7_isTooMany_7 (by decide) (fun c7 => ?_) (fun c7 => ?_)
    · have c7 : ¬ a1.toInt = (0 : Int) := wk_eqF c7
      replace hM := hM.pos c7
      refine lv_iconst (v := 0) hx hb dX7_isTooMany_14 (by decide) ?_
      refine lv_iload_n hx hb dX7_isTooMany_15 rfl (lv_at hl 2 rfl) ?_
      refine lv_if_ne (tgt := 23) hx hb dX7_isTooMany_16 (by decide) (fun c8 => ?_) (fun c8 => ?_)
      · have c8 : ¬ a2.toInt = (0 : Int) := wk_eqF c8
        replace hM := hM.pos c8
        refine lv_iconst (v := 0) hx hb dX7_isTooMany_23 (by decide) ?_
        refine lv_icmp_eq (tgt := 29) hx hb dX7_isTooMany_24 (by decide) (fun _ => ?_) (fun c => absurd (by decide) c)
        replace hM := hM.pos (by decide)
        refine lv_iload_n hx hb dX7_isTooMany_29 rfl (lv_at hl 1 rfl) ?_
        rcases (show a1.toInt = 1 ∨ a1.toInt = 2 ∨ (a1.toInt < 0 ∨ 2 < a1.toInt) by omega) with c9 | c9 | c9
        · refine lv_tableIn (off := 28) (tgt := 58) hx hb dX7_isTooMany_30 (by omega) (by omega) (by rw [c9]; rfl) (by decide) ?_
          replace hM := hM.neg (by omega)
          replace hM := hM.pos (by omega)
          refine lv_aload_n hx hb dX7_isTooMany_58 rfl (lv_at hl 0 rfl) ?_
          refine tk_geti hC hK hw hT hinX7 kC_at29 (by decide) rfl 9 (by decide) (List.mem_cons_of_mem _ uw_9_8) rfl rfl dX7_isTooMany_59 (fun x10 c11 rx10 tx10 => ?_)
          replace hM := hM.rd (sI_at c11)
          refine lv_bipush (v := 12) hx hb dX7_isTooMany_62 (by decide) ?_
          refine lv_icmp_lt (tgt := 71) hx hb dX7_isTooMany_64 (by decide) (fun c12 => ?_) (fun c12 => ?_)
          · have c12 : x10.toInt < (12 : Int) := wk_lt.mp c12
            replace hM := hM.pos c12
            refine lv_iconst (v := 0) hx hb dX7_isTooMany_71 (by decide) ?_
            exact tk_zret hC hr rfl hlocks hK ⟨hT, hF, hM.ret (by decide), (Or.inr (Or.inl ⟨rfl, (show 1 ≤ a1.toInt by first | with_reducible assumption | omega), (show a1.toInt ≤ 1 by first | with_reducible assumption | omega), (show 1 ≤ a2.toInt by first | with_reducible assumption | omega), (show a2.toInt ≤ 31 by first | with_reducible assumption | omega), ⟨x10, c11, (show 0 ≤ x10.toInt from rx10), (show x10.toInt ≤ 11 by first | with_reducible assumption | omega)⟩⟩))⟩ hw dX7_isTooMany_72
          · have c12 : (12 : Int) ≤ x10.toInt := wk_ltF c12
            replace hM := hM.neg (Int.not_lt.mpr c12)
            refine lv_iconst (v := 1) hx hb dX7_isTooMany_67 (by decide) ?_
            refine lv_goto (tgt := 72) hx hb dX7_isTooMany_68 (by decide) ?_
            exact tk_zret hC hr rfl hlocks hK ⟨hT, hF, hM.ret (by decide), (Or.inr (Or.inr (Or.inr (Or.inr (Or.inr (Or.inl ⟨rfl, (show 1 ≤ a1.toInt by first | with_reducible assumption | omega), (show a1.toInt ≤ 1 by first | with_reducible assumption | omega), (show 1 ≤ a2.toInt by first | with_reducible assumption | omega), (show a2.toInt ≤ 31 by first | with_reducible assumption | omega), ⟨x10, c11, (show 12 ≤ x10.toInt by first | with_reducible assumption | omega), (show x10.toInt ≤ 12 from tx10)⟩⟩))))))⟩ hw dX7_isTooMany_72
        · refine lv_tableIn (off := 43) (tgt := 73) hx hb dX7_isTooMany_30 (by omega) (by omega) (by rw [c9]; rfl) (by decide) ?_
          replace hM := hM.neg (by omega)
          replace hM := hM.neg (by omega)
          replace hM := hM.pos (by omega)
          refine lv_aload_n hx hb dX7_isTooMany_73 rfl (lv_at hl 0 rfl) ?_
          refine tk_geti hC hK hw hT hinX7 kC_at29 (by decide) rfl 10 (by decide) (List.mem_cons_of_mem _ uw_9_9) rfl rfl dX7_isTooMany_74 (fun x13 c14 rx13 tx13 => ?_)
          replace hM := hM.rd (sI_at c14)
          refine lv_bipush (v := 8) hx hb dX7_isTooMany_77 (by decide) ?_
          refine lv_icmp_lt (tgt := 86) hx hb dX7_isTooMany_79 (by decide) (fun c15 => ?_) (fun c15 => ?_)
          · have c15 : x13.toInt < (8 : Int) := wk_lt.mp c15
            replace hM := hM.pos c15
            refine lv_iconst (v := 0) hx hb dX7_isTooMany_86 (by decide) ?_
            exact tk_zret hC hr rfl hlocks hK ⟨hT, hF, hM.ret (by decide), (Or.inr (Or.inr (Or.inl ⟨rfl, (show 2 ≤ a1.toInt by first | with_reducible assumption | omega), (show a1.toInt ≤ 2 by first | with_reducible assumption | omega), (show 1 ≤ a2.toInt by first | with_reducible assumption | omega), (show a2.toInt ≤ 31 by first | with_reducible assumption | omega), ⟨x13, c14, (show 0 ≤ x13.toInt from rx13), (show x13.toInt ≤ 7 by first | with_reducible assumption | omega)⟩⟩)))⟩ hw dX7_isTooMany_87
          · have c15 : (8 : Int) ≤ x13.toInt := wk_ltF c15
            replace hM := hM.neg (Int.not_lt.mpr c15)
            refine lv_iconst (v := 1) hx hb dX7_isTooMany_82 (by decide) ?_
            refine lv_goto (tgt := 87) hx hb dX7_isTooMany_83 (by decide) ?_
            exact tk_zret hC hr rfl hlocks hK ⟨hT, hF, hM.ret (by decide), (Or.inr (Or.inr (Or.inr (Or.inr (Or.inr (Or.inr (Or.inl ⟨rfl, (show 2 ≤ a1.toInt by first | with_reducible assumption | omega), (show a1.toInt ≤ 2 by first | with_reducible assumption | omega), (show 1 ≤ a2.toInt by first | with_reducible assumption | omega), (show a2.toInt ≤ 31 by first | with_reducible assumption | omega), ⟨x13, c14, (show 8 ≤ x13.toInt by first | with_reducible assumption | omega), (show x13.toInt ≤ 8 from tx13)⟩⟩)))))))⟩ hw dX7_isTooMany_87
        · refine lv_tableOut (tgt := 88) hx hb dX7_isTooMany_30 c9 (by decide) ?_
          replace hM := hM.neg (by omega)
          replace hM := hM.neg (by omega)
          replace hM := hM.neg (by omega)
          refine lv_aload_n hx hb dX7_isTooMany_88 rfl (lv_at hl 0 rfl) ?_
          refine tk_geti hC hK hw hT hinX7 kC_at29 (by decide) rfl 11 (by decide) (List.mem_cons_of_mem _ uw_9_10) rfl rfl dX7_isTooMany_89 (fun x16 c17 rx16 tx16 => ?_)
          replace hM := hM.rd (sI_at c17)
          refine lv_iconst (v := 4) hx hb dX7_isTooMany_92 (by decide) ?_
          refine lv_icmp_lt (tgt := 100) hx hb dX7_isTooMany_93 (by decide) (fun c18 => ?_) (fun c18 => ?_)
          · have c18 : x16.toInt < (4 : Int) := wk_lt.mp c18
            replace hM := hM.pos c18
            refine lv_iconst (v := 0) hx hb dX7_isTooMany_100 (by decide) ?_
            exact tk_zret hC hr rfl hlocks hK ⟨hT, hF, hM.ret (by decide), (Or.inr (Or.inr (Or.inr (Or.inl ⟨rfl, (show 3 ≤ a1.toInt by first | with_reducible assumption | omega), (show 1 ≤ a2.toInt by first | with_reducible assumption | omega), (show a2.toInt ≤ 31 by first | with_reducible assumption | omega), ⟨x16, c17, (show 0 ≤ x16.toInt from rx16), (show x16.toInt ≤ 3 by first | with_reducible assumption | omega)⟩⟩))))⟩ hw dX7_isTooMany_101
          · have c18 : (4 : Int) ≤ x16.toInt := wk_ltF c18
            replace hM := hM.neg (Int.not_lt.mpr c18)
            refine lv_iconst (v := 1) hx hb dX7_isTooMany_96 (by decide) ?_
            refine lv_goto (tgt := 101) hx hb dX7_isTooMany_97 (by decide) ?_
            exact tk_zret hC hr rfl hlocks hK ⟨hT, hF, hM.ret (by decide), (Or.inr (Or.inr (Or.inr (Or.inr (Or.inr (Or.inr (Or.inr ⟨rfl, (show 3 ≤ a1.toInt by first | with_reducible assumption | omega), (show 1 ≤ a2.toInt by first | with_reducible assumption | omega), (show a2.toInt ≤ 31 by first | with_reducible assumption | omega), ⟨x16, c17, (show 4 ≤ x16.toInt by first | with_reducible assumption | omega), (show x16.toInt ≤ 4 from tx16)⟩⟩)))))))⟩ hw dX7_isTooMany_101
      · have c8 : a2.toInt = (0 : Int) := wk_eq.mp c8
        replace hM := hM.neg (fun q => q c8)
        refine lv_iconst (v := 1) hx hb dX7_isTooMany_19 (by decide) ?_
        refine lv_goto (tgt := 24) hx hb dX7_isTooMany_20 (by decide) ?_
        refine lv_icmp_eq (tgt := 29) hx hb dX7_isTooMany_24 (by decide) (fun c => absurd c (by decide)) (fun _ => ?_)
        replace hM := hM.neg (by decide)
        exact J27  s.heap locs ls w0 (show 0 ≤ a1.toInt from ra1) (show a1.toInt ≤ 26 from ta1) (show 0 ≤ a2.toInt from ra2) (show a2.toInt ≤ 32 from ta2)  hw hT hF hM (lv_sub hl [0, 1, 2] rfl)
    · have c7 : a1.toInt = (0 : Int) := wk_eq.mp c7
      replace hM := hM.neg (fun q => q c7)
      refine lv_iconst (v := 1) hx hb dX7_isTooMany_10 (by decide) ?_
      refine lv_goto (tgt := 15) hx hb dX7_isTooMany_11 (by decide) ?_
      refine lv_iload_n hx hb dX7_isTooMany_15 rfl (lv_at hl 2 rfl) ?_
      refine lv_if_ne (tgt := 23) hx hb dX7_isTooMany_16 (by decide) (fun c19 => ?_) (fun c19 => ?_)
      · have c19 : ¬ a2.toInt = (0 : Int) := wk_eqF c19
        replace hM := hM.pos c19
        refine lv_iconst (v := 0) hx hb dX7_isTooMany_23 (by decide) ?_
        refine lv_icmp_eq (tgt := 29) hx hb dX7_isTooMany_24 (by decide) (fun c => absurd c (by decide)) (fun _ => ?_)
        replace hM := hM.neg (by decide)
        exact J27  s.heap locs ls w0 (show 0 ≤ a1.toInt from ra1) (show a1.toInt ≤ 26 from ta1) (show 0 ≤ a2.toInt from ra2) (show a2.toInt ≤ 32 from ta2)  hw hT hF hM (lv_sub hl [0, 1, 2] rfl)
      · have c19 : a2.toInt = (0 : Int) := wk_eq.mp c19
        replace hM := hM.neg (fun q => q c19)
        refine lv_iconst (v := 1) hx hb dX7_isTooMany_19 (by decide) ?_
        refine lv_goto (tgt := 24) hx hb dX7_isTooMany_20 (by decide) ?_
        refine lv_icmp_eq (tgt := 29) hx hb dX7_isTooMany_24 (by decide) (fun _ => ?_) (fun c => absurd (by decide) c)
        replace hM := hM.pos (by decide)
        refine lv_iload_n hx hb dX7_isTooMany_29 rfl (lv_at hl 1 rfl) ?_
        have c20 : a1.toInt = 0 := by omega
        refine lv_tableIn (off := 26) (tgt := 56) hx hb dX7_isTooMany_30 (by omega) (by omega) (by rw [c20]; rfl) (by decide) ?_
        replace hM := hM.pos (by omega)
        refine lv_iconst (v := 0) hx hb dX7_isTooMany_56 (by decide) ?_
        exact tk_zret hC hr rfl hlocks hK ⟨hT, hF, hM.ret (by decide), (Or.inl ⟨rfl, (show a1.toInt ≤ 0 by first | with_reducible assumption | omega), (show a2.toInt ≤ 0 by first | with_reducible assumption | omega)⟩)⟩ hw dX7_isTooMany_57
abbrev Pz_X6_isFaulty_1 (ad : Nat → Nat) (cy : Nat → ClassId) (B : Int) (qr : Nat) (s1 : Int)  (w0 : va_W) : Int32 → va_W → Prop := fun r u => TW ksC ad cy B qr s1 u ∧ FE ksC ([] : List (Nat × Nat × Nat)) w0 u ∧ Ev (fun n => m_X6_isFaulty n 1 (sI w0)) (r.toInt, sI u) ∧ ((r = 0 ∧ (∃ y : Int32, gi u 1 4 = y ∧ 0 ≤ y.toInt ∧ y.toInt ≤ 0)) ∨ (r = 1 ∧ (∃ y : Int32, gi u 1 4 = y ∧ 1 ≤ y.toInt ∧ y.toInt ≤ 3205)))
set_option maxHeartbeats 4000000 in
set_option maxRecDepth 100000 in
theorem kz_X6_isFaulty_1 (l : Launch) (adK adV : Nat → Nat) (dC : Nat → ClassId) (dI : Nat → Nat → Nat) (cy : Nat → ClassId) (ad : Nat → Nat) (B : Int) (hB0 : 2147483648 ≤ B) (hB1 : B ≤ 1152921504606846976) (qr : Nat) (s1 : Int)   (w0 : va_W) (sz : Nat) (hT : TW ksC ad cy B qr s1 w0)  : Met l yX6_isFaulty (wu yX6_isFaulty cX6_isFaulty 1 (some .boolean)) ({ frames := 1, cells := 0, slots := 0, locals := 12 }) (va_Pc [.ref (ad 1)] (wpreS adK adV dC dI cy sz w0)) (va_Qi (Pz_X6_isFaulty_1 ad cy B qr s1  w0) (fun u : va_W => wpost dC dI cy (va_A w0 sz) u) (va_A w0 sz)) 0 0 (va_A w0 sz) := by
  refine Met.ofW (cc := cX6_isFaulty) (maxL := 1) (ret := (some .boolean)) (by decide) rfl ?_
  intro p e s m args below meth c s₁ Bk hml hv
  obtain ⟨rfl, ⟨hsz, hP, hK, hD0⟩, hE, hSR⟩ := hv
  have hx := Bk.exec
  have hb := Bk.bytes
  have hr := Bk.returns
  have hlocks := Bk.notSynchronized
  have hC : CallFix p m c cX6_isFaulty 1 s _ (wu yX6_isFaulty cX6_isFaulty 1 (some .boolean)) RX6 := ⟨hx, hb, hml, findClass_of_methodNamed Bk.named, atoms_spec (ws := (wu yX6_isFaulty cX6_isFaulty 1 (some .boolean))) Bk.pre⟩
  subst hsz
  have hD := hD0.self (sz := s.heap.size)
  generalize hAe : va_A w0 s.heap.size = A at hD hE ⊢
  have hA : ∀ q : Nat, s.heap.size ≤ q → A q := fun q h => by rw [← hAe]; exact Or.inr h
  have hw : Wd dC dI A s.heap s.heap [] w0 := ⟨hP, hD, va_S.rf⟩
  have hF : FE ksC ([] : List (Nat × Nat × Nat)) w0 w0 := FE.rf
  have hl := lv_entry ([.ref (ad 1)]) (n := 1) (Nat.le_of_ble_eq_true rfl)
  rw [lg_entry_eq]
  generalize (lg_sl ([.ref (ad 1)]) ++ List.replicate (1 - (lg_sl ([.ref (ad 1)])).length) Slot.unset).toArray = ls at hl ⊢
  have hl : lv_has ls 1 [(0, .ref (ad 1))] := hl
  generalize hloc : ([] : List Loc) = locs at hw ⊢
  have hinX6 : ∀ w ∈ u_ws RX6 TX6 5, w ∈ (wu yX6_isFaulty cX6_isFaulty 1 (some .boolean)) := fun _ h => List.mem_cons_of_mem _ (up_72 h)
  have hM : TT (fun n => m_X6_isFaulty n 1 (sI w0)) (fun n => m_X6_isFaulty n 1 (sI w0)) := TT.rf
  refine lv_aload_n hx hb dX6_isFaulty_0 rfl (lv_at hl 0 rfl) ?_
  refine tk_geti hC hK hw hT hinX6 kC_at1 (by decide) rfl 4 (by decide) (List.mem_cons_of_mem _ uw_9_18) rfl rfl dX6_isFaulty_1 (fun x1 c2 rx1 tx1 => ?_)
  replace hM := hM.rd (sI_at c2)
  refine lv_if_eq (tgt := 11) hx hb dX6_isFaulty_4 (by decide) (fun c3 => ?_) (fun c3 => ?_)
  · have c3 : x1.toInt = (0 : Int) := wk_eq.mp c3
    replace hM := hM.pos c3
    refine lv_iconst (v := 0) hx hb dX6_isFaulty_11 (by decide) ?_
    exact tk_zret hC hr rfl hlocks hK ⟨hT, hF, hM.ret (by decide), (Or.inl ⟨rfl, ⟨x1, c2, (show 0 ≤ x1.toInt from rx1), (show x1.toInt ≤ 0 by first | with_reducible assumption | omega)⟩⟩)⟩ hw dX6_isFaulty_12
  · have c3 : ¬ x1.toInt = (0 : Int) := wk_eqF c3
    replace hM := hM.neg c3
    refine lv_iconst (v := 1) hx hb dX6_isFaulty_7 (by decide) ?_
    refine lv_goto (tgt := 12) hx hb dX6_isFaulty_8 (by decide) ?_
    exact tk_zret hC hr rfl hlocks hK ⟨hT, hF, hM.ret (by decide), (Or.inr ⟨rfl, ⟨x1, c2, (show 1 ≤ x1.toInt by first | with_reducible assumption | omega), (show x1.toInt ≤ 3205 from tx1)⟩⟩)⟩ hw dX6_isFaulty_12
abbrev Pz_X6_blame_2 (ad : Nat → Nat) (cy : Nat → ClassId) (B : Int) (qr : Nat) (s1 : Int) (a1 : Int32) (a2 : Int32) (w0 : va_W) : va_W → Prop := fun u => TW ksC ad cy B qr s1 u ∧ FE ksC [(6, 4, 4)] w0 u ∧ Ev (fun n => m_X6_blame n 1 a1.toInt a2.toInt (sI w0)) (0, sI u) ∧ (((∃ y : Int32, gi u 1 4 = y ∧ 1 ≤ y.toInt ∧ y.toInt ≤ 3205)))
set_option maxHeartbeats 4000000 in
set_option maxRecDepth 100000 in
theorem kz_X6_blame_2 (l : Launch) (adK adV : Nat → Nat) (dC : Nat → ClassId) (dI : Nat → Nat → Nat) (cy : Nat → ClassId) (ad : Nat → Nat) (B : Int) (hB0 : 2147483648 ≤ B) (hB1 : B ≤ 1152921504606846976) (qr : Nat) (s1 : Int)  (a1 : Int32) (ra1 : 0 ≤ a1.toInt) (ta1 : a1.toInt ≤ 400) (a2 : Int32) (ra2 : 0 ≤ a2.toInt) (ta2 : a2.toInt ≤ 4) (w0 : va_W) (sz : Nat) (hT : TW ksC ad cy B qr s1 w0) (cf0_ : gi w0 1 4 = 0) : Met l yX6_blame (wu yX6_blame cX6_blame 3 none) ({ frames := 1, cells := 0, slots := 0, locals := 12 }) (va_Pc [.ref (ad 1), .int a1, .int a2] (wpreS adK adV dC dI cy sz w0)) (va_Qv (Pz_X6_blame_2 ad cy B qr s1 a1 a2 w0) (fun u : va_W => wpost dC dI cy (va_A w0 sz) u) (va_A w0 sz)) 0 0 (va_A w0 sz) := by
  refine Met.ofW (cc := cX6_blame) (maxL := 3) (ret := none) (by decide) rfl ?_
  intro p e s m args below meth c s₁ Bk hml hv
  obtain ⟨rfl, ⟨hsz, hP, hK, hD0⟩, hE, hSR⟩ := hv
  have hx := Bk.exec
  have hb := Bk.bytes
  have hr := Bk.returns
  have hlocks := Bk.notSynchronized
  have hC : CallFix p m c cX6_blame 3 s _ (wu yX6_blame cX6_blame 3 none) RX6 := ⟨hx, hb, hml, findClass_of_methodNamed Bk.named, atoms_spec (ws := (wu yX6_blame cX6_blame 3 none)) Bk.pre⟩
  subst hsz
  have hD := hD0.self (sz := s.heap.size)
  generalize hAe : va_A w0 s.heap.size = A at hD hE ⊢
  have hA : ∀ q : Nat, s.heap.size ≤ q → A q := fun q h => by rw [← hAe]; exact Or.inr h
  have hw : Wd dC dI A s.heap s.heap [] w0 := ⟨hP, hD, va_S.rf⟩
  have hF : FE ksC [(6, 4, 4)] w0 w0 := FE.rf
  have hl := lv_entry ([.ref (ad 1), .int a1, .int a2]) (n := 3) (Nat.le_of_ble_eq_true rfl)
  rw [lg_entry_eq]
  generalize (lg_sl ([.ref (ad 1), .int a1, .int a2]) ++ List.replicate (3 - (lg_sl ([.ref (ad 1), .int a1, .int a2])).length) Slot.unset).toArray = ls at hl ⊢
  have hl : lv_has ls 3 [(0, .ref (ad 1)), (1, .int a1), (2, .int a2)] := hl
  generalize hloc : ([] : List Loc) = locs at hw ⊢
  have hinX6 : ∀ w ∈ u_ws RX6 TX6 5, w ∈ (wu yX6_blame cX6_blame 3 none) := fun _ h => List.mem_cons_of_mem _ (up_72 h)
  have J19 : ∀ (f19_1_4 : Int32) (H : Heap) (locs : List Loc) (ls : Array Slot) (w1 : va_W), 0 ≤ a1.toInt → a1.toInt ≤ 400 → 0 ≤ a2.toInt → a2.toInt ≤ 4 → 1 ≤ f19_1_4.toInt → f19_1_4.toInt ≤ 3205 → Wd dC dI A s.heap H locs w1 → TW ksC ad cy B qr s1 w1 → FE ksC [(6, 4, 4)] w0 w1 → gi w1 1 4 = f19_1_4 → TT (fun n => m_X6_blame n 1 a1.toInt a2.toInt (sI w0)) (fun n => b_X6_blame_19 n 1 (sI w1)) → lv_has ls 3 [(0, .ref (ad 1)), (1, .int a1), (2, .int a2)] → W p l e ({ frames := 1, cells := 0, slots := 0, locals := 12 }) s m (List.toArray [.ref (ad 1), .int a1, .int a2]) below meth c H locs 0 0 (MQ below (va_Qv (Pz_X6_blame_2 ad cy B qr s1 a1 a2 w0) (fun u : va_W => wpost dC dI cy A u) A) (List.toArray [.ref (ad 1), .int a1, .int a2]) s 0 0 A) (F0 m 19 ls []) := by
    intro f19_1_4 H locs ls w1 r2 t3 r4 t5 r6 t7 hw hT hF c8 hM hl
    exact tk_vret hC hr hlocks hK ⟨hT, hF, hM.ret rfl, ⟨f19_1_4, c8, (show 1 ≤ f19_1_4.toInt from r6), (show f19_1_4.toInt ≤ 3205 from t7)⟩⟩ hw dX6_blame_19
  have hM : TT (fun n => m_X6_blame n 1 a1.toInt a2.toInt (sI w0)) (fun n => m_X6_blame n 1 a1.toInt a2.toInt (sI w0)) := TT.rf
  refine lv_aload_n hx hb dX6_blame_0 rfl (lv_at hl 0 rfl) ?_
  refine tk_geti hC hK hw hT hinX6 kC_at1 (by decide) rfl 4 (by decide) (List.mem_cons_of_mem _ uw_9_18) rfl rfl dX6_blame_1 (fun x9 c10 rx9 tx9 => ?_)
  refine wk_top 0 (c10.symm.trans cf0_) ?_
  replace hM := hM.rd (v := 0) ((sI_at cf0_).trans (by decide))
  refine lv_if_ne (tgt := 19) hx hb dX6_blame_4 (by decide) (fun c => absurd (by decide) c) (fun _ => ?_)
  replace hM := hM.neg (by decide)
  refine lv_aload_n hx hb dX6_blame_7 rfl (lv_at hl 0 rfl) ?_
  refine lv_iconst (v := 1) hx hb dX6_blame_8 (by decide) ?_
  refine lv_bipush (v := 8) hx hb dX6_blame_9 (by decide) ?_
  refine lv_iload_n hx hb dX6_blame_11 rfl (lv_at hl 1 rfl) ?_
  refine lv_imul hx hb dX6_blame_12 ?_
  refine lv_topi (fun x11 ex11 => ?_)
  have ezx11 := ex11
  have ex11 : x11.toInt = (8 : Int) * a1.toInt := by rw [ex11]; exact wk_mul (show (-2147483648) ≤ (8 : Int) * a1.toInt by omega) (show (8 : Int) * a1.toInt ≤ 2147483647 by omega)
  replace hM := hM.lt ex11.symm
  refine lv_iadd hx hb dX6_blame_13 ?_
  refine lv_topi (fun x12 ex12 => ?_)
  have ezx12 := ex12
  have ex12 : x12.toInt = (1 : Int) + x11.toInt := by rw [ex12]; exact wk_add (show (-2147483648) ≤ (1 : Int) + x11.toInt by omega) (show (1 : Int) + x11.toInt ≤ 2147483647 by omega)
  replace hM := hM.lt ex12.symm
  refine lv_iload_n hx hb dX6_blame_14 rfl (lv_at hl 2 rfl) ?_
  refine lv_iadd hx hb dX6_blame_15 ?_
  refine lv_topi (fun x13 ex13 => ?_)
  have ezx13 := ex13
  have ex13 : x13.toInt = x12.toInt + a2.toInt := by rw [ex13]; exact wk_add (show (-2147483648) ≤ x12.toInt + a2.toInt by omega) (show x12.toInt + a2.toInt ≤ 2147483647 by omega)
  replace hM := hM.lt ex13.symm
  refine tk_puti hC hK hw hT hinX6 tyX6_ok nmX6 kC_at1 (by decide) rfl rfl 4 (by decide) (List.mem_cons_of_mem _ uw_9_18) rfl rfl rfl rfl (show 0 ≤ x13.toInt by first | with_reducible assumption | omega) (show x13.toInt ≤ 3205 by first | with_reducible assumption | omega) dX6_blame_16 (fun H locs w14 hw hT k16 c15 => ?_)
  replace hM := hM.wr (sI_up k16 c15)
  have hF := hF.put kC_at1 (k := 4) (by decide) k16
  exact J19 x13 H locs ls w14 (show 0 ≤ a1.toInt from ra1) (show a1.toInt ≤ 400 from ta1) (show 0 ≤ a2.toInt from ra2) (show a2.toInt ≤ 4 from ta2) (show 1 ≤ x13.toInt by first | with_reducible assumption | omega) (show x13.toInt ≤ 3205 by first | with_reducible assumption | omega)  hw hT hF c15 hM (lv_sub hl [0, 1, 2] rfl)
