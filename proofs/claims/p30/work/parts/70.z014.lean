abbrev Pz_X7_cornerAcross_2 (ad : Nat → Nat) (cy : Nat → ClassId) (B : Int) (qr : Nat) (s1 : Int) (a1 : Int32) (w0 : va_W) : Int32 → va_W → Prop := fun r u => TW ksC ad cy B qr s1 u ∧ FE ksC ([] : List (Nat × Nat × Nat)) w0 u ∧ Ev (fun n => m_X7_cornerAcross n 39 a1.toInt 1 (sI w0)) (r.toInt, sI u) ∧ ((0 ≤ r.toInt ∧ r.toInt ≤ 9))
set_option maxHeartbeats 4000000 in
set_option maxRecDepth 100000 in
theorem kz_X7_cornerAcross_2 (l : Launch) (adK adV : Nat → Nat) (dC : Nat → ClassId) (dI : Nat → Nat → Nat) (cy : Nat → ClassId) (ad : Nat → Nat) (B : Int) (hB0 : 2147483648 ≤ B) (hB1 : B ≤ 1152921504606846976) (qr : Nat) (s1 : Int)  (a1 : Int32) (ra1 : 0 ≤ a1.toInt) (ta1 : a1.toInt ≤ 12) (w0 : va_W) (sz : Nat) (hT : TW ksC ad cy B qr s1 w0)  : Met l yX7_cornerAcross (wu yX7_cornerAcross cX7_cornerAcross 3 (some .int)) ({ frames := 1, cells := 0, slots := 0, locals := 12 }) (va_Pc [.ref (ad 39), .int a1, .int 1] (wpreS adK adV dC dI cy sz w0)) (va_Qi (Pz_X7_cornerAcross_2 ad cy B qr s1 a1 w0) (fun u : va_W => wpost dC dI cy (va_A w0 sz) u) (va_A w0 sz)) 0 0 (va_A w0 sz) := by
  refine Met.ofW (cc := cX7_cornerAcross) (maxL := 3) (ret := (some .int)) (by decide) rfl ?_
  intro p e s m args below meth c s₁ Bk hml hv
  obtain ⟨rfl, ⟨hsz, hP, hK, hD0⟩, hE, hSR⟩ := hv
  have hx := Bk.exec
  have hb := Bk.bytes
  have hr := Bk.returns
  have hlocks := Bk.notSynchronized
  have hC : CallFix p m c cX7_cornerAcross 3 s _ (wu yX7_cornerAcross cX7_cornerAcross 3 (some .int)) RX7 := ⟨hx, hb, hml, findClass_of_methodNamed Bk.named, atoms_spec (ws := (wu yX7_cornerAcross cX7_cornerAcross 3 (some .int))) Bk.pre⟩
  subst hsz
  have hD := hD0.self (sz := s.heap.size)
  generalize hAe : va_A w0 s.heap.size = A at hD hE ⊢
  have hA : ∀ q : Nat, s.heap.size ≤ q → A q := fun q h => by rw [← hAe]; exact Or.inr h
  have hw : Wd dC dI A s.heap s.heap [] w0 := ⟨hP, hD, va_S.rf⟩
  have hF : FE ksC ([] : List (Nat × Nat × Nat)) w0 w0 := FE.rf
  have hl := lv_entry ([.ref (ad 39), .int a1, .int 1]) (n := 3) (Nat.le_of_ble_eq_true rfl)
  rw [lg_entry_eq]
  generalize (lg_sl ([.ref (ad 39), .int a1, .int 1]) ++ List.replicate (3 - (lg_sl ([.ref (ad 39), .int a1, .int 1])).length) Slot.unset).toArray = ls at hl ⊢
  have hl : lv_has ls 3 [(0, .ref (ad 39)), (1, .int a1), (2, .int 1)] := hl
  generalize hloc : ([] : List Loc) = locs at hw ⊢
  have hinX7 : ∀ w ∈ u_ws RX7 TX7 12, w ∈ (wu yX7_cornerAcross cX7_cornerAcross 3 (some .int)) := fun _ h => List.mem_cons_of_mem _ (up_73 h)
  have hM : TT (fun n => m_X7_cornerAcross n 39 a1.toInt 1 (sI w0)) (fun n => m_X7_cornerAcross n 39 a1.toInt 1 (sI w0)) := TT.rf
  refine lv_aload_n hx hb dX7_cornerAcross_0 rfl (lv_at hl 0 rfl) ?_
  refine tk_getO hC hK hw hT hinX7 kC_at39 (by decide) rfl 0 (by decide) (List.mem_cons_of_mem _ uw_2_17) rfl rfl dX7_cornerAcross_1 ?_
  refine lv_iconst (v := 2) hx hb dX7_cornerAcross_4 (by decide) ?_
  refine lv_iload_n hx hb dX7_cornerAcross_5 rfl (lv_at hl 1 rfl) ?_
  refine lv_imul hx hb dX7_cornerAcross_6 ?_
  refine lv_topi (fun x1 ex1 => ?_)
  have ezx1 := ex1
  have ex1 : x1.toInt = (2 : Int) * a1.toInt := by rw [ex1]; exact wk_mul (show (-2147483648) ≤ (2 : Int) * a1.toInt by omega) (show (2 : Int) * a1.toInt ≤ 2147483647 by omega)
  replace hM := hM.lt ex1.symm
  refine lv_iconst (v := 1) hx hb dX7_cornerAcross_7 (by decide) ?_
  refine lv_iadd hx hb dX7_cornerAcross_8 ?_
  refine lv_topi (fun x2 ex2 => ?_)
  have ezx2 := ex2
  have ex2 : x2.toInt = x1.toInt + (1 : Int) := by rw [ex2]; exact wk_add (show (-2147483648) ≤ x1.toInt + (1 : Int) by omega) (show x1.toInt + (1 : Int) ≤ 2147483647 by omega)
  replace hM := hM.lt ex2.symm
  refine lv_iload_n hx hb dX7_cornerAcross_9 rfl (lv_at hl 2 rfl) ?_
  refine lv_isub hx hb dX7_cornerAcross_10 ?_
  refine lv_topi (fun x3 ex3 => ?_)
  have ezx3 := ex3
  have ex3 : x3.toInt = x2.toInt - (1 : Int) := by rw [ex3]; exact wk_sub (show (-2147483648) ≤ x2.toInt - (1 : Int) by omega) (show x2.toInt - (1 : Int) ≤ 2147483647 by omega)
  replace hM := hM.lt ex3.symm
  refine tk_iald hC hK hw hT kC_at40 rfl rfl (show 0 ≤ x3.toInt by first | with_reducible assumption | omega) (show x3.toInt < 26 by first | with_reducible assumption | omega) dX7_cornerAcross_11 (fun x4 c5 rx4 tx4 => ?_)
  have hox4 := c5
  replace hM := hM.rd (sI_at hox4)
  have c5 : gi w0 40 (2 * a1.toInt + 0).toNat = x4 := (congrArg (gi w0 40) (congrArg Int.toNat (show 2 * a1.toInt + 0 = x3.toInt by first | exact Int.le_antisymm (by omega) (by omega) | omega))).trans c5
  exact tk_iret hC hr hlocks hK ⟨hT, hF, hM.ret rfl, ⟨(show 0 ≤ x4.toInt from rx4), (show x4.toInt ≤ 9 from tx4)⟩⟩ hw dX7_cornerAcross_12
abbrev Pz_X7_openHours_2 (ad : Nat → Nat) (cy : Nat → ClassId) (B : Int) (qr : Nat) (s1 : Int) (a1 : Int32) (a3 : Int64) (w0 : va_W) : Int32 → va_W → Prop := fun r u => TW ksC ad cy B qr s1 u ∧ FE ksC ([] : List (Nat × Nat × Nat)) w0 u ∧ Ev (fun n => m_X7_openHours n 39 a1.toInt 1 a3.toInt 1 (sI w0)) (r.toInt, sI u) ∧ ((0 ≤ r.toInt ∧ r.toInt ≤ 16777215))
set_option maxHeartbeats 4000000 in
set_option maxRecDepth 100000 in
theorem kz_X7_openHours_2 (l : Launch) (adK adV : Nat → Nat) (dC : Nat → ClassId) (dI : Nat → Nat → Nat) (cy : Nat → ClassId) (ad : Nat → Nat) (B : Int) (hB0 : 2147483648 ≤ B) (hB1 : B ≤ 1152921504606846976) (qr : Nat) (s1 : Int)  (a1 : Int32) (ra1 : 0 ≤ a1.toInt) (ta1 : a1.toInt ≤ 12) (a3 : Int64) (ra3 : 0 ≤ a3.toInt) (ta3 : a3.toInt ≤ 4249) (w0 : va_W) (sz : Nat) (hT : TW ksC ad cy B qr s1 w0)  : Met l yX7_openHours (wu yX7_openHours cX7_openHours 8 (some .int)) ({ frames := 1, cells := 0, slots := 0, locals := 12 }) (va_Pc [.ref (ad 39), .int a1, .int 1, .long a3, .int 1] (wpreS adK adV dC dI cy sz w0)) (va_Qi (Pz_X7_openHours_2 ad cy B qr s1 a1 a3 w0) (fun u : va_W => wpost dC dI cy (va_A w0 sz) u) (va_A w0 sz)) 0 0 (va_A w0 sz) := by
  refine Met.ofW (cc := cX7_openHours) (maxL := 8) (ret := (some .int)) (by decide) rfl ?_
  intro p e s m args below meth c s₁ Bk hml hv
  obtain ⟨rfl, ⟨hsz, hP, hK, hD0⟩, hE, hSR⟩ := hv
  have hx := Bk.exec
  have hb := Bk.bytes
  have hr := Bk.returns
  have hlocks := Bk.notSynchronized
  have hC : CallFix p m c cX7_openHours 8 s _ (wu yX7_openHours cX7_openHours 8 (some .int)) RX7 := ⟨hx, hb, hml, findClass_of_methodNamed Bk.named, atoms_spec (ws := (wu yX7_openHours cX7_openHours 8 (some .int))) Bk.pre⟩
  subst hsz
  have hD := hD0.self (sz := s.heap.size)
  generalize hAe : va_A w0 s.heap.size = A at hD hE ⊢
  have hA : ∀ q : Nat, s.heap.size ≤ q → A q := fun q h => by rw [← hAe]; exact Or.inr h
  have hw : Wd dC dI A s.heap s.heap [] w0 := ⟨hP, hD, va_S.rf⟩
  have hF : FE ksC ([] : List (Nat × Nat × Nat)) w0 w0 := FE.rf
  have hl := lv_entry ([.ref (ad 39), .int a1, .int 1, .long a3, .int 1]) (n := 8) (Nat.le_of_ble_eq_true rfl)
  rw [lg_entry_eq]
  generalize (lg_sl ([.ref (ad 39), .int a1, .int 1, .long a3, .int 1]) ++ List.replicate (8 - (lg_sl ([.ref (ad 39), .int a1, .int 1, .long a3, .int 1])).length) Slot.unset).toArray = ls at hl ⊢
  have hl : lv_has ls 8 [(0, .ref (ad 39)), (1, .int a1), (2, .int 1), (3, .long a3), (5, .int 1)] := hl
  generalize hloc : ([] : List Loc) = locs at hw ⊢
  have hinX7 : ∀ w ∈ u_ws RX7 TX7 12, w ∈ (wu yX7_openHours cX7_openHours 8 (some .int)) := fun _ h => List.mem_cons_of_mem _ (up_73 h)
  have J93 : ∀ (v93_6 : Int32) (v93_7 : Int32) (H : Heap) (locs : List Loc) (ls : Array Slot) (w1 : va_W), 0 ≤ a1.toInt → a1.toInt ≤ 12 → 0 ≤ a3.toInt → a3.toInt ≤ 4249 → 0 ≤ v93_7.toInt → v93_7.toInt ≤ 8 → Wd dC dI A s.heap H locs w1 → TW ksC ad cy B qr s1 w1 → FE ksC ([] : List (Nat × Nat × Nat)) w0 w1 → TT (fun n => m_X7_openHours n 39 a1.toInt 1 a3.toInt 1 (sI w0)) (fun n => b_X7_openHours_93 (j_X7_openHours 39 n) n 39 (a1.toInt) (sI w1)) → lv_has ls 8 [(0, .ref (ad 39)), (1, .int a1), (2, .int 1), (3, .long a3), (5, .int 1), (6, .int v93_6), (7, .int v93_7)] → W p l e ({ frames := 1, cells := 0, slots := 0, locals := 12 }) s m (List.toArray [.ref (ad 39), .int a1, .int 1, .long a3, .int 1]) below meth c H locs 0 0 (MQ below (va_Qi (Pz_X7_openHours_2 ad cy B qr s1 a1 a3 w0) (fun u : va_W => wpost dC dI cy A u) A) (List.toArray [.ref (ad 39), .int a1, .int 1, .long a3, .int 1]) s 0 0 A) (F0 m 93 ls []) := by
    intro v93_6 v93_7 H locs ls w1 r2 t3 r4 t5 r6 t7 hw hT hF hM hl
    refine lv_ldc (v := 16777215) hx hb hC.2.2.2.1 (hC.2.2.2.2 _ (List.mem_cons_of_mem _ uw_31_17)) dX7_openHours_93 ?_
    refine lv_aload_n hx hb dX7_openHours_95 rfl (lv_at hl 0 rfl) ?_
    refine tk_getO hC hK hw hT hinX7 kC_at39 (by decide) rfl 3 (by decide) (List.mem_cons_of_mem _ uw_2_20) rfl rfl dX7_openHours_96 ?_
    refine lv_iload_n hx hb dX7_openHours_99 rfl (lv_at hl 1 rfl) ?_
    refine tk_iald hC hK hw hT kC_at43 rfl rfl (show 0 ≤ a1.toInt from r2) (show a1.toInt < 13 from Int.lt_of_le_of_lt t3 (by decide)) dX7_openHours_100 (fun x8 c9 rx8 tx8 => ?_)
    have hox8 := c9
    replace hM := hM.rd (sI_at hox8)
    refine lv_iconst (v := (-1)) hx hb dX7_openHours_101 (by decide) ?_
    refine lv_ixor hx hb dX7_openHours_102 ?_
    refine lv_topi (fun x10 ex10 => ?_)
    have ezx10 := ex10
    replace hM := hM.lt (o32_e (f := fun x y => x ^^^ y) ezx10 rfl (by decide))
    refine lv_iand hx hb dX7_openHours_103 ?_
    refine lv_topi (fun x11 ex11 => ?_)
    have ezx11 := ex11
    have bx11 : 0 ≤ x11.toInt ∧ x11.toInt ≤ (16777215 : Int) := by rw [ex11]; exact wk_andC (by decide)
    replace hM := hM.lt (o32_e (f := fun x y => x &&& y) ezx11 (by decide) rfl)
    exact tk_iret hC hr hlocks hK ⟨hT, hF, hM.ret rfl, ⟨(show 0 ≤ x11.toInt by first | with_reducible assumption | omega), (show x11.toInt ≤ 16777215 by first | with_reducible assumption | omega)⟩⟩ hw dX7_openHours_104
  have L44 : ∀ (n44 : Nat) (v44_6 : Int32) (v44_7 : Int32) (H : Heap) (locs : List Loc) (ls : Array Slot) (w12 : va_W), 0 ≤ a1.toInt → a1.toInt ≤ 12 → 0 ≤ a3.toInt → a3.toInt ≤ 4249 → 0 ≤ v44_7.toInt → v44_7.toInt ≤ 8 → (8 - v44_7.toInt).toNat < n44 → Wd dC dI A s.heap H locs w12 → TW ksC ad cy B qr s1 w12 → FE ksC ([] : List (Nat × Nat × Nat)) w0 w12 → TT (fun n => m_X7_openHours n 39 a1.toInt 1 a3.toInt 1 (sI w0)) (fun n => j_X7_openHours 39 n 44 [a1.toInt, a3.toInt, v44_6.toInt, v44_7.toInt] (sI w12)) → lv_has ls 8 [(0, .ref (ad 39)), (1, .int a1), (2, .int 1), (3, .long a3), (5, .int 1), (6, .int v44_6), (7, .int v44_7)] → W p l e ({ frames := 1, cells := 0, slots := 0, locals := 12 }) s m (List.toArray [.ref (ad 39), .int a1, .int 1, .long a3, .int 1]) below meth c H locs 0 0 (MQ below (va_Qi (Pz_X7_openHours_2 ad cy B qr s1 a1 a3 w0) (fun u : va_W => wpost dC dI cy A u) A) (List.toArray [.ref (ad 39), .int a1, .int 1, .long a3, .int 1]) s 0 0 A) (F0 m 44 ls []) := by
    intro n44
    induction n44 with
    | zero => intro v44_6 v44_7 H locs ls w12 r13 t14 r15 t16 r17 t18 hm44 hw hT hF hM hl; omega
    | succ n44 ih44 =>
      intro v44_6 v44_7 H locs ls w12 r13 t14 r15 t16 r17 t18 hm44 hw hT hF hM hl
      have J81 : ∀ (H : Heap) (locs : List Loc) (ls : Array Slot) (w19 : va_W), 0 ≤ a1.toInt → a1.toInt ≤ 12 → 0 ≤ a3.toInt → a3.toInt ≤ 4249 → 0 ≤ v44_7.toInt → v44_7.toInt ≤ 7 → Wd dC dI A s.heap H locs w19 → TW ksC ad cy B qr s1 w19 → FE ksC ([] : List (Nat × Nat × Nat)) w0 w19 → TT (fun n => m_X7_openHours n 39 a1.toInt 1 a3.toInt 1 (sI w0)) (fun n => b_X7_openHours_81 (j_X7_openHours 39 n) n 39 (a1.toInt) (a3.toInt) (v44_6.toInt) (v44_7.toInt) (sI w19)) → lv_has ls 8 [(0, .ref (ad 39)), (1, .int a1), (2, .int 1), (3, .long a3), (5, .int 1), (6, .int v44_6), (7, .int v44_7)] → W p l e ({ frames := 1, cells := 0, slots := 0, locals := 12 }) s m (List.toArray [.ref (ad 39), .int a1, .int 1, .long a3, .int 1]) below meth c H locs 0 0 (MQ below (va_Qi (Pz_X7_openHours_2 ad cy B qr s1 a1 a3 w0) (fun u : va_W => wpost dC dI cy A u) A) (List.toArray [.ref (ad 39), .int a1, .int 1, .long a3, .int 1]) s 0 0 A) (F0 m 81 ls []) := by
        intro H locs ls w19 r20 t21 r22 t23 r24 t25 hw hT hF hM hl
        refine lv_iload hx hb dX7_openHours_81 (lv_at hl 5 rfl) ?_
        refine lv_iconst (v := 1) hx hb dX7_openHours_83 (by decide) ?_
        refine lv_ishr hx hb dX7_openHours_84 ?_
        refine lv_topi (fun x26 ex26 => ?_)
        have ezx26 := ex26
        replace hM := hM.lt (o32_e (f := fun x y => x >>> (y &&& 31)) ezx26 rfl (by decide))
        refine lv_istore (lv' := [(6, .int x26), (0, .ref (ad 39)), (1, .int a1), (2, .int 1), (3, .long a3), (5, .int 1), (7, .int v44_7)]) hx hb dX7_openHours_85 hl (by decide) rfl (fun ls hl => ?_)
        obtain ⟨x27, ex27⟩ : ∃ y : Int32, y = v44_7 + Int32.ofInt 1 := ⟨_, rfl⟩
        have erx27 := ex27
        refine lv_iinc (v := x27) (lv' := [(7, .int x27), (6, .int x26), (0, .ref (ad 39)), (1, .int a1), (2, .int 1), (3, .long a3), (5, .int 1)]) hx hb dX7_openHours_87 hl (k := 6) rfl ex27.symm (by decide) rfl (fun ls hl => ?_)
        have ex27 : x27.toInt = v44_7.toInt + 1 := by rw [ex27]; exact wk_add (y := 1) (show -2147483648 ≤ v44_7.toInt + 1 by omega) (show v44_7.toInt + 1 ≤ 2147483647 by omega)
        replace hM := hM.lt ex27.symm
        refine lv_goto (tgt := 44) hx hb dX7_openHours_90 (by decide) ?_
        exact ih44 x26 x27 H locs ls w19 (show 0 ≤ a1.toInt from r20) (show a1.toInt ≤ 12 from t21) (show 0 ≤ a3.toInt from r22) (show a3.toInt ≤ 4249 from t23) (show 0 ≤ x27.toInt by first | with_reducible assumption | omega) (show x27.toInt ≤ 8 by first | with_reducible assumption | omega) (show (8 - x27.toInt).toNat < n44 by first | exact tn_lt hm44 (by omega) (by omega) | omega) hw hT hF hM (lv_sub hl [2, 3, 4, 5, 6, 1, 0] rfl)
      replace hM := hM.suc (fun _ => e_X7_openHours_44)
      refine lv_iload hx hb dX7_openHours_44 (lv_at hl 5 rfl) ?_
      refine lv_if_eq (tgt := 93) hx hb dX7_openHours_46 (by decide) (fun c28 => ?_) (fun c28 => ?_)
      · have c28 : v44_6.toInt = (0 : Int) := wk_eq.mp c28
        replace hM := hM.pos c28
        exact J93 v44_6 v44_7 H locs ls w12 (show 0 ≤ a1.toInt from r13) (show a1.toInt ≤ 12 from t14) (show 0 ≤ a3.toInt from r15) (show a3.toInt ≤ 4249 from t16) (show 0 ≤ v44_7.toInt from r17) (show v44_7.toInt ≤ 8 from t18)  hw hT hF hM (lv_sub hl [0, 1, 2, 3, 4, 5, 6] rfl)
      · have c28 : ¬ v44_6.toInt = (0 : Int) := wk_eqF c28
        replace hM := hM.neg c28
        refine lv_iload hx hb dX7_openHours_49 (lv_at hl 6 rfl) ?_
        refine lv_bipush (v := 8) hx hb dX7_openHours_51 (by decide) ?_
        refine lv_icmp_ge (tgt := 93) hx hb dX7_openHours_53 (by decide) (fun c29 => ?_) (fun c29 => ?_)
        · have c29 : (8 : Int) ≤ v44_7.toInt := wk_le.mp c29
          replace hM := hM.pos c29
          exact J93 v44_6 v44_7 H locs ls w12 (show 0 ≤ a1.toInt from r13) (show a1.toInt ≤ 12 from t14) (show 0 ≤ a3.toInt from r15) (show a3.toInt ≤ 4249 from t16) (show 0 ≤ v44_7.toInt from r17) (show v44_7.toInt ≤ 8 from t18)  hw hT hF hM (lv_sub hl [0, 1, 2, 3, 4, 5, 6] rfl)
        · have c29 : v44_7.toInt < (8 : Int) := wk_leF c29
          replace hM := hM.neg (Int.not_le.mpr c29)
          refine lv_iload hx hb dX7_openHours_56 (lv_at hl 5 rfl) ?_
          refine lv_iconst (v := 1) hx hb dX7_openHours_58 (by decide) ?_
          refine lv_iand hx hb dX7_openHours_59 ?_
          refine lv_topi (fun x30 ex30 => ?_)
          have ezx30 := ex30
          have bx30 : 0 ≤ x30.toInt ∧ x30.toInt ≤ (1 : Int) := by rw [ex30]; exact wk_and (by decide)
          replace hM := hM.lt (o32_e (f := fun x y => x &&& y) ezx30 rfl (by decide))
          refine lv_if_eq (tgt := 81) hx hb dX7_openHours_60 (by decide) (fun c31 => ?_) (fun c31 => ?_)
          · have c31 : x30.toInt = (0 : Int) := wk_eq.mp c31
            replace hM := hM.pos c31
            exact J81  H locs ls w12 (show 0 ≤ a1.toInt from r13) (show a1.toInt ≤ 12 from t14) (show 0 ≤ a3.toInt from r15) (show a3.toInt ≤ 4249 from t16) (show 0 ≤ v44_7.toInt from r17) (show v44_7.toInt ≤ 7 by first | with_reducible assumption | omega)  hw hT hF hM (lv_sub hl [0, 1, 2, 3, 4, 5, 6] rfl)
          · have c31 : ¬ x30.toInt = (0 : Int) := wk_eqF c31
            replace hM := hM.neg c31
            refine lv_aload_n hx hb dX7_openHours_63 rfl (lv_at hl 0 rfl) ?_
            refine tk_getO hC hK hw hT hinX7 kC_at39 (by decide) rfl 6 (by decide) (List.mem_cons_of_mem _ uw_2_23) rfl rfl dX7_openHours_64 ?_
            refine lv_iload hx hb dX7_openHours_67 (lv_at hl 6 rfl) ?_
            refine tk_iald hC hK hw hT kC_at46 rfl rfl (show 0 ≤ v44_7.toInt from r17) (show v44_7.toInt < 8 by first | with_reducible assumption | omega) dX7_openHours_69 (fun x32 c33 rx32 tx32 => ?_)
            have hox32 := c33
            replace hM := hM.rd (sI_at hox32)
            refine lv_lload_n hx hb dX7_openHours_70 rfl (lv_at hl 3 rfl) ?_
            refine lv_ldc2 (v := 360) hx hb hC.2.2.2.1 (hC.2.2.2.2 _ (List.mem_cons_of_mem _ uw_31_16)) dX7_openHours_71 ?_
            refine lv_lrem hx hb dX7_openHours_74 (by decide) ?_
            refine lv_topl (fun x34 ex34 => ?_)
            have ezx34 := ex34
            have ex34 : x34.toInt = a3.toInt % (360 : Int) := by rw [ex34]; exact wk_reml (show 0 ≤ a3.toInt from r15) (show 0 < (360 : Int) by decide)
            replace hM := hM.lt ex34.symm
            refine lv_l2i hx hb dX7_openHours_75 rfl ?_
            refine lv_topi (fun x35 ex35 => ?_)
            have ex35 : x35.toInt = x34.toInt := by rw [ex35]; exact wk_l2i (by omega) (by omega)
            replace hM := hM.lt ex35.symm
            refine lv_icmp_ne (tgt := 81) hx hb dX7_openHours_76 (by decide) (fun c36 => ?_) (fun c36 => ?_)
            · have c36 : ¬ x32.toInt = x35.toInt := wk_eqF c36
              replace hM := hM.pos c36
              exact J81  H locs ls w12 (show 0 ≤ a1.toInt from r13) (show a1.toInt ≤ 12 from t14) (show 0 ≤ a3.toInt from r15) (show a3.toInt ≤ 4249 from t16) (show 0 ≤ v44_7.toInt from r17) (show v44_7.toInt ≤ 7 by first | with_reducible assumption | omega)  hw hT hF hM (lv_sub hl [0, 1, 2, 3, 4, 5, 6] rfl)
            · have c36 : x32.toInt = x35.toInt := wk_eq.mp c36
              replace hM := hM.neg (fun q => q c36)
              refine lv_iconst (v := 0) hx hb dX7_openHours_79 (by decide) ?_
              exact tk_iret hC hr hlocks hK ⟨hT, hF, hM.ret (by decide), ⟨(by decide), (by decide)⟩⟩ hw dX7_openHours_80
  have hM : TT (fun n => m_X7_openHours n 39 a1.toInt 1 a3.toInt 1 (sI w0)) (fun n => m_X7_openHours n 39 a1.toInt 1 a3.toInt 1 (sI w0)) := TT.rf
  refine lv_aload_n hx hb dX7_openHours_0 rfl (lv_at hl 0 rfl) ?_
  refine tk_getO hC hK hw hT hinX7 kC_at39 (by decide) rfl 4 (by decide) (List.mem_cons_of_mem _ uw_2_21) rfl rfl dX7_openHours_1 ?_
  refine lv_iconst (v := 2) hx hb dX7_openHours_4 (by decide) ?_
  refine lv_iload_n hx hb dX7_openHours_5 rfl (lv_at hl 1 rfl) ?_
  refine lv_imul hx hb dX7_openHours_6 ?_
  refine lv_topi (fun x37 ex37 => ?_)
  have ezx37 := ex37
  have ex37 : x37.toInt = (2 : Int) * a1.toInt := by rw [ex37]; exact wk_mul (show (-2147483648) ≤ (2 : Int) * a1.toInt by omega) (show (2 : Int) * a1.toInt ≤ 2147483647 by omega)
  replace hM := hM.lt ex37.symm
  refine lv_iload_n hx hb dX7_openHours_7 rfl (lv_at hl 2 rfl) ?_
  refine lv_iadd hx hb dX7_openHours_8 ?_
  refine lv_topi (fun x38 ex38 => ?_)
  have ezx38 := ex38
  have ex38 : x38.toInt = x37.toInt + (1 : Int) := by rw [ex38]; exact wk_add (show (-2147483648) ≤ x37.toInt + (1 : Int) by omega) (show x37.toInt + (1 : Int) ≤ 2147483647 by omega)
  replace hM := hM.lt ex38.symm
  refine tk_iald hC hK hw hT kC_at44 rfl rfl (show 0 ≤ x38.toInt by first | with_reducible assumption | omega) (show x38.toInt < 26 by first | with_reducible assumption | omega) dX7_openHours_9 (fun x39 c40 rx39 tx39 => ?_)
  have hox39 := c40
  replace hM := hM.rd (sI_at hox39)
  refine lv_lload_n hx hb dX7_openHours_10 rfl (lv_at hl 3 rfl) ?_
  refine lv_ldc2 (v := 7) hx hb hC.2.2.2.1 (hC.2.2.2.2 _ (List.mem_cons_of_mem _ uw_31_15)) dX7_openHours_11 ?_
  refine lv_lrem hx hb dX7_openHours_14 (by decide) ?_
  refine lv_topl (fun x41 ex41 => ?_)
  have ezx41 := ex41
  have ex41 : x41.toInt = a3.toInt % (7 : Int) := by rw [ex41]; exact wk_reml (show 0 ≤ a3.toInt from ra3) (show 0 < (7 : Int) by decide)
  replace hM := hM.lt ex41.symm
  refine lv_l2i hx hb dX7_openHours_15 rfl ?_
  refine lv_topi (fun x42 ex42 => ?_)
  have ex42 : x42.toInt = x41.toInt := by rw [ex42]; exact wk_l2i (by omega) (by omega)
  replace hM := hM.lt ex42.symm
  refine lv_ishr hx hb dX7_openHours_16 ?_
  refine lv_topi (fun x43 ex43 => ?_)
  have ezx43 := ex43
  replace hM := hM.lt (o32_e (f := fun x y => x >>> (y &&& 31)) ezx43 rfl rfl)
  refine lv_iconst (v := 1) hx hb dX7_openHours_17 (by decide) ?_
  refine lv_iand hx hb dX7_openHours_18 ?_
  refine lv_topi (fun x44 ex44 => ?_)
  have ezx44 := ex44
  have bx44 : 0 ≤ x44.toInt ∧ x44.toInt ≤ (1 : Int) := by rw [ex44]; exact wk_and (by decide)
  replace hM := hM.lt (o32_e (f := fun x y => x &&& y) ezx44 rfl (by decide))
  refine lv_if_ne (tgt := 24) hx hb dX7_openHours_19 (by decide) (fun c45 => ?_) (fun c45 => ?_)
  · have c45 : ¬ x44.toInt = (0 : Int) := wk_eqF c45
    replace hM := hM.pos c45
    refine lv_iload hx hb dX7_openHours_24 (lv_at hl 4 rfl) ?_
    refine lv_if_eq (tgt := 38) hx hb dX7_openHours_26 (by decide) (fun c => absurd c (by decide)) (fun _ => ?_)
    replace hM := hM.neg (by decide)
    refine lv_aload_n hx hb dX7_openHours_29 rfl (lv_at hl 0 rfl) ?_
    refine tk_getO hC hK hw hT hinX7 kC_at39 (by decide) rfl 7 (by decide) (List.mem_cons_of_mem _ uw_3_0) rfl rfl dX7_openHours_30 ?_
    refine lv_iload_n hx hb dX7_openHours_33 rfl (lv_at hl 1 rfl) ?_
    refine tk_iald hC hK hw hT kC_at47 rfl rfl (show 0 ≤ a1.toInt from ra1) (show a1.toInt < 13 from Int.lt_of_le_of_lt ta1 (by decide)) dX7_openHours_34 (fun x46 c47 rx46 tx46 => ?_)
    have hox46 := c47
    replace hM := hM.rd (sI_at hox46)
    refine lv_goto (tgt := 39) hx hb dX7_openHours_35 (by decide) ?_
    refine lv_istore (lv' := [(6, .int x46), (0, .ref (ad 39)), (1, .int a1), (2, .int 1), (3, .long a3), (5, .int 1)]) hx hb dX7_openHours_39 hl (by decide) rfl (fun ls hl => ?_)
    refine lv_iconst (v := 0) hx hb dX7_openHours_41 (by decide) ?_
    refine lv_istore (lv' := [(7, .int 0), (6, .int x46), (0, .ref (ad 39)), (1, .int a1), (2, .int 1), (3, .long a3), (5, .int 1)]) hx hb dX7_openHours_42 hl (by decide) rfl (fun ls hl => ?_)
    exact L44 ((8 - (0 : Int)).toNat + 1) x46 0 s.heap locs ls w0 (show 0 ≤ a1.toInt from ra1) (show a1.toInt ≤ 12 from ta1) (show 0 ≤ a3.toInt from ra3) (show a3.toInt ≤ 4249 from ta3) (by decide) (by decide) (Nat.lt_succ_self _) hw hT hF hM (lv_sub hl [2, 3, 4, 5, 6, 1, 0] rfl)
  · have c45 : x44.toInt = (0 : Int) := wk_eq.mp c45
    replace hM := hM.neg (fun q => q c45)
    refine lv_iconst (v := 0) hx hb dX7_openHours_22 (by decide) ?_
    exact tk_iret hC hr hlocks hK ⟨hT, hF, hM.ret (by decide), ⟨(by decide), (by decide)⟩⟩ hw dX7_openHours_23
abbrev Pz_X7_isNeverOpen_2 (ad : Nat → Nat) (cy : Nat → ClassId) (B : Int) (qr : Nat) (s1 : Int) (a1 : Int32) (w0 : va_W) : Int32 → va_W → Prop := fun r u => TW ksC ad cy B qr s1 u ∧ FE ksC ([] : List (Nat × Nat × Nat)) w0 u ∧ Ev (fun n => m_X7_isNeverOpen n 39 a1.toInt 1 (sI w0)) (r.toInt, sI u) ∧ ((r = 0) ∨ (r = 1))
set_option maxHeartbeats 4000000 in
set_option maxRecDepth 100000 in
theorem kz_X7_isNeverOpen_2 (l : Launch) (adK adV : Nat → Nat) (dC : Nat → ClassId) (dI : Nat → Nat → Nat) (cy : Nat → ClassId) (ad : Nat → Nat) (B : Int) (hB0 : 2147483648 ≤ B) (hB1 : B ≤ 1152921504606846976) (qr : Nat) (s1 : Int)  (a1 : Int32) (ra1 : 0 ≤ a1.toInt) (ta1 : a1.toInt ≤ 12) (w0 : va_W) (sz : Nat) (hT : TW ksC ad cy B qr s1 w0)  : Met l yX7_isNeverOpen (wu yX7_isNeverOpen cX7_isNeverOpen 3 (some .boolean)) ({ frames := 1, cells := 0, slots := 0, locals := 12 }) (va_Pc [.ref (ad 39), .int a1, .int 1] (wpreS adK adV dC dI cy sz w0)) (va_Qi (Pz_X7_isNeverOpen_2 ad cy B qr s1 a1 w0) (fun u : va_W => wpost dC dI cy (va_A w0 sz) u) (va_A w0 sz)) 0 0 (va_A w0 sz) := by
  refine Met.ofW (cc := cX7_isNeverOpen) (maxL := 3) (ret := (some .boolean)) (by decide) rfl ?_
  intro p e s m args below meth c s₁ Bk hml hv
  obtain ⟨rfl, ⟨hsz, hP, hK, hD0⟩, hE, hSR⟩ := hv
  have hx := Bk.exec
  have hb := Bk.bytes
  have hr := Bk.returns
  have hlocks := Bk.notSynchronized
  have hC : CallFix p m c cX7_isNeverOpen 3 s _ (wu yX7_isNeverOpen cX7_isNeverOpen 3 (some .boolean)) RX7 := ⟨hx, hb, hml, findClass_of_methodNamed Bk.named, atoms_spec (ws := (wu yX7_isNeverOpen cX7_isNeverOpen 3 (some .boolean))) Bk.pre⟩
  subst hsz
  have hD := hD0.self (sz := s.heap.size)
  generalize hAe : va_A w0 s.heap.size = A at hD hE ⊢
  have hA : ∀ q : Nat, s.heap.size ≤ q → A q := fun q h => by rw [← hAe]; exact Or.inr h
  have hw : Wd dC dI A s.heap s.heap [] w0 := ⟨hP, hD, va_S.rf⟩
  have hF : FE ksC ([] : List (Nat × Nat × Nat)) w0 w0 := FE.rf
  have hl := lv_entry ([.ref (ad 39), .int a1, .int 1]) (n := 3) (Nat.le_of_ble_eq_true rfl)
  rw [lg_entry_eq]
  generalize (lg_sl ([.ref (ad 39), .int a1, .int 1]) ++ List.replicate (3 - (lg_sl ([.ref (ad 39), .int a1, .int 1])).length) Slot.unset).toArray = ls at hl ⊢
  have hl : lv_has ls 3 [(0, .ref (ad 39)), (1, .int a1), (2, .int 1)] := hl
  generalize hloc : ([] : List Loc) = locs at hw ⊢
  have hinX7 : ∀ w ∈ u_ws RX7 TX7 12, w ∈ (wu yX7_isNeverOpen cX7_isNeverOpen 3 (some .boolean)) := fun _ h => List.mem_cons_of_mem _ (up_73 h)
  have J24 : ∀ (H : Heap) (locs : List Loc) (ls : Array Slot) (w1 : va_W), 0 ≤ a1.toInt → a1.toInt ≤ 12 → Wd dC dI A s.heap H locs w1 → TW ksC ad cy B qr s1 w1 → FE ksC ([] : List (Nat × Nat × Nat)) w0 w1 → TT (fun n => m_X7_isNeverOpen n 39 a1.toInt 1 (sI w0)) (fun n => b_X7_isNeverOpen_24 n 39 (sI w1)) → lv_has ls 3 [(0, .ref (ad 39)), (1, .int a1), (2, .int 1)] → W p l e ({ frames := 1, cells := 0, slots := 0, locals := 12 }) s m (List.toArray [.ref (ad 39), .int a1, .int 1]) below meth c H locs 0 0 (MQ below (va_Qi (Pz_X7_isNeverOpen_2 ad cy B qr s1 a1 w0) (fun u : va_W => wpost dC dI cy A u) A) (List.toArray [.ref (ad 39), .int a1, .int 1]) s 0 0 A) (F0 m 24 ls []) := by
    intro H locs ls w1 r2 t3 hw hT hF hM hl
    refine lv_iconst (v := 1) hx hb dX7_isNeverOpen_24 (by decide) ?_
    refine lv_goto (tgt := 29) hx hb dX7_isNeverOpen_25 (by decide) ?_
    exact tk_zret hC hr rfl hlocks hK ⟨hT, hF, hM.ret (by decide), (Or.inr rfl)⟩ hw dX7_isNeverOpen_29
  have hM : TT (fun n => m_X7_isNeverOpen n 39 a1.toInt 1 (sI w0)) (fun n => m_X7_isNeverOpen n 39 a1.toInt 1 (sI w0)) := TT.rf
  refine lv_aload_n hx hb dX7_isNeverOpen_0 rfl (lv_at hl 0 rfl) ?_
  refine tk_getO hC hK hw hT hinX7 kC_at39 (by decide) rfl 4 (by decide) (List.mem_cons_of_mem _ uw_2_21) rfl rfl dX7_isNeverOpen_1 ?_
  refine lv_iconst (v := 2) hx hb dX7_isNeverOpen_4 (by decide) ?_
  refine lv_iload_n hx hb dX7_isNeverOpen_5 rfl (lv_at hl 1 rfl) ?_
  refine lv_imul hx hb dX7_isNeverOpen_6 ?_
  refine lv_topi (fun x4 ex4 => ?_)
  have ezx4 := ex4
  have ex4 : x4.toInt = (2 : Int) * a1.toInt := by rw [ex4]; exact wk_mul (show (-2147483648) ≤ (2 : Int) * a1.toInt by omega) (show (2 : Int) * a1.toInt ≤ 2147483647 by omega)
  replace hM := hM.lt ex4.symm
  refine lv_iload_n hx hb dX7_isNeverOpen_7 rfl (lv_at hl 2 rfl) ?_
  refine lv_iadd hx hb dX7_isNeverOpen_8 ?_
  refine lv_topi (fun x5 ex5 => ?_)
  have ezx5 := ex5
  have ex5 : x5.toInt = x4.toInt + (1 : Int) := by rw [ex5]; exact wk_add (show (-2147483648) ≤ x4.toInt + (1 : Int) by omega) (show x4.toInt + (1 : Int) ≤ 2147483647 by omega)
  replace hM := hM.lt ex5.symm
  refine tk_iald hC hK hw hT kC_at44 rfl rfl (show 0 ≤ x5.toInt by first | with_reducible assumption | omega) (show x5.toInt < 26 by first | with_reducible assumption | omega) dX7_isNeverOpen_9 (fun x6 c7 rx6 tx6 => ?_)
  have hox6 := c7
  replace hM := hM.rd (sI_at hox6)
  refine lv_if_eq (tgt := 24) hx hb dX7_isNeverOpen_10 (by decide) (fun c8 => ?_) (fun c8 => ?_)
  · have c8 : x6.toInt = (0 : Int) := wk_eq.mp c8
    replace hM := hM.pos c8
    exact J24  s.heap locs ls w0 (show 0 ≤ a1.toInt from ra1) (show a1.toInt ≤ 12 from ta1)  hw hT hF hM (lv_sub hl [0, 1, 2] rfl)
  · have c8 : ¬ x6.toInt = (0 : Int) := wk_eqF c8
    replace hM := hM.neg c8
    refine lv_aload_n hx hb dX7_isNeverOpen_13 rfl (lv_at hl 0 rfl) ?_
    refine tk_getO hC hK hw hT hinX7 kC_at39 (by decide) rfl 3 (by decide) (List.mem_cons_of_mem _ uw_2_20) rfl rfl dX7_isNeverOpen_14 ?_
    refine lv_iload_n hx hb dX7_isNeverOpen_17 rfl (lv_at hl 1 rfl) ?_
    refine tk_iald hC hK hw hT kC_at43 rfl rfl (show 0 ≤ a1.toInt from ra1) (show a1.toInt < 13 from Int.lt_of_le_of_lt ta1 (by decide)) dX7_isNeverOpen_18 (fun x9 c10 rx9 tx9 => ?_)
    have hox9 := c10
    replace hM := hM.rd (sI_at hox9)
    refine lv_ldc (v := 16777215) hx hb hC.2.2.2.1 (hC.2.2.2.2 _ (List.mem_cons_of_mem _ uw_31_17)) dX7_isNeverOpen_19 ?_
    refine lv_icmp_ne (tgt := 28) hx hb dX7_isNeverOpen_21 (by decide) (fun c11 => ?_) (fun c11 => ?_)
    · have c11 : ¬ x9.toInt = (16777215 : Int) := wk_eqF c11
      replace hM := hM.pos c11
      refine lv_iconst (v := 0) hx hb dX7_isNeverOpen_28 (by decide) ?_
      exact tk_zret hC hr rfl hlocks hK ⟨hT, hF, hM.ret (by decide), (Or.inl rfl)⟩ hw dX7_isNeverOpen_29
    · have c11 : x9.toInt = (16777215 : Int) := wk_eq.mp c11
      replace hM := hM.neg (fun q => q c11)
      exact J24  s.heap locs ls w0 (show 0 ≤ a1.toInt from ra1) (show a1.toInt ≤ 12 from ta1)  hw hT hF hM (lv_sub hl [0, 1, 2] rfl)
abbrev Pz_X7_firstOpen_2 (ad : Nat → Nat) (cy : Nat → ClassId) (B : Int) (qr : Nat) (s1 : Int) (a1 : Int32) (a3 : Int32) (a4 : Int32) (w0 : va_W) : Int32 → va_W → Prop := fun r u => TW ksC ad cy B qr s1 u ∧ FE ksC ([] : List (Nat × Nat × Nat)) w0 u ∧ Ev (fun n => m_X7_firstOpen n 39 a1.toInt 1 a3.toInt a4.toInt (sI w0)) (r.toInt, sI u) ∧ ((0 ≤ r.toInt ∧ r.toInt ≤ 101999) ∨ (r = (-1)))
set_option maxHeartbeats 4000000 in
set_option maxRecDepth 100000 in
theorem kz_X7_firstOpen_2 (l : Launch) (adK adV : Nat → Nat) (dC : Nat → ClassId) (dI : Nat → Nat → Nat) (cy : Nat → ClassId) (ad : Nat → Nat) (B : Int) (hB0 : 2147483648 ≤ B) (hB1 : B ≤ 1152921504606846976) (qr : Nat) (s1 : Int)  (a1 : Int32) (ra1 : 0 ≤ a1.toInt) (ta1 : a1.toInt ≤ 12) (a3 : Int32) (ra3 : (-1) ≤ a3.toInt) (ta3 : a3.toInt ≤ 102119) (a4 : Int32) (ra4 : 1991 ≤ a4.toInt) (ta4 : a4.toInt ≤ 101999) (w0 : va_W) (sz : Nat) (hT : TW ksC ad cy B qr s1 w0)  : Met l yX7_firstOpen (wu yX7_firstOpen cX7_firstOpen 10 (some .int)) ({ frames := 2, cells := 0, slots := 0, locals := 39 }) (va_Pc [.ref (ad 39), .int a1, .int 1, .int a3, .int a4] (wpreS adK adV dC dI cy sz w0)) (va_Qi (Pz_X7_firstOpen_2 ad cy B qr s1 a1 a3 a4 w0) (fun u : va_W => wpost dC dI cy (va_A w0 sz) u) (va_A w0 sz)) 0 0 (va_A w0 sz) := by
  refine Met.ofW (cc := cX7_firstOpen) (maxL := 10) (ret := (some .int)) (by decide) rfl ?_
  intro p e s m args below meth c s₁ Bk hml hv
  obtain ⟨rfl, ⟨hsz, hP, hK, hD0⟩, hE, hSR⟩ := hv
  have hx := Bk.exec
  have hb := Bk.bytes
  have hr := Bk.returns
  have hlocks := Bk.notSynchronized
  have hC : CallFix p m c cX7_firstOpen 10 s _ (wu yX7_firstOpen cX7_firstOpen 10 (some .int)) RX7 := ⟨hx, hb, hml, findClass_of_methodNamed Bk.named, atoms_spec (ws := (wu yX7_firstOpen cX7_firstOpen 10 (some .int))) Bk.pre⟩
  subst hsz
  have hD := hD0.self (sz := s.heap.size)
  generalize hAe : va_A w0 s.heap.size = A at hD hE ⊢
  have hA : ∀ q : Nat, s.heap.size ≤ q → A q := fun q h => by rw [← hAe]; exact Or.inr h
  have hw : Wd dC dI A s.heap s.heap [] w0 := ⟨hP, hD, va_S.rf⟩
  have hF : FE ksC ([] : List (Nat × Nat × Nat)) w0 w0 := FE.rf
  have hl := lv_entry ([.ref (ad 39), .int a1, .int 1, .int a3, .int a4]) (n := 10) (Nat.le_of_ble_eq_true rfl)
  rw [lg_entry_eq]
  generalize (lg_sl ([.ref (ad 39), .int a1, .int 1, .int a3, .int a4]) ++ List.replicate (10 - (lg_sl ([.ref (ad 39), .int a1, .int 1, .int a3, .int a4])).length) Slot.unset).toArray = ls at hl ⊢
  have hl : lv_has ls 10 [(0, .ref (ad 39)), (1, .int a1), (2, .int 1), (3, .int a3), (4, .int a4)] := hl
  generalize hloc : ([] : List Loc) = locs at hw ⊢
  have L25 : ∀ (n25 : Nat) (v25_5 : Int32) (v25_6 : Int32) (H : Heap) (locs : List Loc) (ls : Array Slot) (w1 : va_W), 0 ≤ a1.toInt → a1.toInt ≤ 12 → (-1) ≤ a3.toInt → a3.toInt ≤ 102119 → 1991 ≤ a4.toInt → a4.toInt ≤ 101999 → 0 ≤ v25_6.toInt → v25_6.toInt ≤ 4254 → (4254 - v25_6.toInt).toNat < n25 → Wd dC dI A s.heap H locs w1 → TW ksC ad cy B qr s1 w1 → FE ksC ([] : List (Nat × Nat × Nat)) w0 w1 → TT (fun n => m_X7_firstOpen n 39 a1.toInt 1 a3.toInt a4.toInt (sI w0)) (fun n => j_X7_firstOpen 39 n 25 [a1.toInt, (1 : Int), a4.toInt, v25_5.toInt, v25_6.toInt] (sI w1)) → lv_has ls 10 [(0, .ref (ad 39)), (1, .int a1), (2, .int 1), (3, .int a3), (4, .int a4), (5, .int v25_5), (6, .int v25_6)] → W p l e ({ frames := 2, cells := 0, slots := 0, locals := 39 }) s m (List.toArray [.ref (ad 39), .int a1, .int 1, .int a3, .int a4]) below meth c H locs 0 0 (MQ below (va_Qi (Pz_X7_firstOpen_2 ad cy B qr s1 a1 a3 a4 w0) (fun u : va_W => wpost dC dI cy A u) A) (List.toArray [.ref (ad 39), .int a1, .int 1, .int a3, .int a4]) s 0 0 A) (F0 m 25 ls []) := by
    intro n25
    induction n25 with
    | zero => intro v25_5 v25_6 H locs ls w1 r2 t3 r4 t5 r6 t7 r8 t9 hm25 hw hT hF hM hl; omega
    | succ n25 ih25 =>
      intro v25_5 v25_6 H locs ls w1 r2 t3 r4 t5 r6 t7 r8 t9 hm25 hw hT hF hM hl
      have J108 : ∀ (v108_7 : Int32) (v108_8 : Int32) (H : Heap) (locs : List Loc) (ls : Array Slot) (w10 : va_W), 0 ≤ a1.toInt → a1.toInt ≤ 12 → (-1) ≤ a3.toInt → a3.toInt ≤ 102119 → 1991 ≤ a4.toInt → a4.toInt ≤ 101999 → 0 ≤ v25_6.toInt → v25_6.toInt ≤ 4249 → 0 ≤ v108_7.toInt → v108_7.toInt ≤ 16777215 → 0 ≤ v108_8.toInt → v108_8.toInt ≤ 24 → Wd dC dI A s.heap H locs w10 → TW ksC ad cy B qr s1 w10 → FE ksC ([] : List (Nat × Nat × Nat)) w0 w10 → TT (fun n => m_X7_firstOpen n 39 a1.toInt 1 a3.toInt a4.toInt (sI w0)) (fun n => b_X7_firstOpen_108 (j_X7_firstOpen 39 n) n 39 (a1.toInt) (1 : Int) (a4.toInt) (-1 : Int) (v25_6.toInt) (sI w10)) → lv_has ls 10 [(0, .ref (ad 39)), (1, .int a1), (2, .int 1), (3, .int a3), (4, .int a4), (5, .int (-1)), (6, .int v25_6), (7, .int v108_7), (8, .int v108_8)] → W p l e ({ frames := 2, cells := 0, slots := 0, locals := 39 }) s m (List.toArray [.ref (ad 39), .int a1, .int 1, .int a3, .int a4]) below meth c H locs 0 0 (MQ below (va_Qi (Pz_X7_firstOpen_2 ad cy B qr s1 a1 a3 a4 w0) (fun u : va_W => wpost dC dI cy A u) A) (List.toArray [.ref (ad 39), .int a1, .int 1, .int a3, .int a4]) s 0 0 A) (F0 m 108 ls []) := by
        intro v108_7 v108_8 H locs ls w10 r11 t12 r13 t14 r15 t16 r17 t18 r19 t20 r21 t22 hw hT hF hM hl
        obtain ⟨x23, ex23⟩ : ∃ y : Int32, y = v25_6 + Int32.ofInt 1 := ⟨_, rfl⟩
        have erx23 := ex23
        refine lv_iinc (v := x23) (lv' := [(6, .int x23), (0, .ref (ad 39)), (1, .int a1), (2, .int 1), (3, .int a3), (4, .int a4), (5, .int (-1)), (7, .int v108_7), (8, .int v108_8)]) hx hb dX7_firstOpen_108 hl (k := 6) rfl ex23.symm (by decide) rfl (fun ls hl => ?_)
        have ex23 : x23.toInt = v25_6.toInt + 1 := by rw [ex23]; exact wk_add (y := 1) (show -2147483648 ≤ v25_6.toInt + 1 by omega) (show v25_6.toInt + 1 ≤ 2147483647 by omega)
        replace hM := hM.lt ex23.symm
        refine lv_goto (tgt := 25) hx hb dX7_firstOpen_111 (by decide) ?_
        exact ih25 (-1) x23 H locs ls w10 (show 0 ≤ a1.toInt from r11) (show a1.toInt ≤ 12 from t12) (show (-1) ≤ a3.toInt from r13) (show a3.toInt ≤ 102119 from t14) (show 1991 ≤ a4.toInt from r15) (show a4.toInt ≤ 101999 from t16) (show 0 ≤ x23.toInt by first | with_reducible assumption | omega) (show x23.toInt ≤ 4254 by first | with_reducible assumption | omega) (show (4254 - x23.toInt).toNat < n25 by first | exact tn_lt hm25 (by omega) (by omega) | omega) hw hT hF hM (lv_sub hl [1, 2, 3, 4, 5, 6, 0] rfl)
      have L56 : ∀ (n56 : Nat) (v56_7 : Int32) (v56_8 : Int32) (H : Heap) (locs : List Loc) (ls : Array Slot) (w24 : va_W), 0 ≤ a1.toInt → a1.toInt ≤ 12 → (-1) ≤ a3.toInt → a3.toInt ≤ 102119 → 1991 ≤ a4.toInt → a4.toInt ≤ 101999 → 0 ≤ v25_6.toInt → v25_6.toInt ≤ 4249 → 0 ≤ v56_7.toInt → v56_7.toInt ≤ 16777215 → 0 ≤ v56_8.toInt → v56_8.toInt ≤ 24 → (24 - v56_8.toInt).toNat < n56 → Wd dC dI A s.heap H locs w24 → TW ksC ad cy B qr s1 w24 → FE ksC ([] : List (Nat × Nat × Nat)) w0 w24 → TT (fun n => m_X7_firstOpen n 39 a1.toInt 1 a3.toInt a4.toInt (sI w0)) (fun n => j_X7_firstOpen 39 n 56 [a1.toInt, (1 : Int), a4.toInt, (-1 : Int), v25_6.toInt, v56_7.toInt, v56_8.toInt] (sI w24)) → lv_has ls 10 [(0, .ref (ad 39)), (1, .int a1), (2, .int 1), (3, .int a3), (4, .int a4), (5, .int (-1)), (6, .int v25_6), (7, .int v56_7), (8, .int v56_8)] → W p l e ({ frames := 2, cells := 0, slots := 0, locals := 39 }) s m (List.toArray [.ref (ad 39), .int a1, .int 1, .int a3, .int a4]) below meth c H locs 0 0 (MQ below (va_Qi (Pz_X7_firstOpen_2 ad cy B qr s1 a1 a3 a4 w0) (fun u : va_W => wpost dC dI cy A u) A) (List.toArray [.ref (ad 39), .int a1, .int 1, .int a3, .int a4]) s 0 0 A) (F0 m 56 ls []) := by
        intro n56
        induction n56 with
        | zero => intro v56_7 v56_8 H locs ls w24 r25 t26 r27 t28 r29 t30 r31 t32 r33 t34 r35 t36 hm56 hw hT hF hM hl; omega
        | succ n56 ih56 =>
          intro v56_7 v56_8 H locs ls w24 r25 t26 r27 t28 r29 t30 r31 t32 r33 t34 r35 t36 hm56 hw hT hF hM hl
          replace hM := hM.suc (fun _ => e_X7_firstOpen_56)
          refine lv_iload hx hb dX7_firstOpen_56 (lv_at hl 7 rfl) ?_
          refine lv_if_eq (tgt := 108) hx hb dX7_firstOpen_58 (by decide) (fun c37 => ?_) (fun c37 => ?_)
          · have c37 : v56_7.toInt = (0 : Int) := wk_eq.mp c37
            replace hM := hM.pos c37
            exact J108 v56_7 v56_8 H locs ls w24 (show 0 ≤ a1.toInt from r25) (show a1.toInt ≤ 12 from t26) (show (-1) ≤ a3.toInt from r27) (show a3.toInt ≤ 102119 from t28) (show 1991 ≤ a4.toInt from r29) (show a4.toInt ≤ 101999 from t30) (show 0 ≤ v25_6.toInt from r31) (show v25_6.toInt ≤ 4249 from t32) (show 0 ≤ v56_7.toInt from r33) (show v56_7.toInt ≤ 16777215 from t34) (show 0 ≤ v56_8.toInt from r35) (show v56_8.toInt ≤ 24 from t36)  hw hT hF hM (lv_sub hl [0, 1, 2, 3, 4, 5, 6, 7, 8] rfl)
          · have c37 : ¬ v56_7.toInt = (0 : Int) := wk_eqF c37
            replace hM := hM.neg c37
            refine lv_iload hx hb dX7_firstOpen_61 (lv_at hl 8 rfl) ?_
            refine lv_bipush (v := 24) hx hb dX7_firstOpen_63 (by decide) ?_
            refine lv_icmp_ge (tgt := 108) hx hb dX7_firstOpen_65 (by decide) (fun c38 => ?_) (fun c38 => ?_)
            · have c38 : (24 : Int) ≤ v56_8.toInt := wk_le.mp c38
              replace hM := hM.pos c38
              exact J108 v56_7 v56_8 H locs ls w24 (show 0 ≤ a1.toInt from r25) (show a1.toInt ≤ 12 from t26) (show (-1) ≤ a3.toInt from r27) (show a3.toInt ≤ 102119 from t28) (show 1991 ≤ a4.toInt from r29) (show a4.toInt ≤ 101999 from t30) (show 0 ≤ v25_6.toInt from r31) (show v25_6.toInt ≤ 4249 from t32) (show 0 ≤ v56_7.toInt from r33) (show v56_7.toInt ≤ 16777215 from t34) (show 0 ≤ v56_8.toInt from r35) (show v56_8.toInt ≤ 24 from t36)  hw hT hF hM (lv_sub hl [0, 1, 2, 3, 4, 5, 6, 7, 8] rfl)
            · have c38 : v56_8.toInt < (24 : Int) := wk_leF c38
              replace hM := hM.neg (Int.not_le.mpr c38)
              refine lv_iload hx hb dX7_firstOpen_68 (lv_at hl 7 rfl) ?_
              refine lv_iload hx hb dX7_firstOpen_70 (lv_at hl 8 rfl) ?_
              refine lv_ishr hx hb dX7_firstOpen_72 ?_
              refine lv_topi (fun x39 ex39 => ?_)
              have ezx39 := ex39
              have bx39 : 0 ≤ x39.toInt ∧ x39.toInt ≤ v56_7.toInt := by rw [ex39]; exact wk_shr (by omega)
              replace hM := hM.lt (o32_e (f := fun x y => x >>> (y &&& 31)) ezx39 rfl rfl)
              refine lv_iconst (v := 1) hx hb dX7_firstOpen_73 (by decide) ?_
              refine lv_iand hx hb dX7_firstOpen_74 ?_
              refine lv_topi (fun x40 ex40 => ?_)
              have ezx40 := ex40
              have bx40 : 0 ≤ x40.toInt ∧ x40.toInt ≤ (1 : Int) := by rw [ex40]; exact wk_and (by decide)
              replace hM := hM.lt (o32_e (f := fun x y => x &&& y) ezx40 rfl (by decide))
              refine lv_if_eq (tgt := 102) hx hb dX7_firstOpen_75 (by decide) (fun c41 => ?_) (fun c41 => ?_)
              · have c41 : x40.toInt = (0 : Int) := wk_eq.mp c41
                replace hM := hM.pos c41
                obtain ⟨x42, ex42⟩ : ∃ y : Int32, y = v56_8 + Int32.ofInt 1 := ⟨_, rfl⟩
                have erx42 := ex42
                refine lv_iinc (v := x42) (lv' := [(8, .int x42), (0, .ref (ad 39)), (1, .int a1), (2, .int 1), (3, .int a3), (4, .int a4), (5, .int (-1)), (6, .int v25_6), (7, .int v56_7)]) hx hb dX7_firstOpen_102 hl (k := 8) rfl ex42.symm (by decide) rfl (fun ls hl => ?_)
                have ex42 : x42.toInt = v56_8.toInt + 1 := by rw [ex42]; exact wk_add (y := 1) (show -2147483648 ≤ v56_8.toInt + 1 by omega) (show v56_8.toInt + 1 ≤ 2147483647 by omega)
                replace hM := hM.lt ex42.symm
                refine lv_goto (tgt := 56) hx hb dX7_firstOpen_105 (by decide) ?_
                exact ih56 v56_7 x42 H locs ls w24 (show 0 ≤ a1.toInt from r25) (show a1.toInt ≤ 12 from t26) (show (-1) ≤ a3.toInt from r27) (show a3.toInt ≤ 102119 from t28) (show 1991 ≤ a4.toInt from r29) (show a4.toInt ≤ 101999 from t30) (show 0 ≤ v25_6.toInt from r31) (show v25_6.toInt ≤ 4249 from t32) (show 0 ≤ v56_7.toInt from r33) (show v56_7.toInt ≤ 16777215 from t34) (show 0 ≤ x42.toInt by first | with_reducible assumption | omega) (show x42.toInt ≤ 24 by first | with_reducible assumption | omega) (show (24 - x42.toInt).toNat < n56 by first | exact tn_lt hm56 (by omega) (by omega) | omega) hw hT hF hM (lv_sub hl [1, 2, 3, 4, 5, 6, 7, 8, 0] rfl)
              · have c41 : ¬ x40.toInt = (0 : Int) := wk_eqF c41
                replace hM := hM.neg c41
                refine lv_iload hx hb dX7_firstOpen_78 (lv_at hl 6 rfl) ?_
                refine lv_bipush (v := 24) hx hb dX7_firstOpen_80 (by decide) ?_
                refine lv_imul hx hb dX7_firstOpen_82 ?_
                refine lv_topi (fun x43 ex43 => ?_)
                have ezx43 := ex43
                have ex43 : x43.toInt = v25_6.toInt * (24 : Int) := by rw [ex43]; exact wk_mul (show (-2147483648) ≤ v25_6.toInt * (24 : Int) by omega) (show v25_6.toInt * (24 : Int) ≤ 2147483647 by omega)
                replace hM := hM.lt ex43.symm
                refine lv_iload hx hb dX7_firstOpen_83 (lv_at hl 8 rfl) ?_
                refine lv_iadd hx hb dX7_firstOpen_85 ?_
                refine lv_topi (fun x44 ex44 => ?_)
                have ezx44 := ex44
                have ex44 : x44.toInt = x43.toInt + v56_8.toInt := by rw [ex44]; exact wk_add (show (-2147483648) ≤ x43.toInt + v56_8.toInt by omega) (show x43.toInt + v56_8.toInt ≤ 2147483647 by omega)
                replace hM := hM.lt ex44.symm
                refine lv_istore (lv' := [(9, .int x44), (0, .ref (ad 39)), (1, .int a1), (2, .int 1), (3, .int a3), (4, .int a4), (5, .int (-1)), (6, .int v25_6), (7, .int v56_7), (8, .int v56_8)]) hx hb dX7_firstOpen_86 hl (by decide) rfl (fun ls hl => ?_)
                refine lv_iload hx hb dX7_firstOpen_88 (lv_at hl 0 rfl) ?_
                refine lv_iload hx hb dX7_firstOpen_90 (lv_at hl 5 rfl) ?_
                refine lv_icmp_gt (tgt := 100) hx hb dX7_firstOpen_92 (by decide) (fun c45 => ?_) (fun c45 => ?_)
                · have c45 : a4.toInt < x44.toInt := wk_lt.mp c45
                  replace hM := hM.pos c45
                  refine lv_iconst (v := (-1)) hx hb dX7_firstOpen_100 (by decide) ?_
                  exact tk_iret hC hr hlocks hK ⟨hT, hF, hM.ret (by decide), (Or.inr rfl)⟩ hw dX7_firstOpen_101
                · have c45 : x44.toInt ≤ a4.toInt := wk_ltF c45
                  replace hM := hM.neg (Int.not_lt.mpr c45)
                  refine lv_iload hx hb dX7_firstOpen_95 (lv_at hl 0 rfl) ?_
                  refine lv_goto (tgt := 101) hx hb dX7_firstOpen_97 (by decide) ?_
                  exact tk_iret hC hr hlocks hK ⟨hT, hF, hM.ret rfl, (Or.inl ⟨(show 0 ≤ x44.toInt by first | with_reducible assumption | omega), (show x44.toInt ≤ 101999 by first | with_reducible assumption | omega)⟩)⟩ hw dX7_firstOpen_101
      replace hM := hM.suc (fun _ => e_X7_firstOpen_25)
      refine lv_iload hx hb dX7_firstOpen_25 (lv_at hl 6 rfl) ?_
      refine lv_bipush (v := 24) hx hb dX7_firstOpen_27 (by decide) ?_
      refine lv_imul hx hb dX7_firstOpen_29 ?_
      refine lv_topi (fun x46 ex46 => ?_)
      have ezx46 := ex46
      have ex46 : x46.toInt = v25_6.toInt * (24 : Int) := by rw [ex46]; exact wk_mul (show (-2147483648) ≤ v25_6.toInt * (24 : Int) by omega) (show v25_6.toInt * (24 : Int) ≤ 2147483647 by omega)
      replace hM := hM.lt ex46.symm
      refine lv_iload hx hb dX7_firstOpen_30 (lv_at hl 4 rfl) ?_
      refine lv_icmp_gt (tgt := 114) hx hb dX7_firstOpen_32 (by decide) (fun c47 => ?_) (fun c47 => ?_)
      · have c47 : a4.toInt < x46.toInt := wk_lt.mp c47
        replace hM := hM.pos c47
        refine lv_iconst (v := (-1)) hx hb dX7_firstOpen_114 (by decide) ?_
        exact tk_iret hC hr hlocks hK ⟨hT, hF, hM.ret (by decide), (Or.inr rfl)⟩ hw dX7_firstOpen_115
      · have c47 : x46.toInt ≤ a4.toInt := wk_ltF c47
        replace hM := hM.neg (Int.not_lt.mpr c47)
        refine lv_aload_n hx hb dX7_firstOpen_35 rfl (lv_at hl 0 rfl) ?_
        refine lv_iload_n hx hb dX7_firstOpen_36 rfl (lv_at hl 1 rfl) ?_
        refine lv_iload_n hx hb dX7_firstOpen_37 rfl (lv_at hl 2 rfl) ?_
        refine lv_iload hx hb dX7_firstOpen_38 (lv_at hl 6 rfl) ?_
        refine lv_i2l hx hb dX7_firstOpen_40 rfl ?_
        refine lv_topl (fun x48 ex48 => ?_)
        have ex48 : x48.toInt = v25_6.toInt := by rw [ex48]; exact wk_i2l _
        have bx48 := wk_i32 v25_6
        replace hM := hM.lt ex48.symm
        refine lv_iconst (v := 1) hx hb dX7_firstOpen_41 (by decide) ?_
        refine tk_Vi hC hK hw hT hA hE hSR kC_at39 (by decide) rfl (kz_X7_openHours_2 l adK adV dC dI cy ad B hB0 (Int.le_trans hB1 (by decide)) qr s1   a1 (show 0 ≤ a1.toInt from r2) (show a1.toInt ≤ 12 from t3) x48 (show 0 ≤ x48.toInt by first | with_reducible assumption | omega) (show x48.toInt ≤ 4249 by first | with_reducible assumption | omega) w1 H.size hT ) (cwV 4 hC.2.2.2.2 uV_RX7_148 rfl rfl rfl (by decide +kernel) ⟨Nat.le_of_ble_eq_true rfl, Nat.le_of_ble_eq_true rfl⟩) rfl hl.1 rfl (Nat.le_of_ble_eq_true rfl) dX7_firstOpen_42 (fun r49 w51 H locs hp50 hw => ?_)
        obtain ⟨hT, k52, hv56, hg55⟩ := hp50
        have hF := hF.tr k52 (by decide)
        obtain ⟨g53, g54⟩ := hg55
        replace hM := hM.call hv56 rfl
        refine lv_iload hx hb dX7_firstOpen_45 (lv_at hl 5 rfl) ?_
        refine lv_iand hx hb dX7_firstOpen_47 ?_
        refine lv_topi (fun x57 ex57 => ?_)
        have ezx57 := ex57
        have bx57 : 0 ≤ x57.toInt ∧ x57.toInt ≤ r49.toInt := by rw [ex57]; exact wk_andC (by omega)
        replace hM := hM.lt (o32_e (f := fun x y => x &&& y) ezx57 rfl rfl)
        refine lv_istore (lv' := [(7, .int x57), (0, .ref (ad 39)), (1, .int a1), (2, .int 1), (3, .int a3), (4, .int a4), (5, .int v25_5), (6, .int v25_6)]) hx hb dX7_firstOpen_48 hl (by decide) rfl (fun ls hl => ?_)
        refine lv_iconst (v := (-1)) hx hb dX7_firstOpen_50 (by decide) ?_
        refine lv_istore (lv' := [(5, .int (-1)), (7, .int x57), (0, .ref (ad 39)), (1, .int a1), (2, .int 1), (3, .int a3), (4, .int a4), (6, .int v25_6)]) hx hb dX7_firstOpen_51 hl (by decide) rfl (fun ls hl => ?_)
        refine lv_iconst (v := 0) hx hb dX7_firstOpen_53 (by decide) ?_
        refine lv_istore (lv' := [(8, .int 0), (5, .int (-1)), (7, .int x57), (0, .ref (ad 39)), (1, .int a1), (2, .int 1), (3, .int a3), (4, .int a4), (6, .int v25_6)]) hx hb dX7_firstOpen_54 hl (by decide) rfl (fun ls hl => ?_)
        exact L56 ((24 - (0 : Int)).toNat + 1) x57 0 H locs ls w51 (show 0 ≤ a1.toInt from r2) (show a1.toInt ≤ 12 from t3) (show (-1) ≤ a3.toInt from r4) (show a3.toInt ≤ 102119 from t5) (show 1991 ≤ a4.toInt from r6) (show a4.toInt ≤ 101999 from t7) (show 0 ≤ v25_6.toInt from r8) (show v25_6.toInt ≤ 4249 by first | with_reducible assumption | omega) (show 0 ≤ x57.toInt by first | with_reducible assumption | omega) (show x57.toInt ≤ 16777215 by first | with_reducible assumption | omega) (by decide) (by decide) (Nat.lt_succ_self _) hw hT hF hM (lv_sub hl [3, 4, 5, 6, 7, 1, 8, 2, 0] rfl)
  have hM : TT (fun n => m_X7_firstOpen n 39 a1.toInt 1 a3.toInt a4.toInt (sI w0)) (fun n => m_X7_firstOpen n 39 a1.toInt 1 a3.toInt a4.toInt (sI w0)) := TT.rf
  refine lv_aload_n hx hb dX7_firstOpen_0 rfl (lv_at hl 0 rfl) ?_
  refine lv_iload_n hx hb dX7_firstOpen_1 rfl (lv_at hl 1 rfl) ?_
  refine lv_iload_n hx hb dX7_firstOpen_2 rfl (lv_at hl 2 rfl) ?_
  refine tk_Vi hC hK hw hT hA hE hSR kC_at39 (by decide) rfl (kz_X7_isNeverOpen_2 l adK adV dC dI cy ad B hB0 (Int.le_trans hB1 (by decide)) qr s1   a1 (show 0 ≤ a1.toInt from ra1) (show a1.toInt ≤ 12 from ta1) w0 s.heap.size hT ) (cwV 2 hC.2.2.2.2 uV_RX7_152 rfl rfl rfl (by decide +kernel) ⟨Nat.le_of_ble_eq_true rfl, Nat.le_of_ble_eq_true rfl⟩) rfl hl.1 rfl (Nat.le_of_ble_eq_true rfl) dX7_firstOpen_3 (fun r58 w60 H locs hp59 hw => ?_)
  obtain ⟨hT, k61, hv63, hg62⟩ := hp59
  have hF := hF.tr k61 (by decide)
  rcases hg62 with rfl | rfl
  · replace hM := hM.call (r' := 0) hv63 (by decide)
    refine lv_if_eq (tgt := 11) hx hb dX7_firstOpen_6 (by decide) (fun _ => ?_) (fun c => absurd (by decide) c)
    replace hM := hM.pos (by decide)
    refine lv_iconst (v := (-1)) hx hb dX7_firstOpen_11 (by decide) ?_
    refine lv_iload_n hx hb dX7_firstOpen_12 rfl (lv_at hl 3 rfl) ?_
    refine lv_bipush (v := 24) hx hb dX7_firstOpen_13 (by decide) ?_
    refine lv_irem hx hb dX7_firstOpen_15 (by decide) ?_
    refine lv_topi (fun x64 ex64 => ?_)
    have ezx64 := ex64
    replace hM := hM.lt (o32_e (f := fun x y => x - x / y * y) ezx64 rfl (by decide))
    refine lv_ishl hx hb dX7_firstOpen_16 ?_
    refine lv_topi (fun x65 ex65 => ?_)
    have ezx65 := ex65
    replace hM := hM.lt (o32_e (f := fun x y => x <<< (y &&& 31)) ezx65 (by decide) rfl)
    refine lv_istore (lv' := [(5, .int x65), (0, .ref (ad 39)), (1, .int a1), (2, .int 1), (3, .int a3), (4, .int a4)]) hx hb dX7_firstOpen_17 hl (by decide) rfl (fun ls hl => ?_)
    refine lv_iload_n hx hb dX7_firstOpen_19 rfl (lv_at hl 4 rfl) ?_
    refine lv_bipush (v := 24) hx hb dX7_firstOpen_20 (by decide) ?_
    refine lv_idiv hx hb dX7_firstOpen_22 (by decide) ?_
    refine lv_topi (fun x66 ex66 => ?_)
    have ezx66 := ex66
    have bx66 : -(1 / (24 : Int)) ≤ x66.toInt ∧ x66.toInt ≤ 102119 / (24 : Int) := by rw [ex66]; exact wk_divB (m := 1) (n := 102119) (show 0 < (24 : Int) by decide) (by decide) (by decide) (by omega) (by omega)
    replace hM := hM.lt (o32_e (f := fun x y => x / y) ezx66 rfl (by decide))
    refine lv_istore (lv' := [(6, .int x66), (5, .int x65), (0, .ref (ad 39)), (1, .int a1), (2, .int 1), (3, .int a3), (4, .int a4)]) hx hb dX7_firstOpen_23 hl (by decide) rfl (fun ls hl => ?_)
    exact L25 ((4254 - x66.toInt).toNat + 1) x65 x66 H locs ls w60 (show 0 ≤ a1.toInt from ra1) (show a1.toInt ≤ 12 from ta1) (show (-1) ≤ a3.toInt from ra3) (show a3.toInt ≤ 102119 from ta3) (show 1991 ≤ a4.toInt from ra4) (show a4.toInt ≤ 101999 from ta4) (show 0 ≤ x66.toInt by first | with_reducible assumption | omega) (show x66.toInt ≤ 4254 by first | with_reducible assumption | omega) (Nat.lt_succ_self _) hw hT hF hM (lv_sub hl [2, 3, 4, 5, 6, 1, 0] rfl)
  · replace hM := hM.call (r' := 1) hv63 (by decide)
    refine lv_if_eq (tgt := 11) hx hb dX7_firstOpen_6 (by decide) (fun c => absurd c (by decide)) (fun _ => ?_)
    replace hM := hM.neg (by decide)
    refine lv_iconst (v := (-1)) hx hb dX7_firstOpen_9 (by decide) ?_
    exact tk_iret hC hr hlocks hK ⟨hT, hF, hM.ret (by decide), (Or.inr rfl)⟩ hw dX7_firstOpen_10
abbrev Pz_X4_reachBy_1 (ad : Nat → Nat) (cy : Nat → ClassId) (B : Int) (qr : Nat) (s1 : Int) (a1 : Int32) (a2 : Int32) (a3 : Int32) (w0 : va_W) : va_W → Prop := fun u => TW ksC ad cy B qr s1 u ∧ FE ksC [(48, 0, 10)] w0 u ∧ Ev (fun n => m_X4_reachBy n 155 a1.toInt a2.toInt a3.toInt (sI w0)) (0, sI u) ∧ ((True))
set_option maxHeartbeats 4000000 in
set_option maxRecDepth 100000 in
theorem kz_X4_reachBy_1 (l : Launch) (adK adV : Nat → Nat) (dC : Nat → ClassId) (dI : Nat → Nat → Nat) (cy : Nat → ClassId) (ad : Nat → Nat) (B : Int) (hB0 : 2147483648 ≤ B) (hB1 : B ≤ 1152921504606846976) (qr : Nat) (s1 : Int)  (a1 : Int32) (ra1 : 0 ≤ a1.toInt) (ta1 : a1.toInt ≤ 12) (a2 : Int32) (ra2 : 0 ≤ a2.toInt) (ta2 : a2.toInt ≤ 9) (a3 : Int32) (ra3 : 2000 ≤ a3.toInt) (ta3 : a3.toInt ≤ 101999) (w0 : va_W) (sz : Nat) (hT : TW ksC ad cy B qr s1 w0)  : Met l yX4_reachBy (wu yX4_reachBy cX4_reachBy 8 none) ({ frames := 3, cells := 0, slots := 0, locals := 68 }) (va_Pc [.ref (ad 155), .int a1, .int a2, .int a3] (wpreS adK adV dC dI cy sz w0)) (va_Qv (Pz_X4_reachBy_1 ad cy B qr s1 a1 a2 a3 w0) (fun u : va_W => wpost dC dI cy (va_A w0 sz) u) (va_A w0 sz)) 0 0 (va_A w0 sz) := by
  refine Met.ofW (cc := cX4_reachBy) (maxL := 8) (ret := none) (by decide) rfl ?_
  intro p e s m args below meth c s₁ Bk hml hv
  obtain ⟨rfl, ⟨hsz, hP, hK, hD0⟩, hE, hSR⟩ := hv
  have hx := Bk.exec
  have hb := Bk.bytes
  have hr := Bk.returns
  have hlocks := Bk.notSynchronized
  have hC : CallFix p m c cX4_reachBy 8 s _ (wu yX4_reachBy cX4_reachBy 8 none) RX4 := ⟨hx, hb, hml, findClass_of_methodNamed Bk.named, atoms_spec (ws := (wu yX4_reachBy cX4_reachBy 8 none)) Bk.pre⟩
  subst hsz
  have hD := hD0.self (sz := s.heap.size)
  generalize hAe : va_A w0 s.heap.size = A at hD hE ⊢
  have hA : ∀ q : Nat, s.heap.size ≤ q → A q := fun q h => by rw [← hAe]; exact Or.inr h
  have hw : Wd dC dI A s.heap s.heap [] w0 := ⟨hP, hD, va_S.rf⟩
  have hF : FE ksC [(48, 0, 10)] w0 w0 := FE.rf
  have hl := lv_entry ([.ref (ad 155), .int a1, .int a2, .int a3]) (n := 8) (Nat.le_of_ble_eq_true rfl)
  rw [lg_entry_eq]
  generalize (lg_sl ([.ref (ad 155), .int a1, .int a2, .int a3]) ++ List.replicate (8 - (lg_sl ([.ref (ad 155), .int a1, .int a2, .int a3])).length) Slot.unset).toArray = ls at hl ⊢
  have hl : lv_has ls 8 [(0, .ref (ad 155)), (1, .int a1), (2, .int a2), (3, .int a3)] := hl
  generalize hloc : ([] : List Loc) = locs at hw ⊢
  have hinX4 : ∀ w ∈ u_ws RX4 TX4 4, w ∈ (wu yX4_reachBy cX4_reachBy 8 none) := fun _ h => List.mem_cons_of_mem _ (up_80 h)
  have hinX7 : ∀ w ∈ u_ws RX7 TX7 12, w ∈ (wu yX4_reachBy cX4_reachBy 8 none) := fun _ h => List.mem_cons_of_mem _ (up_73 h)
  have J35 : ∀ (v35_4 : Int32) (H : Heap) (locs : List Loc) (ls : Array Slot) (w1 : va_W), 0 ≤ a1.toInt → a1.toInt ≤ 12 → 0 ≤ a2.toInt → a2.toInt ≤ 9 → 2000 ≤ a3.toInt → a3.toInt ≤ 101999 → (-1) ≤ v35_4.toInt → v35_4.toInt ≤ 1 → Wd dC dI A s.heap H locs w1 → TW ksC ad cy B qr s1 w1 → FE ksC [(48, 0, 10)] w0 w1 → TT (fun n => m_X4_reachBy n 155 a1.toInt a2.toInt a3.toInt (sI w0)) (fun n => b_X4_reachBy_35 n 155 (sI w1)) → lv_has ls 8 [(0, .ref (ad 155)), (1, .int a1), (2, .int a2), (3, .int a3), (4, .int v35_4)] → W p l e ({ frames := 3, cells := 0, slots := 0, locals := 68 }) s m (List.toArray [.ref (ad 155), .int a1, .int a2, .int a3]) below meth c H locs 0 0 (MQ below (va_Qv (Pz_X4_reachBy_1 ad cy B qr s1 a1 a2 a3 w0) (fun u : va_W => wpost dC dI cy A u) A) (List.toArray [.ref (ad 155), .int a1, .int a2, .int a3]) s 0 0 A) (F0 m 35 ls []) := by
    intro v35_4 H locs ls w1 r2 t3 r4 t5 r6 t7 r8 t9 hw hT hF hM hl
    exact tk_vret hC hr hlocks hK ⟨hT, hF, hM.ret rfl, trivial⟩ hw dX4_reachBy_35
  have J125 : ∀ (v125_4 : Int32) (v125_5 : Int32) (v125_6 : Int32) (v125_7 : Int32) (H : Heap) (locs : List Loc) (ls : Array Slot) (w10 : va_W), 0 ≤ a1.toInt → a1.toInt ≤ 12 → 0 ≤ a2.toInt → a2.toInt ≤ 9 → 2000 ≤ a3.toInt → a3.toInt ≤ 101999 → 0 ≤ v125_4.toInt → v125_4.toInt ≤ 1 → 0 ≤ v125_5.toInt → v125_5.toInt ≤ 9 → 0 ≤ v125_6.toInt → v125_6.toInt ≤ 9 → (-1) ≤ v125_7.toInt → v125_7.toInt ≤ 101999 → Wd dC dI A s.heap H locs w10 → TW ksC ad cy B qr s1 w10 → FE ksC [(48, 0, 10)] w0 w10 → TT (fun n => m_X4_reachBy n 155 a1.toInt a2.toInt a3.toInt (sI w0)) (fun n => b_X4_reachBy_125 n 155 (sI w10)) → lv_has ls 8 [(0, .ref (ad 155)), (1, .int a1), (2, .int a2), (3, .int a3), (4, .int v125_4), (5, .int v125_5), (6, .int v125_6), (7, .int v125_7)] → W p l e ({ frames := 3, cells := 0, slots := 0, locals := 68 }) s m (List.toArray [.ref (ad 155), .int a1, .int a2, .int a3]) below meth c H locs 0 0 (MQ below (va_Qv (Pz_X4_reachBy_1 ad cy B qr s1 a1 a2 a3 w0) (fun u : va_W => wpost dC dI cy A u) A) (List.toArray [.ref (ad 155), .int a1, .int a2, .int a3]) s 0 0 A) (F0 m 125 ls []) := by
    intro v125_4 v125_5 v125_6 v125_7 H locs ls w10 r11 t12 r13 t14 r15 t16 r17 t18 r19 t20 r21 t22 r23 t24 hw hT hF hM hl
    exact tk_vret hC hr hlocks hK ⟨hT, hF, hM.ret rfl, trivial⟩ hw dX4_reachBy_125
  have J113 : ∀ (v113_4 : Int32) (v113_5 : Int32) (v113_6 : Int32) (v113_7 : Int32) (H : Heap) (locs : List Loc) (ls : Array Slot) (w25 : va_W), 0 ≤ a1.toInt → a1.toInt ≤ 12 → 0 ≤ a2.toInt → a2.toInt ≤ 9 → 2000 ≤ a3.toInt → a3.toInt ≤ 101999 → 0 ≤ v113_4.toInt → v113_4.toInt ≤ 1 → 0 ≤ v113_5.toInt → v113_5.toInt ≤ 9 → 0 ≤ v113_6.toInt → v113_6.toInt ≤ 9 → 0 ≤ v113_7.toInt → v113_7.toInt ≤ 101999 → Wd dC dI A s.heap H locs w25 → TW ksC ad cy B qr s1 w25 → FE ksC [(48, 0, 10)] w0 w25 → TT (fun n => m_X4_reachBy n 155 a1.toInt a2.toInt a3.toInt (sI w0)) (fun n => b_X4_reachBy_113 n 155 (v113_5.toInt) (v113_6.toInt) (v113_7.toInt) (sI w25)) → lv_has ls 8 [(0, .ref (ad 155)), (1, .int a1), (2, .int a2), (3, .int a3), (4, .int v113_4), (5, .int v113_5), (6, .int v113_6), (7, .int v113_7)] → W p l e ({ frames := 3, cells := 0, slots := 0, locals := 68 }) s m (List.toArray [.ref (ad 155), .int a1, .int a2, .int a3]) below meth c H locs 0 0 (MQ below (va_Qv (Pz_X4_reachBy_1 ad cy B qr s1 a1 a2 a3 w0) (fun u : va_W => wpost dC dI cy A u) A) (List.toArray [.ref (ad 155), .int a1, .int a2, .int a3]) s 0 0 A) (F0 m 113 ls []) := by
    intro v113_4 v113_5 v113_6 v113_7 H locs ls w25 r26 t27 r28 t29 r30 t31 r32 t33 r34 t35 r36 t37 r38 t39 hw hT hF hM hl
    refine lv_aload_n hx hb dX4_reachBy_113 rfl (lv_at hl 0 rfl) ?_
    refine tk_getA hC hK hw hT hinX4 kC_at155 (by decide) rfl 2 (by decide) (List.mem_cons_of_mem _ uw_5_19) rfl rfl dX4_reachBy_114 ?_
    refine lv_iload hx hb dX4_reachBy_117 (lv_at hl 5 rfl) ?_
    refine lv_iload hx hb dX4_reachBy_119 (lv_at hl 7 rfl) ?_
    refine lv_iload hx hb dX4_reachBy_121 (lv_at hl 6 rfl) ?_
    refine lv_iadd hx hb dX4_reachBy_123 ?_
    refine lv_topi (fun x40 ex40 => ?_)
    have ezx40 := ex40
    have ex40 : x40.toInt = v113_7.toInt + v113_6.toInt := by rw [ex40]; exact wk_add (show (-2147483648) ≤ v113_7.toInt + v113_6.toInt by omega) (show v113_7.toInt + v113_6.toInt ≤ 2147483647 by omega)
    replace hM := hM.lt ex40.symm
    refine tk_iast hC hK hw hT kC_at156 (by decide) rfl rfl (show 0 ≤ v113_5.toInt from r34) (show v113_5.toInt < 10 from Int.lt_of_le_of_lt t35 (by decide)) (show (-1) ≤ x40.toInt by first | with_reducible assumption | omega) (show x40.toInt ≤ 102119 by first | with_reducible assumption | omega) dX4_reachBy_124 (fun H locs w41 hw hT k43 c42 => ?_)
    replace hM := hM.wr (sI_up k43 c42)
    have hF := hF.put kC_at156 (inE_of (a := 0) (b := 10) (by decide) (show 0 ≤ v113_5.toInt.toNat by omega) (show v113_5.toInt.toNat ≤ 10 by omega)) k43
    exact J125 v113_4 v113_5 v113_6 v113_7 H locs ls w41 (show 0 ≤ a1.toInt from r26) (show a1.toInt ≤ 12 from t27) (show 0 ≤ a2.toInt from r28) (show a2.toInt ≤ 9 from t29) (show 2000 ≤ a3.toInt from r30) (show a3.toInt ≤ 101999 from t31) (show 0 ≤ v113_4.toInt from r32) (show v113_4.toInt ≤ 1 from t33) (show 0 ≤ v113_5.toInt from r34) (show v113_5.toInt ≤ 9 from t35) (show 0 ≤ v113_6.toInt from r36) (show v113_6.toInt ≤ 9 from t37) (show (-1) ≤ v113_7.toInt from Int.le_trans (by decide) r38) (show v113_7.toInt ≤ 101999 from t39)  hw hT hF hM (lv_sub hl [0, 1, 2, 3, 4, 5, 6, 7] rfl)
  have hM : TT (fun n => m_X4_reachBy n 155 a1.toInt a2.toInt a3.toInt (sI w0)) (fun n => m_X4_reachBy n 155 a1.toInt a2.toInt a3.toInt (sI w0)) := TT.rf
  refine lv_aload_n hx hb dX4_reachBy_0 rfl (lv_at hl 0 rfl) ?_
  refine tk_getA hC hK hw hT hinX4 kC_at155 (by decide) rfl 1 (by decide) (List.mem_cons_of_mem _ uw_5_23) rfl rfl dX4_reachBy_1 ?_
  refine lv_iload_n hx hb dX4_reachBy_4 rfl (lv_at hl 1 rfl) ?_
  refine lv_iload_n hx hb dX4_reachBy_5 rfl (lv_at hl 2 rfl) ?_
  refine tk_Vi hC hK hw hT hA hE hSR kC_at39 (by decide) rfl (kz_X7_sideOf_3 l adK adV dC dI cy ad B hB0 (Int.le_trans hB1 (by decide)) qr s1   a1 (show 0 ≤ a1.toInt from ra1) (show a1.toInt ≤ 12 from ta1) a2 (show 0 ≤ a2.toInt from ra2) (show a2.toInt ≤ 9 from ta2) w0 s.heap.size hT ) (cwV 2 hC.2.2.2.2 uV_RX4_47 rfl rfl rfl (by decide +kernel) ⟨Nat.le_of_ble_eq_true rfl, Nat.le_of_ble_eq_true rfl⟩) rfl hl.1 rfl (Nat.le_of_ble_eq_true rfl) dX4_reachBy_6 (fun r44 w46 H locs hp45 hw => ?_)
  obtain ⟨hT, k47, hv51, hg50⟩ := hp45
  have hF := hF.tr k47 (by decide)
  rcases hg50 with rfl | ⟨rfl, c48⟩ | ⟨rfl, c49⟩
  · replace hM := hM.call (r' := (-1)) hv51 (by decide)
    refine lv_istore (lv' := [(4, .int (-1)), (0, .ref (ad 155)), (1, .int a1), (2, .int a2), (3, .int a3)]) hx hb dX4_reachBy_9 hl (by decide) rfl (fun ls hl => ?_)
    refine lv_iload hx hb dX4_reachBy_11 (lv_at hl 0 rfl) ?_
    refine lv_iconst (v := (-1)) hx hb dX4_reachBy_13 (by decide) ?_
    refine lv_icmp_eq (tgt := 35) hx hb dX4_reachBy_14 (by decide) (fun _ => ?_) (fun c => absurd (by decide) c)
    replace hM := hM.pos (by decide)
    exact J35 (-1) H locs ls w46 (show 0 ≤ a1.toInt from ra1) (show a1.toInt ≤ 12 from ta1) (show 0 ≤ a2.toInt from ra2) (show a2.toInt ≤ 9 from ta2) (show 2000 ≤ a3.toInt from ra3) (show a3.toInt ≤ 101999 from ta3) (by decide) (by decide)  hw hT hF hM (lv_sub hl [1, 2, 3, 4, 0] rfl)
  · replace hM := hM.call (r' := 0) hv51 (by decide)
    refine lv_istore (lv' := [(4, .int 0), (0, .ref (ad 155)), (1, .int a1), (2, .int a2), (3, .int a3)]) hx hb dX4_reachBy_9 hl (by decide) rfl (fun ls hl => ?_)
    refine lv_iload hx hb dX4_reachBy_11 (lv_at hl 0 rfl) ?_
    refine lv_iconst (v := (-1)) hx hb dX4_reachBy_13 (by decide) ?_
    refine lv_icmp_eq (tgt := 35) hx hb dX4_reachBy_14 (by decide) (fun c => absurd c (by decide)) (fun _ => ?_)
    replace hM := hM.neg (by decide)
    refine lv_aload_n hx hb dX4_reachBy_17 rfl (lv_at hl 1 rfl) ?_
    refine tk_getA hC hK hw hT hinX4 kC_at155 (by decide) rfl 3 (by decide) (List.mem_cons_of_mem _ uw_5_20) rfl rfl dX4_reachBy_18 ?_
    refine lv_aload_n hx hb dX4_reachBy_21 rfl (lv_at hl 1 rfl) ?_
    refine tk_getA hC hK hw hT hinX4 kC_at155 (by decide) rfl 1 (by decide) (List.mem_cons_of_mem _ uw_5_23) rfl rfl dX4_reachBy_22 ?_
    refine lv_iload_n hx hb dX4_reachBy_25 rfl (lv_at hl 2 rfl) ?_
    refine lv_iload hx hb dX4_reachBy_26 (lv_at hl 0 rfl) ?_
    refine tk_Vi hC hK hw hT hA hE hSR kC_at39 (by decide) rfl (kz_X7_cornerAcross_1 l adK adV dC dI cy ad B hB0 (Int.le_trans hB1 (by decide)) qr s1   a1 (show 0 ≤ a1.toInt from ra1) (show a1.toInt ≤ 12 from ta1) w46 H.size hT ) (cwV 2 hC.2.2.2.2 uV_RX4_51 rfl rfl rfl (by decide +kernel) ⟨Nat.le_of_ble_eq_true rfl, Nat.le_of_ble_eq_true rfl⟩) rfl hl.1 rfl (Nat.le_of_ble_eq_true rfl) dX4_reachBy_28 (fun r52 w54 H locs hp53 hw => ?_)
    obtain ⟨hT, k55, hv59, hg58⟩ := hp53
    have hF := hF.tr k55 (by decide)
    have c60 := k55.gi kC_at40 rfl c48
    obtain ⟨g56, g57⟩ := hg58
    replace hM := hM.call hv59 rfl
    refine tk_zald hC hK hw hT kC_at157 rfl rfl (show 0 ≤ r52.toInt by first | with_reducible assumption | omega) (show r52.toInt < 10 by first | with_reducible assumption | omega) dX4_reachBy_31 (fun x61 c62 rx61 tx61 => ?_)
    have hox61 := c62
    replace hM := hM.rd (sI_at hox61)
    refine lv_if_eq (tgt := 36) hx hb dX4_reachBy_32 (by decide) (fun c63 => ?_) (fun c63 => ?_)
    · have c63 : x61.toInt = (0 : Int) := wk_eq.mp c63
      replace hM := hM.pos c63
      refine lv_aload_n hx hb dX4_reachBy_36 rfl (lv_at hl 1 rfl) ?_
      refine tk_getA hC hK hw hT hinX4 kC_at155 (by decide) rfl 1 (by decide) (List.mem_cons_of_mem _ uw_5_23) rfl rfl dX4_reachBy_37 ?_
      refine lv_iload_n hx hb dX4_reachBy_40 rfl (lv_at hl 2 rfl) ?_
      refine lv_iload hx hb dX4_reachBy_41 (lv_at hl 0 rfl) ?_
      refine tk_Vi hC hK hw hT hA hE hSR kC_at39 (by decide) rfl (kz_X7_cornerAcross_1 l adK adV dC dI cy ad B hB0 (Int.le_trans hB1 (by decide)) qr s1   a1 (show 0 ≤ a1.toInt from ra1) (show a1.toInt ≤ 12 from ta1) w54 H.size hT ) (cwV 2 hC.2.2.2.2 uV_RX4_51 rfl rfl rfl (by decide +kernel) ⟨Nat.le_of_ble_eq_true rfl, Nat.le_of_ble_eq_true rfl⟩) rfl hl.1 rfl (Nat.le_of_ble_eq_true rfl) dX4_reachBy_43 (fun r64 w66 H locs hp65 hw => ?_)
      obtain ⟨hT, k67, hv71, hg70⟩ := hp65
      have hF := hF.tr k67 (by decide)
      have c72 := k67.gi kC_at40 rfl c60
      obtain ⟨g68, g69⟩ := hg70
      replace hM := hM.call hv71 rfl
      refine lv_istore (lv' := [(5, .int r64), (4, .int 0), (0, .ref (ad 155)), (1, .int a1), (2, .int a2), (3, .int a3)]) hx hb dX4_reachBy_46 hl (by decide) rfl (fun ls hl => ?_)
      refine lv_aload_n hx hb dX4_reachBy_48 rfl (lv_at hl 2 rfl) ?_
      refine tk_getA hC hK hw hT hinX4 kC_at155 (by decide) rfl 1 (by decide) (List.mem_cons_of_mem _ uw_5_23) rfl rfl dX4_reachBy_49 ?_
      refine tk_getO hC hK hw hT hinX7 kC_at39 (by decide) rfl 1 (by decide) (List.mem_cons_of_mem _ uw_50_7) rfl rfl dX4_reachBy_52 ?_
      refine lv_iload_n hx hb dX4_reachBy_55 rfl (lv_at hl 3 rfl) ?_
      refine tk_iald hC hK hw hT kC_at41 rfl rfl (show 0 ≤ a1.toInt from ra1) (show a1.toInt < 13 from Int.lt_of_le_of_lt ta1 (by decide)) dX4_reachBy_56 (fun x73 c74 rx73 tx73 => ?_)
      have hox73 := c74
      replace hM := hM.rd (sI_at hox73)
      refine lv_istore (lv' := [(6, .int x73), (5, .int r64), (4, .int 0), (0, .ref (ad 155)), (1, .int a1), (2, .int a2), (3, .int a3)]) hx hb dX4_reachBy_57 hl (by decide) rfl (fun ls hl => ?_)
      refine lv_aload_n hx hb dX4_reachBy_59 rfl (lv_at hl 3 rfl) ?_
      refine tk_getA hC hK hw hT hinX4 kC_at155 (by decide) rfl 1 (by decide) (List.mem_cons_of_mem _ uw_5_23) rfl rfl dX4_reachBy_60 ?_
      refine lv_iload_n hx hb dX4_reachBy_63 rfl (lv_at hl 4 rfl) ?_
      refine lv_iload hx hb dX4_reachBy_64 (lv_at hl 2 rfl) ?_
      refine lv_aload_n hx hb dX4_reachBy_66 rfl (lv_at hl 3 rfl) ?_
      refine tk_getA hC hK hw hT hinX4 kC_at155 (by decide) rfl 2 (by decide) (List.mem_cons_of_mem _ uw_5_19) rfl rfl dX4_reachBy_67 ?_
      refine lv_iload_n hx hb dX4_reachBy_70 rfl (lv_at hl 5 rfl) ?_
      refine tk_iald hC hK hw hT kC_at156 rfl rfl (show 0 ≤ a2.toInt from ra2) (show a2.toInt < 10 from Int.lt_of_le_of_lt ta2 (by decide)) dX4_reachBy_71 (fun x75 c76 rx75 tx75 => ?_)
      have hox75 := c76
      replace hM := hM.rd (sI_at hox75)
      refine lv_iload_n hx hb dX4_reachBy_72 rfl (lv_at hl 6 rfl) ?_
      refine lv_iload hx hb dX4_reachBy_73 (lv_at hl 0 rfl) ?_
      refine lv_isub hx hb dX4_reachBy_75 ?_
      refine lv_topi (fun x77 ex77 => ?_)
      have ezx77 := ex77
      have ex77 : x77.toInt = a3.toInt - x73.toInt := by rw [ex77]; exact wk_sub (show (-2147483648) ≤ a3.toInt - x73.toInt by omega) (show a3.toInt - x73.toInt ≤ 2147483647 by omega)
      replace hM := hM.lt ex77.symm
      refine tk_Vi hC hK hw hT hA hE hSR kC_at39 (by decide) rfl (kz_X7_firstOpen_1 l adK adV dC dI cy ad B hB0 (Int.le_trans hB1 (by decide)) qr s1   a1 (show 0 ≤ a1.toInt from ra1) (show a1.toInt ≤ 12 from ta1) x75 (show (-1) ≤ x75.toInt from rx75) (show x75.toInt ≤ 102119 from tx75) x77 (show 1991 ≤ x77.toInt by first | with_reducible assumption | omega) (show x77.toInt ≤ 101999 by first | with_reducible assumption | omega) w66 H.size hT ) (cwV 4 hC.2.2.2.2 uV_RX4_57 rfl rfl rfl (by decide +kernel) ⟨Nat.le_of_ble_eq_true rfl, Nat.le_of_ble_eq_true rfl⟩) rfl hl.1 rfl (Nat.le_of_ble_eq_true rfl) dX4_reachBy_76 (fun r78 w80 H locs hp79 hw => ?_)
      obtain ⟨hT, k81, hv85, hg84⟩ := hp79
      have hF := hF.tr k81 (by decide)
      have c86 := k81.gi kC_at40 rfl c72
      rcases hg84 with ⟨g82, g83⟩ | rfl
      · replace hM := hM.call hv85 rfl
        refine lv_istore (lv' := [(7, .int r78), (6, .int x73), (5, .int r64), (4, .int 0), (0, .ref (ad 155)), (1, .int a1), (2, .int a2), (3, .int a3)]) hx hb dX4_reachBy_79 hl (by decide) rfl (fun ls hl => ?_)
        refine lv_iload hx hb dX4_reachBy_81 (lv_at hl 0 rfl) ?_
        refine lv_iconst (v := (-1)) hx hb dX4_reachBy_83 (by decide) ?_
        refine lv_icmp_eq (tgt := 125) hx hb dX4_reachBy_84 (by decide) (fun c => absurd c (fun h => absurd (show r78.toInt = (-1 : Int) from wk_eq.mp h) (by omega))) (fun _ => ?_)
        replace hM := hM.neg (by omega)
        refine lv_aload_n hx hb dX4_reachBy_87 rfl (lv_at hl 4 rfl) ?_
        refine tk_getA hC hK hw hT hinX4 kC_at155 (by decide) rfl 2 (by decide) (List.mem_cons_of_mem _ uw_5_19) rfl rfl dX4_reachBy_88 ?_
        refine lv_iload hx hb dX4_reachBy_91 (lv_at hl 2 rfl) ?_
        refine tk_iald hC hK hw hT kC_at156 rfl rfl (show 0 ≤ r64.toInt by first | with_reducible assumption | omega) (show r64.toInt < 10 by first | with_reducible assumption | omega) dX4_reachBy_93 (fun x87 c88 rx87 tx87 => ?_)
        have hox87 := c88
        replace hM := hM.rd (sI_at hox87)
        refine lv_iconst (v := (-1)) hx hb dX4_reachBy_94 (by decide) ?_
        refine lv_icmp_eq (tgt := 113) hx hb dX4_reachBy_95 (by decide) (fun c89 => ?_) (fun c89 => ?_)
        · have c89 : x87.toInt = (-1 : Int) := wk_eq.mp c89
          replace hM := hM.pos c89
          exact J113 0 r64 x73 r78 H locs ls w80 (show 0 ≤ a1.toInt from ra1) (show a1.toInt ≤ 12 from ta1) (show 0 ≤ a2.toInt from ra2) (show a2.toInt ≤ 9 from ta2) (show 2000 ≤ a3.toInt from ra3) (show a3.toInt ≤ 101999 from ta3) (by decide) (by decide) (show 0 ≤ r64.toInt by first | with_reducible assumption | omega) (show r64.toInt ≤ 9 by first | with_reducible assumption | omega) (show 0 ≤ x73.toInt from rx73) (show x73.toInt ≤ 9 from tx73) (show 0 ≤ r78.toInt by first | with_reducible assumption | omega) (show r78.toInt ≤ 101999 by first | with_reducible assumption | omega)  hw hT hF hM (lv_sub hl [4, 5, 6, 7, 3, 2, 1, 0] rfl)
        · have c89 : ¬ x87.toInt = (-1 : Int) := wk_eqF c89
          replace hM := hM.neg c89
          refine lv_iload hx hb dX4_reachBy_98 (lv_at hl 0 rfl) ?_
          refine lv_iload hx hb dX4_reachBy_100 (lv_at hl 1 rfl) ?_
          refine lv_iadd hx hb dX4_reachBy_102 ?_
          refine lv_topi (fun x90 ex90 => ?_)
          have ezx90 := ex90
          have ex90 : x90.toInt = r78.toInt + x73.toInt := by rw [ex90]; exact wk_add (show (-2147483648) ≤ r78.toInt + x73.toInt by omega) (show r78.toInt + x73.toInt ≤ 2147483647 by omega)
          replace hM := hM.lt ex90.symm
          refine lv_aload_n hx hb dX4_reachBy_103 rfl (lv_at hl 4 rfl) ?_
          refine tk_getA hC hK hw hT hinX4 kC_at155 (by decide) rfl 2 (by decide) (List.mem_cons_of_mem _ uw_5_19) rfl rfl dX4_reachBy_104 ?_
          refine lv_iload hx hb dX4_reachBy_107 (lv_at hl 2 rfl) ?_
          refine tk_iald hC hK hw hT kC_at156 rfl rfl (show 0 ≤ r64.toInt by first | with_reducible assumption | omega) (show r64.toInt < 10 by first | with_reducible assumption | omega) dX4_reachBy_109 (fun x91 c92 rx91 tx91 => ?_)
          have hox91 := c92
          replace hM := hM.rd (sI_at hox91)
          refine lv_icmp_ge (tgt := 125) hx hb dX4_reachBy_110 (by decide) (fun c93 => ?_) (fun c93 => ?_)
          · have c93 : x91.toInt ≤ x90.toInt := wk_le.mp c93
            replace hM := hM.pos c93
            exact J125 0 r64 x73 r78 H locs ls w80 (show 0 ≤ a1.toInt from ra1) (show a1.toInt ≤ 12 from ta1) (show 0 ≤ a2.toInt from ra2) (show a2.toInt ≤ 9 from ta2) (show 2000 ≤ a3.toInt from ra3) (show a3.toInt ≤ 101999 from ta3) (by decide) (by decide) (show 0 ≤ r64.toInt by first | with_reducible assumption | omega) (show r64.toInt ≤ 9 by first | with_reducible assumption | omega) (show 0 ≤ x73.toInt from rx73) (show x73.toInt ≤ 9 from tx73) (show (-1) ≤ r78.toInt by first | with_reducible assumption | omega) (show r78.toInt ≤ 101999 by first | with_reducible assumption | omega)  hw hT hF hM (lv_sub hl [4, 5, 6, 7, 3, 2, 1, 0] rfl)
          · have c93 : x90.toInt < x91.toInt := wk_leF c93
            replace hM := hM.neg (Int.not_le.mpr c93)
            exact J113 0 r64 x73 r78 H locs ls w80 (show 0 ≤ a1.toInt from ra1) (show a1.toInt ≤ 12 from ta1) (show 0 ≤ a2.toInt from ra2) (show a2.toInt ≤ 9 from ta2) (show 2000 ≤ a3.toInt from ra3) (show a3.toInt ≤ 101999 from ta3) (by decide) (by decide) (show 0 ≤ r64.toInt by first | with_reducible assumption | omega) (show r64.toInt ≤ 9 by first | with_reducible assumption | omega) (show 0 ≤ x73.toInt from rx73) (show x73.toInt ≤ 9 from tx73) (show 0 ≤ r78.toInt by first | with_reducible assumption | omega) (show r78.toInt ≤ 101999 by first | with_reducible assumption | omega)  hw hT hF hM (lv_sub hl [4, 5, 6, 7, 3, 2, 1, 0] rfl)
      · replace hM := hM.call (r' := (-1)) hv85 (by decide)
        refine lv_istore (lv' := [(7, .int (-1)), (6, .int x73), (5, .int r64), (4, .int 0), (0, .ref (ad 155)), (1, .int a1), (2, .int a2), (3, .int a3)]) hx hb dX4_reachBy_79 hl (by decide) rfl (fun ls hl => ?_)
        refine lv_iload hx hb dX4_reachBy_81 (lv_at hl 0 rfl) ?_
        refine lv_iconst (v := (-1)) hx hb dX4_reachBy_83 (by decide) ?_
        refine lv_icmp_eq (tgt := 125) hx hb dX4_reachBy_84 (by decide) (fun _ => ?_) (fun c => absurd (by decide) c)
        replace hM := hM.pos (by decide)
        exact J125 0 r64 x73 (-1) H locs ls w80 (show 0 ≤ a1.toInt from ra1) (show a1.toInt ≤ 12 from ta1) (show 0 ≤ a2.toInt from ra2) (show a2.toInt ≤ 9 from ta2) (show 2000 ≤ a3.toInt from ra3) (show a3.toInt ≤ 101999 from ta3) (by decide) (by decide) (show 0 ≤ r64.toInt by first | with_reducible assumption | omega) (show r64.toInt ≤ 9 by first | with_reducible assumption | omega) (show 0 ≤ x73.toInt from rx73) (show x73.toInt ≤ 9 from tx73) (by decide) (by decide)  hw hT hF hM (lv_sub hl [4, 5, 6, 7, 3, 2, 1, 0] rfl)
    · have c63 : ¬ x61.toInt = (0 : Int) := wk_eqF c63
      replace hM := hM.neg c63
      exact J35 0 H locs ls w54 (show 0 ≤ a1.toInt from ra1) (show a1.toInt ≤ 12 from ta1) (show 0 ≤ a2.toInt from ra2) (show a2.toInt ≤ 9 from ta2) (show 2000 ≤ a3.toInt from ra3) (show a3.toInt ≤ 101999 from ta3) (by decide) (by decide)  hw hT hF hM (lv_sub hl [1, 2, 3, 4, 0] rfl)
  · replace hM := hM.call (r' := 1) hv51 (by decide)
    refine lv_istore (lv' := [(4, .int 1), (0, .ref (ad 155)), (1, .int a1), (2, .int a2), (3, .int a3)]) hx hb dX4_reachBy_9 hl (by decide) rfl (fun ls hl => ?_)
    refine lv_iload hx hb dX4_reachBy_11 (lv_at hl 0 rfl) ?_
    refine lv_iconst (v := (-1)) hx hb dX4_reachBy_13 (by decide) ?_
    refine lv_icmp_eq (tgt := 35) hx hb dX4_reachBy_14 (by decide) (fun c => absurd c (by decide)) (fun _ => ?_)
    replace hM := hM.neg (by decide)
    refine lv_aload_n hx hb dX4_reachBy_17 rfl (lv_at hl 1 rfl) ?_
    refine tk_getA hC hK hw hT hinX4 kC_at155 (by decide) rfl 3 (by decide) (List.mem_cons_of_mem _ uw_5_20) rfl rfl dX4_reachBy_18 ?_
    refine lv_aload_n hx hb dX4_reachBy_21 rfl (lv_at hl 1 rfl) ?_
    refine tk_getA hC hK hw hT hinX4 kC_at155 (by decide) rfl 1 (by decide) (List.mem_cons_of_mem _ uw_5_23) rfl rfl dX4_reachBy_22 ?_
    refine lv_iload_n hx hb dX4_reachBy_25 rfl (lv_at hl 2 rfl) ?_
    refine lv_iload hx hb dX4_reachBy_26 (lv_at hl 0 rfl) ?_
    refine tk_Vi hC hK hw hT hA hE hSR kC_at39 (by decide) rfl (kz_X7_cornerAcross_2 l adK adV dC dI cy ad B hB0 (Int.le_trans hB1 (by decide)) qr s1   a1 (show 0 ≤ a1.toInt from ra1) (show a1.toInt ≤ 12 from ta1) w46 H.size hT ) (cwV 2 hC.2.2.2.2 uV_RX4_51 rfl rfl rfl (by decide +kernel) ⟨Nat.le_of_ble_eq_true rfl, Nat.le_of_ble_eq_true rfl⟩) rfl hl.1 rfl (Nat.le_of_ble_eq_true rfl) dX4_reachBy_28 (fun r94 w96 H locs hp95 hw => ?_)
    obtain ⟨hT, k97, hv101, hg100⟩ := hp95
    have hF := hF.tr k97 (by decide)
    have c102 := k97.gi kC_at40 rfl c49
    obtain ⟨g98, g99⟩ := hg100
    replace hM := hM.call hv101 rfl
    refine tk_zald hC hK hw hT kC_at157 rfl rfl (show 0 ≤ r94.toInt by first | with_reducible assumption | omega) (show r94.toInt < 10 by first | with_reducible assumption | omega) dX4_reachBy_31 (fun x103 c104 rx103 tx103 => ?_)
    have hox103 := c104
    replace hM := hM.rd (sI_at hox103)
    refine lv_if_eq (tgt := 36) hx hb dX4_reachBy_32 (by decide) (fun c105 => ?_) (fun c105 => ?_)
    · have c105 : x103.toInt = (0 : Int) := wk_eq.mp c105
      replace hM := hM.pos c105
      refine lv_aload_n hx hb dX4_reachBy_36 rfl (lv_at hl 1 rfl) ?_
      refine tk_getA hC hK hw hT hinX4 kC_at155 (by decide) rfl 1 (by decide) (List.mem_cons_of_mem _ uw_5_23) rfl rfl dX4_reachBy_37 ?_
      refine lv_iload_n hx hb dX4_reachBy_40 rfl (lv_at hl 2 rfl) ?_
      refine lv_iload hx hb dX4_reachBy_41 (lv_at hl 0 rfl) ?_
      refine tk_Vi hC hK hw hT hA hE hSR kC_at39 (by decide) rfl (kz_X7_cornerAcross_2 l adK adV dC dI cy ad B hB0 (Int.le_trans hB1 (by decide)) qr s1   a1 (show 0 ≤ a1.toInt from ra1) (show a1.toInt ≤ 12 from ta1) w96 H.size hT ) (cwV 2 hC.2.2.2.2 uV_RX4_51 rfl rfl rfl (by decide +kernel) ⟨Nat.le_of_ble_eq_true rfl, Nat.le_of_ble_eq_true rfl⟩) rfl hl.1 rfl (Nat.le_of_ble_eq_true rfl) dX4_reachBy_43 (fun r106 w108 H locs hp107 hw => ?_)
      obtain ⟨hT, k109, hv113, hg112⟩ := hp107
      have hF := hF.tr k109 (by decide)
      have c114 := k109.gi kC_at40 rfl c102
      obtain ⟨g110, g111⟩ := hg112
      replace hM := hM.call hv113 rfl
      refine lv_istore (lv' := [(5, .int r106), (4, .int 1), (0, .ref (ad 155)), (1, .int a1), (2, .int a2), (3, .int a3)]) hx hb dX4_reachBy_46 hl (by decide) rfl (fun ls hl => ?_)
      refine lv_aload_n hx hb dX4_reachBy_48 rfl (lv_at hl 2 rfl) ?_
      refine tk_getA hC hK hw hT hinX4 kC_at155 (by decide) rfl 1 (by decide) (List.mem_cons_of_mem _ uw_5_23) rfl rfl dX4_reachBy_49 ?_
      refine tk_getO hC hK hw hT hinX7 kC_at39 (by decide) rfl 1 (by decide) (List.mem_cons_of_mem _ uw_50_7) rfl rfl dX4_reachBy_52 ?_
      refine lv_iload_n hx hb dX4_reachBy_55 rfl (lv_at hl 3 rfl) ?_
      refine tk_iald hC hK hw hT kC_at41 rfl rfl (show 0 ≤ a1.toInt from ra1) (show a1.toInt < 13 from Int.lt_of_le_of_lt ta1 (by decide)) dX4_reachBy_56 (fun x115 c116 rx115 tx115 => ?_)
      have hox115 := c116
      replace hM := hM.rd (sI_at hox115)
      refine lv_istore (lv' := [(6, .int x115), (5, .int r106), (4, .int 1), (0, .ref (ad 155)), (1, .int a1), (2, .int a2), (3, .int a3)]) hx hb dX4_reachBy_57 hl (by decide) rfl (fun ls hl => ?_)
      refine lv_aload_n hx hb dX4_reachBy_59 rfl (lv_at hl 3 rfl) ?_
      refine tk_getA hC hK hw hT hinX4 kC_at155 (by decide) rfl 1 (by decide) (List.mem_cons_of_mem _ uw_5_23) rfl rfl dX4_reachBy_60 ?_
      refine lv_iload_n hx hb dX4_reachBy_63 rfl (lv_at hl 4 rfl) ?_
      refine lv_iload hx hb dX4_reachBy_64 (lv_at hl 2 rfl) ?_
      refine lv_aload_n hx hb dX4_reachBy_66 rfl (lv_at hl 3 rfl) ?_
      refine tk_getA hC hK hw hT hinX4 kC_at155 (by decide) rfl 2 (by decide) (List.mem_cons_of_mem _ uw_5_19) rfl rfl dX4_reachBy_67 ?_
      refine lv_iload_n hx hb dX4_reachBy_70 rfl (lv_at hl 5 rfl) ?_
      refine tk_iald hC hK hw hT kC_at156 rfl rfl (show 0 ≤ a2.toInt from ra2) (show a2.toInt < 10 from Int.lt_of_le_of_lt ta2 (by decide)) dX4_reachBy_71 (fun x117 c118 rx117 tx117 => ?_)
      have hox117 := c118
      replace hM := hM.rd (sI_at hox117)
      refine lv_iload_n hx hb dX4_reachBy_72 rfl (lv_at hl 6 rfl) ?_
      refine lv_iload hx hb dX4_reachBy_73 (lv_at hl 0 rfl) ?_
      refine lv_isub hx hb dX4_reachBy_75 ?_
      refine lv_topi (fun x119 ex119 => ?_)
      have ezx119 := ex119
      have ex119 : x119.toInt = a3.toInt - x115.toInt := by rw [ex119]; exact wk_sub (show (-2147483648) ≤ a3.toInt - x115.toInt by omega) (show a3.toInt - x115.toInt ≤ 2147483647 by omega)
      replace hM := hM.lt ex119.symm
      refine tk_Vi hC hK hw hT hA hE hSR kC_at39 (by decide) rfl (kz_X7_firstOpen_2 l adK adV dC dI cy ad B hB0 (Int.le_trans hB1 (by decide)) qr s1   a1 (show 0 ≤ a1.toInt from ra1) (show a1.toInt ≤ 12 from ta1) x117 (show (-1) ≤ x117.toInt from rx117) (show x117.toInt ≤ 102119 from tx117) x119 (show 1991 ≤ x119.toInt by first | with_reducible assumption | omega) (show x119.toInt ≤ 101999 by first | with_reducible assumption | omega) w108 H.size hT ) (cwV 4 hC.2.2.2.2 uV_RX4_57 rfl rfl rfl (by decide +kernel) ⟨Nat.le_of_ble_eq_true rfl, Nat.le_of_ble_eq_true rfl⟩) rfl hl.1 rfl (Nat.le_of_ble_eq_true rfl) dX4_reachBy_76 (fun r120 w122 H locs hp121 hw => ?_)
      obtain ⟨hT, k123, hv127, hg126⟩ := hp121
      have hF := hF.tr k123 (by decide)
      have c128 := k123.gi kC_at40 rfl c114
      rcases hg126 with ⟨g124, g125⟩ | rfl
      · replace hM := hM.call hv127 rfl
        refine lv_istore (lv' := [(7, .int r120), (6, .int x115), (5, .int r106), (4, .int 1), (0, .ref (ad 155)), (1, .int a1), (2, .int a2), (3, .int a3)]) hx hb dX4_reachBy_79 hl (by decide) rfl (fun ls hl => ?_)
        refine lv_iload hx hb dX4_reachBy_81 (lv_at hl 0 rfl) ?_
        refine lv_iconst (v := (-1)) hx hb dX4_reachBy_83 (by decide) ?_
        refine lv_icmp_eq (tgt := 125) hx hb dX4_reachBy_84 (by decide) (fun c => absurd c (fun h => absurd (show r120.toInt = (-1 : Int) from wk_eq.mp h) (by omega))) (fun _ => ?_)
        replace hM := hM.neg (by omega)
        refine lv_aload_n hx hb dX4_reachBy_87 rfl (lv_at hl 4 rfl) ?_
        refine tk_getA hC hK hw hT hinX4 kC_at155 (by decide) rfl 2 (by decide) (List.mem_cons_of_mem _ uw_5_19) rfl rfl dX4_reachBy_88 ?_
        refine lv_iload hx hb dX4_reachBy_91 (lv_at hl 2 rfl) ?_
        refine tk_iald hC hK hw hT kC_at156 rfl rfl (show 0 ≤ r106.toInt by first | with_reducible assumption | omega) (show r106.toInt < 10 by first | with_reducible assumption | omega) dX4_reachBy_93 (fun x129 c130 rx129 tx129 => ?_)
        have hox129 := c130
        replace hM := hM.rd (sI_at hox129)
        refine lv_iconst (v := (-1)) hx hb dX4_reachBy_94 (by decide) ?_
        refine lv_icmp_eq (tgt := 113) hx hb dX4_reachBy_95 (by decide) (fun c131 => ?_) (fun c131 => ?_)
        · have c131 : x129.toInt = (-1 : Int) := wk_eq.mp c131
          replace hM := hM.pos c131
          exact J113 1 r106 x115 r120 H locs ls w122 (show 0 ≤ a1.toInt from ra1) (show a1.toInt ≤ 12 from ta1) (show 0 ≤ a2.toInt from ra2) (show a2.toInt ≤ 9 from ta2) (show 2000 ≤ a3.toInt from ra3) (show a3.toInt ≤ 101999 from ta3) (by decide) (by decide) (show 0 ≤ r106.toInt by first | with_reducible assumption | omega) (show r106.toInt ≤ 9 by first | with_reducible assumption | omega) (show 0 ≤ x115.toInt from rx115) (show x115.toInt ≤ 9 from tx115) (show 0 ≤ r120.toInt by first | with_reducible assumption | omega) (show r120.toInt ≤ 101999 by first | with_reducible assumption | omega)  hw hT hF hM (lv_sub hl [4, 5, 6, 7, 3, 2, 1, 0] rfl)
        · have c131 : ¬ x129.toInt = (-1 : Int) := wk_eqF c131
          replace hM := hM.neg c131
          refine lv_iload hx hb dX4_reachBy_98 (lv_at hl 0 rfl) ?_
          refine lv_iload hx hb dX4_reachBy_100 (lv_at hl 1 rfl) ?_
          refine lv_iadd hx hb dX4_reachBy_102 ?_
          refine lv_topi (fun x132 ex132 => ?_)
          have ezx132 := ex132
          have ex132 : x132.toInt = r120.toInt + x115.toInt := by rw [ex132]; exact wk_add (show (-2147483648) ≤ r120.toInt + x115.toInt by omega) (show r120.toInt + x115.toInt ≤ 2147483647 by omega)
          replace hM := hM.lt ex132.symm
          refine lv_aload_n hx hb dX4_reachBy_103 rfl (lv_at hl 4 rfl) ?_
          refine tk_getA hC hK hw hT hinX4 kC_at155 (by decide) rfl 2 (by decide) (List.mem_cons_of_mem _ uw_5_19) rfl rfl dX4_reachBy_104 ?_
          refine lv_iload hx hb dX4_reachBy_107 (lv_at hl 2 rfl) ?_
          refine tk_iald hC hK hw hT kC_at156 rfl rfl (show 0 ≤ r106.toInt by first | with_reducible assumption | omega) (show r106.toInt < 10 by first | with_reducible assumption | omega) dX4_reachBy_109 (fun x133 c134 rx133 tx133 => ?_)
          have hox133 := c134
          replace hM := hM.rd (sI_at hox133)
          refine lv_icmp_ge (tgt := 125) hx hb dX4_reachBy_110 (by decide) (fun c135 => ?_) (fun c135 => ?_)
          · have c135 : x133.toInt ≤ x132.toInt := wk_le.mp c135
            replace hM := hM.pos c135
            exact J125 1 r106 x115 r120 H locs ls w122 (show 0 ≤ a1.toInt from ra1) (show a1.toInt ≤ 12 from ta1) (show 0 ≤ a2.toInt from ra2) (show a2.toInt ≤ 9 from ta2) (show 2000 ≤ a3.toInt from ra3) (show a3.toInt ≤ 101999 from ta3) (by decide) (by decide) (show 0 ≤ r106.toInt by first | with_reducible assumption | omega) (show r106.toInt ≤ 9 by first | with_reducible assumption | omega) (show 0 ≤ x115.toInt from rx115) (show x115.toInt ≤ 9 from tx115) (show (-1) ≤ r120.toInt by first | with_reducible assumption | omega) (show r120.toInt ≤ 101999 by first | with_reducible assumption | omega)  hw hT hF hM (lv_sub hl [4, 5, 6, 7, 3, 2, 1, 0] rfl)
          · have c135 : x132.toInt < x133.toInt := wk_leF c135
            replace hM := hM.neg (Int.not_le.mpr c135)
            exact J113 1 r106 x115 r120 H locs ls w122 (show 0 ≤ a1.toInt from ra1) (show a1.toInt ≤ 12 from ta1) (show 0 ≤ a2.toInt from ra2) (show a2.toInt ≤ 9 from ta2) (show 2000 ≤ a3.toInt from ra3) (show a3.toInt ≤ 101999 from ta3) (by decide) (by decide) (show 0 ≤ r106.toInt by first | with_reducible assumption | omega) (show r106.toInt ≤ 9 by first | with_reducible assumption | omega) (show 0 ≤ x115.toInt from rx115) (show x115.toInt ≤ 9 from tx115) (show 0 ≤ r120.toInt by first | with_reducible assumption | omega) (show r120.toInt ≤ 101999 by first | with_reducible assumption | omega)  hw hT hF hM (lv_sub hl [4, 5, 6, 7, 3, 2, 1, 0] rfl)
      · replace hM := hM.call (r' := (-1)) hv127 (by decide)
        refine lv_istore (lv' := [(7, .int (-1)), (6, .int x115), (5, .int r106), (4, .int 1), (0, .ref (ad 155)), (1, .int a1), (2, .int a2), (3, .int a3)]) hx hb dX4_reachBy_79 hl (by decide) rfl (fun ls hl => ?_)
        refine lv_iload hx hb dX4_reachBy_81 (lv_at hl 0 rfl) ?_
        refine lv_iconst (v := (-1)) hx hb dX4_reachBy_83 (by decide) ?_
        refine lv_icmp_eq (tgt := 125) hx hb dX4_reachBy_84 (by decide) (fun _ => ?_) (fun c => absurd (by decide) c)
        replace hM := hM.pos (by decide)
        exact J125 1 r106 x115 (-1) H locs ls w122 (show 0 ≤ a1.toInt from ra1) (show a1.toInt ≤ 12 from ta1) (show 0 ≤ a2.toInt from ra2) (show a2.toInt ≤ 9 from ta2) (show 2000 ≤ a3.toInt from ra3) (show a3.toInt ≤ 101999 from ta3) (by decide) (by decide) (show 0 ≤ r106.toInt by first | with_reducible assumption | omega) (show r106.toInt ≤ 9 by first | with_reducible assumption | omega) (show 0 ≤ x115.toInt from rx115) (show x115.toInt ≤ 9 from tx115) (by decide) (by decide)  hw hT hF hM (lv_sub hl [4, 5, 6, 7, 3, 2, 1, 0] rfl)
    · have c105 : ¬ x103.toInt = (0 : Int) := wk_eqF c105
      replace hM := hM.neg c105
      exact J35 1 H locs ls w96 (show 0 ≤ a1.toInt from ra1) (show a1.toInt ≤ 12 from ta1) (show 0 ≤ a2.toInt from ra2) (show a2.toInt ≤ 9 from ta2) (show 2000 ≤ a3.toInt from ra3) (show a3.toInt ≤ 101999 from ta3) (by decide) (by decide)  hw hT hF hM (lv_sub hl [1, 2, 3, 4, 0] rfl)
abbrev Pz_X4_earliestUnsettled_1 (ad : Nat → Nat) (cy : Nat → ClassId) (B : Int) (qr : Nat) (s1 : Int)  (w0 : va_W) : Int32 → va_W → Prop := fun r u => TW ksC ad cy B qr s1 u ∧ FE ksC ([] : List (Nat × Nat × Nat)) w0 u ∧ Ev (fun n => m_X4_earliestUnsettled n 155 (sI w0)) (r.toInt, sI u) ∧ (((-1) ≤ r.toInt ∧ r.toInt ≤ 9))
set_option maxHeartbeats 4000000 in
set_option maxRecDepth 100000 in
theorem kz_X4_earliestUnsettled_1 (l : Launch) (adK adV : Nat → Nat) (dC : Nat → ClassId) (dI : Nat → Nat → Nat) (cy : Nat → ClassId) (ad : Nat → Nat) (B : Int) (hB0 : 2147483648 ≤ B) (hB1 : B ≤ 1152921504606846976) (qr : Nat) (s1 : Int)   (w0 : va_W) (sz : Nat) (hT : TW ksC ad cy B qr s1 w0)  : Met l yX4_earliestUnsettled (wu yX4_earliestUnsettled cX4_earliestUnsettled 3 (some .int)) ({ frames := 1, cells := 0, slots := 0, locals := 12 }) (va_Pc [.ref (ad 155)] (wpreS adK adV dC dI cy sz w0)) (va_Qi (Pz_X4_earliestUnsettled_1 ad cy B qr s1  w0) (fun u : va_W => wpost dC dI cy (va_A w0 sz) u) (va_A w0 sz)) 0 0 (va_A w0 sz) := by
  refine Met.ofW (cc := cX4_earliestUnsettled) (maxL := 3) (ret := (some .int)) (by decide) rfl ?_
  intro p e s m args below meth c s₁ Bk hml hv
  obtain ⟨rfl, ⟨hsz, hP, hK, hD0⟩, hE, hSR⟩ := hv
  have hx := Bk.exec
  have hb := Bk.bytes
  have hr := Bk.returns
  have hlocks := Bk.notSynchronized
  have hC : CallFix p m c cX4_earliestUnsettled 3 s _ (wu yX4_earliestUnsettled cX4_earliestUnsettled 3 (some .int)) RX4 := ⟨hx, hb, hml, findClass_of_methodNamed Bk.named, atoms_spec (ws := (wu yX4_earliestUnsettled cX4_earliestUnsettled 3 (some .int))) Bk.pre⟩
  subst hsz
  have hD := hD0.self (sz := s.heap.size)
  generalize hAe : va_A w0 s.heap.size = A at hD hE ⊢
  have hA : ∀ q : Nat, s.heap.size ≤ q → A q := fun q h => by rw [← hAe]; exact Or.inr h
  have hw : Wd dC dI A s.heap s.heap [] w0 := ⟨hP, hD, va_S.rf⟩
  have hF : FE ksC ([] : List (Nat × Nat × Nat)) w0 w0 := FE.rf
  have hl := lv_entry ([.ref (ad 155)]) (n := 3) (Nat.le_of_ble_eq_true rfl)
  rw [lg_entry_eq]
  generalize (lg_sl ([.ref (ad 155)]) ++ List.replicate (3 - (lg_sl ([.ref (ad 155)])).length) Slot.unset).toArray = ls at hl ⊢
  have hl : lv_has ls 3 [(0, .ref (ad 155))] := hl
  generalize hloc : ([] : List Loc) = locs at hw ⊢
  have hinX4 : ∀ w ∈ u_ws RX4 TX4 4, w ∈ (wu yX4_earliestUnsettled cX4_earliestUnsettled 3 (some .int)) := fun _ h => List.mem_cons_of_mem _ (up_80 h)
  have hinX7 : ∀ w ∈ u_ws RX7 TX7 12, w ∈ (wu yX4_earliestUnsettled cX4_earliestUnsettled 3 (some .int)) := fun _ h => List.mem_cons_of_mem _ (up_73 h)
  have L4 : ∀ (n4 : Nat) (v4_1 : Int32) (v4_2 : Int32) (H : Heap) (locs : List Loc) (ls : Array Slot) (w1 : va_W), (-1) ≤ v4_1.toInt → v4_1.toInt ≤ 9 → 0 ≤ v4_2.toInt → v4_2.toInt ≤ 10 → (10 - v4_2.toInt).toNat < n4 → Wd dC dI A s.heap H locs w1 → TW ksC ad cy B qr s1 w1 → FE ksC ([] : List (Nat × Nat × Nat)) w0 w1 → TT (fun n => m_X4_earliestUnsettled n 155 (sI w0)) (fun n => j_X4_earliestUnsettled 155 n 4 [v4_1.toInt, v4_2.toInt] (sI w1)) → lv_has ls 3 [(0, .ref (ad 155)), (1, .int v4_1), (2, .int v4_2)] → W p l e ({ frames := 1, cells := 0, slots := 0, locals := 12 }) s m (List.toArray [.ref (ad 155)]) below meth c H locs 0 0 (MQ below (va_Qi (Pz_X4_earliestUnsettled_1 ad cy B qr s1  w0) (fun u : va_W => wpost dC dI cy A u) A) (List.toArray [.ref (ad 155)]) s 0 0 A) (F0 m 4 ls []) := by
    intro n4
    induction n4 with
    | zero => intro v4_1 v4_2 H locs ls w1 r2 t3 r4 t5 hm4 hw hT hF hM hl; omega
    | succ n4 ih4 =>
      intro v4_1 v4_2 H locs ls w1 r2 t3 r4 t5 hm4 hw hT hF hM hl
      have J56 : ∀ (v56_1 : Int32) (f56_39_8 : Int32) (H : Heap) (locs : List Loc) (ls : Array Slot) (w6 : va_W), (-1) ≤ v56_1.toInt → v56_1.toInt ≤ 9 → 0 ≤ v4_2.toInt → v4_2.toInt ≤ 9 → 1 ≤ f56_39_8.toInt → f56_39_8.toInt ≤ 10 → Wd dC dI A s.heap H locs w6 → TW ksC ad cy B qr s1 w6 → FE ksC ([] : List (Nat × Nat × Nat)) w0 w6 → gi w6 39 8 = f56_39_8 → TT (fun n => m_X4_earliestUnsettled n 155 (sI w0)) (fun n => b_X4_earliestUnsettled_56 (j_X4_earliestUnsettled 155 n) n 155 (v56_1.toInt) (v4_2.toInt) (sI w6)) → lv_has ls 3 [(0, .ref (ad 155)), (1, .int v56_1), (2, .int v4_2)] → W p l e ({ frames := 1, cells := 0, slots := 0, locals := 12 }) s m (List.toArray [.ref (ad 155)]) below meth c H locs 0 0 (MQ below (va_Qi (Pz_X4_earliestUnsettled_1 ad cy B qr s1  w0) (fun u : va_W => wpost dC dI cy A u) A) (List.toArray [.ref (ad 155)]) s 0 0 A) (F0 m 56 ls []) := by
        intro v56_1 f56_39_8 H locs ls w6 r7 t8 r9 t10 r11 t12 hw hT hF c13 hM hl
        obtain ⟨x14, ex14⟩ : ∃ y : Int32, y = v4_2 + Int32.ofInt 1 := ⟨_, rfl⟩
        have erx14 := ex14
        refine lv_iinc (v := x14) (lv' := [(2, .int x14), (0, .ref (ad 155)), (1, .int v56_1)]) hx hb dX4_earliestUnsettled_56 hl (k := 2) rfl ex14.symm (by decide) rfl (fun ls hl => ?_)
        have ex14 : x14.toInt = v4_2.toInt + 1 := by rw [ex14]; exact wk_add (y := 1) (show -2147483648 ≤ v4_2.toInt + 1 by omega) (show v4_2.toInt + 1 ≤ 2147483647 by omega)
        replace hM := hM.lt ex14.symm
        refine lv_goto (tgt := 4) hx hb dX4_earliestUnsettled_59 (by decide) ?_
        exact ih4 v56_1 x14 H locs ls w6 (show (-1) ≤ v56_1.toInt from r7) (show v56_1.toInt ≤ 9 from t8) (show 0 ≤ x14.toInt by first | with_reducible assumption | omega) (show x14.toInt ≤ 10 by first | with_reducible assumption | omega) (show (10 - x14.toInt).toNat < n4 by first | exact tn_lt hm4 (by omega) (by omega) | omega) hw hT hF hM (lv_sub hl [1, 2, 0] rfl)
      have J54 : ∀ (f54_39_8 : Int32) (H : Heap) (locs : List Loc) (ls : Array Slot) (w15 : va_W), (-1) ≤ v4_1.toInt → v4_1.toInt ≤ 9 → 0 ≤ v4_2.toInt → v4_2.toInt ≤ 9 → 1 ≤ f54_39_8.toInt → f54_39_8.toInt ≤ 10 → Wd dC dI A s.heap H locs w15 → TW ksC ad cy B qr s1 w15 → FE ksC ([] : List (Nat × Nat × Nat)) w0 w15 → gi w15 39 8 = f54_39_8 → TT (fun n => m_X4_earliestUnsettled n 155 (sI w0)) (fun n => b_X4_earliestUnsettled_54 (j_X4_earliestUnsettled 155 n) n 155 (v4_2.toInt) (sI w15)) → lv_has ls 3 [(0, .ref (ad 155)), (1, .int v4_1), (2, .int v4_2)] → W p l e ({ frames := 1, cells := 0, slots := 0, locals := 12 }) s m (List.toArray [.ref (ad 155)]) below meth c H locs 0 0 (MQ below (va_Qi (Pz_X4_earliestUnsettled_1 ad cy B qr s1  w0) (fun u : va_W => wpost dC dI cy A u) A) (List.toArray [.ref (ad 155)]) s 0 0 A) (F0 m 54 ls []) := by
        intro f54_39_8 H locs ls w15 r16 t17 r18 t19 r20 t21 hw hT hF c22 hM hl
        have hM : TT (fun n => m_X4_earliestUnsettled n 155 (sI w0)) (fun n => b_X4_earliestUnsettled_56 (j_X4_earliestUnsettled 155 n) n 155 (v4_2.toInt) (v4_2.toInt) (sI w15)) := hM
        refine lv_iload_n hx hb dX4_earliestUnsettled_54 rfl (lv_at hl 2 rfl) ?_
        refine lv_istore_n (lv' := [(1, .int v4_2), (0, .ref (ad 155)), (2, .int v4_2)]) hx hb dX4_earliestUnsettled_55 rfl hl (by decide) rfl (fun ls hl => ?_)
        exact J56 v4_2 f54_39_8 H locs ls w15 (show (-1) ≤ v4_2.toInt from Int.le_trans (by decide) r18) (show v4_2.toInt ≤ 9 from t19) (show 0 ≤ v4_2.toInt from r18) (show v4_2.toInt ≤ 9 from t19) (show 1 ≤ f54_39_8.toInt from r20) (show f54_39_8.toInt ≤ 10 from t21)  hw hT hF c22 hM (lv_sub hl [1, 0, 2] rfl)
      replace hM := hM.suc (fun _ => e_X4_earliestUnsettled_4)
      refine lv_iload_n hx hb dX4_earliestUnsettled_4 rfl (lv_at hl 2 rfl) ?_
      refine lv_aload_n hx hb dX4_earliestUnsettled_5 rfl (lv_at hl 0 rfl) ?_
      refine tk_getA hC hK hw hT hinX4 kC_at155 (by decide) rfl 1 (by decide) (List.mem_cons_of_mem _ uw_5_23) rfl rfl dX4_earliestUnsettled_6 ?_
      refine tk_geti hC hK hw hT hinX7 kC_at39 (by decide) rfl 8 (by decide) (List.mem_cons_of_mem _ uw_49_18) rfl rfl dX4_earliestUnsettled_9 (fun x23 c24 rx23 tx23 => ?_)
      replace hM := hM.rd (sI_at c24)
      refine lv_icmp_ge (tgt := 62) hx hb dX4_earliestUnsettled_12 (by decide) (fun c25 => ?_) (fun c25 => ?_)
      · have c25 : x23.toInt ≤ v4_2.toInt := wk_le.mp c25
        replace hM := hM.pos c25
        refine lv_iload_n hx hb dX4_earliestUnsettled_62 rfl (lv_at hl 1 rfl) ?_
        exact tk_iret hC hr hlocks hK ⟨hT, hF, hM.ret rfl, ⟨(show (-1) ≤ v4_1.toInt from r2), (show v4_1.toInt ≤ 9 from t3)⟩⟩ hw dX4_earliestUnsettled_63
      · have c25 : v4_2.toInt < x23.toInt := wk_leF c25
        replace hM := hM.neg (Int.not_le.mpr c25)
        refine lv_aload_n hx hb dX4_earliestUnsettled_15 rfl (lv_at hl 0 rfl) ?_
        refine tk_getA hC hK hw hT hinX4 kC_at155 (by decide) rfl 3 (by decide) (List.mem_cons_of_mem _ uw_5_20) rfl rfl dX4_earliestUnsettled_16 ?_
        refine lv_iload_n hx hb dX4_earliestUnsettled_19 rfl (lv_at hl 2 rfl) ?_
        refine tk_zald hC hK hw hT kC_at157 rfl rfl (show 0 ≤ v4_2.toInt from r4) (show v4_2.toInt < 10 by first | with_reducible assumption | omega) dX4_earliestUnsettled_20 (fun x26 c27 rx26 tx26 => ?_)
        have hox26 := c27
        replace hM := hM.rd (sI_at hox26)
        refine lv_if_ne (tgt := 56) hx hb dX4_earliestUnsettled_21 (by decide) (fun c28 => ?_) (fun c28 => ?_)
        · have c28 : ¬ x26.toInt = (0 : Int) := wk_eqF c28
          replace hM := hM.pos c28
          exact J56 v4_1 x23 H locs ls w1 (show (-1) ≤ v4_1.toInt from r2) (show v4_1.toInt ≤ 9 from t3) (show 0 ≤ v4_2.toInt from r4) (show v4_2.toInt ≤ 9 by first | with_reducible assumption | omega) (show 1 ≤ x23.toInt by first | with_reducible assumption | omega) (show x23.toInt ≤ 10 from tx23)  hw hT hF c24 hM (lv_sub hl [0, 1, 2] rfl)
        · have c28 : x26.toInt = (0 : Int) := wk_eq.mp c28
          replace hM := hM.neg (fun q => q c28)
          refine lv_aload_n hx hb dX4_earliestUnsettled_24 rfl (lv_at hl 0 rfl) ?_
          refine tk_getA hC hK hw hT hinX4 kC_at155 (by decide) rfl 2 (by decide) (List.mem_cons_of_mem _ uw_5_19) rfl rfl dX4_earliestUnsettled_25 ?_
          refine lv_iload_n hx hb dX4_earliestUnsettled_28 rfl (lv_at hl 2 rfl) ?_
          refine tk_iald hC hK hw hT kC_at156 rfl rfl (show 0 ≤ v4_2.toInt from r4) (show v4_2.toInt < 10 by first | with_reducible assumption | omega) dX4_earliestUnsettled_29 (fun x29 c30 rx29 tx29 => ?_)
          have hox29 := c30
          replace hM := hM.rd (sI_at hox29)
          refine lv_iconst (v := (-1)) hx hb dX4_earliestUnsettled_30 (by decide) ?_
          refine lv_icmp_eq (tgt := 56) hx hb dX4_earliestUnsettled_31 (by decide) (fun c31 => ?_) (fun c31 => ?_)
          · have c31 : x29.toInt = (-1 : Int) := wk_eq.mp c31
            replace hM := hM.pos c31
            exact J56 v4_1 x23 H locs ls w1 (show (-1) ≤ v4_1.toInt from r2) (show v4_1.toInt ≤ 9 from t3) (show 0 ≤ v4_2.toInt from r4) (show v4_2.toInt ≤ 9 by first | with_reducible assumption | omega) (show 1 ≤ x23.toInt by first | with_reducible assumption | omega) (show x23.toInt ≤ 10 from tx23)  hw hT hF c24 hM (lv_sub hl [0, 1, 2] rfl)
          · have c31 : ¬ x29.toInt = (-1 : Int) := wk_eqF c31
            replace hM := hM.neg c31
            refine lv_iload_n hx hb dX4_earliestUnsettled_34 rfl (lv_at hl 1 rfl) ?_
            refine lv_iconst (v := (-1)) hx hb dX4_earliestUnsettled_35 (by decide) ?_
            refine lv_icmp_eq (tgt := 54) hx hb dX4_earliestUnsettled_36 (by decide) (fun c32 => ?_) (fun c32 => ?_)
            · have c32 : v4_1.toInt = (-1 : Int) := wk_eq.mp c32
              replace hM := hM.pos c32
              exact J54 x23 H locs ls w1 (show (-1) ≤ v4_1.toInt from r2) (show v4_1.toInt ≤ 9 from t3) (show 0 ≤ v4_2.toInt from r4) (show v4_2.toInt ≤ 9 by first | with_reducible assumption | omega) (show 1 ≤ x23.toInt by first | with_reducible assumption | omega) (show x23.toInt ≤ 10 from tx23)  hw hT hF c24 hM (lv_sub hl [0, 1, 2] rfl)
            · have c32 : ¬ v4_1.toInt = (-1 : Int) := wk_eqF c32
              replace hM := hM.neg c32
              refine lv_aload_n hx hb dX4_earliestUnsettled_39 rfl (lv_at hl 0 rfl) ?_
              refine tk_getA hC hK hw hT hinX4 kC_at155 (by decide) rfl 2 (by decide) (List.mem_cons_of_mem _ uw_5_19) rfl rfl dX4_earliestUnsettled_40 ?_
              refine lv_iload_n hx hb dX4_earliestUnsettled_43 rfl (lv_at hl 2 rfl) ?_
              refine tk_iald hC hK hw hT kC_at156 rfl rfl (show 0 ≤ v4_2.toInt from r4) (show v4_2.toInt < 10 by first | with_reducible assumption | omega) dX4_earliestUnsettled_44 (fun x33 c34 rx33 tx33 => ?_)
              have hox33 := c34
              replace hM := hM.rd (sI_at hox33)
              refine lv_aload_n hx hb dX4_earliestUnsettled_45 rfl (lv_at hl 0 rfl) ?_
              refine tk_getA hC hK hw hT hinX4 kC_at155 (by decide) rfl 2 (by decide) (List.mem_cons_of_mem _ uw_5_19) rfl rfl dX4_earliestUnsettled_46 ?_
              refine lv_iload_n hx hb dX4_earliestUnsettled_49 rfl (lv_at hl 1 rfl) ?_
              refine tk_iald hC hK hw hT kC_at156 rfl rfl (show 0 ≤ v4_1.toInt by first | with_reducible assumption | omega) (show v4_1.toInt < 10 from Int.lt_of_le_of_lt t3 (by decide)) dX4_earliestUnsettled_50 (fun x35 c36 rx35 tx35 => ?_)
              have hox35 := c36
              replace hM := hM.rd (sI_at hox35)
              refine lv_icmp_ge (tgt := 56) hx hb dX4_earliestUnsettled_51 (by decide) (fun c37 => ?_) (fun c37 => ?_)
              · have c37 : x35.toInt ≤ x33.toInt := wk_le.mp c37
                replace hM := hM.pos c37
                exact J56 v4_1 x23 H locs ls w1 (show (-1) ≤ v4_1.toInt from r2) (show v4_1.toInt ≤ 9 from t3) (show 0 ≤ v4_2.toInt from r4) (show v4_2.toInt ≤ 9 by first | with_reducible assumption | omega) (show 1 ≤ x23.toInt by first | with_reducible assumption | omega) (show x23.toInt ≤ 10 from tx23)  hw hT hF c24 hM (lv_sub hl [0, 1, 2] rfl)
              · have c37 : x33.toInt < x35.toInt := wk_leF c37
                replace hM := hM.neg (Int.not_le.mpr c37)
                exact J54 x23 H locs ls w1 (show (-1) ≤ v4_1.toInt from r2) (show v4_1.toInt ≤ 9 from t3) (show 0 ≤ v4_2.toInt from r4) (show v4_2.toInt ≤ 9 by first | with_reducible assumption | omega) (show 1 ≤ x23.toInt by first | with_reducible assumption | omega) (show x23.toInt ≤ 10 from tx23)  hw hT hF c24 hM (lv_sub hl [0, 1, 2] rfl)
  have hM : TT (fun n => m_X4_earliestUnsettled n 155 (sI w0)) (fun n => m_X4_earliestUnsettled n 155 (sI w0)) := TT.rf
  refine lv_iconst (v := (-1)) hx hb dX4_earliestUnsettled_0 (by decide) ?_
  refine lv_istore_n (lv' := [(1, .int (-1)), (0, .ref (ad 155))]) hx hb dX4_earliestUnsettled_1 rfl hl (by decide) rfl (fun ls hl => ?_)
  refine lv_iconst (v := 0) hx hb dX4_earliestUnsettled_2 (by decide) ?_
  refine lv_istore_n (lv' := [(2, .int 0), (1, .int (-1)), (0, .ref (ad 155))]) hx hb dX4_earliestUnsettled_3 rfl hl (by decide) rfl (fun ls hl => ?_)
  exact L4 ((10 - (0 : Int)).toNat + 1) (-1) 0 s.heap locs ls w0 (by decide) (by decide) (by decide) (by decide) (Nat.lt_succ_self _) hw hT hF hM (lv_sub hl [2, 1, 0] rfl)
abbrev Pz_X4_clear_1 (ad : Nat → Nat) (cy : Nat → ClassId) (B : Int) (qr : Nat) (s1 : Int)  (w0 : va_W) : va_W → Prop := fun u => TW ksC ad cy B qr s1 u ∧ FE ksC [(48, 0, 10), (49, 0, 10)] w0 u ∧ Ev (fun n => m_X4_clear n 155 (sI w0)) (0, sI u) ∧ ((True))
set_option maxHeartbeats 4000000 in
set_option maxRecDepth 100000 in
theorem kz_X4_clear_1 (l : Launch) (adK adV : Nat → Nat) (dC : Nat → ClassId) (dI : Nat → Nat → Nat) (cy : Nat → ClassId) (ad : Nat → Nat) (B : Int) (hB0 : 2147483648 ≤ B) (hB1 : B ≤ 1152921504606846976) (qr : Nat) (s1 : Int)   (w0 : va_W) (sz : Nat) (hT : TW ksC ad cy B qr s1 w0)  : Met l yX4_clear (wu yX4_clear cX4_clear 2 none) ({ frames := 1, cells := 0, slots := 0, locals := 12 }) (va_Pc [.ref (ad 155)] (wpreS adK adV dC dI cy sz w0)) (va_Qv (Pz_X4_clear_1 ad cy B qr s1  w0) (fun u : va_W => wpost dC dI cy (va_A w0 sz) u) (va_A w0 sz)) 0 0 (va_A w0 sz) := by
  refine Met.ofW (cc := cX4_clear) (maxL := 2) (ret := none) (by decide) rfl ?_
  intro p e s m args below meth c s₁ Bk hml hv
  obtain ⟨rfl, ⟨hsz, hP, hK, hD0⟩, hE, hSR⟩ := hv
  have hx := Bk.exec
  have hb := Bk.bytes
  have hr := Bk.returns
  have hlocks := Bk.notSynchronized
  have hC : CallFix p m c cX4_clear 2 s _ (wu yX4_clear cX4_clear 2 none) RX4 := ⟨hx, hb, hml, findClass_of_methodNamed Bk.named, atoms_spec (ws := (wu yX4_clear cX4_clear 2 none)) Bk.pre⟩
  subst hsz
  have hD := hD0.self (sz := s.heap.size)
  generalize hAe : va_A w0 s.heap.size = A at hD hE ⊢
  have hA : ∀ q : Nat, s.heap.size ≤ q → A q := fun q h => by rw [← hAe]; exact Or.inr h
  have hw : Wd dC dI A s.heap s.heap [] w0 := ⟨hP, hD, va_S.rf⟩
  have hF : FE ksC [(48, 0, 10), (49, 0, 10)] w0 w0 := FE.rf
  have hl := lv_entry ([.ref (ad 155)]) (n := 2) (Nat.le_of_ble_eq_true rfl)
  rw [lg_entry_eq]
  generalize (lg_sl ([.ref (ad 155)]) ++ List.replicate (2 - (lg_sl ([.ref (ad 155)])).length) Slot.unset).toArray = ls at hl ⊢
  have hl : lv_has ls 2 [(0, .ref (ad 155))] := hl
  generalize hloc : ([] : List Loc) = locs at hw ⊢
  have hinX4 : ∀ w ∈ u_ws RX4 TX4 4, w ∈ (wu yX4_clear cX4_clear 2 none) := fun _ h => List.mem_cons_of_mem _ (up_80 h)
  have L2 : ∀ (n2 : Nat) (v2_1 : Int32) (H : Heap) (locs : List Loc) (ls : Array Slot) (w1 : va_W), 0 ≤ v2_1.toInt → v2_1.toInt ≤ 10 → (10 - v2_1.toInt).toNat < n2 → Wd dC dI A s.heap H locs w1 → TW ksC ad cy B qr s1 w1 → FE ksC [(48, 0, 10), (49, 0, 10)] w0 w1 → TT (fun n => m_X4_clear n 155 (sI w0)) (fun n => j_X4_clear 155 n 2 [v2_1.toInt] (sI w1)) → lv_has ls 2 [(0, .ref (ad 155)), (1, .int v2_1)] → W p l e ({ frames := 1, cells := 0, slots := 0, locals := 12 }) s m (List.toArray [.ref (ad 155)]) below meth c H locs 0 0 (MQ below (va_Qv (Pz_X4_clear_1 ad cy B qr s1  w0) (fun u : va_W => wpost dC dI cy A u) A) (List.toArray [.ref (ad 155)]) s 0 0 A) (F0 m 2 ls []) := by
    intro n2
    induction n2 with
    | zero => intro v2_1 H locs ls w1 r2 t3 hm2 hw hT hF hM hl; omega
    | succ n2 ih2 =>
      intro v2_1 H locs ls w1 r2 t3 hm2 hw hT hF hM hl
      replace hM := hM.suc (fun _ => e_X4_clear_2)
      refine lv_iload_n hx hb dX4_clear_2 rfl (lv_at hl 1 rfl) ?_
      refine lv_bipush (v := 10) hx hb dX4_clear_3 (by decide) ?_
      refine lv_icmp_ge (tgt := 28) hx hb dX4_clear_5 (by decide) (fun c4 => ?_) (fun c4 => ?_)
      · have c4 : (10 : Int) ≤ v2_1.toInt := wk_le.mp c4
        replace hM := hM.pos c4
        exact tk_vret hC hr hlocks hK ⟨hT, hF, hM.ret rfl, trivial⟩ hw dX4_clear_28
      · have c4 : v2_1.toInt < (10 : Int) := wk_leF c4
        replace hM := hM.neg (Int.not_le.mpr c4)
        refine lv_aload_n hx hb dX4_clear_8 rfl (lv_at hl 0 rfl) ?_
        refine tk_getA hC hK hw hT hinX4 kC_at155 (by decide) rfl 2 (by decide) (List.mem_cons_of_mem _ uw_5_19) rfl rfl dX4_clear_9 ?_
        refine lv_iload_n hx hb dX4_clear_12 rfl (lv_at hl 1 rfl) ?_
        refine lv_iconst (v := (-1)) hx hb dX4_clear_13 (by decide) ?_
        refine tk_iast hC hK hw hT kC_at156 (by decide) rfl rfl (show 0 ≤ v2_1.toInt from r2) (show v2_1.toInt < 10 by first | with_reducible assumption | omega) (by decide) (by decide) dX4_clear_14 (fun H locs w5 hw hT k7 c6 => ?_)
        replace hM := hM.wr (sI_upc k7 c6 (by decide))
        have hF := hF.put kC_at156 (inE_of (a := 0) (b := 10) (by decide) (show 0 ≤ v2_1.toInt.toNat by omega) (show v2_1.toInt.toNat ≤ 10 by omega)) k7
        refine lv_aload_n hx hb dX4_clear_15 rfl (lv_at hl 0 rfl) ?_
        refine tk_getA hC hK hw hT hinX4 kC_at155 (by decide) rfl 3 (by decide) (List.mem_cons_of_mem _ uw_5_20) rfl rfl dX4_clear_16 ?_
        refine lv_iload_n hx hb dX4_clear_19 rfl (lv_at hl 1 rfl) ?_
        refine lv_iconst (v := 0) hx hb dX4_clear_20 (by decide) ?_
        refine tk_zast hC hK hw hT kC_at157 (by decide) rfl rfl (show 0 ≤ v2_1.toInt from r2) (show v2_1.toInt < 10 by first | with_reducible assumption | omega) (by decide) (by decide) dX4_clear_21 (fun H locs w8 hw hT k10 c9 => ?_)
        replace hM := hM.wr (sI_upc k10 c9 (by decide))
        have hF := hF.put kC_at157 (inE_of (a := 0) (b := 10) (by decide) (show 0 ≤ v2_1.toInt.toNat by omega) (show v2_1.toInt.toNat ≤ 10 by omega)) k10
        obtain ⟨x11, ex11⟩ : ∃ y : Int32, y = v2_1 + Int32.ofInt 1 := ⟨_, rfl⟩
        have erx11 := ex11
        refine lv_iinc (v := x11) (lv' := [(1, .int x11), (0, .ref (ad 155))]) hx hb dX4_clear_22 hl (k := 1) rfl ex11.symm (by decide) rfl (fun ls hl => ?_)
        have ex11 : x11.toInt = v2_1.toInt + 1 := by rw [ex11]; exact wk_add (y := 1) (show -2147483648 ≤ v2_1.toInt + 1 by omega) (show v2_1.toInt + 1 ≤ 2147483647 by omega)
        replace hM := hM.lt ex11.symm
        refine lv_goto (tgt := 2) hx hb dX4_clear_25 (by decide) ?_
        exact ih2 x11 H locs ls w8 (show 0 ≤ x11.toInt by first | with_reducible assumption | omega) (show x11.toInt ≤ 10 by first | with_reducible assumption | omega) (show (10 - x11.toInt).toNat < n2 by first | exact tn_lt hm2 (by omega) (by omega) | omega) hw hT hF hM (lv_sub hl [1, 0] rfl)
  have hM : TT (fun n => m_X4_clear n 155 (sI w0)) (fun n => m_X4_clear n 155 (sI w0)) := TT.rf
  refine lv_iconst (v := 0) hx hb dX4_clear_0 (by decide) ?_
  refine lv_istore_n (lv' := [(1, .int 0), (0, .ref (ad 155))]) hx hb dX4_clear_1 rfl hl (by decide) rfl (fun ls hl => ?_)
  exact L2 ((10 - (0 : Int)).toNat + 1) 0 s.heap locs ls w0 (by decide) (by decide) (Nat.lt_succ_self _) hw hT hF hM (lv_sub hl [1, 0] rfl)
abbrev Pz_X4_firstArrival_1 (ad : Nat → Nat) (cy : Nat → ClassId) (B : Int) (qr : Nat) (s1 : Int) (a1 : Int32) (a2 : Int32) (a3 : Int32) (a4 : Int32) (w0 : va_W) : Int32 → va_W → Prop := fun r u => TW ksC ad cy B qr s1 u ∧ FE ksC [(48, 0, 10), (49, 0, 10)] w0 u ∧ Ev (fun n => m_X4_firstArrival n 155 a1.toInt a2.toInt a3.toInt a4.toInt (sI w0)) (r.toInt, sI u) ∧ (((-1) ≤ r.toInt ∧ r.toInt ≤ 102119 ∧ (∃ y : Int32, gi u 39 8 = y ∧ 1 ≤ y.toInt ∧ y.toInt ≤ 10)) ∨ (r = (-1)))
set_option maxHeartbeats 4000000 in
set_option maxRecDepth 100000 in
theorem kz_X4_firstArrival_1 (l : Launch) (adK adV : Nat → Nat) (dC : Nat → ClassId) (dI : Nat → Nat → Nat) (cy : Nat → ClassId) (ad : Nat → Nat) (B : Int) (hB0 : 2147483648 ≤ B) (hB1 : B ≤ 1152921504606846976) (qr : Nat) (s1 : Int)  (a1 : Int32) (ra1 : 1 ≤ a1.toInt) (ta1 : a1.toInt ≤ 13) (a2 : Int32) (ra2 : 0 ≤ a2.toInt) (ta2 : a2.toInt ≤ 9) (a3 : Int32) (ra3 : 0 ≤ a3.toInt) (ta3 : a3.toInt ≤ 9) (a4 : Int32) (ra4 : 0 ≤ a4.toInt) (ta4 : a4.toInt ≤ 99999) (w0 : va_W) (sz : Nat) (hT : TW ksC ad cy B qr s1 w0)  : Met l yX4_firstArrival (wu yX4_firstArrival cX4_firstArrival 8 (some .int)) ({ frames := 4, cells := 0, slots := 0, locals := 95 }) (va_Pc [.ref (ad 155), .int a1, .int a2, .int a3, .int a4] (wpreS adK adV dC dI cy sz w0)) (va_Qi (Pz_X4_firstArrival_1 ad cy B qr s1 a1 a2 a3 a4 w0) (fun u : va_W => wpost dC dI cy (va_A w0 sz) u) (va_A w0 sz)) 0 0 (va_A w0 sz) := by
  refine Met.ofW (cc := cX4_firstArrival) (maxL := 8) (ret := (some .int)) (by decide) rfl ?_
  intro p e s m args below meth c s₁ Bk hml hv
  obtain ⟨rfl, ⟨hsz, hP, hK, hD0⟩, hE, hSR⟩ := hv
  have hx := Bk.exec
  have hb := Bk.bytes
  have hr := Bk.returns
  have hlocks := Bk.notSynchronized
  have hC : CallFix p m c cX4_firstArrival 8 s _ (wu yX4_firstArrival cX4_firstArrival 8 (some .int)) RX4 := ⟨hx, hb, hml, findClass_of_methodNamed Bk.named, atoms_spec (ws := (wu yX4_firstArrival cX4_firstArrival 8 (some .int))) Bk.pre⟩
  subst hsz
  have hD := hD0.self (sz := s.heap.size)
  generalize hAe : va_A w0 s.heap.size = A at hD hE ⊢
  have hA : ∀ q : Nat, s.heap.size ≤ q → A q := fun q h => by rw [← hAe]; exact Or.inr h
  have hw : Wd dC dI A s.heap s.heap [] w0 := ⟨hP, hD, va_S.rf⟩
  have hF : FE ksC [(48, 0, 10), (49, 0, 10)] w0 w0 := FE.rf
  have hl := lv_entry ([.ref (ad 155), .int a1, .int a2, .int a3, .int a4]) (n := 8) (Nat.le_of_ble_eq_true rfl)
  rw [lg_entry_eq]
  generalize (lg_sl ([.ref (ad 155), .int a1, .int a2, .int a3, .int a4]) ++ List.replicate (8 - (lg_sl ([.ref (ad 155), .int a1, .int a2, .int a3, .int a4])).length) Slot.unset).toArray = ls at hl ⊢
  have hl : lv_has ls 8 [(0, .ref (ad 155)), (1, .int a1), (2, .int a2), (3, .int a3), (4, .int a4)] := hl
  generalize hloc : ([] : List Loc) = locs at hw ⊢
  have hinX4 : ∀ w ∈ u_ws RX4 TX4 4, w ∈ (wu yX4_firstArrival cX4_firstArrival 8 (some .int)) := fun _ h => List.mem_cons_of_mem _ (up_80 h)
  have hinX7 : ∀ w ∈ u_ws RX7 TX7 12, w ∈ (wu yX4_firstArrival cX4_firstArrival 8 (some .int)) := fun _ h => List.mem_cons_of_mem _ (up_73 h)
  have L15 : ∀ (n15 : Nat) (v15_5 : Int32) (H : Heap) (locs : List Loc) (ls : Array Slot) (w1 : va_W), 1 ≤ a1.toInt → a1.toInt ≤ 13 → 0 ≤ a2.toInt → a2.toInt ≤ 9 → 0 ≤ a3.toInt → a3.toInt ≤ 9 → 0 ≤ a4.toInt → a4.toInt ≤ 99999 → 0 ≤ v15_5.toInt → v15_5.toInt ≤ 10 → (10 - v15_5.toInt).toNat < n15 → Wd dC dI A s.heap H locs w1 → TW ksC ad cy B qr s1 w1 → FE ksC [(48, 0, 10), (49, 0, 10)] w0 w1 → TT (fun n => m_X4_firstArrival n 155 a1.toInt a2.toInt a3.toInt a4.toInt (sI w0)) (fun n => j_X4_firstArrival 155 n 15 [a1.toInt, a3.toInt, a4.toInt, v15_5.toInt] (sI w1)) → lv_has ls 8 [(0, .ref (ad 155)), (1, .int a1), (2, .int a2), (3, .int a3), (4, .int a4), (5, .int v15_5)] → W p l e ({ frames := 4, cells := 0, slots := 0, locals := 95 }) s m (List.toArray [.ref (ad 155), .int a1, .int a2, .int a3, .int a4]) below meth c H locs 0 0 (MQ below (va_Qi (Pz_X4_firstArrival_1 ad cy B qr s1 a1 a2 a3 a4 w0) (fun u : va_W => wpost dC dI cy A u) A) (List.toArray [.ref (ad 155), .int a1, .int a2, .int a3, .int a4]) s 0 0 A) (F0 m 15 ls []) := by
    intro n15
    induction n15 with
    | zero => intro v15_5 H locs ls w1 r2 t3 r4 t5 r6 t7 r8 t9 r10 t11 hm15 hw hT hF hM hl; omega
    | succ n15 ih15 =>
      intro v15_5 H locs ls w1 r2 t3 r4 t5 r6 t7 r8 t9 r10 t11 hm15 hw hT hF hM hl
      have L65 : ∀ (n65 : Nat) (v65_6 : Int32) (v65_7 : Int32) (f65_39_8 : Int32) (H : Heap) (locs : List Loc) (ls : Array Slot) (w12 : va_W), 1 ≤ a1.toInt → a1.toInt ≤ 13 → 0 ≤ a2.toInt → a2.toInt ≤ 9 → 0 ≤ a3.toInt → a3.toInt ≤ 9 → 0 ≤ a4.toInt → a4.toInt ≤ 99999 → 0 ≤ v15_5.toInt → v15_5.toInt ≤ 9 → 0 ≤ v65_6.toInt → v65_6.toInt ≤ 9 → 0 ≤ v65_7.toInt → v65_7.toInt ≤ 13 → 1 ≤ f65_39_8.toInt → f65_39_8.toInt ≤ 10 → (13 - v65_7.toInt).toNat < n65 → Wd dC dI A s.heap H locs w12 → TW ksC ad cy B qr s1 w12 → FE ksC [(48, 0, 10), (49, 0, 10)] w0 w12 → gi w12 39 8 = f65_39_8 → TT (fun n => m_X4_firstArrival n 155 a1.toInt a2.toInt a3.toInt a4.toInt (sI w0)) (fun n => j_X4_firstArrival 155 n 65 [a1.toInt, a3.toInt, a4.toInt, v15_5.toInt, v65_6.toInt, v65_7.toInt] (sI w12)) → lv_has ls 8 [(0, .ref (ad 155)), (1, .int a1), (2, .int a2), (3, .int a3), (4, .int a4), (5, .int v15_5), (6, .int v65_6), (7, .int v65_7)] → W p l e ({ frames := 4, cells := 0, slots := 0, locals := 95 }) s m (List.toArray [.ref (ad 155), .int a1, .int a2, .int a3, .int a4]) below meth c H locs 0 0 (MQ below (va_Qi (Pz_X4_firstArrival_1 ad cy B qr s1 a1 a2 a3 a4 w0) (fun u : va_W => wpost dC dI cy A u) A) (List.toArray [.ref (ad 155), .int a1, .int a2, .int a3, .int a4]) s 0 0 A) (F0 m 65 ls []) := by
        intro n65
        induction n65 with
        | zero => intro v65_6 v65_7 f65_39_8 H locs ls w12 r13 t14 r15 t16 r17 t18 r19 t20 r21 t22 r23 t24 r25 t26 r27 t28 hm65 hw hT hF c29 hM hl; omega
        | succ n65 ih65 =>
          intro v65_6 v65_7 f65_39_8 H locs ls w12 r13 t14 r15 t16 r17 t18 r19 t20 r21 t22 r23 t24 r25 t26 r27 t28 hm65 hw hT hF c29 hM hl
          replace hM := hM.suc (fun _ => e_X4_firstArrival_65)
          refine lv_iload hx hb dX4_firstArrival_65 (lv_at hl 7 rfl) ?_
          refine lv_iload_n hx hb dX4_firstArrival_67 rfl (lv_at hl 1 rfl) ?_
          refine lv_icmp_ge (tgt := 91) hx hb dX4_firstArrival_68 (by decide) (fun c30 => ?_) (fun c30 => ?_)
          · have c30 : a1.toInt ≤ v65_7.toInt := wk_le.mp c30
            replace hM := hM.pos c30
            obtain ⟨x31, ex31⟩ : ∃ y : Int32, y = v15_5 + Int32.ofInt 1 := ⟨_, rfl⟩
            have erx31 := ex31
            refine lv_iinc (v := x31) (lv' := [(5, .int x31), (0, .ref (ad 155)), (1, .int a1), (2, .int a2), (3, .int a3), (4, .int a4), (6, .int v65_6), (7, .int v65_7)]) hx hb dX4_firstArrival_91 hl (k := 5) rfl ex31.symm (by decide) rfl (fun ls hl => ?_)
            have ex31 : x31.toInt = v15_5.toInt + 1 := by rw [ex31]; exact wk_add (y := 1) (show -2147483648 ≤ v15_5.toInt + 1 by omega) (show v15_5.toInt + 1 ≤ 2147483647 by omega)
            replace hM := hM.lt ex31.symm
            refine lv_goto (tgt := 15) hx hb dX4_firstArrival_94 (by decide) ?_
            exact ih15 x31 H locs ls w12 (show 1 ≤ a1.toInt from r13) (show a1.toInt ≤ 13 from t14) (show 0 ≤ a2.toInt from r15) (show a2.toInt ≤ 9 from t16) (show 0 ≤ a3.toInt from r17) (show a3.toInt ≤ 9 from t18) (show 0 ≤ a4.toInt from r19) (show a4.toInt ≤ 99999 from t20) (show 0 ≤ x31.toInt by first | with_reducible assumption | omega) (show x31.toInt ≤ 10 by first | with_reducible assumption | omega) (show (10 - x31.toInt).toNat < n15 by first | exact tn_lt hm15 (by omega) (by omega) | omega) hw hT hF hM (lv_sub hl [1, 2, 3, 4, 5, 0] rfl)
          · have c30 : v65_7.toInt < a1.toInt := wk_leF c30
            replace hM := hM.neg (Int.not_le.mpr c30)
            refine lv_aload_n hx hb dX4_firstArrival_71 rfl (lv_at hl 0 rfl) ?_
            refine lv_iload hx hb dX4_firstArrival_72 (lv_at hl 7 rfl) ?_
            refine lv_iload hx hb dX4_firstArrival_74 (lv_at hl 6 rfl) ?_
            refine lv_iload hx hb dX4_firstArrival_76 (lv_at hl 4 rfl) ?_
            refine lv_sipush (v := 2000) hx hb dX4_firstArrival_78 (by decide) ?_
            refine lv_iadd hx hb dX4_firstArrival_81 ?_
            refine lv_topi (fun x32 ex32 => ?_)
            have ezx32 := ex32
            have ex32 : x32.toInt = a4.toInt + (2000 : Int) := by rw [ex32]; exact wk_add (show (-2147483648) ≤ a4.toInt + (2000 : Int) by omega) (show a4.toInt + (2000 : Int) ≤ 2147483647 by omega)
            replace hM := hM.lt ex32.symm
            refine tk_Vv hC hK hw hT hA hE hSR kC_at155 (by decide) rfl (kz_X4_reachBy_1 l adK adV dC dI cy ad B hB0 (Int.le_trans hB1 (by decide)) qr s1   v65_7 (show 0 ≤ v65_7.toInt from r25) (show v65_7.toInt ≤ 12 by first | with_reducible assumption | omega) v65_6 (show 0 ≤ v65_6.toInt from r23) (show v65_6.toInt ≤ 9 from t24) x32 (show 2000 ≤ x32.toInt by first | with_reducible assumption | omega) (show x32.toInt ≤ 101999 by first | with_reducible assumption | omega) w12 H.size hT ) (cwV 3 hC.2.2.2.2 uV_RX4_43 rfl rfl rfl (by decide +kernel) ⟨Nat.le_of_ble_eq_true rfl, Nat.le_of_ble_eq_true rfl⟩) rfl hl.1 rfl (Nat.le_of_ble_eq_true rfl) dX4_firstArrival_82 (fun w35 H locs hp34 hw => ?_)
            obtain ⟨hT, k36, hv38, hg37⟩ := hp34
            have hF := hF.tr k36 (by decide)
            have c39 := k36.gi kC_at39 (by decide) c29
            clear hg37
            replace hM := hM.call hv38 rfl
            obtain ⟨x40, ex40⟩ : ∃ y : Int32, y = v65_7 + Int32.ofInt 1 := ⟨_, rfl⟩
            have erx40 := ex40
            refine lv_iinc (v := x40) (lv' := [(7, .int x40), (0, .ref (ad 155)), (1, .int a1), (2, .int a2), (3, .int a3), (4, .int a4), (5, .int v15_5), (6, .int v65_6)]) hx hb dX4_firstArrival_85 hl (k := 7) rfl ex40.symm (by decide) rfl (fun ls hl => ?_)
            have ex40 : x40.toInt = v65_7.toInt + 1 := by rw [ex40]; exact wk_add (y := 1) (show -2147483648 ≤ v65_7.toInt + 1 by omega) (show v65_7.toInt + 1 ≤ 2147483647 by omega)
            replace hM := hM.lt ex40.symm
            refine lv_goto (tgt := 65) hx hb dX4_firstArrival_88 (by decide) ?_
            exact ih65 v65_6 x40 f65_39_8 H locs ls w35 (show 1 ≤ a1.toInt from r13) (show a1.toInt ≤ 13 from t14) (show 0 ≤ a2.toInt from r15) (show a2.toInt ≤ 9 from t16) (show 0 ≤ a3.toInt from r17) (show a3.toInt ≤ 9 from t18) (show 0 ≤ a4.toInt from r19) (show a4.toInt ≤ 99999 from t20) (show 0 ≤ v15_5.toInt from r21) (show v15_5.toInt ≤ 9 from t22) (show 0 ≤ v65_6.toInt from r23) (show v65_6.toInt ≤ 9 from t24) (show 0 ≤ x40.toInt by first | with_reducible assumption | omega) (show x40.toInt ≤ 13 by first | with_reducible assumption | omega) (show 1 ≤ f65_39_8.toInt from r27) (show f65_39_8.toInt ≤ 10 from t28) (show (13 - x40.toInt).toNat < n65 by first | exact tn_lt hm65 (by omega) (by omega) | omega) hw hT hF c39 hM (lv_sub hl [1, 2, 3, 4, 5, 6, 7, 0] rfl)
      replace hM := hM.suc (fun _ => e_X4_firstArrival_15)
      refine lv_iload hx hb dX4_firstArrival_15 (lv_at hl 5 rfl) ?_
      refine lv_aload_n hx hb dX4_firstArrival_17 rfl (lv_at hl 0 rfl) ?_
      refine tk_getA hC hK hw hT hinX4 kC_at155 (by decide) rfl 1 (by decide) (List.mem_cons_of_mem _ uw_5_23) rfl rfl dX4_firstArrival_18 ?_
      refine tk_geti hC hK hw hT hinX7 kC_at39 (by decide) rfl 8 (by decide) (List.mem_cons_of_mem _ uw_49_18) rfl rfl dX4_firstArrival_21 (fun x41 c42 rx41 tx41 => ?_)
      replace hM := hM.rd (sI_at c42)
      refine lv_icmp_ge (tgt := 97) hx hb dX4_firstArrival_24 (by decide) (fun c43 => ?_) (fun c43 => ?_)
      · have c43 : x41.toInt ≤ v15_5.toInt := wk_le.mp c43
        replace hM := hM.pos c43
        refine lv_iconst (v := (-1)) hx hb dX4_firstArrival_97 (by decide) ?_
        exact tk_iret hC hr hlocks hK ⟨hT, hF, hM.ret (by decide), (Or.inr rfl)⟩ hw dX4_firstArrival_98
      · have c43 : v15_5.toInt < x41.toInt := wk_leF c43
        replace hM := hM.neg (Int.not_le.mpr c43)
        refine lv_aload_n hx hb dX4_firstArrival_27 rfl (lv_at hl 0 rfl) ?_
        refine tk_Vi hC hK hw hT hA hE hSR kC_at155 (by decide) rfl (kz_X4_earliestUnsettled_1 l adK adV dC dI cy ad B hB0 (Int.le_trans hB1 (by decide)) qr s1    w1 H.size hT ) (cwV 0 hC.2.2.2.2 uV_RX4_39 rfl rfl rfl (by decide +kernel) ⟨Nat.le_of_ble_eq_true rfl, Nat.le_of_ble_eq_true rfl⟩) rfl hl.1 rfl (Nat.le_of_ble_eq_true rfl) dX4_firstArrival_28 (fun r44 w46 H locs hp45 hw => ?_)
        obtain ⟨hT, k47, hv51, hg50⟩ := hp45
        have hF := hF.tr k47 (by decide)
        have c52 := k47.gi kC_at39 (by decide) c42
        obtain ⟨g48, g49⟩ := hg50
        replace hM := hM.call hv51 rfl
        refine lv_istore (lv' := [(6, .int r44), (0, .ref (ad 155)), (1, .int a1), (2, .int a2), (3, .int a3), (4, .int a4), (5, .int v15_5)]) hx hb dX4_firstArrival_31 hl (by decide) rfl (fun ls hl => ?_)
        refine lv_iload hx hb dX4_firstArrival_33 (lv_at hl 0 rfl) ?_
        refine lv_iconst (v := (-1)) hx hb dX4_firstArrival_35 (by decide) ?_
        refine lv_icmp_ne (tgt := 41) hx hb dX4_firstArrival_36 (by decide) (fun c53 => ?_) (fun c53 => ?_)
        · have c53 : ¬ r44.toInt = (-1 : Int) := wk_eqF c53
          replace hM := hM.pos c53
          refine lv_iload hx hb dX4_firstArrival_41 (lv_at hl 0 rfl) ?_
          refine lv_iload_n hx hb dX4_firstArrival_43 rfl (lv_at hl 4 rfl) ?_
          refine lv_icmp_ne (tgt := 54) hx hb dX4_firstArrival_44 (by decide) (fun c54 => ?_) (fun c54 => ?_)
          · have c54 : ¬ r44.toInt = a3.toInt := wk_eqF c54
            replace hM := hM.pos c54
            refine lv_aload_n hx hb dX4_firstArrival_54 rfl (lv_at hl 1 rfl) ?_
            refine tk_getA hC hK hw hT hinX4 kC_at155 (by decide) rfl 3 (by decide) (List.mem_cons_of_mem _ uw_5_20) rfl rfl dX4_firstArrival_55 ?_
            refine lv_iload hx hb dX4_firstArrival_58 (lv_at hl 0 rfl) ?_
            refine lv_iconst (v := 1) hx hb dX4_firstArrival_60 (by decide) ?_
            refine tk_zast hC hK hw hT kC_at157 (by decide) rfl rfl (show 0 ≤ r44.toInt by first | with_reducible assumption | omega) (show r44.toInt < 10 by first | with_reducible assumption | omega) (by decide) (by decide) dX4_firstArrival_61 (fun H locs w55 hw hT k57 c56 => ?_)
            replace hM := hM.wr (sI_upc k57 c56 (by decide))
            have hF := hF.put kC_at157 (inE_of (a := 0) (b := 10) (by decide) (show 0 ≤ r44.toInt.toNat by omega) (show r44.toInt.toNat ≤ 10 by omega)) k57
            have c58 := k57.gi (Or.inl (tk_ne kC_at39 kC_at157 (by decide))) c52
            refine lv_iconst (v := 0) hx hb dX4_firstArrival_62 (by decide) ?_
            refine lv_istore (lv' := [(7, .int 0), (6, .int r44), (0, .ref (ad 155)), (1, .int a1), (2, .int a2), (3, .int a3), (4, .int a4), (5, .int v15_5)]) hx hb dX4_firstArrival_63 hl (by decide) rfl (fun ls hl => ?_)
            exact L65 ((13 - (0 : Int)).toNat + 1) r44 0 x41 H locs ls w55 (show 1 ≤ a1.toInt from r2) (show a1.toInt ≤ 13 from t3) (show 0 ≤ a2.toInt from r4) (show a2.toInt ≤ 9 from t5) (show 0 ≤ a3.toInt from r6) (show a3.toInt ≤ 9 from t7) (show 0 ≤ a4.toInt from r8) (show a4.toInt ≤ 99999 from t9) (show 0 ≤ v15_5.toInt from r10) (show v15_5.toInt ≤ 9 by first | with_reducible assumption | omega) (show 0 ≤ r44.toInt by first | with_reducible assumption | omega) (show r44.toInt ≤ 9 by first | with_reducible assumption | omega) (by decide) (by decide) (show 1 ≤ x41.toInt by first | with_reducible assumption | omega) (show x41.toInt ≤ 10 from tx41) (Nat.lt_succ_self _) hw hT hF c58 hM (lv_sub hl [2, 3, 4, 5, 6, 7, 1, 0] rfl)
          · have c54 : r44.toInt = a3.toInt := wk_eq.mp c54
            replace hM := hM.neg (fun q => q c54)
            refine lv_aload_n hx hb dX4_firstArrival_47 rfl (lv_at hl 1 rfl) ?_
            refine tk_getA hC hK hw hT hinX4 kC_at155 (by decide) rfl 2 (by decide) (List.mem_cons_of_mem _ uw_5_19) rfl rfl dX4_firstArrival_48 ?_
            refine lv_iload_n hx hb dX4_firstArrival_51 rfl (lv_at hl 4 rfl) ?_
            refine tk_iald hC hK hw hT kC_at156 rfl rfl (show 0 ≤ a3.toInt from r6) (show a3.toInt < 10 from Int.lt_of_le_of_lt t7 (by decide)) dX4_firstArrival_52 (fun x59 c60 rx59 tx59 => ?_)
            have hox59 := c60
            replace hM := hM.rd (sI_at hox59)
            exact tk_iret hC hr hlocks hK ⟨hT, hF, hM.ret rfl, (Or.inl ⟨(show (-1) ≤ x59.toInt from rx59), (show x59.toInt ≤ 102119 from tx59), ⟨x41, c52, (show 1 ≤ x41.toInt by first | with_reducible assumption | omega), (show x41.toInt ≤ 10 from tx41)⟩⟩)⟩ hw dX4_firstArrival_53
        · have c53 : r44.toInt = (-1 : Int) := wk_eq.mp c53
          replace hM := hM.neg (fun q => q c53)
          refine lv_iconst (v := (-1)) hx hb dX4_firstArrival_39 (by decide) ?_
          exact tk_iret hC hr hlocks hK ⟨hT, hF, hM.ret (by decide), (Or.inr rfl)⟩ hw dX4_firstArrival_40
  have hM : TT (fun n => m_X4_firstArrival n 155 a1.toInt a2.toInt a3.toInt a4.toInt (sI w0)) (fun n => m_X4_firstArrival n 155 a1.toInt a2.toInt a3.toInt a4.toInt (sI w0)) := TT.rf
  refine lv_aload_n hx hb dX4_firstArrival_0 rfl (lv_at hl 0 rfl) ?_
  refine tk_Vv hC hK hw hT hA hE hSR kC_at155 (by decide) rfl (kz_X4_clear_1 l adK adV dC dI cy ad B hB0 (Int.le_trans hB1 (by decide)) qr s1    w0 s.heap.size hT ) (cwV 0 hC.2.2.2.2 uV_RX4_30 rfl rfl rfl (by decide +kernel) ⟨Nat.le_of_ble_eq_true rfl, Nat.le_of_ble_eq_true rfl⟩) rfl hl.1 rfl (Nat.le_of_ble_eq_true rfl) dX4_firstArrival_1 (fun w63 H locs hp62 hw => ?_)
  obtain ⟨hT, k64, hv66, hg65⟩ := hp62
  have hF := hF.tr k64 (by decide)
  clear hg65
  replace hM := hM.call hv66 rfl
  refine lv_aload_n hx hb dX4_firstArrival_4 rfl (lv_at hl 0 rfl) ?_
  refine tk_getA hC hK hw hT hinX4 kC_at155 (by decide) rfl 2 (by decide) (List.mem_cons_of_mem _ uw_5_19) rfl rfl dX4_firstArrival_5 ?_
  refine lv_iload_n hx hb dX4_firstArrival_8 rfl (lv_at hl 2 rfl) ?_
  refine lv_iload hx hb dX4_firstArrival_9 (lv_at hl 4 rfl) ?_
  refine tk_iast hC hK hw hT kC_at156 (by decide) rfl rfl (show 0 ≤ a2.toInt from ra2) (show a2.toInt < 10 from Int.lt_of_le_of_lt ta2 (by decide)) (show (-1) ≤ a4.toInt from Int.le_trans (by decide) ra4) (show a4.toInt ≤ 102119 from Int.le_trans ta4 (by decide)) dX4_firstArrival_11 (fun H locs w67 hw hT k69 c68 => ?_)
  replace hM := hM.wr (sI_up k69 c68)
  have hF := hF.put kC_at156 (inE_of (a := 0) (b := 10) (by decide) (show 0 ≤ a2.toInt.toNat by omega) (show a2.toInt.toNat ≤ 10 by omega)) k69
  refine lv_iconst (v := 0) hx hb dX4_firstArrival_12 (by decide) ?_
  refine lv_istore (lv' := [(5, .int 0), (0, .ref (ad 155)), (1, .int a1), (2, .int a2), (3, .int a3), (4, .int a4)]) hx hb dX4_firstArrival_13 hl (by decide) rfl (fun ls hl => ?_)
  exact L15 ((10 - (0 : Int)).toNat + 1) 0 H locs ls w67 (show 1 ≤ a1.toInt from ra1) (show a1.toInt ≤ 13 from ta1) (show 0 ≤ a2.toInt from ra2) (show a2.toInt ≤ 9 from ta2) (show 0 ≤ a3.toInt from ra3) (show a3.toInt ≤ 9 from ta3) (show 0 ≤ a4.toInt from ra4) (show a4.toInt ≤ 99999 from ta4) (by decide) (by decide) (Nat.lt_succ_self _) hw hT hF hM (lv_sub hl [1, 2, 3, 4, 5, 0] rfl)
abbrev Pz_X4_sumOfErrands_1 (ad : Nat → Nat) (cy : Nat → ClassId) (B : Int) (qr : Nat) (s1 : Int) (a1 : Int32) (a2 : Int32) (w0 : va_W) : Int32 → va_W → Prop := fun r u => TW ksC ad cy B qr s1 u ∧ FE ksC [(48, 0, 10), (49, 0, 10)] w0 u ∧ Ev (fun n => m_X4_sumOfErrands n 155 a1.toInt a2.toInt (sI w0)) (r.toInt, sI u) ∧ ((True))
set_option maxHeartbeats 4000000 in
set_option maxRecDepth 100000 in
theorem kz_X4_sumOfErrands_1 (l : Launch) (adK adV : Nat → Nat) (dC : Nat → ClassId) (dI : Nat → Nat → Nat) (cy : Nat → ClassId) (ad : Nat → Nat) (B : Int) (hB0 : 2147483648 ≤ B) (hB1 : B ≤ 1152921504606846976) (qr : Nat) (s1 : Int)  (a1 : Int32) (ra1 : 0 ≤ a1.toInt) (ta1 : a1.toInt ≤ 99999) (a2 : Int32) (ta2 : a2.toInt ≤ 14007) (w0 : va_W) (sz : Nat) (hT : TW ksC ad cy B qr s1 w0)  : Met l yX4_sumOfErrands (wu yX4_sumOfErrands cX4_sumOfErrands 6 (some .int)) ({ frames := 5, cells := 0, slots := 0, locals := 122 }) (va_Pc [.ref (ad 155), .int a1, .int a2] (wpreS adK adV dC dI cy sz w0)) (va_Qi (Pz_X4_sumOfErrands_1 ad cy B qr s1 a1 a2 w0) (fun u : va_W => wpost dC dI cy (va_A w0 sz) u) (va_A w0 sz)) 0 0 (va_A w0 sz) := by
  refine Met.ofW (cc := cX4_sumOfErrands) (maxL := 6) (ret := (some .int)) (by decide) rfl ?_
  intro p e s m args below meth c s₁ Bk hml hv
  obtain ⟨rfl, ⟨hsz, hP, hK, hD0⟩, hE, hSR⟩ := hv
  have hx := Bk.exec
  have hb := Bk.bytes
  have hr := Bk.returns
  have hlocks := Bk.notSynchronized
  have hC : CallFix p m c cX4_sumOfErrands 6 s _ (wu yX4_sumOfErrands cX4_sumOfErrands 6 (some .int)) RX4 := ⟨hx, hb, hml, findClass_of_methodNamed Bk.named, atoms_spec (ws := (wu yX4_sumOfErrands cX4_sumOfErrands 6 (some .int))) Bk.pre⟩
  subst hsz
  have hD := hD0.self (sz := s.heap.size)
  generalize hAe : va_A w0 s.heap.size = A at hD hE ⊢
  have hA : ∀ q : Nat, s.heap.size ≤ q → A q := fun q h => by rw [← hAe]; exact Or.inr h
  have hw : Wd dC dI A s.heap s.heap [] w0 := ⟨hP, hD, va_S.rf⟩
  have hF : FE ksC [(48, 0, 10), (49, 0, 10)] w0 w0 := FE.rf
  have hl := lv_entry ([.ref (ad 155), .int a1, .int a2]) (n := 6) (Nat.le_of_ble_eq_true rfl)
  rw [lg_entry_eq]
  generalize (lg_sl ([.ref (ad 155), .int a1, .int a2]) ++ List.replicate (6 - (lg_sl ([.ref (ad 155), .int a1, .int a2])).length) Slot.unset).toArray = ls at hl ⊢
  have hl : lv_has ls 6 [(0, .ref (ad 155)), (1, .int a1), (2, .int a2)] := hl
  generalize hloc : ([] : List Loc) = locs at hw ⊢
  have hinX4 : ∀ w ∈ u_ws RX4 TX4 4, w ∈ (wu yX4_sumOfErrands cX4_sumOfErrands 6 (some .int)) := fun _ h => List.mem_cons_of_mem _ (up_80 h)
  have hinX5 : ∀ w ∈ u_ws RX5 TX5 14, w ∈ (wu yX4_sumOfErrands cX4_sumOfErrands 6 (some .int)) := fun _ h => List.mem_cons_of_mem _ (up_76 h)
  have hinX7 : ∀ w ∈ u_ws RX7 TX7 12, w ∈ (wu yX4_sumOfErrands cX4_sumOfErrands 6 (some .int)) := fun _ h => List.mem_cons_of_mem _ (up_73 h)
  have J83 : ∀ (v83_3 : Int32) (v83_4 : Int32) (f83_38_10 : Int32) (H : Heap) (locs : List Loc) (ls : Array Slot) (w1 : va_W), 0 ≤ a1.toInt → a1.toInt ≤ 99999 → a2.toInt ≤ 14007 → 0 ≤ v83_4.toInt → v83_4.toInt ≤ 6 → 0 ≤ f83_38_10.toInt → f83_38_10.toInt ≤ 6 → Wd dC dI A s.heap H locs w1 → TW ksC ad cy B qr s1 w1 → FE ksC [(48, 0, 10), (49, 0, 10)] w0 w1 → gi w1 38 10 = f83_38_10 → TT (fun n => m_X4_sumOfErrands n 155 a1.toInt a2.toInt (sI w0)) (fun n => b_X4_sumOfErrands_83 (j_X4_sumOfErrands 155 n) n 155 (v83_3.toInt) (sI w1)) → lv_has ls 6 [(0, .ref (ad 155)), (1, .int a1), (2, .int a2), (3, .int v83_3), (4, .int v83_4)] → W p l e ({ frames := 5, cells := 0, slots := 0, locals := 122 }) s m (List.toArray [.ref (ad 155), .int a1, .int a2]) below meth c H locs 0 0 (MQ below (va_Qi (Pz_X4_sumOfErrands_1 ad cy B qr s1 a1 a2 w0) (fun u : va_W => wpost dC dI cy A u) A) (List.toArray [.ref (ad 155), .int a1, .int a2]) s 0 0 A) (F0 m 83 ls []) := by
    intro v83_3 v83_4 f83_38_10 H locs ls w1 r2 t3 t4 r5 t6 r7 t8 hw hT hF c9 hM hl
    refine lv_iload_n hx hb dX4_sumOfErrands_83 rfl (lv_at hl 3 rfl) ?_
    exact tk_iret hC hr hlocks hK ⟨hT, hF, hM.ret rfl, trivial⟩ hw dX4_sumOfErrands_84
  have L5 : ∀ (n5 : Nat) (v5_3 : Int32) (v5_4 : Int32) (H : Heap) (locs : List Loc) (ls : Array Slot) (w10 : va_W), 0 ≤ a1.toInt → a1.toInt ≤ 99999 → a2.toInt ≤ 14007 → 0 ≤ v5_4.toInt → v5_4.toInt ≤ 6 → (6 - v5_4.toInt).toNat < n5 → Wd dC dI A s.heap H locs w10 → TW ksC ad cy B qr s1 w10 → FE ksC [(48, 0, 10), (49, 0, 10)] w0 w10 → TT (fun n => m_X4_sumOfErrands n 155 a1.toInt a2.toInt (sI w0)) (fun n => j_X4_sumOfErrands 155 n 5 [a1.toInt, a2.toInt, v5_3.toInt, v5_4.toInt] (sI w10)) → lv_has ls 6 [(0, .ref (ad 155)), (1, .int a1), (2, .int a2), (3, .int v5_3), (4, .int v5_4)] → W p l e ({ frames := 5, cells := 0, slots := 0, locals := 122 }) s m (List.toArray [.ref (ad 155), .int a1, .int a2]) below meth c H locs 0 0 (MQ below (va_Qi (Pz_X4_sumOfErrands_1 ad cy B qr s1 a1 a2 w0) (fun u : va_W => wpost dC dI cy A u) A) (List.toArray [.ref (ad 155), .int a1, .int a2]) s 0 0 A) (F0 m 5 ls []) := by
    intro n5
    induction n5 with
    | zero => intro v5_3 v5_4 H locs ls w10 r11 t12 t13 r14 t15 hm5 hw hT hF hM hl; omega
    | succ n5 ih5 =>
      intro v5_3 v5_4 H locs ls w10 r11 t12 t13 r14 t15 hm5 hw hT hF hM hl
      replace hM := hM.suc (fun _ => e_X4_sumOfErrands_5)
      refine lv_iload hx hb dX4_sumOfErrands_5 (lv_at hl 4 rfl) ?_
      refine lv_aload_n hx hb dX4_sumOfErrands_7 rfl (lv_at hl 0 rfl) ?_
      refine tk_getA hC hK hw hT hinX4 kC_at155 (by decide) rfl 0 (by decide) (List.mem_cons_of_mem _ uw_5_21) rfl rfl dX4_sumOfErrands_8 ?_
      refine tk_geti hC hK hw hT hinX5 kC_at38 (by decide) rfl 10 (by decide) (List.mem_cons_of_mem _ uw_66_9) rfl rfl dX4_sumOfErrands_11 (fun x16 c17 rx16 tx16 => ?_)
      replace hM := hM.rd (sI_at c17)
      refine lv_icmp_ge (tgt := 83) hx hb dX4_sumOfErrands_14 (by decide) (fun c18 => ?_) (fun c18 => ?_)
      · have c18 : x16.toInt ≤ v5_4.toInt := wk_le.mp c18
        replace hM := hM.pos c18
        exact J83 v5_3 v5_4 x16 H locs ls w10 (show 0 ≤ a1.toInt from r11) (show a1.toInt ≤ 99999 from t12) (show a2.toInt ≤ 14007 from t13) (show 0 ≤ v5_4.toInt from r14) (show v5_4.toInt ≤ 6 from t15) (show 0 ≤ x16.toInt from rx16) (show x16.toInt ≤ 6 from tx16)  hw hT hF c17 hM (lv_sub hl [0, 1, 2, 3, 4] rfl)
      · have c18 : v5_4.toInt < x16.toInt := wk_leF c18
        replace hM := hM.neg (Int.not_le.mpr c18)
        refine lv_iload_n hx hb dX4_sumOfErrands_17 rfl (lv_at hl 3 rfl) ?_
        refine lv_iload_n hx hb dX4_sumOfErrands_18 rfl (lv_at hl 2 rfl) ?_
        refine lv_icmp_ge (tgt := 83) hx hb dX4_sumOfErrands_19 (by decide) (fun c19 => ?_) (fun c19 => ?_)
        · have c19 : a2.toInt ≤ v5_3.toInt := wk_le.mp c19
          replace hM := hM.pos c19
          exact J83 v5_3 v5_4 x16 H locs ls w10 (show 0 ≤ a1.toInt from r11) (show a1.toInt ≤ 99999 from t12) (show a2.toInt ≤ 14007 from t13) (show 0 ≤ v5_4.toInt from r14) (show v5_4.toInt ≤ 6 from t15) (show 0 ≤ x16.toInt from rx16) (show x16.toInt ≤ 6 from tx16)  hw hT hF c17 hM (lv_sub hl [0, 1, 2, 3, 4] rfl)
        · have c19 : v5_3.toInt < a2.toInt := wk_leF c19
          replace hM := hM.neg (Int.not_le.mpr c19)
          refine lv_aload_n hx hb dX4_sumOfErrands_22 rfl (lv_at hl 0 rfl) ?_
          refine lv_aload_n hx hb dX4_sumOfErrands_23 rfl (lv_at hl 0 rfl) ?_
          refine tk_getA hC hK hw hT hinX4 kC_at155 (by decide) rfl 1 (by decide) (List.mem_cons_of_mem _ uw_5_23) rfl rfl dX4_sumOfErrands_24 ?_
          refine tk_geti hC hK hw hT hinX7 kC_at39 (by decide) rfl 9 (by decide) (List.mem_cons_of_mem _ uw_51_18) rfl rfl dX4_sumOfErrands_27 (fun x20 c21 rx20 tx20 => ?_)
          replace hM := hM.rd (sI_at c21)
          refine lv_iconst (v := 1) hx hb dX4_sumOfErrands_30 (by decide) ?_
          refine lv_iadd hx hb dX4_sumOfErrands_31 ?_
          refine lv_topi (fun x22 ex22 => ?_)
          have ezx22 := ex22
          have ex22 : x22.toInt = x20.toInt + (1 : Int) := by rw [ex22]; exact wk_add (show (-2147483648) ≤ x20.toInt + (1 : Int) by omega) (show x20.toInt + (1 : Int) ≤ 2147483647 by omega)
          replace hM := hM.lt ex22.symm
          refine lv_aload_n hx hb dX4_sumOfErrands_32 rfl (lv_at hl 0 rfl) ?_
          refine tk_getA hC hK hw hT hinX4 kC_at155 (by decide) rfl 0 (by decide) (List.mem_cons_of_mem _ uw_5_21) rfl rfl dX4_sumOfErrands_33 ?_
          refine tk_getO hC hK hw hT hinX5 kC_at38 (by decide) rfl 3 (by decide) (List.mem_cons_of_mem _ uw_66_10) rfl rfl dX4_sumOfErrands_36 ?_
          refine lv_iload hx hb dX4_sumOfErrands_39 (lv_at hl 4 rfl) ?_
          refine tk_iald hC hK hw hT kC_at50 rfl rfl (show 0 ≤ v5_4.toInt from r14) (show v5_4.toInt < 6 by first | with_reducible assumption | omega) dX4_sumOfErrands_41 (fun x23 c24 rx23 tx23 => ?_)
          have hox23 := c24
          replace hM := hM.rd (sI_at hox23)
          refine lv_aload_n hx hb dX4_sumOfErrands_42 rfl (lv_at hl 0 rfl) ?_
          refine tk_getA hC hK hw hT hinX4 kC_at155 (by decide) rfl 0 (by decide) (List.mem_cons_of_mem _ uw_5_21) rfl rfl dX4_sumOfErrands_43 ?_
          refine tk_getO hC hK hw hT hinX5 kC_at38 (by decide) rfl 4 (by decide) (List.mem_cons_of_mem _ uw_66_11) rfl rfl dX4_sumOfErrands_46 ?_
          refine lv_iload hx hb dX4_sumOfErrands_49 (lv_at hl 4 rfl) ?_
          refine tk_iald hC hK hw hT kC_at51 rfl rfl (show 0 ≤ v5_4.toInt from r14) (show v5_4.toInt < 6 by first | with_reducible assumption | omega) dX4_sumOfErrands_51 (fun x25 c26 rx25 tx25 => ?_)
          have hox25 := c26
          replace hM := hM.rd (sI_at hox25)
          refine lv_iload_n hx hb dX4_sumOfErrands_52 rfl (lv_at hl 1 rfl) ?_
          refine tk_Vi hC hK hw hT hA hE hSR kC_at155 (by decide) rfl (kz_X4_firstArrival_1 l adK adV dC dI cy ad B hB0 (Int.le_trans hB1 (by decide)) qr s1   x22 (show 1 ≤ x22.toInt by first | with_reducible assumption | omega) (show x22.toInt ≤ 13 by first | with_reducible assumption | omega) x23 (show 0 ≤ x23.toInt from rx23) (show x23.toInt ≤ 9 from tx23) x25 (show 0 ≤ x25.toInt from rx25) (show x25.toInt ≤ 9 from tx25) a1 (show 0 ≤ a1.toInt from r11) (show a1.toInt ≤ 99999 from t12) w10 H.size hT ) (cwV 4 hC.2.2.2.2 uV_RX4_64 rfl rfl rfl (by decide +kernel) ⟨Nat.le_of_ble_eq_true rfl, Nat.le_of_ble_eq_true rfl⟩) rfl hl.1 rfl (Nat.le_of_ble_eq_true rfl) dX4_sumOfErrands_53 (fun r27 w29 H locs hp28 hw => ?_)
          obtain ⟨hT, k30, hv36, hg35⟩ := hp28
          have hF := hF.tr k30 (by decide)
          have c37 := k30.gi kC_at38 (by decide) c17
          have c38 := k30.gi kC_at39 (by decide) c21
          rcases hg35 with ⟨g31, g32, ⟨x33, c34, rx33, tx33⟩⟩ | rfl
          · replace hM := hM.call hv36 rfl
            refine lv_istore (lv' := [(5, .int r27), (0, .ref (ad 155)), (1, .int a1), (2, .int a2), (3, .int v5_3), (4, .int v5_4)]) hx hb dX4_sumOfErrands_56 hl (by decide) rfl (fun ls hl => ?_)
            refine lv_iload_n hx hb dX4_sumOfErrands_58 rfl (lv_at hl 4 rfl) ?_
            refine lv_iload hx hb dX4_sumOfErrands_59 (lv_at hl 0 rfl) ?_
            refine lv_iconst (v := (-1)) hx hb dX4_sumOfErrands_61 (by decide) ?_
            refine lv_icmp_ne (tgt := 71) hx hb dX4_sumOfErrands_62 (by decide) (fun c39 => ?_) (fun c39 => ?_)
            · have c39 : ¬ r27.toInt = (-1 : Int) := wk_eqF c39
              replace hM := hM.pos c39
              refine lv_iload hx hb dX4_sumOfErrands_71 (lv_at hl 0 rfl) ?_
              refine lv_iload_n hx hb dX4_sumOfErrands_73 rfl (lv_at hl 2 rfl) ?_
              refine lv_isub hx hb dX4_sumOfErrands_74 ?_
              refine lv_topi (fun x40 ex40 => ?_)
              have ezx40 := ex40
              have ex40 : x40.toInt = r27.toInt - a1.toInt := by rw [ex40]; exact wk_sub (show (-2147483648) ≤ r27.toInt - a1.toInt by omega) (show r27.toInt - a1.toInt ≤ 2147483647 by omega)
              replace hM := hM.lt ex40.symm
              refine lv_iadd hx hb dX4_sumOfErrands_75 ?_
              have nx41 := wk_i32 v5_3
              refine lv_topi (fun x42 ex42 => ?_)
              have ezx42 := ex42
              replace hM := hM.lt (o32_e (f := fun x y => x + y) ezx42 rfl rfl)
              refine lv_istore_n (lv' := [(3, .int x42), (5, .int r27), (0, .ref (ad 155)), (1, .int a1), (2, .int a2), (4, .int v5_4)]) hx hb dX4_sumOfErrands_76 rfl hl (by decide) rfl (fun ls hl => ?_)
              obtain ⟨x43, ex43⟩ : ∃ y : Int32, y = v5_4 + Int32.ofInt 1 := ⟨_, rfl⟩
              have erx43 := ex43
              refine lv_iinc (v := x43) (lv' := [(4, .int x43), (3, .int x42), (5, .int r27), (0, .ref (ad 155)), (1, .int a1), (2, .int a2)]) hx hb dX4_sumOfErrands_77 hl (k := 5) rfl ex43.symm (by decide) rfl (fun ls hl => ?_)
              have ex43 : x43.toInt = v5_4.toInt + 1 := by rw [ex43]; exact wk_add (y := 1) (show -2147483648 ≤ v5_4.toInt + 1 by omega) (show v5_4.toInt + 1 ≤ 2147483647 by omega)
              replace hM := hM.lt ex43.symm
              refine lv_goto (tgt := 5) hx hb dX4_sumOfErrands_80 (by decide) ?_
              exact ih5 x42 x43 H locs ls w29 (show 0 ≤ a1.toInt from r11) (show a1.toInt ≤ 99999 from t12) (show a2.toInt ≤ 14007 from t13) (show 0 ≤ x43.toInt by first | with_reducible assumption | omega) (show x43.toInt ≤ 6 by first | with_reducible assumption | omega) (show (6 - x43.toInt).toNat < n5 by first | exact tn_lt hm5 (by omega) (by omega) | omega) hw hT hF hM (lv_sub hl [3, 4, 5, 1, 0] rfl)
            · have c39 : r27.toInt = (-1 : Int) := wk_eq.mp c39
              replace hM := hM.neg (fun q => q c39)
              refine lv_sipush (v := 2001) hx hb dX4_sumOfErrands_65 (by decide) ?_
              refine lv_goto (tgt := 75) hx hb dX4_sumOfErrands_68 (by decide) ?_
              refine lv_iadd hx hb dX4_sumOfErrands_75 ?_
              have nx44 := wk_i32 v5_3
              refine lv_topi (fun x45 ex45 => ?_)
              have ezx45 := ex45
              have ex45 : x45.toInt = v5_3.toInt + (2001 : Int) := by rw [ex45]; exact wk_add (show (-2147483648) ≤ v5_3.toInt + (2001 : Int) by omega) (show v5_3.toInt + (2001 : Int) ≤ 2147483647 by omega)
              replace hM := hM.lt (o32_e (f := fun x y => x + y) ezx45 rfl (by decide))
              refine lv_istore_n (lv' := [(3, .int x45), (5, .int r27), (0, .ref (ad 155)), (1, .int a1), (2, .int a2), (4, .int v5_4)]) hx hb dX4_sumOfErrands_76 rfl hl (by decide) rfl (fun ls hl => ?_)
              obtain ⟨x46, ex46⟩ : ∃ y : Int32, y = v5_4 + Int32.ofInt 1 := ⟨_, rfl⟩
              have erx46 := ex46
              refine lv_iinc (v := x46) (lv' := [(4, .int x46), (3, .int x45), (5, .int r27), (0, .ref (ad 155)), (1, .int a1), (2, .int a2)]) hx hb dX4_sumOfErrands_77 hl (k := 5) rfl ex46.symm (by decide) rfl (fun ls hl => ?_)
              have ex46 : x46.toInt = v5_4.toInt + 1 := by rw [ex46]; exact wk_add (y := 1) (show -2147483648 ≤ v5_4.toInt + 1 by omega) (show v5_4.toInt + 1 ≤ 2147483647 by omega)
              replace hM := hM.lt ex46.symm
              refine lv_goto (tgt := 5) hx hb dX4_sumOfErrands_80 (by decide) ?_
              exact ih5 x45 x46 H locs ls w29 (show 0 ≤ a1.toInt from r11) (show a1.toInt ≤ 99999 from t12) (show a2.toInt ≤ 14007 from t13) (show 0 ≤ x46.toInt by first | with_reducible assumption | omega) (show x46.toInt ≤ 6 by first | with_reducible assumption | omega) (show (6 - x46.toInt).toNat < n5 by first | exact tn_lt hm5 (by omega) (by omega) | omega) hw hT hF hM (lv_sub hl [3, 4, 5, 1, 0] rfl)
          · replace hM := hM.call (r' := (-1)) hv36 (by decide)
            refine lv_istore (lv' := [(5, .int (-1)), (0, .ref (ad 155)), (1, .int a1), (2, .int a2), (3, .int v5_3), (4, .int v5_4)]) hx hb dX4_sumOfErrands_56 hl (by decide) rfl (fun ls hl => ?_)
            refine lv_iload_n hx hb dX4_sumOfErrands_58 rfl (lv_at hl 4 rfl) ?_
            refine lv_iload hx hb dX4_sumOfErrands_59 (lv_at hl 0 rfl) ?_
            refine lv_iconst (v := (-1)) hx hb dX4_sumOfErrands_61 (by decide) ?_
            refine lv_icmp_ne (tgt := 71) hx hb dX4_sumOfErrands_62 (by decide) (fun c => absurd (by decide) c) (fun _ => ?_)
            replace hM := hM.neg (by decide)
            refine lv_sipush (v := 2001) hx hb dX4_sumOfErrands_65 (by decide) ?_
            refine lv_goto (tgt := 75) hx hb dX4_sumOfErrands_68 (by decide) ?_
            refine lv_iadd hx hb dX4_sumOfErrands_75 ?_
            have nx47 := wk_i32 v5_3
            refine lv_topi (fun x48 ex48 => ?_)
            have ezx48 := ex48
            have ex48 : x48.toInt = v5_3.toInt + (2001 : Int) := by rw [ex48]; exact wk_add (show (-2147483648) ≤ v5_3.toInt + (2001 : Int) by omega) (show v5_3.toInt + (2001 : Int) ≤ 2147483647 by omega)
            replace hM := hM.lt (o32_e (f := fun x y => x + y) ezx48 rfl (by decide))
            refine lv_istore_n (lv' := [(3, .int x48), (5, .int (-1)), (0, .ref (ad 155)), (1, .int a1), (2, .int a2), (4, .int v5_4)]) hx hb dX4_sumOfErrands_76 rfl hl (by decide) rfl (fun ls hl => ?_)
            obtain ⟨x49, ex49⟩ : ∃ y : Int32, y = v5_4 + Int32.ofInt 1 := ⟨_, rfl⟩
            have erx49 := ex49
            refine lv_iinc (v := x49) (lv' := [(4, .int x49), (3, .int x48), (5, .int (-1)), (0, .ref (ad 155)), (1, .int a1), (2, .int a2)]) hx hb dX4_sumOfErrands_77 hl (k := 5) rfl ex49.symm (by decide) rfl (fun ls hl => ?_)
            have ex49 : x49.toInt = v5_4.toInt + 1 := by rw [ex49]; exact wk_add (y := 1) (show -2147483648 ≤ v5_4.toInt + 1 by omega) (show v5_4.toInt + 1 ≤ 2147483647 by omega)
            replace hM := hM.lt ex49.symm
            refine lv_goto (tgt := 5) hx hb dX4_sumOfErrands_80 (by decide) ?_
            exact ih5 x48 x49 H locs ls w29 (show 0 ≤ a1.toInt from r11) (show a1.toInt ≤ 99999 from t12) (show a2.toInt ≤ 14007 from t13) (show 0 ≤ x49.toInt by first | with_reducible assumption | omega) (show x49.toInt ≤ 6 by first | with_reducible assumption | omega) (show (6 - x49.toInt).toNat < n5 by first | exact tn_lt hm5 (by omega) (by omega) | omega) hw hT hF hM (lv_sub hl [3, 4, 5, 1, 0] rfl)
  have hM : TT (fun n => m_X4_sumOfErrands n 155 a1.toInt a2.toInt (sI w0)) (fun n => m_X4_sumOfErrands n 155 a1.toInt a2.toInt (sI w0)) := TT.rf
  refine lv_iconst (v := 0) hx hb dX4_sumOfErrands_0 (by decide) ?_
  refine lv_istore_n (lv' := [(3, .int 0), (0, .ref (ad 155)), (1, .int a1), (2, .int a2)]) hx hb dX4_sumOfErrands_1 rfl hl (by decide) rfl (fun ls hl => ?_)
  refine lv_iconst (v := 0) hx hb dX4_sumOfErrands_2 (by decide) ?_
  refine lv_istore (lv' := [(4, .int 0), (3, .int 0), (0, .ref (ad 155)), (1, .int a1), (2, .int a2)]) hx hb dX4_sumOfErrands_3 hl (by decide) rfl (fun ls hl => ?_)
  exact L5 ((6 - (0 : Int)).toNat + 1) 0 0 s.heap locs ls w0 (show 0 ≤ a1.toInt from ra1) (show a1.toInt ≤ 99999 from ta1) (show a2.toInt ≤ 14007 from ta2) (by decide) (by decide) (Nat.lt_succ_self _) hw hT hF hM (lv_sub hl [2, 3, 4, 1, 0] rfl)
