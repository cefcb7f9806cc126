abbrev Pz_X10_canDo_1 (ad : Nat → Nat) (cy : Nat → ClassId) (B : Int) (qr : Nat) (s1 : Int) (a1 : Int32) (w0 : va_W) : Int32 → va_W → Prop := fun r u => TW ksC ad cy B qr s1 u ∧ FE ksC ([] : List (Nat × Nat × Nat)) w0 u ∧ Ev (fun n => m_X10_canDo n 158 a1.toInt (sI w0)) (r.toInt, sI u) ∧ ((r = 0) ∨ (r = 1))
set_option maxHeartbeats 4000000 in
set_option maxRecDepth 100000 in
theorem kz_X10_canDo_1 (l : Launch) (adK adV : Nat → Nat) (dC : Nat → ClassId) (dI : Nat → Nat → Nat) (cy : Nat → ClassId) (ad : Nat → Nat) (B : Int) (hB0 : 2147483648 ≤ B) (hB1 : B ≤ 1152921504606846976) (qr : Nat) (s1 : Int)  (a1 : Int32) (ra1 : 0 ≤ a1.toInt) (ta1 : a1.toInt ≤ 5) (w0 : va_W) (sz : Nat) (hT : TW ksC ad cy B qr s1 w0)  : Met l yX10_canDo (wu yX10_canDo cX10_canDo 2 (some .boolean)) ({ frames := 2, cells := 0, slots := 0, locals := 38 }) (va_Pc [.ref (ad 158), .int a1] (wpreS adK adV dC dI cy sz w0)) (va_Qi (Pz_X10_canDo_1 ad cy B qr s1 a1 w0) (fun u : va_W => wpost dC dI cy (va_A w0 sz) u) (va_A w0 sz)) 0 0 (va_A w0 sz) := by
  refine Met.ofW (cc := cX10_canDo) (maxL := 2) (ret := (some .boolean)) (by decide) rfl ?_
  intro p e s m args below meth c s₁ Bk hml hv
  obtain ⟨rfl, ⟨hsz, hP, hK, hD0⟩, hE, hSR⟩ := hv
  have hx := Bk.exec
  have hb := Bk.bytes
  have hr := Bk.returns
  have hlocks := Bk.notSynchronized
  have hC : CallFix p m c cX10_canDo 2 s _ (wu yX10_canDo cX10_canDo 2 (some .boolean)) RX10 := ⟨hx, hb, hml, findClass_of_methodNamed Bk.named, atoms_spec (ws := (wu yX10_canDo cX10_canDo 2 (some .boolean))) Bk.pre⟩
  subst hsz
  have hD := hD0.self (sz := s.heap.size)
  generalize hAe : va_A w0 s.heap.size = A at hD hE ⊢
  have hA : ∀ q : Nat, s.heap.size ≤ q → A q := fun q h => by rw [← hAe]; exact Or.inr h
  have hw : Wd dC dI A s.heap s.heap [] w0 := ⟨hP, hD, va_S.rf⟩
  have hF : FE ksC ([] : List (Nat × Nat × Nat)) w0 w0 := FE.rf
  have hl := lv_entry ([.ref (ad 158), .int a1]) (n := 2) (Nat.le_of_ble_eq_true rfl)
  rw [lg_entry_eq]
  generalize (lg_sl ([.ref (ad 158), .int a1]) ++ List.replicate (2 - (lg_sl ([.ref (ad 158), .int a1])).length) Slot.unset).toArray = ls at hl ⊢
  have hl : lv_has ls 2 [(0, .ref (ad 158)), (1, .int a1)] := hl
  generalize hloc : ([] : List Loc) = locs at hw ⊢
  have hinX10 : ∀ w ∈ u_ws RX10 TX10 5, w ∈ (wu yX10_canDo cX10_canDo 2 (some .boolean)) := fun _ h => List.mem_cons_of_mem _ (up_81 h)
  have hinX5 : ∀ w ∈ u_ws RX5 TX5 14, w ∈ (wu yX10_canDo cX10_canDo 2 (some .boolean)) := fun _ h => List.mem_cons_of_mem _ (up_76 h)
  have hM : TT (fun n => m_X10_canDo n 158 a1.toInt (sI w0)) (fun n => m_X10_canDo n 158 a1.toInt (sI w0)) := TT.rf
  refine lv_aload_n hx hb dX10_canDo_0 rfl (lv_at hl 0 rfl) ?_
  refine lv_aload_n hx hb dX10_canDo_1 rfl (lv_at hl 0 rfl) ?_
  refine tk_getA hC hK hw hT hinX10 kC_at158 (by decide) rfl 0 (by decide) (List.mem_cons_of_mem _ uw_6_6) rfl rfl dX10_canDo_2 ?_
  refine tk_getO hC hK hw hT hinX5 kC_at38 (by decide) rfl 3 (by decide) (List.mem_cons_of_mem _ uw_60_16) rfl rfl dX10_canDo_5 ?_
  refine lv_iload_n hx hb dX10_canDo_8 rfl (lv_at hl 1 rfl) ?_
  refine tk_iald hC hK hw hT kC_at50 rfl rfl (show 0 ≤ a1.toInt from ra1) (show a1.toInt < 6 from Int.lt_of_le_of_lt ta1 (by decide)) dX10_canDo_9 (fun x1 c2 rx1 tx1 => ?_)
  have hox1 := c2
  replace hM := hM.rd (sI_at hox1)
  refine tk_Vi hC hK hw hT hA hE hSR kC_at158 (by decide) rfl (kz_X10_cornersFrom_1 l adK adV dC dI cy ad B hB0 (Int.le_trans hB1 (by decide)) qr s1   x1 (show 0 ≤ x1.toInt from rx1) (show x1.toInt ≤ 9 from tx1) w0 s.heap.size hT ) (cwV 1 hC.2.2.2.2 uV_RX10_60 rfl rfl rfl (by decide +kernel) ⟨Nat.le_of_ble_eq_true rfl, Nat.le_of_ble_eq_true rfl⟩) rfl hl.1 rfl (Nat.le_of_ble_eq_true rfl) dX10_canDo_10 (fun r3 w5 H locs hp4 hw => ?_)
  obtain ⟨hT, k6, hv10, hg9⟩ := hp4
  have hF := hF.tr k6 (by decide)
  obtain ⟨g7, g8⟩ := hg9
  replace hM := hM.call hv10 rfl
  refine lv_aload_n hx hb dX10_canDo_13 rfl (lv_at hl 0 rfl) ?_
  refine tk_getA hC hK hw hT hinX10 kC_at158 (by decide) rfl 0 (by decide) (List.mem_cons_of_mem _ uw_6_6) rfl rfl dX10_canDo_14 ?_
  refine tk_getO hC hK hw hT hinX5 kC_at38 (by decide) rfl 4 (by decide) (List.mem_cons_of_mem _ uw_60_17) rfl rfl dX10_canDo_17 ?_
  refine lv_iload_n hx hb dX10_canDo_20 rfl (lv_at hl 1 rfl) ?_
  refine tk_iald hC hK hw hT kC_at51 rfl rfl (show 0 ≤ a1.toInt from ra1) (show a1.toInt < 6 from Int.lt_of_le_of_lt ta1 (by decide)) dX10_canDo_21 (fun x11 c12 rx11 tx11 => ?_)
  have hox11 := c12
  replace hM := hM.rd (sI_at hox11)
  refine lv_ishr hx hb dX10_canDo_22 ?_
  refine lv_topi (fun x13 ex13 => ?_)
  have ezx13 := ex13
  have bx13 : 0 ≤ x13.toInt ∧ x13.toInt ≤ r3.toInt := by rw [ex13]; exact wk_shr (by omega)
  replace hM := hM.lt (o32_e (f := fun x y => x >>> (y &&& 31)) ezx13 rfl rfl)
  refine lv_iconst (v := 1) hx hb dX10_canDo_23 (by decide) ?_
  refine lv_iand hx hb dX10_canDo_24 ?_
  refine lv_topi (fun x14 ex14 => ?_)
  have ezx14 := ex14
  have bx14 : 0 ≤ x14.toInt ∧ x14.toInt ≤ (1 : Int) := by rw [ex14]; exact wk_and (by decide)
  replace hM := hM.lt (o32_e (f := fun x y => x &&& y) ezx14 rfl (by decide))
  refine lv_if_eq (tgt := 32) hx hb dX10_canDo_25 (by decide) (fun c15 => ?_) (fun c15 => ?_)
  · have c15 : x14.toInt = (0 : Int) := wk_eq.mp c15
    replace hM := hM.pos c15
    refine lv_iconst (v := 0) hx hb dX10_canDo_32 (by decide) ?_
    exact tk_zret hC hr rfl hlocks hK ⟨hT, hF, hM.ret (by decide), (Or.inl rfl)⟩ hw dX10_canDo_33
  · have c15 : ¬ x14.toInt = (0 : Int) := wk_eqF c15
    replace hM := hM.neg c15
    refine lv_iconst (v := 1) hx hb dX10_canDo_28 (by decide) ?_
    refine lv_goto (tgt := 33) hx hb dX10_canDo_29 (by decide) ?_
    exact tk_zret hC hr rfl hlocks hK ⟨hT, hF, hM.ret (by decide), (Or.inr rfl)⟩ hw dX10_canDo_33
abbrev Pz_X10_findClash_1 (ad : Nat → Nat) (cy : Nat → ClassId) (B : Int) (qr : Nat) (s1 : Int)  (w0 : va_W) : Int32 → va_W → Prop := fun r u => TW ksC ad cy B qr s1 u ∧ FE ksC [(51, 0, 10)] w0 u ∧ Ev (fun n => m_X10_findClash n 158 (sI w0)) (r.toInt, sI u) ∧ ((0 ≤ r.toInt ∧ r.toInt ≤ 127))
set_option maxHeartbeats 4000000 in
set_option maxRecDepth 100000 in
theorem kz_X10_findClash_1 (l : Launch) (adK adV : Nat → Nat) (dC : Nat → ClassId) (dI : Nat → Nat → Nat) (cy : Nat → ClassId) (ad : Nat → Nat) (B : Int) (hB0 : 2147483648 ≤ B) (hB1 : B ≤ 1152921504606846976) (qr : Nat) (s1 : Int)   (w0 : va_W) (sz : Nat) (hT : TW ksC ad cy B qr s1 w0)  : Met l yX10_findClash (wu yX10_findClash cX10_findClash 4 (some .int)) ({ frames := 3, cells := 0, slots := 0, locals := 65 }) (va_Pc [.ref (ad 158)] (wpreS adK adV dC dI cy sz w0)) (va_Qi (Pz_X10_findClash_1 ad cy B qr s1  w0) (fun u : va_W => wpost dC dI cy (va_A w0 sz) u) (va_A w0 sz)) 0 0 (va_A w0 sz) := by
  refine Met.ofW (cc := cX10_findClash) (maxL := 4) (ret := (some .int)) (by decide) rfl ?_
  intro p e s m args below meth c s₁ Bk hml hv
  obtain ⟨rfl, ⟨hsz, hP, hK, hD0⟩, hE, hSR⟩ := hv
  have hx := Bk.exec
  have hb := Bk.bytes
  have hr := Bk.returns
  have hlocks := Bk.notSynchronized
  have hC : CallFix p m c cX10_findClash 4 s _ (wu yX10_findClash cX10_findClash 4 (some .int)) RX10 := ⟨hx, hb, hml, findClass_of_methodNamed Bk.named, atoms_spec (ws := (wu yX10_findClash cX10_findClash 4 (some .int))) Bk.pre⟩
  subst hsz
  have hD := hD0.self (sz := s.heap.size)
  generalize hAe : va_A w0 s.heap.size = A at hD hE ⊢
  have hA : ∀ q : Nat, s.heap.size ≤ q → A q := fun q h => by rw [← hAe]; exact Or.inr h
  have hw : Wd dC dI A s.heap s.heap [] w0 := ⟨hP, hD, va_S.rf⟩
  have hF : FE ksC [(51, 0, 10)] w0 w0 := FE.rf
  have hl := lv_entry ([.ref (ad 158)]) (n := 4) (Nat.le_of_ble_eq_true rfl)
  rw [lg_entry_eq]
  generalize (lg_sl ([.ref (ad 158)]) ++ List.replicate (4 - (lg_sl ([.ref (ad 158)])).length) Slot.unset).toArray = ls at hl ⊢
  have hl : lv_has ls 4 [(0, .ref (ad 158))] := hl
  generalize hloc : ([] : List Loc) = locs at hw ⊢
  have hinX10 : ∀ w ∈ u_ws RX10 TX10 5, w ∈ (wu yX10_findClash cX10_findClash 4 (some .int)) := fun _ h => List.mem_cons_of_mem _ (up_81 h)
  have hinX5 : ∀ w ∈ u_ws RX5 TX5 14, w ∈ (wu yX10_findClash cX10_findClash 4 (some .int)) := fun _ h => List.mem_cons_of_mem _ (up_76 h)
  have L45 : ∀ (n45 : Nat) (v45_1 : Int32) (v45_2 : Int32) (f45_158_4 : Int32) (f45_38_10 : Int32) (H : Heap) (locs : List Loc) (ls : Array Slot) (w1 : va_W), 0 ≤ v45_1.toInt → v45_1.toInt ≤ 127 → 0 ≤ v45_2.toInt → v45_2.toInt ≤ 12 → 0 ≤ f45_158_4.toInt → f45_158_4.toInt ≤ 12 → 0 ≤ f45_38_10.toInt → f45_38_10.toInt ≤ 6 → (12 - v45_2.toInt).toNat < n45 → Wd dC dI A s.heap H locs w1 → TW ksC ad cy B qr s1 w1 → FE ksC [(51, 0, 10)] w0 w1 → gi w1 158 4 = f45_158_4 → gi w1 38 10 = f45_38_10 → TT (fun n => m_X10_findClash n 158 (sI w0)) (fun n => j_X10_findClash 158 n 45 [v45_1.toInt, v45_2.toInt] (sI w1)) → lv_has ls 4 [(0, .ref (ad 158)), (1, .int v45_1), (2, .int v45_2)] → W p l e ({ frames := 3, cells := 0, slots := 0, locals := 65 }) s m (List.toArray [.ref (ad 158)]) below meth c H locs 0 0 (MQ below (va_Qi (Pz_X10_findClash_1 ad cy B qr s1  w0) (fun u : va_W => wpost dC dI cy A u) A) (List.toArray [.ref (ad 158)]) s 0 0 A) (F0 m 45 ls []) := by
    intro n45
    induction n45 with
    | zero => intro v45_1 v45_2 f45_158_4 f45_38_10 H locs ls w1 r2 t3 r4 t5 r6 t7 r9 t10 hm45 hw hT hF c8 c11 hM hl; omega
    | succ n45 ih45 =>
      intro v45_1 v45_2 f45_158_4 f45_38_10 H locs ls w1 r2 t3 r4 t5 r6 t7 r9 t10 hm45 hw hT hF c8 c11 hM hl
      have J74 : ∀ (v74_1 : Int32) (v74_3 : Int32) (H : Heap) (locs : List Loc) (ls : Array Slot) (w12 : va_W), 0 ≤ v74_1.toInt → v74_1.toInt ≤ 127 → 0 ≤ v45_2.toInt → v45_2.toInt ≤ 11 → 0 ≤ v74_3.toInt → v74_3.toInt ≤ 127 → 1 ≤ f45_158_4.toInt → f45_158_4.toInt ≤ 12 → 0 ≤ f45_38_10.toInt → f45_38_10.toInt ≤ 6 → Wd dC dI A s.heap H locs w12 → TW ksC ad cy B qr s1 w12 → FE ksC [(51, 0, 10)] w0 w12 → gi w12 158 4 = f45_158_4 → gi w12 38 10 = f45_38_10 → TT (fun n => m_X10_findClash n 158 (sI w0)) (fun n => b_X10_findClash_74 (j_X10_findClash 158 n) n 158 (v74_1.toInt) (v45_2.toInt) (sI w12)) → lv_has ls 4 [(0, .ref (ad 158)), (1, .int v74_1), (2, .int v45_2), (3, .int v74_3)] → W p l e ({ frames := 3, cells := 0, slots := 0, locals := 65 }) s m (List.toArray [.ref (ad 158)]) below meth c H locs 0 0 (MQ below (va_Qi (Pz_X10_findClash_1 ad cy B qr s1  w0) (fun u : va_W => wpost dC dI cy A u) A) (List.toArray [.ref (ad 158)]) s 0 0 A) (F0 m 74 ls []) := by
        intro v74_1 v74_3 H locs ls w12 r13 t14 r15 t16 r17 t18 r19 t20 r22 t23 hw hT hF c21 c24 hM hl
        obtain ⟨x25, ex25⟩ : ∃ y : Int32, y = v45_2 + Int32.ofInt 1 := ⟨_, rfl⟩
        have erx25 := ex25
        refine lv_iinc (v := x25) (lv' := [(2, .int x25), (0, .ref (ad 158)), (1, .int v74_1), (3, .int v74_3)]) hx hb dX10_findClash_74 hl (k := 2) rfl ex25.symm (by decide) rfl (fun ls hl => ?_)
        have ex25 : x25.toInt = v45_2.toInt + 1 := by rw [ex25]; exact wk_add (y := 1) (show -2147483648 ≤ v45_2.toInt + 1 by omega) (show v45_2.toInt + 1 ≤ 2147483647 by omega)
        replace hM := hM.lt ex25.symm
        refine lv_goto (tgt := 45) hx hb dX10_findClash_77 (by decide) ?_
        exact ih45 v74_1 x25 f45_158_4 f45_38_10 H locs ls w12 (show 0 ≤ v74_1.toInt from r13) (show v74_1.toInt ≤ 127 from t14) (show 0 ≤ x25.toInt by first | with_reducible assumption | omega) (show x25.toInt ≤ 12 by first | with_reducible assumption | omega) (show 0 ≤ f45_158_4.toInt from r6) (show f45_158_4.toInt ≤ 12 from t20) (show 0 ≤ f45_38_10.toInt from r22) (show f45_38_10.toInt ≤ 6 from t23) (show (12 - x25.toInt).toNat < n45 by first | exact tn_lt hm45 (by omega) (by omega) | omega) hw hT hF c21 c24 hM (lv_sub hl [1, 2, 0] rfl)
      have J72 : ∀ (v72_3 : Int32) (H : Heap) (locs : List Loc) (ls : Array Slot) (w26 : va_W), 0 ≤ v45_1.toInt → v45_1.toInt ≤ 127 → 0 ≤ v45_2.toInt → v45_2.toInt ≤ 11 → 1 ≤ v72_3.toInt → v72_3.toInt ≤ 127 → 1 ≤ f45_158_4.toInt → f45_158_4.toInt ≤ 12 → 0 ≤ f45_38_10.toInt → f45_38_10.toInt ≤ 6 → Wd dC dI A s.heap H locs w26 → TW ksC ad cy B qr s1 w26 → FE ksC [(51, 0, 10)] w0 w26 → gi w26 158 4 = f45_158_4 → gi w26 38 10 = f45_38_10 → TT (fun n => m_X10_findClash n 158 (sI w0)) (fun n => b_X10_findClash_72 (j_X10_findClash 158 n) n 158 (v45_2.toInt) (v72_3.toInt) (sI w26)) → lv_has ls 4 [(0, .ref (ad 158)), (1, .int v45_1), (2, .int v45_2), (3, .int v72_3)] → W p l e ({ frames := 3, cells := 0, slots := 0, locals := 65 }) s m (List.toArray [.ref (ad 158)]) below meth c H locs 0 0 (MQ below (va_Qi (Pz_X10_findClash_1 ad cy B qr s1  w0) (fun u : va_W => wpost dC dI cy A u) A) (List.toArray [.ref (ad 158)]) s 0 0 A) (F0 m 72 ls []) := by
        intro v72_3 H locs ls w26 r27 t28 r29 t30 r31 t32 r33 t34 r36 t37 hw hT hF c35 c38 hM hl
        have hM : TT (fun n => m_X10_findClash n 158 (sI w0)) (fun n => b_X10_findClash_74 (j_X10_findClash 158 n) n 158 (v72_3.toInt) (v45_2.toInt) (sI w26)) := hM
        refine lv_iload_n hx hb dX10_findClash_72 rfl (lv_at hl 3 rfl) ?_
        refine lv_istore_n (lv' := [(1, .int v72_3), (0, .ref (ad 158)), (2, .int v45_2), (3, .int v72_3)]) hx hb dX10_findClash_73 rfl hl (by decide) rfl (fun ls hl => ?_)
        exact J74 v72_3 v72_3 H locs ls w26 (show 0 ≤ v72_3.toInt from Int.le_trans (by decide) r31) (show v72_3.toInt ≤ 127 from t32) (show 0 ≤ v45_2.toInt from r29) (show v45_2.toInt ≤ 11 from t30) (show 0 ≤ v72_3.toInt from Int.le_trans (by decide) r31) (show v72_3.toInt ≤ 127 from t32) (show 1 ≤ f45_158_4.toInt from r33) (show f45_158_4.toInt ≤ 12 from t34) (show 0 ≤ f45_38_10.toInt from r36) (show f45_38_10.toInt ≤ 6 from t37)  hw hT hF c35 c38 hM (lv_sub hl [1, 0, 2, 3] rfl)
      replace hM := hM.suc (fun _ => e_X10_findClash_45)
      refine lv_iload_n hx hb dX10_findClash_45 rfl (lv_at hl 2 rfl) ?_
      refine lv_aload_n hx hb dX10_findClash_46 rfl (lv_at hl 0 rfl) ?_
      refine tk_geti hC hK hw hT hinX10 kC_at158 (by decide) rfl 4 (by decide) (List.mem_cons_of_mem _ uw_59_23) rfl rfl dX10_findClash_47 (fun x39 c40 rx39 tx39 => ?_)
      refine wk_top f45_158_4 (c40.symm.trans c8) ?_
      replace hM := hM.rd (sI_at c8)
      refine lv_icmp_ge (tgt := 80) hx hb dX10_findClash_50 (by decide) (fun c41 => ?_) (fun c41 => ?_)
      · have c41 : f45_158_4.toInt ≤ v45_2.toInt := wk_le.mp c41
        replace hM := hM.pos c41
        refine lv_iload_n hx hb dX10_findClash_80 rfl (lv_at hl 1 rfl) ?_
        exact tk_iret hC hr hlocks hK ⟨hT, hF, hM.ret rfl, ⟨(show 0 ≤ v45_1.toInt from r2), (show v45_1.toInt ≤ 127 from t3)⟩⟩ hw dX10_findClash_81
      · have c41 : v45_2.toInt < f45_158_4.toInt := wk_leF c41
        replace hM := hM.neg (Int.not_le.mpr c41)
        refine lv_aload_n hx hb dX10_findClash_53 rfl (lv_at hl 0 rfl) ?_
        refine lv_iload_n hx hb dX10_findClash_54 rfl (lv_at hl 2 rfl) ?_
        refine tk_Vi hC hK hw hT hA hE hSR kC_at158 (by decide) rfl (kz_X10_oddsOver_1 l adK adV dC dI cy ad B hB0 (Int.le_trans hB1 (by decide)) qr s1   v45_2 (show 0 ≤ v45_2.toInt from r4) (show v45_2.toInt ≤ 11 by first | with_reducible assumption | omega) w1 H.size hT ) (cwV 1 hC.2.2.2.2 uV_RX10_53 rfl rfl rfl (by decide +kernel) ⟨Nat.le_of_ble_eq_true rfl, Nat.le_of_ble_eq_true rfl⟩) rfl hl.1 rfl (Nat.le_of_ble_eq_true rfl) dX10_findClash_55 (fun r42 w44 H locs hp43 hw => ?_)
        obtain ⟨hT, k45, hv49, hg48⟩ := hp43
        have hF := hF.tr k45 (by decide)
        have c50 := k45.gi kC_at158 (by decide) c8
        have c51 := k45.gi kC_at38 (by decide) c11
        obtain ⟨g46, g47⟩ := hg48
        replace hM := hM.call hv49 rfl
        refine lv_istore_n (lv' := [(3, .int r42), (0, .ref (ad 158)), (1, .int v45_1), (2, .int v45_2)]) hx hb dX10_findClash_58 rfl hl (by decide) rfl (fun ls hl => ?_)
        refine lv_iload_n hx hb dX10_findClash_59 rfl (lv_at hl 0 rfl) ?_
        refine lv_if_eq (tgt := 74) hx hb dX10_findClash_60 (by decide) (fun c52 => ?_) (fun c52 => ?_)
        · have c52 : r42.toInt = (0 : Int) := wk_eq.mp c52
          replace hM := hM.pos c52
          exact J74 v45_1 r42 H locs ls w44 (show 0 ≤ v45_1.toInt from r2) (show v45_1.toInt ≤ 127 from t3) (show 0 ≤ v45_2.toInt from r4) (show v45_2.toInt ≤ 11 by first | with_reducible assumption | omega) (show 0 ≤ r42.toInt by first | with_reducible assumption | omega) (show r42.toInt ≤ 127 by first | with_reducible assumption | omega) (show 1 ≤ f45_158_4.toInt by first | with_reducible assumption | omega) (show f45_158_4.toInt ≤ 12 from t7) (show 0 ≤ f45_38_10.toInt from r9) (show f45_38_10.toInt ≤ 6 from t10)  hw hT hF c50 c51 hM (lv_sub hl [1, 2, 3, 0] rfl)
        · have c52 : ¬ r42.toInt = (0 : Int) := wk_eqF c52
          replace hM := hM.neg c52
          refine lv_iload_n hx hb dX10_findClash_63 rfl (lv_at hl 2 rfl) ?_
          refine lv_if_eq (tgt := 72) hx hb dX10_findClash_64 (by decide) (fun c53 => ?_) (fun c53 => ?_)
          · have c53 : v45_1.toInt = (0 : Int) := wk_eq.mp c53
            replace hM := hM.pos c53
            exact J72 r42 H locs ls w44 (show 0 ≤ v45_1.toInt from r2) (show v45_1.toInt ≤ 127 from t3) (show 0 ≤ v45_2.toInt from r4) (show v45_2.toInt ≤ 11 by first | with_reducible assumption | omega) (show 1 ≤ r42.toInt by first | with_reducible assumption | omega) (show r42.toInt ≤ 127 by first | with_reducible assumption | omega) (show 1 ≤ f45_158_4.toInt by first | with_reducible assumption | omega) (show f45_158_4.toInt ≤ 12 from t7) (show 0 ≤ f45_38_10.toInt from r9) (show f45_38_10.toInt ≤ 6 from t10)  hw hT hF c50 c51 hM (lv_sub hl [1, 2, 3, 0] rfl)
          · have c53 : ¬ v45_1.toInt = (0 : Int) := wk_eqF c53
            replace hM := hM.neg c53
            refine lv_iload_n hx hb dX10_findClash_67 rfl (lv_at hl 0 rfl) ?_
            refine lv_iload_n hx hb dX10_findClash_68 rfl (lv_at hl 2 rfl) ?_
            refine lv_icmp_ge (tgt := 74) hx hb dX10_findClash_69 (by decide) (fun c54 => ?_) (fun c54 => ?_)
            · have c54 : v45_1.toInt ≤ r42.toInt := wk_le.mp c54
              replace hM := hM.pos c54
              exact J74 v45_1 r42 H locs ls w44 (show 0 ≤ v45_1.toInt from r2) (show v45_1.toInt ≤ 127 from t3) (show 0 ≤ v45_2.toInt from r4) (show v45_2.toInt ≤ 11 by first | with_reducible assumption | omega) (show 0 ≤ r42.toInt by first | with_reducible assumption | omega) (show r42.toInt ≤ 127 by first | with_reducible assumption | omega) (show 1 ≤ f45_158_4.toInt by first | with_reducible assumption | omega) (show f45_158_4.toInt ≤ 12 from t7) (show 0 ≤ f45_38_10.toInt from r9) (show f45_38_10.toInt ≤ 6 from t10)  hw hT hF c50 c51 hM (lv_sub hl [1, 2, 3, 0] rfl)
            · have c54 : r42.toInt < v45_1.toInt := wk_leF c54
              replace hM := hM.neg (Int.not_le.mpr c54)
              exact J72 r42 H locs ls w44 (show 0 ≤ v45_1.toInt from r2) (show v45_1.toInt ≤ 127 from t3) (show 0 ≤ v45_2.toInt from r4) (show v45_2.toInt ≤ 11 by first | with_reducible assumption | omega) (show 1 ≤ r42.toInt by first | with_reducible assumption | omega) (show r42.toInt ≤ 127 by first | with_reducible assumption | omega) (show 1 ≤ f45_158_4.toInt by first | with_reducible assumption | omega) (show f45_158_4.toInt ≤ 12 from t7) (show 0 ≤ f45_38_10.toInt from r9) (show f45_38_10.toInt ≤ 6 from t10)  hw hT hF c50 c51 hM (lv_sub hl [1, 2, 3, 0] rfl)
  have L12 : ∀ (n12 : Nat) (v12_1 : Int32) (f12_158_4 : Int32) (H : Heap) (locs : List Loc) (ls : Array Slot) (w55 : va_W), 0 ≤ v12_1.toInt → v12_1.toInt ≤ 6 → 0 ≤ f12_158_4.toInt → f12_158_4.toInt ≤ 12 → (6 - v12_1.toInt).toNat < n12 → Wd dC dI A s.heap H locs w55 → TW ksC ad cy B qr s1 w55 → FE ksC [(51, 0, 10)] w0 w55 → gi w55 158 4 = f12_158_4 → TT (fun n => m_X10_findClash n 158 (sI w0)) (fun n => j_X10_findClash 158 n 12 [v12_1.toInt] (sI w55)) → lv_has ls 4 [(0, .ref (ad 158)), (1, .int v12_1)] → W p l e ({ frames := 3, cells := 0, slots := 0, locals := 65 }) s m (List.toArray [.ref (ad 158)]) below meth c H locs 0 0 (MQ below (va_Qi (Pz_X10_findClash_1 ad cy B qr s1  w0) (fun u : va_W => wpost dC dI cy A u) A) (List.toArray [.ref (ad 158)]) s 0 0 A) (F0 m 12 ls []) := by
    intro n12
    induction n12 with
    | zero => intro v12_1 f12_158_4 H locs ls w55 r56 t57 r58 t59 hm12 hw hT hF c60 hM hl; omega
    | succ n12 ih12 =>
      intro v12_1 f12_158_4 H locs ls w55 r56 t57 r58 t59 hm12 hw hT hF c60 hM hl
      replace hM := hM.suc (fun _ => e_X10_findClash_12)
      refine lv_iload_n hx hb dX10_findClash_12 rfl (lv_at hl 1 rfl) ?_
      refine lv_aload_n hx hb dX10_findClash_13 rfl (lv_at hl 0 rfl) ?_
      refine tk_getA hC hK hw hT hinX10 kC_at158 (by decide) rfl 0 (by decide) (List.mem_cons_of_mem _ uw_6_6) rfl rfl dX10_findClash_14 ?_
      refine tk_geti hC hK hw hT hinX5 kC_at38 (by decide) rfl 10 (by decide) (List.mem_cons_of_mem _ uw_60_6) rfl rfl dX10_findClash_17 (fun x61 c62 rx61 tx61 => ?_)
      replace hM := hM.rd (sI_at c62)
      refine lv_icmp_ge (tgt := 41) hx hb dX10_findClash_20 (by decide) (fun c63 => ?_) (fun c63 => ?_)
      · have c63 : x61.toInt ≤ v12_1.toInt := wk_le.mp c63
        replace hM := hM.pos c63
        refine lv_iconst (v := 0) hx hb dX10_findClash_41 (by decide) ?_
        refine lv_istore_n (lv' := [(1, .int 0), (0, .ref (ad 158))]) hx hb dX10_findClash_42 rfl hl (by decide) rfl (fun ls hl => ?_)
        refine lv_iconst (v := 0) hx hb dX10_findClash_43 (by decide) ?_
        refine lv_istore_n (lv' := [(2, .int 0), (1, .int 0), (0, .ref (ad 158))]) hx hb dX10_findClash_44 rfl hl (by decide) rfl (fun ls hl => ?_)
        exact L45 ((12 - (0 : Int)).toNat + 1) 0 0 f12_158_4 x61 H locs ls w55 (by decide) (by decide) (by decide) (by decide) (show 0 ≤ f12_158_4.toInt from r58) (show f12_158_4.toInt ≤ 12 from t59) (show 0 ≤ x61.toInt from rx61) (show x61.toInt ≤ 6 from tx61) (Nat.lt_succ_self _) hw hT hF c60 c62 hM (lv_sub hl [2, 1, 0] rfl)
      · have c63 : v12_1.toInt < x61.toInt := wk_leF c63
        replace hM := hM.neg (Int.not_le.mpr c63)
        refine lv_aload_n hx hb dX10_findClash_23 rfl (lv_at hl 0 rfl) ?_
        refine lv_iload_n hx hb dX10_findClash_24 rfl (lv_at hl 1 rfl) ?_
        refine tk_Vi hC hK hw hT hA hE hSR kC_at158 (by decide) rfl (kz_X10_canDo_1 l adK adV dC dI cy ad B hB0 (Int.le_trans hB1 (by decide)) qr s1   v12_1 (show 0 ≤ v12_1.toInt from r56) (show v12_1.toInt ≤ 5 by first | with_reducible assumption | omega) w55 H.size hT ) (cwV 1 hC.2.2.2.2 uV_RX10_49 rfl rfl rfl (by decide +kernel) ⟨Nat.le_of_ble_eq_true rfl, Nat.le_of_ble_eq_true rfl⟩) rfl hl.1 rfl (Nat.le_of_ble_eq_true rfl) dX10_findClash_25 (fun r64 w66 H locs hp65 hw => ?_)
        obtain ⟨hT, k67, hv69, hg68⟩ := hp65
        have hF := hF.tr k67 (by decide)
        have c70 := k67.gi kC_at158 (by decide) c60
        have c71 := k67.gi kC_at38 (by decide) c62
        rcases hg68 with rfl | rfl
        · replace hM := hM.call (r' := 0) hv69 (by decide)
          refine lv_if_ne (tgt := 35) hx hb dX10_findClash_28 (by decide) (fun c => absurd (by decide) c) (fun _ => ?_)
          replace hM := hM.neg (by decide)
          refine lv_iconst (v := 1) hx hb dX10_findClash_31 (by decide) ?_
          refine lv_iload_n hx hb dX10_findClash_32 rfl (lv_at hl 1 rfl) ?_
          refine lv_ishl hx hb dX10_findClash_33 ?_
          refine lv_topi (fun x72 ex72 => ?_)
          have ezx72 := ex72
          have bx72 : 1 ≤ x72.toInt ∧ x72.toInt ≤ 32 := by rw [ex72]; exact wk_shl1 5 (by decide) (by omega) (by omega)
          replace hM := hM.lt (o32_e (f := fun x y => x <<< (y &&& 31)) ezx72 (by decide) rfl)
          exact tk_iret hC hr hlocks hK ⟨hT, hF, hM.ret rfl, ⟨(show 0 ≤ x72.toInt by first | with_reducible assumption | omega), (show x72.toInt ≤ 127 by first | with_reducible assumption | omega)⟩⟩ hw dX10_findClash_34
        · replace hM := hM.call (r' := 1) hv69 (by decide)
          refine lv_if_ne (tgt := 35) hx hb dX10_findClash_28 (by decide) (fun _ => ?_) (fun c => absurd c (by decide))
          replace hM := hM.pos (by decide)
          obtain ⟨x73, ex73⟩ : ∃ y : Int32, y = v12_1 + Int32.ofInt 1 := ⟨_, rfl⟩
          have erx73 := ex73
          refine lv_iinc (v := x73) (lv' := [(1, .int x73), (0, .ref (ad 158))]) hx hb dX10_findClash_35 hl (k := 1) rfl ex73.symm (by decide) rfl (fun ls hl => ?_)
          have ex73 : x73.toInt = v12_1.toInt + 1 := by rw [ex73]; exact wk_add (y := 1) (show -2147483648 ≤ v12_1.toInt + 1 by omega) (show v12_1.toInt + 1 ≤ 2147483647 by omega)
          replace hM := hM.lt ex73.symm
          refine lv_goto (tgt := 12) hx hb dX10_findClash_38 (by decide) ?_
          exact ih12 x73 f12_158_4 H locs ls w66 (show 0 ≤ x73.toInt by first | with_reducible assumption | omega) (show x73.toInt ≤ 6 by first | with_reducible assumption | omega) (show 0 ≤ f12_158_4.toInt from r58) (show f12_158_4.toInt ≤ 12 from t59) (show (6 - x73.toInt).toNat < n12 by first | exact tn_lt hm12 (by omega) (by omega) | omega) hw hT hF c70 hM (lv_sub hl [1, 0] rfl)
  have hM : TT (fun n => m_X10_findClash n 158 (sI w0)) (fun n => m_X10_findClash n 158 (sI w0)) := TT.rf
  refine lv_aload_n hx hb dX10_findClash_0 rfl (lv_at hl 0 rfl) ?_
  refine lv_aload_n hx hb dX10_findClash_1 rfl (lv_at hl 0 rfl) ?_
  refine tk_geti hC hK hw hT hinX10 kC_at158 (by decide) rfl 4 (by decide) (List.mem_cons_of_mem _ uw_59_23) rfl rfl dX10_findClash_2 (fun x74 c75 rx74 tx74 => ?_)
  replace hM := hM.rd (sI_at c75)
  refine lv_iconst (v := 0) hx hb dX10_findClash_5 (by decide) ?_
  refine lv_iconst (v := (-1)) hx hb dX10_findClash_6 (by decide) ?_
  refine tk_Vv hC hK hw hT hA hE hSR kC_at158 (by decide) rfl (kz_X10_layRoads_1 l adK adV dC dI cy ad B hB0 (Int.le_trans hB1 (by decide)) qr s1   x74 (show 0 ≤ x74.toInt from rx74) (show x74.toInt ≤ 12 from tx74) 0 (by decide) (by decide) ((-1)) (by decide) (by decide) w0 s.heap.size hT ) (cwV 3 hC.2.2.2.2 uV_RX10_42 rfl rfl rfl (by decide +kernel) ⟨Nat.le_of_ble_eq_true rfl, Nat.le_of_ble_eq_true rfl⟩) rfl hl.1 rfl (Nat.le_of_ble_eq_true rfl) dX10_findClash_7 (fun w78 H locs hp77 hw => ?_)
  obtain ⟨hT, k79, hv81, hg80⟩ := hp77
  try simp only [show (0 : Int32).toInt = 0 by decide] at hv81
  try simp only [show ((-1) : Int32).toInt = (-1) by decide] at hv81
  have hF := hF.tr k79 (by decide)
  have c82 := k79.gi kC_at158 (by decide) c75
  clear hg80
  replace hM := hM.call hv81 rfl
  refine lv_iconst (v := 0) hx hb dX10_findClash_10 (by decide) ?_
  refine lv_istore_n (lv' := [(1, .int 0), (0, .ref (ad 158))]) hx hb dX10_findClash_11 rfl hl (by decide) rfl (fun ls hl => ?_)
  exact L12 ((6 - (0 : Int)).toNat + 1) 0 x74 H locs ls w78 (by decide) (by decide) (show 0 ≤ x74.toInt from rx74) (show x74.toInt ≤ 12 from tx74) (Nat.lt_succ_self _) hw hT hF c82 hM (lv_sub hl [1, 0] rfl)
abbrev Pz_X10_leastBelow_13 (ad : Nat → Nat) (cy : Nat → ClassId) (B : Int) (qr : Nat) (s1 : Int) (a2 : Int32) (w0 : va_W) : Int32 → va_W → Prop := fun r u => TW ksC ad cy B qr s1 u ∧ FE ksC [(51, 0, 10)] w0 u ∧ Ev (fun n => m_X10_leastBelow n 158 0 a2.toInt (sI w0)) (r.toInt, sI u) ∧ ((0 ≤ r.toInt ∧ r.toInt ≤ 8191) ∨ (r = (-1) ∧ (∃ y : Int32, gi u 38 10 = y ∧ 1 ≤ y.toInt ∧ y.toInt ≤ 6)))
set_option maxHeartbeats 4000000 in
set_option maxRecDepth 100000 in
theorem kz_X10_leastBelow_13 (l : Launch) (adK adV : Nat → Nat) (dC : Nat → ClassId) (dI : Nat → Nat → Nat) (cy : Nat → ClassId) (ad : Nat → Nat) (B : Int) (hB0 : 2147483648 ≤ B) (hB1 : B ≤ 1152921504606846976) (qr : Nat) (s1 : Int)  (a2 : Int32) (ra2 : 0 ≤ a2.toInt) (ta2 : a2.toInt ≤ 8191) (w0 : va_W) (sz : Nat) (hT : TW ksC ad cy B qr s1 w0)  : Met l yX10_leastBelow (wu yX10_leastBelow cX10_leastBelow 4 (some .int)) ({ frames := 3, cells := 0, slots := 0, locals := 59 }) (va_Pc [.ref (ad 158), .int 0, .int a2] (wpreS adK adV dC dI cy sz w0)) (va_Qi (Pz_X10_leastBelow_13 ad cy B qr s1 a2 w0) (fun u : va_W => wpost dC dI cy (va_A w0 sz) u) (va_A w0 sz)) 0 0 (va_A w0 sz) := by
  refine Met.ofW (cc := cX10_leastBelow) (maxL := 4) (ret := (some .int)) (by decide) rfl ?_
  intro p e s m args below meth c s₁ Bk hml hv
  obtain ⟨rfl, ⟨hsz, hP, hK, hD0⟩, hE, hSR⟩ := hv
  have hx := Bk.exec
  have hb := Bk.bytes
  have hr := Bk.returns
  have hlocks := Bk.notSynchronized
  have hC : CallFix p m c cX10_leastBelow 4 s _ (wu yX10_leastBelow cX10_leastBelow 4 (some .int)) RX10 := ⟨hx, hb, hml, findClass_of_methodNamed Bk.named, atoms_spec (ws := (wu yX10_leastBelow cX10_leastBelow 4 (some .int))) Bk.pre⟩
  subst hsz
  have hD := hD0.self (sz := s.heap.size)
  generalize hAe : va_A w0 s.heap.size = A at hD hE ⊢
  have hA : ∀ q : Nat, s.heap.size ≤ q → A q := fun q h => by rw [← hAe]; exact Or.inr h
  have hw : Wd dC dI A s.heap s.heap [] w0 := ⟨hP, hD, va_S.rf⟩
  have hF : FE ksC [(51, 0, 10)] w0 w0 := FE.rf
  have hl := lv_entry ([.ref (ad 158), .int 0, .int a2]) (n := 4) (Nat.le_of_ble_eq_true rfl)
  rw [lg_entry_eq]
  generalize (lg_sl ([.ref (ad 158), .int 0, .int a2]) ++ List.replicate (4 - (lg_sl ([.ref (ad 158), .int 0, .int a2])).length) Slot.unset).toArray = ls at hl ⊢
  have hl : lv_has ls 4 [(0, .ref (ad 158)), (1, .int 0), (2, .int a2)] := hl
  generalize hloc : ([] : List Loc) = locs at hw ⊢
  have hinX10 : ∀ w ∈ u_ws RX10 TX10 5, w ∈ (wu yX10_leastBelow cX10_leastBelow 4 (some .int)) := fun _ h => List.mem_cons_of_mem _ (up_81 h)
  have hinX5 : ∀ w ∈ u_ws RX5 TX5 14, w ∈ (wu yX10_leastBelow cX10_leastBelow 4 (some .int)) := fun _ h => List.mem_cons_of_mem _ (up_76 h)
  have L9 : ∀ (n9 : Nat) (v9_3 : Int32) (H : Heap) (locs : List Loc) (ls : Array Slot) (w1 : va_W), 0 ≤ a2.toInt → a2.toInt ≤ 8191 → 0 ≤ v9_3.toInt → v9_3.toInt ≤ 6 → (6 - v9_3.toInt).toNat < n9 → Wd dC dI A s.heap H locs w1 → TW ksC ad cy B qr s1 w1 → FE ksC [(51, 0, 10)] w0 w1 → TT (fun n => m_X10_leastBelow n 158 0 a2.toInt (sI w0)) (fun n => j_X10_leastBelow 158 n 1009 [(0 : Int), a2.toInt, v9_3.toInt] (sI w1)) → lv_has ls 4 [(0, .ref (ad 158)), (1, .int 0), (2, .int a2), (3, .int v9_3)] → W p l e ({ frames := 3, cells := 0, slots := 0, locals := 59 }) s m (List.toArray [.ref (ad 158), .int 0, .int a2]) below meth c H locs 0 0 (MQ below (va_Qi (Pz_X10_leastBelow_13 ad cy B qr s1 a2 w0) (fun u : va_W => wpost dC dI cy A u) A) (List.toArray [.ref (ad 158), .int 0, .int a2]) s 0 0 A) (F0 m 9 ls []) := by
    intro n9
    induction n9 with
    | zero => intro v9_3 H locs ls w1 r2 t3 r4 t5 hm9 hw hT hF hM hl; omega
    | succ n9 ih9 =>
      intro v9_3 H locs ls w1 r2 t3 r4 t5 hm9 hw hT hF hM hl
      replace hM := hM.suc (fun _ => e_X10_leastBelow_9)
      refine lv_iload_n hx hb dX10_leastBelow_9 rfl (lv_at hl 3 rfl) ?_
      refine lv_aload_n hx hb dX10_leastBelow_10 rfl (lv_at hl 0 rfl) ?_
      refine tk_getA hC hK hw hT hinX10 kC_at158 (by decide) rfl 0 (by decide) (List.mem_cons_of_mem _ uw_6_6) rfl rfl dX10_leastBelow_11 ?_
      refine tk_geti hC hK hw hT hinX5 kC_at38 (by decide) rfl 10 (by decide) (List.mem_cons_of_mem _ uw_60_6) rfl rfl dX10_leastBelow_14 (fun x6 c7 rx6 tx6 => ?_)
      replace hM := hM.rd (sI_at c7)
      refine lv_icmp_ge (tgt := 36) hx hb dX10_leastBelow_17 (by decide) (fun c8 => ?_) (fun c8 => ?_)
      · have c8 : x6.toInt ≤ v9_3.toInt := wk_le.mp c8
        replace hM := hM.pos c8
        refine lv_iload_n hx hb dX10_leastBelow_36 rfl (lv_at hl 1 rfl) ?_
        refine lv_if_gt (tgt := 42) hx hb dX10_leastBelow_37 (by decide) (fun c => absurd c (by decide)) (fun _ => ?_)
        replace hM := hM.neg (by decide)
        refine lv_iload_n hx hb dX10_leastBelow_40 rfl (lv_at hl 2 rfl) ?_
        exact tk_iret hC hr hlocks hK ⟨hT, hF, hM.ret rfl, (Or.inl ⟨(show 0 ≤ a2.toInt from r2), (show a2.toInt ≤ 8191 from t3)⟩)⟩ hw dX10_leastBelow_41
      · have c8 : v9_3.toInt < x6.toInt := wk_leF c8
        replace hM := hM.neg (Int.not_le.mpr c8)
        refine lv_aload_n hx hb dX10_leastBelow_20 rfl (lv_at hl 0 rfl) ?_
        refine lv_iload_n hx hb dX10_leastBelow_21 rfl (lv_at hl 3 rfl) ?_
        refine tk_Vi hC hK hw hT hA hE hSR kC_at158 (by decide) rfl (kz_X10_canDo_1 l adK adV dC dI cy ad B hB0 (Int.le_trans hB1 (by decide)) qr s1   v9_3 (show 0 ≤ v9_3.toInt from r4) (show v9_3.toInt ≤ 5 by first | with_reducible assumption | omega) w1 H.size hT ) (cwV 1 hC.2.2.2.2 uV_RX10_49 rfl rfl rfl (by decide +kernel) ⟨Nat.le_of_ble_eq_true rfl, Nat.le_of_ble_eq_true rfl⟩) rfl hl.1 rfl (Nat.le_of_ble_eq_true rfl) dX10_leastBelow_22 (fun r9 w11 H locs hp10 hw => ?_)
        obtain ⟨hT, k12, hv14, hg13⟩ := hp10
        have hF := hF.tr k12 (by decide)
        have c15 := k12.gi kC_at38 (by decide) c7
        rcases hg13 with rfl | rfl
        · replace hM := hM.call (r' := 0) hv14 (by decide)
          refine lv_if_ne (tgt := 30) hx hb dX10_leastBelow_25 (by decide) (fun c => absurd (by decide) c) (fun _ => ?_)
          replace hM := hM.neg (by decide)
          refine lv_iconst (v := (-1)) hx hb dX10_leastBelow_28 (by decide) ?_
          exact tk_iret hC hr hlocks hK ⟨hT, hF, hM.ret (by decide), (Or.inr ⟨rfl, ⟨x6, c15, (show 1 ≤ x6.toInt by first | with_reducible assumption | omega), (show x6.toInt ≤ 6 from tx6)⟩⟩)⟩ hw dX10_leastBelow_29
        · replace hM := hM.call (r' := 1) hv14 (by decide)
          refine lv_if_ne (tgt := 30) hx hb dX10_leastBelow_25 (by decide) (fun _ => ?_) (fun c => absurd c (by decide))
          replace hM := hM.pos (by decide)
          obtain ⟨x16, ex16⟩ : ∃ y : Int32, y = v9_3 + Int32.ofInt 1 := ⟨_, rfl⟩
          have erx16 := ex16
          refine lv_iinc (v := x16) (lv' := [(3, .int x16), (0, .ref (ad 158)), (1, .int 0), (2, .int a2)]) hx hb dX10_leastBelow_30 hl (k := 3) rfl ex16.symm (by decide) rfl (fun ls hl => ?_)
          have ex16 : x16.toInt = v9_3.toInt + 1 := by rw [ex16]; exact wk_add (y := 1) (show -2147483648 ≤ v9_3.toInt + 1 by omega) (show v9_3.toInt + 1 ≤ 2147483647 by omega)
          replace hM := hM.lt ex16.symm
          refine lv_goto (tgt := 9) hx hb dX10_leastBelow_33 (by decide) ?_
          exact ih9 x16 H locs ls w11 (show 0 ≤ a2.toInt from r2) (show a2.toInt ≤ 8191 from t3) (show 0 ≤ x16.toInt by first | with_reducible assumption | omega) (show x16.toInt ≤ 6 by first | with_reducible assumption | omega) (show (6 - x16.toInt).toNat < n9 by first | exact tn_lt hm9 (by omega) (by omega) | omega) hw hT hF hM (lv_sub hl [1, 2, 3, 0] rfl)
  have hM : TT (fun n => m_X10_leastBelow n 158 0 a2.toInt (sI w0)) (fun n => j_X10_leastBelow 158 n 1000 [0, a2.toInt] (sI w0)) := TT.rf
  replace hM := hM.suc (fun _ => e_X10_leastBelow_e)
  refine lv_aload_n hx hb dX10_leastBelow_0 rfl (lv_at hl 0 rfl) ?_
  refine lv_iload_n hx hb dX10_leastBelow_1 rfl (lv_at hl 1 rfl) ?_
  refine lv_iload_n hx hb dX10_leastBelow_2 rfl (lv_at hl 2 rfl) ?_
  refine lv_iconst (v := (-1)) hx hb dX10_leastBelow_3 (by decide) ?_
  refine tk_Vv hC hK hw hT hA hE hSR kC_at158 (by decide) rfl (kz_X10_layRoads_1 l adK adV dC dI cy ad B hB0 (Int.le_trans hB1 (by decide)) qr s1   0 (by decide) (by decide) a2 (show 0 ≤ a2.toInt from ra2) (show a2.toInt ≤ 8191 from ta2) ((-1)) (by decide) (by decide) w0 s.heap.size hT ) (cwV 3 hC.2.2.2.2 uV_RX10_42 rfl rfl rfl (by decide +kernel) ⟨Nat.le_of_ble_eq_true rfl, Nat.le_of_ble_eq_true rfl⟩) rfl hl.1 rfl (Nat.le_of_ble_eq_true rfl) dX10_leastBelow_4 (fun w19 H locs hp18 hw => ?_)
  obtain ⟨hT, k20, hv22, hg21⟩ := hp18
  try simp only [show (0 : Int32).toInt = 0 by decide] at hv22
  try simp only [show ((-1) : Int32).toInt = (-1) by decide] at hv22
  have hF := hF.tr k20 (by decide)
  clear hg21
  replace hM := hM.call hv22 rfl
  refine lv_iconst (v := 0) hx hb dX10_leastBelow_7 (by decide) ?_
  refine lv_istore_n (lv' := [(3, .int 0), (0, .ref (ad 158)), (1, .int 0), (2, .int a2)]) hx hb dX10_leastBelow_8 rfl hl (by decide) rfl (fun ls hl => ?_)
  exact L9 ((6 - (0 : Int)).toNat + 1) 0 H locs ls w19 (show 0 ≤ a2.toInt from ra2) (show a2.toInt ≤ 8191 from ta2) (by decide) (by decide) (Nat.lt_succ_self _) hw hT hF hM (lv_sub hl [1, 2, 3, 0] rfl)
abbrev Pz_X10_leastBelow_12 (ad : Nat → Nat) (cy : Nat → ClassId) (B : Int) (qr : Nat) (s1 : Int) (a1 : Int32) (a2 : Int32) (w0 : va_W) : Int32 → va_W → Prop := fun r u => TW ksC ad cy B qr s1 u ∧ FE ksC [(51, 0, 10)] w0 u ∧ Ev (fun n => m_X10_leastBelow n 158 a1.toInt a2.toInt (sI w0)) (r.toInt, sI u) ∧ ((0 ≤ r.toInt ∧ r.toInt ≤ 8191) ∨ (r = (-1) ∧ (∃ y : Int32, gi u 38 10 = y ∧ 1 ≤ y.toInt ∧ y.toInt ≤ 6)))
set_option maxHeartbeats 4000000 in
set_option maxRecDepth 100000 in
theorem kz_X10_leastBelow_12 (l : Launch) (adK adV : Nat → Nat) (dC : Nat → ClassId) (dI : Nat → Nat → Nat) (cy : Nat → ClassId) (ad : Nat → Nat) (B : Int) (hB0 : 2147483648 ≤ B) (hB1 : B ≤ 1152921504606846976) (qr : Nat) (s1 : Int)  (a1 : Int32) (ra1 : 0 ≤ a1.toInt) (ta1 : a1.toInt ≤ 1) (a2 : Int32) (ra2 : 0 ≤ a2.toInt) (ta2 : a2.toInt ≤ 8191) (w0 : va_W) (sz : Nat) (hT : TW ksC ad cy B qr s1 w0)  : Met l yX10_leastBelow (wu yX10_leastBelow cX10_leastBelow 4 (some .int)) ({ frames := 4, cells := 0, slots := 0, locals := 82 }) (va_Pc [.ref (ad 158), .int a1, .int a2] (wpreS adK adV dC dI cy sz w0)) (va_Qi (Pz_X10_leastBelow_12 ad cy B qr s1 a1 a2 w0) (fun u : va_W => wpost dC dI cy (va_A w0 sz) u) (va_A w0 sz)) 0 0 (va_A w0 sz) := by
  refine Met.ofW (cc := cX10_leastBelow) (maxL := 4) (ret := (some .int)) (by decide) rfl ?_
  intro p e s m args below meth c s₁ Bk hml hv
  obtain ⟨rfl, ⟨hsz, hP, hK, hD0⟩, hE, hSR⟩ := hv
  have hx := Bk.exec
  have hb := Bk.bytes
  have hr := Bk.returns
  have hlocks := Bk.notSynchronized
  have hC : CallFix p m c cX10_leastBelow 4 s _ (wu yX10_leastBelow cX10_leastBelow 4 (some .int)) RX10 := ⟨hx, hb, hml, findClass_of_methodNamed Bk.named, atoms_spec (ws := (wu yX10_leastBelow cX10_leastBelow 4 (some .int))) Bk.pre⟩
  subst hsz
  have hD := hD0.self (sz := s.heap.size)
  generalize hAe : va_A w0 s.heap.size = A at hD hE ⊢
  have hA : ∀ q : Nat, s.heap.size ≤ q → A q := fun q h => by rw [← hAe]; exact Or.inr h
  have hw : Wd dC dI A s.heap s.heap [] w0 := ⟨hP, hD, va_S.rf⟩
  have hF : FE ksC [(51, 0, 10)] w0 w0 := FE.rf
  have hl := lv_entry ([.ref (ad 158), .int a1, .int a2]) (n := 4) (Nat.le_of_ble_eq_true rfl)
  rw [lg_entry_eq]
  generalize (lg_sl ([.ref (ad 158), .int a1, .int a2]) ++ List.replicate (4 - (lg_sl ([.ref (ad 158), .int a1, .int a2])).length) Slot.unset).toArray = ls at hl ⊢
  have hl : lv_has ls 4 [(0, .ref (ad 158)), (1, .int a1), (2, .int a2)] := hl
  generalize hloc : ([] : List Loc) = locs at hw ⊢
  have hinX10 : ∀ w ∈ u_ws RX10 TX10 5, w ∈ (wu yX10_leastBelow cX10_leastBelow 4 (some .int)) := fun _ h => List.mem_cons_of_mem _ (up_81 h)
  have hinX5 : ∀ w ∈ u_ws RX5 TX5 14, w ∈ (wu yX10_leastBelow cX10_leastBelow 4 (some .int)) := fun _ h => List.mem_cons_of_mem _ (up_76 h)
  have L9 : ∀ (n9 : Nat) (v9_3 : Int32) (H : Heap) (locs : List Loc) (ls : Array Slot) (w1 : va_W), 0 ≤ a1.toInt → a1.toInt ≤ 1 → 0 ≤ a2.toInt → a2.toInt ≤ 8191 → 0 ≤ v9_3.toInt → v9_3.toInt ≤ 6 → (6 - v9_3.toInt).toNat < n9 → Wd dC dI A s.heap H locs w1 → TW ksC ad cy B qr s1 w1 → FE ksC [(51, 0, 10)] w0 w1 → TT (fun n => m_X10_leastBelow n 158 a1.toInt a2.toInt (sI w0)) (fun n => j_X10_leastBelow 158 n 1009 [a1.toInt, a2.toInt, v9_3.toInt] (sI w1)) → lv_has ls 4 [(0, .ref (ad 158)), (1, .int a1), (2, .int a2), (3, .int v9_3)] → W p l e ({ frames := 4, cells := 0, slots := 0, locals := 82 }) s m (List.toArray [.ref (ad 158), .int a1, .int a2]) below meth c H locs 0 0 (MQ below (va_Qi (Pz_X10_leastBelow_12 ad cy B qr s1 a1 a2 w0) (fun u : va_W => wpost dC dI cy A u) A) (List.toArray [.ref (ad 158), .int a1, .int a2]) s 0 0 A) (F0 m 9 ls []) := by
    intro n9
    induction n9 with
    | zero => intro v9_3 H locs ls w1 r2 t3 r4 t5 r6 t7 hm9 hw hT hF hM hl; omega
    | succ n9 ih9 =>
      intro v9_3 H locs ls w1 r2 t3 r4 t5 r6 t7 hm9 hw hT hF hM hl
      replace hM := hM.suc (fun _ => e_X10_leastBelow_9)
      refine lv_iload_n hx hb dX10_leastBelow_9 rfl (lv_at hl 3 rfl) ?_
      refine lv_aload_n hx hb dX10_leastBelow_10 rfl (lv_at hl 0 rfl) ?_
      refine tk_getA hC hK hw hT hinX10 kC_at158 (by decide) rfl 0 (by decide) (List.mem_cons_of_mem _ uw_6_6) rfl rfl dX10_leastBelow_11 ?_
      refine tk_geti hC hK hw hT hinX5 kC_at38 (by decide) rfl 10 (by decide) (List.mem_cons_of_mem _ uw_60_6) rfl rfl dX10_leastBelow_14 (fun x8 c9 rx8 tx8 => ?_)
      replace hM := hM.rd (sI_at c9)
      refine lv_icmp_ge (tgt := 36) hx hb dX10_leastBelow_17 (by decide) (fun c10 => ?_) (fun c10 => ?_)
      · have c10 : x8.toInt ≤ v9_3.toInt := wk_le.mp c10
        replace hM := hM.pos c10
        refine lv_iload_n hx hb dX10_leastBelow_36 rfl (lv_at hl 1 rfl) ?_
        refine lv_if_gt (tgt := 42) hx hb dX10_leastBelow_37 (by decide) (fun c11 => ?_) (fun c11 => ?_)
        · have c11 : (0 : Int) < a1.toInt := wk_lt.mp c11
          replace hM := hM.pos c11
          refine lv_aload_n hx hb dX10_leastBelow_42 rfl (lv_at hl 0 rfl) ?_
          refine lv_iload_n hx hb dX10_leastBelow_43 rfl (lv_at hl 1 rfl) ?_
          refine lv_iconst (v := 1) hx hb dX10_leastBelow_44 (by decide) ?_
          refine lv_isub hx hb dX10_leastBelow_45 ?_
          refine lv_topi (fun x12 ex12 => ?_)
          have ezx12 := ex12
          have ex12 : x12.toInt = a1.toInt - (1 : Int) := by rw [ex12]; exact wk_sub (show (-2147483648) ≤ a1.toInt - (1 : Int) by omega) (show a1.toInt - (1 : Int) ≤ 2147483647 by omega)
          replace hM := hM.lt ex12.symm
          refine lv_iload_n hx hb dX10_leastBelow_46 rfl (lv_at hl 2 rfl) ?_
          obtain rfl : x12 = 0 := wk_eq.mpr (show x12.toInt = 0 by first | exact Int.le_antisymm (by omega) (by omega) | omega)
          try simp only [show (0 : Int32).toInt = 0 by decide] at hM
          refine tk_Vi hC hK hw hT hA hE hSR kC_at158 (by decide) rfl (kz_X10_leastBelow_13 l adK adV dC dI cy ad B hB0 (Int.le_trans hB1 (by decide)) qr s1   a2 (show 0 ≤ a2.toInt from r4) (show a2.toInt ≤ 8191 from t5) w1 H.size hT ) (cwV 2 hC.2.2.2.2 uV_RX10_72 rfl rfl rfl (by decide +kernel) ⟨Nat.le_of_ble_eq_true rfl, Nat.le_of_ble_eq_true rfl⟩) rfl hl.1 rfl (Nat.le_of_ble_eq_true rfl) dX10_leastBelow_47 (fun r13 w15 H locs hp14 hw => ?_)
          obtain ⟨hT, k16, hv22, hg21⟩ := hp14
          have hF := hF.tr k16 (by decide)
          have c23 := k16.gi kC_at38 (by decide) c9
          rcases hg21 with ⟨g17, g18⟩ | ⟨rfl, ⟨x19, c20, rx19, tx19⟩⟩
          · replace hM := hM.call hv22 rfl
            refine lv_istore_n (lv' := [(3, .int r13), (0, .ref (ad 158)), (1, .int a1), (2, .int a2)]) hx hb dX10_leastBelow_50 rfl hl (by decide) rfl (fun ls hl => ?_)
            refine lv_iload_n hx hb dX10_leastBelow_51 rfl (lv_at hl 0 rfl) ?_
            refine lv_iconst (v := (-1)) hx hb dX10_leastBelow_52 (by decide) ?_
            refine lv_icmp_eq (tgt := 60) hx hb dX10_leastBelow_53 (by decide) (fun c => absurd c (fun h => absurd (show r13.toInt = (-1 : Int) from wk_eq.mp h) (by omega))) (fun _ => ?_)
            replace hM := hM.neg (by omega)
            refine lv_iload_n hx hb dX10_leastBelow_56 rfl (lv_at hl 0 rfl) ?_
            refine lv_goto (tgt := 74) hx hb dX10_leastBelow_57 (by decide) ?_
            exact tk_iret hC hr hlocks hK ⟨hT, hF, hM.ret rfl, (Or.inl ⟨(show 0 ≤ r13.toInt by first | with_reducible assumption | omega), (show r13.toInt ≤ 8191 by first | with_reducible assumption | omega)⟩)⟩ hw dX10_leastBelow_74
          · replace hM := hM.call (r' := (-1)) hv22 (by decide)
            have ex19 : x19.toInt = x8.toInt := by rw [← c23.symm.trans c20]
            refine lv_istore_n (lv' := [(3, .int (-1)), (0, .ref (ad 158)), (1, .int a1), (2, .int a2)]) hx hb dX10_leastBelow_50 rfl hl (by decide) rfl (fun ls hl => ?_)
            refine lv_iload_n hx hb dX10_leastBelow_51 rfl (lv_at hl 0 rfl) ?_
            refine lv_iconst (v := (-1)) hx hb dX10_leastBelow_52 (by decide) ?_
            refine lv_icmp_eq (tgt := 60) hx hb dX10_leastBelow_53 (by decide) (fun _ => ?_) (fun c => absurd (by decide) c)
            replace hM := hM.pos (by decide)
            refine lv_aload_n hx hb dX10_leastBelow_60 rfl (lv_at hl 1 rfl) ?_
            refine lv_iload_n hx hb dX10_leastBelow_61 rfl (lv_at hl 2 rfl) ?_
            refine lv_iconst (v := 1) hx hb dX10_leastBelow_62 (by decide) ?_
            refine lv_isub hx hb dX10_leastBelow_63 ?_
            refine lv_topi (fun x24 ex24 => ?_)
            have ezx24 := ex24
            have ex24 : x24.toInt = a1.toInt - (1 : Int) := by rw [ex24]; exact wk_sub (show (-2147483648) ≤ a1.toInt - (1 : Int) by omega) (show a1.toInt - (1 : Int) ≤ 2147483647 by omega)
            replace hM := hM.lt ex24.symm
            refine lv_iload_n hx hb dX10_leastBelow_64 rfl (lv_at hl 3 rfl) ?_
            refine lv_iconst (v := 1) hx hb dX10_leastBelow_65 (by decide) ?_
            refine lv_iload_n hx hb dX10_leastBelow_66 rfl (lv_at hl 2 rfl) ?_
            refine lv_iconst (v := 1) hx hb dX10_leastBelow_67 (by decide) ?_
            refine lv_isub hx hb dX10_leastBelow_68 ?_
            refine lv_topi (fun x25 ex25 => ?_)
            have ezx25 := ex25
            have ex25 : x25.toInt = a1.toInt - (1 : Int) := by rw [ex25]; exact wk_sub (show (-2147483648) ≤ a1.toInt - (1 : Int) by omega) (show a1.toInt - (1 : Int) ≤ 2147483647 by omega)
            replace hM := hM.lt ex25.symm
            refine lv_ishl hx hb dX10_leastBelow_69 ?_
            refine lv_topi (fun x26 ex26 => ?_)
            have ezx26 := ex26
            have bx26 : 1 ≤ x26.toInt ∧ x26.toInt ≤ 1 := by rw [ex26]; exact wk_shl1 0 (by decide) (by omega) (by omega)
            replace hM := hM.lt (o32_e (f := fun x y => x <<< (y &&& 31)) ezx26 (by decide) rfl)
            refine lv_ior hx hb dX10_leastBelow_70 ?_
            refine lv_topi (fun x27 ex27 => ?_)
            have ezx27 := ex27
            have bx27 : 0 ≤ x27.toInt ∧ x27.toInt < 8192 := by rw [ex27]; exact wk_or 13 (by decide) (by omega) (by omega) (by omega) (by omega)
            have mx27 : a2.toInt ≤ x27.toInt ∧ x26.toInt ≤ x27.toInt := by rw [ex27]; exact wk_orL 13 (by decide) (by omega) (by omega) (by omega) (by omega)
            replace hM := hM.lt (o32_e (f := fun x y => x ||| y) ezx27 rfl rfl)
            obtain rfl : x24 = 0 := wk_eq.mpr (show x24.toInt = 0 by first | exact Int.le_antisymm (by omega) (by omega) | omega)
            try simp only [show (0 : Int32).toInt = 0 by decide] at hM
            refine tk_Vi hC hK hw hT hA hE hSR kC_at158 (by decide) rfl (kz_X10_leastBelow_13 l adK adV dC dI cy ad B hB0 (Int.le_trans hB1 (by decide)) qr s1   x27 (show 0 ≤ x27.toInt by first | with_reducible assumption | omega) (show x27.toInt ≤ 8191 by first | with_reducible assumption | omega) w15 H.size hT ) (cwV 2 hC.2.2.2.2 uV_RX10_72 rfl rfl rfl (by decide +kernel) ⟨Nat.le_of_ble_eq_true rfl, Nat.le_of_ble_eq_true rfl⟩) rfl hl.1 rfl (Nat.le_of_ble_eq_true rfl) dX10_leastBelow_71 (fun r28 w30 H locs hp29 hw => ?_)
            obtain ⟨hT, k31, hv37, hg36⟩ := hp29
            have hF := hF.tr k31 (by decide)
            have c38 := k31.gi kC_at38 (by decide) c23
            rcases hg36 with ⟨g32, g33⟩ | ⟨rfl, ⟨x34, c35, rx34, tx34⟩⟩
            · replace hM := hM.call hv37 rfl
              exact tk_iret hC hr hlocks hK ⟨hT, hF, hM.ret rfl, (Or.inl ⟨(show 0 ≤ r28.toInt by first | with_reducible assumption | omega), (show r28.toInt ≤ 8191 by first | with_reducible assumption | omega)⟩)⟩ hw dX10_leastBelow_74
            · replace hM := hM.call (r' := (-1)) hv37 (by decide)
              have ex34 : x34.toInt = x8.toInt := by rw [← c38.symm.trans c35]
              exact tk_iret hC hr hlocks hK ⟨hT, hF, hM.ret (by decide), (Or.inr ⟨rfl, ⟨x8, c38, (show 1 ≤ x8.toInt by first | with_reducible assumption | omega), (show x8.toInt ≤ 6 from tx8)⟩⟩)⟩ hw dX10_leastBelow_74
        · have c11 : a1.toInt ≤ (0 : Int) := wk_ltF c11
          replace hM := hM.neg (Int.not_lt.mpr c11)
          refine lv_iload_n hx hb dX10_leastBelow_40 rfl (lv_at hl 2 rfl) ?_
          exact tk_iret hC hr hlocks hK ⟨hT, hF, hM.ret rfl, (Or.inl ⟨(show 0 ≤ a2.toInt from r4), (show a2.toInt ≤ 8191 from t5)⟩)⟩ hw dX10_leastBelow_41
      · have c10 : v9_3.toInt < x8.toInt := wk_leF c10
        replace hM := hM.neg (Int.not_le.mpr c10)
        refine lv_aload_n hx hb dX10_leastBelow_20 rfl (lv_at hl 0 rfl) ?_
        refine lv_iload_n hx hb dX10_leastBelow_21 rfl (lv_at hl 3 rfl) ?_
        refine tk_Vi hC hK hw hT hA hE hSR kC_at158 (by decide) rfl (kz_X10_canDo_1 l adK adV dC dI cy ad B hB0 (Int.le_trans hB1 (by decide)) qr s1   v9_3 (show 0 ≤ v9_3.toInt from r6) (show v9_3.toInt ≤ 5 by first | with_reducible assumption | omega) w1 H.size hT ) (cwV 1 hC.2.2.2.2 uV_RX10_49 rfl rfl rfl (by decide +kernel) ⟨Nat.le_of_ble_eq_true rfl, Nat.le_of_ble_eq_true rfl⟩) rfl hl.1 rfl (Nat.le_of_ble_eq_true rfl) dX10_leastBelow_22 (fun r39 w41 H locs hp40 hw => ?_)
        obtain ⟨hT, k42, hv44, hg43⟩ := hp40
        have hF := hF.tr k42 (by decide)
        have c45 := k42.gi kC_at38 (by decide) c9
        rcases hg43 with rfl | rfl
        · replace hM := hM.call (r' := 0) hv44 (by decide)
          refine lv_if_ne (tgt := 30) hx hb dX10_leastBelow_25 (by decide) (fun c => absurd (by decide) c) (fun _ => ?_)
          replace hM := hM.neg (by decide)
          refine lv_iconst (v := (-1)) hx hb dX10_leastBelow_28 (by decide) ?_
          exact tk_iret hC hr hlocks hK ⟨hT, hF, hM.ret (by decide), (Or.inr ⟨rfl, ⟨x8, c45, (show 1 ≤ x8.toInt by first | with_reducible assumption | omega), (show x8.toInt ≤ 6 from tx8)⟩⟩)⟩ hw dX10_leastBelow_29
        · replace hM := hM.call (r' := 1) hv44 (by decide)
          refine lv_if_ne (tgt := 30) hx hb dX10_leastBelow_25 (by decide) (fun _ => ?_) (fun c => absurd c (by decide))
          replace hM := hM.pos (by decide)
          obtain ⟨x46, ex46⟩ : ∃ y : Int32, y = v9_3 + Int32.ofInt 1 := ⟨_, rfl⟩
          have erx46 := ex46
          refine lv_iinc (v := x46) (lv' := [(3, .int x46), (0, .ref (ad 158)), (1, .int a1), (2, .int a2)]) hx hb dX10_leastBelow_30 hl (k := 3) rfl ex46.symm (by decide) rfl (fun ls hl => ?_)
          have ex46 : x46.toInt = v9_3.toInt + 1 := by rw [ex46]; exact wk_add (y := 1) (show -2147483648 ≤ v9_3.toInt + 1 by omega) (show v9_3.toInt + 1 ≤ 2147483647 by omega)
          replace hM := hM.lt ex46.symm
          refine lv_goto (tgt := 9) hx hb dX10_leastBelow_33 (by decide) ?_
          exact ih9 x46 H locs ls w41 (show 0 ≤ a1.toInt from r2) (show a1.toInt ≤ 1 from t3) (show 0 ≤ a2.toInt from r4) (show a2.toInt ≤ 8191 from t5) (show 0 ≤ x46.toInt by first | with_reducible assumption | omega) (show x46.toInt ≤ 6 by first | with_reducible assumption | omega) (show (6 - x46.toInt).toNat < n9 by first | exact tn_lt hm9 (by omega) (by omega) | omega) hw hT hF hM (lv_sub hl [1, 2, 3, 0] rfl)
  have hM : TT (fun n => m_X10_leastBelow n 158 a1.toInt a2.toInt (sI w0)) (fun n => j_X10_leastBelow 158 n 1000 [a1.toInt, a2.toInt] (sI w0)) := TT.rf
  replace hM := hM.suc (fun _ => e_X10_leastBelow_e)
  refine lv_aload_n hx hb dX10_leastBelow_0 rfl (lv_at hl 0 rfl) ?_
  refine lv_iload_n hx hb dX10_leastBelow_1 rfl (lv_at hl 1 rfl) ?_
  refine lv_iload_n hx hb dX10_leastBelow_2 rfl (lv_at hl 2 rfl) ?_
  refine lv_iconst (v := (-1)) hx hb dX10_leastBelow_3 (by decide) ?_
  refine tk_Vv hC hK hw hT hA hE hSR kC_at158 (by decide) rfl (kz_X10_layRoads_1 l adK adV dC dI cy ad B hB0 (Int.le_trans hB1 (by decide)) qr s1   a1 (show 0 ≤ a1.toInt from ra1) (show a1.toInt ≤ 12 from Int.le_trans ta1 (by decide)) a2 (show 0 ≤ a2.toInt from ra2) (show a2.toInt ≤ 8191 from ta2) ((-1)) (by decide) (by decide) w0 s.heap.size hT ) (cwV 3 hC.2.2.2.2 uV_RX10_42 rfl rfl rfl (by decide +kernel) ⟨Nat.le_of_ble_eq_true rfl, Nat.le_of_ble_eq_true rfl⟩) rfl hl.1 rfl (Nat.le_of_ble_eq_true rfl) dX10_leastBelow_4 (fun w49 H locs hp48 hw => ?_)
  obtain ⟨hT, k50, hv52, hg51⟩ := hp48
  try simp only [show ((-1) : Int32).toInt = (-1) by decide] at hv52
  have hF := hF.tr k50 (by decide)
  clear hg51
  replace hM := hM.call hv52 rfl
  refine lv_iconst (v := 0) hx hb dX10_leastBelow_7 (by decide) ?_
  refine lv_istore_n (lv' := [(3, .int 0), (0, .ref (ad 158)), (1, .int a1), (2, .int a2)]) hx hb dX10_leastBelow_8 rfl hl (by decide) rfl (fun ls hl => ?_)
  exact L9 ((6 - (0 : Int)).toNat + 1) 0 H locs ls w49 (show 0 ≤ a1.toInt from ra1) (show a1.toInt ≤ 1 from ta1) (show 0 ≤ a2.toInt from ra2) (show a2.toInt ≤ 8191 from ta2) (by decide) (by decide) (Nat.lt_succ_self _) hw hT hF hM (lv_sub hl [1, 2, 3, 0] rfl)
abbrev Pz_X10_leastBelow_11 (ad : Nat → Nat) (cy : Nat → ClassId) (B : Int) (qr : Nat) (s1 : Int) (a1 : Int32) (a2 : Int32) (w0 : va_W) : Int32 → va_W → Prop := fun r u => TW ksC ad cy B qr s1 u ∧ FE ksC [(51, 0, 10)] w0 u ∧ Ev (fun n => m_X10_leastBelow n 158 a1.toInt a2.toInt (sI w0)) (r.toInt, sI u) ∧ ((0 ≤ r.toInt ∧ r.toInt ≤ 8191) ∨ (r = (-1) ∧ (∃ y : Int32, gi u 38 10 = y ∧ 1 ≤ y.toInt ∧ y.toInt ≤ 6)))
set_option maxHeartbeats 4000000 in
set_option maxRecDepth 100000 in
theorem kz_X10_leastBelow_11 (l : Launch) (adK adV : Nat → Nat) (dC : Nat → ClassId) (dI : Nat → Nat → Nat) (cy : Nat → ClassId) (ad : Nat → Nat) (B : Int) (hB0 : 2147483648 ≤ B) (hB1 : B ≤ 1152921504606846976) (qr : Nat) (s1 : Int)  (a1 : Int32) (ra1 : 0 ≤ a1.toInt) (ta1 : a1.toInt ≤ 2) (a2 : Int32) (ra2 : 0 ≤ a2.toInt) (ta2 : a2.toInt ≤ 8191) (w0 : va_W) (sz : Nat) (hT : TW ksC ad cy B qr s1 w0)  : Met l yX10_leastBelow (wu yX10_leastBelow cX10_leastBelow 4 (some .int)) ({ frames := 5, cells := 0, slots := 0, locals := 105 }) (va_Pc [.ref (ad 158), .int a1, .int a2] (wpreS adK adV dC dI cy sz w0)) (va_Qi (Pz_X10_leastBelow_11 ad cy B qr s1 a1 a2 w0) (fun u : va_W => wpost dC dI cy (va_A w0 sz) u) (va_A w0 sz)) 0 0 (va_A w0 sz) := by
  refine Met.ofW (cc := cX10_leastBelow) (maxL := 4) (ret := (some .int)) (by decide) rfl ?_
  intro p e s m args below meth c s₁ Bk hml hv
  obtain ⟨rfl, ⟨hsz, hP, hK, hD0⟩, hE, hSR⟩ := hv
  have hx := Bk.exec
  have hb := Bk.bytes
  have hr := Bk.returns
  have hlocks := Bk.notSynchronized
  have hC : CallFix p m c cX10_leastBelow 4 s _ (wu yX10_leastBelow cX10_leastBelow 4 (some .int)) RX10 := ⟨hx, hb, hml, findClass_of_methodNamed Bk.named, atoms_spec (ws := (wu yX10_leastBelow cX10_leastBelow 4 (some .int))) Bk.pre⟩
  subst hsz
  have hD := hD0.self (sz := s.heap.size)
  generalize hAe : va_A w0 s.heap.size = A at hD hE ⊢
  have hA : ∀ q : Nat, s.heap.size ≤ q → A q := fun q h => by rw [← hAe]; exact Or.inr h
  have hw : Wd dC dI A s.heap s.heap [] w0 := ⟨hP, hD, va_S.rf⟩
  have hF : FE ksC [(51, 0, 10)] w0 w0 := FE.rf
  have hl := lv_entry ([.ref (ad 158), .int a1, .int a2]) (n := 4) (Nat.le_of_ble_eq_true rfl)
  rw [lg_entry_eq]
  generalize (lg_sl ([.ref (ad 158), .int a1, .int a2]) ++ List.replicate (4 - (lg_sl ([.ref (ad 158), .int a1, .int a2])).length) Slot.unset).toArray = ls at hl ⊢
  have hl : lv_has ls 4 [(0, .ref (ad 158)), (1, .int a1), (2, .int a2)] := hl
  generalize hloc : ([] : List Loc) = locs at hw ⊢
  have hinX10 : ∀ w ∈ u_ws RX10 TX10 5, w ∈ (wu yX10_leastBelow cX10_leastBelow 4 (some .int)) := fun _ h => List.mem_cons_of_mem _ (up_81 h)
  have hinX5 : ∀ w ∈ u_ws RX5 TX5 14, w ∈ (wu yX10_leastBelow cX10_leastBelow 4 (some .int)) := fun _ h => List.mem_cons_of_mem _ (up_76 h)
  have L9 : ∀ (n9 : Nat) (v9_3 : Int32) (H : Heap) (locs : List Loc) (ls : Array Slot) (w1 : va_W), 0 ≤ a1.toInt → a1.toInt ≤ 2 → 0 ≤ a2.toInt → a2.toInt ≤ 8191 → 0 ≤ v9_3.toInt → v9_3.toInt ≤ 6 → (6 - v9_3.toInt).toNat < n9 → Wd dC dI A s.heap H locs w1 → TW ksC ad cy B qr s1 w1 → FE ksC [(51, 0, 10)] w0 w1 → TT (fun n => m_X10_leastBelow n 158 a1.toInt a2.toInt (sI w0)) (fun n => j_X10_leastBelow 158 n 1009 [a1.toInt, a2.toInt, v9_3.toInt] (sI w1)) → lv_has ls 4 [(0, .ref (ad 158)), (1, .int a1), (2, .int a2), (3, .int v9_3)] → W p l e ({ frames := 5, cells := 0, slots := 0, locals := 105 }) s m (List.toArray [.ref (ad 158), .int a1, .int a2]) below meth c H locs 0 0 (MQ below (va_Qi (Pz_X10_leastBelow_11 ad cy B qr s1 a1 a2 w0) (fun u : va_W => wpost dC dI cy A u) A) (List.toArray [.ref (ad 158), .int a1, .int a2]) s 0 0 A) (F0 m 9 ls []) := by
    intro n9
    induction n9 with
    | zero => intro v9_3 H locs ls w1 r2 t3 r4 t5 r6 t7 hm9 hw hT hF hM hl; omega
    | succ n9 ih9 =>
      intro v9_3 H locs ls w1 r2 t3 r4 t5 r6 t7 hm9 hw hT hF hM hl
      replace hM := hM.suc (fun _ => e_X10_leastBelow_9)
      refine lv_iload_n hx hb dX10_leastBelow_9 rfl (lv_at hl 3 rfl) ?_
      refine lv_aload_n hx hb dX10_leastBelow_10 rfl (lv_at hl 0 rfl) ?_
      refine tk_getA hC hK hw hT hinX10 kC_at158 (by decide) rfl 0 (by decide) (List.mem_cons_of_mem _ uw_6_6) rfl rfl dX10_leastBelow_11 ?_
      refine tk_geti hC hK hw hT hinX5 kC_at38 (by decide) rfl 10 (by decide) (List.mem_cons_of_mem _ uw_60_6) rfl rfl dX10_leastBelow_14 (fun x8 c9 rx8 tx8 => ?_)
      replace hM := hM.rd (sI_at c9)
      refine lv_icmp_ge (tgt := 36) hx hb dX10_leastBelow_17 (by decide) (fun c10 => ?_) (fun c10 => ?_)
      · have c10 : x8.toInt ≤ v9_3.toInt := wk_le.mp c10
        replace hM := hM.pos c10
        refine lv_iload_n hx hb dX10_leastBelow_36 rfl (lv_at hl 1 rfl) ?_
        refine lv_if_gt (tgt := 42) hx hb dX10_leastBelow_37 (by decide) (fun c11 => ?_) (fun c11 => ?_)
        · have c11 : (0 : Int) < a1.toInt := wk_lt.mp c11
          replace hM := hM.pos c11
          refine lv_aload_n hx hb dX10_leastBelow_42 rfl (lv_at hl 0 rfl) ?_
          refine lv_iload_n hx hb dX10_leastBelow_43 rfl (lv_at hl 1 rfl) ?_
          refine lv_iconst (v := 1) hx hb dX10_leastBelow_44 (by decide) ?_
          refine lv_isub hx hb dX10_leastBelow_45 ?_
          refine lv_topi (fun x12 ex12 => ?_)
          have ezx12 := ex12
          have ex12 : x12.toInt = a1.toInt - (1 : Int) := by rw [ex12]; exact wk_sub (show (-2147483648) ≤ a1.toInt - (1 : Int) by omega) (show a1.toInt - (1 : Int) ≤ 2147483647 by omega)
          replace hM := hM.lt ex12.symm
          refine lv_iload_n hx hb dX10_leastBelow_46 rfl (lv_at hl 2 rfl) ?_
          refine tk_Vi hC hK hw hT hA hE hSR kC_at158 (by decide) rfl (kz_X10_leastBelow_12 l adK adV dC dI cy ad B hB0 (Int.le_trans hB1 (by decide)) qr s1   x12 (show 0 ≤ x12.toInt by first | with_reducible assumption | omega) (show x12.toInt ≤ 1 by first | with_reducible assumption | omega) a2 (show 0 ≤ a2.toInt from r4) (show a2.toInt ≤ 8191 from t5) w1 H.size hT ) (cwV 2 hC.2.2.2.2 uV_RX10_72 rfl rfl rfl (by decide +kernel) ⟨Nat.le_of_ble_eq_true rfl, Nat.le_of_ble_eq_true rfl⟩) rfl hl.1 rfl (Nat.le_of_ble_eq_true rfl) dX10_leastBelow_47 (fun r13 w15 H locs hp14 hw => ?_)
          obtain ⟨hT, k16, hv22, hg21⟩ := hp14
          have hF := hF.tr k16 (by decide)
          have c23 := k16.gi kC_at38 (by decide) c9
          rcases hg21 with ⟨g17, g18⟩ | ⟨rfl, ⟨x19, c20, rx19, tx19⟩⟩
          · replace hM := hM.call hv22 rfl
            refine lv_istore_n (lv' := [(3, .int r13), (0, .ref (ad 158)), (1, .int a1), (2, .int a2)]) hx hb dX10_leastBelow_50 rfl hl (by decide) rfl (fun ls hl => ?_)
            refine lv_iload_n hx hb dX10_leastBelow_51 rfl (lv_at hl 0 rfl) ?_
            refine lv_iconst (v := (-1)) hx hb dX10_leastBelow_52 (by decide) ?_
            refine lv_icmp_eq (tgt := 60) hx hb dX10_leastBelow_53 (by decide) (fun c => absurd c (fun h => absurd (show r13.toInt = (-1 : Int) from wk_eq.mp h) (by omega))) (fun _ => ?_)
            replace hM := hM.neg (by omega)
            refine lv_iload_n hx hb dX10_leastBelow_56 rfl (lv_at hl 0 rfl) ?_
            refine lv_goto (tgt := 74) hx hb dX10_leastBelow_57 (by decide) ?_
            exact tk_iret hC hr hlocks hK ⟨hT, hF, hM.ret rfl, (Or.inl ⟨(show 0 ≤ r13.toInt by first | with_reducible assumption | omega), (show r13.toInt ≤ 8191 by first | with_reducible assumption | omega)⟩)⟩ hw dX10_leastBelow_74
          · replace hM := hM.call (r' := (-1)) hv22 (by decide)
            have ex19 : x19.toInt = x8.toInt := by rw [← c23.symm.trans c20]
            refine lv_istore_n (lv' := [(3, .int (-1)), (0, .ref (ad 158)), (1, .int a1), (2, .int a2)]) hx hb dX10_leastBelow_50 rfl hl (by decide) rfl (fun ls hl => ?_)
            refine lv_iload_n hx hb dX10_leastBelow_51 rfl (lv_at hl 0 rfl) ?_
            refine lv_iconst (v := (-1)) hx hb dX10_leastBelow_52 (by decide) ?_
            refine lv_icmp_eq (tgt := 60) hx hb dX10_leastBelow_53 (by decide) (fun _ => ?_) (fun c => absurd (by decide) c)
            replace hM := hM.pos (by decide)
            refine lv_aload_n hx hb dX10_leastBelow_60 rfl (lv_at hl 1 rfl) ?_
            refine lv_iload_n hx hb dX10_leastBelow_61 rfl (lv_at hl 2 rfl) ?_
            refine lv_iconst (v := 1) hx hb dX10_leastBelow_62 (by decide) ?_
            refine lv_isub hx hb dX10_leastBelow_63 ?_
            refine lv_topi (fun x24 ex24 => ?_)
            have ezx24 := ex24
            have ex24 : x24.toInt = a1.toInt - (1 : Int) := by rw [ex24]; exact wk_sub (show (-2147483648) ≤ a1.toInt - (1 : Int) by omega) (show a1.toInt - (1 : Int) ≤ 2147483647 by omega)
            replace hM := hM.lt ex24.symm
            refine lv_iload_n hx hb dX10_leastBelow_64 rfl (lv_at hl 3 rfl) ?_
            refine lv_iconst (v := 1) hx hb dX10_leastBelow_65 (by decide) ?_
            refine lv_iload_n hx hb dX10_leastBelow_66 rfl (lv_at hl 2 rfl) ?_
            refine lv_iconst (v := 1) hx hb dX10_leastBelow_67 (by decide) ?_
            refine lv_isub hx hb dX10_leastBelow_68 ?_
            refine lv_topi (fun x25 ex25 => ?_)
            have ezx25 := ex25
            have ex25 : x25.toInt = a1.toInt - (1 : Int) := by rw [ex25]; exact wk_sub (show (-2147483648) ≤ a1.toInt - (1 : Int) by omega) (show a1.toInt - (1 : Int) ≤ 2147483647 by omega)
            replace hM := hM.lt ex25.symm
            refine lv_ishl hx hb dX10_leastBelow_69 ?_
            refine lv_topi (fun x26 ex26 => ?_)
            have ezx26 := ex26
            have bx26 : 1 ≤ x26.toInt ∧ x26.toInt ≤ 2 := by rw [ex26]; exact wk_shl1 1 (by decide) (by omega) (by omega)
            replace hM := hM.lt (o32_e (f := fun x y => x <<< (y &&& 31)) ezx26 (by decide) rfl)
            refine lv_ior hx hb dX10_leastBelow_70 ?_
            refine lv_topi (fun x27 ex27 => ?_)
            have ezx27 := ex27
            have bx27 : 0 ≤ x27.toInt ∧ x27.toInt < 8192 := by rw [ex27]; exact wk_or 13 (by decide) (by omega) (by omega) (by omega) (by omega)
            have mx27 : a2.toInt ≤ x27.toInt ∧ x26.toInt ≤ x27.toInt := by rw [ex27]; exact wk_orL 13 (by decide) (by omega) (by omega) (by omega) (by omega)
            replace hM := hM.lt (o32_e (f := fun x y => x ||| y) ezx27 rfl rfl)
            refine tk_Vi hC hK hw hT hA hE hSR kC_at158 (by decide) rfl (kz_X10_leastBelow_12 l adK adV dC dI cy ad B hB0 (Int.le_trans hB1 (by decide)) qr s1   x24 (show 0 ≤ x24.toInt by first | with_reducible assumption | omega) (show x24.toInt ≤ 1 by first | with_reducible assumption | omega) x27 (show 0 ≤ x27.toInt by first | with_reducible assumption | omega) (show x27.toInt ≤ 8191 by first | with_reducible assumption | omega) w15 H.size hT ) (cwV 2 hC.2.2.2.2 uV_RX10_72 rfl rfl rfl (by decide +kernel) ⟨Nat.le_of_ble_eq_true rfl, Nat.le_of_ble_eq_true rfl⟩) rfl hl.1 rfl (Nat.le_of_ble_eq_true rfl) dX10_leastBelow_71 (fun r28 w30 H locs hp29 hw => ?_)
            obtain ⟨hT, k31, hv37, hg36⟩ := hp29
            have hF := hF.tr k31 (by decide)
            have c38 := k31.gi kC_at38 (by decide) c23
            rcases hg36 with ⟨g32, g33⟩ | ⟨rfl, ⟨x34, c35, rx34, tx34⟩⟩
            · replace hM := hM.call hv37 rfl
              exact tk_iret hC hr hlocks hK ⟨hT, hF, hM.ret rfl, (Or.inl ⟨(show 0 ≤ r28.toInt by first | with_reducible assumption | omega), (show r28.toInt ≤ 8191 by first | with_reducible assumption | omega)⟩)⟩ hw dX10_leastBelow_74
            · replace hM := hM.call (r' := (-1)) hv37 (by decide)
              have ex34 : x34.toInt = x8.toInt := by rw [← c38.symm.trans c35]
              exact tk_iret hC hr hlocks hK ⟨hT, hF, hM.ret (by decide), (Or.inr ⟨rfl, ⟨x8, c38, (show 1 ≤ x8.toInt by first | with_reducible assumption | omega), (show x8.toInt ≤ 6 from tx8)⟩⟩)⟩ hw dX10_leastBelow_74
        · have c11 : a1.toInt ≤ (0 : Int) := wk_ltF c11
          replace hM := hM.neg (Int.not_lt.mpr c11)
          refine lv_iload_n hx hb dX10_leastBelow_40 rfl (lv_at hl 2 rfl) ?_
          exact tk_iret hC hr hlocks hK ⟨hT, hF, hM.ret rfl, (Or.inl ⟨(show 0 ≤ a2.toInt from r4), (show a2.toInt ≤ 8191 from t5)⟩)⟩ hw dX10_leastBelow_41
      · have c10 : v9_3.toInt < x8.toInt := wk_leF c10
        replace hM := hM.neg (Int.not_le.mpr c10)
        refine lv_aload_n hx hb dX10_leastBelow_20 rfl (lv_at hl 0 rfl) ?_
        refine lv_iload_n hx hb dX10_leastBelow_21 rfl (lv_at hl 3 rfl) ?_
        refine tk_Vi hC hK hw hT hA hE hSR kC_at158 (by decide) rfl (kz_X10_canDo_1 l adK adV dC dI cy ad B hB0 (Int.le_trans hB1 (by decide)) qr s1   v9_3 (show 0 ≤ v9_3.toInt from r6) (show v9_3.toInt ≤ 5 by first | with_reducible assumption | omega) w1 H.size hT ) (cwV 1 hC.2.2.2.2 uV_RX10_49 rfl rfl rfl (by decide +kernel) ⟨Nat.le_of_ble_eq_true rfl, Nat.le_of_ble_eq_true rfl⟩) rfl hl.1 rfl (Nat.le_of_ble_eq_true rfl) dX10_leastBelow_22 (fun r39 w41 H locs hp40 hw => ?_)
        obtain ⟨hT, k42, hv44, hg43⟩ := hp40
        have hF := hF.tr k42 (by decide)
        have c45 := k42.gi kC_at38 (by decide) c9
        rcases hg43 with rfl | rfl
        · replace hM := hM.call (r' := 0) hv44 (by decide)
          refine lv_if_ne (tgt := 30) hx hb dX10_leastBelow_25 (by decide) (fun c => absurd (by decide) c) (fun _ => ?_)
          replace hM := hM.neg (by decide)
          refine lv_iconst (v := (-1)) hx hb dX10_leastBelow_28 (by decide) ?_
          exact tk_iret hC hr hlocks hK ⟨hT, hF, hM.ret (by decide), (Or.inr ⟨rfl, ⟨x8, c45, (show 1 ≤ x8.toInt by first | with_reducible assumption | omega), (show x8.toInt ≤ 6 from tx8)⟩⟩)⟩ hw dX10_leastBelow_29
        · replace hM := hM.call (r' := 1) hv44 (by decide)
          refine lv_if_ne (tgt := 30) hx hb dX10_leastBelow_25 (by decide) (fun _ => ?_) (fun c => absurd c (by decide))
          replace hM := hM.pos (by decide)
          obtain ⟨x46, ex46⟩ : ∃ y : Int32, y = v9_3 + Int32.ofInt 1 := ⟨_, rfl⟩
          have erx46 := ex46
          refine lv_iinc (v := x46) (lv' := [(3, .int x46), (0, .ref (ad 158)), (1, .int a1), (2, .int a2)]) hx hb dX10_leastBelow_30 hl (k := 3) rfl ex46.symm (by decide) rfl (fun ls hl => ?_)
          have ex46 : x46.toInt = v9_3.toInt + 1 := by rw [ex46]; exact wk_add (y := 1) (show -2147483648 ≤ v9_3.toInt + 1 by omega) (show v9_3.toInt + 1 ≤ 2147483647 by omega)
          replace hM := hM.lt ex46.symm
          refine lv_goto (tgt := 9) hx hb dX10_leastBelow_33 (by decide) ?_
          exact ih9 x46 H locs ls w41 (show 0 ≤ a1.toInt from r2) (show a1.toInt ≤ 2 from t3) (show 0 ≤ a2.toInt from r4) (show a2.toInt ≤ 8191 from t5) (show 0 ≤ x46.toInt by first | with_reducible assumption | omega) (show x46.toInt ≤ 6 by first | with_reducible assumption | omega) (show (6 - x46.toInt).toNat < n9 by first | exact tn_lt hm9 (by omega) (by omega) | omega) hw hT hF hM (lv_sub hl [1, 2, 3, 0] rfl)
  have hM : TT (fun n => m_X10_leastBelow n 158 a1.toInt a2.toInt (sI w0)) (fun n => j_X10_leastBelow 158 n 1000 [a1.toInt, a2.toInt] (sI w0)) := TT.rf
  replace hM := hM.suc (fun _ => e_X10_leastBelow_e)
  refine lv_aload_n hx hb dX10_leastBelow_0 rfl (lv_at hl 0 rfl) ?_
  refine lv_iload_n hx hb dX10_leastBelow_1 rfl (lv_at hl 1 rfl) ?_
  refine lv_iload_n hx hb dX10_leastBelow_2 rfl (lv_at hl 2 rfl) ?_
  refine lv_iconst (v := (-1)) hx hb dX10_leastBelow_3 (by decide) ?_
  refine tk_Vv hC hK hw hT hA hE hSR kC_at158 (by decide) rfl (kz_X10_layRoads_1 l adK adV dC dI cy ad B hB0 (Int.le_trans hB1 (by decide)) qr s1   a1 (show 0 ≤ a1.toInt from ra1) (show a1.toInt ≤ 12 from Int.le_trans ta1 (by decide)) a2 (show 0 ≤ a2.toInt from ra2) (show a2.toInt ≤ 8191 from ta2) ((-1)) (by decide) (by decide) w0 s.heap.size hT ) (cwV 3 hC.2.2.2.2 uV_RX10_42 rfl rfl rfl (by decide +kernel) ⟨Nat.le_of_ble_eq_true rfl, Nat.le_of_ble_eq_true rfl⟩) rfl hl.1 rfl (Nat.le_of_ble_eq_true rfl) dX10_leastBelow_4 (fun w49 H locs hp48 hw => ?_)
  obtain ⟨hT, k50, hv52, hg51⟩ := hp48
  try simp only [show ((-1) : Int32).toInt = (-1) by decide] at hv52
  have hF := hF.tr k50 (by decide)
  clear hg51
  replace hM := hM.call hv52 rfl
  refine lv_iconst (v := 0) hx hb dX10_leastBelow_7 (by decide) ?_
  refine lv_istore_n (lv' := [(3, .int 0), (0, .ref (ad 158)), (1, .int a1), (2, .int a2)]) hx hb dX10_leastBelow_8 rfl hl (by decide) rfl (fun ls hl => ?_)
  exact L9 ((6 - (0 : Int)).toNat + 1) 0 H locs ls w49 (show 0 ≤ a1.toInt from ra1) (show a1.toInt ≤ 2 from ta1) (show 0 ≤ a2.toInt from ra2) (show a2.toInt ≤ 8191 from ta2) (by decide) (by decide) (Nat.lt_succ_self _) hw hT hF hM (lv_sub hl [1, 2, 3, 0] rfl)
abbrev Pz_X10_leastBelow_10 (ad : Nat → Nat) (cy : Nat → ClassId) (B : Int) (qr : Nat) (s1 : Int) (a1 : Int32) (a2 : Int32) (w0 : va_W) : Int32 → va_W → Prop := fun r u => TW ksC ad cy B qr s1 u ∧ FE ksC [(51, 0, 10)] w0 u ∧ Ev (fun n => m_X10_leastBelow n 158 a1.toInt a2.toInt (sI w0)) (r.toInt, sI u) ∧ ((0 ≤ r.toInt ∧ r.toInt ≤ 8191) ∨ (r = (-1) ∧ (∃ y : Int32, gi u 38 10 = y ∧ 1 ≤ y.toInt ∧ y.toInt ≤ 6)))
set_option maxHeartbeats 4000000 in
set_option maxRecDepth 100000 in
theorem kz_X10_leastBelow_10 (l : Launch) (adK adV : Nat → Nat) (dC : Nat → ClassId) (dI : Nat → Nat → Nat) (cy : Nat → ClassId) (ad : Nat → Nat) (B : Int) (hB0 : 2147483648 ≤ B) (hB1 : B ≤ 1152921504606846976) (qr : Nat) (s1 : Int)  (a1 : Int32) (ra1 : 0 ≤ a1.toInt) (ta1 : a1.toInt ≤ 3) (a2 : Int32) (ra2 : 0 ≤ a2.toInt) (ta2 : a2.toInt ≤ 8191) (w0 : va_W) (sz : Nat) (hT : TW ksC ad cy B qr s1 w0)  : Met l yX10_leastBelow (wu yX10_leastBelow cX10_leastBelow 4 (some .int)) ({ frames := 6, cells := 0, slots := 0, locals := 128 }) (va_Pc [.ref (ad 158), .int a1, .int a2] (wpreS adK adV dC dI cy sz w0)) (va_Qi (Pz_X10_leastBelow_10 ad cy B qr s1 a1 a2 w0) (fun u : va_W => wpost dC dI cy (va_A w0 sz) u) (va_A w0 sz)) 0 0 (va_A w0 sz) := by
  refine Met.ofW (cc := cX10_leastBelow) (maxL := 4) (ret := (some .int)) (by decide) rfl ?_
  intro p e s m args below meth c s₁ Bk hml hv
  obtain ⟨rfl, ⟨hsz, hP, hK, hD0⟩, hE, hSR⟩ := hv
  have hx := Bk.exec
  have hb := Bk.bytes
  have hr := Bk.returns
  have hlocks := Bk.notSynchronized
  have hC : CallFix p m c cX10_leastBelow 4 s _ (wu yX10_leastBelow cX10_leastBelow 4 (some .int)) RX10 := ⟨hx, hb, hml, findClass_of_methodNamed Bk.named, atoms_spec (ws := (wu yX10_leastBelow cX10_leastBelow 4 (some .int))) Bk.pre⟩
  subst hsz
  have hD := hD0.self (sz := s.heap.size)
  generalize hAe : va_A w0 s.heap.size = A at hD hE ⊢
  have hA : ∀ q : Nat, s.heap.size ≤ q → A q := fun q h => by rw [← hAe]; exact Or.inr h
  have hw : Wd dC dI A s.heap s.heap [] w0 := ⟨hP, hD, va_S.rf⟩
  have hF : FE ksC [(51, 0, 10)] w0 w0 := FE.rf
  have hl := lv_entry ([.ref (ad 158), .int a1, .int a2]) (n := 4) (Nat.le_of_ble_eq_true rfl)
  rw [lg_entry_eq]
  generalize (lg_sl ([.ref (ad 158), .int a1, .int a2]) ++ List.replicate (4 - (lg_sl ([.ref (ad 158), .int a1, .int a2])).length) Slot.unset).toArray = ls at hl ⊢
  have hl : lv_has ls 4 [(0, .ref (ad 158)), (1, .int a1), (2, .int a2)] := hl
  generalize hloc : ([] : List Loc) = locs at hw ⊢
  have hinX10 : ∀ w ∈ u_ws RX10 TX10 5, w ∈ (wu yX10_leastBelow cX10_leastBelow 4 (some .int)) := fun _ h => List.mem_cons_of_mem _ (up_81 h)
  have hinX5 : ∀ w ∈ u_ws RX5 TX5 14, w ∈ (wu yX10_leastBelow cX10_leastBelow 4 (some .int)) := fun _ h => List.mem_cons_of_mem _ (up_76 h)
  have L9 : ∀ (n9 : Nat) (v9_3 : Int32) (H : Heap) (locs : List Loc) (ls : Array Slot) (w1 : va_W), 0 ≤ a1.toInt → a1.toInt ≤ 3 → 0 ≤ a2.toInt → a2.toInt ≤ 8191 → 0 ≤ v9_3.toInt → v9_3.toInt ≤ 6 → (6 - v9_3.toInt).toNat < n9 → Wd dC dI A s.heap H locs w1 → TW ksC ad cy B qr s1 w1 → FE ksC [(51, 0, 10)] w0 w1 → TT (fun n => m_X10_leastBelow n 158 a1.toInt a2.toInt (sI w0)) (fun n => j_X10_leastBelow 158 n 1009 [a1.toInt, a2.toInt, v9_3.toInt] (sI w1)) → lv_has ls 4 [(0, .ref (ad 158)), (1, .int a1), (2, .int a2), (3, .int v9_3)] → W p l e ({ frames := 6, cells := 0, slots := 0, locals := 128 }) s m (List.toArray [.ref (ad 158), .int a1, .int a2]) below meth c H locs 0 0 (MQ below (va_Qi (Pz_X10_leastBelow_10 ad cy B qr s1 a1 a2 w0) (fun u : va_W => wpost dC dI cy A u) A) (List.toArray [.ref (ad 158), .int a1, .int a2]) s 0 0 A) (F0 m 9 ls []) := by
    intro n9
    induction n9 with
    | zero => intro v9_3 H locs ls w1 r2 t3 r4 t5 r6 t7 hm9 hw hT hF hM hl; omega
    | succ n9 ih9 =>
      intro v9_3 H locs ls w1 r2 t3 r4 t5 r6 t7 hm9 hw hT hF hM hl
      replace hM := hM.suc (fun _ => e_X10_leastBelow_9)
      refine lv_iload_n hx hb dX10_leastBelow_9 rfl (lv_at hl 3 rfl) ?_
      refine lv_aload_n hx hb dX10_leastBelow_10 rfl (lv_at hl 0 rfl) ?_
      refine tk_getA hC hK hw hT hinX10 kC_at158 (by decide) rfl 0 (by decide) (List.mem_cons_of_mem _ uw_6_6) rfl rfl dX10_leastBelow_11 ?_
      refine tk_geti hC hK hw hT hinX5 kC_at38 (by decide) rfl 10 (by decide) (List.mem_cons_of_mem _ uw_60_6) rfl rfl dX10_leastBelow_14 (fun x8 c9 rx8 tx8 => ?_)
      replace hM := hM.rd (sI_at c9)
      refine lv_icmp_ge (tgt := 36) hx hb dX10_leastBelow_17 (by decide) (fun c10 => ?_) (fun c10 => ?_)
      · have c10 : x8.toInt ≤ v9_3.toInt := wk_le.mp c10
        replace hM := hM.pos c10
        refine lv_iload_n hx hb dX10_leastBelow_36 rfl (lv_at hl 1 rfl) ?_
        refine lv_if_gt (tgt := 42) hx hb dX10_leastBelow_37 (by decide) (fun c11 => ?_) (fun c11 => ?_)
        · have c11 : (0 : Int) < a1.toInt := wk_lt.mp c11
          replace hM := hM.pos c11
          refine lv_aload_n hx hb dX10_leastBelow_42 rfl (lv_at hl 0 rfl) ?_
          refine lv_iload_n hx hb dX10_leastBelow_43 rfl (lv_at hl 1 rfl) ?_
          refine lv_iconst (v := 1) hx hb dX10_leastBelow_44 (by decide) ?_
          refine lv_isub hx hb dX10_leastBelow_45 ?_
          refine lv_topi (fun x12 ex12 => ?_)
          have ezx12 := ex12
          have ex12 : x12.toInt = a1.toInt - (1 : Int) := by rw [ex12]; exact wk_sub (show (-2147483648) ≤ a1.toInt - (1 : Int) by omega) (show a1.toInt - (1 : Int) ≤ 2147483647 by omega)
          replace hM := hM.lt ex12.symm
          refine lv_iload_n hx hb dX10_leastBelow_46 rfl (lv_at hl 2 rfl) ?_
          refine tk_Vi hC hK hw hT hA hE hSR kC_at158 (by decide) rfl (kz_X10_leastBelow_11 l adK adV dC dI cy ad B hB0 (Int.le_trans hB1 (by decide)) qr s1   x12 (show 0 ≤ x12.toInt by first | with_reducible assumption | omega) (show x12.toInt ≤ 2 by first | with_reducible assumption | omega) a2 (show 0 ≤ a2.toInt from r4) (show a2.toInt ≤ 8191 from t5) w1 H.size hT ) (cwV 2 hC.2.2.2.2 uV_RX10_72 rfl rfl rfl (by decide +kernel) ⟨Nat.le_of_ble_eq_true rfl, Nat.le_of_ble_eq_true rfl⟩) rfl hl.1 rfl (Nat.le_of_ble_eq_true rfl) dX10_leastBelow_47 (fun r13 w15 H locs hp14 hw => ?_)
          obtain ⟨hT, k16, hv22, hg21⟩ := hp14
          have hF := hF.tr k16 (by decide)
          have c23 := k16.gi kC_at38 (by decide) c9
          rcases hg21 with ⟨g17, g18⟩ | ⟨rfl, ⟨x19, c20, rx19, tx19⟩⟩
          · replace hM := hM.call hv22 rfl
            refine lv_istore_n (lv' := [(3, .int r13), (0, .ref (ad 158)), (1, .int a1), (2, .int a2)]) hx hb dX10_leastBelow_50 rfl hl (by decide) rfl (fun ls hl => ?_)
            refine lv_iload_n hx hb dX10_leastBelow_51 rfl (lv_at hl 0 rfl) ?_
            refine lv_iconst (v := (-1)) hx hb dX10_leastBelow_52 (by decide) ?_
            refine lv_icmp_eq (tgt := 60) hx hb dX10_leastBelow_53 (by decide) (fun c => absurd c (fun h => absurd (show r13.toInt = (-1 : Int) from wk_eq.mp h) (by omega))) (fun _ => ?_)
            replace hM := hM.neg (by omega)
            refine lv_iload_n hx hb dX10_leastBelow_56 rfl (lv_at hl 0 rfl) ?_
            refine lv_goto (tgt := 74) hx hb dX10_leastBelow_57 (by decide) ?_
            exact tk_iret hC hr hlocks hK ⟨hT, hF, hM.ret rfl, (Or.inl ⟨(show 0 ≤ r13.toInt by first | with_reducible assumption | omega), (show r13.toInt ≤ 8191 by first | with_reducible assumption | omega)⟩)⟩ hw dX10_leastBelow_74
          · replace hM := hM.call (r' := (-1)) hv22 (by decide)
            have ex19 : x19.toInt = x8.toInt := by rw [← c23.symm.trans c20]
            refine lv_istore_n (lv' := [(3, .int (-1)), (0, .ref (ad 158)), (1, .int a1), (2, .int a2)]) hx hb dX10_leastBelow_50 rfl hl (by decide) rfl (fun ls hl => ?_)
            refine lv_iload_n hx hb dX10_leastBelow_51 rfl (lv_at hl 0 rfl) ?_
            refine lv_iconst (v := (-1)) hx hb dX10_leastBelow_52 (by decide) ?_
            refine lv_icmp_eq (tgt := 60) hx hb dX10_leastBelow_53 (by decide) (fun _ => ?_) (fun c => absurd (by decide) c)
            replace hM := hM.pos (by decide)
            refine lv_aload_n hx hb dX10_leastBelow_60 rfl (lv_at hl 1 rfl) ?_
            refine lv_iload_n hx hb dX10_leastBelow_61 rfl (lv_at hl 2 rfl) ?_
            refine lv_iconst (v := 1) hx hb dX10_leastBelow_62 (by decide) ?_
            refine lv_isub hx hb dX10_leastBelow_63 ?_
            refine lv_topi (fun x24 ex24 => ?_)
            have ezx24 := ex24
            have ex24 : x24.toInt = a1.toInt - (1 : Int) := by rw [ex24]; exact wk_sub (show (-2147483648) ≤ a1.toInt - (1 : Int) by omega) (show a1.toInt - (1 : Int) ≤ 2147483647 by omega)
            replace hM := hM.lt ex24.symm
            refine lv_iload_n hx hb dX10_leastBelow_64 rfl (lv_at hl 3 rfl) ?_
            refine lv_iconst (v := 1) hx hb dX10_leastBelow_65 (by decide) ?_
            refine lv_iload_n hx hb dX10_leastBelow_66 rfl (lv_at hl 2 rfl) ?_
            refine lv_iconst (v := 1) hx hb dX10_leastBelow_67 (by decide) ?_
            refine lv_isub hx hb dX10_leastBelow_68 ?_
            refine lv_topi (fun x25 ex25 => ?_)
            have ezx25 := ex25
            have ex25 : x25.toInt = a1.toInt - (1 : Int) := by rw [ex25]; exact wk_sub (show (-2147483648) ≤ a1.toInt - (1 : Int) by omega) (show a1.toInt - (1 : Int) ≤ 2147483647 by omega)
            replace hM := hM.lt ex25.symm
            refine lv_ishl hx hb dX10_leastBelow_69 ?_
            refine lv_topi (fun x26 ex26 => ?_)
            have ezx26 := ex26
            have bx26 : 1 ≤ x26.toInt ∧ x26.toInt ≤ 4 := by rw [ex26]; exact wk_shl1 2 (by decide) (by omega) (by omega)
            replace hM := hM.lt (o32_e (f := fun x y => x <<< (y &&& 31)) ezx26 (by decide) rfl)
            refine lv_ior hx hb dX10_leastBelow_70 ?_
            refine lv_topi (fun x27 ex27 => ?_)
            have ezx27 := ex27
            have bx27 : 0 ≤ x27.toInt ∧ x27.toInt < 8192 := by rw [ex27]; exact wk_or 13 (by decide) (by omega) (by omega) (by omega) (by omega)
            have mx27 : a2.toInt ≤ x27.toInt ∧ x26.toInt ≤ x27.toInt := by rw [ex27]; exact wk_orL 13 (by decide) (by omega) (by omega) (by omega) (by omega)
            replace hM := hM.lt (o32_e (f := fun x y => x ||| y) ezx27 rfl rfl)
            refine tk_Vi hC hK hw hT hA hE hSR kC_at158 (by decide) rfl (kz_X10_leastBelow_11 l adK adV dC dI cy ad B hB0 (Int.le_trans hB1 (by decide)) qr s1   x24 (show 0 ≤ x24.toInt by first | with_reducible assumption | omega) (show x24.toInt ≤ 2 by first | with_reducible assumption | omega) x27 (show 0 ≤ x27.toInt by first | with_reducible assumption | omega) (show x27.toInt ≤ 8191 by first | with_reducible assumption | omega) w15 H.size hT ) (cwV 2 hC.2.2.2.2 uV_RX10_72 rfl rfl rfl (by decide +kernel) ⟨Nat.le_of_ble_eq_true rfl, Nat.le_of_ble_eq_true rfl⟩) rfl hl.1 rfl (Nat.le_of_ble_eq_true rfl) dX10_leastBelow_71 (fun r28 w30 H locs hp29 hw => ?_)
            obtain ⟨hT, k31, hv37, hg36⟩ := hp29
            have hF := hF.tr k31 (by decide)
            have c38 := k31.gi kC_at38 (by decide) c23
            rcases hg36 with ⟨g32, g33⟩ | ⟨rfl, ⟨x34, c35, rx34, tx34⟩⟩
            · replace hM := hM.call hv37 rfl
              exact tk_iret hC hr hlocks hK ⟨hT, hF, hM.ret rfl, (Or.inl ⟨(show 0 ≤ r28.toInt by first | with_reducible assumption | omega), (show r28.toInt ≤ 8191 by first | with_reducible assumption | omega)⟩)⟩ hw dX10_leastBelow_74
            · replace hM := hM.call (r' := (-1)) hv37 (by decide)
              have ex34 : x34.toInt = x8.toInt := by rw [← c38.symm.trans c35]
              exact tk_iret hC hr hlocks hK ⟨hT, hF, hM.ret (by decide), (Or.inr ⟨rfl, ⟨x8, c38, (show 1 ≤ x8.toInt by first | with_reducible assumption | omega), (show x8.toInt ≤ 6 from tx8)⟩⟩)⟩ hw dX10_leastBelow_74
        · have c11 : a1.toInt ≤ (0 : Int) := wk_ltF c11
          replace hM := hM.neg (Int.not_lt.mpr c11)
          refine lv_iload_n hx hb dX10_leastBelow_40 rfl (lv_at hl 2 rfl) ?_
          exact tk_iret hC hr hlocks hK ⟨hT, hF, hM.ret rfl, (Or.inl ⟨(show 0 ≤ a2.toInt from r4), (show a2.toInt ≤ 8191 from t5)⟩)⟩ hw dX10_leastBelow_41
      · have c10 : v9_3.toInt < x8.toInt := wk_leF c10
        replace hM := hM.neg (Int.not_le.mpr c10)
        refine lv_aload_n hx hb dX10_leastBelow_20 rfl (lv_at hl 0 rfl) ?_
        refine lv_iload_n hx hb dX10_leastBelow_21 rfl (lv_at hl 3 rfl) ?_
        refine tk_Vi hC hK hw hT hA hE hSR kC_at158 (by decide) rfl (kz_X10_canDo_1 l adK adV dC dI cy ad B hB0 (Int.le_trans hB1 (by decide)) qr s1   v9_3 (show 0 ≤ v9_3.toInt from r6) (show v9_3.toInt ≤ 5 by first | with_reducible assumption | omega) w1 H.size hT ) (cwV 1 hC.2.2.2.2 uV_RX10_49 rfl rfl rfl (by decide +kernel) ⟨Nat.le_of_ble_eq_true rfl, Nat.le_of_ble_eq_true rfl⟩) rfl hl.1 rfl (Nat.le_of_ble_eq_true rfl) dX10_leastBelow_22 (fun r39 w41 H locs hp40 hw => ?_)
        obtain ⟨hT, k42, hv44, hg43⟩ := hp40
        have hF := hF.tr k42 (by decide)
        have c45 := k42.gi kC_at38 (by decide) c9
        rcases hg43 with rfl | rfl
        · replace hM := hM.call (r' := 0) hv44 (by decide)
          refine lv_if_ne (tgt := 30) hx hb dX10_leastBelow_25 (by decide) (fun c => absurd (by decide) c) (fun _ => ?_)
          replace hM := hM.neg (by decide)
          refine lv_iconst (v := (-1)) hx hb dX10_leastBelow_28 (by decide) ?_
          exact tk_iret hC hr hlocks hK ⟨hT, hF, hM.ret (by decide), (Or.inr ⟨rfl, ⟨x8, c45, (show 1 ≤ x8.toInt by first | with_reducible assumption | omega), (show x8.toInt ≤ 6 from tx8)⟩⟩)⟩ hw dX10_leastBelow_29
        · replace hM := hM.call (r' := 1) hv44 (by decide)
          refine lv_if_ne (tgt := 30) hx hb dX10_leastBelow_25 (by decide) (fun _ => ?_) (fun c => absurd c (by decide))
          replace hM := hM.pos (by decide)
          obtain ⟨x46, ex46⟩ : ∃ y : Int32, y = v9_3 + Int32.ofInt 1 := ⟨_, rfl⟩
          have erx46 := ex46
          refine lv_iinc (v := x46) (lv' := [(3, .int x46), (0, .ref (ad 158)), (1, .int a1), (2, .int a2)]) hx hb dX10_leastBelow_30 hl (k := 3) rfl ex46.symm (by decide) rfl (fun ls hl => ?_)
          have ex46 : x46.toInt = v9_3.toInt + 1 := by rw [ex46]; exact wk_add (y := 1) (show -2147483648 ≤ v9_3.toInt + 1 by omega) (show v9_3.toInt + 1 ≤ 2147483647 by omega)
          replace hM := hM.lt ex46.symm
          refine lv_goto (tgt := 9) hx hb dX10_leastBelow_33 (by decide) ?_
          exact ih9 x46 H locs ls w41 (show 0 ≤ a1.toInt from r2) (show a1.toInt ≤ 3 from t3) (show 0 ≤ a2.toInt from r4) (show a2.toInt ≤ 8191 from t5) (show 0 ≤ x46.toInt by first | with_reducible assumption | omega) (show x46.toInt ≤ 6 by first | with_reducible assumption | omega) (show (6 - x46.toInt).toNat < n9 by first | exact tn_lt hm9 (by omega) (by omega) | omega) hw hT hF hM (lv_sub hl [1, 2, 3, 0] rfl)
  have hM : TT (fun n => m_X10_leastBelow n 158 a1.toInt a2.toInt (sI w0)) (fun n => j_X10_leastBelow 158 n 1000 [a1.toInt, a2.toInt] (sI w0)) := TT.rf
  replace hM := hM.suc (fun _ => e_X10_leastBelow_e)
  refine lv_aload_n hx hb dX10_leastBelow_0 rfl (lv_at hl 0 rfl) ?_
  refine lv_iload_n hx hb dX10_leastBelow_1 rfl (lv_at hl 1 rfl) ?_
  refine lv_iload_n hx hb dX10_leastBelow_2 rfl (lv_at hl 2 rfl) ?_
  refine lv_iconst (v := (-1)) hx hb dX10_leastBelow_3 (by decide) ?_
  refine tk_Vv hC hK hw hT hA hE hSR kC_at158 (by decide) rfl (kz_X10_layRoads_1 l adK adV dC dI cy ad B hB0 (Int.le_trans hB1 (by decide)) qr s1   a1 (show 0 ≤ a1.toInt from ra1) (show a1.toInt ≤ 12 from Int.le_trans ta1 (by decide)) a2 (show 0 ≤ a2.toInt from ra2) (show a2.toInt ≤ 8191 from ta2) ((-1)) (by decide) (by decide) w0 s.heap.size hT ) (cwV 3 hC.2.2.2.2 uV_RX10_42 rfl rfl rfl (by decide +kernel) ⟨Nat.le_of_ble_eq_true rfl, Nat.le_of_ble_eq_true rfl⟩) rfl hl.1 rfl (Nat.le_of_ble_eq_true rfl) dX10_leastBelow_4 (fun w49 H locs hp48 hw => ?_)
  obtain ⟨hT, k50, hv52, hg51⟩ := hp48
  try simp only [show ((-1) : Int32).toInt = (-1) by decide] at hv52
  have hF := hF.tr k50 (by decide)
  clear hg51
  replace hM := hM.call hv52 rfl
  refine lv_iconst (v := 0) hx hb dX10_leastBelow_7 (by decide) ?_
  refine lv_istore_n (lv' := [(3, .int 0), (0, .ref (ad 158)), (1, .int a1), (2, .int a2)]) hx hb dX10_leastBelow_8 rfl hl (by decide) rfl (fun ls hl => ?_)
  exact L9 ((6 - (0 : Int)).toNat + 1) 0 H locs ls w49 (show 0 ≤ a1.toInt from ra1) (show a1.toInt ≤ 3 from ta1) (show 0 ≤ a2.toInt from ra2) (show a2.toInt ≤ 8191 from ta2) (by decide) (by decide) (Nat.lt_succ_self _) hw hT hF hM (lv_sub hl [1, 2, 3, 0] rfl)
abbrev Pz_X10_leastBelow_9 (ad : Nat → Nat) (cy : Nat → ClassId) (B : Int) (qr : Nat) (s1 : Int) (a1 : Int32) (a2 : Int32) (w0 : va_W) : Int32 → va_W → Prop := fun r u => TW ksC ad cy B qr s1 u ∧ FE ksC [(51, 0, 10)] w0 u ∧ Ev (fun n => m_X10_leastBelow n 158 a1.toInt a2.toInt (sI w0)) (r.toInt, sI u) ∧ ((0 ≤ r.toInt ∧ r.toInt ≤ 8191) ∨ (r = (-1) ∧ (∃ y : Int32, gi u 38 10 = y ∧ 1 ≤ y.toInt ∧ y.toInt ≤ 6)))
set_option maxHeartbeats 4000000 in
set_option maxRecDepth 100000 in
theorem kz_X10_leastBelow_9 (l : Launch) (adK adV : Nat → Nat) (dC : Nat → ClassId) (dI : Nat → Nat → Nat) (cy : Nat → ClassId) (ad : Nat → Nat) (B : Int) (hB0 : 2147483648 ≤ B) (hB1 : B ≤ 1152921504606846976) (qr : Nat) (s1 : Int)  (a1 : Int32) (ra1 : 0 ≤ a1.toInt) (ta1 : a1.toInt ≤ 4) (a2 : Int32) (ra2 : 0 ≤ a2.toInt) (ta2 : a2.toInt ≤ 8191) (w0 : va_W) (sz : Nat) (hT : TW ksC ad cy B qr s1 w0)  : Met l yX10_leastBelow (wu yX10_leastBelow cX10_leastBelow 4 (some .int)) ({ frames := 7, cells := 0, slots := 0, locals := 151 }) (va_Pc [.ref (ad 158), .int a1, .int a2] (wpreS adK adV dC dI cy sz w0)) (va_Qi (Pz_X10_leastBelow_9 ad cy B qr s1 a1 a2 w0) (fun u : va_W => wpost dC dI cy (va_A w0 sz) u) (va_A w0 sz)) 0 0 (va_A w0 sz) := by
  refine Met.ofW (cc := cX10_leastBelow) (maxL := 4) (ret := (some .int)) (by decide) rfl ?_
  intro p e s m args below meth c s₁ Bk hml hv
  obtain ⟨rfl, ⟨hsz, hP, hK, hD0⟩, hE, hSR⟩ := hv
  have hx := Bk.exec
  have hb := Bk.bytes
  have hr := Bk.returns
  have hlocks := Bk.notSynchronized
  have hC : CallFix p m c cX10_leastBelow 4 s _ (wu yX10_leastBelow cX10_leastBelow 4 (some .int)) RX10 := ⟨hx, hb, hml, findClass_of_methodNamed Bk.named, atoms_spec (ws := (wu yX10_leastBelow cX10_leastBelow 4 (some .int))) Bk.pre⟩
  subst hsz
  have hD := hD0.self (sz := s.heap.size)
  generalize hAe : va_A w0 s.heap.size = A at hD hE ⊢
  have hA : ∀ q : Nat, s.heap.size ≤ q → A q := fun q h => by rw [← hAe]; exact Or.inr h
  have hw : Wd dC dI A s.heap s.heap [] w0 := ⟨hP, hD, va_S.rf⟩
  have hF : FE ksC [(51, 0, 10)] w0 w0 := FE.rf
  have hl := lv_entry ([.ref (ad 158), .int a1, .int a2]) (n := 4) (Nat.le_of_ble_eq_true rfl)
  rw [lg_entry_eq]
  generalize (lg_sl ([.ref (ad 158), .int a1, .int a2]) ++ List.replicate (4 - (lg_sl ([.ref (ad 158), .int a1, .int a2])).length) Slot.unset).toArray = ls at hl ⊢
  have hl : lv_has ls 4 [(0, .ref (ad 158)), (1, .int a1), (2, .int a2)] := hl
  generalize hloc : ([] : List Loc) = locs at hw ⊢
  have hinX10 : ∀ w ∈ u_ws RX10 TX10 5, w ∈ (wu yX10_leastBelow cX10_leastBelow 4 (some .int)) := fun _ h => List.mem_cons_of_mem _ (up_81 h)
  have hinX5 : ∀ w ∈ u_ws RX5 TX5 14, w ∈ (wu yX10_leastBelow cX10_leastBelow 4 (some .int)) := fun _ h => List.mem_cons_of_mem _ (up_76 h)
  have L9 : ∀ (n9 : Nat) (v9_3 : Int32) (H : Heap) (locs : List Loc) (ls : Array Slot) (w1 : va_W), 0 ≤ a1.toInt → a1.toInt ≤ 4 → 0 ≤ a2.toInt → a2.toInt ≤ 8191 → 0 ≤ v9_3.toInt → v9_3.toInt ≤ 6 → (6 - v9_3.toInt).toNat < n9 → Wd dC dI A s.heap H locs w1 → TW ksC ad cy B qr s1 w1 → FE ksC [(51, 0, 10)] w0 w1 → TT (fun n => m_X10_leastBelow n 158 a1.toInt a2.toInt (sI w0)) (fun n => j_X10_leastBelow 158 n 1009 [a1.toInt, a2.toInt, v9_3.toInt] (sI w1)) → lv_has ls 4 [(0, .ref (ad 158)), (1, .int a1), (2, .int a2), (3, .int v9_3)] → W p l e ({ frames := 7, cells := 0, slots := 0, locals := 151 }) s m (List.toArray [.ref (ad 158), .int a1, .int a2]) below meth c H locs 0 0 (MQ below (va_Qi (Pz_X10_leastBelow_9 ad cy B qr s1 a1 a2 w0) (fun u : va_W => wpost dC dI cy A u) A) (List.toArray [.ref (ad 158), .int a1, .int a2]) s 0 0 A) (F0 m 9 ls []) := by
    intro n9
    induction n9 with
    | zero => intro v9_3 H locs ls w1 r2 t3 r4 t5 r6 t7 hm9 hw hT hF hM hl; omega
    | succ n9 ih9 =>
      intro v9_3 H locs ls w1 r2 t3 r4 t5 r6 t7 hm9 hw hT hF hM hl
      replace hM := hM.suc (fun _ => e_X10_leastBelow_9)
      refine lv_iload_n hx hb dX10_leastBelow_9 rfl (lv_at hl 3 rfl) ?_
      refine lv_aload_n hx hb dX10_leastBelow_10 rfl (lv_at hl 0 rfl) ?_
      refine tk_getA hC hK hw hT hinX10 kC_at158 (by decide) rfl 0 (by decide) (List.mem_cons_of_mem _ uw_6_6) rfl rfl dX10_leastBelow_11 ?_
      refine tk_geti hC hK hw hT hinX5 kC_at38 (by decide) rfl 10 (by decide) (List.mem_cons_of_mem _ uw_60_6) rfl rfl dX10_leastBelow_14 (fun x8 c9 rx8 tx8 => ?_)
      replace hM := hM.rd (sI_at c9)
      refine lv_icmp_ge (tgt := 36) hx hb dX10_leastBelow_17 (by decide) (fun c10 => ?_) (fun c10 => ?_)
      · have c10 : x8.toInt ≤ v9_3.toInt := wk_le.mp c10
        replace hM := hM.pos c10
        refine lv_iload_n hx hb dX10_leastBelow_36 rfl (lv_at hl 1 rfl) ?_
        refine lv_if_gt (tgt := 42) hx hb dX10_leastBelow_37 (by decide) (fun c11 => ?_) (fun c11 => ?_)
        · have c11 : (0 : Int) < a1.toInt := wk_lt.mp c11
          replace hM := hM.pos c11
          refine lv_aload_n hx hb dX10_leastBelow_42 rfl (lv_at hl 0 rfl) ?_
          refine lv_iload_n hx hb dX10_leastBelow_43 rfl (lv_at hl 1 rfl) ?_
          refine lv_iconst (v := 1) hx hb dX10_leastBelow_44 (by decide) ?_
          refine lv_isub hx hb dX10_leastBelow_45 ?_
          refine lv_topi (fun x12 ex12 => ?_)
          have ezx12 := ex12
          have ex12 : x12.toInt = a1.toInt - (1 : Int) := by rw [ex12]; exact wk_sub (show (-2147483648) ≤ a1.toInt - (1 : Int) by omega) (show a1.toInt - (1 : Int) ≤ 2147483647 by omega)
          replace hM := hM.lt ex12.symm
          refine lv_iload_n hx hb dX10_leastBelow_46 rfl (lv_at hl 2 rfl) ?_
          refine tk_Vi hC hK hw hT hA hE hSR kC_at158 (by decide) rfl (kz_X10_leastBelow_10 l adK adV dC dI cy ad B hB0 (Int.le_trans hB1 (by decide)) qr s1   x12 (show 0 ≤ x12.toInt by first | with_reducible assumption | omega) (show x12.toInt ≤ 3 by first | with_reducible assumption | omega) a2 (show 0 ≤ a2.toInt from r4) (show a2.toInt ≤ 8191 from t5) w1 H.size hT ) (cwV 2 hC.2.2.2.2 uV_RX10_72 rfl rfl rfl (by decide +kernel) ⟨Nat.le_of_ble_eq_true rfl, Nat.le_of_ble_eq_true rfl⟩) rfl hl.1 rfl (Nat.le_of_ble_eq_true rfl) dX10_leastBelow_47 (fun r13 w15 H locs hp14 hw => ?_)
          obtain ⟨hT, k16, hv22, hg21⟩ := hp14
          have hF := hF.tr k16 (by decide)
          have c23 := k16.gi kC_at38 (by decide) c9
          rcases hg21 with ⟨g17, g18⟩ | ⟨rfl, ⟨x19, c20, rx19, tx19⟩⟩
          · replace hM := hM.call hv22 rfl
            refine lv_istore_n (lv' := [(3, .int r13), (0, .ref (ad 158)), (1, .int a1), (2, .int a2)]) hx hb dX10_leastBelow_50 rfl hl (by decide) rfl (fun ls hl => ?_)
            refine lv_iload_n hx hb dX10_leastBelow_51 rfl (lv_at hl 0 rfl) ?_
            refine lv_iconst (v := (-1)) hx hb dX10_leastBelow_52 (by decide) ?_
            refine lv_icmp_eq (tgt := 60) hx hb dX10_leastBelow_53 (by decide) (fun c => absurd c (fun h => absurd (show r13.toInt = (-1 : Int) from wk_eq.mp h) (by omega))) (fun _ => ?_)
            replace hM := hM.neg (by omega)
            refine lv_iload_n hx hb dX10_leastBelow_56 rfl (lv_at hl 0 rfl) ?_
            refine lv_goto (tgt := 74) hx hb dX10_leastBelow_57 (by decide) ?_
            exact tk_iret hC hr hlocks hK ⟨hT, hF, hM.ret rfl, (Or.inl ⟨(show 0 ≤ r13.toInt by first | with_reducible assumption | omega), (show r13.toInt ≤ 8191 by first | with_reducible assumption | omega)⟩)⟩ hw dX10_leastBelow_74
          · replace hM := hM.call (r' := (-1)) hv22 (by decide)
            have ex19 : x19.toInt = x8.toInt := by rw [← c23.symm.trans c20]
            refine lv_istore_n (lv' := [(3, .int (-1)), (0, .ref (ad 158)), (1, .int a1), (2, .int a2)]) hx hb dX10_leastBelow_50 rfl hl (by decide) rfl (fun ls hl => ?_)
            refine lv_iload_n hx hb dX10_leastBelow_51 rfl (lv_at hl 0 rfl) ?_
            refine lv_iconst (v := (-1)) hx hb dX10_leastBelow_52 (by decide) ?_
            refine lv_icmp_eq (tgt := 60) hx hb dX10_leastBelow_53 (by decide) (fun _ => ?_) (fun c => absurd (by decide) c)
            replace hM := hM.pos (by decide)
            refine lv_aload_n hx hb dX10_leastBelow_60 rfl (lv_at hl 1 rfl) ?_
            refine lv_iload_n hx hb dX10_leastBelow_61 rfl (lv_at hl 2 rfl) ?_
            refine lv_iconst (v := 1) hx hb dX10_leastBelow_62 (by decide) ?_
            refine lv_isub hx hb dX10_leastBelow_63 ?_
            refine lv_topi (fun x24 ex24 => ?_)
            have ezx24 := ex24
            have ex24 : x24.toInt = a1.toInt - (1 : Int) := by rw [ex24]; exact wk_sub (show (-2147483648) ≤ a1.toInt - (1 : Int) by omega) (show a1.toInt - (1 : Int) ≤ 2147483647 by omega)
            replace hM := hM.lt ex24.symm
            refine lv_iload_n hx hb dX10_leastBelow_64 rfl (lv_at hl 3 rfl) ?_
            refine lv_iconst (v := 1) hx hb dX10_leastBelow_65 (by decide) ?_
            refine lv_iload_n hx hb dX10_leastBelow_66 rfl (lv_at hl 2 rfl) ?_
            refine lv_iconst (v := 1) hx hb dX10_leastBelow_67 (by decide) ?_
            refine lv_isub hx hb dX10_leastBelow_68 ?_
            refine lv_topi (fun x25 ex25 => ?_)
            have ezx25 := ex25
            have ex25 : x25.toInt = a1.toInt - (1 : Int) := by rw [ex25]; exact wk_sub (show (-2147483648) ≤ a1.toInt - (1 : Int) by omega) (show a1.toInt - (1 : Int) ≤ 2147483647 by omega)
            replace hM := hM.lt ex25.symm
            refine lv_ishl hx hb dX10_leastBelow_69 ?_
            refine lv_topi (fun x26 ex26 => ?_)
            have ezx26 := ex26
            have bx26 : 1 ≤ x26.toInt ∧ x26.toInt ≤ 8 := by rw [ex26]; exact wk_shl1 3 (by decide) (by omega) (by omega)
            replace hM := hM.lt (o32_e (f := fun x y => x <<< (y &&& 31)) ezx26 (by decide) rfl)
            refine lv_ior hx hb dX10_leastBelow_70 ?_
            refine lv_topi (fun x27 ex27 => ?_)
            have ezx27 := ex27
            have bx27 : 0 ≤ x27.toInt ∧ x27.toInt < 8192 := by rw [ex27]; exact wk_or 13 (by decide) (by omega) (by omega) (by omega) (by omega)
            have mx27 : a2.toInt ≤ x27.toInt ∧ x26.toInt ≤ x27.toInt := by rw [ex27]; exact wk_orL 13 (by decide) (by omega) (by omega) (by omega) (by omega)
            replace hM := hM.lt (o32_e (f := fun x y => x ||| y) ezx27 rfl rfl)
            refine tk_Vi hC hK hw hT hA hE hSR kC_at158 (by decide) rfl (kz_X10_leastBelow_10 l adK adV dC dI cy ad B hB0 (Int.le_trans hB1 (by decide)) qr s1   x24 (show 0 ≤ x24.toInt by first | with_reducible assumption | omega) (show x24.toInt ≤ 3 by first | with_reducible assumption | omega) x27 (show 0 ≤ x27.toInt by first | with_reducible assumption | omega) (show x27.toInt ≤ 8191 by first | with_reducible assumption | omega) w15 H.size hT ) (cwV 2 hC.2.2.2.2 uV_RX10_72 rfl rfl rfl (by decide +kernel) ⟨Nat.le_of_ble_eq_true rfl, Nat.le_of_ble_eq_true rfl⟩) rfl hl.1 rfl (Nat.le_of_ble_eq_true rfl) dX10_leastBelow_71 (fun r28 w30 H locs hp29 hw => ?_)
            obtain ⟨hT, k31, hv37, hg36⟩ := hp29
            have hF := hF.tr k31 (by decide)
            have c38 := k31.gi kC_at38 (by decide) c23
            rcases hg36 with ⟨g32, g33⟩ | ⟨rfl, ⟨x34, c35, rx34, tx34⟩⟩
            · replace hM := hM.call hv37 rfl
              exact tk_iret hC hr hlocks hK ⟨hT, hF, hM.ret rfl, (Or.inl ⟨(show 0 ≤ r28.toInt by first | with_reducible assumption | omega), (show r28.toInt ≤ 8191 by first | with_reducible assumption | omega)⟩)⟩ hw dX10_leastBelow_74
            · replace hM := hM.call (r' := (-1)) hv37 (by decide)
              have ex34 : x34.toInt = x8.toInt := by rw [← c38.symm.trans c35]
              exact tk_iret hC hr hlocks hK ⟨hT, hF, hM.ret (by decide), (Or.inr ⟨rfl, ⟨x8, c38, (show 1 ≤ x8.toInt by first | with_reducible assumption | omega), (show x8.toInt ≤ 6 from tx8)⟩⟩)⟩ hw dX10_leastBelow_74
        · have c11 : a1.toInt ≤ (0 : Int) := wk_ltF c11
          replace hM := hM.neg (Int.not_lt.mpr c11)
          refine lv_iload_n hx hb dX10_leastBelow_40 rfl (lv_at hl 2 rfl) ?_
          exact tk_iret hC hr hlocks hK ⟨hT, hF, hM.ret rfl, (Or.inl ⟨(show 0 ≤ a2.toInt from r4), (show a2.toInt ≤ 8191 from t5)⟩)⟩ hw dX10_leastBelow_41
      · have c10 : v9_3.toInt < x8.toInt := wk_leF c10
        replace hM := hM.neg (Int.not_le.mpr c10)
        refine lv_aload_n hx hb dX10_leastBelow_20 rfl (lv_at hl 0 rfl) ?_
        refine lv_iload_n hx hb dX10_leastBelow_21 rfl (lv_at hl 3 rfl) ?_
        refine tk_Vi hC hK hw hT hA hE hSR kC_at158 (by decide) rfl (kz_X10_canDo_1 l adK adV dC dI cy ad B hB0 (Int.le_trans hB1 (by decide)) qr s1   v9_3 (show 0 ≤ v9_3.toInt from r6) (show v9_3.toInt ≤ 5 by first | with_reducible assumption | omega) w1 H.size hT ) (cwV 1 hC.2.2.2.2 uV_RX10_49 rfl rfl rfl (by decide +kernel) ⟨Nat.le_of_ble_eq_true rfl, Nat.le_of_ble_eq_true rfl⟩) rfl hl.1 rfl (Nat.le_of_ble_eq_true rfl) dX10_leastBelow_22 (fun r39 w41 H locs hp40 hw => ?_)
        obtain ⟨hT, k42, hv44, hg43⟩ := hp40
        have hF := hF.tr k42 (by decide)
        have c45 := k42.gi kC_at38 (by decide) c9
        rcases hg43 with rfl | rfl
        · replace hM := hM.call (r' := 0) hv44 (by decide)
          refine lv_if_ne (tgt := 30) hx hb dX10_leastBelow_25 (by decide) (fun c => absurd (by decide) c) (fun _ => ?_)
          replace hM := hM.neg (by decide)
          refine lv_iconst (v := (-1)) hx hb dX10_leastBelow_28 (by decide) ?_
          exact tk_iret hC hr hlocks hK ⟨hT, hF, hM.ret (by decide), (Or.inr ⟨rfl, ⟨x8, c45, (show 1 ≤ x8.toInt by first | with_reducible assumption | omega), (show x8.toInt ≤ 6 from tx8)⟩⟩)⟩ hw dX10_leastBelow_29
        · replace hM := hM.call (r' := 1) hv44 (by decide)
          refine lv_if_ne (tgt := 30) hx hb dX10_leastBelow_25 (by decide) (fun _ => ?_) (fun c => absurd c (by decide))
          replace hM := hM.pos (by decide)
          obtain ⟨x46, ex46⟩ : ∃ y : Int32, y = v9_3 + Int32.ofInt 1 := ⟨_, rfl⟩
          have erx46 := ex46
          refine lv_iinc (v := x46) (lv' := [(3, .int x46), (0, .ref (ad 158)), (1, .int a1), (2, .int a2)]) hx hb dX10_leastBelow_30 hl (k := 3) rfl ex46.symm (by decide) rfl (fun ls hl => ?_)
          have ex46 : x46.toInt = v9_3.toInt + 1 := by rw [ex46]; exact wk_add (y := 1) (show -2147483648 ≤ v9_3.toInt + 1 by omega) (show v9_3.toInt + 1 ≤ 2147483647 by omega)
          replace hM := hM.lt ex46.symm
          refine lv_goto (tgt := 9) hx hb dX10_leastBelow_33 (by decide) ?_
          exact ih9 x46 H locs ls w41 (show 0 ≤ a1.toInt from r2) (show a1.toInt ≤ 4 from t3) (show 0 ≤ a2.toInt from r4) (show a2.toInt ≤ 8191 from t5) (show 0 ≤ x46.toInt by first | with_reducible assumption | omega) (show x46.toInt ≤ 6 by first | with_reducible assumption | omega) (show (6 - x46.toInt).toNat < n9 by first | exact tn_lt hm9 (by omega) (by omega) | omega) hw hT hF hM (lv_sub hl [1, 2, 3, 0] rfl)
  have hM : TT (fun n => m_X10_leastBelow n 158 a1.toInt a2.toInt (sI w0)) (fun n => j_X10_leastBelow 158 n 1000 [a1.toInt, a2.toInt] (sI w0)) := TT.rf
  replace hM := hM.suc (fun _ => e_X10_leastBelow_e)
  refine lv_aload_n hx hb dX10_leastBelow_0 rfl (lv_at hl 0 rfl) ?_
  refine lv_iload_n hx hb dX10_leastBelow_1 rfl (lv_at hl 1 rfl) ?_
  refine lv_iload_n hx hb dX10_leastBelow_2 rfl (lv_at hl 2 rfl) ?_
  refine lv_iconst (v := (-1)) hx hb dX10_leastBelow_3 (by decide) ?_
  refine tk_Vv hC hK hw hT hA hE hSR kC_at158 (by decide) rfl (kz_X10_layRoads_1 l adK adV dC dI cy ad B hB0 (Int.le_trans hB1 (by decide)) qr s1   a1 (show 0 ≤ a1.toInt from ra1) (show a1.toInt ≤ 12 from Int.le_trans ta1 (by decide)) a2 (show 0 ≤ a2.toInt from ra2) (show a2.toInt ≤ 8191 from ta2) ((-1)) (by decide) (by decide) w0 s.heap.size hT ) (cwV 3 hC.2.2.2.2 uV_RX10_42 rfl rfl rfl (by decide +kernel) ⟨Nat.le_of_ble_eq_true rfl, Nat.le_of_ble_eq_true rfl⟩) rfl hl.1 rfl (Nat.le_of_ble_eq_true rfl) dX10_leastBelow_4 (fun w49 H locs hp48 hw => ?_)
  obtain ⟨hT, k50, hv52, hg51⟩ := hp48
  try simp only [show ((-1) : Int32).toInt = (-1) by decide] at hv52
  have hF := hF.tr k50 (by decide)
  clear hg51
  replace hM := hM.call hv52 rfl
  refine lv_iconst (v := 0) hx hb dX10_leastBelow_7 (by decide) ?_
  refine lv_istore_n (lv' := [(3, .int 0), (0, .ref (ad 158)), (1, .int a1), (2, .int a2)]) hx hb dX10_leastBelow_8 rfl hl (by decide) rfl (fun ls hl => ?_)
  exact L9 ((6 - (0 : Int)).toNat + 1) 0 H locs ls w49 (show 0 ≤ a1.toInt from ra1) (show a1.toInt ≤ 4 from ta1) (show 0 ≤ a2.toInt from ra2) (show a2.toInt ≤ 8191 from ta2) (by decide) (by decide) (Nat.lt_succ_self _) hw hT hF hM (lv_sub hl [1, 2, 3, 0] rfl)
abbrev Pz_X10_leastBelow_8 (ad : Nat → Nat) (cy : Nat → ClassId) (B : Int) (qr : Nat) (s1 : Int) (a1 : Int32) (a2 : Int32) (w0 : va_W) : Int32 → va_W → Prop := fun r u => TW ksC ad cy B qr s1 u ∧ FE ksC [(51, 0, 10)] w0 u ∧ Ev (fun n => m_X10_leastBelow n 158 a1.toInt a2.toInt (sI w0)) (r.toInt, sI u) ∧ ((0 ≤ r.toInt ∧ r.toInt ≤ 8191) ∨ (r = (-1) ∧ (∃ y : Int32, gi u 38 10 = y ∧ 1 ≤ y.toInt ∧ y.toInt ≤ 6)))
set_option maxHeartbeats 4000000 in
set_option maxRecDepth 100000 in
theorem kz_X10_leastBelow_8 (l : Launch) (adK adV : Nat → Nat) (dC : Nat → ClassId) (dI : Nat → Nat → Nat) (cy : Nat → ClassId) (ad : Nat → Nat) (B : Int) (hB0 : 2147483648 ≤ B) (hB1 : B ≤ 1152921504606846976) (qr : Nat) (s1 : Int)  (a1 : Int32) (ra1 : 0 ≤ a1.toInt) (ta1 : a1.toInt ≤ 5) (a2 : Int32) (ra2 : 0 ≤ a2.toInt) (ta2 : a2.toInt ≤ 8191) (w0 : va_W) (sz : Nat) (hT : TW ksC ad cy B qr s1 w0)  : Met l yX10_leastBelow (wu yX10_leastBelow cX10_leastBelow 4 (some .int)) ({ frames := 8, cells := 0, slots := 0, locals := 174 }) (va_Pc [.ref (ad 158), .int a1, .int a2] (wpreS adK adV dC dI cy sz w0)) (va_Qi (Pz_X10_leastBelow_8 ad cy B qr s1 a1 a2 w0) (fun u : va_W => wpost dC dI cy (va_A w0 sz) u) (va_A w0 sz)) 0 0 (va_A w0 sz) := by
  refine Met.ofW (cc := cX10_leastBelow) (maxL := 4) (ret := (some .int)) (by decide) rfl ?_
  intro p e s m args below meth c s₁ Bk hml hv
  obtain ⟨rfl, ⟨hsz, hP, hK, hD0⟩, hE, hSR⟩ := hv
  have hx := Bk.exec
  have hb := Bk.bytes
  have hr := Bk.returns
  have hlocks := Bk.notSynchronized
  have hC : CallFix p m c cX10_leastBelow 4 s _ (wu yX10_leastBelow cX10_leastBelow 4 (some .int)) RX10 := ⟨hx, hb, hml, findClass_of_methodNamed Bk.named, atoms_spec (ws := (wu yX10_leastBelow cX10_leastBelow 4 (some .int))) Bk.pre⟩
  subst hsz
  have hD := hD0.self (sz := s.heap.size)
  generalize hAe : va_A w0 s.heap.size = A at hD hE ⊢
  have hA : ∀ q : Nat, s.heap.size ≤ q → A q := fun q h => by rw [← hAe]; exact Or.inr h
  have hw : Wd dC dI A s.heap s.heap [] w0 := ⟨hP, hD, va_S.rf⟩
  have hF : FE ksC [(51, 0, 10)] w0 w0 := FE.rf
  have hl := lv_entry ([.ref (ad 158), .int a1, .int a2]) (n := 4) (Nat.le_of_ble_eq_true rfl)
  rw [lg_entry_eq]
  generalize (lg_sl ([.ref (ad 158), .int a1, .int a2]) ++ List.replicate (4 - (lg_sl ([.ref (ad 158), .int a1, .int a2])).length) Slot.unset).toArray = ls at hl ⊢
  have hl : lv_has ls 4 [(0, .ref (ad 158)), (1, .int a1), (2, .int a2)] := hl
  generalize hloc : ([] : List Loc) = locs at hw ⊢
  have hinX10 : ∀ w ∈ u_ws RX10 TX10 5, w ∈ (wu yX10_leastBelow cX10_leastBelow 4 (some .int)) := fun _ h => List.mem_cons_of_mem _ (up_81 h)
  have hinX5 : ∀ w ∈ u_ws RX5 TX5 14, w ∈ (wu yX10_leastBelow cX10_leastBelow 4 (some .int)) := fun _ h => List.mem_cons_of_mem _ (up_76 h)
  have L9 : ∀ (n9 : Nat) (v9_3 : Int32) (H : Heap) (locs : List Loc) (ls : Array Slot) (w1 : va_W), 0 ≤ a1.toInt → a1.toInt ≤ 5 → 0 ≤ a2.toInt → a2.toInt ≤ 8191 → 0 ≤ v9_3.toInt → v9_3.toInt ≤ 6 → (6 - v9_3.toInt).toNat < n9 → Wd dC dI A s.heap H locs w1 → TW ksC ad cy B qr s1 w1 → FE ksC [(51, 0, 10)] w0 w1 → TT (fun n => m_X10_leastBelow n 158 a1.toInt a2.toInt (sI w0)) (fun n => j_X10_leastBelow 158 n 1009 [a1.toInt, a2.toInt, v9_3.toInt] (sI w1)) → lv_has ls 4 [(0, .ref (ad 158)), (1, .int a1), (2, .int a2), (3, .int v9_3)] → W p l e ({ frames := 8, cells := 0, slots := 0, locals := 174 }) s m (List.toArray [.ref (ad 158), .int a1, .int a2]) below meth c H locs 0 0 (MQ below (va_Qi (Pz_X10_leastBelow_8 ad cy B qr s1 a1 a2 w0) (fun u : va_W => wpost dC dI cy A u) A) (List.toArray [.ref (ad 158), .int a1, .int a2]) s 0 0 A) (F0 m 9 ls []) := by
    intro n9
    induction n9 with
    | zero => intro v9_3 H locs ls w1 r2 t3 r4 t5 r6 t7 hm9 hw hT hF hM hl; omega
    | succ n9 ih9 =>
      intro v9_3 H locs ls w1 r2 t3 r4 t5 r6 t7 hm9 hw hT hF hM hl
      replace hM := hM.suc (fun _ => e_X10_leastBelow_9)
      refine lv_iload_n hx hb dX10_leastBelow_9 rfl (lv_at hl 3 rfl) ?_
      refine lv_aload_n hx hb dX10_leastBelow_10 rfl (lv_at hl 0 rfl) ?_
      refine tk_getA hC hK hw hT hinX10 kC_at158 (by decide) rfl 0 (by decide) (List.mem_cons_of_mem _ uw_6_6) rfl rfl dX10_leastBelow_11 ?_
      refine tk_geti hC hK hw hT hinX5 kC_at38 (by decide) rfl 10 (by decide) (List.mem_cons_of_mem _ uw_60_6) rfl rfl dX10_leastBelow_14 (fun x8 c9 rx8 tx8 => ?_)
      replace hM := hM.rd (sI_at c9)
      refine lv_icmp_ge (tgt := 36) hx hb dX10_leastBelow_17 (by decide) (fun c10 => ?_) (fun c10 => ?_)
      · have c10 : x8.toInt ≤ v9_3.toInt := wk_le.mp c10
        replace hM := hM.pos c10
        refine lv_iload_n hx hb dX10_leastBelow_36 rfl (lv_at hl 1 rfl) ?_
        refine lv_if_gt (tgt := 42) hx hb dX10_leastBelow_37 (by decide) (fun c11 => ?_) (fun c11 => ?_)
        · have c11 : (0 : Int) < a1.toInt := wk_lt.mp c11
          replace hM := hM.pos c11
          refine lv_aload_n hx hb dX10_leastBelow_42 rfl (lv_at hl 0 rfl) ?_
          refine lv_iload_n hx hb dX10_leastBelow_43 rfl (lv_at hl 1 rfl) ?_
          refine lv_iconst (v := 1) hx hb dX10_leastBelow_44 (by decide) ?_
          refine lv_isub hx hb dX10_leastBelow_45 ?_
          refine lv_topi (fun x12 ex12 => ?_)
          have ezx12 := ex12
          have ex12 : x12.toInt = a1.toInt - (1 : Int) := by rw [ex12]; exact wk_sub (show (-2147483648) ≤ a1.toInt - (1 : Int) by omega) (show a1.toInt - (1 : Int) ≤ 2147483647 by omega)
          replace hM := hM.lt ex12.symm
          refine lv_iload_n hx hb dX10_leastBelow_46 rfl (lv_at hl 2 rfl) ?_
          refine tk_Vi hC hK hw hT hA hE hSR kC_at158 (by decide) rfl (kz_X10_leastBelow_9 l adK adV dC dI cy ad B hB0 (Int.le_trans hB1 (by decide)) qr s1   x12 (show 0 ≤ x12.toInt by first | with_reducible assumption | omega) (show x12.toInt ≤ 4 by first | with_reducible assumption | omega) a2 (show 0 ≤ a2.toInt from r4) (show a2.toInt ≤ 8191 from t5) w1 H.size hT ) (cwV 2 hC.2.2.2.2 uV_RX10_72 rfl rfl rfl (by decide +kernel) ⟨Nat.le_of_ble_eq_true rfl, Nat.le_of_ble_eq_true rfl⟩) rfl hl.1 rfl (Nat.le_of_ble_eq_true rfl) dX10_leastBelow_47 (fun r13 w15 H locs hp14 hw => ?_)
          obtain ⟨hT, k16, hv22, hg21⟩ := hp14
          have hF := hF.tr k16 (by decide)
          have c23 := k16.gi kC_at38 (by decide) c9
          rcases hg21 with ⟨g17, g18⟩ | ⟨rfl, ⟨x19, c20, rx19, tx19⟩⟩
          · replace hM := hM.call hv22 rfl
            refine lv_istore_n (lv' := [(3, .int r13), (0, .ref (ad 158)), (1, .int a1), (2, .int a2)]) hx hb dX10_leastBelow_50 rfl hl (by decide) rfl (fun ls hl => ?_)
            refine lv_iload_n hx hb dX10_leastBelow_51 rfl (lv_at hl 0 rfl) ?_
            refine lv_iconst (v := (-1)) hx hb dX10_leastBelow_52 (by decide) ?_
            refine lv_icmp_eq (tgt := 60) hx hb dX10_leastBelow_53 (by decide) (fun c => absurd c (fun h => absurd (show r13.toInt = (-1 : Int) from wk_eq.mp h) (by omega))) (fun _ => ?_)
            replace hM := hM.neg (by omega)
            refine lv_iload_n hx hb dX10_leastBelow_56 rfl (lv_at hl 0 rfl) ?_
            refine lv_goto (tgt := 74) hx hb dX10_leastBelow_57 (by decide) ?_
            exact tk_iret hC hr hlocks hK ⟨hT, hF, hM.ret rfl, (Or.inl ⟨(show 0 ≤ r13.toInt by first | with_reducible assumption | omega), (show r13.toInt ≤ 8191 by first | with_reducible assumption | omega)⟩)⟩ hw dX10_leastBelow_74
          · replace hM := hM.call (r' := (-1)) hv22 (by decide)
            have ex19 : x19.toInt = x8.toInt := by rw [← c23.symm.trans c20]
            refine lv_istore_n (lv' := [(3, .int (-1)), (0, .ref (ad 158)), (1, .int a1), (2, .int a2)]) hx hb dX10_leastBelow_50 rfl hl (by decide) rfl (fun ls hl => ?_)
            refine lv_iload_n hx hb dX10_leastBelow_51 rfl (lv_at hl 0 rfl) ?_
            refine lv_iconst (v := (-1)) hx hb dX10_leastBelow_52 (by decide) ?_
            refine lv_icmp_eq (tgt := 60) hx hb dX10_leastBelow_53 (by decide) (fun _ => ?_) (fun c => absurd (by decide) c)
            replace hM := hM.pos (by decide)
            refine lv_aload_n hx hb dX10_leastBelow_60 rfl (lv_at hl 1 rfl) ?_
            refine lv_iload_n hx hb dX10_leastBelow_61 rfl (lv_at hl 2 rfl) ?_
            refine lv_iconst (v := 1) hx hb dX10_leastBelow_62 (by decide) ?_
            refine lv_isub hx hb dX10_leastBelow_63 ?_
            refine lv_topi (fun x24 ex24 => ?_)
            have ezx24 := ex24
            have ex24 : x24.toInt = a1.toInt - (1 : Int) := by rw [ex24]; exact wk_sub (show (-2147483648) ≤ a1.toInt - (1 : Int) by omega) (show a1.toInt - (1 : Int) ≤ 2147483647 by omega)
            replace hM := hM.lt ex24.symm
            refine lv_iload_n hx hb dX10_leastBelow_64 rfl (lv_at hl 3 rfl) ?_
            refine lv_iconst (v := 1) hx hb dX10_leastBelow_65 (by decide) ?_
            refine lv_iload_n hx hb dX10_leastBelow_66 rfl (lv_at hl 2 rfl) ?_
            refine lv_iconst (v := 1) hx hb dX10_leastBelow_67 (by decide) ?_
            refine lv_isub hx hb dX10_leastBelow_68 ?_
            refine lv_topi (fun x25 ex25 => ?_)
            have ezx25 := ex25
            have ex25 : x25.toInt = a1.toInt - (1 : Int) := by rw [ex25]; exact wk_sub (show (-2147483648) ≤ a1.toInt - (1 : Int) by omega) (show a1.toInt - (1 : Int) ≤ 2147483647 by omega)
            replace hM := hM.lt ex25.symm
            refine lv_ishl hx hb dX10_leastBelow_69 ?_
            refine lv_topi (fun x26 ex26 => ?_)
            have ezx26 := ex26
            have bx26 : 1 ≤ x26.toInt ∧ x26.toInt ≤ 16 := by rw [ex26]; exact wk_shl1 4 (by decide) (by omega) (by omega)
            replace hM := hM.lt (o32_e (f := fun x y => x <<< (y &&& 31)) ezx26 (by decide) rfl)
            refine lv_ior hx hb dX10_leastBelow_70 ?_
            refine lv_topi (fun x27 ex27 => ?_)
            have ezx27 := ex27
            have bx27 : 0 ≤ x27.toInt ∧ x27.toInt < 8192 := by rw [ex27]; exact wk_or 13 (by decide) (by omega) (by omega) (by omega) (by omega)
            have mx27 : a2.toInt ≤ x27.toInt ∧ x26.toInt ≤ x27.toInt := by rw [ex27]; exact wk_orL 13 (by decide) (by omega) (by omega) (by omega) (by omega)
            replace hM := hM.lt (o32_e (f := fun x y => x ||| y) ezx27 rfl rfl)
            refine tk_Vi hC hK hw hT hA hE hSR kC_at158 (by decide) rfl (kz_X10_leastBelow_9 l adK adV dC dI cy ad B hB0 (Int.le_trans hB1 (by decide)) qr s1   x24 (show 0 ≤ x24.toInt by first | with_reducible assumption | omega) (show x24.toInt ≤ 4 by first | with_reducible assumption | omega) x27 (show 0 ≤ x27.toInt by first | with_reducible assumption | omega) (show x27.toInt ≤ 8191 by first | with_reducible assumption | omega) w15 H.size hT ) (cwV 2 hC.2.2.2.2 uV_RX10_72 rfl rfl rfl (by decide +kernel) ⟨Nat.le_of_ble_eq_true rfl, Nat.le_of_ble_eq_true rfl⟩) rfl hl.1 rfl (Nat.le_of_ble_eq_true rfl) dX10_leastBelow_71 (fun r28 w30 H locs hp29 hw => ?_)
            obtain ⟨hT, k31, hv37, hg36⟩ := hp29
            have hF := hF.tr k31 (by decide)
            have c38 := k31.gi kC_at38 (by decide) c23
            rcases hg36 with ⟨g32, g33⟩ | ⟨rfl, ⟨x34, c35, rx34, tx34⟩⟩
            · replace hM := hM.call hv37 rfl
              exact tk_iret hC hr hlocks hK ⟨hT, hF, hM.ret rfl, (Or.inl ⟨(show 0 ≤ r28.toInt by first | with_reducible assumption | omega), (show r28.toInt ≤ 8191 by first | with_reducible assumption | omega)⟩)⟩ hw dX10_leastBelow_74
            · replace hM := hM.call (r' := (-1)) hv37 (by decide)
              have ex34 : x34.toInt = x8.toInt := by rw [← c38.symm.trans c35]
              exact tk_iret hC hr hlocks hK ⟨hT, hF, hM.ret (by decide), (Or.inr ⟨rfl, ⟨x8, c38, (show 1 ≤ x8.toInt by first | with_reducible assumption | omega), (show x8.toInt ≤ 6 from tx8)⟩⟩)⟩ hw dX10_leastBelow_74
        · have c11 : a1.toInt ≤ (0 : Int) := wk_ltF c11
          replace hM := hM.neg (Int.not_lt.mpr c11)
          refine lv_iload_n hx hb dX10_leastBelow_40 rfl (lv_at hl 2 rfl) ?_
          exact tk_iret hC hr hlocks hK ⟨hT, hF, hM.ret rfl, (Or.inl ⟨(show 0 ≤ a2.toInt from r4), (show a2.toInt ≤ 8191 from t5)⟩)⟩ hw dX10_leastBelow_41
      · have c10 : v9_3.toInt < x8.toInt := wk_leF c10
        replace hM := hM.neg (Int.not_le.mpr c10)
        refine lv_aload_n hx hb dX10_leastBelow_20 rfl (lv_at hl 0 rfl) ?_
        refine lv_iload_n hx hb dX10_leastBelow_21 rfl (lv_at hl 3 rfl) ?_
        refine tk_Vi hC hK hw hT hA hE hSR kC_at158 (by decide) rfl (kz_X10_canDo_1 l adK adV dC dI cy ad B hB0 (Int.le_trans hB1 (by decide)) qr s1   v9_3 (show 0 ≤ v9_3.toInt from r6) (show v9_3.toInt ≤ 5 by first | with_reducible assumption | omega) w1 H.size hT ) (cwV 1 hC.2.2.2.2 uV_RX10_49 rfl rfl rfl (by decide +kernel) ⟨Nat.le_of_ble_eq_true rfl, Nat.le_of_ble_eq_true rfl⟩) rfl hl.1 rfl (Nat.le_of_ble_eq_true rfl) dX10_leastBelow_22 (fun r39 w41 H locs hp40 hw => ?_)
        obtain ⟨hT, k42, hv44, hg43⟩ := hp40
        have hF := hF.tr k42 (by decide)
        have c45 := k42.gi kC_at38 (by decide) c9
        rcases hg43 with rfl | rfl
        · replace hM := hM.call (r' := 0) hv44 (by decide)
          refine lv_if_ne (tgt := 30) hx hb dX10_leastBelow_25 (by decide) (fun c => absurd (by decide) c) (fun _ => ?_)
          replace hM := hM.neg (by decide)
          refine lv_iconst (v := (-1)) hx hb dX10_leastBelow_28 (by decide) ?_
          exact tk_iret hC hr hlocks hK ⟨hT, hF, hM.ret (by decide), (Or.inr ⟨rfl, ⟨x8, c45, (show 1 ≤ x8.toInt by first | with_reducible assumption | omega), (show x8.toInt ≤ 6 from tx8)⟩⟩)⟩ hw dX10_leastBelow_29
        · replace hM := hM.call (r' := 1) hv44 (by decide)
          refine lv_if_ne (tgt := 30) hx hb dX10_leastBelow_25 (by decide) (fun _ => ?_) (fun c => absurd c (by decide))
          replace hM := hM.pos (by decide)
          obtain ⟨x46, ex46⟩ : ∃ y : Int32, y = v9_3 + Int32.ofInt 1 := ⟨_, rfl⟩
          have erx46 := ex46
          refine lv_iinc (v := x46) (lv' := [(3, .int x46), (0, .ref (ad 158)), (1, .int a1), (2, .int a2)]) hx hb dX10_leastBelow_30 hl (k := 3) rfl ex46.symm (by decide) rfl (fun ls hl => ?_)
          have ex46 : x46.toInt = v9_3.toInt + 1 := by rw [ex46]; exact wk_add (y := 1) (show -2147483648 ≤ v9_3.toInt + 1 by omega) (show v9_3.toInt + 1 ≤ 2147483647 by omega)
          replace hM := hM.lt ex46.symm
          refine lv_goto (tgt := 9) hx hb dX10_leastBelow_33 (by decide) ?_
          exact ih9 x46 H locs ls w41 (show 0 ≤ a1.toInt from r2) (show a1.toInt ≤ 5 from t3) (show 0 ≤ a2.toInt from r4) (show a2.toInt ≤ 8191 from t5) (show 0 ≤ x46.toInt by first | with_reducible assumption | omega) (show x46.toInt ≤ 6 by first | with_reducible assumption | omega) (show (6 - x46.toInt).toNat < n9 by first | exact tn_lt hm9 (by omega) (by omega) | omega) hw hT hF hM (lv_sub hl [1, 2, 3, 0] rfl)
  have hM : TT (fun n => m_X10_leastBelow n 158 a1.toInt a2.toInt (sI w0)) (fun n => j_X10_leastBelow 158 n 1000 [a1.toInt, a2.toInt] (sI w0)) := TT.rf
  replace hM := hM.suc (fun _ => e_X10_leastBelow_e)
  refine lv_aload_n hx hb dX10_leastBelow_0 rfl (lv_at hl 0 rfl) ?_
  refine lv_iload_n hx hb dX10_leastBelow_1 rfl (lv_at hl 1 rfl) ?_
  refine lv_iload_n hx hb dX10_leastBelow_2 rfl (lv_at hl 2 rfl) ?_
  refine lv_iconst (v := (-1)) hx hb dX10_leastBelow_3 (by decide) ?_
  refine tk_Vv hC hK hw hT hA hE hSR kC_at158 (by decide) rfl (kz_X10_layRoads_1 l adK adV dC dI cy ad B hB0 (Int.le_trans hB1 (by decide)) qr s1   a1 (show 0 ≤ a1.toInt from ra1) (show a1.toInt ≤ 12 from Int.le_trans ta1 (by decide)) a2 (show 0 ≤ a2.toInt from ra2) (show a2.toInt ≤ 8191 from ta2) ((-1)) (by decide) (by decide) w0 s.heap.size hT ) (cwV 3 hC.2.2.2.2 uV_RX10_42 rfl rfl rfl (by decide +kernel) ⟨Nat.le_of_ble_eq_true rfl, Nat.le_of_ble_eq_true rfl⟩) rfl hl.1 rfl (Nat.le_of_ble_eq_true rfl) dX10_leastBelow_4 (fun w49 H locs hp48 hw => ?_)
  obtain ⟨hT, k50, hv52, hg51⟩ := hp48
  try simp only [show ((-1) : Int32).toInt = (-1) by decide] at hv52
  have hF := hF.tr k50 (by decide)
  clear hg51
  replace hM := hM.call hv52 rfl
  refine lv_iconst (v := 0) hx hb dX10_leastBelow_7 (by decide) ?_
  refine lv_istore_n (lv' := [(3, .int 0), (0, .ref (ad 158)), (1, .int a1), (2, .int a2)]) hx hb dX10_leastBelow_8 rfl hl (by decide) rfl (fun ls hl => ?_)
  exact L9 ((6 - (0 : Int)).toNat + 1) 0 H locs ls w49 (show 0 ≤ a1.toInt from ra1) (show a1.toInt ≤ 5 from ta1) (show 0 ≤ a2.toInt from ra2) (show a2.toInt ≤ 8191 from ta2) (by decide) (by decide) (Nat.lt_succ_self _) hw hT hF hM (lv_sub hl [1, 2, 3, 0] rfl)
abbrev Pz_X10_leastBelow_7 (ad : Nat → Nat) (cy : Nat → ClassId) (B : Int) (qr : Nat) (s1 : Int) (a1 : Int32) (a2 : Int32) (w0 : va_W) : Int32 → va_W → Prop := fun r u => TW ksC ad cy B qr s1 u ∧ FE ksC [(51, 0, 10)] w0 u ∧ Ev (fun n => m_X10_leastBelow n 158 a1.toInt a2.toInt (sI w0)) (r.toInt, sI u) ∧ ((0 ≤ r.toInt ∧ r.toInt ≤ 8191) ∨ (r = (-1) ∧ (∃ y : Int32, gi u 38 10 = y ∧ 1 ≤ y.toInt ∧ y.toInt ≤ 6)))
set_option maxHeartbeats 4000000 in
set_option maxRecDepth 100000 in
theorem kz_X10_leastBelow_7 (l : Launch) (adK adV : Nat → Nat) (dC : Nat → ClassId) (dI : Nat → Nat → Nat) (cy : Nat → ClassId) (ad : Nat → Nat) (B : Int) (hB0 : 2147483648 ≤ B) (hB1 : B ≤ 1152921504606846976) (qr : Nat) (s1 : Int)  (a1 : Int32) (ra1 : 0 ≤ a1.toInt) (ta1 : a1.toInt ≤ 6) (a2 : Int32) (ra2 : 0 ≤ a2.toInt) (ta2 : a2.toInt ≤ 8191) (w0 : va_W) (sz : Nat) (hT : TW ksC ad cy B qr s1 w0)  : Met l yX10_leastBelow (wu yX10_leastBelow cX10_leastBelow 4 (some .int)) ({ frames := 9, cells := 0, slots := 0, locals := 197 }) (va_Pc [.ref (ad 158), .int a1, .int a2] (wpreS adK adV dC dI cy sz w0)) (va_Qi (Pz_X10_leastBelow_7 ad cy B qr s1 a1 a2 w0) (fun u : va_W => wpost dC dI cy (va_A w0 sz) u) (va_A w0 sz)) 0 0 (va_A w0 sz) := by
  refine Met.ofW (cc := cX10_leastBelow) (maxL := 4) (ret := (some .int)) (by decide) rfl ?_
  intro p e s m args below meth c s₁ Bk hml hv
  obtain ⟨rfl, ⟨hsz, hP, hK, hD0⟩, hE, hSR⟩ := hv
  have hx := Bk.exec
  have hb := Bk.bytes
  have hr := Bk.returns
  have hlocks := Bk.notSynchronized
  have hC : CallFix p m c cX10_leastBelow 4 s _ (wu yX10_leastBelow cX10_leastBelow 4 (some .int)) RX10 := ⟨hx, hb, hml, findClass_of_methodNamed Bk.named, atoms_spec (ws := (wu yX10_leastBelow cX10_leastBelow 4 (some .int))) Bk.pre⟩
  subst hsz
  have hD := hD0.self (sz := s.heap.size)
  generalize hAe : va_A w0 s.heap.size = A at hD hE ⊢
  have hA : ∀ q : Nat, s.heap.size ≤ q → A q := fun q h => by rw [← hAe]; exact Or.inr h
  have hw : Wd dC dI A s.heap s.heap [] w0 := ⟨hP, hD, va_S.rf⟩
  have hF : FE ksC [(51, 0, 10)] w0 w0 := FE.rf
  have hl := lv_entry ([.ref (ad 158), .int a1, .int a2]) (n := 4) (Nat.le_of_ble_eq_true rfl)
  rw [lg_entry_eq]
  generalize (lg_sl ([.ref (ad 158), .int a1, .int a2]) ++ List.replicate (4 - (lg_sl ([.ref (ad 158), .int a1, .int a2])).length) Slot.unset).toArray = ls at hl ⊢
  have hl : lv_has ls 4 [(0, .ref (ad 158)), (1, .int a1), (2, .int a2)] := hl
  generalize hloc : ([] : List Loc) = locs at hw ⊢
  have hinX10 : ∀ w ∈ u_ws RX10 TX10 5, w ∈ (wu yX10_leastBelow cX10_leastBelow 4 (some .int)) := fun _ h => List.mem_cons_of_mem _ (up_81 h)
  have hinX5 : ∀ w ∈ u_ws RX5 TX5 14, w ∈ (wu yX10_leastBelow cX10_leastBelow 4 (some .int)) := fun _ h => List.mem_cons_of_mem _ (up_76 h)
  have L9 : ∀ (n9 : Nat) (v9_3 : Int32) (H : Heap) (locs : List Loc) (ls : Array Slot) (w1 : va_W), 0 ≤ a1.toInt → a1.toInt ≤ 6 → 0 ≤ a2.toInt → a2.toInt ≤ 8191 → 0 ≤ v9_3.toInt → v9_3.toInt ≤ 6 → (6 - v9_3.toInt).toNat < n9 → Wd dC dI A s.heap H locs w1 → TW ksC ad cy B qr s1 w1 → FE ksC [(51, 0, 10)] w0 w1 → TT (fun n => m_X10_leastBelow n 158 a1.toInt a2.toInt (sI w0)) (fun n => j_X10_leastBelow 158 n 1009 [a1.toInt, a2.toInt, v9_3.toInt] (sI w1)) → lv_has ls 4 [(0, .ref (ad 158)), (1, .int a1), (2, .int a2), (3, .int v9_3)] → W p l e ({ frames := 9, cells := 0, slots := 0, locals := 197 }) s m (List.toArray [.ref (ad 158), .int a1, .int a2]) below meth c H locs 0 0 (MQ below (va_Qi (Pz_X10_leastBelow_7 ad cy B qr s1 a1 a2 w0) (fun u : va_W => wpost dC dI cy A u) A) (List.toArray [.ref (ad 158), .int a1, .int a2]) s 0 0 A) (F0 m 9 ls []) := by
    intro n9
    induction n9 with
    | zero => intro v9_3 H locs ls w1 r2 t3 r4 t5 r6 t7 hm9 hw hT hF hM hl; omega
    | succ n9 ih9 =>
      intro v9_3 H locs ls w1 r2 t3 r4 t5 r6 t7 hm9 hw hT hF hM hl
      replace hM := hM.suc (fun _ => e_X10_leastBelow_9)
      refine lv_iload_n hx hb dX10_leastBelow_9 rfl (lv_at hl 3 rfl) ?_
      refine lv_aload_n hx hb dX10_leastBelow_10 rfl (lv_at hl 0 rfl) ?_
      refine tk_getA hC hK hw hT hinX10 kC_at158 (by decide) rfl 0 (by decide) (List.mem_cons_of_mem _ uw_6_6) rfl rfl dX10_leastBelow_11 ?_
      refine tk_geti hC hK hw hT hinX5 kC_at38 (by decide) rfl 10 (by decide) (List.mem_cons_of_mem _ uw_60_6) rfl rfl dX10_leastBelow_14 (fun x8 c9 rx8 tx8 => ?_)
      replace hM := hM.rd (sI_at c9)
      refine lv_icmp_ge (tgt := 36) hx hb dX10_leastBelow_17 (by decide) (fun c10 => ?_) (fun c10 => ?_)
      · have c10 : x8.toInt ≤ v9_3.toInt := wk_le.mp c10
        replace hM := hM.pos c10
        refine lv_iload_n hx hb dX10_leastBelow_36 rfl (lv_at hl 1 rfl) ?_
        refine lv_if_gt (tgt := 42) hx hb dX10_leastBelow_37 (by decide) (fun c11 => ?_) (fun c11 => ?_)
        · have c11 : (0 : Int) < a1.toInt := wk_lt.mp c11
          replace hM := hM.pos c11
          refine lv_aload_n hx hb dX10_leastBelow_42 rfl (lv_at hl 0 rfl) ?_
          refine lv_iload_n hx hb dX10_leastBelow_43 rfl (lv_at hl 1 rfl) ?_
          refine lv_iconst (v := 1) hx hb dX10_leastBelow_44 (by decide) ?_
          refine lv_isub hx hb dX10_leastBelow_45 ?_
          refine lv_topi (fun x12 ex12 => ?_)
          have ezx12 := ex12
          have ex12 : x12.toInt = a1.toInt - (1 : Int) := by rw [ex12]; exact wk_sub (show (-2147483648) ≤ a1.toInt - (1 : Int) by omega) (show a1.toInt - (1 : Int) ≤ 2147483647 by omega)
          replace hM := hM.lt ex12.symm
          refine lv_iload_n hx hb dX10_leastBelow_46 rfl (lv_at hl 2 rfl) ?_
          refine tk_Vi hC hK hw hT hA hE hSR kC_at158 (by decide) rfl (kz_X10_leastBelow_8 l adK adV dC dI cy ad B hB0 (Int.le_trans hB1 (by decide)) qr s1   x12 (show 0 ≤ x12.toInt by first | with_reducible assumption | omega) (show x12.toInt ≤ 5 by first | with_reducible assumption | omega) a2 (show 0 ≤ a2.toInt from r4) (show a2.toInt ≤ 8191 from t5) w1 H.size hT ) (cwV 2 hC.2.2.2.2 uV_RX10_72 rfl rfl rfl (by decide +kernel) ⟨Nat.le_of_ble_eq_true rfl, Nat.le_of_ble_eq_true rfl⟩) rfl hl.1 rfl (Nat.le_of_ble_eq_true rfl) dX10_leastBelow_47 (fun r13 w15 H locs hp14 hw => ?_)
          obtain ⟨hT, k16, hv22, hg21⟩ := hp14
          have hF := hF.tr k16 (by decide)
          have c23 := k16.gi kC_at38 (by decide) c9
          rcases hg21 with ⟨g17, g18⟩ | ⟨rfl, ⟨x19, c20, rx19, tx19⟩⟩
          · replace hM := hM.call hv22 rfl
            refine lv_istore_n (lv' := [(3, .int r13), (0, .ref (ad 158)), (1, .int a1), (2, .int a2)]) hx hb dX10_leastBelow_50 rfl hl (by decide) rfl (fun ls hl => ?_)
            refine lv_iload_n hx hb dX10_leastBelow_51 rfl (lv_at hl 0 rfl) ?_
            refine lv_iconst (v := (-1)) hx hb dX10_leastBelow_52 (by decide) ?_
            refine lv_icmp_eq (tgt := 60) hx hb dX10_leastBelow_53 (by decide) (fun c => absurd c (fun h => absurd (show r13.toInt = (-1 : Int) from wk_eq.mp h) (by omega))) (fun _ => ?_)
            replace hM := hM.neg (by omega)
            refine lv_iload_n hx hb dX10_leastBelow_56 rfl (lv_at hl 0 rfl) ?_
            refine lv_goto (tgt := 74) hx hb dX10_leastBelow_57 (by decide) ?_
            exact tk_iret hC hr hlocks hK ⟨hT, hF, hM.ret rfl, (Or.inl ⟨(show 0 ≤ r13.toInt by first | with_reducible assumption | omega), (show r13.toInt ≤ 8191 by first | with_reducible assumption | omega)⟩)⟩ hw dX10_leastBelow_74
          · replace hM := hM.call (r' := (-1)) hv22 (by decide)
            have ex19 : x19.toInt = x8.toInt := by rw [← c23.symm.trans c20]
            refine lv_istore_n (lv' := [(3, .int (-1)), (0, .ref (ad 158)), (1, .int a1), (2, .int a2)]) hx hb dX10_leastBelow_50 rfl hl (by decide) rfl (fun ls hl => ?_)
            refine lv_iload_n hx hb dX10_leastBelow_51 rfl (lv_at hl 0 rfl) ?_
            refine lv_iconst (v := (-1)) hx hb dX10_leastBelow_52 (by decide) ?_
            refine lv_icmp_eq (tgt := 60) hx hb dX10_leastBelow_53 (by decide) (fun _ => ?_) (fun c => absurd (by decide) c)
            replace hM := hM.pos (by decide)
            refine lv_aload_n hx hb dX10_leastBelow_60 rfl (lv_at hl 1 rfl) ?_
            refine lv_iload_n hx hb dX10_leastBelow_61 rfl (lv_at hl 2 rfl) ?_
            refine lv_iconst (v := 1) hx hb dX10_leastBelow_62 (by decide) ?_
            refine lv_isub hx hb dX10_leastBelow_63 ?_
            refine lv_topi (fun x24 ex24 => ?_)
            have ezx24 := ex24
            have ex24 : x24.toInt = a1.toInt - (1 : Int) := by rw [ex24]; exact wk_sub (show (-2147483648) ≤ a1.toInt - (1 : Int) by omega) (show a1.toInt - (1 : Int) ≤ 2147483647 by omega)
            replace hM := hM.lt ex24.symm
            refine lv_iload_n hx hb dX10_leastBelow_64 rfl (lv_at hl 3 rfl) ?_
            refine lv_iconst (v := 1) hx hb dX10_leastBelow_65 (by decide) ?_
            refine lv_iload_n hx hb dX10_leastBelow_66 rfl (lv_at hl 2 rfl) ?_
            refine lv_iconst (v := 1) hx hb dX10_leastBelow_67 (by decide) ?_
            refine lv_isub hx hb dX10_leastBelow_68 ?_
            refine lv_topi (fun x25 ex25 => ?_)
            have ezx25 := ex25
            have ex25 : x25.toInt = a1.toInt - (1 : Int) := by rw [ex25]; exact wk_sub (show (-2147483648) ≤ a1.toInt - (1 : Int) by omega) (show a1.toInt - (1 : Int) ≤ 2147483647 by omega)
            replace hM := hM.lt ex25.symm
            refine lv_ishl hx hb dX10_leastBelow_69 ?_
            refine lv_topi (fun x26 ex26 => ?_)
            have ezx26 := ex26
            have bx26 : 1 ≤ x26.toInt ∧ x26.toInt ≤ 32 := by rw [ex26]; exact wk_shl1 5 (by decide) (by omega) (by omega)
            replace hM := hM.lt (o32_e (f := fun x y => x <<< (y &&& 31)) ezx26 (by decide) rfl)
            refine lv_ior hx hb dX10_leastBelow_70 ?_
            refine lv_topi (fun x27 ex27 => ?_)
            have ezx27 := ex27
            have bx27 : 0 ≤ x27.toInt ∧ x27.toInt < 8192 := by rw [ex27]; exact wk_or 13 (by decide) (by omega) (by omega) (by omega) (by omega)
            have mx27 : a2.toInt ≤ x27.toInt ∧ x26.toInt ≤ x27.toInt := by rw [ex27]; exact wk_orL 13 (by decide) (by omega) (by omega) (by omega) (by omega)
            replace hM := hM.lt (o32_e (f := fun x y => x ||| y) ezx27 rfl rfl)
            refine tk_Vi hC hK hw hT hA hE hSR kC_at158 (by decide) rfl (kz_X10_leastBelow_8 l adK adV dC dI cy ad B hB0 (Int.le_trans hB1 (by decide)) qr s1   x24 (show 0 ≤ x24.toInt by first | with_reducible assumption | omega) (show x24.toInt ≤ 5 by first | with_reducible assumption | omega) x27 (show 0 ≤ x27.toInt by first | with_reducible assumption | omega) (show x27.toInt ≤ 8191 by first | with_reducible assumption | omega) w15 H.size hT ) (cwV 2 hC.2.2.2.2 uV_RX10_72 rfl rfl rfl (by decide +kernel) ⟨Nat.le_of_ble_eq_true rfl, Nat.le_of_ble_eq_true rfl⟩) rfl hl.1 rfl (Nat.le_of_ble_eq_true rfl) dX10_leastBelow_71 (fun r28 w30 H locs hp29 hw => ?_)
            obtain ⟨hT, k31, hv37, hg36⟩ := hp29
            have hF := hF.tr k31 (by decide)
            have c38 := k31.gi kC_at38 (by decide) c23
            rcases hg36 with ⟨g32, g33⟩ | ⟨rfl, ⟨x34, c35, rx34, tx34⟩⟩
            · replace hM := hM.call hv37 rfl
              exact tk_iret hC hr hlocks hK ⟨hT, hF, hM.ret rfl, (Or.inl ⟨(show 0 ≤ r28.toInt by first | with_reducible assumption | omega), (show r28.toInt ≤ 8191 by first | with_reducible assumption | omega)⟩)⟩ hw dX10_leastBelow_74
            · replace hM := hM.call (r' := (-1)) hv37 (by decide)
              have ex34 : x34.toInt = x8.toInt := by rw [← c38.symm.trans c35]
              exact tk_iret hC hr hlocks hK ⟨hT, hF, hM.ret (by decide), (Or.inr ⟨rfl, ⟨x8, c38, (show 1 ≤ x8.toInt by first | with_reducible assumption | omega), (show x8.toInt ≤ 6 from tx8)⟩⟩)⟩ hw dX10_leastBelow_74
        · have c11 : a1.toInt ≤ (0 : Int) := wk_ltF c11
          replace hM := hM.neg (Int.not_lt.mpr c11)
          refine lv_iload_n hx hb dX10_leastBelow_40 rfl (lv_at hl 2 rfl) ?_
          exact tk_iret hC hr hlocks hK ⟨hT, hF, hM.ret rfl, (Or.inl ⟨(show 0 ≤ a2.toInt from r4), (show a2.toInt ≤ 8191 from t5)⟩)⟩ hw dX10_leastBelow_41
      · have c10 : v9_3.toInt < x8.toInt := wk_leF c10
        replace hM := hM.neg (Int.not_le.mpr c10)
        refine lv_aload_n hx hb dX10_leastBelow_20 rfl (lv_at hl 0 rfl) ?_
        refine lv_iload_n hx hb dX10_leastBelow_21 rfl (lv_at hl 3 rfl) ?_
        refine tk_Vi hC hK hw hT hA hE hSR kC_at158 (by decide) rfl (kz_X10_canDo_1 l adK adV dC dI cy ad B hB0 (Int.le_trans hB1 (by decide)) qr s1   v9_3 (show 0 ≤ v9_3.toInt from r6) (show v9_3.toInt ≤ 5 by first | with_reducible assumption | omega) w1 H.size hT ) (cwV 1 hC.2.2.2.2 uV_RX10_49 rfl rfl rfl (by decide +kernel) ⟨Nat.le_of_ble_eq_true rfl, Nat.le_of_ble_eq_true rfl⟩) rfl hl.1 rfl (Nat.le_of_ble_eq_true rfl) dX10_leastBelow_22 (fun r39 w41 H locs hp40 hw => ?_)
        obtain ⟨hT, k42, hv44, hg43⟩ := hp40
        have hF := hF.tr k42 (by decide)
        have c45 := k42.gi kC_at38 (by decide) c9
        rcases hg43 with rfl | rfl
        · replace hM := hM.call (r' := 0) hv44 (by decide)
          refine lv_if_ne (tgt := 30) hx hb dX10_leastBelow_25 (by decide) (fun c => absurd (by decide) c) (fun _ => ?_)
          replace hM := hM.neg (by decide)
          refine lv_iconst (v := (-1)) hx hb dX10_leastBelow_28 (by decide) ?_
          exact tk_iret hC hr hlocks hK ⟨hT, hF, hM.ret (by decide), (Or.inr ⟨rfl, ⟨x8, c45, (show 1 ≤ x8.toInt by first | with_reducible assumption | omega), (show x8.toInt ≤ 6 from tx8)⟩⟩)⟩ hw dX10_leastBelow_29
        · replace hM := hM.call (r' := 1) hv44 (by decide)
          refine lv_if_ne (tgt := 30) hx hb dX10_leastBelow_25 (by decide) (fun _ => ?_) (fun c => absurd c (by decide))
          replace hM := hM.pos (by decide)
          obtain ⟨x46, ex46⟩ : ∃ y : Int32, y = v9_3 + Int32.ofInt 1 := ⟨_, rfl⟩
          have erx46 := ex46
          refine lv_iinc (v := x46) (lv' := [(3, .int x46), (0, .ref (ad 158)), (1, .int a1), (2, .int a2)]) hx hb dX10_leastBelow_30 hl (k := 3) rfl ex46.symm (by decide) rfl (fun ls hl => ?_)
          have ex46 : x46.toInt = v9_3.toInt + 1 := by rw [ex46]; exact wk_add (y := 1) (show -2147483648 ≤ v9_3.toInt + 1 by omega) (show v9_3.toInt + 1 ≤ 2147483647 by omega)
          replace hM := hM.lt ex46.symm
          refine lv_goto (tgt := 9) hx hb dX10_leastBelow_33 (by decide) ?_
          exact ih9 x46 H locs ls w41 (show 0 ≤ a1.toInt from r2) (show a1.toInt ≤ 6 from t3) (show 0 ≤ a2.toInt from r4) (show a2.toInt ≤ 8191 from t5) (show 0 ≤ x46.toInt by first | with_reducible assumption | omega) (show x46.toInt ≤ 6 by first | with_reducible assumption | omega) (show (6 - x46.toInt).toNat < n9 by first | exact tn_lt hm9 (by omega) (by omega) | omega) hw hT hF hM (lv_sub hl [1, 2, 3, 0] rfl)
  have hM : TT (fun n => m_X10_leastBelow n 158 a1.toInt a2.toInt (sI w0)) (fun n => j_X10_leastBelow 158 n 1000 [a1.toInt, a2.toInt] (sI w0)) := TT.rf
  replace hM := hM.suc (fun _ => e_X10_leastBelow_e)
  refine lv_aload_n hx hb dX10_leastBelow_0 rfl (lv_at hl 0 rfl) ?_
  refine lv_iload_n hx hb dX10_leastBelow_1 rfl (lv_at hl 1 rfl) ?_
  refine lv_iload_n hx hb dX10_leastBelow_2 rfl (lv_at hl 2 rfl) ?_
  refine lv_iconst (v := (-1)) hx hb dX10_leastBelow_3 (by decide) ?_
  refine tk_Vv hC hK hw hT hA hE hSR kC_at158 (by decide) rfl (kz_X10_layRoads_1 l adK adV dC dI cy ad B hB0 (Int.le_trans hB1 (by decide)) qr s1   a1 (show 0 ≤ a1.toInt from ra1) (show a1.toInt ≤ 12 from Int.le_trans ta1 (by decide)) a2 (show 0 ≤ a2.toInt from ra2) (show a2.toInt ≤ 8191 from ta2) ((-1)) (by decide) (by decide) w0 s.heap.size hT ) (cwV 3 hC.2.2.2.2 uV_RX10_42 rfl rfl rfl (by decide +kernel) ⟨Nat.le_of_ble_eq_true rfl, Nat.le_of_ble_eq_true rfl⟩) rfl hl.1 rfl (Nat.le_of_ble_eq_true rfl) dX10_leastBelow_4 (fun w49 H locs hp48 hw => ?_)
  obtain ⟨hT, k50, hv52, hg51⟩ := hp48
  try simp only [show ((-1) : Int32).toInt = (-1) by decide] at hv52
  have hF := hF.tr k50 (by decide)
  clear hg51
  replace hM := hM.call hv52 rfl
  refine lv_iconst (v := 0) hx hb dX10_leastBelow_7 (by decide) ?_
  refine lv_istore_n (lv' := [(3, .int 0), (0, .ref (ad 158)), (1, .int a1), (2, .int a2)]) hx hb dX10_leastBelow_8 rfl hl (by decide) rfl (fun ls hl => ?_)
  exact L9 ((6 - (0 : Int)).toNat + 1) 0 H locs ls w49 (show 0 ≤ a1.toInt from ra1) (show a1.toInt ≤ 6 from ta1) (show 0 ≤ a2.toInt from ra2) (show a2.toInt ≤ 8191 from ta2) (by decide) (by decide) (Nat.lt_succ_self _) hw hT hF hM (lv_sub hl [1, 2, 3, 0] rfl)
abbrev Pz_X10_leastBelow_6 (ad : Nat → Nat) (cy : Nat → ClassId) (B : Int) (qr : Nat) (s1 : Int) (a1 : Int32) (a2 : Int32) (w0 : va_W) : Int32 → va_W → Prop := fun r u => TW ksC ad cy B qr s1 u ∧ FE ksC [(51, 0, 10)] w0 u ∧ Ev (fun n => m_X10_leastBelow n 158 a1.toInt a2.toInt (sI w0)) (r.toInt, sI u) ∧ ((0 ≤ r.toInt ∧ r.toInt ≤ 8191) ∨ (r = (-1) ∧ (∃ y : Int32, gi u 38 10 = y ∧ 1 ≤ y.toInt ∧ y.toInt ≤ 6)))
set_option maxHeartbeats 4000000 in
set_option maxRecDepth 100000 in
theorem kz_X10_leastBelow_6 (l : Launch) (adK adV : Nat → Nat) (dC : Nat → ClassId) (dI : Nat → Nat → Nat) (cy : Nat → ClassId) (ad : Nat → Nat) (B : Int) (hB0 : 2147483648 ≤ B) (hB1 : B ≤ 1152921504606846976) (qr : Nat) (s1 : Int)  (a1 : Int32) (ra1 : 0 ≤ a1.toInt) (ta1 : a1.toInt ≤ 7) (a2 : Int32) (ra2 : 0 ≤ a2.toInt) (ta2 : a2.toInt ≤ 8191) (w0 : va_W) (sz : Nat) (hT : TW ksC ad cy B qr s1 w0)  : Met l yX10_leastBelow (wu yX10_leastBelow cX10_leastBelow 4 (some .int)) ({ frames := 10, cells := 0, slots := 0, locals := 220 }) (va_Pc [.ref (ad 158), .int a1, .int a2] (wpreS adK adV dC dI cy sz w0)) (va_Qi (Pz_X10_leastBelow_6 ad cy B qr s1 a1 a2 w0) (fun u : va_W => wpost dC dI cy (va_A w0 sz) u) (va_A w0 sz)) 0 0 (va_A w0 sz) := by
  refine Met.ofW (cc := cX10_leastBelow) (maxL := 4) (ret := (some .int)) (by decide) rfl ?_
  intro p e s m args below meth c s₁ Bk hml hv
  obtain ⟨rfl, ⟨hsz, hP, hK, hD0⟩, hE, hSR⟩ := hv
  have hx := Bk.exec
  have hb := Bk.bytes
  have hr := Bk.returns
  have hlocks := Bk.notSynchronized
  have hC : CallFix p m c cX10_leastBelow 4 s _ (wu yX10_leastBelow cX10_leastBelow 4 (some .int)) RX10 := ⟨hx, hb, hml, findClass_of_methodNamed Bk.named, atoms_spec (ws := (wu yX10_leastBelow cX10_leastBelow 4 (some .int))) Bk.pre⟩
  subst hsz
  have hD := hD0.self (sz := s.heap.size)
  generalize hAe : va_A w0 s.heap.size = A at hD hE ⊢
  have hA : ∀ q : Nat, s.heap.size ≤ q → A q := fun q h => by rw [← hAe]; exact Or.inr h
  have hw : Wd dC dI A s.heap s.heap [] w0 := ⟨hP, hD, va_S.rf⟩
  have hF : FE ksC [(51, 0, 10)] w0 w0 := FE.rf
  have hl := lv_entry ([.ref (ad 158), .int a1, .int a2]) (n := 4) (Nat.le_of_ble_eq_true rfl)
  rw [lg_entry_eq]
  generalize (lg_sl ([.ref (ad 158), .int a1, .int a2]) ++ List.replicate (4 - (lg_sl ([.ref (ad 158), .int a1, .int a2])).length) Slot.unset).toArray = ls at hl ⊢
  have hl : lv_has ls 4 [(0, .ref (ad 158)), (1, .int a1), (2, .int a2)] := hl
  generalize hloc : ([] : List Loc) = locs at hw ⊢
  have hinX10 : ∀ w ∈ u_ws RX10 TX10 5, w ∈ (wu yX10_leastBelow cX10_leastBelow 4 (some .int)) := fun _ h => List.mem_cons_of_mem _ (up_81 h)
  have hinX5 : ∀ w ∈ u_ws RX5 TX5 14, w ∈ (wu yX10_leastBelow cX10_leastBelow 4 (some .int)) := fun _ h => List.mem_cons_of_mem _ (up_76 h)
  have L9 : ∀ (n9 : Nat) (v9_3 : Int32) (H : Heap) (locs : List Loc) (ls : Array Slot) (w1 : va_W), 0 ≤ a1.toInt → a1.toInt ≤ 7 → 0 ≤ a2.toInt → a2.toInt ≤ 8191 → 0 ≤ v9_3.toInt → v9_3.toInt ≤ 6 → (6 - v9_3.toInt).toNat < n9 → Wd dC dI A s.heap H locs w1 → TW ksC ad cy B qr s1 w1 → FE ksC [(51, 0, 10)] w0 w1 → TT (fun n => m_X10_leastBelow n 158 a1.toInt a2.toInt (sI w0)) (fun n => j_X10_leastBelow 158 n 1009 [a1.toInt, a2.toInt, v9_3.toInt] (sI w1)) → lv_has ls 4 [(0, .ref (ad 158)), (1, .int a1), (2, .int a2), (3, .int v9_3)] → W p l e ({ frames := 10, cells := 0, slots := 0, locals := 220 }) s m (List.toArray [.ref (ad 158), .int a1, .int a2]) below meth c H locs 0 0 (MQ below (va_Qi (Pz_X10_leastBelow_6 ad cy B qr s1 a1 a2 w0) (fun u : va_W => wpost dC dI cy A u) A) (List.toArray [.ref (ad 158), .int a1, .int a2]) s 0 0 A) (F0 m 9 ls []) := by
    intro n9
    induction n9 with
    | zero => intro v9_3 H locs ls w1 r2 t3 r4 t5 r6 t7 hm9 hw hT hF hM hl; omega
    | succ n9 ih9 =>
      intro v9_3 H locs ls w1 r2 t3 r4 t5 r6 t7 hm9 hw hT hF hM hl
      replace hM := hM.suc (fun _ => e_X10_leastBelow_9)
      refine lv_iload_n hx hb dX10_leastBelow_9 rfl (lv_at hl 3 rfl) ?_
      refine lv_aload_n hx hb dX10_leastBelow_10 rfl (lv_at hl 0 rfl) ?_
      refine tk_getA hC hK hw hT hinX10 kC_at158 (by decide) rfl 0 (by decide) (List.mem_cons_of_mem _ uw_6_6) rfl rfl dX10_leastBelow_11 ?_
      refine tk_geti hC hK hw hT hinX5 kC_at38 (by decide) rfl 10 (by decide) (List.mem_cons_of_mem _ uw_60_6) rfl rfl dX10_leastBelow_14 (fun x8 c9 rx8 tx8 => ?_)
      replace hM := hM.rd (sI_at c9)
      refine lv_icmp_ge (tgt := 36) hx hb dX10_leastBelow_17 (by decide) (fun c10 => ?_) (fun c10 => ?_)
      · have c10 : x8.toInt ≤ v9_3.toInt := wk_le.mp c10
        replace hM := hM.pos c10
        refine lv_iload_n hx hb dX10_leastBelow_36 rfl (lv_at hl 1 rfl) ?_
        refine lv_if_gt (tgt := 42) hx hb dX10_leastBelow_37 (by decide) (fun c11 => ?_) (fun c11 => ?_)
        · have c11 : (0 : Int) < a1.toInt := wk_lt.mp c11
          replace hM := hM.pos c11
          refine lv_aload_n hx hb dX10_leastBelow_42 rfl (lv_at hl 0 rfl) ?_
          refine lv_iload_n hx hb dX10_leastBelow_43 rfl (lv_at hl 1 rfl) ?_
          refine lv_iconst (v := 1) hx hb dX10_leastBelow_44 (by decide) ?_
          refine lv_isub hx hb dX10_leastBelow_45 ?_
          refine lv_topi (fun x12 ex12 => ?_)
          have ezx12 := ex12
          have ex12 : x12.toInt = a1.toInt - (1 : Int) := by rw [ex12]; exact wk_sub (show (-2147483648) ≤ a1.toInt - (1 : Int) by omega) (show a1.toInt - (1 : Int) ≤ 2147483647 by omega)
          replace hM := hM.lt ex12.symm
          refine lv_iload_n hx hb dX10_leastBelow_46 rfl (lv_at hl 2 rfl) ?_
          refine tk_Vi hC hK hw hT hA hE hSR kC_at158 (by decide) rfl (kz_X10_leastBelow_7 l adK adV dC dI cy ad B hB0 (Int.le_trans hB1 (by decide)) qr s1   x12 (show 0 ≤ x12.toInt by first | with_reducible assumption | omega) (show x12.toInt ≤ 6 by first | with_reducible assumption | omega) a2 (show 0 ≤ a2.toInt from r4) (show a2.toInt ≤ 8191 from t5) w1 H.size hT ) (cwV 2 hC.2.2.2.2 uV_RX10_72 rfl rfl rfl (by decide +kernel) ⟨Nat.le_of_ble_eq_true rfl, Nat.le_of_ble_eq_true rfl⟩) rfl hl.1 rfl (Nat.le_of_ble_eq_true rfl) dX10_leastBelow_47 (fun r13 w15 H locs hp14 hw => ?_)
          obtain ⟨hT, k16, hv22, hg21⟩ := hp14
          have hF := hF.tr k16 (by decide)
          have c23 := k16.gi kC_at38 (by decide) c9
          rcases hg21 with ⟨g17, g18⟩ | ⟨rfl, ⟨x19, c20, rx19, tx19⟩⟩
          · replace hM := hM.call hv22 rfl
            refine lv_istore_n (lv' := [(3, .int r13), (0, .ref (ad 158)), (1, .int a1), (2, .int a2)]) hx hb dX10_leastBelow_50 rfl hl (by decide) rfl (fun ls hl => ?_)
            refine lv_iload_n hx hb dX10_leastBelow_51 rfl (lv_at hl 0 rfl) ?_
            refine lv_iconst (v := (-1)) hx hb dX10_leastBelow_52 (by decide) ?_
            refine lv_icmp_eq (tgt := 60) hx hb dX10_leastBelow_53 (by decide) (fun c => absurd c (fun h => absurd (show r13.toInt = (-1 : Int) from wk_eq.mp h) (by omega))) (fun _ => ?_)
            replace hM := hM.neg (by omega)
            refine lv_iload_n hx hb dX10_leastBelow_56 rfl (lv_at hl 0 rfl) ?_
            refine lv_goto (tgt := 74) hx hb dX10_leastBelow_57 (by decide) ?_
            exact tk_iret hC hr hlocks hK ⟨hT, hF, hM.ret rfl, (Or.inl ⟨(show 0 ≤ r13.toInt by first | with_reducible assumption | omega), (show r13.toInt ≤ 8191 by first | with_reducible assumption | omega)⟩)⟩ hw dX10_leastBelow_74
          · replace hM := hM.call (r' := (-1)) hv22 (by decide)
            have ex19 : x19.toInt = x8.toInt := by rw [← c23.symm.trans c20]
            refine lv_istore_n (lv' := [(3, .int (-1)), (0, .ref (ad 158)), (1, .int a1), (2, .int a2)]) hx hb dX10_leastBelow_50 rfl hl (by decide) rfl (fun ls hl => ?_)
            refine lv_iload_n hx hb dX10_leastBelow_51 rfl (lv_at hl 0 rfl) ?_
            refine lv_iconst (v := (-1)) hx hb dX10_leastBelow_52 (by decide) ?_
            refine lv_icmp_eq (tgt := 60) hx hb dX10_leastBelow_53 (by decide) (fun _ => ?_) (fun c => absurd (by decide) c)
            replace hM := hM.pos (by decide)
            refine lv_aload_n hx hb dX10_leastBelow_60 rfl (lv_at hl 1 rfl) ?_
            refine lv_iload_n hx hb dX10_leastBelow_61 rfl (lv_at hl 2 rfl) ?_
            refine lv_iconst (v := 1) hx hb dX10_leastBelow_62 (by decide) ?_
            refine lv_isub hx hb dX10_leastBelow_63 ?_
            refine lv_topi (fun x24 ex24 => ?_)
            have ezx24 := ex24
            have ex24 : x24.toInt = a1.toInt - (1 : Int) := by rw [ex24]; exact wk_sub (show (-2147483648) ≤ a1.toInt - (1 : Int) by omega) (show a1.toInt - (1 : Int) ≤ 2147483647 by omega)
            replace hM := hM.lt ex24.symm
            refine lv_iload_n hx hb dX10_leastBelow_64 rfl (lv_at hl 3 rfl) ?_
            refine lv_iconst (v := 1) hx hb dX10_leastBelow_65 (by decide) ?_
            refine lv_iload_n hx hb dX10_leastBelow_66 rfl (lv_at hl 2 rfl) ?_
            refine lv_iconst (v := 1) hx hb dX10_leastBelow_67 (by decide) ?_
            refine lv_isub hx hb dX10_leastBelow_68 ?_
            refine lv_topi (fun x25 ex25 => ?_)
            have ezx25 := ex25
            have ex25 : x25.toInt = a1.toInt - (1 : Int) := by rw [ex25]; exact wk_sub (show (-2147483648) ≤ a1.toInt - (1 : Int) by omega) (show a1.toInt - (1 : Int) ≤ 2147483647 by omega)
            replace hM := hM.lt ex25.symm
            refine lv_ishl hx hb dX10_leastBelow_69 ?_
            refine lv_topi (fun x26 ex26 => ?_)
            have ezx26 := ex26
            have bx26 : 1 ≤ x26.toInt ∧ x26.toInt ≤ 64 := by rw [ex26]; exact wk_shl1 6 (by decide) (by omega) (by omega)
            replace hM := hM.lt (o32_e (f := fun x y => x <<< (y &&& 31)) ezx26 (by decide) rfl)
            refine lv_ior hx hb dX10_leastBelow_70 ?_
            refine lv_topi (fun x27 ex27 => ?_)
            have ezx27 := ex27
            have bx27 : 0 ≤ x27.toInt ∧ x27.toInt < 8192 := by rw [ex27]; exact wk_or 13 (by decide) (by omega) (by omega) (by omega) (by omega)
            have mx27 : a2.toInt ≤ x27.toInt ∧ x26.toInt ≤ x27.toInt := by rw [ex27]; exact wk_orL 13 (by decide) (by omega) (by omega) (by omega) (by omega)
            replace hM := hM.lt (o32_e (f := fun x y => x ||| y) ezx27 rfl rfl)
            refine tk_Vi hC hK hw hT hA hE hSR kC_at158 (by decide) rfl (kz_X10_leastBelow_7 l adK adV dC dI cy ad B hB0 (Int.le_trans hB1 (by decide)) qr s1   x24 (show 0 ≤ x24.toInt by first | with_reducible assumption | omega) (show x24.toInt ≤ 6 by first | with_reducible assumption | omega) x27 (show 0 ≤ x27.toInt by first | with_reducible assumption | omega) (show x27.toInt ≤ 8191 by first | with_reducible assumption | omega) w15 H.size hT ) (cwV 2 hC.2.2.2.2 uV_RX10_72 rfl rfl rfl (by decide +kernel) ⟨Nat.le_of_ble_eq_true rfl, Nat.le_of_ble_eq_true rfl⟩) rfl hl.1 rfl (Nat.le_of_ble_eq_true rfl) dX10_leastBelow_71 (fun r28 w30 H locs hp29 hw => ?_)
            obtain ⟨hT, k31, hv37, hg36⟩ := hp29
            have hF := hF.tr k31 (by decide)
            have c38 := k31.gi kC_at38 (by decide) c23
            rcases hg36 with ⟨g32, g33⟩ | ⟨rfl, ⟨x34, c35, rx34, tx34⟩⟩
            · replace hM := hM.call hv37 rfl
              exact tk_iret hC hr hlocks hK ⟨hT, hF, hM.ret rfl, (Or.inl ⟨(show 0 ≤ r28.toInt by first | with_reducible assumption | omega), (show r28.toInt ≤ 8191 by first | with_reducible assumption | omega)⟩)⟩ hw dX10_leastBelow_74
            · replace hM := hM.call (r' := (-1)) hv37 (by decide)
              have ex34 : x34.toInt = x8.toInt := by rw [← c38.symm.trans c35]
              exact tk_iret hC hr hlocks hK ⟨hT, hF, hM.ret (by decide), (Or.inr ⟨rfl, ⟨x8, c38, (show 1 ≤ x8.toInt by first | with_reducible assumption | omega), (show x8.toInt ≤ 6 from tx8)⟩⟩)⟩ hw dX10_leastBelow_74
        · have c11 : a1.toInt ≤ (0 : Int) := wk_ltF c11
          replace hM := hM.neg (Int.not_lt.mpr c11)
          refine lv_iload_n hx hb dX10_leastBelow_40 rfl (lv_at hl 2 rfl) ?_
          exact tk_iret hC hr hlocks hK ⟨hT, hF, hM.ret rfl, (Or.inl ⟨(show 0 ≤ a2.toInt from r4), (show a2.toInt ≤ 8191 from t5)⟩)⟩ hw dX10_leastBelow_41
      · have c10 : v9_3.toInt < x8.toInt := wk_leF c10
        replace hM := hM.neg (Int.not_le.mpr c10)
        refine lv_aload_n hx hb dX10_leastBelow_20 rfl (lv_at hl 0 rfl) ?_
        refine lv_iload_n hx hb dX10_leastBelow_21 rfl (lv_at hl 3 rfl) ?_
        refine tk_Vi hC hK hw hT hA hE hSR kC_at158 (by decide) rfl (kz_X10_canDo_1 l adK adV dC dI cy ad B hB0 (Int.le_trans hB1 (by decide)) qr s1   v9_3 (show 0 ≤ v9_3.toInt from r6) (show v9_3.toInt ≤ 5 by first | with_reducible assumption | omega) w1 H.size hT ) (cwV 1 hC.2.2.2.2 uV_RX10_49 rfl rfl rfl (by decide +kernel) ⟨Nat.le_of_ble_eq_true rfl, Nat.le_of_ble_eq_true rfl⟩) rfl hl.1 rfl (Nat.le_of_ble_eq_true rfl) dX10_leastBelow_22 (fun r39 w41 H locs hp40 hw => ?_)
        obtain ⟨hT, k42, hv44, hg43⟩ := hp40
        have hF := hF.tr k42 (by decide)
        have c45 := k42.gi kC_at38 (by decide) c9
        rcases hg43 with rfl | rfl
        · replace hM := hM.call (r' := 0) hv44 (by decide)
          refine lv_if_ne (tgt := 30) hx hb dX10_leastBelow_25 (by decide) (fun c => absurd (by decide) c) (fun _ => ?_)
          replace hM := hM.neg (by decide)
          refine lv_iconst (v := (-1)) hx hb dX10_leastBelow_28 (by decide) ?_
          exact tk_iret hC hr hlocks hK ⟨hT, hF, hM.ret (by decide), (Or.inr ⟨rfl, ⟨x8, c45, (show 1 ≤ x8.toInt by first | with_reducible assumption | omega), (show x8.toInt ≤ 6 from tx8)⟩⟩)⟩ hw dX10_leastBelow_29
        · replace hM := hM.call (r' := 1) hv44 (by decide)
          refine lv_if_ne (tgt := 30) hx hb dX10_leastBelow_25 (by decide) (fun _ => ?_) (fun c => absurd c (by decide))
          replace hM := hM.pos (by decide)
          obtain ⟨x46, ex46⟩ : ∃ y : Int32, y = v9_3 + Int32.ofInt 1 := ⟨_, rfl⟩
          have erx46 := ex46
          refine lv_iinc (v := x46) (lv' := [(3, .int x46), (0, .ref (ad 158)), (1, .int a1), (2, .int a2)]) hx hb dX10_leastBelow_30 hl (k := 3) rfl ex46.symm (by decide) rfl (fun ls hl => ?_)
          have ex46 : x46.toInt = v9_3.toInt + 1 := by rw [ex46]; exact wk_add (y := 1) (show -2147483648 ≤ v9_3.toInt + 1 by omega) (show v9_3.toInt + 1 ≤ 2147483647 by omega)
          replace hM := hM.lt ex46.symm
          refine lv_goto (tgt := 9) hx hb dX10_leastBelow_33 (by decide) ?_
          exact ih9 x46 H locs ls w41 (show 0 ≤ a1.toInt from r2) (show a1.toInt ≤ 7 from t3) (show 0 ≤ a2.toInt from r4) (show a2.toInt ≤ 8191 from t5) (show 0 ≤ x46.toInt by first | with_reducible assumption | omega) (show x46.toInt ≤ 6 by first | with_reducible assumption | omega) (show (6 - x46.toInt).toNat < n9 by first | exact tn_lt hm9 (by omega) (by omega) | omega) hw hT hF hM (lv_sub hl [1, 2, 3, 0] rfl)
  have hM : TT (fun n => m_X10_leastBelow n 158 a1.toInt a2.toInt (sI w0)) (fun n => j_X10_leastBelow 158 n 1000 [a1.toInt, a2.toInt] (sI w0)) := TT.rf
  replace hM := hM.suc (fun _ => e_X10_leastBelow_e)
  refine lv_aload_n hx hb dX10_leastBelow_0 rfl (lv_at hl 0 rfl) ?_
  refine lv_iload_n hx hb dX10_leastBelow_1 rfl (lv_at hl 1 rfl) ?_
  refine lv_iload_n hx hb dX10_leastBelow_2 rfl (lv_at hl 2 rfl) ?_
  refine lv_iconst (v := (-1)) hx hb dX10_leastBelow_3 (by decide) ?_
  refine tk_Vv hC hK hw hT hA hE hSR kC_at158 (by decide) rfl (kz_X10_layRoads_1 l adK adV dC dI cy ad B hB0 (Int.le_trans hB1 (by decide)) qr s1   a1 (show 0 ≤ a1.toInt from ra1) (show a1.toInt ≤ 12 from Int.le_trans ta1 (by decide)) a2 (show 0 ≤ a2.toInt from ra2) (show a2.toInt ≤ 8191 from ta2) ((-1)) (by decide) (by decide) w0 s.heap.size hT ) (cwV 3 hC.2.2.2.2 uV_RX10_42 rfl rfl rfl (by decide +kernel) ⟨Nat.le_of_ble_eq_true rfl, Nat.le_of_ble_eq_true rfl⟩) rfl hl.1 rfl (Nat.le_of_ble_eq_true rfl) dX10_leastBelow_4 (fun w49 H locs hp48 hw => ?_)
  obtain ⟨hT, k50, hv52, hg51⟩ := hp48
  try simp only [show ((-1) : Int32).toInt = (-1) by decide] at hv52
  have hF := hF.tr k50 (by decide)
  clear hg51
  replace hM := hM.call hv52 rfl
  refine lv_iconst (v := 0) hx hb dX10_leastBelow_7 (by decide) ?_
  refine lv_istore_n (lv' := [(3, .int 0), (0, .ref (ad 158)), (1, .int a1), (2, .int a2)]) hx hb dX10_leastBelow_8 rfl hl (by decide) rfl (fun ls hl => ?_)
  exact L9 ((6 - (0 : Int)).toNat + 1) 0 H locs ls w49 (show 0 ≤ a1.toInt from ra1) (show a1.toInt ≤ 7 from ta1) (show 0 ≤ a2.toInt from ra2) (show a2.toInt ≤ 8191 from ta2) (by decide) (by decide) (Nat.lt_succ_self _) hw hT hF hM (lv_sub hl [1, 2, 3, 0] rfl)
