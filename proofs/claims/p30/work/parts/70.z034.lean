abbrev Pz_X12_sumOf_1 (ad : Nat → Nat) (cy : Nat → ClassId) (B : Int) (qr : Nat) (s1 : Int) (a1 : Int32) (w0 : va_W) : Int32 → va_W → Prop := fun r u => TW ksM ad cy B qr 13 u ∧ FE ksM [(77, 0, 10), (78, 0, 10)] w0 u ∧ Ev (fun n => m_X12_sumOf n 0 a1.toInt (sI w0)) (r.toInt, sI u) ∧ ((True))
set_option maxHeartbeats 4000000 in
set_option maxRecDepth 100000 in
theorem kz_X12_sumOf_1 (l : Launch) (adK adV : Nat → Nat) (dC : Nat → ClassId) (dI : Nat → Nat → Nat) (cy : Nat → ClassId) (ad : Nat → Nat) (B : Int) (hB0 : 100000 ≤ B) (hB1 : B ≤ 1073741824) (qr : Nat) (s1 : Int)  (a1 : Int32) (ra1 : 0 ≤ a1.toInt) (ta1 : a1.toInt ≤ 99999) (w0 : va_W) (sz : Nat) (hT : TW ksM ad cy B qr 13 w0)  : Met l yX12_sumOf (wu yX12_sumOf cX12_sumOf 5 (some .int)) ({ frames := 6, cells := 0, slots := 0, locals := 133 }) (va_Pc [.ref (ad 0), .int a1] (wpreS adK adV dC dI cy sz w0)) (va_Qi (Pz_X12_sumOf_1 ad cy B qr s1 a1 w0) (fun u : va_W => wpost dC dI cy (va_A w0 sz) u) (va_A w0 sz)) 0 0 (va_A w0 sz) := by
  refine Met.ofW (cc := cX12_sumOf) (maxL := 5) (ret := (some .int)) (by decide) rfl ?_
  intro p e s m args below meth c s₁ Bk hml hv
  obtain ⟨rfl, ⟨hsz, hP, hK, hD0⟩, hE, hSR⟩ := hv
  have hx := Bk.exec
  have hb := Bk.bytes
  have hr := Bk.returns
  have hlocks := Bk.notSynchronized
  have hC : CallFix p m c cX12_sumOf 5 s _ (wu yX12_sumOf cX12_sumOf 5 (some .int)) RX12 := ⟨hx, hb, hml, findClass_of_methodNamed Bk.named, atoms_spec (ws := (wu yX12_sumOf cX12_sumOf 5 (some .int))) Bk.pre⟩
  subst hsz
  have hD := hD0.self (sz := s.heap.size)
  generalize hAe : va_A w0 s.heap.size = A at hD hE ⊢
  have hA : ∀ q : Nat, s.heap.size ≤ q → A q := fun q h => by rw [← hAe]; exact Or.inr h
  have hw : Wd dC dI A s.heap s.heap [] w0 := ⟨hP, hD, va_S.rf⟩
  have hF : FE ksM [(77, 0, 10), (78, 0, 10)] w0 w0 := FE.rf
  have hl := lv_entry ([.ref (ad 0), .int a1]) (n := 5) (Nat.le_of_ble_eq_true rfl)
  rw [lg_entry_eq]
  generalize (lg_sl ([.ref (ad 0), .int a1]) ++ List.replicate (5 - (lg_sl ([.ref (ad 0), .int a1])).length) Slot.unset).toArray = ls at hl ⊢
  have hl : lv_has ls 5 [(0, .ref (ad 0)), (1, .int a1)] := hl
  generalize hloc : ([] : List Loc) = locs at hw ⊢
  have hinX12 : ∀ w ∈ u_ws RX12 TX12 42, w ∈ (wu yX12_sumOf cX12_sumOf 5 (some .int)) := fun _ h => List.mem_cons_of_mem _ (up_71 h)
  have L4 : ∀ (n4 : Nat) (v4_2 : Int32) (v4_3 : Int32) (H : Heap) (locs : List Loc) (ls : Array Slot) (w1 : va_W), 0 ≤ a1.toInt → a1.toInt ≤ 99999 → 0 ≤ v4_3.toInt → v4_3.toInt ≤ 6 → (6 - v4_3.toInt).toNat < n4 → Wd dC dI A s.heap H locs w1 → TW ksM ad cy B qr 13 w1 → FE ksM [(77, 0, 10), (78, 0, 10)] w0 w1 → TT (fun n => m_X12_sumOf n 0 a1.toInt (sI w0)) (fun n => j_X12_sumOf 0 n 4 [a1.toInt, v4_2.toInt, v4_3.toInt] (sI w1)) → lv_has ls 5 [(0, .ref (ad 0)), (1, .int a1), (2, .int v4_2), (3, .int v4_3)] → W p l e ({ frames := 6, cells := 0, slots := 0, locals := 133 }) s m (List.toArray [.ref (ad 0), .int a1]) below meth c H locs 0 0 (MQ below (va_Qi (Pz_X12_sumOf_1 ad cy B qr s1 a1 w0) (fun u : va_W => wpost dC dI cy A u) A) (List.toArray [.ref (ad 0), .int a1]) s 0 0 A) (F0 m 4 ls []) := by
    intro n4
    induction n4 with
    | zero => intro v4_2 v4_3 H locs ls w1 r2 t3 r4 t5 hm4 hw hT hF hM hl; omega
    | succ n4 ih4 =>
      intro v4_2 v4_3 H locs ls w1 r2 t3 r4 t5 hm4 hw hT hF hM hl
      replace hM := hM.suc (fun _ => e_X12_sumOf_4)
      refine lv_iload_n hx hb dX12_sumOf_4 rfl (lv_at hl 3 rfl) ?_
      refine lv_aload_n hx hb dX12_sumOf_5 rfl (lv_at hl 0 rfl) ?_
      refine tk_getA hC hK hw hT hinX12 kM_at0 (by decide) rfl 26 (by decide) (List.mem_cons_of_mem _ uw_7_1) rfl rfl dX12_sumOf_6 ?_
      refine lv_bipush (v := 6) hx hb dX12_sumOf_9 (by decide) ?_
      refine tk_ialdR hC hK hw hT kM_at12 rfl (by decide) (by decide) dX12_sumOf_11 (fun x6 c7 Ex6 => ?_)
      have hox6 := c7
      replace hM := hM.rd (sI_at hox6)
      have bx6 := tk_rgI rfl 6 1 1 0 6 (by decide +kernel) ⟨0, by decide, by decide⟩ Ex6
      have c7 : gi w1 12 6 = x6 := c7
      refine lv_icmp_ge (tgt := 80) hx hb dX12_sumOf_12 (by decide) (fun c8 => ?_) (fun c8 => ?_)
      · have c8 : x6.toInt ≤ v4_3.toInt := wk_le.mp c8
        replace hM := hM.pos c8
        refine lv_iload_n hx hb dX12_sumOf_80 rfl (lv_at hl 2 rfl) ?_
        exact tk_iret hC hr hlocks hK ⟨hT, hF, hM.ret rfl, trivial⟩ hw dX12_sumOf_81
      · have c8 : v4_3.toInt < x6.toInt := wk_leF c8
        replace hM := hM.neg (Int.not_le.mpr c8)
        refine lv_aload_n hx hb dX12_sumOf_15 rfl (lv_at hl 0 rfl) ?_
        refine lv_aload_n hx hb dX12_sumOf_16 rfl (lv_at hl 0 rfl) ?_
        refine tk_getA hC hK hw hT hinX12 kM_at0 (by decide) rfl 26 (by decide) (List.mem_cons_of_mem _ uw_7_1) rfl rfl dX12_sumOf_17 ?_
        refine lv_sipush (v := 252) hx hb dX12_sumOf_20 (by decide) ?_
        refine lv_iconst (v := 2) hx hb dX12_sumOf_23 (by decide) ?_
        refine lv_iload_n hx hb dX12_sumOf_24 rfl (lv_at hl 3 rfl) ?_
        refine lv_imul hx hb dX12_sumOf_25 ?_
        refine lv_topi (fun x9 ex9 => ?_)
        have ezx9 := ex9
        have ex9 : x9.toInt = (2 : Int) * v4_3.toInt := by rw [ex9]; exact wk_mul (show (-2147483648) ≤ (2 : Int) * v4_3.toInt by omega) (show (2 : Int) * v4_3.toInt ≤ 2147483647 by omega)
        replace hM := hM.lt ex9.symm
        refine lv_iadd hx hb dX12_sumOf_26 ?_
        refine lv_topi (fun x10 ex10 => ?_)
        have ezx10 := ex10
        have ex10 : x10.toInt = (252 : Int) + x9.toInt := by rw [ex10]; exact wk_add (show (-2147483648) ≤ (252 : Int) + x9.toInt by omega) (show (252 : Int) + x9.toInt ≤ 2147483647 by omega)
        replace hM := hM.lt ex10.symm
        refine tk_ialdR hC hK hw hT kM_at12 rfl (show 0 ≤ x10.toInt by first | with_reducible assumption | omega) (show x10.toInt < 296 by first | with_reducible assumption | omega) dX12_sumOf_27 (fun x11 c12 Ex11 => ?_)
        have hox11 := c12
        have c12 : gi w1 12 (2 * v4_3.toInt + 252).toNat = x11 := (congrArg (gi w1 12) (congrArg Int.toNat (show 2 * v4_3.toInt + 252 = x10.toInt by first | exact Int.le_antisymm (by omega) (by omega) | omega))).trans c12
        replace hM := hM.rd (sI_at hox11)
        have bx11 := tk_rgI rfl 252 2 6 0 9 (by decide +kernel) ⟨(v4_3.toInt - 0).toNat, by omega, show x10.toInt.toNat = 252 + 2 * (v4_3.toInt - 0).toNat by omega⟩ Ex11
        refine lv_aload_n hx hb dX12_sumOf_28 rfl (lv_at hl 0 rfl) ?_
        refine tk_getA hC hK hw hT hinX12 kM_at0 (by decide) rfl 26 (by decide) (List.mem_cons_of_mem _ uw_7_1) rfl rfl dX12_sumOf_29 ?_
        refine lv_sipush (v := 252) hx hb dX12_sumOf_32 (by decide) ?_
        refine lv_iconst (v := 2) hx hb dX12_sumOf_35 (by decide) ?_
        refine lv_iload_n hx hb dX12_sumOf_36 rfl (lv_at hl 3 rfl) ?_
        refine lv_imul hx hb dX12_sumOf_37 ?_
        refine lv_topi (fun x13 ex13 => ?_)
        have ezx13 := ex13
        have ex13 : x13.toInt = (2 : Int) * v4_3.toInt := by rw [ex13]; exact wk_mul (show (-2147483648) ≤ (2 : Int) * v4_3.toInt by omega) (show (2 : Int) * v4_3.toInt ≤ 2147483647 by omega)
        replace hM := hM.lt ex13.symm
        refine lv_iadd hx hb dX12_sumOf_38 ?_
        refine lv_topi (fun x14 ex14 => ?_)
        have ezx14 := ex14
        have ex14 : x14.toInt = (252 : Int) + x13.toInt := by rw [ex14]; exact wk_add (show (-2147483648) ≤ (252 : Int) + x13.toInt by omega) (show (252 : Int) + x13.toInt ≤ 2147483647 by omega)
        replace hM := hM.lt ex14.symm
        refine lv_iconst (v := 1) hx hb dX12_sumOf_39 (by decide) ?_
        refine lv_iadd hx hb dX12_sumOf_40 ?_
        refine lv_topi (fun x15 ex15 => ?_)
        have ezx15 := ex15
        have ex15 : x15.toInt = x14.toInt + (1 : Int) := by rw [ex15]; exact wk_add (show (-2147483648) ≤ x14.toInt + (1 : Int) by omega) (show x14.toInt + (1 : Int) ≤ 2147483647 by omega)
        replace hM := hM.lt ex15.symm
        refine tk_ialdR hC hK hw hT kM_at12 rfl (show 0 ≤ x15.toInt by first | with_reducible assumption | omega) (show x15.toInt < 296 by first | with_reducible assumption | omega) dX12_sumOf_41 (fun x16 c17 Ex16 => ?_)
        have hox16 := c17
        have c17 : gi w1 12 (2 * v4_3.toInt + 253).toNat = x16 := (congrArg (gi w1 12) (congrArg Int.toNat (show 2 * v4_3.toInt + 253 = x15.toInt by first | exact Int.le_antisymm (by omega) (by omega) | omega))).trans c17
        replace hM := hM.rd (sI_at hox16)
        have bx16 := tk_rgI rfl 253 2 6 0 9 (by decide +kernel) ⟨(v4_3.toInt - 0).toNat, by omega, show x15.toInt.toNat = 253 + 2 * (v4_3.toInt - 0).toNat by omega⟩ Ex16
        refine lv_iload_n hx hb dX12_sumOf_42 rfl (lv_at hl 1 rfl) ?_
        refine lv_iload_n hx hb dX12_sumOf_43 rfl (lv_at hl 1 rfl) ?_
        refine lv_sipush (v := 2000) hx hb dX12_sumOf_44 (by decide) ?_
        refine lv_iadd hx hb dX12_sumOf_47 ?_
        refine lv_topi (fun x18 ex18 => ?_)
        have ezx18 := ex18
        have ex18 : x18.toInt = a1.toInt + (2000 : Int) := by rw [ex18]; exact wk_add (show (-2147483648) ≤ a1.toInt + (2000 : Int) by omega) (show a1.toInt + (2000 : Int) ≤ 2147483647 by omega)
        replace hM := hM.lt ex18.symm
        refine tk_Vi hC hK hw hT hA hE hSR kM_at0 (by decide) rfl (kz_X12_reaches_1 l adK adV dC dI cy ad B hB0 (Int.le_trans hB1 (by decide)) qr s1   x11 (show 0 ≤ x11.toInt by first | with_reducible assumption | omega) (show x11.toInt ≤ 9 by first | with_reducible assumption | omega) x16 (show 0 ≤ x16.toInt by first | with_reducible assumption | omega) (show x16.toInt ≤ 9 by first | with_reducible assumption | omega) a1 (show 0 ≤ a1.toInt from r2) (show a1.toInt ≤ 99999 from t3) x18 (show 2000 ≤ x18.toInt by first | with_reducible assumption | omega) (show x18.toInt ≤ 101999 by first | with_reducible assumption | omega) w1 H.size hT ) (cwV 4 hC.2.2.2.2 uV_RX12_456 rfl rfl rfl (by decide +kernel) ⟨Nat.le_of_ble_eq_true rfl, Nat.le_of_ble_eq_true rfl⟩) rfl hl.1 rfl (Nat.le_of_ble_eq_true rfl) dX12_sumOf_48 (fun r19 w21 H locs hp20 hw => ?_)
        obtain ⟨hT, k22, hv26, hg25⟩ := hp20
        have hF := hF.tr k22 (by decide)
        have c27 := k22.gi kM_at12 (by decide) c7
        have c28 := k22.gi kM_at12 rfl c12
        have c29 := k22.gi kM_at12 rfl c17
        obtain ⟨g23, g24⟩ := hg25
        replace hM := hM.call hv26 rfl
        refine lv_istore (lv' := [(4, .int r19), (0, .ref (ad 0)), (1, .int a1), (2, .int v4_2), (3, .int v4_3)]) hx hb dX12_sumOf_51 hl (by decide) rfl (fun ls hl => ?_)
        refine lv_iload_n hx hb dX12_sumOf_53 rfl (lv_at hl 3 rfl) ?_
        refine lv_iload hx hb dX12_sumOf_54 (lv_at hl 0 rfl) ?_
        refine lv_ldcw (v := 100000000) hx hb hC.2.2.2.1 (hC.2.2.2.2 _ (List.mem_cons_of_mem _ uw_38_2)) dX12_sumOf_56 ?_
        refine lv_icmp_ne (tgt := 68) hx hb dX12_sumOf_59 (by decide) (fun c30 => ?_) (fun c30 => ?_)
        · have c30 : ¬ r19.toInt = (100000000 : Int) := wk_eqF c30
          replace hM := hM.pos c30
          refine lv_iload hx hb dX12_sumOf_68 (lv_at hl 0 rfl) ?_
          refine lv_iload_n hx hb dX12_sumOf_70 rfl (lv_at hl 2 rfl) ?_
          refine lv_isub hx hb dX12_sumOf_71 ?_
          refine lv_topi (fun x31 ex31 => ?_)
          have ezx31 := ex31
          have ex31 : x31.toInt = r19.toInt - a1.toInt := by rw [ex31]; exact wk_sub (show (-2147483648) ≤ r19.toInt - a1.toInt by omega) (show r19.toInt - a1.toInt ≤ 2147483647 by omega)
          replace hM := hM.lt ex31.symm
          refine lv_iadd hx hb dX12_sumOf_72 ?_
          have nx32 := wk_i32 v4_2
          refine lv_topi (fun x33 ex33 => ?_)
          have ezx33 := ex33
          replace hM := hM.lt (o32_e (f := fun x y => x + y) ezx33 rfl rfl)
          refine lv_istore_n (lv' := [(2, .int x33), (4, .int r19), (0, .ref (ad 0)), (1, .int a1), (3, .int v4_3)]) hx hb dX12_sumOf_73 rfl hl (by decide) rfl (fun ls hl => ?_)
          obtain ⟨x34, ex34⟩ : ∃ y : Int32, y = v4_3 + Int32.ofInt 1 := ⟨_, rfl⟩
          have erx34 := ex34
          refine lv_iinc (v := x34) (lv' := [(3, .int x34), (2, .int x33), (4, .int r19), (0, .ref (ad 0)), (1, .int a1)]) hx hb dX12_sumOf_74 hl (k := 4) rfl ex34.symm (by decide) rfl (fun ls hl => ?_)
          have ex34 : x34.toInt = v4_3.toInt + 1 := by rw [ex34]; exact wk_add (y := 1) (show -2147483648 ≤ v4_3.toInt + 1 by omega) (show v4_3.toInt + 1 ≤ 2147483647 by omega)
          replace hM := hM.lt ex34.symm
          refine lv_goto (tgt := 4) hx hb dX12_sumOf_77 (by decide) ?_
          exact ih4 x33 x34 H locs ls w21 (show 0 ≤ a1.toInt from r2) (show a1.toInt ≤ 99999 from t3) (show 0 ≤ x34.toInt by first | with_reducible assumption | omega) (show x34.toInt ≤ 6 by first | with_reducible assumption | omega) (show (6 - x34.toInt).toNat < n4 by first | exact tn_lt hm4 (by omega) (by omega) | omega) hw hT hF hM (lv_sub hl [3, 4, 1, 0] rfl)
        · have c30 : r19.toInt = (100000000 : Int) := wk_eq.mp c30
          replace hM := hM.neg (fun q => q c30)
          refine lv_sipush (v := 2001) hx hb dX12_sumOf_62 (by decide) ?_
          refine lv_goto (tgt := 72) hx hb dX12_sumOf_65 (by decide) ?_
          refine lv_iadd hx hb dX12_sumOf_72 ?_
          have nx35 := wk_i32 v4_2
          refine lv_topi (fun x36 ex36 => ?_)
          have ezx36 := ex36
          replace hM := hM.lt (o32_e (f := fun x y => x + y) ezx36 rfl (by decide))
          refine lv_istore_n (lv' := [(2, .int x36), (4, .int r19), (0, .ref (ad 0)), (1, .int a1), (3, .int v4_3)]) hx hb dX12_sumOf_73 rfl hl (by decide) rfl (fun ls hl => ?_)
          obtain ⟨x37, ex37⟩ : ∃ y : Int32, y = v4_3 + Int32.ofInt 1 := ⟨_, rfl⟩
          have erx37 := ex37
          refine lv_iinc (v := x37) (lv' := [(3, .int x37), (2, .int x36), (4, .int r19), (0, .ref (ad 0)), (1, .int a1)]) hx hb dX12_sumOf_74 hl (k := 4) rfl ex37.symm (by decide) rfl (fun ls hl => ?_)
          have ex37 : x37.toInt = v4_3.toInt + 1 := by rw [ex37]; exact wk_add (y := 1) (show -2147483648 ≤ v4_3.toInt + 1 by omega) (show v4_3.toInt + 1 ≤ 2147483647 by omega)
          replace hM := hM.lt ex37.symm
          refine lv_goto (tgt := 4) hx hb dX12_sumOf_77 (by decide) ?_
          exact ih4 x36 x37 H locs ls w21 (show 0 ≤ a1.toInt from r2) (show a1.toInt ≤ 99999 from t3) (show 0 ≤ x37.toInt by first | with_reducible assumption | omega) (show x37.toInt ≤ 6 by first | with_reducible assumption | omega) (show (6 - x37.toInt).toNat < n4 by first | exact tn_lt hm4 (by omega) (by omega) | omega) hw hT hF hM (lv_sub hl [3, 4, 1, 0] rfl)
  have hM : TT (fun n => m_X12_sumOf n 0 a1.toInt (sI w0)) (fun n => m_X12_sumOf n 0 a1.toInt (sI w0)) := TT.rf
  refine lv_iconst (v := 0) hx hb dX12_sumOf_0 (by decide) ?_
  refine lv_istore_n (lv' := [(2, .int 0), (0, .ref (ad 0)), (1, .int a1)]) hx hb dX12_sumOf_1 rfl hl (by decide) rfl (fun ls hl => ?_)
  refine lv_iconst (v := 0) hx hb dX12_sumOf_2 (by decide) ?_
  refine lv_istore_n (lv' := [(3, .int 0), (2, .int 0), (0, .ref (ad 0)), (1, .int a1)]) hx hb dX12_sumOf_3 rfl hl (by decide) rfl (fun ls hl => ?_)
  exact L4 ((6 - (0 : Int)).toNat + 1) 0 0 s.heap locs ls w0 (show 0 ≤ a1.toInt from ra1) (show a1.toInt ≤ 99999 from ta1) (by decide) (by decide) (Nat.lt_succ_self _) hw hT hF hM (lv_sub hl [2, 3, 1, 0] rfl)
abbrev Pz_X12_isHour_1 (ad : Nat → Nat) (cy : Nat → ClassId) (B : Int) (qr : Nat) (s1 : Int) (a0 : Int32) (w0 : va_W) : Int32 → va_W → Prop := fun r u => w0 = u ∧ Ev (fun n => m_X12_isHour n a0.toInt (sI w0)) (r.toInt, sI w0) ∧ ((r = 0) ∨ (r = 1 ∧ 0 ≤ a0.toInt ∧ a0.toInt ≤ 99999))
set_option maxHeartbeats 4000000 in
set_option maxRecDepth 100000 in
theorem kz_X12_isHour_1 (l : Launch) (adK adV : Nat → Nat) (dC : Nat → ClassId) (dI : Nat → Nat → Nat) (cy : Nat → ClassId) (ad : Nat → Nat) (B : Int) (hB0 : 100000 ≤ B) (hB1 : B ≤ 1073741824) (qr : Nat) (s1 : Int)  (a0 : Int32) (w0 : va_W) (sz : Nat) (hT : TW ksM ad cy B qr 12 w0)  : Met l yX12_isHour (wu yX12_isHour cX12_isHour 1 (some .boolean)) ({ frames := 1, cells := 0, slots := 0, locals := 12 }) (va_Pc [.int a0] (wpreS adK adV dC dI cy sz w0)) (va_Qi (Pz_X12_isHour_1 ad cy B qr s1 a0 w0) (fun u : va_W => wpost dC dI cy (va_A w0 sz) u) (va_A w0 sz)) 0 0 (va_A w0 sz) := by
  refine Met.ofW (cc := cX12_isHour) (maxL := 1) (ret := (some .boolean)) (by decide) rfl ?_
  intro p e s m args below meth c s₁ Bk hml hv
  obtain ⟨rfl, ⟨hsz, hP, hK, hD0⟩, hE, hSR⟩ := hv
  have hx := Bk.exec
  have hb := Bk.bytes
  have hr := Bk.returns
  have hlocks := Bk.notSynchronized
  have hC : CallFix p m c cX12_isHour 1 s _ (wu yX12_isHour cX12_isHour 1 (some .boolean)) RX12 := ⟨hx, hb, hml, findClass_of_methodNamed Bk.named, atoms_spec (ws := (wu yX12_isHour cX12_isHour 1 (some .boolean))) Bk.pre⟩
  subst hsz
  have hD := hD0.self (sz := s.heap.size)
  generalize hAe : va_A w0 s.heap.size = A at hD hE ⊢
  have hA : ∀ q : Nat, s.heap.size ≤ q → A q := fun q h => by rw [← hAe]; exact Or.inr h
  have hw : Wd dC dI A s.heap s.heap [] w0 := ⟨hP, hD, va_S.rf⟩
  have hF : FE ksM ([] : List (Nat × Nat × Nat)) w0 w0 := FE.rf
  have hl := lv_entry ([.int a0]) (n := 1) (Nat.le_of_ble_eq_true rfl)
  rw [lg_entry_eq]
  generalize (lg_sl ([.int a0]) ++ List.replicate (1 - (lg_sl ([.int a0])).length) Slot.unset).toArray = ls at hl ⊢
  have hl : lv_has ls 1 [(0, .int a0)] := hl
  generalize hloc : ([] : List Loc) = locs at hw ⊢
  have J14 : ∀ (H : Heap) (locs : List Loc) (ls : Array Slot), Wd dC dI A s.heap H locs w0 → TT (fun n => m_X12_isHour n a0.toInt (sI w0)) (fun n => b_X12_isHour_14 n (sI w0)) → lv_has ls 1 [(0, .int a0)] → W p l e ({ frames := 1, cells := 0, slots := 0, locals := 12 }) s m (List.toArray [.int a0]) below meth c H locs 0 0 (MQ below (va_Qi (Pz_X12_isHour_1 ad cy B qr s1 a0 w0) (fun u : va_W => wpost dC dI cy A u) A) (List.toArray [.int a0]) s 0 0 A) (F0 m 14 ls []) := by
    intro H locs ls hw hM hl
    refine lv_iconst (v := 0) hx hb dX12_isHour_14 (by decide) ?_
    exact tk_zret hC hr rfl hlocks hK ⟨rfl, hM.ret (by decide), (Or.inl rfl)⟩ hw dX12_isHour_15
  have hM : TT (fun n => m_X12_isHour n a0.toInt (sI w0)) (fun n => m_X12_isHour n a0.toInt (sI w0)) := TT.rf
  refine lv_iload_n hx hb dX12_isHour_0 rfl (lv_at hl 0 rfl) ?_
  refine lv_if_lt (tgt := 14) hx hb dX12_isHour_1 (by decide) (fun c1 => ?_) (fun c1 => ?_)
  · have c1 : a0.toInt < (0 : Int) := wk_lt.mp c1
    replace hM := hM.pos c1
    exact J14  s.heap locs ls    hw  hM (lv_sub hl [0] rfl)
  · have c1 : (0 : Int) ≤ a0.toInt := wk_ltF c1
    replace hM := hM.neg (Int.not_lt.mpr c1)
    refine lv_iload_n hx hb dX12_isHour_4 rfl (lv_at hl 0 rfl) ?_
    refine lv_ldc (v := 99999) hx hb hC.2.2.2.1 (hC.2.2.2.2 _ (List.mem_cons_of_mem _ uw_24_18)) dX12_isHour_5 ?_
    refine lv_icmp_gt (tgt := 14) hx hb dX12_isHour_7 (by decide) (fun c2 => ?_) (fun c2 => ?_)
    · have c2 : (99999 : Int) < a0.toInt := wk_lt.mp c2
      replace hM := hM.pos c2
      exact J14  s.heap locs ls    hw  hM (lv_sub hl [0] rfl)
    · have c2 : a0.toInt ≤ (99999 : Int) := wk_ltF c2
      replace hM := hM.neg (Int.not_lt.mpr c2)
      refine lv_iconst (v := 1) hx hb dX12_isHour_10 (by decide) ?_
      refine lv_goto (tgt := 15) hx hb dX12_isHour_11 (by decide) ?_
      exact tk_zret hC hr rfl hlocks hK ⟨rfl, hM.ret (by decide), (Or.inr ⟨rfl, (show 0 ≤ a0.toInt by first | with_reducible assumption | omega), (show a0.toInt ≤ 99999 by first | with_reducible assumption | omega)⟩)⟩ hw dX12_isHour_15
abbrev Pz_X12_in_14 (ad : Nat → Nat) (cy : Nat → ClassId) (B : Int) (qr : Nat) (s1 : Int) (a0 : Int64) (w0 : va_W) : Int32 → va_W → Prop := fun r u => w0 = u ∧ Ev (fun n => m_X12_in n a0.toInt 0 2 (sI w0)) (r.toInt, sI w0) ∧ ((r = 0) ∨ (r = 1 ∧ 0 ≤ a0.toInt ∧ a0.toInt ≤ 2))
set_option maxHeartbeats 4000000 in
set_option maxRecDepth 100000 in
theorem kz_X12_in_14 (l : Launch) (adK adV : Nat → Nat) (dC : Nat → ClassId) (dI : Nat → Nat → Nat) (cy : Nat → ClassId) (ad : Nat → Nat) (B : Int) (hB0 : 100000 ≤ B) (hB1 : B ≤ 1073741824) (qr : Nat) (s1 : Int)  (a0 : Int64) (ra0 : (-2147483648) ≤ a0.toInt) (ta0 : a0.toInt ≤ 2147483647) (w0 : va_W) (sz : Nat) (hT : TW ksM ad cy B qr 12 w0)  : Met l yX12_in (wu yX12_in cX12_in 6 (some .boolean)) ({ frames := 1, cells := 0, slots := 0, locals := 12 }) (va_Pc [.long a0, .long 0, .long 2] (wpreS adK adV dC dI cy sz w0)) (va_Qi (Pz_X12_in_14 ad cy B qr s1 a0 w0) (fun u : va_W => wpost dC dI cy (va_A w0 sz) u) (va_A w0 sz)) 0 0 (va_A w0 sz) := by
  refine Met.ofW (cc := cX12_in) (maxL := 6) (ret := (some .boolean)) (by decide) rfl ?_
  intro p e s m args below meth c s₁ Bk hml hv
  obtain ⟨rfl, ⟨hsz, hP, hK, hD0⟩, hE, hSR⟩ := hv
  have hx := Bk.exec
  have hb := Bk.bytes
  have hr := Bk.returns
  have hlocks := Bk.notSynchronized
  have hC : CallFix p m c cX12_in 6 s _ (wu yX12_in cX12_in 6 (some .boolean)) RX12 := ⟨hx, hb, hml, findClass_of_methodNamed Bk.named, atoms_spec (ws := (wu yX12_in cX12_in 6 (some .boolean))) Bk.pre⟩
  subst hsz
  have hD := hD0.self (sz := s.heap.size)
  generalize hAe : va_A w0 s.heap.size = A at hD hE ⊢
  have hA : ∀ q : Nat, s.heap.size ≤ q → A q := fun q h => by rw [← hAe]; exact Or.inr h
  have hw : Wd dC dI A s.heap s.heap [] w0 := ⟨hP, hD, va_S.rf⟩
  have hF : FE ksM ([] : List (Nat × Nat × Nat)) w0 w0 := FE.rf
  have hl := lv_entry ([.long a0, .long 0, .long 2]) (n := 6) (Nat.le_of_ble_eq_true rfl)
  rw [lg_entry_eq]
  generalize (lg_sl ([.long a0, .long 0, .long 2]) ++ List.replicate (6 - (lg_sl ([.long a0, .long 0, .long 2])).length) Slot.unset).toArray = ls at hl ⊢
  have hl : lv_has ls 6 [(0, .long a0), (2, .long 0), (4, .long 2)] := hl
  generalize hloc : ([] : List Loc) = locs at hw ⊢
  have J17 : ∀ (H : Heap) (locs : List Loc) (ls : Array Slot), (-2147483648) ≤ a0.toInt → a0.toInt ≤ 2147483647 → Wd dC dI A s.heap H locs w0 → TT (fun n => m_X12_in n a0.toInt 0 2 (sI w0)) (fun n => b_X12_in_17 n (sI w0)) → lv_has ls 6 [(0, .long a0), (2, .long 0), (4, .long 2)] → W p l e ({ frames := 1, cells := 0, slots := 0, locals := 12 }) s m (List.toArray [.long a0, .long 0, .long 2]) below meth c H locs 0 0 (MQ below (va_Qi (Pz_X12_in_14 ad cy B qr s1 a0 w0) (fun u : va_W => wpost dC dI cy A u) A) (List.toArray [.long a0, .long 0, .long 2]) s 0 0 A) (F0 m 17 ls []) := by
    intro H locs ls r1 t2 hw hM hl
    refine lv_iconst (v := 0) hx hb dX12_in_17 (by decide) ?_
    exact tk_zret hC hr rfl hlocks hK ⟨rfl, hM.ret (by decide), (Or.inl rfl)⟩ hw dX12_in_18
  have hM : TT (fun n => m_X12_in n a0.toInt 0 2 (sI w0)) (fun n => m_X12_in n a0.toInt 0 2 (sI w0)) := TT.rf
  refine lv_lload_n hx hb dX12_in_0 rfl (lv_at hl 0 rfl) ?_
  refine lv_lload_n hx hb dX12_in_1 rfl (lv_at hl 1 rfl) ?_
  refine W.lcmp hx hb dX12_in_2 ?_
  refine lv_if_lt (tgt := 17) hx hb dX12_in_3 (by decide) (fun c3 => ?_) (fun c3 => ?_)
  · have c3 : a0.toInt < (0 : Int) := wk_cltT c3
    replace hM := hM.pos c3
    exact J17  s.heap locs ls  (show (-2147483648) ≤ a0.toInt from ra0) (show a0.toInt ≤ 2147483647 from ta0)  hw  hM (lv_sub hl [0, 1, 2] rfl)
  · have c3 : (0 : Int) ≤ a0.toInt := wk_cltF c3
    replace hM := hM.neg (Int.not_lt.mpr c3)
    refine lv_lload_n hx hb dX12_in_6 rfl (lv_at hl 0 rfl) ?_
    refine lv_lload hx hb dX12_in_7 (lv_at hl 2 rfl) ?_
    refine W.lcmp hx hb dX12_in_9 ?_
    refine lv_if_gt (tgt := 17) hx hb dX12_in_10 (by decide) (fun c4 => ?_) (fun c4 => ?_)
    · have c4 : (2 : Int) < a0.toInt := wk_cgtT c4
      replace hM := hM.pos c4
      exact J17  s.heap locs ls  (show (-2147483648) ≤ a0.toInt from ra0) (show a0.toInt ≤ 2147483647 from ta0)  hw  hM (lv_sub hl [0, 1, 2] rfl)
    · have c4 : a0.toInt ≤ (2 : Int) := wk_cgtF c4
      replace hM := hM.neg (Int.not_lt.mpr c4)
      refine lv_iconst (v := 1) hx hb dX12_in_13 (by decide) ?_
      refine lv_goto (tgt := 18) hx hb dX12_in_14 (by decide) ?_
      exact tk_zret hC hr rfl hlocks hK ⟨rfl, hM.ret (by decide), (Or.inr ⟨rfl, (show 0 ≤ a0.toInt by first | with_reducible assumption | omega), (show a0.toInt ≤ 2 by first | with_reducible assumption | omega)⟩)⟩ hw dX12_in_18
abbrev Pz_X12_built_1 (ad : Nat → Nat) (cy : Nat → ClassId) (B : Int) (qr : Nat) (s1 : Int) (a1 : Int32) (a2 : Int32) (a3 : Int32) (w0 : va_W) : Int32 → va_W → Prop := fun r u => TW ksM ad cy B qr 12 u ∧ FE ksM [(71, 1, 1), (71, 10, 130), (71, 11, 131), (71, 12, 132), (71, 13, 139), (77, 0, 10), (78, 0, 10)] w0 u ∧ Ev (fun n => m_X12_built n 0 a1.toInt a2.toInt a3.toInt (sI w0)) (r.toInt, sI u) ∧ ((1 ≤ a1.toInt ∧ a1.toInt ≤ 9 ∧ 0 ≤ a2.toInt ∧ a2.toInt ≤ 99999 ∧ 0 ≤ a3.toInt ∧ a3.toInt ≤ 2 ∧ (∃ y : Int32, gi u 12 0 = y ∧ 1 ≤ y.toInt ∧ y.toInt ≤ 10)) ∨ (r = (-1)))
set_option maxHeartbeats 4000000 in
set_option maxRecDepth 100000 in
theorem kz_X12_built_1 (l : Launch) (adK adV : Nat → Nat) (dC : Nat → ClassId) (dI : Nat → Nat → Nat) (cy : Nat → ClassId) (ad : Nat → Nat) (B : Int) (hB0 : 100000 ≤ B) (hB1 : B ≤ 1073741824) (qr : Nat) (s1 : Int)  (a1 : Int32) (a2 : Int32) (a3 : Int32) (w0 : va_W) (sz : Nat) (hT : TW ksM ad cy B qr 12 w0)  : Met l yX12_built (wu yX12_built cX12_built 11 (some .int)) ({ frames := 7, cells := 0, slots := 0, locals := 157 }) (va_Pc [.ref (ad 0), .int a1, .int a2, .int a3] (wpreS adK adV dC dI cy sz w0)) (va_Qi (Pz_X12_built_1 ad cy B qr s1 a1 a2 a3 w0) (fun u : va_W => wpost dC dI cy (va_A w0 sz) u) (va_A w0 sz)) 0 0 (va_A w0 sz) := by
  refine Met.ofW (cc := cX12_built) (maxL := 11) (ret := (some .int)) (by decide) rfl ?_
  intro p e s m args below meth c s₁ Bk hml hv
  obtain ⟨rfl, ⟨hsz, hP, hK, hD0⟩, hE, hSR⟩ := hv
  have hx := Bk.exec
  have hb := Bk.bytes
  have hr := Bk.returns
  have hlocks := Bk.notSynchronized
  have hC : CallFix p m c cX12_built 11 s _ (wu yX12_built cX12_built 11 (some .int)) RX12 := ⟨hx, hb, hml, findClass_of_methodNamed Bk.named, atoms_spec (ws := (wu yX12_built cX12_built 11 (some .int))) Bk.pre⟩
  subst hsz
  have hD := hD0.self (sz := s.heap.size)
  generalize hAe : va_A w0 s.heap.size = A at hD hE ⊢
  have hA : ∀ q : Nat, s.heap.size ≤ q → A q := fun q h => by rw [← hAe]; exact Or.inr h
  have hw : Wd dC dI A s.heap s.heap [] w0 := ⟨hP, hD, va_S.rf⟩
  have hF : FE ksM [(71, 1, 1), (71, 10, 130), (71, 11, 131), (71, 12, 132), (71, 13, 139), (77, 0, 10), (78, 0, 10)] w0 w0 := FE.rf
  have hl := lv_entry ([.ref (ad 0), .int a1, .int a2, .int a3]) (n := 11) (Nat.le_of_ble_eq_true rfl)
  rw [lg_entry_eq]
  generalize (lg_sl ([.ref (ad 0), .int a1, .int a2, .int a3]) ++ List.replicate (11 - (lg_sl ([.ref (ad 0), .int a1, .int a2, .int a3])).length) Slot.unset).toArray = ls at hl ⊢
  have hl : lv_has ls 11 [(0, .ref (ad 0)), (1, .int a1), (2, .int a2), (3, .int a3)] := hl
  generalize hloc : ([] : List Loc) = locs at hw ⊢
  have hinX12 : ∀ w ∈ u_ws RX12 TX12 42, w ∈ (wu yX12_built cX12_built 11 (some .int)) := fun _ h => List.mem_cons_of_mem _ (up_71 h)
  have J38 : ∀ (f38_12_0 : Int32) (H : Heap) (locs : List Loc) (ls : Array Slot) (w1 : va_W), 0 ≤ f38_12_0.toInt → f38_12_0.toInt ≤ 10 → Wd dC dI A s.heap H locs w1 → TW ksM ad cy B qr 12 w1 → FE ksM [(71, 1, 1), (71, 10, 130), (71, 11, 131), (71, 12, 132), (71, 13, 139), (77, 0, 10), (78, 0, 10)] w0 w1 → gi w1 12 0 = f38_12_0 → TT (fun n => m_X12_built n 0 a1.toInt a2.toInt a3.toInt (sI w0)) (fun n => b_X12_built_38 (j_X12_built 0 n) n 0 (sI w1)) → lv_has ls 11 [(0, .ref (ad 0)), (1, .int a1), (2, .int a2), (3, .int a3)] → W p l e ({ frames := 7, cells := 0, slots := 0, locals := 157 }) s m (List.toArray [.ref (ad 0), .int a1, .int a2, .int a3]) below meth c H locs 0 0 (MQ below (va_Qi (Pz_X12_built_1 ad cy B qr s1 a1 a2 a3 w0) (fun u : va_W => wpost dC dI cy A u) A) (List.toArray [.ref (ad 0), .int a1, .int a2, .int a3]) s 0 0 A) (F0 m 38 ls []) := by
    intro f38_12_0 H locs ls w1 r2 t3 hw hT hF c4 hM hl
    refine lv_iconst (v := (-1)) hx hb dX12_built_38 (by decide) ?_
    exact tk_iret hC hr hlocks hK ⟨hT, hF, hM.ret (by decide), (Or.inr rfl)⟩ hw dX12_built_39
  have L76 : ∀ (n76 : Nat) (v76_4 : Int32) (v76_5 : Int32) (v76_6 : Int32) (v76_7 : Int32) (v76_8 : Int32) (f76_12_0 : Int32) (f76_12_1 : Int32) (H : Heap) (locs : List Loc) (ls : Array Slot) (w5 : va_W), 1 ≤ a1.toInt → a1.toInt ≤ 9 → 0 ≤ a2.toInt → a2.toInt ≤ 99999 → 0 ≤ a3.toInt → a3.toInt ≤ 2 → 10 ≤ v76_4.toInt → v76_4.toInt ≤ 130 → (-1) ≤ v76_5.toInt → v76_5.toInt ≤ 9 → (-1) ≤ v76_6.toInt → v76_6.toInt ≤ 9 → 0 ≤ v76_8.toInt → v76_8.toInt ≤ 10 → 1 ≤ f76_12_0.toInt → f76_12_0.toInt ≤ 10 → 1 ≤ f76_12_1.toInt → f76_12_1.toInt ≤ 13 → (10 - v76_8.toInt).toNat < n76 → Wd dC dI A s.heap H locs w5 → TW ksM ad cy B qr 13 w5 → FE ksM [(71, 1, 1), (71, 10, 130), (71, 11, 131), (71, 12, 132), (71, 13, 139), (77, 0, 10), (78, 0, 10)] w0 w5 → gi w5 12 0 = f76_12_0 → gi w5 12 1 = f76_12_1 → TT (fun n => m_X12_built n 0 a1.toInt a2.toInt a3.toInt (sI w0)) (fun n => j_X12_built 0 n 76 [a1.toInt, a2.toInt, a3.toInt, v76_4.toInt, v76_5.toInt, v76_6.toInt, v76_7.toInt, v76_8.toInt] (sI w5)) → lv_has ls 11 [(0, .ref (ad 0)), (1, .int a1), (2, .int a2), (3, .int a3), (4, .int v76_4), (5, .int v76_5), (6, .int v76_6), (7, .int v76_7), (8, .int v76_8)] → W p l e ({ frames := 7, cells := 0, slots := 0, locals := 157 }) s m (List.toArray [.ref (ad 0), .int a1, .int a2, .int a3]) below meth c H locs 0 0 (MQ below (va_Qi (Pz_X12_built_1 ad cy B qr s1 a1 a2 a3 w0) (fun u : va_W => wpost dC dI cy A u) A) (List.toArray [.ref (ad 0), .int a1, .int a2, .int a3]) s 0 0 A) (F0 m 76 ls []) := by
    intro n76
    induction n76 with
    | zero => intro v76_4 v76_5 v76_6 v76_7 v76_8 f76_12_0 f76_12_1 H locs ls w5 r6 t7 r8 t9 r10 t11 r12 t13 r14 t15 r16 t17 r18 t19 r20 t21 r23 t24 hm76 hw hT hF c22 c25 hM hl; omega
    | succ n76 ih76 =>
      intro v76_4 v76_5 v76_6 v76_7 v76_8 f76_12_0 f76_12_1 H locs ls w5 r6 t7 r8 t9 r10 t11 r12 t13 r14 t15 r16 t17 r18 t19 r20 t21 r23 t24 hm76 hw hT hF c22 c25 hM hl
      have L93 : ∀ (n93 : Nat) (v93_5 : Int32) (v93_6 : Int32) (v93_7 : Int32) (v93_9 : Int32) (H : Heap) (locs : List Loc) (ls : Array Slot) (w26 : va_W), 1 ≤ a1.toInt → a1.toInt ≤ 9 → 0 ≤ a2.toInt → a2.toInt ≤ 99999 → 0 ≤ a3.toInt → a3.toInt ≤ 2 → 10 ≤ v76_4.toInt → v76_4.toInt ≤ 130 → (-1) ≤ v93_5.toInt → v93_5.toInt ≤ 9 → (-1) ≤ v93_6.toInt → v93_6.toInt ≤ 9 → 0 ≤ v76_8.toInt → v76_8.toInt ≤ 9 → 1 ≤ v93_9.toInt → v93_9.toInt ≤ 10 → 1 ≤ f76_12_0.toInt → f76_12_0.toInt ≤ 10 → 1 ≤ f76_12_1.toInt → f76_12_1.toInt ≤ 13 → (10 - v93_9.toInt).toNat < n93 → Wd dC dI A s.heap H locs w26 → TW ksM ad cy B qr 13 w26 → FE ksM [(71, 1, 1), (71, 10, 130), (71, 11, 131), (71, 12, 132), (71, 13, 139), (77, 0, 10), (78, 0, 10)] w0 w26 → gi w26 12 0 = f76_12_0 → gi w26 12 1 = f76_12_1 → TT (fun n => m_X12_built n 0 a1.toInt a2.toInt a3.toInt (sI w0)) (fun n => j_X12_built 0 n 93 [a1.toInt, a2.toInt, a3.toInt, v76_4.toInt, v93_5.toInt, v93_6.toInt, v93_7.toInt, v76_8.toInt, v93_9.toInt] (sI w26)) → lv_has ls 11 [(0, .ref (ad 0)), (1, .int a1), (2, .int a2), (3, .int a3), (4, .int v76_4), (5, .int v93_5), (6, .int v93_6), (7, .int v93_7), (8, .int v76_8), (9, .int v93_9)] → W p l e ({ frames := 7, cells := 0, slots := 0, locals := 157 }) s m (List.toArray [.ref (ad 0), .int a1, .int a2, .int a3]) below meth c H locs 0 0 (MQ below (va_Qi (Pz_X12_built_1 ad cy B qr s1 a1 a2 a3 w0) (fun u : va_W => wpost dC dI cy A u) A) (List.toArray [.ref (ad 0), .int a1, .int a2, .int a3]) s 0 0 A) (F0 m 93 ls []) := by
        intro n93
        induction n93 with
        | zero => intro v93_5 v93_6 v93_7 v93_9 H locs ls w26 r27 t28 r29 t30 r31 t32 r33 t34 r35 t36 r37 t38 r39 t40 r41 t42 r43 t44 r46 t47 hm93 hw hT hF c45 c48 hM hl; omega
        | succ n93 ih93 =>
          intro v93_5 v93_6 v93_7 v93_9 H locs ls w26 r27 t28 r29 t30 r31 t32 r33 t34 r35 t36 r37 t38 r39 t40 r41 t42 r43 t44 r46 t47 hm93 hw hT hF c45 c48 hM hl
          have J197 : ∀ (v197_5 : Int32) (v197_6 : Int32) (v197_7 : Int32) (v197_10 : Int32) (H : Heap) (locs : List Loc) (ls : Array Slot) (w49 : va_W), 1 ≤ a1.toInt → a1.toInt ≤ 9 → 0 ≤ a2.toInt → a2.toInt ≤ 99999 → 0 ≤ a3.toInt → a3.toInt ≤ 2 → 10 ≤ v76_4.toInt → v76_4.toInt ≤ 130 → 0 ≤ v197_5.toInt → v197_5.toInt ≤ 9 → (-1) ≤ v197_6.toInt → v197_6.toInt ≤ 9 → 0 ≤ v76_8.toInt → v76_8.toInt ≤ 9 → 1 ≤ v93_9.toInt → v93_9.toInt ≤ 9 → 2 ≤ f76_12_0.toInt → f76_12_0.toInt ≤ 10 → 1 ≤ f76_12_1.toInt → f76_12_1.toInt ≤ 13 → Wd dC dI A s.heap H locs w49 → TW ksM ad cy B qr 13 w49 → FE ksM [(71, 1, 1), (71, 10, 130), (71, 11, 131), (71, 12, 132), (71, 13, 139), (77, 0, 10), (78, 0, 10)] w0 w49 → gi w49 12 0 = f76_12_0 → gi w49 12 1 = f76_12_1 → TT (fun n => m_X12_built n 0 a1.toInt a2.toInt a3.toInt (sI w0)) (fun n => b_X12_built_197 (j_X12_built 0 n) n 0 (a1.toInt) (a2.toInt) (a3.toInt) (v76_4.toInt) (v197_5.toInt) (v197_6.toInt) (v197_7.toInt) (v76_8.toInt) (v93_9.toInt) (sI w49)) → lv_has ls 11 [(0, .ref (ad 0)), (1, .int a1), (2, .int a2), (3, .int a3), (4, .int v76_4), (5, .int v197_5), (6, .int v197_6), (7, .int v197_7), (8, .int v76_8), (9, .int v93_9), (10, .int v197_10)] → W p l e ({ frames := 7, cells := 0, slots := 0, locals := 157 }) s m (List.toArray [.ref (ad 0), .int a1, .int a2, .int a3]) below meth c H locs 0 0 (MQ below (va_Qi (Pz_X12_built_1 ad cy B qr s1 a1 a2 a3 w0) (fun u : va_W => wpost dC dI cy A u) A) (List.toArray [.ref (ad 0), .int a1, .int a2, .int a3]) s 0 0 A) (F0 m 197 ls []) := by
            intro v197_5 v197_6 v197_7 v197_10 H locs ls w49 r50 t51 r52 t53 r54 t55 r56 t57 r58 t59 r60 t61 r62 t63 r64 t65 r66 t67 r69 t70 hw hT hF c68 c71 hM hl
            obtain ⟨x72, ex72⟩ : ∃ y : Int32, y = v93_9 + Int32.ofInt 1 := ⟨_, rfl⟩
            have erx72 := ex72
            refine lv_iinc (v := x72) (lv' := [(9, .int x72), (0, .ref (ad 0)), (1, .int a1), (2, .int a2), (3, .int a3), (4, .int v76_4), (5, .int v197_5), (6, .int v197_6), (7, .int v197_7), (8, .int v76_8), (10, .int v197_10)]) hx hb dX12_built_197 hl (k := 9) rfl ex72.symm (by decide) rfl (fun ls hl => ?_)
            have ex72 : x72.toInt = v93_9.toInt + 1 := by rw [ex72]; exact wk_add (y := 1) (show -2147483648 ≤ v93_9.toInt + 1 by omega) (show v93_9.toInt + 1 ≤ 2147483647 by omega)
            replace hM := hM.lt ex72.symm
            refine lv_goto (tgt := 93) hx hb dX12_built_200 (by decide) ?_
            exact ih93 v197_5 v197_6 v197_7 x72 H locs ls w49 (show 1 ≤ a1.toInt from r50) (show a1.toInt ≤ 9 from t51) (show 0 ≤ a2.toInt from r52) (show a2.toInt ≤ 99999 from t53) (show 0 ≤ a3.toInt from r54) (show a3.toInt ≤ 2 from t55) (show 10 ≤ v76_4.toInt from r56) (show v76_4.toInt ≤ 130 from t57) (show (-1) ≤ v197_5.toInt from Int.le_trans (by decide) r58) (show v197_5.toInt ≤ 9 from t59) (show (-1) ≤ v197_6.toInt from r60) (show v197_6.toInt ≤ 9 from t61) (show 0 ≤ v76_8.toInt from r62) (show v76_8.toInt ≤ 9 from t63) (show 1 ≤ x72.toInt by first | with_reducible assumption | omega) (show x72.toInt ≤ 10 by first | with_reducible assumption | omega) (show 1 ≤ f76_12_0.toInt from r43) (show f76_12_0.toInt ≤ 10 from t67) (show 1 ≤ f76_12_1.toInt from r69) (show f76_12_1.toInt ≤ 13 from t70) (show (10 - x72.toInt).toNat < n93 by first | exact tn_lt hm93 (by omega) (by omega) | omega) hw hT hF c68 c71 hM (lv_sub hl [1, 2, 3, 4, 5, 6, 7, 8, 9, 0] rfl)
          have J185 : ∀ (v185_10 : Int32) (H : Heap) (locs : List Loc) (ls : Array Slot) (w73 : va_W), 1 ≤ a1.toInt → a1.toInt ≤ 9 → 0 ≤ a2.toInt → a2.toInt ≤ 99999 → 0 ≤ a3.toInt → a3.toInt ≤ 2 → 10 ≤ v76_4.toInt → v76_4.toInt ≤ 130 → (-1) ≤ v93_5.toInt → v93_5.toInt ≤ 9 → (-1) ≤ v93_6.toInt → v93_6.toInt ≤ 9 → 0 ≤ v76_8.toInt → v76_8.toInt ≤ 9 → 1 ≤ v93_9.toInt → v93_9.toInt ≤ 9 → 2 ≤ f76_12_0.toInt → f76_12_0.toInt ≤ 10 → 1 ≤ f76_12_1.toInt → f76_12_1.toInt ≤ 13 → Wd dC dI A s.heap H locs w73 → TW ksM ad cy B qr 13 w73 → FE ksM [(71, 1, 1), (71, 10, 130), (71, 11, 131), (71, 12, 132), (71, 13, 139), (77, 0, 10), (78, 0, 10)] w0 w73 → gi w73 12 0 = f76_12_0 → gi w73 12 1 = f76_12_1 → TT (fun n => m_X12_built n 0 a1.toInt a2.toInt a3.toInt (sI w0)) (fun n => b_X12_built_185 (j_X12_built 0 n) n 0 (a1.toInt) (a2.toInt) (a3.toInt) (v76_4.toInt) (v76_8.toInt) (v93_9.toInt) (v185_10.toInt) (sI w73)) → lv_has ls 11 [(0, .ref (ad 0)), (1, .int a1), (2, .int a2), (3, .int a3), (4, .int v76_4), (5, .int v93_5), (6, .int v93_6), (7, .int v93_7), (8, .int v76_8), (9, .int v93_9), (10, .int v185_10)] → W p l e ({ frames := 7, cells := 0, slots := 0, locals := 157 }) s m (List.toArray [.ref (ad 0), .int a1, .int a2, .int a3]) below meth c H locs 0 0 (MQ below (va_Qi (Pz_X12_built_1 ad cy B qr s1 a1 a2 a3 w0) (fun u : va_W => wpost dC dI cy A u) A) (List.toArray [.ref (ad 0), .int a1, .int a2, .int a3]) s 0 0 A) (F0 m 185 ls []) := by
            intro v185_10 H locs ls w73 r74 t75 r76 t77 r78 t79 r80 t81 r82 t83 r84 t85 r86 t87 r88 t89 r90 t91 r93 t94 hw hT hF c92 c95 hM hl
            have hM : TT (fun n => m_X12_built n 0 a1.toInt a2.toInt a3.toInt (sI w0)) (fun n => b_X12_built_197 (j_X12_built 0 n) n 0 (a1.toInt) (a2.toInt) (a3.toInt) (v76_4.toInt) (v76_8.toInt) (v93_9.toInt) (v185_10.toInt) (v76_8.toInt) (v93_9.toInt) (sI w73)) := hM
            refine lv_iload hx hb dX12_built_185 (lv_at hl 8 rfl) ?_
            refine lv_istore (lv' := [(5, .int v76_8), (0, .ref (ad 0)), (1, .int a1), (2, .int a2), (3, .int a3), (4, .int v76_4), (6, .int v93_6), (7, .int v93_7), (8, .int v76_8), (9, .int v93_9), (10, .int v185_10)]) hx hb dX12_built_187 hl (by decide) rfl (fun ls hl => ?_)
            refine lv_iload hx hb dX12_built_189 (lv_at hl 9 rfl) ?_
            refine lv_istore (lv' := [(6, .int v93_9), (5, .int v76_8), (0, .ref (ad 0)), (1, .int a1), (2, .int a2), (3, .int a3), (4, .int v76_4), (7, .int v93_7), (8, .int v76_8), (9, .int v93_9), (10, .int v185_10)]) hx hb dX12_built_191 hl (by decide) rfl (fun ls hl => ?_)
            refine lv_iload hx hb dX12_built_193 (lv_at hl 10 rfl) ?_
            refine lv_istore (lv' := [(7, .int v185_10), (6, .int v93_9), (5, .int v76_8), (0, .ref (ad 0)), (1, .int a1), (2, .int a2), (3, .int a3), (4, .int v76_4), (8, .int v76_8), (9, .int v93_9), (10, .int v185_10)]) hx hb dX12_built_195 hl (by decide) rfl (fun ls hl => ?_)
            exact J197 v76_8 v93_9 v185_10 v185_10 H locs ls w73 (show 1 ≤ a1.toInt from r74) (show a1.toInt ≤ 9 from t75) (show 0 ≤ a2.toInt from r76) (show a2.toInt ≤ 99999 from t77) (show 0 ≤ a3.toInt from r78) (show a3.toInt ≤ 2 from t79) (show 10 ≤ v76_4.toInt from r80) (show v76_4.toInt ≤ 130 from t81) (show 0 ≤ v76_8.toInt from r86) (show v76_8.toInt ≤ 9 from t87) (show (-1) ≤ v93_9.toInt from Int.le_trans (by decide) r88) (show v93_9.toInt ≤ 9 from t89) (show 0 ≤ v76_8.toInt from r86) (show v76_8.toInt ≤ 9 from t87) (show 1 ≤ v93_9.toInt from r88) (show v93_9.toInt ≤ 9 from t89) (show 2 ≤ f76_12_0.toInt from r90) (show f76_12_0.toInt ≤ 10 from t91) (show 1 ≤ f76_12_1.toInt from r93) (show f76_12_1.toInt ≤ 13 from t94)  hw hT hF c92 c95 hM (lv_sub hl [3, 4, 5, 6, 7, 2, 1, 0, 8, 9, 10] rfl)
          have L137 : ∀ (n137 : Nat) (v137_10 : Int32) (H : Heap) (locs : List Loc) (ls : Array Slot) (w96 : va_W), 1 ≤ a1.toInt → a1.toInt ≤ 9 → 0 ≤ a2.toInt → a2.toInt ≤ 99999 → 0 ≤ a3.toInt → a3.toInt ≤ 2 → 10 ≤ v76_4.toInt → v76_4.toInt ≤ 130 → (-1) ≤ v93_5.toInt → v93_5.toInt ≤ 9 → (-1) ≤ v93_6.toInt → v93_6.toInt ≤ 9 → 0 ≤ v76_8.toInt → v76_8.toInt ≤ 9 → 1 ≤ v93_9.toInt → v93_9.toInt ≤ 9 → 0 ≤ v137_10.toInt → v137_10.toInt ≤ 7 → 2 ≤ f76_12_0.toInt → f76_12_0.toInt ≤ 10 → 1 ≤ f76_12_1.toInt → f76_12_1.toInt ≤ 13 → (7 - v137_10.toInt).toNat < n137 → Wd dC dI A s.heap H locs w96 → TW ksM ad cy B qr 13 w96 → FE ksM [(71, 1, 1), (71, 10, 130), (71, 11, 131), (71, 12, 132), (71, 13, 139), (77, 0, 10), (78, 0, 10)] w0 w96 → gi w96 12 0 = f76_12_0 → gi w96 12 1 = f76_12_1 → TT (fun n => m_X12_built n 0 a1.toInt a2.toInt a3.toInt (sI w0)) (fun n => j_X12_built 0 n 137 [a1.toInt, a2.toInt, a3.toInt, v76_4.toInt, v93_5.toInt, v93_6.toInt, v93_7.toInt, v76_8.toInt, v93_9.toInt, v137_10.toInt] (sI w96)) → lv_has ls 11 [(0, .ref (ad 0)), (1, .int a1), (2, .int a2), (3, .int a3), (4, .int v76_4), (5, .int v93_5), (6, .int v93_6), (7, .int v93_7), (8, .int v76_8), (9, .int v93_9), (10, .int v137_10)] → W p l e ({ frames := 7, cells := 0, slots := 0, locals := 157 }) s m (List.toArray [.ref (ad 0), .int a1, .int a2, .int a3]) below meth c H locs 0 0 (MQ below (va_Qi (Pz_X12_built_1 ad cy B qr s1 a1 a2 a3 w0) (fun u : va_W => wpost dC dI cy A u) A) (List.toArray [.ref (ad 0), .int a1, .int a2, .int a3]) s 0 0 A) (F0 m 137 ls []) := by
            intro n137
            induction n137 with
            | zero => intro v137_10 H locs ls w96 r97 t98 r99 t100 r101 t102 r103 t104 r105 t106 r107 t108 r109 t110 r111 t112 r113 t114 r115 t116 r118 t119 hm137 hw hT hF c117 c120 hM hl; omega
            | succ n137 ih137 =>
              intro v137_10 H locs ls w96 r97 t98 r99 t100 r101 t102 r103 t104 r105 t106 r107 t108 r109 t110 r111 t112 r113 t114 r115 t116 r118 t119 hm137 hw hT hF c117 c120 hM hl
              replace hM := hM.suc (fun _ => e_X12_built_137)
              refine lv_iload hx hb dX12_built_137 (lv_at hl 10 rfl) ?_
              refine lv_bipush (v := 7) hx hb dX12_built_139 (by decide) ?_
              refine lv_icmp_ge (tgt := 163) hx hb dX12_built_141 (by decide) (fun c121 => ?_) (fun c121 => ?_)
              · have c121 : (7 : Int) ≤ v137_10.toInt := wk_le.mp c121
                replace hM := hM.pos c121
                refine lv_aload_n hx hb dX12_built_163 rfl (lv_at hl 0 rfl) ?_
                refine lv_iload_n hx hb dX12_built_164 rfl (lv_at hl 2 rfl) ?_
                refine tk_Vi hC hK hw hT hA hE hSR kM_at0 (by decide) rfl (kz_X12_sumOf_1 l adK adV dC dI cy ad B hB0 (Int.le_trans hB1 (by decide)) qr s1   a2 (show 0 ≤ a2.toInt from r99) (show a2.toInt ≤ 99999 from t100) w96 H.size hT ) (cwV 1 hC.2.2.2.2 uV_RX12_490 rfl rfl rfl (by decide +kernel) ⟨Nat.le_of_ble_eq_true rfl, Nat.le_of_ble_eq_true rfl⟩) rfl hl.1 rfl (Nat.le_of_ble_eq_true rfl) dX12_built_165 (fun r122 w124 H locs hp123 hw => ?_)
                obtain ⟨hT, k125, hv127, hg126⟩ := hp123
                have hF := hF.tr k125 (by decide)
                have c128 := k125.gi kM_at12 (by decide) c117
                have c129 := k125.gi kM_at12 (by decide) c120
                clear hg126
                replace hM := hM.call hv127 rfl
                refine lv_istore (lv' := [(10, .int r122), (0, .ref (ad 0)), (1, .int a1), (2, .int a2), (3, .int a3), (4, .int v76_4), (5, .int v93_5), (6, .int v93_6), (7, .int v93_7), (8, .int v76_8), (9, .int v93_9)]) hx hb dX12_built_168 hl (by decide) rfl (fun ls hl => ?_)
                refine lv_iload hx hb dX12_built_170 (lv_at hl 6 rfl) ?_
                refine lv_if_lt (tgt := 185) hx hb dX12_built_172 (by decide) (fun c130 => ?_) (fun c130 => ?_)
                · have c130 : v93_5.toInt < (0 : Int) := wk_lt.mp c130
                  replace hM := hM.pos c130
                  exact J185 r122 H locs ls w124 (show 1 ≤ a1.toInt from r97) (show a1.toInt ≤ 9 from t98) (show 0 ≤ a2.toInt from r99) (show a2.toInt ≤ 99999 from t100) (show 0 ≤ a3.toInt from r101) (show a3.toInt ≤ 2 from t102) (show 10 ≤ v76_4.toInt from r103) (show v76_4.toInt ≤ 130 from t104) (show (-1) ≤ v93_5.toInt from r105) (show v93_5.toInt ≤ 9 from t106) (show (-1) ≤ v93_6.toInt from r107) (show v93_6.toInt ≤ 9 from t108) (show 0 ≤ v76_8.toInt from r109) (show v76_8.toInt ≤ 9 from t110) (show 1 ≤ v93_9.toInt from r111) (show v93_9.toInt ≤ 9 from t112) (show 2 ≤ f76_12_0.toInt from r115) (show f76_12_0.toInt ≤ 10 from t116) (show 1 ≤ f76_12_1.toInt from r118) (show f76_12_1.toInt ≤ 13 from t119)  hw hT hF c128 c129 hM (lv_sub hl [1, 2, 3, 4, 5, 6, 7, 8, 9, 10, 0] rfl)
                · have c130 : (0 : Int) ≤ v93_5.toInt := wk_ltF c130
                  replace hM := hM.neg (Int.not_lt.mpr c130)
                  refine lv_iload hx hb dX12_built_175 (lv_at hl 0 rfl) ?_
                  refine lv_iload hx hb dX12_built_177 (lv_at hl 8 rfl) ?_
                  refine lv_icmp_lt (tgt := 185) hx hb dX12_built_179 (by decide) (fun c131 => ?_) (fun c131 => ?_)
                  · have c131 : r122.toInt < v93_7.toInt := wk_lt.mp c131
                    replace hM := hM.pos c131
                    exact J185 r122 H locs ls w124 (show 1 ≤ a1.toInt from r97) (show a1.toInt ≤ 9 from t98) (show 0 ≤ a2.toInt from r99) (show a2.toInt ≤ 99999 from t100) (show 0 ≤ a3.toInt from r101) (show a3.toInt ≤ 2 from t102) (show 10 ≤ v76_4.toInt from r103) (show v76_4.toInt ≤ 130 from t104) (show (-1) ≤ v93_5.toInt from r105) (show v93_5.toInt ≤ 9 from t106) (show (-1) ≤ v93_6.toInt from r107) (show v93_6.toInt ≤ 9 from t108) (show 0 ≤ v76_8.toInt from r109) (show v76_8.toInt ≤ 9 from t110) (show 1 ≤ v93_9.toInt from r111) (show v93_9.toInt ≤ 9 from t112) (show 2 ≤ f76_12_0.toInt from r115) (show f76_12_0.toInt ≤ 10 from t116) (show 1 ≤ f76_12_1.toInt from r118) (show f76_12_1.toInt ≤ 13 from t119)  hw hT hF c128 c129 hM (lv_sub hl [1, 2, 3, 4, 5, 6, 7, 8, 9, 10, 0] rfl)
                  · have c131 : v93_7.toInt ≤ r122.toInt := wk_ltF c131
                    replace hM := hM.neg (Int.not_lt.mpr c131)
                    refine lv_goto (tgt := 197) hx hb dX12_built_182 (by decide) ?_
                    exact J197 v93_5 v93_6 v93_7 r122 H locs ls w124 (show 1 ≤ a1.toInt from r97) (show a1.toInt ≤ 9 from t98) (show 0 ≤ a2.toInt from r99) (show a2.toInt ≤ 99999 from t100) (show 0 ≤ a3.toInt from r101) (show a3.toInt ≤ 2 from t102) (show 10 ≤ v76_4.toInt from r103) (show v76_4.toInt ≤ 130 from t104) (show 0 ≤ v93_5.toInt by first | with_reducible assumption | omega) (show v93_5.toInt ≤ 9 from t106) (show (-1) ≤ v93_6.toInt from r107) (show v93_6.toInt ≤ 9 from t108) (show 0 ≤ v76_8.toInt from r109) (show v76_8.toInt ≤ 9 from t110) (show 1 ≤ v93_9.toInt from r111) (show v93_9.toInt ≤ 9 from t112) (show 2 ≤ f76_12_0.toInt from r115) (show f76_12_0.toInt ≤ 10 from t116) (show 1 ≤ f76_12_1.toInt from r118) (show f76_12_1.toInt ≤ 13 from t119)  hw hT hF c128 c129 hM (lv_sub hl [1, 2, 3, 4, 5, 6, 7, 8, 9, 10, 0] rfl)
              · have c121 : v137_10.toInt < (7 : Int) := wk_leF c121
                replace hM := hM.neg (Int.not_le.mpr c121)
                refine lv_aload_n hx hb dX12_built_144 rfl (lv_at hl 0 rfl) ?_
                refine tk_getA hC hK hw hT hinX12 kM_at0 (by decide) rfl 26 (by decide) (List.mem_cons_of_mem _ uw_7_1) rfl rfl dX12_built_145 ?_
                refine lv_iload hx hb dX12_built_148 (lv_at hl 4 rfl) ?_
                refine lv_iconst (v := 3) hx hb dX12_built_150 (by decide) ?_
                refine lv_iadd hx hb dX12_built_151 ?_
                refine lv_topi (fun x132 ex132 => ?_)
                have ezx132 := ex132
                have ex132 : x132.toInt = v76_4.toInt + (3 : Int) := by rw [ex132]; exact wk_add (show (-2147483648) ≤ v76_4.toInt + (3 : Int) by omega) (show v76_4.toInt + (3 : Int) ≤ 2147483647 by omega)
                replace hM := hM.lt ex132.symm
                refine lv_iload hx hb dX12_built_152 (lv_at hl 10 rfl) ?_
                refine lv_iadd hx hb dX12_built_154 ?_
                refine lv_topi (fun x133 ex133 => ?_)
                have ezx133 := ex133
                have ex133 : x133.toInt = x132.toInt + v137_10.toInt := by rw [ex133]; exact wk_add (show (-2147483648) ≤ x132.toInt + v137_10.toInt by omega) (show x132.toInt + v137_10.toInt ≤ 2147483647 by omega)
                replace hM := hM.lt ex133.symm
                refine lv_iconst (v := 3) hx hb dX12_built_155 (by decide) ?_
                refine tk_iastR hC hK hw hT kM_at12 (by decide) rfl (show 0 ≤ x133.toInt by first | with_reducible assumption | omega) (show x133.toInt < 296 by first | with_reducible assumption | omega) (tk_rgS rfl 13 1 127 3 3 (by decide +kernel) ⟨(x133.toInt - 13).toNat, by omega, show x133.toInt.toNat = 13 + 1 * (x133.toInt - 13).toNat by omega⟩ (by decide) (by decide)) dX12_built_156 (fun H locs w134 hw hT k136 c135 => ?_)
                replace hM := hM.wr (sI_upc k136 c135 (by decide))
                have hF := hF.put kM_at12 (inE_of (a := 13) (b := 139) (by decide) (show 13 ≤ x133.toInt.toNat by omega) (show x133.toInt.toNat ≤ 139 by omega)) k136
                have c137 := k136.gi (Or.inr (show 0 ≠ x133.toInt.toNat by omega)) c117
                have c138 := k136.gi (Or.inr (show 1 ≠ x133.toInt.toNat by omega)) c120
                obtain ⟨x139, ex139⟩ : ∃ y : Int32, y = v137_10 + Int32.ofInt 1 := ⟨_, rfl⟩
                have erx139 := ex139
                refine lv_iinc (v := x139) (lv' := [(10, .int x139), (0, .ref (ad 0)), (1, .int a1), (2, .int a2), (3, .int a3), (4, .int v76_4), (5, .int v93_5), (6, .int v93_6), (7, .int v93_7), (8, .int v76_8), (9, .int v93_9)]) hx hb dX12_built_157 hl (k := 10) rfl ex139.symm (by decide) rfl (fun ls hl => ?_)
                have ex139 : x139.toInt = v137_10.toInt + 1 := by rw [ex139]; exact wk_add (y := 1) (show -2147483648 ≤ v137_10.toInt + 1 by omega) (show v137_10.toInt + 1 ≤ 2147483647 by omega)
                replace hM := hM.lt ex139.symm
                refine lv_goto (tgt := 137) hx hb dX12_built_160 (by decide) ?_
                exact ih137 x139 H locs ls w134 (show 1 ≤ a1.toInt from r97) (show a1.toInt ≤ 9 from t98) (show 0 ≤ a2.toInt from r99) (show a2.toInt ≤ 99999 from t100) (show 0 ≤ a3.toInt from r101) (show a3.toInt ≤ 2 from t102) (show 10 ≤ v76_4.toInt from r103) (show v76_4.toInt ≤ 130 from t104) (show (-1) ≤ v93_5.toInt from r105) (show v93_5.toInt ≤ 9 from t106) (show (-1) ≤ v93_6.toInt from r107) (show v93_6.toInt ≤ 9 from t108) (show 0 ≤ v76_8.toInt from r109) (show v76_8.toInt ≤ 9 from t110) (show 1 ≤ v93_9.toInt from r111) (show v93_9.toInt ≤ 9 from t112) (show 0 ≤ x139.toInt by first | with_reducible assumption | omega) (show x139.toInt ≤ 7 by first | with_reducible assumption | omega) (show 2 ≤ f76_12_0.toInt from r115) (show f76_12_0.toInt ≤ 10 from t116) (show 1 ≤ f76_12_1.toInt from r118) (show f76_12_1.toInt ≤ 13 from t119) (show (7 - x139.toInt).toNat < n137 by first | exact tn_lt hm137 (by omega) (by omega) | omega) hw hT hF c137 c138 hM (lv_sub hl [1, 2, 3, 4, 5, 6, 7, 8, 9, 10, 0] rfl)
          replace hM := hM.suc (fun _ => e_X12_built_93)
          refine lv_iload hx hb dX12_built_93 (lv_at hl 9 rfl) ?_
          refine lv_aload_n hx hb dX12_built_95 rfl (lv_at hl 0 rfl) ?_
          refine tk_getA hC hK hw hT hinX12 kM_at0 (by decide) rfl 26 (by decide) (List.mem_cons_of_mem _ uw_7_1) rfl rfl dX12_built_96 ?_
          refine lv_iconst (v := 0) hx hb dX12_built_99 (by decide) ?_
          refine tk_ialdR hC hK hw hT kM_at12 rfl (by decide) (by decide) dX12_built_100 (fun x140 c141 Ex140 => ?_)
          have hox140 := c141
          refine wk_top f76_12_0 (c141.symm.trans c45) ?_
          replace hM := hM.rd ((sI_at hox140).trans (congrArg Int32.toInt (c141.symm.trans c45)))
          refine lv_icmp_ge (tgt := 203) hx hb dX12_built_101 (by decide) (fun c142 => ?_) (fun c142 => ?_)
          · have c142 : f76_12_0.toInt ≤ v93_9.toInt := wk_le.mp c142
            replace hM := hM.pos c142
            obtain ⟨x143, ex143⟩ : ∃ y : Int32, y = v76_8 + Int32.ofInt 1 := ⟨_, rfl⟩
            have erx143 := ex143
            refine lv_iinc (v := x143) (lv' := [(8, .int x143), (0, .ref (ad 0)), (1, .int a1), (2, .int a2), (3, .int a3), (4, .int v76_4), (5, .int v93_5), (6, .int v93_6), (7, .int v93_7), (9, .int v93_9)]) hx hb dX12_built_203 hl (k := 8) rfl ex143.symm (by decide) rfl (fun ls hl => ?_)
            have ex143 : x143.toInt = v76_8.toInt + 1 := by rw [ex143]; exact wk_add (y := 1) (show -2147483648 ≤ v76_8.toInt + 1 by omega) (show v76_8.toInt + 1 ≤ 2147483647 by omega)
            replace hM := hM.lt ex143.symm
            refine lv_goto (tgt := 76) hx hb dX12_built_206 (by decide) ?_
            exact ih76 v76_4 v93_5 v93_6 v93_7 x143 f76_12_0 f76_12_1 H locs ls w26 (show 1 ≤ a1.toInt from r27) (show a1.toInt ≤ 9 from t28) (show 0 ≤ a2.toInt from r29) (show a2.toInt ≤ 99999 from t30) (show 0 ≤ a3.toInt from r31) (show a3.toInt ≤ 2 from t32) (show 10 ≤ v76_4.toInt from r33) (show v76_4.toInt ≤ 130 from t34) (show (-1) ≤ v93_5.toInt from r35) (show v93_5.toInt ≤ 9 from t36) (show (-1) ≤ v93_6.toInt from r37) (show v93_6.toInt ≤ 9 from t38) (show 0 ≤ x143.toInt by first | with_reducible assumption | omega) (show x143.toInt ≤ 10 by first | with_reducible assumption | omega) (show 1 ≤ f76_12_0.toInt from r43) (show f76_12_0.toInt ≤ 10 from t44) (show 1 ≤ f76_12_1.toInt from r46) (show f76_12_1.toInt ≤ 13 from t47) (show (10 - x143.toInt).toNat < n76 by first | exact tn_lt hm76 (by omega) (by omega) | omega) hw hT hF c45 c48 hM (lv_sub hl [1, 2, 3, 4, 5, 6, 7, 8, 0] rfl)
          · have c142 : v93_9.toInt < f76_12_0.toInt := wk_leF c142
            replace hM := hM.neg (Int.not_le.mpr c142)
            refine lv_aload_n hx hb dX12_built_104 rfl (lv_at hl 0 rfl) ?_
            refine tk_getA hC hK hw hT hinX12 kM_at0 (by decide) rfl 26 (by decide) (List.mem_cons_of_mem _ uw_7_1) rfl rfl dX12_built_105 ?_
            refine lv_iload hx hb dX12_built_108 (lv_at hl 4 rfl) ?_
            refine lv_iload hx hb dX12_built_110 (lv_at hl 8 rfl) ?_
            refine tk_iastR hC hK hw hT kM_at12 (by decide) rfl (show 0 ≤ v76_4.toInt from Int.le_trans (by decide) r33) (show v76_4.toInt < 296 from Int.lt_of_le_of_lt t34 (by decide)) (tk_rgS rfl 10 1 121 0 9 (by decide +kernel) ⟨(v76_4.toInt - 10).toNat, by omega, show v76_4.toInt.toNat = 10 + 1 * (v76_4.toInt - 10).toNat by omega⟩ (show 0 ≤ v76_8.toInt from r39) (show v76_8.toInt ≤ 9 from t40)) dX12_built_112 (fun H locs w144 hw hT k146 c145 => ?_)
            replace hM := hM.wr (sI_up k146 c145)
            have hF := hF.put kM_at12 (inE_of (a := 10) (b := 130) (by decide) (show 10 ≤ v76_4.toInt.toNat by omega) (show v76_4.toInt.toNat ≤ 130 by omega)) k146
            have c147 := k146.gi (Or.inr (show 0 ≠ v76_4.toInt.toNat by omega)) c45
            have c148 := k146.gi (Or.inr (show 1 ≠ v76_4.toInt.toNat by omega)) c48
            refine lv_aload_n hx hb dX12_built_113 rfl (lv_at hl 0 rfl) ?_
            refine tk_getA hC hK hw hT hinX12 kM_at0 (by decide) rfl 26 (by decide) (List.mem_cons_of_mem _ uw_7_1) rfl rfl dX12_built_114 ?_
            refine lv_iload hx hb dX12_built_117 (lv_at hl 4 rfl) ?_
            refine lv_iconst (v := 1) hx hb dX12_built_119 (by decide) ?_
            refine lv_iadd hx hb dX12_built_120 ?_
            refine lv_topi (fun x149 ex149 => ?_)
            have ezx149 := ex149
            have ex149 : x149.toInt = v76_4.toInt + (1 : Int) := by rw [ex149]; exact wk_add (show (-2147483648) ≤ v76_4.toInt + (1 : Int) by omega) (show v76_4.toInt + (1 : Int) ≤ 2147483647 by omega)
            replace hM := hM.lt ex149.symm
            refine lv_iload hx hb dX12_built_121 (lv_at hl 9 rfl) ?_
            refine tk_iastR hC hK hw hT kM_at12 (by decide) rfl (show 0 ≤ x149.toInt by first | with_reducible assumption | omega) (show x149.toInt < 296 by first | with_reducible assumption | omega) (tk_rgS rfl 11 1 121 1 9 (by decide +kernel) ⟨(v76_4.toInt - 10).toNat, by omega, show x149.toInt.toNat = 11 + 1 * (v76_4.toInt - 10).toNat by omega⟩ (show 1 ≤ v93_9.toInt from r41) (show v93_9.toInt ≤ 9 by first | with_reducible assumption | omega)) dX12_built_123 (fun H locs w150 hw hT k152 c151 => ?_)
            replace hM := hM.wr (sI_up k152 c151)
            have hF := hF.put kM_at12 (inE_of (a := 11) (b := 131) (by decide) (show 11 ≤ x149.toInt.toNat by omega) (show x149.toInt.toNat ≤ 131 by omega)) k152
            have c153 := k152.gi (Or.inr (show 0 ≠ x149.toInt.toNat by omega)) c147
            have c154 := k152.gi (Or.inr (show 1 ≠ x149.toInt.toNat by omega)) c148
            refine lv_aload_n hx hb dX12_built_124 rfl (lv_at hl 0 rfl) ?_
            refine tk_getA hC hK hw hT hinX12 kM_at0 (by decide) rfl 26 (by decide) (List.mem_cons_of_mem _ uw_7_1) rfl rfl dX12_built_125 ?_
            refine lv_iload hx hb dX12_built_128 (lv_at hl 4 rfl) ?_
            refine lv_iconst (v := 2) hx hb dX12_built_130 (by decide) ?_
            refine lv_iadd hx hb dX12_built_131 ?_
            refine lv_topi (fun x155 ex155 => ?_)
            have ezx155 := ex155
            have ex155 : x155.toInt = v76_4.toInt + (2 : Int) := by rw [ex155]; exact wk_add (show (-2147483648) ≤ v76_4.toInt + (2 : Int) by omega) (show v76_4.toInt + (2 : Int) ≤ 2147483647 by omega)
            replace hM := hM.lt ex155.symm
            refine lv_iload_n hx hb dX12_built_132 rfl (lv_at hl 1 rfl) ?_
            refine tk_iastR hC hK hw hT kM_at12 (by decide) rfl (show 0 ≤ x155.toInt by first | with_reducible assumption | omega) (show x155.toInt < 296 by first | with_reducible assumption | omega) (tk_rgS rfl 12 1 121 1 9 (by decide +kernel) ⟨(v76_4.toInt - 10).toNat, by omega, show x155.toInt.toNat = 12 + 1 * (v76_4.toInt - 10).toNat by omega⟩ (show 1 ≤ a1.toInt from r27) (show a1.toInt ≤ 9 from t28)) dX12_built_133 (fun H locs w156 hw hT k158 c157 => ?_)
            replace hM := hM.wr (sI_up k158 c157)
            have hF := hF.put kM_at12 (inE_of (a := 12) (b := 132) (by decide) (show 12 ≤ x155.toInt.toNat by omega) (show x155.toInt.toNat ≤ 132 by omega)) k158
            have c159 := k158.gi (Or.inr (show 0 ≠ x155.toInt.toNat by omega)) c153
            have c160 := k158.gi (Or.inr (show 1 ≠ x155.toInt.toNat by omega)) c154
            refine lv_iconst (v := 0) hx hb dX12_built_134 (by decide) ?_
            refine lv_istore (lv' := [(10, .int 0), (0, .ref (ad 0)), (1, .int a1), (2, .int a2), (3, .int a3), (4, .int v76_4), (5, .int v93_5), (6, .int v93_6), (7, .int v93_7), (8, .int v76_8), (9, .int v93_9)]) hx hb dX12_built_135 hl (by decide) rfl (fun ls hl => ?_)
            exact L137 ((7 - (0 : Int)).toNat + 1) 0 H locs ls w156 (show 1 ≤ a1.toInt from r27) (show a1.toInt ≤ 9 from t28) (show 0 ≤ a2.toInt from r29) (show a2.toInt ≤ 99999 from t30) (show 0 ≤ a3.toInt from r31) (show a3.toInt ≤ 2 from t32) (show 10 ≤ v76_4.toInt from r33) (show v76_4.toInt ≤ 130 from t34) (show (-1) ≤ v93_5.toInt from r35) (show v93_5.toInt ≤ 9 from t36) (show (-1) ≤ v93_6.toInt from r37) (show v93_6.toInt ≤ 9 from t38) (show 0 ≤ v76_8.toInt from r39) (show v76_8.toInt ≤ 9 from t40) (show 1 ≤ v93_9.toInt from r41) (show v93_9.toInt ≤ 9 by first | with_reducible assumption | omega) (by decide) (by decide) (show 2 ≤ f76_12_0.toInt by first | with_reducible assumption | omega) (show f76_12_0.toInt ≤ 10 from t44) (show 1 ≤ f76_12_1.toInt from r46) (show f76_12_1.toInt ≤ 13 from t47) (Nat.lt_succ_self _) hw hT hF c159 c160 hM (lv_sub hl [1, 2, 3, 4, 5, 6, 7, 8, 9, 10, 0] rfl)
      replace hM := hM.suc (fun _ => e_X12_built_76)
      refine lv_iload hx hb dX12_built_76 (lv_at hl 8 rfl) ?_
      refine lv_aload_n hx hb dX12_built_78 rfl (lv_at hl 0 rfl) ?_
      refine tk_getA hC hK hw hT hinX12 kM_at0 (by decide) rfl 26 (by decide) (List.mem_cons_of_mem _ uw_7_1) rfl rfl dX12_built_79 ?_
      refine lv_iconst (v := 0) hx hb dX12_built_82 (by decide) ?_
      refine tk_ialdR hC hK hw hT kM_at12 rfl (by decide) (by decide) dX12_built_83 (fun x161 c162 Ex161 => ?_)
      have hox161 := c162
      refine wk_top f76_12_0 (c162.symm.trans c22) ?_
      replace hM := hM.rd ((sI_at hox161).trans (congrArg Int32.toInt (c162.symm.trans c22)))
      refine lv_icmp_ge (tgt := 209) hx hb dX12_built_84 (by decide) (fun c163 => ?_) (fun c163 => ?_)
      · have c163 : f76_12_0.toInt ≤ v76_8.toInt := wk_le.mp c163
        replace hM := hM.pos c163
        refine lv_aload_n hx hb dX12_built_209 rfl (lv_at hl 0 rfl) ?_
        refine tk_getA hC hK hw hT hinX12 kM_at0 (by decide) rfl 26 (by decide) (List.mem_cons_of_mem _ uw_7_1) rfl rfl dX12_built_210 ?_
        refine lv_iconst (v := 1) hx hb dX12_built_213 (by decide) ?_
        refine lv_dup2_11 hx hb dX12_built_214 rfl rfl ?_
        refine tk_ialdR hC hK hw hT kM_at12 rfl (by decide) (by decide) dX12_built_215 (fun x164 c165 Ex164 => ?_)
        have hox164 := c165
        refine wk_top f76_12_1 (c165.symm.trans c25) ?_
        replace hM := hM.rd ((sI_at hox164).trans (congrArg Int32.toInt (c165.symm.trans c25)))
        refine lv_iconst (v := 1) hx hb dX12_built_216 (by decide) ?_
        refine lv_isub hx hb dX12_built_217 ?_
        refine lv_topi (fun x166 ex166 => ?_)
        have ezx166 := ex166
        have ex166 : x166.toInt = f76_12_1.toInt - (1 : Int) := by rw [ex166]; exact wk_sub (show (-2147483648) ≤ f76_12_1.toInt - (1 : Int) by omega) (show f76_12_1.toInt - (1 : Int) ≤ 2147483647 by omega)
        replace hM := hM.lt ex166.symm
        refine tk_iastR hC hK hw hT kM_at12 (by decide) rfl (by decide) (by decide) ((tk_rg1 rfl).mpr ⟨(show 0 ≤ x166.toInt by first | with_reducible assumption | omega), (show x166.toInt ≤ if (71 : Nat) = 71 then (13 : Int) else 12 from (show x166.toInt ≤ 13 by first | with_reducible assumption | omega))⟩) dX12_built_218 (fun H locs w167 hw hT k169 c168 => ?_)
        have hT := hT.s1d (show (gi w167 12 1).toInt ≤ 12 by rw [show gi w167 12 1 = x166 from c168]; omega)
        replace hM := hM.wr (sI_up k169 c168)
        have hF := hF.put kM_at12 (inE_of (a := 1) (b := 1) (by decide) (by decide) (by decide)) k169
        have c170 := k169.gi (Or.inr (by decide)) c22
        have c168 : gi w167 12 1 = x166 := c168
        refine lv_iload_n hx hb dX12_built_219 rfl (lv_at hl 3 rfl) ?_
        refine lv_if_ne (tgt := 228) hx hb dX12_built_220 (by decide) (fun c171 => ?_) (fun c171 => ?_)
        · have c171 : ¬ a3.toInt = (0 : Int) := wk_eqF c171
          replace hM := hM.pos c171
          refine lv_iload_n hx hb dX12_built_228 rfl (lv_at hl 3 rfl) ?_
          refine lv_iconst (v := 1) hx hb dX12_built_229 (by decide) ?_
          refine lv_icmp_ne (tgt := 238) hx hb dX12_built_230 (by decide) (fun c172 => ?_) (fun c172 => ?_)
          · have c172 : ¬ a3.toInt = (1 : Int) := wk_eqF c172
            replace hM := hM.pos c172
            refine lv_iload hx hb dX12_built_238 (lv_at hl 7 rfl) ?_
            exact tk_iret hC hr hlocks hK ⟨hT, hF, hM.ret rfl, (Or.inl ⟨(show 1 ≤ a1.toInt from r6), (show a1.toInt ≤ 9 from t7), (show 0 ≤ a2.toInt from r8), (show a2.toInt ≤ 99999 from t9), (show 0 ≤ a3.toInt from r10), (show a3.toInt ≤ 2 from t11), ⟨f76_12_0, c170, (show 1 ≤ f76_12_0.toInt from r20), (show f76_12_0.toInt ≤ 10 from t21)⟩⟩)⟩ hw dX12_built_240
          · have c172 : a3.toInt = (1 : Int) := wk_eq.mp c172
            replace hM := hM.neg (fun q => q c172)
            refine lv_iload hx hb dX12_built_233 (lv_at hl 6 rfl) ?_
            refine lv_goto (tgt := 240) hx hb dX12_built_235 (by decide) ?_
            exact tk_iret hC hr hlocks hK ⟨hT, hF, hM.ret rfl, (Or.inl ⟨(show 1 ≤ a1.toInt from r6), (show a1.toInt ≤ 9 from t7), (show 0 ≤ a2.toInt from r8), (show a2.toInt ≤ 99999 from t9), (show 0 ≤ a3.toInt from r10), (show a3.toInt ≤ 2 from t11), ⟨f76_12_0, c170, (show 1 ≤ f76_12_0.toInt from r20), (show f76_12_0.toInt ≤ 10 from t21)⟩⟩)⟩ hw dX12_built_240
        · have c171 : a3.toInt = (0 : Int) := wk_eq.mp c171
          replace hM := hM.neg (fun q => q c171)
          refine lv_iload hx hb dX12_built_223 (lv_at hl 5 rfl) ?_
          refine lv_goto (tgt := 240) hx hb dX12_built_225 (by decide) ?_
          exact tk_iret hC hr hlocks hK ⟨hT, hF, hM.ret rfl, (Or.inl ⟨(show 1 ≤ a1.toInt from r6), (show a1.toInt ≤ 9 from t7), (show 0 ≤ a2.toInt from r8), (show a2.toInt ≤ 99999 from t9), (show 0 ≤ a3.toInt from r10), (show a3.toInt ≤ 2 from t11), ⟨f76_12_0, c170, (show 1 ≤ f76_12_0.toInt from r20), (show f76_12_0.toInt ≤ 10 from t21)⟩⟩)⟩ hw dX12_built_240
      · have c163 : v76_8.toInt < f76_12_0.toInt := wk_leF c163
        replace hM := hM.neg (Int.not_le.mpr c163)
        refine lv_iload hx hb dX12_built_87 (lv_at hl 8 rfl) ?_
        refine lv_iconst (v := 1) hx hb dX12_built_89 (by decide) ?_
        refine lv_iadd hx hb dX12_built_90 ?_
        refine lv_topi (fun x173 ex173 => ?_)
        have ezx173 := ex173
        have ex173 : x173.toInt = v76_8.toInt + (1 : Int) := by rw [ex173]; exact wk_add (show (-2147483648) ≤ v76_8.toInt + (1 : Int) by omega) (show v76_8.toInt + (1 : Int) ≤ 2147483647 by omega)
        replace hM := hM.lt ex173.symm
        refine lv_istore (lv' := [(9, .int x173), (0, .ref (ad 0)), (1, .int a1), (2, .int a2), (3, .int a3), (4, .int v76_4), (5, .int v76_5), (6, .int v76_6), (7, .int v76_7), (8, .int v76_8)]) hx hb dX12_built_91 hl (by decide) rfl (fun ls hl => ?_)
        exact L93 ((10 - x173.toInt).toNat + 1) v76_5 v76_6 v76_7 x173 H locs ls w5 (show 1 ≤ a1.toInt from r6) (show a1.toInt ≤ 9 from t7) (show 0 ≤ a2.toInt from r8) (show a2.toInt ≤ 99999 from t9) (show 0 ≤ a3.toInt from r10) (show a3.toInt ≤ 2 from t11) (show 10 ≤ v76_4.toInt from r12) (show v76_4.toInt ≤ 130 from t13) (show (-1) ≤ v76_5.toInt from r14) (show v76_5.toInt ≤ 9 from t15) (show (-1) ≤ v76_6.toInt from r16) (show v76_6.toInt ≤ 9 from t17) (show 0 ≤ v76_8.toInt from r18) (show v76_8.toInt ≤ 9 by first | with_reducible assumption | omega) (show 1 ≤ x173.toInt by first | with_reducible assumption | omega) (show x173.toInt ≤ 10 by first | with_reducible assumption | omega) (show 1 ≤ f76_12_0.toInt from r20) (show f76_12_0.toInt ≤ 10 from t21) (show 1 ≤ f76_12_1.toInt from r23) (show f76_12_1.toInt ≤ 13 from t24) (Nat.lt_succ_self _) hw hT hF c22 c25 hM (lv_sub hl [1, 2, 3, 4, 5, 6, 7, 8, 9, 0] rfl)
  have hM : TT (fun n => m_X12_built n 0 a1.toInt a2.toInt a3.toInt (sI w0)) (fun n => m_X12_built n 0 a1.toInt a2.toInt a3.toInt (sI w0)) := TT.rf
  refine lv_aload_n hx hb dX12_built_0 rfl (lv_at hl 0 rfl) ?_
  refine tk_Vi hC hK hw hT hA hE hSR kM_at0 (by decide) rfl (kz_X12_isTown_1 l adK adV dC dI cy ad B hB0 (Int.le_trans hB1 (by decide)) qr s1    w0 s.heap.size hT ) (cwV 0 hC.2.2.2.2 uV_RX12_337 rfl rfl rfl (by decide +kernel) ⟨Nat.le_of_ble_eq_true rfl, Nat.le_of_ble_eq_true rfl⟩) rfl hl.1 rfl (Nat.le_of_ble_eq_true rfl) dX12_built_1 (fun r174 w176 H locs hp175 hw => ?_)
  obtain ⟨rfl, hv183, hg182⟩ := hp175
  rcases hg182 with ⟨rfl, ⟨x178, c179, rx178, tx178⟩⟩ | ⟨rfl, ⟨x180, c181, rx180, tx180⟩⟩
  · replace hM := hM.call (r' := 0) hv183 (by decide)
    refine lv_if_eq (tgt := 38) hx hb dX12_built_4 (by decide) (fun _ => ?_) (fun c => absurd (by decide) c)
    replace hM := hM.pos (by decide)
    exact J38 x178 H locs ls w0 (show 0 ≤ x178.toInt by first | with_reducible assumption | omega) (show x178.toInt ≤ 10 by first | with_reducible assumption | omega)  hw hT hF c179 hM (lv_sub hl [0, 1, 2, 3] rfl)
  · replace hM := hM.call (r' := 1) hv183 (by decide)
    refine lv_if_eq (tgt := 38) hx hb dX12_built_4 (by decide) (fun c => absurd c (by decide)) (fun _ => ?_)
    replace hM := hM.neg (by decide)
    refine lv_iload_n hx hb dX12_built_7 rfl (lv_at hl 1 rfl) ?_
    refine lv_i2l hx hb dX12_built_8 rfl ?_
    refine lv_topl (fun x184 ex184 => ?_)
    have ex184 : x184.toInt = a1.toInt := by rw [ex184]; exact wk_i2l _
    have bx184 := wk_i32 a1
    replace hM := hM.lt ex184.symm
    refine lv_lconst (v := 1) hx hb dX12_built_9 (by decide) ?_
    refine lv_ldc2 (v := 9) hx hb hC.2.2.2.1 (hC.2.2.2.2 _ (List.mem_cons_of_mem _ uw_30_16)) dX12_built_10 ?_
    refine tk_Si hC hK hw hT hA hE hSR (kz_X12_in_7 l adK adV dC dI cy ad B hB0 (Int.le_trans hB1 (by decide)) qr s1   x184 (show (-2147483648) ≤ x184.toInt by first | with_reducible assumption | omega) (show x184.toInt ≤ 2147483647 by first | with_reducible assumption | omega) w0 H.size hT ) (va_cwS 3 hC.2.2.2.2 uS_RX12_122 rfl rfl rfl (by decide +kernel) ⟨Nat.le_of_ble_eq_true rfl, Nat.le_of_ble_eq_true rfl⟩) rfl hl.1 rfl (Nat.le_of_ble_eq_true rfl) dX12_built_13 (fun r185 w187 H locs hp186 hw => ?_)
    obtain ⟨rfl, hv192, hg191⟩ := hp186
    rcases hg191 with rfl | ⟨rfl, g189, g190⟩
    · replace hM := hM.call (r' := 0) hv192 (by decide)
      refine lv_if_eq (tgt := 38) hx hb dX12_built_16 (by decide) (fun _ => ?_) (fun c => absurd (by decide) c)
      replace hM := hM.pos (by decide)
      exact J38 x180 H locs ls w0 (show 0 ≤ x180.toInt by first | with_reducible assumption | omega) (show x180.toInt ≤ 10 by first | with_reducible assumption | omega)  hw hT hF c181 hM (lv_sub hl [0, 1, 2, 3] rfl)
    · replace hM := hM.call (r' := 1) hv192 (by decide)
      refine lv_if_eq (tgt := 38) hx hb dX12_built_16 (by decide) (fun c => absurd c (by decide)) (fun _ => ?_)
      replace hM := hM.neg (by decide)
      refine lv_iload_n hx hb dX12_built_19 rfl (lv_at hl 2 rfl) ?_
      refine tk_Si hC hK hw hT hA hE hSR (kz_X12_isHour_1 l adK adV dC dI cy ad B hB0 (Int.le_trans hB1 (by decide)) qr s1   a2 w0 H.size hT ) (va_cwS 1 hC.2.2.2.2 uS_RX12_331 rfl rfl rfl (by decide +kernel) ⟨Nat.le_of_ble_eq_true rfl, Nat.le_of_ble_eq_true rfl⟩) rfl hl.1 rfl (Nat.le_of_ble_eq_true rfl) dX12_built_20 (fun r193 w195 H locs hp194 hw => ?_)
      obtain ⟨rfl, hv200, hg199⟩ := hp194
      rcases hg199 with rfl | ⟨rfl, g197, g198⟩
      · replace hM := hM.call (r' := 0) hv200 (by decide)
        refine lv_if_eq (tgt := 38) hx hb dX12_built_23 (by decide) (fun _ => ?_) (fun c => absurd (by decide) c)
        replace hM := hM.pos (by decide)
        exact J38 x180 H locs ls w0 (show 0 ≤ x180.toInt by first | with_reducible assumption | omega) (show x180.toInt ≤ 10 by first | with_reducible assumption | omega)  hw hT hF c181 hM (lv_sub hl [0, 1, 2, 3] rfl)
      · replace hM := hM.call (r' := 1) hv200 (by decide)
        refine lv_if_eq (tgt := 38) hx hb dX12_built_23 (by decide) (fun c => absurd c (by decide)) (fun _ => ?_)
        replace hM := hM.neg (by decide)
        refine lv_iload_n hx hb dX12_built_26 rfl (lv_at hl 3 rfl) ?_
        refine lv_i2l hx hb dX12_built_27 rfl ?_
        refine lv_topl (fun x201 ex201 => ?_)
        have ex201 : x201.toInt = a3.toInt := by rw [ex201]; exact wk_i2l _
        have bx201 := wk_i32 a3
        replace hM := hM.lt ex201.symm
        refine lv_lconst (v := 0) hx hb dX12_built_28 (by decide) ?_
        refine lv_ldc2 (v := 2) hx hb hC.2.2.2.1 (hC.2.2.2.2 _ (List.mem_cons_of_mem _ uw_54_0)) dX12_built_29 ?_
        refine tk_Si hC hK hw hT hA hE hSR (kz_X12_in_14 l adK adV dC dI cy ad B hB0 (Int.le_trans hB1 (by decide)) qr s1   x201 (show (-2147483648) ≤ x201.toInt by first | with_reducible assumption | omega) (show x201.toInt ≤ 2147483647 by first | with_reducible assumption | omega) w0 H.size hT ) (va_cwS 3 hC.2.2.2.2 uS_RX12_122 rfl rfl rfl (by decide +kernel) ⟨Nat.le_of_ble_eq_true rfl, Nat.le_of_ble_eq_true rfl⟩) rfl hl.1 rfl (Nat.le_of_ble_eq_true rfl) dX12_built_32 (fun r202 w204 H locs hp203 hw => ?_)
        obtain ⟨rfl, hv209, hg208⟩ := hp203
        rcases hg208 with rfl | ⟨rfl, g206, g207⟩
        · replace hM := hM.call (r' := 0) hv209 (by decide)
          refine lv_if_ne (tgt := 40) hx hb dX12_built_35 (by decide) (fun c => absurd (by decide) c) (fun _ => ?_)
          replace hM := hM.neg (by decide)
          exact J38 x180 H locs ls w0 (show 0 ≤ x180.toInt by first | with_reducible assumption | omega) (show x180.toInt ≤ 10 by first | with_reducible assumption | omega)  hw hT hF c181 hM (lv_sub hl [0, 1, 2, 3] rfl)
        · replace hM := hM.call (r' := 1) hv209 (by decide)
          refine lv_if_ne (tgt := 40) hx hb dX12_built_35 (by decide) (fun _ => ?_) (fun c => absurd c (by decide))
          replace hM := hM.pos (by decide)
          refine lv_bipush (v := 10) hx hb dX12_built_40 (by decide) ?_
          refine lv_bipush (v := 10) hx hb dX12_built_42 (by decide) ?_
          refine lv_aload_n hx hb dX12_built_44 rfl (lv_at hl 0 rfl) ?_
          refine tk_getA hC hK hw hT hinX12 kM_at0 (by decide) rfl 26 (by decide) (List.mem_cons_of_mem _ uw_7_1) rfl rfl dX12_built_45 ?_
          refine lv_iconst (v := 1) hx hb dX12_built_48 (by decide) ?_
          refine tk_ialdR hC hK hw hT kM_at12 rfl (by decide) (by decide) dX12_built_49 (fun x210 c211 Ex210 => ?_)
          have hox210 := c211
          replace hM := hM.rd (sI_at hox210)
          have bx210 : 0 ≤ x210.toInt ∧ x210.toInt ≤ 12 := (tk_rg1 rfl).mp Ex210
          have c211 : gi w0 12 1 = x210 := c211
          refine lv_imul hx hb dX12_built_50 ?_
          refine lv_topi (fun x212 ex212 => ?_)
          have ezx212 := ex212
          have ex212 : x212.toInt = (10 : Int) * x210.toInt := by rw [ex212]; exact wk_mul (show (-2147483648) ≤ (10 : Int) * x210.toInt by omega) (show (10 : Int) * x210.toInt ≤ 2147483647 by omega)
          replace hM := hM.lt ex212.symm
          refine lv_iadd hx hb dX12_built_51 ?_
          refine lv_topi (fun x213 ex213 => ?_)
          have ezx213 := ex213
          have ex213 : x213.toInt = (10 : Int) + x212.toInt := by rw [ex213]; exact wk_add (show (-2147483648) ≤ (10 : Int) + x212.toInt by omega) (show (10 : Int) + x212.toInt ≤ 2147483647 by omega)
          replace hM := hM.lt ex213.symm
          refine lv_istore (lv' := [(4, .int x213), (0, .ref (ad 0)), (1, .int a1), (2, .int a2), (3, .int a3)]) hx hb dX12_built_52 hl (by decide) rfl (fun ls hl => ?_)
          refine lv_aload_n hx hb dX12_built_54 rfl (lv_at hl 1 rfl) ?_
          refine tk_getA hC hK hw hT hinX12 kM_at0 (by decide) rfl 26 (by decide) (List.mem_cons_of_mem _ uw_7_1) rfl rfl dX12_built_55 ?_
          refine lv_iconst (v := 1) hx hb dX12_built_58 (by decide) ?_
          refine lv_dup2_11 hx hb dX12_built_59 rfl rfl ?_
          refine tk_ialdR hC hK hw hT kM_at12 rfl (by decide) (by decide) dX12_built_60 (fun x214 c215 Ex214 => ?_)
          have hox214 := c215
          refine wk_top x210 (c215.symm.trans c211) ?_
          replace hM := hM.rd ((sI_at hox214).trans (congrArg Int32.toInt (c215.symm.trans c211)))
          refine lv_iconst (v := 1) hx hb dX12_built_61 (by decide) ?_
          refine lv_iadd hx hb dX12_built_62 ?_
          refine lv_topi (fun x216 ex216 => ?_)
          have ezx216 := ex216
          have ex216 : x216.toInt = x210.toInt + (1 : Int) := by rw [ex216]; exact wk_add (show (-2147483648) ≤ x210.toInt + (1 : Int) by omega) (show x210.toInt + (1 : Int) ≤ 2147483647 by omega)
          replace hM := hM.lt ex216.symm
          have hT := hT.s1 (s2 := 13) (by decide)
          refine tk_iastR hC hK hw hT kM_at12 (by decide) rfl (by decide) (by decide) ((tk_rg1 rfl).mpr ⟨(show 0 ≤ x216.toInt by first | with_reducible assumption | omega), (show x216.toInt ≤ if (71 : Nat) = 71 then (13 : Int) else 12 from (show x216.toInt ≤ 13 by first | with_reducible assumption | omega))⟩) dX12_built_63 (fun H locs w217 hw hT k219 c218 => ?_)
          replace hM := hM.wr (sI_up k219 c218)
          have hF := hF.put kM_at12 (inE_of (a := 1) (b := 1) (by decide) (by decide) (by decide)) k219
          have c220 := k219.gi (Or.inr (by decide)) c181
          have c218 : gi w217 12 1 = x216 := c218
          refine lv_iconst (v := (-1)) hx hb dX12_built_64 (by decide) ?_
          refine lv_istore (lv' := [(5, .int (-1)), (4, .int x213), (0, .ref (ad 0)), (1, .int a1), (2, .int a2), (3, .int a3)]) hx hb dX12_built_65 hl (by decide) rfl (fun ls hl => ?_)
          refine lv_iconst (v := (-1)) hx hb dX12_built_67 (by decide) ?_
          refine lv_istore (lv' := [(6, .int (-1)), (5, .int (-1)), (4, .int x213), (0, .ref (ad 0)), (1, .int a1), (2, .int a2), (3, .int a3)]) hx hb dX12_built_68 hl (by decide) rfl (fun ls hl => ?_)
          refine lv_iconst (v := 0) hx hb dX12_built_70 (by decide) ?_
          refine lv_istore (lv' := [(7, .int 0), (6, .int (-1)), (5, .int (-1)), (4, .int x213), (0, .ref (ad 0)), (1, .int a1), (2, .int a2), (3, .int a3)]) hx hb dX12_built_71 hl (by decide) rfl (fun ls hl => ?_)
          refine lv_iconst (v := 0) hx hb dX12_built_73 (by decide) ?_
          refine lv_istore (lv' := [(8, .int 0), (7, .int 0), (6, .int (-1)), (5, .int (-1)), (4, .int x213), (0, .ref (ad 0)), (1, .int a1), (2, .int a2), (3, .int a3)]) hx hb dX12_built_74 hl (by decide) rfl (fun ls hl => ?_)
          exact L76 ((10 - (0 : Int)).toNat + 1) x213 (-1) (-1) 0 0 x180 x216 H locs ls w217 (show 1 ≤ a1.toInt by first | with_reducible assumption | omega) (show a1.toInt ≤ 9 by first | with_reducible assumption | omega) (show 0 ≤ a2.toInt by first | with_reducible assumption | omega) (show a2.toInt ≤ 99999 by first | with_reducible assumption | omega) (show 0 ≤ a3.toInt by first | with_reducible assumption | omega) (show a3.toInt ≤ 2 by first | with_reducible assumption | omega) (show 10 ≤ x213.toInt by first | with_reducible assumption | omega) (show x213.toInt ≤ 130 by first | with_reducible assumption | omega) (by decide) (by decide) (by decide) (by decide) (by decide) (by decide) (show 1 ≤ x180.toInt by first | with_reducible assumption | omega) (show x180.toInt ≤ 10 by first | with_reducible assumption | omega) (show 1 ≤ x216.toInt by first | with_reducible assumption | omega) (show x216.toInt ≤ 13 by first | with_reducible assumption | omega) (Nat.lt_succ_self _) hw hT hF c220 c218 hM (lv_sub hl [5, 6, 7, 8, 4, 3, 2, 1, 0] rfl)
abbrev Pz_X12_in_15 (ad : Nat → Nat) (cy : Nat → ClassId) (B : Int) (qr : Nat) (s1 : Int) (a0 : Int64) (w0 : va_W) : Int32 → va_W → Prop := fun r u => w0 = u ∧ Ev (fun n => m_X12_in n a0.toInt 0 1 (sI w0)) (r.toInt, sI w0) ∧ ((r = 0) ∨ (r = 1 ∧ 0 ≤ a0.toInt ∧ a0.toInt ≤ 1))
set_option maxHeartbeats 4000000 in
set_option maxRecDepth 100000 in
theorem kz_X12_in_15 (l : Launch) (adK adV : Nat → Nat) (dC : Nat → ClassId) (dI : Nat → Nat → Nat) (cy : Nat → ClassId) (ad : Nat → Nat) (B : Int) (hB0 : 100000 ≤ B) (hB1 : B ≤ 1073741824) (qr : Nat) (s1 : Int)  (a0 : Int64) (ra0 : (-2147483648) ≤ a0.toInt) (ta0 : a0.toInt ≤ 2147483647) (w0 : va_W) (sz : Nat) (hT : TW ksM ad cy B qr 12 w0)  : Met l yX12_in (wu yX12_in cX12_in 6 (some .boolean)) ({ frames := 1, cells := 0, slots := 0, locals := 12 }) (va_Pc [.long a0, .long 0, .long 1] (wpreS adK adV dC dI cy sz w0)) (va_Qi (Pz_X12_in_15 ad cy B qr s1 a0 w0) (fun u : va_W => wpost dC dI cy (va_A w0 sz) u) (va_A w0 sz)) 0 0 (va_A w0 sz) := by
  refine Met.ofW (cc := cX12_in) (maxL := 6) (ret := (some .boolean)) (by decide) rfl ?_
  intro p e s m args below meth c s₁ Bk hml hv
  obtain ⟨rfl, ⟨hsz, hP, hK, hD0⟩, hE, hSR⟩ := hv
  have hx := Bk.exec
  have hb := Bk.bytes
  have hr := Bk.returns
  have hlocks := Bk.notSynchronized
  have hC : CallFix p m c cX12_in 6 s _ (wu yX12_in cX12_in 6 (some .boolean)) RX12 := ⟨hx, hb, hml, findClass_of_methodNamed Bk.named, atoms_spec (ws := (wu yX12_in cX12_in 6 (some .boolean))) Bk.pre⟩
  subst hsz
  have hD := hD0.self (sz := s.heap.size)
  generalize hAe : va_A w0 s.heap.size = A at hD hE ⊢
  have hA : ∀ q : Nat, s.heap.size ≤ q → A q := fun q h => by rw [← hAe]; exact Or.inr h
  have hw : Wd dC dI A s.heap s.heap [] w0 := ⟨hP, hD, va_S.rf⟩
  have hF : FE ksM ([] : List (Nat × Nat × Nat)) w0 w0 := FE.rf
  have hl := lv_entry ([.long a0, .long 0, .long 1]) (n := 6) (Nat.le_of_ble_eq_true rfl)
  rw [lg_entry_eq]
  generalize (lg_sl ([.long a0, .long 0, .long 1]) ++ List.replicate (6 - (lg_sl ([.long a0, .long 0, .long 1])).length) Slot.unset).toArray = ls at hl ⊢
  have hl : lv_has ls 6 [(0, .long a0), (2, .long 0), (4, .long 1)] := hl
  generalize hloc : ([] : List Loc) = locs at hw ⊢
  have J17 : ∀ (H : Heap) (locs : List Loc) (ls : Array Slot), (-2147483648) ≤ a0.toInt → a0.toInt ≤ 2147483647 → Wd dC dI A s.heap H locs w0 → TT (fun n => m_X12_in n a0.toInt 0 1 (sI w0)) (fun n => b_X12_in_17 n (sI w0)) → lv_has ls 6 [(0, .long a0), (2, .long 0), (4, .long 1)] → W p l e ({ frames := 1, cells := 0, slots := 0, locals := 12 }) s m (List.toArray [.long a0, .long 0, .long 1]) below meth c H locs 0 0 (MQ below (va_Qi (Pz_X12_in_15 ad cy B qr s1 a0 w0) (fun u : va_W => wpost dC dI cy A u) A) (List.toArray [.long a0, .long 0, .long 1]) s 0 0 A) (F0 m 17 ls []) := by
    intro H locs ls r1 t2 hw hM hl
    refine lv_iconst (v := 0) hx hb dX12_in_17 (by decide) ?_
    exact tk_zret hC hr rfl hlocks hK ⟨rfl, hM.ret (by decide), (Or.inl rfl)⟩ hw dX12_in_18
  have hM : TT (fun n => m_X12_in n a0.toInt 0 1 (sI w0)) (fun n => m_X12_in n a0.toInt 0 1 (sI w0)) := TT.rf
  refine lv_lload_n hx hb dX12_in_0 rfl (lv_at hl 0 rfl) ?_
  refine lv_lload_n hx hb dX12_in_1 rfl (lv_at hl 1 rfl) ?_
  refine W.lcmp hx hb dX12_in_2 ?_
  refine lv_if_lt (tgt := 17) hx hb dX12_in_3 (by decide) (fun c3 => ?_) (fun c3 => ?_)
  · have c3 : a0.toInt < (0 : Int) := wk_cltT c3
    replace hM := hM.pos c3
    exact J17  s.heap locs ls  (show (-2147483648) ≤ a0.toInt from ra0) (show a0.toInt ≤ 2147483647 from ta0)  hw  hM (lv_sub hl [0, 1, 2] rfl)
  · have c3 : (0 : Int) ≤ a0.toInt := wk_cltF c3
    replace hM := hM.neg (Int.not_lt.mpr c3)
    refine lv_lload_n hx hb dX12_in_6 rfl (lv_at hl 0 rfl) ?_
    refine lv_lload hx hb dX12_in_7 (lv_at hl 2 rfl) ?_
    refine W.lcmp hx hb dX12_in_9 ?_
    refine lv_if_gt (tgt := 17) hx hb dX12_in_10 (by decide) (fun c4 => ?_) (fun c4 => ?_)
    · have c4 : (1 : Int) < a0.toInt := wk_cgtT c4
      replace hM := hM.pos c4
      exact J17  s.heap locs ls  (show (-2147483648) ≤ a0.toInt from ra0) (show a0.toInt ≤ 2147483647 from ta0)  hw  hM (lv_sub hl [0, 1, 2] rfl)
    · have c4 : a0.toInt ≤ (1 : Int) := wk_cgtF c4
      replace hM := hM.neg (Int.not_lt.mpr c4)
      refine lv_iconst (v := 1) hx hb dX12_in_13 (by decide) ?_
      refine lv_goto (tgt := 18) hx hb dX12_in_14 (by decide) ?_
      exact tk_zret hC hr rfl hlocks hK ⟨rfl, hM.ret (by decide), (Or.inr ⟨rfl, (show 0 ≤ a0.toInt by first | with_reducible assumption | omega), (show a0.toInt ≤ 1 by first | with_reducible assumption | omega)⟩)⟩ hw dX12_in_18
abbrev Pz_X12_takesMap_1 (ad : Nat → Nat) (cy : Nat → ClassId) (B : Int) (qr : Nat) (s1 : Int) (a1 : Int32) (w0 : va_W) : va_W → Prop := fun u => TW ksM ad cy B qr 12 u ∧ FE ksM [(72, 0, 12)] w0 u ∧ Ev (fun n => m_X12_takesMap n 0 a1.toInt (sI w0)) (0, sI u) ∧ ((True))
set_option maxHeartbeats 4000000 in
set_option maxRecDepth 100000 in
theorem kz_X12_takesMap_1 (l : Launch) (adK adV : Nat → Nat) (dC : Nat → ClassId) (dI : Nat → Nat → Nat) (cy : Nat → ClassId) (ad : Nat → Nat) (B : Int) (hB0 : 100000 ≤ B) (hB1 : B ≤ 1073741824) (qr : Nat) (s1 : Int)  (a1 : Int32) (ra1 : 0 ≤ a1.toInt) (ta1 : a1.toInt ≤ 3) (w0 : va_W) (sz : Nat) (hT : TW ksM ad cy B qr 12 w0)  : Met l yX12_takesMap (wu yX12_takesMap cX12_takesMap 3 none) ({ frames := 1, cells := 0, slots := 0, locals := 12 }) (va_Pc [.ref (ad 0), .int a1] (wpreS adK adV dC dI cy sz w0)) (va_Qv (Pz_X12_takesMap_1 ad cy B qr s1 a1 w0) (fun u : va_W => wpost dC dI cy (va_A w0 sz) u) (va_A w0 sz)) 0 0 (va_A w0 sz) := by
  refine Met.ofW (cc := cX12_takesMap) (maxL := 3) (ret := none) (by decide) rfl ?_
  intro p e s m args below meth c s₁ Bk hml hv
  obtain ⟨rfl, ⟨hsz, hP, hK, hD0⟩, hE, hSR⟩ := hv
  have hx := Bk.exec
  have hb := Bk.bytes
  have hr := Bk.returns
  have hlocks := Bk.notSynchronized
  have hC : CallFix p m c cX12_takesMap 3 s _ (wu yX12_takesMap cX12_takesMap 3 none) RX12 := ⟨hx, hb, hml, findClass_of_methodNamed Bk.named, atoms_spec (ws := (wu yX12_takesMap cX12_takesMap 3 none)) Bk.pre⟩
  subst hsz
  have hD := hD0.self (sz := s.heap.size)
  generalize hAe : va_A w0 s.heap.size = A at hD hE ⊢
  have hA : ∀ q : Nat, s.heap.size ≤ q → A q := fun q h => by rw [← hAe]; exact Or.inr h
  have hw : Wd dC dI A s.heap s.heap [] w0 := ⟨hP, hD, va_S.rf⟩
  have hF : FE ksM [(72, 0, 12)] w0 w0 := FE.rf
  have hl := lv_entry ([.ref (ad 0), .int a1]) (n := 3) (Nat.le_of_ble_eq_true rfl)
  rw [lg_entry_eq]
  generalize (lg_sl ([.ref (ad 0), .int a1]) ++ List.replicate (3 - (lg_sl ([.ref (ad 0), .int a1])).length) Slot.unset).toArray = ls at hl ⊢
  have hl : lv_has ls 3 [(0, .ref (ad 0)), (1, .int a1)] := hl
  generalize hloc : ([] : List Loc) = locs at hw ⊢
  have hinX12 : ∀ w ∈ u_ws RX12 TX12 42, w ∈ (wu yX12_takesMap cX12_takesMap 3 none) := fun _ h => List.mem_cons_of_mem _ (up_71 h)
  have L2 : ∀ (n2 : Nat) (v2_2 : Int32) (H : Heap) (locs : List Loc) (ls : Array Slot) (w1 : va_W), 0 ≤ a1.toInt → a1.toInt ≤ 3 → 0 ≤ v2_2.toInt → v2_2.toInt ≤ 12 → (12 - v2_2.toInt).toNat < n2 → Wd dC dI A s.heap H locs w1 → TW ksM ad cy B qr 12 w1 → FE ksM [(72, 0, 12)] w0 w1 → TT (fun n => m_X12_takesMap n 0 a1.toInt (sI w0)) (fun n => j_X12_takesMap 0 n 2 [a1.toInt, v2_2.toInt] (sI w1)) → lv_has ls 3 [(0, .ref (ad 0)), (1, .int a1), (2, .int v2_2)] → W p l e ({ frames := 1, cells := 0, slots := 0, locals := 12 }) s m (List.toArray [.ref (ad 0), .int a1]) below meth c H locs 0 0 (MQ below (va_Qv (Pz_X12_takesMap_1 ad cy B qr s1 a1 w0) (fun u : va_W => wpost dC dI cy A u) A) (List.toArray [.ref (ad 0), .int a1]) s 0 0 A) (F0 m 2 ls []) := by
    intro n2
    induction n2 with
    | zero => intro v2_2 H locs ls w1 r2 t3 r4 t5 hm2 hw hT hF hM hl; omega
    | succ n2 ih2 =>
      intro v2_2 H locs ls w1 r2 t3 r4 t5 hm2 hw hT hF hM hl
      replace hM := hM.suc (fun _ => e_X12_takesMap_2)
      refine lv_iload_n hx hb dX12_takesMap_2 rfl (lv_at hl 2 rfl) ?_
      refine lv_aload_n hx hb dX12_takesMap_3 rfl (lv_at hl 0 rfl) ?_
      refine tk_getA hC hK hw hT hinX12 kM_at0 (by decide) rfl 26 (by decide) (List.mem_cons_of_mem _ uw_7_1) rfl rfl dX12_takesMap_4 ?_
      refine lv_iconst (v := 1) hx hb dX12_takesMap_7 (by decide) ?_
      refine tk_ialdR hC hK hw hT kM_at12 rfl (by decide) (by decide) dX12_takesMap_8 (fun x6 c7 Ex6 => ?_)
      have hox6 := c7
      replace hM := hM.rd (sI_at hox6)
      have bx6 : 0 ≤ x6.toInt ∧ x6.toInt ≤ 12 := (tk_rg1 rfl).mp Ex6
      have c7 : gi w1 12 1 = x6 := c7
      refine lv_icmp_ge (tgt := 39) hx hb dX12_takesMap_9 (by decide) (fun c8 => ?_) (fun c8 => ?_)
      · have c8 : x6.toInt ≤ v2_2.toInt := wk_le.mp c8
        replace hM := hM.pos c8
        exact tk_vret hC hr hlocks hK ⟨hT, hF, hM.ret rfl, trivial⟩ hw dX12_takesMap_39
      · have c8 : v2_2.toInt < x6.toInt := wk_leF c8
        replace hM := hM.neg (Int.not_le.mpr c8)
        refine lv_aload_n hx hb dX12_takesMap_12 rfl (lv_at hl 0 rfl) ?_
        refine tk_getA hC hK hw hT hinX12 kM_at0 (by decide) rfl 28 (by decide) (List.mem_cons_of_mem _ uw_7_3) rfl rfl dX12_takesMap_13 ?_
        refine lv_iload_n hx hb dX12_takesMap_16 rfl (lv_at hl 2 rfl) ?_
        refine lv_aload_n hx hb dX12_takesMap_17 rfl (lv_at hl 0 rfl) ?_
        refine tk_getA hC hK hw hT hinX12 kM_at0 (by decide) rfl 26 (by decide) (List.mem_cons_of_mem _ uw_7_1) rfl rfl dX12_takesMap_18 ?_
        refine lv_sipush (v := 168) hx hb dX12_takesMap_21 (by decide) ?_
        refine lv_bipush (v := 12) hx hb dX12_takesMap_24 (by decide) ?_
        refine lv_iload_n hx hb dX12_takesMap_26 rfl (lv_at hl 1 rfl) ?_
        refine lv_imul hx hb dX12_takesMap_27 ?_
        refine lv_topi (fun x9 ex9 => ?_)
        have ezx9 := ex9
        have ex9 : x9.toInt = (12 : Int) * a1.toInt := by rw [ex9]; exact wk_mul (show (-2147483648) ≤ (12 : Int) * a1.toInt by omega) (show (12 : Int) * a1.toInt ≤ 2147483647 by omega)
        replace hM := hM.lt ex9.symm
        refine lv_iadd hx hb dX12_takesMap_28 ?_
        refine lv_topi (fun x10 ex10 => ?_)
        have ezx10 := ex10
        have ex10 : x10.toInt = (168 : Int) + x9.toInt := by rw [ex10]; exact wk_add (show (-2147483648) ≤ (168 : Int) + x9.toInt by omega) (show (168 : Int) + x9.toInt ≤ 2147483647 by omega)
        replace hM := hM.lt ex10.symm
        refine lv_iload_n hx hb dX12_takesMap_29 rfl (lv_at hl 2 rfl) ?_
        refine lv_iadd hx hb dX12_takesMap_30 ?_
        refine lv_topi (fun x11 ex11 => ?_)
        have ezx11 := ex11
        have ex11 : x11.toInt = x10.toInt + v2_2.toInt := by rw [ex11]; exact wk_add (show (-2147483648) ≤ x10.toInt + v2_2.toInt by omega) (show x10.toInt + v2_2.toInt ≤ 2147483647 by omega)
        replace hM := hM.lt ex11.symm
        refine tk_ialdR hC hK hw hT kM_at12 rfl (show 0 ≤ x11.toInt by first | with_reducible assumption | omega) (show x11.toInt < 296 by first | with_reducible assumption | omega) dX12_takesMap_31 (fun x12 c13 Ex12 => ?_)
        have hox12 := c13
        have c13 : gi w1 12 (12 * a1.toInt + 1 * v2_2.toInt + 168).toNat = x12 := (congrArg (gi w1 12) (congrArg Int.toNat (show 12 * a1.toInt + 1 * v2_2.toInt + 168 = x11.toInt by first | exact Int.le_antisymm (by omega) (by omega) | omega))).trans c13
        replace hM := hM.rd (sI_at hox12)
        refine tk_iast hC hK hw hT kM_at13 (by decide) rfl rfl (show 0 ≤ v2_2.toInt from r4) (show v2_2.toInt < 12 by first | with_reducible assumption | omega) (wk_i32 x12).1 (wk_i32 x12).2 dX12_takesMap_32 (fun H locs w14 hw hT k16 c15 => ?_)
        replace hM := hM.wr (sI_up k16 c15)
        have hF := hF.put kM_at13 (inE_of (a := 0) (b := 12) (by decide) (show 0 ≤ v2_2.toInt.toNat by omega) (show v2_2.toInt.toNat ≤ 12 by omega)) k16
        have c17 := k16.gi (Or.inl (tk_ne kM_at12 kM_at13 (by decide))) c7
        have c18 := k16.gi (Or.inl (tk_ne kM_at12 kM_at13 (by decide))) c13
        obtain ⟨x19, ex19⟩ : ∃ y : Int32, y = v2_2 + Int32.ofInt 1 := ⟨_, rfl⟩
        have erx19 := ex19
        refine lv_iinc (v := x19) (lv' := [(2, .int x19), (0, .ref (ad 0)), (1, .int a1)]) hx hb dX12_takesMap_33 hl (k := 2) rfl ex19.symm (by decide) rfl (fun ls hl => ?_)
        have ex19 : x19.toInt = v2_2.toInt + 1 := by rw [ex19]; exact wk_add (y := 1) (show -2147483648 ≤ v2_2.toInt + 1 by omega) (show v2_2.toInt + 1 ≤ 2147483647 by omega)
        replace hM := hM.lt ex19.symm
        refine lv_goto (tgt := 2) hx hb dX12_takesMap_36 (by decide) ?_
        exact ih2 x19 H locs ls w14 (show 0 ≤ a1.toInt from r2) (show a1.toInt ≤ 3 from t3) (show 0 ≤ x19.toInt by first | with_reducible assumption | omega) (show x19.toInt ≤ 12 by first | with_reducible assumption | omega) (show (12 - x19.toInt).toNat < n2 by first | exact tn_lt hm2 (by omega) (by omega) | omega) hw hT hF hM (lv_sub hl [1, 2, 0] rfl)
  have hM : TT (fun n => m_X12_takesMap n 0 a1.toInt (sI w0)) (fun n => m_X12_takesMap n 0 a1.toInt (sI w0)) := TT.rf
  refine lv_iconst (v := 0) hx hb dX12_takesMap_0 (by decide) ?_
  refine lv_istore_n (lv' := [(2, .int 0), (0, .ref (ad 0)), (1, .int a1)]) hx hb dX12_takesMap_1 rfl hl (by decide) rfl (fun ls hl => ?_)
  exact L2 ((12 - (0 : Int)).toNat + 1) 0 s.heap locs ls w0 (show 0 ≤ a1.toInt from ra1) (show a1.toInt ≤ 3 from ta1) (by decide) (by decide) (Nat.lt_succ_self _) hw hT hF hM (lv_sub hl [1, 2, 0] rfl)
abbrev Pz_X12_streetOf_7 (ad : Nat → Nat) (cy : Nat → ClassId) (B : Int) (qr : Nat) (s1 : Int) (a1 : Int32) (a2 : Int32) (w0 : va_W) : Int32 → va_W → Prop := fun r u => w0 = u ∧ Ev (fun n => m_X12_streetOf n 0 a1.toInt a2.toInt (sI w0)) (r.toInt, sI w0) ∧ ((0 ≤ r.toInt ∧ r.toInt ≤ 9 ∧ gi u 12 (10 * a1.toInt + 1 * a2.toInt + 10).toNat = r))
set_option maxHeartbeats 4000000 in
set_option maxRecDepth 100000 in
theorem kz_X12_streetOf_7 (l : Launch) (adK adV : Nat → Nat) (dC : Nat → ClassId) (dI : Nat → Nat → Nat) (cy : Nat → ClassId) (ad : Nat → Nat) (B : Int) (hB0 : 100000 ≤ B) (hB1 : B ≤ 1073741824) (qr : Nat) (s1 : Int)  (a1 : Int32) (ra1 : 0 ≤ a1.toInt) (ta1 : a1.toInt ≤ 11) (a2 : Int32) (ra2 : 0 ≤ a2.toInt) (ta2 : a2.toInt ≤ 1) (w0 : va_W) (sz : Nat) (hT : TW ksM ad cy B qr 12 w0)  : Met l yX12_streetOf (wu yX12_streetOf cX12_streetOf 3 (some .int)) ({ frames := 1, cells := 0, slots := 0, locals := 12 }) (va_Pc [.ref (ad 0), .int a1, .int a2] (wpreS adK adV dC dI cy sz w0)) (va_Qi (Pz_X12_streetOf_7 ad cy B qr s1 a1 a2 w0) (fun u : va_W => wpost dC dI cy (va_A w0 sz) u) (va_A w0 sz)) 0 0 (va_A w0 sz) := by
  refine Met.ofW (cc := cX12_streetOf) (maxL := 3) (ret := (some .int)) (by decide) rfl ?_
  intro p e s m args below meth c s₁ Bk hml hv
  obtain ⟨rfl, ⟨hsz, hP, hK, hD0⟩, hE, hSR⟩ := hv
  have hx := Bk.exec
  have hb := Bk.bytes
  have hr := Bk.returns
  have hlocks := Bk.notSynchronized
  have hC : CallFix p m c cX12_streetOf 3 s _ (wu yX12_streetOf cX12_streetOf 3 (some .int)) RX12 := ⟨hx, hb, hml, findClass_of_methodNamed Bk.named, atoms_spec (ws := (wu yX12_streetOf cX12_streetOf 3 (some .int))) Bk.pre⟩
  subst hsz
  have hD := hD0.self (sz := s.heap.size)
  generalize hAe : va_A w0 s.heap.size = A at hD hE ⊢
  have hA : ∀ q : Nat, s.heap.size ≤ q → A q := fun q h => by rw [← hAe]; exact Or.inr h
  have hw : Wd dC dI A s.heap s.heap [] w0 := ⟨hP, hD, va_S.rf⟩
  have hF : FE ksM ([] : List (Nat × Nat × Nat)) w0 w0 := FE.rf
  have hl := lv_entry ([.ref (ad 0), .int a1, .int a2]) (n := 3) (Nat.le_of_ble_eq_true rfl)
  rw [lg_entry_eq]
  generalize (lg_sl ([.ref (ad 0), .int a1, .int a2]) ++ List.replicate (3 - (lg_sl ([.ref (ad 0), .int a1, .int a2])).length) Slot.unset).toArray = ls at hl ⊢
  have hl : lv_has ls 3 [(0, .ref (ad 0)), (1, .int a1), (2, .int a2)] := hl
  generalize hloc : ([] : List Loc) = locs at hw ⊢
  have hinX12 : ∀ w ∈ u_ws RX12 TX12 42, w ∈ (wu yX12_streetOf cX12_streetOf 3 (some .int)) := fun _ h => List.mem_cons_of_mem _ (up_71 h)
  have hM : TT (fun n => m_X12_streetOf n 0 a1.toInt a2.toInt (sI w0)) (fun n => m_X12_streetOf n 0 a1.toInt a2.toInt (sI w0)) := TT.rf
  refine lv_aload_n hx hb dX12_streetOf_0 rfl (lv_at hl 0 rfl) ?_
  refine tk_getA hC hK hw hT hinX12 kM_at0 (by decide) rfl 26 (by decide) (List.mem_cons_of_mem _ uw_7_1) rfl rfl dX12_streetOf_1 ?_
  refine lv_bipush (v := 10) hx hb dX12_streetOf_4 (by decide) ?_
  refine lv_bipush (v := 10) hx hb dX12_streetOf_6 (by decide) ?_
  refine lv_iload_n hx hb dX12_streetOf_8 rfl (lv_at hl 1 rfl) ?_
  refine lv_imul hx hb dX12_streetOf_9 ?_
  refine lv_topi (fun x1 ex1 => ?_)
  have ezx1 := ex1
  have ex1 : x1.toInt = (10 : Int) * a1.toInt := by rw [ex1]; exact wk_mul (show (-2147483648) ≤ (10 : Int) * a1.toInt by omega) (show (10 : Int) * a1.toInt ≤ 2147483647 by omega)
  replace hM := hM.lt ex1.symm
  refine lv_iadd hx hb dX12_streetOf_10 ?_
  refine lv_topi (fun x2 ex2 => ?_)
  have ezx2 := ex2
  have ex2 : x2.toInt = (10 : Int) + x1.toInt := by rw [ex2]; exact wk_add (show (-2147483648) ≤ (10 : Int) + x1.toInt by omega) (show (10 : Int) + x1.toInt ≤ 2147483647 by omega)
  replace hM := hM.lt ex2.symm
  refine lv_iload_n hx hb dX12_streetOf_11 rfl (lv_at hl 2 rfl) ?_
  refine lv_iadd hx hb dX12_streetOf_12 ?_
  refine lv_topi (fun x3 ex3 => ?_)
  have ezx3 := ex3
  have ex3 : x3.toInt = x2.toInt + a2.toInt := by rw [ex3]; exact wk_add (show (-2147483648) ≤ x2.toInt + a2.toInt by omega) (show x2.toInt + a2.toInt ≤ 2147483647 by omega)
  replace hM := hM.lt ex3.symm
  refine tk_ialdR hC hK hw hT kM_at12 rfl (show 0 ≤ x3.toInt by first | with_reducible assumption | omega) (show x3.toInt < 296 by first | with_reducible assumption | omega) dX12_streetOf_13 (fun x4 c5 Ex4 => ?_)
  have hox4 := c5
  have c5 : gi w0 12 (10 * a1.toInt + 1 * a2.toInt + 10).toNat = x4 := (congrArg (gi w0 12) (congrArg Int.toNat (show 10 * a1.toInt + 1 * a2.toInt + 10 = x3.toInt by first | exact Int.le_antisymm (by omega) (by omega) | omega))).trans c5
  replace hM := hM.rd (sI_at hox4)
  have bx4 := tk_rgI rfl 10 1 112 0 9 (by decide +kernel) ⟨(x3.toInt - 10).toNat, by omega, show x3.toInt.toNat = 10 + 1 * (x3.toInt - 10).toNat by omega⟩ Ex4
  exact tk_iret hC hr hlocks hK ⟨rfl, hM.ret rfl, ⟨(show 0 ≤ x4.toInt by first | with_reducible assumption | omega), (show x4.toInt ≤ 9 by first | with_reducible assumption | omega), c5⟩⟩ hw dX12_streetOf_14
abbrev Pz_X12_streetOf_8 (ad : Nat → Nat) (cy : Nat → ClassId) (B : Int) (qr : Nat) (s1 : Int) (a1 : Int32) (w0 : va_W) : Int32 → va_W → Prop := fun r u => w0 = u ∧ Ev (fun n => m_X12_streetOf n 0 a1.toInt 2 (sI w0)) (r.toInt, sI w0) ∧ ((0 ≤ r.toInt ∧ r.toInt ≤ 9 ∧ gi u 12 (10 * a1.toInt + 12).toNat = r))
set_option maxHeartbeats 4000000 in
set_option maxRecDepth 100000 in
theorem kz_X12_streetOf_8 (l : Launch) (adK adV : Nat → Nat) (dC : Nat → ClassId) (dI : Nat → Nat → Nat) (cy : Nat → ClassId) (ad : Nat → Nat) (B : Int) (hB0 : 100000 ≤ B) (hB1 : B ≤ 1073741824) (qr : Nat) (s1 : Int)  (a1 : Int32) (ra1 : 0 ≤ a1.toInt) (ta1 : a1.toInt ≤ 11) (w0 : va_W) (sz : Nat) (hT : TW ksM ad cy B qr 12 w0)  : Met l yX12_streetOf (wu yX12_streetOf cX12_streetOf 3 (some .int)) ({ frames := 1, cells := 0, slots := 0, locals := 12 }) (va_Pc [.ref (ad 0), .int a1, .int 2] (wpreS adK adV dC dI cy sz w0)) (va_Qi (Pz_X12_streetOf_8 ad cy B qr s1 a1 w0) (fun u : va_W => wpost dC dI cy (va_A w0 sz) u) (va_A w0 sz)) 0 0 (va_A w0 sz) := by
  refine Met.ofW (cc := cX12_streetOf) (maxL := 3) (ret := (some .int)) (by decide) rfl ?_
  intro p e s m args below meth c s₁ Bk hml hv
  obtain ⟨rfl, ⟨hsz, hP, hK, hD0⟩, hE, hSR⟩ := hv
  have hx := Bk.exec
  have hb := Bk.bytes
  have hr := Bk.returns
  have hlocks := Bk.notSynchronized
  have hC : CallFix p m c cX12_streetOf 3 s _ (wu yX12_streetOf cX12_streetOf 3 (some .int)) RX12 := ⟨hx, hb, hml, findClass_of_methodNamed Bk.named, atoms_spec (ws := (wu yX12_streetOf cX12_streetOf 3 (some .int))) Bk.pre⟩
  subst hsz
  have hD := hD0.self (sz := s.heap.size)
  generalize hAe : va_A w0 s.heap.size = A at hD hE ⊢
  have hA : ∀ q : Nat, s.heap.size ≤ q → A q := fun q h => by rw [← hAe]; exact Or.inr h
  have hw : Wd dC dI A s.heap s.heap [] w0 := ⟨hP, hD, va_S.rf⟩
  have hF : FE ksM ([] : List (Nat × Nat × Nat)) w0 w0 := FE.rf
  have hl := lv_entry ([.ref (ad 0), .int a1, .int 2]) (n := 3) (Nat.le_of_ble_eq_true rfl)
  rw [lg_entry_eq]
  generalize (lg_sl ([.ref (ad 0), .int a1, .int 2]) ++ List.replicate (3 - (lg_sl ([.ref (ad 0), .int a1, .int 2])).length) Slot.unset).toArray = ls at hl ⊢
  have hl : lv_has ls 3 [(0, .ref (ad 0)), (1, .int a1), (2, .int 2)] := hl
  generalize hloc : ([] : List Loc) = locs at hw ⊢
  have hinX12 : ∀ w ∈ u_ws RX12 TX12 42, w ∈ (wu yX12_streetOf cX12_streetOf 3 (some .int)) := fun _ h => List.mem_cons_of_mem _ (up_71 h)
  have hM : TT (fun n => m_X12_streetOf n 0 a1.toInt 2 (sI w0)) (fun n => m_X12_streetOf n 0 a1.toInt 2 (sI w0)) := TT.rf
  refine lv_aload_n hx hb dX12_streetOf_0 rfl (lv_at hl 0 rfl) ?_
  refine tk_getA hC hK hw hT hinX12 kM_at0 (by decide) rfl 26 (by decide) (List.mem_cons_of_mem _ uw_7_1) rfl rfl dX12_streetOf_1 ?_
  refine lv_bipush (v := 10) hx hb dX12_streetOf_4 (by decide) ?_
  refine lv_bipush (v := 10) hx hb dX12_streetOf_6 (by decide) ?_
  refine lv_iload_n hx hb dX12_streetOf_8 rfl (lv_at hl 1 rfl) ?_
  refine lv_imul hx hb dX12_streetOf_9 ?_
  refine lv_topi (fun x1 ex1 => ?_)
  have ezx1 := ex1
  have ex1 : x1.toInt = (10 : Int) * a1.toInt := by rw [ex1]; exact wk_mul (show (-2147483648) ≤ (10 : Int) * a1.toInt by omega) (show (10 : Int) * a1.toInt ≤ 2147483647 by omega)
  replace hM := hM.lt ex1.symm
  refine lv_iadd hx hb dX12_streetOf_10 ?_
  refine lv_topi (fun x2 ex2 => ?_)
  have ezx2 := ex2
  have ex2 : x2.toInt = (10 : Int) + x1.toInt := by rw [ex2]; exact wk_add (show (-2147483648) ≤ (10 : Int) + x1.toInt by omega) (show (10 : Int) + x1.toInt ≤ 2147483647 by omega)
  replace hM := hM.lt ex2.symm
  refine lv_iload_n hx hb dX12_streetOf_11 rfl (lv_at hl 2 rfl) ?_
  refine lv_iadd hx hb dX12_streetOf_12 ?_
  refine lv_topi (fun x3 ex3 => ?_)
  have ezx3 := ex3
  have ex3 : x3.toInt = x2.toInt + (2 : Int) := by rw [ex3]; exact wk_add (show (-2147483648) ≤ x2.toInt + (2 : Int) by omega) (show x2.toInt + (2 : Int) ≤ 2147483647 by omega)
  replace hM := hM.lt ex3.symm
  refine tk_ialdR hC hK hw hT kM_at12 rfl (show 0 ≤ x3.toInt by first | with_reducible assumption | omega) (show x3.toInt < 296 by first | with_reducible assumption | omega) dX12_streetOf_13 (fun x4 c5 Ex4 => ?_)
  have hox4 := c5
  have c5 : gi w0 12 (10 * a1.toInt + 12).toNat = x4 := (congrArg (gi w0 12) (congrArg Int.toNat (show 10 * a1.toInt + 12 = x3.toInt by first | exact Int.le_antisymm (by omega) (by omega) | omega))).trans c5
  replace hM := hM.rd (sI_at hox4)
  have bx4 := tk_rgI rfl 12 10 12 0 9 (by decide +kernel) ⟨(a1.toInt - 0).toNat, by omega, show x3.toInt.toNat = 12 + 10 * (a1.toInt - 0).toNat by omega⟩ Ex4
  exact tk_iret hC hr hlocks hK ⟨rfl, hM.ret rfl, ⟨(show 0 ≤ x4.toInt by first | with_reducible assumption | omega), (show x4.toInt ≤ 9 by first | with_reducible assumption | omega), c5⟩⟩ hw dX12_streetOf_14
abbrev Pz_X12_isOf_3 (ad : Nat → Nat) (cy : Nat → ClassId) (B : Int) (qr : Nat) (s1 : Int) (a0 : Int32) (a1 : Int32) (w0 : va_W) : Int32 → va_W → Prop := fun r u => w0 = u ∧ Ev (fun n => m_X12_isOf n a0.toInt a1.toInt (sI w0)) (r.toInt, sI w0) ∧ ((r = 0 ∧ (¬ mOf a0 a1)) ∨ (r = 1 ∧ (mOf a0 a1)))
set_option maxHeartbeats 4000000 in
set_option maxRecDepth 100000 in
theorem kz_X12_isOf_3 (l : Launch) (adK adV : Nat → Nat) (dC : Nat → ClassId) (dI : Nat → Nat → Nat) (cy : Nat → ClassId) (ad : Nat → Nat) (B : Int) (hB0 : 100000 ≤ B) (hB1 : B ≤ 1073741824) (qr : Nat) (s1 : Int)  (a0 : Int32) (a1 : Int32) (ra1 : 0 ≤ a1.toInt) (ta1 : a1.toInt ≤ 1) (w0 : va_W) (sz : Nat) (hT : TW ksM ad cy B qr 12 w0)  : Met l yX12_isOf (wu yX12_isOf cX12_isOf 2 (some .boolean)) ({ frames := 1, cells := 0, slots := 0, locals := 12 }) (va_Pc [.int a0, .int a1] (wpreS adK adV dC dI cy sz w0)) (va_Qi (Pz_X12_isOf_3 ad cy B qr s1 a0 a1 w0) (fun u : va_W => wpost dC dI cy (va_A w0 sz) u) (va_A w0 sz)) 0 0 (va_A w0 sz) := by
  refine Met.ofW (cc := cX12_isOf) (maxL := 2) (ret := (some .boolean)) (by decide) rfl ?_
  intro p e s m args below meth c s₁ Bk hml hv
  obtain ⟨rfl, ⟨hsz, hP, hK, hD0⟩, hE, hSR⟩ := hv
  have hx := Bk.exec
  have hb := Bk.bytes
  have hr := Bk.returns
  have hlocks := Bk.notSynchronized
  have hC : CallFix p m c cX12_isOf 2 s _ (wu yX12_isOf cX12_isOf 2 (some .boolean)) RX12 := ⟨hx, hb, hml, findClass_of_methodNamed Bk.named, atoms_spec (ws := (wu yX12_isOf cX12_isOf 2 (some .boolean))) Bk.pre⟩
  subst hsz
  have hD := hD0.self (sz := s.heap.size)
  generalize hAe : va_A w0 s.heap.size = A at hD hE ⊢
  have hA : ∀ q : Nat, s.heap.size ≤ q → A q := fun q h => by rw [← hAe]; exact Or.inr h
  have hw : Wd dC dI A s.heap s.heap [] w0 := ⟨hP, hD, va_S.rf⟩
  have hF : FE ksM ([] : List (Nat × Nat × Nat)) w0 w0 := FE.rf
  have hl := lv_entry ([.int a0, .int a1]) (n := 2) (Nat.le_of_ble_eq_true rfl)
  rw [lg_entry_eq]
  generalize (lg_sl ([.int a0, .int a1]) ++ List.replicate (2 - (lg_sl ([.int a0, .int a1])).length) Slot.unset).toArray = ls at hl ⊢
  have hl : lv_has ls 2 [(0, .int a0), (1, .int a1)] := hl
  generalize hloc : ([] : List Loc) = locs at hw ⊢
  have hM : TT (fun n => m_X12_isOf n a0.toInt a1.toInt (sI w0)) (fun n => m_X12_isOf n a0.toInt a1.toInt (sI w0)) := TT.rf
  refine lv_iload_n hx hb dX12_isOf_0 rfl (lv_at hl 0 rfl) ?_
  refine lv_iload_n hx hb dX12_isOf_1 rfl (lv_at hl 1 rfl) ?_
  refine lv_ishr hx hb dX12_isOf_2 ?_
  refine lv_topi (fun x1 ex1 => ?_)
  have ezx1 := ex1
  replace hM := hM.lt (o32_e (f := fun x y => x >>> (y &&& 31)) ezx1 rfl rfl)
  refine lv_iconst (v := 1) hx hb dX12_isOf_3 (by decide) ?_
  refine lv_iand hx hb dX12_isOf_4 ?_
  refine lv_topi (fun x2 ex2 => ?_)
  have ezx2 := ex2
  have bx2 : 0 ≤ x2.toInt ∧ x2.toInt ≤ (1 : Int) := by rw [ex2]; exact wk_and (by decide)
  replace hM := hM.lt (o32_e (f := fun x y => x &&& y) ezx2 rfl (by decide))
  refine lv_iconst (v := 1) hx hb dX12_isOf_5 (by decide) ?_
  refine lv_icmp_ne (tgt := 13) hx hb dX12_isOf_6 (by decide) (fun c3 => ?_) (fun c3 => ?_)
  · have c3 : ¬ x2.toInt = (1 : Int) := wk_eqF c3
    replace hM := hM.pos c3
    refine lv_iconst (v := 0) hx hb dX12_isOf_13 (by decide) ?_
    exact tk_zret hC hr rfl hlocks hK ⟨rfl, hM.ret (by decide), (Or.inl ⟨rfl, (by unfold mOf; rw [← ex1, ← ex2]; omega)⟩)⟩ hw dX12_isOf_14
  · have c3 : x2.toInt = (1 : Int) := wk_eq.mp c3
    replace hM := hM.neg (fun q => q c3)
    refine lv_iconst (v := 1) hx hb dX12_isOf_9 (by decide) ?_
    refine lv_goto (tgt := 14) hx hb dX12_isOf_10 (by decide) ?_
    exact tk_zret hC hr rfl hlocks hK ⟨rfl, hM.ret (by decide), (Or.inr ⟨rfl, (by unfold mOf; rw [← ex1, ← ex2]; omega)⟩)⟩ hw dX12_isOf_14
abbrev Pz_X12_spreads_1 (ad : Nat → Nat) (cy : Nat → ClassId) (B : Int) (qr : Nat) (s1 : Int) (a1 : Int32) (w0 : va_W) : va_W → Prop := fun u => TW ksM ad cy B qr 12 u ∧ FE ksM [(73, 0, 10)] w0 u ∧ Ev (fun n => m_X12_spreads n 0 a1.toInt (sI w0)) (0, sI u) ∧ ((True))
set_option maxHeartbeats 4000000 in
set_option maxRecDepth 100000 in
theorem kz_X12_spreads_1 (l : Launch) (adK adV : Nat → Nat) (dC : Nat → ClassId) (dI : Nat → Nat → Nat) (cy : Nat → ClassId) (ad : Nat → Nat) (B : Int) (hB0 : 100000 ≤ B) (hB1 : B ≤ 1073741824) (qr : Nat) (s1 : Int)  (a1 : Int32) (ra1 : 0 ≤ a1.toInt) (ta1 : a1.toInt ≤ 9) (w0 : va_W) (sz : Nat) (hT : TW ksM ad cy B qr 12 w0)  : Met l yX12_spreads (wu yX12_spreads cX12_spreads 7 none) ({ frames := 2, cells := 0, slots := 0, locals := 34 }) (va_Pc [.ref (ad 0), .int a1] (wpreS adK adV dC dI cy sz w0)) (va_Qv (Pz_X12_spreads_1 ad cy B qr s1 a1 w0) (fun u : va_W => wpost dC dI cy (va_A w0 sz) u) (va_A w0 sz)) 0 0 (va_A w0 sz) := by
  refine Met.ofW (cc := cX12_spreads) (maxL := 7) (ret := none) (by decide) rfl ?_
  intro p e s m args below meth c s₁ Bk hml hv
  obtain ⟨rfl, ⟨hsz, hP, hK, hD0⟩, hE, hSR⟩ := hv
  have hx := Bk.exec
  have hb := Bk.bytes
  have hr := Bk.returns
  have hlocks := Bk.notSynchronized
  have hC : CallFix p m c cX12_spreads 7 s _ (wu yX12_spreads cX12_spreads 7 none) RX12 := ⟨hx, hb, hml, findClass_of_methodNamed Bk.named, atoms_spec (ws := (wu yX12_spreads cX12_spreads 7 none)) Bk.pre⟩
  subst hsz
  have hD := hD0.self (sz := s.heap.size)
  generalize hAe : va_A w0 s.heap.size = A at hD hE ⊢
  have hA : ∀ q : Nat, s.heap.size ≤ q → A q := fun q h => by rw [← hAe]; exact Or.inr h
  have hw : Wd dC dI A s.heap s.heap [] w0 := ⟨hP, hD, va_S.rf⟩
  have hF : FE ksM [(73, 0, 10)] w0 w0 := FE.rf
  have hl := lv_entry ([.ref (ad 0), .int a1]) (n := 7) (Nat.le_of_ble_eq_true rfl)
  rw [lg_entry_eq]
  generalize (lg_sl ([.ref (ad 0), .int a1]) ++ List.replicate (7 - (lg_sl ([.ref (ad 0), .int a1])).length) Slot.unset).toArray = ls at hl ⊢
  have hl : lv_has ls 7 [(0, .ref (ad 0)), (1, .int a1)] := hl
  generalize hloc : ([] : List Loc) = locs at hw ⊢
  have hinX12 : ∀ w ∈ u_ws RX12 TX12 42, w ∈ (wu yX12_spreads cX12_spreads 7 none) := fun _ h => List.mem_cons_of_mem _ (up_71 h)
  have L34 : ∀ (n34 : Nat) (v34_2 : Int32) (H : Heap) (locs : List Loc) (ls : Array Slot) (w1 : va_W), 0 ≤ a1.toInt → a1.toInt ≤ 9 → 0 ≤ v34_2.toInt → v34_2.toInt ≤ 1 → (0 ≤ (sumG 14 10 w1)) → (2 * (sumG 14 10 w1) + v34_2.toInt).toNat < n34 → Wd dC dI A s.heap H locs w1 → TW ksM ad cy B qr 12 w1 → FE ksM [(73, 0, 10)] w0 w1 → TT (fun n => m_X12_spreads n 0 a1.toInt (sI w0)) (fun n => j_X12_spreads 0 n 34 [v34_2.toInt] (sI w1)) → lv_has ls 7 [(0, .ref (ad 0)), (1, .int a1), (2, .int v34_2)] → W p l e ({ frames := 2, cells := 0, slots := 0, locals := 34 }) s m (List.toArray [.ref (ad 0), .int a1]) below meth c H locs 0 0 (MQ below (va_Qv (Pz_X12_spreads_1 ad cy B qr s1 a1 w0) (fun u : va_W => wpost dC dI cy A u) A) (List.toArray [.ref (ad 0), .int a1]) s 0 0 A) (F0 m 34 ls []) := by
    intro n34
    induction n34 with
    | zero => intro v34_2 H locs ls w1 r2 t3 r4 t5 hcr34_0 hm34 hw hT hF hM hl; omega
    | succ n34 ih34 =>
      intro v34_2 H locs ls w1 r2 t3 r4 t5 hcr34_0 hm34 hw hT hF hM hl
      have L42 : ∀ (n42 : Nat) (v42_2 : Int32) (v42_3 : Int32) (H : Heap) (locs : List Loc) (ls : Array Slot) (w6 : va_W), 0 ≤ a1.toInt → a1.toInt ≤ 9 → 0 ≤ v42_2.toInt → v42_2.toInt ≤ 1 → 0 ≤ v42_3.toInt → v42_3.toInt ≤ 12 → ((sumG 14 10 w6) + v42_2.toInt ≤ (sumG 14 10 w1)) → (1 ≤ v34_2.toInt) → (12 - v42_3.toInt).toNat < n42 → Wd dC dI A s.heap H locs w6 → TW ksM ad cy B qr 12 w6 → FE ksM [(73, 0, 10)] w0 w6 → TT (fun n => m_X12_spreads n 0 a1.toInt (sI w0)) (fun n => j_X12_spreads 0 n 42 [v42_2.toInt, v42_3.toInt] (sI w6)) → lv_has ls 7 [(0, .ref (ad 0)), (1, .int a1), (2, .int v42_2), (3, .int v42_3)] → W p l e ({ frames := 2, cells := 0, slots := 0, locals := 34 }) s m (List.toArray [.ref (ad 0), .int a1]) below meth c H locs 0 0 (MQ below (va_Qv (Pz_X12_spreads_1 ad cy B qr s1 a1 w0) (fun u : va_W => wpost dC dI cy A u) A) (List.toArray [.ref (ad 0), .int a1]) s 0 0 A) (F0 m 42 ls []) := by
        intro n42
        induction n42 with
        | zero => intro v42_2 v42_3 H locs ls w6 r7 t8 r9 t10 r11 t12 hcr42_0 hcr42_1 hm42 hw hT hF hM hl; omega
        | succ n42 ih42 =>
          intro v42_2 v42_3 H locs ls w6 r7 t8 r9 t10 r11 t12 hcr42_0 hcr42_1 hm42 hw hT hF hM hl
          have L55 : ∀ (n55 : Nat) (v55_2 : Int32) (v55_4 : Int32) (f55_12_1 : Int32) (H : Heap) (locs : List Loc) (ls : Array Slot) (w13 : va_W), 0 ≤ a1.toInt → a1.toInt ≤ 9 → 0 ≤ v55_2.toInt → v55_2.toInt ≤ 1 → 0 ≤ v42_3.toInt → v42_3.toInt ≤ 11 → 0 ≤ v55_4.toInt → v55_4.toInt ≤ 2 → 1 ≤ f55_12_1.toInt → f55_12_1.toInt ≤ 12 → ((sumG 14 10 w13) + v55_2.toInt ≤ (sumG 14 10 w1)) → (2 - v55_4.toInt).toNat < n55 → Wd dC dI A s.heap H locs w13 → TW ksM ad cy B qr 12 w13 → FE ksM [(73, 0, 10)] w0 w13 → gi w13 12 1 = f55_12_1 → TT (fun n => m_X12_spreads n 0 a1.toInt (sI w0)) (fun n => j_X12_spreads 0 n 55 [v55_2.toInt, v42_3.toInt, v55_4.toInt] (sI w13)) → lv_has ls 7 [(0, .ref (ad 0)), (1, .int a1), (2, .int v55_2), (3, .int v42_3), (4, .int v55_4)] → W p l e ({ frames := 2, cells := 0, slots := 0, locals := 34 }) s m (List.toArray [.ref (ad 0), .int a1]) below meth c H locs 0 0 (MQ below (va_Qv (Pz_X12_spreads_1 ad cy B qr s1 a1 w0) (fun u : va_W => wpost dC dI cy A u) A) (List.toArray [.ref (ad 0), .int a1]) s 0 0 A) (F0 m 55 ls []) := by
            intro n55
            induction n55 with
            | zero => intro v55_2 v55_4 f55_12_1 H locs ls w13 r14 t15 r16 t17 r18 t19 r20 t21 r22 t23 hcr55_0 hm55 hw hT hF c24 hM hl; omega
            | succ n55 ih55 =>
              intro v55_2 v55_4 f55_12_1 H locs ls w13 r14 t15 r16 t17 r18 t19 r20 t21 r22 t23 hcr55_0 hm55 hw hT hF c24 hM hl
              have J133 : ∀ (v133_2 : Int32) (v133_5 : Int32) (v133_6 : Int32) (f133_12__10_v42_3_toInt_1_v55_4_toInt_10_toNat : Int32) (f133_12__10_v42_3_toInt_12_toNat : Int32) (H : Heap) (locs : List Loc) (ls : Array Slot) (w25 : va_W), 0 ≤ a1.toInt → a1.toInt ≤ 9 → 0 ≤ v133_2.toInt → v133_2.toInt ≤ 1 → 0 ≤ v42_3.toInt → v42_3.toInt ≤ 11 → 0 ≤ v55_4.toInt → v55_4.toInt ≤ 1 → 0 ≤ v133_5.toInt → v133_5.toInt ≤ 9 → 0 ≤ v133_6.toInt → v133_6.toInt ≤ 100000109 → 0 ≤ f133_12__10_v42_3_toInt_1_v55_4_toInt_10_toNat.toInt → f133_12__10_v42_3_toInt_1_v55_4_toInt_10_toNat.toInt ≤ 9 → 0 ≤ f133_12__10_v42_3_toInt_12_toNat.toInt → f133_12__10_v42_3_toInt_12_toNat.toInt ≤ 9 → 1 ≤ f55_12_1.toInt → f55_12_1.toInt ≤ 12 → ((sumG 14 10 w25) + v133_2.toInt ≤ (sumG 14 10 w1)) → Wd dC dI A s.heap H locs w25 → TW ksM ad cy B qr 12 w25 → FE ksM [(73, 0, 10)] w0 w25 → gi w25 12 (10 * v42_3.toInt + 1 * v55_4.toInt + 10).toNat = f133_12__10_v42_3_toInt_1_v55_4_toInt_10_toNat → gi w25 12 (10 * v42_3.toInt + 12).toNat = f133_12__10_v42_3_toInt_12_toNat → gi w25 12 1 = f55_12_1 → TT (fun n => m_X12_spreads n 0 a1.toInt (sI w0)) (fun n => b_X12_spreads_133 (j_X12_spreads 0 n) n 0 (v133_2.toInt) (v42_3.toInt) (v55_4.toInt) (sI w25)) → lv_has ls 7 [(0, .ref (ad 0)), (1, .int a1), (2, .int v133_2), (3, .int v42_3), (4, .int v55_4), (5, .int v133_5), (6, .int v133_6)] → W p l e ({ frames := 2, cells := 0, slots := 0, locals := 34 }) s m (List.toArray [.ref (ad 0), .int a1]) below meth c H locs 0 0 (MQ below (va_Qv (Pz_X12_spreads_1 ad cy B qr s1 a1 w0) (fun u : va_W => wpost dC dI cy A u) A) (List.toArray [.ref (ad 0), .int a1]) s 0 0 A) (F0 m 133 ls []) := by
                intro v133_2 v133_5 v133_6 f133_12__10_v42_3_toInt_1_v55_4_toInt_10_toNat f133_12__10_v42_3_toInt_12_toNat H locs ls w25 r26 t27 r28 t29 r30 t31 r32 t33 r34 t35 r36 t37 r38 t39 r41 t42 r44 t45 hcr133_0 hw hT hF c40 c43 c46 hM hl
                obtain ⟨x47, ex47⟩ : ∃ y : Int32, y = v55_4 + Int32.ofInt 1 := ⟨_, rfl⟩
                have erx47 := ex47
                refine lv_iinc (v := x47) (lv' := [(4, .int x47), (0, .ref (ad 0)), (1, .int a1), (2, .int v133_2), (3, .int v42_3), (5, .int v133_5), (6, .int v133_6)]) hx hb dX12_spreads_133 hl (k := 4) rfl ex47.symm (by decide) rfl (fun ls hl => ?_)
                have ex47 : x47.toInt = v55_4.toInt + 1 := by rw [ex47]; exact wk_add (y := 1) (show -2147483648 ≤ v55_4.toInt + 1 by omega) (show v55_4.toInt + 1 ≤ 2147483647 by omega)
                replace hM := hM.lt ex47.symm
                refine lv_goto (tgt := 55) hx hb dX12_spreads_136 (by decide) ?_
                have gb48 : 0 ≤ sumG 14 10 w25 ∧ sumG 14 10 w25 ≤ 1000001000 := hT.sum (lo := 0) (hi := 100000100) kM_at14 rfl (by decide) rfl
                exact ih55 v133_2 x47 f55_12_1 H locs ls w25 (show 0 ≤ a1.toInt from r26) (show a1.toInt ≤ 9 from t27) (show 0 ≤ v133_2.toInt from r28) (show v133_2.toInt ≤ 1 from t29) (show 0 ≤ v42_3.toInt from r30) (show v42_3.toInt ≤ 11 from t31) (show 0 ≤ x47.toInt by first | with_reducible assumption | omega) (show x47.toInt ≤ 2 by first | with_reducible assumption | omega) (show 1 ≤ f55_12_1.toInt from r44) (show f55_12_1.toInt ≤ 12 from t45) (show (sumG 14 10 w25) + v133_2.toInt ≤ (sumG 14 10 w1) by omega) (show (2 - x47.toInt).toNat < n55 by first | exact tn_lt hm55 (by omega) (by omega) | omega) hw hT hF c46 hM (lv_sub hl [1, 2, 3, 4, 0] rfl)
              replace hM := hM.suc (fun _ => e_X12_spreads_55)
              refine lv_iload hx hb dX12_spreads_55 (lv_at hl 4 rfl) ?_
              refine lv_iconst (v := 2) hx hb dX12_spreads_57 (by decide) ?_
              refine lv_icmp_ge (tgt := 139) hx hb dX12_spreads_58 (by decide) (fun c49 => ?_) (fun c49 => ?_)
              · have c49 : (2 : Int) ≤ v55_4.toInt := wk_le.mp c49
                replace hM := hM.pos c49
                obtain ⟨x50, ex50⟩ : ∃ y : Int32, y = v42_3 + Int32.ofInt 1 := ⟨_, rfl⟩
                have erx50 := ex50
                refine lv_iinc (v := x50) (lv' := [(3, .int x50), (0, .ref (ad 0)), (1, .int a1), (2, .int v55_2), (4, .int v55_4)]) hx hb dX12_spreads_139 hl (k := 3) rfl ex50.symm (by decide) rfl (fun ls hl => ?_)
                have ex50 : x50.toInt = v42_3.toInt + 1 := by rw [ex50]; exact wk_add (y := 1) (show -2147483648 ≤ v42_3.toInt + 1 by omega) (show v42_3.toInt + 1 ≤ 2147483647 by omega)
                replace hM := hM.lt ex50.symm
                refine lv_goto (tgt := 42) hx hb dX12_spreads_142 (by decide) ?_
                have gb51 : 0 ≤ sumG 14 10 w13 ∧ sumG 14 10 w13 ≤ 1000001000 := hT.sum (lo := 0) (hi := 100000100) kM_at14 rfl (by decide) rfl
                exact ih42 v55_2 x50 H locs ls w13 (show 0 ≤ a1.toInt from r14) (show a1.toInt ≤ 9 from t15) (show 0 ≤ v55_2.toInt from r16) (show v55_2.toInt ≤ 1 from t17) (show 0 ≤ x50.toInt by first | with_reducible assumption | omega) (show x50.toInt ≤ 12 by first | with_reducible assumption | omega) (show (sumG 14 10 w13) + v55_2.toInt ≤ (sumG 14 10 w1) by omega) (show 1 ≤ v34_2.toInt by first | with_reducible assumption | omega) (show (12 - x50.toInt).toNat < n42 by first | exact tn_lt hm42 (by omega) (by omega) | omega) hw hT hF hM (lv_sub hl [1, 2, 3, 0] rfl)
              · have c49 : v55_4.toInt < (2 : Int) := wk_leF c49
                replace hM := hM.neg (Int.not_le.mpr c49)
                refine lv_aload_n hx hb dX12_spreads_61 rfl (lv_at hl 0 rfl) ?_
                refine lv_iload_n hx hb dX12_spreads_62 rfl (lv_at hl 3 rfl) ?_
                refine lv_iload hx hb dX12_spreads_63 (lv_at hl 4 rfl) ?_
                refine tk_Vi hC hK hw hT hA hE hSR kM_at0 (by decide) rfl (kz_X12_streetOf_7 l adK adV dC dI cy ad B hB0 (Int.le_trans hB1 (by decide)) qr s1   v42_3 (show 0 ≤ v42_3.toInt from r18) (show v42_3.toInt ≤ 11 from t19) v55_4 (show 0 ≤ v55_4.toInt from r20) (show v55_4.toInt ≤ 1 by first | with_reducible assumption | omega) w13 H.size hT ) (cwV 2 hC.2.2.2.2 uV_RX12_300 rfl rfl rfl (by decide +kernel) ⟨Nat.le_of_ble_eq_true rfl, Nat.le_of_ble_eq_true rfl⟩) rfl hl.1 rfl (Nat.le_of_ble_eq_true rfl) dX12_spreads_65 (fun r52 w54 H locs hp53 hw => ?_)
                obtain ⟨rfl, hv60, hg59⟩ := hp53
                obtain ⟨g56, g57, c58⟩ := hg59
                replace hM := hM.call hv60 rfl
                refine lv_istore (lv' := [(5, .int r52), (0, .ref (ad 0)), (1, .int a1), (2, .int v55_2), (3, .int v42_3), (4, .int v55_4)]) hx hb dX12_spreads_68 hl (by decide) rfl (fun ls hl => ?_)
                refine lv_aload_n hx hb dX12_spreads_70 rfl (lv_at hl 1 rfl) ?_
                refine tk_getA hC hK hw hT hinX12 kM_at0 (by decide) rfl 29 (by decide) (List.mem_cons_of_mem _ uw_7_4) rfl rfl dX12_spreads_71 ?_
                refine lv_aload_n hx hb dX12_spreads_74 rfl (lv_at hl 1 rfl) ?_
                refine lv_iload_n hx hb dX12_spreads_75 rfl (lv_at hl 4 rfl) ?_
                refine lv_iconst (v := 1) hx hb dX12_spreads_76 (by decide) ?_
                refine lv_iload hx hb dX12_spreads_77 (lv_at hl 5 rfl) ?_
                refine lv_isub hx hb dX12_spreads_79 ?_
                refine lv_topi (fun x61 ex61 => ?_)
                have ezx61 := ex61
                have ex61 : x61.toInt = (1 : Int) - v55_4.toInt := by rw [ex61]; exact wk_sub (show (-2147483648) ≤ (1 : Int) - v55_4.toInt by omega) (show (1 : Int) - v55_4.toInt ≤ 2147483647 by omega)
                replace hM := hM.lt ex61.symm
                refine tk_Vi hC hK hw hT hA hE hSR kM_at0 (by decide) rfl (kz_X12_streetOf_7 l adK adV dC dI cy ad B hB0 (Int.le_trans hB1 (by decide)) qr s1   v42_3 (show 0 ≤ v42_3.toInt from r18) (show v42_3.toInt ≤ 11 from t19) x61 (show 0 ≤ x61.toInt by first | with_reducible assumption | omega) (show x61.toInt ≤ 1 by first | with_reducible assumption | omega) w13 H.size hT ) (cwV 2 hC.2.2.2.2 uV_RX12_300 rfl rfl rfl (by decide +kernel) ⟨Nat.le_of_ble_eq_true rfl, Nat.le_of_ble_eq_true rfl⟩) rfl hl.1 rfl (Nat.le_of_ble_eq_true rfl) dX12_spreads_80 (fun r62 w64 H locs hp63 hw => ?_)
                obtain ⟨rfl, hv70, hg69⟩ := hp63
                obtain ⟨g66, g67, c68⟩ := hg69
                replace hM := hM.call hv70 rfl
                refine tk_iald hC hK hw hT kM_at14 rfl rfl (show 0 ≤ r62.toInt by first | with_reducible assumption | omega) (show r62.toInt < 10 by first | with_reducible assumption | omega) dX12_spreads_83 (fun x71 c72 rx71 tx71 => ?_)
                have hox71 := c72
                replace hM := hM.rd (sI_at hox71)
                have c72 : gi w13 14 (r62.toInt).toNat = x71 := (congrArg (gi w13 14) (congrArg Int.toNat (show r62.toInt = r62.toInt from rfl))).trans c72
                refine lv_aload_n hx hb dX12_spreads_84 rfl (lv_at hl 1 rfl) ?_
                refine lv_iload_n hx hb dX12_spreads_85 rfl (lv_at hl 4 rfl) ?_
                refine lv_iconst (v := 2) hx hb dX12_spreads_86 (by decide) ?_
                refine tk_Vi hC hK hw hT hA hE hSR kM_at0 (by decide) rfl (kz_X12_streetOf_8 l adK adV dC dI cy ad B hB0 (Int.le_trans hB1 (by decide)) qr s1   v42_3 (show 0 ≤ v42_3.toInt from r18) (show v42_3.toInt ≤ 11 from t19) w13 H.size hT ) (cwV 2 hC.2.2.2.2 uV_RX12_300 rfl rfl rfl (by decide +kernel) ⟨Nat.le_of_ble_eq_true rfl, Nat.le_of_ble_eq_true rfl⟩) rfl hl.1 rfl (Nat.le_of_ble_eq_true rfl) dX12_spreads_87 (fun r73 w75 H locs hp74 hw => ?_)
                obtain ⟨rfl, hv81, hg80⟩ := hp74
                obtain ⟨g77, g78, c79⟩ := hg80
                replace hM := hM.call hv81 rfl
                refine lv_iadd hx hb dX12_spreads_90 ?_
                refine lv_topi (fun x82 ex82 => ?_)
                have ezx82 := ex82
                have ex82 : x82.toInt = x71.toInt + r73.toInt := by rw [ex82]; exact wk_add (show (-2147483648) ≤ x71.toInt + r73.toInt by omega) (show x71.toInt + r73.toInt ≤ 2147483647 by omega)
                replace hM := hM.lt ex82.symm
                refine lv_istore (lv' := [(6, .int x82), (5, .int r52), (0, .ref (ad 0)), (1, .int a1), (2, .int v55_2), (3, .int v42_3), (4, .int v55_4)]) hx hb dX12_spreads_91 hl (by decide) rfl (fun ls hl => ?_)
                refine lv_aload_n hx hb dX12_spreads_93 rfl (lv_at hl 2 rfl) ?_
                refine tk_getA hC hK hw hT hinX12 kM_at0 (by decide) rfl 28 (by decide) (List.mem_cons_of_mem _ uw_7_3) rfl rfl dX12_spreads_94 ?_
                refine lv_iload_n hx hb dX12_spreads_97 rfl (lv_at hl 5 rfl) ?_
                refine tk_iald hC hK hw hT kM_at13 rfl rfl (show 0 ≤ v42_3.toInt from r18) (show v42_3.toInt < 12 from Int.lt_of_le_of_lt t19 (by decide)) dX12_spreads_98 (fun x83 c84 rx83 tx83 => ?_)
                have hox83 := c84
                replace hM := hM.rd (sI_at hox83)
                refine lv_iload hx hb dX12_spreads_99 (lv_at hl 6 rfl) ?_
                refine tk_Si hC hK hw hT hA hE hSR (kz_X12_isOf_3 l adK adV dC dI cy ad B hB0 (Int.le_trans hB1 (by decide)) qr s1   x83 v55_4 (show 0 ≤ v55_4.toInt from r20) (show v55_4.toInt ≤ 1 by first | with_reducible assumption | omega) w13 H.size hT ) (va_cwS 2 hC.2.2.2.2 uS_RX12_304 rfl rfl rfl (by decide +kernel) ⟨Nat.le_of_ble_eq_true rfl, Nat.le_of_ble_eq_true rfl⟩) rfl hl.1 rfl (Nat.le_of_ble_eq_true rfl) dX12_spreads_101 (fun r85 w87 H locs hp86 hw => ?_)
                obtain ⟨rfl, hv92, hg91⟩ := hp86
                rcases hg91 with ⟨rfl, hq89⟩ | ⟨rfl, hq90⟩
                · replace hM := hM.call (r' := 0) hv92 (by decide)
                  refine lv_if_eq (tgt := 133) hx hb dX12_spreads_104 (by decide) (fun _ => ?_) (fun c => absurd (by decide) c)
                  replace hM := hM.pos (by decide)
                  have gb93 : 0 ≤ sumG 14 10 w13 ∧ sumG 14 10 w13 ≤ 1000001000 := hT.sum (lo := 0) (hi := 100000100) kM_at14 rfl (by decide) rfl
                  exact J133 v55_2 r52 x82 r52 r73 H locs ls w13 (show 0 ≤ a1.toInt from r14) (show a1.toInt ≤ 9 from t15) (show 0 ≤ v55_2.toInt from r16) (show v55_2.toInt ≤ 1 from t17) (show 0 ≤ v42_3.toInt from r18) (show v42_3.toInt ≤ 11 from t19) (show 0 ≤ v55_4.toInt from r20) (show v55_4.toInt ≤ 1 by first | with_reducible assumption | omega) (show 0 ≤ r52.toInt by first | with_reducible assumption | omega) (show r52.toInt ≤ 9 by first | with_reducible assumption | omega) (show 0 ≤ x82.toInt by first | with_reducible assumption | omega) (show x82.toInt ≤ 100000109 by first | with_reducible assumption | omega) (show 0 ≤ r52.toInt by first | with_reducible assumption | omega) (show r52.toInt ≤ 9 by first | with_reducible assumption | omega) (show 0 ≤ r73.toInt by first | with_reducible assumption | omega) (show r73.toInt ≤ 9 by first | with_reducible assumption | omega) (show 1 ≤ f55_12_1.toInt from r22) (show f55_12_1.toInt ≤ 12 from t23) (show (sumG 14 10 w13) + v55_2.toInt ≤ (sumG 14 10 w1) by omega)  hw hT hF c58 c79 c24 hM (lv_sub hl [2, 3, 4, 5, 6, 1, 0] rfl)
                · replace hM := hM.call (r' := 1) hv92 (by decide)
                  refine lv_if_eq (tgt := 133) hx hb dX12_spreads_104 (by decide) (fun c => absurd c (by decide)) (fun _ => ?_)
                  replace hM := hM.neg (by decide)
                  refine lv_iload hx hb dX12_spreads_107 (lv_at hl 0 rfl) ?_
                  refine lv_aload_n hx hb dX12_spreads_109 rfl (lv_at hl 2 rfl) ?_
                  refine tk_getA hC hK hw hT hinX12 kM_at0 (by decide) rfl 29 (by decide) (List.mem_cons_of_mem _ uw_7_4) rfl rfl dX12_spreads_110 ?_
                  refine lv_iload hx hb dX12_spreads_113 (lv_at hl 1 rfl) ?_
                  refine tk_iald hC hK hw hT kM_at14 rfl rfl (show 0 ≤ r52.toInt by first | with_reducible assumption | omega) (show r52.toInt < 10 by first | with_reducible assumption | omega) dX12_spreads_115 (fun x94 c95 rx94 tx94 => ?_)
                  have hox94 := c95
                  replace hM := hM.rd (sI_at hox94)
                  have c95 : gi w13 14 (r52.toInt).toNat = x94 := (congrArg (gi w13 14) (congrArg Int.toNat (show r52.toInt = r52.toInt from rfl))).trans c95
                  refine lv_icmp_lt (tgt := 122) hx hb dX12_spreads_116 (by decide) (fun c96 => ?_) (fun c96 => ?_)
                  · have c96 : x82.toInt < x94.toInt := wk_lt.mp c96
                    replace hM := hM.pos c96
                    refine lv_aload_n hx hb dX12_spreads_122 rfl (lv_at hl 2 rfl) ?_
                    refine tk_getA hC hK hw hT hinX12 kM_at0 (by decide) rfl 29 (by decide) (List.mem_cons_of_mem _ uw_7_4) rfl rfl dX12_spreads_123 ?_
                    refine lv_iload hx hb dX12_spreads_126 (lv_at hl 1 rfl) ?_
                    refine lv_iload hx hb dX12_spreads_128 (lv_at hl 0 rfl) ?_
                    refine tk_iast hC hK hw hT kM_at14 (by decide) rfl rfl (show 0 ≤ r52.toInt by first | with_reducible assumption | omega) (show r52.toInt < 10 by first | with_reducible assumption | omega) (show 0 ≤ x82.toInt by first | with_reducible assumption | omega) (show x82.toInt ≤ 100000100 by first | with_reducible assumption | omega) dX12_spreads_130 (fun H locs w97 hw hT k99 c98 => ?_)
                    replace hM := hM.wr (sI_up k99 c98)
                    have gs100 : sumG 14 10 w97 = sumG 14 10 w13 - (gi w13 14 (r52.toInt.toNat)).toInt + (gi w97 14 (r52.toInt.toNat)).toInt := sumG_up (i := r52.toInt.toNat) k99 10 (show r52.toInt.toNat < 10 by omega)
                    rw [show gi w97 14 (r52.toInt.toNat) = x82 from c98] at gs100
                    rw [c95] at gs100
                    have hF := hF.put kM_at14 (inE_of (a := 0) (b := 10) (by decide) (show 0 ≤ r52.toInt.toNat by omega) (show r52.toInt.toNat ≤ 10 by omega)) k99
                    have c101 := k99.gi (Or.inl (tk_ne kM_at12 kM_at14 (by decide))) c24
                    have c102 := k99.gi (Or.inl (tk_ne kM_at12 kM_at14 (by decide))) c58
                    have c103 := k99.gi (Or.inl (tk_ne kM_at12 kM_at14 (by decide))) c68
                    have c104 := k99.gi (Or.inl (tk_ne kM_at12 kM_at14 (by decide))) c79
                    refine lv_iconst (v := 1) hx hb dX12_spreads_131 (by decide) ?_
                    refine lv_istore_n (lv' := [(2, .int 1), (6, .int x82), (5, .int r52), (0, .ref (ad 0)), (1, .int a1), (3, .int v42_3), (4, .int v55_4)]) hx hb dX12_spreads_132 rfl hl (by decide) rfl (fun ls hl => ?_)
                    have gb105 : 0 ≤ sumG 14 10 w97 ∧ sumG 14 10 w97 ≤ 1000001000 := hT.sum (lo := 0) (hi := 100000100) kM_at14 rfl (by decide) rfl
                    exact J133 1 r52 x82 r52 r73 H locs ls w97 (show 0 ≤ a1.toInt from r14) (show a1.toInt ≤ 9 from t15) (by decide) (by decide) (show 0 ≤ v42_3.toInt from r18) (show v42_3.toInt ≤ 11 from t19) (show 0 ≤ v55_4.toInt from r20) (show v55_4.toInt ≤ 1 by first | with_reducible assumption | omega) (show 0 ≤ r52.toInt by first | with_reducible assumption | omega) (show r52.toInt ≤ 9 by first | with_reducible assumption | omega) (show 0 ≤ x82.toInt by first | with_reducible assumption | omega) (show x82.toInt ≤ 100000109 by first | with_reducible assumption | omega) (show 0 ≤ r52.toInt by first | with_reducible assumption | omega) (show r52.toInt ≤ 9 by first | with_reducible assumption | omega) (show 0 ≤ r73.toInt by first | with_reducible assumption | omega) (show r73.toInt ≤ 9 by first | with_reducible assumption | omega) (show 1 ≤ f55_12_1.toInt from r22) (show f55_12_1.toInt ≤ 12 from t23) (show (sumG 14 10 w97) + (1 : Int) ≤ (sumG 14 10 w1) by omega)  hw hT hF c102 c104 c101 hM (lv_sub hl [3, 4, 0, 5, 6, 2, 1] rfl)
                  · have c96 : x94.toInt ≤ x82.toInt := wk_ltF c96
                    replace hM := hM.neg (Int.not_lt.mpr c96)
                    refine lv_goto (tgt := 133) hx hb dX12_spreads_119 (by decide) ?_
                    have gb106 : 0 ≤ sumG 14 10 w13 ∧ sumG 14 10 w13 ≤ 1000001000 := hT.sum (lo := 0) (hi := 100000100) kM_at14 rfl (by decide) rfl
                    exact J133 v55_2 r52 x82 r52 r73 H locs ls w13 (show 0 ≤ a1.toInt from r14) (show a1.toInt ≤ 9 from t15) (show 0 ≤ v55_2.toInt from r16) (show v55_2.toInt ≤ 1 from t17) (show 0 ≤ v42_3.toInt from r18) (show v42_3.toInt ≤ 11 from t19) (show 0 ≤ v55_4.toInt from r20) (show v55_4.toInt ≤ 1 by first | with_reducible assumption | omega) (show 0 ≤ r52.toInt by first | with_reducible assumption | omega) (show r52.toInt ≤ 9 by first | with_reducible assumption | omega) (show 0 ≤ x82.toInt by first | with_reducible assumption | omega) (show x82.toInt ≤ 100000109 by first | with_reducible assumption | omega) (show 0 ≤ r52.toInt by first | with_reducible assumption | omega) (show r52.toInt ≤ 9 by first | with_reducible assumption | omega) (show 0 ≤ r73.toInt by first | with_reducible assumption | omega) (show r73.toInt ≤ 9 by first | with_reducible assumption | omega) (show 1 ≤ f55_12_1.toInt from r22) (show f55_12_1.toInt ≤ 12 from t23) (show (sumG 14 10 w13) + v55_2.toInt ≤ (sumG 14 10 w1) by omega)  hw hT hF c58 c79 c24 hM (lv_sub hl [2, 3, 4, 5, 6, 1, 0] rfl)
          replace hM := hM.suc (fun _ => e_X12_spreads_42)
          refine lv_iload_n hx hb dX12_spreads_42 rfl (lv_at hl 3 rfl) ?_
          refine lv_aload_n hx hb dX12_spreads_43 rfl (lv_at hl 0 rfl) ?_
          refine tk_getA hC hK hw hT hinX12 kM_at0 (by decide) rfl 26 (by decide) (List.mem_cons_of_mem _ uw_7_1) rfl rfl dX12_spreads_44 ?_
          refine lv_iconst (v := 1) hx hb dX12_spreads_47 (by decide) ?_
          refine tk_ialdR hC hK hw hT kM_at12 rfl (by decide) (by decide) dX12_spreads_48 (fun x107 c108 Ex107 => ?_)
          have hox107 := c108
          replace hM := hM.rd (sI_at hox107)
          have bx107 : 0 ≤ x107.toInt ∧ x107.toInt ≤ 12 := (tk_rg1 rfl).mp Ex107
          have c108 : gi w6 12 1 = x107 := c108
          refine lv_icmp_ge (tgt := 145) hx hb dX12_spreads_49 (by decide) (fun c109 => ?_) (fun c109 => ?_)
          · have c109 : x107.toInt ≤ v42_3.toInt := wk_le.mp c109
            replace hM := hM.pos c109
            refine lv_goto (tgt := 34) hx hb dX12_spreads_145 (by decide) ?_
            have gb110 : 0 ≤ sumG 14 10 w6 ∧ sumG 14 10 w6 ≤ 1000001000 := hT.sum (lo := 0) (hi := 100000100) kM_at14 rfl (by decide) rfl
            exact ih34 v42_2 H locs ls w6 (show 0 ≤ a1.toInt from r7) (show a1.toInt ≤ 9 from t8) (show 0 ≤ v42_2.toInt from r9) (show v42_2.toInt ≤ 1 from t10) (show 0 ≤ (sumG 14 10 w6) by omega) (show (2 * (sumG 14 10 w6) + v42_2.toInt).toNat < n34 by first | exact tn_lt hm34 (by omega) (by omega) | omega) hw hT hF hM (lv_sub hl [0, 1, 2] rfl)
          · have c109 : v42_3.toInt < x107.toInt := wk_leF c109
            replace hM := hM.neg (Int.not_le.mpr c109)
            refine lv_iconst (v := 0) hx hb dX12_spreads_52 (by decide) ?_
            refine lv_istore (lv' := [(4, .int 0), (0, .ref (ad 0)), (1, .int a1), (2, .int v42_2), (3, .int v42_3)]) hx hb dX12_spreads_53 hl (by decide) rfl (fun ls hl => ?_)
            have gb111 : 0 ≤ sumG 14 10 w6 ∧ sumG 14 10 w6 ≤ 1000001000 := hT.sum (lo := 0) (hi := 100000100) kM_at14 rfl (by decide) rfl
            exact L55 ((2 - (0 : Int)).toNat + 1) v42_2 0 x107 H locs ls w6 (show 0 ≤ a1.toInt from r7) (show a1.toInt ≤ 9 from t8) (show 0 ≤ v42_2.toInt from r9) (show v42_2.toInt ≤ 1 from t10) (show 0 ≤ v42_3.toInt from r11) (show v42_3.toInt ≤ 11 by first | with_reducible assumption | omega) (by decide) (by decide) (show 1 ≤ x107.toInt by first | with_reducible assumption | omega) (show x107.toInt ≤ 12 by first | with_reducible assumption | omega) (show (sumG 14 10 w6) + v42_2.toInt ≤ (sumG 14 10 w1) by omega) (Nat.lt_succ_self _) hw hT hF c108 hM (lv_sub hl [1, 2, 3, 4, 0] rfl)
      replace hM := hM.suc (fun _ => e_X12_spreads_34)
      refine lv_iload_n hx hb dX12_spreads_34 rfl (lv_at hl 2 rfl) ?_
      refine lv_if_eq (tgt := 148) hx hb dX12_spreads_35 (by decide) (fun c112 => ?_) (fun c112 => ?_)
      · have c112 : v34_2.toInt = (0 : Int) := wk_eq.mp c112
        replace hM := hM.pos c112
        exact tk_vret hC hr hlocks hK ⟨hT, hF, hM.ret rfl, trivial⟩ hw dX12_spreads_148
      · have c112 : ¬ v34_2.toInt = (0 : Int) := wk_eqF c112
        replace hM := hM.neg c112
        refine lv_iconst (v := 0) hx hb dX12_spreads_38 (by decide) ?_
        refine lv_istore_n (lv' := [(2, .int 0), (0, .ref (ad 0)), (1, .int a1)]) hx hb dX12_spreads_39 rfl hl (by decide) rfl (fun ls hl => ?_)
        refine lv_iconst (v := 0) hx hb dX12_spreads_40 (by decide) ?_
        refine lv_istore_n (lv' := [(3, .int 0), (2, .int 0), (0, .ref (ad 0)), (1, .int a1)]) hx hb dX12_spreads_41 rfl hl (by decide) rfl (fun ls hl => ?_)
        have gb113 : 0 ≤ sumG 14 10 w1 ∧ sumG 14 10 w1 ≤ 1000001000 := hT.sum (lo := 0) (hi := 100000100) kM_at14 rfl (by decide) rfl
        exact L42 ((12 - (0 : Int)).toNat + 1) 0 0 H locs ls w1 (show 0 ≤ a1.toInt from r2) (show a1.toInt ≤ 9 from t3) (by decide) (by decide) (by decide) (by decide) (show (sumG 14 10 w1) + (0 : Int) ≤ (sumG 14 10 w1) by omega) (show 1 ≤ v34_2.toInt by first | with_reducible assumption | omega) (Nat.lt_succ_self _) hw hT hF hM (lv_sub hl [2, 3, 1, 0] rfl)
  have L2 : ∀ (n2 : Nat) (v2_2 : Int32) (H : Heap) (locs : List Loc) (ls : Array Slot) (w114 : va_W), 0 ≤ a1.toInt → a1.toInt ≤ 9 → 0 ≤ v2_2.toInt → v2_2.toInt ≤ 10 → (10 - v2_2.toInt).toNat < n2 → Wd dC dI A s.heap H locs w114 → TW ksM ad cy B qr 12 w114 → FE ksM [(73, 0, 10)] w0 w114 → TT (fun n => m_X12_spreads n 0 a1.toInt (sI w0)) (fun n => j_X12_spreads 0 n 2 [a1.toInt, v2_2.toInt] (sI w114)) → lv_has ls 7 [(0, .ref (ad 0)), (1, .int a1), (2, .int v2_2)] → W p l e ({ frames := 2, cells := 0, slots := 0, locals := 34 }) s m (List.toArray [.ref (ad 0), .int a1]) below meth c H locs 0 0 (MQ below (va_Qv (Pz_X12_spreads_1 ad cy B qr s1 a1 w0) (fun u : va_W => wpost dC dI cy A u) A) (List.toArray [.ref (ad 0), .int a1]) s 0 0 A) (F0 m 2 ls []) := by
    intro n2
    induction n2 with
    | zero => intro v2_2 H locs ls w114 r115 t116 r117 t118 hm2 hw hT hF hM hl; omega
    | succ n2 ih2 =>
      intro v2_2 H locs ls w114 r115 t116 r117 t118 hm2 hw hT hF hM hl
      replace hM := hM.suc (fun _ => e_X12_spreads_2)
      refine lv_iload_n hx hb dX12_spreads_2 rfl (lv_at hl 2 rfl) ?_
      refine lv_bipush (v := 10) hx hb dX12_spreads_3 (by decide) ?_
      refine lv_icmp_ge (tgt := 32) hx hb dX12_spreads_5 (by decide) (fun c119 => ?_) (fun c119 => ?_)
      · have c119 : (10 : Int) ≤ v2_2.toInt := wk_le.mp c119
        replace hM := hM.pos c119
        refine lv_iconst (v := 1) hx hb dX12_spreads_32 (by decide) ?_
        refine lv_istore_n (lv' := [(2, .int 1), (0, .ref (ad 0)), (1, .int a1)]) hx hb dX12_spreads_33 rfl hl (by decide) rfl (fun ls hl => ?_)
        have gb120 : 0 ≤ sumG 14 10 w114 ∧ sumG 14 10 w114 ≤ 1000001000 := hT.sum (lo := 0) (hi := 100000100) kM_at14 rfl (by decide) rfl
        exact L34 ((2 * (sumG 14 10 w114) + (1 : Int)).toNat + 1) 1 H locs ls w114 (show 0 ≤ a1.toInt from r115) (show a1.toInt ≤ 9 from t116) (by decide) (by decide) (show 0 ≤ (sumG 14 10 w114) by omega) (Nat.lt_succ_self _) hw hT hF hM (lv_sub hl [1, 2, 0] rfl)
      · have c119 : v2_2.toInt < (10 : Int) := wk_leF c119
        replace hM := hM.neg (Int.not_le.mpr c119)
        refine lv_aload_n hx hb dX12_spreads_8 rfl (lv_at hl 0 rfl) ?_
        refine tk_getA hC hK hw hT hinX12 kM_at0 (by decide) rfl 29 (by decide) (List.mem_cons_of_mem _ uw_7_4) rfl rfl dX12_spreads_9 ?_
        refine lv_iload_n hx hb dX12_spreads_12 rfl (lv_at hl 2 rfl) ?_
        refine lv_iload_n hx hb dX12_spreads_13 rfl (lv_at hl 2 rfl) ?_
        refine lv_iload_n hx hb dX12_spreads_14 rfl (lv_at hl 1 rfl) ?_
        refine lv_icmp_ne (tgt := 22) hx hb dX12_spreads_15 (by decide) (fun c121 => ?_) (fun c121 => ?_)
        · have c121 : ¬ v2_2.toInt = a1.toInt := wk_eqF c121
          replace hM := hM.pos c121
          refine lv_ldcw (v := 100000000) hx hb hC.2.2.2.1 (hC.2.2.2.2 _ (List.mem_cons_of_mem _ uw_38_2)) dX12_spreads_22 ?_
          refine tk_iast hC hK hw hT kM_at14 (by decide) rfl rfl (show 0 ≤ v2_2.toInt from r117) (show v2_2.toInt < 10 by first | with_reducible assumption | omega) (by decide) (by decide) dX12_spreads_25 (fun H locs w122 hw hT k124 c123 => ?_)
          replace hM := hM.wr (sI_upc k124 c123 (by decide))
          have gs125 : sumG 14 10 w122 = sumG 14 10 w114 - (gi w114 14 (v2_2.toInt.toNat)).toInt + (gi w122 14 (v2_2.toInt.toNat)).toInt := sumG_up (i := v2_2.toInt.toNat) k124 10 (show v2_2.toInt.toNat < 10 by omega)
          rw [show gi w122 14 (v2_2.toInt.toNat) = 100000000 from c123] at gs125
          rw [show (100000000 : Int32).toInt = 100000000 by decide] at gs125
          have hF := hF.put kM_at14 (inE_of (a := 0) (b := 10) (by decide) (show 0 ≤ v2_2.toInt.toNat by omega) (show v2_2.toInt.toNat ≤ 10 by omega)) k124
          obtain ⟨x126, ex126⟩ : ∃ y : Int32, y = v2_2 + Int32.ofInt 1 := ⟨_, rfl⟩
          have erx126 := ex126
          refine lv_iinc (v := x126) (lv' := [(2, .int x126), (0, .ref (ad 0)), (1, .int a1)]) hx hb dX12_spreads_26 hl (k := 2) rfl ex126.symm (by decide) rfl (fun ls hl => ?_)
          have ex126 : x126.toInt = v2_2.toInt + 1 := by rw [ex126]; exact wk_add (y := 1) (show -2147483648 ≤ v2_2.toInt + 1 by omega) (show v2_2.toInt + 1 ≤ 2147483647 by omega)
          replace hM := hM.lt ex126.symm
          refine lv_goto (tgt := 2) hx hb dX12_spreads_29 (by decide) ?_
          exact ih2 x126 H locs ls w122 (show 0 ≤ a1.toInt from r115) (show a1.toInt ≤ 9 from t116) (show 0 ≤ x126.toInt by first | with_reducible assumption | omega) (show x126.toInt ≤ 10 by first | with_reducible assumption | omega) (show (10 - x126.toInt).toNat < n2 by first | exact tn_lt hm2 (by omega) (by omega) | omega) hw hT hF hM (lv_sub hl [1, 2, 0] rfl)
        · have c121 : v2_2.toInt = a1.toInt := wk_eq.mp c121
          replace hM := hM.neg (fun q => q c121)
          refine lv_iconst (v := 0) hx hb dX12_spreads_18 (by decide) ?_
          refine lv_goto (tgt := 25) hx hb dX12_spreads_19 (by decide) ?_
          refine tk_iast hC hK hw hT kM_at14 (by decide) rfl rfl (show 0 ≤ v2_2.toInt from r117) (show v2_2.toInt < 10 by first | with_reducible assumption | omega) (by decide) (by decide) dX12_spreads_25 (fun H locs w127 hw hT k129 c128 => ?_)
          replace hM := hM.wr (sI_upc k129 c128 (by decide))
          have gs130 : sumG 14 10 w127 = sumG 14 10 w114 - (gi w114 14 (v2_2.toInt.toNat)).toInt + (gi w127 14 (v2_2.toInt.toNat)).toInt := sumG_up (i := v2_2.toInt.toNat) k129 10 (show v2_2.toInt.toNat < 10 by omega)
          rw [show gi w127 14 (v2_2.toInt.toNat) = 0 from c128] at gs130
          rw [show (0 : Int32).toInt = 0 by decide] at gs130
          have hF := hF.put kM_at14 (inE_of (a := 0) (b := 10) (by decide) (show 0 ≤ v2_2.toInt.toNat by omega) (show v2_2.toInt.toNat ≤ 10 by omega)) k129
          obtain ⟨x131, ex131⟩ : ∃ y : Int32, y = v2_2 + Int32.ofInt 1 := ⟨_, rfl⟩
          have erx131 := ex131
          refine lv_iinc (v := x131) (lv' := [(2, .int x131), (0, .ref (ad 0)), (1, .int a1)]) hx hb dX12_spreads_26 hl (k := 2) rfl ex131.symm (by decide) rfl (fun ls hl => ?_)
          have ex131 : x131.toInt = v2_2.toInt + 1 := by rw [ex131]; exact wk_add (y := 1) (show -2147483648 ≤ v2_2.toInt + 1 by omega) (show v2_2.toInt + 1 ≤ 2147483647 by omega)
          replace hM := hM.lt ex131.symm
          refine lv_goto (tgt := 2) hx hb dX12_spreads_29 (by decide) ?_
          exact ih2 x131 H locs ls w127 (show 0 ≤ a1.toInt from r115) (show a1.toInt ≤ 9 from t116) (show 0 ≤ x131.toInt by first | with_reducible assumption | omega) (show x131.toInt ≤ 10 by first | with_reducible assumption | omega) (show (10 - x131.toInt).toNat < n2 by first | exact tn_lt hm2 (by omega) (by omega) | omega) hw hT hF hM (lv_sub hl [1, 2, 0] rfl)
  have hM : TT (fun n => m_X12_spreads n 0 a1.toInt (sI w0)) (fun n => m_X12_spreads n 0 a1.toInt (sI w0)) := TT.rf
  refine lv_iconst (v := 0) hx hb dX12_spreads_0 (by decide) ?_
  refine lv_istore_n (lv' := [(2, .int 0), (0, .ref (ad 0)), (1, .int a1)]) hx hb dX12_spreads_1 rfl hl (by decide) rfl (fun ls hl => ?_)
  exact L2 ((10 - (0 : Int)).toNat + 1) 0 s.heap locs ls w0 (show 0 ≤ a1.toInt from ra1) (show a1.toInt ≤ 9 from ta1) (by decide) (by decide) (Nat.lt_succ_self _) hw hT hF hM (lv_sub hl [1, 2, 0] rfl)
