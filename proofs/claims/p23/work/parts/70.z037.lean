abbrev Pz_X12_doneBy_1 (ad : Nat → Nat) (cy : Nat → ClassId) (B : Int) (qr : Nat) (s1 : Int) (a1 : Int32) (a2 : Int32) (w0 : va_W) : Int32 → va_W → Prop := fun r u => w0 = u ∧ Ev (fun n => m_X12_doneBy n 0 a1.toInt a2.toInt (sI w0)) (r.toInt, sI w0) ∧ ((0 ≤ r.toInt ∧ r.toInt ≤ 63))
set_option maxHeartbeats 4000000 in
set_option maxRecDepth 100000 in
theorem kz_X12_doneBy_1 (l : Launch) (adK adV : Nat → Nat) (dC : Nat → ClassId) (dI : Nat → Nat → Nat) (cy : Nat → ClassId) (ad : Nat → Nat) (B : Int) (hB0 : 100000 ≤ B) (hB1 : B ≤ 1073741824) (qr : Nat) (s1 : Int)  (a1 : Int32) (ra1 : 0 ≤ a1.toInt) (ta1 : a1.toInt ≤ 6) (a2 : Int32) (ra2 : 0 ≤ a2.toInt) (ta2 : a2.toInt ≤ 4095) (w0 : va_W) (sz : Nat) (hT : TW ksM ad cy B qr 12 w0)  : Met l yX12_doneBy (wu yX12_doneBy cX12_doneBy 5 (some .int)) ({ frames := 3, cells := 0, slots := 0, locals := 62 }) (va_Pc [.ref (ad 0), .int a1, .int a2] (wpreS adK adV dC dI cy sz w0)) (va_Qi (Pz_X12_doneBy_1 ad cy B qr s1 a1 a2 w0) (fun u : va_W => wpost dC dI cy (va_A w0 sz) u) (va_A w0 sz)) 0 0 (va_A w0 sz) := by
  refine Met.ofW (cc := cX12_doneBy) (maxL := 5) (ret := (some .int)) (by decide) rfl ?_
  intro p e s m args below meth c s₁ Bk hml hv
  obtain ⟨rfl, ⟨hsz, hP, hK, hD0⟩, hE, hSR⟩ := hv
  have hx := Bk.exec
  have hb := Bk.bytes
  have hr := Bk.returns
  have hlocks := Bk.notSynchronized
  have hC : CallFix p m c cX12_doneBy 5 s _ (wu yX12_doneBy cX12_doneBy 5 (some .int)) RX12 := ⟨hx, hb, hml, findClass_of_methodNamed Bk.named, atoms_spec (ws := (wu yX12_doneBy cX12_doneBy 5 (some .int))) Bk.pre⟩
  subst hsz
  have hD := hD0.self (sz := s.heap.size)
  generalize hAe : va_A w0 s.heap.size = A at hD hE ⊢
  have hA : ∀ q : Nat, s.heap.size ≤ q → A q := fun q h => by rw [← hAe]; exact Or.inr h
  have hw : Wd dC dI A s.heap s.heap [] w0 := ⟨hP, hD, va_S.rf⟩
  have hF : FE ksM ([] : List (Nat × Nat × Nat)) w0 w0 := FE.rf
  have hl := lv_entry ([.ref (ad 0), .int a1, .int a2]) (n := 5) (Nat.le_of_ble_eq_true rfl)
  rw [lg_entry_eq]
  generalize (lg_sl ([.ref (ad 0), .int a1, .int a2]) ++ List.replicate (5 - (lg_sl ([.ref (ad 0), .int a1, .int a2])).length) Slot.unset).toArray = ls at hl ⊢
  have hl : lv_has ls 5 [(0, .ref (ad 0)), (1, .int a1), (2, .int a2)] := hl
  generalize hloc : ([] : List Loc) = locs at hw ⊢
  have hinX12 : ∀ w ∈ u_ws RX12 TX12 42, w ∈ (wu yX12_doneBy cX12_doneBy 5 (some .int)) := fun _ h => List.mem_cons_of_mem _ (up_71 h)
  have L5 : ∀ (n5 : Nat) (v5_3 : Int32) (v5_4 : Int32) (H : Heap) (locs : List Loc) (ls : Array Slot), 0 ≤ a1.toInt → a1.toInt ≤ 6 → 0 ≤ a2.toInt → a2.toInt ≤ 4095 → 0 ≤ v5_3.toInt → v5_3.toInt ≤ 63 → 0 ≤ v5_4.toInt → v5_4.toInt ≤ 6 → (6 - v5_4.toInt).toNat < n5 → Wd dC dI A s.heap H locs w0 → TT (fun n => m_X12_doneBy n 0 a1.toInt a2.toInt (sI w0)) (fun n => j_X12_doneBy 0 n 5 [a1.toInt, a2.toInt, v5_3.toInt, v5_4.toInt] (sI w0)) → lv_has ls 5 [(0, .ref (ad 0)), (1, .int a1), (2, .int a2), (3, .int v5_3), (4, .int v5_4)] → W p l e ({ frames := 3, cells := 0, slots := 0, locals := 62 }) s m (List.toArray [.ref (ad 0), .int a1, .int a2]) below meth c H locs 0 0 (MQ below (va_Qi (Pz_X12_doneBy_1 ad cy B qr s1 a1 a2 w0) (fun u : va_W => wpost dC dI cy A u) A) (List.toArray [.ref (ad 0), .int a1, .int a2]) s 0 0 A) (F0 m 5 ls []) := by
    intro n5
    induction n5 with
    | zero => intro v5_3 v5_4 H locs ls r1 t2 r3 t4 r5 t6 r7 t8 hm5 hw hM hl; omega
    | succ n5 ih5 =>
      intro v5_3 v5_4 H locs ls r1 t2 r3 t4 r5 t6 r7 t8 hm5 hw hM hl
      replace hM := hM.suc (fun _ => e_X12_doneBy_5)
      refine lv_iload hx hb dX12_doneBy_5 (lv_at hl 4 rfl) ?_
      refine lv_aload_n hx hb dX12_doneBy_7 rfl (lv_at hl 0 rfl) ?_
      refine tk_getA hC hK hw hT hinX12 kM_at0 (by decide) rfl 26 (by decide) (List.mem_cons_of_mem _ uw_7_1) rfl rfl dX12_doneBy_8 ?_
      refine lv_bipush (v := 6) hx hb dX12_doneBy_11 (by decide) ?_
      refine tk_ialdR hC hK hw hT kM_at12 rfl (by decide) (by decide) dX12_doneBy_13 (fun x9 c10 Ex9 => ?_)
      have hox9 := c10
      replace hM := hM.rd (sI_at hox9)
      have bx9 := tk_rgI rfl 6 1 1 0 6 (by decide +kernel) ⟨0, by decide, by decide⟩ Ex9
      have c10 : gi w0 12 6 = x9 := c10
      refine lv_icmp_ge (tgt := 74) hx hb dX12_doneBy_14 (by decide) (fun c11 => ?_) (fun c11 => ?_)
      · have c11 : x9.toInt ≤ v5_4.toInt := wk_le.mp c11
        replace hM := hM.pos c11
        refine lv_iload_n hx hb dX12_doneBy_74 rfl (lv_at hl 3 rfl) ?_
        exact tk_iret hC hr hlocks hK ⟨rfl, hM.ret rfl, ⟨(show 0 ≤ v5_3.toInt from r5), (show v5_3.toInt ≤ 63 from t6)⟩⟩ hw dX12_doneBy_75
      · have c11 : v5_4.toInt < x9.toInt := wk_leF c11
        replace hM := hM.neg (Int.not_le.mpr c11)
        refine lv_iload_n hx hb dX12_doneBy_17 rfl (lv_at hl 3 rfl) ?_
        refine lv_aload_n hx hb dX12_doneBy_18 rfl (lv_at hl 0 rfl) ?_
        refine lv_iload_n hx hb dX12_doneBy_19 rfl (lv_at hl 1 rfl) ?_
        refine lv_iload_n hx hb dX12_doneBy_20 rfl (lv_at hl 2 rfl) ?_
        refine lv_aload_n hx hb dX12_doneBy_21 rfl (lv_at hl 0 rfl) ?_
        refine tk_getA hC hK hw hT hinX12 kM_at0 (by decide) rfl 26 (by decide) (List.mem_cons_of_mem _ uw_7_1) rfl rfl dX12_doneBy_22 ?_
        refine lv_sipush (v := 252) hx hb dX12_doneBy_25 (by decide) ?_
        refine lv_iconst (v := 2) hx hb dX12_doneBy_28 (by decide) ?_
        refine lv_iload hx hb dX12_doneBy_29 (lv_at hl 4 rfl) ?_
        refine lv_imul hx hb dX12_doneBy_31 ?_
        refine lv_topi (fun x12 ex12 => ?_)
        have ezx12 := ex12
        have ex12 : x12.toInt = (2 : Int) * v5_4.toInt := by rw [ex12]; exact wk_mul (show (-2147483648) ≤ (2 : Int) * v5_4.toInt by omega) (show (2 : Int) * v5_4.toInt ≤ 2147483647 by omega)
        replace hM := hM.lt ex12.symm
        refine lv_iadd hx hb dX12_doneBy_32 ?_
        refine lv_topi (fun x13 ex13 => ?_)
        have ezx13 := ex13
        have ex13 : x13.toInt = (252 : Int) + x12.toInt := by rw [ex13]; exact wk_add (show (-2147483648) ≤ (252 : Int) + x12.toInt by omega) (show (252 : Int) + x12.toInt ≤ 2147483647 by omega)
        replace hM := hM.lt ex13.symm
        refine tk_ialdR hC hK hw hT kM_at12 rfl (show 0 ≤ x13.toInt by first | with_reducible assumption | omega) (show x13.toInt < 296 by first | with_reducible assumption | omega) dX12_doneBy_33 (fun x14 c15 Ex14 => ?_)
        have hox14 := c15
        have c15 : gi w0 12 (2 * v5_4.toInt + 252).toNat = x14 := (congrArg (gi w0 12) (congrArg Int.toNat (show 2 * v5_4.toInt + 252 = x13.toInt by first | exact Int.le_antisymm (by omega) (by omega) | omega))).trans c15
        replace hM := hM.rd (sI_at hox14)
        have bx14 := tk_rgI rfl 252 2 6 0 9 (by decide +kernel) ⟨(v5_4.toInt - 0).toNat, by omega, show x13.toInt.toNat = 252 + 2 * (v5_4.toInt - 0).toNat by omega⟩ Ex14
        refine tk_Vi hC hK hw hT hA hE hSR kM_at0 (by decide) rfl (kz_X12_comesTo_1 l adK adV dC dI cy ad B hB0 (Int.le_trans hB1 (by decide)) qr s1   a1 (show 0 ≤ a1.toInt from r1) (show a1.toInt ≤ 6 from t2) a2 (show 0 ≤ a2.toInt from r3) (show a2.toInt ≤ 4095 from t4) x14 (show 0 ≤ x14.toInt by first | with_reducible assumption | omega) (show x14.toInt ≤ 9 by first | with_reducible assumption | omega) w0 H.size hT ) (cwV 3 hC.2.2.2.2 uV_RX12_468 rfl rfl rfl (by decide +kernel) ⟨Nat.le_of_ble_eq_true rfl, Nat.le_of_ble_eq_true rfl⟩) rfl hl.1 rfl (Nat.le_of_ble_eq_true rfl) dX12_doneBy_34 (fun r16 w18 H locs hp17 hw => ?_)
        obtain ⟨rfl, hv23, hg22⟩ := hp17
        obtain ⟨g20, g21⟩ := hg22
        replace hM := hM.call hv23 rfl
        refine lv_aload_n hx hb dX12_doneBy_37 rfl (lv_at hl 0 rfl) ?_
        refine tk_getA hC hK hw hT hinX12 kM_at0 (by decide) rfl 26 (by decide) (List.mem_cons_of_mem _ uw_7_1) rfl rfl dX12_doneBy_38 ?_
        refine lv_sipush (v := 252) hx hb dX12_doneBy_41 (by decide) ?_
        refine lv_iconst (v := 2) hx hb dX12_doneBy_44 (by decide) ?_
        refine lv_iload hx hb dX12_doneBy_45 (lv_at hl 4 rfl) ?_
        refine lv_imul hx hb dX12_doneBy_47 ?_
        refine lv_topi (fun x24 ex24 => ?_)
        have ezx24 := ex24
        have ex24 : x24.toInt = (2 : Int) * v5_4.toInt := by rw [ex24]; exact wk_mul (show (-2147483648) ≤ (2 : Int) * v5_4.toInt by omega) (show (2 : Int) * v5_4.toInt ≤ 2147483647 by omega)
        replace hM := hM.lt ex24.symm
        refine lv_iadd hx hb dX12_doneBy_48 ?_
        refine lv_topi (fun x25 ex25 => ?_)
        have ezx25 := ex25
        have ex25 : x25.toInt = (252 : Int) + x24.toInt := by rw [ex25]; exact wk_add (show (-2147483648) ≤ (252 : Int) + x24.toInt by omega) (show (252 : Int) + x24.toInt ≤ 2147483647 by omega)
        replace hM := hM.lt ex25.symm
        refine lv_iconst (v := 1) hx hb dX12_doneBy_49 (by decide) ?_
        refine lv_iadd hx hb dX12_doneBy_50 ?_
        refine lv_topi (fun x26 ex26 => ?_)
        have ezx26 := ex26
        have ex26 : x26.toInt = x25.toInt + (1 : Int) := by rw [ex26]; exact wk_add (show (-2147483648) ≤ x25.toInt + (1 : Int) by omega) (show x25.toInt + (1 : Int) ≤ 2147483647 by omega)
        replace hM := hM.lt ex26.symm
        refine tk_ialdR hC hK hw hT kM_at12 rfl (show 0 ≤ x26.toInt by first | with_reducible assumption | omega) (show x26.toInt < 296 by first | with_reducible assumption | omega) dX12_doneBy_51 (fun x27 c28 Ex27 => ?_)
        have hox27 := c28
        have c28 : gi w0 12 (2 * v5_4.toInt + 253).toNat = x27 := (congrArg (gi w0 12) (congrArg Int.toNat (show 2 * v5_4.toInt + 253 = x26.toInt by first | exact Int.le_antisymm (by omega) (by omega) | omega))).trans c28
        replace hM := hM.rd (sI_at hox27)
        have bx27 := tk_rgI rfl 253 2 6 0 9 (by decide +kernel) ⟨(v5_4.toInt - 0).toNat, by omega, show x26.toInt.toNat = 253 + 2 * (v5_4.toInt - 0).toNat by omega⟩ Ex27
        refine tk_Si hC hK hw hT hA hE hSR (kz_X12_isOf_4 l adK adV dC dI cy ad B hB0 (Int.le_trans hB1 (by decide)) qr s1   r16 (show 1 ≤ r16.toInt by first | with_reducible assumption | omega) (show r16.toInt ≤ 1023 by first | with_reducible assumption | omega) x27 (show 0 ≤ x27.toInt by first | with_reducible assumption | omega) (show x27.toInt ≤ 9 by first | with_reducible assumption | omega) w0 H.size hT ) (va_cwS 2 hC.2.2.2.2 uS_RX12_304 rfl rfl rfl (by decide +kernel) ⟨Nat.le_of_ble_eq_true rfl, Nat.le_of_ble_eq_true rfl⟩) rfl hl.1 rfl (Nat.le_of_ble_eq_true rfl) dX12_doneBy_52 (fun r29 w31 H locs hp30 hw => ?_)
        obtain ⟨rfl, hv36, hg35⟩ := hp30
        rcases hg35 with ⟨rfl, hq33⟩ | ⟨rfl, hq34⟩
        · replace hM := hM.call (r' := 0) hv36 (by decide)
          refine lv_if_eq (tgt := 65) hx hb dX12_doneBy_55 (by decide) (fun _ => ?_) (fun c => absurd (by decide) c)
          replace hM := hM.pos (by decide)
          refine lv_iconst (v := 0) hx hb dX12_doneBy_65 (by decide) ?_
          refine lv_ior hx hb dX12_doneBy_66 ?_
          refine lv_topi (fun x37 ex37 => ?_)
          have ezx37 := ex37
          have bx37 : 0 ≤ x37.toInt ∧ x37.toInt < 64 := by rw [ex37]; exact wk_or 6 (by decide) (by omega) (by omega) (by decide) (by decide)
          have mx37 : v5_3.toInt ≤ x37.toInt ∧ (0 : Int) ≤ x37.toInt := by rw [ex37]; exact wk_orL 6 (by decide) (by omega) (by omega) (by decide) (by decide)
          replace hM := hM.lt (o32_e (f := fun x y => x ||| y) ezx37 rfl (by decide))
          refine lv_istore_n (lv' := [(3, .int x37), (0, .ref (ad 0)), (1, .int a1), (2, .int a2), (4, .int v5_4)]) hx hb dX12_doneBy_67 rfl hl (by decide) rfl (fun ls hl => ?_)
          obtain ⟨x38, ex38⟩ : ∃ y : Int32, y = v5_4 + Int32.ofInt 1 := ⟨_, rfl⟩
          have erx38 := ex38
          refine lv_iinc (v := x38) (lv' := [(4, .int x38), (3, .int x37), (0, .ref (ad 0)), (1, .int a1), (2, .int a2)]) hx hb dX12_doneBy_68 hl (k := 4) rfl ex38.symm (by decide) rfl (fun ls hl => ?_)
          have ex38 : x38.toInt = v5_4.toInt + 1 := by rw [ex38]; exact wk_add (y := 1) (show -2147483648 ≤ v5_4.toInt + 1 by omega) (show v5_4.toInt + 1 ≤ 2147483647 by omega)
          replace hM := hM.lt ex38.symm
          refine lv_goto (tgt := 5) hx hb dX12_doneBy_71 (by decide) ?_
          exact ih5 x37 x38 H locs ls  (show 0 ≤ a1.toInt from r1) (show a1.toInt ≤ 6 from t2) (show 0 ≤ a2.toInt from r3) (show a2.toInt ≤ 4095 from t4) (show 0 ≤ x37.toInt by first | with_reducible assumption | omega) (show x37.toInt ≤ 63 by first | with_reducible assumption | omega) (show 0 ≤ x38.toInt by first | with_reducible assumption | omega) (show x38.toInt ≤ 6 by first | with_reducible assumption | omega) (show (6 - x38.toInt).toNat < n5 by first | exact tn_lt hm5 (by omega) (by omega) | omega) hw  hM (lv_sub hl [2, 3, 4, 1, 0] rfl)
        · replace hM := hM.call (r' := 1) hv36 (by decide)
          refine lv_if_eq (tgt := 65) hx hb dX12_doneBy_55 (by decide) (fun c => absurd c (by decide)) (fun _ => ?_)
          replace hM := hM.neg (by decide)
          refine lv_iconst (v := 1) hx hb dX12_doneBy_58 (by decide) ?_
          refine lv_iload hx hb dX12_doneBy_59 (lv_at hl 4 rfl) ?_
          refine lv_ishl hx hb dX12_doneBy_61 ?_
          refine lv_topi (fun x39 ex39 => ?_)
          have ezx39 := ex39
          have bx39 : 1 ≤ x39.toInt ∧ x39.toInt ≤ 32 := by rw [ex39]; exact wk_shl1 5 (by decide) (by omega) (by omega)
          replace hM := hM.lt (o32_e (f := fun x y => x <<< (y &&& 31)) ezx39 (by decide) rfl)
          refine lv_goto (tgt := 66) hx hb dX12_doneBy_62 (by decide) ?_
          refine lv_ior hx hb dX12_doneBy_66 ?_
          refine lv_topi (fun x40 ex40 => ?_)
          have ezx40 := ex40
          have bx40 : 0 ≤ x40.toInt ∧ x40.toInt < 64 := by rw [ex40]; exact wk_or 6 (by decide) (by omega) (by omega) (by omega) (by omega)
          have mx40 : v5_3.toInt ≤ x40.toInt ∧ x39.toInt ≤ x40.toInt := by rw [ex40]; exact wk_orL 6 (by decide) (by omega) (by omega) (by omega) (by omega)
          replace hM := hM.lt (o32_e (f := fun x y => x ||| y) ezx40 rfl rfl)
          refine lv_istore_n (lv' := [(3, .int x40), (0, .ref (ad 0)), (1, .int a1), (2, .int a2), (4, .int v5_4)]) hx hb dX12_doneBy_67 rfl hl (by decide) rfl (fun ls hl => ?_)
          obtain ⟨x41, ex41⟩ : ∃ y : Int32, y = v5_4 + Int32.ofInt 1 := ⟨_, rfl⟩
          have erx41 := ex41
          refine lv_iinc (v := x41) (lv' := [(4, .int x41), (3, .int x40), (0, .ref (ad 0)), (1, .int a1), (2, .int a2)]) hx hb dX12_doneBy_68 hl (k := 4) rfl ex41.symm (by decide) rfl (fun ls hl => ?_)
          have ex41 : x41.toInt = v5_4.toInt + 1 := by rw [ex41]; exact wk_add (y := 1) (show -2147483648 ≤ v5_4.toInt + 1 by omega) (show v5_4.toInt + 1 ≤ 2147483647 by omega)
          replace hM := hM.lt ex41.symm
          refine lv_goto (tgt := 5) hx hb dX12_doneBy_71 (by decide) ?_
          exact ih5 x40 x41 H locs ls  (show 0 ≤ a1.toInt from r1) (show a1.toInt ≤ 6 from t2) (show 0 ≤ a2.toInt from r3) (show a2.toInt ≤ 4095 from t4) (show 0 ≤ x40.toInt by first | with_reducible assumption | omega) (show x40.toInt ≤ 63 by first | with_reducible assumption | omega) (show 0 ≤ x41.toInt by first | with_reducible assumption | omega) (show x41.toInt ≤ 6 by first | with_reducible assumption | omega) (show (6 - x41.toInt).toNat < n5 by first | exact tn_lt hm5 (by omega) (by omega) | omega) hw  hM (lv_sub hl [2, 3, 4, 1, 0] rfl)
  have hM : TT (fun n => m_X12_doneBy n 0 a1.toInt a2.toInt (sI w0)) (fun n => m_X12_doneBy n 0 a1.toInt a2.toInt (sI w0)) := TT.rf
  refine lv_iconst (v := 0) hx hb dX12_doneBy_0 (by decide) ?_
  refine lv_istore_n (lv' := [(3, .int 0), (0, .ref (ad 0)), (1, .int a1), (2, .int a2)]) hx hb dX12_doneBy_1 rfl hl (by decide) rfl (fun ls hl => ?_)
  refine lv_iconst (v := 0) hx hb dX12_doneBy_2 (by decide) ?_
  refine lv_istore (lv' := [(4, .int 0), (3, .int 0), (0, .ref (ad 0)), (1, .int a1), (2, .int a2)]) hx hb dX12_doneBy_3 hl (by decide) rfl (fun ls hl => ?_)
  exact L5 ((6 - (0 : Int)).toNat + 1) 0 0 s.heap locs ls  (show 0 ≤ a1.toInt from ra1) (show a1.toInt ≤ 6 from ta1) (show 0 ≤ a2.toInt from ra2) (show a2.toInt ≤ 4095 from ta2) (by decide) (by decide) (by decide) (by decide) (Nat.lt_succ_self _) hw  hM (lv_sub hl [2, 3, 4, 1, 0] rfl)
abbrev Pz_X12_in_15 (ad : Nat → Nat) (cy : Nat → ClassId) (B : Int) (qr : Nat) (s1 : Int) (a0 : Int64) (w0 : va_W) : Int32 → va_W → Prop := fun r u => w0 = u ∧ Ev (fun n => m_X12_in n a0.toInt 0 1 (sI w0)) (r.toInt, sI w0) ∧ ((r = 0) ∨ (r = 1 ∧ 0 ≤ a0.toInt ∧ a0.toInt ≤ 1))
set_option maxHeartbeats 4000000 in
set_option maxRecDepth 100000 in
theorem kz_X12_in_15 (l : Launch) (adK adV : Nat → Nat) (dC : Nat → ClassId) (dI : Nat → Nat → Nat) (cy : Nat → ClassId) (ad : Nat → Nat) (B : Int) (hB0 : 100000 ≤ B) (hB1 : B ≤ 1073741824) (qr : Nat) (s1 : Int)  (a0 : Int64) (ra0 : (-2147483648) ≤ a0.toInt) (ta0 : a0.toInt ≤ 2147483647) (w0 : va_W) (sz : Nat) (hT : TW ksM ad cy B qr 12 w0)  : Met l yX12_in (wu yX12_in cX12_in 6 (some .boolean)) ({ frames := 1, cells := 0, slots := 0, locals := 12 }) (va_Pc [.long a0, .long 0, .long 1] (wpreS adK adV dC dI cy sz w0)) (va_Qi (Pz_X12_in_15 ad cy B qr s1 a0 w0) (fun u : va_W => wpost dC dI cy (va_A w0 sz) u) (va_A w0 sz)) 0 0 (va_A w0 sz) := by
  refine Met.ofW (cc := cX12_in) (maxL := 6) (ret := (some .boolean)) (by decide) rfl ?_
  intro p e s m args below meth c s₁ Bk hml hv
  obtain ⟨rfl, ⟨hsz, hP, hK, hD0⟩, hE, hSR⟩ := hv
  have hx := Bk.exec
  have hb := Bk.bytes
  have hr := Bk.returns
  have hlocks := Bk.notSynchronized
  have hC : CallFix p m c cX12_in 6 s _ (wu yX12_in cX12_in 6 (some .boolean)) RX12 := ⟨hx, hb, hml, findClass_of_methodNamed Bk.named, atoms_spec (ws := (wu yX12_in cX12_in 6 (some .boolean))) Bk.pre⟩
  subst hsz
  have hD := hD0.self (sz := s.heap.size)
  generalize hAe : va_A w0 s.heap.size = A at hD hE ⊢
  have hA : ∀ q : Nat, s.heap.size ≤ q → A q := fun q h => by rw [← hAe]; exact Or.inr h
  have hw : Wd dC dI A s.heap s.heap [] w0 := ⟨hP, hD, va_S.rf⟩
  have hF : FE ksM ([] : List (Nat × Nat × Nat)) w0 w0 := FE.rf
  have hl := lv_entry ([.long a0, .long 0, .long 1]) (n := 6) (Nat.le_of_ble_eq_true rfl)
  rw [lg_entry_eq]
  generalize (lg_sl ([.long a0, .long 0, .long 1]) ++ List.replicate (6 - (lg_sl ([.long a0, .long 0, .long 1])).length) Slot.unset).toArray = ls at hl ⊢
  have hl : lv_has ls 6 [(0, .long a0), (2, .long 0), (4, .long 1)] := hl
  generalize hloc : ([] : List Loc) = locs at hw ⊢
  have J17 : ∀ (H : Heap) (locs : List Loc) (ls : Array Slot), (-2147483648) ≤ a0.toInt → a0.toInt ≤ 2147483647 → Wd dC dI A s.heap H locs w0 → TT (fun n => m_X12_in n a0.toInt 0 1 (sI w0)) (fun n => b_X12_in_17 n (sI w0)) → lv_has ls 6 [(0, .long a0), (2, .long 0), (4, .long 1)] → W p l e ({ frames := 1, cells := 0, slots := 0, locals := 12 }) s m (List.toArray [.long a0, .long 0, .long 1]) below meth c H locs 0 0 (MQ below (va_Qi (Pz_X12_in_15 ad cy B qr s1 a0 w0) (fun u : va_W => wpost dC dI cy A u) A) (List.toArray [.long a0, .long 0, .long 1]) s 0 0 A) (F0 m 17 ls []) := by
    intro H locs ls r1 t2 hw hM hl
    refine lv_iconst (v := 0) hx hb dX12_in_17 (by decide) ?_
    exact tk_zret hC hr rfl hlocks hK ⟨rfl, hM.ret (by decide), (Or.inl rfl)⟩ hw dX12_in_18
  have hM : TT (fun n => m_X12_in n a0.toInt 0 1 (sI w0)) (fun n => m_X12_in n a0.toInt 0 1 (sI w0)) := TT.rf
  refine lv_lload_n hx hb dX12_in_0 rfl (lv_at hl 0 rfl) ?_
  refine lv_lload_n hx hb dX12_in_1 rfl (lv_at hl 1 rfl) ?_
  refine W.lcmp hx hb dX12_in_2 ?_
  refine lv_if_lt (tgt := 17) hx hb dX12_in_3 (by decide) (fun c3 => ?_) (fun c3 => ?_)
  · have c3 : a0.toInt < (0 : Int) := wk_cltT c3
    replace hM := hM.pos c3
    exact J17  s.heap locs ls  (show (-2147483648) ≤ a0.toInt from ra0) (show a0.toInt ≤ 2147483647 from ta0)  hw  hM (lv_sub hl [0, 1, 2] rfl)
  · have c3 : (0 : Int) ≤ a0.toInt := wk_cltF c3
    replace hM := hM.neg (Int.not_lt.mpr c3)
    refine lv_lload_n hx hb dX12_in_6 rfl (lv_at hl 0 rfl) ?_
    refine lv_lload hx hb dX12_in_7 (lv_at hl 2 rfl) ?_
    refine W.lcmp hx hb dX12_in_9 ?_
    refine lv_if_gt (tgt := 17) hx hb dX12_in_10 (by decide) (fun c4 => ?_) (fun c4 => ?_)
    · have c4 : (1 : Int) < a0.toInt := wk_cgtT c4
      replace hM := hM.pos c4
      exact J17  s.heap locs ls  (show (-2147483648) ≤ a0.toInt from ra0) (show a0.toInt ≤ 2147483647 from ta0)  hw  hM (lv_sub hl [0, 1, 2] rfl)
    · have c4 : a0.toInt ≤ (1 : Int) := wk_cgtF c4
      replace hM := hM.neg (Int.not_lt.mpr c4)
      refine lv_iconst (v := 1) hx hb dX12_in_13 (by decide) ?_
      refine lv_goto (tgt := 18) hx hb dX12_in_14 (by decide) ?_
      exact tk_zret hC hr rfl hlocks hK ⟨rfl, hM.ret (by decide), (Or.inr ⟨rfl, (show 0 ≤ a0.toInt by first | with_reducible assumption | omega), (show a0.toInt ≤ 1 by first | with_reducible assumption | omega)⟩)⟩ hw dX12_in_18
abbrev Pz_X12_ways_1 (ad : Nat → Nat) (cy : Nat → ClassId) (B : Int) (qr : Nat) (s1 : Int) (a1 : Int32) (a2 : Int32) (w0 : va_W) : Int32 → va_W → Prop := fun r u => TW ksM ad cy B qr 12 u ∧ FE ksM [(79, 0, 64)] w0 u ∧ Ev (fun n => m_X12_ways n 0 a1.toInt a2.toInt (sI w0)) (r.toInt, sI u) ∧ ((r = (-2) ∧ 0 ≤ a1.toInt ∧ a1.toInt ≤ 6 ∧ 0 ≤ a2.toInt ∧ a2.toInt ≤ 0 ∧ (∃ y : Int32, gi u 12 0 = y ∧ 1 ≤ y.toInt ∧ y.toInt ≤ 10)) ∨ (0 ≤ r.toInt ∧ r.toInt ≤ 4095 ∧ 0 ≤ a1.toInt ∧ a1.toInt ≤ 6 ∧ (∃ y : Int32, gi u 12 0 = y ∧ 1 ≤ y.toInt ∧ y.toInt ≤ 10)) ∨ (r = (-1)))
set_option maxHeartbeats 4000000 in
set_option maxRecDepth 100000 in
theorem kz_X12_ways_1 (l : Launch) (adK adV : Nat → Nat) (dC : Nat → ClassId) (dI : Nat → Nat → Nat) (cy : Nat → ClassId) (ad : Nat → Nat) (B : Int) (hB0 : 100000 ≤ B) (hB1 : B ≤ 1073741824) (qr : Nat) (s1 : Int)  (a1 : Int32) (a2 : Int32) (w0 : va_W) (sz : Nat) (hT : TW ksM ad cy B qr 12 w0)  : Met l yX12_ways (wu yX12_ways cX12_ways 7 (some .int)) ({ frames := 4, cells := 0, slots := 0, locals := 86 }) (va_Pc [.ref (ad 0), .int a1, .int a2] (wpreS adK adV dC dI cy sz w0)) (va_Qi (Pz_X12_ways_1 ad cy B qr s1 a1 a2 w0) (fun u : va_W => wpost dC dI cy (va_A w0 sz) u) (va_A w0 sz)) 0 0 (va_A w0 sz) := by
  refine Met.ofW (cc := cX12_ways) (maxL := 7) (ret := (some .int)) (by decide) rfl ?_
  intro p e s m args below meth c s₁ Bk hml hv
  obtain ⟨rfl, ⟨hsz, hP, hK, hD0⟩, hE, hSR⟩ := hv
  have hx := Bk.exec
  have hb := Bk.bytes
  have hr := Bk.returns
  have hlocks := Bk.notSynchronized
  have hC : CallFix p m c cX12_ways 7 s _ (wu yX12_ways cX12_ways 7 (some .int)) RX12 := ⟨hx, hb, hml, findClass_of_methodNamed Bk.named, atoms_spec (ws := (wu yX12_ways cX12_ways 7 (some .int))) Bk.pre⟩
  subst hsz
  have hD := hD0.self (sz := s.heap.size)
  generalize hAe : va_A w0 s.heap.size = A at hD hE ⊢
  have hA : ∀ q : Nat, s.heap.size ≤ q → A q := fun q h => by rw [← hAe]; exact Or.inr h
  have hw : Wd dC dI A s.heap s.heap [] w0 := ⟨hP, hD, va_S.rf⟩
  have hF : FE ksM [(79, 0, 64)] w0 w0 := FE.rf
  have hl := lv_entry ([.ref (ad 0), .int a1, .int a2]) (n := 7) (Nat.le_of_ble_eq_true rfl)
  rw [lg_entry_eq]
  generalize (lg_sl ([.ref (ad 0), .int a1, .int a2]) ++ List.replicate (7 - (lg_sl ([.ref (ad 0), .int a1, .int a2])).length) Slot.unset).toArray = ls at hl ⊢
  have hl : lv_has ls 7 [(0, .ref (ad 0)), (1, .int a1), (2, .int a2)] := hl
  generalize hloc : ([] : List Loc) = locs at hw ⊢
  have hinX12 : ∀ w ∈ u_ws RX12 TX12 42, w ∈ (wu yX12_ways cX12_ways 7 (some .int)) := fun _ h => List.mem_cons_of_mem _ (up_71 h)
  have J29 : ∀ (f29_12_0 : Int32) (H : Heap) (locs : List Loc) (ls : Array Slot) (w1 : va_W), 0 ≤ f29_12_0.toInt → f29_12_0.toInt ≤ 10 → Wd dC dI A s.heap H locs w1 → TW ksM ad cy B qr 12 w1 → FE ksM [(79, 0, 64)] w0 w1 → gi w1 12 0 = f29_12_0 → TT (fun n => m_X12_ways n 0 a1.toInt a2.toInt (sI w0)) (fun n => b_X12_ways_29 (j_X12_ways 0 n) n 0 (sI w1)) → lv_has ls 7 [(0, .ref (ad 0)), (1, .int a1), (2, .int a2)] → W p l e ({ frames := 4, cells := 0, slots := 0, locals := 86 }) s m (List.toArray [.ref (ad 0), .int a1, .int a2]) below meth c H locs 0 0 (MQ below (va_Qi (Pz_X12_ways_1 ad cy B qr s1 a1 a2 w0) (fun u : va_W => wpost dC dI cy A u) A) (List.toArray [.ref (ad 0), .int a1, .int a2]) s 0 0 A) (F0 m 29 ls []) := by
    intro f29_12_0 H locs ls w1 r2 t3 hw hT hF c4 hM hl
    refine lv_iconst (v := (-1)) hx hb dX12_ways_29 (by decide) ?_
    exact tk_iret hC hr hlocks hK ⟨hT, hF, hM.ret (by decide), (Or.inr (Or.inr rfl))⟩ hw dX12_ways_30
  have L177 : ∀ (n177 : Nat) (v177_3 : Int32) (v177_4 : Int32) (v177_5 : Int32) (v177_6 : Int32) (f177_12_0 : Int32) (f177_12_1 : Int32) (f177_12_6 : Int32) (H : Heap) (locs : List Loc) (ls : Array Slot) (w5 : va_W), 0 ≤ a1.toInt → a1.toInt ≤ 6 → 0 ≤ v177_3.toInt → v177_3.toInt ≤ 12 → 0 ≤ v177_4.toInt → v177_4.toInt ≤ 63 → 0 ≤ v177_5.toInt → v177_5.toInt ≤ 63 → 0 ≤ v177_6.toInt → v177_6.toInt ≤ 63 → 1 ≤ f177_12_0.toInt → f177_12_0.toInt ≤ 10 → 0 ≤ f177_12_1.toInt → f177_12_1.toInt ≤ 12 → 0 ≤ f177_12_6.toInt → f177_12_6.toInt ≤ 6 → (v177_6.toInt - 0).toNat < n177 → Wd dC dI A s.heap H locs w5 → TW ksM ad cy B qr 12 w5 → FE ksM [(79, 0, 64)] w0 w5 → gi w5 12 0 = f177_12_0 → gi w5 12 1 = f177_12_1 → gi w5 12 6 = f177_12_6 → TT (fun n => m_X12_ways n 0 a1.toInt a2.toInt (sI w0)) (fun n => j_X12_ways 0 n 177 [v177_4.toInt, v177_5.toInt, v177_6.toInt] (sI w5)) → lv_has ls 7 [(0, .ref (ad 0)), (1, .int a1), (2, .int 1), (3, .int v177_3), (4, .int v177_4), (5, .int v177_5), (6, .int v177_6)] → W p l e ({ frames := 4, cells := 0, slots := 0, locals := 86 }) s m (List.toArray [.ref (ad 0), .int a1, .int a2]) below meth c H locs 0 0 (MQ below (va_Qi (Pz_X12_ways_1 ad cy B qr s1 a1 a2 w0) (fun u : va_W => wpost dC dI cy A u) A) (List.toArray [.ref (ad 0), .int a1, .int a2]) s 0 0 A) (F0 m 177 ls []) := by
    intro n177
    induction n177 with
    | zero => intro v177_3 v177_4 v177_5 v177_6 f177_12_0 f177_12_1 f177_12_6 H locs ls w5 r6 t7 r8 t9 r10 t11 r12 t13 r14 t15 r16 t17 r19 t20 r22 t23 hm177 hw hT hF c18 c21 c24 hM hl; omega
    | succ n177 ih177 =>
      intro v177_3 v177_4 v177_5 v177_6 f177_12_0 f177_12_1 f177_12_6 H locs ls w5 r6 t7 r8 t9 r10 t11 r12 t13 r14 t15 r16 t17 r19 t20 r22 t23 hm177 hw hT hF c18 c21 c24 hM hl
      have J210 : ∀ (v210_5 : Int32) (H : Heap) (locs : List Loc) (ls : Array Slot) (w25 : va_W), 0 ≤ a1.toInt → a1.toInt ≤ 6 → 0 ≤ v177_3.toInt → v177_3.toInt ≤ 12 → 0 ≤ v177_4.toInt → v177_4.toInt ≤ 63 → 0 ≤ v210_5.toInt → v210_5.toInt ≤ 63 → 1 ≤ v177_6.toInt → v177_6.toInt ≤ 63 → 1 ≤ f177_12_0.toInt → f177_12_0.toInt ≤ 10 → 0 ≤ f177_12_1.toInt → f177_12_1.toInt ≤ 12 → 0 ≤ f177_12_6.toInt → f177_12_6.toInt ≤ 6 → Wd dC dI A s.heap H locs w25 → TW ksM ad cy B qr 12 w25 → FE ksM [(79, 0, 64)] w0 w25 → gi w25 12 0 = f177_12_0 → gi w25 12 1 = f177_12_1 → gi w25 12 6 = f177_12_6 → TT (fun n => m_X12_ways n 0 a1.toInt a2.toInt (sI w0)) (fun n => b_X12_ways_210 (j_X12_ways 0 n) n 0 (v177_4.toInt) (v210_5.toInt) (v177_6.toInt) (sI w25)) → lv_has ls 7 [(0, .ref (ad 0)), (1, .int a1), (2, .int 1), (3, .int v177_3), (4, .int v177_4), (5, .int v210_5), (6, .int v177_6)] → W p l e ({ frames := 4, cells := 0, slots := 0, locals := 86 }) s m (List.toArray [.ref (ad 0), .int a1, .int a2]) below meth c H locs 0 0 (MQ below (va_Qi (Pz_X12_ways_1 ad cy B qr s1 a1 a2 w0) (fun u : va_W => wpost dC dI cy A u) A) (List.toArray [.ref (ad 0), .int a1, .int a2]) s 0 0 A) (F0 m 210 ls []) := by
        intro v210_5 H locs ls w25 r26 t27 r28 t29 r30 t31 r32 t33 r34 t35 r36 t37 r39 t40 r42 t43 hw hT hF c38 c41 c44 hM hl
        obtain ⟨x45, ex45⟩ : ∃ y : Int32, y = v177_6 + Int32.ofInt (-1) := ⟨_, rfl⟩
        have erx45 := ex45
        refine lv_iinc (v := x45) (lv' := [(6, .int x45), (0, .ref (ad 0)), (1, .int a1), (2, .int 1), (3, .int v177_3), (4, .int v177_4), (5, .int v210_5)]) hx hb dX12_ways_210 hl (k := 6) rfl ex45.symm (by decide) rfl (fun ls hl => ?_)
        have ex45 : x45.toInt = v177_6.toInt + (-1) := by rw [ex45]; exact wk_add (y := (-1)) (show -2147483648 ≤ v177_6.toInt + (-1) by omega) (show v177_6.toInt + (-1) ≤ 2147483647 by omega)
        replace hM := hM.lt ex45.symm
        refine lv_goto (tgt := 177) hx hb dX12_ways_213 (by decide) ?_
        exact ih177 v177_3 v177_4 v210_5 x45 f177_12_0 f177_12_1 f177_12_6 H locs ls w25 (show 0 ≤ a1.toInt from r26) (show a1.toInt ≤ 6 from t27) (show 0 ≤ v177_3.toInt from r28) (show v177_3.toInt ≤ 12 from t29) (show 0 ≤ v177_4.toInt from r30) (show v177_4.toInt ≤ 63 from t31) (show 0 ≤ v210_5.toInt from r32) (show v210_5.toInt ≤ 63 from t33) (show 0 ≤ x45.toInt by first | with_reducible assumption | omega) (show x45.toInt ≤ 63 by first | with_reducible assumption | omega) (show 1 ≤ f177_12_0.toInt from r36) (show f177_12_0.toInt ≤ 10 from t37) (show 0 ≤ f177_12_1.toInt from r39) (show f177_12_1.toInt ≤ 12 from t40) (show 0 ≤ f177_12_6.toInt from r42) (show f177_12_6.toInt ≤ 6 from t43) (show (x45.toInt - 0).toNat < n177 by first | exact tn_lt hm177 (by omega) (by omega) | omega) hw hT hF c38 c41 c44 hM (lv_sub hl [1, 2, 3, 4, 5, 6, 0] rfl)
      replace hM := hM.suc (fun _ => e_X12_ways_177)
      refine lv_iload hx hb dX12_ways_177 (lv_at hl 6 rfl) ?_
      refine lv_if_le (tgt := 216) hx hb dX12_ways_179 (by decide) (fun c46 => ?_) (fun c46 => ?_)
      · have c46 : v177_6.toInt ≤ (0 : Int) := wk_le.mp c46
        replace hM := hM.pos c46
        refine lv_iload hx hb dX12_ways_216 (lv_at hl 5 rfl) ?_
        exact tk_iret hC hr hlocks hK ⟨hT, hF, hM.ret rfl, (Or.inr (Or.inl ⟨(show 0 ≤ v177_5.toInt from r12), (show v177_5.toInt ≤ 4095 from Int.le_trans t13 (by decide)), (show 0 ≤ a1.toInt from r6), (show a1.toInt ≤ 6 from t7), ⟨f177_12_0, c18, (show 1 ≤ f177_12_0.toInt from r16), (show f177_12_0.toInt ≤ 10 from t17)⟩⟩))⟩ hw dX12_ways_218
      · have c46 : (0 : Int) < v177_6.toInt := wk_leF c46
        replace hM := hM.neg (Int.not_le.mpr c46)
        refine lv_aload_n hx hb dX12_ways_182 rfl (lv_at hl 0 rfl) ?_
        refine lv_iload hx hb dX12_ways_183 (lv_at hl 6 rfl) ?_
        refine lv_iload hx hb dX12_ways_185 (lv_at hl 4 rfl) ?_
        refine tk_Vi hC hK hw hT hA hE hSR kM_at0 (by decide) rfl (kz_X12_isClash_1 l adK adV dC dI cy ad B hB0 (Int.le_trans hB1 (by decide)) qr s1   v177_6 (show 1 ≤ v177_6.toInt by first | with_reducible assumption | omega) (show v177_6.toInt ≤ 63 from t15) v177_4 (show 0 ≤ v177_4.toInt from r10) (show v177_4.toInt ≤ 63 from t11) w5 H.size hT ) (cwV 2 hC.2.2.2.2 uV_RX12_475 rfl rfl rfl (by decide +kernel) ⟨Nat.le_of_ble_eq_true rfl, Nat.le_of_ble_eq_true rfl⟩) rfl hl.1 rfl (Nat.le_of_ble_eq_true rfl) dX12_ways_187 (fun r47 w49 H locs hp48 hw => ?_)
        obtain ⟨rfl, hv52, hg51⟩ := hp48
        rcases hg51 with rfl | rfl
        · replace hM := hM.call (r' := 0) hv52 (by decide)
          refine lv_if_eq (tgt := 210) hx hb dX12_ways_190 (by decide) (fun _ => ?_) (fun c => absurd (by decide) c)
          replace hM := hM.pos (by decide)
          exact J210 v177_5 H locs ls w5 (show 0 ≤ a1.toInt from r6) (show a1.toInt ≤ 6 from t7) (show 0 ≤ v177_3.toInt from r8) (show v177_3.toInt ≤ 12 from t9) (show 0 ≤ v177_4.toInt from r10) (show v177_4.toInt ≤ 63 from t11) (show 0 ≤ v177_5.toInt from r12) (show v177_5.toInt ≤ 63 from t13) (show 1 ≤ v177_6.toInt by first | with_reducible assumption | omega) (show v177_6.toInt ≤ 63 from t15) (show 1 ≤ f177_12_0.toInt from r16) (show f177_12_0.toInt ≤ 10 from t17) (show 0 ≤ f177_12_1.toInt from r19) (show f177_12_1.toInt ≤ 12 from t20) (show 0 ≤ f177_12_6.toInt from r22) (show f177_12_6.toInt ≤ 6 from t23)  hw hT hF c18 c21 c24 hM (lv_sub hl [0, 1, 2, 3, 4, 5, 6] rfl)
        · replace hM := hM.call (r' := 1) hv52 (by decide)
          refine lv_if_eq (tgt := 210) hx hb dX12_ways_190 (by decide) (fun c => absurd c (by decide)) (fun _ => ?_)
          replace hM := hM.neg (by decide)
          refine lv_iload hx hb dX12_ways_193 (lv_at hl 6 rfl) ?_
          refine tk_Si hC hK hw hT hA hE hSR (kz_X12_bits_1 l adK adV dC dI cy ad B hB0 (Int.le_trans hB1 (by decide)) qr s1   v177_6 (show 1 ≤ v177_6.toInt by first | with_reducible assumption | omega) (show v177_6.toInt ≤ 63 from t15) w5 H.size hT ) (va_cwS 1 hC.2.2.2.2 uS_RX12_478 rfl rfl rfl (by decide +kernel) ⟨Nat.le_of_ble_eq_true rfl, Nat.le_of_ble_eq_true rfl⟩) rfl hl.1 rfl (Nat.le_of_ble_eq_true rfl) dX12_ways_195 (fun r53 w55 H locs hp54 hw => ?_)
          obtain ⟨rfl, hv58, hg57⟩ := hp54
          clear hg57
          replace hM := hM.call hv58 rfl
          refine lv_iload hx hb dX12_ways_198 (lv_at hl 5 rfl) ?_
          refine tk_Si hC hK hw hT hA hE hSR (kz_X12_bits_2 l adK adV dC dI cy ad B hB0 (Int.le_trans hB1 (by decide)) qr s1   v177_5 (show 0 ≤ v177_5.toInt from r12) (show v177_5.toInt ≤ 63 from t13) w5 H.size hT ) (va_cwS 1 hC.2.2.2.2 uS_RX12_478 rfl rfl rfl (by decide +kernel) ⟨Nat.le_of_ble_eq_true rfl, Nat.le_of_ble_eq_true rfl⟩) rfl hl.1 rfl (Nat.le_of_ble_eq_true rfl) dX12_ways_200 (fun r59 w61 H locs hp60 hw => ?_)
          obtain ⟨rfl, hv64, hg63⟩ := hp60
          clear hg63
          replace hM := hM.call hv64 rfl
          refine lv_icmp_gt (tgt := 210) hx hb dX12_ways_203 (by decide) (fun c65 => ?_) (fun c65 => ?_)
          · have c65 : r59.toInt < r53.toInt := wk_lt.mp c65
            replace hM := hM.pos c65
            exact J210 v177_5 H locs ls w5 (show 0 ≤ a1.toInt from r6) (show a1.toInt ≤ 6 from t7) (show 0 ≤ v177_3.toInt from r8) (show v177_3.toInt ≤ 12 from t9) (show 0 ≤ v177_4.toInt from r10) (show v177_4.toInt ≤ 63 from t11) (show 0 ≤ v177_5.toInt from r12) (show v177_5.toInt ≤ 63 from t13) (show 1 ≤ v177_6.toInt by first | with_reducible assumption | omega) (show v177_6.toInt ≤ 63 from t15) (show 1 ≤ f177_12_0.toInt from r16) (show f177_12_0.toInt ≤ 10 from t17) (show 0 ≤ f177_12_1.toInt from r19) (show f177_12_1.toInt ≤ 12 from t20) (show 0 ≤ f177_12_6.toInt from r22) (show f177_12_6.toInt ≤ 6 from t23)  hw hT hF c18 c21 c24 hM (lv_sub hl [0, 1, 2, 3, 4, 5, 6] rfl)
          · have c65 : r53.toInt ≤ r59.toInt := wk_ltF c65
            replace hM := hM.neg (Int.not_lt.mpr c65)
            refine lv_iload hx hb dX12_ways_206 (lv_at hl 6 rfl) ?_
            refine lv_istore (lv' := [(5, .int v177_6), (0, .ref (ad 0)), (1, .int a1), (2, .int 1), (3, .int v177_3), (4, .int v177_4), (6, .int v177_6)]) hx hb dX12_ways_208 hl (by decide) rfl (fun ls hl => ?_)
            exact J210 v177_6 H locs ls w5 (show 0 ≤ a1.toInt from r6) (show a1.toInt ≤ 6 from t7) (show 0 ≤ v177_3.toInt from r8) (show v177_3.toInt ≤ 12 from t9) (show 0 ≤ v177_4.toInt from r10) (show v177_4.toInt ≤ 63 from t11) (show 0 ≤ v177_6.toInt from r14) (show v177_6.toInt ≤ 63 from t15) (show 1 ≤ v177_6.toInt by first | with_reducible assumption | omega) (show v177_6.toInt ≤ 63 from t15) (show 1 ≤ f177_12_0.toInt from r16) (show f177_12_0.toInt ≤ 10 from t17) (show 0 ≤ f177_12_1.toInt from r19) (show f177_12_1.toInt ≤ 12 from t20) (show 0 ≤ f177_12_6.toInt from r22) (show f177_12_6.toInt ≤ 6 from t23)  hw hT hF c18 c21 c24 hM (lv_sub hl [1, 2, 3, 4, 5, 0, 6] rfl)
  have L113 : ∀ (n113 : Nat) (v113_3 : Int32) (v113_4 : Int32) (v113_5 : Int32) (f113_12_0 : Int32) (f113_12_1 : Int32) (f113_12_6 : Int32) (H : Heap) (locs : List Loc) (ls : Array Slot) (w66 : va_W), 0 ≤ a1.toInt → a1.toInt ≤ 6 → 0 ≤ a2.toInt → a2.toInt ≤ 1 → 0 ≤ v113_3.toInt → v113_3.toInt ≤ 12 → 0 ≤ v113_4.toInt → v113_4.toInt ≤ 63 → 0 ≤ v113_5.toInt → v113_5.toInt ≤ 4096 → 1 ≤ f113_12_0.toInt → f113_12_0.toInt ≤ 10 → 0 ≤ f113_12_1.toInt → f113_12_1.toInt ≤ 12 → 0 ≤ f113_12_6.toInt → f113_12_6.toInt ≤ 6 → (4096 - v113_5.toInt).toNat < n113 → Wd dC dI A s.heap H locs w66 → TW ksM ad cy B qr 12 w66 → FE ksM [(79, 0, 64)] w0 w66 → gi w66 12 0 = f113_12_0 → gi w66 12 1 = f113_12_1 → gi w66 12 6 = f113_12_6 → TT (fun n => m_X12_ways n 0 a1.toInt a2.toInt (sI w0)) (fun n => j_X12_ways 0 n 113 [a1.toInt, a2.toInt, v113_3.toInt, v113_4.toInt, v113_5.toInt] (sI w66)) → lv_has ls 7 [(0, .ref (ad 0)), (1, .int a1), (2, .int a2), (3, .int v113_3), (4, .int v113_4), (5, .int v113_5)] → W p l e ({ frames := 4, cells := 0, slots := 0, locals := 86 }) s m (List.toArray [.ref (ad 0), .int a1, .int a2]) below meth c H locs 0 0 (MQ below (va_Qi (Pz_X12_ways_1 ad cy B qr s1 a1 a2 w0) (fun u : va_W => wpost dC dI cy A u) A) (List.toArray [.ref (ad 0), .int a1, .int a2]) s 0 0 A) (F0 m 113 ls []) := by
    intro n113
    induction n113 with
    | zero => intro v113_3 v113_4 v113_5 f113_12_0 f113_12_1 f113_12_6 H locs ls w66 r67 t68 r69 t70 r71 t72 r73 t74 r75 t76 r77 t78 r80 t81 r83 t84 hm113 hw hT hF c79 c82 c85 hM hl; omega
    | succ n113 ih113 =>
      intro v113_3 v113_4 v113_5 f113_12_0 f113_12_1 f113_12_6 H locs ls w66 r67 t68 r69 t70 r71 t72 r73 t74 r75 t76 r77 t78 r80 t81 r83 t84 hm113 hw hT hF c79 c82 c85 hM hl
      replace hM := hM.suc (fun _ => e_X12_ways_113)
      refine lv_iload hx hb dX12_ways_113 (lv_at hl 5 rfl) ?_
      refine lv_iconst (v := 1) hx hb dX12_ways_115 (by decide) ?_
      refine lv_iload_n hx hb dX12_ways_116 rfl (lv_at hl 3 rfl) ?_
      refine lv_ishl hx hb dX12_ways_117 ?_
      refine lv_topi (fun x86 ex86 => ?_)
      have ezx86 := ex86
      have bx86 : 1 ≤ x86.toInt ∧ x86.toInt ≤ 4096 := by rw [ex86]; exact wk_shl1 12 (by decide) (by omega) (by omega)
      replace hM := hM.lt (o32_e (f := fun x y => x <<< (y &&& 31)) ezx86 (by decide) rfl)
      refine lv_icmp_ge (tgt := 162) hx hb dX12_ways_118 (by decide) (fun c87 => ?_) (fun c87 => ?_)
      · have c87 : x86.toInt ≤ v113_5.toInt := wk_le.mp c87
        replace hM := hM.pos c87
        refine lv_iload_n hx hb dX12_ways_162 rfl (lv_at hl 2 rfl) ?_
        refine lv_if_ne (tgt := 169) hx hb dX12_ways_163 (by decide) (fun c88 => ?_) (fun c88 => ?_)
        · have c88 : ¬ a2.toInt = (0 : Int) := wk_eqF c88
          replace hM := hM.pos c88
          refine lv_iload hx hb dX12_ways_169 (lv_at hl 4 rfl) ?_
          refine lv_istore (lv' := [(5, .int v113_4), (0, .ref (ad 0)), (1, .int a1), (2, .int a2), (3, .int v113_3), (4, .int v113_4)]) hx hb dX12_ways_171 hl (by decide) rfl (fun ls hl => ?_)
          refine lv_iload hx hb dX12_ways_173 (lv_at hl 5 rfl) ?_
          refine lv_istore (lv' := [(6, .int v113_4), (5, .int v113_4), (0, .ref (ad 0)), (1, .int a1), (2, .int a2), (3, .int v113_3), (4, .int v113_4)]) hx hb dX12_ways_175 hl (by decide) rfl (fun ls hl => ?_)
          obtain rfl : a2 = 1 := wk_eq.mpr (show a2.toInt = 1 by first | exact Int.le_antisymm (by omega) (by omega) | omega)
          try simp only [show (1 : Int32).toInt = 1 by decide] at hM
          exact L177 ((v113_4.toInt - 0).toNat + 1) v113_3 v113_4 v113_4 v113_4 f113_12_0 f113_12_1 f113_12_6 H locs ls w66 (show 0 ≤ a1.toInt from r67) (show a1.toInt ≤ 6 from t68) (show 0 ≤ v113_3.toInt from r71) (show v113_3.toInt ≤ 12 from t72) (show 0 ≤ v113_4.toInt from r73) (show v113_4.toInt ≤ 63 from t74) (show 0 ≤ v113_4.toInt from r73) (show v113_4.toInt ≤ 63 from t74) (show 0 ≤ v113_4.toInt from r73) (show v113_4.toInt ≤ 63 from t74) (show 1 ≤ f113_12_0.toInt from r77) (show f113_12_0.toInt ≤ 10 from t78) (show 0 ≤ f113_12_1.toInt from r80) (show f113_12_1.toInt ≤ 12 from t81) (show 0 ≤ f113_12_6.toInt from r83) (show f113_12_6.toInt ≤ 6 from t84) (Nat.lt_succ_self _) hw hT hF c79 c82 c85 hM (lv_sub hl [2, 3, 4, 5, 6, 1, 0] rfl)
        · have c88 : a2.toInt = (0 : Int) := wk_eq.mp c88
          replace hM := hM.neg (fun q => q c88)
          refine lv_bipush (v := (-2)) hx hb dX12_ways_166 (by decide) ?_
          exact tk_iret hC hr hlocks hK ⟨hT, hF, hM.ret (by decide), (Or.inl ⟨rfl, (show 0 ≤ a1.toInt from r67), (show a1.toInt ≤ 6 from t68), (show 0 ≤ a2.toInt from r69), (show a2.toInt ≤ 0 by first | with_reducible assumption | omega), ⟨f113_12_0, c79, (show 1 ≤ f113_12_0.toInt from r77), (show f113_12_0.toInt ≤ 10 from t78)⟩⟩)⟩ hw dX12_ways_168
      · have c87 : v113_5.toInt < x86.toInt := wk_leF c87
        replace hM := hM.neg (Int.not_le.mpr c87)
        refine lv_aload_n hx hb dX12_ways_121 rfl (lv_at hl 0 rfl) ?_
        refine lv_iload_n hx hb dX12_ways_122 rfl (lv_at hl 1 rfl) ?_
        refine lv_iload hx hb dX12_ways_123 (lv_at hl 5 rfl) ?_
        refine tk_Vi hC hK hw hT hA hE hSR kM_at0 (by decide) rfl (kz_X12_doneBy_1 l adK adV dC dI cy ad B hB0 (Int.le_trans hB1 (by decide)) qr s1   a1 (show 0 ≤ a1.toInt from r67) (show a1.toInt ≤ 6 from t68) v113_5 (show 0 ≤ v113_5.toInt from r75) (show v113_5.toInt ≤ 4095 by first | with_reducible assumption | omega) w66 H.size hT ) (cwV 2 hC.2.2.2.2 uV_RX12_472 rfl rfl rfl (by decide +kernel) ⟨Nat.le_of_ble_eq_true rfl, Nat.le_of_ble_eq_true rfl⟩) rfl hl.1 rfl (Nat.le_of_ble_eq_true rfl) dX12_ways_125 (fun r89 w91 H locs hp90 hw => ?_)
        obtain ⟨rfl, hv96, hg95⟩ := hp90
        obtain ⟨g93, g94⟩ := hg95
        replace hM := hM.call hv96 rfl
        refine lv_istore (lv' := [(6, .int r89), (0, .ref (ad 0)), (1, .int a1), (2, .int a2), (3, .int v113_3), (4, .int v113_4), (5, .int v113_5)]) hx hb dX12_ways_128 hl (by decide) rfl (fun ls hl => ?_)
        refine lv_iload hx hb dX12_ways_130 (lv_at hl 0 rfl) ?_
        refine lv_iload hx hb dX12_ways_132 (lv_at hl 5 rfl) ?_
        refine lv_icmp_ne (tgt := 148) hx hb dX12_ways_134 (by decide) (fun c97 => ?_) (fun c97 => ?_)
        · have c97 : ¬ r89.toInt = v113_4.toInt := wk_eqF c97
          replace hM := hM.pos c97
          refine lv_aload_n hx hb dX12_ways_148 rfl (lv_at hl 1 rfl) ?_
          refine tk_getA hC hK hw hT hinX12 kM_at0 (by decide) rfl 38 (by decide) (List.mem_cons_of_mem _ uw_7_10) rfl rfl dX12_ways_149 ?_
          refine lv_iload hx hb dX12_ways_152 (lv_at hl 0 rfl) ?_
          refine lv_iconst (v := 1) hx hb dX12_ways_154 (by decide) ?_
          refine tk_zast hC hK hw hT kM_at20 (by decide) rfl rfl (show 0 ≤ r89.toInt by first | with_reducible assumption | omega) (show r89.toInt < 64 by first | with_reducible assumption | omega) (by decide) (by decide) dX12_ways_155 (fun H locs w98 hw hT k100 c99 => ?_)
          replace hM := hM.wr (sI_upc k100 c99 (by decide))
          have hF := hF.put kM_at20 (inE_of (a := 0) (b := 64) (by decide) (show 0 ≤ r89.toInt.toNat by omega) (show r89.toInt.toNat ≤ 64 by omega)) k100
          have c101 := k100.gi (Or.inl (tk_ne kM_at12 kM_at20 (by decide))) c79
          have c102 := k100.gi (Or.inl (tk_ne kM_at12 kM_at20 (by decide))) c82
          have c103 := k100.gi (Or.inl (tk_ne kM_at12 kM_at20 (by decide))) c85
          obtain ⟨x104, ex104⟩ : ∃ y : Int32, y = v113_5 + Int32.ofInt 1 := ⟨_, rfl⟩
          have erx104 := ex104
          refine lv_iinc (v := x104) (lv' := [(5, .int x104), (6, .int r89), (0, .ref (ad 0)), (1, .int a1), (2, .int a2), (3, .int v113_3), (4, .int v113_4)]) hx hb dX12_ways_156 hl (k := 6) rfl ex104.symm (by decide) rfl (fun ls hl => ?_)
          have ex104 : x104.toInt = v113_5.toInt + 1 := by rw [ex104]; exact wk_add (y := 1) (show -2147483648 ≤ v113_5.toInt + 1 by omega) (show v113_5.toInt + 1 ≤ 2147483647 by omega)
          replace hM := hM.lt ex104.symm
          refine lv_goto (tgt := 113) hx hb dX12_ways_159 (by decide) ?_
          exact ih113 v113_3 v113_4 x104 f113_12_0 f113_12_1 f113_12_6 H locs ls w98 (show 0 ≤ a1.toInt from r67) (show a1.toInt ≤ 6 from t68) (show 0 ≤ a2.toInt from r69) (show a2.toInt ≤ 1 from t70) (show 0 ≤ v113_3.toInt from r71) (show v113_3.toInt ≤ 12 from t72) (show 0 ≤ v113_4.toInt from r73) (show v113_4.toInt ≤ 63 from t74) (show 0 ≤ x104.toInt by first | with_reducible assumption | omega) (show x104.toInt ≤ 4096 by first | with_reducible assumption | omega) (show 1 ≤ f113_12_0.toInt from r77) (show f113_12_0.toInt ≤ 10 from t78) (show 0 ≤ f113_12_1.toInt from r80) (show f113_12_1.toInt ≤ 12 from t81) (show 0 ≤ f113_12_6.toInt from r83) (show f113_12_6.toInt ≤ 6 from t84) (show (4096 - x104.toInt).toNat < n113 by first | exact tn_lt hm113 (by omega) (by omega) | omega) hw hT hF c101 c102 c103 hM (lv_sub hl [2, 3, 4, 5, 6, 0] rfl)
        · have c97 : r89.toInt = v113_4.toInt := wk_eq.mp c97
          replace hM := hM.neg (fun q => q c97)
          refine lv_iload_n hx hb dX12_ways_137 rfl (lv_at hl 3 rfl) ?_
          refine lv_if_ne (tgt := 146) hx hb dX12_ways_138 (by decide) (fun c105 => ?_) (fun c105 => ?_)
          · have c105 : ¬ a2.toInt = (0 : Int) := wk_eqF c105
            replace hM := hM.pos c105
            refine lv_iconst (v := 0) hx hb dX12_ways_146 (by decide) ?_
            exact tk_iret hC hr hlocks hK ⟨hT, hF, hM.ret (by decide), (Or.inr (Or.inl ⟨(by decide), (by decide), (show 0 ≤ a1.toInt from r67), (show a1.toInt ≤ 6 from t68), ⟨f113_12_0, c79, (show 1 ≤ f113_12_0.toInt from r77), (show f113_12_0.toInt ≤ 10 from t78)⟩⟩))⟩ hw dX12_ways_147
          · have c105 : a2.toInt = (0 : Int) := wk_eq.mp c105
            replace hM := hM.neg (fun q => q c105)
            refine lv_iload hx hb dX12_ways_141 (lv_at hl 6 rfl) ?_
            refine lv_goto (tgt := 147) hx hb dX12_ways_143 (by decide) ?_
            exact tk_iret hC hr hlocks hK ⟨hT, hF, hM.ret rfl, (Or.inr (Or.inl ⟨(show 0 ≤ v113_5.toInt from r75), (show v113_5.toInt ≤ 4095 by first | with_reducible assumption | omega), (show 0 ≤ a1.toInt from r67), (show a1.toInt ≤ 6 from t68), ⟨f113_12_0, c79, (show 1 ≤ f113_12_0.toInt from r77), (show f113_12_0.toInt ≤ 10 from t78)⟩⟩))⟩ hw dX12_ways_147
  have L89 : ∀ (n89 : Nat) (v89_3 : Int32) (v89_4 : Int32) (v89_5 : Int32) (f89_12_0 : Int32) (f89_12_1 : Int32) (f89_12_6 : Int32) (H : Heap) (locs : List Loc) (ls : Array Slot) (w106 : va_W), 0 ≤ a1.toInt → a1.toInt ≤ 6 → 0 ≤ a2.toInt → a2.toInt ≤ 1 → 0 ≤ v89_3.toInt → v89_3.toInt ≤ 12 → 0 ≤ v89_4.toInt → v89_4.toInt ≤ 63 → 0 ≤ v89_5.toInt → v89_5.toInt ≤ 64 → 1 ≤ f89_12_0.toInt → f89_12_0.toInt ≤ 10 → 0 ≤ f89_12_1.toInt → f89_12_1.toInt ≤ 12 → 0 ≤ f89_12_6.toInt → f89_12_6.toInt ≤ 6 → (64 - v89_5.toInt).toNat < n89 → Wd dC dI A s.heap H locs w106 → TW ksM ad cy B qr 12 w106 → FE ksM [(79, 0, 64)] w0 w106 → gi w106 12 0 = f89_12_0 → gi w106 12 1 = f89_12_1 → gi w106 12 6 = f89_12_6 → TT (fun n => m_X12_ways n 0 a1.toInt a2.toInt (sI w0)) (fun n => j_X12_ways 0 n 89 [a1.toInt, a2.toInt, v89_3.toInt, v89_4.toInt, v89_5.toInt] (sI w106)) → lv_has ls 7 [(0, .ref (ad 0)), (1, .int a1), (2, .int a2), (3, .int v89_3), (4, .int v89_4), (5, .int v89_5)] → W p l e ({ frames := 4, cells := 0, slots := 0, locals := 86 }) s m (List.toArray [.ref (ad 0), .int a1, .int a2]) below meth c H locs 0 0 (MQ below (va_Qi (Pz_X12_ways_1 ad cy B qr s1 a1 a2 w0) (fun u : va_W => wpost dC dI cy A u) A) (List.toArray [.ref (ad 0), .int a1, .int a2]) s 0 0 A) (F0 m 89 ls []) := by
    intro n89
    induction n89 with
    | zero => intro v89_3 v89_4 v89_5 f89_12_0 f89_12_1 f89_12_6 H locs ls w106 r107 t108 r109 t110 r111 t112 r113 t114 r115 t116 r117 t118 r120 t121 r123 t124 hm89 hw hT hF c119 c122 c125 hM hl; omega
    | succ n89 ih89 =>
      intro v89_3 v89_4 v89_5 f89_12_0 f89_12_1 f89_12_6 H locs ls w106 r107 t108 r109 t110 r111 t112 r113 t114 r115 t116 r117 t118 r120 t121 r123 t124 hm89 hw hT hF c119 c122 c125 hM hl
      replace hM := hM.suc (fun _ => e_X12_ways_89)
      refine lv_iload hx hb dX12_ways_89 (lv_at hl 5 rfl) ?_
      refine lv_bipush (v := 64) hx hb dX12_ways_91 (by decide) ?_
      refine lv_icmp_ge (tgt := 110) hx hb dX12_ways_93 (by decide) (fun c126 => ?_) (fun c126 => ?_)
      · have c126 : (64 : Int) ≤ v89_5.toInt := wk_le.mp c126
        replace hM := hM.pos c126
        refine lv_iconst (v := 0) hx hb dX12_ways_110 (by decide) ?_
        refine lv_istore (lv' := [(5, .int 0), (0, .ref (ad 0)), (1, .int a1), (2, .int a2), (3, .int v89_3), (4, .int v89_4)]) hx hb dX12_ways_111 hl (by decide) rfl (fun ls hl => ?_)
        exact L113 ((4096 - (0 : Int)).toNat + 1) v89_3 v89_4 0 f89_12_0 f89_12_1 f89_12_6 H locs ls w106 (show 0 ≤ a1.toInt from r107) (show a1.toInt ≤ 6 from t108) (show 0 ≤ a2.toInt from r109) (show a2.toInt ≤ 1 from t110) (show 0 ≤ v89_3.toInt from r111) (show v89_3.toInt ≤ 12 from t112) (show 0 ≤ v89_4.toInt from r113) (show v89_4.toInt ≤ 63 from t114) (by decide) (by decide) (show 1 ≤ f89_12_0.toInt from r117) (show f89_12_0.toInt ≤ 10 from t118) (show 0 ≤ f89_12_1.toInt from r120) (show f89_12_1.toInt ≤ 12 from t121) (show 0 ≤ f89_12_6.toInt from r123) (show f89_12_6.toInt ≤ 6 from t124) (Nat.lt_succ_self _) hw hT hF c119 c122 c125 hM (lv_sub hl [1, 2, 3, 4, 5, 0] rfl)
      · have c126 : v89_5.toInt < (64 : Int) := wk_leF c126
        replace hM := hM.neg (Int.not_le.mpr c126)
        refine lv_aload_n hx hb dX12_ways_96 rfl (lv_at hl 0 rfl) ?_
        refine tk_getA hC hK hw hT hinX12 kM_at0 (by decide) rfl 38 (by decide) (List.mem_cons_of_mem _ uw_7_10) rfl rfl dX12_ways_97 ?_
        refine lv_iload hx hb dX12_ways_100 (lv_at hl 5 rfl) ?_
        refine lv_iconst (v := 0) hx hb dX12_ways_102 (by decide) ?_
        refine tk_zast hC hK hw hT kM_at20 (by decide) rfl rfl (show 0 ≤ v89_5.toInt from r115) (show v89_5.toInt < 64 by first | with_reducible assumption | omega) (by decide) (by decide) dX12_ways_103 (fun H locs w127 hw hT k129 c128 => ?_)
        replace hM := hM.wr (sI_upc k129 c128 (by decide))
        have hF := hF.put kM_at20 (inE_of (a := 0) (b := 64) (by decide) (show 0 ≤ v89_5.toInt.toNat by omega) (show v89_5.toInt.toNat ≤ 64 by omega)) k129
        have c130 := k129.gi (Or.inl (tk_ne kM_at12 kM_at20 (by decide))) c119
        have c131 := k129.gi (Or.inl (tk_ne kM_at12 kM_at20 (by decide))) c122
        have c132 := k129.gi (Or.inl (tk_ne kM_at12 kM_at20 (by decide))) c125
        obtain ⟨x133, ex133⟩ : ∃ y : Int32, y = v89_5 + Int32.ofInt 1 := ⟨_, rfl⟩
        have erx133 := ex133
        refine lv_iinc (v := x133) (lv' := [(5, .int x133), (0, .ref (ad 0)), (1, .int a1), (2, .int a2), (3, .int v89_3), (4, .int v89_4)]) hx hb dX12_ways_104 hl (k := 5) rfl ex133.symm (by decide) rfl (fun ls hl => ?_)
        have ex133 : x133.toInt = v89_5.toInt + 1 := by rw [ex133]; exact wk_add (y := 1) (show -2147483648 ≤ v89_5.toInt + 1 by omega) (show v89_5.toInt + 1 ≤ 2147483647 by omega)
        replace hM := hM.lt ex133.symm
        refine lv_goto (tgt := 89) hx hb dX12_ways_107 (by decide) ?_
        exact ih89 v89_3 v89_4 x133 f89_12_0 f89_12_1 f89_12_6 H locs ls w127 (show 0 ≤ a1.toInt from r107) (show a1.toInt ≤ 6 from t108) (show 0 ≤ a2.toInt from r109) (show a2.toInt ≤ 1 from t110) (show 0 ≤ v89_3.toInt from r111) (show v89_3.toInt ≤ 12 from t112) (show 0 ≤ v89_4.toInt from r113) (show v89_4.toInt ≤ 63 from t114) (show 0 ≤ x133.toInt by first | with_reducible assumption | omega) (show x133.toInt ≤ 64 by first | with_reducible assumption | omega) (show 1 ≤ f89_12_0.toInt from r117) (show f89_12_0.toInt ≤ 10 from t118) (show 0 ≤ f89_12_1.toInt from r120) (show f89_12_1.toInt ≤ 12 from t121) (show 0 ≤ f89_12_6.toInt from r123) (show f89_12_6.toInt ≤ 6 from t124) (show (64 - x133.toInt).toNat < n89 by first | exact tn_lt hm89 (by omega) (by omega) | omega) hw hT hF c130 c131 c132 hM (lv_sub hl [1, 2, 3, 4, 5, 0] rfl)
  have L36 : ∀ (n36 : Nat) (v36_3 : Int32) (v36_4 : Int32) (f36_12_0 : Int32) (H : Heap) (locs : List Loc) (ls : Array Slot) (w134 : va_W), 0 ≤ a1.toInt → a1.toInt ≤ 6 → 0 ≤ a2.toInt → a2.toInt ≤ 1 → 0 ≤ v36_3.toInt → v36_3.toInt ≤ 12 → 0 ≤ v36_4.toInt → v36_4.toInt ≤ 12 → 1 ≤ f36_12_0.toInt → f36_12_0.toInt ≤ 10 → v36_3.toInt ≤ v36_4.toInt + 0 → (12 - v36_4.toInt).toNat < n36 → Wd dC dI A s.heap H locs w134 → TW ksM ad cy B qr 12 w134 → FE ksM [(79, 0, 64)] w0 w134 → gi w134 12 0 = f36_12_0 → TT (fun n => m_X12_ways n 0 a1.toInt a2.toInt (sI w0)) (fun n => j_X12_ways 0 n 36 [a1.toInt, a2.toInt, v36_3.toInt, v36_4.toInt] (sI w134)) → lv_has ls 7 [(0, .ref (ad 0)), (1, .int a1), (2, .int a2), (3, .int v36_3), (4, .int v36_4)] → W p l e ({ frames := 4, cells := 0, slots := 0, locals := 86 }) s m (List.toArray [.ref (ad 0), .int a1, .int a2]) below meth c H locs 0 0 (MQ below (va_Qi (Pz_X12_ways_1 ad cy B qr s1 a1 a2 w0) (fun u : va_W => wpost dC dI cy A u) A) (List.toArray [.ref (ad 0), .int a1, .int a2]) s 0 0 A) (F0 m 36 ls []) := by
    intro n36
    induction n36 with
    | zero => intro v36_3 v36_4 f36_12_0 H locs ls w134 r135 t136 r137 t138 r139 t140 r141 t142 r143 t144 i146 hm36 hw hT hF c145 hM hl; omega
    | succ n36 ih36 =>
      intro v36_3 v36_4 f36_12_0 H locs ls w134 r135 t136 r137 t138 r139 t140 r141 t142 r143 t144 i146 hm36 hw hT hF c145 hM hl
      replace hM := hM.suc (fun _ => e_X12_ways_36)
      refine lv_iload hx hb dX12_ways_36 (lv_at hl 4 rfl) ?_
      refine lv_aload_n hx hb dX12_ways_38 rfl (lv_at hl 0 rfl) ?_
      refine tk_getA hC hK hw hT hinX12 kM_at0 (by decide) rfl 26 (by decide) (List.mem_cons_of_mem _ uw_7_1) rfl rfl dX12_ways_39 ?_
      refine lv_iconst (v := 1) hx hb dX12_ways_42 (by decide) ?_
      refine tk_ialdR hC hK hw hT kM_at12 rfl (by decide) (by decide) dX12_ways_43 (fun x147 c148 Ex147 => ?_)
      have hox147 := c148
      replace hM := hM.rd (sI_at hox147)
      have bx147 : 0 ≤ x147.toInt ∧ x147.toInt ≤ 12 := (tk_rg1 rfl).mp Ex147
      have c148 : gi w134 12 1 = x147 := c148
      refine lv_icmp_ge (tgt := 73) hx hb dX12_ways_44 (by decide) (fun c149 => ?_) (fun c149 => ?_)
      · have c149 : x147.toInt ≤ v36_4.toInt := wk_le.mp c149
        replace hM := hM.pos c149
        refine lv_iconst (v := 1) hx hb dX12_ways_73 (by decide) ?_
        refine lv_aload_n hx hb dX12_ways_74 rfl (lv_at hl 0 rfl) ?_
        refine tk_getA hC hK hw hT hinX12 kM_at0 (by decide) rfl 26 (by decide) (List.mem_cons_of_mem _ uw_7_1) rfl rfl dX12_ways_75 ?_
        refine lv_bipush (v := 6) hx hb dX12_ways_78 (by decide) ?_
        refine tk_ialdR hC hK hw hT kM_at12 rfl (by decide) (by decide) dX12_ways_80 (fun x150 c151 Ex150 => ?_)
        have hox150 := c151
        replace hM := hM.rd (sI_at hox150)
        have bx150 := tk_rgI rfl 6 1 1 0 6 (by decide +kernel) ⟨0, by decide, by decide⟩ Ex150
        have c151 : gi w134 12 6 = x150 := c151
        refine lv_ishl hx hb dX12_ways_81 ?_
        refine lv_topi (fun x152 ex152 => ?_)
        have ezx152 := ex152
        have bx152 : 1 ≤ x152.toInt ∧ x152.toInt ≤ 64 := by rw [ex152]; exact wk_shl1 6 (by decide) (by omega) (by omega)
        replace hM := hM.lt (o32_e (f := fun x y => x <<< (y &&& 31)) ezx152 (by decide) rfl)
        refine lv_iconst (v := 1) hx hb dX12_ways_82 (by decide) ?_
        refine lv_isub hx hb dX12_ways_83 ?_
        refine lv_topi (fun x153 ex153 => ?_)
        have ezx153 := ex153
        have ex153 : x153.toInt = x152.toInt - (1 : Int) := by rw [ex153]; exact wk_sub (show (-2147483648) ≤ x152.toInt - (1 : Int) by omega) (show x152.toInt - (1 : Int) ≤ 2147483647 by omega)
        replace hM := hM.lt ex153.symm
        refine lv_istore (lv' := [(4, .int x153), (0, .ref (ad 0)), (1, .int a1), (2, .int a2), (3, .int v36_3)]) hx hb dX12_ways_84 hl (by decide) rfl (fun ls hl => ?_)
        refine lv_iconst (v := 0) hx hb dX12_ways_86 (by decide) ?_
        refine lv_istore (lv' := [(5, .int 0), (4, .int x153), (0, .ref (ad 0)), (1, .int a1), (2, .int a2), (3, .int v36_3)]) hx hb dX12_ways_87 hl (by decide) rfl (fun ls hl => ?_)
        exact L89 ((64 - (0 : Int)).toNat + 1) v36_3 x153 0 f36_12_0 x147 x150 H locs ls w134 (show 0 ≤ a1.toInt from r135) (show a1.toInt ≤ 6 from t136) (show 0 ≤ a2.toInt from r137) (show a2.toInt ≤ 1 from t138) (show 0 ≤ v36_3.toInt from r139) (show v36_3.toInt ≤ 12 from t140) (show 0 ≤ x153.toInt by first | with_reducible assumption | omega) (show x153.toInt ≤ 63 by first | with_reducible assumption | omega) (by decide) (by decide) (show 1 ≤ f36_12_0.toInt from r143) (show f36_12_0.toInt ≤ 10 from t144) (show 0 ≤ x147.toInt by first | with_reducible assumption | omega) (show x147.toInt ≤ 12 by first | with_reducible assumption | omega) (show 0 ≤ x150.toInt by first | with_reducible assumption | omega) (show x150.toInt ≤ 6 by first | with_reducible assumption | omega) (Nat.lt_succ_self _) hw hT hF c145 c148 c151 hM (lv_sub hl [2, 3, 4, 5, 1, 0] rfl)
      · have c149 : v36_4.toInt < x147.toInt := wk_leF c149
        replace hM := hM.neg (Int.not_le.mpr c149)
        refine lv_iload_n hx hb dX12_ways_47 rfl (lv_at hl 3 rfl) ?_
        refine lv_aload_n hx hb dX12_ways_48 rfl (lv_at hl 0 rfl) ?_
        refine lv_iload hx hb dX12_ways_49 (lv_at hl 4 rfl) ?_
        refine lv_iconst (v := 3) hx hb dX12_ways_51 (by decide) ?_
        refine lv_iload_n hx hb dX12_ways_52 rfl (lv_at hl 1 rfl) ?_
        refine lv_iadd hx hb dX12_ways_53 ?_
        refine lv_topi (fun x154 ex154 => ?_)
        have ezx154 := ex154
        have ex154 : x154.toInt = (3 : Int) + a1.toInt := by rw [ex154]; exact wk_add (show (-2147483648) ≤ (3 : Int) + a1.toInt by omega) (show (3 : Int) + a1.toInt ≤ 2147483647 by omega)
        replace hM := hM.lt ex154.symm
        refine tk_Vi hC hK hw hT hA hE hSR kM_at0 (by decide) rfl (kz_X12_streetOf_2 l adK adV dC dI cy ad B hB0 (Int.le_trans hB1 (by decide)) qr s1   v36_4 (show 0 ≤ v36_4.toInt from r141) (show v36_4.toInt ≤ 11 by first | with_reducible assumption | omega) x154 (show 3 ≤ x154.toInt by first | with_reducible assumption | omega) (show x154.toInt ≤ 9 by first | with_reducible assumption | omega) w134 H.size hT ) (cwV 2 hC.2.2.2.2 uV_RX12_300 rfl rfl rfl (by decide +kernel) ⟨Nat.le_of_ble_eq_true rfl, Nat.le_of_ble_eq_true rfl⟩) rfl hl.1 rfl (Nat.le_of_ble_eq_true rfl) dX12_ways_54 (fun r155 w157 H locs hp156 hw => ?_)
        obtain ⟨rfl, hv163, hg162⟩ := hp156
        obtain ⟨g159, g160, c161⟩ := hg162
        replace hM := hM.call hv163 rfl
        refine lv_if_ne (tgt := 64) hx hb dX12_ways_57 (by decide) (fun c164 => ?_) (fun c164 => ?_)
        · have c164 : ¬ r155.toInt = (0 : Int) := wk_eqF c164
          replace hM := hM.pos c164
          refine lv_iconst (v := 1) hx hb dX12_ways_64 (by decide) ?_
          refine lv_iadd hx hb dX12_ways_65 ?_
          refine lv_topi (fun x165 ex165 => ?_)
          have ezx165 := ex165
          have ex165 : x165.toInt = v36_3.toInt + (1 : Int) := by rw [ex165]; exact wk_add (show (-2147483648) ≤ v36_3.toInt + (1 : Int) by omega) (show v36_3.toInt + (1 : Int) ≤ 2147483647 by omega)
          replace hM := hM.lt ex165.symm
          refine lv_istore_n (lv' := [(3, .int x165), (0, .ref (ad 0)), (1, .int a1), (2, .int a2), (4, .int v36_4)]) hx hb dX12_ways_66 rfl hl (by decide) rfl (fun ls hl => ?_)
          obtain ⟨x166, ex166⟩ : ∃ y : Int32, y = v36_4 + Int32.ofInt 1 := ⟨_, rfl⟩
          have erx166 := ex166
          refine lv_iinc (v := x166) (lv' := [(4, .int x166), (3, .int x165), (0, .ref (ad 0)), (1, .int a1), (2, .int a2)]) hx hb dX12_ways_67 hl (k := 4) rfl ex166.symm (by decide) rfl (fun ls hl => ?_)
          have ex166 : x166.toInt = v36_4.toInt + 1 := by rw [ex166]; exact wk_add (y := 1) (show -2147483648 ≤ v36_4.toInt + 1 by omega) (show v36_4.toInt + 1 ≤ 2147483647 by omega)
          replace hM := hM.lt ex166.symm
          refine lv_goto (tgt := 36) hx hb dX12_ways_70 (by decide) ?_
          exact ih36 x165 x166 f36_12_0 H locs ls w134 (show 0 ≤ a1.toInt from r135) (show a1.toInt ≤ 6 from t136) (show 0 ≤ a2.toInt from r137) (show a2.toInt ≤ 1 from t138) (show 0 ≤ x165.toInt by first | with_reducible assumption | omega) (show x165.toInt ≤ 12 by first | with_reducible assumption | omega) (show 0 ≤ x166.toInt by first | with_reducible assumption | omega) (show x166.toInt ≤ 12 by first | with_reducible assumption | omega) (show 1 ≤ f36_12_0.toInt from r143) (show f36_12_0.toInt ≤ 10 from t144) (show x165.toInt ≤ x166.toInt + 0 by omega) (show (12 - x166.toInt).toNat < n36 by first | exact tn_lt hm36 (by omega) (by omega) | omega) hw hT hF c145 hM (lv_sub hl [2, 3, 4, 1, 0] rfl)
        · have c164 : r155.toInt = (0 : Int) := wk_eq.mp c164
          replace hM := hM.neg (fun q => q c164)
          refine lv_iconst (v := 0) hx hb dX12_ways_60 (by decide) ?_
          refine lv_goto (tgt := 65) hx hb dX12_ways_61 (by decide) ?_
          refine lv_iadd hx hb dX12_ways_65 ?_
          refine lv_topi (fun x167 ex167 => ?_)
          have ezx167 := ex167
          have ex167 : x167.toInt = v36_3.toInt + (0 : Int) := by rw [ex167]; exact wk_add (show (-2147483648) ≤ v36_3.toInt + (0 : Int) by omega) (show v36_3.toInt + (0 : Int) ≤ 2147483647 by omega)
          replace hM := hM.lt ex167.symm
          refine lv_istore_n (lv' := [(3, .int x167), (0, .ref (ad 0)), (1, .int a1), (2, .int a2), (4, .int v36_4)]) hx hb dX12_ways_66 rfl hl (by decide) rfl (fun ls hl => ?_)
          obtain ⟨x168, ex168⟩ : ∃ y : Int32, y = v36_4 + Int32.ofInt 1 := ⟨_, rfl⟩
          have erx168 := ex168
          refine lv_iinc (v := x168) (lv' := [(4, .int x168), (3, .int x167), (0, .ref (ad 0)), (1, .int a1), (2, .int a2)]) hx hb dX12_ways_67 hl (k := 4) rfl ex168.symm (by decide) rfl (fun ls hl => ?_)
          have ex168 : x168.toInt = v36_4.toInt + 1 := by rw [ex168]; exact wk_add (y := 1) (show -2147483648 ≤ v36_4.toInt + 1 by omega) (show v36_4.toInt + 1 ≤ 2147483647 by omega)
          replace hM := hM.lt ex168.symm
          refine lv_goto (tgt := 36) hx hb dX12_ways_70 (by decide) ?_
          exact ih36 x167 x168 f36_12_0 H locs ls w134 (show 0 ≤ a1.toInt from r135) (show a1.toInt ≤ 6 from t136) (show 0 ≤ a2.toInt from r137) (show a2.toInt ≤ 1 from t138) (show 0 ≤ x167.toInt by first | with_reducible assumption | omega) (show x167.toInt ≤ 12 by first | with_reducible assumption | omega) (show 0 ≤ x168.toInt by first | with_reducible assumption | omega) (show x168.toInt ≤ 12 by first | with_reducible assumption | omega) (show 1 ≤ f36_12_0.toInt from r143) (show f36_12_0.toInt ≤ 10 from t144) (show x167.toInt ≤ x168.toInt + 0 by omega) (show (12 - x168.toInt).toNat < n36 by first | exact tn_lt hm36 (by omega) (by omega) | omega) hw hT hF c145 hM (lv_sub hl [2, 3, 4, 1, 0] rfl)
  have hM : TT (fun n => m_X12_ways n 0 a1.toInt a2.toInt (sI w0)) (fun n => m_X12_ways n 0 a1.toInt a2.toInt (sI w0)) := TT.rf
  refine lv_aload_n hx hb dX12_ways_0 rfl (lv_at hl 0 rfl) ?_
  refine tk_Vi hC hK hw hT hA hE hSR kM_at0 (by decide) rfl (kz_X12_isTown_1 l adK adV dC dI cy ad B hB0 (Int.le_trans hB1 (by decide)) qr s1    w0 s.heap.size hT ) (cwV 0 hC.2.2.2.2 uV_RX12_337 rfl rfl rfl (by decide +kernel) ⟨Nat.le_of_ble_eq_true rfl, Nat.le_of_ble_eq_true rfl⟩) rfl hl.1 rfl (Nat.le_of_ble_eq_true rfl) dX12_ways_1 (fun r169 w171 H locs hp170 hw => ?_)
  obtain ⟨rfl, hv178, hg177⟩ := hp170
  rcases hg177 with ⟨rfl, ⟨x173, c174, rx173, tx173⟩⟩ | ⟨rfl, ⟨x175, c176, rx175, tx175⟩⟩
  · replace hM := hM.call (r' := 0) hv178 (by decide)
    refine lv_if_eq (tgt := 29) hx hb dX12_ways_4 (by decide) (fun _ => ?_) (fun c => absurd (by decide) c)
    replace hM := hM.pos (by decide)
    exact J29 x173 H locs ls w0 (show 0 ≤ x173.toInt by first | with_reducible assumption | omega) (show x173.toInt ≤ 10 by first | with_reducible assumption | omega)  hw hT hF c174 hM (lv_sub hl [0, 1, 2] rfl)
  · replace hM := hM.call (r' := 1) hv178 (by decide)
    refine lv_if_eq (tgt := 29) hx hb dX12_ways_4 (by decide) (fun c => absurd c (by decide)) (fun _ => ?_)
    replace hM := hM.neg (by decide)
    refine lv_iload_n hx hb dX12_ways_7 rfl (lv_at hl 1 rfl) ?_
    refine lv_i2l hx hb dX12_ways_8 rfl ?_
    refine lv_topl (fun x179 ex179 => ?_)
    have ex179 : x179.toInt = a1.toInt := by rw [ex179]; exact wk_i2l _
    have bx179 := wk_i32 a1
    replace hM := hM.lt ex179.symm
    refine lv_lconst (v := 0) hx hb dX12_ways_9 (by decide) ?_
    refine lv_ldc2 (v := 6) hx hb hC.2.2.2.1 (hC.2.2.2.2 _ (List.mem_cons_of_mem _ uw_34_6)) dX12_ways_10 ?_
    refine tk_Si hC hK hw hT hA hE hSR (kz_X12_in_12 l adK adV dC dI cy ad B hB0 (Int.le_trans hB1 (by decide)) qr s1   x179 (show (-2147483648) ≤ x179.toInt by first | with_reducible assumption | omega) (show x179.toInt ≤ 2147483647 by first | with_reducible assumption | omega) w0 H.size hT ) (va_cwS 3 hC.2.2.2.2 uS_RX12_122 rfl rfl rfl (by decide +kernel) ⟨Nat.le_of_ble_eq_true rfl, Nat.le_of_ble_eq_true rfl⟩) rfl hl.1 rfl (Nat.le_of_ble_eq_true rfl) dX12_ways_13 (fun r180 w182 H locs hp181 hw => ?_)
    obtain ⟨rfl, hv187, hg186⟩ := hp181
    rcases hg186 with rfl | ⟨rfl, g184, g185⟩
    · replace hM := hM.call (r' := 0) hv187 (by decide)
      refine lv_if_eq (tgt := 29) hx hb dX12_ways_16 (by decide) (fun _ => ?_) (fun c => absurd (by decide) c)
      replace hM := hM.pos (by decide)
      exact J29 x175 H locs ls w0 (show 0 ≤ x175.toInt by first | with_reducible assumption | omega) (show x175.toInt ≤ 10 by first | with_reducible assumption | omega)  hw hT hF c176 hM (lv_sub hl [0, 1, 2] rfl)
    · replace hM := hM.call (r' := 1) hv187 (by decide)
      refine lv_if_eq (tgt := 29) hx hb dX12_ways_16 (by decide) (fun c => absurd c (by decide)) (fun _ => ?_)
      replace hM := hM.neg (by decide)
      refine lv_iload_n hx hb dX12_ways_19 rfl (lv_at hl 2 rfl) ?_
      refine lv_i2l hx hb dX12_ways_20 rfl ?_
      refine lv_topl (fun x188 ex188 => ?_)
      have ex188 : x188.toInt = a2.toInt := by rw [ex188]; exact wk_i2l _
      have bx188 := wk_i32 a2
      replace hM := hM.lt ex188.symm
      refine lv_lconst (v := 0) hx hb dX12_ways_21 (by decide) ?_
      refine lv_lconst (v := 1) hx hb dX12_ways_22 (by decide) ?_
      refine tk_Si hC hK hw hT hA hE hSR (kz_X12_in_15 l adK adV dC dI cy ad B hB0 (Int.le_trans hB1 (by decide)) qr s1   x188 (show (-2147483648) ≤ x188.toInt by first | with_reducible assumption | omega) (show x188.toInt ≤ 2147483647 by first | with_reducible assumption | omega) w0 H.size hT ) (va_cwS 3 hC.2.2.2.2 uS_RX12_122 rfl rfl rfl (by decide +kernel) ⟨Nat.le_of_ble_eq_true rfl, Nat.le_of_ble_eq_true rfl⟩) rfl hl.1 rfl (Nat.le_of_ble_eq_true rfl) dX12_ways_23 (fun r189 w191 H locs hp190 hw => ?_)
      obtain ⟨rfl, hv196, hg195⟩ := hp190
      rcases hg195 with rfl | ⟨rfl, g193, g194⟩
      · replace hM := hM.call (r' := 0) hv196 (by decide)
        refine lv_if_ne (tgt := 31) hx hb dX12_ways_26 (by decide) (fun c => absurd (by decide) c) (fun _ => ?_)
        replace hM := hM.neg (by decide)
        exact J29 x175 H locs ls w0 (show 0 ≤ x175.toInt by first | with_reducible assumption | omega) (show x175.toInt ≤ 10 by first | with_reducible assumption | omega)  hw hT hF c176 hM (lv_sub hl [0, 1, 2] rfl)
      · replace hM := hM.call (r' := 1) hv196 (by decide)
        refine lv_if_ne (tgt := 31) hx hb dX12_ways_26 (by decide) (fun _ => ?_) (fun c => absurd c (by decide))
        replace hM := hM.pos (by decide)
        refine lv_iconst (v := 0) hx hb dX12_ways_31 (by decide) ?_
        refine lv_istore_n (lv' := [(3, .int 0), (0, .ref (ad 0)), (1, .int a1), (2, .int a2)]) hx hb dX12_ways_32 rfl hl (by decide) rfl (fun ls hl => ?_)
        refine lv_iconst (v := 0) hx hb dX12_ways_33 (by decide) ?_
        refine lv_istore (lv' := [(4, .int 0), (3, .int 0), (0, .ref (ad 0)), (1, .int a1), (2, .int a2)]) hx hb dX12_ways_34 hl (by decide) rfl (fun ls hl => ?_)
        exact L36 ((12 - (0 : Int)).toNat + 1) 0 0 x175 H locs ls w0 (show 0 ≤ a1.toInt by first | with_reducible assumption | omega) (show a1.toInt ≤ 6 by first | with_reducible assumption | omega) (show 0 ≤ a2.toInt by first | with_reducible assumption | omega) (show a2.toInt ≤ 1 by first | with_reducible assumption | omega) (by decide) (by decide) (by decide) (by decide) (show 1 ≤ x175.toInt by first | with_reducible assumption | omega) (show x175.toInt ≤ 10 by first | with_reducible assumption | omega) (show (0 : Int) ≤ (0 : Int) + 0 by omega) (Nat.lt_succ_self _) hw hT hF c176 hM (lv_sub hl [2, 3, 4, 1, 0] rfl)
