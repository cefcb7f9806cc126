abbrev P_X12_doneBy_1 (ad : Nat → Nat) (cy : Nat → ClassId) (B : Int) (qr : Nat) (s1 : Int) (a1 : Int32) (a2 : Int32) (w0 : va_W) : Int32 → va_W → Prop := fun r u => w0 = u ∧ ((0 ≤ r.toInt ∧ r.toInt ≤ 63))
set_option maxHeartbeats 4000000 in
set_option maxRecDepth 100000 in
theorem k_X12_doneBy_1 (l : Launch) (adK adV : Nat → Nat) (dC : Nat → ClassId) (dI : Nat → Nat → Nat) (cy : Nat → ClassId) (ad : Nat → Nat) (B : Int) (hB0 : 100000 ≤ B) (hB1 : B ≤ 1073741824) (qr : Nat) (s1 : Int)  (a1 : Int32) (ra1 : 0 ≤ a1.toInt) (ta1 : a1.toInt ≤ 6) (a2 : Int32) (ra2 : 0 ≤ a2.toInt) (ta2 : a2.toInt ≤ 4095) (w0 : va_W) (sz : Nat) (hT : TW ksM ad cy B qr 12 w0)  : Met l yX12_doneBy wsX12_doneBy ({ frames := 3, cells := 0, slots := 0, locals := 62 }) (va_Pc [.ref (ad 0), .int a1, .int a2] (wpreS adK adV dC dI cy sz w0)) (va_Qi (P_X12_doneBy_1 ad cy B qr s1 a1 a2 w0) (fun u : va_W => wpost dC dI cy (va_A w0 sz) u) (va_A w0 sz)) 0 0 (va_A w0 sz) := by
  refine Met.ofW (cc := cX12_doneBy) (maxL := 5) (ret := (some .int)) (by decide) rfl ?_
  intro p e s m args below meth c s₁ Bk hml hv
  obtain ⟨rfl, ⟨hsz, hP, hK, hD0⟩, hE, hSR⟩ := hv
  have hx := Bk.exec
  have hb := Bk.bytes
  have hr := Bk.returns
  have hlocks := Bk.notSynchronized
  have hC : CallFix p m c cX12_doneBy 5 s _ wsX12_doneBy RX12 := ⟨hx, hb, hml, findClass_of_methodNamed Bk.named, atoms_spec (ws := wsX12_doneBy) Bk.pre⟩
  subst hsz
  have hD := hD0.self (sz := s.heap.size)
  generalize hAe : va_A w0 s.heap.size = A at hD hE ⊢
  have hA : ∀ q : Nat, s.heap.size ≤ q → A q := fun q h => by rw [← hAe]; exact Or.inr h
  have hw : Wd dC dI A s.heap s.heap [] w0 := ⟨hP, hD, va_S.rf⟩
  have hF : FE ksM ([] : List (Nat × Nat × Nat)) w0 w0 := FE.rf
  have hl := lv_entry ([.ref (ad 0), .int a1, .int a2]) (n := 5) (Nat.le_of_ble_eq_true rfl)
  rw [lg_entry_eq]
  generalize (lg_sl ([.ref (ad 0), .int a1, .int a2]) ++ List.replicate (5 - (lg_sl ([.ref (ad 0), .int a1, .int a2])).length) Slot.unset).toArray = ls at hl ⊢
  have hl : lv_has ls 5 [(0, .ref (ad 0)), (1, .int a1), (2, .int a2)] := hl
  generalize hloc : ([] : List Loc) = locs at hw ⊢
  have hinX12 : ∀ w ∈ u_ws RX12 TX12 42, w ∈ wsX12_doneBy := fun _ h => List.mem_cons_of_mem _ (List.mem_append_right _ (h))
  have L5 : ∀ (n5 : Nat) (v5_3 : Int32) (v5_4 : Int32) (H : Heap) (locs : List Loc) (ls : Array Slot), 0 ≤ a1.toInt → a1.toInt ≤ 6 → 0 ≤ a2.toInt → a2.toInt ≤ 4095 → 0 ≤ v5_3.toInt → v5_3.toInt ≤ 63 → 0 ≤ v5_4.toInt → v5_4.toInt ≤ 6 → (6 - v5_4.toInt).toNat < n5 → Wd dC dI A s.heap H locs w0 → lv_has ls 5 [(0, .ref (ad 0)), (1, .int a1), (2, .int a2), (3, .int v5_3), (4, .int v5_4)] → W p l e ({ frames := 3, cells := 0, slots := 0, locals := 62 }) s m (List.toArray [.ref (ad 0), .int a1, .int a2]) below meth c H locs 0 0 (MQ below (va_Qi (P_X12_doneBy_1 ad cy B qr s1 a1 a2 w0) (fun u : va_W => wpost dC dI cy A u) A) (List.toArray [.ref (ad 0), .int a1, .int a2]) s 0 0 A) (F0 m 5 ls []) := by
    intro n5
    induction n5 with
    | zero => intro v5_3 v5_4 H locs ls r1 t2 r3 t4 r5 t6 r7 t8 hm5 hw hl; omega
    | succ n5 ih5 =>
      intro v5_3 v5_4 H locs ls r1 t2 r3 t4 r5 t6 r7 t8 hm5 hw hl
      refine lv_iload hx hb dX12_doneBy_5 (lv_at hl 4 rfl) ?_
      refine lv_aload_n hx hb dX12_doneBy_7 rfl (lv_at hl 0 rfl) ?_
      refine tk_getA hC hK hw hT hinX12 kM_at0 (by decide) rfl 26 (by decide) (List.mem_of_getElem? (i := 1) rfl) rfl rfl dX12_doneBy_8 ?_
      refine lv_bipush (v := 6) hx hb dX12_doneBy_11 (by decide) ?_
      refine tk_ialdR hC hK hw hT kM_at12 rfl (by decide) (by decide) dX12_doneBy_13 (fun x9 c10 Ex9 => ?_)
      have bx9 := tk_rgI rfl 6 1 1 0 6 (by decide +kernel) ⟨0, by decide, by decide⟩ Ex9
      have c10 : gi w0 12 6 = x9 := c10
      refine lv_icmp_ge (tgt := 74) hx hb dX12_doneBy_14 (by decide) (fun c11 => ?_) (fun c11 => ?_)
      · have c11 : x9.toInt ≤ v5_4.toInt := wk_le.mp c11
        refine lv_iload_n hx hb dX12_doneBy_74 rfl (lv_at hl 3 rfl) ?_
        exact tk_iret hC hr hlocks hK ⟨rfl, ⟨(show 0 ≤ v5_3.toInt by omega), (show v5_3.toInt ≤ 63 by omega)⟩⟩ hw dX12_doneBy_75
      · have c11 : v5_4.toInt < x9.toInt := wk_leF c11
        refine lv_iload_n hx hb dX12_doneBy_17 rfl (lv_at hl 3 rfl) ?_
        refine lv_aload_n hx hb dX12_doneBy_18 rfl (lv_at hl 0 rfl) ?_
        refine lv_iload_n hx hb dX12_doneBy_19 rfl (lv_at hl 1 rfl) ?_
        refine lv_iload_n hx hb dX12_doneBy_20 rfl (lv_at hl 2 rfl) ?_
        refine lv_aload_n hx hb dX12_doneBy_21 rfl (lv_at hl 0 rfl) ?_
        refine tk_getA hC hK hw hT hinX12 kM_at0 (by decide) rfl 26 (by decide) (List.mem_of_getElem? (i := 1) rfl) rfl rfl dX12_doneBy_22 ?_
        refine lv_sipush (v := 252) hx hb dX12_doneBy_25 (by decide) ?_
        refine lv_iconst (v := 2) hx hb dX12_doneBy_28 (by decide) ?_
        refine lv_iload hx hb dX12_doneBy_29 (lv_at hl 4 rfl) ?_
        refine lv_imul hx hb dX12_doneBy_31 ?_
        refine lv_topi (fun x12 ex12 => ?_)
        have ex12 : x12.toInt = (2 : Int) * v5_4.toInt := by rw [ex12]; exact wk_mul (show (-2147483648) ≤ (2 : Int) * v5_4.toInt by omega) (show (2 : Int) * v5_4.toInt ≤ 2147483647 by omega)
        refine lv_iadd hx hb dX12_doneBy_32 ?_
        refine lv_topi (fun x13 ex13 => ?_)
        have ex13 : x13.toInt = (252 : Int) + x12.toInt := by rw [ex13]; exact wk_add (show (-2147483648) ≤ (252 : Int) + x12.toInt by omega) (show (252 : Int) + x12.toInt ≤ 2147483647 by omega)
        refine tk_ialdR hC hK hw hT kM_at12 rfl (show 0 ≤ x13.toInt by omega) (show x13.toInt < 296 by omega) dX12_doneBy_33 (fun x14 c15 Ex14 => ?_)
        have c15 : gi w0 12 (2 * v5_4.toInt + 252).toNat = x14 := (congrArg (gi w0 12) (congrArg Int.toNat (show 2 * v5_4.toInt + 252 = x13.toInt by omega))).trans c15
        have bx14 := tk_rgI rfl 252 2 6 0 9 (by decide +kernel) ⟨(v5_4.toInt - 0).toNat, by omega, show x13.toInt.toNat = 252 + 2 * (v5_4.toInt - 0).toNat by omega⟩ Ex14
        refine tk_Vi hC hK hw hT hA hE hSR kM_at0 (by decide) rfl (k_X12_comesTo_1 l adK adV dC dI cy ad B (by omega) (by omega) qr s1   a1 (show 0 ≤ a1.toInt by omega) (show a1.toInt ≤ 6 by omega) a2 (show 0 ≤ a2.toInt by omega) (show a2.toInt ≤ 4095 by omega) x14 (show 0 ≤ x14.toInt by omega) (show x14.toInt ≤ 9 by omega) w0 H.size hT ) (cwV 3 hC.2.2.2.2 gX12_doneBy_X12_comesTo rfl rfl rfl (by decide +kernel) ⟨Nat.le_of_ble_eq_true rfl, Nat.le_of_ble_eq_true rfl⟩) rfl hl.1 rfl (Nat.le_of_ble_eq_true rfl) dX12_doneBy_34 (fun r16 w18 H locs hp17 hw => ?_)
        obtain ⟨rfl, hg22⟩ := hp17
        obtain ⟨g20, g21⟩ := hg22
        refine lv_aload_n hx hb dX12_doneBy_37 rfl (lv_at hl 0 rfl) ?_
        refine tk_getA hC hK hw hT hinX12 kM_at0 (by decide) rfl 26 (by decide) (List.mem_of_getElem? (i := 1) rfl) rfl rfl dX12_doneBy_38 ?_
        refine lv_sipush (v := 252) hx hb dX12_doneBy_41 (by decide) ?_
        refine lv_iconst (v := 2) hx hb dX12_doneBy_44 (by decide) ?_
        refine lv_iload hx hb dX12_doneBy_45 (lv_at hl 4 rfl) ?_
        refine lv_imul hx hb dX12_doneBy_47 ?_
        refine lv_topi (fun x23 ex23 => ?_)
        have ex23 : x23.toInt = (2 : Int) * v5_4.toInt := by rw [ex23]; exact wk_mul (show (-2147483648) ≤ (2 : Int) * v5_4.toInt by omega) (show (2 : Int) * v5_4.toInt ≤ 2147483647 by omega)
        refine lv_iadd hx hb dX12_doneBy_48 ?_
        refine lv_topi (fun x24 ex24 => ?_)
        have ex24 : x24.toInt = (252 : Int) + x23.toInt := by rw [ex24]; exact wk_add (show (-2147483648) ≤ (252 : Int) + x23.toInt by omega) (show (252 : Int) + x23.toInt ≤ 2147483647 by omega)
        refine lv_iconst (v := 1) hx hb dX12_doneBy_49 (by decide) ?_
        refine lv_iadd hx hb dX12_doneBy_50 ?_
        refine lv_topi (fun x25 ex25 => ?_)
        have ex25 : x25.toInt = x24.toInt + (1 : Int) := by rw [ex25]; exact wk_add (show (-2147483648) ≤ x24.toInt + (1 : Int) by omega) (show x24.toInt + (1 : Int) ≤ 2147483647 by omega)
        refine tk_ialdR hC hK hw hT kM_at12 rfl (show 0 ≤ x25.toInt by omega) (show x25.toInt < 296 by omega) dX12_doneBy_51 (fun x26 c27 Ex26 => ?_)
        have c27 : gi w0 12 (2 * v5_4.toInt + 253).toNat = x26 := (congrArg (gi w0 12) (congrArg Int.toNat (show 2 * v5_4.toInt + 253 = x25.toInt by omega))).trans c27
        have bx26 := tk_rgI rfl 253 2 6 0 9 (by decide +kernel) ⟨(v5_4.toInt - 0).toNat, by omega, show x25.toInt.toNat = 253 + 2 * (v5_4.toInt - 0).toNat by omega⟩ Ex26
        refine tk_Si hC hK hw hT hA hE hSR (k_X12_isOf_7 l adK adV dC dI cy ad B (by omega) (by omega) qr s1   r16 (show 1 ≤ r16.toInt by omega) (show r16.toInt ≤ 1023 by omega) x26 (show 0 ≤ x26.toInt by omega) (show x26.toInt ≤ 9 by omega) w0 H.size hT ) (va_cwS 2 hC.2.2.2.2 gX12_doneBy_X12_isOf rfl rfl rfl (by decide +kernel) ⟨Nat.le_of_ble_eq_true rfl, Nat.le_of_ble_eq_true rfl⟩) rfl hl.1 rfl (Nat.le_of_ble_eq_true rfl) dX12_doneBy_52 (fun r28 w30 H locs hp29 hw => ?_)
        obtain ⟨rfl, hg32⟩ := hp29
        rcases hg32 with rfl | rfl
        · refine lv_if_eq (tgt := 65) hx hb dX12_doneBy_55 (by decide) (fun _ => ?_) (fun c => absurd (by decide) c)
          refine lv_iconst (v := 0) hx hb dX12_doneBy_65 (by decide) ?_
          refine lv_ior hx hb dX12_doneBy_66 ?_
          refine lv_topi (fun x33 ex33 => ?_)
          have bx33 : 0 ≤ x33.toInt ∧ x33.toInt < 64 := by rw [ex33]; exact wk_or 6 (by decide) (by omega) (by omega) (by decide) (by decide)
          have mx33 : v5_3.toInt ≤ x33.toInt ∧ (0 : Int) ≤ x33.toInt := by rw [ex33]; exact wk_orL 6 (by decide) (by omega) (by omega) (by decide) (by decide)
          refine lv_istore_n (lv' := [(3, .int x33), (0, .ref (ad 0)), (1, .int a1), (2, .int a2), (4, .int v5_4)]) hx hb dX12_doneBy_67 rfl hl (by decide) rfl (fun ls hl => ?_)
          obtain ⟨x34, ex34⟩ : ∃ y : Int32, y = v5_4 + Int32.ofInt 1 := ⟨_, rfl⟩
          refine lv_iinc (v := x34) (lv' := [(4, .int x34), (3, .int x33), (0, .ref (ad 0)), (1, .int a1), (2, .int a2)]) hx hb dX12_doneBy_68 hl (k := 4) rfl ex34.symm (by decide) rfl (fun ls hl => ?_)
          have ex34 : x34.toInt = v5_4.toInt + 1 := by rw [ex34]; exact wk_add (y := 1) (show -2147483648 ≤ v5_4.toInt + 1 by omega) (show v5_4.toInt + 1 ≤ 2147483647 by omega)
          refine lv_goto (tgt := 5) hx hb dX12_doneBy_71 (by decide) ?_
          exact ih5 x33 x34 H locs ls  (show 0 ≤ a1.toInt by omega) (show a1.toInt ≤ 6 by omega) (show 0 ≤ a2.toInt by omega) (show a2.toInt ≤ 4095 by omega) (show 0 ≤ x33.toInt by omega) (show x33.toInt ≤ 63 by omega) (show 0 ≤ x34.toInt by omega) (show x34.toInt ≤ 6 by omega) (show (6 - x34.toInt).toNat < n5 by omega) hw   (lv_sub hl [2, 3, 4, 1, 0] rfl)
        · refine lv_if_eq (tgt := 65) hx hb dX12_doneBy_55 (by decide) (fun c => absurd c (by decide)) (fun _ => ?_)
          refine lv_iconst (v := 1) hx hb dX12_doneBy_58 (by decide) ?_
          refine lv_iload hx hb dX12_doneBy_59 (lv_at hl 4 rfl) ?_
          refine lv_ishl hx hb dX12_doneBy_61 ?_
          refine lv_topi (fun x35 ex35 => ?_)
          have bx35 : 1 ≤ x35.toInt ∧ x35.toInt ≤ 32 := by rw [ex35]; exact wk_shl1 5 (by decide) (by omega) (by omega)
          refine lv_goto (tgt := 66) hx hb dX12_doneBy_62 (by decide) ?_
          refine lv_ior hx hb dX12_doneBy_66 ?_
          refine lv_topi (fun x36 ex36 => ?_)
          have bx36 : 0 ≤ x36.toInt ∧ x36.toInt < 64 := by rw [ex36]; exact wk_or 6 (by decide) (by omega) (by omega) (by omega) (by omega)
          have mx36 : v5_3.toInt ≤ x36.toInt ∧ x35.toInt ≤ x36.toInt := by rw [ex36]; exact wk_orL 6 (by decide) (by omega) (by omega) (by omega) (by omega)
          refine lv_istore_n (lv' := [(3, .int x36), (0, .ref (ad 0)), (1, .int a1), (2, .int a2), (4, .int v5_4)]) hx hb dX12_doneBy_67 rfl hl (by decide) rfl (fun ls hl => ?_)
          obtain ⟨x37, ex37⟩ : ∃ y : Int32, y = v5_4 + Int32.ofInt 1 := ⟨_, rfl⟩
          refine lv_iinc (v := x37) (lv' := [(4, .int x37), (3, .int x36), (0, .ref (ad 0)), (1, .int a1), (2, .int a2)]) hx hb dX12_doneBy_68 hl (k := 4) rfl ex37.symm (by decide) rfl (fun ls hl => ?_)
          have ex37 : x37.toInt = v5_4.toInt + 1 := by rw [ex37]; exact wk_add (y := 1) (show -2147483648 ≤ v5_4.toInt + 1 by omega) (show v5_4.toInt + 1 ≤ 2147483647 by omega)
          refine lv_goto (tgt := 5) hx hb dX12_doneBy_71 (by decide) ?_
          exact ih5 x36 x37 H locs ls  (show 0 ≤ a1.toInt by omega) (show a1.toInt ≤ 6 by omega) (show 0 ≤ a2.toInt by omega) (show a2.toInt ≤ 4095 by omega) (show 0 ≤ x36.toInt by omega) (show x36.toInt ≤ 63 by omega) (show 0 ≤ x37.toInt by omega) (show x37.toInt ≤ 6 by omega) (show (6 - x37.toInt).toNat < n5 by omega) hw   (lv_sub hl [2, 3, 4, 1, 0] rfl)
  refine lv_iconst (v := 0) hx hb dX12_doneBy_0 (by decide) ?_
  refine lv_istore_n (lv' := [(3, .int 0), (0, .ref (ad 0)), (1, .int a1), (2, .int a2)]) hx hb dX12_doneBy_1 rfl hl (by decide) rfl (fun ls hl => ?_)
  refine lv_iconst (v := 0) hx hb dX12_doneBy_2 (by decide) ?_
  refine lv_istore (lv' := [(4, .int 0), (3, .int 0), (0, .ref (ad 0)), (1, .int a1), (2, .int a2)]) hx hb dX12_doneBy_3 hl (by decide) rfl (fun ls hl => ?_)
  exact L5 ((6 - (0 : Int)).toNat + 1) 0 0 s.heap locs ls  (show 0 ≤ a1.toInt by omega) (show a1.toInt ≤ 6 by omega) (show 0 ≤ a2.toInt by omega) (show a2.toInt ≤ 4095 by omega) (by decide) (by decide) (by decide) (by decide) (Nat.lt_succ_self _) hw   (lv_sub hl [2, 3, 4, 1, 0] rfl)
abbrev P_X12_ways_1 (ad : Nat → Nat) (cy : Nat → ClassId) (B : Int) (qr : Nat) (s1 : Int) (a1 : Int32) (a2 : Int32) (w0 : va_W) : Int32 → va_W → Prop := fun r u => TW ksM ad cy B qr 12 u ∧ FE ksM [(79, 0, 64)] w0 u ∧ ((r = (-2) ∧ 0 ≤ a1.toInt ∧ a1.toInt ≤ 6 ∧ 0 ≤ a2.toInt ∧ a2.toInt ≤ 0 ∧ (∃ y : Int32, gi u 12 0 = y ∧ 1 ≤ y.toInt ∧ y.toInt ≤ 10)) ∨ (0 ≤ r.toInt ∧ r.toInt ≤ 4095 ∧ 0 ≤ a1.toInt ∧ a1.toInt ≤ 6 ∧ (∃ y : Int32, gi u 12 0 = y ∧ 1 ≤ y.toInt ∧ y.toInt ≤ 10)) ∨ (r = (-1)))
set_option maxHeartbeats 4000000 in
set_option maxRecDepth 100000 in
theorem k_X12_ways_1 (l : Launch) (adK adV : Nat → Nat) (dC : Nat → ClassId) (dI : Nat → Nat → Nat) (cy : Nat → ClassId) (ad : Nat → Nat) (B : Int) (hB0 : 100000 ≤ B) (hB1 : B ≤ 1073741824) (qr : Nat) (s1 : Int)  (a1 : Int32) (a2 : Int32) (w0 : va_W) (sz : Nat) (hT : TW ksM ad cy B qr 12 w0)  : Met l yX12_ways wsX12_ways ({ frames := 4, cells := 0, slots := 0, locals := 86 }) (va_Pc [.ref (ad 0), .int a1, .int a2] (wpreS adK adV dC dI cy sz w0)) (va_Qi (P_X12_ways_1 ad cy B qr s1 a1 a2 w0) (fun u : va_W => wpost dC dI cy (va_A w0 sz) u) (va_A w0 sz)) 0 0 (va_A w0 sz) := by
  refine Met.ofW (cc := cX12_ways) (maxL := 7) (ret := (some .int)) (by decide) rfl ?_
  intro p e s m args below meth c s₁ Bk hml hv
  obtain ⟨rfl, ⟨hsz, hP, hK, hD0⟩, hE, hSR⟩ := hv
  have hx := Bk.exec
  have hb := Bk.bytes
  have hr := Bk.returns
  have hlocks := Bk.notSynchronized
  have hC : CallFix p m c cX12_ways 7 s _ wsX12_ways RX12 := ⟨hx, hb, hml, findClass_of_methodNamed Bk.named, atoms_spec (ws := wsX12_ways) Bk.pre⟩
  subst hsz
  have hD := hD0.self (sz := s.heap.size)
  generalize hAe : va_A w0 s.heap.size = A at hD hE ⊢
  have hA : ∀ q : Nat, s.heap.size ≤ q → A q := fun q h => by rw [← hAe]; exact Or.inr h
  have hw : Wd dC dI A s.heap s.heap [] w0 := ⟨hP, hD, va_S.rf⟩
  have hF : FE ksM [(79, 0, 64)] w0 w0 := FE.rf
  have hl := lv_entry ([.ref (ad 0), .int a1, .int a2]) (n := 7) (Nat.le_of_ble_eq_true rfl)
  rw [lg_entry_eq]
  generalize (lg_sl ([.ref (ad 0), .int a1, .int a2]) ++ List.replicate (7 - (lg_sl ([.ref (ad 0), .int a1, .int a2])).length) Slot.unset).toArray = ls at hl ⊢
  have hl : lv_has ls 7 [(0, .ref (ad 0)), (1, .int a1), (2, .int a2)] := hl
  generalize hloc : ([] : List Loc) = locs at hw ⊢
  have hinX12 : ∀ w ∈ u_ws RX12 TX12 42, w ∈ wsX12_ways := fun _ h => List.mem_cons_of_mem _ (List.mem_append_right _ (h))
  have J29 : ∀ (f29_12_0 : Int32) (H : Heap) (locs : List Loc) (ls : Array Slot) (w1 : va_W), 0 ≤ f29_12_0.toInt → f29_12_0.toInt ≤ 10 → Wd dC dI A s.heap H locs w1 → TW ksM ad cy B qr 12 w1 → FE ksM [(79, 0, 64)] w0 w1 → gi w1 12 0 = f29_12_0 → lv_has ls 7 [(0, .ref (ad 0)), (1, .int a1), (2, .int a2)] → W p l e ({ frames := 4, cells := 0, slots := 0, locals := 86 }) s m (List.toArray [.ref (ad 0), .int a1, .int a2]) below meth c H locs 0 0 (MQ below (va_Qi (P_X12_ways_1 ad cy B qr s1 a1 a2 w0) (fun u : va_W => wpost dC dI cy A u) A) (List.toArray [.ref (ad 0), .int a1, .int a2]) s 0 0 A) (F0 m 29 ls []) := by
    intro f29_12_0 H locs ls w1 r2 t3 hw hT hF c4 hl
    refine lv_iconst (v := (-1)) hx hb dX12_ways_29 (by decide) ?_
    exact tk_iret hC hr hlocks hK ⟨hT, hF, (Or.inr (Or.inr rfl))⟩ hw dX12_ways_30
  have L177 : ∀ (n177 : Nat) (v177_3 : Int32) (v177_4 : Int32) (v177_5 : Int32) (v177_6 : Int32) (f177_12_0 : Int32) (f177_12_1 : Int32) (f177_12_6 : Int32) (H : Heap) (locs : List Loc) (ls : Array Slot) (w5 : va_W), 0 ≤ a1.toInt → a1.toInt ≤ 6 → 0 ≤ v177_3.toInt → v177_3.toInt ≤ 12 → 0 ≤ v177_4.toInt → v177_4.toInt ≤ 63 → 0 ≤ v177_5.toInt → v177_5.toInt ≤ 63 → 0 ≤ v177_6.toInt → v177_6.toInt ≤ 63 → 1 ≤ f177_12_0.toInt → f177_12_0.toInt ≤ 10 → 0 ≤ f177_12_1.toInt → f177_12_1.toInt ≤ 12 → 0 ≤ f177_12_6.toInt → f177_12_6.toInt ≤ 6 → (v177_6.toInt - 0).toNat < n177 → Wd dC dI A s.heap H locs w5 → TW ksM ad cy B qr 12 w5 → FE ksM [(79, 0, 64)] w0 w5 → gi w5 12 0 = f177_12_0 → gi w5 12 1 = f177_12_1 → gi w5 12 6 = f177_12_6 → lv_has ls 7 [(0, .ref (ad 0)), (1, .int a1), (2, .int 1), (3, .int v177_3), (4, .int v177_4), (5, .int v177_5), (6, .int v177_6)] → W p l e ({ frames := 4, cells := 0, slots := 0, locals := 86 }) s m (List.toArray [.ref (ad 0), .int a1, .int a2]) below meth c H locs 0 0 (MQ below (va_Qi (P_X12_ways_1 ad cy B qr s1 a1 a2 w0) (fun u : va_W => wpost dC dI cy A u) A) (List.toArray [.ref (ad 0), .int a1, .int a2]) s 0 0 A) (F0 m 177 ls []) := by
    intro n177
    induction n177 with
    | zero => intro v177_3 v177_4 v177_5 v177_6 f177_12_0 f177_12_1 f177_12_6 H locs ls w5 r6 t7 r8 t9 r10 t11 r12 t13 r14 t15 r16 t17 r19 t20 r22 t23 hm177 hw hT hF c18 c21 c24 hl; omega
    | succ n177 ih177 =>
      intro v177_3 v177_4 v177_5 v177_6 f177_12_0 f177_12_1 f177_12_6 H locs ls w5 r6 t7 r8 t9 r10 t11 r12 t13 r14 t15 r16 t17 r19 t20 r22 t23 hm177 hw hT hF c18 c21 c24 hl
      have J210 : ∀ (v210_5 : Int32) (H : Heap) (locs : List Loc) (ls : Array Slot) (w25 : va_W), 0 ≤ a1.toInt → a1.toInt ≤ 6 → 0 ≤ v177_3.toInt → v177_3.toInt ≤ 12 → 0 ≤ v177_4.toInt → v177_4.toInt ≤ 63 → 0 ≤ v210_5.toInt → v210_5.toInt ≤ 63 → 1 ≤ v177_6.toInt → v177_6.toInt ≤ 63 → 1 ≤ f177_12_0.toInt → f177_12_0.toInt ≤ 10 → 0 ≤ f177_12_1.toInt → f177_12_1.toInt ≤ 12 → 0 ≤ f177_12_6.toInt → f177_12_6.toInt ≤ 6 → Wd dC dI A s.heap H locs w25 → TW ksM ad cy B qr 12 w25 → FE ksM [(79, 0, 64)] w0 w25 → gi w25 12 0 = f177_12_0 → gi w25 12 1 = f177_12_1 → gi w25 12 6 = f177_12_6 → lv_has ls 7 [(0, .ref (ad 0)), (1, .int a1), (2, .int 1), (3, .int v177_3), (4, .int v177_4), (5, .int v210_5), (6, .int v177_6)] → W p l e ({ frames := 4, cells := 0, slots := 0, locals := 86 }) s m (List.toArray [.ref (ad 0), .int a1, .int a2]) below meth c H locs 0 0 (MQ below (va_Qi (P_X12_ways_1 ad cy B qr s1 a1 a2 w0) (fun u : va_W => wpost dC dI cy A u) A) (List.toArray [.ref (ad 0), .int a1, .int a2]) s 0 0 A) (F0 m 210 ls []) := by
        intro v210_5 H locs ls w25 r26 t27 r28 t29 r30 t31 r32 t33 r34 t35 r36 t37 r39 t40 r42 t43 hw hT hF c38 c41 c44 hl
        obtain ⟨x45, ex45⟩ : ∃ y : Int32, y = v177_6 + Int32.ofInt (-1) := ⟨_, rfl⟩
        refine lv_iinc (v := x45) (lv' := [(6, .int x45), (0, .ref (ad 0)), (1, .int a1), (2, .int 1), (3, .int v177_3), (4, .int v177_4), (5, .int v210_5)]) hx hb dX12_ways_210 hl (k := 6) rfl ex45.symm (by decide) rfl (fun ls hl => ?_)
        have ex45 : x45.toInt = v177_6.toInt + (-1) := by rw [ex45]; exact wk_add (y := (-1)) (show -2147483648 ≤ v177_6.toInt + (-1) by omega) (show v177_6.toInt + (-1) ≤ 2147483647 by omega)
        refine lv_goto (tgt := 177) hx hb dX12_ways_213 (by decide) ?_
        exact ih177 v177_3 v177_4 v210_5 x45 f177_12_0 f177_12_1 f177_12_6 H locs ls w25 (show 0 ≤ a1.toInt by omega) (show a1.toInt ≤ 6 by omega) (show 0 ≤ v177_3.toInt by omega) (show v177_3.toInt ≤ 12 by omega) (show 0 ≤ v177_4.toInt by omega) (show v177_4.toInt ≤ 63 by omega) (show 0 ≤ v210_5.toInt by omega) (show v210_5.toInt ≤ 63 by omega) (show 0 ≤ x45.toInt by omega) (show x45.toInt ≤ 63 by omega) (show 1 ≤ f177_12_0.toInt by omega) (show f177_12_0.toInt ≤ 10 by omega) (show 0 ≤ f177_12_1.toInt by omega) (show f177_12_1.toInt ≤ 12 by omega) (show 0 ≤ f177_12_6.toInt by omega) (show f177_12_6.toInt ≤ 6 by omega) (show (x45.toInt - 0).toNat < n177 by omega) hw hT hF c38 c41 c44 (lv_sub hl [1, 2, 3, 4, 5, 6, 0] rfl)
      refine lv_iload hx hb dX12_ways_177 (lv_at hl 6 rfl) ?_
      refine lv_if_le (tgt := 216) hx hb dX12_ways_179 (by decide) (fun c46 => ?_) (fun c46 => ?_)
      · have c46 : v177_6.toInt ≤ (0 : Int) := wk_le.mp c46
        refine lv_iload hx hb dX12_ways_216 (lv_at hl 5 rfl) ?_
        exact tk_iret hC hr hlocks hK ⟨hT, hF, (Or.inr (Or.inl ⟨(show 0 ≤ v177_5.toInt by omega), (show v177_5.toInt ≤ 4095 by omega), (show 0 ≤ a1.toInt by omega), (show a1.toInt ≤ 6 by omega), ⟨f177_12_0, c18, (show 1 ≤ f177_12_0.toInt by omega), (show f177_12_0.toInt ≤ 10 by omega)⟩⟩))⟩ hw dX12_ways_218
      · have c46 : (0 : Int) < v177_6.toInt := wk_leF c46
        refine lv_aload_n hx hb dX12_ways_182 rfl (lv_at hl 0 rfl) ?_
        refine lv_iload hx hb dX12_ways_183 (lv_at hl 6 rfl) ?_
        refine lv_iload hx hb dX12_ways_185 (lv_at hl 4 rfl) ?_
        refine tk_Vi hC hK hw hT hA hE hSR kM_at0 (by decide) rfl (k_X12_isClash_1 l adK adV dC dI cy ad B (by omega) (by omega) qr s1   v177_6 (show 1 ≤ v177_6.toInt by omega) (show v177_6.toInt ≤ 63 by omega) v177_4 (show 0 ≤ v177_4.toInt by omega) (show v177_4.toInt ≤ 63 by omega) w5 H.size hT ) (cwV 2 hC.2.2.2.2 gX12_ways_X12_isClash rfl rfl rfl (by decide +kernel) ⟨Nat.le_of_ble_eq_true rfl, Nat.le_of_ble_eq_true rfl⟩) rfl hl.1 rfl (Nat.le_of_ble_eq_true rfl) dX12_ways_187 (fun r47 w49 H locs hp48 hw => ?_)
        obtain ⟨rfl, hg51⟩ := hp48
        rcases hg51 with rfl | rfl
        · refine lv_if_eq (tgt := 210) hx hb dX12_ways_190 (by decide) (fun _ => ?_) (fun c => absurd (by decide) c)
          exact J210 v177_5 H locs ls w5 (show 0 ≤ a1.toInt by omega) (show a1.toInt ≤ 6 by omega) (show 0 ≤ v177_3.toInt by omega) (show v177_3.toInt ≤ 12 by omega) (show 0 ≤ v177_4.toInt by omega) (show v177_4.toInt ≤ 63 by omega) (show 0 ≤ v177_5.toInt by omega) (show v177_5.toInt ≤ 63 by omega) (show 1 ≤ v177_6.toInt by omega) (show v177_6.toInt ≤ 63 by omega) (show 1 ≤ f177_12_0.toInt by omega) (show f177_12_0.toInt ≤ 10 by omega) (show 0 ≤ f177_12_1.toInt by omega) (show f177_12_1.toInt ≤ 12 by omega) (show 0 ≤ f177_12_6.toInt by omega) (show f177_12_6.toInt ≤ 6 by omega)  hw hT hF c18 c21 c24 (lv_sub hl [0, 1, 2, 3, 4, 5, 6] rfl)
        · refine lv_if_eq (tgt := 210) hx hb dX12_ways_190 (by decide) (fun c => absurd c (by decide)) (fun _ => ?_)
          refine lv_iload hx hb dX12_ways_193 (lv_at hl 6 rfl) ?_
          refine tk_Si hC hK hw hT hA hE hSR (k_X12_bits_1 l adK adV dC dI cy ad B (by omega) (by omega) qr s1   v177_6 (show 1 ≤ v177_6.toInt by omega) (show v177_6.toInt ≤ 63 by omega) w5 H.size hT ) (va_cwS 1 hC.2.2.2.2 gX12_ways_X12_bits rfl rfl rfl (by decide +kernel) ⟨Nat.le_of_ble_eq_true rfl, Nat.le_of_ble_eq_true rfl⟩) rfl hl.1 rfl (Nat.le_of_ble_eq_true rfl) dX12_ways_195 (fun r52 w54 H locs hp53 hw => ?_)
          obtain ⟨rfl, hg56⟩ := hp53
          clear hg56
          refine lv_iload hx hb dX12_ways_198 (lv_at hl 5 rfl) ?_
          refine tk_Si hC hK hw hT hA hE hSR (k_X12_bits_2 l adK adV dC dI cy ad B (by omega) (by omega) qr s1   v177_5 (show 0 ≤ v177_5.toInt by omega) (show v177_5.toInt ≤ 63 by omega) w5 H.size hT ) (va_cwS 1 hC.2.2.2.2 gX12_ways_X12_bits rfl rfl rfl (by decide +kernel) ⟨Nat.le_of_ble_eq_true rfl, Nat.le_of_ble_eq_true rfl⟩) rfl hl.1 rfl (Nat.le_of_ble_eq_true rfl) dX12_ways_200 (fun r57 w59 H locs hp58 hw => ?_)
          obtain ⟨rfl, hg61⟩ := hp58
          clear hg61
          refine lv_icmp_gt (tgt := 210) hx hb dX12_ways_203 (by decide) (fun c62 => ?_) (fun c62 => ?_)
          · have c62 : r57.toInt < r52.toInt := wk_lt.mp c62
            exact J210 v177_5 H locs ls w5 (show 0 ≤ a1.toInt by omega) (show a1.toInt ≤ 6 by omega) (show 0 ≤ v177_3.toInt by omega) (show v177_3.toInt ≤ 12 by omega) (show 0 ≤ v177_4.toInt by omega) (show v177_4.toInt ≤ 63 by omega) (show 0 ≤ v177_5.toInt by omega) (show v177_5.toInt ≤ 63 by omega) (show 1 ≤ v177_6.toInt by omega) (show v177_6.toInt ≤ 63 by omega) (show 1 ≤ f177_12_0.toInt by omega) (show f177_12_0.toInt ≤ 10 by omega) (show 0 ≤ f177_12_1.toInt by omega) (show f177_12_1.toInt ≤ 12 by omega) (show 0 ≤ f177_12_6.toInt by omega) (show f177_12_6.toInt ≤ 6 by omega)  hw hT hF c18 c21 c24 (lv_sub hl [0, 1, 2, 3, 4, 5, 6] rfl)
          · have c62 : r52.toInt ≤ r57.toInt := wk_ltF c62
            refine lv_iload hx hb dX12_ways_206 (lv_at hl 6 rfl) ?_
            refine lv_istore (lv' := [(5, .int v177_6), (0, .ref (ad 0)), (1, .int a1), (2, .int 1), (3, .int v177_3), (4, .int v177_4), (6, .int v177_6)]) hx hb dX12_ways_208 hl (by decide) rfl (fun ls hl => ?_)
            exact J210 v177_6 H locs ls w5 (show 0 ≤ a1.toInt by omega) (show a1.toInt ≤ 6 by omega) (show 0 ≤ v177_3.toInt by omega) (show v177_3.toInt ≤ 12 by omega) (show 0 ≤ v177_4.toInt by omega) (show v177_4.toInt ≤ 63 by omega) (show 0 ≤ v177_6.toInt by omega) (show v177_6.toInt ≤ 63 by omega) (show 1 ≤ v177_6.toInt by omega) (show v177_6.toInt ≤ 63 by omega) (show 1 ≤ f177_12_0.toInt by omega) (show f177_12_0.toInt ≤ 10 by omega) (show 0 ≤ f177_12_1.toInt by omega) (show f177_12_1.toInt ≤ 12 by omega) (show 0 ≤ f177_12_6.toInt by omega) (show f177_12_6.toInt ≤ 6 by omega)  hw hT hF c18 c21 c24 (lv_sub hl [1, 2, 3, 4, 5, 0, 6] rfl)
  have L113 : ∀ (n113 : Nat) (v113_3 : Int32) (v113_4 : Int32) (v113_5 : Int32) (f113_12_0 : Int32) (f113_12_1 : Int32) (f113_12_6 : Int32) (H : Heap) (locs : List Loc) (ls : Array Slot) (w63 : va_W), 0 ≤ a1.toInt → a1.toInt ≤ 6 → 0 ≤ a2.toInt → a2.toInt ≤ 1 → 0 ≤ v113_3.toInt → v113_3.toInt ≤ 12 → 0 ≤ v113_4.toInt → v113_4.toInt ≤ 63 → 0 ≤ v113_5.toInt → v113_5.toInt ≤ 4096 → 1 ≤ f113_12_0.toInt → f113_12_0.toInt ≤ 10 → 0 ≤ f113_12_1.toInt → f113_12_1.toInt ≤ 12 → 0 ≤ f113_12_6.toInt → f113_12_6.toInt ≤ 6 → (4096 - v113_5.toInt).toNat < n113 → Wd dC dI A s.heap H locs w63 → TW ksM ad cy B qr 12 w63 → FE ksM [(79, 0, 64)] w0 w63 → gi w63 12 0 = f113_12_0 → gi w63 12 1 = f113_12_1 → gi w63 12 6 = f113_12_6 → lv_has ls 7 [(0, .ref (ad 0)), (1, .int a1), (2, .int a2), (3, .int v113_3), (4, .int v113_4), (5, .int v113_5)] → W p l e ({ frames := 4, cells := 0, slots := 0, locals := 86 }) s m (List.toArray [.ref (ad 0), .int a1, .int a2]) below meth c H locs 0 0 (MQ below (va_Qi (P_X12_ways_1 ad cy B qr s1 a1 a2 w0) (fun u : va_W => wpost dC dI cy A u) A) (List.toArray [.ref (ad 0), .int a1, .int a2]) s 0 0 A) (F0 m 113 ls []) := by
    intro n113
    induction n113 with
    | zero => intro v113_3 v113_4 v113_5 f113_12_0 f113_12_1 f113_12_6 H locs ls w63 r64 t65 r66 t67 r68 t69 r70 t71 r72 t73 r74 t75 r77 t78 r80 t81 hm113 hw hT hF c76 c79 c82 hl; omega
    | succ n113 ih113 =>
      intro v113_3 v113_4 v113_5 f113_12_0 f113_12_1 f113_12_6 H locs ls w63 r64 t65 r66 t67 r68 t69 r70 t71 r72 t73 r74 t75 r77 t78 r80 t81 hm113 hw hT hF c76 c79 c82 hl
      refine lv_iload hx hb dX12_ways_113 (lv_at hl 5 rfl) ?_
      refine lv_iconst (v := 1) hx hb dX12_ways_115 (by decide) ?_
      refine lv_iload_n hx hb dX12_ways_116 rfl (lv_at hl 3 rfl) ?_
      refine lv_ishl hx hb dX12_ways_117 ?_
      refine lv_topi (fun x83 ex83 => ?_)
      have bx83 : 1 ≤ x83.toInt ∧ x83.toInt ≤ 4096 := by rw [ex83]; exact wk_shl1 12 (by decide) (by omega) (by omega)
      refine lv_icmp_ge (tgt := 162) hx hb dX12_ways_118 (by decide) (fun c84 => ?_) (fun c84 => ?_)
      · have c84 : x83.toInt ≤ v113_5.toInt := wk_le.mp c84
        refine lv_iload_n hx hb dX12_ways_162 rfl (lv_at hl 2 rfl) ?_
        refine lv_if_ne (tgt := 169) hx hb dX12_ways_163 (by decide) (fun c85 => ?_) (fun c85 => ?_)
        · have c85 : ¬ a2.toInt = (0 : Int) := wk_eqF c85
          refine lv_iload hx hb dX12_ways_169 (lv_at hl 4 rfl) ?_
          refine lv_istore (lv' := [(5, .int v113_4), (0, .ref (ad 0)), (1, .int a1), (2, .int a2), (3, .int v113_3), (4, .int v113_4)]) hx hb dX12_ways_171 hl (by decide) rfl (fun ls hl => ?_)
          refine lv_iload hx hb dX12_ways_173 (lv_at hl 5 rfl) ?_
          refine lv_istore (lv' := [(6, .int v113_4), (5, .int v113_4), (0, .ref (ad 0)), (1, .int a1), (2, .int a2), (3, .int v113_3), (4, .int v113_4)]) hx hb dX12_ways_175 hl (by decide) rfl (fun ls hl => ?_)
          obtain rfl : a2 = 1 := wk_eq.mpr (show a2.toInt = 1 by omega)
          exact L177 ((v113_4.toInt - 0).toNat + 1) v113_3 v113_4 v113_4 v113_4 f113_12_0 f113_12_1 f113_12_6 H locs ls w63 (show 0 ≤ a1.toInt by omega) (show a1.toInt ≤ 6 by omega) (show 0 ≤ v113_3.toInt by omega) (show v113_3.toInt ≤ 12 by omega) (show 0 ≤ v113_4.toInt by omega) (show v113_4.toInt ≤ 63 by omega) (show 0 ≤ v113_4.toInt by omega) (show v113_4.toInt ≤ 63 by omega) (show 0 ≤ v113_4.toInt by omega) (show v113_4.toInt ≤ 63 by omega) (show 1 ≤ f113_12_0.toInt by omega) (show f113_12_0.toInt ≤ 10 by omega) (show 0 ≤ f113_12_1.toInt by omega) (show f113_12_1.toInt ≤ 12 by omega) (show 0 ≤ f113_12_6.toInt by omega) (show f113_12_6.toInt ≤ 6 by omega) (Nat.lt_succ_self _) hw hT hF c76 c79 c82 (lv_sub hl [2, 3, 4, 5, 6, 1, 0] rfl)
        · have c85 : a2.toInt = (0 : Int) := wk_eq.mp c85
          refine lv_bipush (v := (-2)) hx hb dX12_ways_166 (by decide) ?_
          exact tk_iret hC hr hlocks hK ⟨hT, hF, (Or.inl ⟨rfl, (show 0 ≤ a1.toInt by omega), (show a1.toInt ≤ 6 by omega), (show 0 ≤ a2.toInt by omega), (show a2.toInt ≤ 0 by omega), ⟨f113_12_0, c76, (show 1 ≤ f113_12_0.toInt by omega), (show f113_12_0.toInt ≤ 10 by omega)⟩⟩)⟩ hw dX12_ways_168
      · have c84 : v113_5.toInt < x83.toInt := wk_leF c84
        refine lv_aload_n hx hb dX12_ways_121 rfl (lv_at hl 0 rfl) ?_
        refine lv_iload_n hx hb dX12_ways_122 rfl (lv_at hl 1 rfl) ?_
        refine lv_iload hx hb dX12_ways_123 (lv_at hl 5 rfl) ?_
        refine tk_Vi hC hK hw hT hA hE hSR kM_at0 (by decide) rfl (k_X12_doneBy_1 l adK adV dC dI cy ad B (by omega) (by omega) qr s1   a1 (show 0 ≤ a1.toInt by omega) (show a1.toInt ≤ 6 by omega) v113_5 (show 0 ≤ v113_5.toInt by omega) (show v113_5.toInt ≤ 4095 by omega) w63 H.size hT ) (cwV 2 hC.2.2.2.2 gX12_ways_X12_doneBy rfl rfl rfl (by decide +kernel) ⟨Nat.le_of_ble_eq_true rfl, Nat.le_of_ble_eq_true rfl⟩) rfl hl.1 rfl (Nat.le_of_ble_eq_true rfl) dX12_ways_125 (fun r86 w88 H locs hp87 hw => ?_)
        obtain ⟨rfl, hg92⟩ := hp87
        obtain ⟨g90, g91⟩ := hg92
        refine lv_istore (lv' := [(6, .int r86), (0, .ref (ad 0)), (1, .int a1), (2, .int a2), (3, .int v113_3), (4, .int v113_4), (5, .int v113_5)]) hx hb dX12_ways_128 hl (by decide) rfl (fun ls hl => ?_)
        refine lv_iload hx hb dX12_ways_130 (lv_at hl 0 rfl) ?_
        refine lv_iload hx hb dX12_ways_132 (lv_at hl 5 rfl) ?_
        refine lv_icmp_ne (tgt := 148) hx hb dX12_ways_134 (by decide) (fun c93 => ?_) (fun c93 => ?_)
        · have c93 : ¬ r86.toInt = v113_4.toInt := wk_eqF c93
          refine lv_aload_n hx hb dX12_ways_148 rfl (lv_at hl 1 rfl) ?_
          refine tk_getA hC hK hw hT hinX12 kM_at0 (by decide) rfl 38 (by decide) (List.mem_of_getElem? (i := 3) rfl) rfl rfl dX12_ways_149 ?_
          refine lv_iload hx hb dX12_ways_152 (lv_at hl 0 rfl) ?_
          refine lv_iconst (v := 1) hx hb dX12_ways_154 (by decide) ?_
          refine tk_zast hC hK hw hT kM_at20 (by decide) rfl rfl (show 0 ≤ r86.toInt by omega) (show r86.toInt < 64 by omega) (by decide) (by decide) dX12_ways_155 (fun H locs w94 hw hT k96 c95 => ?_)
          have hF := hF.put kM_at20 (inE_of (a := 0) (b := 64) (by decide) (show 0 ≤ r86.toInt.toNat by omega) (show r86.toInt.toNat ≤ 64 by omega)) k96
          have c97 := k96.gi (Or.inl (tk_ne kM_at12 kM_at20 (by decide))) c76
          have c98 := k96.gi (Or.inl (tk_ne kM_at12 kM_at20 (by decide))) c79
          have c99 := k96.gi (Or.inl (tk_ne kM_at12 kM_at20 (by decide))) c82
          obtain ⟨x100, ex100⟩ : ∃ y : Int32, y = v113_5 + Int32.ofInt 1 := ⟨_, rfl⟩
          refine lv_iinc (v := x100) (lv' := [(5, .int x100), (6, .int r86), (0, .ref (ad 0)), (1, .int a1), (2, .int a2), (3, .int v113_3), (4, .int v113_4)]) hx hb dX12_ways_156 hl (k := 6) rfl ex100.symm (by decide) rfl (fun ls hl => ?_)
          have ex100 : x100.toInt = v113_5.toInt + 1 := by rw [ex100]; exact wk_add (y := 1) (show -2147483648 ≤ v113_5.toInt + 1 by omega) (show v113_5.toInt + 1 ≤ 2147483647 by omega)
          refine lv_goto (tgt := 113) hx hb dX12_ways_159 (by decide) ?_
          exact ih113 v113_3 v113_4 x100 f113_12_0 f113_12_1 f113_12_6 H locs ls w94 (show 0 ≤ a1.toInt by omega) (show a1.toInt ≤ 6 by omega) (show 0 ≤ a2.toInt by omega) (show a2.toInt ≤ 1 by omega) (show 0 ≤ v113_3.toInt by omega) (show v113_3.toInt ≤ 12 by omega) (show 0 ≤ v113_4.toInt by omega) (show v113_4.toInt ≤ 63 by omega) (show 0 ≤ x100.toInt by omega) (show x100.toInt ≤ 4096 by omega) (show 1 ≤ f113_12_0.toInt by omega) (show f113_12_0.toInt ≤ 10 by omega) (show 0 ≤ f113_12_1.toInt by omega) (show f113_12_1.toInt ≤ 12 by omega) (show 0 ≤ f113_12_6.toInt by omega) (show f113_12_6.toInt ≤ 6 by omega) (show (4096 - x100.toInt).toNat < n113 by omega) hw hT hF c97 c98 c99 (lv_sub hl [2, 3, 4, 5, 6, 0] rfl)
        · have c93 : r86.toInt = v113_4.toInt := wk_eq.mp c93
          refine lv_iload_n hx hb dX12_ways_137 rfl (lv_at hl 3 rfl) ?_
          refine lv_if_ne (tgt := 146) hx hb dX12_ways_138 (by decide) (fun c101 => ?_) (fun c101 => ?_)
          · have c101 : ¬ a2.toInt = (0 : Int) := wk_eqF c101
            refine lv_iconst (v := 0) hx hb dX12_ways_146 (by decide) ?_
            exact tk_iret hC hr hlocks hK ⟨hT, hF, (Or.inr (Or.inl ⟨(by decide), (by decide), (show 0 ≤ a1.toInt by omega), (show a1.toInt ≤ 6 by omega), ⟨f113_12_0, c76, (show 1 ≤ f113_12_0.toInt by omega), (show f113_12_0.toInt ≤ 10 by omega)⟩⟩))⟩ hw dX12_ways_147
          · have c101 : a2.toInt = (0 : Int) := wk_eq.mp c101
            refine lv_iload hx hb dX12_ways_141 (lv_at hl 6 rfl) ?_
            refine lv_goto (tgt := 147) hx hb dX12_ways_143 (by decide) ?_
            exact tk_iret hC hr hlocks hK ⟨hT, hF, (Or.inr (Or.inl ⟨(show 0 ≤ v113_5.toInt by omega), (show v113_5.toInt ≤ 4095 by omega), (show 0 ≤ a1.toInt by omega), (show a1.toInt ≤ 6 by omega), ⟨f113_12_0, c76, (show 1 ≤ f113_12_0.toInt by omega), (show f113_12_0.toInt ≤ 10 by omega)⟩⟩))⟩ hw dX12_ways_147
  have L89 : ∀ (n89 : Nat) (v89_3 : Int32) (v89_4 : Int32) (v89_5 : Int32) (f89_12_0 : Int32) (f89_12_1 : Int32) (f89_12_6 : Int32) (H : Heap) (locs : List Loc) (ls : Array Slot) (w102 : va_W), 0 ≤ a1.toInt → a1.toInt ≤ 6 → 0 ≤ a2.toInt → a2.toInt ≤ 1 → 0 ≤ v89_3.toInt → v89_3.toInt ≤ 12 → 0 ≤ v89_4.toInt → v89_4.toInt ≤ 63 → 0 ≤ v89_5.toInt → v89_5.toInt ≤ 64 → 1 ≤ f89_12_0.toInt → f89_12_0.toInt ≤ 10 → 0 ≤ f89_12_1.toInt → f89_12_1.toInt ≤ 12 → 0 ≤ f89_12_6.toInt → f89_12_6.toInt ≤ 6 → (64 - v89_5.toInt).toNat < n89 → Wd dC dI A s.heap H locs w102 → TW ksM ad cy B qr 12 w102 → FE ksM [(79, 0, 64)] w0 w102 → gi w102 12 0 = f89_12_0 → gi w102 12 1 = f89_12_1 → gi w102 12 6 = f89_12_6 → lv_has ls 7 [(0, .ref (ad 0)), (1, .int a1), (2, .int a2), (3, .int v89_3), (4, .int v89_4), (5, .int v89_5)] → W p l e ({ frames := 4, cells := 0, slots := 0, locals := 86 }) s m (List.toArray [.ref (ad 0), .int a1, .int a2]) below meth c H locs 0 0 (MQ below (va_Qi (P_X12_ways_1 ad cy B qr s1 a1 a2 w0) (fun u : va_W => wpost dC dI cy A u) A) (List.toArray [.ref (ad 0), .int a1, .int a2]) s 0 0 A) (F0 m 89 ls []) := by
    intro n89
    induction n89 with
    | zero => intro v89_3 v89_4 v89_5 f89_12_0 f89_12_1 f89_12_6 H locs ls w102 r103 t104 r105 t106 r107 t108 r109 t110 r111 t112 r113 t114 r116 t117 r119 t120 hm89 hw hT hF c115 c118 c121 hl; omega
    | succ n89 ih89 =>
      intro v89_3 v89_4 v89_5 f89_12_0 f89_12_1 f89_12_6 H locs ls w102 r103 t104 r105 t106 r107 t108 r109 t110 r111 t112 r113 t114 r116 t117 r119 t120 hm89 hw hT hF c115 c118 c121 hl
      refine lv_iload hx hb dX12_ways_89 (lv_at hl 5 rfl) ?_
      refine lv_bipush (v := 64) hx hb dX12_ways_91 (by decide) ?_
      refine lv_icmp_ge (tgt := 110) hx hb dX12_ways_93 (by decide) (fun c122 => ?_) (fun c122 => ?_)
      · have c122 : (64 : Int) ≤ v89_5.toInt := wk_le.mp c122
        refine lv_iconst (v := 0) hx hb dX12_ways_110 (by decide) ?_
        refine lv_istore (lv' := [(5, .int 0), (0, .ref (ad 0)), (1, .int a1), (2, .int a2), (3, .int v89_3), (4, .int v89_4)]) hx hb dX12_ways_111 hl (by decide) rfl (fun ls hl => ?_)
        exact L113 ((4096 - (0 : Int)).toNat + 1) v89_3 v89_4 0 f89_12_0 f89_12_1 f89_12_6 H locs ls w102 (show 0 ≤ a1.toInt by omega) (show a1.toInt ≤ 6 by omega) (show 0 ≤ a2.toInt by omega) (show a2.toInt ≤ 1 by omega) (show 0 ≤ v89_3.toInt by omega) (show v89_3.toInt ≤ 12 by omega) (show 0 ≤ v89_4.toInt by omega) (show v89_4.toInt ≤ 63 by omega) (by decide) (by decide) (show 1 ≤ f89_12_0.toInt by omega) (show f89_12_0.toInt ≤ 10 by omega) (show 0 ≤ f89_12_1.toInt by omega) (show f89_12_1.toInt ≤ 12 by omega) (show 0 ≤ f89_12_6.toInt by omega) (show f89_12_6.toInt ≤ 6 by omega) (Nat.lt_succ_self _) hw hT hF c115 c118 c121 (lv_sub hl [1, 2, 3, 4, 5, 0] rfl)
      · have c122 : v89_5.toInt < (64 : Int) := wk_leF c122
        refine lv_aload_n hx hb dX12_ways_96 rfl (lv_at hl 0 rfl) ?_
        refine tk_getA hC hK hw hT hinX12 kM_at0 (by decide) rfl 38 (by decide) (List.mem_of_getElem? (i := 3) rfl) rfl rfl dX12_ways_97 ?_
        refine lv_iload hx hb dX12_ways_100 (lv_at hl 5 rfl) ?_
        refine lv_iconst (v := 0) hx hb dX12_ways_102 (by decide) ?_
        refine tk_zast hC hK hw hT kM_at20 (by decide) rfl rfl (show 0 ≤ v89_5.toInt by omega) (show v89_5.toInt < 64 by omega) (by decide) (by decide) dX12_ways_103 (fun H locs w123 hw hT k125 c124 => ?_)
        have hF := hF.put kM_at20 (inE_of (a := 0) (b := 64) (by decide) (show 0 ≤ v89_5.toInt.toNat by omega) (show v89_5.toInt.toNat ≤ 64 by omega)) k125
        have c126 := k125.gi (Or.inl (tk_ne kM_at12 kM_at20 (by decide))) c115
        have c127 := k125.gi (Or.inl (tk_ne kM_at12 kM_at20 (by decide))) c118
        have c128 := k125.gi (Or.inl (tk_ne kM_at12 kM_at20 (by decide))) c121
        obtain ⟨x129, ex129⟩ : ∃ y : Int32, y = v89_5 + Int32.ofInt 1 := ⟨_, rfl⟩
        refine lv_iinc (v := x129) (lv' := [(5, .int x129), (0, .ref (ad 0)), (1, .int a1), (2, .int a2), (3, .int v89_3), (4, .int v89_4)]) hx hb dX12_ways_104 hl (k := 5) rfl ex129.symm (by decide) rfl (fun ls hl => ?_)
        have ex129 : x129.toInt = v89_5.toInt + 1 := by rw [ex129]; exact wk_add (y := 1) (show -2147483648 ≤ v89_5.toInt + 1 by omega) (show v89_5.toInt + 1 ≤ 2147483647 by omega)
        refine lv_goto (tgt := 89) hx hb dX12_ways_107 (by decide) ?_
        exact ih89 v89_3 v89_4 x129 f89_12_0 f89_12_1 f89_12_6 H locs ls w123 (show 0 ≤ a1.toInt by omega) (show a1.toInt ≤ 6 by omega) (show 0 ≤ a2.toInt by omega) (show a2.toInt ≤ 1 by omega) (show 0 ≤ v89_3.toInt by omega) (show v89_3.toInt ≤ 12 by omega) (show 0 ≤ v89_4.toInt by omega) (show v89_4.toInt ≤ 63 by omega) (show 0 ≤ x129.toInt by omega) (show x129.toInt ≤ 64 by omega) (show 1 ≤ f89_12_0.toInt by omega) (show f89_12_0.toInt ≤ 10 by omega) (show 0 ≤ f89_12_1.toInt by omega) (show f89_12_1.toInt ≤ 12 by omega) (show 0 ≤ f89_12_6.toInt by omega) (show f89_12_6.toInt ≤ 6 by omega) (show (64 - x129.toInt).toNat < n89 by omega) hw hT hF c126 c127 c128 (lv_sub hl [1, 2, 3, 4, 5, 0] rfl)
  have L36 : ∀ (n36 : Nat) (v36_3 : Int32) (v36_4 : Int32) (f36_12_0 : Int32) (H : Heap) (locs : List Loc) (ls : Array Slot) (w130 : va_W), 0 ≤ a1.toInt → a1.toInt ≤ 6 → 0 ≤ a2.toInt → a2.toInt ≤ 1 → 0 ≤ v36_3.toInt → v36_3.toInt ≤ 12 → 0 ≤ v36_4.toInt → v36_4.toInt ≤ 12 → 1 ≤ f36_12_0.toInt → f36_12_0.toInt ≤ 10 → v36_3.toInt ≤ v36_4.toInt + 0 → (12 - v36_4.toInt).toNat < n36 → Wd dC dI A s.heap H locs w130 → TW ksM ad cy B qr 12 w130 → FE ksM [(79, 0, 64)] w0 w130 → gi w130 12 0 = f36_12_0 → lv_has ls 7 [(0, .ref (ad 0)), (1, .int a1), (2, .int a2), (3, .int v36_3), (4, .int v36_4)] → W p l e ({ frames := 4, cells := 0, slots := 0, locals := 86 }) s m (List.toArray [.ref (ad 0), .int a1, .int a2]) below meth c H locs 0 0 (MQ below (va_Qi (P_X12_ways_1 ad cy B qr s1 a1 a2 w0) (fun u : va_W => wpost dC dI cy A u) A) (List.toArray [.ref (ad 0), .int a1, .int a2]) s 0 0 A) (F0 m 36 ls []) := by
    intro n36
    induction n36 with
    | zero => intro v36_3 v36_4 f36_12_0 H locs ls w130 r131 t132 r133 t134 r135 t136 r137 t138 r139 t140 i142 hm36 hw hT hF c141 hl; omega
    | succ n36 ih36 =>
      intro v36_3 v36_4 f36_12_0 H locs ls w130 r131 t132 r133 t134 r135 t136 r137 t138 r139 t140 i142 hm36 hw hT hF c141 hl
      refine lv_iload hx hb dX12_ways_36 (lv_at hl 4 rfl) ?_
      refine lv_aload_n hx hb dX12_ways_38 rfl (lv_at hl 0 rfl) ?_
      refine tk_getA hC hK hw hT hinX12 kM_at0 (by decide) rfl 26 (by decide) (List.mem_of_getElem? (i := 2) rfl) rfl rfl dX12_ways_39 ?_
      refine lv_iconst (v := 1) hx hb dX12_ways_42 (by decide) ?_
      refine tk_ialdR hC hK hw hT kM_at12 rfl (by decide) (by decide) dX12_ways_43 (fun x143 c144 Ex143 => ?_)
      have bx143 : 0 ≤ x143.toInt ∧ x143.toInt ≤ 12 := (tk_rg1 rfl).mp Ex143
      have c144 : gi w130 12 1 = x143 := c144
      refine lv_icmp_ge (tgt := 73) hx hb dX12_ways_44 (by decide) (fun c145 => ?_) (fun c145 => ?_)
      · have c145 : x143.toInt ≤ v36_4.toInt := wk_le.mp c145
        refine lv_iconst (v := 1) hx hb dX12_ways_73 (by decide) ?_
        refine lv_aload_n hx hb dX12_ways_74 rfl (lv_at hl 0 rfl) ?_
        refine tk_getA hC hK hw hT hinX12 kM_at0 (by decide) rfl 26 (by decide) (List.mem_of_getElem? (i := 2) rfl) rfl rfl dX12_ways_75 ?_
        refine lv_bipush (v := 6) hx hb dX12_ways_78 (by decide) ?_
        refine tk_ialdR hC hK hw hT kM_at12 rfl (by decide) (by decide) dX12_ways_80 (fun x146 c147 Ex146 => ?_)
        have bx146 := tk_rgI rfl 6 1 1 0 6 (by decide +kernel) ⟨0, by decide, by decide⟩ Ex146
        have c147 : gi w130 12 6 = x146 := c147
        refine lv_ishl hx hb dX12_ways_81 ?_
        refine lv_topi (fun x148 ex148 => ?_)
        have bx148 : 1 ≤ x148.toInt ∧ x148.toInt ≤ 64 := by rw [ex148]; exact wk_shl1 6 (by decide) (by omega) (by omega)
        refine lv_iconst (v := 1) hx hb dX12_ways_82 (by decide) ?_
        refine lv_isub hx hb dX12_ways_83 ?_
        refine lv_topi (fun x149 ex149 => ?_)
        have ex149 : x149.toInt = x148.toInt - (1 : Int) := by rw [ex149]; exact wk_sub (show (-2147483648) ≤ x148.toInt - (1 : Int) by omega) (show x148.toInt - (1 : Int) ≤ 2147483647 by omega)
        refine lv_istore (lv' := [(4, .int x149), (0, .ref (ad 0)), (1, .int a1), (2, .int a2), (3, .int v36_3)]) hx hb dX12_ways_84 hl (by decide) rfl (fun ls hl => ?_)
        refine lv_iconst (v := 0) hx hb dX12_ways_86 (by decide) ?_
        refine lv_istore (lv' := [(5, .int 0), (4, .int x149), (0, .ref (ad 0)), (1, .int a1), (2, .int a2), (3, .int v36_3)]) hx hb dX12_ways_87 hl (by decide) rfl (fun ls hl => ?_)
        exact L89 ((64 - (0 : Int)).toNat + 1) v36_3 x149 0 f36_12_0 x143 x146 H locs ls w130 (show 0 ≤ a1.toInt by omega) (show a1.toInt ≤ 6 by omega) (show 0 ≤ a2.toInt by omega) (show a2.toInt ≤ 1 by omega) (show 0 ≤ v36_3.toInt by omega) (show v36_3.toInt ≤ 12 by omega) (show 0 ≤ x149.toInt by omega) (show x149.toInt ≤ 63 by omega) (by decide) (by decide) (show 1 ≤ f36_12_0.toInt by omega) (show f36_12_0.toInt ≤ 10 by omega) (show 0 ≤ x143.toInt by omega) (show x143.toInt ≤ 12 by omega) (show 0 ≤ x146.toInt by omega) (show x146.toInt ≤ 6 by omega) (Nat.lt_succ_self _) hw hT hF c141 c144 c147 (lv_sub hl [2, 3, 4, 5, 1, 0] rfl)
      · have c145 : v36_4.toInt < x143.toInt := wk_leF c145
        refine lv_iload_n hx hb dX12_ways_47 rfl (lv_at hl 3 rfl) ?_
        refine lv_aload_n hx hb dX12_ways_48 rfl (lv_at hl 0 rfl) ?_
        refine lv_iload hx hb dX12_ways_49 (lv_at hl 4 rfl) ?_
        refine lv_iconst (v := 3) hx hb dX12_ways_51 (by decide) ?_
        refine lv_iload_n hx hb dX12_ways_52 rfl (lv_at hl 1 rfl) ?_
        refine lv_iadd hx hb dX12_ways_53 ?_
        refine lv_topi (fun x150 ex150 => ?_)
        have ex150 : x150.toInt = (3 : Int) + a1.toInt := by rw [ex150]; exact wk_add (show (-2147483648) ≤ (3 : Int) + a1.toInt by omega) (show (3 : Int) + a1.toInt ≤ 2147483647 by omega)
        refine tk_Vi hC hK hw hT hA hE hSR kM_at0 (by decide) rfl (k_X12_streetOf_4 l adK adV dC dI cy ad B (by omega) (by omega) qr s1   v36_4 (show 0 ≤ v36_4.toInt by omega) (show v36_4.toInt ≤ 11 by omega) x150 (show 3 ≤ x150.toInt by omega) (show x150.toInt ≤ 9 by omega) w130 H.size hT ) (cwV 2 hC.2.2.2.2 gX12_ways_X12_streetOf rfl rfl rfl (by decide +kernel) ⟨Nat.le_of_ble_eq_true rfl, Nat.le_of_ble_eq_true rfl⟩) rfl hl.1 rfl (Nat.le_of_ble_eq_true rfl) dX12_ways_54 (fun r151 w153 H locs hp152 hw => ?_)
        obtain ⟨rfl, hg157⟩ := hp152
        obtain ⟨g155, g156⟩ := hg157
        refine lv_if_ne (tgt := 64) hx hb dX12_ways_57 (by decide) (fun c158 => ?_) (fun c158 => ?_)
        · have c158 : ¬ r151.toInt = (0 : Int) := wk_eqF c158
          refine lv_iconst (v := 1) hx hb dX12_ways_64 (by decide) ?_
          refine lv_iadd hx hb dX12_ways_65 ?_
          refine lv_topi (fun x159 ex159 => ?_)
          have ex159 : x159.toInt = v36_3.toInt + (1 : Int) := by rw [ex159]; exact wk_add (show (-2147483648) ≤ v36_3.toInt + (1 : Int) by omega) (show v36_3.toInt + (1 : Int) ≤ 2147483647 by omega)
          refine lv_istore_n (lv' := [(3, .int x159), (0, .ref (ad 0)), (1, .int a1), (2, .int a2), (4, .int v36_4)]) hx hb dX12_ways_66 rfl hl (by decide) rfl (fun ls hl => ?_)
          obtain ⟨x160, ex160⟩ : ∃ y : Int32, y = v36_4 + Int32.ofInt 1 := ⟨_, rfl⟩
          refine lv_iinc (v := x160) (lv' := [(4, .int x160), (3, .int x159), (0, .ref (ad 0)), (1, .int a1), (2, .int a2)]) hx hb dX12_ways_67 hl (k := 4) rfl ex160.symm (by decide) rfl (fun ls hl => ?_)
          have ex160 : x160.toInt = v36_4.toInt + 1 := by rw [ex160]; exact wk_add (y := 1) (show -2147483648 ≤ v36_4.toInt + 1 by omega) (show v36_4.toInt + 1 ≤ 2147483647 by omega)
          refine lv_goto (tgt := 36) hx hb dX12_ways_70 (by decide) ?_
          exact ih36 x159 x160 f36_12_0 H locs ls w130 (show 0 ≤ a1.toInt by omega) (show a1.toInt ≤ 6 by omega) (show 0 ≤ a2.toInt by omega) (show a2.toInt ≤ 1 by omega) (show 0 ≤ x159.toInt by omega) (show x159.toInt ≤ 12 by omega) (show 0 ≤ x160.toInt by omega) (show x160.toInt ≤ 12 by omega) (show 1 ≤ f36_12_0.toInt by omega) (show f36_12_0.toInt ≤ 10 by omega) (show x159.toInt ≤ x160.toInt + 0 by omega) (show (12 - x160.toInt).toNat < n36 by omega) hw hT hF c141 (lv_sub hl [2, 3, 4, 1, 0] rfl)
        · have c158 : r151.toInt = (0 : Int) := wk_eq.mp c158
          refine lv_iconst (v := 0) hx hb dX12_ways_60 (by decide) ?_
          refine lv_goto (tgt := 65) hx hb dX12_ways_61 (by decide) ?_
          refine lv_iadd hx hb dX12_ways_65 ?_
          refine lv_topi (fun x161 ex161 => ?_)
          have ex161 : x161.toInt = v36_3.toInt + (0 : Int) := by rw [ex161]; exact wk_add (show (-2147483648) ≤ v36_3.toInt + (0 : Int) by omega) (show v36_3.toInt + (0 : Int) ≤ 2147483647 by omega)
          refine lv_istore_n (lv' := [(3, .int x161), (0, .ref (ad 0)), (1, .int a1), (2, .int a2), (4, .int v36_4)]) hx hb dX12_ways_66 rfl hl (by decide) rfl (fun ls hl => ?_)
          obtain ⟨x162, ex162⟩ : ∃ y : Int32, y = v36_4 + Int32.ofInt 1 := ⟨_, rfl⟩
          refine lv_iinc (v := x162) (lv' := [(4, .int x162), (3, .int x161), (0, .ref (ad 0)), (1, .int a1), (2, .int a2)]) hx hb dX12_ways_67 hl (k := 4) rfl ex162.symm (by decide) rfl (fun ls hl => ?_)
          have ex162 : x162.toInt = v36_4.toInt + 1 := by rw [ex162]; exact wk_add (y := 1) (show -2147483648 ≤ v36_4.toInt + 1 by omega) (show v36_4.toInt + 1 ≤ 2147483647 by omega)
          refine lv_goto (tgt := 36) hx hb dX12_ways_70 (by decide) ?_
          exact ih36 x161 x162 f36_12_0 H locs ls w130 (show 0 ≤ a1.toInt by omega) (show a1.toInt ≤ 6 by omega) (show 0 ≤ a2.toInt by omega) (show a2.toInt ≤ 1 by omega) (show 0 ≤ x161.toInt by omega) (show x161.toInt ≤ 12 by omega) (show 0 ≤ x162.toInt by omega) (show x162.toInt ≤ 12 by omega) (show 1 ≤ f36_12_0.toInt by omega) (show f36_12_0.toInt ≤ 10 by omega) (show x161.toInt ≤ x162.toInt + 0 by omega) (show (12 - x162.toInt).toNat < n36 by omega) hw hT hF c141 (lv_sub hl [2, 3, 4, 1, 0] rfl)
  refine lv_aload_n hx hb dX12_ways_0 rfl (lv_at hl 0 rfl) ?_
  refine tk_Vi hC hK hw hT hA hE hSR kM_at0 (by decide) rfl (k_X12_isTown_1 l adK adV dC dI cy ad B (by omega) (by omega) qr s1    w0 s.heap.size hT ) (cwV 0 hC.2.2.2.2 gX12_ways_X12_isTown rfl rfl rfl (by decide +kernel) ⟨Nat.le_of_ble_eq_true rfl, Nat.le_of_ble_eq_true rfl⟩) rfl hl.1 rfl (Nat.le_of_ble_eq_true rfl) dX12_ways_1 (fun r163 w165 H locs hp164 hw => ?_)
  obtain ⟨rfl, hg171⟩ := hp164
  rcases hg171 with ⟨rfl, ⟨x167, c168, rx167, tx167⟩⟩ | ⟨rfl, ⟨x169, c170, rx169, tx169⟩⟩
  · refine lv_if_eq (tgt := 29) hx hb dX12_ways_4 (by decide) (fun _ => ?_) (fun c => absurd (by decide) c)
    exact J29 x167 H locs ls w0 (show 0 ≤ x167.toInt by omega) (show x167.toInt ≤ 10 by omega)  hw hT hF c168 (lv_sub hl [0, 1, 2] rfl)
  · refine lv_if_eq (tgt := 29) hx hb dX12_ways_4 (by decide) (fun c => absurd c (by decide)) (fun _ => ?_)
    refine lv_iload_n hx hb dX12_ways_7 rfl (lv_at hl 1 rfl) ?_
    refine lv_i2l hx hb dX12_ways_8 rfl ?_
    refine lv_topl (fun x172 ex172 => ?_)
    have ex172 : x172.toInt = a1.toInt := by rw [ex172]; exact wk_i2l _
    have bx172 := wk_i32 a1
    refine lv_lconst (v := 0) hx hb dX12_ways_9 (by decide) ?_
    refine lv_ldc2 (v := 6) hx hb hC.2.2.2.1 (hC.2.2.2.2 _ (List.mem_of_getElem? (i := 1) rfl)) dX12_ways_10 ?_
    refine tk_Si hC hK hw hT hA hE hSR (k_X12_in_10 l adK adV dC dI cy ad B (by omega) (by omega) qr s1   x172 (show (-2147483648) ≤ x172.toInt by omega) (show x172.toInt ≤ 2147483647 by omega) w0 H.size hT ) (va_cwS 3 hC.2.2.2.2 gX12_ways_X12_in rfl rfl rfl (by decide +kernel) ⟨Nat.le_of_ble_eq_true rfl, Nat.le_of_ble_eq_true rfl⟩) rfl hl.1 rfl (Nat.le_of_ble_eq_true rfl) dX12_ways_13 (fun r173 w175 H locs hp174 hw => ?_)
    obtain ⟨rfl, hg179⟩ := hp174
    rcases hg179 with rfl | ⟨rfl, g177, g178⟩
    · refine lv_if_eq (tgt := 29) hx hb dX12_ways_16 (by decide) (fun _ => ?_) (fun c => absurd (by decide) c)
      exact J29 x169 H locs ls w0 (show 0 ≤ x169.toInt by omega) (show x169.toInt ≤ 10 by omega)  hw hT hF c170 (lv_sub hl [0, 1, 2] rfl)
    · refine lv_if_eq (tgt := 29) hx hb dX12_ways_16 (by decide) (fun c => absurd c (by decide)) (fun _ => ?_)
      refine lv_iload_n hx hb dX12_ways_19 rfl (lv_at hl 2 rfl) ?_
      refine lv_i2l hx hb dX12_ways_20 rfl ?_
      refine lv_topl (fun x180 ex180 => ?_)
      have ex180 : x180.toInt = a2.toInt := by rw [ex180]; exact wk_i2l _
      have bx180 := wk_i32 a2
      refine lv_lconst (v := 0) hx hb dX12_ways_21 (by decide) ?_
      refine lv_lconst (v := 1) hx hb dX12_ways_22 (by decide) ?_
      refine tk_Si hC hK hw hT hA hE hSR (k_X12_in_12 l adK adV dC dI cy ad B (by omega) (by omega) qr s1   x180 (show (-2147483648) ≤ x180.toInt by omega) (show x180.toInt ≤ 2147483647 by omega) w0 H.size hT ) (va_cwS 3 hC.2.2.2.2 gX12_ways_X12_in rfl rfl rfl (by decide +kernel) ⟨Nat.le_of_ble_eq_true rfl, Nat.le_of_ble_eq_true rfl⟩) rfl hl.1 rfl (Nat.le_of_ble_eq_true rfl) dX12_ways_23 (fun r181 w183 H locs hp182 hw => ?_)
      obtain ⟨rfl, hg187⟩ := hp182
      rcases hg187 with rfl | ⟨rfl, g185, g186⟩
      · refine lv_if_ne (tgt := 31) hx hb dX12_ways_26 (by decide) (fun c => absurd (by decide) c) (fun _ => ?_)
        exact J29 x169 H locs ls w0 (show 0 ≤ x169.toInt by omega) (show x169.toInt ≤ 10 by omega)  hw hT hF c170 (lv_sub hl [0, 1, 2] rfl)
      · refine lv_if_ne (tgt := 31) hx hb dX12_ways_26 (by decide) (fun _ => ?_) (fun c => absurd c (by decide))
        refine lv_iconst (v := 0) hx hb dX12_ways_31 (by decide) ?_
        refine lv_istore_n (lv' := [(3, .int 0), (0, .ref (ad 0)), (1, .int a1), (2, .int a2)]) hx hb dX12_ways_32 rfl hl (by decide) rfl (fun ls hl => ?_)
        refine lv_iconst (v := 0) hx hb dX12_ways_33 (by decide) ?_
        refine lv_istore (lv' := [(4, .int 0), (3, .int 0), (0, .ref (ad 0)), (1, .int a1), (2, .int a2)]) hx hb dX12_ways_34 hl (by decide) rfl (fun ls hl => ?_)
        exact L36 ((12 - (0 : Int)).toNat + 1) 0 0 x169 H locs ls w0 (show 0 ≤ a1.toInt by omega) (show a1.toInt ≤ 6 by omega) (show 0 ≤ a2.toInt by omega) (show a2.toInt ≤ 1 by omega) (by decide) (by decide) (by decide) (by decide) (show 1 ≤ x169.toInt by omega) (show x169.toInt ≤ 10 by omega) (show (0 : Int) ≤ (0 : Int) + 0 by omega) (Nat.lt_succ_self _) hw hT hF c170 (lv_sub hl [2, 3, 4, 1, 0] rfl)
abbrev P_X12_sight_1 (ad : Nat → Nat) (cy : Nat → ClassId) (B : Int) (qr : Nat) (s1 : Int) (a1 : Int32) (a2 : Int32) (w0 : va_W) : Int32 → va_W → Prop := fun r u => TW ksM ad cy B qr 12 u ∧ FE ksM [(71, 7, 7), (71, 264, 286), (71, 265, 287)] w0 u ∧ ((r = (-2)) ∨ (0 ≤ r.toInt ∧ r.toInt ≤ 12 ∧ (-1) ≤ a1.toInt ∧ a1.toInt ≤ 11 ∧ (∃ y : Int32, gi u 12 7 = y ∧ 0 ≤ y.toInt ∧ y.toInt ≤ 12)))
set_option maxHeartbeats 4000000 in
set_option maxRecDepth 100000 in
theorem k_X12_sight_1 (l : Launch) (adK adV : Nat → Nat) (dC : Nat → ClassId) (dI : Nat → Nat → Nat) (cy : Nat → ClassId) (ad : Nat → Nat) (B : Int) (hB0 : 100000 ≤ B) (hB1 : B ≤ 1073741824) (qr : Nat) (s1 : Int)  (a1 : Int32) (a2 : Int32) (w0 : va_W) (sz : Nat) (hT : TW ksM ad cy B qr 12 w0)  : Met l yX12_sight wsX12_sight ({ frames := 2, cells := 0, slots := 0, locals := 37 }) (va_Pc [.ref (ad 0), .int a1, .int a2] (wpreS adK adV dC dI cy sz w0)) (va_Qi (P_X12_sight_1 ad cy B qr s1 a1 a2 w0) (fun u : va_W => wpost dC dI cy (va_A w0 sz) u) (va_A w0 sz)) 0 0 (va_A w0 sz) := by
  refine Met.ofW (cc := cX12_sight) (maxL := 3) (ret := (some .int)) (by decide) rfl ?_
  intro p e s m args below meth c s₁ Bk hml hv
  obtain ⟨rfl, ⟨hsz, hP, hK, hD0⟩, hE, hSR⟩ := hv
  have hx := Bk.exec
  have hb := Bk.bytes
  have hr := Bk.returns
  have hlocks := Bk.notSynchronized
  have hC : CallFix p m c cX12_sight 3 s _ wsX12_sight RX12 := ⟨hx, hb, hml, findClass_of_methodNamed Bk.named, atoms_spec (ws := wsX12_sight) Bk.pre⟩
  subst hsz
  have hD := hD0.self (sz := s.heap.size)
  generalize hAe : va_A w0 s.heap.size = A at hD hE ⊢
  have hA : ∀ q : Nat, s.heap.size ≤ q → A q := fun q h => by rw [← hAe]; exact Or.inr h
  have hw : Wd dC dI A s.heap s.heap [] w0 := ⟨hP, hD, va_S.rf⟩
  have hF : FE ksM [(71, 7, 7), (71, 264, 286), (71, 265, 287)] w0 w0 := FE.rf
  have hl := lv_entry ([.ref (ad 0), .int a1, .int a2]) (n := 3) (Nat.le_of_ble_eq_true rfl)
  rw [lg_entry_eq]
  generalize (lg_sl ([.ref (ad 0), .int a1, .int a2]) ++ List.replicate (3 - (lg_sl ([.ref (ad 0), .int a1, .int a2])).length) Slot.unset).toArray = ls at hl ⊢
  have hl : lv_has ls 3 [(0, .ref (ad 0)), (1, .int a1), (2, .int a2)] := hl
  generalize hloc : ([] : List Loc) = locs at hw ⊢
  have hinX12 : ∀ w ∈ u_ws RX12 TX12 42, w ∈ wsX12_sight := fun _ h => List.mem_cons_of_mem _ (List.mem_append_right _ (h))
  have J47 : ∀ (H : Heap) (locs : List Loc) (ls : Array Slot) (w1 : va_W), Wd dC dI A s.heap H locs w1 → TW ksM ad cy B qr 12 w1 → FE ksM [(71, 7, 7), (71, 264, 286), (71, 265, 287)] w0 w1 → lv_has ls 3 [(0, .ref (ad 0)), (1, .int a1), (2, .int a2)] → W p l e ({ frames := 2, cells := 0, slots := 0, locals := 37 }) s m (List.toArray [.ref (ad 0), .int a1, .int a2]) below meth c H locs 0 0 (MQ below (va_Qi (P_X12_sight_1 ad cy B qr s1 a1 a2 w0) (fun u : va_W => wpost dC dI cy A u) A) (List.toArray [.ref (ad 0), .int a1, .int a2]) s 0 0 A) (F0 m 47 ls []) := by
    intro H locs ls w1 hw hT hF hl
    refine lv_bipush (v := (-2)) hx hb dX12_sight_47 (by decide) ?_
    exact tk_iret hC hr hlocks hK ⟨hT, hF, (Or.inl rfl)⟩ hw dX12_sight_49
  refine lv_iload_n hx hb dX12_sight_0 rfl (lv_at hl 1 rfl) ?_
  refine lv_iconst (v := (-1)) hx hb dX12_sight_1 (by decide) ?_
  refine lv_icmp_ne (tgt := 15) hx hb dX12_sight_2 (by decide) (fun c2 => ?_) (fun c2 => ?_)
  · have c2 : ¬ a1.toInt = (-1 : Int) := wk_eqF c2
    refine lv_aload_n hx hb dX12_sight_15 rfl (lv_at hl 0 rfl) ?_
    refine lv_iload_n hx hb dX12_sight_16 rfl (lv_at hl 1 rfl) ?_
    refine tk_Vi hC hK hw hT hA hE hSR kM_at0 (by decide) rfl (k_X12_isStreet_1 l adK adV dC dI cy ad B (by omega) (by omega) qr s1   a1 w0 s.heap.size hT ) (cwV 1 hC.2.2.2.2 gX12_sight_X12_isStreet rfl rfl rfl (by decide +kernel) ⟨Nat.le_of_ble_eq_true rfl, Nat.le_of_ble_eq_true rfl⟩) rfl hl.1 rfl (Nat.le_of_ble_eq_true rfl) dX12_sight_17 (fun r3 w5 H locs hp4 hw => ?_)
    obtain ⟨rfl, hg11⟩ := hp4
    rcases hg11 with rfl | ⟨rfl, g7, g8, ⟨x9, c10, rx9, tx9⟩⟩
    · refine lv_if_eq (tgt := 47) hx hb dX12_sight_20 (by decide) (fun _ => ?_) (fun c => absurd (by decide) c)
      exact J47  H locs ls w0   hw hT hF  (lv_sub hl [0, 1, 2] rfl)
    · refine lv_if_eq (tgt := 47) hx hb dX12_sight_20 (by decide) (fun c => absurd c (by decide)) (fun _ => ?_)
      refine lv_iload_n hx hb dX12_sight_23 rfl (lv_at hl 2 rfl) ?_
      refine lv_i2l hx hb dX12_sight_24 rfl ?_
      refine lv_topl (fun x12 ex12 => ?_)
      have ex12 : x12.toInt = a2.toInt := by rw [ex12]; exact wk_i2l _
      have bx12 := wk_i32 a2
      refine lv_lconst (v := 0) hx hb dX12_sight_25 (by decide) ?_
      refine lv_ldc2 (v := 3) hx hb hC.2.2.2.1 (hC.2.2.2.2 _ (List.mem_of_getElem? (i := 2) rfl)) dX12_sight_26 ?_
      refine tk_Si hC hK hw hT hA hE hSR (k_X12_in_11 l adK adV dC dI cy ad B (by omega) (by omega) qr s1   x12 (show (-2147483648) ≤ x12.toInt by omega) (show x12.toInt ≤ 2147483647 by omega) w0 H.size hT ) (va_cwS 3 hC.2.2.2.2 gX12_sight_X12_in rfl rfl rfl (by decide +kernel) ⟨Nat.le_of_ble_eq_true rfl, Nat.le_of_ble_eq_true rfl⟩) rfl hl.1 rfl (Nat.le_of_ble_eq_true rfl) dX12_sight_29 (fun r13 w15 H locs hp14 hw => ?_)
      obtain ⟨rfl, hg19⟩ := hp14
      rcases hg19 with rfl | ⟨rfl, g17, g18⟩
      · refine lv_if_eq (tgt := 47) hx hb dX12_sight_32 (by decide) (fun _ => ?_) (fun c => absurd (by decide) c)
        exact J47  H locs ls w0   hw hT hF  (lv_sub hl [0, 1, 2] rfl)
      · refine lv_if_eq (tgt := 47) hx hb dX12_sight_32 (by decide) (fun c => absurd c (by decide)) (fun _ => ?_)
        refine lv_aload_n hx hb dX12_sight_35 rfl (lv_at hl 0 rfl) ?_
        refine tk_getA hC hK hw hT hinX12 kM_at0 (by decide) rfl 26 (by decide) (List.mem_of_getElem? (i := 1) rfl) rfl rfl dX12_sight_36 ?_
        refine lv_bipush (v := 7) hx hb dX12_sight_39 (by decide) ?_
        refine tk_ialdR hC hK hw hT kM_at12 rfl (by decide) (by decide) dX12_sight_41 (fun x20 c21 Ex20 => ?_)
        have bx20 := tk_rgI rfl 7 1 1 0 12 (by decide +kernel) ⟨0, by decide, by decide⟩ Ex20
        have c21 : gi w0 12 7 = x20 := c21
        refine lv_bipush (v := 12) hx hb dX12_sight_42 (by decide) ?_
        refine lv_icmp_ne (tgt := 50) hx hb dX12_sight_44 (by decide) (fun c22 => ?_) (fun c22 => ?_)
        · have c22 : ¬ x20.toInt = (12 : Int) := wk_eqF c22
          refine lv_aload_n hx hb dX12_sight_50 rfl (lv_at hl 0 rfl) ?_
          refine tk_getA hC hK hw hT hinX12 kM_at0 (by decide) rfl 26 (by decide) (List.mem_of_getElem? (i := 1) rfl) rfl rfl dX12_sight_51 ?_
          refine lv_sipush (v := 264) hx hb dX12_sight_54 (by decide) ?_
          refine lv_iconst (v := 2) hx hb dX12_sight_57 (by decide) ?_
          refine lv_aload_n hx hb dX12_sight_58 rfl (lv_at hl 0 rfl) ?_
          refine tk_getA hC hK hw hT hinX12 kM_at0 (by decide) rfl 26 (by decide) (List.mem_of_getElem? (i := 1) rfl) rfl rfl dX12_sight_59 ?_
          refine lv_bipush (v := 7) hx hb dX12_sight_62 (by decide) ?_
          refine tk_ialdR hC hK hw hT kM_at12 rfl (by decide) (by decide) dX12_sight_64 (fun x23 c24 Ex23 => ?_)
          refine wk_top x20 (c24.symm.trans c21) ?_
          refine lv_imul hx hb dX12_sight_65 ?_
          refine lv_topi (fun x25 ex25 => ?_)
          have ex25 : x25.toInt = (2 : Int) * x20.toInt := by rw [ex25]; exact wk_mul (show (-2147483648) ≤ (2 : Int) * x20.toInt by omega) (show (2 : Int) * x20.toInt ≤ 2147483647 by omega)
          refine lv_iadd hx hb dX12_sight_66 ?_
          refine lv_topi (fun x26 ex26 => ?_)
          have ex26 : x26.toInt = (264 : Int) + x25.toInt := by rw [ex26]; exact wk_add (show (-2147483648) ≤ (264 : Int) + x25.toInt by omega) (show (264 : Int) + x25.toInt ≤ 2147483647 by omega)
          refine lv_iload_n hx hb dX12_sight_67 rfl (lv_at hl 1 rfl) ?_
          refine tk_iastR hC hK hw hT kM_at12 (by decide) rfl (show 0 ≤ x26.toInt by omega) (show x26.toInt < 296 by omega) (tk_rgS rfl 264 2 12 0 11 (by decide +kernel) ⟨(x20.toInt - 0).toNat, by omega, show x26.toInt.toNat = 264 + 2 * (x20.toInt - 0).toNat by omega⟩ (show 0 ≤ a1.toInt by omega) (show a1.toInt ≤ 11 by omega)) dX12_sight_68 (fun H locs w27 hw hT k29 c28 => ?_)
          have hF := hF.put kM_at12 (inE_of (a := 264) (b := 286) (by decide) (show 264 ≤ x26.toInt.toNat by omega) (show x26.toInt.toNat ≤ 286 by omega)) k29
          have c30 := k29.gi (Or.inr (show 1 ≠ x26.toInt.toNat by omega)) c10
          have c31 := k29.gi (Or.inr (show 7 ≠ x26.toInt.toNat by omega)) c21
          refine lv_aload_n hx hb dX12_sight_69 rfl (lv_at hl 0 rfl) ?_
          refine tk_getA hC hK hw hT hinX12 kM_at0 (by decide) rfl 26 (by decide) (List.mem_of_getElem? (i := 1) rfl) rfl rfl dX12_sight_70 ?_
          refine lv_sipush (v := 264) hx hb dX12_sight_73 (by decide) ?_
          refine lv_iconst (v := 2) hx hb dX12_sight_76 (by decide) ?_
          refine lv_aload_n hx hb dX12_sight_77 rfl (lv_at hl 0 rfl) ?_
          refine tk_getA hC hK hw hT hinX12 kM_at0 (by decide) rfl 26 (by decide) (List.mem_of_getElem? (i := 1) rfl) rfl rfl dX12_sight_78 ?_
          refine lv_bipush (v := 7) hx hb dX12_sight_81 (by decide) ?_
          refine tk_ialdR hC hK hw hT kM_at12 rfl (by decide) (by decide) dX12_sight_83 (fun x32 c33 Ex32 => ?_)
          refine wk_top x20 (c33.symm.trans c31) ?_
          refine lv_imul hx hb dX12_sight_84 ?_
          refine lv_topi (fun x34 ex34 => ?_)
          have ex34 : x34.toInt = (2 : Int) * x20.toInt := by rw [ex34]; exact wk_mul (show (-2147483648) ≤ (2 : Int) * x20.toInt by omega) (show (2 : Int) * x20.toInt ≤ 2147483647 by omega)
          refine lv_iadd hx hb dX12_sight_85 ?_
          refine lv_topi (fun x35 ex35 => ?_)
          have ex35 : x35.toInt = (264 : Int) + x34.toInt := by rw [ex35]; exact wk_add (show (-2147483648) ≤ (264 : Int) + x34.toInt by omega) (show (264 : Int) + x34.toInt ≤ 2147483647 by omega)
          refine lv_iconst (v := 1) hx hb dX12_sight_86 (by decide) ?_
          refine lv_iadd hx hb dX12_sight_87 ?_
          refine lv_topi (fun x36 ex36 => ?_)
          have ex36 : x36.toInt = x35.toInt + (1 : Int) := by rw [ex36]; exact wk_add (show (-2147483648) ≤ x35.toInt + (1 : Int) by omega) (show x35.toInt + (1 : Int) ≤ 2147483647 by omega)
          refine lv_iload_n hx hb dX12_sight_88 rfl (lv_at hl 2 rfl) ?_
          refine tk_iastR hC hK hw hT kM_at12 (by decide) rfl (show 0 ≤ x36.toInt by omega) (show x36.toInt < 296 by omega) (tk_rgS rfl 265 2 12 0 3 (by decide +kernel) ⟨(x20.toInt - 0).toNat, by omega, show x36.toInt.toNat = 265 + 2 * (x20.toInt - 0).toNat by omega⟩ (show 0 ≤ a2.toInt by omega) (show a2.toInt ≤ 3 by omega)) dX12_sight_89 (fun H locs w37 hw hT k39 c38 => ?_)
          have hF := hF.put kM_at12 (inE_of (a := 265) (b := 287) (by decide) (show 265 ≤ x36.toInt.toNat by omega) (show x36.toInt.toNat ≤ 287 by omega)) k39
          have c40 := k39.gi (Or.inr (show 1 ≠ x36.toInt.toNat by omega)) c30
          have c41 := k39.gi (Or.inr (show 7 ≠ x36.toInt.toNat by omega)) c31
          refine lv_aload_n hx hb dX12_sight_90 rfl (lv_at hl 0 rfl) ?_
          refine tk_getA hC hK hw hT hinX12 kM_at0 (by decide) rfl 26 (by decide) (List.mem_of_getElem? (i := 1) rfl) rfl rfl dX12_sight_91 ?_
          refine lv_bipush (v := 7) hx hb dX12_sight_94 (by decide) ?_
          refine lv_dup2_11 hx hb dX12_sight_96 rfl rfl ?_
          refine tk_ialdR hC hK hw hT kM_at12 rfl (by decide) (by decide) dX12_sight_97 (fun x42 c43 Ex42 => ?_)
          refine wk_top x20 (c43.symm.trans c41) ?_
          refine lv_iconst (v := 1) hx hb dX12_sight_98 (by decide) ?_
          refine lv_iadd hx hb dX12_sight_99 ?_
          refine lv_topi (fun x44 ex44 => ?_)
          have ex44 : x44.toInt = x20.toInt + (1 : Int) := by rw [ex44]; exact wk_add (show (-2147483648) ≤ x20.toInt + (1 : Int) by omega) (show x20.toInt + (1 : Int) ≤ 2147483647 by omega)
          refine tk_iastR hC hK hw hT kM_at12 (by decide) rfl (by decide) (by decide) (tk_rgS rfl 7 1 1 1 12 (by decide +kernel) ⟨0, by decide, by decide⟩ (show 1 ≤ x44.toInt by omega) (show x44.toInt ≤ 12 by omega)) dX12_sight_100 (fun H locs w45 hw hT k47 c46 => ?_)
          have hF := hF.put kM_at12 (inE_of (a := 7) (b := 7) (by decide) (by decide) (by decide)) k47
          have c48 := k47.gi (Or.inr (by decide)) c40
          have c46 : gi w45 12 7 = x44 := c46
          refine lv_aload_n hx hb dX12_sight_101 rfl (lv_at hl 0 rfl) ?_
          refine tk_getA hC hK hw hT hinX12 kM_at0 (by decide) rfl 26 (by decide) (List.mem_of_getElem? (i := 1) rfl) rfl rfl dX12_sight_102 ?_
          refine lv_bipush (v := 7) hx hb dX12_sight_105 (by decide) ?_
          refine tk_ialdR hC hK hw hT kM_at12 rfl (by decide) (by decide) dX12_sight_107 (fun x49 c50 Ex49 => ?_)
          refine wk_top x44 (c50.symm.trans c46) ?_
          exact tk_iret hC hr hlocks hK ⟨hT, hF, (Or.inr ⟨(show 0 ≤ x44.toInt by omega), (show x44.toInt ≤ 12 by omega), (show (-1) ≤ a1.toInt by omega), (show a1.toInt ≤ 11 by omega), ⟨x44, c46, (show 0 ≤ x44.toInt by omega), (show x44.toInt ≤ 12 by omega)⟩⟩)⟩ hw dX12_sight_108
        · have c22 : x20.toInt = (12 : Int) := wk_eq.mp c22
          exact J47  H locs ls w0   hw hT hF  (lv_sub hl [0, 1, 2] rfl)
  · have c2 : a1.toInt = (-1 : Int) := wk_eq.mp c2
    refine lv_aload_n hx hb dX12_sight_5 rfl (lv_at hl 0 rfl) ?_
    refine tk_getA hC hK hw hT hinX12 kM_at0 (by decide) rfl 26 (by decide) (List.mem_of_getElem? (i := 1) rfl) rfl rfl dX12_sight_6 ?_
    refine lv_bipush (v := 7) hx hb dX12_sight_9 (by decide) ?_
    refine lv_iconst (v := 0) hx hb dX12_sight_11 (by decide) ?_
    refine tk_iastR hC hK hw hT kM_at12 (by decide) rfl (by decide) (by decide) (tk_rg0 rfl (show 0 ≤ B by omega) (by decide)) dX12_sight_12 (fun H locs w51 hw hT k53 c52 => ?_)
    have hF := hF.put kM_at12 (inE_of (a := 7) (b := 7) (by decide) (by decide) (by decide)) k53
    have c52 : gi w51 12 7 = 0 := c52
    refine lv_iconst (v := 0) hx hb dX12_sight_13 (by decide) ?_
    exact tk_iret hC hr hlocks hK ⟨hT, hF, (Or.inr ⟨(by decide), (by decide), (show (-1) ≤ a1.toInt by omega), (show a1.toInt ≤ 11 by omega), ⟨0, c52, (by decide), (by decide)⟩⟩)⟩ hw dX12_sight_14
abbrev P_X12_isOf_8 (ad : Nat → Nat) (cy : Nat → ClassId) (B : Int) (qr : Nat) (s1 : Int) (a0 : Int32) (a1 : Int32) (w0 : va_W) : Int32 → va_W → Prop := fun r u => w0 = u ∧ ((r = 0) ∨ (r = 1))
set_option maxHeartbeats 4000000 in
set_option maxRecDepth 100000 in
theorem k_X12_isOf_8 (l : Launch) (adK adV : Nat → Nat) (dC : Nat → ClassId) (dI : Nat → Nat → Nat) (cy : Nat → ClassId) (ad : Nat → Nat) (B : Int) (hB0 : 100000 ≤ B) (hB1 : B ≤ 1073741824) (qr : Nat) (s1 : Int)  (a0 : Int32) (ra0 : 1 ≤ a0.toInt) (ta0 : a0.toInt ≤ 127) (a1 : Int32) (ra1 : 0 ≤ a1.toInt) (ta1 : a1.toInt ≤ 6) (w0 : va_W) (sz : Nat) (hT : TW ksM ad cy B qr 12 w0)  : Met l yX12_isOf wsX12_isOf ({ frames := 1, cells := 0, slots := 0, locals := 12 }) (va_Pc [.int a0, .int a1] (wpreS adK adV dC dI cy sz w0)) (va_Qi (P_X12_isOf_8 ad cy B qr s1 a0 a1 w0) (fun u : va_W => wpost dC dI cy (va_A w0 sz) u) (va_A w0 sz)) 0 0 (va_A w0 sz) := by
  refine Met.ofW (cc := cX12_isOf) (maxL := 2) (ret := (some .boolean)) (by decide) rfl ?_
  intro p e s m args below meth c s₁ Bk hml hv
  obtain ⟨rfl, ⟨hsz, hP, hK, hD0⟩, hE, hSR⟩ := hv
  have hx := Bk.exec
  have hb := Bk.bytes
  have hr := Bk.returns
  have hlocks := Bk.notSynchronized
  have hC : CallFix p m c cX12_isOf 2 s _ wsX12_isOf RX12 := ⟨hx, hb, hml, findClass_of_methodNamed Bk.named, atoms_spec (ws := wsX12_isOf) Bk.pre⟩
  subst hsz
  have hD := hD0.self (sz := s.heap.size)
  generalize hAe : va_A w0 s.heap.size = A at hD hE ⊢
  have hA : ∀ q : Nat, s.heap.size ≤ q → A q := fun q h => by rw [← hAe]; exact Or.inr h
  have hw : Wd dC dI A s.heap s.heap [] w0 := ⟨hP, hD, va_S.rf⟩
  have hF : FE ksM ([] : List (Nat × Nat × Nat)) w0 w0 := FE.rf
  have hl := lv_entry ([.int a0, .int a1]) (n := 2) (Nat.le_of_ble_eq_true rfl)
  rw [lg_entry_eq]
  generalize (lg_sl ([.int a0, .int a1]) ++ List.replicate (2 - (lg_sl ([.int a0, .int a1])).length) Slot.unset).toArray = ls at hl ⊢
  have hl : lv_has ls 2 [(0, .int a0), (1, .int a1)] := hl
  generalize hloc : ([] : List Loc) = locs at hw ⊢
  refine lv_iload_n hx hb dX12_isOf_0 rfl (lv_at hl 0 rfl) ?_
  refine lv_iload_n hx hb dX12_isOf_1 rfl (lv_at hl 1 rfl) ?_
  refine lv_ishr hx hb dX12_isOf_2 ?_
  refine lv_topi (fun x1 ex1 => ?_)
  have bx1 : 0 ≤ x1.toInt ∧ x1.toInt ≤ a0.toInt := by rw [ex1]; exact wk_shr (by omega)
  refine lv_iconst (v := 1) hx hb dX12_isOf_3 (by decide) ?_
  refine lv_iand hx hb dX12_isOf_4 ?_
  refine lv_topi (fun x2 ex2 => ?_)
  have bx2 : 0 ≤ x2.toInt ∧ x2.toInt ≤ (1 : Int) := by rw [ex2]; exact wk_and (by decide)
  refine lv_iconst (v := 1) hx hb dX12_isOf_5 (by decide) ?_
  refine lv_icmp_ne (tgt := 13) hx hb dX12_isOf_6 (by decide) (fun c3 => ?_) (fun c3 => ?_)
  · have c3 : ¬ x2.toInt = (1 : Int) := wk_eqF c3
    refine lv_iconst (v := 0) hx hb dX12_isOf_13 (by decide) ?_
    exact tk_zret hC hr rfl hlocks hK ⟨rfl, (Or.inl rfl)⟩ hw dX12_isOf_14
  · have c3 : x2.toInt = (1 : Int) := wk_eq.mp c3
    refine lv_iconst (v := 1) hx hb dX12_isOf_9 (by decide) ?_
    refine lv_goto (tgt := 14) hx hb dX12_isOf_10 (by decide) ?_
    exact tk_zret hC hr rfl hlocks hK ⟨rfl, (Or.inr rfl)⟩ hw dX12_isOf_14
abbrev P_X12_streetOf_10 (ad : Nat → Nat) (cy : Nat → ClassId) (B : Int) (qr : Nat) (s1 : Int) (a1 : Int32) (a2 : Int32) (w0 : va_W) : Int32 → va_W → Prop := fun r u => w0 = u ∧ ((0 ≤ r.toInt ∧ r.toInt ≤ 9))
set_option maxHeartbeats 4000000 in
set_option maxRecDepth 100000 in
theorem k_X12_streetOf_10 (l : Launch) (adK adV : Nat → Nat) (dC : Nat → ClassId) (dI : Nat → Nat → Nat) (cy : Nat → ClassId) (ad : Nat → Nat) (B : Int) (hB0 : 100000 ≤ B) (hB1 : B ≤ 1073741824) (qr : Nat) (s1 : Int)  (a1 : Int32) (ra1 : 1 ≤ a1.toInt) (ta1 : a1.toInt ≤ 11) (a2 : Int32) (ra2 : 3 ≤ a2.toInt) (ta2 : a2.toInt ≤ 9) (w0 : va_W) (sz : Nat) (hT : TW ksM ad cy B qr 12 w0)  : Met l yX12_streetOf wsX12_streetOf ({ frames := 1, cells := 0, slots := 0, locals := 12 }) (va_Pc [.ref (ad 0), .int a1, .int a2] (wpreS adK adV dC dI cy sz w0)) (va_Qi (P_X12_streetOf_10 ad cy B qr s1 a1 a2 w0) (fun u : va_W => wpost dC dI cy (va_A w0 sz) u) (va_A w0 sz)) 0 0 (va_A w0 sz) := by
  refine Met.ofW (cc := cX12_streetOf) (maxL := 3) (ret := (some .int)) (by decide) rfl ?_
  intro p e s m args below meth c s₁ Bk hml hv
  obtain ⟨rfl, ⟨hsz, hP, hK, hD0⟩, hE, hSR⟩ := hv
  have hx := Bk.exec
  have hb := Bk.bytes
  have hr := Bk.returns
  have hlocks := Bk.notSynchronized
  have hC : CallFix p m c cX12_streetOf 3 s _ wsX12_streetOf RX12 := ⟨hx, hb, hml, findClass_of_methodNamed Bk.named, atoms_spec (ws := wsX12_streetOf) Bk.pre⟩
  subst hsz
  have hD := hD0.self (sz := s.heap.size)
  generalize hAe : va_A w0 s.heap.size = A at hD hE ⊢
  have hA : ∀ q : Nat, s.heap.size ≤ q → A q := fun q h => by rw [← hAe]; exact Or.inr h
  have hw : Wd dC dI A s.heap s.heap [] w0 := ⟨hP, hD, va_S.rf⟩
  have hF : FE ksM ([] : List (Nat × Nat × Nat)) w0 w0 := FE.rf
  have hl := lv_entry ([.ref (ad 0), .int a1, .int a2]) (n := 3) (Nat.le_of_ble_eq_true rfl)
  rw [lg_entry_eq]
  generalize (lg_sl ([.ref (ad 0), .int a1, .int a2]) ++ List.replicate (3 - (lg_sl ([.ref (ad 0), .int a1, .int a2])).length) Slot.unset).toArray = ls at hl ⊢
  have hl : lv_has ls 3 [(0, .ref (ad 0)), (1, .int a1), (2, .int a2)] := hl
  generalize hloc : ([] : List Loc) = locs at hw ⊢
  have hinX12 : ∀ w ∈ u_ws RX12 TX12 42, w ∈ wsX12_streetOf := fun _ h => List.mem_cons_of_mem _ (List.mem_append_right _ (h))
  refine lv_aload_n hx hb dX12_streetOf_0 rfl (lv_at hl 0 rfl) ?_
  refine tk_getA hC hK hw hT hinX12 kM_at0 (by decide) rfl 26 (by decide) (List.mem_of_getElem? (i := 1) rfl) rfl rfl dX12_streetOf_1 ?_
  refine lv_bipush (v := 10) hx hb dX12_streetOf_4 (by decide) ?_
  refine lv_bipush (v := 10) hx hb dX12_streetOf_6 (by decide) ?_
  refine lv_iload_n hx hb dX12_streetOf_8 rfl (lv_at hl 1 rfl) ?_
  refine lv_imul hx hb dX12_streetOf_9 ?_
  refine lv_topi (fun x1 ex1 => ?_)
  have ex1 : x1.toInt = (10 : Int) * a1.toInt := by rw [ex1]; exact wk_mul (show (-2147483648) ≤ (10 : Int) * a1.toInt by omega) (show (10 : Int) * a1.toInt ≤ 2147483647 by omega)
  refine lv_iadd hx hb dX12_streetOf_10 ?_
  refine lv_topi (fun x2 ex2 => ?_)
  have ex2 : x2.toInt = (10 : Int) + x1.toInt := by rw [ex2]; exact wk_add (show (-2147483648) ≤ (10 : Int) + x1.toInt by omega) (show (10 : Int) + x1.toInt ≤ 2147483647 by omega)
  refine lv_iload_n hx hb dX12_streetOf_11 rfl (lv_at hl 2 rfl) ?_
  refine lv_iadd hx hb dX12_streetOf_12 ?_
  refine lv_topi (fun x3 ex3 => ?_)
  have ex3 : x3.toInt = x2.toInt + a2.toInt := by rw [ex3]; exact wk_add (show (-2147483648) ≤ x2.toInt + a2.toInt by omega) (show x2.toInt + a2.toInt ≤ 2147483647 by omega)
  refine tk_ialdR hC hK hw hT kM_at12 rfl (show 0 ≤ x3.toInt by omega) (show x3.toInt < 296 by omega) dX12_streetOf_13 (fun x4 c5 Ex4 => ?_)
  have c5 : gi w0 12 (x3.toInt).toNat = x4 := (congrArg (gi w0 12) (congrArg Int.toNat (show x3.toInt = x3.toInt by omega))).trans c5
  have bx4 := tk_rgI rfl 23 1 107 0 9 (by decide +kernel) ⟨(x3.toInt - 23).toNat, by omega, show x3.toInt.toNat = 23 + 1 * (x3.toInt - 23).toNat by omega⟩ Ex4
  exact tk_iret hC hr hlocks hK ⟨rfl, ⟨(show 0 ≤ x4.toInt by omega), (show x4.toInt ≤ 9 by omega)⟩⟩ hw dX12_streetOf_14
abbrev P_X12_mostAlike_1 (ad : Nat → Nat) (cy : Nat → ClassId) (B : Int) (qr : Nat) (s1 : Int) (a1 : Int32) (a2 : Int32) (w0 : va_W) : Int32 → va_W → Prop := fun r u => w0 = u ∧ ((0 ≤ r.toInt))
set_option maxHeartbeats 4000000 in
set_option maxRecDepth 100000 in
theorem k_X12_mostAlike_1 (l : Launch) (adK adV : Nat → Nat) (dC : Nat → ClassId) (dI : Nat → Nat → Nat) (cy : Nat → ClassId) (ad : Nat → Nat) (B : Int) (hB0 : 100000 ≤ B) (hB1 : B ≤ 1073741824) (qr : Nat) (s1 : Int)  (a1 : Int32) (ra1 : 1 ≤ a1.toInt) (ta1 : a1.toInt ≤ 11) (a2 : Int32) (ra2 : 1 ≤ a2.toInt) (ta2 : a2.toInt ≤ 127) (w0 : va_W) (sz : Nat) (hT : TW ksM ad cy B qr 12 w0)  : Met l yX12_mostAlike wsX12_mostAlike ({ frames := 2, cells := 0, slots := 0, locals := 34 }) (va_Pc [.ref (ad 0), .int a1, .int a2] (wpreS adK adV dC dI cy sz w0)) (va_Qi (P_X12_mostAlike_1 ad cy B qr s1 a1 a2 w0) (fun u : va_W => wpost dC dI cy (va_A w0 sz) u) (va_A w0 sz)) 0 0 (va_A w0 sz) := by
  refine Met.ofW (cc := cX12_mostAlike) (maxL := 7) (ret := (some .int)) (by decide) rfl ?_
  intro p e s m args below meth c s₁ Bk hml hv
  obtain ⟨rfl, ⟨hsz, hP, hK, hD0⟩, hE, hSR⟩ := hv
  have hx := Bk.exec
  have hb := Bk.bytes
  have hr := Bk.returns
  have hlocks := Bk.notSynchronized
  have hC : CallFix p m c cX12_mostAlike 7 s _ wsX12_mostAlike RX12 := ⟨hx, hb, hml, findClass_of_methodNamed Bk.named, atoms_spec (ws := wsX12_mostAlike) Bk.pre⟩
  subst hsz
  have hD := hD0.self (sz := s.heap.size)
  generalize hAe : va_A w0 s.heap.size = A at hD hE ⊢
  have hA : ∀ q : Nat, s.heap.size ≤ q → A q := fun q h => by rw [← hAe]; exact Or.inr h
  have hw : Wd dC dI A s.heap s.heap [] w0 := ⟨hP, hD, va_S.rf⟩
  have hF : FE ksM ([] : List (Nat × Nat × Nat)) w0 w0 := FE.rf
  have hl := lv_entry ([.ref (ad 0), .int a1, .int a2]) (n := 7) (Nat.le_of_ble_eq_true rfl)
  rw [lg_entry_eq]
  generalize (lg_sl ([.ref (ad 0), .int a1, .int a2]) ++ List.replicate (7 - (lg_sl ([.ref (ad 0), .int a1, .int a2])).length) Slot.unset).toArray = ls at hl ⊢
  have hl : lv_has ls 7 [(0, .ref (ad 0)), (1, .int a1), (2, .int a2)] := hl
  generalize hloc : ([] : List Loc) = locs at hw ⊢
  have L5 : ∀ (n5 : Nat) (v5_3 : Int32) (v5_4 : Int32) (H : Heap) (locs : List Loc) (ls : Array Slot), 1 ≤ a1.toInt → a1.toInt ≤ 11 → 1 ≤ a2.toInt → a2.toInt ≤ 127 → 0 ≤ v5_3.toInt → 0 ≤ v5_4.toInt → v5_4.toInt ≤ 4 → (4 - v5_4.toInt).toNat < n5 → Wd dC dI A s.heap H locs w0 → lv_has ls 7 [(0, .ref (ad 0)), (1, .int a1), (2, .int a2), (3, .int v5_3), (4, .int v5_4)] → W p l e ({ frames := 2, cells := 0, slots := 0, locals := 34 }) s m (List.toArray [.ref (ad 0), .int a1, .int a2]) below meth c H locs 0 0 (MQ below (va_Qi (P_X12_mostAlike_1 ad cy B qr s1 a1 a2 w0) (fun u : va_W => wpost dC dI cy A u) A) (List.toArray [.ref (ad 0), .int a1, .int a2]) s 0 0 A) (F0 m 5 ls []) := by
    intro n5
    induction n5 with
    | zero => intro v5_3 v5_4 H locs ls r1 t2 r3 t4 r5 r6 t7 hm5 hw hl; omega
    | succ n5 ih5 =>
      intro v5_3 v5_4 H locs ls r1 t2 r3 t4 r5 r6 t7 hm5 hw hl
      have L17 : ∀ (n17 : Nat) (v17_5 : Int32) (v17_6 : Int32) (H : Heap) (locs : List Loc) (ls : Array Slot), 1 ≤ a1.toInt → a1.toInt ≤ 11 → 1 ≤ a2.toInt → a2.toInt ≤ 127 → 0 ≤ v5_3.toInt → 0 ≤ v5_4.toInt → v5_4.toInt ≤ 3 → 0 ≤ v17_6.toInt → v17_6.toInt ≤ 7 → (7 - v17_6.toInt).toNat < n17 → Wd dC dI A s.heap H locs w0 → lv_has ls 7 [(0, .ref (ad 0)), (1, .int a1), (2, .int a2), (3, .int v5_3), (4, .int v5_4), (5, .int v17_5), (6, .int v17_6)] → W p l e ({ frames := 2, cells := 0, slots := 0, locals := 34 }) s m (List.toArray [.ref (ad 0), .int a1, .int a2]) below meth c H locs 0 0 (MQ below (va_Qi (P_X12_mostAlike_1 ad cy B qr s1 a1 a2 w0) (fun u : va_W => wpost dC dI cy A u) A) (List.toArray [.ref (ad 0), .int a1, .int a2]) s 0 0 A) (F0 m 17 ls []) := by
        intro n17
        induction n17 with
        | zero => intro v17_5 v17_6 H locs ls r8 t9 r10 t11 r12 r13 t14 r15 t16 hm17 hw hl; omega
        | succ n17 ih17 =>
          intro v17_5 v17_6 H locs ls r8 t9 r10 t11 r12 r13 t14 r15 t16 hm17 hw hl
          refine lv_iload hx hb dX12_mostAlike_17 (lv_at hl 6 rfl) ?_
          refine lv_bipush (v := 7) hx hb dX12_mostAlike_19 (by decide) ?_
          refine lv_icmp_ge (tgt := 63) hx hb dX12_mostAlike_21 (by decide) (fun c17 => ?_) (fun c17 => ?_)
          · have c17 : (7 : Int) ≤ v17_6.toInt := wk_le.mp c17
            refine lv_iload hx hb dX12_mostAlike_63 (lv_at hl 5 rfl) ?_
            refine lv_iload_n hx hb dX12_mostAlike_65 rfl (lv_at hl 3 rfl) ?_
            refine lv_icmp_le (tgt := 74) hx hb dX12_mostAlike_66 (by decide) (fun c18 => ?_) (fun c18 => ?_)
            · have c18 : v17_5.toInt ≤ v5_3.toInt := wk_le.mp c18
              refine lv_iload_n hx hb dX12_mostAlike_74 rfl (lv_at hl 3 rfl) ?_
              refine lv_istore_n (lv' := [(3, .int v5_3), (0, .ref (ad 0)), (1, .int a1), (2, .int a2), (4, .int v5_4), (5, .int v17_5), (6, .int v17_6)]) hx hb dX12_mostAlike_75 rfl hl (by decide) rfl (fun ls hl => ?_)
              obtain ⟨x19, ex19⟩ : ∃ y : Int32, y = v5_4 + Int32.ofInt 1 := ⟨_, rfl⟩
              refine lv_iinc (v := x19) (lv' := [(4, .int x19), (3, .int v5_3), (0, .ref (ad 0)), (1, .int a1), (2, .int a2), (5, .int v17_5), (6, .int v17_6)]) hx hb dX12_mostAlike_76 hl (k := 4) rfl ex19.symm (by decide) rfl (fun ls hl => ?_)
              have ex19 : x19.toInt = v5_4.toInt + 1 := by rw [ex19]; exact wk_add (y := 1) (show -2147483648 ≤ v5_4.toInt + 1 by omega) (show v5_4.toInt + 1 ≤ 2147483647 by omega)
              refine lv_goto (tgt := 5) hx hb dX12_mostAlike_79 (by decide) ?_
              exact ih5 v5_3 x19 H locs ls  (show 1 ≤ a1.toInt by omega) (show a1.toInt ≤ 11 by omega) (show 1 ≤ a2.toInt by omega) (show a2.toInt ≤ 127 by omega) (show 0 ≤ v5_3.toInt by omega) (show 0 ≤ x19.toInt by omega) (show x19.toInt ≤ 4 by omega) (show (4 - x19.toInt).toNat < n5 by omega) hw   (lv_sub hl [2, 3, 4, 1, 0] rfl)
            · have c18 : v5_3.toInt < v17_5.toInt := wk_leF c18
              refine lv_iload hx hb dX12_mostAlike_69 (lv_at hl 5 rfl) ?_
              refine lv_goto (tgt := 75) hx hb dX12_mostAlike_71 (by decide) ?_
              refine lv_istore_n (lv' := [(3, .int v17_5), (0, .ref (ad 0)), (1, .int a1), (2, .int a2), (4, .int v5_4), (5, .int v17_5), (6, .int v17_6)]) hx hb dX12_mostAlike_75 rfl hl (by decide) rfl (fun ls hl => ?_)
              obtain ⟨x20, ex20⟩ : ∃ y : Int32, y = v5_4 + Int32.ofInt 1 := ⟨_, rfl⟩
              refine lv_iinc (v := x20) (lv' := [(4, .int x20), (3, .int v17_5), (0, .ref (ad 0)), (1, .int a1), (2, .int a2), (5, .int v17_5), (6, .int v17_6)]) hx hb dX12_mostAlike_76 hl (k := 4) rfl ex20.symm (by decide) rfl (fun ls hl => ?_)
              have ex20 : x20.toInt = v5_4.toInt + 1 := by rw [ex20]; exact wk_add (y := 1) (show -2147483648 ≤ v5_4.toInt + 1 by omega) (show v5_4.toInt + 1 ≤ 2147483647 by omega)
              refine lv_goto (tgt := 5) hx hb dX12_mostAlike_79 (by decide) ?_
              exact ih5 v17_5 x20 H locs ls  (show 1 ≤ a1.toInt by omega) (show a1.toInt ≤ 11 by omega) (show 1 ≤ a2.toInt by omega) (show a2.toInt ≤ 127 by omega) (show 0 ≤ v17_5.toInt by omega) (show 0 ≤ x20.toInt by omega) (show x20.toInt ≤ 4 by omega) (show (4 - x20.toInt).toNat < n5 by omega) hw   (lv_sub hl [2, 3, 4, 1, 0] rfl)
          · have c17 : v17_6.toInt < (7 : Int) := wk_leF c17
            refine lv_iload hx hb dX12_mostAlike_24 (lv_at hl 5 rfl) ?_
            refine lv_iload_n hx hb dX12_mostAlike_26 rfl (lv_at hl 2 rfl) ?_
            refine lv_iload hx hb dX12_mostAlike_27 (lv_at hl 6 rfl) ?_
            refine tk_Si hC hK hw hT hA hE hSR (k_X12_isOf_8 l adK adV dC dI cy ad B (by omega) (by omega) qr s1   a2 (show 1 ≤ a2.toInt by omega) (show a2.toInt ≤ 127 by omega) v17_6 (show 0 ≤ v17_6.toInt by omega) (show v17_6.toInt ≤ 6 by omega) w0 H.size hT ) (va_cwS 2 hC.2.2.2.2 gX12_mostAlike_X12_isOf rfl rfl rfl (by decide +kernel) ⟨Nat.le_of_ble_eq_true rfl, Nat.le_of_ble_eq_true rfl⟩) rfl hl.1 rfl (Nat.le_of_ble_eq_true rfl) dX12_mostAlike_29 (fun r21 w23 H locs hp22 hw => ?_)
            obtain ⟨rfl, hg25⟩ := hp22
            rcases hg25 with rfl | rfl
            · refine lv_if_eq (tgt := 53) hx hb dX12_mostAlike_32 (by decide) (fun _ => ?_) (fun c => absurd (by decide) c)
              refine lv_iconst (v := 0) hx hb dX12_mostAlike_53 (by decide) ?_
              refine lv_iadd hx hb dX12_mostAlike_54 ?_
              have nx26 := wk_i32 v17_5
              refine lv_topi (fun x27 ex27 => ?_)
              have ex27 : x27.toInt = v17_5.toInt + (0 : Int) := by rw [ex27]; exact wk_add (show (-2147483648) ≤ v17_5.toInt + (0 : Int) by omega) (show v17_5.toInt + (0 : Int) ≤ 2147483647 by omega)
              refine lv_istore (lv' := [(5, .int x27), (0, .ref (ad 0)), (1, .int a1), (2, .int a2), (3, .int v5_3), (4, .int v5_4), (6, .int v17_6)]) hx hb dX12_mostAlike_55 hl (by decide) rfl (fun ls hl => ?_)
              obtain ⟨x28, ex28⟩ : ∃ y : Int32, y = v17_6 + Int32.ofInt 1 := ⟨_, rfl⟩
              refine lv_iinc (v := x28) (lv' := [(6, .int x28), (5, .int x27), (0, .ref (ad 0)), (1, .int a1), (2, .int a2), (3, .int v5_3), (4, .int v5_4)]) hx hb dX12_mostAlike_57 hl (k := 6) rfl ex28.symm (by decide) rfl (fun ls hl => ?_)
              have ex28 : x28.toInt = v17_6.toInt + 1 := by rw [ex28]; exact wk_add (y := 1) (show -2147483648 ≤ v17_6.toInt + 1 by omega) (show v17_6.toInt + 1 ≤ 2147483647 by omega)
              refine lv_goto (tgt := 17) hx hb dX12_mostAlike_60 (by decide) ?_
              exact ih17 x27 x28 H locs ls  (show 1 ≤ a1.toInt by omega) (show a1.toInt ≤ 11 by omega) (show 1 ≤ a2.toInt by omega) (show a2.toInt ≤ 127 by omega) (show 0 ≤ v5_3.toInt by omega) (show 0 ≤ v5_4.toInt by omega) (show v5_4.toInt ≤ 3 by omega) (show 0 ≤ x28.toInt by omega) (show x28.toInt ≤ 7 by omega) (show (7 - x28.toInt).toNat < n17 by omega) hw   (lv_sub hl [2, 3, 4, 5, 6, 1, 0] rfl)
            · refine lv_if_eq (tgt := 53) hx hb dX12_mostAlike_32 (by decide) (fun c => absurd c (by decide)) (fun _ => ?_)
              refine lv_aload_n hx hb dX12_mostAlike_35 rfl (lv_at hl 0 rfl) ?_
              refine lv_iload_n hx hb dX12_mostAlike_36 rfl (lv_at hl 1 rfl) ?_
              refine lv_iconst (v := 3) hx hb dX12_mostAlike_37 (by decide) ?_
              refine lv_iload hx hb dX12_mostAlike_38 (lv_at hl 6 rfl) ?_
              refine lv_iadd hx hb dX12_mostAlike_40 ?_
              refine lv_topi (fun x29 ex29 => ?_)
              have ex29 : x29.toInt = (3 : Int) + v17_6.toInt := by rw [ex29]; exact wk_add (show (-2147483648) ≤ (3 : Int) + v17_6.toInt by omega) (show (3 : Int) + v17_6.toInt ≤ 2147483647 by omega)
              refine tk_Vi hC hK hw hT hA hE hSR kM_at0 (by decide) rfl (k_X12_streetOf_10 l adK adV dC dI cy ad B (by omega) (by omega) qr s1   a1 (show 1 ≤ a1.toInt by omega) (show a1.toInt ≤ 11 by omega) x29 (show 3 ≤ x29.toInt by omega) (show x29.toInt ≤ 9 by omega) w0 H.size hT ) (cwV 2 hC.2.2.2.2 gX12_mostAlike_X12_streetOf rfl rfl rfl (by decide +kernel) ⟨Nat.le_of_ble_eq_true rfl, Nat.le_of_ble_eq_true rfl⟩) rfl hl.1 rfl (Nat.le_of_ble_eq_true rfl) dX12_mostAlike_41 (fun r30 w32 H locs hp31 hw => ?_)
              obtain ⟨rfl, hg36⟩ := hp31
              obtain ⟨g34, g35⟩ := hg36
              refine lv_iload hx hb dX12_mostAlike_44 (lv_at hl 4 rfl) ?_
              refine lv_icmp_ne (tgt := 53) hx hb dX12_mostAlike_46 (by decide) (fun c37 => ?_) (fun c37 => ?_)
              · have c37 : ¬ r30.toInt = v5_4.toInt := wk_eqF c37
                refine lv_iconst (v := 0) hx hb dX12_mostAlike_53 (by decide) ?_
                refine lv_iadd hx hb dX12_mostAlike_54 ?_
                have nx38 := wk_i32 v17_5
                refine lv_topi (fun x39 ex39 => ?_)
                have ex39 : x39.toInt = v17_5.toInt + (0 : Int) := by rw [ex39]; exact wk_add (show (-2147483648) ≤ v17_5.toInt + (0 : Int) by omega) (show v17_5.toInt + (0 : Int) ≤ 2147483647 by omega)
                refine lv_istore (lv' := [(5, .int x39), (0, .ref (ad 0)), (1, .int a1), (2, .int a2), (3, .int v5_3), (4, .int v5_4), (6, .int v17_6)]) hx hb dX12_mostAlike_55 hl (by decide) rfl (fun ls hl => ?_)
                obtain ⟨x40, ex40⟩ : ∃ y : Int32, y = v17_6 + Int32.ofInt 1 := ⟨_, rfl⟩
                refine lv_iinc (v := x40) (lv' := [(6, .int x40), (5, .int x39), (0, .ref (ad 0)), (1, .int a1), (2, .int a2), (3, .int v5_3), (4, .int v5_4)]) hx hb dX12_mostAlike_57 hl (k := 6) rfl ex40.symm (by decide) rfl (fun ls hl => ?_)
                have ex40 : x40.toInt = v17_6.toInt + 1 := by rw [ex40]; exact wk_add (y := 1) (show -2147483648 ≤ v17_6.toInt + 1 by omega) (show v17_6.toInt + 1 ≤ 2147483647 by omega)
                refine lv_goto (tgt := 17) hx hb dX12_mostAlike_60 (by decide) ?_
                exact ih17 x39 x40 H locs ls  (show 1 ≤ a1.toInt by omega) (show a1.toInt ≤ 11 by omega) (show 1 ≤ a2.toInt by omega) (show a2.toInt ≤ 127 by omega) (show 0 ≤ v5_3.toInt by omega) (show 0 ≤ v5_4.toInt by omega) (show v5_4.toInt ≤ 3 by omega) (show 0 ≤ x40.toInt by omega) (show x40.toInt ≤ 7 by omega) (show (7 - x40.toInt).toNat < n17 by omega) hw   (lv_sub hl [2, 3, 4, 5, 6, 1, 0] rfl)
              · have c37 : r30.toInt = v5_4.toInt := wk_eq.mp c37
                refine lv_iconst (v := 1) hx hb dX12_mostAlike_49 (by decide) ?_
                refine lv_goto (tgt := 54) hx hb dX12_mostAlike_50 (by decide) ?_
                refine lv_iadd hx hb dX12_mostAlike_54 ?_
                have nx41 := wk_i32 v17_5
                refine lv_topi (fun x42 ex42 => ?_)
                refine lv_istore (lv' := [(5, .int x42), (0, .ref (ad 0)), (1, .int a1), (2, .int a2), (3, .int v5_3), (4, .int v5_4), (6, .int v17_6)]) hx hb dX12_mostAlike_55 hl (by decide) rfl (fun ls hl => ?_)
                obtain ⟨x43, ex43⟩ : ∃ y : Int32, y = v17_6 + Int32.ofInt 1 := ⟨_, rfl⟩
                refine lv_iinc (v := x43) (lv' := [(6, .int x43), (5, .int x42), (0, .ref (ad 0)), (1, .int a1), (2, .int a2), (3, .int v5_3), (4, .int v5_4)]) hx hb dX12_mostAlike_57 hl (k := 6) rfl ex43.symm (by decide) rfl (fun ls hl => ?_)
                have ex43 : x43.toInt = v17_6.toInt + 1 := by rw [ex43]; exact wk_add (y := 1) (show -2147483648 ≤ v17_6.toInt + 1 by omega) (show v17_6.toInt + 1 ≤ 2147483647 by omega)
                refine lv_goto (tgt := 17) hx hb dX12_mostAlike_60 (by decide) ?_
                exact ih17 x42 x43 H locs ls  (show 1 ≤ a1.toInt by omega) (show a1.toInt ≤ 11 by omega) (show 1 ≤ a2.toInt by omega) (show a2.toInt ≤ 127 by omega) (show 0 ≤ v5_3.toInt by omega) (show 0 ≤ v5_4.toInt by omega) (show v5_4.toInt ≤ 3 by omega) (show 0 ≤ x43.toInt by omega) (show x43.toInt ≤ 7 by omega) (show (7 - x43.toInt).toNat < n17 by omega) hw   (lv_sub hl [2, 3, 4, 5, 6, 1, 0] rfl)
      refine lv_iload hx hb dX12_mostAlike_5 (lv_at hl 4 rfl) ?_
      refine lv_iconst (v := 4) hx hb dX12_mostAlike_7 (by decide) ?_
      refine lv_icmp_ge (tgt := 82) hx hb dX12_mostAlike_8 (by decide) (fun c44 => ?_) (fun c44 => ?_)
      · have c44 : (4 : Int) ≤ v5_4.toInt := wk_le.mp c44
        refine lv_iload_n hx hb dX12_mostAlike_82 rfl (lv_at hl 3 rfl) ?_
        exact tk_iret hC hr hlocks hK ⟨rfl, (show 0 ≤ v5_3.toInt by omega)⟩ hw dX12_mostAlike_83
      · have c44 : v5_4.toInt < (4 : Int) := wk_leF c44
        refine lv_iconst (v := 0) hx hb dX12_mostAlike_11 (by decide) ?_
        refine lv_istore (lv' := [(5, .int 0), (0, .ref (ad 0)), (1, .int a1), (2, .int a2), (3, .int v5_3), (4, .int v5_4)]) hx hb dX12_mostAlike_12 hl (by decide) rfl (fun ls hl => ?_)
        refine lv_iconst (v := 0) hx hb dX12_mostAlike_14 (by decide) ?_
        refine lv_istore (lv' := [(6, .int 0), (5, .int 0), (0, .ref (ad 0)), (1, .int a1), (2, .int a2), (3, .int v5_3), (4, .int v5_4)]) hx hb dX12_mostAlike_15 hl (by decide) rfl (fun ls hl => ?_)
        exact L17 ((7 - (0 : Int)).toNat + 1) 0 0 H locs ls  (show 1 ≤ a1.toInt by omega) (show a1.toInt ≤ 11 by omega) (show 1 ≤ a2.toInt by omega) (show a2.toInt ≤ 127 by omega) (show 0 ≤ v5_3.toInt by omega) (show 0 ≤ v5_4.toInt by omega) (show v5_4.toInt ≤ 3 by omega) (by decide) (by decide) (Nat.lt_succ_self _) hw   (lv_sub hl [2, 3, 4, 5, 6, 1, 0] rfl)
  refine lv_iconst (v := 0) hx hb dX12_mostAlike_0 (by decide) ?_
  refine lv_istore_n (lv' := [(3, .int 0), (0, .ref (ad 0)), (1, .int a1), (2, .int a2)]) hx hb dX12_mostAlike_1 rfl hl (by decide) rfl (fun ls hl => ?_)
  refine lv_iconst (v := 0) hx hb dX12_mostAlike_2 (by decide) ?_
  refine lv_istore (lv' := [(4, .int 0), (3, .int 0), (0, .ref (ad 0)), (1, .int a1), (2, .int a2)]) hx hb dX12_mostAlike_3 hl (by decide) rfl (fun ls hl => ?_)
  exact L5 ((4 - (0 : Int)).toNat + 1) 0 0 s.heap locs ls  (show 1 ≤ a1.toInt by omega) (show a1.toInt ≤ 11 by omega) (show 1 ≤ a2.toInt by omega) (show a2.toInt ≤ 127 by omega) (by decide) (by decide) (by decide) (Nat.lt_succ_self _) hw   (lv_sub hl [2, 3, 4, 1, 0] rfl)
abbrev P_X12_mostAlike_2 (ad : Nat → Nat) (cy : Nat → ClassId) (B : Int) (qr : Nat) (s1 : Int) (a1 : Int32) (a2 : Int32) (w0 : va_W) : Int32 → va_W → Prop := fun r u => w0 = u ∧ ((0 ≤ r.toInt))
set_option maxHeartbeats 4000000 in
set_option maxRecDepth 100000 in
theorem k_X12_mostAlike_2 (l : Launch) (adK adV : Nat → Nat) (dC : Nat → ClassId) (dI : Nat → Nat → Nat) (cy : Nat → ClassId) (ad : Nat → Nat) (B : Int) (hB0 : 100000 ≤ B) (hB1 : B ≤ 1073741824) (qr : Nat) (s1 : Int)  (a1 : Int32) (ra1 : 0 ≤ a1.toInt) (ta1 : a1.toInt ≤ 11) (a2 : Int32) (ra2 : 1 ≤ a2.toInt) (ta2 : a2.toInt ≤ 127) (w0 : va_W) (sz : Nat) (hT : TW ksM ad cy B qr 12 w0)  : Met l yX12_mostAlike wsX12_mostAlike ({ frames := 2, cells := 0, slots := 0, locals := 34 }) (va_Pc [.ref (ad 0), .int a1, .int a2] (wpreS adK adV dC dI cy sz w0)) (va_Qi (P_X12_mostAlike_2 ad cy B qr s1 a1 a2 w0) (fun u : va_W => wpost dC dI cy (va_A w0 sz) u) (va_A w0 sz)) 0 0 (va_A w0 sz) := by
  refine Met.ofW (cc := cX12_mostAlike) (maxL := 7) (ret := (some .int)) (by decide) rfl ?_
  intro p e s m args below meth c s₁ Bk hml hv
  obtain ⟨rfl, ⟨hsz, hP, hK, hD0⟩, hE, hSR⟩ := hv
  have hx := Bk.exec
  have hb := Bk.bytes
  have hr := Bk.returns
  have hlocks := Bk.notSynchronized
  have hC : CallFix p m c cX12_mostAlike 7 s _ wsX12_mostAlike RX12 := ⟨hx, hb, hml, findClass_of_methodNamed Bk.named, atoms_spec (ws := wsX12_mostAlike) Bk.pre⟩
  subst hsz
  have hD := hD0.self (sz := s.heap.size)
  generalize hAe : va_A w0 s.heap.size = A at hD hE ⊢
  have hA : ∀ q : Nat, s.heap.size ≤ q → A q := fun q h => by rw [← hAe]; exact Or.inr h
  have hw : Wd dC dI A s.heap s.heap [] w0 := ⟨hP, hD, va_S.rf⟩
  have hF : FE ksM ([] : List (Nat × Nat × Nat)) w0 w0 := FE.rf
  have hl := lv_entry ([.ref (ad 0), .int a1, .int a2]) (n := 7) (Nat.le_of_ble_eq_true rfl)
  rw [lg_entry_eq]
  generalize (lg_sl ([.ref (ad 0), .int a1, .int a2]) ++ List.replicate (7 - (lg_sl ([.ref (ad 0), .int a1, .int a2])).length) Slot.unset).toArray = ls at hl ⊢
  have hl : lv_has ls 7 [(0, .ref (ad 0)), (1, .int a1), (2, .int a2)] := hl
  generalize hloc : ([] : List Loc) = locs at hw ⊢
  have L5 : ∀ (n5 : Nat) (v5_3 : Int32) (v5_4 : Int32) (H : Heap) (locs : List Loc) (ls : Array Slot), 0 ≤ a1.toInt → a1.toInt ≤ 11 → 1 ≤ a2.toInt → a2.toInt ≤ 127 → 0 ≤ v5_3.toInt → 0 ≤ v5_4.toInt → v5_4.toInt ≤ 4 → (4 - v5_4.toInt).toNat < n5 → Wd dC dI A s.heap H locs w0 → lv_has ls 7 [(0, .ref (ad 0)), (1, .int a1), (2, .int a2), (3, .int v5_3), (4, .int v5_4)] → W p l e ({ frames := 2, cells := 0, slots := 0, locals := 34 }) s m (List.toArray [.ref (ad 0), .int a1, .int a2]) below meth c H locs 0 0 (MQ below (va_Qi (P_X12_mostAlike_2 ad cy B qr s1 a1 a2 w0) (fun u : va_W => wpost dC dI cy A u) A) (List.toArray [.ref (ad 0), .int a1, .int a2]) s 0 0 A) (F0 m 5 ls []) := by
    intro n5
    induction n5 with
    | zero => intro v5_3 v5_4 H locs ls r1 t2 r3 t4 r5 r6 t7 hm5 hw hl; omega
    | succ n5 ih5 =>
      intro v5_3 v5_4 H locs ls r1 t2 r3 t4 r5 r6 t7 hm5 hw hl
      have L17 : ∀ (n17 : Nat) (v17_5 : Int32) (v17_6 : Int32) (H : Heap) (locs : List Loc) (ls : Array Slot), 0 ≤ a1.toInt → a1.toInt ≤ 11 → 1 ≤ a2.toInt → a2.toInt ≤ 127 → 0 ≤ v5_3.toInt → 0 ≤ v5_4.toInt → v5_4.toInt ≤ 3 → 0 ≤ v17_6.toInt → v17_6.toInt ≤ 7 → (7 - v17_6.toInt).toNat < n17 → Wd dC dI A s.heap H locs w0 → lv_has ls 7 [(0, .ref (ad 0)), (1, .int a1), (2, .int a2), (3, .int v5_3), (4, .int v5_4), (5, .int v17_5), (6, .int v17_6)] → W p l e ({ frames := 2, cells := 0, slots := 0, locals := 34 }) s m (List.toArray [.ref (ad 0), .int a1, .int a2]) below meth c H locs 0 0 (MQ below (va_Qi (P_X12_mostAlike_2 ad cy B qr s1 a1 a2 w0) (fun u : va_W => wpost dC dI cy A u) A) (List.toArray [.ref (ad 0), .int a1, .int a2]) s 0 0 A) (F0 m 17 ls []) := by
        intro n17
        induction n17 with
        | zero => intro v17_5 v17_6 H locs ls r8 t9 r10 t11 r12 r13 t14 r15 t16 hm17 hw hl; omega
        | succ n17 ih17 =>
          intro v17_5 v17_6 H locs ls r8 t9 r10 t11 r12 r13 t14 r15 t16 hm17 hw hl
          refine lv_iload hx hb dX12_mostAlike_17 (lv_at hl 6 rfl) ?_
          refine lv_bipush (v := 7) hx hb dX12_mostAlike_19 (by decide) ?_
          refine lv_icmp_ge (tgt := 63) hx hb dX12_mostAlike_21 (by decide) (fun c17 => ?_) (fun c17 => ?_)
          · have c17 : (7 : Int) ≤ v17_6.toInt := wk_le.mp c17
            refine lv_iload hx hb dX12_mostAlike_63 (lv_at hl 5 rfl) ?_
            refine lv_iload_n hx hb dX12_mostAlike_65 rfl (lv_at hl 3 rfl) ?_
            refine lv_icmp_le (tgt := 74) hx hb dX12_mostAlike_66 (by decide) (fun c18 => ?_) (fun c18 => ?_)
            · have c18 : v17_5.toInt ≤ v5_3.toInt := wk_le.mp c18
              refine lv_iload_n hx hb dX12_mostAlike_74 rfl (lv_at hl 3 rfl) ?_
              refine lv_istore_n (lv' := [(3, .int v5_3), (0, .ref (ad 0)), (1, .int a1), (2, .int a2), (4, .int v5_4), (5, .int v17_5), (6, .int v17_6)]) hx hb dX12_mostAlike_75 rfl hl (by decide) rfl (fun ls hl => ?_)
              obtain ⟨x19, ex19⟩ : ∃ y : Int32, y = v5_4 + Int32.ofInt 1 := ⟨_, rfl⟩
              refine lv_iinc (v := x19) (lv' := [(4, .int x19), (3, .int v5_3), (0, .ref (ad 0)), (1, .int a1), (2, .int a2), (5, .int v17_5), (6, .int v17_6)]) hx hb dX12_mostAlike_76 hl (k := 4) rfl ex19.symm (by decide) rfl (fun ls hl => ?_)
              have ex19 : x19.toInt = v5_4.toInt + 1 := by rw [ex19]; exact wk_add (y := 1) (show -2147483648 ≤ v5_4.toInt + 1 by omega) (show v5_4.toInt + 1 ≤ 2147483647 by omega)
              refine lv_goto (tgt := 5) hx hb dX12_mostAlike_79 (by decide) ?_
              exact ih5 v5_3 x19 H locs ls  (show 0 ≤ a1.toInt by omega) (show a1.toInt ≤ 11 by omega) (show 1 ≤ a2.toInt by omega) (show a2.toInt ≤ 127 by omega) (show 0 ≤ v5_3.toInt by omega) (show 0 ≤ x19.toInt by omega) (show x19.toInt ≤ 4 by omega) (show (4 - x19.toInt).toNat < n5 by omega) hw   (lv_sub hl [2, 3, 4, 1, 0] rfl)
            · have c18 : v5_3.toInt < v17_5.toInt := wk_leF c18
              refine lv_iload hx hb dX12_mostAlike_69 (lv_at hl 5 rfl) ?_
              refine lv_goto (tgt := 75) hx hb dX12_mostAlike_71 (by decide) ?_
              refine lv_istore_n (lv' := [(3, .int v17_5), (0, .ref (ad 0)), (1, .int a1), (2, .int a2), (4, .int v5_4), (5, .int v17_5), (6, .int v17_6)]) hx hb dX12_mostAlike_75 rfl hl (by decide) rfl (fun ls hl => ?_)
              obtain ⟨x20, ex20⟩ : ∃ y : Int32, y = v5_4 + Int32.ofInt 1 := ⟨_, rfl⟩
              refine lv_iinc (v := x20) (lv' := [(4, .int x20), (3, .int v17_5), (0, .ref (ad 0)), (1, .int a1), (2, .int a2), (5, .int v17_5), (6, .int v17_6)]) hx hb dX12_mostAlike_76 hl (k := 4) rfl ex20.symm (by decide) rfl (fun ls hl => ?_)
              have ex20 : x20.toInt = v5_4.toInt + 1 := by rw [ex20]; exact wk_add (y := 1) (show -2147483648 ≤ v5_4.toInt + 1 by omega) (show v5_4.toInt + 1 ≤ 2147483647 by omega)
              refine lv_goto (tgt := 5) hx hb dX12_mostAlike_79 (by decide) ?_
              exact ih5 v17_5 x20 H locs ls  (show 0 ≤ a1.toInt by omega) (show a1.toInt ≤ 11 by omega) (show 1 ≤ a2.toInt by omega) (show a2.toInt ≤ 127 by omega) (show 0 ≤ v17_5.toInt by omega) (show 0 ≤ x20.toInt by omega) (show x20.toInt ≤ 4 by omega) (show (4 - x20.toInt).toNat < n5 by omega) hw   (lv_sub hl [2, 3, 4, 1, 0] rfl)
          · have c17 : v17_6.toInt < (7 : Int) := wk_leF c17
            refine lv_iload hx hb dX12_mostAlike_24 (lv_at hl 5 rfl) ?_
            refine lv_iload_n hx hb dX12_mostAlike_26 rfl (lv_at hl 2 rfl) ?_
            refine lv_iload hx hb dX12_mostAlike_27 (lv_at hl 6 rfl) ?_
            refine tk_Si hC hK hw hT hA hE hSR (k_X12_isOf_8 l adK adV dC dI cy ad B (by omega) (by omega) qr s1   a2 (show 1 ≤ a2.toInt by omega) (show a2.toInt ≤ 127 by omega) v17_6 (show 0 ≤ v17_6.toInt by omega) (show v17_6.toInt ≤ 6 by omega) w0 H.size hT ) (va_cwS 2 hC.2.2.2.2 gX12_mostAlike_X12_isOf rfl rfl rfl (by decide +kernel) ⟨Nat.le_of_ble_eq_true rfl, Nat.le_of_ble_eq_true rfl⟩) rfl hl.1 rfl (Nat.le_of_ble_eq_true rfl) dX12_mostAlike_29 (fun r21 w23 H locs hp22 hw => ?_)
            obtain ⟨rfl, hg25⟩ := hp22
            rcases hg25 with rfl | rfl
            · refine lv_if_eq (tgt := 53) hx hb dX12_mostAlike_32 (by decide) (fun _ => ?_) (fun c => absurd (by decide) c)
              refine lv_iconst (v := 0) hx hb dX12_mostAlike_53 (by decide) ?_
              refine lv_iadd hx hb dX12_mostAlike_54 ?_
              have nx26 := wk_i32 v17_5
              refine lv_topi (fun x27 ex27 => ?_)
              have ex27 : x27.toInt = v17_5.toInt + (0 : Int) := by rw [ex27]; exact wk_add (show (-2147483648) ≤ v17_5.toInt + (0 : Int) by omega) (show v17_5.toInt + (0 : Int) ≤ 2147483647 by omega)
              refine lv_istore (lv' := [(5, .int x27), (0, .ref (ad 0)), (1, .int a1), (2, .int a2), (3, .int v5_3), (4, .int v5_4), (6, .int v17_6)]) hx hb dX12_mostAlike_55 hl (by decide) rfl (fun ls hl => ?_)
              obtain ⟨x28, ex28⟩ : ∃ y : Int32, y = v17_6 + Int32.ofInt 1 := ⟨_, rfl⟩
              refine lv_iinc (v := x28) (lv' := [(6, .int x28), (5, .int x27), (0, .ref (ad 0)), (1, .int a1), (2, .int a2), (3, .int v5_3), (4, .int v5_4)]) hx hb dX12_mostAlike_57 hl (k := 6) rfl ex28.symm (by decide) rfl (fun ls hl => ?_)
              have ex28 : x28.toInt = v17_6.toInt + 1 := by rw [ex28]; exact wk_add (y := 1) (show -2147483648 ≤ v17_6.toInt + 1 by omega) (show v17_6.toInt + 1 ≤ 2147483647 by omega)
              refine lv_goto (tgt := 17) hx hb dX12_mostAlike_60 (by decide) ?_
              exact ih17 x27 x28 H locs ls  (show 0 ≤ a1.toInt by omega) (show a1.toInt ≤ 11 by omega) (show 1 ≤ a2.toInt by omega) (show a2.toInt ≤ 127 by omega) (show 0 ≤ v5_3.toInt by omega) (show 0 ≤ v5_4.toInt by omega) (show v5_4.toInt ≤ 3 by omega) (show 0 ≤ x28.toInt by omega) (show x28.toInt ≤ 7 by omega) (show (7 - x28.toInt).toNat < n17 by omega) hw   (lv_sub hl [2, 3, 4, 5, 6, 1, 0] rfl)
            · refine lv_if_eq (tgt := 53) hx hb dX12_mostAlike_32 (by decide) (fun c => absurd c (by decide)) (fun _ => ?_)
              refine lv_aload_n hx hb dX12_mostAlike_35 rfl (lv_at hl 0 rfl) ?_
              refine lv_iload_n hx hb dX12_mostAlike_36 rfl (lv_at hl 1 rfl) ?_
              refine lv_iconst (v := 3) hx hb dX12_mostAlike_37 (by decide) ?_
              refine lv_iload hx hb dX12_mostAlike_38 (lv_at hl 6 rfl) ?_
              refine lv_iadd hx hb dX12_mostAlike_40 ?_
              refine lv_topi (fun x29 ex29 => ?_)
              have ex29 : x29.toInt = (3 : Int) + v17_6.toInt := by rw [ex29]; exact wk_add (show (-2147483648) ≤ (3 : Int) + v17_6.toInt by omega) (show (3 : Int) + v17_6.toInt ≤ 2147483647 by omega)
              refine tk_Vi hC hK hw hT hA hE hSR kM_at0 (by decide) rfl (k_X12_streetOf_4 l adK adV dC dI cy ad B (by omega) (by omega) qr s1   a1 (show 0 ≤ a1.toInt by omega) (show a1.toInt ≤ 11 by omega) x29 (show 3 ≤ x29.toInt by omega) (show x29.toInt ≤ 9 by omega) w0 H.size hT ) (cwV 2 hC.2.2.2.2 gX12_mostAlike_X12_streetOf rfl rfl rfl (by decide +kernel) ⟨Nat.le_of_ble_eq_true rfl, Nat.le_of_ble_eq_true rfl⟩) rfl hl.1 rfl (Nat.le_of_ble_eq_true rfl) dX12_mostAlike_41 (fun r30 w32 H locs hp31 hw => ?_)
              obtain ⟨rfl, hg36⟩ := hp31
              obtain ⟨g34, g35⟩ := hg36
              refine lv_iload hx hb dX12_mostAlike_44 (lv_at hl 4 rfl) ?_
              refine lv_icmp_ne (tgt := 53) hx hb dX12_mostAlike_46 (by decide) (fun c37 => ?_) (fun c37 => ?_)
              · have c37 : ¬ r30.toInt = v5_4.toInt := wk_eqF c37
                refine lv_iconst (v := 0) hx hb dX12_mostAlike_53 (by decide) ?_
                refine lv_iadd hx hb dX12_mostAlike_54 ?_
                have nx38 := wk_i32 v17_5
                refine lv_topi (fun x39 ex39 => ?_)
                have ex39 : x39.toInt = v17_5.toInt + (0 : Int) := by rw [ex39]; exact wk_add (show (-2147483648) ≤ v17_5.toInt + (0 : Int) by omega) (show v17_5.toInt + (0 : Int) ≤ 2147483647 by omega)
                refine lv_istore (lv' := [(5, .int x39), (0, .ref (ad 0)), (1, .int a1), (2, .int a2), (3, .int v5_3), (4, .int v5_4), (6, .int v17_6)]) hx hb dX12_mostAlike_55 hl (by decide) rfl (fun ls hl => ?_)
                obtain ⟨x40, ex40⟩ : ∃ y : Int32, y = v17_6 + Int32.ofInt 1 := ⟨_, rfl⟩
                refine lv_iinc (v := x40) (lv' := [(6, .int x40), (5, .int x39), (0, .ref (ad 0)), (1, .int a1), (2, .int a2), (3, .int v5_3), (4, .int v5_4)]) hx hb dX12_mostAlike_57 hl (k := 6) rfl ex40.symm (by decide) rfl (fun ls hl => ?_)
                have ex40 : x40.toInt = v17_6.toInt + 1 := by rw [ex40]; exact wk_add (y := 1) (show -2147483648 ≤ v17_6.toInt + 1 by omega) (show v17_6.toInt + 1 ≤ 2147483647 by omega)
                refine lv_goto (tgt := 17) hx hb dX12_mostAlike_60 (by decide) ?_
                exact ih17 x39 x40 H locs ls  (show 0 ≤ a1.toInt by omega) (show a1.toInt ≤ 11 by omega) (show 1 ≤ a2.toInt by omega) (show a2.toInt ≤ 127 by omega) (show 0 ≤ v5_3.toInt by omega) (show 0 ≤ v5_4.toInt by omega) (show v5_4.toInt ≤ 3 by omega) (show 0 ≤ x40.toInt by omega) (show x40.toInt ≤ 7 by omega) (show (7 - x40.toInt).toNat < n17 by omega) hw   (lv_sub hl [2, 3, 4, 5, 6, 1, 0] rfl)
              · have c37 : r30.toInt = v5_4.toInt := wk_eq.mp c37
                refine lv_iconst (v := 1) hx hb dX12_mostAlike_49 (by decide) ?_
                refine lv_goto (tgt := 54) hx hb dX12_mostAlike_50 (by decide) ?_
                refine lv_iadd hx hb dX12_mostAlike_54 ?_
                have nx41 := wk_i32 v17_5
                refine lv_topi (fun x42 ex42 => ?_)
                refine lv_istore (lv' := [(5, .int x42), (0, .ref (ad 0)), (1, .int a1), (2, .int a2), (3, .int v5_3), (4, .int v5_4), (6, .int v17_6)]) hx hb dX12_mostAlike_55 hl (by decide) rfl (fun ls hl => ?_)
                obtain ⟨x43, ex43⟩ : ∃ y : Int32, y = v17_6 + Int32.ofInt 1 := ⟨_, rfl⟩
                refine lv_iinc (v := x43) (lv' := [(6, .int x43), (5, .int x42), (0, .ref (ad 0)), (1, .int a1), (2, .int a2), (3, .int v5_3), (4, .int v5_4)]) hx hb dX12_mostAlike_57 hl (k := 6) rfl ex43.symm (by decide) rfl (fun ls hl => ?_)
                have ex43 : x43.toInt = v17_6.toInt + 1 := by rw [ex43]; exact wk_add (y := 1) (show -2147483648 ≤ v17_6.toInt + 1 by omega) (show v17_6.toInt + 1 ≤ 2147483647 by omega)
                refine lv_goto (tgt := 17) hx hb dX12_mostAlike_60 (by decide) ?_
                exact ih17 x42 x43 H locs ls  (show 0 ≤ a1.toInt by omega) (show a1.toInt ≤ 11 by omega) (show 1 ≤ a2.toInt by omega) (show a2.toInt ≤ 127 by omega) (show 0 ≤ v5_3.toInt by omega) (show 0 ≤ v5_4.toInt by omega) (show v5_4.toInt ≤ 3 by omega) (show 0 ≤ x43.toInt by omega) (show x43.toInt ≤ 7 by omega) (show (7 - x43.toInt).toNat < n17 by omega) hw   (lv_sub hl [2, 3, 4, 5, 6, 1, 0] rfl)
      refine lv_iload hx hb dX12_mostAlike_5 (lv_at hl 4 rfl) ?_
      refine lv_iconst (v := 4) hx hb dX12_mostAlike_7 (by decide) ?_
      refine lv_icmp_ge (tgt := 82) hx hb dX12_mostAlike_8 (by decide) (fun c44 => ?_) (fun c44 => ?_)
      · have c44 : (4 : Int) ≤ v5_4.toInt := wk_le.mp c44
        refine lv_iload_n hx hb dX12_mostAlike_82 rfl (lv_at hl 3 rfl) ?_
        exact tk_iret hC hr hlocks hK ⟨rfl, (show 0 ≤ v5_3.toInt by omega)⟩ hw dX12_mostAlike_83
      · have c44 : v5_4.toInt < (4 : Int) := wk_leF c44
        refine lv_iconst (v := 0) hx hb dX12_mostAlike_11 (by decide) ?_
        refine lv_istore (lv' := [(5, .int 0), (0, .ref (ad 0)), (1, .int a1), (2, .int a2), (3, .int v5_3), (4, .int v5_4)]) hx hb dX12_mostAlike_12 hl (by decide) rfl (fun ls hl => ?_)
        refine lv_iconst (v := 0) hx hb dX12_mostAlike_14 (by decide) ?_
        refine lv_istore (lv' := [(6, .int 0), (5, .int 0), (0, .ref (ad 0)), (1, .int a1), (2, .int a2), (3, .int v5_3), (4, .int v5_4)]) hx hb dX12_mostAlike_15 hl (by decide) rfl (fun ls hl => ?_)
        exact L17 ((7 - (0 : Int)).toNat + 1) 0 0 H locs ls  (show 0 ≤ a1.toInt by omega) (show a1.toInt ≤ 11 by omega) (show 1 ≤ a2.toInt by omega) (show a2.toInt ≤ 127 by omega) (show 0 ≤ v5_3.toInt by omega) (show 0 ≤ v5_4.toInt by omega) (show v5_4.toInt ≤ 3 by omega) (by decide) (by decide) (Nat.lt_succ_self _) hw   (lv_sub hl [2, 3, 4, 5, 6, 1, 0] rfl)
  refine lv_iconst (v := 0) hx hb dX12_mostAlike_0 (by decide) ?_
  refine lv_istore_n (lv' := [(3, .int 0), (0, .ref (ad 0)), (1, .int a1), (2, .int a2)]) hx hb dX12_mostAlike_1 rfl hl (by decide) rfl (fun ls hl => ?_)
  refine lv_iconst (v := 0) hx hb dX12_mostAlike_2 (by decide) ?_
  refine lv_istore (lv' := [(4, .int 0), (3, .int 0), (0, .ref (ad 0)), (1, .int a1), (2, .int a2)]) hx hb dX12_mostAlike_3 hl (by decide) rfl (fun ls hl => ?_)
  exact L5 ((4 - (0 : Int)).toNat + 1) 0 0 s.heap locs ls  (show 0 ≤ a1.toInt by omega) (show a1.toInt ≤ 11 by omega) (show 1 ≤ a2.toInt by omega) (show a2.toInt ≤ 127 by omega) (by decide) (by decide) (by decide) (Nat.lt_succ_self _) hw   (lv_sub hl [2, 3, 4, 1, 0] rfl)
abbrev P_X12_fitting_1 (ad : Nat → Nat) (cy : Nat → ClassId) (B : Int) (qr : Nat) (s1 : Int)  (w0 : va_W) : Int32 → va_W → Prop := fun r u => w0 = u ∧ ((0 ≤ r.toInt ∧ r.toInt ≤ 127))
set_option maxHeartbeats 4000000 in
set_option maxRecDepth 100000 in
theorem k_X12_fitting_1 (l : Launch) (adK adV : Nat → Nat) (dC : Nat → ClassId) (dI : Nat → Nat → Nat) (cy : Nat → ClassId) (ad : Nat → Nat) (B : Int) (hB0 : 100000 ≤ B) (hB1 : B ≤ 1073741824) (qr : Nat) (s1 : Int)   (w0 : va_W) (sz : Nat) (hT : TW ksM ad cy B qr 12 w0)  : Met l yX12_fitting wsX12_fitting ({ frames := 2, cells := 0, slots := 0, locals := 34 }) (va_Pc [.ref (ad 0)] (wpreS adK adV dC dI cy sz w0)) (va_Qi (P_X12_fitting_1 ad cy B qr s1  w0) (fun u : va_W => wpost dC dI cy (va_A w0 sz) u) (va_A w0 sz)) 0 0 (va_A w0 sz) := by
  refine Met.ofW (cc := cX12_fitting) (maxL := 5) (ret := (some .int)) (by decide) rfl ?_
  intro p e s m args below meth c s₁ Bk hml hv
  obtain ⟨rfl, ⟨hsz, hP, hK, hD0⟩, hE, hSR⟩ := hv
  have hx := Bk.exec
  have hb := Bk.bytes
  have hr := Bk.returns
  have hlocks := Bk.notSynchronized
  have hC : CallFix p m c cX12_fitting 5 s _ wsX12_fitting RX12 := ⟨hx, hb, hml, findClass_of_methodNamed Bk.named, atoms_spec (ws := wsX12_fitting) Bk.pre⟩
  subst hsz
  have hD := hD0.self (sz := s.heap.size)
  generalize hAe : va_A w0 s.heap.size = A at hD hE ⊢
  have hA : ∀ q : Nat, s.heap.size ≤ q → A q := fun q h => by rw [← hAe]; exact Or.inr h
  have hw : Wd dC dI A s.heap s.heap [] w0 := ⟨hP, hD, va_S.rf⟩
  have hF : FE ksM ([] : List (Nat × Nat × Nat)) w0 w0 := FE.rf
  have hl := lv_entry ([.ref (ad 0)]) (n := 5) (Nat.le_of_ble_eq_true rfl)
  rw [lg_entry_eq]
  generalize (lg_sl ([.ref (ad 0)]) ++ List.replicate (5 - (lg_sl ([.ref (ad 0)])).length) Slot.unset).toArray = ls at hl ⊢
  have hl : lv_has ls 5 [(0, .ref (ad 0))] := hl
  generalize hloc : ([] : List Loc) = locs at hw ⊢
  have hinX12 : ∀ w ∈ u_ws RX12 TX12 42, w ∈ wsX12_fitting := fun _ h => List.mem_cons_of_mem _ (List.mem_append_right _ (h))
  have L4 : ∀ (n4 : Nat) (v4_1 : Int32) (v4_2 : Int32) (H : Heap) (locs : List Loc) (ls : Array Slot), 0 ≤ v4_1.toInt → v4_1.toInt ≤ 127 → 0 ≤ v4_2.toInt → v4_2.toInt ≤ 7 → (7 - v4_2.toInt).toNat < n4 → Wd dC dI A s.heap H locs w0 → lv_has ls 5 [(0, .ref (ad 0)), (1, .int v4_1), (2, .int v4_2)] → W p l e ({ frames := 2, cells := 0, slots := 0, locals := 34 }) s m (List.toArray [.ref (ad 0)]) below meth c H locs 0 0 (MQ below (va_Qi (P_X12_fitting_1 ad cy B qr s1  w0) (fun u : va_W => wpost dC dI cy A u) A) (List.toArray [.ref (ad 0)]) s 0 0 A) (F0 m 4 ls []) := by
    intro n4
    induction n4 with
    | zero => intro v4_1 v4_2 H locs ls r1 t2 r3 t4 hm4 hw hl; omega
    | succ n4 ih4 =>
      intro v4_1 v4_2 H locs ls r1 t2 r3 t4 hm4 hw hl
      have L15 : ∀ (n15 : Nat) (v15_3 : Int32) (v15_4 : Int32) (H : Heap) (locs : List Loc) (ls : Array Slot), 0 ≤ v4_1.toInt → v4_1.toInt ≤ 127 → 0 ≤ v4_2.toInt → v4_2.toInt ≤ 6 → 0 ≤ v15_3.toInt → v15_3.toInt ≤ 1 → 0 ≤ v15_4.toInt → v15_4.toInt ≤ 12 → (12 - v15_4.toInt).toNat < n15 → Wd dC dI A s.heap H locs w0 → lv_has ls 5 [(0, .ref (ad 0)), (1, .int v4_1), (2, .int v4_2), (3, .int v15_3), (4, .int v15_4)] → W p l e ({ frames := 2, cells := 0, slots := 0, locals := 34 }) s m (List.toArray [.ref (ad 0)]) below meth c H locs 0 0 (MQ below (va_Qi (P_X12_fitting_1 ad cy B qr s1  w0) (fun u : va_W => wpost dC dI cy A u) A) (List.toArray [.ref (ad 0)]) s 0 0 A) (F0 m 15 ls []) := by
        intro n15
        induction n15 with
        | zero => intro v15_3 v15_4 H locs ls r5 t6 r7 t8 r9 t10 r11 t12 hm15 hw hl; omega
        | succ n15 ih15 =>
          intro v15_3 v15_4 H locs ls r5 t6 r7 t8 r9 t10 r11 t12 hm15 hw hl
          have J73 : ∀ (f73_12_7 : Int32) (H : Heap) (locs : List Loc) (ls : Array Slot), 0 ≤ v4_1.toInt → v4_1.toInt ≤ 127 → 0 ≤ v4_2.toInt → v4_2.toInt ≤ 6 → 0 ≤ v15_3.toInt → v15_3.toInt ≤ 1 → 0 ≤ v15_4.toInt → v15_4.toInt ≤ 11 → 1 ≤ f73_12_7.toInt → f73_12_7.toInt ≤ 12 → Wd dC dI A s.heap H locs w0 → gi w0 12 7 = f73_12_7 → lv_has ls 5 [(0, .ref (ad 0)), (1, .int v4_1), (2, .int v4_2), (3, .int v15_3), (4, .int v15_4)] → W p l e ({ frames := 2, cells := 0, slots := 0, locals := 34 }) s m (List.toArray [.ref (ad 0)]) below meth c H locs 0 0 (MQ below (va_Qi (P_X12_fitting_1 ad cy B qr s1  w0) (fun u : va_W => wpost dC dI cy A u) A) (List.toArray [.ref (ad 0)]) s 0 0 A) (F0 m 73 ls []) := by
            intro f73_12_7 H locs ls r13 t14 r15 t16 r17 t18 r19 t20 r21 t22 hw c23 hl
            refine lv_iconst (v := 0) hx hb dX12_fitting_73 (by decide) ?_
            refine lv_istore_n (lv' := [(3, .int 0), (0, .ref (ad 0)), (1, .int v4_1), (2, .int v4_2), (4, .int v15_4)]) hx hb dX12_fitting_74 rfl hl (by decide) rfl (fun ls hl => ?_)
            obtain ⟨x24, ex24⟩ : ∃ y : Int32, y = v15_4 + Int32.ofInt 1 := ⟨_, rfl⟩
            refine lv_iinc (v := x24) (lv' := [(4, .int x24), (3, .int 0), (0, .ref (ad 0)), (1, .int v4_1), (2, .int v4_2)]) hx hb dX12_fitting_75 hl (k := 4) rfl ex24.symm (by decide) rfl (fun ls hl => ?_)
            have ex24 : x24.toInt = v15_4.toInt + 1 := by rw [ex24]; exact wk_add (y := 1) (show -2147483648 ≤ v15_4.toInt + 1 by omega) (show v15_4.toInt + 1 ≤ 2147483647 by omega)
            refine lv_goto (tgt := 15) hx hb dX12_fitting_78 (by decide) ?_
            exact ih15 0 x24 H locs ls  (show 0 ≤ v4_1.toInt by omega) (show v4_1.toInt ≤ 127 by omega) (show 0 ≤ v4_2.toInt by omega) (show v4_2.toInt ≤ 6 by omega) (by decide) (by decide) (show 0 ≤ x24.toInt by omega) (show x24.toInt ≤ 12 by omega) (show (12 - x24.toInt).toNat < n15 by omega) hw   (lv_sub hl [2, 3, 4, 1, 0] rfl)
          refine lv_iload hx hb dX12_fitting_15 (lv_at hl 4 rfl) ?_
          refine lv_aload_n hx hb dX12_fitting_17 rfl (lv_at hl 0 rfl) ?_
          refine tk_getA hC hK hw hT hinX12 kM_at0 (by decide) rfl 26 (by decide) (List.mem_of_getElem? (i := 1) rfl) rfl rfl dX12_fitting_18 ?_
          refine lv_bipush (v := 7) hx hb dX12_fitting_21 (by decide) ?_
          refine tk_ialdR hC hK hw hT kM_at12 rfl (by decide) (by decide) dX12_fitting_23 (fun x25 c26 Ex25 => ?_)
          have bx25 := tk_rgI rfl 7 1 1 0 12 (by decide +kernel) ⟨0, by decide, by decide⟩ Ex25
          have c26 : gi w0 12 7 = x25 := c26
          refine lv_icmp_ge (tgt := 81) hx hb dX12_fitting_24 (by decide) (fun c27 => ?_) (fun c27 => ?_)
          · have c27 : x25.toInt ≤ v15_4.toInt := wk_le.mp c27
            refine lv_iload_n hx hb dX12_fitting_81 rfl (lv_at hl 1 rfl) ?_
            refine lv_iload_n hx hb dX12_fitting_82 rfl (lv_at hl 3 rfl) ?_
            refine lv_if_eq (tgt := 92) hx hb dX12_fitting_83 (by decide) (fun c28 => ?_) (fun c28 => ?_)
            · have c28 : v15_3.toInt = (0 : Int) := wk_eq.mp c28
              refine lv_iconst (v := 0) hx hb dX12_fitting_92 (by decide) ?_
              refine lv_ior hx hb dX12_fitting_93 ?_
              refine lv_topi (fun x29 ex29 => ?_)
              have bx29 : 0 ≤ x29.toInt ∧ x29.toInt < 128 := by rw [ex29]; exact wk_or 7 (by decide) (by omega) (by omega) (by decide) (by decide)
              have mx29 : v4_1.toInt ≤ x29.toInt ∧ (0 : Int) ≤ x29.toInt := by rw [ex29]; exact wk_orL 7 (by decide) (by omega) (by omega) (by decide) (by decide)
              refine lv_istore_n (lv' := [(1, .int x29), (0, .ref (ad 0)), (2, .int v4_2), (3, .int v15_3), (4, .int v15_4)]) hx hb dX12_fitting_94 rfl hl (by decide) rfl (fun ls hl => ?_)
              obtain ⟨x30, ex30⟩ : ∃ y : Int32, y = v4_2 + Int32.ofInt 1 := ⟨_, rfl⟩
              refine lv_iinc (v := x30) (lv' := [(2, .int x30), (1, .int x29), (0, .ref (ad 0)), (3, .int v15_3), (4, .int v15_4)]) hx hb dX12_fitting_95 hl (k := 2) rfl ex30.symm (by decide) rfl (fun ls hl => ?_)
              have ex30 : x30.toInt = v4_2.toInt + 1 := by rw [ex30]; exact wk_add (y := 1) (show -2147483648 ≤ v4_2.toInt + 1 by omega) (show v4_2.toInt + 1 ≤ 2147483647 by omega)
              refine lv_goto (tgt := 4) hx hb dX12_fitting_98 (by decide) ?_
              exact ih4 x29 x30 H locs ls  (show 0 ≤ x29.toInt by omega) (show x29.toInt ≤ 127 by omega) (show 0 ≤ x30.toInt by omega) (show x30.toInt ≤ 7 by omega) (show (7 - x30.toInt).toNat < n4 by omega) hw   (lv_sub hl [2, 1, 0] rfl)
            · have c28 : ¬ v15_3.toInt = (0 : Int) := wk_eqF c28
              refine lv_iconst (v := 1) hx hb dX12_fitting_86 (by decide) ?_
              refine lv_iload_n hx hb dX12_fitting_87 rfl (lv_at hl 2 rfl) ?_
              refine lv_ishl hx hb dX12_fitting_88 ?_
              refine lv_topi (fun x31 ex31 => ?_)
              have bx31 : 1 ≤ x31.toInt ∧ x31.toInt ≤ 64 := by rw [ex31]; exact wk_shl1 6 (by decide) (by omega) (by omega)
              refine lv_goto (tgt := 93) hx hb dX12_fitting_89 (by decide) ?_
              refine lv_ior hx hb dX12_fitting_93 ?_
              refine lv_topi (fun x32 ex32 => ?_)
              have bx32 : 0 ≤ x32.toInt ∧ x32.toInt < 128 := by rw [ex32]; exact wk_or 7 (by decide) (by omega) (by omega) (by omega) (by omega)
              have mx32 : v4_1.toInt ≤ x32.toInt ∧ x31.toInt ≤ x32.toInt := by rw [ex32]; exact wk_orL 7 (by decide) (by omega) (by omega) (by omega) (by omega)
              refine lv_istore_n (lv' := [(1, .int x32), (0, .ref (ad 0)), (2, .int v4_2), (3, .int v15_3), (4, .int v15_4)]) hx hb dX12_fitting_94 rfl hl (by decide) rfl (fun ls hl => ?_)
              obtain ⟨x33, ex33⟩ : ∃ y : Int32, y = v4_2 + Int32.ofInt 1 := ⟨_, rfl⟩
              refine lv_iinc (v := x33) (lv' := [(2, .int x33), (1, .int x32), (0, .ref (ad 0)), (3, .int v15_3), (4, .int v15_4)]) hx hb dX12_fitting_95 hl (k := 2) rfl ex33.symm (by decide) rfl (fun ls hl => ?_)
              have ex33 : x33.toInt = v4_2.toInt + 1 := by rw [ex33]; exact wk_add (y := 1) (show -2147483648 ≤ v4_2.toInt + 1 by omega) (show v4_2.toInt + 1 ≤ 2147483647 by omega)
              refine lv_goto (tgt := 4) hx hb dX12_fitting_98 (by decide) ?_
              exact ih4 x32 x33 H locs ls  (show 0 ≤ x32.toInt by omega) (show x32.toInt ≤ 127 by omega) (show 0 ≤ x33.toInt by omega) (show x33.toInt ≤ 7 by omega) (show (7 - x33.toInt).toNat < n4 by omega) hw   (lv_sub hl [2, 1, 0] rfl)
          · have c27 : v15_4.toInt < x25.toInt := wk_leF c27
            refine lv_iload_n hx hb dX12_fitting_27 rfl (lv_at hl 3 rfl) ?_
            refine lv_if_eq (tgt := 73) hx hb dX12_fitting_28 (by decide) (fun c34 => ?_) (fun c34 => ?_)
            · have c34 : v15_3.toInt = (0 : Int) := wk_eq.mp c34
              exact J73 x25 H locs ls  (show 0 ≤ v4_1.toInt by omega) (show v4_1.toInt ≤ 127 by omega) (show 0 ≤ v4_2.toInt by omega) (show v4_2.toInt ≤ 6 by omega) (show 0 ≤ v15_3.toInt by omega) (show v15_3.toInt ≤ 1 by omega) (show 0 ≤ v15_4.toInt by omega) (show v15_4.toInt ≤ 11 by omega) (show 1 ≤ x25.toInt by omega) (show x25.toInt ≤ 12 by omega)  hw  c26 (lv_sub hl [0, 1, 2, 3, 4] rfl)
            · have c34 : ¬ v15_3.toInt = (0 : Int) := wk_eqF c34
              refine lv_aload_n hx hb dX12_fitting_31 rfl (lv_at hl 0 rfl) ?_
              refine lv_aload_n hx hb dX12_fitting_32 rfl (lv_at hl 0 rfl) ?_
              refine tk_getA hC hK hw hT hinX12 kM_at0 (by decide) rfl 26 (by decide) (List.mem_of_getElem? (i := 1) rfl) rfl rfl dX12_fitting_33 ?_
              refine lv_sipush (v := 264) hx hb dX12_fitting_36 (by decide) ?_
              refine lv_iconst (v := 2) hx hb dX12_fitting_39 (by decide) ?_
              refine lv_iload hx hb dX12_fitting_40 (lv_at hl 4 rfl) ?_
              refine lv_imul hx hb dX12_fitting_42 ?_
              refine lv_topi (fun x35 ex35 => ?_)
              have ex35 : x35.toInt = (2 : Int) * v15_4.toInt := by rw [ex35]; exact wk_mul (show (-2147483648) ≤ (2 : Int) * v15_4.toInt by omega) (show (2 : Int) * v15_4.toInt ≤ 2147483647 by omega)
              refine lv_iadd hx hb dX12_fitting_43 ?_
              refine lv_topi (fun x36 ex36 => ?_)
              have ex36 : x36.toInt = (264 : Int) + x35.toInt := by rw [ex36]; exact wk_add (show (-2147483648) ≤ (264 : Int) + x35.toInt by omega) (show (264 : Int) + x35.toInt ≤ 2147483647 by omega)
              refine tk_ialdR hC hK hw hT kM_at12 rfl (show 0 ≤ x36.toInt by omega) (show x36.toInt < 296 by omega) dX12_fitting_44 (fun x37 c38 Ex37 => ?_)
              have c38 : gi w0 12 (2 * v15_4.toInt + 264).toNat = x37 := (congrArg (gi w0 12) (congrArg Int.toNat (show 2 * v15_4.toInt + 264 = x36.toInt by omega))).trans c38
              have bx37 := tk_rgI rfl 264 2 12 0 11 (by decide +kernel) ⟨(v15_4.toInt - 0).toNat, by omega, show x36.toInt.toNat = 264 + 2 * (v15_4.toInt - 0).toNat by omega⟩ Ex37
              refine lv_iconst (v := 3) hx hb dX12_fitting_45 (by decide) ?_
              refine lv_iload_n hx hb dX12_fitting_46 rfl (lv_at hl 2 rfl) ?_
              refine lv_iadd hx hb dX12_fitting_47 ?_
              refine lv_topi (fun x39 ex39 => ?_)
              have ex39 : x39.toInt = (3 : Int) + v4_2.toInt := by rw [ex39]; exact wk_add (show (-2147483648) ≤ (3 : Int) + v4_2.toInt by omega) (show (3 : Int) + v4_2.toInt ≤ 2147483647 by omega)
              refine tk_Vi hC hK hw hT hA hE hSR kM_at0 (by decide) rfl (k_X12_streetOf_4 l adK adV dC dI cy ad B (by omega) (by omega) qr s1   x37 (show 0 ≤ x37.toInt by omega) (show x37.toInt ≤ 11 by omega) x39 (show 3 ≤ x39.toInt by omega) (show x39.toInt ≤ 9 by omega) w0 H.size hT ) (cwV 2 hC.2.2.2.2 gX12_fitting_X12_streetOf rfl rfl rfl (by decide +kernel) ⟨Nat.le_of_ble_eq_true rfl, Nat.le_of_ble_eq_true rfl⟩) rfl hl.1 rfl (Nat.le_of_ble_eq_true rfl) dX12_fitting_48 (fun r40 w42 H locs hp41 hw => ?_)
              obtain ⟨rfl, hg46⟩ := hp41
              obtain ⟨g44, g45⟩ := hg46
              refine lv_aload_n hx hb dX12_fitting_51 rfl (lv_at hl 0 rfl) ?_
              refine tk_getA hC hK hw hT hinX12 kM_at0 (by decide) rfl 26 (by decide) (List.mem_of_getElem? (i := 1) rfl) rfl rfl dX12_fitting_52 ?_
              refine lv_sipush (v := 264) hx hb dX12_fitting_55 (by decide) ?_
              refine lv_iconst (v := 2) hx hb dX12_fitting_58 (by decide) ?_
              refine lv_iload hx hb dX12_fitting_59 (lv_at hl 4 rfl) ?_
              refine lv_imul hx hb dX12_fitting_61 ?_
              refine lv_topi (fun x47 ex47 => ?_)
              have ex47 : x47.toInt = (2 : Int) * v15_4.toInt := by rw [ex47]; exact wk_mul (show (-2147483648) ≤ (2 : Int) * v15_4.toInt by omega) (show (2 : Int) * v15_4.toInt ≤ 2147483647 by omega)
              refine lv_iadd hx hb dX12_fitting_62 ?_
              refine lv_topi (fun x48 ex48 => ?_)
              have ex48 : x48.toInt = (264 : Int) + x47.toInt := by rw [ex48]; exact wk_add (show (-2147483648) ≤ (264 : Int) + x47.toInt by omega) (show (264 : Int) + x47.toInt ≤ 2147483647 by omega)
              refine lv_iconst (v := 1) hx hb dX12_fitting_63 (by decide) ?_
              refine lv_iadd hx hb dX12_fitting_64 ?_
              refine lv_topi (fun x49 ex49 => ?_)
              have ex49 : x49.toInt = x48.toInt + (1 : Int) := by rw [ex49]; exact wk_add (show (-2147483648) ≤ x48.toInt + (1 : Int) by omega) (show x48.toInt + (1 : Int) ≤ 2147483647 by omega)
              refine tk_ialdR hC hK hw hT kM_at12 rfl (show 0 ≤ x49.toInt by omega) (show x49.toInt < 296 by omega) dX12_fitting_65 (fun x50 c51 Ex50 => ?_)
              have c51 : gi w0 12 (2 * v15_4.toInt + 265).toNat = x50 := (congrArg (gi w0 12) (congrArg Int.toNat (show 2 * v15_4.toInt + 265 = x49.toInt by omega))).trans c51
              have bx50 := tk_rgI rfl 265 2 12 0 11 (by decide +kernel) ⟨(v15_4.toInt - 0).toNat, by omega, show x49.toInt.toNat = 265 + 2 * (v15_4.toInt - 0).toNat by omega⟩ Ex50
              refine lv_icmp_ne (tgt := 73) hx hb dX12_fitting_66 (by decide) (fun c52 => ?_) (fun c52 => ?_)
              · have c52 : ¬ r40.toInt = x50.toInt := wk_eqF c52
                exact J73 x25 H locs ls  (show 0 ≤ v4_1.toInt by omega) (show v4_1.toInt ≤ 127 by omega) (show 0 ≤ v4_2.toInt by omega) (show v4_2.toInt ≤ 6 by omega) (show 0 ≤ v15_3.toInt by omega) (show v15_3.toInt ≤ 1 by omega) (show 0 ≤ v15_4.toInt by omega) (show v15_4.toInt ≤ 11 by omega) (show 1 ≤ x25.toInt by omega) (show x25.toInt ≤ 12 by omega)  hw  c26 (lv_sub hl [0, 1, 2, 3, 4] rfl)
              · have c52 : r40.toInt = x50.toInt := wk_eq.mp c52
                refine lv_iconst (v := 1) hx hb dX12_fitting_69 (by decide) ?_
                refine lv_goto (tgt := 74) hx hb dX12_fitting_70 (by decide) ?_
                refine lv_istore_n (lv' := [(3, .int 1), (0, .ref (ad 0)), (1, .int v4_1), (2, .int v4_2), (4, .int v15_4)]) hx hb dX12_fitting_74 rfl hl (by decide) rfl (fun ls hl => ?_)
                obtain ⟨x53, ex53⟩ : ∃ y : Int32, y = v15_4 + Int32.ofInt 1 := ⟨_, rfl⟩
                refine lv_iinc (v := x53) (lv' := [(4, .int x53), (3, .int 1), (0, .ref (ad 0)), (1, .int v4_1), (2, .int v4_2)]) hx hb dX12_fitting_75 hl (k := 4) rfl ex53.symm (by decide) rfl (fun ls hl => ?_)
                have ex53 : x53.toInt = v15_4.toInt + 1 := by rw [ex53]; exact wk_add (y := 1) (show -2147483648 ≤ v15_4.toInt + 1 by omega) (show v15_4.toInt + 1 ≤ 2147483647 by omega)
                refine lv_goto (tgt := 15) hx hb dX12_fitting_78 (by decide) ?_
                exact ih15 1 x53 H locs ls  (show 0 ≤ v4_1.toInt by omega) (show v4_1.toInt ≤ 127 by omega) (show 0 ≤ v4_2.toInt by omega) (show v4_2.toInt ≤ 6 by omega) (by decide) (by decide) (show 0 ≤ x53.toInt by omega) (show x53.toInt ≤ 12 by omega) (show (12 - x53.toInt).toNat < n15 by omega) hw   (lv_sub hl [2, 3, 4, 1, 0] rfl)
      refine lv_iload_n hx hb dX12_fitting_4 rfl (lv_at hl 2 rfl) ?_
      refine lv_bipush (v := 7) hx hb dX12_fitting_5 (by decide) ?_
      refine lv_icmp_ge (tgt := 101) hx hb dX12_fitting_7 (by decide) (fun c54 => ?_) (fun c54 => ?_)
      · have c54 : (7 : Int) ≤ v4_2.toInt := wk_le.mp c54
        refine lv_iload_n hx hb dX12_fitting_101 rfl (lv_at hl 1 rfl) ?_
        exact tk_iret hC hr hlocks hK ⟨rfl, ⟨(show 0 ≤ v4_1.toInt by omega), (show v4_1.toInt ≤ 127 by omega)⟩⟩ hw dX12_fitting_102
      · have c54 : v4_2.toInt < (7 : Int) := wk_leF c54
        refine lv_iconst (v := 1) hx hb dX12_fitting_10 (by decide) ?_
        refine lv_istore_n (lv' := [(3, .int 1), (0, .ref (ad 0)), (1, .int v4_1), (2, .int v4_2)]) hx hb dX12_fitting_11 rfl hl (by decide) rfl (fun ls hl => ?_)
        refine lv_iconst (v := 0) hx hb dX12_fitting_12 (by decide) ?_
        refine lv_istore (lv' := [(4, .int 0), (3, .int 1), (0, .ref (ad 0)), (1, .int v4_1), (2, .int v4_2)]) hx hb dX12_fitting_13 hl (by decide) rfl (fun ls hl => ?_)
        exact L15 ((12 - (0 : Int)).toNat + 1) 1 0 H locs ls  (show 0 ≤ v4_1.toInt by omega) (show v4_1.toInt ≤ 127 by omega) (show 0 ≤ v4_2.toInt by omega) (show v4_2.toInt ≤ 6 by omega) (by decide) (by decide) (by decide) (by decide) (Nat.lt_succ_self _) hw   (lv_sub hl [2, 3, 4, 1, 0] rfl)
  refine lv_iconst (v := 0) hx hb dX12_fitting_0 (by decide) ?_
  refine lv_istore_n (lv' := [(1, .int 0), (0, .ref (ad 0))]) hx hb dX12_fitting_1 rfl hl (by decide) rfl (fun ls hl => ?_)
  refine lv_iconst (v := 0) hx hb dX12_fitting_2 (by decide) ?_
  refine lv_istore_n (lv' := [(2, .int 0), (1, .int 0), (0, .ref (ad 0))]) hx hb dX12_fitting_3 rfl hl (by decide) rfl (fun ls hl => ?_)
  exact L4 ((7 - (0 : Int)).toNat + 1) 0 0 s.heap locs ls  (by decide) (by decide) (by decide) (by decide) (Nat.lt_succ_self _) hw   (lv_sub hl [2, 1, 0] rfl)
abbrev P_X12_weekdays_1 (ad : Nat → Nat) (cy : Nat → ClassId) (B : Int) (qr : Nat) (s1 : Int) (a1 : Int32) (w0 : va_W) : Int32 → va_W → Prop := fun r u => w0 = u ∧ ((r = (-2) ∧ (∃ y : Int32, gi u 12 0 = y ∧ 1 ≤ y.toInt ∧ y.toInt ≤ 10)) ∨ (0 ≤ r.toInt ∧ r.toInt ≤ 127 ∧ (∃ y : Int32, gi u 12 0 = y ∧ 1 ≤ y.toInt ∧ y.toInt ≤ 10)) ∨ (r = (-1)))
set_option maxHeartbeats 4000000 in
set_option maxRecDepth 100000 in
theorem k_X12_weekdays_1 (l : Launch) (adK adV : Nat → Nat) (dC : Nat → ClassId) (dI : Nat → Nat → Nat) (cy : Nat → ClassId) (ad : Nat → Nat) (B : Int) (hB0 : 100000 ≤ B) (hB1 : B ≤ 1073741824) (qr : Nat) (s1 : Int)  (a1 : Int32) (w0 : va_W) (sz : Nat) (hT : TW ksM ad cy B qr 12 w0)  : Met l yX12_weekdays wsX12_weekdays ({ frames := 3, cells := 0, slots := 0, locals := 60 }) (va_Pc [.ref (ad 0), .int a1] (wpreS adK adV dC dI cy sz w0)) (va_Qi (P_X12_weekdays_1 ad cy B qr s1 a1 w0) (fun u : va_W => wpost dC dI cy (va_A w0 sz) u) (va_A w0 sz)) 0 0 (va_A w0 sz) := by
  refine Met.ofW (cc := cX12_weekdays) (maxL := 5) (ret := (some .int)) (by decide) rfl ?_
  intro p e s m args below meth c s₁ Bk hml hv
  obtain ⟨rfl, ⟨hsz, hP, hK, hD0⟩, hE, hSR⟩ := hv
  have hx := Bk.exec
  have hb := Bk.bytes
  have hr := Bk.returns
  have hlocks := Bk.notSynchronized
  have hC : CallFix p m c cX12_weekdays 5 s _ wsX12_weekdays RX12 := ⟨hx, hb, hml, findClass_of_methodNamed Bk.named, atoms_spec (ws := wsX12_weekdays) Bk.pre⟩
  subst hsz
  have hD := hD0.self (sz := s.heap.size)
  generalize hAe : va_A w0 s.heap.size = A at hD hE ⊢
  have hA : ∀ q : Nat, s.heap.size ≤ q → A q := fun q h => by rw [← hAe]; exact Or.inr h
  have hw : Wd dC dI A s.heap s.heap [] w0 := ⟨hP, hD, va_S.rf⟩
  have hF : FE ksM ([] : List (Nat × Nat × Nat)) w0 w0 := FE.rf
  have hl := lv_entry ([.ref (ad 0), .int a1]) (n := 5) (Nat.le_of_ble_eq_true rfl)
  rw [lg_entry_eq]
  generalize (lg_sl ([.ref (ad 0), .int a1]) ++ List.replicate (5 - (lg_sl ([.ref (ad 0), .int a1])).length) Slot.unset).toArray = ls at hl ⊢
  have hl : lv_has ls 5 [(0, .ref (ad 0)), (1, .int a1)] := hl
  generalize hloc : ([] : List Loc) = locs at hw ⊢
  have hinX12 : ∀ w ∈ u_ws RX12 TX12 42, w ∈ wsX12_weekdays := fun _ h => List.mem_cons_of_mem _ (List.mem_append_right _ (h))
  have J17 : ∀ (f17_12_0 : Int32) (H : Heap) (locs : List Loc) (ls : Array Slot), 0 ≤ f17_12_0.toInt → f17_12_0.toInt ≤ 10 → Wd dC dI A s.heap H locs w0 → gi w0 12 0 = f17_12_0 → lv_has ls 5 [(0, .ref (ad 0)), (1, .int a1)] → W p l e ({ frames := 3, cells := 0, slots := 0, locals := 60 }) s m (List.toArray [.ref (ad 0), .int a1]) below meth c H locs 0 0 (MQ below (va_Qi (P_X12_weekdays_1 ad cy B qr s1 a1 w0) (fun u : va_W => wpost dC dI cy A u) A) (List.toArray [.ref (ad 0), .int a1]) s 0 0 A) (F0 m 17 ls []) := by
    intro f17_12_0 H locs ls r1 t2 hw c3 hl
    refine lv_iconst (v := (-1)) hx hb dX12_weekdays_17 (by decide) ?_
    exact tk_iret hC hr hlocks hK ⟨rfl, (Or.inr (Or.inr rfl))⟩ hw dX12_weekdays_18
  have J43 : ∀ (v43_2 : Int32) (f43_12_0 : Int32) (H : Heap) (locs : List Loc) (ls : Array Slot), 0 ≤ v43_2.toInt → v43_2.toInt ≤ 127 → 1 ≤ f43_12_0.toInt → f43_12_0.toInt ≤ 10 → Wd dC dI A s.heap H locs w0 → gi w0 12 0 = f43_12_0 → lv_has ls 5 [(0, .ref (ad 0)), (1, .int 1), (2, .int v43_2)] → W p l e ({ frames := 3, cells := 0, slots := 0, locals := 60 }) s m (List.toArray [.ref (ad 0), .int a1]) below meth c H locs 0 0 (MQ below (va_Qi (P_X12_weekdays_1 ad cy B qr s1 a1 w0) (fun u : va_W => wpost dC dI cy A u) A) (List.toArray [.ref (ad 0), .int a1]) s 0 0 A) (F0 m 43 ls []) := by
    intro v43_2 f43_12_0 H locs ls r4 t5 r6 t7 hw c8 hl
    refine lv_bipush (v := (-2)) hx hb dX12_weekdays_43 (by decide) ?_
    exact tk_iret hC hr hlocks hK ⟨rfl, (Or.inl ⟨rfl, ⟨f43_12_0, c8, (show 1 ≤ f43_12_0.toInt by omega), (show f43_12_0.toInt ≤ 10 by omega)⟩⟩)⟩ hw dX12_weekdays_45
  have L51 : ∀ (n51 : Nat) (v51_2 : Int32) (v51_3 : Int32) (v51_4 : Int32) (f51_12_0 : Int32) (f51_12_1 : Int32) (H : Heap) (locs : List Loc) (ls : Array Slot), 1 ≤ v51_2.toInt → v51_2.toInt ≤ 127 → 0 ≤ v51_3.toInt → v51_3.toInt ≤ 11 → 1 ≤ v51_4.toInt → v51_4.toInt ≤ 12 → 1 ≤ f51_12_0.toInt → f51_12_0.toInt ≤ 10 → 1 ≤ f51_12_1.toInt → f51_12_1.toInt ≤ 12 → (12 - v51_4.toInt).toNat < n51 → Wd dC dI A s.heap H locs w0 → gi w0 12 0 = f51_12_0 → gi w0 12 1 = f51_12_1 → lv_has ls 5 [(0, .ref (ad 0)), (1, .int 1), (2, .int v51_2), (3, .int v51_3), (4, .int v51_4)] → W p l e ({ frames := 3, cells := 0, slots := 0, locals := 60 }) s m (List.toArray [.ref (ad 0), .int a1]) below meth c H locs 0 0 (MQ below (va_Qi (P_X12_weekdays_1 ad cy B qr s1 a1 w0) (fun u : va_W => wpost dC dI cy A u) A) (List.toArray [.ref (ad 0), .int a1]) s 0 0 A) (F0 m 51 ls []) := by
    intro n51
    induction n51 with
    | zero => intro v51_2 v51_3 v51_4 f51_12_0 f51_12_1 H locs ls r9 t10 r11 t12 r13 t14 r15 t16 r18 t19 hm51 hw c17 c20 hl; omega
    | succ n51 ih51 =>
      intro v51_2 v51_3 v51_4 f51_12_0 f51_12_1 H locs ls r9 t10 r11 t12 r13 t14 r15 t16 r18 t19 hm51 hw c17 c20 hl
      refine lv_iload hx hb dX12_weekdays_51 (lv_at hl 4 rfl) ?_
      refine lv_aload_n hx hb dX12_weekdays_53 rfl (lv_at hl 0 rfl) ?_
      refine tk_getA hC hK hw hT hinX12 kM_at0 (by decide) rfl 26 (by decide) (List.mem_of_getElem? (i := 1) rfl) rfl rfl dX12_weekdays_54 ?_
      refine lv_iconst (v := 1) hx hb dX12_weekdays_57 (by decide) ?_
      refine tk_ialdR hC hK hw hT kM_at12 rfl (by decide) (by decide) dX12_weekdays_58 (fun x21 c22 Ex21 => ?_)
      refine wk_top f51_12_1 (c22.symm.trans c20) ?_
      refine lv_icmp_ge (tgt := 91) hx hb dX12_weekdays_59 (by decide) (fun c23 => ?_) (fun c23 => ?_)
      · have c23 : f51_12_1.toInt ≤ v51_4.toInt := wk_le.mp c23
        refine lv_iload_n hx hb dX12_weekdays_91 rfl (lv_at hl 3 rfl) ?_
        exact tk_iret hC hr hlocks hK ⟨rfl, (Or.inr (Or.inl ⟨(show 0 ≤ v51_3.toInt by omega), (show v51_3.toInt ≤ 127 by omega), ⟨f51_12_0, c17, (show 1 ≤ f51_12_0.toInt by omega), (show f51_12_0.toInt ≤ 10 by omega)⟩⟩))⟩ hw dX12_weekdays_92
      · have c23 : v51_4.toInt < f51_12_1.toInt := wk_leF c23
        refine lv_aload_n hx hb dX12_weekdays_62 rfl (lv_at hl 0 rfl) ?_
        refine lv_iload hx hb dX12_weekdays_63 (lv_at hl 4 rfl) ?_
        refine lv_iload_n hx hb dX12_weekdays_65 rfl (lv_at hl 2 rfl) ?_
        refine tk_Vi hC hK hw hT hA hE hSR kM_at0 (by decide) rfl (k_X12_mostAlike_1 l adK adV dC dI cy ad B (by omega) (by omega) qr s1   v51_4 (show 1 ≤ v51_4.toInt by omega) (show v51_4.toInt ≤ 11 by omega) v51_2 (show 1 ≤ v51_2.toInt by omega) (show v51_2.toInt ≤ 127 by omega) w0 H.size hT ) (cwV 2 hC.2.2.2.2 gX12_weekdays_X12_mostAlike rfl rfl rfl (by decide +kernel) ⟨Nat.le_of_ble_eq_true rfl, Nat.le_of_ble_eq_true rfl⟩) rfl hl.1 rfl (Nat.le_of_ble_eq_true rfl) dX12_weekdays_66 (fun r24 w26 H locs hp25 hw => ?_)
        obtain ⟨rfl, hg29⟩ := hp25
        obtain g28 := hg29
        refine lv_aload_n hx hb dX12_weekdays_69 rfl (lv_at hl 0 rfl) ?_
        refine lv_iload_n hx hb dX12_weekdays_70 rfl (lv_at hl 3 rfl) ?_
        refine lv_iload_n hx hb dX12_weekdays_71 rfl (lv_at hl 2 rfl) ?_
        refine tk_Vi hC hK hw hT hA hE hSR kM_at0 (by decide) rfl (k_X12_mostAlike_2 l adK adV dC dI cy ad B (by omega) (by omega) qr s1   v51_3 (show 0 ≤ v51_3.toInt by omega) (show v51_3.toInt ≤ 11 by omega) v51_2 (show 1 ≤ v51_2.toInt by omega) (show v51_2.toInt ≤ 127 by omega) w0 H.size hT ) (cwV 2 hC.2.2.2.2 gX12_weekdays_X12_mostAlike rfl rfl rfl (by decide +kernel) ⟨Nat.le_of_ble_eq_true rfl, Nat.le_of_ble_eq_true rfl⟩) rfl hl.1 rfl (Nat.le_of_ble_eq_true rfl) dX12_weekdays_72 (fun r30 w32 H locs hp31 hw => ?_)
        obtain ⟨rfl, hg35⟩ := hp31
        obtain g34 := hg35
        refine lv_icmp_ge (tgt := 83) hx hb dX12_weekdays_75 (by decide) (fun c36 => ?_) (fun c36 => ?_)
        · have c36 : r30.toInt ≤ r24.toInt := wk_le.mp c36
          refine lv_iload_n hx hb dX12_weekdays_83 rfl (lv_at hl 3 rfl) ?_
          refine lv_istore_n (lv' := [(3, .int v51_3), (0, .ref (ad 0)), (1, .int 1), (2, .int v51_2), (4, .int v51_4)]) hx hb dX12_weekdays_84 rfl hl (by decide) rfl (fun ls hl => ?_)
          obtain ⟨x37, ex37⟩ : ∃ y : Int32, y = v51_4 + Int32.ofInt 1 := ⟨_, rfl⟩
          refine lv_iinc (v := x37) (lv' := [(4, .int x37), (3, .int v51_3), (0, .ref (ad 0)), (1, .int 1), (2, .int v51_2)]) hx hb dX12_weekdays_85 hl (k := 4) rfl ex37.symm (by decide) rfl (fun ls hl => ?_)
          have ex37 : x37.toInt = v51_4.toInt + 1 := by rw [ex37]; exact wk_add (y := 1) (show -2147483648 ≤ v51_4.toInt + 1 by omega) (show v51_4.toInt + 1 ≤ 2147483647 by omega)
          refine lv_goto (tgt := 51) hx hb dX12_weekdays_88 (by decide) ?_
          exact ih51 v51_2 v51_3 x37 f51_12_0 f51_12_1 H locs ls  (show 1 ≤ v51_2.toInt by omega) (show v51_2.toInt ≤ 127 by omega) (show 0 ≤ v51_3.toInt by omega) (show v51_3.toInt ≤ 11 by omega) (show 1 ≤ x37.toInt by omega) (show x37.toInt ≤ 12 by omega) (show 1 ≤ f51_12_0.toInt by omega) (show f51_12_0.toInt ≤ 10 by omega) (show 1 ≤ f51_12_1.toInt by omega) (show f51_12_1.toInt ≤ 12 by omega) (show (12 - x37.toInt).toNat < n51 by omega) hw  c17 c20 (lv_sub hl [2, 3, 4, 1, 0] rfl)
        · have c36 : r24.toInt < r30.toInt := wk_leF c36
          refine lv_iload hx hb dX12_weekdays_78 (lv_at hl 4 rfl) ?_
          refine lv_goto (tgt := 84) hx hb dX12_weekdays_80 (by decide) ?_
          refine lv_istore_n (lv' := [(3, .int v51_4), (0, .ref (ad 0)), (1, .int 1), (2, .int v51_2), (4, .int v51_4)]) hx hb dX12_weekdays_84 rfl hl (by decide) rfl (fun ls hl => ?_)
          obtain ⟨x38, ex38⟩ : ∃ y : Int32, y = v51_4 + Int32.ofInt 1 := ⟨_, rfl⟩
          refine lv_iinc (v := x38) (lv' := [(4, .int x38), (3, .int v51_4), (0, .ref (ad 0)), (1, .int 1), (2, .int v51_2)]) hx hb dX12_weekdays_85 hl (k := 4) rfl ex38.symm (by decide) rfl (fun ls hl => ?_)
          have ex38 : x38.toInt = v51_4.toInt + 1 := by rw [ex38]; exact wk_add (y := 1) (show -2147483648 ≤ v51_4.toInt + 1 by omega) (show v51_4.toInt + 1 ≤ 2147483647 by omega)
          refine lv_goto (tgt := 51) hx hb dX12_weekdays_88 (by decide) ?_
          exact ih51 v51_2 v51_4 x38 f51_12_0 f51_12_1 H locs ls  (show 1 ≤ v51_2.toInt by omega) (show v51_2.toInt ≤ 127 by omega) (show 0 ≤ v51_4.toInt by omega) (show v51_4.toInt ≤ 11 by omega) (show 1 ≤ x38.toInt by omega) (show x38.toInt ≤ 12 by omega) (show 1 ≤ f51_12_0.toInt by omega) (show f51_12_0.toInt ≤ 10 by omega) (show 1 ≤ f51_12_1.toInt by omega) (show f51_12_1.toInt ≤ 12 by omega) (show (12 - x38.toInt).toNat < n51 by omega) hw  c17 c20 (lv_sub hl [2, 3, 4, 1, 0] rfl)
  refine lv_aload_n hx hb dX12_weekdays_0 rfl (lv_at hl 0 rfl) ?_
  refine tk_Vi hC hK hw hT hA hE hSR kM_at0 (by decide) rfl (k_X12_isTown_1 l adK adV dC dI cy ad B (by omega) (by omega) qr s1    w0 s.heap.size hT ) (cwV 0 hC.2.2.2.2 gX12_weekdays_X12_isTown rfl rfl rfl (by decide +kernel) ⟨Nat.le_of_ble_eq_true rfl, Nat.le_of_ble_eq_true rfl⟩) rfl hl.1 rfl (Nat.le_of_ble_eq_true rfl) dX12_weekdays_1 (fun r39 w41 H locs hp40 hw => ?_)
  obtain ⟨rfl, hg47⟩ := hp40
  rcases hg47 with ⟨rfl, ⟨x43, c44, rx43, tx43⟩⟩ | ⟨rfl, ⟨x45, c46, rx45, tx45⟩⟩
  · refine lv_if_eq (tgt := 17) hx hb dX12_weekdays_4 (by decide) (fun _ => ?_) (fun c => absurd (by decide) c)
    exact J17 x43 H locs ls  (show 0 ≤ x43.toInt by omega) (show x43.toInt ≤ 10 by omega)  hw  c44 (lv_sub hl [0, 1] rfl)
  · refine lv_if_eq (tgt := 17) hx hb dX12_weekdays_4 (by decide) (fun c => absurd c (by decide)) (fun _ => ?_)
    refine lv_iload_n hx hb dX12_weekdays_7 rfl (lv_at hl 1 rfl) ?_
    refine lv_i2l hx hb dX12_weekdays_8 rfl ?_
    refine lv_topl (fun x48 ex48 => ?_)
    have ex48 : x48.toInt = a1.toInt := by rw [ex48]; exact wk_i2l _
    have bx48 := wk_i32 a1
    refine lv_lconst (v := 0) hx hb dX12_weekdays_9 (by decide) ?_
    refine lv_lconst (v := 1) hx hb dX12_weekdays_10 (by decide) ?_
    refine tk_Si hC hK hw hT hA hE hSR (k_X12_in_12 l adK adV dC dI cy ad B (by omega) (by omega) qr s1   x48 (show (-2147483648) ≤ x48.toInt by omega) (show x48.toInt ≤ 2147483647 by omega) w0 H.size hT ) (va_cwS 3 hC.2.2.2.2 gX12_weekdays_X12_in rfl rfl rfl (by decide +kernel) ⟨Nat.le_of_ble_eq_true rfl, Nat.le_of_ble_eq_true rfl⟩) rfl hl.1 rfl (Nat.le_of_ble_eq_true rfl) dX12_weekdays_11 (fun r49 w51 H locs hp50 hw => ?_)
    obtain ⟨rfl, hg55⟩ := hp50
    rcases hg55 with rfl | ⟨rfl, g53, g54⟩
    · refine lv_if_ne (tgt := 19) hx hb dX12_weekdays_14 (by decide) (fun c => absurd (by decide) c) (fun _ => ?_)
      exact J17 x45 H locs ls  (show 0 ≤ x45.toInt by omega) (show x45.toInt ≤ 10 by omega)  hw  c46 (lv_sub hl [0, 1] rfl)
    · refine lv_if_ne (tgt := 19) hx hb dX12_weekdays_14 (by decide) (fun _ => ?_) (fun c => absurd c (by decide))
      refine lv_aload_n hx hb dX12_weekdays_19 rfl (lv_at hl 0 rfl) ?_
      refine tk_Vi hC hK hw hT hA hE hSR kM_at0 (by decide) rfl (k_X12_fitting_1 l adK adV dC dI cy ad B (by omega) (by omega) qr s1    w0 H.size hT ) (cwV 0 hC.2.2.2.2 gX12_weekdays_X12_fitting rfl rfl rfl (by decide +kernel) ⟨Nat.le_of_ble_eq_true rfl, Nat.le_of_ble_eq_true rfl⟩) rfl hl.1 rfl (Nat.le_of_ble_eq_true rfl) dX12_weekdays_20 (fun r56 w58 H locs hp57 hw => ?_)
      obtain ⟨rfl, hg62⟩ := hp57
      obtain ⟨g60, g61⟩ := hg62
      refine lv_istore_n (lv' := [(2, .int r56), (0, .ref (ad 0)), (1, .int a1)]) hx hb dX12_weekdays_23 rfl hl (by decide) rfl (fun ls hl => ?_)
      refine lv_iload_n hx hb dX12_weekdays_24 rfl (lv_at hl 2 rfl) ?_
      refine lv_if_ne (tgt := 30) hx hb dX12_weekdays_25 (by decide) (fun c63 => ?_) (fun c63 => ?_)
      · have c63 : ¬ a1.toInt = (0 : Int) := wk_eqF c63
        refine lv_iload_n hx hb dX12_weekdays_30 rfl (lv_at hl 0 rfl) ?_
        refine lv_if_eq (tgt := 43) hx hb dX12_weekdays_31 (by decide) (fun c64 => ?_) (fun c64 => ?_)
        · have c64 : r56.toInt = (0 : Int) := wk_eq.mp c64
          obtain rfl : a1 = 1 := wk_eq.mpr (show a1.toInt = 1 by omega)
          exact J43 r56 x45 H locs ls  (show 0 ≤ r56.toInt by omega) (show r56.toInt ≤ 127 by omega) (show 1 ≤ x45.toInt by omega) (show x45.toInt ≤ 10 by omega)  hw  c46 (lv_sub hl [1, 2, 0] rfl)
        · have c64 : ¬ r56.toInt = (0 : Int) := wk_eqF c64
          refine lv_aload_n hx hb dX12_weekdays_34 rfl (lv_at hl 1 rfl) ?_
          refine tk_getA hC hK hw hT hinX12 kM_at0 (by decide) rfl 26 (by decide) (List.mem_of_getElem? (i := 1) rfl) rfl rfl dX12_weekdays_35 ?_
          refine lv_iconst (v := 1) hx hb dX12_weekdays_38 (by decide) ?_
          refine tk_ialdR hC hK hw hT kM_at12 rfl (by decide) (by decide) dX12_weekdays_39 (fun x65 c66 Ex65 => ?_)
          have bx65 : 0 ≤ x65.toInt ∧ x65.toInt ≤ 12 := (tk_rg1 rfl).mp Ex65
          have c66 : gi w0 12 1 = x65 := c66
          refine lv_if_ne (tgt := 46) hx hb dX12_weekdays_40 (by decide) (fun c67 => ?_) (fun c67 => ?_)
          · have c67 : ¬ x65.toInt = (0 : Int) := wk_eqF c67
            refine lv_iconst (v := 0) hx hb dX12_weekdays_46 (by decide) ?_
            refine lv_istore_n (lv' := [(3, .int 0), (2, .int r56), (0, .ref (ad 0)), (1, .int a1)]) hx hb dX12_weekdays_47 rfl hl (by decide) rfl (fun ls hl => ?_)
            refine lv_iconst (v := 1) hx hb dX12_weekdays_48 (by decide) ?_
            refine lv_istore (lv' := [(4, .int 1), (3, .int 0), (2, .int r56), (0, .ref (ad 0)), (1, .int a1)]) hx hb dX12_weekdays_49 hl (by decide) rfl (fun ls hl => ?_)
            obtain rfl : a1 = 1 := wk_eq.mpr (show a1.toInt = 1 by omega)
            exact L51 ((12 - (1 : Int)).toNat + 1) r56 0 1 x45 x65 H locs ls  (show 1 ≤ r56.toInt by omega) (show r56.toInt ≤ 127 by omega) (by decide) (by decide) (by decide) (by decide) (show 1 ≤ x45.toInt by omega) (show x45.toInt ≤ 10 by omega) (show 1 ≤ x65.toInt by omega) (show x65.toInt ≤ 12 by omega) (Nat.lt_succ_self _) hw  c46 c66 (lv_sub hl [3, 4, 2, 1, 0] rfl)
          · have c67 : x65.toInt = (0 : Int) := wk_eq.mp c67
            obtain rfl : a1 = 1 := wk_eq.mpr (show a1.toInt = 1 by omega)
            exact J43 r56 x45 H locs ls  (show 0 ≤ r56.toInt by omega) (show r56.toInt ≤ 127 by omega) (show 1 ≤ x45.toInt by omega) (show x45.toInt ≤ 10 by omega)  hw  c46 (lv_sub hl [1, 2, 0] rfl)
      · have c63 : a1.toInt = (0 : Int) := wk_eq.mp c63
        refine lv_iload_n hx hb dX12_weekdays_28 rfl (lv_at hl 0 rfl) ?_
        exact tk_iret hC hr hlocks hK ⟨rfl, (Or.inr (Or.inl ⟨(show 0 ≤ r56.toInt by omega), (show r56.toInt ≤ 127 by omega), ⟨x45, c46, (show 1 ≤ x45.toInt by omega), (show x45.toInt ≤ 10 by omega)⟩⟩))⟩ hw dX12_weekdays_29
abbrev P_X12_came_1 (ad : Nat → Nat) (cy : Nat → ClassId) (B : Int) (qr : Nat) (s1 : Int) (a1 : Int32) (w0 : va_W) : Int32 → va_W → Prop := fun r u => TW ksM ad cy B qr 12 u ∧ FE ksM [(71, 8, 8), (71, 288, 295)] w0 u ∧ ((r = (-2)) ∨ (0 ≤ r.toInt ∧ r.toInt ≤ 8 ∧ (-1) ≤ a1.toInt ∧ a1.toInt ≤ 9 ∧ (∃ y : Int32, gi u 12 8 = y ∧ 0 ≤ y.toInt ∧ y.toInt ≤ 8)))
set_option maxHeartbeats 4000000 in
set_option maxRecDepth 100000 in
theorem k_X12_came_1 (l : Launch) (adK adV : Nat → Nat) (dC : Nat → ClassId) (dI : Nat → Nat → Nat) (cy : Nat → ClassId) (ad : Nat → Nat) (B : Int) (hB0 : 100000 ≤ B) (hB1 : B ≤ 1073741824) (qr : Nat) (s1 : Int)  (a1 : Int32) (w0 : va_W) (sz : Nat) (hT : TW ksM ad cy B qr 12 w0)  : Met l yX12_came wsX12_came ({ frames := 2, cells := 0, slots := 0, locals := 33 }) (va_Pc [.ref (ad 0), .int a1] (wpreS adK adV dC dI cy sz w0)) (va_Qi (P_X12_came_1 ad cy B qr s1 a1 w0) (fun u : va_W => wpost dC dI cy (va_A w0 sz) u) (va_A w0 sz)) 0 0 (va_A w0 sz) := by
  refine Met.ofW (cc := cX12_came) (maxL := 2) (ret := (some .int)) (by decide) rfl ?_
  intro p e s m args below meth c s₁ Bk hml hv
  obtain ⟨rfl, ⟨hsz, hP, hK, hD0⟩, hE, hSR⟩ := hv
  have hx := Bk.exec
  have hb := Bk.bytes
  have hr := Bk.returns
  have hlocks := Bk.notSynchronized
  have hC : CallFix p m c cX12_came 2 s _ wsX12_came RX12 := ⟨hx, hb, hml, findClass_of_methodNamed Bk.named, atoms_spec (ws := wsX12_came) Bk.pre⟩
  subst hsz
  have hD := hD0.self (sz := s.heap.size)
  generalize hAe : va_A w0 s.heap.size = A at hD hE ⊢
  have hA : ∀ q : Nat, s.heap.size ≤ q → A q := fun q h => by rw [← hAe]; exact Or.inr h
  have hw : Wd dC dI A s.heap s.heap [] w0 := ⟨hP, hD, va_S.rf⟩
  have hF : FE ksM [(71, 8, 8), (71, 288, 295)] w0 w0 := FE.rf
  have hl := lv_entry ([.ref (ad 0), .int a1]) (n := 2) (Nat.le_of_ble_eq_true rfl)
  rw [lg_entry_eq]
  generalize (lg_sl ([.ref (ad 0), .int a1]) ++ List.replicate (2 - (lg_sl ([.ref (ad 0), .int a1])).length) Slot.unset).toArray = ls at hl ⊢
  have hl : lv_has ls 2 [(0, .ref (ad 0)), (1, .int a1)] := hl
  generalize hloc : ([] : List Loc) = locs at hw ⊢
  have hinX12 : ∀ w ∈ u_ws RX12 TX12 42, w ∈ wsX12_came := fun _ h => List.mem_cons_of_mem _ (List.mem_append_right _ (h))
  have J35 : ∀ (H : Heap) (locs : List Loc) (ls : Array Slot) (w1 : va_W), Wd dC dI A s.heap H locs w1 → TW ksM ad cy B qr 12 w1 → FE ksM [(71, 8, 8), (71, 288, 295)] w0 w1 → lv_has ls 2 [(0, .ref (ad 0)), (1, .int a1)] → W p l e ({ frames := 2, cells := 0, slots := 0, locals := 33 }) s m (List.toArray [.ref (ad 0), .int a1]) below meth c H locs 0 0 (MQ below (va_Qi (P_X12_came_1 ad cy B qr s1 a1 w0) (fun u : va_W => wpost dC dI cy A u) A) (List.toArray [.ref (ad 0), .int a1]) s 0 0 A) (F0 m 35 ls []) := by
    intro H locs ls w1 hw hT hF hl
    refine lv_bipush (v := (-2)) hx hb dX12_came_35 (by decide) ?_
    exact tk_iret hC hr hlocks hK ⟨hT, hF, (Or.inl rfl)⟩ hw dX12_came_37
  refine lv_iload_n hx hb dX12_came_0 rfl (lv_at hl 1 rfl) ?_
  refine lv_iconst (v := (-1)) hx hb dX12_came_1 (by decide) ?_
  refine lv_icmp_ne (tgt := 15) hx hb dX12_came_2 (by decide) (fun c2 => ?_) (fun c2 => ?_)
  · have c2 : ¬ a1.toInt = (-1 : Int) := wk_eqF c2
    refine lv_aload_n hx hb dX12_came_15 rfl (lv_at hl 0 rfl) ?_
    refine lv_iload_n hx hb dX12_came_16 rfl (lv_at hl 1 rfl) ?_
    refine tk_Vi hC hK hw hT hA hE hSR kM_at0 (by decide) rfl (k_X12_isCorner_1 l adK adV dC dI cy ad B (by omega) (by omega) qr s1   a1 w0 s.heap.size hT ) (cwV 1 hC.2.2.2.2 gX12_came_X12_isCorner rfl rfl rfl (by decide +kernel) ⟨Nat.le_of_ble_eq_true rfl, Nat.le_of_ble_eq_true rfl⟩) rfl hl.1 rfl (Nat.le_of_ble_eq_true rfl) dX12_came_17 (fun r3 w5 H locs hp4 hw => ?_)
    obtain ⟨rfl, hg11⟩ := hp4
    rcases hg11 with rfl | ⟨rfl, g7, g8, ⟨x9, c10, rx9, tx9⟩⟩
    · refine lv_if_eq (tgt := 35) hx hb dX12_came_20 (by decide) (fun _ => ?_) (fun c => absurd (by decide) c)
      exact J35  H locs ls w0   hw hT hF  (lv_sub hl [0, 1] rfl)
    · refine lv_if_eq (tgt := 35) hx hb dX12_came_20 (by decide) (fun c => absurd c (by decide)) (fun _ => ?_)
      refine lv_aload_n hx hb dX12_came_23 rfl (lv_at hl 0 rfl) ?_
      refine tk_getA hC hK hw hT hinX12 kM_at0 (by decide) rfl 26 (by decide) (List.mem_of_getElem? (i := 1) rfl) rfl rfl dX12_came_24 ?_
      refine lv_bipush (v := 8) hx hb dX12_came_27 (by decide) ?_
      refine tk_ialdR hC hK hw hT kM_at12 rfl (by decide) (by decide) dX12_came_29 (fun x12 c13 Ex12 => ?_)
      have bx12 := tk_rgI rfl 8 1 1 0 8 (by decide +kernel) ⟨0, by decide, by decide⟩ Ex12
      have c13 : gi w0 12 8 = x12 := c13
      refine lv_bipush (v := 8) hx hb dX12_came_30 (by decide) ?_
      refine lv_icmp_ne (tgt := 38) hx hb dX12_came_32 (by decide) (fun c14 => ?_) (fun c14 => ?_)
      · have c14 : ¬ x12.toInt = (8 : Int) := wk_eqF c14
        refine lv_aload_n hx hb dX12_came_38 rfl (lv_at hl 0 rfl) ?_
        refine tk_getA hC hK hw hT hinX12 kM_at0 (by decide) rfl 26 (by decide) (List.mem_of_getElem? (i := 1) rfl) rfl rfl dX12_came_39 ?_
        refine lv_sipush (v := 288) hx hb dX12_came_42 (by decide) ?_
        refine lv_aload_n hx hb dX12_came_45 rfl (lv_at hl 0 rfl) ?_
        refine tk_getA hC hK hw hT hinX12 kM_at0 (by decide) rfl 26 (by decide) (List.mem_of_getElem? (i := 1) rfl) rfl rfl dX12_came_46 ?_
        refine lv_bipush (v := 8) hx hb dX12_came_49 (by decide) ?_
        refine tk_ialdR hC hK hw hT kM_at12 rfl (by decide) (by decide) dX12_came_51 (fun x15 c16 Ex15 => ?_)
        refine wk_top x12 (c16.symm.trans c13) ?_
        refine lv_iadd hx hb dX12_came_52 ?_
        refine lv_topi (fun x17 ex17 => ?_)
        have ex17 : x17.toInt = (288 : Int) + x12.toInt := by rw [ex17]; exact wk_add (show (-2147483648) ≤ (288 : Int) + x12.toInt by omega) (show (288 : Int) + x12.toInt ≤ 2147483647 by omega)
        refine lv_iload_n hx hb dX12_came_53 rfl (lv_at hl 1 rfl) ?_
        refine tk_iastR hC hK hw hT kM_at12 (by decide) rfl (show 0 ≤ x17.toInt by omega) (show x17.toInt < 296 by omega) (tk_rgS rfl 288 1 8 0 9 (by decide +kernel) ⟨(x12.toInt - 0).toNat, by omega, show x17.toInt.toNat = 288 + 1 * (x12.toInt - 0).toNat by omega⟩ (show 0 ≤ a1.toInt by omega) (show a1.toInt ≤ 9 by omega)) dX12_came_54 (fun H locs w18 hw hT k20 c19 => ?_)
        have hF := hF.put kM_at12 (inE_of (a := 288) (b := 295) (by decide) (show 288 ≤ x17.toInt.toNat by omega) (show x17.toInt.toNat ≤ 295 by omega)) k20
        have c21 := k20.gi (Or.inr (show 0 ≠ x17.toInt.toNat by omega)) c10
        have c22 := k20.gi (Or.inr (show 8 ≠ x17.toInt.toNat by omega)) c13
        refine lv_aload_n hx hb dX12_came_55 rfl (lv_at hl 0 rfl) ?_
        refine tk_getA hC hK hw hT hinX12 kM_at0 (by decide) rfl 26 (by decide) (List.mem_of_getElem? (i := 1) rfl) rfl rfl dX12_came_56 ?_
        refine lv_bipush (v := 8) hx hb dX12_came_59 (by decide) ?_
        refine lv_dup2_11 hx hb dX12_came_61 rfl rfl ?_
        refine tk_ialdR hC hK hw hT kM_at12 rfl (by decide) (by decide) dX12_came_62 (fun x23 c24 Ex23 => ?_)
        refine wk_top x12 (c24.symm.trans c22) ?_
        refine lv_iconst (v := 1) hx hb dX12_came_63 (by decide) ?_
        refine lv_iadd hx hb dX12_came_64 ?_
        refine lv_topi (fun x25 ex25 => ?_)
        have ex25 : x25.toInt = x12.toInt + (1 : Int) := by rw [ex25]; exact wk_add (show (-2147483648) ≤ x12.toInt + (1 : Int) by omega) (show x12.toInt + (1 : Int) ≤ 2147483647 by omega)
        refine tk_iastR hC hK hw hT kM_at12 (by decide) rfl (by decide) (by decide) (tk_rgS rfl 8 1 1 1 8 (by decide +kernel) ⟨0, by decide, by decide⟩ (show 1 ≤ x25.toInt by omega) (show x25.toInt ≤ 8 by omega)) dX12_came_65 (fun H locs w26 hw hT k28 c27 => ?_)
        have hF := hF.put kM_at12 (inE_of (a := 8) (b := 8) (by decide) (by decide) (by decide)) k28
        have c29 := k28.gi (Or.inr (by decide)) c21
        have c27 : gi w26 12 8 = x25 := c27
        refine lv_aload_n hx hb dX12_came_66 rfl (lv_at hl 0 rfl) ?_
        refine tk_getA hC hK hw hT hinX12 kM_at0 (by decide) rfl 26 (by decide) (List.mem_of_getElem? (i := 1) rfl) rfl rfl dX12_came_67 ?_
        refine lv_bipush (v := 8) hx hb dX12_came_70 (by decide) ?_
        refine tk_ialdR hC hK hw hT kM_at12 rfl (by decide) (by decide) dX12_came_72 (fun x30 c31 Ex30 => ?_)
        refine wk_top x25 (c31.symm.trans c27) ?_
        exact tk_iret hC hr hlocks hK ⟨hT, hF, (Or.inr ⟨(show 0 ≤ x25.toInt by omega), (show x25.toInt ≤ 8 by omega), (show (-1) ≤ a1.toInt by omega), (show a1.toInt ≤ 9 by omega), ⟨x25, c27, (show 0 ≤ x25.toInt by omega), (show x25.toInt ≤ 8 by omega)⟩⟩)⟩ hw dX12_came_73
      · have c14 : x12.toInt = (8 : Int) := wk_eq.mp c14
        exact J35  H locs ls w0   hw hT hF  (lv_sub hl [0, 1] rfl)
  · have c2 : a1.toInt = (-1 : Int) := wk_eq.mp c2
    refine lv_aload_n hx hb dX12_came_5 rfl (lv_at hl 0 rfl) ?_
    refine tk_getA hC hK hw hT hinX12 kM_at0 (by decide) rfl 26 (by decide) (List.mem_of_getElem? (i := 1) rfl) rfl rfl dX12_came_6 ?_
    refine lv_bipush (v := 8) hx hb dX12_came_9 (by decide) ?_
    refine lv_iconst (v := 0) hx hb dX12_came_11 (by decide) ?_
    refine tk_iastR hC hK hw hT kM_at12 (by decide) rfl (by decide) (by decide) (tk_rg0 rfl (show 0 ≤ B by omega) (by decide)) dX12_came_12 (fun H locs w32 hw hT k34 c33 => ?_)
    have hF := hF.put kM_at12 (inE_of (a := 8) (b := 8) (by decide) (by decide) (by decide)) k34
    have c33 : gi w32 12 8 = 0 := c33
    refine lv_iconst (v := 0) hx hb dX12_came_13 (by decide) ?_
    exact tk_iret hC hr hlocks hK ⟨hT, hF, (Or.inr ⟨(by decide), (by decide), (show (-1) ≤ a1.toInt by omega), (show a1.toInt ≤ 9 by omega), ⟨0, c33, (by decide), (by decide)⟩⟩)⟩ hw dX12_came_14
abbrev P_X12_streetOf_11 (ad : Nat → Nat) (cy : Nat → ClassId) (B : Int) (qr : Nat) (s1 : Int) (a1 : Int32) (w0 : va_W) : Int32 → va_W → Prop := fun r u => w0 = u ∧ ((0 ≤ r.toInt ∧ r.toInt ≤ 9 ∧ gi u 12 (10 * a1.toInt + 10).toNat = r))
set_option maxHeartbeats 4000000 in
set_option maxRecDepth 100000 in
theorem k_X12_streetOf_11 (l : Launch) (adK adV : Nat → Nat) (dC : Nat → ClassId) (dI : Nat → Nat → Nat) (cy : Nat → ClassId) (ad : Nat → Nat) (B : Int) (hB0 : 100000 ≤ B) (hB1 : B ≤ 1073741824) (qr : Nat) (s1 : Int)  (a1 : Int32) (ra1 : 0 ≤ a1.toInt) (ta1 : a1.toInt ≤ 12) (w0 : va_W) (sz : Nat) (hT : TW ksM ad cy B qr 13 w0)  : Met l yX12_streetOf wsX12_streetOf ({ frames := 1, cells := 0, slots := 0, locals := 12 }) (va_Pc [.ref (ad 0), .int a1, .int 0] (wpreS adK adV dC dI cy sz w0)) (va_Qi (P_X12_streetOf_11 ad cy B qr s1 a1 w0) (fun u : va_W => wpost dC dI cy (va_A w0 sz) u) (va_A w0 sz)) 0 0 (va_A w0 sz) := by
  refine Met.ofW (cc := cX12_streetOf) (maxL := 3) (ret := (some .int)) (by decide) rfl ?_
  intro p e s m args below meth c s₁ Bk hml hv
  obtain ⟨rfl, ⟨hsz, hP, hK, hD0⟩, hE, hSR⟩ := hv
  have hx := Bk.exec
  have hb := Bk.bytes
  have hr := Bk.returns
  have hlocks := Bk.notSynchronized
  have hC : CallFix p m c cX12_streetOf 3 s _ wsX12_streetOf RX12 := ⟨hx, hb, hml, findClass_of_methodNamed Bk.named, atoms_spec (ws := wsX12_streetOf) Bk.pre⟩
  subst hsz
  have hD := hD0.self (sz := s.heap.size)
  generalize hAe : va_A w0 s.heap.size = A at hD hE ⊢
  have hA : ∀ q : Nat, s.heap.size ≤ q → A q := fun q h => by rw [← hAe]; exact Or.inr h
  have hw : Wd dC dI A s.heap s.heap [] w0 := ⟨hP, hD, va_S.rf⟩
  have hF : FE ksM ([] : List (Nat × Nat × Nat)) w0 w0 := FE.rf
  have hl := lv_entry ([.ref (ad 0), .int a1, .int 0]) (n := 3) (Nat.le_of_ble_eq_true rfl)
  rw [lg_entry_eq]
  generalize (lg_sl ([.ref (ad 0), .int a1, .int 0]) ++ List.replicate (3 - (lg_sl ([.ref (ad 0), .int a1, .int 0])).length) Slot.unset).toArray = ls at hl ⊢
  have hl : lv_has ls 3 [(0, .ref (ad 0)), (1, .int a1), (2, .int 0)] := hl
  generalize hloc : ([] : List Loc) = locs at hw ⊢
  have hinX12 : ∀ w ∈ u_ws RX12 TX12 42, w ∈ wsX12_streetOf := fun _ h => List.mem_cons_of_mem _ (List.mem_append_right _ (h))
  refine lv_aload_n hx hb dX12_streetOf_0 rfl (lv_at hl 0 rfl) ?_
  refine tk_getA hC hK hw hT hinX12 kM_at0 (by decide) rfl 26 (by decide) (List.mem_of_getElem? (i := 1) rfl) rfl rfl dX12_streetOf_1 ?_
  refine lv_bipush (v := 10) hx hb dX12_streetOf_4 (by decide) ?_
  refine lv_bipush (v := 10) hx hb dX12_streetOf_6 (by decide) ?_
  refine lv_iload_n hx hb dX12_streetOf_8 rfl (lv_at hl 1 rfl) ?_
  refine lv_imul hx hb dX12_streetOf_9 ?_
  refine lv_topi (fun x1 ex1 => ?_)
  have ex1 : x1.toInt = (10 : Int) * a1.toInt := by rw [ex1]; exact wk_mul (show (-2147483648) ≤ (10 : Int) * a1.toInt by omega) (show (10 : Int) * a1.toInt ≤ 2147483647 by omega)
  refine lv_iadd hx hb dX12_streetOf_10 ?_
  refine lv_topi (fun x2 ex2 => ?_)
  have ex2 : x2.toInt = (10 : Int) + x1.toInt := by rw [ex2]; exact wk_add (show (-2147483648) ≤ (10 : Int) + x1.toInt by omega) (show (10 : Int) + x1.toInt ≤ 2147483647 by omega)
  refine lv_iload_n hx hb dX12_streetOf_11 rfl (lv_at hl 2 rfl) ?_
  refine lv_iadd hx hb dX12_streetOf_12 ?_
  refine lv_topi (fun x3 ex3 => ?_)
  have ex3 : x3.toInt = x2.toInt + (0 : Int) := by rw [ex3]; exact wk_add (show (-2147483648) ≤ x2.toInt + (0 : Int) by omega) (show x2.toInt + (0 : Int) ≤ 2147483647 by omega)
  refine tk_ialdR hC hK hw hT kM_at12 rfl (show 0 ≤ x3.toInt by omega) (show x3.toInt < 296 by omega) dX12_streetOf_13 (fun x4 c5 Ex4 => ?_)
  have c5 : gi w0 12 (10 * a1.toInt + 10).toNat = x4 := (congrArg (gi w0 12) (congrArg Int.toNat (show 10 * a1.toInt + 10 = x3.toInt by omega))).trans c5
  have bx4 := tk_rgI rfl 10 10 13 0 9 (by decide +kernel) ⟨(a1.toInt - 0).toNat, by omega, show x3.toInt.toNat = 10 + 10 * (a1.toInt - 0).toNat by omega⟩ Ex4
  exact tk_iret hC hr hlocks hK ⟨rfl, ⟨(show 0 ≤ x4.toInt by omega), (show x4.toInt ≤ 9 by omega), c5⟩⟩ hw dX12_streetOf_14
abbrev P_X12_streetOf_12 (ad : Nat → Nat) (cy : Nat → ClassId) (B : Int) (qr : Nat) (s1 : Int) (a1 : Int32) (w0 : va_W) : Int32 → va_W → Prop := fun r u => w0 = u ∧ ((0 ≤ r.toInt ∧ r.toInt ≤ 9 ∧ gi u 12 (10 * a1.toInt + 11).toNat = r))
set_option maxHeartbeats 4000000 in
set_option maxRecDepth 100000 in
theorem k_X12_streetOf_12 (l : Launch) (adK adV : Nat → Nat) (dC : Nat → ClassId) (dI : Nat → Nat → Nat) (cy : Nat → ClassId) (ad : Nat → Nat) (B : Int) (hB0 : 100000 ≤ B) (hB1 : B ≤ 1073741824) (qr : Nat) (s1 : Int)  (a1 : Int32) (ra1 : 0 ≤ a1.toInt) (ta1 : a1.toInt ≤ 12) (w0 : va_W) (sz : Nat) (hT : TW ksM ad cy B qr 13 w0)  : Met l yX12_streetOf wsX12_streetOf ({ frames := 1, cells := 0, slots := 0, locals := 12 }) (va_Pc [.ref (ad 0), .int a1, .int 1] (wpreS adK adV dC dI cy sz w0)) (va_Qi (P_X12_streetOf_12 ad cy B qr s1 a1 w0) (fun u : va_W => wpost dC dI cy (va_A w0 sz) u) (va_A w0 sz)) 0 0 (va_A w0 sz) := by
  refine Met.ofW (cc := cX12_streetOf) (maxL := 3) (ret := (some .int)) (by decide) rfl ?_
  intro p e s m args below meth c s₁ Bk hml hv
  obtain ⟨rfl, ⟨hsz, hP, hK, hD0⟩, hE, hSR⟩ := hv
  have hx := Bk.exec
  have hb := Bk.bytes
  have hr := Bk.returns
  have hlocks := Bk.notSynchronized
  have hC : CallFix p m c cX12_streetOf 3 s _ wsX12_streetOf RX12 := ⟨hx, hb, hml, findClass_of_methodNamed Bk.named, atoms_spec (ws := wsX12_streetOf) Bk.pre⟩
  subst hsz
  have hD := hD0.self (sz := s.heap.size)
  generalize hAe : va_A w0 s.heap.size = A at hD hE ⊢
  have hA : ∀ q : Nat, s.heap.size ≤ q → A q := fun q h => by rw [← hAe]; exact Or.inr h
  have hw : Wd dC dI A s.heap s.heap [] w0 := ⟨hP, hD, va_S.rf⟩
  have hF : FE ksM ([] : List (Nat × Nat × Nat)) w0 w0 := FE.rf
  have hl := lv_entry ([.ref (ad 0), .int a1, .int 1]) (n := 3) (Nat.le_of_ble_eq_true rfl)
  rw [lg_entry_eq]
  generalize (lg_sl ([.ref (ad 0), .int a1, .int 1]) ++ List.replicate (3 - (lg_sl ([.ref (ad 0), .int a1, .int 1])).length) Slot.unset).toArray = ls at hl ⊢
  have hl : lv_has ls 3 [(0, .ref (ad 0)), (1, .int a1), (2, .int 1)] := hl
  generalize hloc : ([] : List Loc) = locs at hw ⊢
  have hinX12 : ∀ w ∈ u_ws RX12 TX12 42, w ∈ wsX12_streetOf := fun _ h => List.mem_cons_of_mem _ (List.mem_append_right _ (h))
  refine lv_aload_n hx hb dX12_streetOf_0 rfl (lv_at hl 0 rfl) ?_
  refine tk_getA hC hK hw hT hinX12 kM_at0 (by decide) rfl 26 (by decide) (List.mem_of_getElem? (i := 1) rfl) rfl rfl dX12_streetOf_1 ?_
  refine lv_bipush (v := 10) hx hb dX12_streetOf_4 (by decide) ?_
  refine lv_bipush (v := 10) hx hb dX12_streetOf_6 (by decide) ?_
  refine lv_iload_n hx hb dX12_streetOf_8 rfl (lv_at hl 1 rfl) ?_
  refine lv_imul hx hb dX12_streetOf_9 ?_
  refine lv_topi (fun x1 ex1 => ?_)
  have ex1 : x1.toInt = (10 : Int) * a1.toInt := by rw [ex1]; exact wk_mul (show (-2147483648) ≤ (10 : Int) * a1.toInt by omega) (show (10 : Int) * a1.toInt ≤ 2147483647 by omega)
  refine lv_iadd hx hb dX12_streetOf_10 ?_
  refine lv_topi (fun x2 ex2 => ?_)
  have ex2 : x2.toInt = (10 : Int) + x1.toInt := by rw [ex2]; exact wk_add (show (-2147483648) ≤ (10 : Int) + x1.toInt by omega) (show (10 : Int) + x1.toInt ≤ 2147483647 by omega)
  refine lv_iload_n hx hb dX12_streetOf_11 rfl (lv_at hl 2 rfl) ?_
  refine lv_iadd hx hb dX12_streetOf_12 ?_
  refine lv_topi (fun x3 ex3 => ?_)
  have ex3 : x3.toInt = x2.toInt + (1 : Int) := by rw [ex3]; exact wk_add (show (-2147483648) ≤ x2.toInt + (1 : Int) by omega) (show x2.toInt + (1 : Int) ≤ 2147483647 by omega)
  refine tk_ialdR hC hK hw hT kM_at12 rfl (show 0 ≤ x3.toInt by omega) (show x3.toInt < 296 by omega) dX12_streetOf_13 (fun x4 c5 Ex4 => ?_)
  have c5 : gi w0 12 (10 * a1.toInt + 11).toNat = x4 := (congrArg (gi w0 12) (congrArg Int.toNat (show 10 * a1.toInt + 11 = x3.toInt by omega))).trans c5
  have bx4 := tk_rgI rfl 11 10 13 0 9 (by decide +kernel) ⟨(a1.toInt - 0).toNat, by omega, show x3.toInt.toNat = 11 + 10 * (a1.toInt - 0).toNat by omega⟩ Ex4
  exact tk_iret hC hr hlocks hK ⟨rfl, ⟨(show 0 ≤ x4.toInt by omega), (show x4.toInt ≤ 9 by omega), c5⟩⟩ hw dX12_streetOf_14
abbrev P_X12_isAt_3 (ad : Nat → Nat) (cy : Nat → ClassId) (B : Int) (qr : Nat) (s1 : Int) (a1 : Int32) (a2 : Int32) (w0 : va_W) : Int32 → va_W → Prop := fun r u => w0 = u ∧ ((r = 0) ∨ (r = 1))
set_option maxHeartbeats 4000000 in
set_option maxRecDepth 100000 in
theorem k_X12_isAt_3 (l : Launch) (adK adV : Nat → Nat) (dC : Nat → ClassId) (dI : Nat → Nat → Nat) (cy : Nat → ClassId) (ad : Nat → Nat) (B : Int) (hB0 : 100000 ≤ B) (hB1 : B ≤ 1073741824) (qr : Nat) (s1 : Int)  (a1 : Int32) (ra1 : 0 ≤ a1.toInt) (ta1 : a1.toInt ≤ 12) (a2 : Int32) (ra2 : 0 ≤ a2.toInt) (ta2 : a2.toInt ≤ 9) (w0 : va_W) (sz : Nat) (hT : TW ksM ad cy B qr 13 w0)  : Met l yX12_isAt wsX12_isAt ({ frames := 2, cells := 0, slots := 0, locals := 34 }) (va_Pc [.ref (ad 0), .int a1, .int a2] (wpreS adK adV dC dI cy sz w0)) (va_Qi (P_X12_isAt_3 ad cy B qr s1 a1 a2 w0) (fun u : va_W => wpost dC dI cy (va_A w0 sz) u) (va_A w0 sz)) 0 0 (va_A w0 sz) := by
  refine Met.ofW (cc := cX12_isAt) (maxL := 3) (ret := (some .boolean)) (by decide) rfl ?_
  intro p e s m args below meth c s₁ Bk hml hv
  obtain ⟨rfl, ⟨hsz, hP, hK, hD0⟩, hE, hSR⟩ := hv
  have hx := Bk.exec
  have hb := Bk.bytes
  have hr := Bk.returns
  have hlocks := Bk.notSynchronized
  have hC : CallFix p m c cX12_isAt 3 s _ wsX12_isAt RX12 := ⟨hx, hb, hml, findClass_of_methodNamed Bk.named, atoms_spec (ws := wsX12_isAt) Bk.pre⟩
  subst hsz
  have hD := hD0.self (sz := s.heap.size)
  generalize hAe : va_A w0 s.heap.size = A at hD hE ⊢
  have hA : ∀ q : Nat, s.heap.size ≤ q → A q := fun q h => by rw [← hAe]; exact Or.inr h
  have hw : Wd dC dI A s.heap s.heap [] w0 := ⟨hP, hD, va_S.rf⟩
  have hF : FE ksM ([] : List (Nat × Nat × Nat)) w0 w0 := FE.rf
  have hl := lv_entry ([.ref (ad 0), .int a1, .int a2]) (n := 3) (Nat.le_of_ble_eq_true rfl)
  rw [lg_entry_eq]
  generalize (lg_sl ([.ref (ad 0), .int a1, .int a2]) ++ List.replicate (3 - (lg_sl ([.ref (ad 0), .int a1, .int a2])).length) Slot.unset).toArray = ls at hl ⊢
  have hl : lv_has ls 3 [(0, .ref (ad 0)), (1, .int a1), (2, .int a2)] := hl
  generalize hloc : ([] : List Loc) = locs at hw ⊢
  have J20 : ∀ (f20_12__10_a1_toInt_10_toNat : Int32) (H : Heap) (locs : List Loc) (ls : Array Slot), 0 ≤ a1.toInt → a1.toInt ≤ 12 → 0 ≤ a2.toInt → a2.toInt ≤ 9 → 0 ≤ f20_12__10_a1_toInt_10_toNat.toInt → f20_12__10_a1_toInt_10_toNat.toInt ≤ 9 → Wd dC dI A s.heap H locs w0 → gi w0 12 (10 * a1.toInt + 10).toNat = f20_12__10_a1_toInt_10_toNat → lv_has ls 3 [(0, .ref (ad 0)), (1, .int a1), (2, .int a2)] → W p l e ({ frames := 2, cells := 0, slots := 0, locals := 34 }) s m (List.toArray [.ref (ad 0), .int a1, .int a2]) below meth c H locs 0 0 (MQ below (va_Qi (P_X12_isAt_3 ad cy B qr s1 a1 a2 w0) (fun u : va_W => wpost dC dI cy A u) A) (List.toArray [.ref (ad 0), .int a1, .int a2]) s 0 0 A) (F0 m 20 ls []) := by
    intro f20_12__10_a1_toInt_10_toNat H locs ls r1 t2 r3 t4 r5 t6 hw c7 hl
    refine lv_iconst (v := 1) hx hb dX12_isAt_20 (by decide) ?_
    refine lv_goto (tgt := 25) hx hb dX12_isAt_21 (by decide) ?_
    exact tk_zret hC hr rfl hlocks hK ⟨rfl, (Or.inr rfl)⟩ hw dX12_isAt_25
  refine lv_aload_n hx hb dX12_isAt_0 rfl (lv_at hl 0 rfl) ?_
  refine lv_iload_n hx hb dX12_isAt_1 rfl (lv_at hl 1 rfl) ?_
  refine lv_iconst (v := 0) hx hb dX12_isAt_2 (by decide) ?_
  refine tk_Vi hC hK hw hT hA hE hSR kM_at0 (by decide) rfl (k_X12_streetOf_11 l adK adV dC dI cy ad B (by omega) (by omega) qr s1   a1 (show 0 ≤ a1.toInt by omega) (show a1.toInt ≤ 12 by omega) w0 s.heap.size hT ) (cwV 2 hC.2.2.2.2 gX12_isAt_X12_streetOf rfl rfl rfl (by decide +kernel) ⟨Nat.le_of_ble_eq_true rfl, Nat.le_of_ble_eq_true rfl⟩) rfl hl.1 rfl (Nat.le_of_ble_eq_true rfl) dX12_isAt_3 (fun r8 w10 H locs hp9 hw => ?_)
  obtain ⟨rfl, hg15⟩ := hp9
  obtain ⟨g12, g13, c14⟩ := hg15
  refine lv_iload_n hx hb dX12_isAt_6 rfl (lv_at hl 2 rfl) ?_
  refine lv_icmp_eq (tgt := 20) hx hb dX12_isAt_7 (by decide) (fun c16 => ?_) (fun c16 => ?_)
  · have c16 : r8.toInt = a2.toInt := wk_eq.mp c16
    exact J20 r8 H locs ls  (show 0 ≤ a1.toInt by omega) (show a1.toInt ≤ 12 by omega) (show 0 ≤ a2.toInt by omega) (show a2.toInt ≤ 9 by omega) (show 0 ≤ r8.toInt by omega) (show r8.toInt ≤ 9 by omega)  hw  c14 (lv_sub hl [0, 1, 2] rfl)
  · have c16 : ¬ r8.toInt = a2.toInt := wk_eqF c16
    refine lv_aload_n hx hb dX12_isAt_10 rfl (lv_at hl 0 rfl) ?_
    refine lv_iload_n hx hb dX12_isAt_11 rfl (lv_at hl 1 rfl) ?_
    refine lv_iconst (v := 1) hx hb dX12_isAt_12 (by decide) ?_
    refine tk_Vi hC hK hw hT hA hE hSR kM_at0 (by decide) rfl (k_X12_streetOf_12 l adK adV dC dI cy ad B (by omega) (by omega) qr s1   a1 (show 0 ≤ a1.toInt by omega) (show a1.toInt ≤ 12 by omega) w0 H.size hT ) (cwV 2 hC.2.2.2.2 gX12_isAt_X12_streetOf rfl rfl rfl (by decide +kernel) ⟨Nat.le_of_ble_eq_true rfl, Nat.le_of_ble_eq_true rfl⟩) rfl hl.1 rfl (Nat.le_of_ble_eq_true rfl) dX12_isAt_13 (fun r17 w19 H locs hp18 hw => ?_)
    obtain ⟨rfl, hg24⟩ := hp18
    obtain ⟨g21, g22, c23⟩ := hg24
    refine lv_iload_n hx hb dX12_isAt_16 rfl (lv_at hl 2 rfl) ?_
    refine lv_icmp_ne (tgt := 24) hx hb dX12_isAt_17 (by decide) (fun c25 => ?_) (fun c25 => ?_)
    · have c25 : ¬ r17.toInt = a2.toInt := wk_eqF c25
      refine lv_iconst (v := 0) hx hb dX12_isAt_24 (by decide) ?_
      exact tk_zret hC hr rfl hlocks hK ⟨rfl, (Or.inl rfl)⟩ hw dX12_isAt_25
    · have c25 : r17.toInt = a2.toInt := wk_eq.mp c25
      exact J20 r8 H locs ls  (show 0 ≤ a1.toInt by omega) (show a1.toInt ≤ 12 by omega) (show 0 ≤ a2.toInt by omega) (show a2.toInt ≤ 9 by omega) (show 0 ≤ r8.toInt by omega) (show r8.toInt ≤ 9 by omega)  hw  c14 (lv_sub hl [0, 1, 2] rfl)
abbrev P_X12_streetOf_13 (ad : Nat → Nat) (cy : Nat → ClassId) (B : Int) (qr : Nat) (s1 : Int) (a1 : Int32) (a2 : Int32) (w0 : va_W) : Int32 → va_W → Prop := fun r u => w0 = u ∧ ((0 ≤ r.toInt ∧ r.toInt ≤ 9))
set_option maxHeartbeats 4000000 in
set_option maxRecDepth 100000 in
theorem k_X12_streetOf_13 (l : Launch) (adK adV : Nat → Nat) (dC : Nat → ClassId) (dI : Nat → Nat → Nat) (cy : Nat → ClassId) (ad : Nat → Nat) (B : Int) (hB0 : 100000 ≤ B) (hB1 : B ≤ 1073741824) (qr : Nat) (s1 : Int)  (a1 : Int32) (ra1 : 0 ≤ a1.toInt) (ta1 : a1.toInt ≤ 12) (a2 : Int32) (ra2 : 3 ≤ a2.toInt) (ta2 : a2.toInt ≤ 9) (w0 : va_W) (sz : Nat) (hT : TW ksM ad cy B qr 13 w0)  : Met l yX12_streetOf wsX12_streetOf ({ frames := 1, cells := 0, slots := 0, locals := 12 }) (va_Pc [.ref (ad 0), .int a1, .int a2] (wpreS adK adV dC dI cy sz w0)) (va_Qi (P_X12_streetOf_13 ad cy B qr s1 a1 a2 w0) (fun u : va_W => wpost dC dI cy (va_A w0 sz) u) (va_A w0 sz)) 0 0 (va_A w0 sz) := by
  refine Met.ofW (cc := cX12_streetOf) (maxL := 3) (ret := (some .int)) (by decide) rfl ?_
  intro p e s m args below meth c s₁ Bk hml hv
  obtain ⟨rfl, ⟨hsz, hP, hK, hD0⟩, hE, hSR⟩ := hv
  have hx := Bk.exec
  have hb := Bk.bytes
  have hr := Bk.returns
  have hlocks := Bk.notSynchronized
  have hC : CallFix p m c cX12_streetOf 3 s _ wsX12_streetOf RX12 := ⟨hx, hb, hml, findClass_of_methodNamed Bk.named, atoms_spec (ws := wsX12_streetOf) Bk.pre⟩
  subst hsz
  have hD := hD0.self (sz := s.heap.size)
  generalize hAe : va_A w0 s.heap.size = A at hD hE ⊢
  have hA : ∀ q : Nat, s.heap.size ≤ q → A q := fun q h => by rw [← hAe]; exact Or.inr h
  have hw : Wd dC dI A s.heap s.heap [] w0 := ⟨hP, hD, va_S.rf⟩
  have hF : FE ksM ([] : List (Nat × Nat × Nat)) w0 w0 := FE.rf
  have hl := lv_entry ([.ref (ad 0), .int a1, .int a2]) (n := 3) (Nat.le_of_ble_eq_true rfl)
  rw [lg_entry_eq]
  generalize (lg_sl ([.ref (ad 0), .int a1, .int a2]) ++ List.replicate (3 - (lg_sl ([.ref (ad 0), .int a1, .int a2])).length) Slot.unset).toArray = ls at hl ⊢
  have hl : lv_has ls 3 [(0, .ref (ad 0)), (1, .int a1), (2, .int a2)] := hl
  generalize hloc : ([] : List Loc) = locs at hw ⊢
  have hinX12 : ∀ w ∈ u_ws RX12 TX12 42, w ∈ wsX12_streetOf := fun _ h => List.mem_cons_of_mem _ (List.mem_append_right _ (h))
  refine lv_aload_n hx hb dX12_streetOf_0 rfl (lv_at hl 0 rfl) ?_
  refine tk_getA hC hK hw hT hinX12 kM_at0 (by decide) rfl 26 (by decide) (List.mem_of_getElem? (i := 1) rfl) rfl rfl dX12_streetOf_1 ?_
  refine lv_bipush (v := 10) hx hb dX12_streetOf_4 (by decide) ?_
  refine lv_bipush (v := 10) hx hb dX12_streetOf_6 (by decide) ?_
  refine lv_iload_n hx hb dX12_streetOf_8 rfl (lv_at hl 1 rfl) ?_
  refine lv_imul hx hb dX12_streetOf_9 ?_
  refine lv_topi (fun x1 ex1 => ?_)
  have ex1 : x1.toInt = (10 : Int) * a1.toInt := by rw [ex1]; exact wk_mul (show (-2147483648) ≤ (10 : Int) * a1.toInt by omega) (show (10 : Int) * a1.toInt ≤ 2147483647 by omega)
  refine lv_iadd hx hb dX12_streetOf_10 ?_
  refine lv_topi (fun x2 ex2 => ?_)
  have ex2 : x2.toInt = (10 : Int) + x1.toInt := by rw [ex2]; exact wk_add (show (-2147483648) ≤ (10 : Int) + x1.toInt by omega) (show (10 : Int) + x1.toInt ≤ 2147483647 by omega)
  refine lv_iload_n hx hb dX12_streetOf_11 rfl (lv_at hl 2 rfl) ?_
  refine lv_iadd hx hb dX12_streetOf_12 ?_
  refine lv_topi (fun x3 ex3 => ?_)
  have ex3 : x3.toInt = x2.toInt + a2.toInt := by rw [ex3]; exact wk_add (show (-2147483648) ≤ x2.toInt + a2.toInt by omega) (show x2.toInt + a2.toInt ≤ 2147483647 by omega)
  refine tk_ialdR hC hK hw hT kM_at12 rfl (show 0 ≤ x3.toInt by omega) (show x3.toInt < 296 by omega) dX12_streetOf_13 (fun x4 c5 Ex4 => ?_)
  have c5 : gi w0 12 (x3.toInt).toNat = x4 := (congrArg (gi w0 12) (congrArg Int.toNat (show x3.toInt = x3.toInt by omega))).trans c5
  have bx4 := tk_rgI rfl 13 1 127 0 9 (by decide +kernel) ⟨(x3.toInt - 13).toNat, by omega, show x3.toInt.toNat = 13 + 1 * (x3.toInt - 13).toNat by omega⟩ Ex4
  exact tk_iret hC hr hlocks hK ⟨rfl, ⟨(show 0 ≤ x4.toInt by omega), (show x4.toInt ≤ 9 by omega)⟩⟩ hw dX12_streetOf_14
abbrev P_X12_isOf_9 (ad : Nat → Nat) (cy : Nat → ClassId) (B : Int) (qr : Nat) (s1 : Int) (a0 : Int32) (w0 : va_W) : Int32 → va_W → Prop := fun r u => w0 = u ∧ ((r = 0) ∨ (r = 1))
set_option maxHeartbeats 4000000 in
set_option maxRecDepth 100000 in
theorem k_X12_isOf_9 (l : Launch) (adK adV : Nat → Nat) (dC : Nat → ClassId) (dI : Nat → Nat → Nat) (cy : Nat → ClassId) (ad : Nat → Nat) (B : Int) (hB0 : 100000 ≤ B) (hB1 : B ≤ 1073741824) (qr : Nat) (s1 : Int)  (a0 : Int32) (ra0 : 0 ≤ a0.toInt) (ta0 : a0.toInt ≤ 9) (w0 : va_W) (sz : Nat) (hT : TW ksM ad cy B qr 13 w0)  : Met l yX12_isOf wsX12_isOf ({ frames := 1, cells := 0, slots := 0, locals := 12 }) (va_Pc [.int a0, .int 1] (wpreS adK adV dC dI cy sz w0)) (va_Qi (P_X12_isOf_9 ad cy B qr s1 a0 w0) (fun u : va_W => wpost dC dI cy (va_A w0 sz) u) (va_A w0 sz)) 0 0 (va_A w0 sz) := by
  refine Met.ofW (cc := cX12_isOf) (maxL := 2) (ret := (some .boolean)) (by decide) rfl ?_
  intro p e s m args below meth c s₁ Bk hml hv
  obtain ⟨rfl, ⟨hsz, hP, hK, hD0⟩, hE, hSR⟩ := hv
  have hx := Bk.exec
  have hb := Bk.bytes
  have hr := Bk.returns
  have hlocks := Bk.notSynchronized
  have hC : CallFix p m c cX12_isOf 2 s _ wsX12_isOf RX12 := ⟨hx, hb, hml, findClass_of_methodNamed Bk.named, atoms_spec (ws := wsX12_isOf) Bk.pre⟩
  subst hsz
  have hD := hD0.self (sz := s.heap.size)
  generalize hAe : va_A w0 s.heap.size = A at hD hE ⊢
  have hA : ∀ q : Nat, s.heap.size ≤ q → A q := fun q h => by rw [← hAe]; exact Or.inr h
  have hw : Wd dC dI A s.heap s.heap [] w0 := ⟨hP, hD, va_S.rf⟩
  have hF : FE ksM ([] : List (Nat × Nat × Nat)) w0 w0 := FE.rf
  have hl := lv_entry ([.int a0, .int 1]) (n := 2) (Nat.le_of_ble_eq_true rfl)
  rw [lg_entry_eq]
  generalize (lg_sl ([.int a0, .int 1]) ++ List.replicate (2 - (lg_sl ([.int a0, .int 1])).length) Slot.unset).toArray = ls at hl ⊢
  have hl : lv_has ls 2 [(0, .int a0), (1, .int 1)] := hl
  generalize hloc : ([] : List Loc) = locs at hw ⊢
  refine lv_iload_n hx hb dX12_isOf_0 rfl (lv_at hl 0 rfl) ?_
  refine lv_iload_n hx hb dX12_isOf_1 rfl (lv_at hl 1 rfl) ?_
  refine lv_ishr hx hb dX12_isOf_2 ?_
  refine lv_topi (fun x1 ex1 => ?_)
  have bx1 : 0 ≤ x1.toInt ∧ x1.toInt ≤ a0.toInt := by rw [ex1]; exact wk_shr (by omega)
  refine lv_iconst (v := 1) hx hb dX12_isOf_3 (by decide) ?_
  refine lv_iand hx hb dX12_isOf_4 ?_
  refine lv_topi (fun x2 ex2 => ?_)
  have bx2 : 0 ≤ x2.toInt ∧ x2.toInt ≤ (1 : Int) := by rw [ex2]; exact wk_and (by decide)
  refine lv_iconst (v := 1) hx hb dX12_isOf_5 (by decide) ?_
  refine lv_icmp_ne (tgt := 13) hx hb dX12_isOf_6 (by decide) (fun c3 => ?_) (fun c3 => ?_)
  · have c3 : ¬ x2.toInt = (1 : Int) := wk_eqF c3
    refine lv_iconst (v := 0) hx hb dX12_isOf_13 (by decide) ?_
    exact tk_zret hC hr rfl hlocks hK ⟨rfl, (Or.inl rfl)⟩ hw dX12_isOf_14
  · have c3 : x2.toInt = (1 : Int) := wk_eq.mp c3
    refine lv_iconst (v := 1) hx hb dX12_isOf_9 (by decide) ?_
    refine lv_goto (tgt := 14) hx hb dX12_isOf_10 (by decide) ?_
    exact tk_zret hC hr rfl hlocks hK ⟨rfl, (Or.inr rfl)⟩ hw dX12_isOf_14
abbrev P_X12_isOf_10 (ad : Nat → Nat) (cy : Nat → ClassId) (B : Int) (qr : Nat) (s1 : Int) (a0 : Int32) (w0 : va_W) : Int32 → va_W → Prop := fun r u => w0 = u ∧ ((r = 0) ∨ (r = 1))
set_option maxHeartbeats 4000000 in
set_option maxRecDepth 100000 in
theorem k_X12_isOf_10 (l : Launch) (adK adV : Nat → Nat) (dC : Nat → ClassId) (dI : Nat → Nat → Nat) (cy : Nat → ClassId) (ad : Nat → Nat) (B : Int) (hB0 : 100000 ≤ B) (hB1 : B ≤ 1073741824) (qr : Nat) (s1 : Int)  (a0 : Int32) (ra0 : 0 ≤ a0.toInt) (ta0 : a0.toInt ≤ 9) (w0 : va_W) (sz : Nat) (hT : TW ksM ad cy B qr 13 w0)  : Met l yX12_isOf wsX12_isOf ({ frames := 1, cells := 0, slots := 0, locals := 12 }) (va_Pc [.int a0, .int 0] (wpreS adK adV dC dI cy sz w0)) (va_Qi (P_X12_isOf_10 ad cy B qr s1 a0 w0) (fun u : va_W => wpost dC dI cy (va_A w0 sz) u) (va_A w0 sz)) 0 0 (va_A w0 sz) := by
  refine Met.ofW (cc := cX12_isOf) (maxL := 2) (ret := (some .boolean)) (by decide) rfl ?_
  intro p e s m args below meth c s₁ Bk hml hv
  obtain ⟨rfl, ⟨hsz, hP, hK, hD0⟩, hE, hSR⟩ := hv
  have hx := Bk.exec
  have hb := Bk.bytes
  have hr := Bk.returns
  have hlocks := Bk.notSynchronized
  have hC : CallFix p m c cX12_isOf 2 s _ wsX12_isOf RX12 := ⟨hx, hb, hml, findClass_of_methodNamed Bk.named, atoms_spec (ws := wsX12_isOf) Bk.pre⟩
  subst hsz
  have hD := hD0.self (sz := s.heap.size)
  generalize hAe : va_A w0 s.heap.size = A at hD hE ⊢
  have hA : ∀ q : Nat, s.heap.size ≤ q → A q := fun q h => by rw [← hAe]; exact Or.inr h
  have hw : Wd dC dI A s.heap s.heap [] w0 := ⟨hP, hD, va_S.rf⟩
  have hF : FE ksM ([] : List (Nat × Nat × Nat)) w0 w0 := FE.rf
  have hl := lv_entry ([.int a0, .int 0]) (n := 2) (Nat.le_of_ble_eq_true rfl)
  rw [lg_entry_eq]
  generalize (lg_sl ([.int a0, .int 0]) ++ List.replicate (2 - (lg_sl ([.int a0, .int 0])).length) Slot.unset).toArray = ls at hl ⊢
  have hl : lv_has ls 2 [(0, .int a0), (1, .int 0)] := hl
  generalize hloc : ([] : List Loc) = locs at hw ⊢
  refine lv_iload_n hx hb dX12_isOf_0 rfl (lv_at hl 0 rfl) ?_
  refine lv_iload_n hx hb dX12_isOf_1 rfl (lv_at hl 1 rfl) ?_
  refine lv_ishr hx hb dX12_isOf_2 ?_
  refine lv_topi (fun x1 ex1 => ?_)
  have bx1 : 0 ≤ x1.toInt ∧ x1.toInt ≤ a0.toInt := by rw [ex1]; exact wk_shr (by omega)
  refine lv_iconst (v := 1) hx hb dX12_isOf_3 (by decide) ?_
  refine lv_iand hx hb dX12_isOf_4 ?_
  refine lv_topi (fun x2 ex2 => ?_)
  have bx2 : 0 ≤ x2.toInt ∧ x2.toInt ≤ (1 : Int) := by rw [ex2]; exact wk_and (by decide)
  refine lv_iconst (v := 1) hx hb dX12_isOf_5 (by decide) ?_
  refine lv_icmp_ne (tgt := 13) hx hb dX12_isOf_6 (by decide) (fun c3 => ?_) (fun c3 => ?_)
  · have c3 : ¬ x2.toInt = (1 : Int) := wk_eqF c3
    refine lv_iconst (v := 0) hx hb dX12_isOf_13 (by decide) ?_
    exact tk_zret hC hr rfl hlocks hK ⟨rfl, (Or.inl rfl)⟩ hw dX12_isOf_14
  · have c3 : x2.toInt = (1 : Int) := wk_eq.mp c3
    refine lv_iconst (v := 1) hx hb dX12_isOf_9 (by decide) ?_
    refine lv_goto (tgt := 14) hx hb dX12_isOf_10 (by decide) ?_
    exact tk_zret hC hr rfl hlocks hK ⟨rfl, (Or.inr rfl)⟩ hw dX12_isOf_14
abbrev P_X12_hasSign_3 (ad : Nat → Nat) (cy : Nat → ClassId) (B : Int) (qr : Nat) (s1 : Int) (a1 : Int32) (a2 : Int32) (a3 : Int32) (w0 : va_W) : Int32 → va_W → Prop := fun r u => w0 = u ∧ ((r = 0) ∨ (r = 0 ∧ gi u 12 (10 * a2.toInt + 10).toNat = a3) ∨ (r = 1) ∨ (r = 1 ∧ gi u 12 (10 * a2.toInt + 10).toNat = a3))
set_option maxHeartbeats 4000000 in
set_option maxRecDepth 100000 in
theorem k_X12_hasSign_3 (l : Launch) (adK adV : Nat → Nat) (dC : Nat → ClassId) (dI : Nat → Nat → Nat) (cy : Nat → ClassId) (ad : Nat → Nat) (B : Int) (hB0 : 100000 ≤ B) (hB1 : B ≤ 1073741824) (qr : Nat) (s1 : Int)  (a1 : Int32) (ra1 : 0 ≤ a1.toInt) (ta1 : a1.toInt ≤ 9) (a2 : Int32) (ra2 : 0 ≤ a2.toInt) (ta2 : a2.toInt ≤ 12) (a3 : Int32) (ra3 : 0 ≤ a3.toInt) (ta3 : a3.toInt ≤ 9) (w0 : va_W) (sz : Nat) (hT : TW ksM ad cy B qr 13 w0)  : Met l yX12_hasSign wsX12_hasSign ({ frames := 2, cells := 0, slots := 0, locals := 34 }) (va_Pc [.ref (ad 0), .int a1, .int a2, .int a3] (wpreS adK adV dC dI cy sz w0)) (va_Qi (P_X12_hasSign_3 ad cy B qr s1 a1 a2 a3 w0) (fun u : va_W => wpost dC dI cy (va_A w0 sz) u) (va_A w0 sz)) 0 0 (va_A w0 sz) := by
  refine Met.ofW (cc := cX12_hasSign) (maxL := 4) (ret := (some .boolean)) (by decide) rfl ?_
  intro p e s m args below meth c s₁ Bk hml hv
  obtain ⟨rfl, ⟨hsz, hP, hK, hD0⟩, hE, hSR⟩ := hv
  have hx := Bk.exec
  have hb := Bk.bytes
  have hr := Bk.returns
  have hlocks := Bk.notSynchronized
  have hC : CallFix p m c cX12_hasSign 4 s _ wsX12_hasSign RX12 := ⟨hx, hb, hml, findClass_of_methodNamed Bk.named, atoms_spec (ws := wsX12_hasSign) Bk.pre⟩
  subst hsz
  have hD := hD0.self (sz := s.heap.size)
  generalize hAe : va_A w0 s.heap.size = A at hD hE ⊢
  have hA : ∀ q : Nat, s.heap.size ≤ q → A q := fun q h => by rw [← hAe]; exact Or.inr h
  have hw : Wd dC dI A s.heap s.heap [] w0 := ⟨hP, hD, va_S.rf⟩
  have hF : FE ksM ([] : List (Nat × Nat × Nat)) w0 w0 := FE.rf
  have hl := lv_entry ([.ref (ad 0), .int a1, .int a2, .int a3]) (n := 4) (Nat.le_of_ble_eq_true rfl)
  rw [lg_entry_eq]
  generalize (lg_sl ([.ref (ad 0), .int a1, .int a2, .int a3]) ++ List.replicate (4 - (lg_sl ([.ref (ad 0), .int a1, .int a2, .int a3])).length) Slot.unset).toArray = ls at hl ⊢
  have hl : lv_has ls 4 [(0, .ref (ad 0)), (1, .int a1), (2, .int a2), (3, .int a3)] := hl
  generalize hloc : ([] : List Loc) = locs at hw ⊢
  refine lv_iload_n hx hb dX12_hasSign_0 rfl (lv_at hl 1 rfl) ?_
  refine lv_aload_n hx hb dX12_hasSign_1 rfl (lv_at hl 0 rfl) ?_
  refine lv_iload_n hx hb dX12_hasSign_2 rfl (lv_at hl 2 rfl) ?_
  refine lv_iconst (v := 0) hx hb dX12_hasSign_3 (by decide) ?_
  refine tk_Vi hC hK hw hT hA hE hSR kM_at0 (by decide) rfl (k_X12_streetOf_11 l adK adV dC dI cy ad B (by omega) (by omega) qr s1   a2 (show 0 ≤ a2.toInt by omega) (show a2.toInt ≤ 12 by omega) w0 s.heap.size hT ) (cwV 2 hC.2.2.2.2 gX12_hasSign_X12_streetOf rfl rfl rfl (by decide +kernel) ⟨Nat.le_of_ble_eq_true rfl, Nat.le_of_ble_eq_true rfl⟩) rfl hl.1 rfl (Nat.le_of_ble_eq_true rfl) dX12_hasSign_4 (fun r1 w3 H locs hp2 hw => ?_)
  obtain ⟨rfl, hg8⟩ := hp2
  obtain ⟨g5, g6, c7⟩ := hg8
  refine lv_iload_n hx hb dX12_hasSign_7 rfl (lv_at hl 3 rfl) ?_
  refine lv_icmp_ne (tgt := 15) hx hb dX12_hasSign_8 (by decide) (fun c9 => ?_) (fun c9 => ?_)
  · have c9 : ¬ r1.toInt = a3.toInt := wk_eqF c9
    refine lv_iconst (v := 1) hx hb dX12_hasSign_15 (by decide) ?_
    refine tk_Si hC hK hw hT hA hE hSR (k_X12_isOf_9 l adK adV dC dI cy ad B (by omega) (by omega) qr s1   a1 (show 0 ≤ a1.toInt by omega) (show a1.toInt ≤ 9 by omega) w0 H.size hT ) (va_cwS 2 hC.2.2.2.2 gX12_hasSign_X12_isOf rfl rfl rfl (by decide +kernel) ⟨Nat.le_of_ble_eq_true rfl, Nat.le_of_ble_eq_true rfl⟩) rfl hl.1 rfl (Nat.le_of_ble_eq_true rfl) dX12_hasSign_16 (fun r10 w12 H locs hp11 hw => ?_)
    obtain ⟨rfl, hg14⟩ := hp11
    rcases hg14 with rfl | rfl
    · exact tk_zret hC hr rfl hlocks hK ⟨rfl, (Or.inl rfl)⟩ hw dX12_hasSign_19
    · exact tk_zret hC hr rfl hlocks hK ⟨rfl, (Or.inr (Or.inr (Or.inl rfl)))⟩ hw dX12_hasSign_19
  · have c9 : r1.toInt = a3.toInt := wk_eq.mp c9
    refine lv_iconst (v := 0) hx hb dX12_hasSign_11 (by decide) ?_
    refine lv_goto (tgt := 16) hx hb dX12_hasSign_12 (by decide) ?_
    refine tk_Si hC hK hw hT hA hE hSR (k_X12_isOf_10 l adK adV dC dI cy ad B (by omega) (by omega) qr s1   a1 (show 0 ≤ a1.toInt by omega) (show a1.toInt ≤ 9 by omega) w0 H.size hT ) (va_cwS 2 hC.2.2.2.2 gX12_hasSign_X12_isOf rfl rfl rfl (by decide +kernel) ⟨Nat.le_of_ble_eq_true rfl, Nat.le_of_ble_eq_true rfl⟩) rfl hl.1 rfl (Nat.le_of_ble_eq_true rfl) dX12_hasSign_16 (fun r15 w17 H locs hp16 hw => ?_)
    obtain ⟨rfl, hg19⟩ := hp16
    rcases hg19 with rfl | rfl
    · exact tk_zret hC hr rfl hlocks hK ⟨rfl, (Or.inr (Or.inl ⟨rfl, (c7.trans (wk_eq.mpr (show r1.toInt = a3.toInt by omega)))⟩))⟩ hw dX12_hasSign_19
    · exact tk_zret hC hr rfl hlocks hK ⟨rfl, (Or.inr (Or.inr (Or.inr ⟨rfl, (c7.trans (wk_eq.mpr (show r1.toInt = a3.toInt by omega)))⟩)))⟩ hw dX12_hasSign_19
abbrev P_X12_isClosed_2 (ad : Nat → Nat) (cy : Nat → ClassId) (B : Int) (qr : Nat) (s1 : Int) (a1 : Int32) (a2 : Int32) (w0 : va_W) : Int32 → va_W → Prop := fun r u => w0 = u ∧ ((r = 0) ∨ (r = 1 ∧ (∃ y : Int32, gi u 0 27 = y ∧ 1 ≤ y.toInt ∧ y.toInt ≤ 1) ∧ (∃ y : Int32, gi u 12 2 = y ∧ 1 ≤ y.toInt ∧ y.toInt ≤ 8)))
set_option maxHeartbeats 4000000 in
set_option maxRecDepth 100000 in
theorem k_X12_isClosed_2 (l : Launch) (adK adV : Nat → Nat) (dC : Nat → ClassId) (dI : Nat → Nat → Nat) (cy : Nat → ClassId) (ad : Nat → Nat) (B : Int) (hB0 : 100000 ≤ B) (hB1 : B ≤ 1073741824) (qr : Nat) (s1 : Int)  (a1 : Int32) (ra1 : 0 ≤ a1.toInt) (ta1 : a1.toInt ≤ 9) (a2 : Int32) (ra2 : 0 ≤ a2.toInt) (ta2 : a2.toInt ≤ 359) (w0 : va_W) (sz : Nat) (hT : TW ksM ad cy B qr 13 w0)  : Met l yX12_isClosed wsX12_isClosed ({ frames := 1, cells := 0, slots := 0, locals := 12 }) (va_Pc [.ref (ad 0), .int a1, .int a2] (wpreS adK adV dC dI cy sz w0)) (va_Qi (P_X12_isClosed_2 ad cy B qr s1 a1 a2 w0) (fun u : va_W => wpost dC dI cy (va_A w0 sz) u) (va_A w0 sz)) 0 0 (va_A w0 sz) := by
  refine Met.ofW (cc := cX12_isClosed) (maxL := 4) (ret := (some .boolean)) (by decide) rfl ?_
  intro p e s m args below meth c s₁ Bk hml hv
  obtain ⟨rfl, ⟨hsz, hP, hK, hD0⟩, hE, hSR⟩ := hv
  have hx := Bk.exec
  have hb := Bk.bytes
  have hr := Bk.returns
  have hlocks := Bk.notSynchronized
  have hC : CallFix p m c cX12_isClosed 4 s _ wsX12_isClosed RX12 := ⟨hx, hb, hml, findClass_of_methodNamed Bk.named, atoms_spec (ws := wsX12_isClosed) Bk.pre⟩
  subst hsz
  have hD := hD0.self (sz := s.heap.size)
  generalize hAe : va_A w0 s.heap.size = A at hD hE ⊢
  have hA : ∀ q : Nat, s.heap.size ≤ q → A q := fun q h => by rw [← hAe]; exact Or.inr h
  have hw : Wd dC dI A s.heap s.heap [] w0 := ⟨hP, hD, va_S.rf⟩
  have hF : FE ksM ([] : List (Nat × Nat × Nat)) w0 w0 := FE.rf
  have hl := lv_entry ([.ref (ad 0), .int a1, .int a2]) (n := 4) (Nat.le_of_ble_eq_true rfl)
  rw [lg_entry_eq]
  generalize (lg_sl ([.ref (ad 0), .int a1, .int a2]) ++ List.replicate (4 - (lg_sl ([.ref (ad 0), .int a1, .int a2])).length) Slot.unset).toArray = ls at hl ⊢
  have hl : lv_has ls 4 [(0, .ref (ad 0)), (1, .int a1), (2, .int a2)] := hl
  generalize hloc : ([] : List Loc) = locs at hw ⊢
  have hinX12 : ∀ w ∈ u_ws RX12 TX12 42, w ∈ wsX12_isClosed := fun _ h => List.mem_cons_of_mem _ (List.mem_append_right _ (h))
  have J61 : ∀ (v61_3 : Int32) (f61_12_2 : Int32) (H : Heap) (locs : List Loc) (ls : Array Slot), 0 ≤ a1.toInt → a1.toInt ≤ 9 → 0 ≤ a2.toInt → a2.toInt ≤ 359 → 0 ≤ v61_3.toInt → v61_3.toInt ≤ 8 → 0 ≤ f61_12_2.toInt → f61_12_2.toInt ≤ 8 → Wd dC dI A s.heap H locs w0 → gi w0 12 2 = f61_12_2 → lv_has ls 4 [(0, .ref (ad 0)), (1, .int a1), (2, .int a2), (3, .int v61_3)] → W p l e ({ frames := 1, cells := 0, slots := 0, locals := 12 }) s m (List.toArray [.ref (ad 0), .int a1, .int a2]) below meth c H locs 0 0 (MQ below (va_Qi (P_X12_isClosed_2 ad cy B qr s1 a1 a2 w0) (fun u : va_W => wpost dC dI cy A u) A) (List.toArray [.ref (ad 0), .int a1, .int a2]) s 0 0 A) (F0 m 61 ls []) := by
    intro v61_3 f61_12_2 H locs ls r1 t2 r3 t4 r5 t6 r7 t8 hw c9 hl
    refine lv_iconst (v := 0) hx hb dX12_isClosed_61 (by decide) ?_
    exact tk_zret hC hr rfl hlocks hK ⟨rfl, (Or.inl rfl)⟩ hw dX12_isClosed_62
  have L2 : ∀ (n2 : Nat) (v2_3 : Int32) (H : Heap) (locs : List Loc) (ls : Array Slot), 0 ≤ a1.toInt → a1.toInt ≤ 9 → 0 ≤ a2.toInt → a2.toInt ≤ 359 → 0 ≤ v2_3.toInt → v2_3.toInt ≤ 8 → (8 - v2_3.toInt).toNat < n2 → Wd dC dI A s.heap H locs w0 → lv_has ls 4 [(0, .ref (ad 0)), (1, .int a1), (2, .int a2), (3, .int v2_3)] → W p l e ({ frames := 1, cells := 0, slots := 0, locals := 12 }) s m (List.toArray [.ref (ad 0), .int a1, .int a2]) below meth c H locs 0 0 (MQ below (va_Qi (P_X12_isClosed_2 ad cy B qr s1 a1 a2 w0) (fun u : va_W => wpost dC dI cy A u) A) (List.toArray [.ref (ad 0), .int a1, .int a2]) s 0 0 A) (F0 m 2 ls []) := by
    intro n2
    induction n2 with
    | zero => intro v2_3 H locs ls r10 t11 r12 t13 r14 t15 hm2 hw hl; omega
    | succ n2 ih2 =>
      intro v2_3 H locs ls r10 t11 r12 t13 r14 t15 hm2 hw hl
      have J55 : ∀ (f55_12__2_v2_3_toInt_140_toNat : Int32) (f55_12_2 : Int32) (H : Heap) (locs : List Loc) (ls : Array Slot), 0 ≤ a1.toInt → a1.toInt ≤ 9 → 0 ≤ a2.toInt → a2.toInt ≤ 359 → 0 ≤ v2_3.toInt → v2_3.toInt ≤ 7 → 1 ≤ f55_12_2.toInt → f55_12_2.toInt ≤ 8 → Wd dC dI A s.heap H locs w0 → gi w0 0 27 = 1 → gi w0 12 (2 * v2_3.toInt + 140).toNat = f55_12__2_v2_3_toInt_140_toNat → gi w0 12 2 = f55_12_2 → lv_has ls 4 [(0, .ref (ad 0)), (1, .int a1), (2, .int a2), (3, .int v2_3)] → W p l e ({ frames := 1, cells := 0, slots := 0, locals := 12 }) s m (List.toArray [.ref (ad 0), .int a1, .int a2]) below meth c H locs 0 0 (MQ below (va_Qi (P_X12_isClosed_2 ad cy B qr s1 a1 a2 w0) (fun u : va_W => wpost dC dI cy A u) A) (List.toArray [.ref (ad 0), .int a1, .int a2]) s 0 0 A) (F0 m 55 ls []) := by
        intro f55_12__2_v2_3_toInt_140_toNat f55_12_2 H locs ls r16 t17 r18 t19 r20 t21 r24 t25 hw c22 c23 c26 hl
        obtain ⟨x27, ex27⟩ : ∃ y : Int32, y = v2_3 + Int32.ofInt 1 := ⟨_, rfl⟩
        refine lv_iinc (v := x27) (lv' := [(3, .int x27), (0, .ref (ad 0)), (1, .int a1), (2, .int a2)]) hx hb dX12_isClosed_55 hl (k := 3) rfl ex27.symm (by decide) rfl (fun ls hl => ?_)
        have ex27 : x27.toInt = v2_3.toInt + 1 := by rw [ex27]; exact wk_add (y := 1) (show -2147483648 ≤ v2_3.toInt + 1 by omega) (show v2_3.toInt + 1 ≤ 2147483647 by omega)
        refine lv_goto (tgt := 2) hx hb dX12_isClosed_58 (by decide) ?_
        exact ih2 x27 H locs ls  (show 0 ≤ a1.toInt by omega) (show a1.toInt ≤ 9 by omega) (show 0 ≤ a2.toInt by omega) (show a2.toInt ≤ 359 by omega) (show 0 ≤ x27.toInt by omega) (show x27.toInt ≤ 8 by omega) (show (8 - x27.toInt).toNat < n2 by omega) hw   (lv_sub hl [1, 2, 3, 0] rfl)
      refine lv_iload_n hx hb dX12_isClosed_2 rfl (lv_at hl 3 rfl) ?_
      refine lv_aload_n hx hb dX12_isClosed_3 rfl (lv_at hl 0 rfl) ?_
      refine tk_getA hC hK hw hT hinX12 kM_at0 (by decide) rfl 26 (by decide) (List.mem_of_getElem? (i := 1) rfl) rfl rfl dX12_isClosed_4 ?_
      refine lv_iconst (v := 2) hx hb dX12_isClosed_7 (by decide) ?_
      refine tk_ialdR hC hK hw hT kM_at12 rfl (by decide) (by decide) dX12_isClosed_8 (fun x28 c29 Ex28 => ?_)
      have bx28 := tk_rgI rfl 2 1 1 0 8 (by decide +kernel) ⟨0, by decide, by decide⟩ Ex28
      have c29 : gi w0 12 2 = x28 := c29
      refine lv_icmp_ge (tgt := 61) hx hb dX12_isClosed_9 (by decide) (fun c30 => ?_) (fun c30 => ?_)
      · have c30 : x28.toInt ≤ v2_3.toInt := wk_le.mp c30
        exact J61 v2_3 x28 H locs ls  (show 0 ≤ a1.toInt by omega) (show a1.toInt ≤ 9 by omega) (show 0 ≤ a2.toInt by omega) (show a2.toInt ≤ 359 by omega) (show 0 ≤ v2_3.toInt by omega) (show v2_3.toInt ≤ 8 by omega) (show 0 ≤ x28.toInt by omega) (show x28.toInt ≤ 8 by omega)  hw  c29 (lv_sub hl [0, 1, 2, 3] rfl)
      · have c30 : v2_3.toInt < x28.toInt := wk_leF c30
        refine lv_aload_n hx hb dX12_isClosed_12 rfl (lv_at hl 0 rfl) ?_
        refine tk_geti hC hK hw hT hinX12 kM_at0 (by decide) rfl 27 (by decide) (List.mem_of_getElem? (i := 2) rfl) rfl rfl dX12_isClosed_13 (fun x31 c32 rx31 tx31 => ?_)
        refine lv_if_eq (tgt := 61) hx hb dX12_isClosed_16 (by decide) (fun c33 => ?_) (fun c33 => ?_)
        · have c33 : x31.toInt = (0 : Int) := wk_eq.mp c33
          exact J61 v2_3 x28 H locs ls  (show 0 ≤ a1.toInt by omega) (show a1.toInt ≤ 9 by omega) (show 0 ≤ a2.toInt by omega) (show a2.toInt ≤ 359 by omega) (show 0 ≤ v2_3.toInt by omega) (show v2_3.toInt ≤ 8 by omega) (show 0 ≤ x28.toInt by omega) (show x28.toInt ≤ 8 by omega)  hw  c29 (lv_sub hl [0, 1, 2, 3] rfl)
        · have c33 : ¬ x31.toInt = (0 : Int) := wk_eqF c33
          refine lv_aload_n hx hb dX12_isClosed_19 rfl (lv_at hl 0 rfl) ?_
          refine tk_getA hC hK hw hT hinX12 kM_at0 (by decide) rfl 26 (by decide) (List.mem_of_getElem? (i := 1) rfl) rfl rfl dX12_isClosed_20 ?_
          refine lv_sipush (v := 140) hx hb dX12_isClosed_23 (by decide) ?_
          refine lv_iconst (v := 2) hx hb dX12_isClosed_26 (by decide) ?_
          refine lv_iload_n hx hb dX12_isClosed_27 rfl (lv_at hl 3 rfl) ?_
          refine lv_imul hx hb dX12_isClosed_28 ?_
          refine lv_topi (fun x34 ex34 => ?_)
          have ex34 : x34.toInt = (2 : Int) * v2_3.toInt := by rw [ex34]; exact wk_mul (show (-2147483648) ≤ (2 : Int) * v2_3.toInt by omega) (show (2 : Int) * v2_3.toInt ≤ 2147483647 by omega)
          refine lv_iadd hx hb dX12_isClosed_29 ?_
          refine lv_topi (fun x35 ex35 => ?_)
          have ex35 : x35.toInt = (140 : Int) + x34.toInt := by rw [ex35]; exact wk_add (show (-2147483648) ≤ (140 : Int) + x34.toInt by omega) (show (140 : Int) + x34.toInt ≤ 2147483647 by omega)
          refine tk_ialdR hC hK hw hT kM_at12 rfl (show 0 ≤ x35.toInt by omega) (show x35.toInt < 296 by omega) dX12_isClosed_30 (fun x36 c37 Ex36 => ?_)
          have c37 : gi w0 12 (2 * v2_3.toInt + 140).toNat = x36 := (congrArg (gi w0 12) (congrArg Int.toNat (show 2 * v2_3.toInt + 140 = x35.toInt by omega))).trans c37
          refine lv_iload_n hx hb dX12_isClosed_31 rfl (lv_at hl 1 rfl) ?_
          refine lv_icmp_ne (tgt := 55) hx hb dX12_isClosed_32 (by decide) (fun c38 => ?_) (fun c38 => ?_)
          · have c38 : ¬ x36.toInt = a1.toInt := wk_eqF c38
            obtain rfl : x31 = 1 := wk_eq.mpr (show x31.toInt = 1 by omega)
            exact J55 x36 x28 H locs ls  (show 0 ≤ a1.toInt by omega) (show a1.toInt ≤ 9 by omega) (show 0 ≤ a2.toInt by omega) (show a2.toInt ≤ 359 by omega) (show 0 ≤ v2_3.toInt by omega) (show v2_3.toInt ≤ 7 by omega) (show 1 ≤ x28.toInt by omega) (show x28.toInt ≤ 8 by omega)  hw  c32 c37 c29 (lv_sub hl [0, 1, 2, 3] rfl)
          · have c38 : x36.toInt = a1.toInt := wk_eq.mp c38
            refine lv_aload_n hx hb dX12_isClosed_35 rfl (lv_at hl 0 rfl) ?_
            refine tk_getA hC hK hw hT hinX12 kM_at0 (by decide) rfl 26 (by decide) (List.mem_of_getElem? (i := 1) rfl) rfl rfl dX12_isClosed_36 ?_
            refine lv_sipush (v := 140) hx hb dX12_isClosed_39 (by decide) ?_
            refine lv_iconst (v := 2) hx hb dX12_isClosed_42 (by decide) ?_
            refine lv_iload_n hx hb dX12_isClosed_43 rfl (lv_at hl 3 rfl) ?_
            refine lv_imul hx hb dX12_isClosed_44 ?_
            refine lv_topi (fun x39 ex39 => ?_)
            have ex39 : x39.toInt = (2 : Int) * v2_3.toInt := by rw [ex39]; exact wk_mul (show (-2147483648) ≤ (2 : Int) * v2_3.toInt by omega) (show (2 : Int) * v2_3.toInt ≤ 2147483647 by omega)
            refine lv_iadd hx hb dX12_isClosed_45 ?_
            refine lv_topi (fun x40 ex40 => ?_)
            have ex40 : x40.toInt = (140 : Int) + x39.toInt := by rw [ex40]; exact wk_add (show (-2147483648) ≤ (140 : Int) + x39.toInt by omega) (show (140 : Int) + x39.toInt ≤ 2147483647 by omega)
            refine lv_iconst (v := 1) hx hb dX12_isClosed_46 (by decide) ?_
            refine lv_iadd hx hb dX12_isClosed_47 ?_
            refine lv_topi (fun x41 ex41 => ?_)
            have ex41 : x41.toInt = x40.toInt + (1 : Int) := by rw [ex41]; exact wk_add (show (-2147483648) ≤ x40.toInt + (1 : Int) by omega) (show x40.toInt + (1 : Int) ≤ 2147483647 by omega)
            refine tk_ialdR hC hK hw hT kM_at12 rfl (show 0 ≤ x41.toInt by omega) (show x41.toInt < 296 by omega) dX12_isClosed_48 (fun x42 c43 Ex42 => ?_)
            have c43 : gi w0 12 (2 * v2_3.toInt + 141).toNat = x42 := (congrArg (gi w0 12) (congrArg Int.toNat (show 2 * v2_3.toInt + 141 = x41.toInt by omega))).trans c43
            refine lv_iload_n hx hb dX12_isClosed_49 rfl (lv_at hl 2 rfl) ?_
            refine lv_icmp_ne (tgt := 55) hx hb dX12_isClosed_50 (by decide) (fun c44 => ?_) (fun c44 => ?_)
            · have c44 : ¬ x42.toInt = a2.toInt := wk_eqF c44
              obtain rfl : x31 = 1 := wk_eq.mpr (show x31.toInt = 1 by omega)
              exact J55 x36 x28 H locs ls  (show 0 ≤ a1.toInt by omega) (show a1.toInt ≤ 9 by omega) (show 0 ≤ a2.toInt by omega) (show a2.toInt ≤ 359 by omega) (show 0 ≤ v2_3.toInt by omega) (show v2_3.toInt ≤ 7 by omega) (show 1 ≤ x28.toInt by omega) (show x28.toInt ≤ 8 by omega)  hw  c32 c37 c29 (lv_sub hl [0, 1, 2, 3] rfl)
            · have c44 : x42.toInt = a2.toInt := wk_eq.mp c44
              refine lv_iconst (v := 1) hx hb dX12_isClosed_53 (by decide) ?_
              exact tk_zret hC hr rfl hlocks hK ⟨rfl, (Or.inr ⟨rfl, ⟨x31, c32, (show 1 ≤ x31.toInt by omega), (show x31.toInt ≤ 1 by omega)⟩, ⟨x28, c29, (show 1 ≤ x28.toInt by omega), (show x28.toInt ≤ 8 by omega)⟩⟩)⟩ hw dX12_isClosed_54
  refine lv_iconst (v := 0) hx hb dX12_isClosed_0 (by decide) ?_
  refine lv_istore_n (lv' := [(3, .int 0), (0, .ref (ad 0)), (1, .int a1), (2, .int a2)]) hx hb dX12_isClosed_1 rfl hl (by decide) rfl (fun ls hl => ?_)
  exact L2 ((8 - (0 : Int)).toNat + 1) 0 s.heap locs ls  (show 0 ≤ a1.toInt by omega) (show a1.toInt ≤ 9 by omega) (show 0 ≤ a2.toInt by omega) (show a2.toInt ≤ 359 by omega) (by decide) (by decide) (Nat.lt_succ_self _) hw   (lv_sub hl [1, 2, 3, 0] rfl)
abbrev P_X12_isDayFor_5 (ad : Nat → Nat) (cy : Nat → ClassId) (B : Int) (qr : Nat) (s1 : Int) (a1 : Int32) (a2 : Int32) (a3 : Int32) (w0 : va_W) : Int32 → va_W → Prop := fun r u => w0 = u ∧ ((r = 0) ∨ (r = 0 ∧ gi u 12 (10 * a1.toInt + 10).toNat = a2) ∨ (r = 1) ∨ (r = 1 ∧ gi u 12 (10 * a1.toInt + 10).toNat = a2))
set_option maxHeartbeats 4000000 in
set_option maxRecDepth 100000 in
theorem k_X12_isDayFor_5 (l : Launch) (adK adV : Nat → Nat) (dC : Nat → ClassId) (dI : Nat → Nat → Nat) (cy : Nat → ClassId) (ad : Nat → Nat) (B : Int) (hB0 : 100000 ≤ B) (hB1 : B ≤ 1073741824) (qr : Nat) (s1 : Int)  (a1 : Int32) (ra1 : 0 ≤ a1.toInt) (ta1 : a1.toInt ≤ 12) (a2 : Int32) (ra2 : 0 ≤ a2.toInt) (ta2 : a2.toInt ≤ 9) (a3 : Int32) (ra3 : 0 ≤ a3.toInt) (ta3 : a3.toInt ≤ 4249) (w0 : va_W) (sz : Nat) (hT : TW ksM ad cy B qr 13 w0)  : Met l yX12_isDayFor wsX12_isDayFor ({ frames := 3, cells := 0, slots := 0, locals := 57 }) (va_Pc [.ref (ad 0), .int a1, .int a2, .int a3] (wpreS adK adV dC dI cy sz w0)) (va_Qi (P_X12_isDayFor_5 ad cy B qr s1 a1 a2 a3 w0) (fun u : va_W => wpost dC dI cy (va_A w0 sz) u) (va_A w0 sz)) 0 0 (va_A w0 sz) := by
  refine Met.ofW (cc := cX12_isDayFor) (maxL := 4) (ret := (some .boolean)) (by decide) rfl ?_
  intro p e s m args below meth c s₁ Bk hml hv
  obtain ⟨rfl, ⟨hsz, hP, hK, hD0⟩, hE, hSR⟩ := hv
  have hx := Bk.exec
  have hb := Bk.bytes
  have hr := Bk.returns
  have hlocks := Bk.notSynchronized
  have hC : CallFix p m c cX12_isDayFor 4 s _ wsX12_isDayFor RX12 := ⟨hx, hb, hml, findClass_of_methodNamed Bk.named, atoms_spec (ws := wsX12_isDayFor) Bk.pre⟩
  subst hsz
  have hD := hD0.self (sz := s.heap.size)
  generalize hAe : va_A w0 s.heap.size = A at hD hE ⊢
  have hA : ∀ q : Nat, s.heap.size ≤ q → A q := fun q h => by rw [← hAe]; exact Or.inr h
  have hw : Wd dC dI A s.heap s.heap [] w0 := ⟨hP, hD, va_S.rf⟩
  have hF : FE ksM ([] : List (Nat × Nat × Nat)) w0 w0 := FE.rf
  have hl := lv_entry ([.ref (ad 0), .int a1, .int a2, .int a3]) (n := 4) (Nat.le_of_ble_eq_true rfl)
  rw [lg_entry_eq]
  generalize (lg_sl ([.ref (ad 0), .int a1, .int a2, .int a3]) ++ List.replicate (4 - (lg_sl ([.ref (ad 0), .int a1, .int a2, .int a3])).length) Slot.unset).toArray = ls at hl ⊢
  have hl : lv_has ls 4 [(0, .ref (ad 0)), (1, .int a1), (2, .int a2), (3, .int a3)] := hl
  generalize hloc : ([] : List Loc) = locs at hw ⊢
  have J62 : ∀ (f62_12__10_a1_toInt_10_toNat : Int32) (f62_12_2 : Int32) (H : Heap) (locs : List Loc) (ls : Array Slot), 0 ≤ a1.toInt → a1.toInt ≤ 12 → 0 ≤ a2.toInt → a2.toInt ≤ 9 → 0 ≤ a3.toInt → a3.toInt ≤ 4249 → 0 ≤ f62_12__10_a1_toInt_10_toNat.toInt → f62_12__10_a1_toInt_10_toNat.toInt ≤ 9 → 1 ≤ f62_12_2.toInt → f62_12_2.toInt ≤ 8 → Wd dC dI A s.heap H locs w0 → gi w0 0 27 = 1 → gi w0 12 (10 * a1.toInt + 10).toNat = f62_12__10_a1_toInt_10_toNat → gi w0 12 2 = f62_12_2 → lv_has ls 4 [(0, .ref (ad 0)), (1, .int a1), (2, .int a2), (3, .int a3)] → W p l e ({ frames := 3, cells := 0, slots := 0, locals := 57 }) s m (List.toArray [.ref (ad 0), .int a1, .int a2, .int a3]) below meth c H locs 0 0 (MQ below (va_Qi (P_X12_isDayFor_5 ad cy B qr s1 a1 a2 a3 w0) (fun u : va_W => wpost dC dI cy A u) A) (List.toArray [.ref (ad 0), .int a1, .int a2, .int a3]) s 0 0 A) (F0 m 62 ls []) := by
    intro f62_12__10_a1_toInt_10_toNat f62_12_2 H locs ls r1 t2 r3 t4 r5 t6 r8 t9 r11 t12 hw c7 c10 c13 hl
    refine lv_iconst (v := 0) hx hb dX12_isDayFor_62 (by decide) ?_
    exact tk_zret hC hr rfl hlocks hK ⟨rfl, (Or.inl rfl)⟩ hw dX12_isDayFor_63
  refine lv_aload_n hx hb dX12_isDayFor_0 rfl (lv_at hl 0 rfl) ?_
  refine lv_aload_n hx hb dX12_isDayFor_1 rfl (lv_at hl 0 rfl) ?_
  refine lv_iload_n hx hb dX12_isDayFor_2 rfl (lv_at hl 1 rfl) ?_
  refine lv_iconst (v := 3) hx hb dX12_isDayFor_3 (by decide) ?_
  refine lv_iload_n hx hb dX12_isDayFor_4 rfl (lv_at hl 3 rfl) ?_
  refine lv_bipush (v := 7) hx hb dX12_isDayFor_5 (by decide) ?_
  refine lv_irem hx hb dX12_isDayFor_7 (by decide) ?_
  refine lv_topi (fun x14 ex14 => ?_)
  have ex14 : x14.toInt = a3.toInt % (7 : Int) := by rw [ex14]; exact wk_rem (show 0 ≤ a3.toInt by omega) (show 0 < (7 : Int) by decide)
  refine lv_iadd hx hb dX12_isDayFor_8 ?_
  refine lv_topi (fun x15 ex15 => ?_)
  have ex15 : x15.toInt = (3 : Int) + x14.toInt := by rw [ex15]; exact wk_add (show (-2147483648) ≤ (3 : Int) + x14.toInt by omega) (show (3 : Int) + x14.toInt ≤ 2147483647 by omega)
  refine tk_Vi hC hK hw hT hA hE hSR kM_at0 (by decide) rfl (k_X12_streetOf_13 l adK adV dC dI cy ad B (by omega) (by omega) qr s1   a1 (show 0 ≤ a1.toInt by omega) (show a1.toInt ≤ 12 by omega) x15 (show 3 ≤ x15.toInt by omega) (show x15.toInt ≤ 9 by omega) w0 s.heap.size hT ) (cwV 2 hC.2.2.2.2 gX12_isDayFor_X12_streetOf rfl rfl rfl (by decide +kernel) ⟨Nat.le_of_ble_eq_true rfl, Nat.le_of_ble_eq_true rfl⟩) rfl hl.1 rfl (Nat.le_of_ble_eq_true rfl) dX12_isDayFor_9 (fun r16 w18 H locs hp17 hw => ?_)
  obtain ⟨rfl, hg22⟩ := hp17
  obtain ⟨g20, g21⟩ := hg22
  refine lv_iload_n hx hb dX12_isDayFor_12 rfl (lv_at hl 1 rfl) ?_
  refine lv_iload_n hx hb dX12_isDayFor_13 rfl (lv_at hl 2 rfl) ?_
  refine tk_Vi hC hK hw hT hA hE hSR kM_at0 (by decide) rfl (k_X12_hasSign_3 l adK adV dC dI cy ad B (by omega) (by omega) qr s1   r16 (show 0 ≤ r16.toInt by omega) (show r16.toInt ≤ 9 by omega) a1 (show 0 ≤ a1.toInt by omega) (show a1.toInt ≤ 12 by omega) a2 (show 0 ≤ a2.toInt by omega) (show a2.toInt ≤ 9 by omega) w0 H.size hT ) (cwV 3 hC.2.2.2.2 gX12_isDayFor_X12_hasSign rfl rfl rfl (by decide +kernel) ⟨Nat.le_of_ble_eq_true rfl, Nat.le_of_ble_eq_true rfl⟩) rfl hl.1 rfl (Nat.le_of_ble_eq_true rfl) dX12_isDayFor_14 (fun r23 w25 H locs hp24 hw => ?_)
  obtain ⟨rfl, hg29⟩ := hp24
  rcases hg29 with rfl | ⟨rfl, c27⟩ | rfl | ⟨rfl, c28⟩
  · refine lv_if_ne (tgt := 22) hx hb dX12_isDayFor_17 (by decide) (fun c => absurd (by decide) c) (fun _ => ?_)
    refine lv_iconst (v := 0) hx hb dX12_isDayFor_20 (by decide) ?_
    exact tk_zret hC hr rfl hlocks hK ⟨rfl, (Or.inl rfl)⟩ hw dX12_isDayFor_21
  · refine lv_if_ne (tgt := 22) hx hb dX12_isDayFor_17 (by decide) (fun c => absurd (by decide) c) (fun _ => ?_)
    refine lv_iconst (v := 0) hx hb dX12_isDayFor_20 (by decide) ?_
    exact tk_zret hC hr rfl hlocks hK ⟨rfl, (Or.inr (Or.inl ⟨rfl, c27⟩))⟩ hw dX12_isDayFor_21
  · refine lv_if_ne (tgt := 22) hx hb dX12_isDayFor_17 (by decide) (fun _ => ?_) (fun c => absurd c (by decide))
    refine lv_aload_n hx hb dX12_isDayFor_22 rfl (lv_at hl 0 rfl) ?_
    refine lv_aload_n hx hb dX12_isDayFor_23 rfl (lv_at hl 0 rfl) ?_
    refine lv_iload_n hx hb dX12_isDayFor_24 rfl (lv_at hl 1 rfl) ?_
    refine lv_iconst (v := 0) hx hb dX12_isDayFor_25 (by decide) ?_
    refine tk_Vi hC hK hw hT hA hE hSR kM_at0 (by decide) rfl (k_X12_streetOf_11 l adK adV dC dI cy ad B (by omega) (by omega) qr s1   a1 (show 0 ≤ a1.toInt by omega) (show a1.toInt ≤ 12 by omega) w0 H.size hT ) (cwV 2 hC.2.2.2.2 gX12_isDayFor_X12_streetOf rfl rfl rfl (by decide +kernel) ⟨Nat.le_of_ble_eq_true rfl, Nat.le_of_ble_eq_true rfl⟩) rfl hl.1 rfl (Nat.le_of_ble_eq_true rfl) dX12_isDayFor_26 (fun r30 w32 H locs hp31 hw => ?_)
    obtain ⟨rfl, hg37⟩ := hp31
    obtain ⟨g34, g35, c36⟩ := hg37
    refine lv_iload_n hx hb dX12_isDayFor_29 rfl (lv_at hl 3 rfl) ?_
    refine lv_sipush (v := 360) hx hb dX12_isDayFor_30 (by decide) ?_
    refine lv_irem hx hb dX12_isDayFor_33 (by decide) ?_
    refine lv_topi (fun x38 ex38 => ?_)
    have ex38 : x38.toInt = a3.toInt % (360 : Int) := by rw [ex38]; exact wk_rem (show 0 ≤ a3.toInt by omega) (show 0 < (360 : Int) by decide)
    refine tk_Vi hC hK hw hT hA hE hSR kM_at0 (by decide) rfl (k_X12_isClosed_2 l adK adV dC dI cy ad B (by omega) (by omega) qr s1   r30 (show 0 ≤ r30.toInt by omega) (show r30.toInt ≤ 9 by omega) x38 (show 0 ≤ x38.toInt by omega) (show x38.toInt ≤ 359 by omega) w0 H.size hT ) (cwV 2 hC.2.2.2.2 gX12_isDayFor_X12_isClosed rfl rfl rfl (by decide +kernel) ⟨Nat.le_of_ble_eq_true rfl, Nat.le_of_ble_eq_true rfl⟩) rfl hl.1 rfl (Nat.le_of_ble_eq_true rfl) dX12_isDayFor_34 (fun r39 w41 H locs hp40 hw => ?_)
    obtain ⟨rfl, hg47⟩ := hp40
    rcases hg47 with rfl | ⟨rfl, ⟨x43, c44, rx43, tx43⟩, ⟨x45, c46, rx45, tx45⟩⟩
    · refine lv_if_ne (tgt := 62) hx hb dX12_isDayFor_37 (by decide) (fun c => absurd (by decide) c) (fun _ => ?_)
      refine lv_aload_n hx hb dX12_isDayFor_40 rfl (lv_at hl 0 rfl) ?_
      refine lv_aload_n hx hb dX12_isDayFor_41 rfl (lv_at hl 0 rfl) ?_
      refine lv_iload_n hx hb dX12_isDayFor_42 rfl (lv_at hl 1 rfl) ?_
      refine lv_iconst (v := 1) hx hb dX12_isDayFor_43 (by decide) ?_
      refine tk_Vi hC hK hw hT hA hE hSR kM_at0 (by decide) rfl (k_X12_streetOf_12 l adK adV dC dI cy ad B (by omega) (by omega) qr s1   a1 (show 0 ≤ a1.toInt by omega) (show a1.toInt ≤ 12 by omega) w0 H.size hT ) (cwV 2 hC.2.2.2.2 gX12_isDayFor_X12_streetOf rfl rfl rfl (by decide +kernel) ⟨Nat.le_of_ble_eq_true rfl, Nat.le_of_ble_eq_true rfl⟩) rfl hl.1 rfl (Nat.le_of_ble_eq_true rfl) dX12_isDayFor_44 (fun r48 w50 H locs hp49 hw => ?_)
      obtain ⟨rfl, hg55⟩ := hp49
      obtain ⟨g52, g53, c54⟩ := hg55
      refine lv_iload_n hx hb dX12_isDayFor_47 rfl (lv_at hl 3 rfl) ?_
      refine lv_sipush (v := 360) hx hb dX12_isDayFor_48 (by decide) ?_
      refine lv_irem hx hb dX12_isDayFor_51 (by decide) ?_
      refine lv_topi (fun x56 ex56 => ?_)
      have ex56 : x56.toInt = a3.toInt % (360 : Int) := by rw [ex56]; exact wk_rem (show 0 ≤ a3.toInt by omega) (show 0 < (360 : Int) by decide)
      refine tk_Vi hC hK hw hT hA hE hSR kM_at0 (by decide) rfl (k_X12_isClosed_2 l adK adV dC dI cy ad B (by omega) (by omega) qr s1   r48 (show 0 ≤ r48.toInt by omega) (show r48.toInt ≤ 9 by omega) x56 (show 0 ≤ x56.toInt by omega) (show x56.toInt ≤ 359 by omega) w0 H.size hT ) (cwV 2 hC.2.2.2.2 gX12_isDayFor_X12_isClosed rfl rfl rfl (by decide +kernel) ⟨Nat.le_of_ble_eq_true rfl, Nat.le_of_ble_eq_true rfl⟩) rfl hl.1 rfl (Nat.le_of_ble_eq_true rfl) dX12_isDayFor_52 (fun r57 w59 H locs hp58 hw => ?_)
      obtain ⟨rfl, hg65⟩ := hp58
      rcases hg65 with rfl | ⟨rfl, ⟨x61, c62, rx61, tx61⟩, ⟨x63, c64, rx63, tx63⟩⟩
      · refine lv_if_ne (tgt := 62) hx hb dX12_isDayFor_55 (by decide) (fun c => absurd (by decide) c) (fun _ => ?_)
        refine lv_iconst (v := 1) hx hb dX12_isDayFor_58 (by decide) ?_
        refine lv_goto (tgt := 63) hx hb dX12_isDayFor_59 (by decide) ?_
        exact tk_zret hC hr rfl hlocks hK ⟨rfl, (Or.inr (Or.inr (Or.inl rfl)))⟩ hw dX12_isDayFor_63
      · refine lv_if_ne (tgt := 62) hx hb dX12_isDayFor_55 (by decide) (fun _ => ?_) (fun c => absurd c (by decide))
        obtain rfl : x61 = 1 := wk_eq.mpr (show x61.toInt = 1 by omega)
        exact J62 r30 x63 H locs ls  (show 0 ≤ a1.toInt by omega) (show a1.toInt ≤ 12 by omega) (show 0 ≤ a2.toInt by omega) (show a2.toInt ≤ 9 by omega) (show 0 ≤ a3.toInt by omega) (show a3.toInt ≤ 4249 by omega) (show 0 ≤ r30.toInt by omega) (show r30.toInt ≤ 9 by omega) (show 1 ≤ x63.toInt by omega) (show x63.toInt ≤ 8 by omega)  hw  c62 c36 c64 (lv_sub hl [0, 1, 2, 3] rfl)
    · refine lv_if_ne (tgt := 62) hx hb dX12_isDayFor_37 (by decide) (fun _ => ?_) (fun c => absurd c (by decide))
      obtain rfl : x43 = 1 := wk_eq.mpr (show x43.toInt = 1 by omega)
      exact J62 r30 x45 H locs ls  (show 0 ≤ a1.toInt by omega) (show a1.toInt ≤ 12 by omega) (show 0 ≤ a2.toInt by omega) (show a2.toInt ≤ 9 by omega) (show 0 ≤ a3.toInt by omega) (show a3.toInt ≤ 4249 by omega) (show 0 ≤ r30.toInt by omega) (show r30.toInt ≤ 9 by omega) (show 1 ≤ x45.toInt by omega) (show x45.toInt ≤ 8 by omega)  hw  c44 c36 c46 (lv_sub hl [0, 1, 2, 3] rfl)
  · refine lv_if_ne (tgt := 22) hx hb dX12_isDayFor_17 (by decide) (fun _ => ?_) (fun c => absurd c (by decide))
    refine lv_aload_n hx hb dX12_isDayFor_22 rfl (lv_at hl 0 rfl) ?_
    refine lv_aload_n hx hb dX12_isDayFor_23 rfl (lv_at hl 0 rfl) ?_
    refine lv_iload_n hx hb dX12_isDayFor_24 rfl (lv_at hl 1 rfl) ?_
    refine lv_iconst (v := 0) hx hb dX12_isDayFor_25 (by decide) ?_
    refine tk_Vi hC hK hw hT hA hE hSR kM_at0 (by decide) rfl (k_X12_streetOf_11 l adK adV dC dI cy ad B (by omega) (by omega) qr s1   a1 (show 0 ≤ a1.toInt by omega) (show a1.toInt ≤ 12 by omega) w0 H.size hT ) (cwV 2 hC.2.2.2.2 gX12_isDayFor_X12_streetOf rfl rfl rfl (by decide +kernel) ⟨Nat.le_of_ble_eq_true rfl, Nat.le_of_ble_eq_true rfl⟩) rfl hl.1 rfl (Nat.le_of_ble_eq_true rfl) dX12_isDayFor_26 (fun r66 w68 H locs hp67 hw => ?_)
    obtain ⟨rfl, hg73⟩ := hp67
    obtain ⟨g70, g71, c72⟩ := hg73
    obtain rfl : r66 = a2 := c72.symm.trans c28
    refine lv_iload_n hx hb dX12_isDayFor_29 rfl (lv_at hl 3 rfl) ?_
    refine lv_sipush (v := 360) hx hb dX12_isDayFor_30 (by decide) ?_
    refine lv_irem hx hb dX12_isDayFor_33 (by decide) ?_
    refine lv_topi (fun x74 ex74 => ?_)
    have ex74 : x74.toInt = a3.toInt % (360 : Int) := by rw [ex74]; exact wk_rem (show 0 ≤ a3.toInt by omega) (show 0 < (360 : Int) by decide)
    refine tk_Vi hC hK hw hT hA hE hSR kM_at0 (by decide) rfl (k_X12_isClosed_2 l adK adV dC dI cy ad B (by omega) (by omega) qr s1   a2 (show 0 ≤ a2.toInt by omega) (show a2.toInt ≤ 9 by omega) x74 (show 0 ≤ x74.toInt by omega) (show x74.toInt ≤ 359 by omega) w0 H.size hT ) (cwV 2 hC.2.2.2.2 gX12_isDayFor_X12_isClosed rfl rfl rfl (by decide +kernel) ⟨Nat.le_of_ble_eq_true rfl, Nat.le_of_ble_eq_true rfl⟩) rfl hl.1 rfl (Nat.le_of_ble_eq_true rfl) dX12_isDayFor_34 (fun r75 w77 H locs hp76 hw => ?_)
    obtain ⟨rfl, hg83⟩ := hp76
    rcases hg83 with rfl | ⟨rfl, ⟨x79, c80, rx79, tx79⟩, ⟨x81, c82, rx81, tx81⟩⟩
    · refine lv_if_ne (tgt := 62) hx hb dX12_isDayFor_37 (by decide) (fun c => absurd (by decide) c) (fun _ => ?_)
      refine lv_aload_n hx hb dX12_isDayFor_40 rfl (lv_at hl 0 rfl) ?_
      refine lv_aload_n hx hb dX12_isDayFor_41 rfl (lv_at hl 0 rfl) ?_
      refine lv_iload_n hx hb dX12_isDayFor_42 rfl (lv_at hl 1 rfl) ?_
      refine lv_iconst (v := 1) hx hb dX12_isDayFor_43 (by decide) ?_
      refine tk_Vi hC hK hw hT hA hE hSR kM_at0 (by decide) rfl (k_X12_streetOf_12 l adK adV dC dI cy ad B (by omega) (by omega) qr s1   a1 (show 0 ≤ a1.toInt by omega) (show a1.toInt ≤ 12 by omega) w0 H.size hT ) (cwV 2 hC.2.2.2.2 gX12_isDayFor_X12_streetOf rfl rfl rfl (by decide +kernel) ⟨Nat.le_of_ble_eq_true rfl, Nat.le_of_ble_eq_true rfl⟩) rfl hl.1 rfl (Nat.le_of_ble_eq_true rfl) dX12_isDayFor_44 (fun r84 w86 H locs hp85 hw => ?_)
      obtain ⟨rfl, hg91⟩ := hp85
      obtain ⟨g88, g89, c90⟩ := hg91
      refine lv_iload_n hx hb dX12_isDayFor_47 rfl (lv_at hl 3 rfl) ?_
      refine lv_sipush (v := 360) hx hb dX12_isDayFor_48 (by decide) ?_
      refine lv_irem hx hb dX12_isDayFor_51 (by decide) ?_
      refine lv_topi (fun x92 ex92 => ?_)
      have ex92 : x92.toInt = a3.toInt % (360 : Int) := by rw [ex92]; exact wk_rem (show 0 ≤ a3.toInt by omega) (show 0 < (360 : Int) by decide)
      refine tk_Vi hC hK hw hT hA hE hSR kM_at0 (by decide) rfl (k_X12_isClosed_2 l adK adV dC dI cy ad B (by omega) (by omega) qr s1   r84 (show 0 ≤ r84.toInt by omega) (show r84.toInt ≤ 9 by omega) x92 (show 0 ≤ x92.toInt by omega) (show x92.toInt ≤ 359 by omega) w0 H.size hT ) (cwV 2 hC.2.2.2.2 gX12_isDayFor_X12_isClosed rfl rfl rfl (by decide +kernel) ⟨Nat.le_of_ble_eq_true rfl, Nat.le_of_ble_eq_true rfl⟩) rfl hl.1 rfl (Nat.le_of_ble_eq_true rfl) dX12_isDayFor_52 (fun r93 w95 H locs hp94 hw => ?_)
      obtain ⟨rfl, hg101⟩ := hp94
      rcases hg101 with rfl | ⟨rfl, ⟨x97, c98, rx97, tx97⟩, ⟨x99, c100, rx99, tx99⟩⟩
      · refine lv_if_ne (tgt := 62) hx hb dX12_isDayFor_55 (by decide) (fun c => absurd (by decide) c) (fun _ => ?_)
        refine lv_iconst (v := 1) hx hb dX12_isDayFor_58 (by decide) ?_
        refine lv_goto (tgt := 63) hx hb dX12_isDayFor_59 (by decide) ?_
        exact tk_zret hC hr rfl hlocks hK ⟨rfl, (Or.inr (Or.inr (Or.inr ⟨rfl, c28⟩)))⟩ hw dX12_isDayFor_63
      · refine lv_if_ne (tgt := 62) hx hb dX12_isDayFor_55 (by decide) (fun _ => ?_) (fun c => absurd c (by decide))
        obtain rfl : x97 = 1 := wk_eq.mpr (show x97.toInt = 1 by omega)
        exact J62 a2 x99 H locs ls  (show 0 ≤ a1.toInt by omega) (show a1.toInt ≤ 12 by omega) (show 0 ≤ a2.toInt by omega) (show a2.toInt ≤ 9 by omega) (show 0 ≤ a3.toInt by omega) (show a3.toInt ≤ 4249 by omega) (show 0 ≤ a2.toInt by omega) (show a2.toInt ≤ 9 by omega) (show 1 ≤ x99.toInt by omega) (show x99.toInt ≤ 8 by omega)  hw  c98 c28 c100 (lv_sub hl [0, 1, 2, 3] rfl)
    · refine lv_if_ne (tgt := 62) hx hb dX12_isDayFor_37 (by decide) (fun _ => ?_) (fun c => absurd c (by decide))
      obtain rfl : x79 = 1 := wk_eq.mpr (show x79.toInt = 1 by omega)
      exact J62 a2 x81 H locs ls  (show 0 ≤ a1.toInt by omega) (show a1.toInt ≤ 12 by omega) (show 0 ≤ a2.toInt by omega) (show a2.toInt ≤ 9 by omega) (show 0 ≤ a3.toInt by omega) (show a3.toInt ≤ 4249 by omega) (show 0 ≤ a2.toInt by omega) (show a2.toInt ≤ 9 by omega) (show 1 ≤ x81.toInt by omega) (show x81.toInt ≤ 8 by omega)  hw  c80 c28 c82 (lv_sub hl [0, 1, 2, 3] rfl)
abbrev P_X12_isLifted_5 (ad : Nat → Nat) (cy : Nat → ClassId) (B : Int) (qr : Nat) (s1 : Int) (a1 : Int32) (a2 : Int32) (w0 : va_W) : Int32 → va_W → Prop := fun r u => w0 = u ∧ ((r = 0) ∨ (r = 1 ∧ (∃ y : Int32, gi u 12 3 = y ∧ 1 ≤ y.toInt ∧ y.toInt ≤ 4)))
set_option maxHeartbeats 4000000 in
set_option maxRecDepth 100000 in
theorem k_X12_isLifted_5 (l : Launch) (adK adV : Nat → Nat) (dC : Nat → ClassId) (dI : Nat → Nat → Nat) (cy : Nat → ClassId) (ad : Nat → Nat) (B : Int) (hB0 : 100000 ≤ B) (hB1 : B ≤ 1073741824) (qr : Nat) (s1 : Int)  (a1 : Int32) (ra1 : 0 ≤ a1.toInt) (ta1 : a1.toInt ≤ 12) (a2 : Int32) (ra2 : 0 ≤ a2.toInt) (ta2 : a2.toInt ≤ 101999) (w0 : va_W) (sz : Nat) (hT : TW ksM ad cy B qr 13 w0)  : Met l yX12_isLifted wsX12_isLifted ({ frames := 1, cells := 0, slots := 0, locals := 12 }) (va_Pc [.ref (ad 0), .int a1, .int a2] (wpreS adK adV dC dI cy sz w0)) (va_Qi (P_X12_isLifted_5 ad cy B qr s1 a1 a2 w0) (fun u : va_W => wpost dC dI cy (va_A w0 sz) u) (va_A w0 sz)) 0 0 (va_A w0 sz) := by
  refine Met.ofW (cc := cX12_isLifted) (maxL := 5) (ret := (some .boolean)) (by decide) rfl ?_
  intro p e s m args below meth c s₁ Bk hml hv
  obtain ⟨rfl, ⟨hsz, hP, hK, hD0⟩, hE, hSR⟩ := hv
  have hx := Bk.exec
  have hb := Bk.bytes
  have hr := Bk.returns
  have hlocks := Bk.notSynchronized
  have hC : CallFix p m c cX12_isLifted 5 s _ wsX12_isLifted RX12 := ⟨hx, hb, hml, findClass_of_methodNamed Bk.named, atoms_spec (ws := wsX12_isLifted) Bk.pre⟩
  subst hsz
  have hD := hD0.self (sz := s.heap.size)
  generalize hAe : va_A w0 s.heap.size = A at hD hE ⊢
  have hA : ∀ q : Nat, s.heap.size ≤ q → A q := fun q h => by rw [← hAe]; exact Or.inr h
  have hw : Wd dC dI A s.heap s.heap [] w0 := ⟨hP, hD, va_S.rf⟩
  have hF : FE ksM ([] : List (Nat × Nat × Nat)) w0 w0 := FE.rf
  have hl := lv_entry ([.ref (ad 0), .int a1, .int a2]) (n := 5) (Nat.le_of_ble_eq_true rfl)
  rw [lg_entry_eq]
  generalize (lg_sl ([.ref (ad 0), .int a1, .int a2]) ++ List.replicate (5 - (lg_sl ([.ref (ad 0), .int a1, .int a2])).length) Slot.unset).toArray = ls at hl ⊢
  have hl : lv_has ls 5 [(0, .ref (ad 0)), (1, .int a1), (2, .int a2)] := hl
  generalize hloc : ([] : List Loc) = locs at hw ⊢
  have hinX12 : ∀ w ∈ u_ws RX12 TX12 42, w ∈ wsX12_isLifted := fun _ h => List.mem_cons_of_mem _ (List.mem_append_right _ (h))
  have L2 : ∀ (n2 : Nat) (v2_3 : Int32) (H : Heap) (locs : List Loc) (ls : Array Slot), 0 ≤ a1.toInt → a1.toInt ≤ 12 → 0 ≤ a2.toInt → a2.toInt ≤ 101999 → 0 ≤ v2_3.toInt → v2_3.toInt ≤ 4 → (4 - v2_3.toInt).toNat < n2 → Wd dC dI A s.heap H locs w0 → lv_has ls 5 [(0, .ref (ad 0)), (1, .int a1), (2, .int a2), (3, .int v2_3)] → W p l e ({ frames := 1, cells := 0, slots := 0, locals := 12 }) s m (List.toArray [.ref (ad 0), .int a1, .int a2]) below meth c H locs 0 0 (MQ below (va_Qi (P_X12_isLifted_5 ad cy B qr s1 a1 a2 w0) (fun u : va_W => wpost dC dI cy A u) A) (List.toArray [.ref (ad 0), .int a1, .int a2]) s 0 0 A) (F0 m 2 ls []) := by
    intro n2
    induction n2 with
    | zero => intro v2_3 H locs ls r1 t2 r3 t4 r5 t6 hm2 hw hl; omega
    | succ n2 ih2 =>
      intro v2_3 H locs ls r1 t2 r3 t4 r5 t6 hm2 hw hl
      have J66 : ∀ (v66_4 : Int32) (f66_12__3_v2_3_toInt_156_toNat : Int32) (f66_12_3 : Int32) (H : Heap) (locs : List Loc) (ls : Array Slot), 0 ≤ a1.toInt → a1.toInt ≤ 12 → 0 ≤ a2.toInt → a2.toInt ≤ 101999 → 0 ≤ v2_3.toInt → v2_3.toInt ≤ 3 → 156 ≤ v66_4.toInt → v66_4.toInt ≤ 165 → v66_4.toInt = 3 * v2_3.toInt + 156 → 1 ≤ f66_12_3.toInt → f66_12_3.toInt ≤ 4 → Wd dC dI A s.heap H locs w0 → gi w0 12 (3 * v2_3.toInt + 156).toNat = f66_12__3_v2_3_toInt_156_toNat → gi w0 12 3 = f66_12_3 → lv_has ls 5 [(0, .ref (ad 0)), (1, .int a1), (2, .int a2), (3, .int v2_3), (4, .int v66_4)] → W p l e ({ frames := 1, cells := 0, slots := 0, locals := 12 }) s m (List.toArray [.ref (ad 0), .int a1, .int a2]) below meth c H locs 0 0 (MQ below (va_Qi (P_X12_isLifted_5 ad cy B qr s1 a1 a2 w0) (fun u : va_W => wpost dC dI cy A u) A) (List.toArray [.ref (ad 0), .int a1, .int a2]) s 0 0 A) (F0 m 66 ls []) := by
        intro v66_4 f66_12__3_v2_3_toInt_156_toNat f66_12_3 H locs ls r7 t8 r9 t10 r11 t12 r13 t14 l15 r17 t18 hw c16 c19 hl
        obtain ⟨x20, ex20⟩ : ∃ y : Int32, y = v2_3 + Int32.ofInt 1 := ⟨_, rfl⟩
        refine lv_iinc (v := x20) (lv' := [(3, .int x20), (0, .ref (ad 0)), (1, .int a1), (2, .int a2), (4, .int v66_4)]) hx hb dX12_isLifted_66 hl (k := 3) rfl ex20.symm (by decide) rfl (fun ls hl => ?_)
        have ex20 : x20.toInt = v2_3.toInt + 1 := by rw [ex20]; exact wk_add (y := 1) (show -2147483648 ≤ v2_3.toInt + 1 by omega) (show v2_3.toInt + 1 ≤ 2147483647 by omega)
        refine lv_goto (tgt := 2) hx hb dX12_isLifted_69 (by decide) ?_
        exact ih2 x20 H locs ls  (show 0 ≤ a1.toInt by omega) (show a1.toInt ≤ 12 by omega) (show 0 ≤ a2.toInt by omega) (show a2.toInt ≤ 101999 by omega) (show 0 ≤ x20.toInt by omega) (show x20.toInt ≤ 4 by omega) (show (4 - x20.toInt).toNat < n2 by omega) hw   (lv_sub hl [1, 2, 3, 0] rfl)
      refine lv_iload_n hx hb dX12_isLifted_2 rfl (lv_at hl 3 rfl) ?_
      refine lv_aload_n hx hb dX12_isLifted_3 rfl (lv_at hl 0 rfl) ?_
      refine tk_getA hC hK hw hT hinX12 kM_at0 (by decide) rfl 26 (by decide) (List.mem_of_getElem? (i := 1) rfl) rfl rfl dX12_isLifted_4 ?_
      refine lv_iconst (v := 3) hx hb dX12_isLifted_7 (by decide) ?_
      refine tk_ialdR hC hK hw hT kM_at12 rfl (by decide) (by decide) dX12_isLifted_8 (fun x21 c22 Ex21 => ?_)
      have bx21 := tk_rgI rfl 3 1 1 0 4 (by decide +kernel) ⟨0, by decide, by decide⟩ Ex21
      have c22 : gi w0 12 3 = x21 := c22
      refine lv_icmp_ge (tgt := 72) hx hb dX12_isLifted_9 (by decide) (fun c23 => ?_) (fun c23 => ?_)
      · have c23 : x21.toInt ≤ v2_3.toInt := wk_le.mp c23
        refine lv_iconst (v := 0) hx hb dX12_isLifted_72 (by decide) ?_
        exact tk_zret hC hr rfl hlocks hK ⟨rfl, (Or.inl rfl)⟩ hw dX12_isLifted_73
      · have c23 : v2_3.toInt < x21.toInt := wk_leF c23
        refine lv_sipush (v := 156) hx hb dX12_isLifted_12 (by decide) ?_
        refine lv_iconst (v := 3) hx hb dX12_isLifted_15 (by decide) ?_
        refine lv_iload_n hx hb dX12_isLifted_16 rfl (lv_at hl 3 rfl) ?_
        refine lv_imul hx hb dX12_isLifted_17 ?_
        refine lv_topi (fun x24 ex24 => ?_)
        have ex24 : x24.toInt = (3 : Int) * v2_3.toInt := by rw [ex24]; exact wk_mul (show (-2147483648) ≤ (3 : Int) * v2_3.toInt by omega) (show (3 : Int) * v2_3.toInt ≤ 2147483647 by omega)
        refine lv_iadd hx hb dX12_isLifted_18 ?_
        refine lv_topi (fun x25 ex25 => ?_)
        have ex25 : x25.toInt = (156 : Int) + x24.toInt := by rw [ex25]; exact wk_add (show (-2147483648) ≤ (156 : Int) + x24.toInt by omega) (show (156 : Int) + x24.toInt ≤ 2147483647 by omega)
        refine lv_istore (lv' := [(4, .int x25), (0, .ref (ad 0)), (1, .int a1), (2, .int a2), (3, .int v2_3)]) hx hb dX12_isLifted_19 hl (by decide) rfl (fun ls hl => ?_)
        refine lv_aload_n hx hb dX12_isLifted_21 rfl (lv_at hl 1 rfl) ?_
        refine tk_getA hC hK hw hT hinX12 kM_at0 (by decide) rfl 26 (by decide) (List.mem_of_getElem? (i := 1) rfl) rfl rfl dX12_isLifted_22 ?_
        refine lv_iload hx hb dX12_isLifted_25 (lv_at hl 0 rfl) ?_
        refine tk_ialdR hC hK hw hT kM_at12 rfl (show 0 ≤ x25.toInt by omega) (show x25.toInt < 296 by omega) dX12_isLifted_27 (fun x26 c27 Ex26 => ?_)
        have c27 : gi w0 12 (3 * v2_3.toInt + 156).toNat = x26 := (congrArg (gi w0 12) (congrArg Int.toNat (show 3 * v2_3.toInt + 156 = x25.toInt by omega))).trans c27
        refine lv_iload_n hx hb dX12_isLifted_28 rfl (lv_at hl 2 rfl) ?_
        refine lv_icmp_ne (tgt := 66) hx hb dX12_isLifted_29 (by decide) (fun c28 => ?_) (fun c28 => ?_)
        · have c28 : ¬ x26.toInt = a1.toInt := wk_eqF c28
          exact J66 x25 x26 x21 H locs ls  (show 0 ≤ a1.toInt by omega) (show a1.toInt ≤ 12 by omega) (show 0 ≤ a2.toInt by omega) (show a2.toInt ≤ 101999 by omega) (show 0 ≤ v2_3.toInt by omega) (show v2_3.toInt ≤ 3 by omega) (show 156 ≤ x25.toInt by omega) (show x25.toInt ≤ 165 by omega) (show x25.toInt = 3 * v2_3.toInt + 156 by omega) (show 1 ≤ x21.toInt by omega) (show x21.toInt ≤ 4 by omega)  hw  c27 c22 (lv_sub hl [1, 2, 3, 4, 0] rfl)
        · have c28 : x26.toInt = a1.toInt := wk_eq.mp c28
          refine lv_iload_n hx hb dX12_isLifted_32 rfl (lv_at hl 3 rfl) ?_
          refine lv_bipush (v := 24) hx hb dX12_isLifted_33 (by decide) ?_
          refine lv_irem hx hb dX12_isLifted_35 (by decide) ?_
          refine lv_topi (fun x29 ex29 => ?_)
          have ex29 : x29.toInt = a2.toInt % (24 : Int) := by rw [ex29]; exact wk_rem (show 0 ≤ a2.toInt by omega) (show 0 < (24 : Int) by decide)
          refine lv_aload_n hx hb dX12_isLifted_36 rfl (lv_at hl 1 rfl) ?_
          refine tk_getA hC hK hw hT hinX12 kM_at0 (by decide) rfl 26 (by decide) (List.mem_of_getElem? (i := 1) rfl) rfl rfl dX12_isLifted_37 ?_
          refine lv_iload hx hb dX12_isLifted_40 (lv_at hl 0 rfl) ?_
          refine lv_iconst (v := 1) hx hb dX12_isLifted_42 (by decide) ?_
          refine lv_iadd hx hb dX12_isLifted_43 ?_
          refine lv_topi (fun x30 ex30 => ?_)
          have ex30 : x30.toInt = x25.toInt + (1 : Int) := by rw [ex30]; exact wk_add (show (-2147483648) ≤ x25.toInt + (1 : Int) by omega) (show x25.toInt + (1 : Int) ≤ 2147483647 by omega)
          refine tk_ialdR hC hK hw hT kM_at12 rfl (show 0 ≤ x30.toInt by omega) (show x30.toInt < 296 by omega) dX12_isLifted_44 (fun x31 c32 Ex31 => ?_)
          have c32 : gi w0 12 (3 * v2_3.toInt + 157).toNat = x31 := (congrArg (gi w0 12) (congrArg Int.toNat (show 3 * v2_3.toInt + 157 = x30.toInt by omega))).trans c32
          refine lv_icmp_lt (tgt := 66) hx hb dX12_isLifted_45 (by decide) (fun c33 => ?_) (fun c33 => ?_)
          · have c33 : x29.toInt < x31.toInt := wk_lt.mp c33
            exact J66 x25 x26 x21 H locs ls  (show 0 ≤ a1.toInt by omega) (show a1.toInt ≤ 12 by omega) (show 0 ≤ a2.toInt by omega) (show a2.toInt ≤ 101999 by omega) (show 0 ≤ v2_3.toInt by omega) (show v2_3.toInt ≤ 3 by omega) (show 156 ≤ x25.toInt by omega) (show x25.toInt ≤ 165 by omega) (show x25.toInt = 3 * v2_3.toInt + 156 by omega) (show 1 ≤ x21.toInt by omega) (show x21.toInt ≤ 4 by omega)  hw  c27 c22 (lv_sub hl [1, 2, 3, 4, 0] rfl)
          · have c33 : x31.toInt ≤ x29.toInt := wk_ltF c33
            refine lv_iload_n hx hb dX12_isLifted_48 rfl (lv_at hl 3 rfl) ?_
            refine lv_bipush (v := 24) hx hb dX12_isLifted_49 (by decide) ?_
            refine lv_irem hx hb dX12_isLifted_51 (by decide) ?_
            refine lv_topi (fun x34 ex34 => ?_)
            have ex34 : x34.toInt = a2.toInt % (24 : Int) := by rw [ex34]; exact wk_rem (show 0 ≤ a2.toInt by omega) (show 0 < (24 : Int) by decide)
            refine lv_aload_n hx hb dX12_isLifted_52 rfl (lv_at hl 1 rfl) ?_
            refine tk_getA hC hK hw hT hinX12 kM_at0 (by decide) rfl 26 (by decide) (List.mem_of_getElem? (i := 1) rfl) rfl rfl dX12_isLifted_53 ?_
            refine lv_iload hx hb dX12_isLifted_56 (lv_at hl 0 rfl) ?_
            refine lv_iconst (v := 2) hx hb dX12_isLifted_58 (by decide) ?_
            refine lv_iadd hx hb dX12_isLifted_59 ?_
            refine lv_topi (fun x35 ex35 => ?_)
            have ex35 : x35.toInt = x25.toInt + (2 : Int) := by rw [ex35]; exact wk_add (show (-2147483648) ≤ x25.toInt + (2 : Int) by omega) (show x25.toInt + (2 : Int) ≤ 2147483647 by omega)
            refine tk_ialdR hC hK hw hT kM_at12 rfl (show 0 ≤ x35.toInt by omega) (show x35.toInt < 296 by omega) dX12_isLifted_60 (fun x36 c37 Ex36 => ?_)
            have c37 : gi w0 12 (3 * v2_3.toInt + 158).toNat = x36 := (congrArg (gi w0 12) (congrArg Int.toNat (show 3 * v2_3.toInt + 158 = x35.toInt by omega))).trans c37
            refine lv_icmp_ge (tgt := 66) hx hb dX12_isLifted_61 (by decide) (fun c38 => ?_) (fun c38 => ?_)
            · have c38 : x36.toInt ≤ x34.toInt := wk_le.mp c38
              exact J66 x25 x26 x21 H locs ls  (show 0 ≤ a1.toInt by omega) (show a1.toInt ≤ 12 by omega) (show 0 ≤ a2.toInt by omega) (show a2.toInt ≤ 101999 by omega) (show 0 ≤ v2_3.toInt by omega) (show v2_3.toInt ≤ 3 by omega) (show 156 ≤ x25.toInt by omega) (show x25.toInt ≤ 165 by omega) (show x25.toInt = 3 * v2_3.toInt + 156 by omega) (show 1 ≤ x21.toInt by omega) (show x21.toInt ≤ 4 by omega)  hw  c27 c22 (lv_sub hl [1, 2, 3, 4, 0] rfl)
            · have c38 : x34.toInt < x36.toInt := wk_leF c38
              refine lv_iconst (v := 1) hx hb dX12_isLifted_64 (by decide) ?_
              exact tk_zret hC hr rfl hlocks hK ⟨rfl, (Or.inr ⟨rfl, ⟨x21, c22, (show 1 ≤ x21.toInt by omega), (show x21.toInt ≤ 4 by omega)⟩⟩)⟩ hw dX12_isLifted_65
  refine lv_iconst (v := 0) hx hb dX12_isLifted_0 (by decide) ?_
  refine lv_istore_n (lv' := [(3, .int 0), (0, .ref (ad 0)), (1, .int a1), (2, .int a2)]) hx hb dX12_isLifted_1 rfl hl (by decide) rfl (fun ls hl => ?_)
  exact L2 ((4 - (0 : Int)).toNat + 1) 0 s.heap locs ls  (show 0 ≤ a1.toInt by omega) (show a1.toInt ≤ 12 by omega) (show 0 ≤ a2.toInt by omega) (show a2.toInt ≤ 101999 by omega) (by decide) (by decide) (Nat.lt_succ_self _) hw   (lv_sub hl [1, 2, 3, 0] rfl)
abbrev P_X12_firstOpen_4 (ad : Nat → Nat) (cy : Nat → ClassId) (B : Int) (qr : Nat) (s1 : Int) (a1 : Int32) (a2 : Int32) (a3 : Int32) (a4 : Int32) (w0 : va_W) : Int32 → va_W → Prop := fun r u => w0 = u ∧ ((0 ≤ r.toInt ∧ r.toInt ≤ 100000000) ∨ (0 ≤ r.toInt ∧ r.toInt ≤ 101999 ∧ gi u 12 (10 * a1.toInt + 10).toNat = a2))
set_option maxHeartbeats 4000000 in
set_option maxRecDepth 100000 in
theorem k_X12_firstOpen_4 (l : Launch) (adK adV : Nat → Nat) (dC : Nat → ClassId) (dI : Nat → Nat → Nat) (cy : Nat → ClassId) (ad : Nat → Nat) (B : Int) (hB0 : 100000 ≤ B) (hB1 : B ≤ 1073741824) (qr : Nat) (s1 : Int)  (a1 : Int32) (ra1 : 0 ≤ a1.toInt) (ta1 : a1.toInt ≤ 12) (a2 : Int32) (ra2 : 0 ≤ a2.toInt) (ta2 : a2.toInt ≤ 9) (a3 : Int32) (ra3 : 0 ≤ a3.toInt) (ta3 : a3.toInt ≤ 100000100) (a4 : Int32) (ra4 : 2000 ≤ a4.toInt) (ta4 : a4.toInt ≤ 101999) (w0 : va_W) (sz : Nat) (hT : TW ksM ad cy B qr 13 w0)  : Met l yX12_firstOpen wsX12_firstOpen ({ frames := 4, cells := 0, slots := 0, locals := 80 }) (va_Pc [.ref (ad 0), .int a1, .int a2, .int a3, .int a4] (wpreS adK adV dC dI cy sz w0)) (va_Qi (P_X12_firstOpen_4 ad cy B qr s1 a1 a2 a3 a4 w0) (fun u : va_W => wpost dC dI cy (va_A w0 sz) u) (va_A w0 sz)) 0 0 (va_A w0 sz) := by
  refine Met.ofW (cc := cX12_firstOpen) (maxL := 6) (ret := (some .int)) (by decide) rfl ?_
  intro p e s m args below meth c s₁ Bk hml hv
  obtain ⟨rfl, ⟨hsz, hP, hK, hD0⟩, hE, hSR⟩ := hv
  have hx := Bk.exec
  have hb := Bk.bytes
  have hr := Bk.returns
  have hlocks := Bk.notSynchronized
  have hC : CallFix p m c cX12_firstOpen 6 s _ wsX12_firstOpen RX12 := ⟨hx, hb, hml, findClass_of_methodNamed Bk.named, atoms_spec (ws := wsX12_firstOpen) Bk.pre⟩
  subst hsz
  have hD := hD0.self (sz := s.heap.size)
  generalize hAe : va_A w0 s.heap.size = A at hD hE ⊢
  have hA : ∀ q : Nat, s.heap.size ≤ q → A q := fun q h => by rw [← hAe]; exact Or.inr h
  have hw : Wd dC dI A s.heap s.heap [] w0 := ⟨hP, hD, va_S.rf⟩
  have hF : FE ksM ([] : List (Nat × Nat × Nat)) w0 w0 := FE.rf
  have hl := lv_entry ([.ref (ad 0), .int a1, .int a2, .int a3, .int a4]) (n := 6) (Nat.le_of_ble_eq_true rfl)
  rw [lg_entry_eq]
  generalize (lg_sl ([.ref (ad 0), .int a1, .int a2, .int a3, .int a4]) ++ List.replicate (6 - (lg_sl ([.ref (ad 0), .int a1, .int a2, .int a3, .int a4])).length) Slot.unset).toArray = ls at hl ⊢
  have hl : lv_has ls 6 [(0, .ref (ad 0)), (1, .int a1), (2, .int a2), (3, .int a3), (4, .int a4)] := hl
  generalize hloc : ([] : List Loc) = locs at hw ⊢
  have L3 : ∀ (n3 : Nat) (v3_5 : Int32) (H : Heap) (locs : List Loc) (ls : Array Slot), 0 ≤ a1.toInt → a1.toInt ≤ 12 → 0 ≤ a2.toInt → a2.toInt ≤ 9 → 0 ≤ a3.toInt → a3.toInt ≤ 100000100 → 2000 ≤ a4.toInt → a4.toInt ≤ 101999 → 0 ≤ v3_5.toInt → v3_5.toInt ≤ 100000100 → (100000100 - v3_5.toInt).toNat < n3 → Wd dC dI A s.heap H locs w0 → lv_has ls 6 [(0, .ref (ad 0)), (1, .int a1), (2, .int a2), (3, .int a3), (4, .int a4), (5, .int v3_5)] → W p l e ({ frames := 4, cells := 0, slots := 0, locals := 80 }) s m (List.toArray [.ref (ad 0), .int a1, .int a2, .int a3, .int a4]) below meth c H locs 0 0 (MQ below (va_Qi (P_X12_firstOpen_4 ad cy B qr s1 a1 a2 a3 a4 w0) (fun u : va_W => wpost dC dI cy A u) A) (List.toArray [.ref (ad 0), .int a1, .int a2, .int a3, .int a4]) s 0 0 A) (F0 m 3 ls []) := by
    intro n3
    induction n3 with
    | zero => intro v3_5 H locs ls r1 t2 r3 t4 r5 t6 r7 t8 r9 t10 hm3 hw hl; omega
    | succ n3 ih3 =>
      intro v3_5 H locs ls r1 t2 r3 t4 r5 t6 r7 t8 r9 t10 hm3 hw hl
      refine lv_iload hx hb dX12_firstOpen_3 (lv_at hl 5 rfl) ?_
      refine lv_iload hx hb dX12_firstOpen_5 (lv_at hl 4 rfl) ?_
      refine lv_icmp_gt (tgt := 58) hx hb dX12_firstOpen_7 (by decide) (fun c11 => ?_) (fun c11 => ?_)
      · have c11 : a4.toInt < v3_5.toInt := wk_lt.mp c11
        refine lv_ldcw (v := 100000000) hx hb hC.2.2.2.1 (hC.2.2.2.2 _ (List.mem_of_getElem? (i := 1) rfl)) dX12_firstOpen_58 ?_
        exact tk_iret hC hr hlocks hK ⟨rfl, (Or.inl ⟨(by decide), (by decide)⟩)⟩ hw dX12_firstOpen_61
      · have c11 : v3_5.toInt ≤ a4.toInt := wk_ltF c11
        refine lv_aload_n hx hb dX12_firstOpen_10 rfl (lv_at hl 0 rfl) ?_
        refine lv_iload_n hx hb dX12_firstOpen_11 rfl (lv_at hl 1 rfl) ?_
        refine lv_iload_n hx hb dX12_firstOpen_12 rfl (lv_at hl 2 rfl) ?_
        refine lv_iload hx hb dX12_firstOpen_13 (lv_at hl 5 rfl) ?_
        refine lv_bipush (v := 24) hx hb dX12_firstOpen_15 (by decide) ?_
        refine lv_idiv hx hb dX12_firstOpen_17 (by decide) ?_
        refine lv_topi (fun x12 ex12 => ?_)
        have ex12 : x12.toInt = v3_5.toInt / (24 : Int) := by rw [ex12]; exact wk_div (show 0 ≤ v3_5.toInt by omega) (show 0 < (24 : Int) by decide)
        refine tk_Vi hC hK hw hT hA hE hSR kM_at0 (by decide) rfl (k_X12_isDayFor_5 l adK adV dC dI cy ad B (by omega) (by omega) qr s1   a1 (show 0 ≤ a1.toInt by omega) (show a1.toInt ≤ 12 by omega) a2 (show 0 ≤ a2.toInt by omega) (show a2.toInt ≤ 9 by omega) x12 (show 0 ≤ x12.toInt by omega) (show x12.toInt ≤ 4249 by omega) w0 H.size hT ) (cwV 3 hC.2.2.2.2 gX12_firstOpen_X12_isDayFor rfl rfl rfl (by decide +kernel) ⟨Nat.le_of_ble_eq_true rfl, Nat.le_of_ble_eq_true rfl⟩) rfl hl.1 rfl (Nat.le_of_ble_eq_true rfl) dX12_firstOpen_18 (fun r13 w15 H locs hp14 hw => ?_)
        obtain ⟨rfl, hg19⟩ := hp14
        rcases hg19 with rfl | ⟨rfl, c17⟩ | rfl | ⟨rfl, c18⟩
        · refine lv_if_ne (tgt := 39) hx hb dX12_firstOpen_21 (by decide) (fun c => absurd (by decide) c) (fun _ => ?_)
          refine lv_iload hx hb dX12_firstOpen_24 (lv_at hl 5 rfl) ?_
          refine lv_bipush (v := 24) hx hb dX12_firstOpen_26 (by decide) ?_
          refine lv_idiv hx hb dX12_firstOpen_28 (by decide) ?_
          refine lv_topi (fun x20 ex20 => ?_)
          have ex20 : x20.toInt = v3_5.toInt / (24 : Int) := by rw [ex20]; exact wk_div (show 0 ≤ v3_5.toInt by omega) (show 0 < (24 : Int) by decide)
          refine lv_iconst (v := 1) hx hb dX12_firstOpen_29 (by decide) ?_
          refine lv_iadd hx hb dX12_firstOpen_30 ?_
          refine lv_topi (fun x21 ex21 => ?_)
          have ex21 : x21.toInt = x20.toInt + (1 : Int) := by rw [ex21]; exact wk_add (show (-2147483648) ≤ x20.toInt + (1 : Int) by omega) (show x20.toInt + (1 : Int) ≤ 2147483647 by omega)
          refine lv_bipush (v := 24) hx hb dX12_firstOpen_31 (by decide) ?_
          refine lv_imul hx hb dX12_firstOpen_33 ?_
          refine lv_topi (fun x22 ex22 => ?_)
          have ex22 : x22.toInt = x21.toInt * (24 : Int) := by rw [ex22]; exact wk_mul (show (-2147483648) ≤ x21.toInt * (24 : Int) by omega) (show x21.toInt * (24 : Int) ≤ 2147483647 by omega)
          refine lv_istore (lv' := [(5, .int x22), (0, .ref (ad 0)), (1, .int a1), (2, .int a2), (3, .int a3), (4, .int a4)]) hx hb dX12_firstOpen_34 hl (by decide) rfl (fun ls hl => ?_)
          refine lv_goto (tgt := 3) hx hb dX12_firstOpen_36 (by decide) ?_
          exact ih3 x22 H locs ls  (show 0 ≤ a1.toInt by omega) (show a1.toInt ≤ 12 by omega) (show 0 ≤ a2.toInt by omega) (show a2.toInt ≤ 9 by omega) (show 0 ≤ a3.toInt by omega) (show a3.toInt ≤ 100000100 by omega) (show 2000 ≤ a4.toInt by omega) (show a4.toInt ≤ 101999 by omega) (show 0 ≤ x22.toInt by omega) (show x22.toInt ≤ 100000100 by omega) (show (100000100 - x22.toInt).toNat < n3 by omega) hw   (lv_sub hl [1, 2, 3, 4, 5, 0] rfl)
        · refine lv_if_ne (tgt := 39) hx hb dX12_firstOpen_21 (by decide) (fun c => absurd (by decide) c) (fun _ => ?_)
          refine lv_iload hx hb dX12_firstOpen_24 (lv_at hl 5 rfl) ?_
          refine lv_bipush (v := 24) hx hb dX12_firstOpen_26 (by decide) ?_
          refine lv_idiv hx hb dX12_firstOpen_28 (by decide) ?_
          refine lv_topi (fun x23 ex23 => ?_)
          have ex23 : x23.toInt = v3_5.toInt / (24 : Int) := by rw [ex23]; exact wk_div (show 0 ≤ v3_5.toInt by omega) (show 0 < (24 : Int) by decide)
          refine lv_iconst (v := 1) hx hb dX12_firstOpen_29 (by decide) ?_
          refine lv_iadd hx hb dX12_firstOpen_30 ?_
          refine lv_topi (fun x24 ex24 => ?_)
          have ex24 : x24.toInt = x23.toInt + (1 : Int) := by rw [ex24]; exact wk_add (show (-2147483648) ≤ x23.toInt + (1 : Int) by omega) (show x23.toInt + (1 : Int) ≤ 2147483647 by omega)
          refine lv_bipush (v := 24) hx hb dX12_firstOpen_31 (by decide) ?_
          refine lv_imul hx hb dX12_firstOpen_33 ?_
          refine lv_topi (fun x25 ex25 => ?_)
          have ex25 : x25.toInt = x24.toInt * (24 : Int) := by rw [ex25]; exact wk_mul (show (-2147483648) ≤ x24.toInt * (24 : Int) by omega) (show x24.toInt * (24 : Int) ≤ 2147483647 by omega)
          refine lv_istore (lv' := [(5, .int x25), (0, .ref (ad 0)), (1, .int a1), (2, .int a2), (3, .int a3), (4, .int a4)]) hx hb dX12_firstOpen_34 hl (by decide) rfl (fun ls hl => ?_)
          refine lv_goto (tgt := 3) hx hb dX12_firstOpen_36 (by decide) ?_
          exact ih3 x25 H locs ls  (show 0 ≤ a1.toInt by omega) (show a1.toInt ≤ 12 by omega) (show 0 ≤ a2.toInt by omega) (show a2.toInt ≤ 9 by omega) (show 0 ≤ a3.toInt by omega) (show a3.toInt ≤ 100000100 by omega) (show 2000 ≤ a4.toInt by omega) (show a4.toInt ≤ 101999 by omega) (show 0 ≤ x25.toInt by omega) (show x25.toInt ≤ 100000100 by omega) (show (100000100 - x25.toInt).toNat < n3 by omega) hw   (lv_sub hl [1, 2, 3, 4, 5, 0] rfl)
        · refine lv_if_ne (tgt := 39) hx hb dX12_firstOpen_21 (by decide) (fun _ => ?_) (fun c => absurd c (by decide))
          refine lv_aload_n hx hb dX12_firstOpen_39 rfl (lv_at hl 0 rfl) ?_
          refine lv_iload_n hx hb dX12_firstOpen_40 rfl (lv_at hl 1 rfl) ?_
          refine lv_iload hx hb dX12_firstOpen_41 (lv_at hl 5 rfl) ?_
          refine tk_Vi hC hK hw hT hA hE hSR kM_at0 (by decide) rfl (k_X12_isLifted_5 l adK adV dC dI cy ad B (by omega) (by omega) qr s1   a1 (show 0 ≤ a1.toInt by omega) (show a1.toInt ≤ 12 by omega) v3_5 (show 0 ≤ v3_5.toInt by omega) (show v3_5.toInt ≤ 101999 by omega) w0 H.size hT ) (cwV 2 hC.2.2.2.2 gX12_firstOpen_X12_isLifted rfl rfl rfl (by decide +kernel) ⟨Nat.le_of_ble_eq_true rfl, Nat.le_of_ble_eq_true rfl⟩) rfl hl.1 rfl (Nat.le_of_ble_eq_true rfl) dX12_firstOpen_43 (fun r26 w28 H locs hp27 hw => ?_)
          obtain ⟨rfl, hg32⟩ := hp27
          rcases hg32 with rfl | ⟨rfl, ⟨x30, c31, rx30, tx30⟩⟩
          · refine lv_if_eq (tgt := 55) hx hb dX12_firstOpen_46 (by decide) (fun _ => ?_) (fun c => absurd (by decide) c)
            refine lv_iload hx hb dX12_firstOpen_55 (lv_at hl 5 rfl) ?_
            exact tk_iret hC hr hlocks hK ⟨rfl, (Or.inl ⟨(show 0 ≤ v3_5.toInt by omega), (show v3_5.toInt ≤ 100000000 by omega)⟩)⟩ hw dX12_firstOpen_57
          · refine lv_if_eq (tgt := 55) hx hb dX12_firstOpen_46 (by decide) (fun c => absurd c (by decide)) (fun _ => ?_)
            obtain ⟨x33, ex33⟩ : ∃ y : Int32, y = v3_5 + Int32.ofInt 1 := ⟨_, rfl⟩
            refine lv_iinc (v := x33) (lv' := [(5, .int x33), (0, .ref (ad 0)), (1, .int a1), (2, .int a2), (3, .int a3), (4, .int a4)]) hx hb dX12_firstOpen_49 hl (k := 5) rfl ex33.symm (by decide) rfl (fun ls hl => ?_)
            have ex33 : x33.toInt = v3_5.toInt + 1 := by rw [ex33]; exact wk_add (y := 1) (show -2147483648 ≤ v3_5.toInt + 1 by omega) (show v3_5.toInt + 1 ≤ 2147483647 by omega)
            refine lv_goto (tgt := 3) hx hb dX12_firstOpen_52 (by decide) ?_
            exact ih3 x33 H locs ls  (show 0 ≤ a1.toInt by omega) (show a1.toInt ≤ 12 by omega) (show 0 ≤ a2.toInt by omega) (show a2.toInt ≤ 9 by omega) (show 0 ≤ a3.toInt by omega) (show a3.toInt ≤ 100000100 by omega) (show 2000 ≤ a4.toInt by omega) (show a4.toInt ≤ 101999 by omega) (show 0 ≤ x33.toInt by omega) (show x33.toInt ≤ 100000100 by omega) (show (100000100 - x33.toInt).toNat < n3 by omega) hw   (lv_sub hl [1, 2, 3, 4, 5, 0] rfl)
        · refine lv_if_ne (tgt := 39) hx hb dX12_firstOpen_21 (by decide) (fun _ => ?_) (fun c => absurd c (by decide))
          refine lv_aload_n hx hb dX12_firstOpen_39 rfl (lv_at hl 0 rfl) ?_
          refine lv_iload_n hx hb dX12_firstOpen_40 rfl (lv_at hl 1 rfl) ?_
          refine lv_iload hx hb dX12_firstOpen_41 (lv_at hl 5 rfl) ?_
          refine tk_Vi hC hK hw hT hA hE hSR kM_at0 (by decide) rfl (k_X12_isLifted_5 l adK adV dC dI cy ad B (by omega) (by omega) qr s1   a1 (show 0 ≤ a1.toInt by omega) (show a1.toInt ≤ 12 by omega) v3_5 (show 0 ≤ v3_5.toInt by omega) (show v3_5.toInt ≤ 101999 by omega) w0 H.size hT ) (cwV 2 hC.2.2.2.2 gX12_firstOpen_X12_isLifted rfl rfl rfl (by decide +kernel) ⟨Nat.le_of_ble_eq_true rfl, Nat.le_of_ble_eq_true rfl⟩) rfl hl.1 rfl (Nat.le_of_ble_eq_true rfl) dX12_firstOpen_43 (fun r34 w36 H locs hp35 hw => ?_)
          obtain ⟨rfl, hg40⟩ := hp35
          rcases hg40 with rfl | ⟨rfl, ⟨x38, c39, rx38, tx38⟩⟩
          · refine lv_if_eq (tgt := 55) hx hb dX12_firstOpen_46 (by decide) (fun _ => ?_) (fun c => absurd (by decide) c)
            refine lv_iload hx hb dX12_firstOpen_55 (lv_at hl 5 rfl) ?_
            exact tk_iret hC hr hlocks hK ⟨rfl, (Or.inr ⟨(show 0 ≤ v3_5.toInt by omega), (show v3_5.toInt ≤ 101999 by omega), c18⟩)⟩ hw dX12_firstOpen_57
          · refine lv_if_eq (tgt := 55) hx hb dX12_firstOpen_46 (by decide) (fun c => absurd c (by decide)) (fun _ => ?_)
            obtain ⟨x41, ex41⟩ : ∃ y : Int32, y = v3_5 + Int32.ofInt 1 := ⟨_, rfl⟩
            refine lv_iinc (v := x41) (lv' := [(5, .int x41), (0, .ref (ad 0)), (1, .int a1), (2, .int a2), (3, .int a3), (4, .int a4)]) hx hb dX12_firstOpen_49 hl (k := 5) rfl ex41.symm (by decide) rfl (fun ls hl => ?_)
            have ex41 : x41.toInt = v3_5.toInt + 1 := by rw [ex41]; exact wk_add (y := 1) (show -2147483648 ≤ v3_5.toInt + 1 by omega) (show v3_5.toInt + 1 ≤ 2147483647 by omega)
            refine lv_goto (tgt := 3) hx hb dX12_firstOpen_52 (by decide) ?_
            exact ih3 x41 H locs ls  (show 0 ≤ a1.toInt by omega) (show a1.toInt ≤ 12 by omega) (show 0 ≤ a2.toInt by omega) (show a2.toInt ≤ 9 by omega) (show 0 ≤ a3.toInt by omega) (show a3.toInt ≤ 100000100 by omega) (show 2000 ≤ a4.toInt by omega) (show a4.toInt ≤ 101999 by omega) (show 0 ≤ x41.toInt by omega) (show x41.toInt ≤ 100000100 by omega) (show (100000100 - x41.toInt).toNat < n3 by omega) hw   (lv_sub hl [1, 2, 3, 4, 5, 0] rfl)
  refine lv_iload_n hx hb dX12_firstOpen_0 rfl (lv_at hl 3 rfl) ?_
  refine lv_istore (lv' := [(5, .int a3), (0, .ref (ad 0)), (1, .int a1), (2, .int a2), (3, .int a3), (4, .int a4)]) hx hb dX12_firstOpen_1 hl (by decide) rfl (fun ls hl => ?_)
  exact L3 ((100000100 - a3.toInt).toNat + 1) a3 s.heap locs ls  (show 0 ≤ a1.toInt by omega) (show a1.toInt ≤ 12 by omega) (show 0 ≤ a2.toInt by omega) (show a2.toInt ≤ 9 by omega) (show 0 ≤ a3.toInt by omega) (show a3.toInt ≤ 100000100 by omega) (show 2000 ≤ a4.toInt by omega) (show a4.toInt ≤ 101999 by omega) (show 0 ≤ a3.toInt by omega) (show a3.toInt ≤ 100000100 by omega) (Nat.lt_succ_self _) hw   (lv_sub hl [1, 2, 3, 4, 5, 0] rfl)
abbrev P_X12_otherOf_3 (ad : Nat → Nat) (cy : Nat → ClassId) (B : Int) (qr : Nat) (s1 : Int) (a1 : Int32) (a2 : Int32) (w0 : va_W) : Int32 → va_W → Prop := fun r u => w0 = u ∧ ((0 ≤ r.toInt ∧ r.toInt ≤ 9) ∨ (0 ≤ r.toInt ∧ r.toInt ≤ 9 ∧ gi u 12 (10 * a1.toInt + 10).toNat = a2))
set_option maxHeartbeats 4000000 in
set_option maxRecDepth 100000 in
theorem k_X12_otherOf_3 (l : Launch) (adK adV : Nat → Nat) (dC : Nat → ClassId) (dI : Nat → Nat → Nat) (cy : Nat → ClassId) (ad : Nat → Nat) (B : Int) (hB0 : 100000 ≤ B) (hB1 : B ≤ 1073741824) (qr : Nat) (s1 : Int)  (a1 : Int32) (ra1 : 0 ≤ a1.toInt) (ta1 : a1.toInt ≤ 12) (a2 : Int32) (ra2 : 0 ≤ a2.toInt) (ta2 : a2.toInt ≤ 9) (w0 : va_W) (sz : Nat) (hT : TW ksM ad cy B qr 13 w0)  : Met l yX12_otherOf wsX12_otherOf ({ frames := 2, cells := 0, slots := 0, locals := 34 }) (va_Pc [.ref (ad 0), .int a1, .int a2] (wpreS adK adV dC dI cy sz w0)) (va_Qi (P_X12_otherOf_3 ad cy B qr s1 a1 a2 w0) (fun u : va_W => wpost dC dI cy (va_A w0 sz) u) (va_A w0 sz)) 0 0 (va_A w0 sz) := by
  refine Met.ofW (cc := cX12_otherOf) (maxL := 3) (ret := (some .int)) (by decide) rfl ?_
  intro p e s m args below meth c s₁ Bk hml hv
  obtain ⟨rfl, ⟨hsz, hP, hK, hD0⟩, hE, hSR⟩ := hv
  have hx := Bk.exec
  have hb := Bk.bytes
  have hr := Bk.returns
  have hlocks := Bk.notSynchronized
  have hC : CallFix p m c cX12_otherOf 3 s _ wsX12_otherOf RX12 := ⟨hx, hb, hml, findClass_of_methodNamed Bk.named, atoms_spec (ws := wsX12_otherOf) Bk.pre⟩
  subst hsz
  have hD := hD0.self (sz := s.heap.size)
  generalize hAe : va_A w0 s.heap.size = A at hD hE ⊢
  have hA : ∀ q : Nat, s.heap.size ≤ q → A q := fun q h => by rw [← hAe]; exact Or.inr h
  have hw : Wd dC dI A s.heap s.heap [] w0 := ⟨hP, hD, va_S.rf⟩
  have hF : FE ksM ([] : List (Nat × Nat × Nat)) w0 w0 := FE.rf
  have hl := lv_entry ([.ref (ad 0), .int a1, .int a2]) (n := 3) (Nat.le_of_ble_eq_true rfl)
  rw [lg_entry_eq]
  generalize (lg_sl ([.ref (ad 0), .int a1, .int a2]) ++ List.replicate (3 - (lg_sl ([.ref (ad 0), .int a1, .int a2])).length) Slot.unset).toArray = ls at hl ⊢
  have hl : lv_has ls 3 [(0, .ref (ad 0)), (1, .int a1), (2, .int a2)] := hl
  generalize hloc : ([] : List Loc) = locs at hw ⊢
  refine lv_aload_n hx hb dX12_otherOf_0 rfl (lv_at hl 0 rfl) ?_
  refine lv_iload_n hx hb dX12_otherOf_1 rfl (lv_at hl 1 rfl) ?_
  refine lv_iconst (v := 0) hx hb dX12_otherOf_2 (by decide) ?_
  refine tk_Vi hC hK hw hT hA hE hSR kM_at0 (by decide) rfl (k_X12_streetOf_11 l adK adV dC dI cy ad B (by omega) (by omega) qr s1   a1 (show 0 ≤ a1.toInt by omega) (show a1.toInt ≤ 12 by omega) w0 s.heap.size hT ) (cwV 2 hC.2.2.2.2 gX12_otherOf_X12_streetOf rfl rfl rfl (by decide +kernel) ⟨Nat.le_of_ble_eq_true rfl, Nat.le_of_ble_eq_true rfl⟩) rfl hl.1 rfl (Nat.le_of_ble_eq_true rfl) dX12_otherOf_3 (fun r1 w3 H locs hp2 hw => ?_)
  obtain ⟨rfl, hg8⟩ := hp2
  obtain ⟨g5, g6, c7⟩ := hg8
  refine lv_iload_n hx hb dX12_otherOf_6 rfl (lv_at hl 2 rfl) ?_
  refine lv_icmp_ne (tgt := 19) hx hb dX12_otherOf_7 (by decide) (fun c9 => ?_) (fun c9 => ?_)
  · have c9 : ¬ r1.toInt = a2.toInt := wk_eqF c9
    refine lv_aload_n hx hb dX12_otherOf_19 rfl (lv_at hl 0 rfl) ?_
    refine lv_iload_n hx hb dX12_otherOf_20 rfl (lv_at hl 1 rfl) ?_
    refine lv_iconst (v := 0) hx hb dX12_otherOf_21 (by decide) ?_
    refine tk_Vi hC hK hw hT hA hE hSR kM_at0 (by decide) rfl (k_X12_streetOf_11 l adK adV dC dI cy ad B (by omega) (by omega) qr s1   a1 (show 0 ≤ a1.toInt by omega) (show a1.toInt ≤ 12 by omega) w0 H.size hT ) (cwV 2 hC.2.2.2.2 gX12_otherOf_X12_streetOf rfl rfl rfl (by decide +kernel) ⟨Nat.le_of_ble_eq_true rfl, Nat.le_of_ble_eq_true rfl⟩) rfl hl.1 rfl (Nat.le_of_ble_eq_true rfl) dX12_otherOf_22 (fun r10 w12 H locs hp11 hw => ?_)
    obtain ⟨rfl, hg17⟩ := hp11
    obtain ⟨g14, g15, c16⟩ := hg17
    obtain rfl : r10 = r1 := c16.symm.trans c7
    exact tk_iret hC hr hlocks hK ⟨rfl, (Or.inl ⟨(show 0 ≤ r1.toInt by omega), (show r1.toInt ≤ 9 by omega)⟩)⟩ hw dX12_otherOf_25
  · have c9 : r1.toInt = a2.toInt := wk_eq.mp c9
    refine lv_aload_n hx hb dX12_otherOf_10 rfl (lv_at hl 0 rfl) ?_
    refine lv_iload_n hx hb dX12_otherOf_11 rfl (lv_at hl 1 rfl) ?_
    refine lv_iconst (v := 1) hx hb dX12_otherOf_12 (by decide) ?_
    refine tk_Vi hC hK hw hT hA hE hSR kM_at0 (by decide) rfl (k_X12_streetOf_12 l adK adV dC dI cy ad B (by omega) (by omega) qr s1   a1 (show 0 ≤ a1.toInt by omega) (show a1.toInt ≤ 12 by omega) w0 H.size hT ) (cwV 2 hC.2.2.2.2 gX12_otherOf_X12_streetOf rfl rfl rfl (by decide +kernel) ⟨Nat.le_of_ble_eq_true rfl, Nat.le_of_ble_eq_true rfl⟩) rfl hl.1 rfl (Nat.le_of_ble_eq_true rfl) dX12_otherOf_13 (fun r18 w20 H locs hp19 hw => ?_)
    obtain ⟨rfl, hg25⟩ := hp19
    obtain ⟨g22, g23, c24⟩ := hg25
    refine lv_goto (tgt := 25) hx hb dX12_otherOf_16 (by decide) ?_
    exact tk_iret hC hr hlocks hK ⟨rfl, (Or.inr ⟨(show 0 ≤ r18.toInt by omega), (show r18.toInt ≤ 9 by omega), (c7.trans (wk_eq.mpr (show r1.toInt = a2.toInt by omega)))⟩)⟩ hw dX12_otherOf_25
abbrev P_X12_streetOf_14 (ad : Nat → Nat) (cy : Nat → ClassId) (B : Int) (qr : Nat) (s1 : Int) (a1 : Int32) (w0 : va_W) : Int32 → va_W → Prop := fun r u => w0 = u ∧ ((0 ≤ r.toInt ∧ r.toInt ≤ 9 ∧ gi u 12 (10 * a1.toInt + 12).toNat = r))
set_option maxHeartbeats 4000000 in
set_option maxRecDepth 100000 in
theorem k_X12_streetOf_14 (l : Launch) (adK adV : Nat → Nat) (dC : Nat → ClassId) (dI : Nat → Nat → Nat) (cy : Nat → ClassId) (ad : Nat → Nat) (B : Int) (hB0 : 100000 ≤ B) (hB1 : B ≤ 1073741824) (qr : Nat) (s1 : Int)  (a1 : Int32) (ra1 : 0 ≤ a1.toInt) (ta1 : a1.toInt ≤ 12) (w0 : va_W) (sz : Nat) (hT : TW ksM ad cy B qr 13 w0)  : Met l yX12_streetOf wsX12_streetOf ({ frames := 1, cells := 0, slots := 0, locals := 12 }) (va_Pc [.ref (ad 0), .int a1, .int 2] (wpreS adK adV dC dI cy sz w0)) (va_Qi (P_X12_streetOf_14 ad cy B qr s1 a1 w0) (fun u : va_W => wpost dC dI cy (va_A w0 sz) u) (va_A w0 sz)) 0 0 (va_A w0 sz) := by
  refine Met.ofW (cc := cX12_streetOf) (maxL := 3) (ret := (some .int)) (by decide) rfl ?_
  intro p e s m args below meth c s₁ Bk hml hv
  obtain ⟨rfl, ⟨hsz, hP, hK, hD0⟩, hE, hSR⟩ := hv
  have hx := Bk.exec
  have hb := Bk.bytes
  have hr := Bk.returns
  have hlocks := Bk.notSynchronized
  have hC : CallFix p m c cX12_streetOf 3 s _ wsX12_streetOf RX12 := ⟨hx, hb, hml, findClass_of_methodNamed Bk.named, atoms_spec (ws := wsX12_streetOf) Bk.pre⟩
  subst hsz
  have hD := hD0.self (sz := s.heap.size)
  generalize hAe : va_A w0 s.heap.size = A at hD hE ⊢
  have hA : ∀ q : Nat, s.heap.size ≤ q → A q := fun q h => by rw [← hAe]; exact Or.inr h
  have hw : Wd dC dI A s.heap s.heap [] w0 := ⟨hP, hD, va_S.rf⟩
  have hF : FE ksM ([] : List (Nat × Nat × Nat)) w0 w0 := FE.rf
  have hl := lv_entry ([.ref (ad 0), .int a1, .int 2]) (n := 3) (Nat.le_of_ble_eq_true rfl)
  rw [lg_entry_eq]
  generalize (lg_sl ([.ref (ad 0), .int a1, .int 2]) ++ List.replicate (3 - (lg_sl ([.ref (ad 0), .int a1, .int 2])).length) Slot.unset).toArray = ls at hl ⊢
  have hl : lv_has ls 3 [(0, .ref (ad 0)), (1, .int a1), (2, .int 2)] := hl
  generalize hloc : ([] : List Loc) = locs at hw ⊢
  have hinX12 : ∀ w ∈ u_ws RX12 TX12 42, w ∈ wsX12_streetOf := fun _ h => List.mem_cons_of_mem _ (List.mem_append_right _ (h))
  refine lv_aload_n hx hb dX12_streetOf_0 rfl (lv_at hl 0 rfl) ?_
  refine tk_getA hC hK hw hT hinX12 kM_at0 (by decide) rfl 26 (by decide) (List.mem_of_getElem? (i := 1) rfl) rfl rfl dX12_streetOf_1 ?_
  refine lv_bipush (v := 10) hx hb dX12_streetOf_4 (by decide) ?_
  refine lv_bipush (v := 10) hx hb dX12_streetOf_6 (by decide) ?_
  refine lv_iload_n hx hb dX12_streetOf_8 rfl (lv_at hl 1 rfl) ?_
  refine lv_imul hx hb dX12_streetOf_9 ?_
  refine lv_topi (fun x1 ex1 => ?_)
  have ex1 : x1.toInt = (10 : Int) * a1.toInt := by rw [ex1]; exact wk_mul (show (-2147483648) ≤ (10 : Int) * a1.toInt by omega) (show (10 : Int) * a1.toInt ≤ 2147483647 by omega)
  refine lv_iadd hx hb dX12_streetOf_10 ?_
  refine lv_topi (fun x2 ex2 => ?_)
  have ex2 : x2.toInt = (10 : Int) + x1.toInt := by rw [ex2]; exact wk_add (show (-2147483648) ≤ (10 : Int) + x1.toInt by omega) (show (10 : Int) + x1.toInt ≤ 2147483647 by omega)
  refine lv_iload_n hx hb dX12_streetOf_11 rfl (lv_at hl 2 rfl) ?_
  refine lv_iadd hx hb dX12_streetOf_12 ?_
  refine lv_topi (fun x3 ex3 => ?_)
  have ex3 : x3.toInt = x2.toInt + (2 : Int) := by rw [ex3]; exact wk_add (show (-2147483648) ≤ x2.toInt + (2 : Int) by omega) (show x2.toInt + (2 : Int) ≤ 2147483647 by omega)
  refine tk_ialdR hC hK hw hT kM_at12 rfl (show 0 ≤ x3.toInt by omega) (show x3.toInt < 296 by omega) dX12_streetOf_13 (fun x4 c5 Ex4 => ?_)
  have c5 : gi w0 12 (10 * a1.toInt + 12).toNat = x4 := (congrArg (gi w0 12) (congrArg Int.toNat (show 10 * a1.toInt + 12 = x3.toInt by omega))).trans c5
  have bx4 := tk_rgI rfl 12 10 13 0 9 (by decide +kernel) ⟨(a1.toInt - 0).toNat, by omega, show x3.toInt.toNat = 12 + 10 * (a1.toInt - 0).toNat by omega⟩ Ex4
  exact tk_iret hC hr hlocks hK ⟨rfl, ⟨(show 0 ≤ x4.toInt by omega), (show x4.toInt ≤ 9 by omega), c5⟩⟩ hw dX12_streetOf_14
abbrev P_X12_reaches_3 (ad : Nat → Nat) (cy : Nat → ClassId) (B : Int) (qr : Nat) (s1 : Int) (a1 : Int32) (a2 : Int32) (a3 : Int32) (a4 : Int32) (w0 : va_W) : Int32 → va_W → Prop := fun r u => TW ksM ad cy B qr 13 u ∧ FE ksM [(77, 0, 10), (78, 0, 10)] w0 u ∧ ((0 ≤ r.toInt ∧ r.toInt ≤ 100000100))
set_option maxHeartbeats 4000000 in
set_option maxRecDepth 100000 in
theorem k_X12_reaches_3 (l : Launch) (adK adV : Nat → Nat) (dC : Nat → ClassId) (dI : Nat → Nat → Nat) (cy : Nat → ClassId) (ad : Nat → Nat) (B : Int) (hB0 : 100000 ≤ B) (hB1 : B ≤ 1073741824) (qr : Nat) (s1 : Int)  (a1 : Int32) (ra1 : 0 ≤ a1.toInt) (ta1 : a1.toInt ≤ 9) (a2 : Int32) (ra2 : 0 ≤ a2.toInt) (ta2 : a2.toInt ≤ 9) (a3 : Int32) (ra3 : 0 ≤ a3.toInt) (ta3 : a3.toInt ≤ 99999) (a4 : Int32) (ra4 : 2000 ≤ a4.toInt) (ta4 : a4.toInt ≤ 101999) (w0 : va_W) (sz : Nat) (hT : TW ksM ad cy B qr 13 w0)  : Met l yX12_reaches wsX12_reaches ({ frames := 5, cells := 0, slots := 0, locals := 105 }) (va_Pc [.ref (ad 0), .int a1, .int a2, .int a3, .int a4] (wpreS adK adV dC dI cy sz w0)) (va_Qi (P_X12_reaches_3 ad cy B qr s1 a1 a2 a3 a4 w0) (fun u : va_W => wpost dC dI cy (va_A w0 sz) u) (va_A w0 sz)) 0 0 (va_A w0 sz) := by
  refine Met.ofW (cc := cX12_reaches) (maxL := 9) (ret := (some .int)) (by decide) rfl ?_
  intro p e s m args below meth c s₁ Bk hml hv
  obtain ⟨rfl, ⟨hsz, hP, hK, hD0⟩, hE, hSR⟩ := hv
  have hx := Bk.exec
  have hb := Bk.bytes
  have hr := Bk.returns
  have hlocks := Bk.notSynchronized
  have hC : CallFix p m c cX12_reaches 9 s _ wsX12_reaches RX12 := ⟨hx, hb, hml, findClass_of_methodNamed Bk.named, atoms_spec (ws := wsX12_reaches) Bk.pre⟩
  subst hsz
  have hD := hD0.self (sz := s.heap.size)
  generalize hAe : va_A w0 s.heap.size = A at hD hE ⊢
  have hA : ∀ q : Nat, s.heap.size ≤ q → A q := fun q h => by rw [← hAe]; exact Or.inr h
  have hw : Wd dC dI A s.heap s.heap [] w0 := ⟨hP, hD, va_S.rf⟩
  have hF : FE ksM [(77, 0, 10), (78, 0, 10)] w0 w0 := FE.rf
  have hl := lv_entry ([.ref (ad 0), .int a1, .int a2, .int a3, .int a4]) (n := 9) (Nat.le_of_ble_eq_true rfl)
  rw [lg_entry_eq]
  generalize (lg_sl ([.ref (ad 0), .int a1, .int a2, .int a3, .int a4]) ++ List.replicate (9 - (lg_sl ([.ref (ad 0), .int a1, .int a2, .int a3, .int a4])).length) Slot.unset).toArray = ls at hl ⊢
  have hl : lv_has ls 9 [(0, .ref (ad 0)), (1, .int a1), (2, .int a2), (3, .int a3), (4, .int a4)] := hl
  generalize hloc : ([] : List Loc) = locs at hw ⊢
  have hinX12 : ∀ w ∈ u_ws RX12 TX12 42, w ∈ wsX12_reaches := fun _ h => List.mem_cons_of_mem _ (List.mem_append_right _ (h))
  have L44 : ∀ (n44 : Nat) (v44_5 : Int32) (H : Heap) (locs : List Loc) (ls : Array Slot) (w1 : va_W), 0 ≤ a1.toInt → a1.toInt ≤ 9 → 0 ≤ a2.toInt → a2.toInt ≤ 9 → 0 ≤ a3.toInt → a3.toInt ≤ 99999 → 2000 ≤ a4.toInt → a4.toInt ≤ 101999 → 0 ≤ v44_5.toInt → v44_5.toInt ≤ 10 → 0 ≤ (sumG 19 10 w1) → (10 - (sumG 19 10 w1)).toNat < n44 → Wd dC dI A s.heap H locs w1 → TW ksM ad cy B qr 13 w1 → FE ksM [(77, 0, 10), (78, 0, 10)] w0 w1 → lv_has ls 9 [(0, .ref (ad 0)), (1, .int a1), (2, .int a2), (3, .int a3), (4, .int a4), (5, .int v44_5)] → W p l e ({ frames := 5, cells := 0, slots := 0, locals := 105 }) s m (List.toArray [.ref (ad 0), .int a1, .int a2, .int a3, .int a4]) below meth c H locs 0 0 (MQ below (va_Qi (P_X12_reaches_3 ad cy B qr s1 a1 a2 a3 a4 w0) (fun u : va_W => wpost dC dI cy A u) A) (List.toArray [.ref (ad 0), .int a1, .int a2, .int a3, .int a4]) s 0 0 A) (F0 m 44 ls []) := by
    intro n44
    induction n44 with
    | zero => intro v44_5 H locs ls w1 r2 t3 r4 t5 r6 t7 r8 t9 r10 t11 hcr44_0 hm44 hw hT hF hl; omega
    | succ n44 ih44 =>
      intro v44_5 H locs ls w1 r2 t3 r4 t5 r6 t7 r8 t9 r10 t11 hcr44_0 hm44 hw hT hF hl
      have L145 : ∀ (n145 : Nat) (v145_5 : Int32) (v145_6 : Int32) (f145_12_0 : Int32) (H : Heap) (locs : List Loc) (ls : Array Slot) (w12 : va_W), 0 ≤ a1.toInt → a1.toInt ≤ 9 → 0 ≤ a2.toInt → a2.toInt ≤ 9 → 0 ≤ a3.toInt → a3.toInt ≤ 99999 → 2000 ≤ a4.toInt → a4.toInt ≤ 101999 → 0 ≤ v145_5.toInt → v145_5.toInt ≤ 9 → 0 ≤ v145_6.toInt → v145_6.toInt ≤ 13 → 0 ≤ f145_12_0.toInt → f145_12_0.toInt ≤ 10 → (sumG 19 10 w1) + 1 ≤ (sumG 19 10 w12) → (13 - v145_6.toInt).toNat < n145 → Wd dC dI A s.heap H locs w12 → TW ksM ad cy B qr 13 w12 → FE ksM [(77, 0, 10), (78, 0, 10)] w0 w12 → gi w12 12 0 = f145_12_0 → lv_has ls 9 [(0, .ref (ad 0)), (1, .int a1), (2, .int a2), (3, .int a3), (4, .int a4), (5, .int v145_5), (6, .int v145_6)] → W p l e ({ frames := 5, cells := 0, slots := 0, locals := 105 }) s m (List.toArray [.ref (ad 0), .int a1, .int a2, .int a3, .int a4]) below meth c H locs 0 0 (MQ below (va_Qi (P_X12_reaches_3 ad cy B qr s1 a1 a2 a3 a4 w0) (fun u : va_W => wpost dC dI cy A u) A) (List.toArray [.ref (ad 0), .int a1, .int a2, .int a3, .int a4]) s 0 0 A) (F0 m 145 ls []) := by
        intro n145
        induction n145 with
        | zero => intro v145_5 v145_6 f145_12_0 H locs ls w12 r13 t14 r15 t16 r17 t18 r19 t20 r21 t22 r23 t24 r25 t26 hcr145_0 hm145 hw hT hF c27 hl; omega
        | succ n145 ih145 =>
          intro v145_5 v145_6 f145_12_0 H locs ls w12 r13 t14 r15 t16 r17 t18 r19 t20 r21 t22 r23 t24 r25 t26 hcr145_0 hm145 hw hT hF c27 hl
          have J259 : ∀ (f259_12_1 : Int32) (H : Heap) (locs : List Loc) (ls : Array Slot) (w28 : va_W), 0 ≤ a1.toInt → a1.toInt ≤ 9 → 0 ≤ a2.toInt → a2.toInt ≤ 9 → 0 ≤ a3.toInt → a3.toInt ≤ 99999 → 2000 ≤ a4.toInt → a4.toInt ≤ 101999 → 0 ≤ v145_5.toInt → v145_5.toInt ≤ 9 → 0 ≤ v145_6.toInt → v145_6.toInt ≤ 12 → 0 ≤ f145_12_0.toInt → f145_12_0.toInt ≤ 10 → 1 ≤ f259_12_1.toInt → f259_12_1.toInt ≤ 13 → (sumG 19 10 w1) + 1 ≤ (sumG 19 10 w28) → Wd dC dI A s.heap H locs w28 → TW ksM ad cy B qr 13 w28 → FE ksM [(77, 0, 10), (78, 0, 10)] w0 w28 → gi w28 12 0 = f145_12_0 → gi w28 12 1 = f259_12_1 → lv_has ls 9 [(0, .ref (ad 0)), (1, .int a1), (2, .int a2), (3, .int a3), (4, .int a4), (5, .int v145_5), (6, .int v145_6)] → W p l e ({ frames := 5, cells := 0, slots := 0, locals := 105 }) s m (List.toArray [.ref (ad 0), .int a1, .int a2, .int a3, .int a4]) below meth c H locs 0 0 (MQ below (va_Qi (P_X12_reaches_3 ad cy B qr s1 a1 a2 a3 a4 w0) (fun u : va_W => wpost dC dI cy A u) A) (List.toArray [.ref (ad 0), .int a1, .int a2, .int a3, .int a4]) s 0 0 A) (F0 m 259 ls []) := by
            intro f259_12_1 H locs ls w28 r29 t30 r31 t32 r33 t34 r35 t36 r37 t38 r39 t40 r41 t42 r44 t45 hcr259_0 hw hT hF c43 c46 hl
            obtain ⟨x47, ex47⟩ : ∃ y : Int32, y = v145_6 + Int32.ofInt 1 := ⟨_, rfl⟩
            refine lv_iinc (v := x47) (lv' := [(6, .int x47), (0, .ref (ad 0)), (1, .int a1), (2, .int a2), (3, .int a3), (4, .int a4), (5, .int v145_5)]) hx hb dX12_reaches_259 hl (k := 6) rfl ex47.symm (by decide) rfl (fun ls hl => ?_)
            have ex47 : x47.toInt = v145_6.toInt + 1 := by rw [ex47]; exact wk_add (y := 1) (show -2147483648 ≤ v145_6.toInt + 1 by omega) (show v145_6.toInt + 1 ≤ 2147483647 by omega)
            refine lv_goto (tgt := 145) hx hb dX12_reaches_262 (by decide) ?_
            have gb48 : 0 ≤ sumG 19 10 w28 ∧ sumG 19 10 w28 ≤ 10 := hT.sum (lo := 0) (hi := 1) kM_at19 rfl (by decide) rfl
            exact ih145 v145_5 x47 f145_12_0 H locs ls w28 (show 0 ≤ a1.toInt by omega) (show a1.toInt ≤ 9 by omega) (show 0 ≤ a2.toInt by omega) (show a2.toInt ≤ 9 by omega) (show 0 ≤ a3.toInt by omega) (show a3.toInt ≤ 99999 by omega) (show 2000 ≤ a4.toInt by omega) (show a4.toInt ≤ 101999 by omega) (show 0 ≤ v145_5.toInt by omega) (show v145_5.toInt ≤ 9 by omega) (show 0 ≤ x47.toInt by omega) (show x47.toInt ≤ 13 by omega) (show 0 ≤ f145_12_0.toInt by omega) (show f145_12_0.toInt ≤ 10 by omega) (show (sumG 19 10 w1) + 1 ≤ (sumG 19 10 w28) by omega) (show (13 - x47.toInt).toNat < n145 by omega) hw hT hF c43 (lv_sub hl [1, 2, 3, 4, 5, 6, 0] rfl)
          refine lv_iload hx hb dX12_reaches_145 (lv_at hl 6 rfl) ?_
          refine lv_aload_n hx hb dX12_reaches_147 rfl (lv_at hl 0 rfl) ?_
          refine tk_getA hC hK hw hT hinX12 kM_at0 (by decide) rfl 26 (by decide) (List.mem_of_getElem? (i := 4) rfl) rfl rfl dX12_reaches_148 ?_
          refine lv_iconst (v := 1) hx hb dX12_reaches_151 (by decide) ?_
          refine tk_ialdR hC hK hw hT kM_at12 rfl (by decide) (by decide) dX12_reaches_152 (fun x49 c50 Ex49 => ?_)
          have bx49 : 0 ≤ x49.toInt ∧ x49.toInt ≤ 13 := (tk_rg1 rfl).mp Ex49
          have c50 : gi w12 12 1 = x49 := c50
          refine lv_icmp_ge (tgt := 265) hx hb dX12_reaches_153 (by decide) (fun c51 => ?_) (fun c51 => ?_)
          · have c51 : x49.toInt ≤ v145_6.toInt := wk_le.mp c51
            refine lv_goto (tgt := 44) hx hb dX12_reaches_265 (by decide) ?_
            have gb52 : 0 ≤ sumG 19 10 w12 ∧ sumG 19 10 w12 ≤ 10 := hT.sum (lo := 0) (hi := 1) kM_at19 rfl (by decide) rfl
            exact ih44 v145_5 H locs ls w12 (show 0 ≤ a1.toInt by omega) (show a1.toInt ≤ 9 by omega) (show 0 ≤ a2.toInt by omega) (show a2.toInt ≤ 9 by omega) (show 0 ≤ a3.toInt by omega) (show a3.toInt ≤ 99999 by omega) (show 2000 ≤ a4.toInt by omega) (show a4.toInt ≤ 101999 by omega) (show 0 ≤ v145_5.toInt by omega) (show v145_5.toInt ≤ 10 by omega) (show 0 ≤ (sumG 19 10 w12) by omega) (show (10 - (sumG 19 10 w12)).toNat < n44 by omega) hw hT hF  (lv_sub hl [0, 1, 2, 3, 4, 5] rfl)
          · have c51 : v145_6.toInt < x49.toInt := wk_leF c51
            refine lv_aload_n hx hb dX12_reaches_156 rfl (lv_at hl 0 rfl) ?_
            refine lv_iload hx hb dX12_reaches_157 (lv_at hl 6 rfl) ?_
            refine lv_iload hx hb dX12_reaches_159 (lv_at hl 5 rfl) ?_
            refine tk_Vi hC hK hw hT hA hE hSR kM_at0 (by decide) rfl (k_X12_isAt_3 l adK adV dC dI cy ad B (by omega) (by omega) qr s1   v145_6 (show 0 ≤ v145_6.toInt by omega) (show v145_6.toInt ≤ 12 by omega) v145_5 (show 0 ≤ v145_5.toInt by omega) (show v145_5.toInt ≤ 9 by omega) w12 H.size hT ) (cwV 2 hC.2.2.2.2 gX12_reaches_X12_isAt rfl rfl rfl (by decide +kernel) ⟨Nat.le_of_ble_eq_true rfl, Nat.le_of_ble_eq_true rfl⟩) rfl hl.1 rfl (Nat.le_of_ble_eq_true rfl) dX12_reaches_161 (fun r53 w55 H locs hp54 hw => ?_)
            obtain ⟨rfl, hg57⟩ := hp54
            rcases hg57 with rfl | rfl
            · refine lv_if_ne (tgt := 170) hx hb dX12_reaches_164 (by decide) (fun c => absurd (by decide) c) (fun _ => ?_)
              refine lv_goto (tgt := 259) hx hb dX12_reaches_167 (by decide) ?_
              have gb58 : 0 ≤ sumG 19 10 w12 ∧ sumG 19 10 w12 ≤ 10 := hT.sum (lo := 0) (hi := 1) kM_at19 rfl (by decide) rfl
              exact J259 x49 H locs ls w12 (show 0 ≤ a1.toInt by omega) (show a1.toInt ≤ 9 by omega) (show 0 ≤ a2.toInt by omega) (show a2.toInt ≤ 9 by omega) (show 0 ≤ a3.toInt by omega) (show a3.toInt ≤ 99999 by omega) (show 2000 ≤ a4.toInt by omega) (show a4.toInt ≤ 101999 by omega) (show 0 ≤ v145_5.toInt by omega) (show v145_5.toInt ≤ 9 by omega) (show 0 ≤ v145_6.toInt by omega) (show v145_6.toInt ≤ 12 by omega) (show 0 ≤ f145_12_0.toInt by omega) (show f145_12_0.toInt ≤ 10 by omega) (show 1 ≤ x49.toInt by omega) (show x49.toInt ≤ 13 by omega) (show (sumG 19 10 w1) + 1 ≤ (sumG 19 10 w12) by omega)  hw hT hF c27 c50 (lv_sub hl [0, 1, 2, 3, 4, 5, 6] rfl)
            · refine lv_if_ne (tgt := 170) hx hb dX12_reaches_164 (by decide) (fun _ => ?_) (fun c => absurd c (by decide))
              refine lv_aload_n hx hb dX12_reaches_170 rfl (lv_at hl 0 rfl) ?_
              refine lv_iload hx hb dX12_reaches_171 (lv_at hl 6 rfl) ?_
              refine lv_iload hx hb dX12_reaches_173 (lv_at hl 5 rfl) ?_
              refine lv_aload_n hx hb dX12_reaches_175 rfl (lv_at hl 0 rfl) ?_
              refine tk_getA hC hK hw hT hinX12 kM_at0 (by decide) rfl 35 (by decide) (List.mem_of_getElem? (i := 1) rfl) rfl rfl dX12_reaches_176 ?_
              refine lv_iload hx hb dX12_reaches_179 (lv_at hl 5 rfl) ?_
              refine tk_iald hC hK hw hT kM_at18 rfl rfl (show 0 ≤ v145_5.toInt by omega) (show v145_5.toInt < 10 by omega) dX12_reaches_181 (fun x59 c60 rx59 tx59 => ?_)
              refine lv_iload hx hb dX12_reaches_182 (lv_at hl 4 rfl) ?_
              refine tk_Vi hC hK hw hT hA hE hSR kM_at0 (by decide) rfl (k_X12_firstOpen_4 l adK adV dC dI cy ad B (by omega) (by omega) qr s1   v145_6 (show 0 ≤ v145_6.toInt by omega) (show v145_6.toInt ≤ 12 by omega) v145_5 (show 0 ≤ v145_5.toInt by omega) (show v145_5.toInt ≤ 9 by omega) x59 (show 0 ≤ x59.toInt by omega) (show x59.toInt ≤ 100000100 by omega) a4 (show 2000 ≤ a4.toInt by omega) (show a4.toInt ≤ 101999 by omega) w12 H.size hT ) (cwV 4 hC.2.2.2.2 gX12_reaches_X12_firstOpen rfl rfl rfl (by decide +kernel) ⟨Nat.le_of_ble_eq_true rfl, Nat.le_of_ble_eq_true rfl⟩) rfl hl.1 rfl (Nat.le_of_ble_eq_true rfl) dX12_reaches_184 (fun r61 w63 H locs hp62 hw => ?_)
              obtain ⟨rfl, hg70⟩ := hp62
              rcases hg70 with ⟨g65, g66⟩ | ⟨g67, g68, c69⟩
              · refine lv_istore (lv' := [(7, .int r61), (0, .ref (ad 0)), (1, .int a1), (2, .int a2), (3, .int a3), (4, .int a4), (5, .int v145_5), (6, .int v145_6)]) hx hb dX12_reaches_187 hl (by decide) rfl (fun ls hl => ?_)
                refine lv_aload_n hx hb dX12_reaches_189 rfl (lv_at hl 1 rfl) ?_
                refine lv_iload hx hb dX12_reaches_190 (lv_at hl 7 rfl) ?_
                refine lv_iload hx hb dX12_reaches_192 (lv_at hl 6 rfl) ?_
                refine tk_Vi hC hK hw hT hA hE hSR kM_at0 (by decide) rfl (k_X12_otherOf_3 l adK adV dC dI cy ad B (by omega) (by omega) qr s1   v145_6 (show 0 ≤ v145_6.toInt by omega) (show v145_6.toInt ≤ 12 by omega) v145_5 (show 0 ≤ v145_5.toInt by omega) (show v145_5.toInt ≤ 9 by omega) w12 H.size hT ) (cwV 2 hC.2.2.2.2 gX12_reaches_X12_otherOf rfl rfl rfl (by decide +kernel) ⟨Nat.le_of_ble_eq_true rfl, Nat.le_of_ble_eq_true rfl⟩) rfl hl.1 rfl (Nat.le_of_ble_eq_true rfl) dX12_reaches_194 (fun r71 w73 H locs hp72 hw => ?_)
                obtain ⟨rfl, hg80⟩ := hp72
                rcases hg80 with ⟨g75, g76⟩ | ⟨g77, g78, c79⟩
                · refine lv_istore (lv' := [(8, .int r71), (7, .int r61), (0, .ref (ad 0)), (1, .int a1), (2, .int a2), (3, .int a3), (4, .int a4), (5, .int v145_5), (6, .int v145_6)]) hx hb dX12_reaches_197 hl (by decide) rfl (fun ls hl => ?_)
                  refine lv_iload hx hb dX12_reaches_199 (lv_at hl 1 rfl) ?_
                  refine lv_ldcw (v := 100000000) hx hb hC.2.2.2.1 (hC.2.2.2.2 _ (List.mem_of_getElem? (i := 2) rfl)) dX12_reaches_201 ?_
                  refine lv_icmp_ge (tgt := 259) hx hb dX12_reaches_204 (by decide) (fun c81 => ?_) (fun c81 => ?_)
                  · have c81 : (100000000 : Int) ≤ r61.toInt := wk_le.mp c81
                    have gb82 : 0 ≤ sumG 19 10 w12 ∧ sumG 19 10 w12 ≤ 10 := hT.sum (lo := 0) (hi := 1) kM_at19 rfl (by decide) rfl
                    exact J259 x49 H locs ls w12 (show 0 ≤ a1.toInt by omega) (show a1.toInt ≤ 9 by omega) (show 0 ≤ a2.toInt by omega) (show a2.toInt ≤ 9 by omega) (show 0 ≤ a3.toInt by omega) (show a3.toInt ≤ 99999 by omega) (show 2000 ≤ a4.toInt by omega) (show a4.toInt ≤ 101999 by omega) (show 0 ≤ v145_5.toInt by omega) (show v145_5.toInt ≤ 9 by omega) (show 0 ≤ v145_6.toInt by omega) (show v145_6.toInt ≤ 12 by omega) (show 0 ≤ f145_12_0.toInt by omega) (show f145_12_0.toInt ≤ 10 by omega) (show 1 ≤ x49.toInt by omega) (show x49.toInt ≤ 13 by omega) (show (sumG 19 10 w1) + 1 ≤ (sumG 19 10 w12) by omega)  hw hT hF c27 c50 (lv_sub hl [2, 3, 4, 5, 6, 7, 8] rfl)
                  · have c81 : r61.toInt < (100000000 : Int) := wk_leF c81
                    refine lv_iload hx hb dX12_reaches_207 (lv_at hl 1 rfl) ?_
                    refine lv_aload_n hx hb dX12_reaches_209 rfl (lv_at hl 2 rfl) ?_
                    refine lv_iload hx hb dX12_reaches_210 (lv_at hl 8 rfl) ?_
                    refine lv_iconst (v := 2) hx hb dX12_reaches_212 (by decide) ?_
                    refine tk_Vi hC hK hw hT hA hE hSR kM_at0 (by decide) rfl (k_X12_streetOf_14 l adK adV dC dI cy ad B (by omega) (by omega) qr s1   v145_6 (show 0 ≤ v145_6.toInt by omega) (show v145_6.toInt ≤ 12 by omega) w12 H.size hT ) (cwV 2 hC.2.2.2.2 gX12_reaches_X12_streetOf rfl rfl rfl (by decide +kernel) ⟨Nat.le_of_ble_eq_true rfl, Nat.le_of_ble_eq_true rfl⟩) rfl hl.1 rfl (Nat.le_of_ble_eq_true rfl) dX12_reaches_213 (fun r83 w85 H locs hp84 hw => ?_)
                    obtain ⟨rfl, hg90⟩ := hp84
                    obtain ⟨g87, g88, c89⟩ := hg90
                    refine lv_iadd hx hb dX12_reaches_216 ?_
                    refine lv_topi (fun x91 ex91 => ?_)
                    have ex91 : x91.toInt = r61.toInt + r83.toInt := by rw [ex91]; exact wk_add (show (-2147483648) ≤ r61.toInt + r83.toInt by omega) (show r61.toInt + r83.toInt ≤ 2147483647 by omega)
                    refine lv_iload hx hb dX12_reaches_217 (lv_at hl 6 rfl) ?_
                    refine lv_icmp_gt (tgt := 259) hx hb dX12_reaches_219 (by decide) (fun c92 => ?_) (fun c92 => ?_)
                    · have c92 : a4.toInt < x91.toInt := wk_lt.mp c92
                      have gb93 : 0 ≤ sumG 19 10 w12 ∧ sumG 19 10 w12 ≤ 10 := hT.sum (lo := 0) (hi := 1) kM_at19 rfl (by decide) rfl
                      exact J259 x49 H locs ls w12 (show 0 ≤ a1.toInt by omega) (show a1.toInt ≤ 9 by omega) (show 0 ≤ a2.toInt by omega) (show a2.toInt ≤ 9 by omega) (show 0 ≤ a3.toInt by omega) (show a3.toInt ≤ 99999 by omega) (show 2000 ≤ a4.toInt by omega) (show a4.toInt ≤ 101999 by omega) (show 0 ≤ v145_5.toInt by omega) (show v145_5.toInt ≤ 9 by omega) (show 0 ≤ v145_6.toInt by omega) (show v145_6.toInt ≤ 12 by omega) (show 0 ≤ f145_12_0.toInt by omega) (show f145_12_0.toInt ≤ 10 by omega) (show 1 ≤ x49.toInt by omega) (show x49.toInt ≤ 13 by omega) (show (sumG 19 10 w1) + 1 ≤ (sumG 19 10 w12) by omega)  hw hT hF c27 c50 (lv_sub hl [2, 3, 4, 5, 6, 7, 8] rfl)
                    · have c92 : x91.toInt ≤ a4.toInt := wk_ltF c92
                      refine lv_iload hx hb dX12_reaches_222 (lv_at hl 1 rfl) ?_
                      refine lv_aload_n hx hb dX12_reaches_224 rfl (lv_at hl 2 rfl) ?_
                      refine lv_iload hx hb dX12_reaches_225 (lv_at hl 8 rfl) ?_
                      refine lv_iconst (v := 2) hx hb dX12_reaches_227 (by decide) ?_
                      refine tk_Vi hC hK hw hT hA hE hSR kM_at0 (by decide) rfl (k_X12_streetOf_14 l adK adV dC dI cy ad B (by omega) (by omega) qr s1   v145_6 (show 0 ≤ v145_6.toInt by omega) (show v145_6.toInt ≤ 12 by omega) w12 H.size hT ) (cwV 2 hC.2.2.2.2 gX12_reaches_X12_streetOf rfl rfl rfl (by decide +kernel) ⟨Nat.le_of_ble_eq_true rfl, Nat.le_of_ble_eq_true rfl⟩) rfl hl.1 rfl (Nat.le_of_ble_eq_true rfl) dX12_reaches_228 (fun r94 w96 H locs hp95 hw => ?_)
                      obtain ⟨rfl, hg101⟩ := hp95
                      obtain ⟨g98, g99, c100⟩ := hg101
                      obtain rfl : r94 = r83 := c100.symm.trans c89
                      refine lv_iadd hx hb dX12_reaches_231 ?_
                      refine lv_topi (fun x102 ex102 => ?_)
                      have ex102 : x102.toInt = r61.toInt + r83.toInt := by rw [ex102]; exact wk_add (show (-2147483648) ≤ r61.toInt + r83.toInt by omega) (show r61.toInt + r83.toInt ≤ 2147483647 by omega)
                      refine lv_aload_n hx hb dX12_reaches_232 rfl (lv_at hl 2 rfl) ?_
                      refine tk_getA hC hK hw hT hinX12 kM_at0 (by decide) rfl 35 (by decide) (List.mem_of_getElem? (i := 1) rfl) rfl rfl dX12_reaches_233 ?_
                      refine lv_iload hx hb dX12_reaches_236 (lv_at hl 0 rfl) ?_
                      refine tk_iald hC hK hw hT kM_at18 rfl rfl (show 0 ≤ r71.toInt by omega) (show r71.toInt < 10 by omega) dX12_reaches_238 (fun x103 c104 rx103 tx103 => ?_)
                      refine lv_icmp_ge (tgt := 259) hx hb dX12_reaches_239 (by decide) (fun c105 => ?_) (fun c105 => ?_)
                      · have c105 : x103.toInt ≤ x102.toInt := wk_le.mp c105
                        have gb106 : 0 ≤ sumG 19 10 w12 ∧ sumG 19 10 w12 ≤ 10 := hT.sum (lo := 0) (hi := 1) kM_at19 rfl (by decide) rfl
                        exact J259 x49 H locs ls w12 (show 0 ≤ a1.toInt by omega) (show a1.toInt ≤ 9 by omega) (show 0 ≤ a2.toInt by omega) (show a2.toInt ≤ 9 by omega) (show 0 ≤ a3.toInt by omega) (show a3.toInt ≤ 99999 by omega) (show 2000 ≤ a4.toInt by omega) (show a4.toInt ≤ 101999 by omega) (show 0 ≤ v145_5.toInt by omega) (show v145_5.toInt ≤ 9 by omega) (show 0 ≤ v145_6.toInt by omega) (show v145_6.toInt ≤ 12 by omega) (show 0 ≤ f145_12_0.toInt by omega) (show f145_12_0.toInt ≤ 10 by omega) (show 1 ≤ x49.toInt by omega) (show x49.toInt ≤ 13 by omega) (show (sumG 19 10 w1) + 1 ≤ (sumG 19 10 w12) by omega)  hw hT hF c27 c50 (lv_sub hl [2, 3, 4, 5, 6, 7, 8] rfl)
                      · have c105 : x102.toInt < x103.toInt := wk_leF c105
                        refine lv_aload_n hx hb dX12_reaches_242 rfl (lv_at hl 2 rfl) ?_
                        refine tk_getA hC hK hw hT hinX12 kM_at0 (by decide) rfl 35 (by decide) (List.mem_of_getElem? (i := 1) rfl) rfl rfl dX12_reaches_243 ?_
                        refine lv_iload hx hb dX12_reaches_246 (lv_at hl 0 rfl) ?_
                        refine lv_iload hx hb dX12_reaches_248 (lv_at hl 1 rfl) ?_
                        refine lv_aload_n hx hb dX12_reaches_250 rfl (lv_at hl 2 rfl) ?_
                        refine lv_iload hx hb dX12_reaches_251 (lv_at hl 8 rfl) ?_
                        refine lv_iconst (v := 2) hx hb dX12_reaches_253 (by decide) ?_
                        refine tk_Vi hC hK hw hT hA hE hSR kM_at0 (by decide) rfl (k_X12_streetOf_14 l adK adV dC dI cy ad B (by omega) (by omega) qr s1   v145_6 (show 0 ≤ v145_6.toInt by omega) (show v145_6.toInt ≤ 12 by omega) w12 H.size hT ) (cwV 2 hC.2.2.2.2 gX12_reaches_X12_streetOf rfl rfl rfl (by decide +kernel) ⟨Nat.le_of_ble_eq_true rfl, Nat.le_of_ble_eq_true rfl⟩) rfl hl.1 rfl (Nat.le_of_ble_eq_true rfl) dX12_reaches_254 (fun r107 w109 H locs hp108 hw => ?_)
                        obtain ⟨rfl, hg114⟩ := hp108
                        obtain ⟨g111, g112, c113⟩ := hg114
                        obtain rfl : r107 = r83 := c113.symm.trans c89
                        refine lv_iadd hx hb dX12_reaches_257 ?_
                        refine lv_topi (fun x115 ex115 => ?_)
                        have ex115 : x115.toInt = r61.toInt + r83.toInt := by rw [ex115]; exact wk_add (show (-2147483648) ≤ r61.toInt + r83.toInt by omega) (show r61.toInt + r83.toInt ≤ 2147483647 by omega)
                        refine tk_iast hC hK hw hT kM_at18 (by decide) rfl rfl (show 0 ≤ r71.toInt by omega) (show r71.toInt < 10 by omega) (show 0 ≤ x115.toInt by omega) (show x115.toInt ≤ 100000100 by omega) dX12_reaches_258 (fun H locs w116 hw hT k118 c117 => ?_)
                        have gs119 : sumG 19 10 w116 = sumG 19 10 w12 := sumG_ne 10 k118 (tk_ne kM_at19 kM_at18 (by decide))
                        have hF := hF.put kM_at18 (inE_of (a := 0) (b := 10) (by decide) (show 0 ≤ r71.toInt.toNat by omega) (show r71.toInt.toNat ≤ 10 by omega)) k118
                        have c120 := k118.gi (Or.inl (tk_ne kM_at12 kM_at18 (by decide))) c27
                        have c121 := k118.gi (Or.inl (tk_ne kM_at12 kM_at18 (by decide))) c50
                        have c122 := k118.gi (Or.inl (tk_ne kM_at12 kM_at18 (by decide))) c89
                        have gb123 : 0 ≤ sumG 19 10 w116 ∧ sumG 19 10 w116 ≤ 10 := hT.sum (lo := 0) (hi := 1) kM_at19 rfl (by decide) rfl
                        exact J259 x49 H locs ls w116 (show 0 ≤ a1.toInt by omega) (show a1.toInt ≤ 9 by omega) (show 0 ≤ a2.toInt by omega) (show a2.toInt ≤ 9 by omega) (show 0 ≤ a3.toInt by omega) (show a3.toInt ≤ 99999 by omega) (show 2000 ≤ a4.toInt by omega) (show a4.toInt ≤ 101999 by omega) (show 0 ≤ v145_5.toInt by omega) (show v145_5.toInt ≤ 9 by omega) (show 0 ≤ v145_6.toInt by omega) (show v145_6.toInt ≤ 12 by omega) (show 0 ≤ f145_12_0.toInt by omega) (show f145_12_0.toInt ≤ 10 by omega) (show 1 ≤ x49.toInt by omega) (show x49.toInt ≤ 13 by omega) (show (sumG 19 10 w1) + 1 ≤ (sumG 19 10 w116) by omega)  hw hT hF c120 c121 (lv_sub hl [2, 3, 4, 5, 6, 7, 8] rfl)
                · refine lv_istore (lv' := [(8, .int r71), (7, .int r61), (0, .ref (ad 0)), (1, .int a1), (2, .int a2), (3, .int a3), (4, .int a4), (5, .int v145_5), (6, .int v145_6)]) hx hb dX12_reaches_197 hl (by decide) rfl (fun ls hl => ?_)
                  refine lv_iload hx hb dX12_reaches_199 (lv_at hl 1 rfl) ?_
                  refine lv_ldcw (v := 100000000) hx hb hC.2.2.2.1 (hC.2.2.2.2 _ (List.mem_of_getElem? (i := 2) rfl)) dX12_reaches_201 ?_
                  refine lv_icmp_ge (tgt := 259) hx hb dX12_reaches_204 (by decide) (fun c124 => ?_) (fun c124 => ?_)
                  · have c124 : (100000000 : Int) ≤ r61.toInt := wk_le.mp c124
                    have gb125 : 0 ≤ sumG 19 10 w12 ∧ sumG 19 10 w12 ≤ 10 := hT.sum (lo := 0) (hi := 1) kM_at19 rfl (by decide) rfl
                    exact J259 x49 H locs ls w12 (show 0 ≤ a1.toInt by omega) (show a1.toInt ≤ 9 by omega) (show 0 ≤ a2.toInt by omega) (show a2.toInt ≤ 9 by omega) (show 0 ≤ a3.toInt by omega) (show a3.toInt ≤ 99999 by omega) (show 2000 ≤ a4.toInt by omega) (show a4.toInt ≤ 101999 by omega) (show 0 ≤ v145_5.toInt by omega) (show v145_5.toInt ≤ 9 by omega) (show 0 ≤ v145_6.toInt by omega) (show v145_6.toInt ≤ 12 by omega) (show 0 ≤ f145_12_0.toInt by omega) (show f145_12_0.toInt ≤ 10 by omega) (show 1 ≤ x49.toInt by omega) (show x49.toInt ≤ 13 by omega) (show (sumG 19 10 w1) + 1 ≤ (sumG 19 10 w12) by omega)  hw hT hF c27 c50 (lv_sub hl [2, 3, 4, 5, 6, 7, 8] rfl)
                  · have c124 : r61.toInt < (100000000 : Int) := wk_leF c124
                    refine lv_iload hx hb dX12_reaches_207 (lv_at hl 1 rfl) ?_
                    refine lv_aload_n hx hb dX12_reaches_209 rfl (lv_at hl 2 rfl) ?_
                    refine lv_iload hx hb dX12_reaches_210 (lv_at hl 8 rfl) ?_
                    refine lv_iconst (v := 2) hx hb dX12_reaches_212 (by decide) ?_
                    refine tk_Vi hC hK hw hT hA hE hSR kM_at0 (by decide) rfl (k_X12_streetOf_14 l adK adV dC dI cy ad B (by omega) (by omega) qr s1   v145_6 (show 0 ≤ v145_6.toInt by omega) (show v145_6.toInt ≤ 12 by omega) w12 H.size hT ) (cwV 2 hC.2.2.2.2 gX12_reaches_X12_streetOf rfl rfl rfl (by decide +kernel) ⟨Nat.le_of_ble_eq_true rfl, Nat.le_of_ble_eq_true rfl⟩) rfl hl.1 rfl (Nat.le_of_ble_eq_true rfl) dX12_reaches_213 (fun r126 w128 H locs hp127 hw => ?_)
                    obtain ⟨rfl, hg133⟩ := hp127
                    obtain ⟨g130, g131, c132⟩ := hg133
                    refine lv_iadd hx hb dX12_reaches_216 ?_
                    refine lv_topi (fun x134 ex134 => ?_)
                    have ex134 : x134.toInt = r61.toInt + r126.toInt := by rw [ex134]; exact wk_add (show (-2147483648) ≤ r61.toInt + r126.toInt by omega) (show r61.toInt + r126.toInt ≤ 2147483647 by omega)
                    refine lv_iload hx hb dX12_reaches_217 (lv_at hl 6 rfl) ?_
                    refine lv_icmp_gt (tgt := 259) hx hb dX12_reaches_219 (by decide) (fun c135 => ?_) (fun c135 => ?_)
                    · have c135 : a4.toInt < x134.toInt := wk_lt.mp c135
                      have gb136 : 0 ≤ sumG 19 10 w12 ∧ sumG 19 10 w12 ≤ 10 := hT.sum (lo := 0) (hi := 1) kM_at19 rfl (by decide) rfl
                      exact J259 x49 H locs ls w12 (show 0 ≤ a1.toInt by omega) (show a1.toInt ≤ 9 by omega) (show 0 ≤ a2.toInt by omega) (show a2.toInt ≤ 9 by omega) (show 0 ≤ a3.toInt by omega) (show a3.toInt ≤ 99999 by omega) (show 2000 ≤ a4.toInt by omega) (show a4.toInt ≤ 101999 by omega) (show 0 ≤ v145_5.toInt by omega) (show v145_5.toInt ≤ 9 by omega) (show 0 ≤ v145_6.toInt by omega) (show v145_6.toInt ≤ 12 by omega) (show 0 ≤ f145_12_0.toInt by omega) (show f145_12_0.toInt ≤ 10 by omega) (show 1 ≤ x49.toInt by omega) (show x49.toInt ≤ 13 by omega) (show (sumG 19 10 w1) + 1 ≤ (sumG 19 10 w12) by omega)  hw hT hF c27 c50 (lv_sub hl [2, 3, 4, 5, 6, 7, 8] rfl)
                    · have c135 : x134.toInt ≤ a4.toInt := wk_ltF c135
                      refine lv_iload hx hb dX12_reaches_222 (lv_at hl 1 rfl) ?_
                      refine lv_aload_n hx hb dX12_reaches_224 rfl (lv_at hl 2 rfl) ?_
                      refine lv_iload hx hb dX12_reaches_225 (lv_at hl 8 rfl) ?_
                      refine lv_iconst (v := 2) hx hb dX12_reaches_227 (by decide) ?_
                      refine tk_Vi hC hK hw hT hA hE hSR kM_at0 (by decide) rfl (k_X12_streetOf_14 l adK adV dC dI cy ad B (by omega) (by omega) qr s1   v145_6 (show 0 ≤ v145_6.toInt by omega) (show v145_6.toInt ≤ 12 by omega) w12 H.size hT ) (cwV 2 hC.2.2.2.2 gX12_reaches_X12_streetOf rfl rfl rfl (by decide +kernel) ⟨Nat.le_of_ble_eq_true rfl, Nat.le_of_ble_eq_true rfl⟩) rfl hl.1 rfl (Nat.le_of_ble_eq_true rfl) dX12_reaches_228 (fun r137 w139 H locs hp138 hw => ?_)
                      obtain ⟨rfl, hg144⟩ := hp138
                      obtain ⟨g141, g142, c143⟩ := hg144
                      obtain rfl : r137 = r126 := c143.symm.trans c132
                      refine lv_iadd hx hb dX12_reaches_231 ?_
                      refine lv_topi (fun x145 ex145 => ?_)
                      have ex145 : x145.toInt = r61.toInt + r126.toInt := by rw [ex145]; exact wk_add (show (-2147483648) ≤ r61.toInt + r126.toInt by omega) (show r61.toInt + r126.toInt ≤ 2147483647 by omega)
                      refine lv_aload_n hx hb dX12_reaches_232 rfl (lv_at hl 2 rfl) ?_
                      refine tk_getA hC hK hw hT hinX12 kM_at0 (by decide) rfl 35 (by decide) (List.mem_of_getElem? (i := 1) rfl) rfl rfl dX12_reaches_233 ?_
                      refine lv_iload hx hb dX12_reaches_236 (lv_at hl 0 rfl) ?_
                      refine tk_iald hC hK hw hT kM_at18 rfl rfl (show 0 ≤ r71.toInt by omega) (show r71.toInt < 10 by omega) dX12_reaches_238 (fun x146 c147 rx146 tx146 => ?_)
                      refine lv_icmp_ge (tgt := 259) hx hb dX12_reaches_239 (by decide) (fun c148 => ?_) (fun c148 => ?_)
                      · have c148 : x146.toInt ≤ x145.toInt := wk_le.mp c148
                        have gb149 : 0 ≤ sumG 19 10 w12 ∧ sumG 19 10 w12 ≤ 10 := hT.sum (lo := 0) (hi := 1) kM_at19 rfl (by decide) rfl
                        exact J259 x49 H locs ls w12 (show 0 ≤ a1.toInt by omega) (show a1.toInt ≤ 9 by omega) (show 0 ≤ a2.toInt by omega) (show a2.toInt ≤ 9 by omega) (show 0 ≤ a3.toInt by omega) (show a3.toInt ≤ 99999 by omega) (show 2000 ≤ a4.toInt by omega) (show a4.toInt ≤ 101999 by omega) (show 0 ≤ v145_5.toInt by omega) (show v145_5.toInt ≤ 9 by omega) (show 0 ≤ v145_6.toInt by omega) (show v145_6.toInt ≤ 12 by omega) (show 0 ≤ f145_12_0.toInt by omega) (show f145_12_0.toInt ≤ 10 by omega) (show 1 ≤ x49.toInt by omega) (show x49.toInt ≤ 13 by omega) (show (sumG 19 10 w1) + 1 ≤ (sumG 19 10 w12) by omega)  hw hT hF c27 c50 (lv_sub hl [2, 3, 4, 5, 6, 7, 8] rfl)
                      · have c148 : x145.toInt < x146.toInt := wk_leF c148
                        refine lv_aload_n hx hb dX12_reaches_242 rfl (lv_at hl 2 rfl) ?_
                        refine tk_getA hC hK hw hT hinX12 kM_at0 (by decide) rfl 35 (by decide) (List.mem_of_getElem? (i := 1) rfl) rfl rfl dX12_reaches_243 ?_
                        refine lv_iload hx hb dX12_reaches_246 (lv_at hl 0 rfl) ?_
                        refine lv_iload hx hb dX12_reaches_248 (lv_at hl 1 rfl) ?_
                        refine lv_aload_n hx hb dX12_reaches_250 rfl (lv_at hl 2 rfl) ?_
                        refine lv_iload hx hb dX12_reaches_251 (lv_at hl 8 rfl) ?_
                        refine lv_iconst (v := 2) hx hb dX12_reaches_253 (by decide) ?_
                        refine tk_Vi hC hK hw hT hA hE hSR kM_at0 (by decide) rfl (k_X12_streetOf_14 l adK adV dC dI cy ad B (by omega) (by omega) qr s1   v145_6 (show 0 ≤ v145_6.toInt by omega) (show v145_6.toInt ≤ 12 by omega) w12 H.size hT ) (cwV 2 hC.2.2.2.2 gX12_reaches_X12_streetOf rfl rfl rfl (by decide +kernel) ⟨Nat.le_of_ble_eq_true rfl, Nat.le_of_ble_eq_true rfl⟩) rfl hl.1 rfl (Nat.le_of_ble_eq_true rfl) dX12_reaches_254 (fun r150 w152 H locs hp151 hw => ?_)
                        obtain ⟨rfl, hg157⟩ := hp151
                        obtain ⟨g154, g155, c156⟩ := hg157
                        obtain rfl : r150 = r126 := c156.symm.trans c132
                        refine lv_iadd hx hb dX12_reaches_257 ?_
                        refine lv_topi (fun x158 ex158 => ?_)
                        have ex158 : x158.toInt = r61.toInt + r126.toInt := by rw [ex158]; exact wk_add (show (-2147483648) ≤ r61.toInt + r126.toInt by omega) (show r61.toInt + r126.toInt ≤ 2147483647 by omega)
                        refine tk_iast hC hK hw hT kM_at18 (by decide) rfl rfl (show 0 ≤ r71.toInt by omega) (show r71.toInt < 10 by omega) (show 0 ≤ x158.toInt by omega) (show x158.toInt ≤ 100000100 by omega) dX12_reaches_258 (fun H locs w159 hw hT k161 c160 => ?_)
                        have gs162 : sumG 19 10 w159 = sumG 19 10 w12 := sumG_ne 10 k161 (tk_ne kM_at19 kM_at18 (by decide))
                        have hF := hF.put kM_at18 (inE_of (a := 0) (b := 10) (by decide) (show 0 ≤ r71.toInt.toNat by omega) (show r71.toInt.toNat ≤ 10 by omega)) k161
                        have c163 := k161.gi (Or.inl (tk_ne kM_at12 kM_at18 (by decide))) c27
                        have c164 := k161.gi (Or.inl (tk_ne kM_at12 kM_at18 (by decide))) c50
                        have c165 := k161.gi (Or.inl (tk_ne kM_at12 kM_at18 (by decide))) c79
                        have c166 := k161.gi (Or.inl (tk_ne kM_at12 kM_at18 (by decide))) c132
                        have gb167 : 0 ≤ sumG 19 10 w159 ∧ sumG 19 10 w159 ≤ 10 := hT.sum (lo := 0) (hi := 1) kM_at19 rfl (by decide) rfl
                        exact J259 x49 H locs ls w159 (show 0 ≤ a1.toInt by omega) (show a1.toInt ≤ 9 by omega) (show 0 ≤ a2.toInt by omega) (show a2.toInt ≤ 9 by omega) (show 0 ≤ a3.toInt by omega) (show a3.toInt ≤ 99999 by omega) (show 2000 ≤ a4.toInt by omega) (show a4.toInt ≤ 101999 by omega) (show 0 ≤ v145_5.toInt by omega) (show v145_5.toInt ≤ 9 by omega) (show 0 ≤ v145_6.toInt by omega) (show v145_6.toInt ≤ 12 by omega) (show 0 ≤ f145_12_0.toInt by omega) (show f145_12_0.toInt ≤ 10 by omega) (show 1 ≤ x49.toInt by omega) (show x49.toInt ≤ 13 by omega) (show (sumG 19 10 w1) + 1 ≤ (sumG 19 10 w159) by omega)  hw hT hF c163 c164 (lv_sub hl [2, 3, 4, 5, 6, 7, 8] rfl)
              · refine lv_istore (lv' := [(7, .int r61), (0, .ref (ad 0)), (1, .int a1), (2, .int a2), (3, .int a3), (4, .int a4), (5, .int v145_5), (6, .int v145_6)]) hx hb dX12_reaches_187 hl (by decide) rfl (fun ls hl => ?_)
                refine lv_aload_n hx hb dX12_reaches_189 rfl (lv_at hl 1 rfl) ?_
                refine lv_iload hx hb dX12_reaches_190 (lv_at hl 7 rfl) ?_
                refine lv_iload hx hb dX12_reaches_192 (lv_at hl 6 rfl) ?_
                refine tk_Vi hC hK hw hT hA hE hSR kM_at0 (by decide) rfl (k_X12_otherOf_3 l adK adV dC dI cy ad B (by omega) (by omega) qr s1   v145_6 (show 0 ≤ v145_6.toInt by omega) (show v145_6.toInt ≤ 12 by omega) v145_5 (show 0 ≤ v145_5.toInt by omega) (show v145_5.toInt ≤ 9 by omega) w12 H.size hT ) (cwV 2 hC.2.2.2.2 gX12_reaches_X12_otherOf rfl rfl rfl (by decide +kernel) ⟨Nat.le_of_ble_eq_true rfl, Nat.le_of_ble_eq_true rfl⟩) rfl hl.1 rfl (Nat.le_of_ble_eq_true rfl) dX12_reaches_194 (fun r168 w170 H locs hp169 hw => ?_)
                obtain ⟨rfl, hg177⟩ := hp169
                rcases hg177 with ⟨g172, g173⟩ | ⟨g174, g175, c176⟩
                · refine lv_istore (lv' := [(8, .int r168), (7, .int r61), (0, .ref (ad 0)), (1, .int a1), (2, .int a2), (3, .int a3), (4, .int a4), (5, .int v145_5), (6, .int v145_6)]) hx hb dX12_reaches_197 hl (by decide) rfl (fun ls hl => ?_)
                  refine lv_iload hx hb dX12_reaches_199 (lv_at hl 1 rfl) ?_
                  refine lv_ldcw (v := 100000000) hx hb hC.2.2.2.1 (hC.2.2.2.2 _ (List.mem_of_getElem? (i := 2) rfl)) dX12_reaches_201 ?_
                  refine lv_icmp_ge (tgt := 259) hx hb dX12_reaches_204 (by decide) (fun c => absurd c (fun h => absurd (show (100000000 : Int) ≤ r61.toInt from wk_le.mp h) (by omega))) (fun _ => ?_)
                  refine lv_iload hx hb dX12_reaches_207 (lv_at hl 1 rfl) ?_
                  refine lv_aload_n hx hb dX12_reaches_209 rfl (lv_at hl 2 rfl) ?_
                  refine lv_iload hx hb dX12_reaches_210 (lv_at hl 8 rfl) ?_
                  refine lv_iconst (v := 2) hx hb dX12_reaches_212 (by decide) ?_
                  refine tk_Vi hC hK hw hT hA hE hSR kM_at0 (by decide) rfl (k_X12_streetOf_14 l adK adV dC dI cy ad B (by omega) (by omega) qr s1   v145_6 (show 0 ≤ v145_6.toInt by omega) (show v145_6.toInt ≤ 12 by omega) w12 H.size hT ) (cwV 2 hC.2.2.2.2 gX12_reaches_X12_streetOf rfl rfl rfl (by decide +kernel) ⟨Nat.le_of_ble_eq_true rfl, Nat.le_of_ble_eq_true rfl⟩) rfl hl.1 rfl (Nat.le_of_ble_eq_true rfl) dX12_reaches_213 (fun r178 w180 H locs hp179 hw => ?_)
                  obtain ⟨rfl, hg185⟩ := hp179
                  obtain ⟨g182, g183, c184⟩ := hg185
                  refine lv_iadd hx hb dX12_reaches_216 ?_
                  refine lv_topi (fun x186 ex186 => ?_)
                  have ex186 : x186.toInt = r61.toInt + r178.toInt := by rw [ex186]; exact wk_add (show (-2147483648) ≤ r61.toInt + r178.toInt by omega) (show r61.toInt + r178.toInt ≤ 2147483647 by omega)
                  refine lv_iload hx hb dX12_reaches_217 (lv_at hl 6 rfl) ?_
                  refine lv_icmp_gt (tgt := 259) hx hb dX12_reaches_219 (by decide) (fun c187 => ?_) (fun c187 => ?_)
                  · have c187 : a4.toInt < x186.toInt := wk_lt.mp c187
                    have gb188 : 0 ≤ sumG 19 10 w12 ∧ sumG 19 10 w12 ≤ 10 := hT.sum (lo := 0) (hi := 1) kM_at19 rfl (by decide) rfl
                    exact J259 x49 H locs ls w12 (show 0 ≤ a1.toInt by omega) (show a1.toInt ≤ 9 by omega) (show 0 ≤ a2.toInt by omega) (show a2.toInt ≤ 9 by omega) (show 0 ≤ a3.toInt by omega) (show a3.toInt ≤ 99999 by omega) (show 2000 ≤ a4.toInt by omega) (show a4.toInt ≤ 101999 by omega) (show 0 ≤ v145_5.toInt by omega) (show v145_5.toInt ≤ 9 by omega) (show 0 ≤ v145_6.toInt by omega) (show v145_6.toInt ≤ 12 by omega) (show 0 ≤ f145_12_0.toInt by omega) (show f145_12_0.toInt ≤ 10 by omega) (show 1 ≤ x49.toInt by omega) (show x49.toInt ≤ 13 by omega) (show (sumG 19 10 w1) + 1 ≤ (sumG 19 10 w12) by omega)  hw hT hF c27 c50 (lv_sub hl [2, 3, 4, 5, 6, 7, 8] rfl)
                  · have c187 : x186.toInt ≤ a4.toInt := wk_ltF c187
                    refine lv_iload hx hb dX12_reaches_222 (lv_at hl 1 rfl) ?_
                    refine lv_aload_n hx hb dX12_reaches_224 rfl (lv_at hl 2 rfl) ?_
                    refine lv_iload hx hb dX12_reaches_225 (lv_at hl 8 rfl) ?_
                    refine lv_iconst (v := 2) hx hb dX12_reaches_227 (by decide) ?_
                    refine tk_Vi hC hK hw hT hA hE hSR kM_at0 (by decide) rfl (k_X12_streetOf_14 l adK adV dC dI cy ad B (by omega) (by omega) qr s1   v145_6 (show 0 ≤ v145_6.toInt by omega) (show v145_6.toInt ≤ 12 by omega) w12 H.size hT ) (cwV 2 hC.2.2.2.2 gX12_reaches_X12_streetOf rfl rfl rfl (by decide +kernel) ⟨Nat.le_of_ble_eq_true rfl, Nat.le_of_ble_eq_true rfl⟩) rfl hl.1 rfl (Nat.le_of_ble_eq_true rfl) dX12_reaches_228 (fun r189 w191 H locs hp190 hw => ?_)
                    obtain ⟨rfl, hg196⟩ := hp190
                    obtain ⟨g193, g194, c195⟩ := hg196
                    obtain rfl : r189 = r178 := c195.symm.trans c184
                    refine lv_iadd hx hb dX12_reaches_231 ?_
                    refine lv_topi (fun x197 ex197 => ?_)
                    have ex197 : x197.toInt = r61.toInt + r178.toInt := by rw [ex197]; exact wk_add (show (-2147483648) ≤ r61.toInt + r178.toInt by omega) (show r61.toInt + r178.toInt ≤ 2147483647 by omega)
                    refine lv_aload_n hx hb dX12_reaches_232 rfl (lv_at hl 2 rfl) ?_
                    refine tk_getA hC hK hw hT hinX12 kM_at0 (by decide) rfl 35 (by decide) (List.mem_of_getElem? (i := 1) rfl) rfl rfl dX12_reaches_233 ?_
                    refine lv_iload hx hb dX12_reaches_236 (lv_at hl 0 rfl) ?_
                    refine tk_iald hC hK hw hT kM_at18 rfl rfl (show 0 ≤ r168.toInt by omega) (show r168.toInt < 10 by omega) dX12_reaches_238 (fun x198 c199 rx198 tx198 => ?_)
                    refine lv_icmp_ge (tgt := 259) hx hb dX12_reaches_239 (by decide) (fun c200 => ?_) (fun c200 => ?_)
                    · have c200 : x198.toInt ≤ x197.toInt := wk_le.mp c200
                      have gb201 : 0 ≤ sumG 19 10 w12 ∧ sumG 19 10 w12 ≤ 10 := hT.sum (lo := 0) (hi := 1) kM_at19 rfl (by decide) rfl
                      exact J259 x49 H locs ls w12 (show 0 ≤ a1.toInt by omega) (show a1.toInt ≤ 9 by omega) (show 0 ≤ a2.toInt by omega) (show a2.toInt ≤ 9 by omega) (show 0 ≤ a3.toInt by omega) (show a3.toInt ≤ 99999 by omega) (show 2000 ≤ a4.toInt by omega) (show a4.toInt ≤ 101999 by omega) (show 0 ≤ v145_5.toInt by omega) (show v145_5.toInt ≤ 9 by omega) (show 0 ≤ v145_6.toInt by omega) (show v145_6.toInt ≤ 12 by omega) (show 0 ≤ f145_12_0.toInt by omega) (show f145_12_0.toInt ≤ 10 by omega) (show 1 ≤ x49.toInt by omega) (show x49.toInt ≤ 13 by omega) (show (sumG 19 10 w1) + 1 ≤ (sumG 19 10 w12) by omega)  hw hT hF c27 c50 (lv_sub hl [2, 3, 4, 5, 6, 7, 8] rfl)
                    · have c200 : x197.toInt < x198.toInt := wk_leF c200
                      refine lv_aload_n hx hb dX12_reaches_242 rfl (lv_at hl 2 rfl) ?_
                      refine tk_getA hC hK hw hT hinX12 kM_at0 (by decide) rfl 35 (by decide) (List.mem_of_getElem? (i := 1) rfl) rfl rfl dX12_reaches_243 ?_
                      refine lv_iload hx hb dX12_reaches_246 (lv_at hl 0 rfl) ?_
                      refine lv_iload hx hb dX12_reaches_248 (lv_at hl 1 rfl) ?_
                      refine lv_aload_n hx hb dX12_reaches_250 rfl (lv_at hl 2 rfl) ?_
                      refine lv_iload hx hb dX12_reaches_251 (lv_at hl 8 rfl) ?_
                      refine lv_iconst (v := 2) hx hb dX12_reaches_253 (by decide) ?_
                      refine tk_Vi hC hK hw hT hA hE hSR kM_at0 (by decide) rfl (k_X12_streetOf_14 l adK adV dC dI cy ad B (by omega) (by omega) qr s1   v145_6 (show 0 ≤ v145_6.toInt by omega) (show v145_6.toInt ≤ 12 by omega) w12 H.size hT ) (cwV 2 hC.2.2.2.2 gX12_reaches_X12_streetOf rfl rfl rfl (by decide +kernel) ⟨Nat.le_of_ble_eq_true rfl, Nat.le_of_ble_eq_true rfl⟩) rfl hl.1 rfl (Nat.le_of_ble_eq_true rfl) dX12_reaches_254 (fun r202 w204 H locs hp203 hw => ?_)
                      obtain ⟨rfl, hg209⟩ := hp203
                      obtain ⟨g206, g207, c208⟩ := hg209
                      obtain rfl : r202 = r178 := c208.symm.trans c184
                      refine lv_iadd hx hb dX12_reaches_257 ?_
                      refine lv_topi (fun x210 ex210 => ?_)
                      have ex210 : x210.toInt = r61.toInt + r178.toInt := by rw [ex210]; exact wk_add (show (-2147483648) ≤ r61.toInt + r178.toInt by omega) (show r61.toInt + r178.toInt ≤ 2147483647 by omega)
                      refine tk_iast hC hK hw hT kM_at18 (by decide) rfl rfl (show 0 ≤ r168.toInt by omega) (show r168.toInt < 10 by omega) (show 0 ≤ x210.toInt by omega) (show x210.toInt ≤ 100000100 by omega) dX12_reaches_258 (fun H locs w211 hw hT k213 c212 => ?_)
                      have gs214 : sumG 19 10 w211 = sumG 19 10 w12 := sumG_ne 10 k213 (tk_ne kM_at19 kM_at18 (by decide))
                      have hF := hF.put kM_at18 (inE_of (a := 0) (b := 10) (by decide) (show 0 ≤ r168.toInt.toNat by omega) (show r168.toInt.toNat ≤ 10 by omega)) k213
                      have c215 := k213.gi (Or.inl (tk_ne kM_at12 kM_at18 (by decide))) c27
                      have c216 := k213.gi (Or.inl (tk_ne kM_at12 kM_at18 (by decide))) c50
                      have c217 := k213.gi (Or.inl (tk_ne kM_at12 kM_at18 (by decide))) c69
                      have c218 := k213.gi (Or.inl (tk_ne kM_at12 kM_at18 (by decide))) c184
                      have gb219 : 0 ≤ sumG 19 10 w211 ∧ sumG 19 10 w211 ≤ 10 := hT.sum (lo := 0) (hi := 1) kM_at19 rfl (by decide) rfl
                      exact J259 x49 H locs ls w211 (show 0 ≤ a1.toInt by omega) (show a1.toInt ≤ 9 by omega) (show 0 ≤ a2.toInt by omega) (show a2.toInt ≤ 9 by omega) (show 0 ≤ a3.toInt by omega) (show a3.toInt ≤ 99999 by omega) (show 2000 ≤ a4.toInt by omega) (show a4.toInt ≤ 101999 by omega) (show 0 ≤ v145_5.toInt by omega) (show v145_5.toInt ≤ 9 by omega) (show 0 ≤ v145_6.toInt by omega) (show v145_6.toInt ≤ 12 by omega) (show 0 ≤ f145_12_0.toInt by omega) (show f145_12_0.toInt ≤ 10 by omega) (show 1 ≤ x49.toInt by omega) (show x49.toInt ≤ 13 by omega) (show (sumG 19 10 w1) + 1 ≤ (sumG 19 10 w211) by omega)  hw hT hF c215 c216 (lv_sub hl [2, 3, 4, 5, 6, 7, 8] rfl)
                · refine lv_istore (lv' := [(8, .int r168), (7, .int r61), (0, .ref (ad 0)), (1, .int a1), (2, .int a2), (3, .int a3), (4, .int a4), (5, .int v145_5), (6, .int v145_6)]) hx hb dX12_reaches_197 hl (by decide) rfl (fun ls hl => ?_)
                  refine lv_iload hx hb dX12_reaches_199 (lv_at hl 1 rfl) ?_
                  refine lv_ldcw (v := 100000000) hx hb hC.2.2.2.1 (hC.2.2.2.2 _ (List.mem_of_getElem? (i := 2) rfl)) dX12_reaches_201 ?_
                  refine lv_icmp_ge (tgt := 259) hx hb dX12_reaches_204 (by decide) (fun c => absurd c (fun h => absurd (show (100000000 : Int) ≤ r61.toInt from wk_le.mp h) (by omega))) (fun _ => ?_)
                  refine lv_iload hx hb dX12_reaches_207 (lv_at hl 1 rfl) ?_
                  refine lv_aload_n hx hb dX12_reaches_209 rfl (lv_at hl 2 rfl) ?_
                  refine lv_iload hx hb dX12_reaches_210 (lv_at hl 8 rfl) ?_
                  refine lv_iconst (v := 2) hx hb dX12_reaches_212 (by decide) ?_
                  refine tk_Vi hC hK hw hT hA hE hSR kM_at0 (by decide) rfl (k_X12_streetOf_14 l adK adV dC dI cy ad B (by omega) (by omega) qr s1   v145_6 (show 0 ≤ v145_6.toInt by omega) (show v145_6.toInt ≤ 12 by omega) w12 H.size hT ) (cwV 2 hC.2.2.2.2 gX12_reaches_X12_streetOf rfl rfl rfl (by decide +kernel) ⟨Nat.le_of_ble_eq_true rfl, Nat.le_of_ble_eq_true rfl⟩) rfl hl.1 rfl (Nat.le_of_ble_eq_true rfl) dX12_reaches_213 (fun r220 w222 H locs hp221 hw => ?_)
                  obtain ⟨rfl, hg227⟩ := hp221
                  obtain ⟨g224, g225, c226⟩ := hg227
                  refine lv_iadd hx hb dX12_reaches_216 ?_
                  refine lv_topi (fun x228 ex228 => ?_)
                  have ex228 : x228.toInt = r61.toInt + r220.toInt := by rw [ex228]; exact wk_add (show (-2147483648) ≤ r61.toInt + r220.toInt by omega) (show r61.toInt + r220.toInt ≤ 2147483647 by omega)
                  refine lv_iload hx hb dX12_reaches_217 (lv_at hl 6 rfl) ?_
                  refine lv_icmp_gt (tgt := 259) hx hb dX12_reaches_219 (by decide) (fun c229 => ?_) (fun c229 => ?_)
                  · have c229 : a4.toInt < x228.toInt := wk_lt.mp c229
                    have gb230 : 0 ≤ sumG 19 10 w12 ∧ sumG 19 10 w12 ≤ 10 := hT.sum (lo := 0) (hi := 1) kM_at19 rfl (by decide) rfl
                    exact J259 x49 H locs ls w12 (show 0 ≤ a1.toInt by omega) (show a1.toInt ≤ 9 by omega) (show 0 ≤ a2.toInt by omega) (show a2.toInt ≤ 9 by omega) (show 0 ≤ a3.toInt by omega) (show a3.toInt ≤ 99999 by omega) (show 2000 ≤ a4.toInt by omega) (show a4.toInt ≤ 101999 by omega) (show 0 ≤ v145_5.toInt by omega) (show v145_5.toInt ≤ 9 by omega) (show 0 ≤ v145_6.toInt by omega) (show v145_6.toInt ≤ 12 by omega) (show 0 ≤ f145_12_0.toInt by omega) (show f145_12_0.toInt ≤ 10 by omega) (show 1 ≤ x49.toInt by omega) (show x49.toInt ≤ 13 by omega) (show (sumG 19 10 w1) + 1 ≤ (sumG 19 10 w12) by omega)  hw hT hF c27 c50 (lv_sub hl [2, 3, 4, 5, 6, 7, 8] rfl)
                  · have c229 : x228.toInt ≤ a4.toInt := wk_ltF c229
                    refine lv_iload hx hb dX12_reaches_222 (lv_at hl 1 rfl) ?_
                    refine lv_aload_n hx hb dX12_reaches_224 rfl (lv_at hl 2 rfl) ?_
                    refine lv_iload hx hb dX12_reaches_225 (lv_at hl 8 rfl) ?_
                    refine lv_iconst (v := 2) hx hb dX12_reaches_227 (by decide) ?_
                    refine tk_Vi hC hK hw hT hA hE hSR kM_at0 (by decide) rfl (k_X12_streetOf_14 l adK adV dC dI cy ad B (by omega) (by omega) qr s1   v145_6 (show 0 ≤ v145_6.toInt by omega) (show v145_6.toInt ≤ 12 by omega) w12 H.size hT ) (cwV 2 hC.2.2.2.2 gX12_reaches_X12_streetOf rfl rfl rfl (by decide +kernel) ⟨Nat.le_of_ble_eq_true rfl, Nat.le_of_ble_eq_true rfl⟩) rfl hl.1 rfl (Nat.le_of_ble_eq_true rfl) dX12_reaches_228 (fun r231 w233 H locs hp232 hw => ?_)
                    obtain ⟨rfl, hg238⟩ := hp232
                    obtain ⟨g235, g236, c237⟩ := hg238
                    obtain rfl : r231 = r220 := c237.symm.trans c226
                    refine lv_iadd hx hb dX12_reaches_231 ?_
                    refine lv_topi (fun x239 ex239 => ?_)
                    have ex239 : x239.toInt = r61.toInt + r220.toInt := by rw [ex239]; exact wk_add (show (-2147483648) ≤ r61.toInt + r220.toInt by omega) (show r61.toInt + r220.toInt ≤ 2147483647 by omega)
                    refine lv_aload_n hx hb dX12_reaches_232 rfl (lv_at hl 2 rfl) ?_
                    refine tk_getA hC hK hw hT hinX12 kM_at0 (by decide) rfl 35 (by decide) (List.mem_of_getElem? (i := 1) rfl) rfl rfl dX12_reaches_233 ?_
                    refine lv_iload hx hb dX12_reaches_236 (lv_at hl 0 rfl) ?_
                    refine tk_iald hC hK hw hT kM_at18 rfl rfl (show 0 ≤ r168.toInt by omega) (show r168.toInt < 10 by omega) dX12_reaches_238 (fun x240 c241 rx240 tx240 => ?_)
                    refine lv_icmp_ge (tgt := 259) hx hb dX12_reaches_239 (by decide) (fun c242 => ?_) (fun c242 => ?_)
                    · have c242 : x240.toInt ≤ x239.toInt := wk_le.mp c242
                      have gb243 : 0 ≤ sumG 19 10 w12 ∧ sumG 19 10 w12 ≤ 10 := hT.sum (lo := 0) (hi := 1) kM_at19 rfl (by decide) rfl
                      exact J259 x49 H locs ls w12 (show 0 ≤ a1.toInt by omega) (show a1.toInt ≤ 9 by omega) (show 0 ≤ a2.toInt by omega) (show a2.toInt ≤ 9 by omega) (show 0 ≤ a3.toInt by omega) (show a3.toInt ≤ 99999 by omega) (show 2000 ≤ a4.toInt by omega) (show a4.toInt ≤ 101999 by omega) (show 0 ≤ v145_5.toInt by omega) (show v145_5.toInt ≤ 9 by omega) (show 0 ≤ v145_6.toInt by omega) (show v145_6.toInt ≤ 12 by omega) (show 0 ≤ f145_12_0.toInt by omega) (show f145_12_0.toInt ≤ 10 by omega) (show 1 ≤ x49.toInt by omega) (show x49.toInt ≤ 13 by omega) (show (sumG 19 10 w1) + 1 ≤ (sumG 19 10 w12) by omega)  hw hT hF c27 c50 (lv_sub hl [2, 3, 4, 5, 6, 7, 8] rfl)
                    · have c242 : x239.toInt < x240.toInt := wk_leF c242
                      refine lv_aload_n hx hb dX12_reaches_242 rfl (lv_at hl 2 rfl) ?_
                      refine tk_getA hC hK hw hT hinX12 kM_at0 (by decide) rfl 35 (by decide) (List.mem_of_getElem? (i := 1) rfl) rfl rfl dX12_reaches_243 ?_
                      refine lv_iload hx hb dX12_reaches_246 (lv_at hl 0 rfl) ?_
                      refine lv_iload hx hb dX12_reaches_248 (lv_at hl 1 rfl) ?_
                      refine lv_aload_n hx hb dX12_reaches_250 rfl (lv_at hl 2 rfl) ?_
                      refine lv_iload hx hb dX12_reaches_251 (lv_at hl 8 rfl) ?_
                      refine lv_iconst (v := 2) hx hb dX12_reaches_253 (by decide) ?_
                      refine tk_Vi hC hK hw hT hA hE hSR kM_at0 (by decide) rfl (k_X12_streetOf_14 l adK adV dC dI cy ad B (by omega) (by omega) qr s1   v145_6 (show 0 ≤ v145_6.toInt by omega) (show v145_6.toInt ≤ 12 by omega) w12 H.size hT ) (cwV 2 hC.2.2.2.2 gX12_reaches_X12_streetOf rfl rfl rfl (by decide +kernel) ⟨Nat.le_of_ble_eq_true rfl, Nat.le_of_ble_eq_true rfl⟩) rfl hl.1 rfl (Nat.le_of_ble_eq_true rfl) dX12_reaches_254 (fun r244 w246 H locs hp245 hw => ?_)
                      obtain ⟨rfl, hg251⟩ := hp245
                      obtain ⟨g248, g249, c250⟩ := hg251
                      obtain rfl : r244 = r220 := c250.symm.trans c226
                      refine lv_iadd hx hb dX12_reaches_257 ?_
                      refine lv_topi (fun x252 ex252 => ?_)
                      have ex252 : x252.toInt = r61.toInt + r220.toInt := by rw [ex252]; exact wk_add (show (-2147483648) ≤ r61.toInt + r220.toInt by omega) (show r61.toInt + r220.toInt ≤ 2147483647 by omega)
                      refine tk_iast hC hK hw hT kM_at18 (by decide) rfl rfl (show 0 ≤ r168.toInt by omega) (show r168.toInt < 10 by omega) (show 0 ≤ x252.toInt by omega) (show x252.toInt ≤ 100000100 by omega) dX12_reaches_258 (fun H locs w253 hw hT k255 c254 => ?_)
                      have gs256 : sumG 19 10 w253 = sumG 19 10 w12 := sumG_ne 10 k255 (tk_ne kM_at19 kM_at18 (by decide))
                      have hF := hF.put kM_at18 (inE_of (a := 0) (b := 10) (by decide) (show 0 ≤ r168.toInt.toNat by omega) (show r168.toInt.toNat ≤ 10 by omega)) k255
                      have c257 := k255.gi (Or.inl (tk_ne kM_at12 kM_at18 (by decide))) c27
                      have c258 := k255.gi (Or.inl (tk_ne kM_at12 kM_at18 (by decide))) c50
                      have c259 := k255.gi (Or.inl (tk_ne kM_at12 kM_at18 (by decide))) c69
                      have c260 := k255.gi (Or.inl (tk_ne kM_at12 kM_at18 (by decide))) c226
                      have gb261 : 0 ≤ sumG 19 10 w253 ∧ sumG 19 10 w253 ≤ 10 := hT.sum (lo := 0) (hi := 1) kM_at19 rfl (by decide) rfl
                      exact J259 x49 H locs ls w253 (show 0 ≤ a1.toInt by omega) (show a1.toInt ≤ 9 by omega) (show 0 ≤ a2.toInt by omega) (show a2.toInt ≤ 9 by omega) (show 0 ≤ a3.toInt by omega) (show a3.toInt ≤ 99999 by omega) (show 2000 ≤ a4.toInt by omega) (show a4.toInt ≤ 101999 by omega) (show 0 ≤ v145_5.toInt by omega) (show v145_5.toInt ≤ 9 by omega) (show 0 ≤ v145_6.toInt by omega) (show v145_6.toInt ≤ 12 by omega) (show 0 ≤ f145_12_0.toInt by omega) (show f145_12_0.toInt ≤ 10 by omega) (show 1 ≤ x49.toInt by omega) (show x49.toInt ≤ 13 by omega) (show (sumG 19 10 w1) + 1 ≤ (sumG 19 10 w253) by omega)  hw hT hF c257 c258 (lv_sub hl [2, 3, 4, 5, 6, 7, 8] rfl)
      have L59 : ∀ (n59 : Nat) (v59_5 : Int32) (v59_6 : Int32) (H : Heap) (locs : List Loc) (ls : Array Slot) (w262 : va_W), 0 ≤ a1.toInt → a1.toInt ≤ 9 → 0 ≤ a2.toInt → a2.toInt ≤ 9 → 0 ≤ a3.toInt → a3.toInt ≤ 99999 → 2000 ≤ a4.toInt → a4.toInt ≤ 101999 → (-1) ≤ v59_5.toInt → v59_5.toInt ≤ 9 → 0 ≤ v59_6.toInt → v59_6.toInt ≤ 10 → (sumG 19 10 w262) ≤ (sumG 19 10 w1) → (sumG 19 10 w1) ≤ (sumG 19 10 w262) → (v59_5.toInt = -1 ∨ (gi w262 19 (v59_5.toInt).toNat).toInt = 0) → (10 - v59_6.toInt).toNat < n59 → Wd dC dI A s.heap H locs w262 → TW ksM ad cy B qr 13 w262 → FE ksM [(77, 0, 10), (78, 0, 10)] w0 w262 → gi w262 19 (a2.toInt).toNat = 0 → lv_has ls 9 [(0, .ref (ad 0)), (1, .int a1), (2, .int a2), (3, .int a3), (4, .int a4), (5, .int v59_5), (6, .int v59_6)] → W p l e ({ frames := 5, cells := 0, slots := 0, locals := 105 }) s m (List.toArray [.ref (ad 0), .int a1, .int a2, .int a3, .int a4]) below meth c H locs 0 0 (MQ below (va_Qi (P_X12_reaches_3 ad cy B qr s1 a1 a2 a3 a4 w0) (fun u : va_W => wpost dC dI cy A u) A) (List.toArray [.ref (ad 0), .int a1, .int a2, .int a3, .int a4]) s 0 0 A) (F0 m 59 ls []) := by
        intro n59
        induction n59 with
        | zero => intro v59_5 v59_6 H locs ls w262 r263 t264 r265 t266 r267 t268 r269 t270 r271 t272 r273 t274 hcr59_0 hcr59_1 hcr59_2 hm59 hw hT hF c275 hl; omega
        | succ n59 ih59 =>
          intro v59_5 v59_6 H locs ls w262 r263 t264 r265 t266 r267 t268 r269 t270 r271 t272 r273 t274 hcr59_0 hcr59_1 hcr59_2 hm59 hw hT hF c275 hl
          have J119 : ∀ (v119_5 : Int32) (f119_12_0 : Int32) (f119_19__v59_6_toInt_toNat : Int32) (H : Heap) (locs : List Loc) (ls : Array Slot) (w276 : va_W), 0 ≤ a1.toInt → a1.toInt ≤ 9 → 0 ≤ a2.toInt → a2.toInt ≤ 9 → 0 ≤ a3.toInt → a3.toInt ≤ 99999 → 2000 ≤ a4.toInt → a4.toInt ≤ 101999 → (-1) ≤ v119_5.toInt → v119_5.toInt ≤ 9 → 0 ≤ v59_6.toInt → v59_6.toInt ≤ 9 → 1 ≤ f119_12_0.toInt → f119_12_0.toInt ≤ 10 → 0 ≤ f119_19__v59_6_toInt_toNat.toInt → f119_19__v59_6_toInt_toNat.toInt ≤ 1 → (sumG 19 10 w276) ≤ (sumG 19 10 w1) → (sumG 19 10 w1) ≤ (sumG 19 10 w276) → (v119_5.toInt = -1 ∨ (gi w276 19 (v119_5.toInt).toNat).toInt = 0) → Wd dC dI A s.heap H locs w276 → TW ksM ad cy B qr 13 w276 → FE ksM [(77, 0, 10), (78, 0, 10)] w0 w276 → gi w276 12 0 = f119_12_0 → gi w276 19 (a2.toInt).toNat = 0 → gi w276 19 (v59_6.toInt).toNat = f119_19__v59_6_toInt_toNat → lv_has ls 9 [(0, .ref (ad 0)), (1, .int a1), (2, .int a2), (3, .int a3), (4, .int a4), (5, .int v119_5), (6, .int v59_6)] → W p l e ({ frames := 5, cells := 0, slots := 0, locals := 105 }) s m (List.toArray [.ref (ad 0), .int a1, .int a2, .int a3, .int a4]) below meth c H locs 0 0 (MQ below (va_Qi (P_X12_reaches_3 ad cy B qr s1 a1 a2 a3 a4 w0) (fun u : va_W => wpost dC dI cy A u) A) (List.toArray [.ref (ad 0), .int a1, .int a2, .int a3, .int a4]) s 0 0 A) (F0 m 119 ls []) := by
            intro v119_5 f119_12_0 f119_19__v59_6_toInt_toNat H locs ls w276 r277 t278 r279 t280 r281 t282 r283 t284 r285 t286 r287 t288 r289 t290 r293 t294 hcr119_0 hcr119_1 hcr119_2 hw hT hF c291 c292 c295 hl
            obtain ⟨x296, ex296⟩ : ∃ y : Int32, y = v59_6 + Int32.ofInt 1 := ⟨_, rfl⟩
            refine lv_iinc (v := x296) (lv' := [(6, .int x296), (0, .ref (ad 0)), (1, .int a1), (2, .int a2), (3, .int a3), (4, .int a4), (5, .int v119_5)]) hx hb dX12_reaches_119 hl (k := 6) rfl ex296.symm (by decide) rfl (fun ls hl => ?_)
            have ex296 : x296.toInt = v59_6.toInt + 1 := by rw [ex296]; exact wk_add (y := 1) (show -2147483648 ≤ v59_6.toInt + 1 by omega) (show v59_6.toInt + 1 ≤ 2147483647 by omega)
            refine lv_goto (tgt := 59) hx hb dX12_reaches_122 (by decide) ?_
            have gb297 : 0 ≤ sumG 19 10 w276 ∧ sumG 19 10 w276 ≤ 10 := hT.sum (lo := 0) (hi := 1) kM_at19 rfl (by decide) rfl
            exact ih59 v119_5 x296 H locs ls w276 (show 0 ≤ a1.toInt by omega) (show a1.toInt ≤ 9 by omega) (show 0 ≤ a2.toInt by omega) (show a2.toInt ≤ 9 by omega) (show 0 ≤ a3.toInt by omega) (show a3.toInt ≤ 99999 by omega) (show 2000 ≤ a4.toInt by omega) (show a4.toInt ≤ 101999 by omega) (show (-1) ≤ v119_5.toInt by omega) (show v119_5.toInt ≤ 9 by omega) (show 0 ≤ x296.toInt by omega) (show x296.toInt ≤ 10 by omega) (show (sumG 19 10 w276) ≤ (sumG 19 10 w1) by omega) (show (sumG 19 10 w1) ≤ (sumG 19 10 w276) by omega) (show (v119_5.toInt = -1 ∨ (gi w276 19 (v119_5.toInt).toNat).toInt = 0) by first | omega | assumption | (left; omega) | (left; decide) | (right; assumption) | (right; rw [c292]; omega) | (right; rw [c292]; decide) | (right; rw [c295]; omega) | (right; rw [c295]; decide) | (right; rcases hcr59_2 with hx1 | hx1; · rw [← hx1]; exact (congrArg Int32.toInt ((hF.gi kM_at19 rfl rfl).symm.trans c292)).trans (by omega); · exact hx1) | (right; rcases hcr59_2 with hx1 | hx1; · rw [← hx1]; exact (congrArg Int32.toInt ((hF.gi kM_at19 rfl rfl).symm.trans c295)).trans (by omega); · exact hx1)) (show (10 - x296.toInt).toNat < n59 by omega) hw hT hF c292 (lv_sub hl [1, 2, 3, 4, 5, 6, 0] rfl)
          have J115 : ∀ (f115_12_0 : Int32) (H : Heap) (locs : List Loc) (ls : Array Slot) (w298 : va_W), 0 ≤ a1.toInt → a1.toInt ≤ 9 → 0 ≤ a2.toInt → a2.toInt ≤ 9 → 0 ≤ a3.toInt → a3.toInt ≤ 99999 → 2000 ≤ a4.toInt → a4.toInt ≤ 101999 → (-1) ≤ v59_5.toInt → v59_5.toInt ≤ 9 → 0 ≤ v59_6.toInt → v59_6.toInt ≤ 9 → 1 ≤ f115_12_0.toInt → f115_12_0.toInt ≤ 10 → (sumG 19 10 w298) ≤ (sumG 19 10 w1) → (sumG 19 10 w1) ≤ (sumG 19 10 w298) → (v59_5.toInt = -1 ∨ (gi w298 19 (v59_5.toInt).toNat).toInt = 0) → Wd dC dI A s.heap H locs w298 → TW ksM ad cy B qr 13 w298 → FE ksM [(77, 0, 10), (78, 0, 10)] w0 w298 → gi w298 12 0 = f115_12_0 → gi w298 19 (a2.toInt).toNat = 0 → gi w298 19 (v59_6.toInt).toNat = 0 → lv_has ls 9 [(0, .ref (ad 0)), (1, .int a1), (2, .int a2), (3, .int a3), (4, .int a4), (5, .int v59_5), (6, .int v59_6)] → W p l e ({ frames := 5, cells := 0, slots := 0, locals := 105 }) s m (List.toArray [.ref (ad 0), .int a1, .int a2, .int a3, .int a4]) below meth c H locs 0 0 (MQ below (va_Qi (P_X12_reaches_3 ad cy B qr s1 a1 a2 a3 a4 w0) (fun u : va_W => wpost dC dI cy A u) A) (List.toArray [.ref (ad 0), .int a1, .int a2, .int a3, .int a4]) s 0 0 A) (F0 m 115 ls []) := by
            intro f115_12_0 H locs ls w298 r299 t300 r301 t302 r303 t304 r305 t306 r307 t308 r309 t310 r311 t312 hcr115_0 hcr115_1 hcr115_2 hw hT hF c313 c314 c315 hl
            refine lv_iload hx hb dX12_reaches_115 (lv_at hl 6 rfl) ?_
            refine lv_istore (lv' := [(5, .int v59_6), (0, .ref (ad 0)), (1, .int a1), (2, .int a2), (3, .int a3), (4, .int a4), (6, .int v59_6)]) hx hb dX12_reaches_117 hl (by decide) rfl (fun ls hl => ?_)
            have gb316 : 0 ≤ sumG 19 10 w298 ∧ sumG 19 10 w298 ≤ 10 := hT.sum (lo := 0) (hi := 1) kM_at19 rfl (by decide) rfl
            exact J119 v59_6 f115_12_0 0 H locs ls w298 (show 0 ≤ a1.toInt by omega) (show a1.toInt ≤ 9 by omega) (show 0 ≤ a2.toInt by omega) (show a2.toInt ≤ 9 by omega) (show 0 ≤ a3.toInt by omega) (show a3.toInt ≤ 99999 by omega) (show 2000 ≤ a4.toInt by omega) (show a4.toInt ≤ 101999 by omega) (show (-1) ≤ v59_6.toInt by omega) (show v59_6.toInt ≤ 9 by omega) (show 0 ≤ v59_6.toInt by omega) (show v59_6.toInt ≤ 9 by omega) (show 1 ≤ f115_12_0.toInt by omega) (show f115_12_0.toInt ≤ 10 by omega) (by decide) (by decide) (show (sumG 19 10 w298) ≤ (sumG 19 10 w1) by omega) (show (sumG 19 10 w1) ≤ (sumG 19 10 w298) by omega) (show (v59_6.toInt = -1 ∨ (gi w298 19 (v59_6.toInt).toNat).toInt = 0) by first | omega | assumption | (left; omega) | (left; decide) | (right; assumption) | (right; rw [c314]; omega) | (right; rw [c314]; decide) | (right; rw [c315]; omega) | (right; rw [c315]; decide))  hw hT hF c313 c314 c315 (lv_sub hl [1, 2, 3, 4, 5, 0, 6] rfl)
          refine lv_iload hx hb dX12_reaches_59 (lv_at hl 6 rfl) ?_
          refine lv_aload_n hx hb dX12_reaches_61 rfl (lv_at hl 0 rfl) ?_
          refine tk_getA hC hK hw hT hinX12 kM_at0 (by decide) rfl 26 (by decide) (List.mem_of_getElem? (i := 4) rfl) rfl rfl dX12_reaches_62 ?_
          refine lv_iconst (v := 0) hx hb dX12_reaches_65 (by decide) ?_
          refine tk_ialdR hC hK hw hT kM_at12 rfl (by decide) (by decide) dX12_reaches_66 (fun x317 c318 Ex317 => ?_)
          have bx317 := tk_rgI rfl 0 1 1 0 10 (by decide +kernel) ⟨0, by decide, by decide⟩ Ex317
          have c318 : gi w262 12 0 = x317 := c318
          refine lv_icmp_ge (tgt := 125) hx hb dX12_reaches_67 (by decide) (fun c319 => ?_) (fun c319 => ?_)
          · have c319 : x317.toInt ≤ v59_6.toInt := wk_le.mp c319
            refine lv_iload hx hb dX12_reaches_125 (lv_at hl 5 rfl) ?_
            refine lv_if_ge (tgt := 134) hx hb dX12_reaches_127 (by decide) (fun c320 => ?_) (fun c320 => ?_)
            · have c320 : (0 : Int) ≤ v59_5.toInt := wk_le.mp c320
              refine lv_aload_n hx hb dX12_reaches_134 rfl (lv_at hl 0 rfl) ?_
              refine tk_getA hC hK hw hT hinX12 kM_at0 (by decide) rfl 36 (by decide) (List.mem_of_getElem? (i := 3) rfl) rfl rfl dX12_reaches_135 ?_
              refine lv_iload hx hb dX12_reaches_138 (lv_at hl 5 rfl) ?_
              refine lv_iconst (v := 1) hx hb dX12_reaches_140 (by decide) ?_
              refine tk_zast hC hK hw hT kM_at19 (by decide) rfl rfl (show 0 ≤ v59_5.toInt by omega) (show v59_5.toInt < 10 by omega) (by decide) (by decide) dX12_reaches_141 (fun H locs w321 hw hT k323 c322 => ?_)
              have gs324 : sumG 19 10 w321 = sumG 19 10 w262 - (gi w262 19 (v59_5.toInt.toNat)).toInt + (gi w321 19 (v59_5.toInt.toNat)).toInt := sumG_up (i := v59_5.toInt.toNat) k323 10 (show v59_5.toInt.toNat < 10 by omega)
              rw [show gi w321 19 (v59_5.toInt.toNat) = 1 from c322] at gs324
              rw [show (1 : Int32).toInt = 1 by decide] at gs324
              have hF := hF.put kM_at19 (inE_of (a := 0) (b := 10) (by decide) (show 0 ≤ v59_5.toInt.toNat by omega) (show v59_5.toInt.toNat ≤ 10 by omega)) k323
              have c325 := k323.gi (Or.inl (tk_ne kM_at12 kM_at19 (by decide))) c318
              refine lv_iconst (v := 0) hx hb dX12_reaches_142 (by decide) ?_
              refine lv_istore (lv' := [(6, .int 0), (0, .ref (ad 0)), (1, .int a1), (2, .int a2), (3, .int a3), (4, .int a4), (5, .int v59_5)]) hx hb dX12_reaches_143 hl (by decide) rfl (fun ls hl => ?_)
              have gb326 : 0 ≤ sumG 19 10 w321 ∧ sumG 19 10 w321 ≤ 10 := hT.sum (lo := 0) (hi := 1) kM_at19 rfl (by decide) rfl
              exact L145 ((13 - (0 : Int)).toNat + 1) v59_5 0 x317 H locs ls w321 (show 0 ≤ a1.toInt by omega) (show a1.toInt ≤ 9 by omega) (show 0 ≤ a2.toInt by omega) (show a2.toInt ≤ 9 by omega) (show 0 ≤ a3.toInt by omega) (show a3.toInt ≤ 99999 by omega) (show 2000 ≤ a4.toInt by omega) (show a4.toInt ≤ 101999 by omega) (show 0 ≤ v59_5.toInt by omega) (show v59_5.toInt ≤ 9 by omega) (by decide) (by decide) (show 0 ≤ x317.toInt by omega) (show x317.toInt ≤ 10 by omega) (show (sumG 19 10 w1) + 1 ≤ (sumG 19 10 w321) by omega) (Nat.lt_succ_self _) hw hT hF c325 (lv_sub hl [1, 2, 3, 4, 5, 6, 0] rfl)
            · have c320 : v59_5.toInt < (0 : Int) := wk_leF c320
              refine lv_ldcw (v := 100000000) hx hb hC.2.2.2.1 (hC.2.2.2.2 _ (List.mem_of_getElem? (i := 2) rfl)) dX12_reaches_130 ?_
              exact tk_iret hC hr hlocks hK ⟨hT, hF, ⟨(by decide), (by decide)⟩⟩ hw dX12_reaches_133
          · have c319 : v59_6.toInt < x317.toInt := wk_leF c319
            refine lv_aload_n hx hb dX12_reaches_70 rfl (lv_at hl 0 rfl) ?_
            refine tk_getA hC hK hw hT hinX12 kM_at0 (by decide) rfl 36 (by decide) (List.mem_of_getElem? (i := 3) rfl) rfl rfl dX12_reaches_71 ?_
            refine lv_iload hx hb dX12_reaches_74 (lv_at hl 6 rfl) ?_
            refine tk_zald hC hK hw hT kM_at19 rfl rfl (show 0 ≤ v59_6.toInt by omega) (show v59_6.toInt < 10 by omega) dX12_reaches_76 (fun x327 c328 rx327 tx327 => ?_)
            have c328 : gi w262 19 (v59_6.toInt).toNat = x327 := (congrArg (gi w262 19) (congrArg Int.toNat (show v59_6.toInt = v59_6.toInt by omega))).trans c328
            refine lv_if_ne (tgt := 119) hx hb dX12_reaches_77 (by decide) (fun c329 => ?_) (fun c329 => ?_)
            · have c329 : ¬ x327.toInt = (0 : Int) := wk_eqF c329
              have gb330 : 0 ≤ sumG 19 10 w262 ∧ sumG 19 10 w262 ≤ 10 := hT.sum (lo := 0) (hi := 1) kM_at19 rfl (by decide) rfl
              exact J119 v59_5 x317 x327 H locs ls w262 (show 0 ≤ a1.toInt by omega) (show a1.toInt ≤ 9 by omega) (show 0 ≤ a2.toInt by omega) (show a2.toInt ≤ 9 by omega) (show 0 ≤ a3.toInt by omega) (show a3.toInt ≤ 99999 by omega) (show 2000 ≤ a4.toInt by omega) (show a4.toInt ≤ 101999 by omega) (show (-1) ≤ v59_5.toInt by omega) (show v59_5.toInt ≤ 9 by omega) (show 0 ≤ v59_6.toInt by omega) (show v59_6.toInt ≤ 9 by omega) (show 1 ≤ x317.toInt by omega) (show x317.toInt ≤ 10 by omega) (show 0 ≤ x327.toInt by omega) (show x327.toInt ≤ 1 by omega) (show (sumG 19 10 w262) ≤ (sumG 19 10 w1) by omega) (show (sumG 19 10 w1) ≤ (sumG 19 10 w262) by omega) (show (v59_5.toInt = -1 ∨ (gi w262 19 (v59_5.toInt).toNat).toInt = 0) by first | omega | assumption | (left; omega) | (left; decide) | (right; assumption) | (right; rw [c275]; omega) | (right; rw [c275]; decide) | (right; rw [c328]; omega) | (right; rw [c328]; decide))  hw hT hF c318 c275 c328 (lv_sub hl [0, 1, 2, 3, 4, 5, 6] rfl)
            · have c329 : x327.toInt = (0 : Int) := wk_eq.mp c329
              refine lv_aload_n hx hb dX12_reaches_80 rfl (lv_at hl 0 rfl) ?_
              refine tk_getA hC hK hw hT hinX12 kM_at0 (by decide) rfl 35 (by decide) (List.mem_of_getElem? (i := 1) rfl) rfl rfl dX12_reaches_81 ?_
              refine lv_iload hx hb dX12_reaches_84 (lv_at hl 6 rfl) ?_
              refine tk_iald hC hK hw hT kM_at18 rfl rfl (show 0 ≤ v59_6.toInt by omega) (show v59_6.toInt < 10 by omega) dX12_reaches_86 (fun x331 c332 rx331 tx331 => ?_)
              refine lv_ldcw (v := 100000000) hx hb hC.2.2.2.1 (hC.2.2.2.2 _ (List.mem_of_getElem? (i := 2) rfl)) dX12_reaches_87 ?_
              refine lv_icmp_ge (tgt := 119) hx hb dX12_reaches_90 (by decide) (fun c333 => ?_) (fun c333 => ?_)
              · have c333 : (100000000 : Int) ≤ x331.toInt := wk_le.mp c333
                have gb334 : 0 ≤ sumG 19 10 w262 ∧ sumG 19 10 w262 ≤ 10 := hT.sum (lo := 0) (hi := 1) kM_at19 rfl (by decide) rfl
                exact J119 v59_5 x317 x327 H locs ls w262 (show 0 ≤ a1.toInt by omega) (show a1.toInt ≤ 9 by omega) (show 0 ≤ a2.toInt by omega) (show a2.toInt ≤ 9 by omega) (show 0 ≤ a3.toInt by omega) (show a3.toInt ≤ 99999 by omega) (show 2000 ≤ a4.toInt by omega) (show a4.toInt ≤ 101999 by omega) (show (-1) ≤ v59_5.toInt by omega) (show v59_5.toInt ≤ 9 by omega) (show 0 ≤ v59_6.toInt by omega) (show v59_6.toInt ≤ 9 by omega) (show 1 ≤ x317.toInt by omega) (show x317.toInt ≤ 10 by omega) (show 0 ≤ x327.toInt by omega) (show x327.toInt ≤ 1 by omega) (show (sumG 19 10 w262) ≤ (sumG 19 10 w1) by omega) (show (sumG 19 10 w1) ≤ (sumG 19 10 w262) by omega) (show (v59_5.toInt = -1 ∨ (gi w262 19 (v59_5.toInt).toNat).toInt = 0) by first | omega | assumption | (left; omega) | (left; decide) | (right; assumption) | (right; rw [c275]; omega) | (right; rw [c275]; decide) | (right; rw [c328]; omega) | (right; rw [c328]; decide))  hw hT hF c318 c275 c328 (lv_sub hl [0, 1, 2, 3, 4, 5, 6] rfl)
              · have c333 : x331.toInt < (100000000 : Int) := wk_leF c333
                refine lv_iload hx hb dX12_reaches_93 (lv_at hl 5 rfl) ?_
                refine lv_if_lt (tgt := 115) hx hb dX12_reaches_95 (by decide) (fun c335 => ?_) (fun c335 => ?_)
                · have c335 : v59_5.toInt < (0 : Int) := wk_lt.mp c335
                  have gb336 : 0 ≤ sumG 19 10 w262 ∧ sumG 19 10 w262 ≤ 10 := hT.sum (lo := 0) (hi := 1) kM_at19 rfl (by decide) rfl
                  obtain rfl : x327 = 0 := wk_eq.mpr (show x327.toInt = 0 by omega)
                  exact J115 x317 H locs ls w262 (show 0 ≤ a1.toInt by omega) (show a1.toInt ≤ 9 by omega) (show 0 ≤ a2.toInt by omega) (show a2.toInt ≤ 9 by omega) (show 0 ≤ a3.toInt by omega) (show a3.toInt ≤ 99999 by omega) (show 2000 ≤ a4.toInt by omega) (show a4.toInt ≤ 101999 by omega) (show (-1) ≤ v59_5.toInt by omega) (show v59_5.toInt ≤ 9 by omega) (show 0 ≤ v59_6.toInt by omega) (show v59_6.toInt ≤ 9 by omega) (show 1 ≤ x317.toInt by omega) (show x317.toInt ≤ 10 by omega) (show (sumG 19 10 w262) ≤ (sumG 19 10 w1) by omega) (show (sumG 19 10 w1) ≤ (sumG 19 10 w262) by omega) (show (v59_5.toInt = -1 ∨ (gi w262 19 (v59_5.toInt).toNat).toInt = 0) by first | omega | assumption | (left; omega) | (left; decide) | (right; assumption) | (right; rw [c275]; omega) | (right; rw [c275]; decide) | (right; rw [c328]; omega) | (right; rw [c328]; decide))  hw hT hF c318 c275 c328 (lv_sub hl [0, 1, 2, 3, 4, 5, 6] rfl)
                · have c335 : (0 : Int) ≤ v59_5.toInt := wk_ltF c335
                  refine lv_aload_n hx hb dX12_reaches_98 rfl (lv_at hl 0 rfl) ?_
                  refine tk_getA hC hK hw hT hinX12 kM_at0 (by decide) rfl 35 (by decide) (List.mem_of_getElem? (i := 1) rfl) rfl rfl dX12_reaches_99 ?_
                  refine lv_iload hx hb dX12_reaches_102 (lv_at hl 6 rfl) ?_
                  refine tk_iald hC hK hw hT kM_at18 rfl rfl (show 0 ≤ v59_6.toInt by omega) (show v59_6.toInt < 10 by omega) dX12_reaches_104 (fun x337 c338 rx337 tx337 => ?_)
                  refine lv_aload_n hx hb dX12_reaches_105 rfl (lv_at hl 0 rfl) ?_
                  refine tk_getA hC hK hw hT hinX12 kM_at0 (by decide) rfl 35 (by decide) (List.mem_of_getElem? (i := 1) rfl) rfl rfl dX12_reaches_106 ?_
                  refine lv_iload hx hb dX12_reaches_109 (lv_at hl 5 rfl) ?_
                  refine tk_iald hC hK hw hT kM_at18 rfl rfl (show 0 ≤ v59_5.toInt by omega) (show v59_5.toInt < 10 by omega) dX12_reaches_111 (fun x339 c340 rx339 tx339 => ?_)
                  refine lv_icmp_ge (tgt := 119) hx hb dX12_reaches_112 (by decide) (fun c341 => ?_) (fun c341 => ?_)
                  · have c341 : x339.toInt ≤ x337.toInt := wk_le.mp c341
                    have gb342 : 0 ≤ sumG 19 10 w262 ∧ sumG 19 10 w262 ≤ 10 := hT.sum (lo := 0) (hi := 1) kM_at19 rfl (by decide) rfl
                    exact J119 v59_5 x317 x327 H locs ls w262 (show 0 ≤ a1.toInt by omega) (show a1.toInt ≤ 9 by omega) (show 0 ≤ a2.toInt by omega) (show a2.toInt ≤ 9 by omega) (show 0 ≤ a3.toInt by omega) (show a3.toInt ≤ 99999 by omega) (show 2000 ≤ a4.toInt by omega) (show a4.toInt ≤ 101999 by omega) (show (-1) ≤ v59_5.toInt by omega) (show v59_5.toInt ≤ 9 by omega) (show 0 ≤ v59_6.toInt by omega) (show v59_6.toInt ≤ 9 by omega) (show 1 ≤ x317.toInt by omega) (show x317.toInt ≤ 10 by omega) (show 0 ≤ x327.toInt by omega) (show x327.toInt ≤ 1 by omega) (show (sumG 19 10 w262) ≤ (sumG 19 10 w1) by omega) (show (sumG 19 10 w1) ≤ (sumG 19 10 w262) by omega) (show (v59_5.toInt = -1 ∨ (gi w262 19 (v59_5.toInt).toNat).toInt = 0) by first | omega | assumption | (left; omega) | (left; decide) | (right; assumption) | (right; rw [c275]; omega) | (right; rw [c275]; decide) | (right; rw [c328]; omega) | (right; rw [c328]; decide))  hw hT hF c318 c275 c328 (lv_sub hl [0, 1, 2, 3, 4, 5, 6] rfl)
                  · have c341 : x337.toInt < x339.toInt := wk_leF c341
                    have gb343 : 0 ≤ sumG 19 10 w262 ∧ sumG 19 10 w262 ≤ 10 := hT.sum (lo := 0) (hi := 1) kM_at19 rfl (by decide) rfl
                    obtain rfl : x327 = 0 := wk_eq.mpr (show x327.toInt = 0 by omega)
                    exact J115 x317 H locs ls w262 (show 0 ≤ a1.toInt by omega) (show a1.toInt ≤ 9 by omega) (show 0 ≤ a2.toInt by omega) (show a2.toInt ≤ 9 by omega) (show 0 ≤ a3.toInt by omega) (show a3.toInt ≤ 99999 by omega) (show 2000 ≤ a4.toInt by omega) (show a4.toInt ≤ 101999 by omega) (show (-1) ≤ v59_5.toInt by omega) (show v59_5.toInt ≤ 9 by omega) (show 0 ≤ v59_6.toInt by omega) (show v59_6.toInt ≤ 9 by omega) (show 1 ≤ x317.toInt by omega) (show x317.toInt ≤ 10 by omega) (show (sumG 19 10 w262) ≤ (sumG 19 10 w1) by omega) (show (sumG 19 10 w1) ≤ (sumG 19 10 w262) by omega) (show (v59_5.toInt = -1 ∨ (gi w262 19 (v59_5.toInt).toNat).toInt = 0) by first | omega | assumption | (left; omega) | (left; decide) | (right; assumption) | (right; rw [c275]; omega) | (right; rw [c275]; decide) | (right; rw [c328]; omega) | (right; rw [c328]; decide))  hw hT hF c318 c275 c328 (lv_sub hl [0, 1, 2, 3, 4, 5, 6] rfl)
      refine lv_aload_n hx hb dX12_reaches_44 rfl (lv_at hl 0 rfl) ?_
      refine tk_getA hC hK hw hT hinX12 kM_at0 (by decide) rfl 36 (by decide) (List.mem_of_getElem? (i := 3) rfl) rfl rfl dX12_reaches_45 ?_
      refine lv_iload_n hx hb dX12_reaches_48 rfl (lv_at hl 2 rfl) ?_
      refine tk_zald hC hK hw hT kM_at19 rfl rfl (show 0 ≤ a2.toInt by omega) (show a2.toInt < 10 by omega) dX12_reaches_49 (fun x344 c345 rx344 tx344 => ?_)
      have c345 : gi w1 19 (a2.toInt).toNat = x344 := (congrArg (gi w1 19) (congrArg Int.toNat (show a2.toInt = a2.toInt by omega))).trans c345
      refine lv_if_ne (tgt := 268) hx hb dX12_reaches_50 (by decide) (fun c346 => ?_) (fun c346 => ?_)
      · have c346 : ¬ x344.toInt = (0 : Int) := wk_eqF c346
        refine lv_aload_n hx hb dX12_reaches_268 rfl (lv_at hl 0 rfl) ?_
        refine tk_getA hC hK hw hT hinX12 kM_at0 (by decide) rfl 35 (by decide) (List.mem_of_getElem? (i := 1) rfl) rfl rfl dX12_reaches_269 ?_
        refine lv_iload_n hx hb dX12_reaches_272 rfl (lv_at hl 2 rfl) ?_
        refine tk_iald hC hK hw hT kM_at18 rfl rfl (show 0 ≤ a2.toInt by omega) (show a2.toInt < 10 by omega) dX12_reaches_273 (fun x347 c348 rx347 tx347 => ?_)
        exact tk_iret hC hr hlocks hK ⟨hT, hF, ⟨(show 0 ≤ x347.toInt by omega), (show x347.toInt ≤ 100000100 by omega)⟩⟩ hw dX12_reaches_274
      · have c346 : x344.toInt = (0 : Int) := wk_eq.mp c346
        refine lv_iconst (v := (-1)) hx hb dX12_reaches_53 (by decide) ?_
        refine lv_istore (lv' := [(5, .int (-1)), (0, .ref (ad 0)), (1, .int a1), (2, .int a2), (3, .int a3), (4, .int a4)]) hx hb dX12_reaches_54 hl (by decide) rfl (fun ls hl => ?_)
        refine lv_iconst (v := 0) hx hb dX12_reaches_56 (by decide) ?_
        refine lv_istore (lv' := [(6, .int 0), (5, .int (-1)), (0, .ref (ad 0)), (1, .int a1), (2, .int a2), (3, .int a3), (4, .int a4)]) hx hb dX12_reaches_57 hl (by decide) rfl (fun ls hl => ?_)
        have gb349 : 0 ≤ sumG 19 10 w1 ∧ sumG 19 10 w1 ≤ 10 := hT.sum (lo := 0) (hi := 1) kM_at19 rfl (by decide) rfl
        obtain rfl : x344 = 0 := wk_eq.mpr (show x344.toInt = 0 by omega)
        exact L59 ((10 - (0 : Int)).toNat + 1) (-1) 0 H locs ls w1 (show 0 ≤ a1.toInt by omega) (show a1.toInt ≤ 9 by omega) (show 0 ≤ a2.toInt by omega) (show a2.toInt ≤ 9 by omega) (show 0 ≤ a3.toInt by omega) (show a3.toInt ≤ 99999 by omega) (show 2000 ≤ a4.toInt by omega) (show a4.toInt ≤ 101999 by omega) (by decide) (by decide) (by decide) (by decide) (show (sumG 19 10 w1) ≤ (sumG 19 10 w1) by omega) (show (sumG 19 10 w1) ≤ (sumG 19 10 w1) by omega) (show ((-1 : Int) = -1 ∨ (gi w1 19 ((-1 : Int)).toNat).toInt = 0) by first | omega | assumption | (left; omega) | (left; decide) | (right; assumption) | (right; rw [c345]; omega) | (right; rw [c345]; decide)) (Nat.lt_succ_self _) hw hT hF c345 (lv_sub hl [2, 3, 4, 5, 6, 1, 0] rfl)
  have L3 : ∀ (n3 : Nat) (v3_5 : Int32) (H : Heap) (locs : List Loc) (ls : Array Slot) (w350 : va_W), 0 ≤ a1.toInt → a1.toInt ≤ 9 → 0 ≤ a2.toInt → a2.toInt ≤ 9 → 0 ≤ a3.toInt → a3.toInt ≤ 99999 → 2000 ≤ a4.toInt → a4.toInt ≤ 101999 → 0 ≤ v3_5.toInt → v3_5.toInt ≤ 10 → (10 - v3_5.toInt).toNat < n3 → Wd dC dI A s.heap H locs w350 → TW ksM ad cy B qr 13 w350 → FE ksM [(77, 0, 10), (78, 0, 10)] w0 w350 → lv_has ls 9 [(0, .ref (ad 0)), (1, .int a1), (2, .int a2), (3, .int a3), (4, .int a4), (5, .int v3_5)] → W p l e ({ frames := 5, cells := 0, slots := 0, locals := 105 }) s m (List.toArray [.ref (ad 0), .int a1, .int a2, .int a3, .int a4]) below meth c H locs 0 0 (MQ below (va_Qi (P_X12_reaches_3 ad cy B qr s1 a1 a2 a3 a4 w0) (fun u : va_W => wpost dC dI cy A u) A) (List.toArray [.ref (ad 0), .int a1, .int a2, .int a3, .int a4]) s 0 0 A) (F0 m 3 ls []) := by
    intro n3
    induction n3 with
    | zero => intro v3_5 H locs ls w350 r351 t352 r353 t354 r355 t356 r357 t358 r359 t360 hm3 hw hT hF hl; omega
    | succ n3 ih3 =>
      intro v3_5 H locs ls w350 r351 t352 r353 t354 r355 t356 r357 t358 r359 t360 hm3 hw hT hF hl
      refine lv_iload hx hb dX12_reaches_3 (lv_at hl 5 rfl) ?_
      refine lv_bipush (v := 10) hx hb dX12_reaches_5 (by decide) ?_
      refine lv_icmp_ge (tgt := 44) hx hb dX12_reaches_7 (by decide) (fun c361 => ?_) (fun c361 => ?_)
      · have c361 : (10 : Int) ≤ v3_5.toInt := wk_le.mp c361
        have gb362 : 0 ≤ sumG 19 10 w350 ∧ sumG 19 10 w350 ≤ 10 := hT.sum (lo := 0) (hi := 1) kM_at19 rfl (by decide) rfl
        exact L44 ((10 - (sumG 19 10 w350)).toNat + 1) v3_5 H locs ls w350 (show 0 ≤ a1.toInt by omega) (show a1.toInt ≤ 9 by omega) (show 0 ≤ a2.toInt by omega) (show a2.toInt ≤ 9 by omega) (show 0 ≤ a3.toInt by omega) (show a3.toInt ≤ 99999 by omega) (show 2000 ≤ a4.toInt by omega) (show a4.toInt ≤ 101999 by omega) (show 0 ≤ v3_5.toInt by omega) (show v3_5.toInt ≤ 10 by omega) (show 0 ≤ (sumG 19 10 w350) by omega) (Nat.lt_succ_self _) hw hT hF  (lv_sub hl [0, 1, 2, 3, 4, 5] rfl)
      · have c361 : v3_5.toInt < (10 : Int) := wk_leF c361
        refine lv_aload_n hx hb dX12_reaches_10 rfl (lv_at hl 0 rfl) ?_
        refine tk_getA hC hK hw hT hinX12 kM_at0 (by decide) rfl 35 (by decide) (List.mem_of_getElem? (i := 1) rfl) rfl rfl dX12_reaches_11 ?_
        refine lv_iload hx hb dX12_reaches_14 (lv_at hl 5 rfl) ?_
        refine lv_iload hx hb dX12_reaches_16 (lv_at hl 5 rfl) ?_
        refine lv_iload_n hx hb dX12_reaches_18 rfl (lv_at hl 1 rfl) ?_
        refine lv_icmp_ne (tgt := 26) hx hb dX12_reaches_19 (by decide) (fun c363 => ?_) (fun c363 => ?_)
        · have c363 : ¬ v3_5.toInt = a1.toInt := wk_eqF c363
          refine lv_ldcw (v := 100000000) hx hb hC.2.2.2.1 (hC.2.2.2.2 _ (List.mem_of_getElem? (i := 2) rfl)) dX12_reaches_26 ?_
          refine tk_iast hC hK hw hT kM_at18 (by decide) rfl rfl (show 0 ≤ v3_5.toInt by omega) (show v3_5.toInt < 10 by omega) (by decide) (by decide) dX12_reaches_29 (fun H locs w364 hw hT k366 c365 => ?_)
          have gs367 : sumG 19 10 w364 = sumG 19 10 w350 := sumG_ne 10 k366 (tk_ne kM_at19 kM_at18 (by decide))
          have hF := hF.put kM_at18 (inE_of (a := 0) (b := 10) (by decide) (show 0 ≤ v3_5.toInt.toNat by omega) (show v3_5.toInt.toNat ≤ 10 by omega)) k366
          refine lv_aload_n hx hb dX12_reaches_30 rfl (lv_at hl 0 rfl) ?_
          refine tk_getA hC hK hw hT hinX12 kM_at0 (by decide) rfl 36 (by decide) (List.mem_of_getElem? (i := 3) rfl) rfl rfl dX12_reaches_31 ?_
          refine lv_iload hx hb dX12_reaches_34 (lv_at hl 5 rfl) ?_
          refine lv_iconst (v := 0) hx hb dX12_reaches_36 (by decide) ?_
          refine tk_zast hC hK hw hT kM_at19 (by decide) rfl rfl (show 0 ≤ v3_5.toInt by omega) (show v3_5.toInt < 10 by omega) (by decide) (by decide) dX12_reaches_37 (fun H locs w368 hw hT k370 c369 => ?_)
          have gs371 : sumG 19 10 w368 = sumG 19 10 w364 - (gi w364 19 (v3_5.toInt.toNat)).toInt + (gi w368 19 (v3_5.toInt.toNat)).toInt := sumG_up (i := v3_5.toInt.toNat) k370 10 (show v3_5.toInt.toNat < 10 by omega)
          rw [show gi w368 19 (v3_5.toInt.toNat) = 0 from c369] at gs371
          rw [show (0 : Int32).toInt = 0 by decide] at gs371
          have hF := hF.put kM_at19 (inE_of (a := 0) (b := 10) (by decide) (show 0 ≤ v3_5.toInt.toNat by omega) (show v3_5.toInt.toNat ≤ 10 by omega)) k370
          obtain ⟨x372, ex372⟩ : ∃ y : Int32, y = v3_5 + Int32.ofInt 1 := ⟨_, rfl⟩
          refine lv_iinc (v := x372) (lv' := [(5, .int x372), (0, .ref (ad 0)), (1, .int a1), (2, .int a2), (3, .int a3), (4, .int a4)]) hx hb dX12_reaches_38 hl (k := 5) rfl ex372.symm (by decide) rfl (fun ls hl => ?_)
          have ex372 : x372.toInt = v3_5.toInt + 1 := by rw [ex372]; exact wk_add (y := 1) (show -2147483648 ≤ v3_5.toInt + 1 by omega) (show v3_5.toInt + 1 ≤ 2147483647 by omega)
          refine lv_goto (tgt := 3) hx hb dX12_reaches_41 (by decide) ?_
          exact ih3 x372 H locs ls w368 (show 0 ≤ a1.toInt by omega) (show a1.toInt ≤ 9 by omega) (show 0 ≤ a2.toInt by omega) (show a2.toInt ≤ 9 by omega) (show 0 ≤ a3.toInt by omega) (show a3.toInt ≤ 99999 by omega) (show 2000 ≤ a4.toInt by omega) (show a4.toInt ≤ 101999 by omega) (show 0 ≤ x372.toInt by omega) (show x372.toInt ≤ 10 by omega) (show (10 - x372.toInt).toNat < n3 by omega) hw hT hF  (lv_sub hl [1, 2, 3, 4, 5, 0] rfl)
        · have c363 : v3_5.toInt = a1.toInt := wk_eq.mp c363
          refine lv_iload_n hx hb dX12_reaches_22 rfl (lv_at hl 3 rfl) ?_
          refine lv_goto (tgt := 29) hx hb dX12_reaches_23 (by decide) ?_
          refine tk_iast hC hK hw hT kM_at18 (by decide) rfl rfl (show 0 ≤ v3_5.toInt by omega) (show v3_5.toInt < 10 by omega) (show 0 ≤ a3.toInt by omega) (show a3.toInt ≤ 100000100 by omega) dX12_reaches_29 (fun H locs w373 hw hT k375 c374 => ?_)
          have gs376 : sumG 19 10 w373 = sumG 19 10 w350 := sumG_ne 10 k375 (tk_ne kM_at19 kM_at18 (by decide))
          have hF := hF.put kM_at18 (inE_of (a := 0) (b := 10) (by decide) (show 0 ≤ v3_5.toInt.toNat by omega) (show v3_5.toInt.toNat ≤ 10 by omega)) k375
          refine lv_aload_n hx hb dX12_reaches_30 rfl (lv_at hl 0 rfl) ?_
          refine tk_getA hC hK hw hT hinX12 kM_at0 (by decide) rfl 36 (by decide) (List.mem_of_getElem? (i := 3) rfl) rfl rfl dX12_reaches_31 ?_
          refine lv_iload hx hb dX12_reaches_34 (lv_at hl 5 rfl) ?_
          refine lv_iconst (v := 0) hx hb dX12_reaches_36 (by decide) ?_
          refine tk_zast hC hK hw hT kM_at19 (by decide) rfl rfl (show 0 ≤ v3_5.toInt by omega) (show v3_5.toInt < 10 by omega) (by decide) (by decide) dX12_reaches_37 (fun H locs w377 hw hT k379 c378 => ?_)
          have gs380 : sumG 19 10 w377 = sumG 19 10 w373 - (gi w373 19 (v3_5.toInt.toNat)).toInt + (gi w377 19 (v3_5.toInt.toNat)).toInt := sumG_up (i := v3_5.toInt.toNat) k379 10 (show v3_5.toInt.toNat < 10 by omega)
          rw [show gi w377 19 (v3_5.toInt.toNat) = 0 from c378] at gs380
          rw [show (0 : Int32).toInt = 0 by decide] at gs380
          have hF := hF.put kM_at19 (inE_of (a := 0) (b := 10) (by decide) (show 0 ≤ v3_5.toInt.toNat by omega) (show v3_5.toInt.toNat ≤ 10 by omega)) k379
          obtain ⟨x381, ex381⟩ : ∃ y : Int32, y = v3_5 + Int32.ofInt 1 := ⟨_, rfl⟩
          refine lv_iinc (v := x381) (lv' := [(5, .int x381), (0, .ref (ad 0)), (1, .int a1), (2, .int a2), (3, .int a3), (4, .int a4)]) hx hb dX12_reaches_38 hl (k := 5) rfl ex381.symm (by decide) rfl (fun ls hl => ?_)
          have ex381 : x381.toInt = v3_5.toInt + 1 := by rw [ex381]; exact wk_add (y := 1) (show -2147483648 ≤ v3_5.toInt + 1 by omega) (show v3_5.toInt + 1 ≤ 2147483647 by omega)
          refine lv_goto (tgt := 3) hx hb dX12_reaches_41 (by decide) ?_
          exact ih3 x381 H locs ls w377 (show 0 ≤ a1.toInt by omega) (show a1.toInt ≤ 9 by omega) (show 0 ≤ a2.toInt by omega) (show a2.toInt ≤ 9 by omega) (show 0 ≤ a3.toInt by omega) (show a3.toInt ≤ 99999 by omega) (show 2000 ≤ a4.toInt by omega) (show a4.toInt ≤ 101999 by omega) (show 0 ≤ x381.toInt by omega) (show x381.toInt ≤ 10 by omega) (show (10 - x381.toInt).toNat < n3 by omega) hw hT hF  (lv_sub hl [1, 2, 3, 4, 5, 0] rfl)
  refine lv_iconst (v := 0) hx hb dX12_reaches_0 (by decide) ?_
  refine lv_istore (lv' := [(5, .int 0), (0, .ref (ad 0)), (1, .int a1), (2, .int a2), (3, .int a3), (4, .int a4)]) hx hb dX12_reaches_1 hl (by decide) rfl (fun ls hl => ?_)
  exact L3 ((10 - (0 : Int)).toNat + 1) 0 s.heap locs ls w0 (show 0 ≤ a1.toInt by omega) (show a1.toInt ≤ 9 by omega) (show 0 ≤ a2.toInt by omega) (show a2.toInt ≤ 9 by omega) (show 0 ≤ a3.toInt by omega) (show a3.toInt ≤ 99999 by omega) (show 2000 ≤ a4.toInt by omega) (show a4.toInt ≤ 101999 by omega) (by decide) (by decide) (Nat.lt_succ_self _) hw hT hF  (lv_sub hl [1, 2, 3, 4, 5, 0] rfl)
abbrev P_X12_sumOf_1 (ad : Nat → Nat) (cy : Nat → ClassId) (B : Int) (qr : Nat) (s1 : Int) (a1 : Int32) (w0 : va_W) : Int32 → va_W → Prop := fun r u => TW ksM ad cy B qr 13 u ∧ FE ksM [(77, 0, 10), (78, 0, 10)] w0 u ∧ ((True))
set_option maxHeartbeats 4000000 in
set_option maxRecDepth 100000 in
theorem k_X12_sumOf_1 (l : Launch) (adK adV : Nat → Nat) (dC : Nat → ClassId) (dI : Nat → Nat → Nat) (cy : Nat → ClassId) (ad : Nat → Nat) (B : Int) (hB0 : 100000 ≤ B) (hB1 : B ≤ 1073741824) (qr : Nat) (s1 : Int)  (a1 : Int32) (ra1 : 0 ≤ a1.toInt) (ta1 : a1.toInt ≤ 99999) (w0 : va_W) (sz : Nat) (hT : TW ksM ad cy B qr 13 w0)  : Met l yX12_sumOf wsX12_sumOf ({ frames := 6, cells := 0, slots := 0, locals := 133 }) (va_Pc [.ref (ad 0), .int a1] (wpreS adK adV dC dI cy sz w0)) (va_Qi (P_X12_sumOf_1 ad cy B qr s1 a1 w0) (fun u : va_W => wpost dC dI cy (va_A w0 sz) u) (va_A w0 sz)) 0 0 (va_A w0 sz) := by
  refine Met.ofW (cc := cX12_sumOf) (maxL := 5) (ret := (some .int)) (by decide) rfl ?_
  intro p e s m args below meth c s₁ Bk hml hv
  obtain ⟨rfl, ⟨hsz, hP, hK, hD0⟩, hE, hSR⟩ := hv
  have hx := Bk.exec
  have hb := Bk.bytes
  have hr := Bk.returns
  have hlocks := Bk.notSynchronized
  have hC : CallFix p m c cX12_sumOf 5 s _ wsX12_sumOf RX12 := ⟨hx, hb, hml, findClass_of_methodNamed Bk.named, atoms_spec (ws := wsX12_sumOf) Bk.pre⟩
  subst hsz
  have hD := hD0.self (sz := s.heap.size)
  generalize hAe : va_A w0 s.heap.size = A at hD hE ⊢
  have hA : ∀ q : Nat, s.heap.size ≤ q → A q := fun q h => by rw [← hAe]; exact Or.inr h
  have hw : Wd dC dI A s.heap s.heap [] w0 := ⟨hP, hD, va_S.rf⟩
  have hF : FE ksM [(77, 0, 10), (78, 0, 10)] w0 w0 := FE.rf
  have hl := lv_entry ([.ref (ad 0), .int a1]) (n := 5) (Nat.le_of_ble_eq_true rfl)
  rw [lg_entry_eq]
  generalize (lg_sl ([.ref (ad 0), .int a1]) ++ List.replicate (5 - (lg_sl ([.ref (ad 0), .int a1])).length) Slot.unset).toArray = ls at hl ⊢
  have hl : lv_has ls 5 [(0, .ref (ad 0)), (1, .int a1)] := hl
  generalize hloc : ([] : List Loc) = locs at hw ⊢
  have hinX12 : ∀ w ∈ u_ws RX12 TX12 42, w ∈ wsX12_sumOf := fun _ h => List.mem_cons_of_mem _ (List.mem_append_right _ (h))
  have L4 : ∀ (n4 : Nat) (v4_2 : Int32) (v4_3 : Int32) (H : Heap) (locs : List Loc) (ls : Array Slot) (w1 : va_W), 0 ≤ a1.toInt → a1.toInt ≤ 99999 → 0 ≤ v4_3.toInt → v4_3.toInt ≤ 6 → (6 - v4_3.toInt).toNat < n4 → Wd dC dI A s.heap H locs w1 → TW ksM ad cy B qr 13 w1 → FE ksM [(77, 0, 10), (78, 0, 10)] w0 w1 → lv_has ls 5 [(0, .ref (ad 0)), (1, .int a1), (2, .int v4_2), (3, .int v4_3)] → W p l e ({ frames := 6, cells := 0, slots := 0, locals := 133 }) s m (List.toArray [.ref (ad 0), .int a1]) below meth c H locs 0 0 (MQ below (va_Qi (P_X12_sumOf_1 ad cy B qr s1 a1 w0) (fun u : va_W => wpost dC dI cy A u) A) (List.toArray [.ref (ad 0), .int a1]) s 0 0 A) (F0 m 4 ls []) := by
    intro n4
    induction n4 with
    | zero => intro v4_2 v4_3 H locs ls w1 r2 t3 r4 t5 hm4 hw hT hF hl; omega
    | succ n4 ih4 =>
      intro v4_2 v4_3 H locs ls w1 r2 t3 r4 t5 hm4 hw hT hF hl
      refine lv_iload_n hx hb dX12_sumOf_4 rfl (lv_at hl 3 rfl) ?_
      refine lv_aload_n hx hb dX12_sumOf_5 rfl (lv_at hl 0 rfl) ?_
      refine tk_getA hC hK hw hT hinX12 kM_at0 (by decide) rfl 26 (by decide) (List.mem_of_getElem? (i := 1) rfl) rfl rfl dX12_sumOf_6 ?_
      refine lv_bipush (v := 6) hx hb dX12_sumOf_9 (by decide) ?_
      refine tk_ialdR hC hK hw hT kM_at12 rfl (by decide) (by decide) dX12_sumOf_11 (fun x6 c7 Ex6 => ?_)
      have bx6 := tk_rgI rfl 6 1 1 0 6 (by decide +kernel) ⟨0, by decide, by decide⟩ Ex6
      have c7 : gi w1 12 6 = x6 := c7
      refine lv_icmp_ge (tgt := 80) hx hb dX12_sumOf_12 (by decide) (fun c8 => ?_) (fun c8 => ?_)
      · have c8 : x6.toInt ≤ v4_3.toInt := wk_le.mp c8
        refine lv_iload_n hx hb dX12_sumOf_80 rfl (lv_at hl 2 rfl) ?_
        exact tk_iret hC hr hlocks hK ⟨hT, hF, trivial⟩ hw dX12_sumOf_81
      · have c8 : v4_3.toInt < x6.toInt := wk_leF c8
        refine lv_aload_n hx hb dX12_sumOf_15 rfl (lv_at hl 0 rfl) ?_
        refine lv_aload_n hx hb dX12_sumOf_16 rfl (lv_at hl 0 rfl) ?_
        refine tk_getA hC hK hw hT hinX12 kM_at0 (by decide) rfl 26 (by decide) (List.mem_of_getElem? (i := 1) rfl) rfl rfl dX12_sumOf_17 ?_
        refine lv_sipush (v := 252) hx hb dX12_sumOf_20 (by decide) ?_
        refine lv_iconst (v := 2) hx hb dX12_sumOf_23 (by decide) ?_
        refine lv_iload_n hx hb dX12_sumOf_24 rfl (lv_at hl 3 rfl) ?_
        refine lv_imul hx hb dX12_sumOf_25 ?_
        refine lv_topi (fun x9 ex9 => ?_)
        have ex9 : x9.toInt = (2 : Int) * v4_3.toInt := by rw [ex9]; exact wk_mul (show (-2147483648) ≤ (2 : Int) * v4_3.toInt by omega) (show (2 : Int) * v4_3.toInt ≤ 2147483647 by omega)
        refine lv_iadd hx hb dX12_sumOf_26 ?_
        refine lv_topi (fun x10 ex10 => ?_)
        have ex10 : x10.toInt = (252 : Int) + x9.toInt := by rw [ex10]; exact wk_add (show (-2147483648) ≤ (252 : Int) + x9.toInt by omega) (show (252 : Int) + x9.toInt ≤ 2147483647 by omega)
        refine tk_ialdR hC hK hw hT kM_at12 rfl (show 0 ≤ x10.toInt by omega) (show x10.toInt < 296 by omega) dX12_sumOf_27 (fun x11 c12 Ex11 => ?_)
        have c12 : gi w1 12 (2 * v4_3.toInt + 252).toNat = x11 := (congrArg (gi w1 12) (congrArg Int.toNat (show 2 * v4_3.toInt + 252 = x10.toInt by omega))).trans c12
        have bx11 := tk_rgI rfl 252 2 6 0 9 (by decide +kernel) ⟨(v4_3.toInt - 0).toNat, by omega, show x10.toInt.toNat = 252 + 2 * (v4_3.toInt - 0).toNat by omega⟩ Ex11
        refine lv_aload_n hx hb dX12_sumOf_28 rfl (lv_at hl 0 rfl) ?_
        refine tk_getA hC hK hw hT hinX12 kM_at0 (by decide) rfl 26 (by decide) (List.mem_of_getElem? (i := 1) rfl) rfl rfl dX12_sumOf_29 ?_
        refine lv_sipush (v := 252) hx hb dX12_sumOf_32 (by decide) ?_
        refine lv_iconst (v := 2) hx hb dX12_sumOf_35 (by decide) ?_
        refine lv_iload_n hx hb dX12_sumOf_36 rfl (lv_at hl 3 rfl) ?_
        refine lv_imul hx hb dX12_sumOf_37 ?_
        refine lv_topi (fun x13 ex13 => ?_)
        have ex13 : x13.toInt = (2 : Int) * v4_3.toInt := by rw [ex13]; exact wk_mul (show (-2147483648) ≤ (2 : Int) * v4_3.toInt by omega) (show (2 : Int) * v4_3.toInt ≤ 2147483647 by omega)
        refine lv_iadd hx hb dX12_sumOf_38 ?_
        refine lv_topi (fun x14 ex14 => ?_)
        have ex14 : x14.toInt = (252 : Int) + x13.toInt := by rw [ex14]; exact wk_add (show (-2147483648) ≤ (252 : Int) + x13.toInt by omega) (show (252 : Int) + x13.toInt ≤ 2147483647 by omega)
        refine lv_iconst (v := 1) hx hb dX12_sumOf_39 (by decide) ?_
        refine lv_iadd hx hb dX12_sumOf_40 ?_
        refine lv_topi (fun x15 ex15 => ?_)
        have ex15 : x15.toInt = x14.toInt + (1 : Int) := by rw [ex15]; exact wk_add (show (-2147483648) ≤ x14.toInt + (1 : Int) by omega) (show x14.toInt + (1 : Int) ≤ 2147483647 by omega)
        refine tk_ialdR hC hK hw hT kM_at12 rfl (show 0 ≤ x15.toInt by omega) (show x15.toInt < 296 by omega) dX12_sumOf_41 (fun x16 c17 Ex16 => ?_)
        have c17 : gi w1 12 (2 * v4_3.toInt + 253).toNat = x16 := (congrArg (gi w1 12) (congrArg Int.toNat (show 2 * v4_3.toInt + 253 = x15.toInt by omega))).trans c17
        have bx16 := tk_rgI rfl 253 2 6 0 9 (by decide +kernel) ⟨(v4_3.toInt - 0).toNat, by omega, show x15.toInt.toNat = 253 + 2 * (v4_3.toInt - 0).toNat by omega⟩ Ex16
        refine lv_iload_n hx hb dX12_sumOf_42 rfl (lv_at hl 1 rfl) ?_
        refine lv_iload_n hx hb dX12_sumOf_43 rfl (lv_at hl 1 rfl) ?_
        refine lv_sipush (v := 2000) hx hb dX12_sumOf_44 (by decide) ?_
        refine lv_iadd hx hb dX12_sumOf_47 ?_
        refine lv_topi (fun x18 ex18 => ?_)
        have ex18 : x18.toInt = a1.toInt + (2000 : Int) := by rw [ex18]; exact wk_add (show (-2147483648) ≤ a1.toInt + (2000 : Int) by omega) (show a1.toInt + (2000 : Int) ≤ 2147483647 by omega)
        refine tk_Vi hC hK hw hT hA hE hSR kM_at0 (by decide) rfl (k_X12_reaches_3 l adK adV dC dI cy ad B (by omega) (by omega) qr s1   x11 (show 0 ≤ x11.toInt by omega) (show x11.toInt ≤ 9 by omega) x16 (show 0 ≤ x16.toInt by omega) (show x16.toInt ≤ 9 by omega) a1 (show 0 ≤ a1.toInt by omega) (show a1.toInt ≤ 99999 by omega) x18 (show 2000 ≤ x18.toInt by omega) (show x18.toInt ≤ 101999 by omega) w1 H.size hT ) (cwV 4 hC.2.2.2.2 gX12_sumOf_X12_reaches rfl rfl rfl (by decide +kernel) ⟨Nat.le_of_ble_eq_true rfl, Nat.le_of_ble_eq_true rfl⟩) rfl hl.1 rfl (Nat.le_of_ble_eq_true rfl) dX12_sumOf_48 (fun r19 w21 H locs hp20 hw => ?_)
        obtain ⟨hT, k22, hg25⟩ := hp20
        have hF := hF.tr k22 (by decide)
        have c26 := k22.gi kM_at12 (by decide) c7
        have c27 := k22.gi kM_at12 rfl c12
        have c28 := k22.gi kM_at12 rfl c17
        obtain ⟨g23, g24⟩ := hg25
        refine lv_istore (lv' := [(4, .int r19), (0, .ref (ad 0)), (1, .int a1), (2, .int v4_2), (3, .int v4_3)]) hx hb dX12_sumOf_51 hl (by decide) rfl (fun ls hl => ?_)
        refine lv_iload_n hx hb dX12_sumOf_53 rfl (lv_at hl 3 rfl) ?_
        refine lv_iload hx hb dX12_sumOf_54 (lv_at hl 0 rfl) ?_
        refine lv_ldcw (v := 100000000) hx hb hC.2.2.2.1 (hC.2.2.2.2 _ (List.mem_of_getElem? (i := 2) rfl)) dX12_sumOf_56 ?_
        refine lv_icmp_ne (tgt := 68) hx hb dX12_sumOf_59 (by decide) (fun c29 => ?_) (fun c29 => ?_)
        · have c29 : ¬ r19.toInt = (100000000 : Int) := wk_eqF c29
          refine lv_iload hx hb dX12_sumOf_68 (lv_at hl 0 rfl) ?_
          refine lv_iload_n hx hb dX12_sumOf_70 rfl (lv_at hl 2 rfl) ?_
          refine lv_isub hx hb dX12_sumOf_71 ?_
          refine lv_topi (fun x30 ex30 => ?_)
          have ex30 : x30.toInt = r19.toInt - a1.toInt := by rw [ex30]; exact wk_sub (show (-2147483648) ≤ r19.toInt - a1.toInt by omega) (show r19.toInt - a1.toInt ≤ 2147483647 by omega)
          refine lv_iadd hx hb dX12_sumOf_72 ?_
          have nx31 := wk_i32 v4_2
          refine lv_topi (fun x32 ex32 => ?_)
          refine lv_istore_n (lv' := [(2, .int x32), (4, .int r19), (0, .ref (ad 0)), (1, .int a1), (3, .int v4_3)]) hx hb dX12_sumOf_73 rfl hl (by decide) rfl (fun ls hl => ?_)
          obtain ⟨x33, ex33⟩ : ∃ y : Int32, y = v4_3 + Int32.ofInt 1 := ⟨_, rfl⟩
          refine lv_iinc (v := x33) (lv' := [(3, .int x33), (2, .int x32), (4, .int r19), (0, .ref (ad 0)), (1, .int a1)]) hx hb dX12_sumOf_74 hl (k := 4) rfl ex33.symm (by decide) rfl (fun ls hl => ?_)
          have ex33 : x33.toInt = v4_3.toInt + 1 := by rw [ex33]; exact wk_add (y := 1) (show -2147483648 ≤ v4_3.toInt + 1 by omega) (show v4_3.toInt + 1 ≤ 2147483647 by omega)
          refine lv_goto (tgt := 4) hx hb dX12_sumOf_77 (by decide) ?_
          exact ih4 x32 x33 H locs ls w21 (show 0 ≤ a1.toInt by omega) (show a1.toInt ≤ 99999 by omega) (show 0 ≤ x33.toInt by omega) (show x33.toInt ≤ 6 by omega) (show (6 - x33.toInt).toNat < n4 by omega) hw hT hF  (lv_sub hl [3, 4, 1, 0] rfl)
        · have c29 : r19.toInt = (100000000 : Int) := wk_eq.mp c29
          refine lv_sipush (v := 2001) hx hb dX12_sumOf_62 (by decide) ?_
          refine lv_goto (tgt := 72) hx hb dX12_sumOf_65 (by decide) ?_
          refine lv_iadd hx hb dX12_sumOf_72 ?_
          have nx34 := wk_i32 v4_2
          refine lv_topi (fun x35 ex35 => ?_)
          refine lv_istore_n (lv' := [(2, .int x35), (4, .int r19), (0, .ref (ad 0)), (1, .int a1), (3, .int v4_3)]) hx hb dX12_sumOf_73 rfl hl (by decide) rfl (fun ls hl => ?_)
          obtain ⟨x36, ex36⟩ : ∃ y : Int32, y = v4_3 + Int32.ofInt 1 := ⟨_, rfl⟩
          refine lv_iinc (v := x36) (lv' := [(3, .int x36), (2, .int x35), (4, .int r19), (0, .ref (ad 0)), (1, .int a1)]) hx hb dX12_sumOf_74 hl (k := 4) rfl ex36.symm (by decide) rfl (fun ls hl => ?_)
          have ex36 : x36.toInt = v4_3.toInt + 1 := by rw [ex36]; exact wk_add (y := 1) (show -2147483648 ≤ v4_3.toInt + 1 by omega) (show v4_3.toInt + 1 ≤ 2147483647 by omega)
          refine lv_goto (tgt := 4) hx hb dX12_sumOf_77 (by decide) ?_
          exact ih4 x35 x36 H locs ls w21 (show 0 ≤ a1.toInt by omega) (show a1.toInt ≤ 99999 by omega) (show 0 ≤ x36.toInt by omega) (show x36.toInt ≤ 6 by omega) (show (6 - x36.toInt).toNat < n4 by omega) hw hT hF  (lv_sub hl [3, 4, 1, 0] rfl)
  refine lv_iconst (v := 0) hx hb dX12_sumOf_0 (by decide) ?_
  refine lv_istore_n (lv' := [(2, .int 0), (0, .ref (ad 0)), (1, .int a1)]) hx hb dX12_sumOf_1 rfl hl (by decide) rfl (fun ls hl => ?_)
  refine lv_iconst (v := 0) hx hb dX12_sumOf_2 (by decide) ?_
  refine lv_istore_n (lv' := [(3, .int 0), (2, .int 0), (0, .ref (ad 0)), (1, .int a1)]) hx hb dX12_sumOf_3 rfl hl (by decide) rfl (fun ls hl => ?_)
  exact L4 ((6 - (0 : Int)).toNat + 1) 0 0 s.heap locs ls w0 (show 0 ≤ a1.toInt by omega) (show a1.toInt ≤ 99999 by omega) (by decide) (by decide) (Nat.lt_succ_self _) hw hT hF  (lv_sub hl [2, 3, 1, 0] rfl)
abbrev P_X12_in_15 (ad : Nat → Nat) (cy : Nat → ClassId) (B : Int) (qr : Nat) (s1 : Int) (a0 : Int64) (w0 : va_W) : Int32 → va_W → Prop := fun r u => w0 = u ∧ ((r = 0) ∨ (r = 1 ∧ 0 ≤ a0.toInt ∧ a0.toInt ≤ 2))
set_option maxHeartbeats 4000000 in
set_option maxRecDepth 100000 in
theorem k_X12_in_15 (l : Launch) (adK adV : Nat → Nat) (dC : Nat → ClassId) (dI : Nat → Nat → Nat) (cy : Nat → ClassId) (ad : Nat → Nat) (B : Int) (hB0 : 100000 ≤ B) (hB1 : B ≤ 1073741824) (qr : Nat) (s1 : Int)  (a0 : Int64) (ra0 : (-2147483648) ≤ a0.toInt) (ta0 : a0.toInt ≤ 2147483647) (w0 : va_W) (sz : Nat) (hT : TW ksM ad cy B qr 12 w0)  : Met l yX12_in wsX12_in ({ frames := 1, cells := 0, slots := 0, locals := 12 }) (va_Pc [.long a0, .long 0, .long 2] (wpreS adK adV dC dI cy sz w0)) (va_Qi (P_X12_in_15 ad cy B qr s1 a0 w0) (fun u : va_W => wpost dC dI cy (va_A w0 sz) u) (va_A w0 sz)) 0 0 (va_A w0 sz) := by
  refine Met.ofW (cc := cX12_in) (maxL := 6) (ret := (some .boolean)) (by decide) rfl ?_
  intro p e s m args below meth c s₁ Bk hml hv
  obtain ⟨rfl, ⟨hsz, hP, hK, hD0⟩, hE, hSR⟩ := hv
  have hx := Bk.exec
  have hb := Bk.bytes
  have hr := Bk.returns
  have hlocks := Bk.notSynchronized
  have hC : CallFix p m c cX12_in 6 s _ wsX12_in RX12 := ⟨hx, hb, hml, findClass_of_methodNamed Bk.named, atoms_spec (ws := wsX12_in) Bk.pre⟩
  subst hsz
  have hD := hD0.self (sz := s.heap.size)
  generalize hAe : va_A w0 s.heap.size = A at hD hE ⊢
  have hA : ∀ q : Nat, s.heap.size ≤ q → A q := fun q h => by rw [← hAe]; exact Or.inr h
  have hw : Wd dC dI A s.heap s.heap [] w0 := ⟨hP, hD, va_S.rf⟩
  have hF : FE ksM ([] : List (Nat × Nat × Nat)) w0 w0 := FE.rf
  have hl := lv_entry ([.long a0, .long 0, .long 2]) (n := 6) (Nat.le_of_ble_eq_true rfl)
  rw [lg_entry_eq]
  generalize (lg_sl ([.long a0, .long 0, .long 2]) ++ List.replicate (6 - (lg_sl ([.long a0, .long 0, .long 2])).length) Slot.unset).toArray = ls at hl ⊢
  have hl : lv_has ls 6 [(0, .long a0), (2, .long 0), (4, .long 2)] := hl
  generalize hloc : ([] : List Loc) = locs at hw ⊢
  have J17 : ∀ (H : Heap) (locs : List Loc) (ls : Array Slot), (-2147483648) ≤ a0.toInt → a0.toInt ≤ 2147483647 → Wd dC dI A s.heap H locs w0 → lv_has ls 6 [(0, .long a0), (2, .long 0), (4, .long 2)] → W p l e ({ frames := 1, cells := 0, slots := 0, locals := 12 }) s m (List.toArray [.long a0, .long 0, .long 2]) below meth c H locs 0 0 (MQ below (va_Qi (P_X12_in_15 ad cy B qr s1 a0 w0) (fun u : va_W => wpost dC dI cy A u) A) (List.toArray [.long a0, .long 0, .long 2]) s 0 0 A) (F0 m 17 ls []) := by
    intro H locs ls r1 t2 hw hl
    refine lv_iconst (v := 0) hx hb dX12_in_17 (by decide) ?_
    exact tk_zret hC hr rfl hlocks hK ⟨rfl, (Or.inl rfl)⟩ hw dX12_in_18
  refine lv_lload_n hx hb dX12_in_0 rfl (lv_at hl 0 rfl) ?_
  refine lv_lload_n hx hb dX12_in_1 rfl (lv_at hl 1 rfl) ?_
  refine W.lcmp hx hb dX12_in_2 ?_
  refine lv_if_lt (tgt := 17) hx hb dX12_in_3 (by decide) (fun c3 => ?_) (fun c3 => ?_)
  · have c3 : a0.toInt < (0 : Int) := wk_cltT c3
    exact J17  s.heap locs ls  (show (-2147483648) ≤ a0.toInt by omega) (show a0.toInt ≤ 2147483647 by omega)  hw   (lv_sub hl [0, 1, 2] rfl)
  · have c3 : (0 : Int) ≤ a0.toInt := wk_cltF c3
    refine lv_lload_n hx hb dX12_in_6 rfl (lv_at hl 0 rfl) ?_
    refine lv_lload hx hb dX12_in_7 (lv_at hl 2 rfl) ?_
    refine W.lcmp hx hb dX12_in_9 ?_
    refine lv_if_gt (tgt := 17) hx hb dX12_in_10 (by decide) (fun c4 => ?_) (fun c4 => ?_)
    · have c4 : (2 : Int) < a0.toInt := wk_cgtT c4
      exact J17  s.heap locs ls  (show (-2147483648) ≤ a0.toInt by omega) (show a0.toInt ≤ 2147483647 by omega)  hw   (lv_sub hl [0, 1, 2] rfl)
    · have c4 : a0.toInt ≤ (2 : Int) := wk_cgtF c4
      refine lv_iconst (v := 1) hx hb dX12_in_13 (by decide) ?_
      refine lv_goto (tgt := 18) hx hb dX12_in_14 (by decide) ?_
      exact tk_zret hC hr rfl hlocks hK ⟨rfl, (Or.inr ⟨rfl, (show 0 ≤ a0.toInt by omega), (show a0.toInt ≤ 2 by omega)⟩)⟩ hw dX12_in_18
abbrev P_X12_built_1 (ad : Nat → Nat) (cy : Nat → ClassId) (B : Int) (qr : Nat) (s1 : Int) (a1 : Int32) (a2 : Int32) (a3 : Int32) (w0 : va_W) : Int32 → va_W → Prop := fun r u => TW ksM ad cy B qr 12 u ∧ FE ksM [(71, 1, 1), (71, 10, 130), (71, 11, 131), (71, 12, 132), (71, 13, 139), (77, 0, 10), (78, 0, 10)] w0 u ∧ ((1 ≤ a1.toInt ∧ a1.toInt ≤ 9 ∧ 0 ≤ a2.toInt ∧ a2.toInt ≤ 99999 ∧ 0 ≤ a3.toInt ∧ a3.toInt ≤ 2 ∧ (∃ y : Int32, gi u 12 0 = y ∧ 1 ≤ y.toInt ∧ y.toInt ≤ 10)) ∨ (r = (-1)))
set_option maxHeartbeats 4000000 in
set_option maxRecDepth 100000 in
theorem k_X12_built_1 (l : Launch) (adK adV : Nat → Nat) (dC : Nat → ClassId) (dI : Nat → Nat → Nat) (cy : Nat → ClassId) (ad : Nat → Nat) (B : Int) (hB0 : 100000 ≤ B) (hB1 : B ≤ 1073741824) (qr : Nat) (s1 : Int)  (a1 : Int32) (a2 : Int32) (a3 : Int32) (w0 : va_W) (sz : Nat) (hT : TW ksM ad cy B qr 12 w0)  : Met l yX12_built wsX12_built ({ frames := 7, cells := 0, slots := 0, locals := 157 }) (va_Pc [.ref (ad 0), .int a1, .int a2, .int a3] (wpreS adK adV dC dI cy sz w0)) (va_Qi (P_X12_built_1 ad cy B qr s1 a1 a2 a3 w0) (fun u : va_W => wpost dC dI cy (va_A w0 sz) u) (va_A w0 sz)) 0 0 (va_A w0 sz) := by
  refine Met.ofW (cc := cX12_built) (maxL := 11) (ret := (some .int)) (by decide) rfl ?_
  intro p e s m args below meth c s₁ Bk hml hv
  obtain ⟨rfl, ⟨hsz, hP, hK, hD0⟩, hE, hSR⟩ := hv
  have hx := Bk.exec
  have hb := Bk.bytes
  have hr := Bk.returns
  have hlocks := Bk.notSynchronized
  have hC : CallFix p m c cX12_built 11 s _ wsX12_built RX12 := ⟨hx, hb, hml, findClass_of_methodNamed Bk.named, atoms_spec (ws := wsX12_built) Bk.pre⟩
  subst hsz
  have hD := hD0.self (sz := s.heap.size)
  generalize hAe : va_A w0 s.heap.size = A at hD hE ⊢
  have hA : ∀ q : Nat, s.heap.size ≤ q → A q := fun q h => by rw [← hAe]; exact Or.inr h
  have hw : Wd dC dI A s.heap s.heap [] w0 := ⟨hP, hD, va_S.rf⟩
  have hF : FE ksM [(71, 1, 1), (71, 10, 130), (71, 11, 131), (71, 12, 132), (71, 13, 139), (77, 0, 10), (78, 0, 10)] w0 w0 := FE.rf
  have hl := lv_entry ([.ref (ad 0), .int a1, .int a2, .int a3]) (n := 11) (Nat.le_of_ble_eq_true rfl)
  rw [lg_entry_eq]
  generalize (lg_sl ([.ref (ad 0), .int a1, .int a2, .int a3]) ++ List.replicate (11 - (lg_sl ([.ref (ad 0), .int a1, .int a2, .int a3])).length) Slot.unset).toArray = ls at hl ⊢
  have hl : lv_has ls 11 [(0, .ref (ad 0)), (1, .int a1), (2, .int a2), (3, .int a3)] := hl
  generalize hloc : ([] : List Loc) = locs at hw ⊢
  have hinX12 : ∀ w ∈ u_ws RX12 TX12 42, w ∈ wsX12_built := fun _ h => List.mem_cons_of_mem _ (List.mem_append_right _ (h))
  have J38 : ∀ (f38_12_0 : Int32) (H : Heap) (locs : List Loc) (ls : Array Slot) (w1 : va_W), 0 ≤ f38_12_0.toInt → f38_12_0.toInt ≤ 10 → Wd dC dI A s.heap H locs w1 → TW ksM ad cy B qr 12 w1 → FE ksM [(71, 1, 1), (71, 10, 130), (71, 11, 131), (71, 12, 132), (71, 13, 139), (77, 0, 10), (78, 0, 10)] w0 w1 → gi w1 12 0 = f38_12_0 → lv_has ls 11 [(0, .ref (ad 0)), (1, .int a1), (2, .int a2), (3, .int a3)] → W p l e ({ frames := 7, cells := 0, slots := 0, locals := 157 }) s m (List.toArray [.ref (ad 0), .int a1, .int a2, .int a3]) below meth c H locs 0 0 (MQ below (va_Qi (P_X12_built_1 ad cy B qr s1 a1 a2 a3 w0) (fun u : va_W => wpost dC dI cy A u) A) (List.toArray [.ref (ad 0), .int a1, .int a2, .int a3]) s 0 0 A) (F0 m 38 ls []) := by
    intro f38_12_0 H locs ls w1 r2 t3 hw hT hF c4 hl
    refine lv_iconst (v := (-1)) hx hb dX12_built_38 (by decide) ?_
    exact tk_iret hC hr hlocks hK ⟨hT, hF, (Or.inr rfl)⟩ hw dX12_built_39
  have L76 : ∀ (n76 : Nat) (v76_4 : Int32) (v76_5 : Int32) (v76_6 : Int32) (v76_7 : Int32) (v76_8 : Int32) (f76_12_0 : Int32) (f76_12_1 : Int32) (H : Heap) (locs : List Loc) (ls : Array Slot) (w5 : va_W), 1 ≤ a1.toInt → a1.toInt ≤ 9 → 0 ≤ a2.toInt → a2.toInt ≤ 99999 → 0 ≤ a3.toInt → a3.toInt ≤ 2 → 10 ≤ v76_4.toInt → v76_4.toInt ≤ 130 → (-1) ≤ v76_5.toInt → v76_5.toInt ≤ 9 → (-1) ≤ v76_6.toInt → v76_6.toInt ≤ 9 → 0 ≤ v76_8.toInt → v76_8.toInt ≤ 10 → 1 ≤ f76_12_0.toInt → f76_12_0.toInt ≤ 10 → 1 ≤ f76_12_1.toInt → f76_12_1.toInt ≤ 13 → (10 - v76_8.toInt).toNat < n76 → Wd dC dI A s.heap H locs w5 → TW ksM ad cy B qr 13 w5 → FE ksM [(71, 1, 1), (71, 10, 130), (71, 11, 131), (71, 12, 132), (71, 13, 139), (77, 0, 10), (78, 0, 10)] w0 w5 → gi w5 12 0 = f76_12_0 → gi w5 12 1 = f76_12_1 → lv_has ls 11 [(0, .ref (ad 0)), (1, .int a1), (2, .int a2), (3, .int a3), (4, .int v76_4), (5, .int v76_5), (6, .int v76_6), (7, .int v76_7), (8, .int v76_8)] → W p l e ({ frames := 7, cells := 0, slots := 0, locals := 157 }) s m (List.toArray [.ref (ad 0), .int a1, .int a2, .int a3]) below meth c H locs 0 0 (MQ below (va_Qi (P_X12_built_1 ad cy B qr s1 a1 a2 a3 w0) (fun u : va_W => wpost dC dI cy A u) A) (List.toArray [.ref (ad 0), .int a1, .int a2, .int a3]) s 0 0 A) (F0 m 76 ls []) := by
    intro n76
    induction n76 with
    | zero => intro v76_4 v76_5 v76_6 v76_7 v76_8 f76_12_0 f76_12_1 H locs ls w5 r6 t7 r8 t9 r10 t11 r12 t13 r14 t15 r16 t17 r18 t19 r20 t21 r23 t24 hm76 hw hT hF c22 c25 hl; omega
    | succ n76 ih76 =>
      intro v76_4 v76_5 v76_6 v76_7 v76_8 f76_12_0 f76_12_1 H locs ls w5 r6 t7 r8 t9 r10 t11 r12 t13 r14 t15 r16 t17 r18 t19 r20 t21 r23 t24 hm76 hw hT hF c22 c25 hl
      have L93 : ∀ (n93 : Nat) (v93_5 : Int32) (v93_6 : Int32) (v93_7 : Int32) (v93_9 : Int32) (H : Heap) (locs : List Loc) (ls : Array Slot) (w26 : va_W), 1 ≤ a1.toInt → a1.toInt ≤ 9 → 0 ≤ a2.toInt → a2.toInt ≤ 99999 → 0 ≤ a3.toInt → a3.toInt ≤ 2 → 10 ≤ v76_4.toInt → v76_4.toInt ≤ 130 → (-1) ≤ v93_5.toInt → v93_5.toInt ≤ 9 → (-1) ≤ v93_6.toInt → v93_6.toInt ≤ 9 → 0 ≤ v76_8.toInt → v76_8.toInt ≤ 9 → 1 ≤ v93_9.toInt → v93_9.toInt ≤ 10 → 1 ≤ f76_12_0.toInt → f76_12_0.toInt ≤ 10 → 1 ≤ f76_12_1.toInt → f76_12_1.toInt ≤ 13 → (10 - v93_9.toInt).toNat < n93 → Wd dC dI A s.heap H locs w26 → TW ksM ad cy B qr 13 w26 → FE ksM [(71, 1, 1), (71, 10, 130), (71, 11, 131), (71, 12, 132), (71, 13, 139), (77, 0, 10), (78, 0, 10)] w0 w26 → gi w26 12 0 = f76_12_0 → gi w26 12 1 = f76_12_1 → lv_has ls 11 [(0, .ref (ad 0)), (1, .int a1), (2, .int a2), (3, .int a3), (4, .int v76_4), (5, .int v93_5), (6, .int v93_6), (7, .int v93_7), (8, .int v76_8), (9, .int v93_9)] → W p l e ({ frames := 7, cells := 0, slots := 0, locals := 157 }) s m (List.toArray [.ref (ad 0), .int a1, .int a2, .int a3]) below meth c H locs 0 0 (MQ below (va_Qi (P_X12_built_1 ad cy B qr s1 a1 a2 a3 w0) (fun u : va_W => wpost dC dI cy A u) A) (List.toArray [.ref (ad 0), .int a1, .int a2, .int a3]) s 0 0 A) (F0 m 93 ls []) := by
        intro n93
        induction n93 with
        | zero => intro v93_5 v93_6 v93_7 v93_9 H locs ls w26 r27 t28 r29 t30 r31 t32 r33 t34 r35 t36 r37 t38 r39 t40 r41 t42 r43 t44 r46 t47 hm93 hw hT hF c45 c48 hl; omega
        | succ n93 ih93 =>
          intro v93_5 v93_6 v93_7 v93_9 H locs ls w26 r27 t28 r29 t30 r31 t32 r33 t34 r35 t36 r37 t38 r39 t40 r41 t42 r43 t44 r46 t47 hm93 hw hT hF c45 c48 hl
          have J197 : ∀ (v197_5 : Int32) (v197_6 : Int32) (v197_7 : Int32) (v197_10 : Int32) (H : Heap) (locs : List Loc) (ls : Array Slot) (w49 : va_W), 1 ≤ a1.toInt → a1.toInt ≤ 9 → 0 ≤ a2.toInt → a2.toInt ≤ 99999 → 0 ≤ a3.toInt → a3.toInt ≤ 2 → 10 ≤ v76_4.toInt → v76_4.toInt ≤ 130 → 0 ≤ v197_5.toInt → v197_5.toInt ≤ 9 → (-1) ≤ v197_6.toInt → v197_6.toInt ≤ 9 → 0 ≤ v76_8.toInt → v76_8.toInt ≤ 9 → 1 ≤ v93_9.toInt → v93_9.toInt ≤ 9 → 2 ≤ f76_12_0.toInt → f76_12_0.toInt ≤ 10 → 1 ≤ f76_12_1.toInt → f76_12_1.toInt ≤ 13 → Wd dC dI A s.heap H locs w49 → TW ksM ad cy B qr 13 w49 → FE ksM [(71, 1, 1), (71, 10, 130), (71, 11, 131), (71, 12, 132), (71, 13, 139), (77, 0, 10), (78, 0, 10)] w0 w49 → gi w49 12 0 = f76_12_0 → gi w49 12 1 = f76_12_1 → lv_has ls 11 [(0, .ref (ad 0)), (1, .int a1), (2, .int a2), (3, .int a3), (4, .int v76_4), (5, .int v197_5), (6, .int v197_6), (7, .int v197_7), (8, .int v76_8), (9, .int v93_9), (10, .int v197_10)] → W p l e ({ frames := 7, cells := 0, slots := 0, locals := 157 }) s m (List.toArray [.ref (ad 0), .int a1, .int a2, .int a3]) below meth c H locs 0 0 (MQ below (va_Qi (P_X12_built_1 ad cy B qr s1 a1 a2 a3 w0) (fun u : va_W => wpost dC dI cy A u) A) (List.toArray [.ref (ad 0), .int a1, .int a2, .int a3]) s 0 0 A) (F0 m 197 ls []) := by
            intro v197_5 v197_6 v197_7 v197_10 H locs ls w49 r50 t51 r52 t53 r54 t55 r56 t57 r58 t59 r60 t61 r62 t63 r64 t65 r66 t67 r69 t70 hw hT hF c68 c71 hl
            obtain ⟨x72, ex72⟩ : ∃ y : Int32, y = v93_9 + Int32.ofInt 1 := ⟨_, rfl⟩
            refine lv_iinc (v := x72) (lv' := [(9, .int x72), (0, .ref (ad 0)), (1, .int a1), (2, .int a2), (3, .int a3), (4, .int v76_4), (5, .int v197_5), (6, .int v197_6), (7, .int v197_7), (8, .int v76_8), (10, .int v197_10)]) hx hb dX12_built_197 hl (k := 9) rfl ex72.symm (by decide) rfl (fun ls hl => ?_)
            have ex72 : x72.toInt = v93_9.toInt + 1 := by rw [ex72]; exact wk_add (y := 1) (show -2147483648 ≤ v93_9.toInt + 1 by omega) (show v93_9.toInt + 1 ≤ 2147483647 by omega)
            refine lv_goto (tgt := 93) hx hb dX12_built_200 (by decide) ?_
            exact ih93 v197_5 v197_6 v197_7 x72 H locs ls w49 (show 1 ≤ a1.toInt by omega) (show a1.toInt ≤ 9 by omega) (show 0 ≤ a2.toInt by omega) (show a2.toInt ≤ 99999 by omega) (show 0 ≤ a3.toInt by omega) (show a3.toInt ≤ 2 by omega) (show 10 ≤ v76_4.toInt by omega) (show v76_4.toInt ≤ 130 by omega) (show (-1) ≤ v197_5.toInt by omega) (show v197_5.toInt ≤ 9 by omega) (show (-1) ≤ v197_6.toInt by omega) (show v197_6.toInt ≤ 9 by omega) (show 0 ≤ v76_8.toInt by omega) (show v76_8.toInt ≤ 9 by omega) (show 1 ≤ x72.toInt by omega) (show x72.toInt ≤ 10 by omega) (show 1 ≤ f76_12_0.toInt by omega) (show f76_12_0.toInt ≤ 10 by omega) (show 1 ≤ f76_12_1.toInt by omega) (show f76_12_1.toInt ≤ 13 by omega) (show (10 - x72.toInt).toNat < n93 by omega) hw hT hF c68 c71 (lv_sub hl [1, 2, 3, 4, 5, 6, 7, 8, 9, 0] rfl)
          have J185 : ∀ (v185_10 : Int32) (H : Heap) (locs : List Loc) (ls : Array Slot) (w73 : va_W), 1 ≤ a1.toInt → a1.toInt ≤ 9 → 0 ≤ a2.toInt → a2.toInt ≤ 99999 → 0 ≤ a3.toInt → a3.toInt ≤ 2 → 10 ≤ v76_4.toInt → v76_4.toInt ≤ 130 → (-1) ≤ v93_5.toInt → v93_5.toInt ≤ 9 → (-1) ≤ v93_6.toInt → v93_6.toInt ≤ 9 → 0 ≤ v76_8.toInt → v76_8.toInt ≤ 9 → 1 ≤ v93_9.toInt → v93_9.toInt ≤ 9 → 2 ≤ f76_12_0.toInt → f76_12_0.toInt ≤ 10 → 1 ≤ f76_12_1.toInt → f76_12_1.toInt ≤ 13 → Wd dC dI A s.heap H locs w73 → TW ksM ad cy B qr 13 w73 → FE ksM [(71, 1, 1), (71, 10, 130), (71, 11, 131), (71, 12, 132), (71, 13, 139), (77, 0, 10), (78, 0, 10)] w0 w73 → gi w73 12 0 = f76_12_0 → gi w73 12 1 = f76_12_1 → lv_has ls 11 [(0, .ref (ad 0)), (1, .int a1), (2, .int a2), (3, .int a3), (4, .int v76_4), (5, .int v93_5), (6, .int v93_6), (7, .int v93_7), (8, .int v76_8), (9, .int v93_9), (10, .int v185_10)] → W p l e ({ frames := 7, cells := 0, slots := 0, locals := 157 }) s m (List.toArray [.ref (ad 0), .int a1, .int a2, .int a3]) below meth c H locs 0 0 (MQ below (va_Qi (P_X12_built_1 ad cy B qr s1 a1 a2 a3 w0) (fun u : va_W => wpost dC dI cy A u) A) (List.toArray [.ref (ad 0), .int a1, .int a2, .int a3]) s 0 0 A) (F0 m 185 ls []) := by
            intro v185_10 H locs ls w73 r74 t75 r76 t77 r78 t79 r80 t81 r82 t83 r84 t85 r86 t87 r88 t89 r90 t91 r93 t94 hw hT hF c92 c95 hl
            refine lv_iload hx hb dX12_built_185 (lv_at hl 8 rfl) ?_
            refine lv_istore (lv' := [(5, .int v76_8), (0, .ref (ad 0)), (1, .int a1), (2, .int a2), (3, .int a3), (4, .int v76_4), (6, .int v93_6), (7, .int v93_7), (8, .int v76_8), (9, .int v93_9), (10, .int v185_10)]) hx hb dX12_built_187 hl (by decide) rfl (fun ls hl => ?_)
            refine lv_iload hx hb dX12_built_189 (lv_at hl 9 rfl) ?_
            refine lv_istore (lv' := [(6, .int v93_9), (5, .int v76_8), (0, .ref (ad 0)), (1, .int a1), (2, .int a2), (3, .int a3), (4, .int v76_4), (7, .int v93_7), (8, .int v76_8), (9, .int v93_9), (10, .int v185_10)]) hx hb dX12_built_191 hl (by decide) rfl (fun ls hl => ?_)
            refine lv_iload hx hb dX12_built_193 (lv_at hl 10 rfl) ?_
            refine lv_istore (lv' := [(7, .int v185_10), (6, .int v93_9), (5, .int v76_8), (0, .ref (ad 0)), (1, .int a1), (2, .int a2), (3, .int a3), (4, .int v76_4), (8, .int v76_8), (9, .int v93_9), (10, .int v185_10)]) hx hb dX12_built_195 hl (by decide) rfl (fun ls hl => ?_)
            exact J197 v76_8 v93_9 v185_10 v185_10 H locs ls w73 (show 1 ≤ a1.toInt by omega) (show a1.toInt ≤ 9 by omega) (show 0 ≤ a2.toInt by omega) (show a2.toInt ≤ 99999 by omega) (show 0 ≤ a3.toInt by omega) (show a3.toInt ≤ 2 by omega) (show 10 ≤ v76_4.toInt by omega) (show v76_4.toInt ≤ 130 by omega) (show 0 ≤ v76_8.toInt by omega) (show v76_8.toInt ≤ 9 by omega) (show (-1) ≤ v93_9.toInt by omega) (show v93_9.toInt ≤ 9 by omega) (show 0 ≤ v76_8.toInt by omega) (show v76_8.toInt ≤ 9 by omega) (show 1 ≤ v93_9.toInt by omega) (show v93_9.toInt ≤ 9 by omega) (show 2 ≤ f76_12_0.toInt by omega) (show f76_12_0.toInt ≤ 10 by omega) (show 1 ≤ f76_12_1.toInt by omega) (show f76_12_1.toInt ≤ 13 by omega)  hw hT hF c92 c95 (lv_sub hl [3, 4, 5, 6, 7, 2, 1, 0, 8, 9, 10] rfl)
          have L137 : ∀ (n137 : Nat) (v137_10 : Int32) (H : Heap) (locs : List Loc) (ls : Array Slot) (w96 : va_W), 1 ≤ a1.toInt → a1.toInt ≤ 9 → 0 ≤ a2.toInt → a2.toInt ≤ 99999 → 0 ≤ a3.toInt → a3.toInt ≤ 2 → 10 ≤ v76_4.toInt → v76_4.toInt ≤ 130 → (-1) ≤ v93_5.toInt → v93_5.toInt ≤ 9 → (-1) ≤ v93_6.toInt → v93_6.toInt ≤ 9 → 0 ≤ v76_8.toInt → v76_8.toInt ≤ 9 → 1 ≤ v93_9.toInt → v93_9.toInt ≤ 9 → 0 ≤ v137_10.toInt → v137_10.toInt ≤ 7 → 2 ≤ f76_12_0.toInt → f76_12_0.toInt ≤ 10 → 1 ≤ f76_12_1.toInt → f76_12_1.toInt ≤ 13 → (7 - v137_10.toInt).toNat < n137 → Wd dC dI A s.heap H locs w96 → TW ksM ad cy B qr 13 w96 → FE ksM [(71, 1, 1), (71, 10, 130), (71, 11, 131), (71, 12, 132), (71, 13, 139), (77, 0, 10), (78, 0, 10)] w0 w96 → gi w96 12 0 = f76_12_0 → gi w96 12 1 = f76_12_1 → lv_has ls 11 [(0, .ref (ad 0)), (1, .int a1), (2, .int a2), (3, .int a3), (4, .int v76_4), (5, .int v93_5), (6, .int v93_6), (7, .int v93_7), (8, .int v76_8), (9, .int v93_9), (10, .int v137_10)] → W p l e ({ frames := 7, cells := 0, slots := 0, locals := 157 }) s m (List.toArray [.ref (ad 0), .int a1, .int a2, .int a3]) below meth c H locs 0 0 (MQ below (va_Qi (P_X12_built_1 ad cy B qr s1 a1 a2 a3 w0) (fun u : va_W => wpost dC dI cy A u) A) (List.toArray [.ref (ad 0), .int a1, .int a2, .int a3]) s 0 0 A) (F0 m 137 ls []) := by
            intro n137
            induction n137 with
            | zero => intro v137_10 H locs ls w96 r97 t98 r99 t100 r101 t102 r103 t104 r105 t106 r107 t108 r109 t110 r111 t112 r113 t114 r115 t116 r118 t119 hm137 hw hT hF c117 c120 hl; omega
            | succ n137 ih137 =>
              intro v137_10 H locs ls w96 r97 t98 r99 t100 r101 t102 r103 t104 r105 t106 r107 t108 r109 t110 r111 t112 r113 t114 r115 t116 r118 t119 hm137 hw hT hF c117 c120 hl
              refine lv_iload hx hb dX12_built_137 (lv_at hl 10 rfl) ?_
              refine lv_bipush (v := 7) hx hb dX12_built_139 (by decide) ?_
              refine lv_icmp_ge (tgt := 163) hx hb dX12_built_141 (by decide) (fun c121 => ?_) (fun c121 => ?_)
              · have c121 : (7 : Int) ≤ v137_10.toInt := wk_le.mp c121
                refine lv_aload_n hx hb dX12_built_163 rfl (lv_at hl 0 rfl) ?_
                refine lv_iload_n hx hb dX12_built_164 rfl (lv_at hl 2 rfl) ?_
                refine tk_Vi hC hK hw hT hA hE hSR kM_at0 (by decide) rfl (k_X12_sumOf_1 l adK adV dC dI cy ad B (by omega) (by omega) qr s1   a2 (show 0 ≤ a2.toInt by omega) (show a2.toInt ≤ 99999 by omega) w96 H.size hT ) (cwV 1 hC.2.2.2.2 gX12_built_X12_sumOf rfl rfl rfl (by decide +kernel) ⟨Nat.le_of_ble_eq_true rfl, Nat.le_of_ble_eq_true rfl⟩) rfl hl.1 rfl (Nat.le_of_ble_eq_true rfl) dX12_built_165 (fun r122 w124 H locs hp123 hw => ?_)
                obtain ⟨hT, k125, hg126⟩ := hp123
                have hF := hF.tr k125 (by decide)
                have c127 := k125.gi kM_at12 (by decide) c117
                have c128 := k125.gi kM_at12 (by decide) c120
                clear hg126
                refine lv_istore (lv' := [(10, .int r122), (0, .ref (ad 0)), (1, .int a1), (2, .int a2), (3, .int a3), (4, .int v76_4), (5, .int v93_5), (6, .int v93_6), (7, .int v93_7), (8, .int v76_8), (9, .int v93_9)]) hx hb dX12_built_168 hl (by decide) rfl (fun ls hl => ?_)
                refine lv_iload hx hb dX12_built_170 (lv_at hl 6 rfl) ?_
                refine lv_if_lt (tgt := 185) hx hb dX12_built_172 (by decide) (fun c129 => ?_) (fun c129 => ?_)
                · have c129 : v93_5.toInt < (0 : Int) := wk_lt.mp c129
                  exact J185 r122 H locs ls w124 (show 1 ≤ a1.toInt by omega) (show a1.toInt ≤ 9 by omega) (show 0 ≤ a2.toInt by omega) (show a2.toInt ≤ 99999 by omega) (show 0 ≤ a3.toInt by omega) (show a3.toInt ≤ 2 by omega) (show 10 ≤ v76_4.toInt by omega) (show v76_4.toInt ≤ 130 by omega) (show (-1) ≤ v93_5.toInt by omega) (show v93_5.toInt ≤ 9 by omega) (show (-1) ≤ v93_6.toInt by omega) (show v93_6.toInt ≤ 9 by omega) (show 0 ≤ v76_8.toInt by omega) (show v76_8.toInt ≤ 9 by omega) (show 1 ≤ v93_9.toInt by omega) (show v93_9.toInt ≤ 9 by omega) (show 2 ≤ f76_12_0.toInt by omega) (show f76_12_0.toInt ≤ 10 by omega) (show 1 ≤ f76_12_1.toInt by omega) (show f76_12_1.toInt ≤ 13 by omega)  hw hT hF c127 c128 (lv_sub hl [1, 2, 3, 4, 5, 6, 7, 8, 9, 10, 0] rfl)
                · have c129 : (0 : Int) ≤ v93_5.toInt := wk_ltF c129
                  refine lv_iload hx hb dX12_built_175 (lv_at hl 0 rfl) ?_
                  refine lv_iload hx hb dX12_built_177 (lv_at hl 8 rfl) ?_
                  refine lv_icmp_lt (tgt := 185) hx hb dX12_built_179 (by decide) (fun c130 => ?_) (fun c130 => ?_)
                  · have c130 : r122.toInt < v93_7.toInt := wk_lt.mp c130
                    exact J185 r122 H locs ls w124 (show 1 ≤ a1.toInt by omega) (show a1.toInt ≤ 9 by omega) (show 0 ≤ a2.toInt by omega) (show a2.toInt ≤ 99999 by omega) (show 0 ≤ a3.toInt by omega) (show a3.toInt ≤ 2 by omega) (show 10 ≤ v76_4.toInt by omega) (show v76_4.toInt ≤ 130 by omega) (show (-1) ≤ v93_5.toInt by omega) (show v93_5.toInt ≤ 9 by omega) (show (-1) ≤ v93_6.toInt by omega) (show v93_6.toInt ≤ 9 by omega) (show 0 ≤ v76_8.toInt by omega) (show v76_8.toInt ≤ 9 by omega) (show 1 ≤ v93_9.toInt by omega) (show v93_9.toInt ≤ 9 by omega) (show 2 ≤ f76_12_0.toInt by omega) (show f76_12_0.toInt ≤ 10 by omega) (show 1 ≤ f76_12_1.toInt by omega) (show f76_12_1.toInt ≤ 13 by omega)  hw hT hF c127 c128 (lv_sub hl [1, 2, 3, 4, 5, 6, 7, 8, 9, 10, 0] rfl)
                  · have c130 : v93_7.toInt ≤ r122.toInt := wk_ltF c130
                    refine lv_goto (tgt := 197) hx hb dX12_built_182 (by decide) ?_
                    exact J197 v93_5 v93_6 v93_7 r122 H locs ls w124 (show 1 ≤ a1.toInt by omega) (show a1.toInt ≤ 9 by omega) (show 0 ≤ a2.toInt by omega) (show a2.toInt ≤ 99999 by omega) (show 0 ≤ a3.toInt by omega) (show a3.toInt ≤ 2 by omega) (show 10 ≤ v76_4.toInt by omega) (show v76_4.toInt ≤ 130 by omega) (show 0 ≤ v93_5.toInt by omega) (show v93_5.toInt ≤ 9 by omega) (show (-1) ≤ v93_6.toInt by omega) (show v93_6.toInt ≤ 9 by omega) (show 0 ≤ v76_8.toInt by omega) (show v76_8.toInt ≤ 9 by omega) (show 1 ≤ v93_9.toInt by omega) (show v93_9.toInt ≤ 9 by omega) (show 2 ≤ f76_12_0.toInt by omega) (show f76_12_0.toInt ≤ 10 by omega) (show 1 ≤ f76_12_1.toInt by omega) (show f76_12_1.toInt ≤ 13 by omega)  hw hT hF c127 c128 (lv_sub hl [1, 2, 3, 4, 5, 6, 7, 8, 9, 10, 0] rfl)
              · have c121 : v137_10.toInt < (7 : Int) := wk_leF c121
                refine lv_aload_n hx hb dX12_built_144 rfl (lv_at hl 0 rfl) ?_
                refine tk_getA hC hK hw hT hinX12 kM_at0 (by decide) rfl 26 (by decide) (List.mem_of_getElem? (i := 3) rfl) rfl rfl dX12_built_145 ?_
                refine lv_iload hx hb dX12_built_148 (lv_at hl 4 rfl) ?_
                refine lv_iconst (v := 3) hx hb dX12_built_150 (by decide) ?_
                refine lv_iadd hx hb dX12_built_151 ?_
                refine lv_topi (fun x131 ex131 => ?_)
                have ex131 : x131.toInt = v76_4.toInt + (3 : Int) := by rw [ex131]; exact wk_add (show (-2147483648) ≤ v76_4.toInt + (3 : Int) by omega) (show v76_4.toInt + (3 : Int) ≤ 2147483647 by omega)
                refine lv_iload hx hb dX12_built_152 (lv_at hl 10 rfl) ?_
                refine lv_iadd hx hb dX12_built_154 ?_
                refine lv_topi (fun x132 ex132 => ?_)
                have ex132 : x132.toInt = x131.toInt + v137_10.toInt := by rw [ex132]; exact wk_add (show (-2147483648) ≤ x131.toInt + v137_10.toInt by omega) (show x131.toInt + v137_10.toInt ≤ 2147483647 by omega)
                refine lv_iconst (v := 3) hx hb dX12_built_155 (by decide) ?_
                refine tk_iastR hC hK hw hT kM_at12 (by decide) rfl (show 0 ≤ x132.toInt by omega) (show x132.toInt < 296 by omega) (tk_rgS rfl 13 1 127 3 3 (by decide +kernel) ⟨(x132.toInt - 13).toNat, by omega, show x132.toInt.toNat = 13 + 1 * (x132.toInt - 13).toNat by omega⟩ (by decide) (by decide)) dX12_built_156 (fun H locs w133 hw hT k135 c134 => ?_)
                have hF := hF.put kM_at12 (inE_of (a := 13) (b := 139) (by decide) (show 13 ≤ x132.toInt.toNat by omega) (show x132.toInt.toNat ≤ 139 by omega)) k135
                have c136 := k135.gi (Or.inr (show 0 ≠ x132.toInt.toNat by omega)) c117
                have c137 := k135.gi (Or.inr (show 1 ≠ x132.toInt.toNat by omega)) c120
                obtain ⟨x138, ex138⟩ : ∃ y : Int32, y = v137_10 + Int32.ofInt 1 := ⟨_, rfl⟩
                refine lv_iinc (v := x138) (lv' := [(10, .int x138), (0, .ref (ad 0)), (1, .int a1), (2, .int a2), (3, .int a3), (4, .int v76_4), (5, .int v93_5), (6, .int v93_6), (7, .int v93_7), (8, .int v76_8), (9, .int v93_9)]) hx hb dX12_built_157 hl (k := 10) rfl ex138.symm (by decide) rfl (fun ls hl => ?_)
                have ex138 : x138.toInt = v137_10.toInt + 1 := by rw [ex138]; exact wk_add (y := 1) (show -2147483648 ≤ v137_10.toInt + 1 by omega) (show v137_10.toInt + 1 ≤ 2147483647 by omega)
                refine lv_goto (tgt := 137) hx hb dX12_built_160 (by decide) ?_
                exact ih137 x138 H locs ls w133 (show 1 ≤ a1.toInt by omega) (show a1.toInt ≤ 9 by omega) (show 0 ≤ a2.toInt by omega) (show a2.toInt ≤ 99999 by omega) (show 0 ≤ a3.toInt by omega) (show a3.toInt ≤ 2 by omega) (show 10 ≤ v76_4.toInt by omega) (show v76_4.toInt ≤ 130 by omega) (show (-1) ≤ v93_5.toInt by omega) (show v93_5.toInt ≤ 9 by omega) (show (-1) ≤ v93_6.toInt by omega) (show v93_6.toInt ≤ 9 by omega) (show 0 ≤ v76_8.toInt by omega) (show v76_8.toInt ≤ 9 by omega) (show 1 ≤ v93_9.toInt by omega) (show v93_9.toInt ≤ 9 by omega) (show 0 ≤ x138.toInt by omega) (show x138.toInt ≤ 7 by omega) (show 2 ≤ f76_12_0.toInt by omega) (show f76_12_0.toInt ≤ 10 by omega) (show 1 ≤ f76_12_1.toInt by omega) (show f76_12_1.toInt ≤ 13 by omega) (show (7 - x138.toInt).toNat < n137 by omega) hw hT hF c136 c137 (lv_sub hl [1, 2, 3, 4, 5, 6, 7, 8, 9, 10, 0] rfl)
          refine lv_iload hx hb dX12_built_93 (lv_at hl 9 rfl) ?_
          refine lv_aload_n hx hb dX12_built_95 rfl (lv_at hl 0 rfl) ?_
          refine tk_getA hC hK hw hT hinX12 kM_at0 (by decide) rfl 26 (by decide) (List.mem_of_getElem? (i := 3) rfl) rfl rfl dX12_built_96 ?_
          refine lv_iconst (v := 0) hx hb dX12_built_99 (by decide) ?_
          refine tk_ialdR hC hK hw hT kM_at12 rfl (by decide) (by decide) dX12_built_100 (fun x139 c140 Ex139 => ?_)
          refine wk_top f76_12_0 (c140.symm.trans c45) ?_
          refine lv_icmp_ge (tgt := 203) hx hb dX12_built_101 (by decide) (fun c141 => ?_) (fun c141 => ?_)
          · have c141 : f76_12_0.toInt ≤ v93_9.toInt := wk_le.mp c141
            obtain ⟨x142, ex142⟩ : ∃ y : Int32, y = v76_8 + Int32.ofInt 1 := ⟨_, rfl⟩
            refine lv_iinc (v := x142) (lv' := [(8, .int x142), (0, .ref (ad 0)), (1, .int a1), (2, .int a2), (3, .int a3), (4, .int v76_4), (5, .int v93_5), (6, .int v93_6), (7, .int v93_7), (9, .int v93_9)]) hx hb dX12_built_203 hl (k := 8) rfl ex142.symm (by decide) rfl (fun ls hl => ?_)
            have ex142 : x142.toInt = v76_8.toInt + 1 := by rw [ex142]; exact wk_add (y := 1) (show -2147483648 ≤ v76_8.toInt + 1 by omega) (show v76_8.toInt + 1 ≤ 2147483647 by omega)
            refine lv_goto (tgt := 76) hx hb dX12_built_206 (by decide) ?_
            exact ih76 v76_4 v93_5 v93_6 v93_7 x142 f76_12_0 f76_12_1 H locs ls w26 (show 1 ≤ a1.toInt by omega) (show a1.toInt ≤ 9 by omega) (show 0 ≤ a2.toInt by omega) (show a2.toInt ≤ 99999 by omega) (show 0 ≤ a3.toInt by omega) (show a3.toInt ≤ 2 by omega) (show 10 ≤ v76_4.toInt by omega) (show v76_4.toInt ≤ 130 by omega) (show (-1) ≤ v93_5.toInt by omega) (show v93_5.toInt ≤ 9 by omega) (show (-1) ≤ v93_6.toInt by omega) (show v93_6.toInt ≤ 9 by omega) (show 0 ≤ x142.toInt by omega) (show x142.toInt ≤ 10 by omega) (show 1 ≤ f76_12_0.toInt by omega) (show f76_12_0.toInt ≤ 10 by omega) (show 1 ≤ f76_12_1.toInt by omega) (show f76_12_1.toInt ≤ 13 by omega) (show (10 - x142.toInt).toNat < n76 by omega) hw hT hF c45 c48 (lv_sub hl [1, 2, 3, 4, 5, 6, 7, 8, 0] rfl)
          · have c141 : v93_9.toInt < f76_12_0.toInt := wk_leF c141
            refine lv_aload_n hx hb dX12_built_104 rfl (lv_at hl 0 rfl) ?_
            refine tk_getA hC hK hw hT hinX12 kM_at0 (by decide) rfl 26 (by decide) (List.mem_of_getElem? (i := 3) rfl) rfl rfl dX12_built_105 ?_
            refine lv_iload hx hb dX12_built_108 (lv_at hl 4 rfl) ?_
            refine lv_iload hx hb dX12_built_110 (lv_at hl 8 rfl) ?_
            refine tk_iastR hC hK hw hT kM_at12 (by decide) rfl (show 0 ≤ v76_4.toInt by omega) (show v76_4.toInt < 296 by omega) (tk_rgS rfl 10 1 121 0 9 (by decide +kernel) ⟨(v76_4.toInt - 10).toNat, by omega, show v76_4.toInt.toNat = 10 + 1 * (v76_4.toInt - 10).toNat by omega⟩ (show 0 ≤ v76_8.toInt by omega) (show v76_8.toInt ≤ 9 by omega)) dX12_built_112 (fun H locs w143 hw hT k145 c144 => ?_)
            have hF := hF.put kM_at12 (inE_of (a := 10) (b := 130) (by decide) (show 10 ≤ v76_4.toInt.toNat by omega) (show v76_4.toInt.toNat ≤ 130 by omega)) k145
            have c146 := k145.gi (Or.inr (show 0 ≠ v76_4.toInt.toNat by omega)) c45
            have c147 := k145.gi (Or.inr (show 1 ≠ v76_4.toInt.toNat by omega)) c48
            refine lv_aload_n hx hb dX12_built_113 rfl (lv_at hl 0 rfl) ?_
            refine tk_getA hC hK hw hT hinX12 kM_at0 (by decide) rfl 26 (by decide) (List.mem_of_getElem? (i := 3) rfl) rfl rfl dX12_built_114 ?_
            refine lv_iload hx hb dX12_built_117 (lv_at hl 4 rfl) ?_
            refine lv_iconst (v := 1) hx hb dX12_built_119 (by decide) ?_
            refine lv_iadd hx hb dX12_built_120 ?_
            refine lv_topi (fun x148 ex148 => ?_)
            have ex148 : x148.toInt = v76_4.toInt + (1 : Int) := by rw [ex148]; exact wk_add (show (-2147483648) ≤ v76_4.toInt + (1 : Int) by omega) (show v76_4.toInt + (1 : Int) ≤ 2147483647 by omega)
            refine lv_iload hx hb dX12_built_121 (lv_at hl 9 rfl) ?_
            refine tk_iastR hC hK hw hT kM_at12 (by decide) rfl (show 0 ≤ x148.toInt by omega) (show x148.toInt < 296 by omega) (tk_rgS rfl 11 1 121 1 9 (by decide +kernel) ⟨(v76_4.toInt - 10).toNat, by omega, show x148.toInt.toNat = 11 + 1 * (v76_4.toInt - 10).toNat by omega⟩ (show 1 ≤ v93_9.toInt by omega) (show v93_9.toInt ≤ 9 by omega)) dX12_built_123 (fun H locs w149 hw hT k151 c150 => ?_)
            have hF := hF.put kM_at12 (inE_of (a := 11) (b := 131) (by decide) (show 11 ≤ x148.toInt.toNat by omega) (show x148.toInt.toNat ≤ 131 by omega)) k151
            have c152 := k151.gi (Or.inr (show 0 ≠ x148.toInt.toNat by omega)) c146
            have c153 := k151.gi (Or.inr (show 1 ≠ x148.toInt.toNat by omega)) c147
            refine lv_aload_n hx hb dX12_built_124 rfl (lv_at hl 0 rfl) ?_
            refine tk_getA hC hK hw hT hinX12 kM_at0 (by decide) rfl 26 (by decide) (List.mem_of_getElem? (i := 3) rfl) rfl rfl dX12_built_125 ?_
            refine lv_iload hx hb dX12_built_128 (lv_at hl 4 rfl) ?_
            refine lv_iconst (v := 2) hx hb dX12_built_130 (by decide) ?_
            refine lv_iadd hx hb dX12_built_131 ?_
            refine lv_topi (fun x154 ex154 => ?_)
            have ex154 : x154.toInt = v76_4.toInt + (2 : Int) := by rw [ex154]; exact wk_add (show (-2147483648) ≤ v76_4.toInt + (2 : Int) by omega) (show v76_4.toInt + (2 : Int) ≤ 2147483647 by omega)
            refine lv_iload_n hx hb dX12_built_132 rfl (lv_at hl 1 rfl) ?_
            refine tk_iastR hC hK hw hT kM_at12 (by decide) rfl (show 0 ≤ x154.toInt by omega) (show x154.toInt < 296 by omega) (tk_rgS rfl 12 1 121 1 9 (by decide +kernel) ⟨(v76_4.toInt - 10).toNat, by omega, show x154.toInt.toNat = 12 + 1 * (v76_4.toInt - 10).toNat by omega⟩ (show 1 ≤ a1.toInt by omega) (show a1.toInt ≤ 9 by omega)) dX12_built_133 (fun H locs w155 hw hT k157 c156 => ?_)
            have hF := hF.put kM_at12 (inE_of (a := 12) (b := 132) (by decide) (show 12 ≤ x154.toInt.toNat by omega) (show x154.toInt.toNat ≤ 132 by omega)) k157
            have c158 := k157.gi (Or.inr (show 0 ≠ x154.toInt.toNat by omega)) c152
            have c159 := k157.gi (Or.inr (show 1 ≠ x154.toInt.toNat by omega)) c153
            refine lv_iconst (v := 0) hx hb dX12_built_134 (by decide) ?_
            refine lv_istore (lv' := [(10, .int 0), (0, .ref (ad 0)), (1, .int a1), (2, .int a2), (3, .int a3), (4, .int v76_4), (5, .int v93_5), (6, .int v93_6), (7, .int v93_7), (8, .int v76_8), (9, .int v93_9)]) hx hb dX12_built_135 hl (by decide) rfl (fun ls hl => ?_)
            exact L137 ((7 - (0 : Int)).toNat + 1) 0 H locs ls w155 (show 1 ≤ a1.toInt by omega) (show a1.toInt ≤ 9 by omega) (show 0 ≤ a2.toInt by omega) (show a2.toInt ≤ 99999 by omega) (show 0 ≤ a3.toInt by omega) (show a3.toInt ≤ 2 by omega) (show 10 ≤ v76_4.toInt by omega) (show v76_4.toInt ≤ 130 by omega) (show (-1) ≤ v93_5.toInt by omega) (show v93_5.toInt ≤ 9 by omega) (show (-1) ≤ v93_6.toInt by omega) (show v93_6.toInt ≤ 9 by omega) (show 0 ≤ v76_8.toInt by omega) (show v76_8.toInt ≤ 9 by omega) (show 1 ≤ v93_9.toInt by omega) (show v93_9.toInt ≤ 9 by omega) (by decide) (by decide) (show 2 ≤ f76_12_0.toInt by omega) (show f76_12_0.toInt ≤ 10 by omega) (show 1 ≤ f76_12_1.toInt by omega) (show f76_12_1.toInt ≤ 13 by omega) (Nat.lt_succ_self _) hw hT hF c158 c159 (lv_sub hl [1, 2, 3, 4, 5, 6, 7, 8, 9, 10, 0] rfl)
      refine lv_iload hx hb dX12_built_76 (lv_at hl 8 rfl) ?_
      refine lv_aload_n hx hb dX12_built_78 rfl (lv_at hl 0 rfl) ?_
      refine tk_getA hC hK hw hT hinX12 kM_at0 (by decide) rfl 26 (by decide) (List.mem_of_getElem? (i := 3) rfl) rfl rfl dX12_built_79 ?_
      refine lv_iconst (v := 0) hx hb dX12_built_82 (by decide) ?_
      refine tk_ialdR hC hK hw hT kM_at12 rfl (by decide) (by decide) dX12_built_83 (fun x160 c161 Ex160 => ?_)
      refine wk_top f76_12_0 (c161.symm.trans c22) ?_
      refine lv_icmp_ge (tgt := 209) hx hb dX12_built_84 (by decide) (fun c162 => ?_) (fun c162 => ?_)
      · have c162 : f76_12_0.toInt ≤ v76_8.toInt := wk_le.mp c162
        refine lv_aload_n hx hb dX12_built_209 rfl (lv_at hl 0 rfl) ?_
        refine tk_getA hC hK hw hT hinX12 kM_at0 (by decide) rfl 26 (by decide) (List.mem_of_getElem? (i := 3) rfl) rfl rfl dX12_built_210 ?_
        refine lv_iconst (v := 1) hx hb dX12_built_213 (by decide) ?_
        refine lv_dup2_11 hx hb dX12_built_214 rfl rfl ?_
        refine tk_ialdR hC hK hw hT kM_at12 rfl (by decide) (by decide) dX12_built_215 (fun x163 c164 Ex163 => ?_)
        refine wk_top f76_12_1 (c164.symm.trans c25) ?_
        refine lv_iconst (v := 1) hx hb dX12_built_216 (by decide) ?_
        refine lv_isub hx hb dX12_built_217 ?_
        refine lv_topi (fun x165 ex165 => ?_)
        have ex165 : x165.toInt = f76_12_1.toInt - (1 : Int) := by rw [ex165]; exact wk_sub (show (-2147483648) ≤ f76_12_1.toInt - (1 : Int) by omega) (show f76_12_1.toInt - (1 : Int) ≤ 2147483647 by omega)
        refine tk_iastR hC hK hw hT kM_at12 (by decide) rfl (by decide) (by decide) ((tk_rg1 rfl).mpr ⟨(show 0 ≤ x165.toInt by omega), (show x165.toInt ≤ if (71 : Nat) = 71 then (13 : Int) else 12 from (show x165.toInt ≤ 13 by omega))⟩) dX12_built_218 (fun H locs w166 hw hT k168 c167 => ?_)
        have hT := hT.s1d (show (gi w166 12 1).toInt ≤ 12 by rw [show gi w166 12 1 = x165 from c167]; omega)
        have hF := hF.put kM_at12 (inE_of (a := 1) (b := 1) (by decide) (by decide) (by decide)) k168
        have c169 := k168.gi (Or.inr (by decide)) c22
        have c167 : gi w166 12 1 = x165 := c167
        refine lv_iload_n hx hb dX12_built_219 rfl (lv_at hl 3 rfl) ?_
        refine lv_if_ne (tgt := 228) hx hb dX12_built_220 (by decide) (fun c170 => ?_) (fun c170 => ?_)
        · have c170 : ¬ a3.toInt = (0 : Int) := wk_eqF c170
          refine lv_iload_n hx hb dX12_built_228 rfl (lv_at hl 3 rfl) ?_
          refine lv_iconst (v := 1) hx hb dX12_built_229 (by decide) ?_
          refine lv_icmp_ne (tgt := 238) hx hb dX12_built_230 (by decide) (fun c171 => ?_) (fun c171 => ?_)
          · have c171 : ¬ a3.toInt = (1 : Int) := wk_eqF c171
            refine lv_iload hx hb dX12_built_238 (lv_at hl 7 rfl) ?_
            exact tk_iret hC hr hlocks hK ⟨hT, hF, (Or.inl ⟨(show 1 ≤ a1.toInt by omega), (show a1.toInt ≤ 9 by omega), (show 0 ≤ a2.toInt by omega), (show a2.toInt ≤ 99999 by omega), (show 0 ≤ a3.toInt by omega), (show a3.toInt ≤ 2 by omega), ⟨f76_12_0, c169, (show 1 ≤ f76_12_0.toInt by omega), (show f76_12_0.toInt ≤ 10 by omega)⟩⟩)⟩ hw dX12_built_240
          · have c171 : a3.toInt = (1 : Int) := wk_eq.mp c171
            refine lv_iload hx hb dX12_built_233 (lv_at hl 6 rfl) ?_
            refine lv_goto (tgt := 240) hx hb dX12_built_235 (by decide) ?_
            exact tk_iret hC hr hlocks hK ⟨hT, hF, (Or.inl ⟨(show 1 ≤ a1.toInt by omega), (show a1.toInt ≤ 9 by omega), (show 0 ≤ a2.toInt by omega), (show a2.toInt ≤ 99999 by omega), (show 0 ≤ a3.toInt by omega), (show a3.toInt ≤ 2 by omega), ⟨f76_12_0, c169, (show 1 ≤ f76_12_0.toInt by omega), (show f76_12_0.toInt ≤ 10 by omega)⟩⟩)⟩ hw dX12_built_240
        · have c170 : a3.toInt = (0 : Int) := wk_eq.mp c170
          refine lv_iload hx hb dX12_built_223 (lv_at hl 5 rfl) ?_
          refine lv_goto (tgt := 240) hx hb dX12_built_225 (by decide) ?_
          exact tk_iret hC hr hlocks hK ⟨hT, hF, (Or.inl ⟨(show 1 ≤ a1.toInt by omega), (show a1.toInt ≤ 9 by omega), (show 0 ≤ a2.toInt by omega), (show a2.toInt ≤ 99999 by omega), (show 0 ≤ a3.toInt by omega), (show a3.toInt ≤ 2 by omega), ⟨f76_12_0, c169, (show 1 ≤ f76_12_0.toInt by omega), (show f76_12_0.toInt ≤ 10 by omega)⟩⟩)⟩ hw dX12_built_240
      · have c162 : v76_8.toInt < f76_12_0.toInt := wk_leF c162
        refine lv_iload hx hb dX12_built_87 (lv_at hl 8 rfl) ?_
        refine lv_iconst (v := 1) hx hb dX12_built_89 (by decide) ?_
        refine lv_iadd hx hb dX12_built_90 ?_
        refine lv_topi (fun x172 ex172 => ?_)
        have ex172 : x172.toInt = v76_8.toInt + (1 : Int) := by rw [ex172]; exact wk_add (show (-2147483648) ≤ v76_8.toInt + (1 : Int) by omega) (show v76_8.toInt + (1 : Int) ≤ 2147483647 by omega)
        refine lv_istore (lv' := [(9, .int x172), (0, .ref (ad 0)), (1, .int a1), (2, .int a2), (3, .int a3), (4, .int v76_4), (5, .int v76_5), (6, .int v76_6), (7, .int v76_7), (8, .int v76_8)]) hx hb dX12_built_91 hl (by decide) rfl (fun ls hl => ?_)
        exact L93 ((10 - x172.toInt).toNat + 1) v76_5 v76_6 v76_7 x172 H locs ls w5 (show 1 ≤ a1.toInt by omega) (show a1.toInt ≤ 9 by omega) (show 0 ≤ a2.toInt by omega) (show a2.toInt ≤ 99999 by omega) (show 0 ≤ a3.toInt by omega) (show a3.toInt ≤ 2 by omega) (show 10 ≤ v76_4.toInt by omega) (show v76_4.toInt ≤ 130 by omega) (show (-1) ≤ v76_5.toInt by omega) (show v76_5.toInt ≤ 9 by omega) (show (-1) ≤ v76_6.toInt by omega) (show v76_6.toInt ≤ 9 by omega) (show 0 ≤ v76_8.toInt by omega) (show v76_8.toInt ≤ 9 by omega) (show 1 ≤ x172.toInt by omega) (show x172.toInt ≤ 10 by omega) (show 1 ≤ f76_12_0.toInt by omega) (show f76_12_0.toInt ≤ 10 by omega) (show 1 ≤ f76_12_1.toInt by omega) (show f76_12_1.toInt ≤ 13 by omega) (Nat.lt_succ_self _) hw hT hF c22 c25 (lv_sub hl [1, 2, 3, 4, 5, 6, 7, 8, 9, 0] rfl)
  refine lv_aload_n hx hb dX12_built_0 rfl (lv_at hl 0 rfl) ?_
  refine tk_Vi hC hK hw hT hA hE hSR kM_at0 (by decide) rfl (k_X12_isTown_1 l adK adV dC dI cy ad B (by omega) (by omega) qr s1    w0 s.heap.size hT ) (cwV 0 hC.2.2.2.2 gX12_built_X12_isTown rfl rfl rfl (by decide +kernel) ⟨Nat.le_of_ble_eq_true rfl, Nat.le_of_ble_eq_true rfl⟩) rfl hl.1 rfl (Nat.le_of_ble_eq_true rfl) dX12_built_1 (fun r173 w175 H locs hp174 hw => ?_)
  obtain ⟨rfl, hg181⟩ := hp174
  rcases hg181 with ⟨rfl, ⟨x177, c178, rx177, tx177⟩⟩ | ⟨rfl, ⟨x179, c180, rx179, tx179⟩⟩
  · refine lv_if_eq (tgt := 38) hx hb dX12_built_4 (by decide) (fun _ => ?_) (fun c => absurd (by decide) c)
    exact J38 x177 H locs ls w0 (show 0 ≤ x177.toInt by omega) (show x177.toInt ≤ 10 by omega)  hw hT hF c178 (lv_sub hl [0, 1, 2, 3] rfl)
  · refine lv_if_eq (tgt := 38) hx hb dX12_built_4 (by decide) (fun c => absurd c (by decide)) (fun _ => ?_)
    refine lv_iload_n hx hb dX12_built_7 rfl (lv_at hl 1 rfl) ?_
    refine lv_i2l hx hb dX12_built_8 rfl ?_
    refine lv_topl (fun x182 ex182 => ?_)
    have ex182 : x182.toInt = a1.toInt := by rw [ex182]; exact wk_i2l _
    have bx182 := wk_i32 a1
    refine lv_lconst (v := 1) hx hb dX12_built_9 (by decide) ?_
    refine lv_ldc2 (v := 9) hx hb hC.2.2.2.1 (hC.2.2.2.2 _ (List.mem_of_getElem? (i := 1) rfl)) dX12_built_10 ?_
    refine tk_Si hC hK hw hT hA hE hSR (k_X12_in_7 l adK adV dC dI cy ad B (by omega) (by omega) qr s1   x182 (show (-2147483648) ≤ x182.toInt by omega) (show x182.toInt ≤ 2147483647 by omega) w0 H.size hT ) (va_cwS 3 hC.2.2.2.2 gX12_built_X12_in rfl rfl rfl (by decide +kernel) ⟨Nat.le_of_ble_eq_true rfl, Nat.le_of_ble_eq_true rfl⟩) rfl hl.1 rfl (Nat.le_of_ble_eq_true rfl) dX12_built_13 (fun r183 w185 H locs hp184 hw => ?_)
    obtain ⟨rfl, hg189⟩ := hp184
    rcases hg189 with rfl | ⟨rfl, g187, g188⟩
    · refine lv_if_eq (tgt := 38) hx hb dX12_built_16 (by decide) (fun _ => ?_) (fun c => absurd (by decide) c)
      exact J38 x179 H locs ls w0 (show 0 ≤ x179.toInt by omega) (show x179.toInt ≤ 10 by omega)  hw hT hF c180 (lv_sub hl [0, 1, 2, 3] rfl)
    · refine lv_if_eq (tgt := 38) hx hb dX12_built_16 (by decide) (fun c => absurd c (by decide)) (fun _ => ?_)
      refine lv_iload_n hx hb dX12_built_19 rfl (lv_at hl 2 rfl) ?_
      refine tk_Si hC hK hw hT hA hE hSR (k_X12_isHour_1 l adK adV dC dI cy ad B (by omega) (by omega) qr s1   a2 w0 H.size hT ) (va_cwS 1 hC.2.2.2.2 gX12_built_X12_isHour rfl rfl rfl (by decide +kernel) ⟨Nat.le_of_ble_eq_true rfl, Nat.le_of_ble_eq_true rfl⟩) rfl hl.1 rfl (Nat.le_of_ble_eq_true rfl) dX12_built_20 (fun r190 w192 H locs hp191 hw => ?_)
      obtain ⟨rfl, hg196⟩ := hp191
      rcases hg196 with rfl | ⟨rfl, g194, g195⟩
      · refine lv_if_eq (tgt := 38) hx hb dX12_built_23 (by decide) (fun _ => ?_) (fun c => absurd (by decide) c)
        exact J38 x179 H locs ls w0 (show 0 ≤ x179.toInt by omega) (show x179.toInt ≤ 10 by omega)  hw hT hF c180 (lv_sub hl [0, 1, 2, 3] rfl)
      · refine lv_if_eq (tgt := 38) hx hb dX12_built_23 (by decide) (fun c => absurd c (by decide)) (fun _ => ?_)
        refine lv_iload_n hx hb dX12_built_26 rfl (lv_at hl 3 rfl) ?_
        refine lv_i2l hx hb dX12_built_27 rfl ?_
        refine lv_topl (fun x197 ex197 => ?_)
        have ex197 : x197.toInt = a3.toInt := by rw [ex197]; exact wk_i2l _
        have bx197 := wk_i32 a3
        refine lv_lconst (v := 0) hx hb dX12_built_28 (by decide) ?_
        refine lv_ldc2 (v := 2) hx hb hC.2.2.2.1 (hC.2.2.2.2 _ (List.mem_of_getElem? (i := 2) rfl)) dX12_built_29 ?_
        refine tk_Si hC hK hw hT hA hE hSR (k_X12_in_15 l adK adV dC dI cy ad B (by omega) (by omega) qr s1   x197 (show (-2147483648) ≤ x197.toInt by omega) (show x197.toInt ≤ 2147483647 by omega) w0 H.size hT ) (va_cwS 3 hC.2.2.2.2 gX12_built_X12_in rfl rfl rfl (by decide +kernel) ⟨Nat.le_of_ble_eq_true rfl, Nat.le_of_ble_eq_true rfl⟩) rfl hl.1 rfl (Nat.le_of_ble_eq_true rfl) dX12_built_32 (fun r198 w200 H locs hp199 hw => ?_)
        obtain ⟨rfl, hg204⟩ := hp199
        rcases hg204 with rfl | ⟨rfl, g202, g203⟩
        · refine lv_if_ne (tgt := 40) hx hb dX12_built_35 (by decide) (fun c => absurd (by decide) c) (fun _ => ?_)
          exact J38 x179 H locs ls w0 (show 0 ≤ x179.toInt by omega) (show x179.toInt ≤ 10 by omega)  hw hT hF c180 (lv_sub hl [0, 1, 2, 3] rfl)
        · refine lv_if_ne (tgt := 40) hx hb dX12_built_35 (by decide) (fun _ => ?_) (fun c => absurd c (by decide))
          refine lv_bipush (v := 10) hx hb dX12_built_40 (by decide) ?_
          refine lv_bipush (v := 10) hx hb dX12_built_42 (by decide) ?_
          refine lv_aload_n hx hb dX12_built_44 rfl (lv_at hl 0 rfl) ?_
          refine tk_getA hC hK hw hT hinX12 kM_at0 (by decide) rfl 26 (by decide) (List.mem_of_getElem? (i := 3) rfl) rfl rfl dX12_built_45 ?_
          refine lv_iconst (v := 1) hx hb dX12_built_48 (by decide) ?_
          refine tk_ialdR hC hK hw hT kM_at12 rfl (by decide) (by decide) dX12_built_49 (fun x205 c206 Ex205 => ?_)
          have bx205 : 0 ≤ x205.toInt ∧ x205.toInt ≤ 12 := (tk_rg1 rfl).mp Ex205
          have c206 : gi w0 12 1 = x205 := c206
          refine lv_imul hx hb dX12_built_50 ?_
          refine lv_topi (fun x207 ex207 => ?_)
          have ex207 : x207.toInt = (10 : Int) * x205.toInt := by rw [ex207]; exact wk_mul (show (-2147483648) ≤ (10 : Int) * x205.toInt by omega) (show (10 : Int) * x205.toInt ≤ 2147483647 by omega)
          refine lv_iadd hx hb dX12_built_51 ?_
          refine lv_topi (fun x208 ex208 => ?_)
          have ex208 : x208.toInt = (10 : Int) + x207.toInt := by rw [ex208]; exact wk_add (show (-2147483648) ≤ (10 : Int) + x207.toInt by omega) (show (10 : Int) + x207.toInt ≤ 2147483647 by omega)
          refine lv_istore (lv' := [(4, .int x208), (0, .ref (ad 0)), (1, .int a1), (2, .int a2), (3, .int a3)]) hx hb dX12_built_52 hl (by decide) rfl (fun ls hl => ?_)
          refine lv_aload_n hx hb dX12_built_54 rfl (lv_at hl 1 rfl) ?_
          refine tk_getA hC hK hw hT hinX12 kM_at0 (by decide) rfl 26 (by decide) (List.mem_of_getElem? (i := 3) rfl) rfl rfl dX12_built_55 ?_
          refine lv_iconst (v := 1) hx hb dX12_built_58 (by decide) ?_
          refine lv_dup2_11 hx hb dX12_built_59 rfl rfl ?_
          refine tk_ialdR hC hK hw hT kM_at12 rfl (by decide) (by decide) dX12_built_60 (fun x209 c210 Ex209 => ?_)
          refine wk_top x205 (c210.symm.trans c206) ?_
          refine lv_iconst (v := 1) hx hb dX12_built_61 (by decide) ?_
          refine lv_iadd hx hb dX12_built_62 ?_
          refine lv_topi (fun x211 ex211 => ?_)
          have ex211 : x211.toInt = x205.toInt + (1 : Int) := by rw [ex211]; exact wk_add (show (-2147483648) ≤ x205.toInt + (1 : Int) by omega) (show x205.toInt + (1 : Int) ≤ 2147483647 by omega)
          have hT := hT.s1 (s2 := 13) (by decide)
          refine tk_iastR hC hK hw hT kM_at12 (by decide) rfl (by decide) (by decide) ((tk_rg1 rfl).mpr ⟨(show 0 ≤ x211.toInt by omega), (show x211.toInt ≤ if (71 : Nat) = 71 then (13 : Int) else 12 from (show x211.toInt ≤ 13 by omega))⟩) dX12_built_63 (fun H locs w212 hw hT k214 c213 => ?_)
          have hF := hF.put kM_at12 (inE_of (a := 1) (b := 1) (by decide) (by decide) (by decide)) k214
          have c215 := k214.gi (Or.inr (by decide)) c180
          have c213 : gi w212 12 1 = x211 := c213
          refine lv_iconst (v := (-1)) hx hb dX12_built_64 (by decide) ?_
          refine lv_istore (lv' := [(5, .int (-1)), (4, .int x208), (0, .ref (ad 0)), (1, .int a1), (2, .int a2), (3, .int a3)]) hx hb dX12_built_65 hl (by decide) rfl (fun ls hl => ?_)
          refine lv_iconst (v := (-1)) hx hb dX12_built_67 (by decide) ?_
          refine lv_istore (lv' := [(6, .int (-1)), (5, .int (-1)), (4, .int x208), (0, .ref (ad 0)), (1, .int a1), (2, .int a2), (3, .int a3)]) hx hb dX12_built_68 hl (by decide) rfl (fun ls hl => ?_)
          refine lv_iconst (v := 0) hx hb dX12_built_70 (by decide) ?_
          refine lv_istore (lv' := [(7, .int 0), (6, .int (-1)), (5, .int (-1)), (4, .int x208), (0, .ref (ad 0)), (1, .int a1), (2, .int a2), (3, .int a3)]) hx hb dX12_built_71 hl (by decide) rfl (fun ls hl => ?_)
          refine lv_iconst (v := 0) hx hb dX12_built_73 (by decide) ?_
          refine lv_istore (lv' := [(8, .int 0), (7, .int 0), (6, .int (-1)), (5, .int (-1)), (4, .int x208), (0, .ref (ad 0)), (1, .int a1), (2, .int a2), (3, .int a3)]) hx hb dX12_built_74 hl (by decide) rfl (fun ls hl => ?_)
          exact L76 ((10 - (0 : Int)).toNat + 1) x208 (-1) (-1) 0 0 x179 x211 H locs ls w212 (show 1 ≤ a1.toInt by omega) (show a1.toInt ≤ 9 by omega) (show 0 ≤ a2.toInt by omega) (show a2.toInt ≤ 99999 by omega) (show 0 ≤ a3.toInt by omega) (show a3.toInt ≤ 2 by omega) (show 10 ≤ x208.toInt by omega) (show x208.toInt ≤ 130 by omega) (by decide) (by decide) (by decide) (by decide) (by decide) (by decide) (show 1 ≤ x179.toInt by omega) (show x179.toInt ≤ 10 by omega) (show 1 ≤ x211.toInt by omega) (show x211.toInt ≤ 13 by omega) (Nat.lt_succ_self _) hw hT hF c215 c213 (lv_sub hl [5, 6, 7, 8, 4, 3, 2, 1, 0] rfl)
abbrev P_X12_seed_1 (ad : Nat → Nat) (cy : Nat → ClassId) (B : Int) (qr : Nat) (s1 : Int) (a1 : Int32) (w0 : va_W) : Int32 → va_W → Prop := fun r u => TW ksM ad cy B qr 12 u ∧ FE ksM [(71, 9, 9)] w0 u ∧ ((0 ≤ r.toInt ∧ 0 ≤ a1.toInt) ∨ (r = (-1) ∧ a1.toInt ≤ (-1)))
set_option maxHeartbeats 4000000 in
set_option maxRecDepth 100000 in
theorem k_X12_seed_1 (l : Launch) (adK adV : Nat → Nat) (dC : Nat → ClassId) (dI : Nat → Nat → Nat) (cy : Nat → ClassId) (ad : Nat → Nat) (B : Int) (hB0 : 100000 ≤ B) (hB1 : B ≤ 1073741824) (qr : Nat) (s1 : Int)  (a1 : Int32) (w0 : va_W) (sz : Nat) (hT : TW ksM ad cy B qr 12 w0)  : Met l yX12_seed wsX12_seed ({ frames := 1, cells := 0, slots := 0, locals := 12 }) (va_Pc [.ref (ad 0), .int a1] (wpreS adK adV dC dI cy sz w0)) (va_Qi (P_X12_seed_1 ad cy B qr s1 a1 w0) (fun u : va_W => wpost dC dI cy (va_A w0 sz) u) (va_A w0 sz)) 0 0 (va_A w0 sz) := by
  refine Met.ofW (cc := cX12_seed) (maxL := 3) (ret := (some .int)) (by decide) rfl ?_
  intro p e s m args below meth c s₁ Bk hml hv
  obtain ⟨rfl, ⟨hsz, hP, hK, hD0⟩, hE, hSR⟩ := hv
  have hx := Bk.exec
  have hb := Bk.bytes
  have hr := Bk.returns
  have hlocks := Bk.notSynchronized
  have hC : CallFix p m c cX12_seed 3 s _ wsX12_seed RX12 := ⟨hx, hb, hml, findClass_of_methodNamed Bk.named, atoms_spec (ws := wsX12_seed) Bk.pre⟩
  subst hsz
  have hD := hD0.self (sz := s.heap.size)
  generalize hAe : va_A w0 s.heap.size = A at hD hE ⊢
  have hA : ∀ q : Nat, s.heap.size ≤ q → A q := fun q h => by rw [← hAe]; exact Or.inr h
  have hw : Wd dC dI A s.heap s.heap [] w0 := ⟨hP, hD, va_S.rf⟩
  have hF : FE ksM [(71, 9, 9)] w0 w0 := FE.rf
  have hl := lv_entry ([.ref (ad 0), .int a1]) (n := 3) (Nat.le_of_ble_eq_true rfl)
  rw [lg_entry_eq]
  generalize (lg_sl ([.ref (ad 0), .int a1]) ++ List.replicate (3 - (lg_sl ([.ref (ad 0), .int a1])).length) Slot.unset).toArray = ls at hl ⊢
  have hl : lv_has ls 3 [(0, .ref (ad 0)), (1, .int a1)] := hl
  generalize hloc : ([] : List Loc) = locs at hw ⊢
  have hinX12 : ∀ w ∈ u_ws RX12 TX12 42, w ∈ wsX12_seed := fun _ h => List.mem_cons_of_mem _ (List.mem_append_right _ (h))
  refine lv_iload_n hx hb dX12_seed_0 rfl (lv_at hl 1 rfl) ?_
  refine lv_if_ge (tgt := 6) hx hb dX12_seed_1 (by decide) (fun c1 => ?_) (fun c1 => ?_)
  · have c1 : (0 : Int) ≤ a1.toInt := wk_le.mp c1
    refine lv_aload_n hx hb dX12_seed_6 rfl (lv_at hl 0 rfl) ?_
    refine tk_getA hC hK hw hT hinX12 kM_at0 (by decide) rfl 26 (by decide) (List.mem_of_getElem? (i := 1) rfl) rfl rfl dX12_seed_7 ?_
    refine lv_bipush (v := 9) hx hb dX12_seed_10 (by decide) ?_
    refine tk_ialdR hC hK hw hT kM_at12 rfl (by decide) (by decide) dX12_seed_12 (fun x2 c3 Ex2 => ?_)
    have bx2 := tk_rgI rfl 9 1 1 0 2147483647 (by decide +kernel) ⟨0, by decide, by decide⟩ Ex2
    have c3 : gi w0 12 9 = x2 := c3
    refine lv_istore_n (lv' := [(2, .int x2), (0, .ref (ad 0)), (1, .int a1)]) hx hb dX12_seed_13 rfl hl (by decide) rfl (fun ls hl => ?_)
    refine lv_aload_n hx hb dX12_seed_14 rfl (lv_at hl 1 rfl) ?_
    refine tk_getA hC hK hw hT hinX12 kM_at0 (by decide) rfl 26 (by decide) (List.mem_of_getElem? (i := 1) rfl) rfl rfl dX12_seed_15 ?_
    refine lv_bipush (v := 9) hx hb dX12_seed_18 (by decide) ?_
    refine lv_iload_n hx hb dX12_seed_20 rfl (lv_at hl 2 rfl) ?_
    refine tk_iastR hC hK hw hT kM_at12 (by decide) rfl (by decide) (by decide) (tk_rgS rfl 9 1 1 0 2147483647 (by decide +kernel) ⟨0, by decide, by decide⟩ (show 0 ≤ a1.toInt by omega) (wk_i32 a1).2) dX12_seed_21 (fun H locs w4 hw hT k6 c5 => ?_)
    have hF := hF.put kM_at12 (inE_of (a := 9) (b := 9) (by decide) (by decide) (by decide)) k6
    have c5 : gi w4 12 9 = a1 := c5
    refine lv_iload_n hx hb dX12_seed_22 rfl (lv_at hl 0 rfl) ?_
    exact tk_iret hC hr hlocks hK ⟨hT, hF, (Or.inl ⟨(show 0 ≤ x2.toInt by omega), (show 0 ≤ a1.toInt by omega)⟩)⟩ hw dX12_seed_23
  · have c1 : a1.toInt < (0 : Int) := wk_leF c1
    refine lv_iconst (v := (-1)) hx hb dX12_seed_4 (by decide) ?_
    exact tk_iret hC hr hlocks hK ⟨hT, hF, (Or.inr ⟨rfl, (show a1.toInt ≤ (-1) by omega)⟩)⟩ hw dX12_seed_5
