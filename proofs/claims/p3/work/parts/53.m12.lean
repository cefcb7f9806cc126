abbrev P_X12_firstOpen_4 (ad : Nat → Nat) (cy : Nat → ClassId) (B : Int) (qr : Nat) (s1 : Int) (a1 : Int32) (a2 : Int32) (a3 : Int32) (a4 : Int32) (w0 : va_W) : Int32 → va_W → Prop := fun r u => w0 = u ∧ ((0 ≤ r.toInt ∧ r.toInt ≤ 100000000) ∨ (0 ≤ r.toInt ∧ r.toInt ≤ 101999 ∧ gi u 12 (10 * a1.toInt + 10).toNat = a2))
set_option maxHeartbeats 4000000 in
set_option maxRecDepth 100000 in
theorem k_X12_firstOpen_4 (l : Launch) (adK adV : Nat → Nat) (dC : Nat → ClassId) (dI : Nat → Nat → Nat) (cy : Nat → ClassId) (ad : Nat → Nat) (B : Int) (hB0 : 100000 ≤ B) (hB1 : B ≤ 1073741824) (qr : Nat) (s1 : Int)  (a1 : Int32) (ra1 : 0 ≤ a1.toInt) (ta1 : a1.toInt ≤ 12) (a2 : Int32) (ra2 : 0 ≤ a2.toInt) (ta2 : a2.toInt ≤ 9) (a3 : Int32) (ra3 : 0 ≤ a3.toInt) (ta3 : a3.toInt ≤ 100000100) (a4 : Int32) (ra4 : 2000 ≤ a4.toInt) (ta4 : a4.toInt ≤ 101999) (w0 : va_W) (sz : Nat) (hT : TW ksM ad cy B qr 13 w0)  : Met l yX12_firstOpen wsX12_firstOpen ({ frames := 4, cells := 0, slots := 0, locals := 80 }) (va_Pc [.ref (ad 0), .int a1, .int a2, .int a3, .int a4] (wpreS adK adV dC dI cy sz w0)) (va_Qi (P_X12_firstOpen_4 ad cy B qr s1 a1 a2 a3 a4 w0) (fun u : va_W => wpost dC dI cy (va_A w0 sz) u) (va_A w0 sz)) 0 0 (va_A w0 sz) := by
  refine Met.ofW (cc := cX12_firstOpen) (maxL := 6) (ret := (some .int)) (by decide) rfl ?_
  intro p e s m args below meth c s₁ Bk hml hv
  obtain ⟨rfl, ⟨hsz, hP, hK, hD0⟩, hE, hSR⟩ := hv
  have hx := Bk.exec
  have hb := Bk.bytes
  have hr := Bk.returns
  have hlocks := Bk.notSynchronized
  have hC : CallFix p m c cX12_firstOpen 6 s _ wsX12_firstOpen RX12 := ⟨hx, hb, hml, findClass_of_methodNamed Bk.named, atoms_spec (ws := wsX12_firstOpen) Bk.pre⟩
  subst hsz
  have hD := hD0.self (sz := s.heap.size)
  generalize hAe : va_A w0 s.heap.size = A at hD hE ⊢
  have hA : ∀ q : Nat, s.heap.size ≤ q → A q := fun q h => by rw [← hAe]; exact Or.inr h
  have hw : Wd dC dI A s.heap s.heap [] w0 := ⟨hP, hD, va_S.rf⟩
  have hF : FE ksM ([] : List (Nat × Nat × Nat)) w0 w0 := FE.rf
  have hl := lv_entry ([.ref (ad 0), .int a1, .int a2, .int a3, .int a4]) (n := 6) (Nat.le_of_ble_eq_true rfl)
  rw [lg_entry_eq]
  generalize (lg_sl ([.ref (ad 0), .int a1, .int a2, .int a3, .int a4]) ++ List.replicate (6 - (lg_sl ([.ref (ad 0), .int a1, .int a2, .int a3, .int a4])).length) Slot.unset).toArray = ls at hl ⊢
  have hl : lv_has ls 6 [(0, .ref (ad 0)), (1, .int a1), (2, .int a2), (3, .int a3), (4, .int a4)] := hl
  generalize hloc : ([] : List Loc) = locs at hw ⊢
  have L3 : ∀ (n3 : Nat) (v3_5 : Int32) (H : Heap) (locs : List Loc) (ls : Array Slot), 0 ≤ a1.toInt → a1.toInt ≤ 12 → 0 ≤ a2.toInt → a2.toInt ≤ 9 → 0 ≤ a3.toInt → a3.toInt ≤ 100000100 → 2000 ≤ a4.toInt → a4.toInt ≤ 101999 → 0 ≤ v3_5.toInt → v3_5.toInt ≤ 100000100 → (100000100 - v3_5.toInt).toNat < n3 → Wd dC dI A s.heap H locs w0 → lv_has ls 6 [(0, .ref (ad 0)), (1, .int a1), (2, .int a2), (3, .int a3), (4, .int a4), (5, .int v3_5)] → W p l e ({ frames := 4, cells := 0, slots := 0, locals := 80 }) s m (List.toArray [.ref (ad 0), .int a1, .int a2, .int a3, .int a4]) below meth c H locs 0 0 (MQ below (va_Qi (P_X12_firstOpen_4 ad cy B qr s1 a1 a2 a3 a4 w0) (fun u : va_W => wpost dC dI cy A u) A) (List.toArray [.ref (ad 0), .int a1, .int a2, .int a3, .int a4]) s 0 0 A) (F0 m 3 ls []) := by
    intro n3
    induction n3 with
    | zero => intro v3_5 H locs ls r1 t2 r3 t4 r5 t6 r7 t8 r9 t10 hm3 hw hl; omega
    | succ n3 ih3 =>
      intro v3_5 H locs ls r1 t2 r3 t4 r5 t6 r7 t8 r9 t10 hm3 hw hl
      refine lv_iload hx hb dX12_firstOpen_3 (lv_at hl 5 rfl) ?_
      refine lv_iload hx hb dX12_firstOpen_5 (lv_at hl 4 rfl) ?_
      refine lv_icmp_gt (tgt := 58) hx hb dX12_firstOpen_7 (by decide) (fun c11 => ?_) (fun c11 => ?_)
      · have c11 : a4.toInt < v3_5.toInt := wk_lt.mp c11
        refine lv_ldcw (v := 100000000) hx hb hC.2.2.2.1 (hC.2.2.2.2 _ (List.mem_of_getElem? (i := 1) rfl)) dX12_firstOpen_58 ?_
        exact tk_iret hC hr hlocks hK ⟨rfl, (Or.inl ⟨(by decide), (by decide)⟩)⟩ hw dX12_firstOpen_61
      · have c11 : v3_5.toInt ≤ a4.toInt := wk_ltF c11
        refine lv_aload_n hx hb dX12_firstOpen_10 rfl (lv_at hl 0 rfl) ?_
        refine lv_iload_n hx hb dX12_firstOpen_11 rfl (lv_at hl 1 rfl) ?_
        refine lv_iload_n hx hb dX12_firstOpen_12 rfl (lv_at hl 2 rfl) ?_
        refine lv_iload hx hb dX12_firstOpen_13 (lv_at hl 5 rfl) ?_
        refine lv_bipush (v := 24) hx hb dX12_firstOpen_15 (by decide) ?_
        refine lv_idiv hx hb dX12_firstOpen_17 (by decide) ?_
        refine lv_topi (fun x12 ex12 => ?_)
        have ex12 : x12.toInt = v3_5.toInt / (24 : Int) := by rw [ex12]; exact wk_div (show 0 ≤ v3_5.toInt by omega) (show 0 < (24 : Int) by decide)
        refine tk_Vi hC hK hw hT hA hE hSR kM_at0 (by decide) rfl (k_X12_isDayFor_6 l adK adV dC dI cy ad B (by omega) (by omega) qr s1   a1 (show 0 ≤ a1.toInt by omega) (show a1.toInt ≤ 12 by omega) a2 (show 0 ≤ a2.toInt by omega) (show a2.toInt ≤ 9 by omega) x12 (show 0 ≤ x12.toInt by omega) (show x12.toInt ≤ 4249 by omega) w0 H.size hT ) (cwV 3 hC.2.2.2.2 gX12_firstOpen_X12_isDayFor rfl rfl rfl (by decide +kernel) ⟨Nat.le_of_ble_eq_true rfl, Nat.le_of_ble_eq_true rfl⟩) rfl hl.1 rfl (Nat.le_of_ble_eq_true rfl) dX12_firstOpen_18 (fun r13 w15 H locs hp14 hw => ?_)
        obtain ⟨rfl, hg23⟩ := hp14
        rcases hg23 with ⟨rfl, hq17⟩ | ⟨rfl, c18, hq19⟩ | ⟨rfl, hq20⟩ | ⟨rfl, c21, hq22⟩
        · refine lv_if_ne (tgt := 39) hx hb dX12_firstOpen_21 (by decide) (fun c => absurd (by decide) c) (fun _ => ?_)
          refine lv_iload hx hb dX12_firstOpen_24 (lv_at hl 5 rfl) ?_
          refine lv_bipush (v := 24) hx hb dX12_firstOpen_26 (by decide) ?_
          refine lv_idiv hx hb dX12_firstOpen_28 (by decide) ?_
          refine lv_topi (fun x24 ex24 => ?_)
          have ex24 : x24.toInt = v3_5.toInt / (24 : Int) := by rw [ex24]; exact wk_div (show 0 ≤ v3_5.toInt by omega) (show 0 < (24 : Int) by decide)
          refine lv_iconst (v := 1) hx hb dX12_firstOpen_29 (by decide) ?_
          refine lv_iadd hx hb dX12_firstOpen_30 ?_
          refine lv_topi (fun x25 ex25 => ?_)
          have ex25 : x25.toInt = x24.toInt + (1 : Int) := by rw [ex25]; exact wk_add (show (-2147483648) ≤ x24.toInt + (1 : Int) by omega) (show x24.toInt + (1 : Int) ≤ 2147483647 by omega)
          refine lv_bipush (v := 24) hx hb dX12_firstOpen_31 (by decide) ?_
          refine lv_imul hx hb dX12_firstOpen_33 ?_
          refine lv_topi (fun x26 ex26 => ?_)
          have ex26 : x26.toInt = x25.toInt * (24 : Int) := by rw [ex26]; exact wk_mul (show (-2147483648) ≤ x25.toInt * (24 : Int) by omega) (show x25.toInt * (24 : Int) ≤ 2147483647 by omega)
          refine lv_istore (lv' := [(5, .int x26), (0, .ref (ad 0)), (1, .int a1), (2, .int a2), (3, .int a3), (4, .int a4)]) hx hb dX12_firstOpen_34 hl (by decide) rfl (fun ls hl => ?_)
          refine lv_goto (tgt := 3) hx hb dX12_firstOpen_36 (by decide) ?_
          exact ih3 x26 H locs ls  (show 0 ≤ a1.toInt by omega) (show a1.toInt ≤ 12 by omega) (show 0 ≤ a2.toInt by omega) (show a2.toInt ≤ 9 by omega) (show 0 ≤ a3.toInt by omega) (show a3.toInt ≤ 100000100 by omega) (show 2000 ≤ a4.toInt by omega) (show a4.toInt ≤ 101999 by omega) (show 0 ≤ x26.toInt by omega) (show x26.toInt ≤ 100000100 by omega) (show (100000100 - x26.toInt).toNat < n3 by omega) hw   (lv_sub hl [1, 2, 3, 4, 5, 0] rfl)
        · refine lv_if_ne (tgt := 39) hx hb dX12_firstOpen_21 (by decide) (fun c => absurd (by decide) c) (fun _ => ?_)
          refine lv_iload hx hb dX12_firstOpen_24 (lv_at hl 5 rfl) ?_
          refine lv_bipush (v := 24) hx hb dX12_firstOpen_26 (by decide) ?_
          refine lv_idiv hx hb dX12_firstOpen_28 (by decide) ?_
          refine lv_topi (fun x27 ex27 => ?_)
          have ex27 : x27.toInt = v3_5.toInt / (24 : Int) := by rw [ex27]; exact wk_div (show 0 ≤ v3_5.toInt by omega) (show 0 < (24 : Int) by decide)
          refine lv_iconst (v := 1) hx hb dX12_firstOpen_29 (by decide) ?_
          refine lv_iadd hx hb dX12_firstOpen_30 ?_
          refine lv_topi (fun x28 ex28 => ?_)
          have ex28 : x28.toInt = x27.toInt + (1 : Int) := by rw [ex28]; exact wk_add (show (-2147483648) ≤ x27.toInt + (1 : Int) by omega) (show x27.toInt + (1 : Int) ≤ 2147483647 by omega)
          refine lv_bipush (v := 24) hx hb dX12_firstOpen_31 (by decide) ?_
          refine lv_imul hx hb dX12_firstOpen_33 ?_
          refine lv_topi (fun x29 ex29 => ?_)
          have ex29 : x29.toInt = x28.toInt * (24 : Int) := by rw [ex29]; exact wk_mul (show (-2147483648) ≤ x28.toInt * (24 : Int) by omega) (show x28.toInt * (24 : Int) ≤ 2147483647 by omega)
          refine lv_istore (lv' := [(5, .int x29), (0, .ref (ad 0)), (1, .int a1), (2, .int a2), (3, .int a3), (4, .int a4)]) hx hb dX12_firstOpen_34 hl (by decide) rfl (fun ls hl => ?_)
          refine lv_goto (tgt := 3) hx hb dX12_firstOpen_36 (by decide) ?_
          exact ih3 x29 H locs ls  (show 0 ≤ a1.toInt by omega) (show a1.toInt ≤ 12 by omega) (show 0 ≤ a2.toInt by omega) (show a2.toInt ≤ 9 by omega) (show 0 ≤ a3.toInt by omega) (show a3.toInt ≤ 100000100 by omega) (show 2000 ≤ a4.toInt by omega) (show a4.toInt ≤ 101999 by omega) (show 0 ≤ x29.toInt by omega) (show x29.toInt ≤ 100000100 by omega) (show (100000100 - x29.toInt).toNat < n3 by omega) hw   (lv_sub hl [1, 2, 3, 4, 5, 0] rfl)
        · refine lv_if_ne (tgt := 39) hx hb dX12_firstOpen_21 (by decide) (fun _ => ?_) (fun c => absurd c (by decide))
          refine lv_aload_n hx hb dX12_firstOpen_39 rfl (lv_at hl 0 rfl) ?_
          refine lv_iload_n hx hb dX12_firstOpen_40 rfl (lv_at hl 1 rfl) ?_
          refine lv_iload hx hb dX12_firstOpen_41 (lv_at hl 5 rfl) ?_
          refine tk_Vi hC hK hw hT hA hE hSR kM_at0 (by decide) rfl (k_X12_isLifted_6 l adK adV dC dI cy ad B (by omega) (by omega) qr s1   a1 (show 0 ≤ a1.toInt by omega) (show a1.toInt ≤ 12 by omega) v3_5 (show 0 ≤ v3_5.toInt by omega) (show v3_5.toInt ≤ 101999 by omega) w0 H.size hT ) (cwV 2 hC.2.2.2.2 gX12_firstOpen_X12_isLifted rfl rfl rfl (by decide +kernel) ⟨Nat.le_of_ble_eq_true rfl, Nat.le_of_ble_eq_true rfl⟩) rfl hl.1 rfl (Nat.le_of_ble_eq_true rfl) dX12_firstOpen_43 (fun r30 w32 H locs hp31 hw => ?_)
          obtain ⟨rfl, hg38⟩ := hp31
          rcases hg38 with ⟨rfl, hq34⟩ | ⟨rfl, ⟨x35, c36, rx35, tx35⟩, hq37⟩
          · refine lv_if_eq (tgt := 55) hx hb dX12_firstOpen_46 (by decide) (fun _ => ?_) (fun c => absurd (by decide) c)
            refine lv_iload hx hb dX12_firstOpen_55 (lv_at hl 5 rfl) ?_
            exact tk_iret hC hr hlocks hK ⟨rfl, (Or.inl ⟨(show 0 ≤ v3_5.toInt by omega), (show v3_5.toInt ≤ 100000000 by omega)⟩)⟩ hw dX12_firstOpen_57
          · refine lv_if_eq (tgt := 55) hx hb dX12_firstOpen_46 (by decide) (fun c => absurd c (by decide)) (fun _ => ?_)
            obtain ⟨x39, ex39⟩ : ∃ y : Int32, y = v3_5 + Int32.ofInt 1 := ⟨_, rfl⟩
            refine lv_iinc (v := x39) (lv' := [(5, .int x39), (0, .ref (ad 0)), (1, .int a1), (2, .int a2), (3, .int a3), (4, .int a4)]) hx hb dX12_firstOpen_49 hl (k := 5) rfl ex39.symm (by decide) rfl (fun ls hl => ?_)
            have ex39 : x39.toInt = v3_5.toInt + 1 := by rw [ex39]; exact wk_add (y := 1) (show -2147483648 ≤ v3_5.toInt + 1 by omega) (show v3_5.toInt + 1 ≤ 2147483647 by omega)
            refine lv_goto (tgt := 3) hx hb dX12_firstOpen_52 (by decide) ?_
            exact ih3 x39 H locs ls  (show 0 ≤ a1.toInt by omega) (show a1.toInt ≤ 12 by omega) (show 0 ≤ a2.toInt by omega) (show a2.toInt ≤ 9 by omega) (show 0 ≤ a3.toInt by omega) (show a3.toInt ≤ 100000100 by omega) (show 2000 ≤ a4.toInt by omega) (show a4.toInt ≤ 101999 by omega) (show 0 ≤ x39.toInt by omega) (show x39.toInt ≤ 100000100 by omega) (show (100000100 - x39.toInt).toNat < n3 by omega) hw   (lv_sub hl [1, 2, 3, 4, 5, 0] rfl)
        · refine lv_if_ne (tgt := 39) hx hb dX12_firstOpen_21 (by decide) (fun _ => ?_) (fun c => absurd c (by decide))
          refine lv_aload_n hx hb dX12_firstOpen_39 rfl (lv_at hl 0 rfl) ?_
          refine lv_iload_n hx hb dX12_firstOpen_40 rfl (lv_at hl 1 rfl) ?_
          refine lv_iload hx hb dX12_firstOpen_41 (lv_at hl 5 rfl) ?_
          refine tk_Vi hC hK hw hT hA hE hSR kM_at0 (by decide) rfl (k_X12_isLifted_6 l adK adV dC dI cy ad B (by omega) (by omega) qr s1   a1 (show 0 ≤ a1.toInt by omega) (show a1.toInt ≤ 12 by omega) v3_5 (show 0 ≤ v3_5.toInt by omega) (show v3_5.toInt ≤ 101999 by omega) w0 H.size hT ) (cwV 2 hC.2.2.2.2 gX12_firstOpen_X12_isLifted rfl rfl rfl (by decide +kernel) ⟨Nat.le_of_ble_eq_true rfl, Nat.le_of_ble_eq_true rfl⟩) rfl hl.1 rfl (Nat.le_of_ble_eq_true rfl) dX12_firstOpen_43 (fun r40 w42 H locs hp41 hw => ?_)
          obtain ⟨rfl, hg48⟩ := hp41
          rcases hg48 with ⟨rfl, hq44⟩ | ⟨rfl, ⟨x45, c46, rx45, tx45⟩, hq47⟩
          · refine lv_if_eq (tgt := 55) hx hb dX12_firstOpen_46 (by decide) (fun _ => ?_) (fun c => absurd (by decide) c)
            refine lv_iload hx hb dX12_firstOpen_55 (lv_at hl 5 rfl) ?_
            exact tk_iret hC hr hlocks hK ⟨rfl, (Or.inr ⟨(show 0 ≤ v3_5.toInt by omega), (show v3_5.toInt ≤ 101999 by omega), c21⟩)⟩ hw dX12_firstOpen_57
          · refine lv_if_eq (tgt := 55) hx hb dX12_firstOpen_46 (by decide) (fun c => absurd c (by decide)) (fun _ => ?_)
            obtain ⟨x49, ex49⟩ : ∃ y : Int32, y = v3_5 + Int32.ofInt 1 := ⟨_, rfl⟩
            refine lv_iinc (v := x49) (lv' := [(5, .int x49), (0, .ref (ad 0)), (1, .int a1), (2, .int a2), (3, .int a3), (4, .int a4)]) hx hb dX12_firstOpen_49 hl (k := 5) rfl ex49.symm (by decide) rfl (fun ls hl => ?_)
            have ex49 : x49.toInt = v3_5.toInt + 1 := by rw [ex49]; exact wk_add (y := 1) (show -2147483648 ≤ v3_5.toInt + 1 by omega) (show v3_5.toInt + 1 ≤ 2147483647 by omega)
            refine lv_goto (tgt := 3) hx hb dX12_firstOpen_52 (by decide) ?_
            exact ih3 x49 H locs ls  (show 0 ≤ a1.toInt by omega) (show a1.toInt ≤ 12 by omega) (show 0 ≤ a2.toInt by omega) (show a2.toInt ≤ 9 by omega) (show 0 ≤ a3.toInt by omega) (show a3.toInt ≤ 100000100 by omega) (show 2000 ≤ a4.toInt by omega) (show a4.toInt ≤ 101999 by omega) (show 0 ≤ x49.toInt by omega) (show x49.toInt ≤ 100000100 by omega) (show (100000100 - x49.toInt).toNat < n3 by omega) hw   (lv_sub hl [1, 2, 3, 4, 5, 0] rfl)
  refine lv_iload_n hx hb dX12_firstOpen_0 rfl (lv_at hl 3 rfl) ?_
  refine lv_istore (lv' := [(5, .int a3), (0, .ref (ad 0)), (1, .int a1), (2, .int a2), (3, .int a3), (4, .int a4)]) hx hb dX12_firstOpen_1 hl (by decide) rfl (fun ls hl => ?_)
  exact L3 ((100000100 - a3.toInt).toNat + 1) a3 s.heap locs ls  (show 0 ≤ a1.toInt by omega) (show a1.toInt ≤ 12 by omega) (show 0 ≤ a2.toInt by omega) (show a2.toInt ≤ 9 by omega) (show 0 ≤ a3.toInt by omega) (show a3.toInt ≤ 100000100 by omega) (show 2000 ≤ a4.toInt by omega) (show a4.toInt ≤ 101999 by omega) (show 0 ≤ a3.toInt by omega) (show a3.toInt ≤ 100000100 by omega) (Nat.lt_succ_self _) hw   (lv_sub hl [1, 2, 3, 4, 5, 0] rfl)
abbrev P_X12_isAt_3 (ad : Nat → Nat) (cy : Nat → ClassId) (B : Int) (qr : Nat) (s1 : Int) (a1 : Int32) (a2 : Int32) (w0 : va_W) : Int32 → va_W → Prop := fun r u => w0 = u ∧ ((r = 0 ∧ (¬ mAt w0 a1.toInt a2.toInt)) ∨ (r = 1 ∧ gi u 12 (10 * a1.toInt + 10).toNat = a2 ∧ (mAt w0 a1.toInt a2.toInt)) ∨ (r = 1 ∧ gi u 12 (10 * a1.toInt + 11).toNat = a2 ∧ (mAt w0 a1.toInt a2.toInt)))
set_option maxHeartbeats 4000000 in
set_option maxRecDepth 100000 in
theorem k_X12_isAt_3 (l : Launch) (adK adV : Nat → Nat) (dC : Nat → ClassId) (dI : Nat → Nat → Nat) (cy : Nat → ClassId) (ad : Nat → Nat) (B : Int) (hB0 : 100000 ≤ B) (hB1 : B ≤ 1073741824) (qr : Nat) (s1 : Int)  (a1 : Int32) (ra1 : 0 ≤ a1.toInt) (ta1 : a1.toInt ≤ 12) (a2 : Int32) (ra2 : 0 ≤ a2.toInt) (ta2 : a2.toInt ≤ 9) (w0 : va_W) (sz : Nat) (hT : TW ksM ad cy B qr 13 w0)  : Met l yX12_isAt wsX12_isAt ({ frames := 2, cells := 0, slots := 0, locals := 34 }) (va_Pc [.ref (ad 0), .int a1, .int a2] (wpreS adK adV dC dI cy sz w0)) (va_Qi (P_X12_isAt_3 ad cy B qr s1 a1 a2 w0) (fun u : va_W => wpost dC dI cy (va_A w0 sz) u) (va_A w0 sz)) 0 0 (va_A w0 sz) := by
  refine Met.ofW (cc := cX12_isAt) (maxL := 3) (ret := (some .boolean)) (by decide) rfl ?_
  intro p e s m args below meth c s₁ Bk hml hv
  obtain ⟨rfl, ⟨hsz, hP, hK, hD0⟩, hE, hSR⟩ := hv
  have hx := Bk.exec
  have hb := Bk.bytes
  have hr := Bk.returns
  have hlocks := Bk.notSynchronized
  have hC : CallFix p m c cX12_isAt 3 s _ wsX12_isAt RX12 := ⟨hx, hb, hml, findClass_of_methodNamed Bk.named, atoms_spec (ws := wsX12_isAt) Bk.pre⟩
  subst hsz
  have hD := hD0.self (sz := s.heap.size)
  generalize hAe : va_A w0 s.heap.size = A at hD hE ⊢
  have hA : ∀ q : Nat, s.heap.size ≤ q → A q := fun q h => by rw [← hAe]; exact Or.inr h
  have hw : Wd dC dI A s.heap s.heap [] w0 := ⟨hP, hD, va_S.rf⟩
  have hF : FE ksM ([] : List (Nat × Nat × Nat)) w0 w0 := FE.rf
  have hl := lv_entry ([.ref (ad 0), .int a1, .int a2]) (n := 3) (Nat.le_of_ble_eq_true rfl)
  rw [lg_entry_eq]
  generalize (lg_sl ([.ref (ad 0), .int a1, .int a2]) ++ List.replicate (3 - (lg_sl ([.ref (ad 0), .int a1, .int a2])).length) Slot.unset).toArray = ls at hl ⊢
  have hl : lv_has ls 3 [(0, .ref (ad 0)), (1, .int a1), (2, .int a2)] := hl
  generalize hloc : ([] : List Loc) = locs at hw ⊢
  refine lv_aload_n hx hb dX12_isAt_0 rfl (lv_at hl 0 rfl) ?_
  refine lv_iload_n hx hb dX12_isAt_1 rfl (lv_at hl 1 rfl) ?_
  refine lv_iconst (v := 0) hx hb dX12_isAt_2 (by decide) ?_
  refine tk_Vi hC hK hw hT hA hE hSR kM_at0 (by decide) rfl (k_X12_streetOf_11 l adK adV dC dI cy ad B (by omega) (by omega) qr s1   a1 (show 0 ≤ a1.toInt by omega) (show a1.toInt ≤ 12 by omega) w0 s.heap.size hT ) (cwV 2 hC.2.2.2.2 gX12_isAt_X12_streetOf rfl rfl rfl (by decide +kernel) ⟨Nat.le_of_ble_eq_true rfl, Nat.le_of_ble_eq_true rfl⟩) rfl hl.1 rfl (Nat.le_of_ble_eq_true rfl) dX12_isAt_3 (fun r1 w3 H locs hp2 hw => ?_)
  obtain ⟨rfl, hg8⟩ := hp2
  obtain ⟨g5, g6, c7⟩ := hg8
  refine lv_iload_n hx hb dX12_isAt_6 rfl (lv_at hl 2 rfl) ?_
  refine lv_icmp_eq (tgt := 20) hx hb dX12_isAt_7 (by decide) (fun c9 => ?_) (fun c9 => ?_)
  · have c9 : r1.toInt = a2.toInt := wk_eq.mp c9
    refine lv_iconst (v := 1) hx hb dX12_isAt_20 (by decide) ?_
    refine lv_goto (tgt := 25) hx hb dX12_isAt_21 (by decide) ?_
    exact tk_zret hC hr rfl hlocks hK ⟨rfl, (Or.inr (Or.inl ⟨rfl, (c7.trans (wk_eq.mpr (show r1.toInt = a2.toInt by omega))), (by unfold mAt; simp only [c7]; omega)⟩))⟩ hw dX12_isAt_25
  · have c9 : ¬ r1.toInt = a2.toInt := wk_eqF c9
    refine lv_aload_n hx hb dX12_isAt_10 rfl (lv_at hl 0 rfl) ?_
    refine lv_iload_n hx hb dX12_isAt_11 rfl (lv_at hl 1 rfl) ?_
    refine lv_iconst (v := 1) hx hb dX12_isAt_12 (by decide) ?_
    refine tk_Vi hC hK hw hT hA hE hSR kM_at0 (by decide) rfl (k_X12_streetOf_12 l adK adV dC dI cy ad B (by omega) (by omega) qr s1   a1 (show 0 ≤ a1.toInt by omega) (show a1.toInt ≤ 12 by omega) w0 H.size hT ) (cwV 2 hC.2.2.2.2 gX12_isAt_X12_streetOf rfl rfl rfl (by decide +kernel) ⟨Nat.le_of_ble_eq_true rfl, Nat.le_of_ble_eq_true rfl⟩) rfl hl.1 rfl (Nat.le_of_ble_eq_true rfl) dX12_isAt_13 (fun r10 w12 H locs hp11 hw => ?_)
    obtain ⟨rfl, hg17⟩ := hp11
    obtain ⟨g14, g15, c16⟩ := hg17
    refine lv_iload_n hx hb dX12_isAt_16 rfl (lv_at hl 2 rfl) ?_
    refine lv_icmp_ne (tgt := 24) hx hb dX12_isAt_17 (by decide) (fun c18 => ?_) (fun c18 => ?_)
    · have c18 : ¬ r10.toInt = a2.toInt := wk_eqF c18
      refine lv_iconst (v := 0) hx hb dX12_isAt_24 (by decide) ?_
      exact tk_zret hC hr rfl hlocks hK ⟨rfl, (Or.inl ⟨rfl, (by unfold mAt; simp only [c7, c16]; omega)⟩)⟩ hw dX12_isAt_25
    · have c18 : r10.toInt = a2.toInt := wk_eq.mp c18
      refine lv_iconst (v := 1) hx hb dX12_isAt_20 (by decide) ?_
      refine lv_goto (tgt := 25) hx hb dX12_isAt_21 (by decide) ?_
      exact tk_zret hC hr rfl hlocks hK ⟨rfl, (Or.inr (Or.inr ⟨rfl, (c16.trans (wk_eq.mpr (show r10.toInt = a2.toInt by omega))), (by unfold mAt; simp only [c7, c16]; omega)⟩))⟩ hw dX12_isAt_25
abbrev P_X12_otherOf_3 (ad : Nat → Nat) (cy : Nat → ClassId) (B : Int) (qr : Nat) (s1 : Int) (a1 : Int32) (a2 : Int32) (w0 : va_W) : Int32 → va_W → Prop := fun r u => w0 = u ∧ ((0 ≤ r.toInt ∧ r.toInt ≤ 9) ∨ (0 ≤ r.toInt ∧ r.toInt ≤ 9 ∧ gi u 12 (10 * a1.toInt + 10).toNat = a2))
set_option maxHeartbeats 4000000 in
set_option maxRecDepth 100000 in
theorem k_X12_otherOf_3 (l : Launch) (adK adV : Nat → Nat) (dC : Nat → ClassId) (dI : Nat → Nat → Nat) (cy : Nat → ClassId) (ad : Nat → Nat) (B : Int) (hB0 : 100000 ≤ B) (hB1 : B ≤ 1073741824) (qr : Nat) (s1 : Int)  (a1 : Int32) (ra1 : 0 ≤ a1.toInt) (ta1 : a1.toInt ≤ 12) (a2 : Int32) (ra2 : 0 ≤ a2.toInt) (ta2 : a2.toInt ≤ 9) (w0 : va_W) (sz : Nat) (hT : TW ksM ad cy B qr 13 w0)  : Met l yX12_otherOf wsX12_otherOf ({ frames := 2, cells := 0, slots := 0, locals := 34 }) (va_Pc [.ref (ad 0), .int a1, .int a2] (wpreS adK adV dC dI cy sz w0)) (va_Qi (P_X12_otherOf_3 ad cy B qr s1 a1 a2 w0) (fun u : va_W => wpost dC dI cy (va_A w0 sz) u) (va_A w0 sz)) 0 0 (va_A w0 sz) := by
  refine Met.ofW (cc := cX12_otherOf) (maxL := 3) (ret := (some .int)) (by decide) rfl ?_
  intro p e s m args below meth c s₁ Bk hml hv
  obtain ⟨rfl, ⟨hsz, hP, hK, hD0⟩, hE, hSR⟩ := hv
  have hx := Bk.exec
  have hb := Bk.bytes
  have hr := Bk.returns
  have hlocks := Bk.notSynchronized
  have hC : CallFix p m c cX12_otherOf 3 s _ wsX12_otherOf RX12 := ⟨hx, hb, hml, findClass_of_methodNamed Bk.named, atoms_spec (ws := wsX12_otherOf) Bk.pre⟩
  subst hsz
  have hD := hD0.self (sz := s.heap.size)
  generalize hAe : va_A w0 s.heap.size = A at hD hE ⊢
  have hA : ∀ q : Nat, s.heap.size ≤ q → A q := fun q h => by rw [← hAe]; exact Or.inr h
  have hw : Wd dC dI A s.heap s.heap [] w0 := ⟨hP, hD, va_S.rf⟩
  have hF : FE ksM ([] : List (Nat × Nat × Nat)) w0 w0 := FE.rf
  have hl := lv_entry ([.ref (ad 0), .int a1, .int a2]) (n := 3) (Nat.le_of_ble_eq_true rfl)
  rw [lg_entry_eq]
  generalize (lg_sl ([.ref (ad 0), .int a1, .int a2]) ++ List.replicate (3 - (lg_sl ([.ref (ad 0), .int a1, .int a2])).length) Slot.unset).toArray = ls at hl ⊢
  have hl : lv_has ls 3 [(0, .ref (ad 0)), (1, .int a1), (2, .int a2)] := hl
  generalize hloc : ([] : List Loc) = locs at hw ⊢
  refine lv_aload_n hx hb dX12_otherOf_0 rfl (lv_at hl 0 rfl) ?_
  refine lv_iload_n hx hb dX12_otherOf_1 rfl (lv_at hl 1 rfl) ?_
  refine lv_iconst (v := 0) hx hb dX12_otherOf_2 (by decide) ?_
  refine tk_Vi hC hK hw hT hA hE hSR kM_at0 (by decide) rfl (k_X12_streetOf_11 l adK adV dC dI cy ad B (by omega) (by omega) qr s1   a1 (show 0 ≤ a1.toInt by omega) (show a1.toInt ≤ 12 by omega) w0 s.heap.size hT ) (cwV 2 hC.2.2.2.2 gX12_otherOf_X12_streetOf rfl rfl rfl (by decide +kernel) ⟨Nat.le_of_ble_eq_true rfl, Nat.le_of_ble_eq_true rfl⟩) rfl hl.1 rfl (Nat.le_of_ble_eq_true rfl) dX12_otherOf_3 (fun r1 w3 H locs hp2 hw => ?_)
  obtain ⟨rfl, hg8⟩ := hp2
  obtain ⟨g5, g6, c7⟩ := hg8
  refine lv_iload_n hx hb dX12_otherOf_6 rfl (lv_at hl 2 rfl) ?_
  refine lv_icmp_ne (tgt := 19) hx hb dX12_otherOf_7 (by decide) (fun c9 => ?_) (fun c9 => ?_)
  · have c9 : ¬ r1.toInt = a2.toInt := wk_eqF c9
    refine lv_aload_n hx hb dX12_otherOf_19 rfl (lv_at hl 0 rfl) ?_
    refine lv_iload_n hx hb dX12_otherOf_20 rfl (lv_at hl 1 rfl) ?_
    refine lv_iconst (v := 0) hx hb dX12_otherOf_21 (by decide) ?_
    refine tk_Vi hC hK hw hT hA hE hSR kM_at0 (by decide) rfl (k_X12_streetOf_11 l adK adV dC dI cy ad B (by omega) (by omega) qr s1   a1 (show 0 ≤ a1.toInt by omega) (show a1.toInt ≤ 12 by omega) w0 H.size hT ) (cwV 2 hC.2.2.2.2 gX12_otherOf_X12_streetOf rfl rfl rfl (by decide +kernel) ⟨Nat.le_of_ble_eq_true rfl, Nat.le_of_ble_eq_true rfl⟩) rfl hl.1 rfl (Nat.le_of_ble_eq_true rfl) dX12_otherOf_22 (fun r10 w12 H locs hp11 hw => ?_)
    obtain ⟨rfl, hg17⟩ := hp11
    obtain ⟨g14, g15, c16⟩ := hg17
    obtain rfl : r1 = r10 := c7.symm.trans c16
    exact tk_iret hC hr hlocks hK ⟨rfl, (Or.inl ⟨(show 0 ≤ r1.toInt by omega), (show r1.toInt ≤ 9 by omega)⟩)⟩ hw dX12_otherOf_25
  · have c9 : r1.toInt = a2.toInt := wk_eq.mp c9
    refine lv_aload_n hx hb dX12_otherOf_10 rfl (lv_at hl 0 rfl) ?_
    refine lv_iload_n hx hb dX12_otherOf_11 rfl (lv_at hl 1 rfl) ?_
    refine lv_iconst (v := 1) hx hb dX12_otherOf_12 (by decide) ?_
    refine tk_Vi hC hK hw hT hA hE hSR kM_at0 (by decide) rfl (k_X12_streetOf_12 l adK adV dC dI cy ad B (by omega) (by omega) qr s1   a1 (show 0 ≤ a1.toInt by omega) (show a1.toInt ≤ 12 by omega) w0 H.size hT ) (cwV 2 hC.2.2.2.2 gX12_otherOf_X12_streetOf rfl rfl rfl (by decide +kernel) ⟨Nat.le_of_ble_eq_true rfl, Nat.le_of_ble_eq_true rfl⟩) rfl hl.1 rfl (Nat.le_of_ble_eq_true rfl) dX12_otherOf_13 (fun r18 w20 H locs hp19 hw => ?_)
    obtain ⟨rfl, hg25⟩ := hp19
    obtain ⟨g22, g23, c24⟩ := hg25
    refine lv_goto (tgt := 25) hx hb dX12_otherOf_16 (by decide) ?_
    exact tk_iret hC hr hlocks hK ⟨rfl, (Or.inr ⟨(show 0 ≤ r18.toInt by omega), (show r18.toInt ≤ 9 by omega), (c7.trans (wk_eq.mpr (show r1.toInt = a2.toInt by omega)))⟩)⟩ hw dX12_otherOf_25
abbrev P_X12_streetOf_14 (ad : Nat → Nat) (cy : Nat → ClassId) (B : Int) (qr : Nat) (s1 : Int) (a1 : Int32) (w0 : va_W) : Int32 → va_W → Prop := fun r u => w0 = u ∧ ((0 ≤ r.toInt ∧ r.toInt ≤ 9 ∧ gi u 12 (10 * a1.toInt + 12).toNat = r))
set_option maxHeartbeats 4000000 in
set_option maxRecDepth 100000 in
theorem k_X12_streetOf_14 (l : Launch) (adK adV : Nat → Nat) (dC : Nat → ClassId) (dI : Nat → Nat → Nat) (cy : Nat → ClassId) (ad : Nat → Nat) (B : Int) (hB0 : 100000 ≤ B) (hB1 : B ≤ 1073741824) (qr : Nat) (s1 : Int)  (a1 : Int32) (ra1 : 0 ≤ a1.toInt) (ta1 : a1.toInt ≤ 12) (w0 : va_W) (sz : Nat) (hT : TW ksM ad cy B qr 13 w0)  : Met l yX12_streetOf wsX12_streetOf ({ frames := 1, cells := 0, slots := 0, locals := 12 }) (va_Pc [.ref (ad 0), .int a1, .int 2] (wpreS adK adV dC dI cy sz w0)) (va_Qi (P_X12_streetOf_14 ad cy B qr s1 a1 w0) (fun u : va_W => wpost dC dI cy (va_A w0 sz) u) (va_A w0 sz)) 0 0 (va_A w0 sz) := by
  refine Met.ofW (cc := cX12_streetOf) (maxL := 3) (ret := (some .int)) (by decide) rfl ?_
  intro p e s m args below meth c s₁ Bk hml hv
  obtain ⟨rfl, ⟨hsz, hP, hK, hD0⟩, hE, hSR⟩ := hv
  have hx := Bk.exec
  have hb := Bk.bytes
  have hr := Bk.returns
  have hlocks := Bk.notSynchronized
  have hC : CallFix p m c cX12_streetOf 3 s _ wsX12_streetOf RX12 := ⟨hx, hb, hml, findClass_of_methodNamed Bk.named, atoms_spec (ws := wsX12_streetOf) Bk.pre⟩
  subst hsz
  have hD := hD0.self (sz := s.heap.size)
  generalize hAe : va_A w0 s.heap.size = A at hD hE ⊢
  have hA : ∀ q : Nat, s.heap.size ≤ q → A q := fun q h => by rw [← hAe]; exact Or.inr h
  have hw : Wd dC dI A s.heap s.heap [] w0 := ⟨hP, hD, va_S.rf⟩
  have hF : FE ksM ([] : List (Nat × Nat × Nat)) w0 w0 := FE.rf
  have hl := lv_entry ([.ref (ad 0), .int a1, .int 2]) (n := 3) (Nat.le_of_ble_eq_true rfl)
  rw [lg_entry_eq]
  generalize (lg_sl ([.ref (ad 0), .int a1, .int 2]) ++ List.replicate (3 - (lg_sl ([.ref (ad 0), .int a1, .int 2])).length) Slot.unset).toArray = ls at hl ⊢
  have hl : lv_has ls 3 [(0, .ref (ad 0)), (1, .int a1), (2, .int 2)] := hl
  generalize hloc : ([] : List Loc) = locs at hw ⊢
  have hinX12 : ∀ w ∈ u_ws RX12 TX12 42, w ∈ wsX12_streetOf := fun _ h => List.mem_cons_of_mem _ (List.mem_append_right _ (h))
  refine lv_aload_n hx hb dX12_streetOf_0 rfl (lv_at hl 0 rfl) ?_
  refine tk_getA hC hK hw hT hinX12 kM_at0 (by decide) rfl 26 (by decide) (List.mem_of_getElem? (i := 1) rfl) rfl rfl dX12_streetOf_1 ?_
  refine lv_bipush (v := 10) hx hb dX12_streetOf_4 (by decide) ?_
  refine lv_bipush (v := 10) hx hb dX12_streetOf_6 (by decide) ?_
  refine lv_iload_n hx hb dX12_streetOf_8 rfl (lv_at hl 1 rfl) ?_
  refine lv_imul hx hb dX12_streetOf_9 ?_
  refine lv_topi (fun x1 ex1 => ?_)
  have ex1 : x1.toInt = (10 : Int) * a1.toInt := by rw [ex1]; exact wk_mul (show (-2147483648) ≤ (10 : Int) * a1.toInt by omega) (show (10 : Int) * a1.toInt ≤ 2147483647 by omega)
  refine lv_iadd hx hb dX12_streetOf_10 ?_
  refine lv_topi (fun x2 ex2 => ?_)
  have ex2 : x2.toInt = (10 : Int) + x1.toInt := by rw [ex2]; exact wk_add (show (-2147483648) ≤ (10 : Int) + x1.toInt by omega) (show (10 : Int) + x1.toInt ≤ 2147483647 by omega)
  refine lv_iload_n hx hb dX12_streetOf_11 rfl (lv_at hl 2 rfl) ?_
  refine lv_iadd hx hb dX12_streetOf_12 ?_
  refine lv_topi (fun x3 ex3 => ?_)
  have ex3 : x3.toInt = x2.toInt + (2 : Int) := by rw [ex3]; exact wk_add (show (-2147483648) ≤ x2.toInt + (2 : Int) by omega) (show x2.toInt + (2 : Int) ≤ 2147483647 by omega)
  refine tk_ialdR hC hK hw hT kM_at12 rfl (show 0 ≤ x3.toInt by omega) (show x3.toInt < 296 by omega) dX12_streetOf_13 (fun x4 c5 Ex4 => ?_)
  have c5 : gi w0 12 (10 * a1.toInt + 12).toNat = x4 := (congrArg (gi w0 12) (congrArg Int.toNat (show 10 * a1.toInt + 12 = x3.toInt by omega))).trans c5
  have bx4 := tk_rgI rfl 12 10 13 0 9 (by decide +kernel) ⟨(a1.toInt - 0).toNat, by omega, show x3.toInt.toNat = 12 + 10 * (a1.toInt - 0).toNat by omega⟩ Ex4
  exact tk_iret hC hr hlocks hK ⟨rfl, ⟨(show 0 ≤ x4.toInt by omega), (show x4.toInt ≤ 9 by omega), c5⟩⟩ hw dX12_streetOf_14
abbrev P_X12_reaches_3 (ad : Nat → Nat) (cy : Nat → ClassId) (B : Int) (qr : Nat) (s1 : Int) (a1 : Int32) (a2 : Int32) (a3 : Int32) (a4 : Int32) (w0 : va_W) : Int32 → va_W → Prop := fun r u => TW ksM ad cy B qr 13 u ∧ FE ksM [(77, 0, 10), (78, 0, 10)] w0 u ∧ ((0 ≤ r.toInt ∧ r.toInt ≤ 100000100))
set_option maxHeartbeats 4000000 in
set_option maxRecDepth 100000 in
theorem k_X12_reaches_3 (l : Launch) (adK adV : Nat → Nat) (dC : Nat → ClassId) (dI : Nat → Nat → Nat) (cy : Nat → ClassId) (ad : Nat → Nat) (B : Int) (hB0 : 100000 ≤ B) (hB1 : B ≤ 1073741824) (qr : Nat) (s1 : Int)  (a1 : Int32) (ra1 : 0 ≤ a1.toInt) (ta1 : a1.toInt ≤ 9) (a2 : Int32) (ra2 : 0 ≤ a2.toInt) (ta2 : a2.toInt ≤ 9) (a3 : Int32) (ra3 : 0 ≤ a3.toInt) (ta3 : a3.toInt ≤ 99999) (a4 : Int32) (ra4 : 2000 ≤ a4.toInt) (ta4 : a4.toInt ≤ 101999) (w0 : va_W) (sz : Nat) (hT : TW ksM ad cy B qr 13 w0)  : Met l yX12_reaches wsX12_reaches ({ frames := 5, cells := 0, slots := 0, locals := 105 }) (va_Pc [.ref (ad 0), .int a1, .int a2, .int a3, .int a4] (wpreS adK adV dC dI cy sz w0)) (va_Qi (P_X12_reaches_3 ad cy B qr s1 a1 a2 a3 a4 w0) (fun u : va_W => wpost dC dI cy (va_A w0 sz) u) (va_A w0 sz)) 0 0 (va_A w0 sz) := by
  refine Met.ofW (cc := cX12_reaches) (maxL := 9) (ret := (some .int)) (by decide) rfl ?_
  intro p e s m args below meth c s₁ Bk hml hv
  obtain ⟨rfl, ⟨hsz, hP, hK, hD0⟩, hE, hSR⟩ := hv
  have hx := Bk.exec
  have hb := Bk.bytes
  have hr := Bk.returns
  have hlocks := Bk.notSynchronized
  have hC : CallFix p m c cX12_reaches 9 s _ wsX12_reaches RX12 := ⟨hx, hb, hml, findClass_of_methodNamed Bk.named, atoms_spec (ws := wsX12_reaches) Bk.pre⟩
  subst hsz
  have hD := hD0.self (sz := s.heap.size)
  generalize hAe : va_A w0 s.heap.size = A at hD hE ⊢
  have hA : ∀ q : Nat, s.heap.size ≤ q → A q := fun q h => by rw [← hAe]; exact Or.inr h
  have hw : Wd dC dI A s.heap s.heap [] w0 := ⟨hP, hD, va_S.rf⟩
  have hF : FE ksM [(77, 0, 10), (78, 0, 10)] w0 w0 := FE.rf
  have hl := lv_entry ([.ref (ad 0), .int a1, .int a2, .int a3, .int a4]) (n := 9) (Nat.le_of_ble_eq_true rfl)
  rw [lg_entry_eq]
  generalize (lg_sl ([.ref (ad 0), .int a1, .int a2, .int a3, .int a4]) ++ List.replicate (9 - (lg_sl ([.ref (ad 0), .int a1, .int a2, .int a3, .int a4])).length) Slot.unset).toArray = ls at hl ⊢
  have hl : lv_has ls 9 [(0, .ref (ad 0)), (1, .int a1), (2, .int a2), (3, .int a3), (4, .int a4)] := hl
  generalize hloc : ([] : List Loc) = locs at hw ⊢
  have hinX12 : ∀ w ∈ u_ws RX12 TX12 42, w ∈ wsX12_reaches := fun _ h => List.mem_cons_of_mem _ (List.mem_append_right _ (h))
  have L44 : ∀ (n44 : Nat) (v44_5 : Int32) (H : Heap) (locs : List Loc) (ls : Array Slot) (w1 : va_W), 0 ≤ a1.toInt → a1.toInt ≤ 9 → 0 ≤ a2.toInt → a2.toInt ≤ 9 → 0 ≤ a3.toInt → a3.toInt ≤ 99999 → 2000 ≤ a4.toInt → a4.toInt ≤ 101999 → 0 ≤ v44_5.toInt → v44_5.toInt ≤ 10 → (0 ≤ (sumG 19 10 w1)) → (10 - (sumG 19 10 w1)).toNat < n44 → Wd dC dI A s.heap H locs w1 → TW ksM ad cy B qr 13 w1 → FE ksM [(77, 0, 10), (78, 0, 10)] w0 w1 → lv_has ls 9 [(0, .ref (ad 0)), (1, .int a1), (2, .int a2), (3, .int a3), (4, .int a4), (5, .int v44_5)] → W p l e ({ frames := 5, cells := 0, slots := 0, locals := 105 }) s m (List.toArray [.ref (ad 0), .int a1, .int a2, .int a3, .int a4]) below meth c H locs 0 0 (MQ below (va_Qi (P_X12_reaches_3 ad cy B qr s1 a1 a2 a3 a4 w0) (fun u : va_W => wpost dC dI cy A u) A) (List.toArray [.ref (ad 0), .int a1, .int a2, .int a3, .int a4]) s 0 0 A) (F0 m 44 ls []) := by
    intro n44
    induction n44 with
    | zero => intro v44_5 H locs ls w1 r2 t3 r4 t5 r6 t7 r8 t9 r10 t11 hcr44_0 hm44 hw hT hF hl; omega
    | succ n44 ih44 =>
      intro v44_5 H locs ls w1 r2 t3 r4 t5 r6 t7 r8 t9 r10 t11 hcr44_0 hm44 hw hT hF hl
      have L145 : ∀ (n145 : Nat) (v145_5 : Int32) (v145_6 : Int32) (f145_12_0 : Int32) (H : Heap) (locs : List Loc) (ls : Array Slot) (w12 : va_W), 0 ≤ a1.toInt → a1.toInt ≤ 9 → 0 ≤ a2.toInt → a2.toInt ≤ 9 → 0 ≤ a3.toInt → a3.toInt ≤ 99999 → 2000 ≤ a4.toInt → a4.toInt ≤ 101999 → 0 ≤ v145_5.toInt → v145_5.toInt ≤ 9 → 0 ≤ v145_6.toInt → v145_6.toInt ≤ 13 → 0 ≤ f145_12_0.toInt → f145_12_0.toInt ≤ 10 → ((sumG 19 10 w1) + 1 ≤ (sumG 19 10 w12)) → (13 - v145_6.toInt).toNat < n145 → Wd dC dI A s.heap H locs w12 → TW ksM ad cy B qr 13 w12 → FE ksM [(77, 0, 10), (78, 0, 10)] w0 w12 → gi w12 12 0 = f145_12_0 → lv_has ls 9 [(0, .ref (ad 0)), (1, .int a1), (2, .int a2), (3, .int a3), (4, .int a4), (5, .int v145_5), (6, .int v145_6)] → W p l e ({ frames := 5, cells := 0, slots := 0, locals := 105 }) s m (List.toArray [.ref (ad 0), .int a1, .int a2, .int a3, .int a4]) below meth c H locs 0 0 (MQ below (va_Qi (P_X12_reaches_3 ad cy B qr s1 a1 a2 a3 a4 w0) (fun u : va_W => wpost dC dI cy A u) A) (List.toArray [.ref (ad 0), .int a1, .int a2, .int a3, .int a4]) s 0 0 A) (F0 m 145 ls []) := by
        intro n145
        induction n145 with
        | zero => intro v145_5 v145_6 f145_12_0 H locs ls w12 r13 t14 r15 t16 r17 t18 r19 t20 r21 t22 r23 t24 r25 t26 hcr145_0 hm145 hw hT hF c27 hl; omega
        | succ n145 ih145 =>
          intro v145_5 v145_6 f145_12_0 H locs ls w12 r13 t14 r15 t16 r17 t18 r19 t20 r21 t22 r23 t24 r25 t26 hcr145_0 hm145 hw hT hF c27 hl
          have J259 : ∀ (f259_12_1 : Int32) (H : Heap) (locs : List Loc) (ls : Array Slot) (w28 : va_W), 0 ≤ a1.toInt → a1.toInt ≤ 9 → 0 ≤ a2.toInt → a2.toInt ≤ 9 → 0 ≤ a3.toInt → a3.toInt ≤ 99999 → 2000 ≤ a4.toInt → a4.toInt ≤ 101999 → 0 ≤ v145_5.toInt → v145_5.toInt ≤ 9 → 0 ≤ v145_6.toInt → v145_6.toInt ≤ 12 → 0 ≤ f145_12_0.toInt → f145_12_0.toInt ≤ 10 → 1 ≤ f259_12_1.toInt → f259_12_1.toInt ≤ 13 → ((sumG 19 10 w1) + 1 ≤ (sumG 19 10 w28)) → Wd dC dI A s.heap H locs w28 → TW ksM ad cy B qr 13 w28 → FE ksM [(77, 0, 10), (78, 0, 10)] w0 w28 → gi w28 12 0 = f145_12_0 → gi w28 12 1 = f259_12_1 → lv_has ls 9 [(0, .ref (ad 0)), (1, .int a1), (2, .int a2), (3, .int a3), (4, .int a4), (5, .int v145_5), (6, .int v145_6)] → W p l e ({ frames := 5, cells := 0, slots := 0, locals := 105 }) s m (List.toArray [.ref (ad 0), .int a1, .int a2, .int a3, .int a4]) below meth c H locs 0 0 (MQ below (va_Qi (P_X12_reaches_3 ad cy B qr s1 a1 a2 a3 a4 w0) (fun u : va_W => wpost dC dI cy A u) A) (List.toArray [.ref (ad 0), .int a1, .int a2, .int a3, .int a4]) s 0 0 A) (F0 m 259 ls []) := by
            intro f259_12_1 H locs ls w28 r29 t30 r31 t32 r33 t34 r35 t36 r37 t38 r39 t40 r41 t42 r44 t45 hcr259_0 hw hT hF c43 c46 hl
            obtain ⟨x47, ex47⟩ : ∃ y : Int32, y = v145_6 + Int32.ofInt 1 := ⟨_, rfl⟩
            refine lv_iinc (v := x47) (lv' := [(6, .int x47), (0, .ref (ad 0)), (1, .int a1), (2, .int a2), (3, .int a3), (4, .int a4), (5, .int v145_5)]) hx hb dX12_reaches_259 hl (k := 6) rfl ex47.symm (by decide) rfl (fun ls hl => ?_)
            have ex47 : x47.toInt = v145_6.toInt + 1 := by rw [ex47]; exact wk_add (y := 1) (show -2147483648 ≤ v145_6.toInt + 1 by omega) (show v145_6.toInt + 1 ≤ 2147483647 by omega)
            refine lv_goto (tgt := 145) hx hb dX12_reaches_262 (by decide) ?_
            have gb48 : 0 ≤ sumG 19 10 w28 ∧ sumG 19 10 w28 ≤ 10 := hT.sum (lo := 0) (hi := 1) kM_at19 rfl (by decide) rfl
            exact ih145 v145_5 x47 f145_12_0 H locs ls w28 (show 0 ≤ a1.toInt by omega) (show a1.toInt ≤ 9 by omega) (show 0 ≤ a2.toInt by omega) (show a2.toInt ≤ 9 by omega) (show 0 ≤ a3.toInt by omega) (show a3.toInt ≤ 99999 by omega) (show 2000 ≤ a4.toInt by omega) (show a4.toInt ≤ 101999 by omega) (show 0 ≤ v145_5.toInt by omega) (show v145_5.toInt ≤ 9 by omega) (show 0 ≤ x47.toInt by omega) (show x47.toInt ≤ 13 by omega) (show 0 ≤ f145_12_0.toInt by omega) (show f145_12_0.toInt ≤ 10 by omega) (show (sumG 19 10 w1) + 1 ≤ (sumG 19 10 w28) by omega) (show (13 - x47.toInt).toNat < n145 by omega) hw hT hF c43 (lv_sub hl [1, 2, 3, 4, 5, 6, 0] rfl)
          refine lv_iload hx hb dX12_reaches_145 (lv_at hl 6 rfl) ?_
          refine lv_aload_n hx hb dX12_reaches_147 rfl (lv_at hl 0 rfl) ?_
          refine tk_getA hC hK hw hT hinX12 kM_at0 (by decide) rfl 26 (by decide) (List.mem_of_getElem? (i := 4) rfl) rfl rfl dX12_reaches_148 ?_
          refine lv_iconst (v := 1) hx hb dX12_reaches_151 (by decide) ?_
          refine tk_ialdR hC hK hw hT kM_at12 rfl (by decide) (by decide) dX12_reaches_152 (fun x49 c50 Ex49 => ?_)
          have bx49 : 0 ≤ x49.toInt ∧ x49.toInt ≤ 13 := (tk_rg1 rfl).mp Ex49
          have c50 : gi w12 12 1 = x49 := c50
          refine lv_icmp_ge (tgt := 265) hx hb dX12_reaches_153 (by decide) (fun c51 => ?_) (fun c51 => ?_)
          · have c51 : x49.toInt ≤ v145_6.toInt := wk_le.mp c51
            refine lv_goto (tgt := 44) hx hb dX12_reaches_265 (by decide) ?_
            have gb52 : 0 ≤ sumG 19 10 w12 ∧ sumG 19 10 w12 ≤ 10 := hT.sum (lo := 0) (hi := 1) kM_at19 rfl (by decide) rfl
            exact ih44 v145_5 H locs ls w12 (show 0 ≤ a1.toInt by omega) (show a1.toInt ≤ 9 by omega) (show 0 ≤ a2.toInt by omega) (show a2.toInt ≤ 9 by omega) (show 0 ≤ a3.toInt by omega) (show a3.toInt ≤ 99999 by omega) (show 2000 ≤ a4.toInt by omega) (show a4.toInt ≤ 101999 by omega) (show 0 ≤ v145_5.toInt by omega) (show v145_5.toInt ≤ 10 by omega) (show 0 ≤ (sumG 19 10 w12) by omega) (show (10 - (sumG 19 10 w12)).toNat < n44 by omega) hw hT hF  (lv_sub hl [0, 1, 2, 3, 4, 5] rfl)
          · have c51 : v145_6.toInt < x49.toInt := wk_leF c51
            refine lv_aload_n hx hb dX12_reaches_156 rfl (lv_at hl 0 rfl) ?_
            refine lv_iload hx hb dX12_reaches_157 (lv_at hl 6 rfl) ?_
            refine lv_iload hx hb dX12_reaches_159 (lv_at hl 5 rfl) ?_
            refine tk_Vi hC hK hw hT hA hE hSR kM_at0 (by decide) rfl (k_X12_isAt_3 l adK adV dC dI cy ad B (by omega) (by omega) qr s1   v145_6 (show 0 ≤ v145_6.toInt by omega) (show v145_6.toInt ≤ 12 by omega) v145_5 (show 0 ≤ v145_5.toInt by omega) (show v145_5.toInt ≤ 9 by omega) w12 H.size hT ) (cwV 2 hC.2.2.2.2 gX12_reaches_X12_isAt rfl rfl rfl (by decide +kernel) ⟨Nat.le_of_ble_eq_true rfl, Nat.le_of_ble_eq_true rfl⟩) rfl hl.1 rfl (Nat.le_of_ble_eq_true rfl) dX12_reaches_161 (fun r53 w55 H locs hp54 hw => ?_)
            obtain ⟨rfl, hg62⟩ := hp54
            rcases hg62 with ⟨rfl, hq57⟩ | ⟨rfl, c58, hq59⟩ | ⟨rfl, c60, hq61⟩
            · refine lv_if_ne (tgt := 170) hx hb dX12_reaches_164 (by decide) (fun c => absurd (by decide) c) (fun _ => ?_)
              refine lv_goto (tgt := 259) hx hb dX12_reaches_167 (by decide) ?_
              have gb63 : 0 ≤ sumG 19 10 w12 ∧ sumG 19 10 w12 ≤ 10 := hT.sum (lo := 0) (hi := 1) kM_at19 rfl (by decide) rfl
              exact J259 x49 H locs ls w12 (show 0 ≤ a1.toInt by omega) (show a1.toInt ≤ 9 by omega) (show 0 ≤ a2.toInt by omega) (show a2.toInt ≤ 9 by omega) (show 0 ≤ a3.toInt by omega) (show a3.toInt ≤ 99999 by omega) (show 2000 ≤ a4.toInt by omega) (show a4.toInt ≤ 101999 by omega) (show 0 ≤ v145_5.toInt by omega) (show v145_5.toInt ≤ 9 by omega) (show 0 ≤ v145_6.toInt by omega) (show v145_6.toInt ≤ 12 by omega) (show 0 ≤ f145_12_0.toInt by omega) (show f145_12_0.toInt ≤ 10 by omega) (show 1 ≤ x49.toInt by omega) (show x49.toInt ≤ 13 by omega) (show (sumG 19 10 w1) + 1 ≤ (sumG 19 10 w12) by omega)  hw hT hF c27 c50 (lv_sub hl [0, 1, 2, 3, 4, 5, 6] rfl)
            · refine lv_if_ne (tgt := 170) hx hb dX12_reaches_164 (by decide) (fun _ => ?_) (fun c => absurd c (by decide))
              refine lv_aload_n hx hb dX12_reaches_170 rfl (lv_at hl 0 rfl) ?_
              refine lv_iload hx hb dX12_reaches_171 (lv_at hl 6 rfl) ?_
              refine lv_iload hx hb dX12_reaches_173 (lv_at hl 5 rfl) ?_
              refine lv_aload_n hx hb dX12_reaches_175 rfl (lv_at hl 0 rfl) ?_
              refine tk_getA hC hK hw hT hinX12 kM_at0 (by decide) rfl 35 (by decide) (List.mem_of_getElem? (i := 1) rfl) rfl rfl dX12_reaches_176 ?_
              refine lv_iload hx hb dX12_reaches_179 (lv_at hl 5 rfl) ?_
              refine tk_iald hC hK hw hT kM_at18 rfl rfl (show 0 ≤ v145_5.toInt by omega) (show v145_5.toInt < 10 by omega) dX12_reaches_181 (fun x64 c65 rx64 tx64 => ?_)
              refine lv_iload hx hb dX12_reaches_182 (lv_at hl 4 rfl) ?_
              refine tk_Vi hC hK hw hT hA hE hSR kM_at0 (by decide) rfl (k_X12_firstOpen_4 l adK adV dC dI cy ad B (by omega) (by omega) qr s1   v145_6 (show 0 ≤ v145_6.toInt by omega) (show v145_6.toInt ≤ 12 by omega) v145_5 (show 0 ≤ v145_5.toInt by omega) (show v145_5.toInt ≤ 9 by omega) x64 (show 0 ≤ x64.toInt by omega) (show x64.toInt ≤ 100000100 by omega) a4 (show 2000 ≤ a4.toInt by omega) (show a4.toInt ≤ 101999 by omega) w12 H.size hT ) (cwV 4 hC.2.2.2.2 gX12_reaches_X12_firstOpen rfl rfl rfl (by decide +kernel) ⟨Nat.le_of_ble_eq_true rfl, Nat.le_of_ble_eq_true rfl⟩) rfl hl.1 rfl (Nat.le_of_ble_eq_true rfl) dX12_reaches_184 (fun r66 w68 H locs hp67 hw => ?_)
              obtain ⟨rfl, hg75⟩ := hp67
              rcases hg75 with ⟨g70, g71⟩ | ⟨g72, g73, c74⟩
              · refine lv_istore (lv' := [(7, .int r66), (0, .ref (ad 0)), (1, .int a1), (2, .int a2), (3, .int a3), (4, .int a4), (5, .int v145_5), (6, .int v145_6)]) hx hb dX12_reaches_187 hl (by decide) rfl (fun ls hl => ?_)
                refine lv_aload_n hx hb dX12_reaches_189 rfl (lv_at hl 1 rfl) ?_
                refine lv_iload hx hb dX12_reaches_190 (lv_at hl 7 rfl) ?_
                refine lv_iload hx hb dX12_reaches_192 (lv_at hl 6 rfl) ?_
                refine tk_Vi hC hK hw hT hA hE hSR kM_at0 (by decide) rfl (k_X12_otherOf_3 l adK adV dC dI cy ad B (by omega) (by omega) qr s1   v145_6 (show 0 ≤ v145_6.toInt by omega) (show v145_6.toInt ≤ 12 by omega) v145_5 (show 0 ≤ v145_5.toInt by omega) (show v145_5.toInt ≤ 9 by omega) w12 H.size hT ) (cwV 2 hC.2.2.2.2 gX12_reaches_X12_otherOf rfl rfl rfl (by decide +kernel) ⟨Nat.le_of_ble_eq_true rfl, Nat.le_of_ble_eq_true rfl⟩) rfl hl.1 rfl (Nat.le_of_ble_eq_true rfl) dX12_reaches_194 (fun r76 w78 H locs hp77 hw => ?_)
                obtain ⟨rfl, hg85⟩ := hp77
                rcases hg85 with ⟨g80, g81⟩ | ⟨g82, g83, c84⟩
                · refine lv_istore (lv' := [(8, .int r76), (7, .int r66), (0, .ref (ad 0)), (1, .int a1), (2, .int a2), (3, .int a3), (4, .int a4), (5, .int v145_5), (6, .int v145_6)]) hx hb dX12_reaches_197 hl (by decide) rfl (fun ls hl => ?_)
                  refine lv_iload hx hb dX12_reaches_199 (lv_at hl 1 rfl) ?_
                  refine lv_ldcw (v := 100000000) hx hb hC.2.2.2.1 (hC.2.2.2.2 _ (List.mem_of_getElem? (i := 2) rfl)) dX12_reaches_201 ?_
                  refine lv_icmp_ge (tgt := 259) hx hb dX12_reaches_204 (by decide) (fun c86 => ?_) (fun c86 => ?_)
                  · have c86 : (100000000 : Int) ≤ r66.toInt := wk_le.mp c86
                    have gb87 : 0 ≤ sumG 19 10 w12 ∧ sumG 19 10 w12 ≤ 10 := hT.sum (lo := 0) (hi := 1) kM_at19 rfl (by decide) rfl
                    exact J259 x49 H locs ls w12 (show 0 ≤ a1.toInt by omega) (show a1.toInt ≤ 9 by omega) (show 0 ≤ a2.toInt by omega) (show a2.toInt ≤ 9 by omega) (show 0 ≤ a3.toInt by omega) (show a3.toInt ≤ 99999 by omega) (show 2000 ≤ a4.toInt by omega) (show a4.toInt ≤ 101999 by omega) (show 0 ≤ v145_5.toInt by omega) (show v145_5.toInt ≤ 9 by omega) (show 0 ≤ v145_6.toInt by omega) (show v145_6.toInt ≤ 12 by omega) (show 0 ≤ f145_12_0.toInt by omega) (show f145_12_0.toInt ≤ 10 by omega) (show 1 ≤ x49.toInt by omega) (show x49.toInt ≤ 13 by omega) (show (sumG 19 10 w1) + 1 ≤ (sumG 19 10 w12) by omega)  hw hT hF c27 c50 (lv_sub hl [2, 3, 4, 5, 6, 7, 8] rfl)
                  · have c86 : r66.toInt < (100000000 : Int) := wk_leF c86
                    refine lv_iload hx hb dX12_reaches_207 (lv_at hl 1 rfl) ?_
                    refine lv_aload_n hx hb dX12_reaches_209 rfl (lv_at hl 2 rfl) ?_
                    refine lv_iload hx hb dX12_reaches_210 (lv_at hl 8 rfl) ?_
                    refine lv_iconst (v := 2) hx hb dX12_reaches_212 (by decide) ?_
                    refine tk_Vi hC hK hw hT hA hE hSR kM_at0 (by decide) rfl (k_X12_streetOf_14 l adK adV dC dI cy ad B (by omega) (by omega) qr s1   v145_6 (show 0 ≤ v145_6.toInt by omega) (show v145_6.toInt ≤ 12 by omega) w12 H.size hT ) (cwV 2 hC.2.2.2.2 gX12_reaches_X12_streetOf rfl rfl rfl (by decide +kernel) ⟨Nat.le_of_ble_eq_true rfl, Nat.le_of_ble_eq_true rfl⟩) rfl hl.1 rfl (Nat.le_of_ble_eq_true rfl) dX12_reaches_213 (fun r88 w90 H locs hp89 hw => ?_)
                    obtain ⟨rfl, hg95⟩ := hp89
                    obtain ⟨g92, g93, c94⟩ := hg95
                    refine lv_iadd hx hb dX12_reaches_216 ?_
                    refine lv_topi (fun x96 ex96 => ?_)
                    have ex96 : x96.toInt = r66.toInt + r88.toInt := by rw [ex96]; exact wk_add (show (-2147483648) ≤ r66.toInt + r88.toInt by omega) (show r66.toInt + r88.toInt ≤ 2147483647 by omega)
                    refine lv_iload hx hb dX12_reaches_217 (lv_at hl 6 rfl) ?_
                    refine lv_icmp_gt (tgt := 259) hx hb dX12_reaches_219 (by decide) (fun c97 => ?_) (fun c97 => ?_)
                    · have c97 : a4.toInt < x96.toInt := wk_lt.mp c97
                      have gb98 : 0 ≤ sumG 19 10 w12 ∧ sumG 19 10 w12 ≤ 10 := hT.sum (lo := 0) (hi := 1) kM_at19 rfl (by decide) rfl
                      exact J259 x49 H locs ls w12 (show 0 ≤ a1.toInt by omega) (show a1.toInt ≤ 9 by omega) (show 0 ≤ a2.toInt by omega) (show a2.toInt ≤ 9 by omega) (show 0 ≤ a3.toInt by omega) (show a3.toInt ≤ 99999 by omega) (show 2000 ≤ a4.toInt by omega) (show a4.toInt ≤ 101999 by omega) (show 0 ≤ v145_5.toInt by omega) (show v145_5.toInt ≤ 9 by omega) (show 0 ≤ v145_6.toInt by omega) (show v145_6.toInt ≤ 12 by omega) (show 0 ≤ f145_12_0.toInt by omega) (show f145_12_0.toInt ≤ 10 by omega) (show 1 ≤ x49.toInt by omega) (show x49.toInt ≤ 13 by omega) (show (sumG 19 10 w1) + 1 ≤ (sumG 19 10 w12) by omega)  hw hT hF c27 c50 (lv_sub hl [2, 3, 4, 5, 6, 7, 8] rfl)
                    · have c97 : x96.toInt ≤ a4.toInt := wk_ltF c97
                      refine lv_iload hx hb dX12_reaches_222 (lv_at hl 1 rfl) ?_
                      refine lv_aload_n hx hb dX12_reaches_224 rfl (lv_at hl 2 rfl) ?_
                      refine lv_iload hx hb dX12_reaches_225 (lv_at hl 8 rfl) ?_
                      refine lv_iconst (v := 2) hx hb dX12_reaches_227 (by decide) ?_
                      refine tk_Vi hC hK hw hT hA hE hSR kM_at0 (by decide) rfl (k_X12_streetOf_14 l adK adV dC dI cy ad B (by omega) (by omega) qr s1   v145_6 (show 0 ≤ v145_6.toInt by omega) (show v145_6.toInt ≤ 12 by omega) w12 H.size hT ) (cwV 2 hC.2.2.2.2 gX12_reaches_X12_streetOf rfl rfl rfl (by decide +kernel) ⟨Nat.le_of_ble_eq_true rfl, Nat.le_of_ble_eq_true rfl⟩) rfl hl.1 rfl (Nat.le_of_ble_eq_true rfl) dX12_reaches_228 (fun r99 w101 H locs hp100 hw => ?_)
                      obtain ⟨rfl, hg106⟩ := hp100
                      obtain ⟨g103, g104, c105⟩ := hg106
                      obtain rfl : r88 = r99 := c94.symm.trans c105
                      refine lv_iadd hx hb dX12_reaches_231 ?_
                      refine lv_topi (fun x107 ex107 => ?_)
                      have ex107 : x107.toInt = r66.toInt + r88.toInt := by rw [ex107]; exact wk_add (show (-2147483648) ≤ r66.toInt + r88.toInt by omega) (show r66.toInt + r88.toInt ≤ 2147483647 by omega)
                      refine lv_aload_n hx hb dX12_reaches_232 rfl (lv_at hl 2 rfl) ?_
                      refine tk_getA hC hK hw hT hinX12 kM_at0 (by decide) rfl 35 (by decide) (List.mem_of_getElem? (i := 1) rfl) rfl rfl dX12_reaches_233 ?_
                      refine lv_iload hx hb dX12_reaches_236 (lv_at hl 0 rfl) ?_
                      refine tk_iald hC hK hw hT kM_at18 rfl rfl (show 0 ≤ r76.toInt by omega) (show r76.toInt < 10 by omega) dX12_reaches_238 (fun x108 c109 rx108 tx108 => ?_)
                      refine lv_icmp_ge (tgt := 259) hx hb dX12_reaches_239 (by decide) (fun c110 => ?_) (fun c110 => ?_)
                      · have c110 : x108.toInt ≤ x107.toInt := wk_le.mp c110
                        have gb111 : 0 ≤ sumG 19 10 w12 ∧ sumG 19 10 w12 ≤ 10 := hT.sum (lo := 0) (hi := 1) kM_at19 rfl (by decide) rfl
                        exact J259 x49 H locs ls w12 (show 0 ≤ a1.toInt by omega) (show a1.toInt ≤ 9 by omega) (show 0 ≤ a2.toInt by omega) (show a2.toInt ≤ 9 by omega) (show 0 ≤ a3.toInt by omega) (show a3.toInt ≤ 99999 by omega) (show 2000 ≤ a4.toInt by omega) (show a4.toInt ≤ 101999 by omega) (show 0 ≤ v145_5.toInt by omega) (show v145_5.toInt ≤ 9 by omega) (show 0 ≤ v145_6.toInt by omega) (show v145_6.toInt ≤ 12 by omega) (show 0 ≤ f145_12_0.toInt by omega) (show f145_12_0.toInt ≤ 10 by omega) (show 1 ≤ x49.toInt by omega) (show x49.toInt ≤ 13 by omega) (show (sumG 19 10 w1) + 1 ≤ (sumG 19 10 w12) by omega)  hw hT hF c27 c50 (lv_sub hl [2, 3, 4, 5, 6, 7, 8] rfl)
                      · have c110 : x107.toInt < x108.toInt := wk_leF c110
                        refine lv_aload_n hx hb dX12_reaches_242 rfl (lv_at hl 2 rfl) ?_
                        refine tk_getA hC hK hw hT hinX12 kM_at0 (by decide) rfl 35 (by decide) (List.mem_of_getElem? (i := 1) rfl) rfl rfl dX12_reaches_243 ?_
                        refine lv_iload hx hb dX12_reaches_246 (lv_at hl 0 rfl) ?_
                        refine lv_iload hx hb dX12_reaches_248 (lv_at hl 1 rfl) ?_
                        refine lv_aload_n hx hb dX12_reaches_250 rfl (lv_at hl 2 rfl) ?_
                        refine lv_iload hx hb dX12_reaches_251 (lv_at hl 8 rfl) ?_
                        refine lv_iconst (v := 2) hx hb dX12_reaches_253 (by decide) ?_
                        refine tk_Vi hC hK hw hT hA hE hSR kM_at0 (by decide) rfl (k_X12_streetOf_14 l adK adV dC dI cy ad B (by omega) (by omega) qr s1   v145_6 (show 0 ≤ v145_6.toInt by omega) (show v145_6.toInt ≤ 12 by omega) w12 H.size hT ) (cwV 2 hC.2.2.2.2 gX12_reaches_X12_streetOf rfl rfl rfl (by decide +kernel) ⟨Nat.le_of_ble_eq_true rfl, Nat.le_of_ble_eq_true rfl⟩) rfl hl.1 rfl (Nat.le_of_ble_eq_true rfl) dX12_reaches_254 (fun r112 w114 H locs hp113 hw => ?_)
                        obtain ⟨rfl, hg119⟩ := hp113
                        obtain ⟨g116, g117, c118⟩ := hg119
                        obtain rfl : r88 = r112 := c94.symm.trans c118
                        refine lv_iadd hx hb dX12_reaches_257 ?_
                        refine lv_topi (fun x120 ex120 => ?_)
                        have ex120 : x120.toInt = r66.toInt + r88.toInt := by rw [ex120]; exact wk_add (show (-2147483648) ≤ r66.toInt + r88.toInt by omega) (show r66.toInt + r88.toInt ≤ 2147483647 by omega)
                        refine tk_iast hC hK hw hT kM_at18 (by decide) rfl rfl (show 0 ≤ r76.toInt by omega) (show r76.toInt < 10 by omega) (show 0 ≤ x120.toInt by omega) (show x120.toInt ≤ 100000100 by omega) dX12_reaches_258 (fun H locs w121 hw hT k123 c122 => ?_)
                        have gs124 : sumG 19 10 w121 = sumG 19 10 w12 := sumG_ne 10 k123 (tk_ne kM_at19 kM_at18 (by decide))
                        have hF := hF.put kM_at18 (inE_of (a := 0) (b := 10) (by decide) (show 0 ≤ r76.toInt.toNat by omega) (show r76.toInt.toNat ≤ 10 by omega)) k123
                        have c125 := k123.gi (Or.inl (tk_ne kM_at12 kM_at18 (by decide))) c27
                        have c126 := k123.gi (Or.inl (tk_ne kM_at12 kM_at18 (by decide))) c50
                        have c127 := k123.gi (Or.inl (tk_ne kM_at12 kM_at18 (by decide))) c58
                        have c128 := k123.gi (Or.inl (tk_ne kM_at12 kM_at18 (by decide))) c94
                        have gb129 : 0 ≤ sumG 19 10 w121 ∧ sumG 19 10 w121 ≤ 10 := hT.sum (lo := 0) (hi := 1) kM_at19 rfl (by decide) rfl
                        exact J259 x49 H locs ls w121 (show 0 ≤ a1.toInt by omega) (show a1.toInt ≤ 9 by omega) (show 0 ≤ a2.toInt by omega) (show a2.toInt ≤ 9 by omega) (show 0 ≤ a3.toInt by omega) (show a3.toInt ≤ 99999 by omega) (show 2000 ≤ a4.toInt by omega) (show a4.toInt ≤ 101999 by omega) (show 0 ≤ v145_5.toInt by omega) (show v145_5.toInt ≤ 9 by omega) (show 0 ≤ v145_6.toInt by omega) (show v145_6.toInt ≤ 12 by omega) (show 0 ≤ f145_12_0.toInt by omega) (show f145_12_0.toInt ≤ 10 by omega) (show 1 ≤ x49.toInt by omega) (show x49.toInt ≤ 13 by omega) (show (sumG 19 10 w1) + 1 ≤ (sumG 19 10 w121) by omega)  hw hT hF c125 c126 (lv_sub hl [2, 3, 4, 5, 6, 7, 8] rfl)
                · refine lv_istore (lv' := [(8, .int r76), (7, .int r66), (0, .ref (ad 0)), (1, .int a1), (2, .int a2), (3, .int a3), (4, .int a4), (5, .int v145_5), (6, .int v145_6)]) hx hb dX12_reaches_197 hl (by decide) rfl (fun ls hl => ?_)
                  refine lv_iload hx hb dX12_reaches_199 (lv_at hl 1 rfl) ?_
                  refine lv_ldcw (v := 100000000) hx hb hC.2.2.2.1 (hC.2.2.2.2 _ (List.mem_of_getElem? (i := 2) rfl)) dX12_reaches_201 ?_
                  refine lv_icmp_ge (tgt := 259) hx hb dX12_reaches_204 (by decide) (fun c130 => ?_) (fun c130 => ?_)
                  · have c130 : (100000000 : Int) ≤ r66.toInt := wk_le.mp c130
                    have gb131 : 0 ≤ sumG 19 10 w12 ∧ sumG 19 10 w12 ≤ 10 := hT.sum (lo := 0) (hi := 1) kM_at19 rfl (by decide) rfl
                    exact J259 x49 H locs ls w12 (show 0 ≤ a1.toInt by omega) (show a1.toInt ≤ 9 by omega) (show 0 ≤ a2.toInt by omega) (show a2.toInt ≤ 9 by omega) (show 0 ≤ a3.toInt by omega) (show a3.toInt ≤ 99999 by omega) (show 2000 ≤ a4.toInt by omega) (show a4.toInt ≤ 101999 by omega) (show 0 ≤ v145_5.toInt by omega) (show v145_5.toInt ≤ 9 by omega) (show 0 ≤ v145_6.toInt by omega) (show v145_6.toInt ≤ 12 by omega) (show 0 ≤ f145_12_0.toInt by omega) (show f145_12_0.toInt ≤ 10 by omega) (show 1 ≤ x49.toInt by omega) (show x49.toInt ≤ 13 by omega) (show (sumG 19 10 w1) + 1 ≤ (sumG 19 10 w12) by omega)  hw hT hF c27 c50 (lv_sub hl [2, 3, 4, 5, 6, 7, 8] rfl)
                  · have c130 : r66.toInt < (100000000 : Int) := wk_leF c130
                    refine lv_iload hx hb dX12_reaches_207 (lv_at hl 1 rfl) ?_
                    refine lv_aload_n hx hb dX12_reaches_209 rfl (lv_at hl 2 rfl) ?_
                    refine lv_iload hx hb dX12_reaches_210 (lv_at hl 8 rfl) ?_
                    refine lv_iconst (v := 2) hx hb dX12_reaches_212 (by decide) ?_
                    refine tk_Vi hC hK hw hT hA hE hSR kM_at0 (by decide) rfl (k_X12_streetOf_14 l adK adV dC dI cy ad B (by omega) (by omega) qr s1   v145_6 (show 0 ≤ v145_6.toInt by omega) (show v145_6.toInt ≤ 12 by omega) w12 H.size hT ) (cwV 2 hC.2.2.2.2 gX12_reaches_X12_streetOf rfl rfl rfl (by decide +kernel) ⟨Nat.le_of_ble_eq_true rfl, Nat.le_of_ble_eq_true rfl⟩) rfl hl.1 rfl (Nat.le_of_ble_eq_true rfl) dX12_reaches_213 (fun r132 w134 H locs hp133 hw => ?_)
                    obtain ⟨rfl, hg139⟩ := hp133
                    obtain ⟨g136, g137, c138⟩ := hg139
                    refine lv_iadd hx hb dX12_reaches_216 ?_
                    refine lv_topi (fun x140 ex140 => ?_)
                    have ex140 : x140.toInt = r66.toInt + r132.toInt := by rw [ex140]; exact wk_add (show (-2147483648) ≤ r66.toInt + r132.toInt by omega) (show r66.toInt + r132.toInt ≤ 2147483647 by omega)
                    refine lv_iload hx hb dX12_reaches_217 (lv_at hl 6 rfl) ?_
                    refine lv_icmp_gt (tgt := 259) hx hb dX12_reaches_219 (by decide) (fun c141 => ?_) (fun c141 => ?_)
                    · have c141 : a4.toInt < x140.toInt := wk_lt.mp c141
                      have gb142 : 0 ≤ sumG 19 10 w12 ∧ sumG 19 10 w12 ≤ 10 := hT.sum (lo := 0) (hi := 1) kM_at19 rfl (by decide) rfl
                      exact J259 x49 H locs ls w12 (show 0 ≤ a1.toInt by omega) (show a1.toInt ≤ 9 by omega) (show 0 ≤ a2.toInt by omega) (show a2.toInt ≤ 9 by omega) (show 0 ≤ a3.toInt by omega) (show a3.toInt ≤ 99999 by omega) (show 2000 ≤ a4.toInt by omega) (show a4.toInt ≤ 101999 by omega) (show 0 ≤ v145_5.toInt by omega) (show v145_5.toInt ≤ 9 by omega) (show 0 ≤ v145_6.toInt by omega) (show v145_6.toInt ≤ 12 by omega) (show 0 ≤ f145_12_0.toInt by omega) (show f145_12_0.toInt ≤ 10 by omega) (show 1 ≤ x49.toInt by omega) (show x49.toInt ≤ 13 by omega) (show (sumG 19 10 w1) + 1 ≤ (sumG 19 10 w12) by omega)  hw hT hF c27 c50 (lv_sub hl [2, 3, 4, 5, 6, 7, 8] rfl)
                    · have c141 : x140.toInt ≤ a4.toInt := wk_ltF c141
                      refine lv_iload hx hb dX12_reaches_222 (lv_at hl 1 rfl) ?_
                      refine lv_aload_n hx hb dX12_reaches_224 rfl (lv_at hl 2 rfl) ?_
                      refine lv_iload hx hb dX12_reaches_225 (lv_at hl 8 rfl) ?_
                      refine lv_iconst (v := 2) hx hb dX12_reaches_227 (by decide) ?_
                      refine tk_Vi hC hK hw hT hA hE hSR kM_at0 (by decide) rfl (k_X12_streetOf_14 l adK adV dC dI cy ad B (by omega) (by omega) qr s1   v145_6 (show 0 ≤ v145_6.toInt by omega) (show v145_6.toInt ≤ 12 by omega) w12 H.size hT ) (cwV 2 hC.2.2.2.2 gX12_reaches_X12_streetOf rfl rfl rfl (by decide +kernel) ⟨Nat.le_of_ble_eq_true rfl, Nat.le_of_ble_eq_true rfl⟩) rfl hl.1 rfl (Nat.le_of_ble_eq_true rfl) dX12_reaches_228 (fun r143 w145 H locs hp144 hw => ?_)
                      obtain ⟨rfl, hg150⟩ := hp144
                      obtain ⟨g147, g148, c149⟩ := hg150
                      obtain rfl : r132 = r143 := c138.symm.trans c149
                      refine lv_iadd hx hb dX12_reaches_231 ?_
                      refine lv_topi (fun x151 ex151 => ?_)
                      have ex151 : x151.toInt = r66.toInt + r132.toInt := by rw [ex151]; exact wk_add (show (-2147483648) ≤ r66.toInt + r132.toInt by omega) (show r66.toInt + r132.toInt ≤ 2147483647 by omega)
                      refine lv_aload_n hx hb dX12_reaches_232 rfl (lv_at hl 2 rfl) ?_
                      refine tk_getA hC hK hw hT hinX12 kM_at0 (by decide) rfl 35 (by decide) (List.mem_of_getElem? (i := 1) rfl) rfl rfl dX12_reaches_233 ?_
                      refine lv_iload hx hb dX12_reaches_236 (lv_at hl 0 rfl) ?_
                      refine tk_iald hC hK hw hT kM_at18 rfl rfl (show 0 ≤ r76.toInt by omega) (show r76.toInt < 10 by omega) dX12_reaches_238 (fun x152 c153 rx152 tx152 => ?_)
                      refine lv_icmp_ge (tgt := 259) hx hb dX12_reaches_239 (by decide) (fun c154 => ?_) (fun c154 => ?_)
                      · have c154 : x152.toInt ≤ x151.toInt := wk_le.mp c154
                        have gb155 : 0 ≤ sumG 19 10 w12 ∧ sumG 19 10 w12 ≤ 10 := hT.sum (lo := 0) (hi := 1) kM_at19 rfl (by decide) rfl
                        exact J259 x49 H locs ls w12 (show 0 ≤ a1.toInt by omega) (show a1.toInt ≤ 9 by omega) (show 0 ≤ a2.toInt by omega) (show a2.toInt ≤ 9 by omega) (show 0 ≤ a3.toInt by omega) (show a3.toInt ≤ 99999 by omega) (show 2000 ≤ a4.toInt by omega) (show a4.toInt ≤ 101999 by omega) (show 0 ≤ v145_5.toInt by omega) (show v145_5.toInt ≤ 9 by omega) (show 0 ≤ v145_6.toInt by omega) (show v145_6.toInt ≤ 12 by omega) (show 0 ≤ f145_12_0.toInt by omega) (show f145_12_0.toInt ≤ 10 by omega) (show 1 ≤ x49.toInt by omega) (show x49.toInt ≤ 13 by omega) (show (sumG 19 10 w1) + 1 ≤ (sumG 19 10 w12) by omega)  hw hT hF c27 c50 (lv_sub hl [2, 3, 4, 5, 6, 7, 8] rfl)
                      · have c154 : x151.toInt < x152.toInt := wk_leF c154
                        refine lv_aload_n hx hb dX12_reaches_242 rfl (lv_at hl 2 rfl) ?_
                        refine tk_getA hC hK hw hT hinX12 kM_at0 (by decide) rfl 35 (by decide) (List.mem_of_getElem? (i := 1) rfl) rfl rfl dX12_reaches_243 ?_
                        refine lv_iload hx hb dX12_reaches_246 (lv_at hl 0 rfl) ?_
                        refine lv_iload hx hb dX12_reaches_248 (lv_at hl 1 rfl) ?_
                        refine lv_aload_n hx hb dX12_reaches_250 rfl (lv_at hl 2 rfl) ?_
                        refine lv_iload hx hb dX12_reaches_251 (lv_at hl 8 rfl) ?_
                        refine lv_iconst (v := 2) hx hb dX12_reaches_253 (by decide) ?_
                        refine tk_Vi hC hK hw hT hA hE hSR kM_at0 (by decide) rfl (k_X12_streetOf_14 l adK adV dC dI cy ad B (by omega) (by omega) qr s1   v145_6 (show 0 ≤ v145_6.toInt by omega) (show v145_6.toInt ≤ 12 by omega) w12 H.size hT ) (cwV 2 hC.2.2.2.2 gX12_reaches_X12_streetOf rfl rfl rfl (by decide +kernel) ⟨Nat.le_of_ble_eq_true rfl, Nat.le_of_ble_eq_true rfl⟩) rfl hl.1 rfl (Nat.le_of_ble_eq_true rfl) dX12_reaches_254 (fun r156 w158 H locs hp157 hw => ?_)
                        obtain ⟨rfl, hg163⟩ := hp157
                        obtain ⟨g160, g161, c162⟩ := hg163
                        obtain rfl : r132 = r156 := c138.symm.trans c162
                        refine lv_iadd hx hb dX12_reaches_257 ?_
                        refine lv_topi (fun x164 ex164 => ?_)
                        have ex164 : x164.toInt = r66.toInt + r132.toInt := by rw [ex164]; exact wk_add (show (-2147483648) ≤ r66.toInt + r132.toInt by omega) (show r66.toInt + r132.toInt ≤ 2147483647 by omega)
                        refine tk_iast hC hK hw hT kM_at18 (by decide) rfl rfl (show 0 ≤ r76.toInt by omega) (show r76.toInt < 10 by omega) (show 0 ≤ x164.toInt by omega) (show x164.toInt ≤ 100000100 by omega) dX12_reaches_258 (fun H locs w165 hw hT k167 c166 => ?_)
                        have gs168 : sumG 19 10 w165 = sumG 19 10 w12 := sumG_ne 10 k167 (tk_ne kM_at19 kM_at18 (by decide))
                        have hF := hF.put kM_at18 (inE_of (a := 0) (b := 10) (by decide) (show 0 ≤ r76.toInt.toNat by omega) (show r76.toInt.toNat ≤ 10 by omega)) k167
                        have c169 := k167.gi (Or.inl (tk_ne kM_at12 kM_at18 (by decide))) c27
                        have c170 := k167.gi (Or.inl (tk_ne kM_at12 kM_at18 (by decide))) c50
                        have c171 := k167.gi (Or.inl (tk_ne kM_at12 kM_at18 (by decide))) c58
                        have c172 := k167.gi (Or.inl (tk_ne kM_at12 kM_at18 (by decide))) c138
                        have gb173 : 0 ≤ sumG 19 10 w165 ∧ sumG 19 10 w165 ≤ 10 := hT.sum (lo := 0) (hi := 1) kM_at19 rfl (by decide) rfl
                        exact J259 x49 H locs ls w165 (show 0 ≤ a1.toInt by omega) (show a1.toInt ≤ 9 by omega) (show 0 ≤ a2.toInt by omega) (show a2.toInt ≤ 9 by omega) (show 0 ≤ a3.toInt by omega) (show a3.toInt ≤ 99999 by omega) (show 2000 ≤ a4.toInt by omega) (show a4.toInt ≤ 101999 by omega) (show 0 ≤ v145_5.toInt by omega) (show v145_5.toInt ≤ 9 by omega) (show 0 ≤ v145_6.toInt by omega) (show v145_6.toInt ≤ 12 by omega) (show 0 ≤ f145_12_0.toInt by omega) (show f145_12_0.toInt ≤ 10 by omega) (show 1 ≤ x49.toInt by omega) (show x49.toInt ≤ 13 by omega) (show (sumG 19 10 w1) + 1 ≤ (sumG 19 10 w165) by omega)  hw hT hF c169 c170 (lv_sub hl [2, 3, 4, 5, 6, 7, 8] rfl)
              · refine lv_istore (lv' := [(7, .int r66), (0, .ref (ad 0)), (1, .int a1), (2, .int a2), (3, .int a3), (4, .int a4), (5, .int v145_5), (6, .int v145_6)]) hx hb dX12_reaches_187 hl (by decide) rfl (fun ls hl => ?_)
                refine lv_aload_n hx hb dX12_reaches_189 rfl (lv_at hl 1 rfl) ?_
                refine lv_iload hx hb dX12_reaches_190 (lv_at hl 7 rfl) ?_
                refine lv_iload hx hb dX12_reaches_192 (lv_at hl 6 rfl) ?_
                refine tk_Vi hC hK hw hT hA hE hSR kM_at0 (by decide) rfl (k_X12_otherOf_3 l adK adV dC dI cy ad B (by omega) (by omega) qr s1   v145_6 (show 0 ≤ v145_6.toInt by omega) (show v145_6.toInt ≤ 12 by omega) v145_5 (show 0 ≤ v145_5.toInt by omega) (show v145_5.toInt ≤ 9 by omega) w12 H.size hT ) (cwV 2 hC.2.2.2.2 gX12_reaches_X12_otherOf rfl rfl rfl (by decide +kernel) ⟨Nat.le_of_ble_eq_true rfl, Nat.le_of_ble_eq_true rfl⟩) rfl hl.1 rfl (Nat.le_of_ble_eq_true rfl) dX12_reaches_194 (fun r174 w176 H locs hp175 hw => ?_)
                obtain ⟨rfl, hg183⟩ := hp175
                rcases hg183 with ⟨g178, g179⟩ | ⟨g180, g181, c182⟩
                · refine lv_istore (lv' := [(8, .int r174), (7, .int r66), (0, .ref (ad 0)), (1, .int a1), (2, .int a2), (3, .int a3), (4, .int a4), (5, .int v145_5), (6, .int v145_6)]) hx hb dX12_reaches_197 hl (by decide) rfl (fun ls hl => ?_)
                  refine lv_iload hx hb dX12_reaches_199 (lv_at hl 1 rfl) ?_
                  refine lv_ldcw (v := 100000000) hx hb hC.2.2.2.1 (hC.2.2.2.2 _ (List.mem_of_getElem? (i := 2) rfl)) dX12_reaches_201 ?_
                  refine lv_icmp_ge (tgt := 259) hx hb dX12_reaches_204 (by decide) (fun c => absurd c (fun h => absurd (show (100000000 : Int) ≤ r66.toInt from wk_le.mp h) (by omega))) (fun _ => ?_)
                  refine lv_iload hx hb dX12_reaches_207 (lv_at hl 1 rfl) ?_
                  refine lv_aload_n hx hb dX12_reaches_209 rfl (lv_at hl 2 rfl) ?_
                  refine lv_iload hx hb dX12_reaches_210 (lv_at hl 8 rfl) ?_
                  refine lv_iconst (v := 2) hx hb dX12_reaches_212 (by decide) ?_
                  refine tk_Vi hC hK hw hT hA hE hSR kM_at0 (by decide) rfl (k_X12_streetOf_14 l adK adV dC dI cy ad B (by omega) (by omega) qr s1   v145_6 (show 0 ≤ v145_6.toInt by omega) (show v145_6.toInt ≤ 12 by omega) w12 H.size hT ) (cwV 2 hC.2.2.2.2 gX12_reaches_X12_streetOf rfl rfl rfl (by decide +kernel) ⟨Nat.le_of_ble_eq_true rfl, Nat.le_of_ble_eq_true rfl⟩) rfl hl.1 rfl (Nat.le_of_ble_eq_true rfl) dX12_reaches_213 (fun r184 w186 H locs hp185 hw => ?_)
                  obtain ⟨rfl, hg191⟩ := hp185
                  obtain ⟨g188, g189, c190⟩ := hg191
                  refine lv_iadd hx hb dX12_reaches_216 ?_
                  refine lv_topi (fun x192 ex192 => ?_)
                  have ex192 : x192.toInt = r66.toInt + r184.toInt := by rw [ex192]; exact wk_add (show (-2147483648) ≤ r66.toInt + r184.toInt by omega) (show r66.toInt + r184.toInt ≤ 2147483647 by omega)
                  refine lv_iload hx hb dX12_reaches_217 (lv_at hl 6 rfl) ?_
                  refine lv_icmp_gt (tgt := 259) hx hb dX12_reaches_219 (by decide) (fun c193 => ?_) (fun c193 => ?_)
                  · have c193 : a4.toInt < x192.toInt := wk_lt.mp c193
                    have gb194 : 0 ≤ sumG 19 10 w12 ∧ sumG 19 10 w12 ≤ 10 := hT.sum (lo := 0) (hi := 1) kM_at19 rfl (by decide) rfl
                    exact J259 x49 H locs ls w12 (show 0 ≤ a1.toInt by omega) (show a1.toInt ≤ 9 by omega) (show 0 ≤ a2.toInt by omega) (show a2.toInt ≤ 9 by omega) (show 0 ≤ a3.toInt by omega) (show a3.toInt ≤ 99999 by omega) (show 2000 ≤ a4.toInt by omega) (show a4.toInt ≤ 101999 by omega) (show 0 ≤ v145_5.toInt by omega) (show v145_5.toInt ≤ 9 by omega) (show 0 ≤ v145_6.toInt by omega) (show v145_6.toInt ≤ 12 by omega) (show 0 ≤ f145_12_0.toInt by omega) (show f145_12_0.toInt ≤ 10 by omega) (show 1 ≤ x49.toInt by omega) (show x49.toInt ≤ 13 by omega) (show (sumG 19 10 w1) + 1 ≤ (sumG 19 10 w12) by omega)  hw hT hF c27 c50 (lv_sub hl [2, 3, 4, 5, 6, 7, 8] rfl)
                  · have c193 : x192.toInt ≤ a4.toInt := wk_ltF c193
                    refine lv_iload hx hb dX12_reaches_222 (lv_at hl 1 rfl) ?_
                    refine lv_aload_n hx hb dX12_reaches_224 rfl (lv_at hl 2 rfl) ?_
                    refine lv_iload hx hb dX12_reaches_225 (lv_at hl 8 rfl) ?_
                    refine lv_iconst (v := 2) hx hb dX12_reaches_227 (by decide) ?_
                    refine tk_Vi hC hK hw hT hA hE hSR kM_at0 (by decide) rfl (k_X12_streetOf_14 l adK adV dC dI cy ad B (by omega) (by omega) qr s1   v145_6 (show 0 ≤ v145_6.toInt by omega) (show v145_6.toInt ≤ 12 by omega) w12 H.size hT ) (cwV 2 hC.2.2.2.2 gX12_reaches_X12_streetOf rfl rfl rfl (by decide +kernel) ⟨Nat.le_of_ble_eq_true rfl, Nat.le_of_ble_eq_true rfl⟩) rfl hl.1 rfl (Nat.le_of_ble_eq_true rfl) dX12_reaches_228 (fun r195 w197 H locs hp196 hw => ?_)
                    obtain ⟨rfl, hg202⟩ := hp196
                    obtain ⟨g199, g200, c201⟩ := hg202
                    obtain rfl : r184 = r195 := c190.symm.trans c201
                    refine lv_iadd hx hb dX12_reaches_231 ?_
                    refine lv_topi (fun x203 ex203 => ?_)
                    have ex203 : x203.toInt = r66.toInt + r184.toInt := by rw [ex203]; exact wk_add (show (-2147483648) ≤ r66.toInt + r184.toInt by omega) (show r66.toInt + r184.toInt ≤ 2147483647 by omega)
                    refine lv_aload_n hx hb dX12_reaches_232 rfl (lv_at hl 2 rfl) ?_
                    refine tk_getA hC hK hw hT hinX12 kM_at0 (by decide) rfl 35 (by decide) (List.mem_of_getElem? (i := 1) rfl) rfl rfl dX12_reaches_233 ?_
                    refine lv_iload hx hb dX12_reaches_236 (lv_at hl 0 rfl) ?_
                    refine tk_iald hC hK hw hT kM_at18 rfl rfl (show 0 ≤ r174.toInt by omega) (show r174.toInt < 10 by omega) dX12_reaches_238 (fun x204 c205 rx204 tx204 => ?_)
                    refine lv_icmp_ge (tgt := 259) hx hb dX12_reaches_239 (by decide) (fun c206 => ?_) (fun c206 => ?_)
                    · have c206 : x204.toInt ≤ x203.toInt := wk_le.mp c206
                      have gb207 : 0 ≤ sumG 19 10 w12 ∧ sumG 19 10 w12 ≤ 10 := hT.sum (lo := 0) (hi := 1) kM_at19 rfl (by decide) rfl
                      exact J259 x49 H locs ls w12 (show 0 ≤ a1.toInt by omega) (show a1.toInt ≤ 9 by omega) (show 0 ≤ a2.toInt by omega) (show a2.toInt ≤ 9 by omega) (show 0 ≤ a3.toInt by omega) (show a3.toInt ≤ 99999 by omega) (show 2000 ≤ a4.toInt by omega) (show a4.toInt ≤ 101999 by omega) (show 0 ≤ v145_5.toInt by omega) (show v145_5.toInt ≤ 9 by omega) (show 0 ≤ v145_6.toInt by omega) (show v145_6.toInt ≤ 12 by omega) (show 0 ≤ f145_12_0.toInt by omega) (show f145_12_0.toInt ≤ 10 by omega) (show 1 ≤ x49.toInt by omega) (show x49.toInt ≤ 13 by omega) (show (sumG 19 10 w1) + 1 ≤ (sumG 19 10 w12) by omega)  hw hT hF c27 c50 (lv_sub hl [2, 3, 4, 5, 6, 7, 8] rfl)
                    · have c206 : x203.toInt < x204.toInt := wk_leF c206
                      refine lv_aload_n hx hb dX12_reaches_242 rfl (lv_at hl 2 rfl) ?_
                      refine tk_getA hC hK hw hT hinX12 kM_at0 (by decide) rfl 35 (by decide) (List.mem_of_getElem? (i := 1) rfl) rfl rfl dX12_reaches_243 ?_
                      refine lv_iload hx hb dX12_reaches_246 (lv_at hl 0 rfl) ?_
                      refine lv_iload hx hb dX12_reaches_248 (lv_at hl 1 rfl) ?_
                      refine lv_aload_n hx hb dX12_reaches_250 rfl (lv_at hl 2 rfl) ?_
                      refine lv_iload hx hb dX12_reaches_251 (lv_at hl 8 rfl) ?_
                      refine lv_iconst (v := 2) hx hb dX12_reaches_253 (by decide) ?_
                      refine tk_Vi hC hK hw hT hA hE hSR kM_at0 (by decide) rfl (k_X12_streetOf_14 l adK adV dC dI cy ad B (by omega) (by omega) qr s1   v145_6 (show 0 ≤ v145_6.toInt by omega) (show v145_6.toInt ≤ 12 by omega) w12 H.size hT ) (cwV 2 hC.2.2.2.2 gX12_reaches_X12_streetOf rfl rfl rfl (by decide +kernel) ⟨Nat.le_of_ble_eq_true rfl, Nat.le_of_ble_eq_true rfl⟩) rfl hl.1 rfl (Nat.le_of_ble_eq_true rfl) dX12_reaches_254 (fun r208 w210 H locs hp209 hw => ?_)
                      obtain ⟨rfl, hg215⟩ := hp209
                      obtain ⟨g212, g213, c214⟩ := hg215
                      obtain rfl : r184 = r208 := c190.symm.trans c214
                      refine lv_iadd hx hb dX12_reaches_257 ?_
                      refine lv_topi (fun x216 ex216 => ?_)
                      have ex216 : x216.toInt = r66.toInt + r184.toInt := by rw [ex216]; exact wk_add (show (-2147483648) ≤ r66.toInt + r184.toInt by omega) (show r66.toInt + r184.toInt ≤ 2147483647 by omega)
                      refine tk_iast hC hK hw hT kM_at18 (by decide) rfl rfl (show 0 ≤ r174.toInt by omega) (show r174.toInt < 10 by omega) (show 0 ≤ x216.toInt by omega) (show x216.toInt ≤ 100000100 by omega) dX12_reaches_258 (fun H locs w217 hw hT k219 c218 => ?_)
                      have gs220 : sumG 19 10 w217 = sumG 19 10 w12 := sumG_ne 10 k219 (tk_ne kM_at19 kM_at18 (by decide))
                      have hF := hF.put kM_at18 (inE_of (a := 0) (b := 10) (by decide) (show 0 ≤ r174.toInt.toNat by omega) (show r174.toInt.toNat ≤ 10 by omega)) k219
                      have c221 := k219.gi (Or.inl (tk_ne kM_at12 kM_at18 (by decide))) c27
                      have c222 := k219.gi (Or.inl (tk_ne kM_at12 kM_at18 (by decide))) c50
                      have c223 := k219.gi (Or.inl (tk_ne kM_at12 kM_at18 (by decide))) c58
                      have c224 := k219.gi (Or.inl (tk_ne kM_at12 kM_at18 (by decide))) c190
                      have gb225 : 0 ≤ sumG 19 10 w217 ∧ sumG 19 10 w217 ≤ 10 := hT.sum (lo := 0) (hi := 1) kM_at19 rfl (by decide) rfl
                      exact J259 x49 H locs ls w217 (show 0 ≤ a1.toInt by omega) (show a1.toInt ≤ 9 by omega) (show 0 ≤ a2.toInt by omega) (show a2.toInt ≤ 9 by omega) (show 0 ≤ a3.toInt by omega) (show a3.toInt ≤ 99999 by omega) (show 2000 ≤ a4.toInt by omega) (show a4.toInt ≤ 101999 by omega) (show 0 ≤ v145_5.toInt by omega) (show v145_5.toInt ≤ 9 by omega) (show 0 ≤ v145_6.toInt by omega) (show v145_6.toInt ≤ 12 by omega) (show 0 ≤ f145_12_0.toInt by omega) (show f145_12_0.toInt ≤ 10 by omega) (show 1 ≤ x49.toInt by omega) (show x49.toInt ≤ 13 by omega) (show (sumG 19 10 w1) + 1 ≤ (sumG 19 10 w217) by omega)  hw hT hF c221 c222 (lv_sub hl [2, 3, 4, 5, 6, 7, 8] rfl)
                · refine lv_istore (lv' := [(8, .int r174), (7, .int r66), (0, .ref (ad 0)), (1, .int a1), (2, .int a2), (3, .int a3), (4, .int a4), (5, .int v145_5), (6, .int v145_6)]) hx hb dX12_reaches_197 hl (by decide) rfl (fun ls hl => ?_)
                  refine lv_iload hx hb dX12_reaches_199 (lv_at hl 1 rfl) ?_
                  refine lv_ldcw (v := 100000000) hx hb hC.2.2.2.1 (hC.2.2.2.2 _ (List.mem_of_getElem? (i := 2) rfl)) dX12_reaches_201 ?_
                  refine lv_icmp_ge (tgt := 259) hx hb dX12_reaches_204 (by decide) (fun c => absurd c (fun h => absurd (show (100000000 : Int) ≤ r66.toInt from wk_le.mp h) (by omega))) (fun _ => ?_)
                  refine lv_iload hx hb dX12_reaches_207 (lv_at hl 1 rfl) ?_
                  refine lv_aload_n hx hb dX12_reaches_209 rfl (lv_at hl 2 rfl) ?_
                  refine lv_iload hx hb dX12_reaches_210 (lv_at hl 8 rfl) ?_
                  refine lv_iconst (v := 2) hx hb dX12_reaches_212 (by decide) ?_
                  refine tk_Vi hC hK hw hT hA hE hSR kM_at0 (by decide) rfl (k_X12_streetOf_14 l adK adV dC dI cy ad B (by omega) (by omega) qr s1   v145_6 (show 0 ≤ v145_6.toInt by omega) (show v145_6.toInt ≤ 12 by omega) w12 H.size hT ) (cwV 2 hC.2.2.2.2 gX12_reaches_X12_streetOf rfl rfl rfl (by decide +kernel) ⟨Nat.le_of_ble_eq_true rfl, Nat.le_of_ble_eq_true rfl⟩) rfl hl.1 rfl (Nat.le_of_ble_eq_true rfl) dX12_reaches_213 (fun r226 w228 H locs hp227 hw => ?_)
                  obtain ⟨rfl, hg233⟩ := hp227
                  obtain ⟨g230, g231, c232⟩ := hg233
                  refine lv_iadd hx hb dX12_reaches_216 ?_
                  refine lv_topi (fun x234 ex234 => ?_)
                  have ex234 : x234.toInt = r66.toInt + r226.toInt := by rw [ex234]; exact wk_add (show (-2147483648) ≤ r66.toInt + r226.toInt by omega) (show r66.toInt + r226.toInt ≤ 2147483647 by omega)
                  refine lv_iload hx hb dX12_reaches_217 (lv_at hl 6 rfl) ?_
                  refine lv_icmp_gt (tgt := 259) hx hb dX12_reaches_219 (by decide) (fun c235 => ?_) (fun c235 => ?_)
                  · have c235 : a4.toInt < x234.toInt := wk_lt.mp c235
                    have gb236 : 0 ≤ sumG 19 10 w12 ∧ sumG 19 10 w12 ≤ 10 := hT.sum (lo := 0) (hi := 1) kM_at19 rfl (by decide) rfl
                    exact J259 x49 H locs ls w12 (show 0 ≤ a1.toInt by omega) (show a1.toInt ≤ 9 by omega) (show 0 ≤ a2.toInt by omega) (show a2.toInt ≤ 9 by omega) (show 0 ≤ a3.toInt by omega) (show a3.toInt ≤ 99999 by omega) (show 2000 ≤ a4.toInt by omega) (show a4.toInt ≤ 101999 by omega) (show 0 ≤ v145_5.toInt by omega) (show v145_5.toInt ≤ 9 by omega) (show 0 ≤ v145_6.toInt by omega) (show v145_6.toInt ≤ 12 by omega) (show 0 ≤ f145_12_0.toInt by omega) (show f145_12_0.toInt ≤ 10 by omega) (show 1 ≤ x49.toInt by omega) (show x49.toInt ≤ 13 by omega) (show (sumG 19 10 w1) + 1 ≤ (sumG 19 10 w12) by omega)  hw hT hF c27 c50 (lv_sub hl [2, 3, 4, 5, 6, 7, 8] rfl)
                  · have c235 : x234.toInt ≤ a4.toInt := wk_ltF c235
                    refine lv_iload hx hb dX12_reaches_222 (lv_at hl 1 rfl) ?_
                    refine lv_aload_n hx hb dX12_reaches_224 rfl (lv_at hl 2 rfl) ?_
                    refine lv_iload hx hb dX12_reaches_225 (lv_at hl 8 rfl) ?_
                    refine lv_iconst (v := 2) hx hb dX12_reaches_227 (by decide) ?_
                    refine tk_Vi hC hK hw hT hA hE hSR kM_at0 (by decide) rfl (k_X12_streetOf_14 l adK adV dC dI cy ad B (by omega) (by omega) qr s1   v145_6 (show 0 ≤ v145_6.toInt by omega) (show v145_6.toInt ≤ 12 by omega) w12 H.size hT ) (cwV 2 hC.2.2.2.2 gX12_reaches_X12_streetOf rfl rfl rfl (by decide +kernel) ⟨Nat.le_of_ble_eq_true rfl, Nat.le_of_ble_eq_true rfl⟩) rfl hl.1 rfl (Nat.le_of_ble_eq_true rfl) dX12_reaches_228 (fun r237 w239 H locs hp238 hw => ?_)
                    obtain ⟨rfl, hg244⟩ := hp238
                    obtain ⟨g241, g242, c243⟩ := hg244
                    obtain rfl : r226 = r237 := c232.symm.trans c243
                    refine lv_iadd hx hb dX12_reaches_231 ?_
                    refine lv_topi (fun x245 ex245 => ?_)
                    have ex245 : x245.toInt = r66.toInt + r226.toInt := by rw [ex245]; exact wk_add (show (-2147483648) ≤ r66.toInt + r226.toInt by omega) (show r66.toInt + r226.toInt ≤ 2147483647 by omega)
                    refine lv_aload_n hx hb dX12_reaches_232 rfl (lv_at hl 2 rfl) ?_
                    refine tk_getA hC hK hw hT hinX12 kM_at0 (by decide) rfl 35 (by decide) (List.mem_of_getElem? (i := 1) rfl) rfl rfl dX12_reaches_233 ?_
                    refine lv_iload hx hb dX12_reaches_236 (lv_at hl 0 rfl) ?_
                    refine tk_iald hC hK hw hT kM_at18 rfl rfl (show 0 ≤ r174.toInt by omega) (show r174.toInt < 10 by omega) dX12_reaches_238 (fun x246 c247 rx246 tx246 => ?_)
                    refine lv_icmp_ge (tgt := 259) hx hb dX12_reaches_239 (by decide) (fun c248 => ?_) (fun c248 => ?_)
                    · have c248 : x246.toInt ≤ x245.toInt := wk_le.mp c248
                      have gb249 : 0 ≤ sumG 19 10 w12 ∧ sumG 19 10 w12 ≤ 10 := hT.sum (lo := 0) (hi := 1) kM_at19 rfl (by decide) rfl
                      exact J259 x49 H locs ls w12 (show 0 ≤ a1.toInt by omega) (show a1.toInt ≤ 9 by omega) (show 0 ≤ a2.toInt by omega) (show a2.toInt ≤ 9 by omega) (show 0 ≤ a3.toInt by omega) (show a3.toInt ≤ 99999 by omega) (show 2000 ≤ a4.toInt by omega) (show a4.toInt ≤ 101999 by omega) (show 0 ≤ v145_5.toInt by omega) (show v145_5.toInt ≤ 9 by omega) (show 0 ≤ v145_6.toInt by omega) (show v145_6.toInt ≤ 12 by omega) (show 0 ≤ f145_12_0.toInt by omega) (show f145_12_0.toInt ≤ 10 by omega) (show 1 ≤ x49.toInt by omega) (show x49.toInt ≤ 13 by omega) (show (sumG 19 10 w1) + 1 ≤ (sumG 19 10 w12) by omega)  hw hT hF c27 c50 (lv_sub hl [2, 3, 4, 5, 6, 7, 8] rfl)
                    · have c248 : x245.toInt < x246.toInt := wk_leF c248
                      refine lv_aload_n hx hb dX12_reaches_242 rfl (lv_at hl 2 rfl) ?_
                      refine tk_getA hC hK hw hT hinX12 kM_at0 (by decide) rfl 35 (by decide) (List.mem_of_getElem? (i := 1) rfl) rfl rfl dX12_reaches_243 ?_
                      refine lv_iload hx hb dX12_reaches_246 (lv_at hl 0 rfl) ?_
                      refine lv_iload hx hb dX12_reaches_248 (lv_at hl 1 rfl) ?_
                      refine lv_aload_n hx hb dX12_reaches_250 rfl (lv_at hl 2 rfl) ?_
                      refine lv_iload hx hb dX12_reaches_251 (lv_at hl 8 rfl) ?_
                      refine lv_iconst (v := 2) hx hb dX12_reaches_253 (by decide) ?_
                      refine tk_Vi hC hK hw hT hA hE hSR kM_at0 (by decide) rfl (k_X12_streetOf_14 l adK adV dC dI cy ad B (by omega) (by omega) qr s1   v145_6 (show 0 ≤ v145_6.toInt by omega) (show v145_6.toInt ≤ 12 by omega) w12 H.size hT ) (cwV 2 hC.2.2.2.2 gX12_reaches_X12_streetOf rfl rfl rfl (by decide +kernel) ⟨Nat.le_of_ble_eq_true rfl, Nat.le_of_ble_eq_true rfl⟩) rfl hl.1 rfl (Nat.le_of_ble_eq_true rfl) dX12_reaches_254 (fun r250 w252 H locs hp251 hw => ?_)
                      obtain ⟨rfl, hg257⟩ := hp251
                      obtain ⟨g254, g255, c256⟩ := hg257
                      obtain rfl : r226 = r250 := c232.symm.trans c256
                      refine lv_iadd hx hb dX12_reaches_257 ?_
                      refine lv_topi (fun x258 ex258 => ?_)
                      have ex258 : x258.toInt = r66.toInt + r226.toInt := by rw [ex258]; exact wk_add (show (-2147483648) ≤ r66.toInt + r226.toInt by omega) (show r66.toInt + r226.toInt ≤ 2147483647 by omega)
                      refine tk_iast hC hK hw hT kM_at18 (by decide) rfl rfl (show 0 ≤ r174.toInt by omega) (show r174.toInt < 10 by omega) (show 0 ≤ x258.toInt by omega) (show x258.toInt ≤ 100000100 by omega) dX12_reaches_258 (fun H locs w259 hw hT k261 c260 => ?_)
                      have gs262 : sumG 19 10 w259 = sumG 19 10 w12 := sumG_ne 10 k261 (tk_ne kM_at19 kM_at18 (by decide))
                      have hF := hF.put kM_at18 (inE_of (a := 0) (b := 10) (by decide) (show 0 ≤ r174.toInt.toNat by omega) (show r174.toInt.toNat ≤ 10 by omega)) k261
                      have c263 := k261.gi (Or.inl (tk_ne kM_at12 kM_at18 (by decide))) c27
                      have c264 := k261.gi (Or.inl (tk_ne kM_at12 kM_at18 (by decide))) c50
                      have c265 := k261.gi (Or.inl (tk_ne kM_at12 kM_at18 (by decide))) c58
                      have c266 := k261.gi (Or.inl (tk_ne kM_at12 kM_at18 (by decide))) c232
                      have gb267 : 0 ≤ sumG 19 10 w259 ∧ sumG 19 10 w259 ≤ 10 := hT.sum (lo := 0) (hi := 1) kM_at19 rfl (by decide) rfl
                      exact J259 x49 H locs ls w259 (show 0 ≤ a1.toInt by omega) (show a1.toInt ≤ 9 by omega) (show 0 ≤ a2.toInt by omega) (show a2.toInt ≤ 9 by omega) (show 0 ≤ a3.toInt by omega) (show a3.toInt ≤ 99999 by omega) (show 2000 ≤ a4.toInt by omega) (show a4.toInt ≤ 101999 by omega) (show 0 ≤ v145_5.toInt by omega) (show v145_5.toInt ≤ 9 by omega) (show 0 ≤ v145_6.toInt by omega) (show v145_6.toInt ≤ 12 by omega) (show 0 ≤ f145_12_0.toInt by omega) (show f145_12_0.toInt ≤ 10 by omega) (show 1 ≤ x49.toInt by omega) (show x49.toInt ≤ 13 by omega) (show (sumG 19 10 w1) + 1 ≤ (sumG 19 10 w259) by omega)  hw hT hF c263 c264 (lv_sub hl [2, 3, 4, 5, 6, 7, 8] rfl)
            · refine lv_if_ne (tgt := 170) hx hb dX12_reaches_164 (by decide) (fun _ => ?_) (fun c => absurd c (by decide))
              refine lv_aload_n hx hb dX12_reaches_170 rfl (lv_at hl 0 rfl) ?_
              refine lv_iload hx hb dX12_reaches_171 (lv_at hl 6 rfl) ?_
              refine lv_iload hx hb dX12_reaches_173 (lv_at hl 5 rfl) ?_
              refine lv_aload_n hx hb dX12_reaches_175 rfl (lv_at hl 0 rfl) ?_
              refine tk_getA hC hK hw hT hinX12 kM_at0 (by decide) rfl 35 (by decide) (List.mem_of_getElem? (i := 1) rfl) rfl rfl dX12_reaches_176 ?_
              refine lv_iload hx hb dX12_reaches_179 (lv_at hl 5 rfl) ?_
              refine tk_iald hC hK hw hT kM_at18 rfl rfl (show 0 ≤ v145_5.toInt by omega) (show v145_5.toInt < 10 by omega) dX12_reaches_181 (fun x268 c269 rx268 tx268 => ?_)
              refine lv_iload hx hb dX12_reaches_182 (lv_at hl 4 rfl) ?_
              refine tk_Vi hC hK hw hT hA hE hSR kM_at0 (by decide) rfl (k_X12_firstOpen_4 l adK adV dC dI cy ad B (by omega) (by omega) qr s1   v145_6 (show 0 ≤ v145_6.toInt by omega) (show v145_6.toInt ≤ 12 by omega) v145_5 (show 0 ≤ v145_5.toInt by omega) (show v145_5.toInt ≤ 9 by omega) x268 (show 0 ≤ x268.toInt by omega) (show x268.toInt ≤ 100000100 by omega) a4 (show 2000 ≤ a4.toInt by omega) (show a4.toInt ≤ 101999 by omega) w12 H.size hT ) (cwV 4 hC.2.2.2.2 gX12_reaches_X12_firstOpen rfl rfl rfl (by decide +kernel) ⟨Nat.le_of_ble_eq_true rfl, Nat.le_of_ble_eq_true rfl⟩) rfl hl.1 rfl (Nat.le_of_ble_eq_true rfl) dX12_reaches_184 (fun r270 w272 H locs hp271 hw => ?_)
              obtain ⟨rfl, hg279⟩ := hp271
              rcases hg279 with ⟨g274, g275⟩ | ⟨g276, g277, c278⟩
              · refine lv_istore (lv' := [(7, .int r270), (0, .ref (ad 0)), (1, .int a1), (2, .int a2), (3, .int a3), (4, .int a4), (5, .int v145_5), (6, .int v145_6)]) hx hb dX12_reaches_187 hl (by decide) rfl (fun ls hl => ?_)
                refine lv_aload_n hx hb dX12_reaches_189 rfl (lv_at hl 1 rfl) ?_
                refine lv_iload hx hb dX12_reaches_190 (lv_at hl 7 rfl) ?_
                refine lv_iload hx hb dX12_reaches_192 (lv_at hl 6 rfl) ?_
                refine tk_Vi hC hK hw hT hA hE hSR kM_at0 (by decide) rfl (k_X12_otherOf_3 l adK adV dC dI cy ad B (by omega) (by omega) qr s1   v145_6 (show 0 ≤ v145_6.toInt by omega) (show v145_6.toInt ≤ 12 by omega) v145_5 (show 0 ≤ v145_5.toInt by omega) (show v145_5.toInt ≤ 9 by omega) w12 H.size hT ) (cwV 2 hC.2.2.2.2 gX12_reaches_X12_otherOf rfl rfl rfl (by decide +kernel) ⟨Nat.le_of_ble_eq_true rfl, Nat.le_of_ble_eq_true rfl⟩) rfl hl.1 rfl (Nat.le_of_ble_eq_true rfl) dX12_reaches_194 (fun r280 w282 H locs hp281 hw => ?_)
                obtain ⟨rfl, hg289⟩ := hp281
                rcases hg289 with ⟨g284, g285⟩ | ⟨g286, g287, c288⟩
                · refine lv_istore (lv' := [(8, .int r280), (7, .int r270), (0, .ref (ad 0)), (1, .int a1), (2, .int a2), (3, .int a3), (4, .int a4), (5, .int v145_5), (6, .int v145_6)]) hx hb dX12_reaches_197 hl (by decide) rfl (fun ls hl => ?_)
                  refine lv_iload hx hb dX12_reaches_199 (lv_at hl 1 rfl) ?_
                  refine lv_ldcw (v := 100000000) hx hb hC.2.2.2.1 (hC.2.2.2.2 _ (List.mem_of_getElem? (i := 2) rfl)) dX12_reaches_201 ?_
                  refine lv_icmp_ge (tgt := 259) hx hb dX12_reaches_204 (by decide) (fun c290 => ?_) (fun c290 => ?_)
                  · have c290 : (100000000 : Int) ≤ r270.toInt := wk_le.mp c290
                    have gb291 : 0 ≤ sumG 19 10 w12 ∧ sumG 19 10 w12 ≤ 10 := hT.sum (lo := 0) (hi := 1) kM_at19 rfl (by decide) rfl
                    exact J259 x49 H locs ls w12 (show 0 ≤ a1.toInt by omega) (show a1.toInt ≤ 9 by omega) (show 0 ≤ a2.toInt by omega) (show a2.toInt ≤ 9 by omega) (show 0 ≤ a3.toInt by omega) (show a3.toInt ≤ 99999 by omega) (show 2000 ≤ a4.toInt by omega) (show a4.toInt ≤ 101999 by omega) (show 0 ≤ v145_5.toInt by omega) (show v145_5.toInt ≤ 9 by omega) (show 0 ≤ v145_6.toInt by omega) (show v145_6.toInt ≤ 12 by omega) (show 0 ≤ f145_12_0.toInt by omega) (show f145_12_0.toInt ≤ 10 by omega) (show 1 ≤ x49.toInt by omega) (show x49.toInt ≤ 13 by omega) (show (sumG 19 10 w1) + 1 ≤ (sumG 19 10 w12) by omega)  hw hT hF c27 c50 (lv_sub hl [2, 3, 4, 5, 6, 7, 8] rfl)
                  · have c290 : r270.toInt < (100000000 : Int) := wk_leF c290
                    refine lv_iload hx hb dX12_reaches_207 (lv_at hl 1 rfl) ?_
                    refine lv_aload_n hx hb dX12_reaches_209 rfl (lv_at hl 2 rfl) ?_
                    refine lv_iload hx hb dX12_reaches_210 (lv_at hl 8 rfl) ?_
                    refine lv_iconst (v := 2) hx hb dX12_reaches_212 (by decide) ?_
                    refine tk_Vi hC hK hw hT hA hE hSR kM_at0 (by decide) rfl (k_X12_streetOf_14 l adK adV dC dI cy ad B (by omega) (by omega) qr s1   v145_6 (show 0 ≤ v145_6.toInt by omega) (show v145_6.toInt ≤ 12 by omega) w12 H.size hT ) (cwV 2 hC.2.2.2.2 gX12_reaches_X12_streetOf rfl rfl rfl (by decide +kernel) ⟨Nat.le_of_ble_eq_true rfl, Nat.le_of_ble_eq_true rfl⟩) rfl hl.1 rfl (Nat.le_of_ble_eq_true rfl) dX12_reaches_213 (fun r292 w294 H locs hp293 hw => ?_)
                    obtain ⟨rfl, hg299⟩ := hp293
                    obtain ⟨g296, g297, c298⟩ := hg299
                    refine lv_iadd hx hb dX12_reaches_216 ?_
                    refine lv_topi (fun x300 ex300 => ?_)
                    have ex300 : x300.toInt = r270.toInt + r292.toInt := by rw [ex300]; exact wk_add (show (-2147483648) ≤ r270.toInt + r292.toInt by omega) (show r270.toInt + r292.toInt ≤ 2147483647 by omega)
                    refine lv_iload hx hb dX12_reaches_217 (lv_at hl 6 rfl) ?_
                    refine lv_icmp_gt (tgt := 259) hx hb dX12_reaches_219 (by decide) (fun c301 => ?_) (fun c301 => ?_)
                    · have c301 : a4.toInt < x300.toInt := wk_lt.mp c301
                      have gb302 : 0 ≤ sumG 19 10 w12 ∧ sumG 19 10 w12 ≤ 10 := hT.sum (lo := 0) (hi := 1) kM_at19 rfl (by decide) rfl
                      exact J259 x49 H locs ls w12 (show 0 ≤ a1.toInt by omega) (show a1.toInt ≤ 9 by omega) (show 0 ≤ a2.toInt by omega) (show a2.toInt ≤ 9 by omega) (show 0 ≤ a3.toInt by omega) (show a3.toInt ≤ 99999 by omega) (show 2000 ≤ a4.toInt by omega) (show a4.toInt ≤ 101999 by omega) (show 0 ≤ v145_5.toInt by omega) (show v145_5.toInt ≤ 9 by omega) (show 0 ≤ v145_6.toInt by omega) (show v145_6.toInt ≤ 12 by omega) (show 0 ≤ f145_12_0.toInt by omega) (show f145_12_0.toInt ≤ 10 by omega) (show 1 ≤ x49.toInt by omega) (show x49.toInt ≤ 13 by omega) (show (sumG 19 10 w1) + 1 ≤ (sumG 19 10 w12) by omega)  hw hT hF c27 c50 (lv_sub hl [2, 3, 4, 5, 6, 7, 8] rfl)
                    · have c301 : x300.toInt ≤ a4.toInt := wk_ltF c301
                      refine lv_iload hx hb dX12_reaches_222 (lv_at hl 1 rfl) ?_
                      refine lv_aload_n hx hb dX12_reaches_224 rfl (lv_at hl 2 rfl) ?_
                      refine lv_iload hx hb dX12_reaches_225 (lv_at hl 8 rfl) ?_
                      refine lv_iconst (v := 2) hx hb dX12_reaches_227 (by decide) ?_
                      refine tk_Vi hC hK hw hT hA hE hSR kM_at0 (by decide) rfl (k_X12_streetOf_14 l adK adV dC dI cy ad B (by omega) (by omega) qr s1   v145_6 (show 0 ≤ v145_6.toInt by omega) (show v145_6.toInt ≤ 12 by omega) w12 H.size hT ) (cwV 2 hC.2.2.2.2 gX12_reaches_X12_streetOf rfl rfl rfl (by decide +kernel) ⟨Nat.le_of_ble_eq_true rfl, Nat.le_of_ble_eq_true rfl⟩) rfl hl.1 rfl (Nat.le_of_ble_eq_true rfl) dX12_reaches_228 (fun r303 w305 H locs hp304 hw => ?_)
                      obtain ⟨rfl, hg310⟩ := hp304
                      obtain ⟨g307, g308, c309⟩ := hg310
                      obtain rfl : r292 = r303 := c298.symm.trans c309
                      refine lv_iadd hx hb dX12_reaches_231 ?_
                      refine lv_topi (fun x311 ex311 => ?_)
                      have ex311 : x311.toInt = r270.toInt + r292.toInt := by rw [ex311]; exact wk_add (show (-2147483648) ≤ r270.toInt + r292.toInt by omega) (show r270.toInt + r292.toInt ≤ 2147483647 by omega)
                      refine lv_aload_n hx hb dX12_reaches_232 rfl (lv_at hl 2 rfl) ?_
                      refine tk_getA hC hK hw hT hinX12 kM_at0 (by decide) rfl 35 (by decide) (List.mem_of_getElem? (i := 1) rfl) rfl rfl dX12_reaches_233 ?_
                      refine lv_iload hx hb dX12_reaches_236 (lv_at hl 0 rfl) ?_
                      refine tk_iald hC hK hw hT kM_at18 rfl rfl (show 0 ≤ r280.toInt by omega) (show r280.toInt < 10 by omega) dX12_reaches_238 (fun x312 c313 rx312 tx312 => ?_)
                      refine lv_icmp_ge (tgt := 259) hx hb dX12_reaches_239 (by decide) (fun c314 => ?_) (fun c314 => ?_)
                      · have c314 : x312.toInt ≤ x311.toInt := wk_le.mp c314
                        have gb315 : 0 ≤ sumG 19 10 w12 ∧ sumG 19 10 w12 ≤ 10 := hT.sum (lo := 0) (hi := 1) kM_at19 rfl (by decide) rfl
                        exact J259 x49 H locs ls w12 (show 0 ≤ a1.toInt by omega) (show a1.toInt ≤ 9 by omega) (show 0 ≤ a2.toInt by omega) (show a2.toInt ≤ 9 by omega) (show 0 ≤ a3.toInt by omega) (show a3.toInt ≤ 99999 by omega) (show 2000 ≤ a4.toInt by omega) (show a4.toInt ≤ 101999 by omega) (show 0 ≤ v145_5.toInt by omega) (show v145_5.toInt ≤ 9 by omega) (show 0 ≤ v145_6.toInt by omega) (show v145_6.toInt ≤ 12 by omega) (show 0 ≤ f145_12_0.toInt by omega) (show f145_12_0.toInt ≤ 10 by omega) (show 1 ≤ x49.toInt by omega) (show x49.toInt ≤ 13 by omega) (show (sumG 19 10 w1) + 1 ≤ (sumG 19 10 w12) by omega)  hw hT hF c27 c50 (lv_sub hl [2, 3, 4, 5, 6, 7, 8] rfl)
                      · have c314 : x311.toInt < x312.toInt := wk_leF c314
                        refine lv_aload_n hx hb dX12_reaches_242 rfl (lv_at hl 2 rfl) ?_
                        refine tk_getA hC hK hw hT hinX12 kM_at0 (by decide) rfl 35 (by decide) (List.mem_of_getElem? (i := 1) rfl) rfl rfl dX12_reaches_243 ?_
                        refine lv_iload hx hb dX12_reaches_246 (lv_at hl 0 rfl) ?_
                        refine lv_iload hx hb dX12_reaches_248 (lv_at hl 1 rfl) ?_
                        refine lv_aload_n hx hb dX12_reaches_250 rfl (lv_at hl 2 rfl) ?_
                        refine lv_iload hx hb dX12_reaches_251 (lv_at hl 8 rfl) ?_
                        refine lv_iconst (v := 2) hx hb dX12_reaches_253 (by decide) ?_
                        refine tk_Vi hC hK hw hT hA hE hSR kM_at0 (by decide) rfl (k_X12_streetOf_14 l adK adV dC dI cy ad B (by omega) (by omega) qr s1   v145_6 (show 0 ≤ v145_6.toInt by omega) (show v145_6.toInt ≤ 12 by omega) w12 H.size hT ) (cwV 2 hC.2.2.2.2 gX12_reaches_X12_streetOf rfl rfl rfl (by decide +kernel) ⟨Nat.le_of_ble_eq_true rfl, Nat.le_of_ble_eq_true rfl⟩) rfl hl.1 rfl (Nat.le_of_ble_eq_true rfl) dX12_reaches_254 (fun r316 w318 H locs hp317 hw => ?_)
                        obtain ⟨rfl, hg323⟩ := hp317
                        obtain ⟨g320, g321, c322⟩ := hg323
                        obtain rfl : r292 = r316 := c298.symm.trans c322
                        refine lv_iadd hx hb dX12_reaches_257 ?_
                        refine lv_topi (fun x324 ex324 => ?_)
                        have ex324 : x324.toInt = r270.toInt + r292.toInt := by rw [ex324]; exact wk_add (show (-2147483648) ≤ r270.toInt + r292.toInt by omega) (show r270.toInt + r292.toInt ≤ 2147483647 by omega)
                        refine tk_iast hC hK hw hT kM_at18 (by decide) rfl rfl (show 0 ≤ r280.toInt by omega) (show r280.toInt < 10 by omega) (show 0 ≤ x324.toInt by omega) (show x324.toInt ≤ 100000100 by omega) dX12_reaches_258 (fun H locs w325 hw hT k327 c326 => ?_)
                        have gs328 : sumG 19 10 w325 = sumG 19 10 w12 := sumG_ne 10 k327 (tk_ne kM_at19 kM_at18 (by decide))
                        have hF := hF.put kM_at18 (inE_of (a := 0) (b := 10) (by decide) (show 0 ≤ r280.toInt.toNat by omega) (show r280.toInt.toNat ≤ 10 by omega)) k327
                        have c329 := k327.gi (Or.inl (tk_ne kM_at12 kM_at18 (by decide))) c27
                        have c330 := k327.gi (Or.inl (tk_ne kM_at12 kM_at18 (by decide))) c50
                        have c331 := k327.gi (Or.inl (tk_ne kM_at12 kM_at18 (by decide))) c60
                        have c332 := k327.gi (Or.inl (tk_ne kM_at12 kM_at18 (by decide))) c298
                        have gb333 : 0 ≤ sumG 19 10 w325 ∧ sumG 19 10 w325 ≤ 10 := hT.sum (lo := 0) (hi := 1) kM_at19 rfl (by decide) rfl
                        exact J259 x49 H locs ls w325 (show 0 ≤ a1.toInt by omega) (show a1.toInt ≤ 9 by omega) (show 0 ≤ a2.toInt by omega) (show a2.toInt ≤ 9 by omega) (show 0 ≤ a3.toInt by omega) (show a3.toInt ≤ 99999 by omega) (show 2000 ≤ a4.toInt by omega) (show a4.toInt ≤ 101999 by omega) (show 0 ≤ v145_5.toInt by omega) (show v145_5.toInt ≤ 9 by omega) (show 0 ≤ v145_6.toInt by omega) (show v145_6.toInt ≤ 12 by omega) (show 0 ≤ f145_12_0.toInt by omega) (show f145_12_0.toInt ≤ 10 by omega) (show 1 ≤ x49.toInt by omega) (show x49.toInt ≤ 13 by omega) (show (sumG 19 10 w1) + 1 ≤ (sumG 19 10 w325) by omega)  hw hT hF c329 c330 (lv_sub hl [2, 3, 4, 5, 6, 7, 8] rfl)
                · refine lv_istore (lv' := [(8, .int r280), (7, .int r270), (0, .ref (ad 0)), (1, .int a1), (2, .int a2), (3, .int a3), (4, .int a4), (5, .int v145_5), (6, .int v145_6)]) hx hb dX12_reaches_197 hl (by decide) rfl (fun ls hl => ?_)
                  refine lv_iload hx hb dX12_reaches_199 (lv_at hl 1 rfl) ?_
                  refine lv_ldcw (v := 100000000) hx hb hC.2.2.2.1 (hC.2.2.2.2 _ (List.mem_of_getElem? (i := 2) rfl)) dX12_reaches_201 ?_
                  refine lv_icmp_ge (tgt := 259) hx hb dX12_reaches_204 (by decide) (fun c334 => ?_) (fun c334 => ?_)
                  · have c334 : (100000000 : Int) ≤ r270.toInt := wk_le.mp c334
                    have gb335 : 0 ≤ sumG 19 10 w12 ∧ sumG 19 10 w12 ≤ 10 := hT.sum (lo := 0) (hi := 1) kM_at19 rfl (by decide) rfl
                    exact J259 x49 H locs ls w12 (show 0 ≤ a1.toInt by omega) (show a1.toInt ≤ 9 by omega) (show 0 ≤ a2.toInt by omega) (show a2.toInt ≤ 9 by omega) (show 0 ≤ a3.toInt by omega) (show a3.toInt ≤ 99999 by omega) (show 2000 ≤ a4.toInt by omega) (show a4.toInt ≤ 101999 by omega) (show 0 ≤ v145_5.toInt by omega) (show v145_5.toInt ≤ 9 by omega) (show 0 ≤ v145_6.toInt by omega) (show v145_6.toInt ≤ 12 by omega) (show 0 ≤ f145_12_0.toInt by omega) (show f145_12_0.toInt ≤ 10 by omega) (show 1 ≤ x49.toInt by omega) (show x49.toInt ≤ 13 by omega) (show (sumG 19 10 w1) + 1 ≤ (sumG 19 10 w12) by omega)  hw hT hF c27 c50 (lv_sub hl [2, 3, 4, 5, 6, 7, 8] rfl)
                  · have c334 : r270.toInt < (100000000 : Int) := wk_leF c334
                    refine lv_iload hx hb dX12_reaches_207 (lv_at hl 1 rfl) ?_
                    refine lv_aload_n hx hb dX12_reaches_209 rfl (lv_at hl 2 rfl) ?_
                    refine lv_iload hx hb dX12_reaches_210 (lv_at hl 8 rfl) ?_
                    refine lv_iconst (v := 2) hx hb dX12_reaches_212 (by decide) ?_
                    refine tk_Vi hC hK hw hT hA hE hSR kM_at0 (by decide) rfl (k_X12_streetOf_14 l adK adV dC dI cy ad B (by omega) (by omega) qr s1   v145_6 (show 0 ≤ v145_6.toInt by omega) (show v145_6.toInt ≤ 12 by omega) w12 H.size hT ) (cwV 2 hC.2.2.2.2 gX12_reaches_X12_streetOf rfl rfl rfl (by decide +kernel) ⟨Nat.le_of_ble_eq_true rfl, Nat.le_of_ble_eq_true rfl⟩) rfl hl.1 rfl (Nat.le_of_ble_eq_true rfl) dX12_reaches_213 (fun r336 w338 H locs hp337 hw => ?_)
                    obtain ⟨rfl, hg343⟩ := hp337
                    obtain ⟨g340, g341, c342⟩ := hg343
                    refine lv_iadd hx hb dX12_reaches_216 ?_
                    refine lv_topi (fun x344 ex344 => ?_)
                    have ex344 : x344.toInt = r270.toInt + r336.toInt := by rw [ex344]; exact wk_add (show (-2147483648) ≤ r270.toInt + r336.toInt by omega) (show r270.toInt + r336.toInt ≤ 2147483647 by omega)
                    refine lv_iload hx hb dX12_reaches_217 (lv_at hl 6 rfl) ?_
                    refine lv_icmp_gt (tgt := 259) hx hb dX12_reaches_219 (by decide) (fun c345 => ?_) (fun c345 => ?_)
                    · have c345 : a4.toInt < x344.toInt := wk_lt.mp c345
                      have gb346 : 0 ≤ sumG 19 10 w12 ∧ sumG 19 10 w12 ≤ 10 := hT.sum (lo := 0) (hi := 1) kM_at19 rfl (by decide) rfl
                      exact J259 x49 H locs ls w12 (show 0 ≤ a1.toInt by omega) (show a1.toInt ≤ 9 by omega) (show 0 ≤ a2.toInt by omega) (show a2.toInt ≤ 9 by omega) (show 0 ≤ a3.toInt by omega) (show a3.toInt ≤ 99999 by omega) (show 2000 ≤ a4.toInt by omega) (show a4.toInt ≤ 101999 by omega) (show 0 ≤ v145_5.toInt by omega) (show v145_5.toInt ≤ 9 by omega) (show 0 ≤ v145_6.toInt by omega) (show v145_6.toInt ≤ 12 by omega) (show 0 ≤ f145_12_0.toInt by omega) (show f145_12_0.toInt ≤ 10 by omega) (show 1 ≤ x49.toInt by omega) (show x49.toInt ≤ 13 by omega) (show (sumG 19 10 w1) + 1 ≤ (sumG 19 10 w12) by omega)  hw hT hF c27 c50 (lv_sub hl [2, 3, 4, 5, 6, 7, 8] rfl)
                    · have c345 : x344.toInt ≤ a4.toInt := wk_ltF c345
                      refine lv_iload hx hb dX12_reaches_222 (lv_at hl 1 rfl) ?_
                      refine lv_aload_n hx hb dX12_reaches_224 rfl (lv_at hl 2 rfl) ?_
                      refine lv_iload hx hb dX12_reaches_225 (lv_at hl 8 rfl) ?_
                      refine lv_iconst (v := 2) hx hb dX12_reaches_227 (by decide) ?_
                      refine tk_Vi hC hK hw hT hA hE hSR kM_at0 (by decide) rfl (k_X12_streetOf_14 l adK adV dC dI cy ad B (by omega) (by omega) qr s1   v145_6 (show 0 ≤ v145_6.toInt by omega) (show v145_6.toInt ≤ 12 by omega) w12 H.size hT ) (cwV 2 hC.2.2.2.2 gX12_reaches_X12_streetOf rfl rfl rfl (by decide +kernel) ⟨Nat.le_of_ble_eq_true rfl, Nat.le_of_ble_eq_true rfl⟩) rfl hl.1 rfl (Nat.le_of_ble_eq_true rfl) dX12_reaches_228 (fun r347 w349 H locs hp348 hw => ?_)
                      obtain ⟨rfl, hg354⟩ := hp348
                      obtain ⟨g351, g352, c353⟩ := hg354
                      obtain rfl : r336 = r347 := c342.symm.trans c353
                      refine lv_iadd hx hb dX12_reaches_231 ?_
                      refine lv_topi (fun x355 ex355 => ?_)
                      have ex355 : x355.toInt = r270.toInt + r336.toInt := by rw [ex355]; exact wk_add (show (-2147483648) ≤ r270.toInt + r336.toInt by omega) (show r270.toInt + r336.toInt ≤ 2147483647 by omega)
                      refine lv_aload_n hx hb dX12_reaches_232 rfl (lv_at hl 2 rfl) ?_
                      refine tk_getA hC hK hw hT hinX12 kM_at0 (by decide) rfl 35 (by decide) (List.mem_of_getElem? (i := 1) rfl) rfl rfl dX12_reaches_233 ?_
                      refine lv_iload hx hb dX12_reaches_236 (lv_at hl 0 rfl) ?_
                      refine tk_iald hC hK hw hT kM_at18 rfl rfl (show 0 ≤ r280.toInt by omega) (show r280.toInt < 10 by omega) dX12_reaches_238 (fun x356 c357 rx356 tx356 => ?_)
                      refine lv_icmp_ge (tgt := 259) hx hb dX12_reaches_239 (by decide) (fun c358 => ?_) (fun c358 => ?_)
                      · have c358 : x356.toInt ≤ x355.toInt := wk_le.mp c358
                        have gb359 : 0 ≤ sumG 19 10 w12 ∧ sumG 19 10 w12 ≤ 10 := hT.sum (lo := 0) (hi := 1) kM_at19 rfl (by decide) rfl
                        exact J259 x49 H locs ls w12 (show 0 ≤ a1.toInt by omega) (show a1.toInt ≤ 9 by omega) (show 0 ≤ a2.toInt by omega) (show a2.toInt ≤ 9 by omega) (show 0 ≤ a3.toInt by omega) (show a3.toInt ≤ 99999 by omega) (show 2000 ≤ a4.toInt by omega) (show a4.toInt ≤ 101999 by omega) (show 0 ≤ v145_5.toInt by omega) (show v145_5.toInt ≤ 9 by omega) (show 0 ≤ v145_6.toInt by omega) (show v145_6.toInt ≤ 12 by omega) (show 0 ≤ f145_12_0.toInt by omega) (show f145_12_0.toInt ≤ 10 by omega) (show 1 ≤ x49.toInt by omega) (show x49.toInt ≤ 13 by omega) (show (sumG 19 10 w1) + 1 ≤ (sumG 19 10 w12) by omega)  hw hT hF c27 c50 (lv_sub hl [2, 3, 4, 5, 6, 7, 8] rfl)
                      · have c358 : x355.toInt < x356.toInt := wk_leF c358
                        refine lv_aload_n hx hb dX12_reaches_242 rfl (lv_at hl 2 rfl) ?_
                        refine tk_getA hC hK hw hT hinX12 kM_at0 (by decide) rfl 35 (by decide) (List.mem_of_getElem? (i := 1) rfl) rfl rfl dX12_reaches_243 ?_
                        refine lv_iload hx hb dX12_reaches_246 (lv_at hl 0 rfl) ?_
                        refine lv_iload hx hb dX12_reaches_248 (lv_at hl 1 rfl) ?_
                        refine lv_aload_n hx hb dX12_reaches_250 rfl (lv_at hl 2 rfl) ?_
                        refine lv_iload hx hb dX12_reaches_251 (lv_at hl 8 rfl) ?_
                        refine lv_iconst (v := 2) hx hb dX12_reaches_253 (by decide) ?_
                        refine tk_Vi hC hK hw hT hA hE hSR kM_at0 (by decide) rfl (k_X12_streetOf_14 l adK adV dC dI cy ad B (by omega) (by omega) qr s1   v145_6 (show 0 ≤ v145_6.toInt by omega) (show v145_6.toInt ≤ 12 by omega) w12 H.size hT ) (cwV 2 hC.2.2.2.2 gX12_reaches_X12_streetOf rfl rfl rfl (by decide +kernel) ⟨Nat.le_of_ble_eq_true rfl, Nat.le_of_ble_eq_true rfl⟩) rfl hl.1 rfl (Nat.le_of_ble_eq_true rfl) dX12_reaches_254 (fun r360 w362 H locs hp361 hw => ?_)
                        obtain ⟨rfl, hg367⟩ := hp361
                        obtain ⟨g364, g365, c366⟩ := hg367
                        obtain rfl : r336 = r360 := c342.symm.trans c366
                        refine lv_iadd hx hb dX12_reaches_257 ?_
                        refine lv_topi (fun x368 ex368 => ?_)
                        have ex368 : x368.toInt = r270.toInt + r336.toInt := by rw [ex368]; exact wk_add (show (-2147483648) ≤ r270.toInt + r336.toInt by omega) (show r270.toInt + r336.toInt ≤ 2147483647 by omega)
                        refine tk_iast hC hK hw hT kM_at18 (by decide) rfl rfl (show 0 ≤ r280.toInt by omega) (show r280.toInt < 10 by omega) (show 0 ≤ x368.toInt by omega) (show x368.toInt ≤ 100000100 by omega) dX12_reaches_258 (fun H locs w369 hw hT k371 c370 => ?_)
                        have gs372 : sumG 19 10 w369 = sumG 19 10 w12 := sumG_ne 10 k371 (tk_ne kM_at19 kM_at18 (by decide))
                        have hF := hF.put kM_at18 (inE_of (a := 0) (b := 10) (by decide) (show 0 ≤ r280.toInt.toNat by omega) (show r280.toInt.toNat ≤ 10 by omega)) k371
                        have c373 := k371.gi (Or.inl (tk_ne kM_at12 kM_at18 (by decide))) c27
                        have c374 := k371.gi (Or.inl (tk_ne kM_at12 kM_at18 (by decide))) c50
                        have c375 := k371.gi (Or.inl (tk_ne kM_at12 kM_at18 (by decide))) c60
                        have c376 := k371.gi (Or.inl (tk_ne kM_at12 kM_at18 (by decide))) c288
                        have c377 := k371.gi (Or.inl (tk_ne kM_at12 kM_at18 (by decide))) c342
                        have gb378 : 0 ≤ sumG 19 10 w369 ∧ sumG 19 10 w369 ≤ 10 := hT.sum (lo := 0) (hi := 1) kM_at19 rfl (by decide) rfl
                        exact J259 x49 H locs ls w369 (show 0 ≤ a1.toInt by omega) (show a1.toInt ≤ 9 by omega) (show 0 ≤ a2.toInt by omega) (show a2.toInt ≤ 9 by omega) (show 0 ≤ a3.toInt by omega) (show a3.toInt ≤ 99999 by omega) (show 2000 ≤ a4.toInt by omega) (show a4.toInt ≤ 101999 by omega) (show 0 ≤ v145_5.toInt by omega) (show v145_5.toInt ≤ 9 by omega) (show 0 ≤ v145_6.toInt by omega) (show v145_6.toInt ≤ 12 by omega) (show 0 ≤ f145_12_0.toInt by omega) (show f145_12_0.toInt ≤ 10 by omega) (show 1 ≤ x49.toInt by omega) (show x49.toInt ≤ 13 by omega) (show (sumG 19 10 w1) + 1 ≤ (sumG 19 10 w369) by omega)  hw hT hF c373 c374 (lv_sub hl [2, 3, 4, 5, 6, 7, 8] rfl)
              · refine lv_istore (lv' := [(7, .int r270), (0, .ref (ad 0)), (1, .int a1), (2, .int a2), (3, .int a3), (4, .int a4), (5, .int v145_5), (6, .int v145_6)]) hx hb dX12_reaches_187 hl (by decide) rfl (fun ls hl => ?_)
                refine lv_aload_n hx hb dX12_reaches_189 rfl (lv_at hl 1 rfl) ?_
                refine lv_iload hx hb dX12_reaches_190 (lv_at hl 7 rfl) ?_
                refine lv_iload hx hb dX12_reaches_192 (lv_at hl 6 rfl) ?_
                refine tk_Vi hC hK hw hT hA hE hSR kM_at0 (by decide) rfl (k_X12_otherOf_3 l adK adV dC dI cy ad B (by omega) (by omega) qr s1   v145_6 (show 0 ≤ v145_6.toInt by omega) (show v145_6.toInt ≤ 12 by omega) v145_5 (show 0 ≤ v145_5.toInt by omega) (show v145_5.toInt ≤ 9 by omega) w12 H.size hT ) (cwV 2 hC.2.2.2.2 gX12_reaches_X12_otherOf rfl rfl rfl (by decide +kernel) ⟨Nat.le_of_ble_eq_true rfl, Nat.le_of_ble_eq_true rfl⟩) rfl hl.1 rfl (Nat.le_of_ble_eq_true rfl) dX12_reaches_194 (fun r379 w381 H locs hp380 hw => ?_)
                obtain ⟨rfl, hg388⟩ := hp380
                rcases hg388 with ⟨g383, g384⟩ | ⟨g385, g386, c387⟩
                · refine lv_istore (lv' := [(8, .int r379), (7, .int r270), (0, .ref (ad 0)), (1, .int a1), (2, .int a2), (3, .int a3), (4, .int a4), (5, .int v145_5), (6, .int v145_6)]) hx hb dX12_reaches_197 hl (by decide) rfl (fun ls hl => ?_)
                  refine lv_iload hx hb dX12_reaches_199 (lv_at hl 1 rfl) ?_
                  refine lv_ldcw (v := 100000000) hx hb hC.2.2.2.1 (hC.2.2.2.2 _ (List.mem_of_getElem? (i := 2) rfl)) dX12_reaches_201 ?_
                  refine lv_icmp_ge (tgt := 259) hx hb dX12_reaches_204 (by decide) (fun c => absurd c (fun h => absurd (show (100000000 : Int) ≤ r270.toInt from wk_le.mp h) (by omega))) (fun _ => ?_)
                  refine lv_iload hx hb dX12_reaches_207 (lv_at hl 1 rfl) ?_
                  refine lv_aload_n hx hb dX12_reaches_209 rfl (lv_at hl 2 rfl) ?_
                  refine lv_iload hx hb dX12_reaches_210 (lv_at hl 8 rfl) ?_
                  refine lv_iconst (v := 2) hx hb dX12_reaches_212 (by decide) ?_
                  refine tk_Vi hC hK hw hT hA hE hSR kM_at0 (by decide) rfl (k_X12_streetOf_14 l adK adV dC dI cy ad B (by omega) (by omega) qr s1   v145_6 (show 0 ≤ v145_6.toInt by omega) (show v145_6.toInt ≤ 12 by omega) w12 H.size hT ) (cwV 2 hC.2.2.2.2 gX12_reaches_X12_streetOf rfl rfl rfl (by decide +kernel) ⟨Nat.le_of_ble_eq_true rfl, Nat.le_of_ble_eq_true rfl⟩) rfl hl.1 rfl (Nat.le_of_ble_eq_true rfl) dX12_reaches_213 (fun r389 w391 H locs hp390 hw => ?_)
                  obtain ⟨rfl, hg396⟩ := hp390
                  obtain ⟨g393, g394, c395⟩ := hg396
                  refine lv_iadd hx hb dX12_reaches_216 ?_
                  refine lv_topi (fun x397 ex397 => ?_)
                  have ex397 : x397.toInt = r270.toInt + r389.toInt := by rw [ex397]; exact wk_add (show (-2147483648) ≤ r270.toInt + r389.toInt by omega) (show r270.toInt + r389.toInt ≤ 2147483647 by omega)
                  refine lv_iload hx hb dX12_reaches_217 (lv_at hl 6 rfl) ?_
                  refine lv_icmp_gt (tgt := 259) hx hb dX12_reaches_219 (by decide) (fun c398 => ?_) (fun c398 => ?_)
                  · have c398 : a4.toInt < x397.toInt := wk_lt.mp c398
                    have gb399 : 0 ≤ sumG 19 10 w12 ∧ sumG 19 10 w12 ≤ 10 := hT.sum (lo := 0) (hi := 1) kM_at19 rfl (by decide) rfl
                    exact J259 x49 H locs ls w12 (show 0 ≤ a1.toInt by omega) (show a1.toInt ≤ 9 by omega) (show 0 ≤ a2.toInt by omega) (show a2.toInt ≤ 9 by omega) (show 0 ≤ a3.toInt by omega) (show a3.toInt ≤ 99999 by omega) (show 2000 ≤ a4.toInt by omega) (show a4.toInt ≤ 101999 by omega) (show 0 ≤ v145_5.toInt by omega) (show v145_5.toInt ≤ 9 by omega) (show 0 ≤ v145_6.toInt by omega) (show v145_6.toInt ≤ 12 by omega) (show 0 ≤ f145_12_0.toInt by omega) (show f145_12_0.toInt ≤ 10 by omega) (show 1 ≤ x49.toInt by omega) (show x49.toInt ≤ 13 by omega) (show (sumG 19 10 w1) + 1 ≤ (sumG 19 10 w12) by omega)  hw hT hF c27 c50 (lv_sub hl [2, 3, 4, 5, 6, 7, 8] rfl)
                  · have c398 : x397.toInt ≤ a4.toInt := wk_ltF c398
                    refine lv_iload hx hb dX12_reaches_222 (lv_at hl 1 rfl) ?_
                    refine lv_aload_n hx hb dX12_reaches_224 rfl (lv_at hl 2 rfl) ?_
                    refine lv_iload hx hb dX12_reaches_225 (lv_at hl 8 rfl) ?_
                    refine lv_iconst (v := 2) hx hb dX12_reaches_227 (by decide) ?_
                    refine tk_Vi hC hK hw hT hA hE hSR kM_at0 (by decide) rfl (k_X12_streetOf_14 l adK adV dC dI cy ad B (by omega) (by omega) qr s1   v145_6 (show 0 ≤ v145_6.toInt by omega) (show v145_6.toInt ≤ 12 by omega) w12 H.size hT ) (cwV 2 hC.2.2.2.2 gX12_reaches_X12_streetOf rfl rfl rfl (by decide +kernel) ⟨Nat.le_of_ble_eq_true rfl, Nat.le_of_ble_eq_true rfl⟩) rfl hl.1 rfl (Nat.le_of_ble_eq_true rfl) dX12_reaches_228 (fun r400 w402 H locs hp401 hw => ?_)
                    obtain ⟨rfl, hg407⟩ := hp401
                    obtain ⟨g404, g405, c406⟩ := hg407
                    obtain rfl : r389 = r400 := c395.symm.trans c406
                    refine lv_iadd hx hb dX12_reaches_231 ?_
                    refine lv_topi (fun x408 ex408 => ?_)
                    have ex408 : x408.toInt = r270.toInt + r389.toInt := by rw [ex408]; exact wk_add (show (-2147483648) ≤ r270.toInt + r389.toInt by omega) (show r270.toInt + r389.toInt ≤ 2147483647 by omega)
                    refine lv_aload_n hx hb dX12_reaches_232 rfl (lv_at hl 2 rfl) ?_
                    refine tk_getA hC hK hw hT hinX12 kM_at0 (by decide) rfl 35 (by decide) (List.mem_of_getElem? (i := 1) rfl) rfl rfl dX12_reaches_233 ?_
                    refine lv_iload hx hb dX12_reaches_236 (lv_at hl 0 rfl) ?_
                    refine tk_iald hC hK hw hT kM_at18 rfl rfl (show 0 ≤ r379.toInt by omega) (show r379.toInt < 10 by omega) dX12_reaches_238 (fun x409 c410 rx409 tx409 => ?_)
                    refine lv_icmp_ge (tgt := 259) hx hb dX12_reaches_239 (by decide) (fun c411 => ?_) (fun c411 => ?_)
                    · have c411 : x409.toInt ≤ x408.toInt := wk_le.mp c411
                      have gb412 : 0 ≤ sumG 19 10 w12 ∧ sumG 19 10 w12 ≤ 10 := hT.sum (lo := 0) (hi := 1) kM_at19 rfl (by decide) rfl
                      exact J259 x49 H locs ls w12 (show 0 ≤ a1.toInt by omega) (show a1.toInt ≤ 9 by omega) (show 0 ≤ a2.toInt by omega) (show a2.toInt ≤ 9 by omega) (show 0 ≤ a3.toInt by omega) (show a3.toInt ≤ 99999 by omega) (show 2000 ≤ a4.toInt by omega) (show a4.toInt ≤ 101999 by omega) (show 0 ≤ v145_5.toInt by omega) (show v145_5.toInt ≤ 9 by omega) (show 0 ≤ v145_6.toInt by omega) (show v145_6.toInt ≤ 12 by omega) (show 0 ≤ f145_12_0.toInt by omega) (show f145_12_0.toInt ≤ 10 by omega) (show 1 ≤ x49.toInt by omega) (show x49.toInt ≤ 13 by omega) (show (sumG 19 10 w1) + 1 ≤ (sumG 19 10 w12) by omega)  hw hT hF c27 c50 (lv_sub hl [2, 3, 4, 5, 6, 7, 8] rfl)
                    · have c411 : x408.toInt < x409.toInt := wk_leF c411
                      refine lv_aload_n hx hb dX12_reaches_242 rfl (lv_at hl 2 rfl) ?_
                      refine tk_getA hC hK hw hT hinX12 kM_at0 (by decide) rfl 35 (by decide) (List.mem_of_getElem? (i := 1) rfl) rfl rfl dX12_reaches_243 ?_
                      refine lv_iload hx hb dX12_reaches_246 (lv_at hl 0 rfl) ?_
                      refine lv_iload hx hb dX12_reaches_248 (lv_at hl 1 rfl) ?_
                      refine lv_aload_n hx hb dX12_reaches_250 rfl (lv_at hl 2 rfl) ?_
                      refine lv_iload hx hb dX12_reaches_251 (lv_at hl 8 rfl) ?_
                      refine lv_iconst (v := 2) hx hb dX12_reaches_253 (by decide) ?_
                      refine tk_Vi hC hK hw hT hA hE hSR kM_at0 (by decide) rfl (k_X12_streetOf_14 l adK adV dC dI cy ad B (by omega) (by omega) qr s1   v145_6 (show 0 ≤ v145_6.toInt by omega) (show v145_6.toInt ≤ 12 by omega) w12 H.size hT ) (cwV 2 hC.2.2.2.2 gX12_reaches_X12_streetOf rfl rfl rfl (by decide +kernel) ⟨Nat.le_of_ble_eq_true rfl, Nat.le_of_ble_eq_true rfl⟩) rfl hl.1 rfl (Nat.le_of_ble_eq_true rfl) dX12_reaches_254 (fun r413 w415 H locs hp414 hw => ?_)
                      obtain ⟨rfl, hg420⟩ := hp414
                      obtain ⟨g417, g418, c419⟩ := hg420
                      obtain rfl : r389 = r413 := c395.symm.trans c419
                      refine lv_iadd hx hb dX12_reaches_257 ?_
                      refine lv_topi (fun x421 ex421 => ?_)
                      have ex421 : x421.toInt = r270.toInt + r389.toInt := by rw [ex421]; exact wk_add (show (-2147483648) ≤ r270.toInt + r389.toInt by omega) (show r270.toInt + r389.toInt ≤ 2147483647 by omega)
                      refine tk_iast hC hK hw hT kM_at18 (by decide) rfl rfl (show 0 ≤ r379.toInt by omega) (show r379.toInt < 10 by omega) (show 0 ≤ x421.toInt by omega) (show x421.toInt ≤ 100000100 by omega) dX12_reaches_258 (fun H locs w422 hw hT k424 c423 => ?_)
                      have gs425 : sumG 19 10 w422 = sumG 19 10 w12 := sumG_ne 10 k424 (tk_ne kM_at19 kM_at18 (by decide))
                      have hF := hF.put kM_at18 (inE_of (a := 0) (b := 10) (by decide) (show 0 ≤ r379.toInt.toNat by omega) (show r379.toInt.toNat ≤ 10 by omega)) k424
                      have c426 := k424.gi (Or.inl (tk_ne kM_at12 kM_at18 (by decide))) c27
                      have c427 := k424.gi (Or.inl (tk_ne kM_at12 kM_at18 (by decide))) c50
                      have c428 := k424.gi (Or.inl (tk_ne kM_at12 kM_at18 (by decide))) c60
                      have c429 := k424.gi (Or.inl (tk_ne kM_at12 kM_at18 (by decide))) c278
                      have c430 := k424.gi (Or.inl (tk_ne kM_at12 kM_at18 (by decide))) c395
                      have gb431 : 0 ≤ sumG 19 10 w422 ∧ sumG 19 10 w422 ≤ 10 := hT.sum (lo := 0) (hi := 1) kM_at19 rfl (by decide) rfl
                      exact J259 x49 H locs ls w422 (show 0 ≤ a1.toInt by omega) (show a1.toInt ≤ 9 by omega) (show 0 ≤ a2.toInt by omega) (show a2.toInt ≤ 9 by omega) (show 0 ≤ a3.toInt by omega) (show a3.toInt ≤ 99999 by omega) (show 2000 ≤ a4.toInt by omega) (show a4.toInt ≤ 101999 by omega) (show 0 ≤ v145_5.toInt by omega) (show v145_5.toInt ≤ 9 by omega) (show 0 ≤ v145_6.toInt by omega) (show v145_6.toInt ≤ 12 by omega) (show 0 ≤ f145_12_0.toInt by omega) (show f145_12_0.toInt ≤ 10 by omega) (show 1 ≤ x49.toInt by omega) (show x49.toInt ≤ 13 by omega) (show (sumG 19 10 w1) + 1 ≤ (sumG 19 10 w422) by omega)  hw hT hF c426 c427 (lv_sub hl [2, 3, 4, 5, 6, 7, 8] rfl)
                · refine lv_istore (lv' := [(8, .int r379), (7, .int r270), (0, .ref (ad 0)), (1, .int a1), (2, .int a2), (3, .int a3), (4, .int a4), (5, .int v145_5), (6, .int v145_6)]) hx hb dX12_reaches_197 hl (by decide) rfl (fun ls hl => ?_)
                  refine lv_iload hx hb dX12_reaches_199 (lv_at hl 1 rfl) ?_
                  refine lv_ldcw (v := 100000000) hx hb hC.2.2.2.1 (hC.2.2.2.2 _ (List.mem_of_getElem? (i := 2) rfl)) dX12_reaches_201 ?_
                  refine lv_icmp_ge (tgt := 259) hx hb dX12_reaches_204 (by decide) (fun c => absurd c (fun h => absurd (show (100000000 : Int) ≤ r270.toInt from wk_le.mp h) (by omega))) (fun _ => ?_)
                  refine lv_iload hx hb dX12_reaches_207 (lv_at hl 1 rfl) ?_
                  refine lv_aload_n hx hb dX12_reaches_209 rfl (lv_at hl 2 rfl) ?_
                  refine lv_iload hx hb dX12_reaches_210 (lv_at hl 8 rfl) ?_
                  refine lv_iconst (v := 2) hx hb dX12_reaches_212 (by decide) ?_
                  refine tk_Vi hC hK hw hT hA hE hSR kM_at0 (by decide) rfl (k_X12_streetOf_14 l adK adV dC dI cy ad B (by omega) (by omega) qr s1   v145_6 (show 0 ≤ v145_6.toInt by omega) (show v145_6.toInt ≤ 12 by omega) w12 H.size hT ) (cwV 2 hC.2.2.2.2 gX12_reaches_X12_streetOf rfl rfl rfl (by decide +kernel) ⟨Nat.le_of_ble_eq_true rfl, Nat.le_of_ble_eq_true rfl⟩) rfl hl.1 rfl (Nat.le_of_ble_eq_true rfl) dX12_reaches_213 (fun r432 w434 H locs hp433 hw => ?_)
                  obtain ⟨rfl, hg439⟩ := hp433
                  obtain ⟨g436, g437, c438⟩ := hg439
                  refine lv_iadd hx hb dX12_reaches_216 ?_
                  refine lv_topi (fun x440 ex440 => ?_)
                  have ex440 : x440.toInt = r270.toInt + r432.toInt := by rw [ex440]; exact wk_add (show (-2147483648) ≤ r270.toInt + r432.toInt by omega) (show r270.toInt + r432.toInt ≤ 2147483647 by omega)
                  refine lv_iload hx hb dX12_reaches_217 (lv_at hl 6 rfl) ?_
                  refine lv_icmp_gt (tgt := 259) hx hb dX12_reaches_219 (by decide) (fun c441 => ?_) (fun c441 => ?_)
                  · have c441 : a4.toInt < x440.toInt := wk_lt.mp c441
                    have gb442 : 0 ≤ sumG 19 10 w12 ∧ sumG 19 10 w12 ≤ 10 := hT.sum (lo := 0) (hi := 1) kM_at19 rfl (by decide) rfl
                    exact J259 x49 H locs ls w12 (show 0 ≤ a1.toInt by omega) (show a1.toInt ≤ 9 by omega) (show 0 ≤ a2.toInt by omega) (show a2.toInt ≤ 9 by omega) (show 0 ≤ a3.toInt by omega) (show a3.toInt ≤ 99999 by omega) (show 2000 ≤ a4.toInt by omega) (show a4.toInt ≤ 101999 by omega) (show 0 ≤ v145_5.toInt by omega) (show v145_5.toInt ≤ 9 by omega) (show 0 ≤ v145_6.toInt by omega) (show v145_6.toInt ≤ 12 by omega) (show 0 ≤ f145_12_0.toInt by omega) (show f145_12_0.toInt ≤ 10 by omega) (show 1 ≤ x49.toInt by omega) (show x49.toInt ≤ 13 by omega) (show (sumG 19 10 w1) + 1 ≤ (sumG 19 10 w12) by omega)  hw hT hF c27 c50 (lv_sub hl [2, 3, 4, 5, 6, 7, 8] rfl)
                  · have c441 : x440.toInt ≤ a4.toInt := wk_ltF c441
                    refine lv_iload hx hb dX12_reaches_222 (lv_at hl 1 rfl) ?_
                    refine lv_aload_n hx hb dX12_reaches_224 rfl (lv_at hl 2 rfl) ?_
                    refine lv_iload hx hb dX12_reaches_225 (lv_at hl 8 rfl) ?_
                    refine lv_iconst (v := 2) hx hb dX12_reaches_227 (by decide) ?_
                    refine tk_Vi hC hK hw hT hA hE hSR kM_at0 (by decide) rfl (k_X12_streetOf_14 l adK adV dC dI cy ad B (by omega) (by omega) qr s1   v145_6 (show 0 ≤ v145_6.toInt by omega) (show v145_6.toInt ≤ 12 by omega) w12 H.size hT ) (cwV 2 hC.2.2.2.2 gX12_reaches_X12_streetOf rfl rfl rfl (by decide +kernel) ⟨Nat.le_of_ble_eq_true rfl, Nat.le_of_ble_eq_true rfl⟩) rfl hl.1 rfl (Nat.le_of_ble_eq_true rfl) dX12_reaches_228 (fun r443 w445 H locs hp444 hw => ?_)
                    obtain ⟨rfl, hg450⟩ := hp444
                    obtain ⟨g447, g448, c449⟩ := hg450
                    obtain rfl : r432 = r443 := c438.symm.trans c449
                    refine lv_iadd hx hb dX12_reaches_231 ?_
                    refine lv_topi (fun x451 ex451 => ?_)
                    have ex451 : x451.toInt = r270.toInt + r432.toInt := by rw [ex451]; exact wk_add (show (-2147483648) ≤ r270.toInt + r432.toInt by omega) (show r270.toInt + r432.toInt ≤ 2147483647 by omega)
                    refine lv_aload_n hx hb dX12_reaches_232 rfl (lv_at hl 2 rfl) ?_
                    refine tk_getA hC hK hw hT hinX12 kM_at0 (by decide) rfl 35 (by decide) (List.mem_of_getElem? (i := 1) rfl) rfl rfl dX12_reaches_233 ?_
                    refine lv_iload hx hb dX12_reaches_236 (lv_at hl 0 rfl) ?_
                    refine tk_iald hC hK hw hT kM_at18 rfl rfl (show 0 ≤ r379.toInt by omega) (show r379.toInt < 10 by omega) dX12_reaches_238 (fun x452 c453 rx452 tx452 => ?_)
                    refine lv_icmp_ge (tgt := 259) hx hb dX12_reaches_239 (by decide) (fun c454 => ?_) (fun c454 => ?_)
                    · have c454 : x452.toInt ≤ x451.toInt := wk_le.mp c454
                      have gb455 : 0 ≤ sumG 19 10 w12 ∧ sumG 19 10 w12 ≤ 10 := hT.sum (lo := 0) (hi := 1) kM_at19 rfl (by decide) rfl
                      exact J259 x49 H locs ls w12 (show 0 ≤ a1.toInt by omega) (show a1.toInt ≤ 9 by omega) (show 0 ≤ a2.toInt by omega) (show a2.toInt ≤ 9 by omega) (show 0 ≤ a3.toInt by omega) (show a3.toInt ≤ 99999 by omega) (show 2000 ≤ a4.toInt by omega) (show a4.toInt ≤ 101999 by omega) (show 0 ≤ v145_5.toInt by omega) (show v145_5.toInt ≤ 9 by omega) (show 0 ≤ v145_6.toInt by omega) (show v145_6.toInt ≤ 12 by omega) (show 0 ≤ f145_12_0.toInt by omega) (show f145_12_0.toInt ≤ 10 by omega) (show 1 ≤ x49.toInt by omega) (show x49.toInt ≤ 13 by omega) (show (sumG 19 10 w1) + 1 ≤ (sumG 19 10 w12) by omega)  hw hT hF c27 c50 (lv_sub hl [2, 3, 4, 5, 6, 7, 8] rfl)
                    · have c454 : x451.toInt < x452.toInt := wk_leF c454
                      refine lv_aload_n hx hb dX12_reaches_242 rfl (lv_at hl 2 rfl) ?_
                      refine tk_getA hC hK hw hT hinX12 kM_at0 (by decide) rfl 35 (by decide) (List.mem_of_getElem? (i := 1) rfl) rfl rfl dX12_reaches_243 ?_
                      refine lv_iload hx hb dX12_reaches_246 (lv_at hl 0 rfl) ?_
                      refine lv_iload hx hb dX12_reaches_248 (lv_at hl 1 rfl) ?_
                      refine lv_aload_n hx hb dX12_reaches_250 rfl (lv_at hl 2 rfl) ?_
                      refine lv_iload hx hb dX12_reaches_251 (lv_at hl 8 rfl) ?_
                      refine lv_iconst (v := 2) hx hb dX12_reaches_253 (by decide) ?_
                      refine tk_Vi hC hK hw hT hA hE hSR kM_at0 (by decide) rfl (k_X12_streetOf_14 l adK adV dC dI cy ad B (by omega) (by omega) qr s1   v145_6 (show 0 ≤ v145_6.toInt by omega) (show v145_6.toInt ≤ 12 by omega) w12 H.size hT ) (cwV 2 hC.2.2.2.2 gX12_reaches_X12_streetOf rfl rfl rfl (by decide +kernel) ⟨Nat.le_of_ble_eq_true rfl, Nat.le_of_ble_eq_true rfl⟩) rfl hl.1 rfl (Nat.le_of_ble_eq_true rfl) dX12_reaches_254 (fun r456 w458 H locs hp457 hw => ?_)
                      obtain ⟨rfl, hg463⟩ := hp457
                      obtain ⟨g460, g461, c462⟩ := hg463
                      obtain rfl : r432 = r456 := c438.symm.trans c462
                      refine lv_iadd hx hb dX12_reaches_257 ?_
                      refine lv_topi (fun x464 ex464 => ?_)
                      have ex464 : x464.toInt = r270.toInt + r432.toInt := by rw [ex464]; exact wk_add (show (-2147483648) ≤ r270.toInt + r432.toInt by omega) (show r270.toInt + r432.toInt ≤ 2147483647 by omega)
                      refine tk_iast hC hK hw hT kM_at18 (by decide) rfl rfl (show 0 ≤ r379.toInt by omega) (show r379.toInt < 10 by omega) (show 0 ≤ x464.toInt by omega) (show x464.toInt ≤ 100000100 by omega) dX12_reaches_258 (fun H locs w465 hw hT k467 c466 => ?_)
                      have gs468 : sumG 19 10 w465 = sumG 19 10 w12 := sumG_ne 10 k467 (tk_ne kM_at19 kM_at18 (by decide))
                      have hF := hF.put kM_at18 (inE_of (a := 0) (b := 10) (by decide) (show 0 ≤ r379.toInt.toNat by omega) (show r379.toInt.toNat ≤ 10 by omega)) k467
                      have c469 := k467.gi (Or.inl (tk_ne kM_at12 kM_at18 (by decide))) c27
                      have c470 := k467.gi (Or.inl (tk_ne kM_at12 kM_at18 (by decide))) c50
                      have c471 := k467.gi (Or.inl (tk_ne kM_at12 kM_at18 (by decide))) c60
                      have c472 := k467.gi (Or.inl (tk_ne kM_at12 kM_at18 (by decide))) c278
                      have c473 := k467.gi (Or.inl (tk_ne kM_at12 kM_at18 (by decide))) c438
                      have gb474 : 0 ≤ sumG 19 10 w465 ∧ sumG 19 10 w465 ≤ 10 := hT.sum (lo := 0) (hi := 1) kM_at19 rfl (by decide) rfl
                      exact J259 x49 H locs ls w465 (show 0 ≤ a1.toInt by omega) (show a1.toInt ≤ 9 by omega) (show 0 ≤ a2.toInt by omega) (show a2.toInt ≤ 9 by omega) (show 0 ≤ a3.toInt by omega) (show a3.toInt ≤ 99999 by omega) (show 2000 ≤ a4.toInt by omega) (show a4.toInt ≤ 101999 by omega) (show 0 ≤ v145_5.toInt by omega) (show v145_5.toInt ≤ 9 by omega) (show 0 ≤ v145_6.toInt by omega) (show v145_6.toInt ≤ 12 by omega) (show 0 ≤ f145_12_0.toInt by omega) (show f145_12_0.toInt ≤ 10 by omega) (show 1 ≤ x49.toInt by omega) (show x49.toInt ≤ 13 by omega) (show (sumG 19 10 w1) + 1 ≤ (sumG 19 10 w465) by omega)  hw hT hF c469 c470 (lv_sub hl [2, 3, 4, 5, 6, 7, 8] rfl)
      have L59 : ∀ (n59 : Nat) (v59_5 : Int32) (v59_6 : Int32) (H : Heap) (locs : List Loc) (ls : Array Slot) (w475 : va_W), 0 ≤ a1.toInt → a1.toInt ≤ 9 → 0 ≤ a2.toInt → a2.toInt ≤ 9 → 0 ≤ a3.toInt → a3.toInt ≤ 99999 → 2000 ≤ a4.toInt → a4.toInt ≤ 101999 → (-1) ≤ v59_5.toInt → v59_5.toInt ≤ 9 → 0 ≤ v59_6.toInt → v59_6.toInt ≤ 10 → ((sumG 19 10 w475) ≤ (sumG 19 10 w1)) → ((sumG 19 10 w1) ≤ (sumG 19 10 w475)) → ((v59_5.toInt = -1 ∨ (gi w475 19 (v59_5.toInt).toNat).toInt = 0)) → (10 - v59_6.toInt).toNat < n59 → Wd dC dI A s.heap H locs w475 → TW ksM ad cy B qr 13 w475 → FE ksM [(77, 0, 10), (78, 0, 10)] w0 w475 → gi w475 19 (a2.toInt).toNat = 0 → lv_has ls 9 [(0, .ref (ad 0)), (1, .int a1), (2, .int a2), (3, .int a3), (4, .int a4), (5, .int v59_5), (6, .int v59_6)] → W p l e ({ frames := 5, cells := 0, slots := 0, locals := 105 }) s m (List.toArray [.ref (ad 0), .int a1, .int a2, .int a3, .int a4]) below meth c H locs 0 0 (MQ below (va_Qi (P_X12_reaches_3 ad cy B qr s1 a1 a2 a3 a4 w0) (fun u : va_W => wpost dC dI cy A u) A) (List.toArray [.ref (ad 0), .int a1, .int a2, .int a3, .int a4]) s 0 0 A) (F0 m 59 ls []) := by
        intro n59
        induction n59 with
        | zero => intro v59_5 v59_6 H locs ls w475 r476 t477 r478 t479 r480 t481 r482 t483 r484 t485 r486 t487 hcr59_0 hcr59_1 hcr59_2 hm59 hw hT hF c488 hl; omega
        | succ n59 ih59 =>
          intro v59_5 v59_6 H locs ls w475 r476 t477 r478 t479 r480 t481 r482 t483 r484 t485 r486 t487 hcr59_0 hcr59_1 hcr59_2 hm59 hw hT hF c488 hl
          have J119 : ∀ (v119_5 : Int32) (f119_12_0 : Int32) (f119_19__v59_6_toInt_toNat : Int32) (H : Heap) (locs : List Loc) (ls : Array Slot) (w489 : va_W), 0 ≤ a1.toInt → a1.toInt ≤ 9 → 0 ≤ a2.toInt → a2.toInt ≤ 9 → 0 ≤ a3.toInt → a3.toInt ≤ 99999 → 2000 ≤ a4.toInt → a4.toInt ≤ 101999 → (-1) ≤ v119_5.toInt → v119_5.toInt ≤ 9 → 0 ≤ v59_6.toInt → v59_6.toInt ≤ 9 → 1 ≤ f119_12_0.toInt → f119_12_0.toInt ≤ 10 → 0 ≤ f119_19__v59_6_toInt_toNat.toInt → f119_19__v59_6_toInt_toNat.toInt ≤ 1 → ((sumG 19 10 w489) ≤ (sumG 19 10 w1)) → ((sumG 19 10 w1) ≤ (sumG 19 10 w489)) → ((v119_5.toInt = -1 ∨ (gi w489 19 (v119_5.toInt).toNat).toInt = 0)) → Wd dC dI A s.heap H locs w489 → TW ksM ad cy B qr 13 w489 → FE ksM [(77, 0, 10), (78, 0, 10)] w0 w489 → gi w489 12 0 = f119_12_0 → gi w489 19 (a2.toInt).toNat = 0 → gi w489 19 (v59_6.toInt).toNat = f119_19__v59_6_toInt_toNat → lv_has ls 9 [(0, .ref (ad 0)), (1, .int a1), (2, .int a2), (3, .int a3), (4, .int a4), (5, .int v119_5), (6, .int v59_6)] → W p l e ({ frames := 5, cells := 0, slots := 0, locals := 105 }) s m (List.toArray [.ref (ad 0), .int a1, .int a2, .int a3, .int a4]) below meth c H locs 0 0 (MQ below (va_Qi (P_X12_reaches_3 ad cy B qr s1 a1 a2 a3 a4 w0) (fun u : va_W => wpost dC dI cy A u) A) (List.toArray [.ref (ad 0), .int a1, .int a2, .int a3, .int a4]) s 0 0 A) (F0 m 119 ls []) := by
            intro v119_5 f119_12_0 f119_19__v59_6_toInt_toNat H locs ls w489 r490 t491 r492 t493 r494 t495 r496 t497 r498 t499 r500 t501 r502 t503 r506 t507 hcr119_0 hcr119_1 hcr119_2 hw hT hF c504 c505 c508 hl
            obtain ⟨x509, ex509⟩ : ∃ y : Int32, y = v59_6 + Int32.ofInt 1 := ⟨_, rfl⟩
            refine lv_iinc (v := x509) (lv' := [(6, .int x509), (0, .ref (ad 0)), (1, .int a1), (2, .int a2), (3, .int a3), (4, .int a4), (5, .int v119_5)]) hx hb dX12_reaches_119 hl (k := 6) rfl ex509.symm (by decide) rfl (fun ls hl => ?_)
            have ex509 : x509.toInt = v59_6.toInt + 1 := by rw [ex509]; exact wk_add (y := 1) (show -2147483648 ≤ v59_6.toInt + 1 by omega) (show v59_6.toInt + 1 ≤ 2147483647 by omega)
            refine lv_goto (tgt := 59) hx hb dX12_reaches_122 (by decide) ?_
            have gb510 : 0 ≤ sumG 19 10 w489 ∧ sumG 19 10 w489 ≤ 10 := hT.sum (lo := 0) (hi := 1) kM_at19 rfl (by decide) rfl
            exact ih59 v119_5 x509 H locs ls w489 (show 0 ≤ a1.toInt by omega) (show a1.toInt ≤ 9 by omega) (show 0 ≤ a2.toInt by omega) (show a2.toInt ≤ 9 by omega) (show 0 ≤ a3.toInt by omega) (show a3.toInt ≤ 99999 by omega) (show 2000 ≤ a4.toInt by omega) (show a4.toInt ≤ 101999 by omega) (show (-1) ≤ v119_5.toInt by omega) (show v119_5.toInt ≤ 9 by omega) (show 0 ≤ x509.toInt by omega) (show x509.toInt ≤ 10 by omega) (show (sumG 19 10 w489) ≤ (sumG 19 10 w1) by omega) (show (sumG 19 10 w1) ≤ (sumG 19 10 w489) by omega) (show (v119_5.toInt = -1 ∨ (gi w489 19 (v119_5.toInt).toNat).toInt = 0) by first | omega | assumption | (left; omega) | (left; decide) | (right; assumption) | (right; rw [c505]; omega) | (right; rw [c505]; decide) | (right; rw [c508]; omega) | (right; rw [c508]; decide) | (right; rcases hcr59_2 with hx1 | hx1 <;> first | exact hx1 | (rw [← hx1]; exact (congrArg Int32.toInt ((hF.gi kM_at19 rfl rfl).symm.trans c505)).trans (by omega))) | (right; rcases hcr59_2 with hx1 | hx1 <;> first | exact hx1 | (rw [← hx1]; exact (congrArg Int32.toInt ((hF.gi kM_at19 rfl rfl).symm.trans c508)).trans (by omega)))) (show (10 - x509.toInt).toNat < n59 by omega) hw hT hF c505 (lv_sub hl [1, 2, 3, 4, 5, 6, 0] rfl)
          have J115 : ∀ (f115_12_0 : Int32) (H : Heap) (locs : List Loc) (ls : Array Slot) (w511 : va_W), 0 ≤ a1.toInt → a1.toInt ≤ 9 → 0 ≤ a2.toInt → a2.toInt ≤ 9 → 0 ≤ a3.toInt → a3.toInt ≤ 99999 → 2000 ≤ a4.toInt → a4.toInt ≤ 101999 → (-1) ≤ v59_5.toInt → v59_5.toInt ≤ 9 → 0 ≤ v59_6.toInt → v59_6.toInt ≤ 9 → 1 ≤ f115_12_0.toInt → f115_12_0.toInt ≤ 10 → ((sumG 19 10 w511) ≤ (sumG 19 10 w1)) → ((sumG 19 10 w1) ≤ (sumG 19 10 w511)) → ((v59_5.toInt = -1 ∨ (gi w511 19 (v59_5.toInt).toNat).toInt = 0)) → Wd dC dI A s.heap H locs w511 → TW ksM ad cy B qr 13 w511 → FE ksM [(77, 0, 10), (78, 0, 10)] w0 w511 → gi w511 12 0 = f115_12_0 → gi w511 19 (a2.toInt).toNat = 0 → gi w511 19 (v59_6.toInt).toNat = 0 → lv_has ls 9 [(0, .ref (ad 0)), (1, .int a1), (2, .int a2), (3, .int a3), (4, .int a4), (5, .int v59_5), (6, .int v59_6)] → W p l e ({ frames := 5, cells := 0, slots := 0, locals := 105 }) s m (List.toArray [.ref (ad 0), .int a1, .int a2, .int a3, .int a4]) below meth c H locs 0 0 (MQ below (va_Qi (P_X12_reaches_3 ad cy B qr s1 a1 a2 a3 a4 w0) (fun u : va_W => wpost dC dI cy A u) A) (List.toArray [.ref (ad 0), .int a1, .int a2, .int a3, .int a4]) s 0 0 A) (F0 m 115 ls []) := by
            intro f115_12_0 H locs ls w511 r512 t513 r514 t515 r516 t517 r518 t519 r520 t521 r522 t523 r524 t525 hcr115_0 hcr115_1 hcr115_2 hw hT hF c526 c527 c528 hl
            refine lv_iload hx hb dX12_reaches_115 (lv_at hl 6 rfl) ?_
            refine lv_istore (lv' := [(5, .int v59_6), (0, .ref (ad 0)), (1, .int a1), (2, .int a2), (3, .int a3), (4, .int a4), (6, .int v59_6)]) hx hb dX12_reaches_117 hl (by decide) rfl (fun ls hl => ?_)
            have gb529 : 0 ≤ sumG 19 10 w511 ∧ sumG 19 10 w511 ≤ 10 := hT.sum (lo := 0) (hi := 1) kM_at19 rfl (by decide) rfl
            exact J119 v59_6 f115_12_0 0 H locs ls w511 (show 0 ≤ a1.toInt by omega) (show a1.toInt ≤ 9 by omega) (show 0 ≤ a2.toInt by omega) (show a2.toInt ≤ 9 by omega) (show 0 ≤ a3.toInt by omega) (show a3.toInt ≤ 99999 by omega) (show 2000 ≤ a4.toInt by omega) (show a4.toInt ≤ 101999 by omega) (show (-1) ≤ v59_6.toInt by omega) (show v59_6.toInt ≤ 9 by omega) (show 0 ≤ v59_6.toInt by omega) (show v59_6.toInt ≤ 9 by omega) (show 1 ≤ f115_12_0.toInt by omega) (show f115_12_0.toInt ≤ 10 by omega) (by decide) (by decide) (show (sumG 19 10 w511) ≤ (sumG 19 10 w1) by omega) (show (sumG 19 10 w1) ≤ (sumG 19 10 w511) by omega) (show (v59_6.toInt = -1 ∨ (gi w511 19 (v59_6.toInt).toNat).toInt = 0) by first | omega | assumption | (left; omega) | (left; decide) | (right; assumption) | (right; rw [c527]; omega) | (right; rw [c527]; decide) | (right; rw [c528]; omega) | (right; rw [c528]; decide))  hw hT hF c526 c527 c528 (lv_sub hl [1, 2, 3, 4, 5, 0, 6] rfl)
          refine lv_iload hx hb dX12_reaches_59 (lv_at hl 6 rfl) ?_
          refine lv_aload_n hx hb dX12_reaches_61 rfl (lv_at hl 0 rfl) ?_
          refine tk_getA hC hK hw hT hinX12 kM_at0 (by decide) rfl 26 (by decide) (List.mem_of_getElem? (i := 4) rfl) rfl rfl dX12_reaches_62 ?_
          refine lv_iconst (v := 0) hx hb dX12_reaches_65 (by decide) ?_
          refine tk_ialdR hC hK hw hT kM_at12 rfl (by decide) (by decide) dX12_reaches_66 (fun x530 c531 Ex530 => ?_)
          have bx530 := tk_rgI rfl 0 1 1 0 10 (by decide +kernel) ⟨0, by decide, by decide⟩ Ex530
          have c531 : gi w475 12 0 = x530 := c531
          refine lv_icmp_ge (tgt := 125) hx hb dX12_reaches_67 (by decide) (fun c532 => ?_) (fun c532 => ?_)
          · have c532 : x530.toInt ≤ v59_6.toInt := wk_le.mp c532
            refine lv_iload hx hb dX12_reaches_125 (lv_at hl 5 rfl) ?_
            refine lv_if_ge (tgt := 134) hx hb dX12_reaches_127 (by decide) (fun c533 => ?_) (fun c533 => ?_)
            · have c533 : (0 : Int) ≤ v59_5.toInt := wk_le.mp c533
              refine lv_aload_n hx hb dX12_reaches_134 rfl (lv_at hl 0 rfl) ?_
              refine tk_getA hC hK hw hT hinX12 kM_at0 (by decide) rfl 36 (by decide) (List.mem_of_getElem? (i := 3) rfl) rfl rfl dX12_reaches_135 ?_
              refine lv_iload hx hb dX12_reaches_138 (lv_at hl 5 rfl) ?_
              refine lv_iconst (v := 1) hx hb dX12_reaches_140 (by decide) ?_
              refine tk_zast hC hK hw hT kM_at19 (by decide) rfl rfl (show 0 ≤ v59_5.toInt by omega) (show v59_5.toInt < 10 by omega) (by decide) (by decide) dX12_reaches_141 (fun H locs w534 hw hT k536 c535 => ?_)
              have gs537 : sumG 19 10 w534 = sumG 19 10 w475 - (gi w475 19 (v59_5.toInt.toNat)).toInt + (gi w534 19 (v59_5.toInt.toNat)).toInt := sumG_up (i := v59_5.toInt.toNat) k536 10 (show v59_5.toInt.toNat < 10 by omega)
              rw [show gi w534 19 (v59_5.toInt.toNat) = 1 from c535] at gs537
              rw [show (1 : Int32).toInt = 1 by decide] at gs537
              have hF := hF.put kM_at19 (inE_of (a := 0) (b := 10) (by decide) (show 0 ≤ v59_5.toInt.toNat by omega) (show v59_5.toInt.toNat ≤ 10 by omega)) k536
              have c538 := k536.gi (Or.inl (tk_ne kM_at12 kM_at19 (by decide))) c531
              refine lv_iconst (v := 0) hx hb dX12_reaches_142 (by decide) ?_
              refine lv_istore (lv' := [(6, .int 0), (0, .ref (ad 0)), (1, .int a1), (2, .int a2), (3, .int a3), (4, .int a4), (5, .int v59_5)]) hx hb dX12_reaches_143 hl (by decide) rfl (fun ls hl => ?_)
              have gb539 : 0 ≤ sumG 19 10 w534 ∧ sumG 19 10 w534 ≤ 10 := hT.sum (lo := 0) (hi := 1) kM_at19 rfl (by decide) rfl
              exact L145 ((13 - (0 : Int)).toNat + 1) v59_5 0 x530 H locs ls w534 (show 0 ≤ a1.toInt by omega) (show a1.toInt ≤ 9 by omega) (show 0 ≤ a2.toInt by omega) (show a2.toInt ≤ 9 by omega) (show 0 ≤ a3.toInt by omega) (show a3.toInt ≤ 99999 by omega) (show 2000 ≤ a4.toInt by omega) (show a4.toInt ≤ 101999 by omega) (show 0 ≤ v59_5.toInt by omega) (show v59_5.toInt ≤ 9 by omega) (by decide) (by decide) (show 0 ≤ x530.toInt by omega) (show x530.toInt ≤ 10 by omega) (show (sumG 19 10 w1) + 1 ≤ (sumG 19 10 w534) by omega) (Nat.lt_succ_self _) hw hT hF c538 (lv_sub hl [1, 2, 3, 4, 5, 6, 0] rfl)
            · have c533 : v59_5.toInt < (0 : Int) := wk_leF c533
              refine lv_ldcw (v := 100000000) hx hb hC.2.2.2.1 (hC.2.2.2.2 _ (List.mem_of_getElem? (i := 2) rfl)) dX12_reaches_130 ?_
              exact tk_iret hC hr hlocks hK ⟨hT, hF, ⟨(by decide), (by decide)⟩⟩ hw dX12_reaches_133
          · have c532 : v59_6.toInt < x530.toInt := wk_leF c532
            refine lv_aload_n hx hb dX12_reaches_70 rfl (lv_at hl 0 rfl) ?_
            refine tk_getA hC hK hw hT hinX12 kM_at0 (by decide) rfl 36 (by decide) (List.mem_of_getElem? (i := 3) rfl) rfl rfl dX12_reaches_71 ?_
            refine lv_iload hx hb dX12_reaches_74 (lv_at hl 6 rfl) ?_
            refine tk_zald hC hK hw hT kM_at19 rfl rfl (show 0 ≤ v59_6.toInt by omega) (show v59_6.toInt < 10 by omega) dX12_reaches_76 (fun x540 c541 rx540 tx540 => ?_)
            have c541 : gi w475 19 (v59_6.toInt).toNat = x540 := (congrArg (gi w475 19) (congrArg Int.toNat (show v59_6.toInt = v59_6.toInt by omega))).trans c541
            refine lv_if_ne (tgt := 119) hx hb dX12_reaches_77 (by decide) (fun c542 => ?_) (fun c542 => ?_)
            · have c542 : ¬ x540.toInt = (0 : Int) := wk_eqF c542
              have gb543 : 0 ≤ sumG 19 10 w475 ∧ sumG 19 10 w475 ≤ 10 := hT.sum (lo := 0) (hi := 1) kM_at19 rfl (by decide) rfl
              exact J119 v59_5 x530 x540 H locs ls w475 (show 0 ≤ a1.toInt by omega) (show a1.toInt ≤ 9 by omega) (show 0 ≤ a2.toInt by omega) (show a2.toInt ≤ 9 by omega) (show 0 ≤ a3.toInt by omega) (show a3.toInt ≤ 99999 by omega) (show 2000 ≤ a4.toInt by omega) (show a4.toInt ≤ 101999 by omega) (show (-1) ≤ v59_5.toInt by omega) (show v59_5.toInt ≤ 9 by omega) (show 0 ≤ v59_6.toInt by omega) (show v59_6.toInt ≤ 9 by omega) (show 1 ≤ x530.toInt by omega) (show x530.toInt ≤ 10 by omega) (show 0 ≤ x540.toInt by omega) (show x540.toInt ≤ 1 by omega) (show (sumG 19 10 w475) ≤ (sumG 19 10 w1) by omega) (show (sumG 19 10 w1) ≤ (sumG 19 10 w475) by omega) (show (v59_5.toInt = -1 ∨ (gi w475 19 (v59_5.toInt).toNat).toInt = 0) by first | omega | assumption | (left; omega) | (left; decide) | (right; assumption) | (right; rw [c488]; omega) | (right; rw [c488]; decide) | (right; rw [c541]; omega) | (right; rw [c541]; decide))  hw hT hF c531 c488 c541 (lv_sub hl [0, 1, 2, 3, 4, 5, 6] rfl)
            · have c542 : x540.toInt = (0 : Int) := wk_eq.mp c542
              refine lv_aload_n hx hb dX12_reaches_80 rfl (lv_at hl 0 rfl) ?_
              refine tk_getA hC hK hw hT hinX12 kM_at0 (by decide) rfl 35 (by decide) (List.mem_of_getElem? (i := 1) rfl) rfl rfl dX12_reaches_81 ?_
              refine lv_iload hx hb dX12_reaches_84 (lv_at hl 6 rfl) ?_
              refine tk_iald hC hK hw hT kM_at18 rfl rfl (show 0 ≤ v59_6.toInt by omega) (show v59_6.toInt < 10 by omega) dX12_reaches_86 (fun x544 c545 rx544 tx544 => ?_)
              refine lv_ldcw (v := 100000000) hx hb hC.2.2.2.1 (hC.2.2.2.2 _ (List.mem_of_getElem? (i := 2) rfl)) dX12_reaches_87 ?_
              refine lv_icmp_ge (tgt := 119) hx hb dX12_reaches_90 (by decide) (fun c546 => ?_) (fun c546 => ?_)
              · have c546 : (100000000 : Int) ≤ x544.toInt := wk_le.mp c546
                have gb547 : 0 ≤ sumG 19 10 w475 ∧ sumG 19 10 w475 ≤ 10 := hT.sum (lo := 0) (hi := 1) kM_at19 rfl (by decide) rfl
                exact J119 v59_5 x530 x540 H locs ls w475 (show 0 ≤ a1.toInt by omega) (show a1.toInt ≤ 9 by omega) (show 0 ≤ a2.toInt by omega) (show a2.toInt ≤ 9 by omega) (show 0 ≤ a3.toInt by omega) (show a3.toInt ≤ 99999 by omega) (show 2000 ≤ a4.toInt by omega) (show a4.toInt ≤ 101999 by omega) (show (-1) ≤ v59_5.toInt by omega) (show v59_5.toInt ≤ 9 by omega) (show 0 ≤ v59_6.toInt by omega) (show v59_6.toInt ≤ 9 by omega) (show 1 ≤ x530.toInt by omega) (show x530.toInt ≤ 10 by omega) (show 0 ≤ x540.toInt by omega) (show x540.toInt ≤ 1 by omega) (show (sumG 19 10 w475) ≤ (sumG 19 10 w1) by omega) (show (sumG 19 10 w1) ≤ (sumG 19 10 w475) by omega) (show (v59_5.toInt = -1 ∨ (gi w475 19 (v59_5.toInt).toNat).toInt = 0) by first | omega | assumption | (left; omega) | (left; decide) | (right; assumption) | (right; rw [c488]; omega) | (right; rw [c488]; decide) | (right; rw [c541]; omega) | (right; rw [c541]; decide))  hw hT hF c531 c488 c541 (lv_sub hl [0, 1, 2, 3, 4, 5, 6] rfl)
              · have c546 : x544.toInt < (100000000 : Int) := wk_leF c546
                refine lv_iload hx hb dX12_reaches_93 (lv_at hl 5 rfl) ?_
                refine lv_if_lt (tgt := 115) hx hb dX12_reaches_95 (by decide) (fun c548 => ?_) (fun c548 => ?_)
                · have c548 : v59_5.toInt < (0 : Int) := wk_lt.mp c548
                  have gb549 : 0 ≤ sumG 19 10 w475 ∧ sumG 19 10 w475 ≤ 10 := hT.sum (lo := 0) (hi := 1) kM_at19 rfl (by decide) rfl
                  obtain rfl : x540 = 0 := wk_eq.mpr (show x540.toInt = 0 by omega)
                  exact J115 x530 H locs ls w475 (show 0 ≤ a1.toInt by omega) (show a1.toInt ≤ 9 by omega) (show 0 ≤ a2.toInt by omega) (show a2.toInt ≤ 9 by omega) (show 0 ≤ a3.toInt by omega) (show a3.toInt ≤ 99999 by omega) (show 2000 ≤ a4.toInt by omega) (show a4.toInt ≤ 101999 by omega) (show (-1) ≤ v59_5.toInt by omega) (show v59_5.toInt ≤ 9 by omega) (show 0 ≤ v59_6.toInt by omega) (show v59_6.toInt ≤ 9 by omega) (show 1 ≤ x530.toInt by omega) (show x530.toInt ≤ 10 by omega) (show (sumG 19 10 w475) ≤ (sumG 19 10 w1) by omega) (show (sumG 19 10 w1) ≤ (sumG 19 10 w475) by omega) (show (v59_5.toInt = -1 ∨ (gi w475 19 (v59_5.toInt).toNat).toInt = 0) by first | omega | assumption | (left; omega) | (left; decide) | (right; assumption) | (right; rw [c488]; omega) | (right; rw [c488]; decide) | (right; rw [c541]; omega) | (right; rw [c541]; decide))  hw hT hF c531 c488 c541 (lv_sub hl [0, 1, 2, 3, 4, 5, 6] rfl)
                · have c548 : (0 : Int) ≤ v59_5.toInt := wk_ltF c548
                  refine lv_aload_n hx hb dX12_reaches_98 rfl (lv_at hl 0 rfl) ?_
                  refine tk_getA hC hK hw hT hinX12 kM_at0 (by decide) rfl 35 (by decide) (List.mem_of_getElem? (i := 1) rfl) rfl rfl dX12_reaches_99 ?_
                  refine lv_iload hx hb dX12_reaches_102 (lv_at hl 6 rfl) ?_
                  refine tk_iald hC hK hw hT kM_at18 rfl rfl (show 0 ≤ v59_6.toInt by omega) (show v59_6.toInt < 10 by omega) dX12_reaches_104 (fun x550 c551 rx550 tx550 => ?_)
                  refine lv_aload_n hx hb dX12_reaches_105 rfl (lv_at hl 0 rfl) ?_
                  refine tk_getA hC hK hw hT hinX12 kM_at0 (by decide) rfl 35 (by decide) (List.mem_of_getElem? (i := 1) rfl) rfl rfl dX12_reaches_106 ?_
                  refine lv_iload hx hb dX12_reaches_109 (lv_at hl 5 rfl) ?_
                  refine tk_iald hC hK hw hT kM_at18 rfl rfl (show 0 ≤ v59_5.toInt by omega) (show v59_5.toInt < 10 by omega) dX12_reaches_111 (fun x552 c553 rx552 tx552 => ?_)
                  refine lv_icmp_ge (tgt := 119) hx hb dX12_reaches_112 (by decide) (fun c554 => ?_) (fun c554 => ?_)
                  · have c554 : x552.toInt ≤ x550.toInt := wk_le.mp c554
                    have gb555 : 0 ≤ sumG 19 10 w475 ∧ sumG 19 10 w475 ≤ 10 := hT.sum (lo := 0) (hi := 1) kM_at19 rfl (by decide) rfl
                    exact J119 v59_5 x530 x540 H locs ls w475 (show 0 ≤ a1.toInt by omega) (show a1.toInt ≤ 9 by omega) (show 0 ≤ a2.toInt by omega) (show a2.toInt ≤ 9 by omega) (show 0 ≤ a3.toInt by omega) (show a3.toInt ≤ 99999 by omega) (show 2000 ≤ a4.toInt by omega) (show a4.toInt ≤ 101999 by omega) (show (-1) ≤ v59_5.toInt by omega) (show v59_5.toInt ≤ 9 by omega) (show 0 ≤ v59_6.toInt by omega) (show v59_6.toInt ≤ 9 by omega) (show 1 ≤ x530.toInt by omega) (show x530.toInt ≤ 10 by omega) (show 0 ≤ x540.toInt by omega) (show x540.toInt ≤ 1 by omega) (show (sumG 19 10 w475) ≤ (sumG 19 10 w1) by omega) (show (sumG 19 10 w1) ≤ (sumG 19 10 w475) by omega) (show (v59_5.toInt = -1 ∨ (gi w475 19 (v59_5.toInt).toNat).toInt = 0) by first | omega | assumption | (left; omega) | (left; decide) | (right; assumption) | (right; rw [c488]; omega) | (right; rw [c488]; decide) | (right; rw [c541]; omega) | (right; rw [c541]; decide))  hw hT hF c531 c488 c541 (lv_sub hl [0, 1, 2, 3, 4, 5, 6] rfl)
                  · have c554 : x550.toInt < x552.toInt := wk_leF c554
                    have gb556 : 0 ≤ sumG 19 10 w475 ∧ sumG 19 10 w475 ≤ 10 := hT.sum (lo := 0) (hi := 1) kM_at19 rfl (by decide) rfl
                    obtain rfl : x540 = 0 := wk_eq.mpr (show x540.toInt = 0 by omega)
                    exact J115 x530 H locs ls w475 (show 0 ≤ a1.toInt by omega) (show a1.toInt ≤ 9 by omega) (show 0 ≤ a2.toInt by omega) (show a2.toInt ≤ 9 by omega) (show 0 ≤ a3.toInt by omega) (show a3.toInt ≤ 99999 by omega) (show 2000 ≤ a4.toInt by omega) (show a4.toInt ≤ 101999 by omega) (show (-1) ≤ v59_5.toInt by omega) (show v59_5.toInt ≤ 9 by omega) (show 0 ≤ v59_6.toInt by omega) (show v59_6.toInt ≤ 9 by omega) (show 1 ≤ x530.toInt by omega) (show x530.toInt ≤ 10 by omega) (show (sumG 19 10 w475) ≤ (sumG 19 10 w1) by omega) (show (sumG 19 10 w1) ≤ (sumG 19 10 w475) by omega) (show (v59_5.toInt = -1 ∨ (gi w475 19 (v59_5.toInt).toNat).toInt = 0) by first | omega | assumption | (left; omega) | (left; decide) | (right; assumption) | (right; rw [c488]; omega) | (right; rw [c488]; decide) | (right; rw [c541]; omega) | (right; rw [c541]; decide))  hw hT hF c531 c488 c541 (lv_sub hl [0, 1, 2, 3, 4, 5, 6] rfl)
      refine lv_aload_n hx hb dX12_reaches_44 rfl (lv_at hl 0 rfl) ?_
      refine tk_getA hC hK hw hT hinX12 kM_at0 (by decide) rfl 36 (by decide) (List.mem_of_getElem? (i := 3) rfl) rfl rfl dX12_reaches_45 ?_
      refine lv_iload_n hx hb dX12_reaches_48 rfl (lv_at hl 2 rfl) ?_
      refine tk_zald hC hK hw hT kM_at19 rfl rfl (show 0 ≤ a2.toInt by omega) (show a2.toInt < 10 by omega) dX12_reaches_49 (fun x557 c558 rx557 tx557 => ?_)
      have c558 : gi w1 19 (a2.toInt).toNat = x557 := (congrArg (gi w1 19) (congrArg Int.toNat (show a2.toInt = a2.toInt by omega))).trans c558
      refine lv_if_ne (tgt := 268) hx hb dX12_reaches_50 (by decide) (fun c559 => ?_) (fun c559 => ?_)
      · have c559 : ¬ x557.toInt = (0 : Int) := wk_eqF c559
        refine lv_aload_n hx hb dX12_reaches_268 rfl (lv_at hl 0 rfl) ?_
        refine tk_getA hC hK hw hT hinX12 kM_at0 (by decide) rfl 35 (by decide) (List.mem_of_getElem? (i := 1) rfl) rfl rfl dX12_reaches_269 ?_
        refine lv_iload_n hx hb dX12_reaches_272 rfl (lv_at hl 2 rfl) ?_
        refine tk_iald hC hK hw hT kM_at18 rfl rfl (show 0 ≤ a2.toInt by omega) (show a2.toInt < 10 by omega) dX12_reaches_273 (fun x560 c561 rx560 tx560 => ?_)
        exact tk_iret hC hr hlocks hK ⟨hT, hF, ⟨(show 0 ≤ x560.toInt by omega), (show x560.toInt ≤ 100000100 by omega)⟩⟩ hw dX12_reaches_274
      · have c559 : x557.toInt = (0 : Int) := wk_eq.mp c559
        refine lv_iconst (v := (-1)) hx hb dX12_reaches_53 (by decide) ?_
        refine lv_istore (lv' := [(5, .int (-1)), (0, .ref (ad 0)), (1, .int a1), (2, .int a2), (3, .int a3), (4, .int a4)]) hx hb dX12_reaches_54 hl (by decide) rfl (fun ls hl => ?_)
        refine lv_iconst (v := 0) hx hb dX12_reaches_56 (by decide) ?_
        refine lv_istore (lv' := [(6, .int 0), (5, .int (-1)), (0, .ref (ad 0)), (1, .int a1), (2, .int a2), (3, .int a3), (4, .int a4)]) hx hb dX12_reaches_57 hl (by decide) rfl (fun ls hl => ?_)
        have gb562 : 0 ≤ sumG 19 10 w1 ∧ sumG 19 10 w1 ≤ 10 := hT.sum (lo := 0) (hi := 1) kM_at19 rfl (by decide) rfl
        obtain rfl : x557 = 0 := wk_eq.mpr (show x557.toInt = 0 by omega)
        exact L59 ((10 - (0 : Int)).toNat + 1) (-1) 0 H locs ls w1 (show 0 ≤ a1.toInt by omega) (show a1.toInt ≤ 9 by omega) (show 0 ≤ a2.toInt by omega) (show a2.toInt ≤ 9 by omega) (show 0 ≤ a3.toInt by omega) (show a3.toInt ≤ 99999 by omega) (show 2000 ≤ a4.toInt by omega) (show a4.toInt ≤ 101999 by omega) (by decide) (by decide) (by decide) (by decide) (show (sumG 19 10 w1) ≤ (sumG 19 10 w1) by omega) (show (sumG 19 10 w1) ≤ (sumG 19 10 w1) by omega) (show ((-1 : Int) = -1 ∨ (gi w1 19 ((-1 : Int)).toNat).toInt = 0) by first | omega | assumption | (left; omega) | (left; decide) | (right; assumption) | (right; rw [c558]; omega) | (right; rw [c558]; decide)) (Nat.lt_succ_self _) hw hT hF c558 (lv_sub hl [2, 3, 4, 5, 6, 1, 0] rfl)
  have L3 : ∀ (n3 : Nat) (v3_5 : Int32) (H : Heap) (locs : List Loc) (ls : Array Slot) (w563 : va_W), 0 ≤ a1.toInt → a1.toInt ≤ 9 → 0 ≤ a2.toInt → a2.toInt ≤ 9 → 0 ≤ a3.toInt → a3.toInt ≤ 99999 → 2000 ≤ a4.toInt → a4.toInt ≤ 101999 → 0 ≤ v3_5.toInt → v3_5.toInt ≤ 10 → (10 - v3_5.toInt).toNat < n3 → Wd dC dI A s.heap H locs w563 → TW ksM ad cy B qr 13 w563 → FE ksM [(77, 0, 10), (78, 0, 10)] w0 w563 → lv_has ls 9 [(0, .ref (ad 0)), (1, .int a1), (2, .int a2), (3, .int a3), (4, .int a4), (5, .int v3_5)] → W p l e ({ frames := 5, cells := 0, slots := 0, locals := 105 }) s m (List.toArray [.ref (ad 0), .int a1, .int a2, .int a3, .int a4]) below meth c H locs 0 0 (MQ below (va_Qi (P_X12_reaches_3 ad cy B qr s1 a1 a2 a3 a4 w0) (fun u : va_W => wpost dC dI cy A u) A) (List.toArray [.ref (ad 0), .int a1, .int a2, .int a3, .int a4]) s 0 0 A) (F0 m 3 ls []) := by
    intro n3
    induction n3 with
    | zero => intro v3_5 H locs ls w563 r564 t565 r566 t567 r568 t569 r570 t571 r572 t573 hm3 hw hT hF hl; omega
    | succ n3 ih3 =>
      intro v3_5 H locs ls w563 r564 t565 r566 t567 r568 t569 r570 t571 r572 t573 hm3 hw hT hF hl
      refine lv_iload hx hb dX12_reaches_3 (lv_at hl 5 rfl) ?_
      refine lv_bipush (v := 10) hx hb dX12_reaches_5 (by decide) ?_
      refine lv_icmp_ge (tgt := 44) hx hb dX12_reaches_7 (by decide) (fun c574 => ?_) (fun c574 => ?_)
      · have c574 : (10 : Int) ≤ v3_5.toInt := wk_le.mp c574
        have gb575 : 0 ≤ sumG 19 10 w563 ∧ sumG 19 10 w563 ≤ 10 := hT.sum (lo := 0) (hi := 1) kM_at19 rfl (by decide) rfl
        exact L44 ((10 - (sumG 19 10 w563)).toNat + 1) v3_5 H locs ls w563 (show 0 ≤ a1.toInt by omega) (show a1.toInt ≤ 9 by omega) (show 0 ≤ a2.toInt by omega) (show a2.toInt ≤ 9 by omega) (show 0 ≤ a3.toInt by omega) (show a3.toInt ≤ 99999 by omega) (show 2000 ≤ a4.toInt by omega) (show a4.toInt ≤ 101999 by omega) (show 0 ≤ v3_5.toInt by omega) (show v3_5.toInt ≤ 10 by omega) (show 0 ≤ (sumG 19 10 w563) by omega) (Nat.lt_succ_self _) hw hT hF  (lv_sub hl [0, 1, 2, 3, 4, 5] rfl)
      · have c574 : v3_5.toInt < (10 : Int) := wk_leF c574
        refine lv_aload_n hx hb dX12_reaches_10 rfl (lv_at hl 0 rfl) ?_
        refine tk_getA hC hK hw hT hinX12 kM_at0 (by decide) rfl 35 (by decide) (List.mem_of_getElem? (i := 1) rfl) rfl rfl dX12_reaches_11 ?_
        refine lv_iload hx hb dX12_reaches_14 (lv_at hl 5 rfl) ?_
        refine lv_iload hx hb dX12_reaches_16 (lv_at hl 5 rfl) ?_
        refine lv_iload_n hx hb dX12_reaches_18 rfl (lv_at hl 1 rfl) ?_
        refine lv_icmp_ne (tgt := 26) hx hb dX12_reaches_19 (by decide) (fun c576 => ?_) (fun c576 => ?_)
        · have c576 : ¬ v3_5.toInt = a1.toInt := wk_eqF c576
          refine lv_ldcw (v := 100000000) hx hb hC.2.2.2.1 (hC.2.2.2.2 _ (List.mem_of_getElem? (i := 2) rfl)) dX12_reaches_26 ?_
          refine tk_iast hC hK hw hT kM_at18 (by decide) rfl rfl (show 0 ≤ v3_5.toInt by omega) (show v3_5.toInt < 10 by omega) (by decide) (by decide) dX12_reaches_29 (fun H locs w577 hw hT k579 c578 => ?_)
          have gs580 : sumG 19 10 w577 = sumG 19 10 w563 := sumG_ne 10 k579 (tk_ne kM_at19 kM_at18 (by decide))
          have hF := hF.put kM_at18 (inE_of (a := 0) (b := 10) (by decide) (show 0 ≤ v3_5.toInt.toNat by omega) (show v3_5.toInt.toNat ≤ 10 by omega)) k579
          refine lv_aload_n hx hb dX12_reaches_30 rfl (lv_at hl 0 rfl) ?_
          refine tk_getA hC hK hw hT hinX12 kM_at0 (by decide) rfl 36 (by decide) (List.mem_of_getElem? (i := 3) rfl) rfl rfl dX12_reaches_31 ?_
          refine lv_iload hx hb dX12_reaches_34 (lv_at hl 5 rfl) ?_
          refine lv_iconst (v := 0) hx hb dX12_reaches_36 (by decide) ?_
          refine tk_zast hC hK hw hT kM_at19 (by decide) rfl rfl (show 0 ≤ v3_5.toInt by omega) (show v3_5.toInt < 10 by omega) (by decide) (by decide) dX12_reaches_37 (fun H locs w581 hw hT k583 c582 => ?_)
          have gs584 : sumG 19 10 w581 = sumG 19 10 w577 - (gi w577 19 (v3_5.toInt.toNat)).toInt + (gi w581 19 (v3_5.toInt.toNat)).toInt := sumG_up (i := v3_5.toInt.toNat) k583 10 (show v3_5.toInt.toNat < 10 by omega)
          rw [show gi w581 19 (v3_5.toInt.toNat) = 0 from c582] at gs584
          rw [show (0 : Int32).toInt = 0 by decide] at gs584
          have hF := hF.put kM_at19 (inE_of (a := 0) (b := 10) (by decide) (show 0 ≤ v3_5.toInt.toNat by omega) (show v3_5.toInt.toNat ≤ 10 by omega)) k583
          obtain ⟨x585, ex585⟩ : ∃ y : Int32, y = v3_5 + Int32.ofInt 1 := ⟨_, rfl⟩
          refine lv_iinc (v := x585) (lv' := [(5, .int x585), (0, .ref (ad 0)), (1, .int a1), (2, .int a2), (3, .int a3), (4, .int a4)]) hx hb dX12_reaches_38 hl (k := 5) rfl ex585.symm (by decide) rfl (fun ls hl => ?_)
          have ex585 : x585.toInt = v3_5.toInt + 1 := by rw [ex585]; exact wk_add (y := 1) (show -2147483648 ≤ v3_5.toInt + 1 by omega) (show v3_5.toInt + 1 ≤ 2147483647 by omega)
          refine lv_goto (tgt := 3) hx hb dX12_reaches_41 (by decide) ?_
          exact ih3 x585 H locs ls w581 (show 0 ≤ a1.toInt by omega) (show a1.toInt ≤ 9 by omega) (show 0 ≤ a2.toInt by omega) (show a2.toInt ≤ 9 by omega) (show 0 ≤ a3.toInt by omega) (show a3.toInt ≤ 99999 by omega) (show 2000 ≤ a4.toInt by omega) (show a4.toInt ≤ 101999 by omega) (show 0 ≤ x585.toInt by omega) (show x585.toInt ≤ 10 by omega) (show (10 - x585.toInt).toNat < n3 by omega) hw hT hF  (lv_sub hl [1, 2, 3, 4, 5, 0] rfl)
        · have c576 : v3_5.toInt = a1.toInt := wk_eq.mp c576
          refine lv_iload_n hx hb dX12_reaches_22 rfl (lv_at hl 3 rfl) ?_
          refine lv_goto (tgt := 29) hx hb dX12_reaches_23 (by decide) ?_
          refine tk_iast hC hK hw hT kM_at18 (by decide) rfl rfl (show 0 ≤ v3_5.toInt by omega) (show v3_5.toInt < 10 by omega) (show 0 ≤ a3.toInt by omega) (show a3.toInt ≤ 100000100 by omega) dX12_reaches_29 (fun H locs w586 hw hT k588 c587 => ?_)
          have gs589 : sumG 19 10 w586 = sumG 19 10 w563 := sumG_ne 10 k588 (tk_ne kM_at19 kM_at18 (by decide))
          have hF := hF.put kM_at18 (inE_of (a := 0) (b := 10) (by decide) (show 0 ≤ v3_5.toInt.toNat by omega) (show v3_5.toInt.toNat ≤ 10 by omega)) k588
          refine lv_aload_n hx hb dX12_reaches_30 rfl (lv_at hl 0 rfl) ?_
          refine tk_getA hC hK hw hT hinX12 kM_at0 (by decide) rfl 36 (by decide) (List.mem_of_getElem? (i := 3) rfl) rfl rfl dX12_reaches_31 ?_
          refine lv_iload hx hb dX12_reaches_34 (lv_at hl 5 rfl) ?_
          refine lv_iconst (v := 0) hx hb dX12_reaches_36 (by decide) ?_
          refine tk_zast hC hK hw hT kM_at19 (by decide) rfl rfl (show 0 ≤ v3_5.toInt by omega) (show v3_5.toInt < 10 by omega) (by decide) (by decide) dX12_reaches_37 (fun H locs w590 hw hT k592 c591 => ?_)
          have gs593 : sumG 19 10 w590 = sumG 19 10 w586 - (gi w586 19 (v3_5.toInt.toNat)).toInt + (gi w590 19 (v3_5.toInt.toNat)).toInt := sumG_up (i := v3_5.toInt.toNat) k592 10 (show v3_5.toInt.toNat < 10 by omega)
          rw [show gi w590 19 (v3_5.toInt.toNat) = 0 from c591] at gs593
          rw [show (0 : Int32).toInt = 0 by decide] at gs593
          have hF := hF.put kM_at19 (inE_of (a := 0) (b := 10) (by decide) (show 0 ≤ v3_5.toInt.toNat by omega) (show v3_5.toInt.toNat ≤ 10 by omega)) k592
          obtain ⟨x594, ex594⟩ : ∃ y : Int32, y = v3_5 + Int32.ofInt 1 := ⟨_, rfl⟩
          refine lv_iinc (v := x594) (lv' := [(5, .int x594), (0, .ref (ad 0)), (1, .int a1), (2, .int a2), (3, .int a3), (4, .int a4)]) hx hb dX12_reaches_38 hl (k := 5) rfl ex594.symm (by decide) rfl (fun ls hl => ?_)
          have ex594 : x594.toInt = v3_5.toInt + 1 := by rw [ex594]; exact wk_add (y := 1) (show -2147483648 ≤ v3_5.toInt + 1 by omega) (show v3_5.toInt + 1 ≤ 2147483647 by omega)
          refine lv_goto (tgt := 3) hx hb dX12_reaches_41 (by decide) ?_
          exact ih3 x594 H locs ls w590 (show 0 ≤ a1.toInt by omega) (show a1.toInt ≤ 9 by omega) (show 0 ≤ a2.toInt by omega) (show a2.toInt ≤ 9 by omega) (show 0 ≤ a3.toInt by omega) (show a3.toInt ≤ 99999 by omega) (show 2000 ≤ a4.toInt by omega) (show a4.toInt ≤ 101999 by omega) (show 0 ≤ x594.toInt by omega) (show x594.toInt ≤ 10 by omega) (show (10 - x594.toInt).toNat < n3 by omega) hw hT hF  (lv_sub hl [1, 2, 3, 4, 5, 0] rfl)
  refine lv_iconst (v := 0) hx hb dX12_reaches_0 (by decide) ?_
  refine lv_istore (lv' := [(5, .int 0), (0, .ref (ad 0)), (1, .int a1), (2, .int a2), (3, .int a3), (4, .int a4)]) hx hb dX12_reaches_1 hl (by decide) rfl (fun ls hl => ?_)
  exact L3 ((10 - (0 : Int)).toNat + 1) 0 s.heap locs ls w0 (show 0 ≤ a1.toInt by omega) (show a1.toInt ≤ 9 by omega) (show 0 ≤ a2.toInt by omega) (show a2.toInt ≤ 9 by omega) (show 0 ≤ a3.toInt by omega) (show a3.toInt ≤ 99999 by omega) (show 2000 ≤ a4.toInt by omega) (show a4.toInt ≤ 101999 by omega) (by decide) (by decide) (Nat.lt_succ_self _) hw hT hF  (lv_sub hl [1, 2, 3, 4, 5, 0] rfl)
abbrev P_X12_sumOf_1 (ad : Nat → Nat) (cy : Nat → ClassId) (B : Int) (qr : Nat) (s1 : Int) (a1 : Int32) (w0 : va_W) : Int32 → va_W → Prop := fun r u => TW ksM ad cy B qr 13 u ∧ FE ksM [(77, 0, 10), (78, 0, 10)] w0 u ∧ ((True))
set_option maxHeartbeats 4000000 in
set_option maxRecDepth 100000 in
theorem k_X12_sumOf_1 (l : Launch) (adK adV : Nat → Nat) (dC : Nat → ClassId) (dI : Nat → Nat → Nat) (cy : Nat → ClassId) (ad : Nat → Nat) (B : Int) (hB0 : 100000 ≤ B) (hB1 : B ≤ 1073741824) (qr : Nat) (s1 : Int)  (a1 : Int32) (ra1 : 0 ≤ a1.toInt) (ta1 : a1.toInt ≤ 99999) (w0 : va_W) (sz : Nat) (hT : TW ksM ad cy B qr 13 w0)  : Met l yX12_sumOf wsX12_sumOf ({ frames := 6, cells := 0, slots := 0, locals := 133 }) (va_Pc [.ref (ad 0), .int a1] (wpreS adK adV dC dI cy sz w0)) (va_Qi (P_X12_sumOf_1 ad cy B qr s1 a1 w0) (fun u : va_W => wpost dC dI cy (va_A w0 sz) u) (va_A w0 sz)) 0 0 (va_A w0 sz) := by
  refine Met.ofW (cc := cX12_sumOf) (maxL := 5) (ret := (some .int)) (by decide) rfl ?_
  intro p e s m args below meth c s₁ Bk hml hv
  obtain ⟨rfl, ⟨hsz, hP, hK, hD0⟩, hE, hSR⟩ := hv
  have hx := Bk.exec
  have hb := Bk.bytes
  have hr := Bk.returns
  have hlocks := Bk.notSynchronized
  have hC : CallFix p m c cX12_sumOf 5 s _ wsX12_sumOf RX12 := ⟨hx, hb, hml, findClass_of_methodNamed Bk.named, atoms_spec (ws := wsX12_sumOf) Bk.pre⟩
  subst hsz
  have hD := hD0.self (sz := s.heap.size)
  generalize hAe : va_A w0 s.heap.size = A at hD hE ⊢
  have hA : ∀ q : Nat, s.heap.size ≤ q → A q := fun q h => by rw [← hAe]; exact Or.inr h
  have hw : Wd dC dI A s.heap s.heap [] w0 := ⟨hP, hD, va_S.rf⟩
  have hF : FE ksM [(77, 0, 10), (78, 0, 10)] w0 w0 := FE.rf
  have hl := lv_entry ([.ref (ad 0), .int a1]) (n := 5) (Nat.le_of_ble_eq_true rfl)
  rw [lg_entry_eq]
  generalize (lg_sl ([.ref (ad 0), .int a1]) ++ List.replicate (5 - (lg_sl ([.ref (ad 0), .int a1])).length) Slot.unset).toArray = ls at hl ⊢
  have hl : lv_has ls 5 [(0, .ref (ad 0)), (1, .int a1)] := hl
  generalize hloc : ([] : List Loc) = locs at hw ⊢
  have hinX12 : ∀ w ∈ u_ws RX12 TX12 42, w ∈ wsX12_sumOf := fun _ h => List.mem_cons_of_mem _ (List.mem_append_right _ (h))
  have L4 : ∀ (n4 : Nat) (v4_2 : Int32) (v4_3 : Int32) (H : Heap) (locs : List Loc) (ls : Array Slot) (w1 : va_W), 0 ≤ a1.toInt → a1.toInt ≤ 99999 → 0 ≤ v4_3.toInt → v4_3.toInt ≤ 6 → (6 - v4_3.toInt).toNat < n4 → Wd dC dI A s.heap H locs w1 → TW ksM ad cy B qr 13 w1 → FE ksM [(77, 0, 10), (78, 0, 10)] w0 w1 → lv_has ls 5 [(0, .ref (ad 0)), (1, .int a1), (2, .int v4_2), (3, .int v4_3)] → W p l e ({ frames := 6, cells := 0, slots := 0, locals := 133 }) s m (List.toArray [.ref (ad 0), .int a1]) below meth c H locs 0 0 (MQ below (va_Qi (P_X12_sumOf_1 ad cy B qr s1 a1 w0) (fun u : va_W => wpost dC dI cy A u) A) (List.toArray [.ref (ad 0), .int a1]) s 0 0 A) (F0 m 4 ls []) := by
    intro n4
    induction n4 with
    | zero => intro v4_2 v4_3 H locs ls w1 r2 t3 r4 t5 hm4 hw hT hF hl; omega
    | succ n4 ih4 =>
      intro v4_2 v4_3 H locs ls w1 r2 t3 r4 t5 hm4 hw hT hF hl
      refine lv_iload_n hx hb dX12_sumOf_4 rfl (lv_at hl 3 rfl) ?_
      refine lv_aload_n hx hb dX12_sumOf_5 rfl (lv_at hl 0 rfl) ?_
      refine tk_getA hC hK hw hT hinX12 kM_at0 (by decide) rfl 26 (by decide) (List.mem_of_getElem? (i := 1) rfl) rfl rfl dX12_sumOf_6 ?_
      refine lv_bipush (v := 6) hx hb dX12_sumOf_9 (by decide) ?_
      refine tk_ialdR hC hK hw hT kM_at12 rfl (by decide) (by decide) dX12_sumOf_11 (fun x6 c7 Ex6 => ?_)
      have bx6 := tk_rgI rfl 6 1 1 0 6 (by decide +kernel) ⟨0, by decide, by decide⟩ Ex6
      have c7 : gi w1 12 6 = x6 := c7
      refine lv_icmp_ge (tgt := 80) hx hb dX12_sumOf_12 (by decide) (fun c8 => ?_) (fun c8 => ?_)
      · have c8 : x6.toInt ≤ v4_3.toInt := wk_le.mp c8
        refine lv_iload_n hx hb dX12_sumOf_80 rfl (lv_at hl 2 rfl) ?_
        exact tk_iret hC hr hlocks hK ⟨hT, hF, trivial⟩ hw dX12_sumOf_81
      · have c8 : v4_3.toInt < x6.toInt := wk_leF c8
        refine lv_aload_n hx hb dX12_sumOf_15 rfl (lv_at hl 0 rfl) ?_
        refine lv_aload_n hx hb dX12_sumOf_16 rfl (lv_at hl 0 rfl) ?_
        refine tk_getA hC hK hw hT hinX12 kM_at0 (by decide) rfl 26 (by decide) (List.mem_of_getElem? (i := 1) rfl) rfl rfl dX12_sumOf_17 ?_
        refine lv_sipush (v := 252) hx hb dX12_sumOf_20 (by decide) ?_
        refine lv_iconst (v := 2) hx hb dX12_sumOf_23 (by decide) ?_
        refine lv_iload_n hx hb dX12_sumOf_24 rfl (lv_at hl 3 rfl) ?_
        refine lv_imul hx hb dX12_sumOf_25 ?_
        refine lv_topi (fun x9 ex9 => ?_)
        have ex9 : x9.toInt = (2 : Int) * v4_3.toInt := by rw [ex9]; exact wk_mul (show (-2147483648) ≤ (2 : Int) * v4_3.toInt by omega) (show (2 : Int) * v4_3.toInt ≤ 2147483647 by omega)
        refine lv_iadd hx hb dX12_sumOf_26 ?_
        refine lv_topi (fun x10 ex10 => ?_)
        have ex10 : x10.toInt = (252 : Int) + x9.toInt := by rw [ex10]; exact wk_add (show (-2147483648) ≤ (252 : Int) + x9.toInt by omega) (show (252 : Int) + x9.toInt ≤ 2147483647 by omega)
        refine tk_ialdR hC hK hw hT kM_at12 rfl (show 0 ≤ x10.toInt by omega) (show x10.toInt < 296 by omega) dX12_sumOf_27 (fun x11 c12 Ex11 => ?_)
        have c12 : gi w1 12 (2 * v4_3.toInt + 252).toNat = x11 := (congrArg (gi w1 12) (congrArg Int.toNat (show 2 * v4_3.toInt + 252 = x10.toInt by omega))).trans c12
        have bx11 := tk_rgI rfl 252 2 6 0 9 (by decide +kernel) ⟨(v4_3.toInt - 0).toNat, by omega, show x10.toInt.toNat = 252 + 2 * (v4_3.toInt - 0).toNat by omega⟩ Ex11
        refine lv_aload_n hx hb dX12_sumOf_28 rfl (lv_at hl 0 rfl) ?_
        refine tk_getA hC hK hw hT hinX12 kM_at0 (by decide) rfl 26 (by decide) (List.mem_of_getElem? (i := 1) rfl) rfl rfl dX12_sumOf_29 ?_
        refine lv_sipush (v := 252) hx hb dX12_sumOf_32 (by decide) ?_
        refine lv_iconst (v := 2) hx hb dX12_sumOf_35 (by decide) ?_
        refine lv_iload_n hx hb dX12_sumOf_36 rfl (lv_at hl 3 rfl) ?_
        refine lv_imul hx hb dX12_sumOf_37 ?_
        refine lv_topi (fun x13 ex13 => ?_)
        have ex13 : x13.toInt = (2 : Int) * v4_3.toInt := by rw [ex13]; exact wk_mul (show (-2147483648) ≤ (2 : Int) * v4_3.toInt by omega) (show (2 : Int) * v4_3.toInt ≤ 2147483647 by omega)
        refine lv_iadd hx hb dX12_sumOf_38 ?_
        refine lv_topi (fun x14 ex14 => ?_)
        have ex14 : x14.toInt = (252 : Int) + x13.toInt := by rw [ex14]; exact wk_add (show (-2147483648) ≤ (252 : Int) + x13.toInt by omega) (show (252 : Int) + x13.toInt ≤ 2147483647 by omega)
        refine lv_iconst (v := 1) hx hb dX12_sumOf_39 (by decide) ?_
        refine lv_iadd hx hb dX12_sumOf_40 ?_
        refine lv_topi (fun x15 ex15 => ?_)
        have ex15 : x15.toInt = x14.toInt + (1 : Int) := by rw [ex15]; exact wk_add (show (-2147483648) ≤ x14.toInt + (1 : Int) by omega) (show x14.toInt + (1 : Int) ≤ 2147483647 by omega)
        refine tk_ialdR hC hK hw hT kM_at12 rfl (show 0 ≤ x15.toInt by omega) (show x15.toInt < 296 by omega) dX12_sumOf_41 (fun x16 c17 Ex16 => ?_)
        have c17 : gi w1 12 (2 * v4_3.toInt + 253).toNat = x16 := (congrArg (gi w1 12) (congrArg Int.toNat (show 2 * v4_3.toInt + 253 = x15.toInt by omega))).trans c17
        have bx16 := tk_rgI rfl 253 2 6 0 9 (by decide +kernel) ⟨(v4_3.toInt - 0).toNat, by omega, show x15.toInt.toNat = 253 + 2 * (v4_3.toInt - 0).toNat by omega⟩ Ex16
        refine lv_iload_n hx hb dX12_sumOf_42 rfl (lv_at hl 1 rfl) ?_
        refine lv_iload_n hx hb dX12_sumOf_43 rfl (lv_at hl 1 rfl) ?_
        refine lv_sipush (v := 2000) hx hb dX12_sumOf_44 (by decide) ?_
        refine lv_iadd hx hb dX12_sumOf_47 ?_
        refine lv_topi (fun x18 ex18 => ?_)
        have ex18 : x18.toInt = a1.toInt + (2000 : Int) := by rw [ex18]; exact wk_add (show (-2147483648) ≤ a1.toInt + (2000 : Int) by omega) (show a1.toInt + (2000 : Int) ≤ 2147483647 by omega)
        refine tk_Vi hC hK hw hT hA hE hSR kM_at0 (by decide) rfl (k_X12_reaches_3 l adK adV dC dI cy ad B (by omega) (by omega) qr s1   x11 (show 0 ≤ x11.toInt by omega) (show x11.toInt ≤ 9 by omega) x16 (show 0 ≤ x16.toInt by omega) (show x16.toInt ≤ 9 by omega) a1 (show 0 ≤ a1.toInt by omega) (show a1.toInt ≤ 99999 by omega) x18 (show 2000 ≤ x18.toInt by omega) (show x18.toInt ≤ 101999 by omega) w1 H.size hT ) (cwV 4 hC.2.2.2.2 gX12_sumOf_X12_reaches rfl rfl rfl (by decide +kernel) ⟨Nat.le_of_ble_eq_true rfl, Nat.le_of_ble_eq_true rfl⟩) rfl hl.1 rfl (Nat.le_of_ble_eq_true rfl) dX12_sumOf_48 (fun r19 w21 H locs hp20 hw => ?_)
        obtain ⟨hT, k22, hg25⟩ := hp20
        have hF := hF.tr k22 (by decide)
        have c26 := k22.gi kM_at12 (by decide) c7
        have c27 := k22.gi kM_at12 rfl c12
        have c28 := k22.gi kM_at12 rfl c17
        obtain ⟨g23, g24⟩ := hg25
        refine lv_istore (lv' := [(4, .int r19), (0, .ref (ad 0)), (1, .int a1), (2, .int v4_2), (3, .int v4_3)]) hx hb dX12_sumOf_51 hl (by decide) rfl (fun ls hl => ?_)
        refine lv_iload_n hx hb dX12_sumOf_53 rfl (lv_at hl 3 rfl) ?_
        refine lv_iload hx hb dX12_sumOf_54 (lv_at hl 0 rfl) ?_
        refine lv_ldcw (v := 100000000) hx hb hC.2.2.2.1 (hC.2.2.2.2 _ (List.mem_of_getElem? (i := 2) rfl)) dX12_sumOf_56 ?_
        refine lv_icmp_ne (tgt := 68) hx hb dX12_sumOf_59 (by decide) (fun c29 => ?_) (fun c29 => ?_)
        · have c29 : ¬ r19.toInt = (100000000 : Int) := wk_eqF c29
          refine lv_iload hx hb dX12_sumOf_68 (lv_at hl 0 rfl) ?_
          refine lv_iload_n hx hb dX12_sumOf_70 rfl (lv_at hl 2 rfl) ?_
          refine lv_isub hx hb dX12_sumOf_71 ?_
          refine lv_topi (fun x30 ex30 => ?_)
          have ex30 : x30.toInt = r19.toInt - a1.toInt := by rw [ex30]; exact wk_sub (show (-2147483648) ≤ r19.toInt - a1.toInt by omega) (show r19.toInt - a1.toInt ≤ 2147483647 by omega)
          refine lv_iadd hx hb dX12_sumOf_72 ?_
          have nx31 := wk_i32 v4_2
          refine lv_topi (fun x32 ex32 => ?_)
          refine lv_istore_n (lv' := [(2, .int x32), (4, .int r19), (0, .ref (ad 0)), (1, .int a1), (3, .int v4_3)]) hx hb dX12_sumOf_73 rfl hl (by decide) rfl (fun ls hl => ?_)
          obtain ⟨x33, ex33⟩ : ∃ y : Int32, y = v4_3 + Int32.ofInt 1 := ⟨_, rfl⟩
          refine lv_iinc (v := x33) (lv' := [(3, .int x33), (2, .int x32), (4, .int r19), (0, .ref (ad 0)), (1, .int a1)]) hx hb dX12_sumOf_74 hl (k := 4) rfl ex33.symm (by decide) rfl (fun ls hl => ?_)
          have ex33 : x33.toInt = v4_3.toInt + 1 := by rw [ex33]; exact wk_add (y := 1) (show -2147483648 ≤ v4_3.toInt + 1 by omega) (show v4_3.toInt + 1 ≤ 2147483647 by omega)
          refine lv_goto (tgt := 4) hx hb dX12_sumOf_77 (by decide) ?_
          exact ih4 x32 x33 H locs ls w21 (show 0 ≤ a1.toInt by omega) (show a1.toInt ≤ 99999 by omega) (show 0 ≤ x33.toInt by omega) (show x33.toInt ≤ 6 by omega) (show (6 - x33.toInt).toNat < n4 by omega) hw hT hF  (lv_sub hl [3, 4, 1, 0] rfl)
        · have c29 : r19.toInt = (100000000 : Int) := wk_eq.mp c29
          refine lv_sipush (v := 2001) hx hb dX12_sumOf_62 (by decide) ?_
          refine lv_goto (tgt := 72) hx hb dX12_sumOf_65 (by decide) ?_
          refine lv_iadd hx hb dX12_sumOf_72 ?_
          have nx34 := wk_i32 v4_2
          refine lv_topi (fun x35 ex35 => ?_)
          refine lv_istore_n (lv' := [(2, .int x35), (4, .int r19), (0, .ref (ad 0)), (1, .int a1), (3, .int v4_3)]) hx hb dX12_sumOf_73 rfl hl (by decide) rfl (fun ls hl => ?_)
          obtain ⟨x36, ex36⟩ : ∃ y : Int32, y = v4_3 + Int32.ofInt 1 := ⟨_, rfl⟩
          refine lv_iinc (v := x36) (lv' := [(3, .int x36), (2, .int x35), (4, .int r19), (0, .ref (ad 0)), (1, .int a1)]) hx hb dX12_sumOf_74 hl (k := 4) rfl ex36.symm (by decide) rfl (fun ls hl => ?_)
          have ex36 : x36.toInt = v4_3.toInt + 1 := by rw [ex36]; exact wk_add (y := 1) (show -2147483648 ≤ v4_3.toInt + 1 by omega) (show v4_3.toInt + 1 ≤ 2147483647 by omega)
          refine lv_goto (tgt := 4) hx hb dX12_sumOf_77 (by decide) ?_
          exact ih4 x35 x36 H locs ls w21 (show 0 ≤ a1.toInt by omega) (show a1.toInt ≤ 99999 by omega) (show 0 ≤ x36.toInt by omega) (show x36.toInt ≤ 6 by omega) (show (6 - x36.toInt).toNat < n4 by omega) hw hT hF  (lv_sub hl [3, 4, 1, 0] rfl)
  refine lv_iconst (v := 0) hx hb dX12_sumOf_0 (by decide) ?_
  refine lv_istore_n (lv' := [(2, .int 0), (0, .ref (ad 0)), (1, .int a1)]) hx hb dX12_sumOf_1 rfl hl (by decide) rfl (fun ls hl => ?_)
  refine lv_iconst (v := 0) hx hb dX12_sumOf_2 (by decide) ?_
  refine lv_istore_n (lv' := [(3, .int 0), (2, .int 0), (0, .ref (ad 0)), (1, .int a1)]) hx hb dX12_sumOf_3 rfl hl (by decide) rfl (fun ls hl => ?_)
  exact L4 ((6 - (0 : Int)).toNat + 1) 0 0 s.heap locs ls w0 (show 0 ≤ a1.toInt by omega) (show a1.toInt ≤ 99999 by omega) (by decide) (by decide) (Nat.lt_succ_self _) hw hT hF  (lv_sub hl [2, 3, 1, 0] rfl)
abbrev P_X12_built_1 (ad : Nat → Nat) (cy : Nat → ClassId) (B : Int) (qr : Nat) (s1 : Int) (a1 : Int32) (a2 : Int32) (a3 : Int32) (w0 : va_W) : Int32 → va_W → Prop := fun r u => TW ksM ad cy B qr 12 u ∧ FE ksM [(71, 1, 1), (71, 10, 130), (71, 11, 131), (71, 12, 132), (71, 13, 139), (77, 0, 10), (78, 0, 10)] w0 u ∧ ((1 ≤ a1.toInt ∧ a1.toInt ≤ 9 ∧ 0 ≤ a2.toInt ∧ a2.toInt ≤ 99999 ∧ 0 ≤ a3.toInt ∧ a3.toInt ≤ 2 ∧ (∃ y : Int32, gi u 12 0 = y ∧ 1 ≤ y.toInt ∧ y.toInt ≤ 10)) ∨ (r = (-1)))
set_option maxHeartbeats 4000000 in
set_option maxRecDepth 100000 in
theorem k_X12_built_1 (l : Launch) (adK adV : Nat → Nat) (dC : Nat → ClassId) (dI : Nat → Nat → Nat) (cy : Nat → ClassId) (ad : Nat → Nat) (B : Int) (hB0 : 100000 ≤ B) (hB1 : B ≤ 1073741824) (qr : Nat) (s1 : Int)  (a1 : Int32) (a2 : Int32) (a3 : Int32) (w0 : va_W) (sz : Nat) (hT : TW ksM ad cy B qr 12 w0)  : Met l yX12_built wsX12_built ({ frames := 7, cells := 0, slots := 0, locals := 157 }) (va_Pc [.ref (ad 0), .int a1, .int a2, .int a3] (wpreS adK adV dC dI cy sz w0)) (va_Qi (P_X12_built_1 ad cy B qr s1 a1 a2 a3 w0) (fun u : va_W => wpost dC dI cy (va_A w0 sz) u) (va_A w0 sz)) 0 0 (va_A w0 sz) := by
  refine Met.ofW (cc := cX12_built) (maxL := 11) (ret := (some .int)) (by decide) rfl ?_
  intro p e s m args below meth c s₁ Bk hml hv
  obtain ⟨rfl, ⟨hsz, hP, hK, hD0⟩, hE, hSR⟩ := hv
  have hx := Bk.exec
  have hb := Bk.bytes
  have hr := Bk.returns
  have hlocks := Bk.notSynchronized
  have hC : CallFix p m c cX12_built 11 s _ wsX12_built RX12 := ⟨hx, hb, hml, findClass_of_methodNamed Bk.named, atoms_spec (ws := wsX12_built) Bk.pre⟩
  subst hsz
  have hD := hD0.self (sz := s.heap.size)
  generalize hAe : va_A w0 s.heap.size = A at hD hE ⊢
  have hA : ∀ q : Nat, s.heap.size ≤ q → A q := fun q h => by rw [← hAe]; exact Or.inr h
  have hw : Wd dC dI A s.heap s.heap [] w0 := ⟨hP, hD, va_S.rf⟩
  have hF : FE ksM [(71, 1, 1), (71, 10, 130), (71, 11, 131), (71, 12, 132), (71, 13, 139), (77, 0, 10), (78, 0, 10)] w0 w0 := FE.rf
  have hl := lv_entry ([.ref (ad 0), .int a1, .int a2, .int a3]) (n := 11) (Nat.le_of_ble_eq_true rfl)
  rw [lg_entry_eq]
  generalize (lg_sl ([.ref (ad 0), .int a1, .int a2, .int a3]) ++ List.replicate (11 - (lg_sl ([.ref (ad 0), .int a1, .int a2, .int a3])).length) Slot.unset).toArray = ls at hl ⊢
  have hl : lv_has ls 11 [(0, .ref (ad 0)), (1, .int a1), (2, .int a2), (3, .int a3)] := hl
  generalize hloc : ([] : List Loc) = locs at hw ⊢
  have hinX12 : ∀ w ∈ u_ws RX12 TX12 42, w ∈ wsX12_built := fun _ h => List.mem_cons_of_mem _ (List.mem_append_right _ (h))
  have J38 : ∀ (f38_12_0 : Int32) (H : Heap) (locs : List Loc) (ls : Array Slot) (w1 : va_W), 0 ≤ f38_12_0.toInt → f38_12_0.toInt ≤ 10 → Wd dC dI A s.heap H locs w1 → TW ksM ad cy B qr 12 w1 → FE ksM [(71, 1, 1), (71, 10, 130), (71, 11, 131), (71, 12, 132), (71, 13, 139), (77, 0, 10), (78, 0, 10)] w0 w1 → gi w1 12 0 = f38_12_0 → lv_has ls 11 [(0, .ref (ad 0)), (1, .int a1), (2, .int a2), (3, .int a3)] → W p l e ({ frames := 7, cells := 0, slots := 0, locals := 157 }) s m (List.toArray [.ref (ad 0), .int a1, .int a2, .int a3]) below meth c H locs 0 0 (MQ below (va_Qi (P_X12_built_1 ad cy B qr s1 a1 a2 a3 w0) (fun u : va_W => wpost dC dI cy A u) A) (List.toArray [.ref (ad 0), .int a1, .int a2, .int a3]) s 0 0 A) (F0 m 38 ls []) := by
    intro f38_12_0 H locs ls w1 r2 t3 hw hT hF c4 hl
    refine lv_iconst (v := (-1)) hx hb dX12_built_38 (by decide) ?_
    exact tk_iret hC hr hlocks hK ⟨hT, hF, (Or.inr rfl)⟩ hw dX12_built_39
  have L76 : ∀ (n76 : Nat) (v76_4 : Int32) (v76_5 : Int32) (v76_6 : Int32) (v76_7 : Int32) (v76_8 : Int32) (f76_12_0 : Int32) (f76_12_1 : Int32) (H : Heap) (locs : List Loc) (ls : Array Slot) (w5 : va_W), 1 ≤ a1.toInt → a1.toInt ≤ 9 → 0 ≤ a2.toInt → a2.toInt ≤ 99999 → 0 ≤ a3.toInt → a3.toInt ≤ 2 → 10 ≤ v76_4.toInt → v76_4.toInt ≤ 130 → (-1) ≤ v76_5.toInt → v76_5.toInt ≤ 9 → (-1) ≤ v76_6.toInt → v76_6.toInt ≤ 9 → 0 ≤ v76_8.toInt → v76_8.toInt ≤ 10 → 1 ≤ f76_12_0.toInt → f76_12_0.toInt ≤ 10 → 1 ≤ f76_12_1.toInt → f76_12_1.toInt ≤ 13 → (10 - v76_8.toInt).toNat < n76 → Wd dC dI A s.heap H locs w5 → TW ksM ad cy B qr 13 w5 → FE ksM [(71, 1, 1), (71, 10, 130), (71, 11, 131), (71, 12, 132), (71, 13, 139), (77, 0, 10), (78, 0, 10)] w0 w5 → gi w5 12 0 = f76_12_0 → gi w5 12 1 = f76_12_1 → lv_has ls 11 [(0, .ref (ad 0)), (1, .int a1), (2, .int a2), (3, .int a3), (4, .int v76_4), (5, .int v76_5), (6, .int v76_6), (7, .int v76_7), (8, .int v76_8)] → W p l e ({ frames := 7, cells := 0, slots := 0, locals := 157 }) s m (List.toArray [.ref (ad 0), .int a1, .int a2, .int a3]) below meth c H locs 0 0 (MQ below (va_Qi (P_X12_built_1 ad cy B qr s1 a1 a2 a3 w0) (fun u : va_W => wpost dC dI cy A u) A) (List.toArray [.ref (ad 0), .int a1, .int a2, .int a3]) s 0 0 A) (F0 m 76 ls []) := by
    intro n76
    induction n76 with
    | zero => intro v76_4 v76_5 v76_6 v76_7 v76_8 f76_12_0 f76_12_1 H locs ls w5 r6 t7 r8 t9 r10 t11 r12 t13 r14 t15 r16 t17 r18 t19 r20 t21 r23 t24 hm76 hw hT hF c22 c25 hl; omega
    | succ n76 ih76 =>
      intro v76_4 v76_5 v76_6 v76_7 v76_8 f76_12_0 f76_12_1 H locs ls w5 r6 t7 r8 t9 r10 t11 r12 t13 r14 t15 r16 t17 r18 t19 r20 t21 r23 t24 hm76 hw hT hF c22 c25 hl
      have L93 : ∀ (n93 : Nat) (v93_5 : Int32) (v93_6 : Int32) (v93_7 : Int32) (v93_9 : Int32) (H : Heap) (locs : List Loc) (ls : Array Slot) (w26 : va_W), 1 ≤ a1.toInt → a1.toInt ≤ 9 → 0 ≤ a2.toInt → a2.toInt ≤ 99999 → 0 ≤ a3.toInt → a3.toInt ≤ 2 → 10 ≤ v76_4.toInt → v76_4.toInt ≤ 130 → (-1) ≤ v93_5.toInt → v93_5.toInt ≤ 9 → (-1) ≤ v93_6.toInt → v93_6.toInt ≤ 9 → 0 ≤ v76_8.toInt → v76_8.toInt ≤ 9 → 1 ≤ v93_9.toInt → v93_9.toInt ≤ 10 → 1 ≤ f76_12_0.toInt → f76_12_0.toInt ≤ 10 → 1 ≤ f76_12_1.toInt → f76_12_1.toInt ≤ 13 → (10 - v93_9.toInt).toNat < n93 → Wd dC dI A s.heap H locs w26 → TW ksM ad cy B qr 13 w26 → FE ksM [(71, 1, 1), (71, 10, 130), (71, 11, 131), (71, 12, 132), (71, 13, 139), (77, 0, 10), (78, 0, 10)] w0 w26 → gi w26 12 0 = f76_12_0 → gi w26 12 1 = f76_12_1 → lv_has ls 11 [(0, .ref (ad 0)), (1, .int a1), (2, .int a2), (3, .int a3), (4, .int v76_4), (5, .int v93_5), (6, .int v93_6), (7, .int v93_7), (8, .int v76_8), (9, .int v93_9)] → W p l e ({ frames := 7, cells := 0, slots := 0, locals := 157 }) s m (List.toArray [.ref (ad 0), .int a1, .int a2, .int a3]) below meth c H locs 0 0 (MQ below (va_Qi (P_X12_built_1 ad cy B qr s1 a1 a2 a3 w0) (fun u : va_W => wpost dC dI cy A u) A) (List.toArray [.ref (ad 0), .int a1, .int a2, .int a3]) s 0 0 A) (F0 m 93 ls []) := by
        intro n93
        induction n93 with
        | zero => intro v93_5 v93_6 v93_7 v93_9 H locs ls w26 r27 t28 r29 t30 r31 t32 r33 t34 r35 t36 r37 t38 r39 t40 r41 t42 r43 t44 r46 t47 hm93 hw hT hF c45 c48 hl; omega
        | succ n93 ih93 =>
          intro v93_5 v93_6 v93_7 v93_9 H locs ls w26 r27 t28 r29 t30 r31 t32 r33 t34 r35 t36 r37 t38 r39 t40 r41 t42 r43 t44 r46 t47 hm93 hw hT hF c45 c48 hl
          have J197 : ∀ (v197_5 : Int32) (v197_6 : Int32) (v197_7 : Int32) (v197_10 : Int32) (H : Heap) (locs : List Loc) (ls : Array Slot) (w49 : va_W), 1 ≤ a1.toInt → a1.toInt ≤ 9 → 0 ≤ a2.toInt → a2.toInt ≤ 99999 → 0 ≤ a3.toInt → a3.toInt ≤ 2 → 10 ≤ v76_4.toInt → v76_4.toInt ≤ 130 → 0 ≤ v197_5.toInt → v197_5.toInt ≤ 9 → (-1) ≤ v197_6.toInt → v197_6.toInt ≤ 9 → 0 ≤ v76_8.toInt → v76_8.toInt ≤ 9 → 1 ≤ v93_9.toInt → v93_9.toInt ≤ 9 → 2 ≤ f76_12_0.toInt → f76_12_0.toInt ≤ 10 → 1 ≤ f76_12_1.toInt → f76_12_1.toInt ≤ 13 → Wd dC dI A s.heap H locs w49 → TW ksM ad cy B qr 13 w49 → FE ksM [(71, 1, 1), (71, 10, 130), (71, 11, 131), (71, 12, 132), (71, 13, 139), (77, 0, 10), (78, 0, 10)] w0 w49 → gi w49 12 0 = f76_12_0 → gi w49 12 1 = f76_12_1 → lv_has ls 11 [(0, .ref (ad 0)), (1, .int a1), (2, .int a2), (3, .int a3), (4, .int v76_4), (5, .int v197_5), (6, .int v197_6), (7, .int v197_7), (8, .int v76_8), (9, .int v93_9), (10, .int v197_10)] → W p l e ({ frames := 7, cells := 0, slots := 0, locals := 157 }) s m (List.toArray [.ref (ad 0), .int a1, .int a2, .int a3]) below meth c H locs 0 0 (MQ below (va_Qi (P_X12_built_1 ad cy B qr s1 a1 a2 a3 w0) (fun u : va_W => wpost dC dI cy A u) A) (List.toArray [.ref (ad 0), .int a1, .int a2, .int a3]) s 0 0 A) (F0 m 197 ls []) := by
            intro v197_5 v197_6 v197_7 v197_10 H locs ls w49 r50 t51 r52 t53 r54 t55 r56 t57 r58 t59 r60 t61 r62 t63 r64 t65 r66 t67 r69 t70 hw hT hF c68 c71 hl
            obtain ⟨x72, ex72⟩ : ∃ y : Int32, y = v93_9 + Int32.ofInt 1 := ⟨_, rfl⟩
            refine lv_iinc (v := x72) (lv' := [(9, .int x72), (0, .ref (ad 0)), (1, .int a1), (2, .int a2), (3, .int a3), (4, .int v76_4), (5, .int v197_5), (6, .int v197_6), (7, .int v197_7), (8, .int v76_8), (10, .int v197_10)]) hx hb dX12_built_197 hl (k := 9) rfl ex72.symm (by decide) rfl (fun ls hl => ?_)
            have ex72 : x72.toInt = v93_9.toInt + 1 := by rw [ex72]; exact wk_add (y := 1) (show -2147483648 ≤ v93_9.toInt + 1 by omega) (show v93_9.toInt + 1 ≤ 2147483647 by omega)
            refine lv_goto (tgt := 93) hx hb dX12_built_200 (by decide) ?_
            exact ih93 v197_5 v197_6 v197_7 x72 H locs ls w49 (show 1 ≤ a1.toInt by omega) (show a1.toInt ≤ 9 by omega) (show 0 ≤ a2.toInt by omega) (show a2.toInt ≤ 99999 by omega) (show 0 ≤ a3.toInt by omega) (show a3.toInt ≤ 2 by omega) (show 10 ≤ v76_4.toInt by omega) (show v76_4.toInt ≤ 130 by omega) (show (-1) ≤ v197_5.toInt by omega) (show v197_5.toInt ≤ 9 by omega) (show (-1) ≤ v197_6.toInt by omega) (show v197_6.toInt ≤ 9 by omega) (show 0 ≤ v76_8.toInt by omega) (show v76_8.toInt ≤ 9 by omega) (show 1 ≤ x72.toInt by omega) (show x72.toInt ≤ 10 by omega) (show 1 ≤ f76_12_0.toInt by omega) (show f76_12_0.toInt ≤ 10 by omega) (show 1 ≤ f76_12_1.toInt by omega) (show f76_12_1.toInt ≤ 13 by omega) (show (10 - x72.toInt).toNat < n93 by omega) hw hT hF c68 c71 (lv_sub hl [1, 2, 3, 4, 5, 6, 7, 8, 9, 0] rfl)
          have J185 : ∀ (v185_10 : Int32) (H : Heap) (locs : List Loc) (ls : Array Slot) (w73 : va_W), 1 ≤ a1.toInt → a1.toInt ≤ 9 → 0 ≤ a2.toInt → a2.toInt ≤ 99999 → 0 ≤ a3.toInt → a3.toInt ≤ 2 → 10 ≤ v76_4.toInt → v76_4.toInt ≤ 130 → (-1) ≤ v93_5.toInt → v93_5.toInt ≤ 9 → (-1) ≤ v93_6.toInt → v93_6.toInt ≤ 9 → 0 ≤ v76_8.toInt → v76_8.toInt ≤ 9 → 1 ≤ v93_9.toInt → v93_9.toInt ≤ 9 → 2 ≤ f76_12_0.toInt → f76_12_0.toInt ≤ 10 → 1 ≤ f76_12_1.toInt → f76_12_1.toInt ≤ 13 → Wd dC dI A s.heap H locs w73 → TW ksM ad cy B qr 13 w73 → FE ksM [(71, 1, 1), (71, 10, 130), (71, 11, 131), (71, 12, 132), (71, 13, 139), (77, 0, 10), (78, 0, 10)] w0 w73 → gi w73 12 0 = f76_12_0 → gi w73 12 1 = f76_12_1 → lv_has ls 11 [(0, .ref (ad 0)), (1, .int a1), (2, .int a2), (3, .int a3), (4, .int v76_4), (5, .int v93_5), (6, .int v93_6), (7, .int v93_7), (8, .int v76_8), (9, .int v93_9), (10, .int v185_10)] → W p l e ({ frames := 7, cells := 0, slots := 0, locals := 157 }) s m (List.toArray [.ref (ad 0), .int a1, .int a2, .int a3]) below meth c H locs 0 0 (MQ below (va_Qi (P_X12_built_1 ad cy B qr s1 a1 a2 a3 w0) (fun u : va_W => wpost dC dI cy A u) A) (List.toArray [.ref (ad 0), .int a1, .int a2, .int a3]) s 0 0 A) (F0 m 185 ls []) := by
            intro v185_10 H locs ls w73 r74 t75 r76 t77 r78 t79 r80 t81 r82 t83 r84 t85 r86 t87 r88 t89 r90 t91 r93 t94 hw hT hF c92 c95 hl
            refine lv_iload hx hb dX12_built_185 (lv_at hl 8 rfl) ?_
            refine lv_istore (lv' := [(5, .int v76_8), (0, .ref (ad 0)), (1, .int a1), (2, .int a2), (3, .int a3), (4, .int v76_4), (6, .int v93_6), (7, .int v93_7), (8, .int v76_8), (9, .int v93_9), (10, .int v185_10)]) hx hb dX12_built_187 hl (by decide) rfl (fun ls hl => ?_)
            refine lv_iload hx hb dX12_built_189 (lv_at hl 9 rfl) ?_
            refine lv_istore (lv' := [(6, .int v93_9), (5, .int v76_8), (0, .ref (ad 0)), (1, .int a1), (2, .int a2), (3, .int a3), (4, .int v76_4), (7, .int v93_7), (8, .int v76_8), (9, .int v93_9), (10, .int v185_10)]) hx hb dX12_built_191 hl (by decide) rfl (fun ls hl => ?_)
            refine lv_iload hx hb dX12_built_193 (lv_at hl 10 rfl) ?_
            refine lv_istore (lv' := [(7, .int v185_10), (6, .int v93_9), (5, .int v76_8), (0, .ref (ad 0)), (1, .int a1), (2, .int a2), (3, .int a3), (4, .int v76_4), (8, .int v76_8), (9, .int v93_9), (10, .int v185_10)]) hx hb dX12_built_195 hl (by decide) rfl (fun ls hl => ?_)
            exact J197 v76_8 v93_9 v185_10 v185_10 H locs ls w73 (show 1 ≤ a1.toInt by omega) (show a1.toInt ≤ 9 by omega) (show 0 ≤ a2.toInt by omega) (show a2.toInt ≤ 99999 by omega) (show 0 ≤ a3.toInt by omega) (show a3.toInt ≤ 2 by omega) (show 10 ≤ v76_4.toInt by omega) (show v76_4.toInt ≤ 130 by omega) (show 0 ≤ v76_8.toInt by omega) (show v76_8.toInt ≤ 9 by omega) (show (-1) ≤ v93_9.toInt by omega) (show v93_9.toInt ≤ 9 by omega) (show 0 ≤ v76_8.toInt by omega) (show v76_8.toInt ≤ 9 by omega) (show 1 ≤ v93_9.toInt by omega) (show v93_9.toInt ≤ 9 by omega) (show 2 ≤ f76_12_0.toInt by omega) (show f76_12_0.toInt ≤ 10 by omega) (show 1 ≤ f76_12_1.toInt by omega) (show f76_12_1.toInt ≤ 13 by omega)  hw hT hF c92 c95 (lv_sub hl [3, 4, 5, 6, 7, 2, 1, 0, 8, 9, 10] rfl)
          have L137 : ∀ (n137 : Nat) (v137_10 : Int32) (H : Heap) (locs : List Loc) (ls : Array Slot) (w96 : va_W), 1 ≤ a1.toInt → a1.toInt ≤ 9 → 0 ≤ a2.toInt → a2.toInt ≤ 99999 → 0 ≤ a3.toInt → a3.toInt ≤ 2 → 10 ≤ v76_4.toInt → v76_4.toInt ≤ 130 → (-1) ≤ v93_5.toInt → v93_5.toInt ≤ 9 → (-1) ≤ v93_6.toInt → v93_6.toInt ≤ 9 → 0 ≤ v76_8.toInt → v76_8.toInt ≤ 9 → 1 ≤ v93_9.toInt → v93_9.toInt ≤ 9 → 0 ≤ v137_10.toInt → v137_10.toInt ≤ 7 → 2 ≤ f76_12_0.toInt → f76_12_0.toInt ≤ 10 → 1 ≤ f76_12_1.toInt → f76_12_1.toInt ≤ 13 → (7 - v137_10.toInt).toNat < n137 → Wd dC dI A s.heap H locs w96 → TW ksM ad cy B qr 13 w96 → FE ksM [(71, 1, 1), (71, 10, 130), (71, 11, 131), (71, 12, 132), (71, 13, 139), (77, 0, 10), (78, 0, 10)] w0 w96 → gi w96 12 0 = f76_12_0 → gi w96 12 1 = f76_12_1 → lv_has ls 11 [(0, .ref (ad 0)), (1, .int a1), (2, .int a2), (3, .int a3), (4, .int v76_4), (5, .int v93_5), (6, .int v93_6), (7, .int v93_7), (8, .int v76_8), (9, .int v93_9), (10, .int v137_10)] → W p l e ({ frames := 7, cells := 0, slots := 0, locals := 157 }) s m (List.toArray [.ref (ad 0), .int a1, .int a2, .int a3]) below meth c H locs 0 0 (MQ below (va_Qi (P_X12_built_1 ad cy B qr s1 a1 a2 a3 w0) (fun u : va_W => wpost dC dI cy A u) A) (List.toArray [.ref (ad 0), .int a1, .int a2, .int a3]) s 0 0 A) (F0 m 137 ls []) := by
            intro n137
            induction n137 with
            | zero => intro v137_10 H locs ls w96 r97 t98 r99 t100 r101 t102 r103 t104 r105 t106 r107 t108 r109 t110 r111 t112 r113 t114 r115 t116 r118 t119 hm137 hw hT hF c117 c120 hl; omega
            | succ n137 ih137 =>
              intro v137_10 H locs ls w96 r97 t98 r99 t100 r101 t102 r103 t104 r105 t106 r107 t108 r109 t110 r111 t112 r113 t114 r115 t116 r118 t119 hm137 hw hT hF c117 c120 hl
              refine lv_iload hx hb dX12_built_137 (lv_at hl 10 rfl) ?_
              refine lv_bipush (v := 7) hx hb dX12_built_139 (by decide) ?_
              refine lv_icmp_ge (tgt := 163) hx hb dX12_built_141 (by decide) (fun c121 => ?_) (fun c121 => ?_)
              · have c121 : (7 : Int) ≤ v137_10.toInt := wk_le.mp c121
                refine lv_aload_n hx hb dX12_built_163 rfl (lv_at hl 0 rfl) ?_
                refine lv_iload_n hx hb dX12_built_164 rfl (lv_at hl 2 rfl) ?_
                refine tk_Vi hC hK hw hT hA hE hSR kM_at0 (by decide) rfl (k_X12_sumOf_1 l adK adV dC dI cy ad B (by omega) (by omega) qr s1   a2 (show 0 ≤ a2.toInt by omega) (show a2.toInt ≤ 99999 by omega) w96 H.size hT ) (cwV 1 hC.2.2.2.2 gX12_built_X12_sumOf rfl rfl rfl (by decide +kernel) ⟨Nat.le_of_ble_eq_true rfl, Nat.le_of_ble_eq_true rfl⟩) rfl hl.1 rfl (Nat.le_of_ble_eq_true rfl) dX12_built_165 (fun r122 w124 H locs hp123 hw => ?_)
                obtain ⟨hT, k125, hg126⟩ := hp123
                have hF := hF.tr k125 (by decide)
                have c127 := k125.gi kM_at12 (by decide) c117
                have c128 := k125.gi kM_at12 (by decide) c120
                clear hg126
                refine lv_istore (lv' := [(10, .int r122), (0, .ref (ad 0)), (1, .int a1), (2, .int a2), (3, .int a3), (4, .int v76_4), (5, .int v93_5), (6, .int v93_6), (7, .int v93_7), (8, .int v76_8), (9, .int v93_9)]) hx hb dX12_built_168 hl (by decide) rfl (fun ls hl => ?_)
                refine lv_iload hx hb dX12_built_170 (lv_at hl 6 rfl) ?_
                refine lv_if_lt (tgt := 185) hx hb dX12_built_172 (by decide) (fun c129 => ?_) (fun c129 => ?_)
                · have c129 : v93_5.toInt < (0 : Int) := wk_lt.mp c129
                  exact J185 r122 H locs ls w124 (show 1 ≤ a1.toInt by omega) (show a1.toInt ≤ 9 by omega) (show 0 ≤ a2.toInt by omega) (show a2.toInt ≤ 99999 by omega) (show 0 ≤ a3.toInt by omega) (show a3.toInt ≤ 2 by omega) (show 10 ≤ v76_4.toInt by omega) (show v76_4.toInt ≤ 130 by omega) (show (-1) ≤ v93_5.toInt by omega) (show v93_5.toInt ≤ 9 by omega) (show (-1) ≤ v93_6.toInt by omega) (show v93_6.toInt ≤ 9 by omega) (show 0 ≤ v76_8.toInt by omega) (show v76_8.toInt ≤ 9 by omega) (show 1 ≤ v93_9.toInt by omega) (show v93_9.toInt ≤ 9 by omega) (show 2 ≤ f76_12_0.toInt by omega) (show f76_12_0.toInt ≤ 10 by omega) (show 1 ≤ f76_12_1.toInt by omega) (show f76_12_1.toInt ≤ 13 by omega)  hw hT hF c127 c128 (lv_sub hl [1, 2, 3, 4, 5, 6, 7, 8, 9, 10, 0] rfl)
                · have c129 : (0 : Int) ≤ v93_5.toInt := wk_ltF c129
                  refine lv_iload hx hb dX12_built_175 (lv_at hl 0 rfl) ?_
                  refine lv_iload hx hb dX12_built_177 (lv_at hl 8 rfl) ?_
                  refine lv_icmp_lt (tgt := 185) hx hb dX12_built_179 (by decide) (fun c130 => ?_) (fun c130 => ?_)
                  · have c130 : r122.toInt < v93_7.toInt := wk_lt.mp c130
                    exact J185 r122 H locs ls w124 (show 1 ≤ a1.toInt by omega) (show a1.toInt ≤ 9 by omega) (show 0 ≤ a2.toInt by omega) (show a2.toInt ≤ 99999 by omega) (show 0 ≤ a3.toInt by omega) (show a3.toInt ≤ 2 by omega) (show 10 ≤ v76_4.toInt by omega) (show v76_4.toInt ≤ 130 by omega) (show (-1) ≤ v93_5.toInt by omega) (show v93_5.toInt ≤ 9 by omega) (show (-1) ≤ v93_6.toInt by omega) (show v93_6.toInt ≤ 9 by omega) (show 0 ≤ v76_8.toInt by omega) (show v76_8.toInt ≤ 9 by omega) (show 1 ≤ v93_9.toInt by omega) (show v93_9.toInt ≤ 9 by omega) (show 2 ≤ f76_12_0.toInt by omega) (show f76_12_0.toInt ≤ 10 by omega) (show 1 ≤ f76_12_1.toInt by omega) (show f76_12_1.toInt ≤ 13 by omega)  hw hT hF c127 c128 (lv_sub hl [1, 2, 3, 4, 5, 6, 7, 8, 9, 10, 0] rfl)
                  · have c130 : v93_7.toInt ≤ r122.toInt := wk_ltF c130
                    refine lv_goto (tgt := 197) hx hb dX12_built_182 (by decide) ?_
                    exact J197 v93_5 v93_6 v93_7 r122 H locs ls w124 (show 1 ≤ a1.toInt by omega) (show a1.toInt ≤ 9 by omega) (show 0 ≤ a2.toInt by omega) (show a2.toInt ≤ 99999 by omega) (show 0 ≤ a3.toInt by omega) (show a3.toInt ≤ 2 by omega) (show 10 ≤ v76_4.toInt by omega) (show v76_4.toInt ≤ 130 by omega) (show 0 ≤ v93_5.toInt by omega) (show v93_5.toInt ≤ 9 by omega) (show (-1) ≤ v93_6.toInt by omega) (show v93_6.toInt ≤ 9 by omega) (show 0 ≤ v76_8.toInt by omega) (show v76_8.toInt ≤ 9 by omega) (show 1 ≤ v93_9.toInt by omega) (show v93_9.toInt ≤ 9 by omega) (show 2 ≤ f76_12_0.toInt by omega) (show f76_12_0.toInt ≤ 10 by omega) (show 1 ≤ f76_12_1.toInt by omega) (show f76_12_1.toInt ≤ 13 by omega)  hw hT hF c127 c128 (lv_sub hl [1, 2, 3, 4, 5, 6, 7, 8, 9, 10, 0] rfl)
              · have c121 : v137_10.toInt < (7 : Int) := wk_leF c121
                refine lv_aload_n hx hb dX12_built_144 rfl (lv_at hl 0 rfl) ?_
                refine tk_getA hC hK hw hT hinX12 kM_at0 (by decide) rfl 26 (by decide) (List.mem_of_getElem? (i := 3) rfl) rfl rfl dX12_built_145 ?_
                refine lv_iload hx hb dX12_built_148 (lv_at hl 4 rfl) ?_
                refine lv_iconst (v := 3) hx hb dX12_built_150 (by decide) ?_
                refine lv_iadd hx hb dX12_built_151 ?_
                refine lv_topi (fun x131 ex131 => ?_)
                have ex131 : x131.toInt = v76_4.toInt + (3 : Int) := by rw [ex131]; exact wk_add (show (-2147483648) ≤ v76_4.toInt + (3 : Int) by omega) (show v76_4.toInt + (3 : Int) ≤ 2147483647 by omega)
                refine lv_iload hx hb dX12_built_152 (lv_at hl 10 rfl) ?_
                refine lv_iadd hx hb dX12_built_154 ?_
                refine lv_topi (fun x132 ex132 => ?_)
                have ex132 : x132.toInt = x131.toInt + v137_10.toInt := by rw [ex132]; exact wk_add (show (-2147483648) ≤ x131.toInt + v137_10.toInt by omega) (show x131.toInt + v137_10.toInt ≤ 2147483647 by omega)
                refine lv_iconst (v := 3) hx hb dX12_built_155 (by decide) ?_
                refine tk_iastR hC hK hw hT kM_at12 (by decide) rfl (show 0 ≤ x132.toInt by omega) (show x132.toInt < 296 by omega) (tk_rgS rfl 13 1 127 3 3 (by decide +kernel) ⟨(x132.toInt - 13).toNat, by omega, show x132.toInt.toNat = 13 + 1 * (x132.toInt - 13).toNat by omega⟩ (by decide) (by decide)) dX12_built_156 (fun H locs w133 hw hT k135 c134 => ?_)
                have hF := hF.put kM_at12 (inE_of (a := 13) (b := 139) (by decide) (show 13 ≤ x132.toInt.toNat by omega) (show x132.toInt.toNat ≤ 139 by omega)) k135
                have c136 := k135.gi (Or.inr (show 0 ≠ x132.toInt.toNat by omega)) c117
                have c137 := k135.gi (Or.inr (show 1 ≠ x132.toInt.toNat by omega)) c120
                obtain ⟨x138, ex138⟩ : ∃ y : Int32, y = v137_10 + Int32.ofInt 1 := ⟨_, rfl⟩
                refine lv_iinc (v := x138) (lv' := [(10, .int x138), (0, .ref (ad 0)), (1, .int a1), (2, .int a2), (3, .int a3), (4, .int v76_4), (5, .int v93_5), (6, .int v93_6), (7, .int v93_7), (8, .int v76_8), (9, .int v93_9)]) hx hb dX12_built_157 hl (k := 10) rfl ex138.symm (by decide) rfl (fun ls hl => ?_)
                have ex138 : x138.toInt = v137_10.toInt + 1 := by rw [ex138]; exact wk_add (y := 1) (show -2147483648 ≤ v137_10.toInt + 1 by omega) (show v137_10.toInt + 1 ≤ 2147483647 by omega)
                refine lv_goto (tgt := 137) hx hb dX12_built_160 (by decide) ?_
                exact ih137 x138 H locs ls w133 (show 1 ≤ a1.toInt by omega) (show a1.toInt ≤ 9 by omega) (show 0 ≤ a2.toInt by omega) (show a2.toInt ≤ 99999 by omega) (show 0 ≤ a3.toInt by omega) (show a3.toInt ≤ 2 by omega) (show 10 ≤ v76_4.toInt by omega) (show v76_4.toInt ≤ 130 by omega) (show (-1) ≤ v93_5.toInt by omega) (show v93_5.toInt ≤ 9 by omega) (show (-1) ≤ v93_6.toInt by omega) (show v93_6.toInt ≤ 9 by omega) (show 0 ≤ v76_8.toInt by omega) (show v76_8.toInt ≤ 9 by omega) (show 1 ≤ v93_9.toInt by omega) (show v93_9.toInt ≤ 9 by omega) (show 0 ≤ x138.toInt by omega) (show x138.toInt ≤ 7 by omega) (show 2 ≤ f76_12_0.toInt by omega) (show f76_12_0.toInt ≤ 10 by omega) (show 1 ≤ f76_12_1.toInt by omega) (show f76_12_1.toInt ≤ 13 by omega) (show (7 - x138.toInt).toNat < n137 by omega) hw hT hF c136 c137 (lv_sub hl [1, 2, 3, 4, 5, 6, 7, 8, 9, 10, 0] rfl)
          refine lv_iload hx hb dX12_built_93 (lv_at hl 9 rfl) ?_
          refine lv_aload_n hx hb dX12_built_95 rfl (lv_at hl 0 rfl) ?_
          refine tk_getA hC hK hw hT hinX12 kM_at0 (by decide) rfl 26 (by decide) (List.mem_of_getElem? (i := 3) rfl) rfl rfl dX12_built_96 ?_
          refine lv_iconst (v := 0) hx hb dX12_built_99 (by decide) ?_
          refine tk_ialdR hC hK hw hT kM_at12 rfl (by decide) (by decide) dX12_built_100 (fun x139 c140 Ex139 => ?_)
          refine wk_top f76_12_0 (c140.symm.trans c45) ?_
          refine lv_icmp_ge (tgt := 203) hx hb dX12_built_101 (by decide) (fun c141 => ?_) (fun c141 => ?_)
          · have c141 : f76_12_0.toInt ≤ v93_9.toInt := wk_le.mp c141
            obtain ⟨x142, ex142⟩ : ∃ y : Int32, y = v76_8 + Int32.ofInt 1 := ⟨_, rfl⟩
            refine lv_iinc (v := x142) (lv' := [(8, .int x142), (0, .ref (ad 0)), (1, .int a1), (2, .int a2), (3, .int a3), (4, .int v76_4), (5, .int v93_5), (6, .int v93_6), (7, .int v93_7), (9, .int v93_9)]) hx hb dX12_built_203 hl (k := 8) rfl ex142.symm (by decide) rfl (fun ls hl => ?_)
            have ex142 : x142.toInt = v76_8.toInt + 1 := by rw [ex142]; exact wk_add (y := 1) (show -2147483648 ≤ v76_8.toInt + 1 by omega) (show v76_8.toInt + 1 ≤ 2147483647 by omega)
            refine lv_goto (tgt := 76) hx hb dX12_built_206 (by decide) ?_
            exact ih76 v76_4 v93_5 v93_6 v93_7 x142 f76_12_0 f76_12_1 H locs ls w26 (show 1 ≤ a1.toInt by omega) (show a1.toInt ≤ 9 by omega) (show 0 ≤ a2.toInt by omega) (show a2.toInt ≤ 99999 by omega) (show 0 ≤ a3.toInt by omega) (show a3.toInt ≤ 2 by omega) (show 10 ≤ v76_4.toInt by omega) (show v76_4.toInt ≤ 130 by omega) (show (-1) ≤ v93_5.toInt by omega) (show v93_5.toInt ≤ 9 by omega) (show (-1) ≤ v93_6.toInt by omega) (show v93_6.toInt ≤ 9 by omega) (show 0 ≤ x142.toInt by omega) (show x142.toInt ≤ 10 by omega) (show 1 ≤ f76_12_0.toInt by omega) (show f76_12_0.toInt ≤ 10 by omega) (show 1 ≤ f76_12_1.toInt by omega) (show f76_12_1.toInt ≤ 13 by omega) (show (10 - x142.toInt).toNat < n76 by omega) hw hT hF c45 c48 (lv_sub hl [1, 2, 3, 4, 5, 6, 7, 8, 0] rfl)
          · have c141 : v93_9.toInt < f76_12_0.toInt := wk_leF c141
            refine lv_aload_n hx hb dX12_built_104 rfl (lv_at hl 0 rfl) ?_
            refine tk_getA hC hK hw hT hinX12 kM_at0 (by decide) rfl 26 (by decide) (List.mem_of_getElem? (i := 3) rfl) rfl rfl dX12_built_105 ?_
            refine lv_iload hx hb dX12_built_108 (lv_at hl 4 rfl) ?_
            refine lv_iload hx hb dX12_built_110 (lv_at hl 8 rfl) ?_
            refine tk_iastR hC hK hw hT kM_at12 (by decide) rfl (show 0 ≤ v76_4.toInt by omega) (show v76_4.toInt < 296 by omega) (tk_rgS rfl 10 1 121 0 9 (by decide +kernel) ⟨(v76_4.toInt - 10).toNat, by omega, show v76_4.toInt.toNat = 10 + 1 * (v76_4.toInt - 10).toNat by omega⟩ (show 0 ≤ v76_8.toInt by omega) (show v76_8.toInt ≤ 9 by omega)) dX12_built_112 (fun H locs w143 hw hT k145 c144 => ?_)
            have hF := hF.put kM_at12 (inE_of (a := 10) (b := 130) (by decide) (show 10 ≤ v76_4.toInt.toNat by omega) (show v76_4.toInt.toNat ≤ 130 by omega)) k145
            have c146 := k145.gi (Or.inr (show 0 ≠ v76_4.toInt.toNat by omega)) c45
            have c147 := k145.gi (Or.inr (show 1 ≠ v76_4.toInt.toNat by omega)) c48
            refine lv_aload_n hx hb dX12_built_113 rfl (lv_at hl 0 rfl) ?_
            refine tk_getA hC hK hw hT hinX12 kM_at0 (by decide) rfl 26 (by decide) (List.mem_of_getElem? (i := 3) rfl) rfl rfl dX12_built_114 ?_
            refine lv_iload hx hb dX12_built_117 (lv_at hl 4 rfl) ?_
            refine lv_iconst (v := 1) hx hb dX12_built_119 (by decide) ?_
            refine lv_iadd hx hb dX12_built_120 ?_
            refine lv_topi (fun x148 ex148 => ?_)
            have ex148 : x148.toInt = v76_4.toInt + (1 : Int) := by rw [ex148]; exact wk_add (show (-2147483648) ≤ v76_4.toInt + (1 : Int) by omega) (show v76_4.toInt + (1 : Int) ≤ 2147483647 by omega)
            refine lv_iload hx hb dX12_built_121 (lv_at hl 9 rfl) ?_
            refine tk_iastR hC hK hw hT kM_at12 (by decide) rfl (show 0 ≤ x148.toInt by omega) (show x148.toInt < 296 by omega) (tk_rgS rfl 11 1 121 1 9 (by decide +kernel) ⟨(v76_4.toInt - 10).toNat, by omega, show x148.toInt.toNat = 11 + 1 * (v76_4.toInt - 10).toNat by omega⟩ (show 1 ≤ v93_9.toInt by omega) (show v93_9.toInt ≤ 9 by omega)) dX12_built_123 (fun H locs w149 hw hT k151 c150 => ?_)
            have hF := hF.put kM_at12 (inE_of (a := 11) (b := 131) (by decide) (show 11 ≤ x148.toInt.toNat by omega) (show x148.toInt.toNat ≤ 131 by omega)) k151
            have c152 := k151.gi (Or.inr (show 0 ≠ x148.toInt.toNat by omega)) c146
            have c153 := k151.gi (Or.inr (show 1 ≠ x148.toInt.toNat by omega)) c147
            refine lv_aload_n hx hb dX12_built_124 rfl (lv_at hl 0 rfl) ?_
            refine tk_getA hC hK hw hT hinX12 kM_at0 (by decide) rfl 26 (by decide) (List.mem_of_getElem? (i := 3) rfl) rfl rfl dX12_built_125 ?_
            refine lv_iload hx hb dX12_built_128 (lv_at hl 4 rfl) ?_
            refine lv_iconst (v := 2) hx hb dX12_built_130 (by decide) ?_
            refine lv_iadd hx hb dX12_built_131 ?_
            refine lv_topi (fun x154 ex154 => ?_)
            have ex154 : x154.toInt = v76_4.toInt + (2 : Int) := by rw [ex154]; exact wk_add (show (-2147483648) ≤ v76_4.toInt + (2 : Int) by omega) (show v76_4.toInt + (2 : Int) ≤ 2147483647 by omega)
            refine lv_iload_n hx hb dX12_built_132 rfl (lv_at hl 1 rfl) ?_
            refine tk_iastR hC hK hw hT kM_at12 (by decide) rfl (show 0 ≤ x154.toInt by omega) (show x154.toInt < 296 by omega) (tk_rgS rfl 12 1 121 1 9 (by decide +kernel) ⟨(v76_4.toInt - 10).toNat, by omega, show x154.toInt.toNat = 12 + 1 * (v76_4.toInt - 10).toNat by omega⟩ (show 1 ≤ a1.toInt by omega) (show a1.toInt ≤ 9 by omega)) dX12_built_133 (fun H locs w155 hw hT k157 c156 => ?_)
            have hF := hF.put kM_at12 (inE_of (a := 12) (b := 132) (by decide) (show 12 ≤ x154.toInt.toNat by omega) (show x154.toInt.toNat ≤ 132 by omega)) k157
            have c158 := k157.gi (Or.inr (show 0 ≠ x154.toInt.toNat by omega)) c152
            have c159 := k157.gi (Or.inr (show 1 ≠ x154.toInt.toNat by omega)) c153
            refine lv_iconst (v := 0) hx hb dX12_built_134 (by decide) ?_
            refine lv_istore (lv' := [(10, .int 0), (0, .ref (ad 0)), (1, .int a1), (2, .int a2), (3, .int a3), (4, .int v76_4), (5, .int v93_5), (6, .int v93_6), (7, .int v93_7), (8, .int v76_8), (9, .int v93_9)]) hx hb dX12_built_135 hl (by decide) rfl (fun ls hl => ?_)
            exact L137 ((7 - (0 : Int)).toNat + 1) 0 H locs ls w155 (show 1 ≤ a1.toInt by omega) (show a1.toInt ≤ 9 by omega) (show 0 ≤ a2.toInt by omega) (show a2.toInt ≤ 99999 by omega) (show 0 ≤ a3.toInt by omega) (show a3.toInt ≤ 2 by omega) (show 10 ≤ v76_4.toInt by omega) (show v76_4.toInt ≤ 130 by omega) (show (-1) ≤ v93_5.toInt by omega) (show v93_5.toInt ≤ 9 by omega) (show (-1) ≤ v93_6.toInt by omega) (show v93_6.toInt ≤ 9 by omega) (show 0 ≤ v76_8.toInt by omega) (show v76_8.toInt ≤ 9 by omega) (show 1 ≤ v93_9.toInt by omega) (show v93_9.toInt ≤ 9 by omega) (by decide) (by decide) (show 2 ≤ f76_12_0.toInt by omega) (show f76_12_0.toInt ≤ 10 by omega) (show 1 ≤ f76_12_1.toInt by omega) (show f76_12_1.toInt ≤ 13 by omega) (Nat.lt_succ_self _) hw hT hF c158 c159 (lv_sub hl [1, 2, 3, 4, 5, 6, 7, 8, 9, 10, 0] rfl)
      refine lv_iload hx hb dX12_built_76 (lv_at hl 8 rfl) ?_
      refine lv_aload_n hx hb dX12_built_78 rfl (lv_at hl 0 rfl) ?_
      refine tk_getA hC hK hw hT hinX12 kM_at0 (by decide) rfl 26 (by decide) (List.mem_of_getElem? (i := 3) rfl) rfl rfl dX12_built_79 ?_
      refine lv_iconst (v := 0) hx hb dX12_built_82 (by decide) ?_
      refine tk_ialdR hC hK hw hT kM_at12 rfl (by decide) (by decide) dX12_built_83 (fun x160 c161 Ex160 => ?_)
      refine wk_top f76_12_0 (c161.symm.trans c22) ?_
      refine lv_icmp_ge (tgt := 209) hx hb dX12_built_84 (by decide) (fun c162 => ?_) (fun c162 => ?_)
      · have c162 : f76_12_0.toInt ≤ v76_8.toInt := wk_le.mp c162
        refine lv_aload_n hx hb dX12_built_209 rfl (lv_at hl 0 rfl) ?_
        refine tk_getA hC hK hw hT hinX12 kM_at0 (by decide) rfl 26 (by decide) (List.mem_of_getElem? (i := 3) rfl) rfl rfl dX12_built_210 ?_
        refine lv_iconst (v := 1) hx hb dX12_built_213 (by decide) ?_
        refine lv_dup2_11 hx hb dX12_built_214 rfl rfl ?_
        refine tk_ialdR hC hK hw hT kM_at12 rfl (by decide) (by decide) dX12_built_215 (fun x163 c164 Ex163 => ?_)
        refine wk_top f76_12_1 (c164.symm.trans c25) ?_
        refine lv_iconst (v := 1) hx hb dX12_built_216 (by decide) ?_
        refine lv_isub hx hb dX12_built_217 ?_
        refine lv_topi (fun x165 ex165 => ?_)
        have ex165 : x165.toInt = f76_12_1.toInt - (1 : Int) := by rw [ex165]; exact wk_sub (show (-2147483648) ≤ f76_12_1.toInt - (1 : Int) by omega) (show f76_12_1.toInt - (1 : Int) ≤ 2147483647 by omega)
        refine tk_iastR hC hK hw hT kM_at12 (by decide) rfl (by decide) (by decide) ((tk_rg1 rfl).mpr ⟨(show 0 ≤ x165.toInt by omega), (show x165.toInt ≤ if (71 : Nat) = 71 then (13 : Int) else 12 from (show x165.toInt ≤ 13 by omega))⟩) dX12_built_218 (fun H locs w166 hw hT k168 c167 => ?_)
        have hT := hT.s1d (show (gi w166 12 1).toInt ≤ 12 by rw [show gi w166 12 1 = x165 from c167]; omega)
        have hF := hF.put kM_at12 (inE_of (a := 1) (b := 1) (by decide) (by decide) (by decide)) k168
        have c169 := k168.gi (Or.inr (by decide)) c22
        have c167 : gi w166 12 1 = x165 := c167
        refine lv_iload_n hx hb dX12_built_219 rfl (lv_at hl 3 rfl) ?_
        refine lv_if_ne (tgt := 228) hx hb dX12_built_220 (by decide) (fun c170 => ?_) (fun c170 => ?_)
        · have c170 : ¬ a3.toInt = (0 : Int) := wk_eqF c170
          refine lv_iload_n hx hb dX12_built_228 rfl (lv_at hl 3 rfl) ?_
          refine lv_iconst (v := 1) hx hb dX12_built_229 (by decide) ?_
          refine lv_icmp_ne (tgt := 238) hx hb dX12_built_230 (by decide) (fun c171 => ?_) (fun c171 => ?_)
          · have c171 : ¬ a3.toInt = (1 : Int) := wk_eqF c171
            refine lv_iload hx hb dX12_built_238 (lv_at hl 7 rfl) ?_
            exact tk_iret hC hr hlocks hK ⟨hT, hF, (Or.inl ⟨(show 1 ≤ a1.toInt by omega), (show a1.toInt ≤ 9 by omega), (show 0 ≤ a2.toInt by omega), (show a2.toInt ≤ 99999 by omega), (show 0 ≤ a3.toInt by omega), (show a3.toInt ≤ 2 by omega), ⟨f76_12_0, c169, (show 1 ≤ f76_12_0.toInt by omega), (show f76_12_0.toInt ≤ 10 by omega)⟩⟩)⟩ hw dX12_built_240
          · have c171 : a3.toInt = (1 : Int) := wk_eq.mp c171
            refine lv_iload hx hb dX12_built_233 (lv_at hl 6 rfl) ?_
            refine lv_goto (tgt := 240) hx hb dX12_built_235 (by decide) ?_
            exact tk_iret hC hr hlocks hK ⟨hT, hF, (Or.inl ⟨(show 1 ≤ a1.toInt by omega), (show a1.toInt ≤ 9 by omega), (show 0 ≤ a2.toInt by omega), (show a2.toInt ≤ 99999 by omega), (show 0 ≤ a3.toInt by omega), (show a3.toInt ≤ 2 by omega), ⟨f76_12_0, c169, (show 1 ≤ f76_12_0.toInt by omega), (show f76_12_0.toInt ≤ 10 by omega)⟩⟩)⟩ hw dX12_built_240
        · have c170 : a3.toInt = (0 : Int) := wk_eq.mp c170
          refine lv_iload hx hb dX12_built_223 (lv_at hl 5 rfl) ?_
          refine lv_goto (tgt := 240) hx hb dX12_built_225 (by decide) ?_
          exact tk_iret hC hr hlocks hK ⟨hT, hF, (Or.inl ⟨(show 1 ≤ a1.toInt by omega), (show a1.toInt ≤ 9 by omega), (show 0 ≤ a2.toInt by omega), (show a2.toInt ≤ 99999 by omega), (show 0 ≤ a3.toInt by omega), (show a3.toInt ≤ 2 by omega), ⟨f76_12_0, c169, (show 1 ≤ f76_12_0.toInt by omega), (show f76_12_0.toInt ≤ 10 by omega)⟩⟩)⟩ hw dX12_built_240
      · have c162 : v76_8.toInt < f76_12_0.toInt := wk_leF c162
        refine lv_iload hx hb dX12_built_87 (lv_at hl 8 rfl) ?_
        refine lv_iconst (v := 1) hx hb dX12_built_89 (by decide) ?_
        refine lv_iadd hx hb dX12_built_90 ?_
        refine lv_topi (fun x172 ex172 => ?_)
        have ex172 : x172.toInt = v76_8.toInt + (1 : Int) := by rw [ex172]; exact wk_add (show (-2147483648) ≤ v76_8.toInt + (1 : Int) by omega) (show v76_8.toInt + (1 : Int) ≤ 2147483647 by omega)
        refine lv_istore (lv' := [(9, .int x172), (0, .ref (ad 0)), (1, .int a1), (2, .int a2), (3, .int a3), (4, .int v76_4), (5, .int v76_5), (6, .int v76_6), (7, .int v76_7), (8, .int v76_8)]) hx hb dX12_built_91 hl (by decide) rfl (fun ls hl => ?_)
        exact L93 ((10 - x172.toInt).toNat + 1) v76_5 v76_6 v76_7 x172 H locs ls w5 (show 1 ≤ a1.toInt by omega) (show a1.toInt ≤ 9 by omega) (show 0 ≤ a2.toInt by omega) (show a2.toInt ≤ 99999 by omega) (show 0 ≤ a3.toInt by omega) (show a3.toInt ≤ 2 by omega) (show 10 ≤ v76_4.toInt by omega) (show v76_4.toInt ≤ 130 by omega) (show (-1) ≤ v76_5.toInt by omega) (show v76_5.toInt ≤ 9 by omega) (show (-1) ≤ v76_6.toInt by omega) (show v76_6.toInt ≤ 9 by omega) (show 0 ≤ v76_8.toInt by omega) (show v76_8.toInt ≤ 9 by omega) (show 1 ≤ x172.toInt by omega) (show x172.toInt ≤ 10 by omega) (show 1 ≤ f76_12_0.toInt by omega) (show f76_12_0.toInt ≤ 10 by omega) (show 1 ≤ f76_12_1.toInt by omega) (show f76_12_1.toInt ≤ 13 by omega) (Nat.lt_succ_self _) hw hT hF c22 c25 (lv_sub hl [1, 2, 3, 4, 5, 6, 7, 8, 9, 0] rfl)
  refine lv_aload_n hx hb dX12_built_0 rfl (lv_at hl 0 rfl) ?_
  refine tk_Vi hC hK hw hT hA hE hSR kM_at0 (by decide) rfl (k_X12_isTown_1 l adK adV dC dI cy ad B (by omega) (by omega) qr s1    w0 s.heap.size hT ) (cwV 0 hC.2.2.2.2 gX12_built_X12_isTown rfl rfl rfl (by decide +kernel) ⟨Nat.le_of_ble_eq_true rfl, Nat.le_of_ble_eq_true rfl⟩) rfl hl.1 rfl (Nat.le_of_ble_eq_true rfl) dX12_built_1 (fun r173 w175 H locs hp174 hw => ?_)
  obtain ⟨rfl, hg181⟩ := hp174
  rcases hg181 with ⟨rfl, ⟨x177, c178, rx177, tx177⟩⟩ | ⟨rfl, ⟨x179, c180, rx179, tx179⟩⟩
  · refine lv_if_eq (tgt := 38) hx hb dX12_built_4 (by decide) (fun _ => ?_) (fun c => absurd (by decide) c)
    exact J38 x177 H locs ls w0 (show 0 ≤ x177.toInt by omega) (show x177.toInt ≤ 10 by omega)  hw hT hF c178 (lv_sub hl [0, 1, 2, 3] rfl)
  · refine lv_if_eq (tgt := 38) hx hb dX12_built_4 (by decide) (fun c => absurd c (by decide)) (fun _ => ?_)
    refine lv_iload_n hx hb dX12_built_7 rfl (lv_at hl 1 rfl) ?_
    refine lv_i2l hx hb dX12_built_8 rfl ?_
    refine lv_topl (fun x182 ex182 => ?_)
    have ex182 : x182.toInt = a1.toInt := by rw [ex182]; exact wk_i2l _
    have bx182 := wk_i32 a1
    refine lv_lconst (v := 1) hx hb dX12_built_9 (by decide) ?_
    refine lv_ldc2 (v := 9) hx hb hC.2.2.2.1 (hC.2.2.2.2 _ (List.mem_of_getElem? (i := 1) rfl)) dX12_built_10 ?_
    refine tk_Si hC hK hw hT hA hE hSR (k_X12_in_8 l adK adV dC dI cy ad B (by omega) (by omega) qr s1   x182 (show (-2147483648) ≤ x182.toInt by omega) (show x182.toInt ≤ 2147483647 by omega) w0 H.size hT ) (va_cwS 3 hC.2.2.2.2 gX12_built_X12_in rfl rfl rfl (by decide +kernel) ⟨Nat.le_of_ble_eq_true rfl, Nat.le_of_ble_eq_true rfl⟩) rfl hl.1 rfl (Nat.le_of_ble_eq_true rfl) dX12_built_13 (fun r183 w185 H locs hp184 hw => ?_)
    obtain ⟨rfl, hg189⟩ := hp184
    rcases hg189 with rfl | ⟨rfl, g187, g188⟩
    · refine lv_if_eq (tgt := 38) hx hb dX12_built_16 (by decide) (fun _ => ?_) (fun c => absurd (by decide) c)
      exact J38 x179 H locs ls w0 (show 0 ≤ x179.toInt by omega) (show x179.toInt ≤ 10 by omega)  hw hT hF c180 (lv_sub hl [0, 1, 2, 3] rfl)
    · refine lv_if_eq (tgt := 38) hx hb dX12_built_16 (by decide) (fun c => absurd c (by decide)) (fun _ => ?_)
      refine lv_iload_n hx hb dX12_built_19 rfl (lv_at hl 2 rfl) ?_
      refine tk_Si hC hK hw hT hA hE hSR (k_X12_isHour_1 l adK adV dC dI cy ad B (by omega) (by omega) qr s1   a2 w0 H.size hT ) (va_cwS 1 hC.2.2.2.2 gX12_built_X12_isHour rfl rfl rfl (by decide +kernel) ⟨Nat.le_of_ble_eq_true rfl, Nat.le_of_ble_eq_true rfl⟩) rfl hl.1 rfl (Nat.le_of_ble_eq_true rfl) dX12_built_20 (fun r190 w192 H locs hp191 hw => ?_)
      obtain ⟨rfl, hg196⟩ := hp191
      rcases hg196 with rfl | ⟨rfl, g194, g195⟩
      · refine lv_if_eq (tgt := 38) hx hb dX12_built_23 (by decide) (fun _ => ?_) (fun c => absurd (by decide) c)
        exact J38 x179 H locs ls w0 (show 0 ≤ x179.toInt by omega) (show x179.toInt ≤ 10 by omega)  hw hT hF c180 (lv_sub hl [0, 1, 2, 3] rfl)
      · refine lv_if_eq (tgt := 38) hx hb dX12_built_23 (by decide) (fun c => absurd c (by decide)) (fun _ => ?_)
        refine lv_iload_n hx hb dX12_built_26 rfl (lv_at hl 3 rfl) ?_
        refine lv_i2l hx hb dX12_built_27 rfl ?_
        refine lv_topl (fun x197 ex197 => ?_)
        have ex197 : x197.toInt = a3.toInt := by rw [ex197]; exact wk_i2l _
        have bx197 := wk_i32 a3
        refine lv_lconst (v := 0) hx hb dX12_built_28 (by decide) ?_
        refine lv_ldc2 (v := 2) hx hb hC.2.2.2.1 (hC.2.2.2.2 _ (List.mem_of_getElem? (i := 2) rfl)) dX12_built_29 ?_
        refine tk_Si hC hK hw hT hA hE hSR (k_X12_in_15 l adK adV dC dI cy ad B (by omega) (by omega) qr s1   x197 (show (-2147483648) ≤ x197.toInt by omega) (show x197.toInt ≤ 2147483647 by omega) w0 H.size hT ) (va_cwS 3 hC.2.2.2.2 gX12_built_X12_in rfl rfl rfl (by decide +kernel) ⟨Nat.le_of_ble_eq_true rfl, Nat.le_of_ble_eq_true rfl⟩) rfl hl.1 rfl (Nat.le_of_ble_eq_true rfl) dX12_built_32 (fun r198 w200 H locs hp199 hw => ?_)
        obtain ⟨rfl, hg204⟩ := hp199
        rcases hg204 with rfl | ⟨rfl, g202, g203⟩
        · refine lv_if_ne (tgt := 40) hx hb dX12_built_35 (by decide) (fun c => absurd (by decide) c) (fun _ => ?_)
          exact J38 x179 H locs ls w0 (show 0 ≤ x179.toInt by omega) (show x179.toInt ≤ 10 by omega)  hw hT hF c180 (lv_sub hl [0, 1, 2, 3] rfl)
        · refine lv_if_ne (tgt := 40) hx hb dX12_built_35 (by decide) (fun _ => ?_) (fun c => absurd c (by decide))
          refine lv_bipush (v := 10) hx hb dX12_built_40 (by decide) ?_
          refine lv_bipush (v := 10) hx hb dX12_built_42 (by decide) ?_
          refine lv_aload_n hx hb dX12_built_44 rfl (lv_at hl 0 rfl) ?_
          refine tk_getA hC hK hw hT hinX12 kM_at0 (by decide) rfl 26 (by decide) (List.mem_of_getElem? (i := 3) rfl) rfl rfl dX12_built_45 ?_
          refine lv_iconst (v := 1) hx hb dX12_built_48 (by decide) ?_
          refine tk_ialdR hC hK hw hT kM_at12 rfl (by decide) (by decide) dX12_built_49 (fun x205 c206 Ex205 => ?_)
          have bx205 : 0 ≤ x205.toInt ∧ x205.toInt ≤ 12 := (tk_rg1 rfl).mp Ex205
          have c206 : gi w0 12 1 = x205 := c206
          refine lv_imul hx hb dX12_built_50 ?_
          refine lv_topi (fun x207 ex207 => ?_)
          have ex207 : x207.toInt = (10 : Int) * x205.toInt := by rw [ex207]; exact wk_mul (show (-2147483648) ≤ (10 : Int) * x205.toInt by omega) (show (10 : Int) * x205.toInt ≤ 2147483647 by omega)
          refine lv_iadd hx hb dX12_built_51 ?_
          refine lv_topi (fun x208 ex208 => ?_)
          have ex208 : x208.toInt = (10 : Int) + x207.toInt := by rw [ex208]; exact wk_add (show (-2147483648) ≤ (10 : Int) + x207.toInt by omega) (show (10 : Int) + x207.toInt ≤ 2147483647 by omega)
          refine lv_istore (lv' := [(4, .int x208), (0, .ref (ad 0)), (1, .int a1), (2, .int a2), (3, .int a3)]) hx hb dX12_built_52 hl (by decide) rfl (fun ls hl => ?_)
          refine lv_aload_n hx hb dX12_built_54 rfl (lv_at hl 1 rfl) ?_
          refine tk_getA hC hK hw hT hinX12 kM_at0 (by decide) rfl 26 (by decide) (List.mem_of_getElem? (i := 3) rfl) rfl rfl dX12_built_55 ?_
          refine lv_iconst (v := 1) hx hb dX12_built_58 (by decide) ?_
          refine lv_dup2_11 hx hb dX12_built_59 rfl rfl ?_
          refine tk_ialdR hC hK hw hT kM_at12 rfl (by decide) (by decide) dX12_built_60 (fun x209 c210 Ex209 => ?_)
          refine wk_top x205 (c210.symm.trans c206) ?_
          refine lv_iconst (v := 1) hx hb dX12_built_61 (by decide) ?_
          refine lv_iadd hx hb dX12_built_62 ?_
          refine lv_topi (fun x211 ex211 => ?_)
          have ex211 : x211.toInt = x205.toInt + (1 : Int) := by rw [ex211]; exact wk_add (show (-2147483648) ≤ x205.toInt + (1 : Int) by omega) (show x205.toInt + (1 : Int) ≤ 2147483647 by omega)
          have hT := hT.s1 (s2 := 13) (by decide)
          refine tk_iastR hC hK hw hT kM_at12 (by decide) rfl (by decide) (by decide) ((tk_rg1 rfl).mpr ⟨(show 0 ≤ x211.toInt by omega), (show x211.toInt ≤ if (71 : Nat) = 71 then (13 : Int) else 12 from (show x211.toInt ≤ 13 by omega))⟩) dX12_built_63 (fun H locs w212 hw hT k214 c213 => ?_)
          have hF := hF.put kM_at12 (inE_of (a := 1) (b := 1) (by decide) (by decide) (by decide)) k214
          have c215 := k214.gi (Or.inr (by decide)) c180
          have c213 : gi w212 12 1 = x211 := c213
          refine lv_iconst (v := (-1)) hx hb dX12_built_64 (by decide) ?_
          refine lv_istore (lv' := [(5, .int (-1)), (4, .int x208), (0, .ref (ad 0)), (1, .int a1), (2, .int a2), (3, .int a3)]) hx hb dX12_built_65 hl (by decide) rfl (fun ls hl => ?_)
          refine lv_iconst (v := (-1)) hx hb dX12_built_67 (by decide) ?_
          refine lv_istore (lv' := [(6, .int (-1)), (5, .int (-1)), (4, .int x208), (0, .ref (ad 0)), (1, .int a1), (2, .int a2), (3, .int a3)]) hx hb dX12_built_68 hl (by decide) rfl (fun ls hl => ?_)
          refine lv_iconst (v := 0) hx hb dX12_built_70 (by decide) ?_
          refine lv_istore (lv' := [(7, .int 0), (6, .int (-1)), (5, .int (-1)), (4, .int x208), (0, .ref (ad 0)), (1, .int a1), (2, .int a2), (3, .int a3)]) hx hb dX12_built_71 hl (by decide) rfl (fun ls hl => ?_)
          refine lv_iconst (v := 0) hx hb dX12_built_73 (by decide) ?_
          refine lv_istore (lv' := [(8, .int 0), (7, .int 0), (6, .int (-1)), (5, .int (-1)), (4, .int x208), (0, .ref (ad 0)), (1, .int a1), (2, .int a2), (3, .int a3)]) hx hb dX12_built_74 hl (by decide) rfl (fun ls hl => ?_)
          exact L76 ((10 - (0 : Int)).toNat + 1) x208 (-1) (-1) 0 0 x179 x211 H locs ls w212 (show 1 ≤ a1.toInt by omega) (show a1.toInt ≤ 9 by omega) (show 0 ≤ a2.toInt by omega) (show a2.toInt ≤ 99999 by omega) (show 0 ≤ a3.toInt by omega) (show a3.toInt ≤ 2 by omega) (show 10 ≤ x208.toInt by omega) (show x208.toInt ≤ 130 by omega) (by decide) (by decide) (by decide) (by decide) (by decide) (by decide) (show 1 ≤ x179.toInt by omega) (show x179.toInt ≤ 10 by omega) (show 1 ≤ x211.toInt by omega) (show x211.toInt ≤ 13 by omega) (Nat.lt_succ_self _) hw hT hF c215 c213 (lv_sub hl [5, 6, 7, 8, 4, 3, 2, 1, 0] rfl)
abbrev P_X12_seed_1 (ad : Nat → Nat) (cy : Nat → ClassId) (B : Int) (qr : Nat) (s1 : Int) (a1 : Int32) (w0 : va_W) : Int32 → va_W → Prop := fun r u => TW ksM ad cy B qr 12 u ∧ FE ksM [(71, 9, 9)] w0 u ∧ ((0 ≤ r.toInt ∧ 0 ≤ a1.toInt) ∨ (r = (-1) ∧ a1.toInt ≤ (-1)))
set_option maxHeartbeats 4000000 in
set_option maxRecDepth 100000 in
theorem k_X12_seed_1 (l : Launch) (adK adV : Nat → Nat) (dC : Nat → ClassId) (dI : Nat → Nat → Nat) (cy : Nat → ClassId) (ad : Nat → Nat) (B : Int) (hB0 : 100000 ≤ B) (hB1 : B ≤ 1073741824) (qr : Nat) (s1 : Int)  (a1 : Int32) (w0 : va_W) (sz : Nat) (hT : TW ksM ad cy B qr 12 w0)  : Met l yX12_seed wsX12_seed ({ frames := 1, cells := 0, slots := 0, locals := 12 }) (va_Pc [.ref (ad 0), .int a1] (wpreS adK adV dC dI cy sz w0)) (va_Qi (P_X12_seed_1 ad cy B qr s1 a1 w0) (fun u : va_W => wpost dC dI cy (va_A w0 sz) u) (va_A w0 sz)) 0 0 (va_A w0 sz) := by
  refine Met.ofW (cc := cX12_seed) (maxL := 3) (ret := (some .int)) (by decide) rfl ?_
  intro p e s m args below meth c s₁ Bk hml hv
  obtain ⟨rfl, ⟨hsz, hP, hK, hD0⟩, hE, hSR⟩ := hv
  have hx := Bk.exec
  have hb := Bk.bytes
  have hr := Bk.returns
  have hlocks := Bk.notSynchronized
  have hC : CallFix p m c cX12_seed 3 s _ wsX12_seed RX12 := ⟨hx, hb, hml, findClass_of_methodNamed Bk.named, atoms_spec (ws := wsX12_seed) Bk.pre⟩
  subst hsz
  have hD := hD0.self (sz := s.heap.size)
  generalize hAe : va_A w0 s.heap.size = A at hD hE ⊢
  have hA : ∀ q : Nat, s.heap.size ≤ q → A q := fun q h => by rw [← hAe]; exact Or.inr h
  have hw : Wd dC dI A s.heap s.heap [] w0 := ⟨hP, hD, va_S.rf⟩
  have hF : FE ksM [(71, 9, 9)] w0 w0 := FE.rf
  have hl := lv_entry ([.ref (ad 0), .int a1]) (n := 3) (Nat.le_of_ble_eq_true rfl)
  rw [lg_entry_eq]
  generalize (lg_sl ([.ref (ad 0), .int a1]) ++ List.replicate (3 - (lg_sl ([.ref (ad 0), .int a1])).length) Slot.unset).toArray = ls at hl ⊢
  have hl : lv_has ls 3 [(0, .ref (ad 0)), (1, .int a1)] := hl
  generalize hloc : ([] : List Loc) = locs at hw ⊢
  have hinX12 : ∀ w ∈ u_ws RX12 TX12 42, w ∈ wsX12_seed := fun _ h => List.mem_cons_of_mem _ (List.mem_append_right _ (h))
  refine lv_iload_n hx hb dX12_seed_0 rfl (lv_at hl 1 rfl) ?_
  refine lv_if_ge (tgt := 6) hx hb dX12_seed_1 (by decide) (fun c1 => ?_) (fun c1 => ?_)
  · have c1 : (0 : Int) ≤ a1.toInt := wk_le.mp c1
    refine lv_aload_n hx hb dX12_seed_6 rfl (lv_at hl 0 rfl) ?_
    refine tk_getA hC hK hw hT hinX12 kM_at0 (by decide) rfl 26 (by decide) (List.mem_of_getElem? (i := 1) rfl) rfl rfl dX12_seed_7 ?_
    refine lv_bipush (v := 9) hx hb dX12_seed_10 (by decide) ?_
    refine tk_ialdR hC hK hw hT kM_at12 rfl (by decide) (by decide) dX12_seed_12 (fun x2 c3 Ex2 => ?_)
    have bx2 := tk_rgI rfl 9 1 1 0 2147483647 (by decide +kernel) ⟨0, by decide, by decide⟩ Ex2
    have c3 : gi w0 12 9 = x2 := c3
    refine lv_istore_n (lv' := [(2, .int x2), (0, .ref (ad 0)), (1, .int a1)]) hx hb dX12_seed_13 rfl hl (by decide) rfl (fun ls hl => ?_)
    refine lv_aload_n hx hb dX12_seed_14 rfl (lv_at hl 1 rfl) ?_
    refine tk_getA hC hK hw hT hinX12 kM_at0 (by decide) rfl 26 (by decide) (List.mem_of_getElem? (i := 1) rfl) rfl rfl dX12_seed_15 ?_
    refine lv_bipush (v := 9) hx hb dX12_seed_18 (by decide) ?_
    refine lv_iload_n hx hb dX12_seed_20 rfl (lv_at hl 2 rfl) ?_
    refine tk_iastR hC hK hw hT kM_at12 (by decide) rfl (by decide) (by decide) (tk_rgS rfl 9 1 1 0 2147483647 (by decide +kernel) ⟨0, by decide, by decide⟩ (show 0 ≤ a1.toInt by omega) (wk_i32 a1).2) dX12_seed_21 (fun H locs w4 hw hT k6 c5 => ?_)
    have hF := hF.put kM_at12 (inE_of (a := 9) (b := 9) (by decide) (by decide) (by decide)) k6
    have c5 : gi w4 12 9 = a1 := c5
    refine lv_iload_n hx hb dX12_seed_22 rfl (lv_at hl 0 rfl) ?_
    exact tk_iret hC hr hlocks hK ⟨hT, hF, (Or.inl ⟨(show 0 ≤ x2.toInt by omega), (show 0 ≤ a1.toInt by omega)⟩)⟩ hw dX12_seed_23
  · have c1 : a1.toInt < (0 : Int) := wk_leF c1
    refine lv_iconst (v := (-1)) hx hb dX12_seed_4 (by decide) ?_
    exact tk_iret hC hr hlocks hK ⟨hT, hF, (Or.inr ⟨rfl, (show a1.toInt ≤ (-1) by omega)⟩)⟩ hw dX12_seed_5
abbrev P_X12_draw_1 (ad : Nat → Nat) (cy : Nat → ClassId) (B : Int) (qr : Nat) (s1 : Int) (a1 : Int32) (w0 : va_W) : Int32 → va_W → Prop := fun r u => TW ksM ad cy B qr 12 u ∧ FE ksM [(12, 39, 39)] w0 u ∧ ((0 ≤ r.toInt ∧ r.toInt ≤ 9))
set_option maxHeartbeats 4000000 in
set_option maxRecDepth 100000 in
theorem k_X12_draw_1 (l : Launch) (adK adV : Nat → Nat) (dC : Nat → ClassId) (dI : Nat → Nat → Nat) (cy : Nat → ClassId) (ad : Nat → Nat) (B : Int) (hB0 : 100000 ≤ B) (hB1 : B ≤ 1073741824) (qr : Nat) (s1 : Int)  (a1 : Int32) (ra1 : 1 ≤ a1.toInt) (ta1 : a1.toInt ≤ 10) (w0 : va_W) (sz : Nat) (hT : TW ksM ad cy B qr 12 w0)  : Met l yX12_draw wsX12_draw ({ frames := 1, cells := 0, slots := 0, locals := 12 }) (va_Pc [.ref (ad 0), .int a1] (wpreS adK adV dC dI cy sz w0)) (va_Qi (P_X12_draw_1 ad cy B qr s1 a1 w0) (fun u : va_W => wpost dC dI cy (va_A w0 sz) u) (va_A w0 sz)) 0 0 (va_A w0 sz) := by
  refine Met.ofW (cc := cX12_draw) (maxL := 2) (ret := (some .int)) (by decide) rfl ?_
  intro p e s m args below meth c s₁ Bk hml hv
  obtain ⟨rfl, ⟨hsz, hP, hK, hD0⟩, hE, hSR⟩ := hv
  have hx := Bk.exec
  have hb := Bk.bytes
  have hr := Bk.returns
  have hlocks := Bk.notSynchronized
  have hC : CallFix p m c cX12_draw 2 s _ wsX12_draw RX12 := ⟨hx, hb, hml, findClass_of_methodNamed Bk.named, atoms_spec (ws := wsX12_draw) Bk.pre⟩
  subst hsz
  have hD := hD0.self (sz := s.heap.size)
  generalize hAe : va_A w0 s.heap.size = A at hD hE ⊢
  have hA : ∀ q : Nat, s.heap.size ≤ q → A q := fun q h => by rw [← hAe]; exact Or.inr h
  have hw : Wd dC dI A s.heap s.heap [] w0 := ⟨hP, hD, va_S.rf⟩
  have hF : FE ksM [(12, 39, 39)] w0 w0 := FE.rf
  have hl := lv_entry ([.ref (ad 0), .int a1]) (n := 2) (Nat.le_of_ble_eq_true rfl)
  rw [lg_entry_eq]
  generalize (lg_sl ([.ref (ad 0), .int a1]) ++ List.replicate (2 - (lg_sl ([.ref (ad 0), .int a1])).length) Slot.unset).toArray = ls at hl ⊢
  have hl : lv_has ls 2 [(0, .ref (ad 0)), (1, .int a1)] := hl
  generalize hloc : ([] : List Loc) = locs at hw ⊢
  have hinX12 : ∀ w ∈ u_ws RX12 TX12 42, w ∈ wsX12_draw := fun _ h => List.mem_cons_of_mem _ (List.mem_append_right _ (h))
  refine lv_aload_n hx hb dX12_draw_0 rfl (lv_at hl 0 rfl) ?_
  refine lv_aload_n hx hb dX12_draw_1 rfl (lv_at hl 0 rfl) ?_
  refine tk_getl hC hK hw hT hinX12 kM_at0 (by decide) rfl 39 (by decide) (List.mem_of_getElem? (i := 1) rfl) rfl rfl dX12_draw_2 (fun x1 c2 rx1 tx1 => ?_)
  refine lv_ldc2 (v := 1103515245) hx hb hC.2.2.2.1 (hC.2.2.2.2 _ (List.mem_of_getElem? (i := 2) rfl)) dX12_draw_5 ?_
  refine lv_lmul hx hb dX12_draw_8 ?_
  refine lv_topl (fun x3 ex3 => ?_)
  have ex3 : x3.toInt = x1.toInt * (1103515245 : Int) := by rw [ex3]; exact wk_mull (show (-9223372036854775808) ≤ x1.toInt * (1103515245 : Int) by omega) (show x1.toInt * (1103515245 : Int) ≤ 9223372036854775807 by omega)
  refine lv_ldc2 (v := 12345) hx hb hC.2.2.2.1 (hC.2.2.2.2 _ (List.mem_of_getElem? (i := 3) rfl)) dX12_draw_9 ?_
  refine lv_ladd hx hb dX12_draw_12 ?_
  refine lv_topl (fun x4 ex4 => ?_)
  have ex4 : x4.toInt = x3.toInt + (12345 : Int) := by rw [ex4]; exact wk_addl (show (-9223372036854775808) ≤ x3.toInt + (12345 : Int) by omega) (show x3.toInt + (12345 : Int) ≤ 9223372036854775807 by omega)
  refine lv_ldc2 (v := 2147483648) hx hb hC.2.2.2.1 (hC.2.2.2.2 _ (List.mem_of_getElem? (i := 4) rfl)) dX12_draw_13 ?_
  refine lv_lrem hx hb dX12_draw_16 (by decide) ?_
  refine lv_topl (fun x5 ex5 => ?_)
  have ex5 : x5.toInt = x4.toInt % (2147483648 : Int) := by rw [ex5]; exact wk_reml (show 0 ≤ x4.toInt by omega) (show 0 < (2147483648 : Int) by decide)
  refine tk_putl hC hK hw hT hinX12 tyX12_ok nmX12 kM_at0 (by decide) rfl rfl 39 (by decide) (List.mem_of_getElem? (i := 1) rfl) rfl rfl rfl rfl (show 0 ≤ x5.toInt by omega) (show x5.toInt ≤ 2147483648 by omega) dX12_draw_17 (fun H locs w6 hw hT k8 c7 => ?_)
  have hF := hF.put kM_at0 (k := 39) (by decide) k8
  refine lv_aload_n hx hb dX12_draw_20 rfl (lv_at hl 0 rfl) ?_
  refine tk_getl hC hK hw hT hinX12 kM_at0 (by decide) rfl 39 (by decide) (List.mem_of_getElem? (i := 1) rfl) rfl rfl dX12_draw_21 (fun x9 c10 rx9 tx9 => ?_)
  refine wk_topl x5 (c10.symm.trans c7) ?_
  refine lv_ldc2 (v := 65536) hx hb hC.2.2.2.1 (hC.2.2.2.2 _ (List.mem_of_getElem? (i := 5) rfl)) dX12_draw_24 ?_
  refine lv_ldiv hx hb dX12_draw_27 (by decide) ?_
  refine lv_topl (fun x11 ex11 => ?_)
  have ex11 : x11.toInt = x5.toInt / (65536 : Int) := by rw [ex11]; exact wk_divl (show 0 ≤ x5.toInt by omega) (show 0 < (65536 : Int) by decide)
  refine lv_iload_n hx hb dX12_draw_28 rfl (lv_at hl 1 rfl) ?_
  refine lv_i2l hx hb dX12_draw_29 rfl ?_
  refine lv_topl (fun x12 ex12 => ?_)
  have ex12 : x12.toInt = a1.toInt := by rw [ex12]; exact wk_i2l _
  have bx12 := wk_i32 a1
  refine lv_lrem hx hb dX12_draw_30 (fun h => absurd (show x12.toInt = 0 from wk_eql.mp h) (by omega)) ?_
  refine lv_topl (fun x13 ex13 => ?_)
  have bx13 : 0 ≤ x13.toInt ∧ x13.toInt < x12.toInt := by rw [ex13]; exact wk_remRl (by omega) (by omega)
  refine lv_l2i hx hb dX12_draw_31 rfl ?_
  refine lv_topi (fun x14 ex14 => ?_)
  have ex14 : x14.toInt = x13.toInt := by rw [ex14]; exact wk_l2i (by omega) (by omega)
  exact tk_iret hC hr hlocks hK ⟨hT, hF, ⟨(show 0 ≤ x14.toInt by omega), (show x14.toInt ≤ 9 by omega)⟩⟩ hw dX12_draw_32
abbrev P_X12_draw_2 (ad : Nat → Nat) (cy : Nat → ClassId) (B : Int) (qr : Nat) (s1 : Int) (a1 : Int32) (w0 : va_W) : Int32 → va_W → Prop := fun r u => TW ksM ad cy B qr 12 u ∧ FE ksM [(12, 39, 39)] w0 u ∧ ((0 ≤ r.toInt ∧ r.toInt ≤ 3))
set_option maxHeartbeats 4000000 in
set_option maxRecDepth 100000 in
theorem k_X12_draw_2 (l : Launch) (adK adV : Nat → Nat) (dC : Nat → ClassId) (dI : Nat → Nat → Nat) (cy : Nat → ClassId) (ad : Nat → Nat) (B : Int) (hB0 : 100000 ≤ B) (hB1 : B ≤ 1073741824) (qr : Nat) (s1 : Int)  (a1 : Int32) (ra1 : 1 ≤ a1.toInt) (ta1 : a1.toInt ≤ 4) (w0 : va_W) (sz : Nat) (hT : TW ksM ad cy B qr 12 w0)  : Met l yX12_draw wsX12_draw ({ frames := 1, cells := 0, slots := 0, locals := 12 }) (va_Pc [.ref (ad 0), .int a1] (wpreS adK adV dC dI cy sz w0)) (va_Qi (P_X12_draw_2 ad cy B qr s1 a1 w0) (fun u : va_W => wpost dC dI cy (va_A w0 sz) u) (va_A w0 sz)) 0 0 (va_A w0 sz) := by
  refine Met.ofW (cc := cX12_draw) (maxL := 2) (ret := (some .int)) (by decide) rfl ?_
  intro p e s m args below meth c s₁ Bk hml hv
  obtain ⟨rfl, ⟨hsz, hP, hK, hD0⟩, hE, hSR⟩ := hv
  have hx := Bk.exec
  have hb := Bk.bytes
  have hr := Bk.returns
  have hlocks := Bk.notSynchronized
  have hC : CallFix p m c cX12_draw 2 s _ wsX12_draw RX12 := ⟨hx, hb, hml, findClass_of_methodNamed Bk.named, atoms_spec (ws := wsX12_draw) Bk.pre⟩
  subst hsz
  have hD := hD0.self (sz := s.heap.size)
  generalize hAe : va_A w0 s.heap.size = A at hD hE ⊢
  have hA : ∀ q : Nat, s.heap.size ≤ q → A q := fun q h => by rw [← hAe]; exact Or.inr h
  have hw : Wd dC dI A s.heap s.heap [] w0 := ⟨hP, hD, va_S.rf⟩
  have hF : FE ksM [(12, 39, 39)] w0 w0 := FE.rf
  have hl := lv_entry ([.ref (ad 0), .int a1]) (n := 2) (Nat.le_of_ble_eq_true rfl)
  rw [lg_entry_eq]
  generalize (lg_sl ([.ref (ad 0), .int a1]) ++ List.replicate (2 - (lg_sl ([.ref (ad 0), .int a1])).length) Slot.unset).toArray = ls at hl ⊢
  have hl : lv_has ls 2 [(0, .ref (ad 0)), (1, .int a1)] := hl
  generalize hloc : ([] : List Loc) = locs at hw ⊢
  have hinX12 : ∀ w ∈ u_ws RX12 TX12 42, w ∈ wsX12_draw := fun _ h => List.mem_cons_of_mem _ (List.mem_append_right _ (h))
  refine lv_aload_n hx hb dX12_draw_0 rfl (lv_at hl 0 rfl) ?_
  refine lv_aload_n hx hb dX12_draw_1 rfl (lv_at hl 0 rfl) ?_
  refine tk_getl hC hK hw hT hinX12 kM_at0 (by decide) rfl 39 (by decide) (List.mem_of_getElem? (i := 1) rfl) rfl rfl dX12_draw_2 (fun x1 c2 rx1 tx1 => ?_)
  refine lv_ldc2 (v := 1103515245) hx hb hC.2.2.2.1 (hC.2.2.2.2 _ (List.mem_of_getElem? (i := 2) rfl)) dX12_draw_5 ?_
  refine lv_lmul hx hb dX12_draw_8 ?_
  refine lv_topl (fun x3 ex3 => ?_)
  have ex3 : x3.toInt = x1.toInt * (1103515245 : Int) := by rw [ex3]; exact wk_mull (show (-9223372036854775808) ≤ x1.toInt * (1103515245 : Int) by omega) (show x1.toInt * (1103515245 : Int) ≤ 9223372036854775807 by omega)
  refine lv_ldc2 (v := 12345) hx hb hC.2.2.2.1 (hC.2.2.2.2 _ (List.mem_of_getElem? (i := 3) rfl)) dX12_draw_9 ?_
  refine lv_ladd hx hb dX12_draw_12 ?_
  refine lv_topl (fun x4 ex4 => ?_)
  have ex4 : x4.toInt = x3.toInt + (12345 : Int) := by rw [ex4]; exact wk_addl (show (-9223372036854775808) ≤ x3.toInt + (12345 : Int) by omega) (show x3.toInt + (12345 : Int) ≤ 9223372036854775807 by omega)
  refine lv_ldc2 (v := 2147483648) hx hb hC.2.2.2.1 (hC.2.2.2.2 _ (List.mem_of_getElem? (i := 4) rfl)) dX12_draw_13 ?_
  refine lv_lrem hx hb dX12_draw_16 (by decide) ?_
  refine lv_topl (fun x5 ex5 => ?_)
  have ex5 : x5.toInt = x4.toInt % (2147483648 : Int) := by rw [ex5]; exact wk_reml (show 0 ≤ x4.toInt by omega) (show 0 < (2147483648 : Int) by decide)
  refine tk_putl hC hK hw hT hinX12 tyX12_ok nmX12 kM_at0 (by decide) rfl rfl 39 (by decide) (List.mem_of_getElem? (i := 1) rfl) rfl rfl rfl rfl (show 0 ≤ x5.toInt by omega) (show x5.toInt ≤ 2147483648 by omega) dX12_draw_17 (fun H locs w6 hw hT k8 c7 => ?_)
  have hF := hF.put kM_at0 (k := 39) (by decide) k8
  refine lv_aload_n hx hb dX12_draw_20 rfl (lv_at hl 0 rfl) ?_
  refine tk_getl hC hK hw hT hinX12 kM_at0 (by decide) rfl 39 (by decide) (List.mem_of_getElem? (i := 1) rfl) rfl rfl dX12_draw_21 (fun x9 c10 rx9 tx9 => ?_)
  refine wk_topl x5 (c10.symm.trans c7) ?_
  refine lv_ldc2 (v := 65536) hx hb hC.2.2.2.1 (hC.2.2.2.2 _ (List.mem_of_getElem? (i := 5) rfl)) dX12_draw_24 ?_
  refine lv_ldiv hx hb dX12_draw_27 (by decide) ?_
  refine lv_topl (fun x11 ex11 => ?_)
  have ex11 : x11.toInt = x5.toInt / (65536 : Int) := by rw [ex11]; exact wk_divl (show 0 ≤ x5.toInt by omega) (show 0 < (65536 : Int) by decide)
  refine lv_iload_n hx hb dX12_draw_28 rfl (lv_at hl 1 rfl) ?_
  refine lv_i2l hx hb dX12_draw_29 rfl ?_
  refine lv_topl (fun x12 ex12 => ?_)
  have ex12 : x12.toInt = a1.toInt := by rw [ex12]; exact wk_i2l _
  have bx12 := wk_i32 a1
  refine lv_lrem hx hb dX12_draw_30 (fun h => absurd (show x12.toInt = 0 from wk_eql.mp h) (by omega)) ?_
  refine lv_topl (fun x13 ex13 => ?_)
  have bx13 : 0 ≤ x13.toInt ∧ x13.toInt < x12.toInt := by rw [ex13]; exact wk_remRl (by omega) (by omega)
  refine lv_l2i hx hb dX12_draw_31 rfl ?_
  refine lv_topi (fun x14 ex14 => ?_)
  have ex14 : x14.toInt = x13.toInt := by rw [ex14]; exact wk_l2i (by omega) (by omega)
  exact tk_iret hC hr hlocks hK ⟨hT, hF, ⟨(show 0 ≤ x14.toInt by omega), (show x14.toInt ≤ 3 by omega)⟩⟩ hw dX12_draw_32
abbrev P_X12_draw_3 (ad : Nat → Nat) (cy : Nat → ClassId) (B : Int) (qr : Nat) (s1 : Int)  (w0 : va_W) : Int32 → va_W → Prop := fun r u => TW ksM ad cy B qr 12 u ∧ FE ksM [(12, 39, 39)] w0 u ∧ ((0 ≤ r.toInt ∧ r.toInt ≤ 167))
set_option maxHeartbeats 4000000 in
set_option maxRecDepth 100000 in
theorem k_X12_draw_3 (l : Launch) (adK adV : Nat → Nat) (dC : Nat → ClassId) (dI : Nat → Nat → Nat) (cy : Nat → ClassId) (ad : Nat → Nat) (B : Int) (hB0 : 100000 ≤ B) (hB1 : B ≤ 1073741824) (qr : Nat) (s1 : Int)   (w0 : va_W) (sz : Nat) (hT : TW ksM ad cy B qr 12 w0)  : Met l yX12_draw wsX12_draw ({ frames := 1, cells := 0, slots := 0, locals := 12 }) (va_Pc [.ref (ad 0), .int 168] (wpreS adK adV dC dI cy sz w0)) (va_Qi (P_X12_draw_3 ad cy B qr s1  w0) (fun u : va_W => wpost dC dI cy (va_A w0 sz) u) (va_A w0 sz)) 0 0 (va_A w0 sz) := by
  refine Met.ofW (cc := cX12_draw) (maxL := 2) (ret := (some .int)) (by decide) rfl ?_
  intro p e s m args below meth c s₁ Bk hml hv
  obtain ⟨rfl, ⟨hsz, hP, hK, hD0⟩, hE, hSR⟩ := hv
  have hx := Bk.exec
  have hb := Bk.bytes
  have hr := Bk.returns
  have hlocks := Bk.notSynchronized
  have hC : CallFix p m c cX12_draw 2 s _ wsX12_draw RX12 := ⟨hx, hb, hml, findClass_of_methodNamed Bk.named, atoms_spec (ws := wsX12_draw) Bk.pre⟩
  subst hsz
  have hD := hD0.self (sz := s.heap.size)
  generalize hAe : va_A w0 s.heap.size = A at hD hE ⊢
  have hA : ∀ q : Nat, s.heap.size ≤ q → A q := fun q h => by rw [← hAe]; exact Or.inr h
  have hw : Wd dC dI A s.heap s.heap [] w0 := ⟨hP, hD, va_S.rf⟩
  have hF : FE ksM [(12, 39, 39)] w0 w0 := FE.rf
  have hl := lv_entry ([.ref (ad 0), .int 168]) (n := 2) (Nat.le_of_ble_eq_true rfl)
  rw [lg_entry_eq]
  generalize (lg_sl ([.ref (ad 0), .int 168]) ++ List.replicate (2 - (lg_sl ([.ref (ad 0), .int 168])).length) Slot.unset).toArray = ls at hl ⊢
  have hl : lv_has ls 2 [(0, .ref (ad 0)), (1, .int 168)] := hl
  generalize hloc : ([] : List Loc) = locs at hw ⊢
  have hinX12 : ∀ w ∈ u_ws RX12 TX12 42, w ∈ wsX12_draw := fun _ h => List.mem_cons_of_mem _ (List.mem_append_right _ (h))
  refine lv_aload_n hx hb dX12_draw_0 rfl (lv_at hl 0 rfl) ?_
  refine lv_aload_n hx hb dX12_draw_1 rfl (lv_at hl 0 rfl) ?_
  refine tk_getl hC hK hw hT hinX12 kM_at0 (by decide) rfl 39 (by decide) (List.mem_of_getElem? (i := 1) rfl) rfl rfl dX12_draw_2 (fun x1 c2 rx1 tx1 => ?_)
  refine lv_ldc2 (v := 1103515245) hx hb hC.2.2.2.1 (hC.2.2.2.2 _ (List.mem_of_getElem? (i := 2) rfl)) dX12_draw_5 ?_
  refine lv_lmul hx hb dX12_draw_8 ?_
  refine lv_topl (fun x3 ex3 => ?_)
  have ex3 : x3.toInt = x1.toInt * (1103515245 : Int) := by rw [ex3]; exact wk_mull (show (-9223372036854775808) ≤ x1.toInt * (1103515245 : Int) by omega) (show x1.toInt * (1103515245 : Int) ≤ 9223372036854775807 by omega)
  refine lv_ldc2 (v := 12345) hx hb hC.2.2.2.1 (hC.2.2.2.2 _ (List.mem_of_getElem? (i := 3) rfl)) dX12_draw_9 ?_
  refine lv_ladd hx hb dX12_draw_12 ?_
  refine lv_topl (fun x4 ex4 => ?_)
  have ex4 : x4.toInt = x3.toInt + (12345 : Int) := by rw [ex4]; exact wk_addl (show (-9223372036854775808) ≤ x3.toInt + (12345 : Int) by omega) (show x3.toInt + (12345 : Int) ≤ 9223372036854775807 by omega)
  refine lv_ldc2 (v := 2147483648) hx hb hC.2.2.2.1 (hC.2.2.2.2 _ (List.mem_of_getElem? (i := 4) rfl)) dX12_draw_13 ?_
  refine lv_lrem hx hb dX12_draw_16 (by decide) ?_
  refine lv_topl (fun x5 ex5 => ?_)
  have ex5 : x5.toInt = x4.toInt % (2147483648 : Int) := by rw [ex5]; exact wk_reml (show 0 ≤ x4.toInt by omega) (show 0 < (2147483648 : Int) by decide)
  refine tk_putl hC hK hw hT hinX12 tyX12_ok nmX12 kM_at0 (by decide) rfl rfl 39 (by decide) (List.mem_of_getElem? (i := 1) rfl) rfl rfl rfl rfl (show 0 ≤ x5.toInt by omega) (show x5.toInt ≤ 2147483648 by omega) dX12_draw_17 (fun H locs w6 hw hT k8 c7 => ?_)
  have hF := hF.put kM_at0 (k := 39) (by decide) k8
  refine lv_aload_n hx hb dX12_draw_20 rfl (lv_at hl 0 rfl) ?_
  refine tk_getl hC hK hw hT hinX12 kM_at0 (by decide) rfl 39 (by decide) (List.mem_of_getElem? (i := 1) rfl) rfl rfl dX12_draw_21 (fun x9 c10 rx9 tx9 => ?_)
  refine wk_topl x5 (c10.symm.trans c7) ?_
  refine lv_ldc2 (v := 65536) hx hb hC.2.2.2.1 (hC.2.2.2.2 _ (List.mem_of_getElem? (i := 5) rfl)) dX12_draw_24 ?_
  refine lv_ldiv hx hb dX12_draw_27 (by decide) ?_
  refine lv_topl (fun x11 ex11 => ?_)
  have ex11 : x11.toInt = x5.toInt / (65536 : Int) := by rw [ex11]; exact wk_divl (show 0 ≤ x5.toInt by omega) (show 0 < (65536 : Int) by decide)
  refine lv_iload_n hx hb dX12_draw_28 rfl (lv_at hl 1 rfl) ?_
  refine lv_i2l hx hb dX12_draw_29 rfl ?_
  refine wk_topl 168 (by decide) ?_
  refine lv_lrem hx hb dX12_draw_30 (by decide) ?_
  refine lv_topl (fun x12 ex12 => ?_)
  have ex12 : x12.toInt = x11.toInt % (168 : Int) := by rw [ex12]; exact wk_reml (show 0 ≤ x11.toInt by omega) (show 0 < (168 : Int) by decide)
  refine lv_l2i hx hb dX12_draw_31 rfl ?_
  refine lv_topi (fun x13 ex13 => ?_)
  have ex13 : x13.toInt = x12.toInt := by rw [ex13]; exact wk_l2i (by omega) (by omega)
  exact tk_iret hC hr hlocks hK ⟨hT, hF, ⟨(show 0 ≤ x13.toInt by omega), (show x13.toInt ≤ 167 by omega)⟩⟩ hw dX12_draw_32
abbrev P_X12_in_18 (ad : Nat → Nat) (cy : Nat → ClassId) (B : Int) (qr : Nat) (s1 : Int) (a0 : Int64) (w0 : va_W) : Int32 → va_W → Prop := fun r u => w0 = u ∧ ((r = 0) ∨ (r = 1 ∧ 1 ≤ a0.toInt ∧ a0.toInt ≤ 30))
set_option maxHeartbeats 4000000 in
set_option maxRecDepth 100000 in
theorem k_X12_in_18 (l : Launch) (adK adV : Nat → Nat) (dC : Nat → ClassId) (dI : Nat → Nat → Nat) (cy : Nat → ClassId) (ad : Nat → Nat) (B : Int) (hB0 : 100000 ≤ B) (hB1 : B ≤ 1073741824) (qr : Nat) (s1 : Int)  (a0 : Int64) (ra0 : (-2147483648) ≤ a0.toInt) (ta0 : a0.toInt ≤ 2147483647) (w0 : va_W) (sz : Nat) (hT : TW ksM ad cy B qr 12 w0)  : Met l yX12_in wsX12_in ({ frames := 1, cells := 0, slots := 0, locals := 12 }) (va_Pc [.long a0, .long 1, .long 30] (wpreS adK adV dC dI cy sz w0)) (va_Qi (P_X12_in_18 ad cy B qr s1 a0 w0) (fun u : va_W => wpost dC dI cy (va_A w0 sz) u) (va_A w0 sz)) 0 0 (va_A w0 sz) := by
  refine Met.ofW (cc := cX12_in) (maxL := 6) (ret := (some .boolean)) (by decide) rfl ?_
  intro p e s m args below meth c s₁ Bk hml hv
  obtain ⟨rfl, ⟨hsz, hP, hK, hD0⟩, hE, hSR⟩ := hv
  have hx := Bk.exec
  have hb := Bk.bytes
  have hr := Bk.returns
  have hlocks := Bk.notSynchronized
  have hC : CallFix p m c cX12_in 6 s _ wsX12_in RX12 := ⟨hx, hb, hml, findClass_of_methodNamed Bk.named, atoms_spec (ws := wsX12_in) Bk.pre⟩
  subst hsz
  have hD := hD0.self (sz := s.heap.size)
  generalize hAe : va_A w0 s.heap.size = A at hD hE ⊢
  have hA : ∀ q : Nat, s.heap.size ≤ q → A q := fun q h => by rw [← hAe]; exact Or.inr h
  have hw : Wd dC dI A s.heap s.heap [] w0 := ⟨hP, hD, va_S.rf⟩
  have hF : FE ksM ([] : List (Nat × Nat × Nat)) w0 w0 := FE.rf
  have hl := lv_entry ([.long a0, .long 1, .long 30]) (n := 6) (Nat.le_of_ble_eq_true rfl)
  rw [lg_entry_eq]
  generalize (lg_sl ([.long a0, .long 1, .long 30]) ++ List.replicate (6 - (lg_sl ([.long a0, .long 1, .long 30])).length) Slot.unset).toArray = ls at hl ⊢
  have hl : lv_has ls 6 [(0, .long a0), (2, .long 1), (4, .long 30)] := hl
  generalize hloc : ([] : List Loc) = locs at hw ⊢
  have J17 : ∀ (H : Heap) (locs : List Loc) (ls : Array Slot), (-2147483648) ≤ a0.toInt → a0.toInt ≤ 2147483647 → Wd dC dI A s.heap H locs w0 → lv_has ls 6 [(0, .long a0), (2, .long 1), (4, .long 30)] → W p l e ({ frames := 1, cells := 0, slots := 0, locals := 12 }) s m (List.toArray [.long a0, .long 1, .long 30]) below meth c H locs 0 0 (MQ below (va_Qi (P_X12_in_18 ad cy B qr s1 a0 w0) (fun u : va_W => wpost dC dI cy A u) A) (List.toArray [.long a0, .long 1, .long 30]) s 0 0 A) (F0 m 17 ls []) := by
    intro H locs ls r1 t2 hw hl
    refine lv_iconst (v := 0) hx hb dX12_in_17 (by decide) ?_
    exact tk_zret hC hr rfl hlocks hK ⟨rfl, (Or.inl rfl)⟩ hw dX12_in_18
  refine lv_lload_n hx hb dX12_in_0 rfl (lv_at hl 0 rfl) ?_
  refine lv_lload_n hx hb dX12_in_1 rfl (lv_at hl 1 rfl) ?_
  refine W.lcmp hx hb dX12_in_2 ?_
  refine lv_if_lt (tgt := 17) hx hb dX12_in_3 (by decide) (fun c3 => ?_) (fun c3 => ?_)
  · have c3 : a0.toInt < (1 : Int) := wk_cltT c3
    exact J17  s.heap locs ls  (show (-2147483648) ≤ a0.toInt by omega) (show a0.toInt ≤ 2147483647 by omega)  hw   (lv_sub hl [0, 1, 2] rfl)
  · have c3 : (1 : Int) ≤ a0.toInt := wk_cltF c3
    refine lv_lload_n hx hb dX12_in_6 rfl (lv_at hl 0 rfl) ?_
    refine lv_lload hx hb dX12_in_7 (lv_at hl 2 rfl) ?_
    refine W.lcmp hx hb dX12_in_9 ?_
    refine lv_if_gt (tgt := 17) hx hb dX12_in_10 (by decide) (fun c4 => ?_) (fun c4 => ?_)
    · have c4 : (30 : Int) < a0.toInt := wk_cgtT c4
      exact J17  s.heap locs ls  (show (-2147483648) ≤ a0.toInt by omega) (show a0.toInt ≤ 2147483647 by omega)  hw   (lv_sub hl [0, 1, 2] rfl)
    · have c4 : a0.toInt ≤ (30 : Int) := wk_cgtF c4
      refine lv_iconst (v := 1) hx hb dX12_in_13 (by decide) ?_
      refine lv_goto (tgt := 18) hx hb dX12_in_14 (by decide) ?_
      exact tk_zret hC hr rfl hlocks hK ⟨rfl, (Or.inr ⟨rfl, (show 1 ≤ a0.toInt by omega), (show a0.toInt ≤ 30 by omega)⟩)⟩ hw dX12_in_18
abbrev P_X12_walkerOf_11 (ad : Nat → Nat) (cy : Nat → ClassId) (B : Int) (qr : Nat) (s1 : Int)  (w0 : va_W) : Int32 → va_W → Prop := fun r u => w0 = u ∧ ((0 ≤ r.toInt ∧ r.toInt ≤ 9 ∧ gi u 12 216 = r))
set_option maxHeartbeats 4000000 in
set_option maxRecDepth 100000 in
theorem k_X12_walkerOf_11 (l : Launch) (adK adV : Nat → Nat) (dC : Nat → ClassId) (dI : Nat → Nat → Nat) (cy : Nat → ClassId) (ad : Nat → Nat) (B : Int) (hB0 : 100000 ≤ B) (hB1 : B ≤ 1073741824) (qr : Nat) (s1 : Int)   (w0 : va_W) (sz : Nat) (hT : TW ksM ad cy B qr 12 w0)  : Met l yX12_walkerOf wsX12_walkerOf ({ frames := 1, cells := 0, slots := 0, locals := 12 }) (va_Pc [.ref (ad 0), .int 0, .int 0] (wpreS adK adV dC dI cy sz w0)) (va_Qi (P_X12_walkerOf_11 ad cy B qr s1  w0) (fun u : va_W => wpost dC dI cy (va_A w0 sz) u) (va_A w0 sz)) 0 0 (va_A w0 sz) := by
  refine Met.ofW (cc := cX12_walkerOf) (maxL := 3) (ret := (some .int)) (by decide) rfl ?_
  intro p e s m args below meth c s₁ Bk hml hv
  obtain ⟨rfl, ⟨hsz, hP, hK, hD0⟩, hE, hSR⟩ := hv
  have hx := Bk.exec
  have hb := Bk.bytes
  have hr := Bk.returns
  have hlocks := Bk.notSynchronized
  have hC : CallFix p m c cX12_walkerOf 3 s _ wsX12_walkerOf RX12 := ⟨hx, hb, hml, findClass_of_methodNamed Bk.named, atoms_spec (ws := wsX12_walkerOf) Bk.pre⟩
  subst hsz
  have hD := hD0.self (sz := s.heap.size)
  generalize hAe : va_A w0 s.heap.size = A at hD hE ⊢
  have hA : ∀ q : Nat, s.heap.size ≤ q → A q := fun q h => by rw [← hAe]; exact Or.inr h
  have hw : Wd dC dI A s.heap s.heap [] w0 := ⟨hP, hD, va_S.rf⟩
  have hF : FE ksM ([] : List (Nat × Nat × Nat)) w0 w0 := FE.rf
  have hl := lv_entry ([.ref (ad 0), .int 0, .int 0]) (n := 3) (Nat.le_of_ble_eq_true rfl)
  rw [lg_entry_eq]
  generalize (lg_sl ([.ref (ad 0), .int 0, .int 0]) ++ List.replicate (3 - (lg_sl ([.ref (ad 0), .int 0, .int 0])).length) Slot.unset).toArray = ls at hl ⊢
  have hl : lv_has ls 3 [(0, .ref (ad 0)), (1, .int 0), (2, .int 0)] := hl
  generalize hloc : ([] : List Loc) = locs at hw ⊢
  have hinX12 : ∀ w ∈ u_ws RX12 TX12 42, w ∈ wsX12_walkerOf := fun _ h => List.mem_cons_of_mem _ (List.mem_append_right _ (h))
  refine lv_aload_n hx hb dX12_walkerOf_0 rfl (lv_at hl 0 rfl) ?_
  refine tk_getA hC hK hw hT hinX12 kM_at0 (by decide) rfl 26 (by decide) (List.mem_of_getElem? (i := 1) rfl) rfl rfl dX12_walkerOf_1 ?_
  refine lv_sipush (v := 216) hx hb dX12_walkerOf_4 (by decide) ?_
  refine lv_bipush (v := 9) hx hb dX12_walkerOf_7 (by decide) ?_
  refine lv_iload_n hx hb dX12_walkerOf_9 rfl (lv_at hl 1 rfl) ?_
  refine lv_imul hx hb dX12_walkerOf_10 ?_
  refine wk_top 0 (by decide) ?_
  refine lv_iadd hx hb dX12_walkerOf_11 ?_
  refine wk_top 216 (by decide) ?_
  refine lv_iload_n hx hb dX12_walkerOf_12 rfl (lv_at hl 2 rfl) ?_
  refine lv_iadd hx hb dX12_walkerOf_13 ?_
  refine wk_top 216 (by decide) ?_
  refine tk_ialdR hC hK hw hT kM_at12 rfl (by decide) (by decide) dX12_walkerOf_14 (fun x1 c2 Ex1 => ?_)
  have bx1 := tk_rgI rfl 216 1 1 0 9 (by decide +kernel) ⟨0, by decide, by decide⟩ Ex1
  have c2 : gi w0 12 216 = x1 := c2
  exact tk_iret hC hr hlocks hK ⟨rfl, ⟨(show 0 ≤ x1.toInt by omega), (show x1.toInt ≤ 9 by omega), c2⟩⟩ hw dX12_walkerOf_15
abbrev P_X12_walkerOf_12 (ad : Nat → Nat) (cy : Nat → ClassId) (B : Int) (qr : Nat) (s1 : Int)  (w0 : va_W) : Int32 → va_W → Prop := fun r u => w0 = u ∧ ((0 ≤ r.toInt ∧ r.toInt ≤ 9 ∧ gi u 12 217 = r))
set_option maxHeartbeats 4000000 in
set_option maxRecDepth 100000 in
theorem k_X12_walkerOf_12 (l : Launch) (adK adV : Nat → Nat) (dC : Nat → ClassId) (dI : Nat → Nat → Nat) (cy : Nat → ClassId) (ad : Nat → Nat) (B : Int) (hB0 : 100000 ≤ B) (hB1 : B ≤ 1073741824) (qr : Nat) (s1 : Int)   (w0 : va_W) (sz : Nat) (hT : TW ksM ad cy B qr 12 w0)  : Met l yX12_walkerOf wsX12_walkerOf ({ frames := 1, cells := 0, slots := 0, locals := 12 }) (va_Pc [.ref (ad 0), .int 0, .int 1] (wpreS adK adV dC dI cy sz w0)) (va_Qi (P_X12_walkerOf_12 ad cy B qr s1  w0) (fun u : va_W => wpost dC dI cy (va_A w0 sz) u) (va_A w0 sz)) 0 0 (va_A w0 sz) := by
  refine Met.ofW (cc := cX12_walkerOf) (maxL := 3) (ret := (some .int)) (by decide) rfl ?_
  intro p e s m args below meth c s₁ Bk hml hv
  obtain ⟨rfl, ⟨hsz, hP, hK, hD0⟩, hE, hSR⟩ := hv
  have hx := Bk.exec
  have hb := Bk.bytes
  have hr := Bk.returns
  have hlocks := Bk.notSynchronized
  have hC : CallFix p m c cX12_walkerOf 3 s _ wsX12_walkerOf RX12 := ⟨hx, hb, hml, findClass_of_methodNamed Bk.named, atoms_spec (ws := wsX12_walkerOf) Bk.pre⟩
  subst hsz
  have hD := hD0.self (sz := s.heap.size)
  generalize hAe : va_A w0 s.heap.size = A at hD hE ⊢
  have hA : ∀ q : Nat, s.heap.size ≤ q → A q := fun q h => by rw [← hAe]; exact Or.inr h
  have hw : Wd dC dI A s.heap s.heap [] w0 := ⟨hP, hD, va_S.rf⟩
  have hF : FE ksM ([] : List (Nat × Nat × Nat)) w0 w0 := FE.rf
  have hl := lv_entry ([.ref (ad 0), .int 0, .int 1]) (n := 3) (Nat.le_of_ble_eq_true rfl)
  rw [lg_entry_eq]
  generalize (lg_sl ([.ref (ad 0), .int 0, .int 1]) ++ List.replicate (3 - (lg_sl ([.ref (ad 0), .int 0, .int 1])).length) Slot.unset).toArray = ls at hl ⊢
  have hl : lv_has ls 3 [(0, .ref (ad 0)), (1, .int 0), (2, .int 1)] := hl
  generalize hloc : ([] : List Loc) = locs at hw ⊢
  have hinX12 : ∀ w ∈ u_ws RX12 TX12 42, w ∈ wsX12_walkerOf := fun _ h => List.mem_cons_of_mem _ (List.mem_append_right _ (h))
  refine lv_aload_n hx hb dX12_walkerOf_0 rfl (lv_at hl 0 rfl) ?_
  refine tk_getA hC hK hw hT hinX12 kM_at0 (by decide) rfl 26 (by decide) (List.mem_of_getElem? (i := 1) rfl) rfl rfl dX12_walkerOf_1 ?_
  refine lv_sipush (v := 216) hx hb dX12_walkerOf_4 (by decide) ?_
  refine lv_bipush (v := 9) hx hb dX12_walkerOf_7 (by decide) ?_
  refine lv_iload_n hx hb dX12_walkerOf_9 rfl (lv_at hl 1 rfl) ?_
  refine lv_imul hx hb dX12_walkerOf_10 ?_
  refine wk_top 0 (by decide) ?_
  refine lv_iadd hx hb dX12_walkerOf_11 ?_
  refine wk_top 216 (by decide) ?_
  refine lv_iload_n hx hb dX12_walkerOf_12 rfl (lv_at hl 2 rfl) ?_
  refine lv_iadd hx hb dX12_walkerOf_13 ?_
  refine wk_top 217 (by decide) ?_
  refine tk_ialdR hC hK hw hT kM_at12 rfl (by decide) (by decide) dX12_walkerOf_14 (fun x1 c2 Ex1 => ?_)
  have bx1 := tk_rgI rfl 217 1 1 0 9 (by decide +kernel) ⟨0, by decide, by decide⟩ Ex1
  have c2 : gi w0 12 217 = x1 := c2
  exact tk_iret hC hr hlocks hK ⟨rfl, ⟨(show 0 ≤ x1.toInt by omega), (show x1.toInt ≤ 9 by omega), c2⟩⟩ hw dX12_walkerOf_15
abbrev P_X12_isThere_2 (ad : Nat → Nat) (cy : Nat → ClassId) (B : Int) (qr : Nat) (s1 : Int)  (w0 : va_W) : Int32 → va_W → Prop := fun r u => w0 = u ∧ ((r = 0) ∨ (r = 1))
set_option maxHeartbeats 4000000 in
set_option maxRecDepth 100000 in
theorem k_X12_isThere_2 (l : Launch) (adK adV : Nat → Nat) (dC : Nat → ClassId) (dI : Nat → Nat → Nat) (cy : Nat → ClassId) (ad : Nat → Nat) (B : Int) (hB0 : 100000 ≤ B) (hB1 : B ≤ 1073741824) (qr : Nat) (s1 : Int)   (w0 : va_W) (sz : Nat) (hT : TW ksM ad cy B qr 12 w0)  : Met l yX12_isThere wsX12_isThere ({ frames := 2, cells := 0, slots := 0, locals := 34 }) (va_Pc [.ref (ad 0), .int 0] (wpreS adK adV dC dI cy sz w0)) (va_Qi (P_X12_isThere_2 ad cy B qr s1  w0) (fun u : va_W => wpost dC dI cy (va_A w0 sz) u) (va_A w0 sz)) 0 0 (va_A w0 sz) := by
  refine Met.ofW (cc := cX12_isThere) (maxL := 2) (ret := (some .boolean)) (by decide) rfl ?_
  intro p e s m args below meth c s₁ Bk hml hv
  obtain ⟨rfl, ⟨hsz, hP, hK, hD0⟩, hE, hSR⟩ := hv
  have hx := Bk.exec
  have hb := Bk.bytes
  have hr := Bk.returns
  have hlocks := Bk.notSynchronized
  have hC : CallFix p m c cX12_isThere 2 s _ wsX12_isThere RX12 := ⟨hx, hb, hml, findClass_of_methodNamed Bk.named, atoms_spec (ws := wsX12_isThere) Bk.pre⟩
  subst hsz
  have hD := hD0.self (sz := s.heap.size)
  generalize hAe : va_A w0 s.heap.size = A at hD hE ⊢
  have hA : ∀ q : Nat, s.heap.size ≤ q → A q := fun q h => by rw [← hAe]; exact Or.inr h
  have hw : Wd dC dI A s.heap s.heap [] w0 := ⟨hP, hD, va_S.rf⟩
  have hF : FE ksM ([] : List (Nat × Nat × Nat)) w0 w0 := FE.rf
  have hl := lv_entry ([.ref (ad 0), .int 0]) (n := 2) (Nat.le_of_ble_eq_true rfl)
  rw [lg_entry_eq]
  generalize (lg_sl ([.ref (ad 0), .int 0]) ++ List.replicate (2 - (lg_sl ([.ref (ad 0), .int 0])).length) Slot.unset).toArray = ls at hl ⊢
  have hl : lv_has ls 2 [(0, .ref (ad 0)), (1, .int 0)] := hl
  generalize hloc : ([] : List Loc) = locs at hw ⊢
  refine lv_aload_n hx hb dX12_isThere_0 rfl (lv_at hl 0 rfl) ?_
  refine lv_iload_n hx hb dX12_isThere_1 rfl (lv_at hl 1 rfl) ?_
  refine lv_iconst (v := 0) hx hb dX12_isThere_2 (by decide) ?_
  refine tk_Vi hC hK hw hT hA hE hSR kM_at0 (by decide) rfl (k_X12_walkerOf_11 l adK adV dC dI cy ad B (by omega) (by omega) qr s1    w0 s.heap.size hT ) (cwV 2 hC.2.2.2.2 gX12_isThere_X12_walkerOf rfl rfl rfl (by decide +kernel) ⟨Nat.le_of_ble_eq_true rfl, Nat.le_of_ble_eq_true rfl⟩) rfl hl.1 rfl (Nat.le_of_ble_eq_true rfl) dX12_isThere_3 (fun r1 w3 H locs hp2 hw => ?_)
  obtain ⟨rfl, hg8⟩ := hp2
  obtain ⟨g5, g6, c7⟩ := hg8
  refine lv_aload_n hx hb dX12_isThere_6 rfl (lv_at hl 0 rfl) ?_
  refine lv_iload_n hx hb dX12_isThere_7 rfl (lv_at hl 1 rfl) ?_
  refine lv_iconst (v := 1) hx hb dX12_isThere_8 (by decide) ?_
  refine tk_Vi hC hK hw hT hA hE hSR kM_at0 (by decide) rfl (k_X12_walkerOf_12 l adK adV dC dI cy ad B (by omega) (by omega) qr s1    w0 H.size hT ) (cwV 2 hC.2.2.2.2 gX12_isThere_X12_walkerOf rfl rfl rfl (by decide +kernel) ⟨Nat.le_of_ble_eq_true rfl, Nat.le_of_ble_eq_true rfl⟩) rfl hl.1 rfl (Nat.le_of_ble_eq_true rfl) dX12_isThere_9 (fun r9 w11 H locs hp10 hw => ?_)
  obtain ⟨rfl, hg16⟩ := hp10
  obtain ⟨g13, g14, c15⟩ := hg16
  refine lv_icmp_ne (tgt := 19) hx hb dX12_isThere_12 (by decide) (fun c17 => ?_) (fun c17 => ?_)
  · have c17 : ¬ r1.toInt = r9.toInt := wk_eqF c17
    refine lv_iconst (v := 0) hx hb dX12_isThere_19 (by decide) ?_
    exact tk_zret hC hr rfl hlocks hK ⟨rfl, (Or.inl rfl)⟩ hw dX12_isThere_20
  · have c17 : r1.toInt = r9.toInt := wk_eq.mp c17
    refine lv_iconst (v := 1) hx hb dX12_isThere_15 (by decide) ?_
    refine lv_goto (tgt := 20) hx hb dX12_isThere_16 (by decide) ?_
    exact tk_zret hC hr rfl hlocks hK ⟨rfl, (Or.inr rfl)⟩ hw dX12_isThere_20
abbrev P_X12_setsOut_2 (ad : Nat → Nat) (cy : Nat → ClassId) (B : Int) (qr : Nat) (s1 : Int) (a2 : Int32) (a3 : Int32) (a4 : Int32) (a5 : Int32) (a6 : Int32) (w0 : va_W) : va_W → Prop := fun u => TW ksM ad cy B qr 12 u ∧ FE ksM [(71, 216, 216), (71, 217, 217), (71, 218, 218), (71, 219, 219), (71, 220, 220), (71, 221, 221), (71, 222, 222), (71, 223, 223), (71, 224, 224)] w0 u ∧ (((∃ y : Int32, gi u 12 220 = y ∧ 0 ≤ y.toInt ∧ y.toInt ≤ 167) ∧ (∃ y : Int32, gi u 12 221 = y ∧ 0 ≤ y.toInt ∧ y.toInt ≤ 0) ∧ (∃ y : Int32, gi u 12 222 = y ∧ 0 ≤ y.toInt ∧ y.toInt ≤ 0) ∧ (∃ y : Int32, gi u 12 223 = y ∧ (-1) ≤ y.toInt ∧ y.toInt ≤ (-1)) ∧ (∃ y : Int32, gi u 12 224 = y ∧ (-1) ≤ y.toInt ∧ y.toInt ≤ (-1))))
set_option maxHeartbeats 4000000 in
set_option maxRecDepth 100000 in
theorem k_X12_setsOut_2 (l : Launch) (adK adV : Nat → Nat) (dC : Nat → ClassId) (dI : Nat → Nat → Nat) (cy : Nat → ClassId) (ad : Nat → Nat) (B : Int) (hB0 : 100000 ≤ B) (hB1 : B ≤ 1073741824) (qr : Nat) (s1 : Int)  (a2 : Int32) (ra2 : 0 ≤ a2.toInt) (ta2 : a2.toInt ≤ 9) (a3 : Int32) (ra3 : 0 ≤ a3.toInt) (ta3 : a3.toInt ≤ 9) (a4 : Int32) (ra4 : 0 ≤ a4.toInt) (ta4 : a4.toInt ≤ 3) (a5 : Int32) (ra5 : (-1) ≤ a5.toInt) (ta5 : a5.toInt ≤ 5) (a6 : Int32) (ra6 : 0 ≤ a6.toInt) (ta6 : a6.toInt ≤ 167) (w0 : va_W) (sz : Nat) (hT : TW ksM ad cy B qr 12 w0)  : Met l yX12_setsOut wsX12_setsOut ({ frames := 1, cells := 0, slots := 0, locals := 12 }) (va_Pc [.ref (ad 0), .int 0, .int a2, .int a3, .int a4, .int a5, .int a6] (wpreS adK adV dC dI cy sz w0)) (va_Qv (P_X12_setsOut_2 ad cy B qr s1 a2 a3 a4 a5 a6 w0) (fun u : va_W => wpost dC dI cy (va_A w0 sz) u) (va_A w0 sz)) 0 0 (va_A w0 sz) := by
  refine Met.ofW (cc := cX12_setsOut) (maxL := 8) (ret := none) (by decide) rfl ?_
  intro p e s m args below meth c s₁ Bk hml hv
  obtain ⟨rfl, ⟨hsz, hP, hK, hD0⟩, hE, hSR⟩ := hv
  have hx := Bk.exec
  have hb := Bk.bytes
  have hr := Bk.returns
  have hlocks := Bk.notSynchronized
  have hC : CallFix p m c cX12_setsOut 8 s _ wsX12_setsOut RX12 := ⟨hx, hb, hml, findClass_of_methodNamed Bk.named, atoms_spec (ws := wsX12_setsOut) Bk.pre⟩
  subst hsz
  have hD := hD0.self (sz := s.heap.size)
  generalize hAe : va_A w0 s.heap.size = A at hD hE ⊢
  have hA : ∀ q : Nat, s.heap.size ≤ q → A q := fun q h => by rw [← hAe]; exact Or.inr h
  have hw : Wd dC dI A s.heap s.heap [] w0 := ⟨hP, hD, va_S.rf⟩
  have hF : FE ksM [(71, 216, 216), (71, 217, 217), (71, 218, 218), (71, 219, 219), (71, 220, 220), (71, 221, 221), (71, 222, 222), (71, 223, 223), (71, 224, 224)] w0 w0 := FE.rf
  have hl := lv_entry ([.ref (ad 0), .int 0, .int a2, .int a3, .int a4, .int a5, .int a6]) (n := 8) (Nat.le_of_ble_eq_true rfl)
  rw [lg_entry_eq]
  generalize (lg_sl ([.ref (ad 0), .int 0, .int a2, .int a3, .int a4, .int a5, .int a6]) ++ List.replicate (8 - (lg_sl ([.ref (ad 0), .int 0, .int a2, .int a3, .int a4, .int a5, .int a6])).length) Slot.unset).toArray = ls at hl ⊢
  have hl : lv_has ls 8 [(0, .ref (ad 0)), (1, .int 0), (2, .int a2), (3, .int a3), (4, .int a4), (5, .int a5), (6, .int a6)] := hl
  generalize hloc : ([] : List Loc) = locs at hw ⊢
  have hinX12 : ∀ w ∈ u_ws RX12 TX12 42, w ∈ wsX12_setsOut := fun _ h => List.mem_cons_of_mem _ (List.mem_append_right _ (h))
  refine lv_sipush (v := 216) hx hb dX12_setsOut_0 (by decide) ?_
  refine lv_bipush (v := 9) hx hb dX12_setsOut_3 (by decide) ?_
  refine lv_iload_n hx hb dX12_setsOut_5 rfl (lv_at hl 1 rfl) ?_
  refine lv_imul hx hb dX12_setsOut_6 ?_
  refine wk_top 0 (by decide) ?_
  refine lv_iadd hx hb dX12_setsOut_7 ?_
  refine wk_top 216 (by decide) ?_
  refine lv_istore (lv' := [(7, .int 216), (0, .ref (ad 0)), (1, .int 0), (2, .int a2), (3, .int a3), (4, .int a4), (5, .int a5), (6, .int a6)]) hx hb dX12_setsOut_8 hl (by decide) rfl (fun ls hl => ?_)
  refine lv_aload_n hx hb dX12_setsOut_10 rfl (lv_at hl 1 rfl) ?_
  refine tk_getA hC hK hw hT hinX12 kM_at0 (by decide) rfl 26 (by decide) (List.mem_of_getElem? (i := 1) rfl) rfl rfl dX12_setsOut_11 ?_
  refine lv_iload hx hb dX12_setsOut_14 (lv_at hl 0 rfl) ?_
  refine lv_iload_n hx hb dX12_setsOut_16 rfl (lv_at hl 3 rfl) ?_
  refine tk_iastR hC hK hw hT kM_at12 (by decide) rfl (by decide) (by decide) (tk_rgS rfl 216 1 1 0 9 (by decide +kernel) ⟨0, by decide, by decide⟩ (show 0 ≤ a2.toInt by omega) (show a2.toInt ≤ 9 by omega)) dX12_setsOut_17 (fun H locs w1 hw hT k3 c2 => ?_)
  have hF := hF.put kM_at12 (inE_of (a := 216) (b := 216) (by decide) (by decide) (by decide)) k3
  have c2 : gi w1 12 216 = a2 := c2
  refine lv_aload_n hx hb dX12_setsOut_18 rfl (lv_at hl 1 rfl) ?_
  refine tk_getA hC hK hw hT hinX12 kM_at0 (by decide) rfl 26 (by decide) (List.mem_of_getElem? (i := 1) rfl) rfl rfl dX12_setsOut_19 ?_
  refine lv_iload hx hb dX12_setsOut_22 (lv_at hl 0 rfl) ?_
  refine lv_iconst (v := 1) hx hb dX12_setsOut_24 (by decide) ?_
  refine lv_iadd hx hb dX12_setsOut_25 ?_
  refine wk_top 217 (by decide) ?_
  refine lv_iload_n hx hb dX12_setsOut_26 rfl (lv_at hl 4 rfl) ?_
  refine tk_iastR hC hK hw hT kM_at12 (by decide) rfl (by decide) (by decide) (tk_rgS rfl 217 1 1 0 9 (by decide +kernel) ⟨0, by decide, by decide⟩ (show 0 ≤ a3.toInt by omega) (show a3.toInt ≤ 9 by omega)) dX12_setsOut_27 (fun H locs w4 hw hT k6 c5 => ?_)
  have hF := hF.put kM_at12 (inE_of (a := 217) (b := 217) (by decide) (by decide) (by decide)) k6
  have c7 := k6.gi (Or.inr (by decide)) c2
  have c5 : gi w4 12 217 = a3 := c5
  refine lv_aload_n hx hb dX12_setsOut_28 rfl (lv_at hl 1 rfl) ?_
  refine tk_getA hC hK hw hT hinX12 kM_at0 (by decide) rfl 26 (by decide) (List.mem_of_getElem? (i := 1) rfl) rfl rfl dX12_setsOut_29 ?_
  refine lv_iload hx hb dX12_setsOut_32 (lv_at hl 0 rfl) ?_
  refine lv_iconst (v := 2) hx hb dX12_setsOut_34 (by decide) ?_
  refine lv_iadd hx hb dX12_setsOut_35 ?_
  refine wk_top 218 (by decide) ?_
  refine lv_iload hx hb dX12_setsOut_36 (lv_at hl 5 rfl) ?_
  refine tk_iastR hC hK hw hT kM_at12 (by decide) rfl (by decide) (by decide) (tk_rgS rfl 218 1 1 0 3 (by decide +kernel) ⟨0, by decide, by decide⟩ (show 0 ≤ a4.toInt by omega) (show a4.toInt ≤ 3 by omega)) dX12_setsOut_38 (fun H locs w8 hw hT k10 c9 => ?_)
  have hF := hF.put kM_at12 (inE_of (a := 218) (b := 218) (by decide) (by decide) (by decide)) k10
  have c11 := k10.gi (Or.inr (by decide)) c7
  have c12 := k10.gi (Or.inr (by decide)) c5
  have c9 : gi w8 12 218 = a4 := c9
  refine lv_aload_n hx hb dX12_setsOut_39 rfl (lv_at hl 1 rfl) ?_
  refine tk_getA hC hK hw hT hinX12 kM_at0 (by decide) rfl 26 (by decide) (List.mem_of_getElem? (i := 1) rfl) rfl rfl dX12_setsOut_40 ?_
  refine lv_iload hx hb dX12_setsOut_43 (lv_at hl 0 rfl) ?_
  refine lv_iconst (v := 3) hx hb dX12_setsOut_45 (by decide) ?_
  refine lv_iadd hx hb dX12_setsOut_46 ?_
  refine wk_top 219 (by decide) ?_
  refine lv_iload hx hb dX12_setsOut_47 (lv_at hl 6 rfl) ?_
  refine tk_iastR hC hK hw hT kM_at12 (by decide) rfl (by decide) (by decide) (tk_rgS rfl 219 1 1 (-1) 5 (by decide +kernel) ⟨0, by decide, by decide⟩ (show (-1) ≤ a5.toInt by omega) (show a5.toInt ≤ 5 by omega)) dX12_setsOut_49 (fun H locs w13 hw hT k15 c14 => ?_)
  have hF := hF.put kM_at12 (inE_of (a := 219) (b := 219) (by decide) (by decide) (by decide)) k15
  have c16 := k15.gi (Or.inr (by decide)) c11
  have c17 := k15.gi (Or.inr (by decide)) c12
  have c18 := k15.gi (Or.inr (by decide)) c9
  have c14 : gi w13 12 219 = a5 := c14
  refine lv_aload_n hx hb dX12_setsOut_50 rfl (lv_at hl 1 rfl) ?_
  refine tk_getA hC hK hw hT hinX12 kM_at0 (by decide) rfl 26 (by decide) (List.mem_of_getElem? (i := 1) rfl) rfl rfl dX12_setsOut_51 ?_
  refine lv_iload hx hb dX12_setsOut_54 (lv_at hl 0 rfl) ?_
  refine lv_iconst (v := 4) hx hb dX12_setsOut_56 (by decide) ?_
  refine lv_iadd hx hb dX12_setsOut_57 ?_
  refine wk_top 220 (by decide) ?_
  refine lv_iload hx hb dX12_setsOut_58 (lv_at hl 7 rfl) ?_
  refine tk_iastR hC hK hw hT kM_at12 (by decide) rfl (by decide) (by decide) ((tk_rgB rfl 220 1 1 (by decide +kernel) ⟨0, by decide, by decide⟩).mpr ⟨(show 0 ≤ a6.toInt by omega), (show a6.toInt ≤ B by omega)⟩) dX12_setsOut_60 (fun H locs w19 hw hT k21 c20 => ?_)
  have hF := hF.put kM_at12 (inE_of (a := 220) (b := 220) (by decide) (by decide) (by decide)) k21
  have c22 := k21.gi (Or.inr (by decide)) c16
  have c23 := k21.gi (Or.inr (by decide)) c17
  have c24 := k21.gi (Or.inr (by decide)) c18
  have c25 := k21.gi (Or.inr (by decide)) c14
  have c20 : gi w19 12 220 = a6 := c20
  refine lv_aload_n hx hb dX12_setsOut_61 rfl (lv_at hl 1 rfl) ?_
  refine tk_getA hC hK hw hT hinX12 kM_at0 (by decide) rfl 26 (by decide) (List.mem_of_getElem? (i := 1) rfl) rfl rfl dX12_setsOut_62 ?_
  refine lv_iload hx hb dX12_setsOut_65 (lv_at hl 0 rfl) ?_
  refine lv_iconst (v := 5) hx hb dX12_setsOut_67 (by decide) ?_
  refine lv_iadd hx hb dX12_setsOut_68 ?_
  refine wk_top 221 (by decide) ?_
  refine lv_iconst (v := 0) hx hb dX12_setsOut_69 (by decide) ?_
  refine tk_iastR hC hK hw hT kM_at12 (by decide) rfl (by decide) (by decide) (tk_rg0 rfl (show 0 ≤ B by omega) (by decide)) dX12_setsOut_70 (fun H locs w26 hw hT k28 c27 => ?_)
  have hF := hF.put kM_at12 (inE_of (a := 221) (b := 221) (by decide) (by decide) (by decide)) k28
  have c29 := k28.gi (Or.inr (by decide)) c22
  have c30 := k28.gi (Or.inr (by decide)) c23
  have c31 := k28.gi (Or.inr (by decide)) c24
  have c32 := k28.gi (Or.inr (by decide)) c25
  have c33 := k28.gi (Or.inr (by decide)) c20
  have c27 : gi w26 12 221 = 0 := c27
  refine lv_aload_n hx hb dX12_setsOut_71 rfl (lv_at hl 1 rfl) ?_
  refine tk_getA hC hK hw hT hinX12 kM_at0 (by decide) rfl 26 (by decide) (List.mem_of_getElem? (i := 1) rfl) rfl rfl dX12_setsOut_72 ?_
  refine lv_iload hx hb dX12_setsOut_75 (lv_at hl 0 rfl) ?_
  refine lv_bipush (v := 6) hx hb dX12_setsOut_77 (by decide) ?_
  refine lv_iadd hx hb dX12_setsOut_79 ?_
  refine wk_top 222 (by decide) ?_
  refine lv_iconst (v := 0) hx hb dX12_setsOut_80 (by decide) ?_
  refine tk_iastR hC hK hw hT kM_at12 (by decide) rfl (by decide) (by decide) (tk_rg0 rfl (show 0 ≤ B by omega) (by decide)) dX12_setsOut_81 (fun H locs w34 hw hT k36 c35 => ?_)
  have hF := hF.put kM_at12 (inE_of (a := 222) (b := 222) (by decide) (by decide) (by decide)) k36
  have c37 := k36.gi (Or.inr (by decide)) c29
  have c38 := k36.gi (Or.inr (by decide)) c30
  have c39 := k36.gi (Or.inr (by decide)) c31
  have c40 := k36.gi (Or.inr (by decide)) c32
  have c41 := k36.gi (Or.inr (by decide)) c33
  have c42 := k36.gi (Or.inr (by decide)) c27
  have c35 : gi w34 12 222 = 0 := c35
  refine lv_aload_n hx hb dX12_setsOut_82 rfl (lv_at hl 1 rfl) ?_
  refine tk_getA hC hK hw hT hinX12 kM_at0 (by decide) rfl 26 (by decide) (List.mem_of_getElem? (i := 1) rfl) rfl rfl dX12_setsOut_83 ?_
  refine lv_iload hx hb dX12_setsOut_86 (lv_at hl 0 rfl) ?_
  refine lv_bipush (v := 7) hx hb dX12_setsOut_88 (by decide) ?_
  refine lv_iadd hx hb dX12_setsOut_90 ?_
  refine wk_top 223 (by decide) ?_
  refine lv_iconst (v := (-1)) hx hb dX12_setsOut_91 (by decide) ?_
  refine tk_iastR hC hK hw hT kM_at12 (by decide) rfl (by decide) (by decide) (tk_rgS rfl 223 1 1 (-1) (-1) (by decide +kernel) ⟨0, by decide, by decide⟩ (by decide) (by decide)) dX12_setsOut_92 (fun H locs w43 hw hT k45 c44 => ?_)
  have hF := hF.put kM_at12 (inE_of (a := 223) (b := 223) (by decide) (by decide) (by decide)) k45
  have c46 := k45.gi (Or.inr (by decide)) c37
  have c47 := k45.gi (Or.inr (by decide)) c38
  have c48 := k45.gi (Or.inr (by decide)) c39
  have c49 := k45.gi (Or.inr (by decide)) c40
  have c50 := k45.gi (Or.inr (by decide)) c41
  have c51 := k45.gi (Or.inr (by decide)) c42
  have c52 := k45.gi (Or.inr (by decide)) c35
  have c44 : gi w43 12 223 = (-1) := c44
  refine lv_aload_n hx hb dX12_setsOut_93 rfl (lv_at hl 1 rfl) ?_
  refine tk_getA hC hK hw hT hinX12 kM_at0 (by decide) rfl 26 (by decide) (List.mem_of_getElem? (i := 1) rfl) rfl rfl dX12_setsOut_94 ?_
  refine lv_iload hx hb dX12_setsOut_97 (lv_at hl 0 rfl) ?_
  refine lv_bipush (v := 8) hx hb dX12_setsOut_99 (by decide) ?_
  refine lv_iadd hx hb dX12_setsOut_101 ?_
  refine wk_top 224 (by decide) ?_
  refine lv_iconst (v := (-1)) hx hb dX12_setsOut_102 (by decide) ?_
  refine tk_iastR hC hK hw hT kM_at12 (by decide) rfl (by decide) (by decide) (tk_rgS rfl 224 1 1 (-1) (-1) (by decide +kernel) ⟨0, by decide, by decide⟩ (by decide) (by decide)) dX12_setsOut_103 (fun H locs w53 hw hT k55 c54 => ?_)
  have hF := hF.put kM_at12 (inE_of (a := 224) (b := 224) (by decide) (by decide) (by decide)) k55
  have c56 := k55.gi (Or.inr (by decide)) c46
  have c57 := k55.gi (Or.inr (by decide)) c47
  have c58 := k55.gi (Or.inr (by decide)) c48
  have c59 := k55.gi (Or.inr (by decide)) c49
  have c60 := k55.gi (Or.inr (by decide)) c50
  have c61 := k55.gi (Or.inr (by decide)) c51
  have c62 := k55.gi (Or.inr (by decide)) c52
  have c63 := k55.gi (Or.inr (by decide)) c44
  have c54 : gi w53 12 224 = (-1) := c54
  exact tk_vret hC hr hlocks hK ⟨hT, hF, ⟨⟨a6, c60, (show 0 ≤ a6.toInt by omega), (show a6.toInt ≤ 167 by omega)⟩, ⟨0, c61, (by decide), (by decide)⟩, ⟨0, c62, (by decide), (by decide)⟩, ⟨(-1), c63, (by decide), (by decide)⟩, ⟨(-1), c54, (by decide), (by decide)⟩⟩⟩ hw dX12_setsOut_104
abbrev P_X12_walkerOf_13 (ad : Nat → Nat) (cy : Nat → ClassId) (B : Int) (qr : Nat) (s1 : Int)  (w0 : va_W) : Int32 → va_W → Prop := fun r u => w0 = u ∧ ((0 ≤ r.toInt ∧ r.toInt ≤ 1073741824 ∧ gi u 12 220 = r))
set_option maxHeartbeats 4000000 in
set_option maxRecDepth 100000 in
theorem k_X12_walkerOf_13 (l : Launch) (adK adV : Nat → Nat) (dC : Nat → ClassId) (dI : Nat → Nat → Nat) (cy : Nat → ClassId) (ad : Nat → Nat) (B : Int) (hB0 : 100000 ≤ B) (hB1 : B ≤ 1073741824) (qr : Nat) (s1 : Int)   (w0 : va_W) (sz : Nat) (hT : TW ksM ad cy B qr 12 w0)  : Met l yX12_walkerOf wsX12_walkerOf ({ frames := 1, cells := 0, slots := 0, locals := 12 }) (va_Pc [.ref (ad 0), .int 0, .int 4] (wpreS adK adV dC dI cy sz w0)) (va_Qi (P_X12_walkerOf_13 ad cy B qr s1  w0) (fun u : va_W => wpost dC dI cy (va_A w0 sz) u) (va_A w0 sz)) 0 0 (va_A w0 sz) := by
  refine Met.ofW (cc := cX12_walkerOf) (maxL := 3) (ret := (some .int)) (by decide) rfl ?_
  intro p e s m args below meth c s₁ Bk hml hv
  obtain ⟨rfl, ⟨hsz, hP, hK, hD0⟩, hE, hSR⟩ := hv
  have hx := Bk.exec
  have hb := Bk.bytes
  have hr := Bk.returns
  have hlocks := Bk.notSynchronized
  have hC : CallFix p m c cX12_walkerOf 3 s _ wsX12_walkerOf RX12 := ⟨hx, hb, hml, findClass_of_methodNamed Bk.named, atoms_spec (ws := wsX12_walkerOf) Bk.pre⟩
  subst hsz
  have hD := hD0.self (sz := s.heap.size)
  generalize hAe : va_A w0 s.heap.size = A at hD hE ⊢
  have hA : ∀ q : Nat, s.heap.size ≤ q → A q := fun q h => by rw [← hAe]; exact Or.inr h
  have hw : Wd dC dI A s.heap s.heap [] w0 := ⟨hP, hD, va_S.rf⟩
  have hF : FE ksM ([] : List (Nat × Nat × Nat)) w0 w0 := FE.rf
  have hl := lv_entry ([.ref (ad 0), .int 0, .int 4]) (n := 3) (Nat.le_of_ble_eq_true rfl)
  rw [lg_entry_eq]
  generalize (lg_sl ([.ref (ad 0), .int 0, .int 4]) ++ List.replicate (3 - (lg_sl ([.ref (ad 0), .int 0, .int 4])).length) Slot.unset).toArray = ls at hl ⊢
  have hl : lv_has ls 3 [(0, .ref (ad 0)), (1, .int 0), (2, .int 4)] := hl
  generalize hloc : ([] : List Loc) = locs at hw ⊢
  have hinX12 : ∀ w ∈ u_ws RX12 TX12 42, w ∈ wsX12_walkerOf := fun _ h => List.mem_cons_of_mem _ (List.mem_append_right _ (h))
  refine lv_aload_n hx hb dX12_walkerOf_0 rfl (lv_at hl 0 rfl) ?_
  refine tk_getA hC hK hw hT hinX12 kM_at0 (by decide) rfl 26 (by decide) (List.mem_of_getElem? (i := 1) rfl) rfl rfl dX12_walkerOf_1 ?_
  refine lv_sipush (v := 216) hx hb dX12_walkerOf_4 (by decide) ?_
  refine lv_bipush (v := 9) hx hb dX12_walkerOf_7 (by decide) ?_
  refine lv_iload_n hx hb dX12_walkerOf_9 rfl (lv_at hl 1 rfl) ?_
  refine lv_imul hx hb dX12_walkerOf_10 ?_
  refine wk_top 0 (by decide) ?_
  refine lv_iadd hx hb dX12_walkerOf_11 ?_
  refine wk_top 216 (by decide) ?_
  refine lv_iload_n hx hb dX12_walkerOf_12 rfl (lv_at hl 2 rfl) ?_
  refine lv_iadd hx hb dX12_walkerOf_13 ?_
  refine wk_top 220 (by decide) ?_
  refine tk_ialdR hC hK hw hT kM_at12 rfl (by decide) (by decide) dX12_walkerOf_14 (fun x1 c2 Ex1 => ?_)
  have bx1 := (tk_rgB rfl 220 1 1 (by decide +kernel) ⟨0, by decide, by decide⟩).mp Ex1
  have c2 : gi w0 12 220 = x1 := c2
  exact tk_iret hC hr hlocks hK ⟨rfl, ⟨(show 0 ≤ x1.toInt by omega), (show x1.toInt ≤ 1073741824 by omega), c2⟩⟩ hw dX12_walkerOf_15
abbrev P_X12_asideOf_2 (ad : Nat → Nat) (cy : Nat → ClassId) (B : Int) (qr : Nat) (s1 : Int)  (w0 : va_W) : Int32 → va_W → Prop := fun r u => w0 = u ∧ ((0 ≤ r.toInt ∧ r.toInt ≤ 11 ∧ (∃ y : Int32, gi u 12 1 = y ∧ 1 ≤ y.toInt ∧ y.toInt ≤ 12) ∧ (r.toInt < (gi w0 12 1).toInt ∧ mOw w0 r.toInt (0 : Int32).toInt)) ∨ (r = (-1) ∧ (∀ k : Int, 0 ≤ k → k < (gi w0 12 1).toInt → ¬ mOw w0 k (0 : Int32).toInt)))
set_option maxHeartbeats 4000000 in
set_option maxRecDepth 100000 in
theorem k_X12_asideOf_2 (l : Launch) (adK adV : Nat → Nat) (dC : Nat → ClassId) (dI : Nat → Nat → Nat) (cy : Nat → ClassId) (ad : Nat → Nat) (B : Int) (hB0 : 100000 ≤ B) (hB1 : B ≤ 1073741824) (qr : Nat) (s1 : Int)   (w0 : va_W) (sz : Nat) (hT : TW ksM ad cy B qr 12 w0)  : Met l yX12_asideOf wsX12_asideOf ({ frames := 5, cells := 0, slots := 0, locals := 103 }) (va_Pc [.ref (ad 0), .int 0] (wpreS adK adV dC dI cy sz w0)) (va_Qi (P_X12_asideOf_2 ad cy B qr s1  w0) (fun u : va_W => wpost dC dI cy (va_A w0 sz) u) (va_A w0 sz)) 0 0 (va_A w0 sz) := by
  refine Met.ofW (cc := cX12_asideOf) (maxL := 3) (ret := (some .int)) (by decide) rfl ?_
  intro p e s m args below meth c s₁ Bk hml hv
  obtain ⟨rfl, ⟨hsz, hP, hK, hD0⟩, hE, hSR⟩ := hv
  have hx := Bk.exec
  have hb := Bk.bytes
  have hr := Bk.returns
  have hlocks := Bk.notSynchronized
  have hC : CallFix p m c cX12_asideOf 3 s _ wsX12_asideOf RX12 := ⟨hx, hb, hml, findClass_of_methodNamed Bk.named, atoms_spec (ws := wsX12_asideOf) Bk.pre⟩
  subst hsz
  have hD := hD0.self (sz := s.heap.size)
  generalize hAe : va_A w0 s.heap.size = A at hD hE ⊢
  have hA : ∀ q : Nat, s.heap.size ≤ q → A q := fun q h => by rw [← hAe]; exact Or.inr h
  have hw : Wd dC dI A s.heap s.heap [] w0 := ⟨hP, hD, va_S.rf⟩
  have hF : FE ksM ([] : List (Nat × Nat × Nat)) w0 w0 := FE.rf
  have hl := lv_entry ([.ref (ad 0), .int 0]) (n := 3) (Nat.le_of_ble_eq_true rfl)
  rw [lg_entry_eq]
  generalize (lg_sl ([.ref (ad 0), .int 0]) ++ List.replicate (3 - (lg_sl ([.ref (ad 0), .int 0])).length) Slot.unset).toArray = ls at hl ⊢
  have hl : lv_has ls 3 [(0, .ref (ad 0)), (1, .int 0)] := hl
  generalize hloc : ([] : List Loc) = locs at hw ⊢
  have hinX12 : ∀ w ∈ u_ws RX12 TX12 42, w ∈ wsX12_asideOf := fun _ h => List.mem_cons_of_mem _ (List.mem_append_right _ (h))
  have L2 : ∀ (n2 : Nat) (v2_2 : Int32) (H : Heap) (locs : List Loc) (ls : Array Slot), 0 ≤ v2_2.toInt → v2_2.toInt ≤ 12 → (∀ k : Int, 0 ≤ k → k < v2_2.toInt → ¬ mOw w0 k (0 : Int32).toInt) → (12 - v2_2.toInt).toNat < n2 → Wd dC dI A s.heap H locs w0 → lv_has ls 3 [(0, .ref (ad 0)), (1, .int 0), (2, .int v2_2)] → W p l e ({ frames := 5, cells := 0, slots := 0, locals := 103 }) s m (List.toArray [.ref (ad 0), .int 0]) below meth c H locs 0 0 (MQ below (va_Qi (P_X12_asideOf_2 ad cy B qr s1  w0) (fun u : va_W => wpost dC dI cy A u) A) (List.toArray [.ref (ad 0), .int 0]) s 0 0 A) (F0 m 2 ls []) := by
    intro n2
    induction n2 with
    | zero => intro v2_2 H locs ls r1 t2 hcr2_0 hm2 hw hl; omega
    | succ n2 ih2 =>
      intro v2_2 H locs ls r1 t2 hcr2_0 hm2 hw hl
      refine lv_iload_n hx hb dX12_asideOf_2 rfl (lv_at hl 2 rfl) ?_
      refine lv_aload_n hx hb dX12_asideOf_3 rfl (lv_at hl 0 rfl) ?_
      refine tk_getA hC hK hw hT hinX12 kM_at0 (by decide) rfl 26 (by decide) (List.mem_of_getElem? (i := 1) rfl) rfl rfl dX12_asideOf_4 ?_
      refine lv_iconst (v := 1) hx hb dX12_asideOf_7 (by decide) ?_
      refine tk_ialdR hC hK hw hT kM_at12 rfl (by decide) (by decide) dX12_asideOf_8 (fun x3 c4 Ex3 => ?_)
      have bx3 : 0 ≤ x3.toInt ∧ x3.toInt ≤ 12 := (tk_rg1 rfl).mp Ex3
      have c4 : gi w0 12 1 = x3 := c4
      refine lv_icmp_ge (tgt := 40) hx hb dX12_asideOf_9 (by decide) (fun c5 => ?_) (fun c5 => ?_)
      · have c5 : x3.toInt ≤ v2_2.toInt := wk_le.mp c5
        refine lv_iconst (v := (-1)) hx hb dX12_asideOf_40 (by decide) ?_
        exact tk_iret hC hr hlocks hK ⟨rfl, (Or.inr ⟨rfl, (by intro k h0 h1; rw [show gi w0 12 1 = x3 from c4] at h1; exact hcr2_0 k h0 (by omega))⟩)⟩ hw dX12_asideOf_41
      · have c5 : v2_2.toInt < x3.toInt := wk_leF c5
        refine lv_aload_n hx hb dX12_asideOf_12 rfl (lv_at hl 0 rfl) ?_
        refine lv_iload_n hx hb dX12_asideOf_13 rfl (lv_at hl 2 rfl) ?_
        refine lv_aload_n hx hb dX12_asideOf_14 rfl (lv_at hl 0 rfl) ?_
        refine lv_iload_n hx hb dX12_asideOf_15 rfl (lv_at hl 1 rfl) ?_
        refine lv_iconst (v := 0) hx hb dX12_asideOf_16 (by decide) ?_
        refine tk_Vi hC hK hw hT hA hE hSR kM_at0 (by decide) rfl (k_X12_walkerOf_11 l adK adV dC dI cy ad B (by omega) (by omega) qr s1    w0 H.size hT ) (cwV 2 hC.2.2.2.2 gX12_asideOf_X12_walkerOf rfl rfl rfl (by decide +kernel) ⟨Nat.le_of_ble_eq_true rfl, Nat.le_of_ble_eq_true rfl⟩) rfl hl.1 rfl (Nat.le_of_ble_eq_true rfl) dX12_asideOf_17 (fun r6 w8 H locs hp7 hw => ?_)
        obtain ⟨rfl, hg13⟩ := hp7
        obtain ⟨g10, g11, c12⟩ := hg13
        refine lv_aload_n hx hb dX12_asideOf_20 rfl (lv_at hl 0 rfl) ?_
        refine lv_iload_n hx hb dX12_asideOf_21 rfl (lv_at hl 1 rfl) ?_
        refine lv_iconst (v := 4) hx hb dX12_asideOf_22 (by decide) ?_
        refine tk_Vi hC hK hw hT hA hE hSR kM_at0 (by decide) rfl (k_X12_walkerOf_13 l adK adV dC dI cy ad B (by omega) (by omega) qr s1    w0 H.size hT ) (cwV 2 hC.2.2.2.2 gX12_asideOf_X12_walkerOf rfl rfl rfl (by decide +kernel) ⟨Nat.le_of_ble_eq_true rfl, Nat.le_of_ble_eq_true rfl⟩) rfl hl.1 rfl (Nat.le_of_ble_eq_true rfl) dX12_asideOf_23 (fun r14 w16 H locs hp15 hw => ?_)
        obtain ⟨rfl, hg21⟩ := hp15
        obtain ⟨g18, g19, c20⟩ := hg21
        refine tk_Vi hC hK hw hT hA hE hSR kM_at0 (by decide) rfl (k_X12_isOpen_2 l adK adV dC dI cy ad B (by omega) (by omega) qr s1   v2_2 (show 0 ≤ v2_2.toInt by omega) (show v2_2.toInt ≤ 11 by omega) r6 (show 0 ≤ r6.toInt by omega) (show r6.toInt ≤ 9 by omega) r14 (show 0 ≤ r14.toInt by omega) (show r14.toInt ≤ 1073741824 by omega) w0 H.size hT ) (cwV 3 hC.2.2.2.2 gX12_asideOf_X12_isOpen rfl rfl rfl (by decide +kernel) ⟨Nat.le_of_ble_eq_true rfl, Nat.le_of_ble_eq_true rfl⟩) rfl hl.1 rfl (Nat.le_of_ble_eq_true rfl) dX12_asideOf_26 (fun r22 w24 H locs hp23 hw => ?_)
        obtain ⟨rfl, hg41⟩ := hp23
        rcases hg41 with ⟨rfl, hq26⟩ | ⟨rfl, c27, c28, hq29⟩ | ⟨rfl, c30, hq31⟩ | ⟨rfl, c32, hq33⟩ | ⟨rfl, c34, c35, hq36⟩ | ⟨rfl, c37, hq38⟩ | ⟨rfl, c39, hq40⟩
        · refine lv_if_eq (tgt := 34) hx hb dX12_asideOf_29 (by decide) (fun _ => ?_) (fun c => absurd (by decide) c)
          obtain ⟨x42, ex42⟩ : ∃ y : Int32, y = v2_2 + Int32.ofInt 1 := ⟨_, rfl⟩
          refine lv_iinc (v := x42) (lv' := [(2, .int x42), (0, .ref (ad 0)), (1, .int 0)]) hx hb dX12_asideOf_34 hl (k := 2) rfl ex42.symm (by decide) rfl (fun ls hl => ?_)
          have ex42 : x42.toInt = v2_2.toInt + 1 := by rw [ex42]; exact wk_add (y := 1) (show -2147483648 ≤ v2_2.toInt + 1 by omega) (show v2_2.toInt + 1 ≤ 2147483647 by omega)
          refine lv_goto (tgt := 2) hx hb dX12_asideOf_37 (by decide) ?_
          exact ih2 x42 H locs ls  (show 0 ≤ x42.toInt by omega) (show x42.toInt ≤ 12 by omega) (show ∀ k : Int, 0 ≤ k → k < x42.toInt → ¬ mOw w0 k (0 : Int32).toInt from all_step hcr2_0 (show ¬ mOw w0 v2_2.toInt (0 : Int32).toInt by unfold mOw; simp only [(show (0 : Int32).toInt = 0 by decide), (show (9 * (0 : Int) + 216).toNat = 216 by decide), (show (9 * (0 : Int) + 220).toNat = 220 by decide), c4, c12, c20]; assumption) (by omega)) (show (12 - x42.toInt).toNat < n2 by omega) hw   (lv_sub hl [1, 2, 0] rfl)
        · refine lv_if_eq (tgt := 34) hx hb dX12_asideOf_29 (by decide) (fun _ => ?_) (fun c => absurd (by decide) c)
          obtain ⟨x43, ex43⟩ : ∃ y : Int32, y = v2_2 + Int32.ofInt 1 := ⟨_, rfl⟩
          refine lv_iinc (v := x43) (lv' := [(2, .int x43), (0, .ref (ad 0)), (1, .int 0)]) hx hb dX12_asideOf_34 hl (k := 2) rfl ex43.symm (by decide) rfl (fun ls hl => ?_)
          have ex43 : x43.toInt = v2_2.toInt + 1 := by rw [ex43]; exact wk_add (y := 1) (show -2147483648 ≤ v2_2.toInt + 1 by omega) (show v2_2.toInt + 1 ≤ 2147483647 by omega)
          refine lv_goto (tgt := 2) hx hb dX12_asideOf_37 (by decide) ?_
          exact ih2 x43 H locs ls  (show 0 ≤ x43.toInt by omega) (show x43.toInt ≤ 12 by omega) (show ∀ k : Int, 0 ≤ k → k < x43.toInt → ¬ mOw w0 k (0 : Int32).toInt from all_step hcr2_0 (show ¬ mOw w0 v2_2.toInt (0 : Int32).toInt by unfold mOw; simp only [(show (0 : Int32).toInt = 0 by decide), (show (9 * (0 : Int) + 216).toNat = 216 by decide), (show (9 * (0 : Int) + 220).toNat = 220 by decide), c4, c12, c27, c28, c20]; assumption) (by omega)) (show (12 - x43.toInt).toNat < n2 by omega) hw   (lv_sub hl [1, 2, 0] rfl)
        · refine lv_if_eq (tgt := 34) hx hb dX12_asideOf_29 (by decide) (fun _ => ?_) (fun c => absurd (by decide) c)
          obtain ⟨x44, ex44⟩ : ∃ y : Int32, y = v2_2 + Int32.ofInt 1 := ⟨_, rfl⟩
          refine lv_iinc (v := x44) (lv' := [(2, .int x44), (0, .ref (ad 0)), (1, .int 0)]) hx hb dX12_asideOf_34 hl (k := 2) rfl ex44.symm (by decide) rfl (fun ls hl => ?_)
          have ex44 : x44.toInt = v2_2.toInt + 1 := by rw [ex44]; exact wk_add (y := 1) (show -2147483648 ≤ v2_2.toInt + 1 by omega) (show v2_2.toInt + 1 ≤ 2147483647 by omega)
          refine lv_goto (tgt := 2) hx hb dX12_asideOf_37 (by decide) ?_
          exact ih2 x44 H locs ls  (show 0 ≤ x44.toInt by omega) (show x44.toInt ≤ 12 by omega) (show ∀ k : Int, 0 ≤ k → k < x44.toInt → ¬ mOw w0 k (0 : Int32).toInt from all_step hcr2_0 (show ¬ mOw w0 v2_2.toInt (0 : Int32).toInt by unfold mOw; simp only [(show (0 : Int32).toInt = 0 by decide), (show (9 * (0 : Int) + 216).toNat = 216 by decide), (show (9 * (0 : Int) + 220).toNat = 220 by decide), c4, c12, c30, c20]; assumption) (by omega)) (show (12 - x44.toInt).toNat < n2 by omega) hw   (lv_sub hl [1, 2, 0] rfl)
        · refine lv_if_eq (tgt := 34) hx hb dX12_asideOf_29 (by decide) (fun _ => ?_) (fun c => absurd (by decide) c)
          obtain ⟨x45, ex45⟩ : ∃ y : Int32, y = v2_2 + Int32.ofInt 1 := ⟨_, rfl⟩
          refine lv_iinc (v := x45) (lv' := [(2, .int x45), (0, .ref (ad 0)), (1, .int 0)]) hx hb dX12_asideOf_34 hl (k := 2) rfl ex45.symm (by decide) rfl (fun ls hl => ?_)
          have ex45 : x45.toInt = v2_2.toInt + 1 := by rw [ex45]; exact wk_add (y := 1) (show -2147483648 ≤ v2_2.toInt + 1 by omega) (show v2_2.toInt + 1 ≤ 2147483647 by omega)
          refine lv_goto (tgt := 2) hx hb dX12_asideOf_37 (by decide) ?_
          exact ih2 x45 H locs ls  (show 0 ≤ x45.toInt by omega) (show x45.toInt ≤ 12 by omega) (show ∀ k : Int, 0 ≤ k → k < x45.toInt → ¬ mOw w0 k (0 : Int32).toInt from all_step hcr2_0 (show ¬ mOw w0 v2_2.toInt (0 : Int32).toInt by unfold mOw; simp only [(show (0 : Int32).toInt = 0 by decide), (show (9 * (0 : Int) + 216).toNat = 216 by decide), (show (9 * (0 : Int) + 220).toNat = 220 by decide), c4, c12, c32, c20]; assumption) (by omega)) (show (12 - x45.toInt).toNat < n2 by omega) hw   (lv_sub hl [1, 2, 0] rfl)
        · refine lv_if_eq (tgt := 34) hx hb dX12_asideOf_29 (by decide) (fun c => absurd c (by decide)) (fun _ => ?_)
          refine lv_iload_n hx hb dX12_asideOf_32 rfl (lv_at hl 2 rfl) ?_
          exact tk_iret hC hr hlocks hK ⟨rfl, (Or.inl ⟨(show 0 ≤ v2_2.toInt by omega), (show v2_2.toInt ≤ 11 by omega), ⟨x3, c4, (show 1 ≤ x3.toInt by omega), (show x3.toInt ≤ 12 by omega)⟩, (by exact ⟨by simp only [c4, c12, c34, c35, c20]; omega, by unfold mOw; simp only [(show (0 : Int32).toInt = 0 by decide), (show (9 * (0 : Int) + 216).toNat = 216 by decide), (show (9 * (0 : Int) + 220).toNat = 220 by decide), c4, c12, c34, c35, c20]; assumption⟩)⟩)⟩ hw dX12_asideOf_33
        · refine lv_if_eq (tgt := 34) hx hb dX12_asideOf_29 (by decide) (fun c => absurd c (by decide)) (fun _ => ?_)
          refine lv_iload_n hx hb dX12_asideOf_32 rfl (lv_at hl 2 rfl) ?_
          exact tk_iret hC hr hlocks hK ⟨rfl, (Or.inl ⟨(show 0 ≤ v2_2.toInt by omega), (show v2_2.toInt ≤ 11 by omega), ⟨x3, c4, (show 1 ≤ x3.toInt by omega), (show x3.toInt ≤ 12 by omega)⟩, (by exact ⟨by simp only [c4, c12, c37, c20]; omega, by unfold mOw; simp only [(show (0 : Int32).toInt = 0 by decide), (show (9 * (0 : Int) + 216).toNat = 216 by decide), (show (9 * (0 : Int) + 220).toNat = 220 by decide), c4, c12, c37, c20]; assumption⟩)⟩)⟩ hw dX12_asideOf_33
        · refine lv_if_eq (tgt := 34) hx hb dX12_asideOf_29 (by decide) (fun c => absurd c (by decide)) (fun _ => ?_)
          refine lv_iload_n hx hb dX12_asideOf_32 rfl (lv_at hl 2 rfl) ?_
          exact tk_iret hC hr hlocks hK ⟨rfl, (Or.inl ⟨(show 0 ≤ v2_2.toInt by omega), (show v2_2.toInt ≤ 11 by omega), ⟨x3, c4, (show 1 ≤ x3.toInt by omega), (show x3.toInt ≤ 12 by omega)⟩, (by exact ⟨by simp only [c4, c12, c39, c20]; omega, by unfold mOw; simp only [(show (0 : Int32).toInt = 0 by decide), (show (9 * (0 : Int) + 216).toNat = 216 by decide), (show (9 * (0 : Int) + 220).toNat = 220 by decide), c4, c12, c39, c20]; assumption⟩)⟩)⟩ hw dX12_asideOf_33
  refine lv_iconst (v := 0) hx hb dX12_asideOf_0 (by decide) ?_
  refine lv_istore_n (lv' := [(2, .int 0), (0, .ref (ad 0)), (1, .int 0)]) hx hb dX12_asideOf_1 rfl hl (by decide) rfl (fun ls hl => ?_)
  exact L2 ((12 - (0 : Int)).toNat + 1) 0 s.heap locs ls  (by decide) (by decide) (show ∀ k : Int, 0 ≤ k → k < (0 : Int) → ¬ mOw w0 k (0 : Int32).toInt from all_none) (Nat.lt_succ_self _) hw   (lv_sub hl [1, 2, 0] rfl)
abbrev P_X12_canGo_2 (ad : Nat → Nat) (cy : Nat → ClassId) (B : Int) (qr : Nat) (s1 : Int)  (w0 : va_W) : Int32 → va_W → Prop := fun r u => w0 = u ∧ ((r = 0) ∨ (r = 1 ∧ (∃ y : Int32, gi u 0 31 = y ∧ 0 ≤ y.toInt ∧ y.toInt ≤ 11)))
set_option maxHeartbeats 4000000 in
set_option maxRecDepth 100000 in
theorem k_X12_canGo_2 (l : Launch) (adK adV : Nat → Nat) (dC : Nat → ClassId) (dI : Nat → Nat → Nat) (cy : Nat → ClassId) (ad : Nat → Nat) (B : Int) (hB0 : 100000 ≤ B) (hB1 : B ≤ 1073741824) (qr : Nat) (s1 : Int)   (w0 : va_W) (sz : Nat) (hT : TW ksM ad cy B qr 12 w0)  : Met l yX12_canGo wsX12_canGo ({ frames := 5, cells := 0, slots := 0, locals := 103 }) (va_Pc [.ref (ad 0), .int 0] (wpreS adK adV dC dI cy sz w0)) (va_Qi (P_X12_canGo_2 ad cy B qr s1  w0) (fun u : va_W => wpost dC dI cy (va_A w0 sz) u) (va_A w0 sz)) 0 0 (va_A w0 sz) := by
  refine Met.ofW (cc := cX12_canGo) (maxL := 2) (ret := (some .boolean)) (by decide) rfl ?_
  intro p e s m args below meth c s₁ Bk hml hv
  obtain ⟨rfl, ⟨hsz, hP, hK, hD0⟩, hE, hSR⟩ := hv
  have hx := Bk.exec
  have hb := Bk.bytes
  have hr := Bk.returns
  have hlocks := Bk.notSynchronized
  have hC : CallFix p m c cX12_canGo 2 s _ wsX12_canGo RX12 := ⟨hx, hb, hml, findClass_of_methodNamed Bk.named, atoms_spec (ws := wsX12_canGo) Bk.pre⟩
  subst hsz
  have hD := hD0.self (sz := s.heap.size)
  generalize hAe : va_A w0 s.heap.size = A at hD hE ⊢
  have hA : ∀ q : Nat, s.heap.size ≤ q → A q := fun q h => by rw [← hAe]; exact Or.inr h
  have hw : Wd dC dI A s.heap s.heap [] w0 := ⟨hP, hD, va_S.rf⟩
  have hF : FE ksM ([] : List (Nat × Nat × Nat)) w0 w0 := FE.rf
  have hl := lv_entry ([.ref (ad 0), .int 0]) (n := 2) (Nat.le_of_ble_eq_true rfl)
  rw [lg_entry_eq]
  generalize (lg_sl ([.ref (ad 0), .int 0]) ++ List.replicate (2 - (lg_sl ([.ref (ad 0), .int 0])).length) Slot.unset).toArray = ls at hl ⊢
  have hl : lv_has ls 2 [(0, .ref (ad 0)), (1, .int 0)] := hl
  generalize hloc : ([] : List Loc) = locs at hw ⊢
  have hinX12 : ∀ w ∈ u_ws RX12 TX12 42, w ∈ wsX12_canGo := fun _ h => List.mem_cons_of_mem _ (List.mem_append_right _ (h))
  have J34 : ∀ (f34_0_31 : Int32) (H : Heap) (locs : List Loc) (ls : Array Slot), (-1) ≤ f34_0_31.toInt → f34_0_31.toInt ≤ 11 → Wd dC dI A s.heap H locs w0 → gi w0 0 31 = f34_0_31 → lv_has ls 2 [(0, .ref (ad 0)), (1, .int 0)] → W p l e ({ frames := 5, cells := 0, slots := 0, locals := 103 }) s m (List.toArray [.ref (ad 0), .int 0]) below meth c H locs 0 0 (MQ below (va_Qi (P_X12_canGo_2 ad cy B qr s1  w0) (fun u : va_W => wpost dC dI cy A u) A) (List.toArray [.ref (ad 0), .int 0]) s 0 0 A) (F0 m 34 ls []) := by
    intro f34_0_31 H locs ls r1 t2 hw c3 hl
    refine lv_iconst (v := 0) hx hb dX12_canGo_34 (by decide) ?_
    exact tk_zret hC hr rfl hlocks hK ⟨rfl, (Or.inl rfl)⟩ hw dX12_canGo_35
  refine lv_aload_n hx hb dX12_canGo_0 rfl (lv_at hl 0 rfl) ?_
  refine tk_geti hC hK hw hT hinX12 kM_at0 (by decide) rfl 31 (by decide) (List.mem_of_getElem? (i := 1) rfl) rfl rfl dX12_canGo_1 (fun x4 c5 rx4 tx4 => ?_)
  refine lv_if_lt (tgt := 34) hx hb dX12_canGo_4 (by decide) (fun c6 => ?_) (fun c6 => ?_)
  · have c6 : x4.toInt < (0 : Int) := wk_lt.mp c6
    exact J34 x4 s.heap locs ls  (show (-1) ≤ x4.toInt by omega) (show x4.toInt ≤ 11 by omega)  hw  c5 (lv_sub hl [0, 1] rfl)
  · have c6 : (0 : Int) ≤ x4.toInt := wk_ltF c6
    refine lv_aload_n hx hb dX12_canGo_7 rfl (lv_at hl 0 rfl) ?_
    refine lv_aload_n hx hb dX12_canGo_8 rfl (lv_at hl 0 rfl) ?_
    refine tk_geti hC hK hw hT hinX12 kM_at0 (by decide) rfl 31 (by decide) (List.mem_of_getElem? (i := 1) rfl) rfl rfl dX12_canGo_9 (fun x7 c8 rx7 tx7 => ?_)
    refine wk_top x4 (c8.symm.trans c5) ?_
    refine lv_aload_n hx hb dX12_canGo_12 rfl (lv_at hl 0 rfl) ?_
    refine lv_iload_n hx hb dX12_canGo_13 rfl (lv_at hl 1 rfl) ?_
    refine lv_iconst (v := 0) hx hb dX12_canGo_14 (by decide) ?_
    refine tk_Vi hC hK hw hT hA hE hSR kM_at0 (by decide) rfl (k_X12_walkerOf_11 l adK adV dC dI cy ad B (by omega) (by omega) qr s1    w0 s.heap.size hT ) (cwV 2 hC.2.2.2.2 gX12_canGo_X12_walkerOf rfl rfl rfl (by decide +kernel) ⟨Nat.le_of_ble_eq_true rfl, Nat.le_of_ble_eq_true rfl⟩) rfl hl.1 rfl (Nat.le_of_ble_eq_true rfl) dX12_canGo_15 (fun r9 w11 H locs hp10 hw => ?_)
    obtain ⟨rfl, hg16⟩ := hp10
    obtain ⟨g13, g14, c15⟩ := hg16
    refine lv_aload_n hx hb dX12_canGo_18 rfl (lv_at hl 0 rfl) ?_
    refine lv_iload_n hx hb dX12_canGo_19 rfl (lv_at hl 1 rfl) ?_
    refine lv_iconst (v := 4) hx hb dX12_canGo_20 (by decide) ?_
    refine tk_Vi hC hK hw hT hA hE hSR kM_at0 (by decide) rfl (k_X12_walkerOf_13 l adK adV dC dI cy ad B (by omega) (by omega) qr s1    w0 H.size hT ) (cwV 2 hC.2.2.2.2 gX12_canGo_X12_walkerOf rfl rfl rfl (by decide +kernel) ⟨Nat.le_of_ble_eq_true rfl, Nat.le_of_ble_eq_true rfl⟩) rfl hl.1 rfl (Nat.le_of_ble_eq_true rfl) dX12_canGo_21 (fun r17 w19 H locs hp18 hw => ?_)
    obtain ⟨rfl, hg24⟩ := hp18
    obtain ⟨g21, g22, c23⟩ := hg24
    refine tk_Vi hC hK hw hT hA hE hSR kM_at0 (by decide) rfl (k_X12_isOpen_2 l adK adV dC dI cy ad B (by omega) (by omega) qr s1   x4 (show 0 ≤ x4.toInt by omega) (show x4.toInt ≤ 11 by omega) r9 (show 0 ≤ r9.toInt by omega) (show r9.toInt ≤ 9 by omega) r17 (show 0 ≤ r17.toInt by omega) (show r17.toInt ≤ 1073741824 by omega) w0 H.size hT ) (cwV 3 hC.2.2.2.2 gX12_canGo_X12_isOpen rfl rfl rfl (by decide +kernel) ⟨Nat.le_of_ble_eq_true rfl, Nat.le_of_ble_eq_true rfl⟩) rfl hl.1 rfl (Nat.le_of_ble_eq_true rfl) dX12_canGo_24 (fun r25 w27 H locs hp26 hw => ?_)
    obtain ⟨rfl, hg44⟩ := hp26
    rcases hg44 with ⟨rfl, hq29⟩ | ⟨rfl, c30, c31, hq32⟩ | ⟨rfl, c33, hq34⟩ | ⟨rfl, c35, hq36⟩ | ⟨rfl, c37, c38, hq39⟩ | ⟨rfl, c40, hq41⟩ | ⟨rfl, c42, hq43⟩
    · refine lv_if_eq (tgt := 34) hx hb dX12_canGo_27 (by decide) (fun _ => ?_) (fun c => absurd (by decide) c)
      exact J34 x4 H locs ls  (show (-1) ≤ x4.toInt by omega) (show x4.toInt ≤ 11 by omega)  hw  c5 (lv_sub hl [0, 1] rfl)
    · refine lv_if_eq (tgt := 34) hx hb dX12_canGo_27 (by decide) (fun _ => ?_) (fun c => absurd (by decide) c)
      exact J34 x4 H locs ls  (show (-1) ≤ x4.toInt by omega) (show x4.toInt ≤ 11 by omega)  hw  c5 (lv_sub hl [0, 1] rfl)
    · refine lv_if_eq (tgt := 34) hx hb dX12_canGo_27 (by decide) (fun _ => ?_) (fun c => absurd (by decide) c)
      exact J34 x4 H locs ls  (show (-1) ≤ x4.toInt by omega) (show x4.toInt ≤ 11 by omega)  hw  c5 (lv_sub hl [0, 1] rfl)
    · refine lv_if_eq (tgt := 34) hx hb dX12_canGo_27 (by decide) (fun _ => ?_) (fun c => absurd (by decide) c)
      exact J34 x4 H locs ls  (show (-1) ≤ x4.toInt by omega) (show x4.toInt ≤ 11 by omega)  hw  c5 (lv_sub hl [0, 1] rfl)
    · refine lv_if_eq (tgt := 34) hx hb dX12_canGo_27 (by decide) (fun c => absurd c (by decide)) (fun _ => ?_)
      refine lv_iconst (v := 1) hx hb dX12_canGo_30 (by decide) ?_
      refine lv_goto (tgt := 35) hx hb dX12_canGo_31 (by decide) ?_
      exact tk_zret hC hr rfl hlocks hK ⟨rfl, (Or.inr ⟨rfl, ⟨x4, c5, (show 0 ≤ x4.toInt by omega), (show x4.toInt ≤ 11 by omega)⟩⟩)⟩ hw dX12_canGo_35
    · refine lv_if_eq (tgt := 34) hx hb dX12_canGo_27 (by decide) (fun c => absurd c (by decide)) (fun _ => ?_)
      refine lv_iconst (v := 1) hx hb dX12_canGo_30 (by decide) ?_
      refine lv_goto (tgt := 35) hx hb dX12_canGo_31 (by decide) ?_
      exact tk_zret hC hr rfl hlocks hK ⟨rfl, (Or.inr ⟨rfl, ⟨x4, c5, (show 0 ≤ x4.toInt by omega), (show x4.toInt ≤ 11 by omega)⟩⟩)⟩ hw dX12_canGo_35
    · refine lv_if_eq (tgt := 34) hx hb dX12_canGo_27 (by decide) (fun c => absurd c (by decide)) (fun _ => ?_)
      refine lv_iconst (v := 1) hx hb dX12_canGo_30 (by decide) ?_
      refine lv_goto (tgt := 35) hx hb dX12_canGo_31 (by decide) ?_
      exact tk_zret hC hr rfl hlocks hK ⟨rfl, (Or.inr ⟨rfl, ⟨x4, c5, (show 0 ≤ x4.toInt by omega), (show x4.toInt ≤ 11 by omega)⟩⟩)⟩ hw dX12_canGo_35
abbrev P_X12_walkerOf_14 (ad : Nat → Nat) (cy : Nat → ClassId) (B : Int) (qr : Nat) (s1 : Int)  (w0 : va_W) : Int32 → va_W → Prop := fun r u => w0 = u ∧ ((gi u 12 224 = r))
set_option maxHeartbeats 4000000 in
set_option maxRecDepth 100000 in
theorem k_X12_walkerOf_14 (l : Launch) (adK adV : Nat → Nat) (dC : Nat → ClassId) (dI : Nat → Nat → Nat) (cy : Nat → ClassId) (ad : Nat → Nat) (B : Int) (hB0 : 100000 ≤ B) (hB1 : B ≤ 1073741824) (qr : Nat) (s1 : Int)   (w0 : va_W) (sz : Nat) (hT : TW ksM ad cy B qr 12 w0)  : Met l yX12_walkerOf wsX12_walkerOf ({ frames := 1, cells := 0, slots := 0, locals := 12 }) (va_Pc [.ref (ad 0), .int 0, .int 8] (wpreS adK adV dC dI cy sz w0)) (va_Qi (P_X12_walkerOf_14 ad cy B qr s1  w0) (fun u : va_W => wpost dC dI cy (va_A w0 sz) u) (va_A w0 sz)) 0 0 (va_A w0 sz) := by
  refine Met.ofW (cc := cX12_walkerOf) (maxL := 3) (ret := (some .int)) (by decide) rfl ?_
  intro p e s m args below meth c s₁ Bk hml hv
  obtain ⟨rfl, ⟨hsz, hP, hK, hD0⟩, hE, hSR⟩ := hv
  have hx := Bk.exec
  have hb := Bk.bytes
  have hr := Bk.returns
  have hlocks := Bk.notSynchronized
  have hC : CallFix p m c cX12_walkerOf 3 s _ wsX12_walkerOf RX12 := ⟨hx, hb, hml, findClass_of_methodNamed Bk.named, atoms_spec (ws := wsX12_walkerOf) Bk.pre⟩
  subst hsz
  have hD := hD0.self (sz := s.heap.size)
  generalize hAe : va_A w0 s.heap.size = A at hD hE ⊢
  have hA : ∀ q : Nat, s.heap.size ≤ q → A q := fun q h => by rw [← hAe]; exact Or.inr h
  have hw : Wd dC dI A s.heap s.heap [] w0 := ⟨hP, hD, va_S.rf⟩
  have hF : FE ksM ([] : List (Nat × Nat × Nat)) w0 w0 := FE.rf
  have hl := lv_entry ([.ref (ad 0), .int 0, .int 8]) (n := 3) (Nat.le_of_ble_eq_true rfl)
  rw [lg_entry_eq]
  generalize (lg_sl ([.ref (ad 0), .int 0, .int 8]) ++ List.replicate (3 - (lg_sl ([.ref (ad 0), .int 0, .int 8])).length) Slot.unset).toArray = ls at hl ⊢
  have hl : lv_has ls 3 [(0, .ref (ad 0)), (1, .int 0), (2, .int 8)] := hl
  generalize hloc : ([] : List Loc) = locs at hw ⊢
  have hinX12 : ∀ w ∈ u_ws RX12 TX12 42, w ∈ wsX12_walkerOf := fun _ h => List.mem_cons_of_mem _ (List.mem_append_right _ (h))
  refine lv_aload_n hx hb dX12_walkerOf_0 rfl (lv_at hl 0 rfl) ?_
  refine tk_getA hC hK hw hT hinX12 kM_at0 (by decide) rfl 26 (by decide) (List.mem_of_getElem? (i := 1) rfl) rfl rfl dX12_walkerOf_1 ?_
  refine lv_sipush (v := 216) hx hb dX12_walkerOf_4 (by decide) ?_
  refine lv_bipush (v := 9) hx hb dX12_walkerOf_7 (by decide) ?_
  refine lv_iload_n hx hb dX12_walkerOf_9 rfl (lv_at hl 1 rfl) ?_
  refine lv_imul hx hb dX12_walkerOf_10 ?_
  refine wk_top 0 (by decide) ?_
  refine lv_iadd hx hb dX12_walkerOf_11 ?_
  refine wk_top 216 (by decide) ?_
  refine lv_iload_n hx hb dX12_walkerOf_12 rfl (lv_at hl 2 rfl) ?_
  refine lv_iadd hx hb dX12_walkerOf_13 ?_
  refine wk_top 224 (by decide) ?_
  refine tk_ialdR hC hK hw hT kM_at12 rfl (by decide) (by decide) dX12_walkerOf_14 (fun x1 c2 Ex1 => ?_)
  have c2 : gi w0 12 224 = x1 := c2
  exact tk_iret hC hr hlocks hK ⟨rfl, c2⟩ hw dX12_walkerOf_15
abbrev P_X12_askedToday_2 (ad : Nat → Nat) (cy : Nat → ClassId) (B : Int) (qr : Nat) (s1 : Int)  (w0 : va_W) : Int32 → va_W → Prop := fun r u => w0 = u ∧ ((r = 0) ∨ (r = 1 ∧ (∃ y : Int32, gi u 12 224 = y ∧ 0 ≤ y.toInt ∧ y.toInt ≤ 44739242)))
set_option maxHeartbeats 4000000 in
set_option maxRecDepth 100000 in
theorem k_X12_askedToday_2 (l : Launch) (adK adV : Nat → Nat) (dC : Nat → ClassId) (dI : Nat → Nat → Nat) (cy : Nat → ClassId) (ad : Nat → Nat) (B : Int) (hB0 : 100000 ≤ B) (hB1 : B ≤ 1073741824) (qr : Nat) (s1 : Int)   (w0 : va_W) (sz : Nat) (hT : TW ksM ad cy B qr 12 w0)  : Met l yX12_askedToday wsX12_askedToday ({ frames := 2, cells := 0, slots := 0, locals := 34 }) (va_Pc [.ref (ad 0), .int 0] (wpreS adK adV dC dI cy sz w0)) (va_Qi (P_X12_askedToday_2 ad cy B qr s1  w0) (fun u : va_W => wpost dC dI cy (va_A w0 sz) u) (va_A w0 sz)) 0 0 (va_A w0 sz) := by
  refine Met.ofW (cc := cX12_askedToday) (maxL := 2) (ret := (some .boolean)) (by decide) rfl ?_
  intro p e s m args below meth c s₁ Bk hml hv
  obtain ⟨rfl, ⟨hsz, hP, hK, hD0⟩, hE, hSR⟩ := hv
  have hx := Bk.exec
  have hb := Bk.bytes
  have hr := Bk.returns
  have hlocks := Bk.notSynchronized
  have hC : CallFix p m c cX12_askedToday 2 s _ wsX12_askedToday RX12 := ⟨hx, hb, hml, findClass_of_methodNamed Bk.named, atoms_spec (ws := wsX12_askedToday) Bk.pre⟩
  subst hsz
  have hD := hD0.self (sz := s.heap.size)
  generalize hAe : va_A w0 s.heap.size = A at hD hE ⊢
  have hA : ∀ q : Nat, s.heap.size ≤ q → A q := fun q h => by rw [← hAe]; exact Or.inr h
  have hw : Wd dC dI A s.heap s.heap [] w0 := ⟨hP, hD, va_S.rf⟩
  have hF : FE ksM ([] : List (Nat × Nat × Nat)) w0 w0 := FE.rf
  have hl := lv_entry ([.ref (ad 0), .int 0]) (n := 2) (Nat.le_of_ble_eq_true rfl)
  rw [lg_entry_eq]
  generalize (lg_sl ([.ref (ad 0), .int 0]) ++ List.replicate (2 - (lg_sl ([.ref (ad 0), .int 0])).length) Slot.unset).toArray = ls at hl ⊢
  have hl : lv_has ls 2 [(0, .ref (ad 0)), (1, .int 0)] := hl
  generalize hloc : ([] : List Loc) = locs at hw ⊢
  refine lv_aload_n hx hb dX12_askedToday_0 rfl (lv_at hl 0 rfl) ?_
  refine lv_iload_n hx hb dX12_askedToday_1 rfl (lv_at hl 1 rfl) ?_
  refine lv_bipush (v := 8) hx hb dX12_askedToday_2 (by decide) ?_
  refine tk_Vi hC hK hw hT hA hE hSR kM_at0 (by decide) rfl (k_X12_walkerOf_14 l adK adV dC dI cy ad B (by omega) (by omega) qr s1    w0 s.heap.size hT ) (cwV 2 hC.2.2.2.2 gX12_askedToday_X12_walkerOf rfl rfl rfl (by decide +kernel) ⟨Nat.le_of_ble_eq_true rfl, Nat.le_of_ble_eq_true rfl⟩) rfl hl.1 rfl (Nat.le_of_ble_eq_true rfl) dX12_askedToday_4 (fun r1 w3 H locs hp2 hw => ?_)
  obtain ⟨rfl, hg6⟩ := hp2
  have c5 := hg6
  refine lv_aload_n hx hb dX12_askedToday_7 rfl (lv_at hl 0 rfl) ?_
  refine lv_iload_n hx hb dX12_askedToday_8 rfl (lv_at hl 1 rfl) ?_
  refine lv_iconst (v := 4) hx hb dX12_askedToday_9 (by decide) ?_
  refine tk_Vi hC hK hw hT hA hE hSR kM_at0 (by decide) rfl (k_X12_walkerOf_13 l adK adV dC dI cy ad B (by omega) (by omega) qr s1    w0 H.size hT ) (cwV 2 hC.2.2.2.2 gX12_askedToday_X12_walkerOf rfl rfl rfl (by decide +kernel) ⟨Nat.le_of_ble_eq_true rfl, Nat.le_of_ble_eq_true rfl⟩) rfl hl.1 rfl (Nat.le_of_ble_eq_true rfl) dX12_askedToday_10 (fun r7 w9 H locs hp8 hw => ?_)
  obtain ⟨rfl, hg14⟩ := hp8
  obtain ⟨g11, g12, c13⟩ := hg14
  refine lv_bipush (v := 24) hx hb dX12_askedToday_13 (by decide) ?_
  refine lv_idiv hx hb dX12_askedToday_15 (by decide) ?_
  refine lv_topi (fun x15 ex15 => ?_)
  have ex15 : x15.toInt = r7.toInt / (24 : Int) := by rw [ex15]; exact wk_div (show 0 ≤ r7.toInt by omega) (show 0 < (24 : Int) by decide)
  refine lv_icmp_ne (tgt := 23) hx hb dX12_askedToday_16 (by decide) (fun c16 => ?_) (fun c16 => ?_)
  · have c16 : ¬ r1.toInt = x15.toInt := wk_eqF c16
    refine lv_iconst (v := 0) hx hb dX12_askedToday_23 (by decide) ?_
    exact tk_zret hC hr rfl hlocks hK ⟨rfl, (Or.inl rfl)⟩ hw dX12_askedToday_24
  · have c16 : r1.toInt = x15.toInt := wk_eq.mp c16
    refine lv_iconst (v := 1) hx hb dX12_askedToday_19 (by decide) ?_
    refine lv_goto (tgt := 24) hx hb dX12_askedToday_20 (by decide) ?_
    exact tk_zret hC hr rfl hlocks hK ⟨rfl, (Or.inr ⟨rfl, ⟨r1, c5, (show 0 ≤ r1.toInt by omega), (show r1.toInt ≤ 44739242 by omega)⟩⟩)⟩ hw dX12_askedToday_24
abbrev P_X12_mayDo_2 (ad : Nat → Nat) (cy : Nat → ClassId) (B : Int) (qr : Nat) (s1 : Int) (a2 : Int32) (w0 : va_W) : Int32 → va_W → Prop := fun r u => w0 = u ∧ ((r = 0) ∨ (r = 0 ∧ 0 ≤ a2.toInt ∧ a2.toInt ≤ 0) ∨ (r = 0 ∧ 1 ≤ a2.toInt ∧ a2.toInt ≤ 1) ∨ (r = 1 ∧ a2.toInt ≤ (-1)) ∨ (r = 1 ∧ 0 ≤ a2.toInt ∧ a2.toInt ≤ 0 ∧ (∃ y : Int32, gi u 0 31 = y ∧ 0 ≤ y.toInt ∧ y.toInt ≤ 11)) ∨ (r = 1 ∧ 1 ≤ a2.toInt ∧ a2.toInt ≤ 1 ∧ (∃ y : Int32, gi u 12 1 = y ∧ 1 ≤ y.toInt ∧ y.toInt ≤ 12) ∧ (mAS u (0 : Int32).toInt)) ∨ (r = 1 ∧ 2 ≤ a2.toInt ∧ a2.toInt ≤ 2 ∧ (∃ y : Int32, gi u 0 30 = y ∧ 0 ≤ y.toInt ∧ y.toInt ≤ 0)) ∨ (r = 1 ∧ 3 ≤ a2.toInt))
set_option maxHeartbeats 4000000 in
set_option maxRecDepth 100000 in
theorem k_X12_mayDo_2 (l : Launch) (adK adV : Nat → Nat) (dC : Nat → ClassId) (dI : Nat → Nat → Nat) (cy : Nat → ClassId) (ad : Nat → Nat) (B : Int) (hB0 : 100000 ≤ B) (hB1 : B ≤ 1073741824) (qr : Nat) (s1 : Int)  (a2 : Int32) (w0 : va_W) (sz : Nat) (hT : TW ksM ad cy B qr 12 w0)  : Met l yX12_mayDo wsX12_mayDo ({ frames := 6, cells := 0, slots := 0, locals := 125 }) (va_Pc [.ref (ad 0), .int 0, .int a2] (wpreS adK adV dC dI cy sz w0)) (va_Qi (P_X12_mayDo_2 ad cy B qr s1 a2 w0) (fun u : va_W => wpost dC dI cy (va_A w0 sz) u) (va_A w0 sz)) 0 0 (va_A w0 sz) := by
  refine Met.ofW (cc := cX12_mayDo) (maxL := 3) (ret := (some .boolean)) (by decide) rfl ?_
  intro p e s m args below meth c s₁ Bk hml hv
  obtain ⟨rfl, ⟨hsz, hP, hK, hD0⟩, hE, hSR⟩ := hv
  have hx := Bk.exec
  have hb := Bk.bytes
  have hr := Bk.returns
  have hlocks := Bk.notSynchronized
  have hC : CallFix p m c cX12_mayDo 3 s _ wsX12_mayDo RX12 := ⟨hx, hb, hml, findClass_of_methodNamed Bk.named, atoms_spec (ws := wsX12_mayDo) Bk.pre⟩
  subst hsz
  have hD := hD0.self (sz := s.heap.size)
  generalize hAe : va_A w0 s.heap.size = A at hD hE ⊢
  have hA : ∀ q : Nat, s.heap.size ≤ q → A q := fun q h => by rw [← hAe]; exact Or.inr h
  have hw : Wd dC dI A s.heap s.heap [] w0 := ⟨hP, hD, va_S.rf⟩
  have hF : FE ksM ([] : List (Nat × Nat × Nat)) w0 w0 := FE.rf
  have hl := lv_entry ([.ref (ad 0), .int 0, .int a2]) (n := 3) (Nat.le_of_ble_eq_true rfl)
  rw [lg_entry_eq]
  generalize (lg_sl ([.ref (ad 0), .int 0, .int a2]) ++ List.replicate (3 - (lg_sl ([.ref (ad 0), .int 0, .int a2])).length) Slot.unset).toArray = ls at hl ⊢
  have hl : lv_has ls 3 [(0, .ref (ad 0)), (1, .int 0), (2, .int a2)] := hl
  generalize hloc : ([] : List Loc) = locs at hw ⊢
  have hinX12 : ∀ w ∈ u_ws RX12 TX12 42, w ∈ wsX12_mayDo := fun _ h => List.mem_cons_of_mem _ (List.mem_append_right _ (h))
  have J67 : ∀ (f67_0_30 : Int32) (H : Heap) (locs : List Loc) (ls : Array Slot), 0 ≤ f67_0_30.toInt → f67_0_30.toInt ≤ 1 → Wd dC dI A s.heap H locs w0 → gi w0 0 30 = f67_0_30 → lv_has ls 3 [(0, .ref (ad 0)), (1, .int 0), (2, .int 2)] → W p l e ({ frames := 6, cells := 0, slots := 0, locals := 125 }) s m (List.toArray [.ref (ad 0), .int 0, .int a2]) below meth c H locs 0 0 (MQ below (va_Qi (P_X12_mayDo_2 ad cy B qr s1 a2 w0) (fun u : va_W => wpost dC dI cy A u) A) (List.toArray [.ref (ad 0), .int 0, .int a2]) s 0 0 A) (F0 m 67 ls []) := by
    intro f67_0_30 H locs ls r1 t2 hw c3 hl
    refine lv_iconst (v := 0) hx hb dX12_mayDo_67 (by decide) ?_
    exact tk_zret hC hr rfl hlocks hK ⟨rfl, (Or.inl rfl)⟩ hw dX12_mayDo_68
  refine lv_iload_n hx hb dX12_mayDo_0 rfl (lv_at hl 2 rfl) ?_
  rcases (show a2.toInt = 0 ∨ a2.toInt = 1 ∨ a2.toInt = 2 ∨ a2.toInt < 0 ∨ 2 < a2.toInt by omega) with c4 | c4 | c4 | c4 | c4
  · refine lv_tableIn (off := 27) (tgt := 28) hx hb dX12_mayDo_1 (by omega) (by omega) (by rw [c4]; rfl) (by decide) ?_
    refine lv_aload_n hx hb dX12_mayDo_28 rfl (lv_at hl 0 rfl) ?_
    refine lv_iload_n hx hb dX12_mayDo_29 rfl (lv_at hl 1 rfl) ?_
    refine tk_Vi hC hK hw hT hA hE hSR kM_at0 (by decide) rfl (k_X12_canGo_2 l adK adV dC dI cy ad B (by omega) (by omega) qr s1    w0 s.heap.size hT ) (cwV 1 hC.2.2.2.2 gX12_mayDo_X12_canGo rfl rfl rfl (by decide +kernel) ⟨Nat.le_of_ble_eq_true rfl, Nat.le_of_ble_eq_true rfl⟩) rfl hl.1 rfl (Nat.le_of_ble_eq_true rfl) dX12_mayDo_30 (fun r5 w7 H locs hp6 hw => ?_)
    obtain ⟨rfl, hg11⟩ := hp6
    rcases hg11 with rfl | ⟨rfl, ⟨x9, c10, rx9, tx9⟩⟩
    · exact tk_zret hC hr rfl hlocks hK ⟨rfl, (Or.inr (Or.inl ⟨rfl, (show 0 ≤ a2.toInt by omega), (show a2.toInt ≤ 0 by omega)⟩))⟩ hw dX12_mayDo_33
    · exact tk_zret hC hr rfl hlocks hK ⟨rfl, (Or.inr (Or.inr (Or.inr (Or.inr (Or.inl ⟨rfl, (show 0 ≤ a2.toInt by omega), (show a2.toInt ≤ 0 by omega), ⟨x9, c10, (show 0 ≤ x9.toInt by omega), (show x9.toInt ≤ 11 by omega)⟩⟩)))))⟩ hw dX12_mayDo_33
  · refine lv_tableIn (off := 33) (tgt := 34) hx hb dX12_mayDo_1 (by omega) (by omega) (by rw [c4]; rfl) (by decide) ?_
    refine lv_aload_n hx hb dX12_mayDo_34 rfl (lv_at hl 0 rfl) ?_
    refine lv_iload_n hx hb dX12_mayDo_35 rfl (lv_at hl 1 rfl) ?_
    refine tk_Vi hC hK hw hT hA hE hSR kM_at0 (by decide) rfl (k_X12_asideOf_2 l adK adV dC dI cy ad B (by omega) (by omega) qr s1    w0 s.heap.size hT ) (cwV 1 hC.2.2.2.2 gX12_mayDo_X12_asideOf rfl rfl rfl (by decide +kernel) ⟨Nat.le_of_ble_eq_true rfl, Nat.le_of_ble_eq_true rfl⟩) rfl hl.1 rfl (Nat.le_of_ble_eq_true rfl) dX12_mayDo_36 (fun r12 w14 H locs hp13 hw => ?_)
    obtain ⟨rfl, hg22⟩ := hp13
    rcases hg22 with ⟨g16, g17, ⟨x18, c19, rx18, tx18⟩, hq20⟩ | ⟨rfl, hq21⟩
    · refine lv_if_lt (tgt := 46) hx hb dX12_mayDo_39 (by decide) (fun c => absurd c (fun h => absurd (show r12.toInt < (0 : Int) from wk_lt.mp h) (by omega))) (fun _ => ?_)
      refine lv_iconst (v := 1) hx hb dX12_mayDo_42 (by decide) ?_
      refine lv_goto (tgt := 47) hx hb dX12_mayDo_43 (by decide) ?_
      exact tk_zret hC hr rfl hlocks hK ⟨rfl, (Or.inr (Or.inr (Or.inr (Or.inr (Or.inr (Or.inl ⟨rfl, (show 1 ≤ a2.toInt by omega), (show a2.toInt ≤ 1 by omega), ⟨x18, c19, (show 1 ≤ x18.toInt by omega), (show x18.toInt ≤ 12 by omega)⟩, (by exact ⟨_, by omega, hq20.1, hq20.2⟩)⟩))))))⟩ hw dX12_mayDo_47
    · refine lv_if_lt (tgt := 46) hx hb dX12_mayDo_39 (by decide) (fun _ => ?_) (fun c => absurd (by decide) c)
      refine lv_iconst (v := 0) hx hb dX12_mayDo_46 (by decide) ?_
      exact tk_zret hC hr rfl hlocks hK ⟨rfl, (Or.inr (Or.inr (Or.inl ⟨rfl, (show 1 ≤ a2.toInt by omega), (show a2.toInt ≤ 1 by omega)⟩)))⟩ hw dX12_mayDo_47
  · refine lv_tableIn (off := 47) (tgt := 48) hx hb dX12_mayDo_1 (by omega) (by omega) (by rw [c4]; rfl) (by decide) ?_
    refine lv_aload_n hx hb dX12_mayDo_48 rfl (lv_at hl 0 rfl) ?_
    refine tk_geti hC hK hw hT hinX12 kM_at0 (by decide) rfl 30 (by decide) (List.mem_of_getElem? (i := 1) rfl) rfl rfl dX12_mayDo_49 (fun x23 c24 rx23 tx23 => ?_)
    refine lv_if_ne (tgt := 67) hx hb dX12_mayDo_52 (by decide) (fun c25 => ?_) (fun c25 => ?_)
    · have c25 : ¬ x23.toInt = (0 : Int) := wk_eqF c25
      obtain rfl : a2 = 2 := wk_eq.mpr (show a2.toInt = 2 by omega)
      exact J67 x23 s.heap locs ls  (show 0 ≤ x23.toInt by omega) (show x23.toInt ≤ 1 by omega)  hw  c24 (lv_sub hl [0, 1, 2] rfl)
    · have c25 : x23.toInt = (0 : Int) := wk_eq.mp c25
      refine lv_aload_n hx hb dX12_mayDo_55 rfl (lv_at hl 0 rfl) ?_
      refine lv_iload_n hx hb dX12_mayDo_56 rfl (lv_at hl 1 rfl) ?_
      refine tk_Vi hC hK hw hT hA hE hSR kM_at0 (by decide) rfl (k_X12_askedToday_2 l adK adV dC dI cy ad B (by omega) (by omega) qr s1    w0 s.heap.size hT ) (cwV 1 hC.2.2.2.2 gX12_mayDo_X12_askedToday rfl rfl rfl (by decide +kernel) ⟨Nat.le_of_ble_eq_true rfl, Nat.le_of_ble_eq_true rfl⟩) rfl hl.1 rfl (Nat.le_of_ble_eq_true rfl) dX12_mayDo_57 (fun r26 w28 H locs hp27 hw => ?_)
      obtain ⟨rfl, hg32⟩ := hp27
      rcases hg32 with rfl | ⟨rfl, ⟨x30, c31, rx30, tx30⟩⟩
      · refine lv_if_ne (tgt := 67) hx hb dX12_mayDo_60 (by decide) (fun c => absurd (by decide) c) (fun _ => ?_)
        refine lv_iconst (v := 1) hx hb dX12_mayDo_63 (by decide) ?_
        refine lv_goto (tgt := 68) hx hb dX12_mayDo_64 (by decide) ?_
        exact tk_zret hC hr rfl hlocks hK ⟨rfl, (Or.inr (Or.inr (Or.inr (Or.inr (Or.inr (Or.inr (Or.inl ⟨rfl, (show 2 ≤ a2.toInt by omega), (show a2.toInt ≤ 2 by omega), ⟨x23, c24, (show 0 ≤ x23.toInt by omega), (show x23.toInt ≤ 0 by omega)⟩⟩)))))))⟩ hw dX12_mayDo_68
      · refine lv_if_ne (tgt := 67) hx hb dX12_mayDo_60 (by decide) (fun _ => ?_) (fun c => absurd c (by decide))
        obtain rfl : a2 = 2 := wk_eq.mpr (show a2.toInt = 2 by omega)
        exact J67 x23 H locs ls  (show 0 ≤ x23.toInt by omega) (show x23.toInt ≤ 1 by omega)  hw  c24 (lv_sub hl [0, 1, 2] rfl)
  · refine lv_tableOut (tgt := 69) hx hb dX12_mayDo_1 (Or.inl c4) (by decide) ?_
    refine lv_iconst (v := 1) hx hb dX12_mayDo_69 (by decide) ?_
    exact tk_zret hC hr rfl hlocks hK ⟨rfl, (Or.inr (Or.inr (Or.inr (Or.inl ⟨rfl, (show a2.toInt ≤ (-1) by omega)⟩))))⟩ hw dX12_mayDo_70
  · refine lv_tableOut (tgt := 69) hx hb dX12_mayDo_1 (Or.inr c4) (by decide) ?_
    refine lv_iconst (v := 1) hx hb dX12_mayDo_69 (by decide) ?_
    exact tk_zret hC hr rfl hlocks hK ⟨rfl, (Or.inr (Or.inr (Or.inr (Or.inr (Or.inr (Or.inr (Or.inr ⟨rfl, (show 3 ≤ a2.toInt by omega)⟩)))))))⟩ hw dX12_mayDo_70
abbrev P_X12_walkerOf_15 (ad : Nat → Nat) (cy : Nat → ClassId) (B : Int) (qr : Nat) (s1 : Int)  (w0 : va_W) : Int32 → va_W → Prop := fun r u => w0 = u ∧ (((-1) ≤ r.toInt ∧ r.toInt ≤ 5 ∧ gi u 12 219 = r))
set_option maxHeartbeats 4000000 in
set_option maxRecDepth 100000 in
theorem k_X12_walkerOf_15 (l : Launch) (adK adV : Nat → Nat) (dC : Nat → ClassId) (dI : Nat → Nat → Nat) (cy : Nat → ClassId) (ad : Nat → Nat) (B : Int) (hB0 : 100000 ≤ B) (hB1 : B ≤ 1073741824) (qr : Nat) (s1 : Int)   (w0 : va_W) (sz : Nat) (hT : TW ksM ad cy B qr 12 w0)  : Met l yX12_walkerOf wsX12_walkerOf ({ frames := 1, cells := 0, slots := 0, locals := 12 }) (va_Pc [.ref (ad 0), .int 0, .int 3] (wpreS adK adV dC dI cy sz w0)) (va_Qi (P_X12_walkerOf_15 ad cy B qr s1  w0) (fun u : va_W => wpost dC dI cy (va_A w0 sz) u) (va_A w0 sz)) 0 0 (va_A w0 sz) := by
  refine Met.ofW (cc := cX12_walkerOf) (maxL := 3) (ret := (some .int)) (by decide) rfl ?_
  intro p e s m args below meth c s₁ Bk hml hv
  obtain ⟨rfl, ⟨hsz, hP, hK, hD0⟩, hE, hSR⟩ := hv
  have hx := Bk.exec
  have hb := Bk.bytes
  have hr := Bk.returns
  have hlocks := Bk.notSynchronized
  have hC : CallFix p m c cX12_walkerOf 3 s _ wsX12_walkerOf RX12 := ⟨hx, hb, hml, findClass_of_methodNamed Bk.named, atoms_spec (ws := wsX12_walkerOf) Bk.pre⟩
  subst hsz
  have hD := hD0.self (sz := s.heap.size)
  generalize hAe : va_A w0 s.heap.size = A at hD hE ⊢
  have hA : ∀ q : Nat, s.heap.size ≤ q → A q := fun q h => by rw [← hAe]; exact Or.inr h
  have hw : Wd dC dI A s.heap s.heap [] w0 := ⟨hP, hD, va_S.rf⟩
  have hF : FE ksM ([] : List (Nat × Nat × Nat)) w0 w0 := FE.rf
  have hl := lv_entry ([.ref (ad 0), .int 0, .int 3]) (n := 3) (Nat.le_of_ble_eq_true rfl)
  rw [lg_entry_eq]
  generalize (lg_sl ([.ref (ad 0), .int 0, .int 3]) ++ List.replicate (3 - (lg_sl ([.ref (ad 0), .int 0, .int 3])).length) Slot.unset).toArray = ls at hl ⊢
  have hl : lv_has ls 3 [(0, .ref (ad 0)), (1, .int 0), (2, .int 3)] := hl
  generalize hloc : ([] : List Loc) = locs at hw ⊢
  have hinX12 : ∀ w ∈ u_ws RX12 TX12 42, w ∈ wsX12_walkerOf := fun _ h => List.mem_cons_of_mem _ (List.mem_append_right _ (h))
  refine lv_aload_n hx hb dX12_walkerOf_0 rfl (lv_at hl 0 rfl) ?_
  refine tk_getA hC hK hw hT hinX12 kM_at0 (by decide) rfl 26 (by decide) (List.mem_of_getElem? (i := 1) rfl) rfl rfl dX12_walkerOf_1 ?_
  refine lv_sipush (v := 216) hx hb dX12_walkerOf_4 (by decide) ?_
  refine lv_bipush (v := 9) hx hb dX12_walkerOf_7 (by decide) ?_
  refine lv_iload_n hx hb dX12_walkerOf_9 rfl (lv_at hl 1 rfl) ?_
  refine lv_imul hx hb dX12_walkerOf_10 ?_
  refine wk_top 0 (by decide) ?_
  refine lv_iadd hx hb dX12_walkerOf_11 ?_
  refine wk_top 216 (by decide) ?_
  refine lv_iload_n hx hb dX12_walkerOf_12 rfl (lv_at hl 2 rfl) ?_
  refine lv_iadd hx hb dX12_walkerOf_13 ?_
  refine wk_top 219 (by decide) ?_
  refine tk_ialdR hC hK hw hT kM_at12 rfl (by decide) (by decide) dX12_walkerOf_14 (fun x1 c2 Ex1 => ?_)
  have bx1 := tk_rgI rfl 219 1 1 (-1) 5 (by decide +kernel) ⟨0, by decide, by decide⟩ Ex1
  have c2 : gi w0 12 219 = x1 := c2
  exact tk_iret hC hr hlocks hK ⟨rfl, ⟨(show (-1) ≤ x1.toInt by omega), (show x1.toInt ≤ 5 by omega), c2⟩⟩ hw dX12_walkerOf_15
abbrev P_X12_walkerOf_16 (ad : Nat → Nat) (cy : Nat → ClassId) (B : Int) (qr : Nat) (s1 : Int)  (w0 : va_W) : Int32 → va_W → Prop := fun r u => w0 = u ∧ ((gi u 12 221 = r))
set_option maxHeartbeats 4000000 in
set_option maxRecDepth 100000 in
theorem k_X12_walkerOf_16 (l : Launch) (adK adV : Nat → Nat) (dC : Nat → ClassId) (dI : Nat → Nat → Nat) (cy : Nat → ClassId) (ad : Nat → Nat) (B : Int) (hB0 : 100000 ≤ B) (hB1 : B ≤ 1073741824) (qr : Nat) (s1 : Int)   (w0 : va_W) (sz : Nat) (hT : TW ksM ad cy B qr 12 w0)  : Met l yX12_walkerOf wsX12_walkerOf ({ frames := 1, cells := 0, slots := 0, locals := 12 }) (va_Pc [.ref (ad 0), .int 0, .int 5] (wpreS adK adV dC dI cy sz w0)) (va_Qi (P_X12_walkerOf_16 ad cy B qr s1  w0) (fun u : va_W => wpost dC dI cy (va_A w0 sz) u) (va_A w0 sz)) 0 0 (va_A w0 sz) := by
  refine Met.ofW (cc := cX12_walkerOf) (maxL := 3) (ret := (some .int)) (by decide) rfl ?_
  intro p e s m args below meth c s₁ Bk hml hv
  obtain ⟨rfl, ⟨hsz, hP, hK, hD0⟩, hE, hSR⟩ := hv
  have hx := Bk.exec
  have hb := Bk.bytes
  have hr := Bk.returns
  have hlocks := Bk.notSynchronized
  have hC : CallFix p m c cX12_walkerOf 3 s _ wsX12_walkerOf RX12 := ⟨hx, hb, hml, findClass_of_methodNamed Bk.named, atoms_spec (ws := wsX12_walkerOf) Bk.pre⟩
  subst hsz
  have hD := hD0.self (sz := s.heap.size)
  generalize hAe : va_A w0 s.heap.size = A at hD hE ⊢
  have hA : ∀ q : Nat, s.heap.size ≤ q → A q := fun q h => by rw [← hAe]; exact Or.inr h
  have hw : Wd dC dI A s.heap s.heap [] w0 := ⟨hP, hD, va_S.rf⟩
  have hF : FE ksM ([] : List (Nat × Nat × Nat)) w0 w0 := FE.rf
  have hl := lv_entry ([.ref (ad 0), .int 0, .int 5]) (n := 3) (Nat.le_of_ble_eq_true rfl)
  rw [lg_entry_eq]
  generalize (lg_sl ([.ref (ad 0), .int 0, .int 5]) ++ List.replicate (3 - (lg_sl ([.ref (ad 0), .int 0, .int 5])).length) Slot.unset).toArray = ls at hl ⊢
  have hl : lv_has ls 3 [(0, .ref (ad 0)), (1, .int 0), (2, .int 5)] := hl
  generalize hloc : ([] : List Loc) = locs at hw ⊢
  have hinX12 : ∀ w ∈ u_ws RX12 TX12 42, w ∈ wsX12_walkerOf := fun _ h => List.mem_cons_of_mem _ (List.mem_append_right _ (h))
  refine lv_aload_n hx hb dX12_walkerOf_0 rfl (lv_at hl 0 rfl) ?_
  refine tk_getA hC hK hw hT hinX12 kM_at0 (by decide) rfl 26 (by decide) (List.mem_of_getElem? (i := 1) rfl) rfl rfl dX12_walkerOf_1 ?_
  refine lv_sipush (v := 216) hx hb dX12_walkerOf_4 (by decide) ?_
  refine lv_bipush (v := 9) hx hb dX12_walkerOf_7 (by decide) ?_
  refine lv_iload_n hx hb dX12_walkerOf_9 rfl (lv_at hl 1 rfl) ?_
  refine lv_imul hx hb dX12_walkerOf_10 ?_
  refine wk_top 0 (by decide) ?_
  refine lv_iadd hx hb dX12_walkerOf_11 ?_
  refine wk_top 216 (by decide) ?_
  refine lv_iload_n hx hb dX12_walkerOf_12 rfl (lv_at hl 2 rfl) ?_
  refine lv_iadd hx hb dX12_walkerOf_13 ?_
  refine wk_top 221 (by decide) ?_
  refine tk_ialdR hC hK hw hT kM_at12 rfl (by decide) (by decide) dX12_walkerOf_14 (fun x1 c2 Ex1 => ?_)
  have c2 : gi w0 12 221 = x1 := c2
  exact tk_iret hC hr hlocks hK ⟨rfl, c2⟩ hw dX12_walkerOf_15
abbrev P_X12_walkerOf_17 (ad : Nat → Nat) (cy : Nat → ClassId) (B : Int) (qr : Nat) (s1 : Int)  (w0 : va_W) : Int32 → va_W → Prop := fun r u => w0 = u ∧ ((gi u 12 222 = r))
set_option maxHeartbeats 4000000 in
set_option maxRecDepth 100000 in
theorem k_X12_walkerOf_17 (l : Launch) (adK adV : Nat → Nat) (dC : Nat → ClassId) (dI : Nat → Nat → Nat) (cy : Nat → ClassId) (ad : Nat → Nat) (B : Int) (hB0 : 100000 ≤ B) (hB1 : B ≤ 1073741824) (qr : Nat) (s1 : Int)   (w0 : va_W) (sz : Nat) (hT : TW ksM ad cy B qr 12 w0)  : Met l yX12_walkerOf wsX12_walkerOf ({ frames := 1, cells := 0, slots := 0, locals := 12 }) (va_Pc [.ref (ad 0), .int 0, .int 6] (wpreS adK adV dC dI cy sz w0)) (va_Qi (P_X12_walkerOf_17 ad cy B qr s1  w0) (fun u : va_W => wpost dC dI cy (va_A w0 sz) u) (va_A w0 sz)) 0 0 (va_A w0 sz) := by
  refine Met.ofW (cc := cX12_walkerOf) (maxL := 3) (ret := (some .int)) (by decide) rfl ?_
  intro p e s m args below meth c s₁ Bk hml hv
  obtain ⟨rfl, ⟨hsz, hP, hK, hD0⟩, hE, hSR⟩ := hv
  have hx := Bk.exec
  have hb := Bk.bytes
  have hr := Bk.returns
  have hlocks := Bk.notSynchronized
  have hC : CallFix p m c cX12_walkerOf 3 s _ wsX12_walkerOf RX12 := ⟨hx, hb, hml, findClass_of_methodNamed Bk.named, atoms_spec (ws := wsX12_walkerOf) Bk.pre⟩
  subst hsz
  have hD := hD0.self (sz := s.heap.size)
  generalize hAe : va_A w0 s.heap.size = A at hD hE ⊢
  have hA : ∀ q : Nat, s.heap.size ≤ q → A q := fun q h => by rw [← hAe]; exact Or.inr h
  have hw : Wd dC dI A s.heap s.heap [] w0 := ⟨hP, hD, va_S.rf⟩
  have hF : FE ksM ([] : List (Nat × Nat × Nat)) w0 w0 := FE.rf
  have hl := lv_entry ([.ref (ad 0), .int 0, .int 6]) (n := 3) (Nat.le_of_ble_eq_true rfl)
  rw [lg_entry_eq]
  generalize (lg_sl ([.ref (ad 0), .int 0, .int 6]) ++ List.replicate (3 - (lg_sl ([.ref (ad 0), .int 0, .int 6])).length) Slot.unset).toArray = ls at hl ⊢
  have hl : lv_has ls 3 [(0, .ref (ad 0)), (1, .int 0), (2, .int 6)] := hl
  generalize hloc : ([] : List Loc) = locs at hw ⊢
  have hinX12 : ∀ w ∈ u_ws RX12 TX12 42, w ∈ wsX12_walkerOf := fun _ h => List.mem_cons_of_mem _ (List.mem_append_right _ (h))
  refine lv_aload_n hx hb dX12_walkerOf_0 rfl (lv_at hl 0 rfl) ?_
  refine tk_getA hC hK hw hT hinX12 kM_at0 (by decide) rfl 26 (by decide) (List.mem_of_getElem? (i := 1) rfl) rfl rfl dX12_walkerOf_1 ?_
  refine lv_sipush (v := 216) hx hb dX12_walkerOf_4 (by decide) ?_
  refine lv_bipush (v := 9) hx hb dX12_walkerOf_7 (by decide) ?_
  refine lv_iload_n hx hb dX12_walkerOf_9 rfl (lv_at hl 1 rfl) ?_
  refine lv_imul hx hb dX12_walkerOf_10 ?_
  refine wk_top 0 (by decide) ?_
  refine lv_iadd hx hb dX12_walkerOf_11 ?_
  refine wk_top 216 (by decide) ?_
  refine lv_iload_n hx hb dX12_walkerOf_12 rfl (lv_at hl 2 rfl) ?_
  refine lv_iadd hx hb dX12_walkerOf_13 ?_
  refine wk_top 222 (by decide) ?_
  refine tk_ialdR hC hK hw hT kM_at12 rfl (by decide) (by decide) dX12_walkerOf_14 (fun x1 c2 Ex1 => ?_)
  have c2 : gi w0 12 222 = x1 := c2
  exact tk_iret hC hr hlocks hK ⟨rfl, c2⟩ hw dX12_walkerOf_15
abbrev P_X12_walkerOf_18 (ad : Nat → Nat) (cy : Nat → ClassId) (B : Int) (qr : Nat) (s1 : Int)  (w0 : va_W) : Int32 → va_W → Prop := fun r u => w0 = u ∧ (((-1) ≤ r.toInt ∧ r.toInt ≤ 9 ∧ gi u 12 223 = r))
set_option maxHeartbeats 4000000 in
set_option maxRecDepth 100000 in
theorem k_X12_walkerOf_18 (l : Launch) (adK adV : Nat → Nat) (dC : Nat → ClassId) (dI : Nat → Nat → Nat) (cy : Nat → ClassId) (ad : Nat → Nat) (B : Int) (hB0 : 100000 ≤ B) (hB1 : B ≤ 1073741824) (qr : Nat) (s1 : Int)   (w0 : va_W) (sz : Nat) (hT : TW ksM ad cy B qr 12 w0)  : Met l yX12_walkerOf wsX12_walkerOf ({ frames := 1, cells := 0, slots := 0, locals := 12 }) (va_Pc [.ref (ad 0), .int 0, .int 7] (wpreS adK adV dC dI cy sz w0)) (va_Qi (P_X12_walkerOf_18 ad cy B qr s1  w0) (fun u : va_W => wpost dC dI cy (va_A w0 sz) u) (va_A w0 sz)) 0 0 (va_A w0 sz) := by
  refine Met.ofW (cc := cX12_walkerOf) (maxL := 3) (ret := (some .int)) (by decide) rfl ?_
  intro p e s m args below meth c s₁ Bk hml hv
  obtain ⟨rfl, ⟨hsz, hP, hK, hD0⟩, hE, hSR⟩ := hv
  have hx := Bk.exec
  have hb := Bk.bytes
  have hr := Bk.returns
  have hlocks := Bk.notSynchronized
  have hC : CallFix p m c cX12_walkerOf 3 s _ wsX12_walkerOf RX12 := ⟨hx, hb, hml, findClass_of_methodNamed Bk.named, atoms_spec (ws := wsX12_walkerOf) Bk.pre⟩
  subst hsz
  have hD := hD0.self (sz := s.heap.size)
  generalize hAe : va_A w0 s.heap.size = A at hD hE ⊢
  have hA : ∀ q : Nat, s.heap.size ≤ q → A q := fun q h => by rw [← hAe]; exact Or.inr h
  have hw : Wd dC dI A s.heap s.heap [] w0 := ⟨hP, hD, va_S.rf⟩
  have hF : FE ksM ([] : List (Nat × Nat × Nat)) w0 w0 := FE.rf
  have hl := lv_entry ([.ref (ad 0), .int 0, .int 7]) (n := 3) (Nat.le_of_ble_eq_true rfl)
  rw [lg_entry_eq]
  generalize (lg_sl ([.ref (ad 0), .int 0, .int 7]) ++ List.replicate (3 - (lg_sl ([.ref (ad 0), .int 0, .int 7])).length) Slot.unset).toArray = ls at hl ⊢
  have hl : lv_has ls 3 [(0, .ref (ad 0)), (1, .int 0), (2, .int 7)] := hl
  generalize hloc : ([] : List Loc) = locs at hw ⊢
  have hinX12 : ∀ w ∈ u_ws RX12 TX12 42, w ∈ wsX12_walkerOf := fun _ h => List.mem_cons_of_mem _ (List.mem_append_right _ (h))
  refine lv_aload_n hx hb dX12_walkerOf_0 rfl (lv_at hl 0 rfl) ?_
  refine tk_getA hC hK hw hT hinX12 kM_at0 (by decide) rfl 26 (by decide) (List.mem_of_getElem? (i := 1) rfl) rfl rfl dX12_walkerOf_1 ?_
  refine lv_sipush (v := 216) hx hb dX12_walkerOf_4 (by decide) ?_
  refine lv_bipush (v := 9) hx hb dX12_walkerOf_7 (by decide) ?_
  refine lv_iload_n hx hb dX12_walkerOf_9 rfl (lv_at hl 1 rfl) ?_
  refine lv_imul hx hb dX12_walkerOf_10 ?_
  refine wk_top 0 (by decide) ?_
  refine lv_iadd hx hb dX12_walkerOf_11 ?_
  refine wk_top 216 (by decide) ?_
  refine lv_iload_n hx hb dX12_walkerOf_12 rfl (lv_at hl 2 rfl) ?_
  refine lv_iadd hx hb dX12_walkerOf_13 ?_
  refine wk_top 223 (by decide) ?_
  refine tk_ialdR hC hK hw hT kM_at12 rfl (by decide) (by decide) dX12_walkerOf_14 (fun x1 c2 Ex1 => ?_)
  have bx1 := tk_rgI rfl 223 1 1 (-1) 9 (by decide +kernel) ⟨0, by decide, by decide⟩ Ex1
  have c2 : gi w0 12 223 = x1 := c2
  exact tk_iret hC hr hlocks hK ⟨rfl, ⟨(show (-1) ≤ x1.toInt by omega), (show x1.toInt ≤ 9 by omega), c2⟩⟩ hw dX12_walkerOf_15
abbrev P_X12_words_2 (ad : Nat → Nat) (cy : Nat → ClassId) (B : Int) (qr : Nat) (s1 : Int)  (w0 : va_W) : va_W → Prop := fun u => TW ksM ad cy B qr 12 u ∧ FE ksM [(70, 0, 10)] w0 u ∧ (((∃ y : Int32, gi u 0 30 = y ∧ 0 ≤ y.toInt ∧ y.toInt ≤ 1) ∧ (∃ y : Int32, gi u 12 223 = y ∧ (-1) ≤ y.toInt ∧ y.toInt ≤ 9)))
set_option maxHeartbeats 4000000 in
set_option maxRecDepth 100000 in
theorem k_X12_words_2 (l : Launch) (adK adV : Nat → Nat) (dC : Nat → ClassId) (dI : Nat → Nat → Nat) (cy : Nat → ClassId) (ad : Nat → Nat) (B : Int) (hB0 : 100000 ≤ B) (hB1 : B ≤ 1073741824) (qr : Nat) (s1 : Int)   (w0 : va_W) (sz : Nat) (hT : TW ksM ad cy B qr 12 w0)  : Met l yX12_words wsX12_words ({ frames := 6, cells := 0, slots := 0, locals := 124 }) (va_Pc [.ref (ad 0), .int 0] (wpreS adK adV dC dI cy sz w0)) (va_Qv (P_X12_words_2 ad cy B qr s1  w0) (fun u : va_W => wpost dC dI cy (va_A w0 sz) u) (va_A w0 sz)) 0 0 (va_A w0 sz) := by
  refine Met.ofW (cc := cX12_words) (maxL := 4) (ret := none) (by decide) rfl ?_
  intro p e s m args below meth c s₁ Bk hml hv
  obtain ⟨rfl, ⟨hsz, hP, hK, hD0⟩, hE, hSR⟩ := hv
  have hx := Bk.exec
  have hb := Bk.bytes
  have hr := Bk.returns
  have hlocks := Bk.notSynchronized
  have hC : CallFix p m c cX12_words 4 s _ wsX12_words RX12 := ⟨hx, hb, hml, findClass_of_methodNamed Bk.named, atoms_spec (ws := wsX12_words) Bk.pre⟩
  subst hsz
  have hD := hD0.self (sz := s.heap.size)
  generalize hAe : va_A w0 s.heap.size = A at hD hE ⊢
  have hA : ∀ q : Nat, s.heap.size ≤ q → A q := fun q h => by rw [← hAe]; exact Or.inr h
  have hw : Wd dC dI A s.heap s.heap [] w0 := ⟨hP, hD, va_S.rf⟩
  have hF : FE ksM [(70, 0, 10)] w0 w0 := FE.rf
  have hl := lv_entry ([.ref (ad 0), .int 0]) (n := 4) (Nat.le_of_ble_eq_true rfl)
  rw [lg_entry_eq]
  generalize (lg_sl ([.ref (ad 0), .int 0]) ++ List.replicate (4 - (lg_sl ([.ref (ad 0), .int 0])).length) Slot.unset).toArray = ls at hl ⊢
  have hl : lv_has ls 4 [(0, .ref (ad 0)), (1, .int 0)] := hl
  generalize hloc : ([] : List Loc) = locs at hw ⊢
  have hinX12 : ∀ w ∈ u_ws RX12 TX12 42, w ∈ wsX12_words := fun _ h => List.mem_cons_of_mem _ (List.mem_append_right _ (h))
  refine lv_aload_n hx hb dX12_words_0 rfl (lv_at hl 0 rfl) ?_
  refine lv_iload_n hx hb dX12_words_1 rfl (lv_at hl 1 rfl) ?_
  refine lv_iconst (v := 4) hx hb dX12_words_2 (by decide) ?_
  refine tk_Vi hC hK hw hT hA hE hSR kM_at0 (by decide) rfl (k_X12_walkerOf_13 l adK adV dC dI cy ad B (by omega) (by omega) qr s1    w0 s.heap.size hT ) (cwV 2 hC.2.2.2.2 gX12_words_X12_walkerOf rfl rfl rfl (by decide +kernel) ⟨Nat.le_of_ble_eq_true rfl, Nat.le_of_ble_eq_true rfl⟩) rfl hl.1 rfl (Nat.le_of_ble_eq_true rfl) dX12_words_3 (fun r1 w3 H locs hp2 hw => ?_)
  obtain ⟨rfl, hg8⟩ := hp2
  obtain ⟨g5, g6, c7⟩ := hg8
  refine lv_istore_n (lv' := [(2, .int r1), (0, .ref (ad 0)), (1, .int 0)]) hx hb dX12_words_6 rfl hl (by decide) rfl (fun ls hl => ?_)
  refine lv_aload_n hx hb dX12_words_7 rfl (lv_at hl 1 rfl) ?_
  refine lv_iload_n hx hb dX12_words_8 rfl (lv_at hl 2 rfl) ?_
  refine lv_iconst (v := 0) hx hb dX12_words_9 (by decide) ?_
  refine tk_Vi hC hK hw hT hA hE hSR kM_at0 (by decide) rfl (k_X12_walkerOf_11 l adK adV dC dI cy ad B (by omega) (by omega) qr s1    w0 H.size hT ) (cwV 2 hC.2.2.2.2 gX12_words_X12_walkerOf rfl rfl rfl (by decide +kernel) ⟨Nat.le_of_ble_eq_true rfl, Nat.le_of_ble_eq_true rfl⟩) rfl hl.1 rfl (Nat.le_of_ble_eq_true rfl) dX12_words_10 (fun r9 w11 H locs hp10 hw => ?_)
  obtain ⟨rfl, hg16⟩ := hp10
  obtain ⟨g13, g14, c15⟩ := hg16
  refine lv_istore_n (lv' := [(3, .int r9), (2, .int r1), (0, .ref (ad 0)), (1, .int 0)]) hx hb dX12_words_13 rfl hl (by decide) rfl (fun ls hl => ?_)
  refine lv_aload_n hx hb dX12_words_14 rfl (lv_at hl 2 rfl) ?_
  refine tk_getA hC hK hw hT hinX12 kM_at0 (by decide) rfl 25 (by decide) (List.mem_of_getElem? (i := 1) rfl) rfl rfl dX12_words_15 ?_
  refine lv_iconst (v := 0) hx hb dX12_words_18 (by decide) ?_
  refine lv_iload_n hx hb dX12_words_19 rfl (lv_at hl 1 rfl) ?_
  refine lv_bipush (v := 24) hx hb dX12_words_20 (by decide) ?_
  refine lv_irem hx hb dX12_words_22 (by decide) ?_
  refine lv_topi (fun x17 ex17 => ?_)
  have ex17 : x17.toInt = r1.toInt % (24 : Int) := by rw [ex17]; exact wk_rem (show 0 ≤ r1.toInt by omega) (show 0 < (24 : Int) by decide)
  refine lv_i2l hx hb dX12_words_23 rfl ?_
  refine lv_topl (fun x18 ex18 => ?_)
  have ex18 : x18.toInt = x17.toInt := by rw [ex18]; exact wk_i2l _
  have bx18 := wk_i32 x17
  refine tk_last hC hK hw hT kM_at11 (by decide) rfl (by decide) (by decide) dX12_words_24 (fun H locs w19 hw hT k21 => ?_)
  have hF := hF.put kM_at11 (inE_of (a := 0) (b := 10) (by decide) (by decide) (by decide)) k21
  have c22 := k21.gi (Or.inl (tk_ne kM_at12 kM_at11 (by decide))) c15
  refine lv_aload_n hx hb dX12_words_25 rfl (lv_at hl 2 rfl) ?_
  refine tk_getA hC hK hw hT hinX12 kM_at0 (by decide) rfl 25 (by decide) (List.mem_of_getElem? (i := 1) rfl) rfl rfl dX12_words_26 ?_
  refine lv_iconst (v := 1) hx hb dX12_words_29 (by decide) ?_
  refine lv_iload_n hx hb dX12_words_30 rfl (lv_at hl 1 rfl) ?_
  refine lv_bipush (v := 24) hx hb dX12_words_31 (by decide) ?_
  refine lv_idiv hx hb dX12_words_33 (by decide) ?_
  refine lv_topi (fun x23 ex23 => ?_)
  have ex23 : x23.toInt = r1.toInt / (24 : Int) := by rw [ex23]; exact wk_div (show 0 ≤ r1.toInt by omega) (show 0 < (24 : Int) by decide)
  refine lv_bipush (v := 7) hx hb dX12_words_34 (by decide) ?_
  refine lv_irem hx hb dX12_words_36 (by decide) ?_
  refine lv_topi (fun x24 ex24 => ?_)
  have ex24 : x24.toInt = x23.toInt % (7 : Int) := by rw [ex24]; exact wk_rem (show 0 ≤ x23.toInt by omega) (show 0 < (7 : Int) by decide)
  refine lv_i2l hx hb dX12_words_37 rfl ?_
  refine lv_topl (fun x25 ex25 => ?_)
  have ex25 : x25.toInt = x24.toInt := by rw [ex25]; exact wk_i2l _
  have bx25 := wk_i32 x24
  refine tk_last hC hK hw hT kM_at11 (by decide) rfl (by decide) (by decide) dX12_words_38 (fun H locs w26 hw hT k28 => ?_)
  have hF := hF.put kM_at11 (inE_of (a := 0) (b := 10) (by decide) (by decide) (by decide)) k28
  have c29 := k28.gi (Or.inl (tk_ne kM_at12 kM_at11 (by decide))) c22
  refine lv_aload_n hx hb dX12_words_39 rfl (lv_at hl 2 rfl) ?_
  refine tk_getA hC hK hw hT hinX12 kM_at0 (by decide) rfl 25 (by decide) (List.mem_of_getElem? (i := 1) rfl) rfl rfl dX12_words_40 ?_
  refine lv_iconst (v := 2) hx hb dX12_words_43 (by decide) ?_
  refine lv_aload_n hx hb dX12_words_44 rfl (lv_at hl 2 rfl) ?_
  refine tk_geti hC hK hw hT hinX12 kM_at0 (by decide) rfl 30 (by decide) (List.mem_of_getElem? (i := 2) rfl) rfl rfl dX12_words_45 (fun x30 c31 rx30 tx30 => ?_)
  refine lv_if_eq (tgt := 55) hx hb dX12_words_48 (by decide) (fun c32 => ?_) (fun c32 => ?_)
  · have c32 : x30.toInt = (0 : Int) := wk_eq.mp c32
    refine lv_iload_n hx hb dX12_words_55 rfl (lv_at hl 1 rfl) ?_
    refine lv_bipush (v := 24) hx hb dX12_words_56 (by decide) ?_
    refine lv_idiv hx hb dX12_words_58 (by decide) ?_
    refine lv_topi (fun x33 ex33 => ?_)
    have ex33 : x33.toInt = r1.toInt / (24 : Int) := by rw [ex33]; exact wk_div (show 0 ≤ r1.toInt by omega) (show 0 < (24 : Int) by decide)
    refine lv_sipush (v := 360) hx hb dX12_words_59 (by decide) ?_
    refine lv_irem hx hb dX12_words_62 (by decide) ?_
    refine lv_topi (fun x34 ex34 => ?_)
    have ex34 : x34.toInt = x33.toInt % (360 : Int) := by rw [ex34]; exact wk_rem (show 0 ≤ x33.toInt by omega) (show 0 < (360 : Int) by decide)
    refine lv_i2l hx hb dX12_words_63 rfl ?_
    refine lv_topl (fun x35 ex35 => ?_)
    have ex35 : x35.toInt = x34.toInt := by rw [ex35]; exact wk_i2l _
    have bx35 := wk_i32 x34
    refine tk_last hC hK hw hT kM_at11 (by decide) rfl (by decide) (by decide) dX12_words_64 (fun H locs w36 hw hT k38 => ?_)
    have hF := hF.put kM_at11 (inE_of (a := 0) (b := 10) (by decide) (by decide) (by decide)) k38
    have c39 := k38.gi (Or.inl (tk_ne kM_at12 kM_at11 (by decide))) c29
    have c40 := k38.gi (Or.inl (tk_ne kM_at0 kM_at11 (by decide))) c31
    refine lv_aload_n hx hb dX12_words_65 rfl (lv_at hl 2 rfl) ?_
    refine tk_getA hC hK hw hT hinX12 kM_at0 (by decide) rfl 25 (by decide) (List.mem_of_getElem? (i := 1) rfl) rfl rfl dX12_words_66 ?_
    refine lv_iconst (v := 3) hx hb dX12_words_69 (by decide) ?_
    refine lv_iload_n hx hb dX12_words_70 rfl (lv_at hl 0 rfl) ?_
    refine lv_i2l hx hb dX12_words_71 rfl ?_
    refine lv_topl (fun x41 ex41 => ?_)
    have ex41 : x41.toInt = r9.toInt := by rw [ex41]; exact wk_i2l _
    have bx41 := wk_i32 r9
    refine tk_last hC hK hw hT kM_at11 (by decide) rfl (by decide) (by decide) dX12_words_72 (fun H locs w42 hw hT k44 => ?_)
    have hF := hF.put kM_at11 (inE_of (a := 0) (b := 10) (by decide) (by decide) (by decide)) k44
    have c45 := k44.gi (Or.inl (tk_ne kM_at12 kM_at11 (by decide))) c39
    have c46 := k44.gi (Or.inl (tk_ne kM_at0 kM_at11 (by decide))) c40
    refine lv_aload_n hx hb dX12_words_73 rfl (lv_at hl 2 rfl) ?_
    refine tk_getA hC hK hw hT hinX12 kM_at0 (by decide) rfl 25 (by decide) (List.mem_of_getElem? (i := 1) rfl) rfl rfl dX12_words_74 ?_
    refine lv_iconst (v := 4) hx hb dX12_words_77 (by decide) ?_
    refine lv_aload_n hx hb dX12_words_78 rfl (lv_at hl 2 rfl) ?_
    refine lv_iload_n hx hb dX12_words_79 rfl (lv_at hl 3 rfl) ?_
    refine lv_iconst (v := 1) hx hb dX12_words_80 (by decide) ?_
    refine tk_Vi hC hK hw hT hA hE hSR kM_at0 (by decide) rfl (k_X12_walkerOf_12 l adK adV dC dI cy ad B (by omega) (by omega) qr s1    w42 H.size hT ) (cwV 2 hC.2.2.2.2 gX12_words_X12_walkerOf rfl rfl rfl (by decide +kernel) ⟨Nat.le_of_ble_eq_true rfl, Nat.le_of_ble_eq_true rfl⟩) rfl hl.1 rfl (Nat.le_of_ble_eq_true rfl) dX12_words_81 (fun r47 w49 H locs hp48 hw => ?_)
    obtain ⟨rfl, hg54⟩ := hp48
    obtain ⟨g51, g52, c53⟩ := hg54
    refine lv_i2l hx hb dX12_words_84 rfl ?_
    refine lv_topl (fun x55 ex55 => ?_)
    have ex55 : x55.toInt = r47.toInt := by rw [ex55]; exact wk_i2l _
    have bx55 := wk_i32 r47
    refine tk_last hC hK hw hT kM_at11 (by decide) rfl (by decide) (by decide) dX12_words_85 (fun H locs w56 hw hT k58 => ?_)
    have hF := hF.put kM_at11 (inE_of (a := 0) (b := 10) (by decide) (by decide) (by decide)) k58
    have c59 := k58.gi (Or.inl (tk_ne kM_at12 kM_at11 (by decide))) c45
    have c60 := k58.gi (Or.inl (tk_ne kM_at0 kM_at11 (by decide))) c46
    have c61 := k58.gi (Or.inl (tk_ne kM_at12 kM_at11 (by decide))) c53
    refine lv_aload_n hx hb dX12_words_86 rfl (lv_at hl 2 rfl) ?_
    refine tk_getA hC hK hw hT hinX12 kM_at0 (by decide) rfl 25 (by decide) (List.mem_of_getElem? (i := 1) rfl) rfl rfl dX12_words_87 ?_
    refine lv_iconst (v := 5) hx hb dX12_words_90 (by decide) ?_
    refine lv_aload_n hx hb dX12_words_91 rfl (lv_at hl 2 rfl) ?_
    refine lv_iload_n hx hb dX12_words_92 rfl (lv_at hl 3 rfl) ?_
    refine tk_Vi hC hK hw hT hA hE hSR kM_at0 (by decide) rfl (k_X12_canGo_2 l adK adV dC dI cy ad B (by omega) (by omega) qr s1    w56 H.size hT ) (cwV 1 hC.2.2.2.2 gX12_words_X12_canGo rfl rfl rfl (by decide +kernel) ⟨Nat.le_of_ble_eq_true rfl, Nat.le_of_ble_eq_true rfl⟩) rfl hl.1 rfl (Nat.le_of_ble_eq_true rfl) dX12_words_93 (fun r62 w64 H locs hp63 hw => ?_)
    obtain ⟨rfl, hg68⟩ := hp63
    rcases hg68 with rfl | ⟨rfl, ⟨x66, c67, rx66, tx66⟩⟩
    · refine lv_if_eq (tgt := 103) hx hb dX12_words_96 (by decide) (fun _ => ?_) (fun c => absurd (by decide) c)
      refine lv_lconst (v := 1) hx hb dX12_words_103 (by decide) ?_
      refine tk_last hC hK hw hT kM_at11 (by decide) rfl (by decide) (by decide) dX12_words_104 (fun H locs w69 hw hT k71 => ?_)
      have hF := hF.put kM_at11 (inE_of (a := 0) (b := 10) (by decide) (by decide) (by decide)) k71
      have c72 := k71.gi (Or.inl (tk_ne kM_at12 kM_at11 (by decide))) c59
      have c73 := k71.gi (Or.inl (tk_ne kM_at0 kM_at11 (by decide))) c60
      have c74 := k71.gi (Or.inl (tk_ne kM_at12 kM_at11 (by decide))) c61
      refine lv_aload_n hx hb dX12_words_105 rfl (lv_at hl 2 rfl) ?_
      refine tk_getA hC hK hw hT hinX12 kM_at0 (by decide) rfl 25 (by decide) (List.mem_of_getElem? (i := 1) rfl) rfl rfl dX12_words_106 ?_
      refine lv_bipush (v := 6) hx hb dX12_words_109 (by decide) ?_
      refine lv_aload_n hx hb dX12_words_111 rfl (lv_at hl 2 rfl) ?_
      refine tk_getA hC hK hw hT hinX12 kM_at0 (by decide) rfl 29 (by decide) (List.mem_of_getElem? (i := 3) rfl) rfl rfl dX12_words_112 ?_
      refine lv_iload_n hx hb dX12_words_115 rfl (lv_at hl 0 rfl) ?_
      refine tk_iald hC hK hw hT kM_at14 rfl rfl (show 0 ≤ r9.toInt by omega) (show r9.toInt < 10 by omega) dX12_words_116 (fun x75 c76 rx75 tx75 => ?_)
      have c76 : gi w69 14 (r9.toInt).toNat = x75 := (congrArg (gi w69 14) (congrArg Int.toNat (show r9.toInt = r9.toInt by omega))).trans c76
      refine lv_ldcw (v := 100000000) hx hb hC.2.2.2.1 (hC.2.2.2.2 _ (List.mem_of_getElem? (i := 4) rfl)) dX12_words_117 ?_
      refine lv_icmp_ne (tgt := 127) hx hb dX12_words_120 (by decide) (fun c77 => ?_) (fun c77 => ?_)
      · have c77 : ¬ x75.toInt = (100000000 : Int) := wk_eqF c77
        refine lv_aload_n hx hb dX12_words_127 rfl (lv_at hl 2 rfl) ?_
        refine tk_getA hC hK hw hT hinX12 kM_at0 (by decide) rfl 29 (by decide) (List.mem_of_getElem? (i := 3) rfl) rfl rfl dX12_words_128 ?_
        refine lv_iload_n hx hb dX12_words_131 rfl (lv_at hl 0 rfl) ?_
        refine tk_iald hC hK hw hT kM_at14 rfl rfl (show 0 ≤ r9.toInt by omega) (show r9.toInt < 10 by omega) dX12_words_132 (fun x78 c79 rx78 tx78 => ?_)
        have c79 : gi w69 14 (r9.toInt).toNat = x78 := (congrArg (gi w69 14) (congrArg Int.toNat (show r9.toInt = r9.toInt by omega))).trans c79
        refine wk_top x75 (c79.symm.trans c76) ?_
        refine lv_i2l hx hb dX12_words_133 rfl ?_
        refine lv_topl (fun x80 ex80 => ?_)
        have ex80 : x80.toInt = x75.toInt := by rw [ex80]; exact wk_i2l _
        have bx80 := wk_i32 x75
        refine tk_last hC hK hw hT kM_at11 (by decide) rfl (by decide) (by decide) dX12_words_134 (fun H locs w81 hw hT k83 => ?_)
        have hF := hF.put kM_at11 (inE_of (a := 0) (b := 10) (by decide) (by decide) (by decide)) k83
        have c84 := k83.gi (Or.inl (tk_ne kM_at12 kM_at11 (by decide))) c72
        have c85 := k83.gi (Or.inl (tk_ne kM_at0 kM_at11 (by decide))) c73
        have c86 := k83.gi (Or.inl (tk_ne kM_at12 kM_at11 (by decide))) c74
        have c87 := k83.gi (Or.inl (tk_ne kM_at14 kM_at11 (by decide))) c76
        refine lv_aload_n hx hb dX12_words_135 rfl (lv_at hl 2 rfl) ?_
        refine tk_getA hC hK hw hT hinX12 kM_at0 (by decide) rfl 25 (by decide) (List.mem_of_getElem? (i := 1) rfl) rfl rfl dX12_words_136 ?_
        refine lv_bipush (v := 7) hx hb dX12_words_139 (by decide) ?_
        refine lv_aload_n hx hb dX12_words_141 rfl (lv_at hl 2 rfl) ?_
        refine tk_geti hC hK hw hT hinX12 kM_at0 (by decide) rfl 30 (by decide) (List.mem_of_getElem? (i := 2) rfl) rfl rfl dX12_words_142 (fun x88 c89 rx88 tx88 => ?_)
        refine wk_top x30 (c89.symm.trans c85) ?_
        refine lv_if_eq (tgt := 152) hx hb dX12_words_145 (by decide) (fun _ => ?_) (fun c => (c (wk_eq.mpr (show x30.toInt = (0 : Int) by omega))).elim)
        refine lv_aload_n hx hb dX12_words_152 rfl (lv_at hl 2 rfl) ?_
        refine lv_iload_n hx hb dX12_words_153 rfl (lv_at hl 3 rfl) ?_
        refine lv_iconst (v := 5) hx hb dX12_words_154 (by decide) ?_
        refine tk_Vi hC hK hw hT hA hE hSR kM_at0 (by decide) rfl (k_X12_walkerOf_16 l adK adV dC dI cy ad B (by omega) (by omega) qr s1    w81 H.size hT ) (cwV 2 hC.2.2.2.2 gX12_words_X12_walkerOf rfl rfl rfl (by decide +kernel) ⟨Nat.le_of_ble_eq_true rfl, Nat.le_of_ble_eq_true rfl⟩) rfl hl.1 rfl (Nat.le_of_ble_eq_true rfl) dX12_words_155 (fun r90 w92 H locs hp91 hw => ?_)
        obtain ⟨rfl, hg95⟩ := hp91
        have c94 := hg95
        refine lv_i2l hx hb dX12_words_158 rfl ?_
        refine lv_topl (fun x96 ex96 => ?_)
        have ex96 : x96.toInt = r90.toInt := by rw [ex96]; exact wk_i2l _
        have bx96 := wk_i32 r90
        refine tk_last hC hK hw hT kM_at11 (by decide) rfl (by decide) (by decide) dX12_words_159 (fun H locs w97 hw hT k99 => ?_)
        have hF := hF.put kM_at11 (inE_of (a := 0) (b := 10) (by decide) (by decide) (by decide)) k99
        have c100 := k99.gi (Or.inl (tk_ne kM_at12 kM_at11 (by decide))) c84
        have c101 := k99.gi (Or.inl (tk_ne kM_at0 kM_at11 (by decide))) c85
        have c102 := k99.gi (Or.inl (tk_ne kM_at12 kM_at11 (by decide))) c86
        have c103 := k99.gi (Or.inl (tk_ne kM_at14 kM_at11 (by decide))) c87
        have c104 := k99.gi (Or.inl (tk_ne kM_at12 kM_at11 (by decide))) c94
        refine lv_aload_n hx hb dX12_words_160 rfl (lv_at hl 2 rfl) ?_
        refine tk_getA hC hK hw hT hinX12 kM_at0 (by decide) rfl 25 (by decide) (List.mem_of_getElem? (i := 1) rfl) rfl rfl dX12_words_161 ?_
        refine lv_bipush (v := 8) hx hb dX12_words_164 (by decide) ?_
        refine lv_aload_n hx hb dX12_words_166 rfl (lv_at hl 2 rfl) ?_
        refine lv_iload_n hx hb dX12_words_167 rfl (lv_at hl 3 rfl) ?_
        refine lv_bipush (v := 6) hx hb dX12_words_168 (by decide) ?_
        refine tk_Vi hC hK hw hT hA hE hSR kM_at0 (by decide) rfl (k_X12_walkerOf_17 l adK adV dC dI cy ad B (by omega) (by omega) qr s1    w97 H.size hT ) (cwV 2 hC.2.2.2.2 gX12_words_X12_walkerOf rfl rfl rfl (by decide +kernel) ⟨Nat.le_of_ble_eq_true rfl, Nat.le_of_ble_eq_true rfl⟩) rfl hl.1 rfl (Nat.le_of_ble_eq_true rfl) dX12_words_170 (fun r105 w107 H locs hp106 hw => ?_)
        obtain ⟨rfl, hg110⟩ := hp106
        have c109 := hg110
        refine lv_i2l hx hb dX12_words_173 rfl ?_
        refine lv_topl (fun x111 ex111 => ?_)
        have ex111 : x111.toInt = r105.toInt := by rw [ex111]; exact wk_i2l _
        have bx111 := wk_i32 r105
        refine tk_last hC hK hw hT kM_at11 (by decide) rfl (by decide) (by decide) dX12_words_174 (fun H locs w112 hw hT k114 => ?_)
        have hF := hF.put kM_at11 (inE_of (a := 0) (b := 10) (by decide) (by decide) (by decide)) k114
        have c115 := k114.gi (Or.inl (tk_ne kM_at12 kM_at11 (by decide))) c100
        have c116 := k114.gi (Or.inl (tk_ne kM_at0 kM_at11 (by decide))) c101
        have c117 := k114.gi (Or.inl (tk_ne kM_at12 kM_at11 (by decide))) c102
        have c118 := k114.gi (Or.inl (tk_ne kM_at14 kM_at11 (by decide))) c103
        have c119 := k114.gi (Or.inl (tk_ne kM_at12 kM_at11 (by decide))) c104
        have c120 := k114.gi (Or.inl (tk_ne kM_at12 kM_at11 (by decide))) c109
        refine lv_aload_n hx hb dX12_words_175 rfl (lv_at hl 2 rfl) ?_
        refine tk_getA hC hK hw hT hinX12 kM_at0 (by decide) rfl 25 (by decide) (List.mem_of_getElem? (i := 1) rfl) rfl rfl dX12_words_176 ?_
        refine lv_bipush (v := 9) hx hb dX12_words_179 (by decide) ?_
        refine lv_aload_n hx hb dX12_words_181 rfl (lv_at hl 2 rfl) ?_
        refine lv_iload_n hx hb dX12_words_182 rfl (lv_at hl 3 rfl) ?_
        refine lv_bipush (v := 7) hx hb dX12_words_183 (by decide) ?_
        refine tk_Vi hC hK hw hT hA hE hSR kM_at0 (by decide) rfl (k_X12_walkerOf_18 l adK adV dC dI cy ad B (by omega) (by omega) qr s1    w112 H.size hT ) (cwV 2 hC.2.2.2.2 gX12_words_X12_walkerOf rfl rfl rfl (by decide +kernel) ⟨Nat.le_of_ble_eq_true rfl, Nat.le_of_ble_eq_true rfl⟩) rfl hl.1 rfl (Nat.le_of_ble_eq_true rfl) dX12_words_185 (fun r121 w123 H locs hp122 hw => ?_)
        obtain ⟨rfl, hg128⟩ := hp122
        obtain ⟨g125, g126, c127⟩ := hg128
        refine lv_if_ge (tgt := 197) hx hb dX12_words_188 (by decide) (fun c129 => ?_) (fun c129 => ?_)
        · have c129 : (0 : Int) ≤ r121.toInt := wk_le.mp c129
          refine lv_aload_n hx hb dX12_words_197 rfl (lv_at hl 2 rfl) ?_
          refine lv_iload_n hx hb dX12_words_198 rfl (lv_at hl 3 rfl) ?_
          refine lv_bipush (v := 7) hx hb dX12_words_199 (by decide) ?_
          refine tk_Vi hC hK hw hT hA hE hSR kM_at0 (by decide) rfl (k_X12_walkerOf_18 l adK adV dC dI cy ad B (by omega) (by omega) qr s1    w112 H.size hT ) (cwV 2 hC.2.2.2.2 gX12_words_X12_walkerOf rfl rfl rfl (by decide +kernel) ⟨Nat.le_of_ble_eq_true rfl, Nat.le_of_ble_eq_true rfl⟩) rfl hl.1 rfl (Nat.le_of_ble_eq_true rfl) dX12_words_201 (fun r130 w132 H locs hp131 hw => ?_)
          obtain ⟨rfl, hg137⟩ := hp131
          obtain ⟨g134, g135, c136⟩ := hg137
          obtain rfl : r121 = r130 := c127.symm.trans c136
          refine lv_i2l hx hb dX12_words_204 rfl ?_
          refine lv_topl (fun x138 ex138 => ?_)
          have ex138 : x138.toInt = r121.toInt := by rw [ex138]; exact wk_i2l _
          have bx138 := wk_i32 r121
          refine tk_last hC hK hw hT kM_at11 (by decide) rfl (by decide) (by decide) dX12_words_205 (fun H locs w139 hw hT k141 => ?_)
          have hF := hF.put kM_at11 (inE_of (a := 0) (b := 10) (by decide) (by decide) (by decide)) k141
          have c142 := k141.gi (Or.inl (tk_ne kM_at12 kM_at11 (by decide))) c115
          have c143 := k141.gi (Or.inl (tk_ne kM_at0 kM_at11 (by decide))) c116
          have c144 := k141.gi (Or.inl (tk_ne kM_at12 kM_at11 (by decide))) c117
          have c145 := k141.gi (Or.inl (tk_ne kM_at14 kM_at11 (by decide))) c118
          have c146 := k141.gi (Or.inl (tk_ne kM_at12 kM_at11 (by decide))) c119
          have c147 := k141.gi (Or.inl (tk_ne kM_at12 kM_at11 (by decide))) c120
          have c148 := k141.gi (Or.inl (tk_ne kM_at12 kM_at11 (by decide))) c127
          exact tk_vret hC hr hlocks hK ⟨hT, hF, ⟨⟨x30, c143, (show 0 ≤ x30.toInt by omega), (show x30.toInt ≤ 1 by omega)⟩, ⟨r121, c148, (show (-1) ≤ r121.toInt by omega), (show r121.toInt ≤ 9 by omega)⟩⟩⟩ hw dX12_words_206
        · have c129 : r121.toInt < (0 : Int) := wk_leF c129
          refine lv_ldc2 (v := 99) hx hb hC.2.2.2.1 (hC.2.2.2.2 _ (List.mem_of_getElem? (i := 5) rfl)) dX12_words_191 ?_
          refine lv_goto (tgt := 205) hx hb dX12_words_194 (by decide) ?_
          refine tk_last hC hK hw hT kM_at11 (by decide) rfl (by decide) (by decide) dX12_words_205 (fun H locs w149 hw hT k151 => ?_)
          have hF := hF.put kM_at11 (inE_of (a := 0) (b := 10) (by decide) (by decide) (by decide)) k151
          have c152 := k151.gi (Or.inl (tk_ne kM_at12 kM_at11 (by decide))) c115
          have c153 := k151.gi (Or.inl (tk_ne kM_at0 kM_at11 (by decide))) c116
          have c154 := k151.gi (Or.inl (tk_ne kM_at12 kM_at11 (by decide))) c117
          have c155 := k151.gi (Or.inl (tk_ne kM_at14 kM_at11 (by decide))) c118
          have c156 := k151.gi (Or.inl (tk_ne kM_at12 kM_at11 (by decide))) c119
          have c157 := k151.gi (Or.inl (tk_ne kM_at12 kM_at11 (by decide))) c120
          have c158 := k151.gi (Or.inl (tk_ne kM_at12 kM_at11 (by decide))) c127
          exact tk_vret hC hr hlocks hK ⟨hT, hF, ⟨⟨x30, c153, (show 0 ≤ x30.toInt by omega), (show x30.toInt ≤ 1 by omega)⟩, ⟨r121, c158, (show (-1) ≤ r121.toInt by omega), (show r121.toInt ≤ 9 by omega)⟩⟩⟩ hw dX12_words_206
      · have c77 : x75.toInt = (100000000 : Int) := wk_eq.mp c77
        refine lv_lconst (v := 0) hx hb dX12_words_123 (by decide) ?_
        refine lv_goto (tgt := 134) hx hb dX12_words_124 (by decide) ?_
        refine tk_last hC hK hw hT kM_at11 (by decide) rfl (by decide) (by decide) dX12_words_134 (fun H locs w159 hw hT k161 => ?_)
        have hF := hF.put kM_at11 (inE_of (a := 0) (b := 10) (by decide) (by decide) (by decide)) k161
        have c162 := k161.gi (Or.inl (tk_ne kM_at12 kM_at11 (by decide))) c72
        have c163 := k161.gi (Or.inl (tk_ne kM_at0 kM_at11 (by decide))) c73
        have c164 := k161.gi (Or.inl (tk_ne kM_at12 kM_at11 (by decide))) c74
        have c165 := k161.gi (Or.inl (tk_ne kM_at14 kM_at11 (by decide))) c76
        refine lv_aload_n hx hb dX12_words_135 rfl (lv_at hl 2 rfl) ?_
        refine tk_getA hC hK hw hT hinX12 kM_at0 (by decide) rfl 25 (by decide) (List.mem_of_getElem? (i := 1) rfl) rfl rfl dX12_words_136 ?_
        refine lv_bipush (v := 7) hx hb dX12_words_139 (by decide) ?_
        refine lv_aload_n hx hb dX12_words_141 rfl (lv_at hl 2 rfl) ?_
        refine tk_geti hC hK hw hT hinX12 kM_at0 (by decide) rfl 30 (by decide) (List.mem_of_getElem? (i := 2) rfl) rfl rfl dX12_words_142 (fun x166 c167 rx166 tx166 => ?_)
        refine wk_top x30 (c167.symm.trans c163) ?_
        refine lv_if_eq (tgt := 152) hx hb dX12_words_145 (by decide) (fun _ => ?_) (fun c => (c (wk_eq.mpr (show x30.toInt = (0 : Int) by omega))).elim)
        refine lv_aload_n hx hb dX12_words_152 rfl (lv_at hl 2 rfl) ?_
        refine lv_iload_n hx hb dX12_words_153 rfl (lv_at hl 3 rfl) ?_
        refine lv_iconst (v := 5) hx hb dX12_words_154 (by decide) ?_
        refine tk_Vi hC hK hw hT hA hE hSR kM_at0 (by decide) rfl (k_X12_walkerOf_16 l adK adV dC dI cy ad B (by omega) (by omega) qr s1    w159 H.size hT ) (cwV 2 hC.2.2.2.2 gX12_words_X12_walkerOf rfl rfl rfl (by decide +kernel) ⟨Nat.le_of_ble_eq_true rfl, Nat.le_of_ble_eq_true rfl⟩) rfl hl.1 rfl (Nat.le_of_ble_eq_true rfl) dX12_words_155 (fun r168 w170 H locs hp169 hw => ?_)
        obtain ⟨rfl, hg173⟩ := hp169
        have c172 := hg173
        refine lv_i2l hx hb dX12_words_158 rfl ?_
        refine lv_topl (fun x174 ex174 => ?_)
        have ex174 : x174.toInt = r168.toInt := by rw [ex174]; exact wk_i2l _
        have bx174 := wk_i32 r168
        refine tk_last hC hK hw hT kM_at11 (by decide) rfl (by decide) (by decide) dX12_words_159 (fun H locs w175 hw hT k177 => ?_)
        have hF := hF.put kM_at11 (inE_of (a := 0) (b := 10) (by decide) (by decide) (by decide)) k177
        have c178 := k177.gi (Or.inl (tk_ne kM_at12 kM_at11 (by decide))) c162
        have c179 := k177.gi (Or.inl (tk_ne kM_at0 kM_at11 (by decide))) c163
        have c180 := k177.gi (Or.inl (tk_ne kM_at12 kM_at11 (by decide))) c164
        have c181 := k177.gi (Or.inl (tk_ne kM_at14 kM_at11 (by decide))) c165
        have c182 := k177.gi (Or.inl (tk_ne kM_at12 kM_at11 (by decide))) c172
        refine lv_aload_n hx hb dX12_words_160 rfl (lv_at hl 2 rfl) ?_
        refine tk_getA hC hK hw hT hinX12 kM_at0 (by decide) rfl 25 (by decide) (List.mem_of_getElem? (i := 1) rfl) rfl rfl dX12_words_161 ?_
        refine lv_bipush (v := 8) hx hb dX12_words_164 (by decide) ?_
        refine lv_aload_n hx hb dX12_words_166 rfl (lv_at hl 2 rfl) ?_
        refine lv_iload_n hx hb dX12_words_167 rfl (lv_at hl 3 rfl) ?_
        refine lv_bipush (v := 6) hx hb dX12_words_168 (by decide) ?_
        refine tk_Vi hC hK hw hT hA hE hSR kM_at0 (by decide) rfl (k_X12_walkerOf_17 l adK adV dC dI cy ad B (by omega) (by omega) qr s1    w175 H.size hT ) (cwV 2 hC.2.2.2.2 gX12_words_X12_walkerOf rfl rfl rfl (by decide +kernel) ⟨Nat.le_of_ble_eq_true rfl, Nat.le_of_ble_eq_true rfl⟩) rfl hl.1 rfl (Nat.le_of_ble_eq_true rfl) dX12_words_170 (fun r183 w185 H locs hp184 hw => ?_)
        obtain ⟨rfl, hg188⟩ := hp184
        have c187 := hg188
        refine lv_i2l hx hb dX12_words_173 rfl ?_
        refine lv_topl (fun x189 ex189 => ?_)
        have ex189 : x189.toInt = r183.toInt := by rw [ex189]; exact wk_i2l _
        have bx189 := wk_i32 r183
        refine tk_last hC hK hw hT kM_at11 (by decide) rfl (by decide) (by decide) dX12_words_174 (fun H locs w190 hw hT k192 => ?_)
        have hF := hF.put kM_at11 (inE_of (a := 0) (b := 10) (by decide) (by decide) (by decide)) k192
        have c193 := k192.gi (Or.inl (tk_ne kM_at12 kM_at11 (by decide))) c178
        have c194 := k192.gi (Or.inl (tk_ne kM_at0 kM_at11 (by decide))) c179
        have c195 := k192.gi (Or.inl (tk_ne kM_at12 kM_at11 (by decide))) c180
        have c196 := k192.gi (Or.inl (tk_ne kM_at14 kM_at11 (by decide))) c181
        have c197 := k192.gi (Or.inl (tk_ne kM_at12 kM_at11 (by decide))) c182
        have c198 := k192.gi (Or.inl (tk_ne kM_at12 kM_at11 (by decide))) c187
        refine lv_aload_n hx hb dX12_words_175 rfl (lv_at hl 2 rfl) ?_
        refine tk_getA hC hK hw hT hinX12 kM_at0 (by decide) rfl 25 (by decide) (List.mem_of_getElem? (i := 1) rfl) rfl rfl dX12_words_176 ?_
        refine lv_bipush (v := 9) hx hb dX12_words_179 (by decide) ?_
        refine lv_aload_n hx hb dX12_words_181 rfl (lv_at hl 2 rfl) ?_
        refine lv_iload_n hx hb dX12_words_182 rfl (lv_at hl 3 rfl) ?_
        refine lv_bipush (v := 7) hx hb dX12_words_183 (by decide) ?_
        refine tk_Vi hC hK hw hT hA hE hSR kM_at0 (by decide) rfl (k_X12_walkerOf_18 l adK adV dC dI cy ad B (by omega) (by omega) qr s1    w190 H.size hT ) (cwV 2 hC.2.2.2.2 gX12_words_X12_walkerOf rfl rfl rfl (by decide +kernel) ⟨Nat.le_of_ble_eq_true rfl, Nat.le_of_ble_eq_true rfl⟩) rfl hl.1 rfl (Nat.le_of_ble_eq_true rfl) dX12_words_185 (fun r199 w201 H locs hp200 hw => ?_)
        obtain ⟨rfl, hg206⟩ := hp200
        obtain ⟨g203, g204, c205⟩ := hg206
        refine lv_if_ge (tgt := 197) hx hb dX12_words_188 (by decide) (fun c207 => ?_) (fun c207 => ?_)
        · have c207 : (0 : Int) ≤ r199.toInt := wk_le.mp c207
          refine lv_aload_n hx hb dX12_words_197 rfl (lv_at hl 2 rfl) ?_
          refine lv_iload_n hx hb dX12_words_198 rfl (lv_at hl 3 rfl) ?_
          refine lv_bipush (v := 7) hx hb dX12_words_199 (by decide) ?_
          refine tk_Vi hC hK hw hT hA hE hSR kM_at0 (by decide) rfl (k_X12_walkerOf_18 l adK adV dC dI cy ad B (by omega) (by omega) qr s1    w190 H.size hT ) (cwV 2 hC.2.2.2.2 gX12_words_X12_walkerOf rfl rfl rfl (by decide +kernel) ⟨Nat.le_of_ble_eq_true rfl, Nat.le_of_ble_eq_true rfl⟩) rfl hl.1 rfl (Nat.le_of_ble_eq_true rfl) dX12_words_201 (fun r208 w210 H locs hp209 hw => ?_)
          obtain ⟨rfl, hg215⟩ := hp209
          obtain ⟨g212, g213, c214⟩ := hg215
          obtain rfl : r199 = r208 := c205.symm.trans c214
          refine lv_i2l hx hb dX12_words_204 rfl ?_
          refine lv_topl (fun x216 ex216 => ?_)
          have ex216 : x216.toInt = r199.toInt := by rw [ex216]; exact wk_i2l _
          have bx216 := wk_i32 r199
          refine tk_last hC hK hw hT kM_at11 (by decide) rfl (by decide) (by decide) dX12_words_205 (fun H locs w217 hw hT k219 => ?_)
          have hF := hF.put kM_at11 (inE_of (a := 0) (b := 10) (by decide) (by decide) (by decide)) k219
          have c220 := k219.gi (Or.inl (tk_ne kM_at12 kM_at11 (by decide))) c193
          have c221 := k219.gi (Or.inl (tk_ne kM_at0 kM_at11 (by decide))) c194
          have c222 := k219.gi (Or.inl (tk_ne kM_at12 kM_at11 (by decide))) c195
          have c223 := k219.gi (Or.inl (tk_ne kM_at14 kM_at11 (by decide))) c196
          have c224 := k219.gi (Or.inl (tk_ne kM_at12 kM_at11 (by decide))) c197
          have c225 := k219.gi (Or.inl (tk_ne kM_at12 kM_at11 (by decide))) c198
          have c226 := k219.gi (Or.inl (tk_ne kM_at12 kM_at11 (by decide))) c205
          exact tk_vret hC hr hlocks hK ⟨hT, hF, ⟨⟨x30, c221, (show 0 ≤ x30.toInt by omega), (show x30.toInt ≤ 1 by omega)⟩, ⟨r199, c226, (show (-1) ≤ r199.toInt by omega), (show r199.toInt ≤ 9 by omega)⟩⟩⟩ hw dX12_words_206
        · have c207 : r199.toInt < (0 : Int) := wk_leF c207
          refine lv_ldc2 (v := 99) hx hb hC.2.2.2.1 (hC.2.2.2.2 _ (List.mem_of_getElem? (i := 5) rfl)) dX12_words_191 ?_
          refine lv_goto (tgt := 205) hx hb dX12_words_194 (by decide) ?_
          refine tk_last hC hK hw hT kM_at11 (by decide) rfl (by decide) (by decide) dX12_words_205 (fun H locs w227 hw hT k229 => ?_)
          have hF := hF.put kM_at11 (inE_of (a := 0) (b := 10) (by decide) (by decide) (by decide)) k229
          have c230 := k229.gi (Or.inl (tk_ne kM_at12 kM_at11 (by decide))) c193
          have c231 := k229.gi (Or.inl (tk_ne kM_at0 kM_at11 (by decide))) c194
          have c232 := k229.gi (Or.inl (tk_ne kM_at12 kM_at11 (by decide))) c195
          have c233 := k229.gi (Or.inl (tk_ne kM_at14 kM_at11 (by decide))) c196
          have c234 := k229.gi (Or.inl (tk_ne kM_at12 kM_at11 (by decide))) c197
          have c235 := k229.gi (Or.inl (tk_ne kM_at12 kM_at11 (by decide))) c198
          have c236 := k229.gi (Or.inl (tk_ne kM_at12 kM_at11 (by decide))) c205
          exact tk_vret hC hr hlocks hK ⟨hT, hF, ⟨⟨x30, c231, (show 0 ≤ x30.toInt by omega), (show x30.toInt ≤ 1 by omega)⟩, ⟨r199, c236, (show (-1) ≤ r199.toInt by omega), (show r199.toInt ≤ 9 by omega)⟩⟩⟩ hw dX12_words_206
    · refine lv_if_eq (tgt := 103) hx hb dX12_words_96 (by decide) (fun c => absurd c (by decide)) (fun _ => ?_)
      refine lv_lconst (v := 0) hx hb dX12_words_99 (by decide) ?_
      refine lv_goto (tgt := 104) hx hb dX12_words_100 (by decide) ?_
      refine tk_last hC hK hw hT kM_at11 (by decide) rfl (by decide) (by decide) dX12_words_104 (fun H locs w237 hw hT k239 => ?_)
      have hF := hF.put kM_at11 (inE_of (a := 0) (b := 10) (by decide) (by decide) (by decide)) k239
      have c240 := k239.gi (Or.inl (tk_ne kM_at12 kM_at11 (by decide))) c59
      have c241 := k239.gi (Or.inl (tk_ne kM_at0 kM_at11 (by decide))) c60
      have c242 := k239.gi (Or.inl (tk_ne kM_at12 kM_at11 (by decide))) c61
      have c243 := k239.gi (Or.inl (tk_ne kM_at0 kM_at11 (by decide))) c67
      refine lv_aload_n hx hb dX12_words_105 rfl (lv_at hl 2 rfl) ?_
      refine tk_getA hC hK hw hT hinX12 kM_at0 (by decide) rfl 25 (by decide) (List.mem_of_getElem? (i := 1) rfl) rfl rfl dX12_words_106 ?_
      refine lv_bipush (v := 6) hx hb dX12_words_109 (by decide) ?_
      refine lv_aload_n hx hb dX12_words_111 rfl (lv_at hl 2 rfl) ?_
      refine tk_getA hC hK hw hT hinX12 kM_at0 (by decide) rfl 29 (by decide) (List.mem_of_getElem? (i := 3) rfl) rfl rfl dX12_words_112 ?_
      refine lv_iload_n hx hb dX12_words_115 rfl (lv_at hl 0 rfl) ?_
      refine tk_iald hC hK hw hT kM_at14 rfl rfl (show 0 ≤ r9.toInt by omega) (show r9.toInt < 10 by omega) dX12_words_116 (fun x244 c245 rx244 tx244 => ?_)
      have c245 : gi w237 14 (r9.toInt).toNat = x244 := (congrArg (gi w237 14) (congrArg Int.toNat (show r9.toInt = r9.toInt by omega))).trans c245
      refine lv_ldcw (v := 100000000) hx hb hC.2.2.2.1 (hC.2.2.2.2 _ (List.mem_of_getElem? (i := 4) rfl)) dX12_words_117 ?_
      refine lv_icmp_ne (tgt := 127) hx hb dX12_words_120 (by decide) (fun c246 => ?_) (fun c246 => ?_)
      · have c246 : ¬ x244.toInt = (100000000 : Int) := wk_eqF c246
        refine lv_aload_n hx hb dX12_words_127 rfl (lv_at hl 2 rfl) ?_
        refine tk_getA hC hK hw hT hinX12 kM_at0 (by decide) rfl 29 (by decide) (List.mem_of_getElem? (i := 3) rfl) rfl rfl dX12_words_128 ?_
        refine lv_iload_n hx hb dX12_words_131 rfl (lv_at hl 0 rfl) ?_
        refine tk_iald hC hK hw hT kM_at14 rfl rfl (show 0 ≤ r9.toInt by omega) (show r9.toInt < 10 by omega) dX12_words_132 (fun x247 c248 rx247 tx247 => ?_)
        have c248 : gi w237 14 (r9.toInt).toNat = x247 := (congrArg (gi w237 14) (congrArg Int.toNat (show r9.toInt = r9.toInt by omega))).trans c248
        refine wk_top x244 (c248.symm.trans c245) ?_
        refine lv_i2l hx hb dX12_words_133 rfl ?_
        refine lv_topl (fun x249 ex249 => ?_)
        have ex249 : x249.toInt = x244.toInt := by rw [ex249]; exact wk_i2l _
        have bx249 := wk_i32 x244
        refine tk_last hC hK hw hT kM_at11 (by decide) rfl (by decide) (by decide) dX12_words_134 (fun H locs w250 hw hT k252 => ?_)
        have hF := hF.put kM_at11 (inE_of (a := 0) (b := 10) (by decide) (by decide) (by decide)) k252
        have c253 := k252.gi (Or.inl (tk_ne kM_at12 kM_at11 (by decide))) c240
        have c254 := k252.gi (Or.inl (tk_ne kM_at0 kM_at11 (by decide))) c241
        have c255 := k252.gi (Or.inl (tk_ne kM_at12 kM_at11 (by decide))) c242
        have c256 := k252.gi (Or.inl (tk_ne kM_at0 kM_at11 (by decide))) c243
        have c257 := k252.gi (Or.inl (tk_ne kM_at14 kM_at11 (by decide))) c245
        refine lv_aload_n hx hb dX12_words_135 rfl (lv_at hl 2 rfl) ?_
        refine tk_getA hC hK hw hT hinX12 kM_at0 (by decide) rfl 25 (by decide) (List.mem_of_getElem? (i := 1) rfl) rfl rfl dX12_words_136 ?_
        refine lv_bipush (v := 7) hx hb dX12_words_139 (by decide) ?_
        refine lv_aload_n hx hb dX12_words_141 rfl (lv_at hl 2 rfl) ?_
        refine tk_geti hC hK hw hT hinX12 kM_at0 (by decide) rfl 30 (by decide) (List.mem_of_getElem? (i := 2) rfl) rfl rfl dX12_words_142 (fun x258 c259 rx258 tx258 => ?_)
        refine wk_top x30 (c259.symm.trans c254) ?_
        refine lv_if_eq (tgt := 152) hx hb dX12_words_145 (by decide) (fun _ => ?_) (fun c => (c (wk_eq.mpr (show x30.toInt = (0 : Int) by omega))).elim)
        refine lv_aload_n hx hb dX12_words_152 rfl (lv_at hl 2 rfl) ?_
        refine lv_iload_n hx hb dX12_words_153 rfl (lv_at hl 3 rfl) ?_
        refine lv_iconst (v := 5) hx hb dX12_words_154 (by decide) ?_
        refine tk_Vi hC hK hw hT hA hE hSR kM_at0 (by decide) rfl (k_X12_walkerOf_16 l adK adV dC dI cy ad B (by omega) (by omega) qr s1    w250 H.size hT ) (cwV 2 hC.2.2.2.2 gX12_words_X12_walkerOf rfl rfl rfl (by decide +kernel) ⟨Nat.le_of_ble_eq_true rfl, Nat.le_of_ble_eq_true rfl⟩) rfl hl.1 rfl (Nat.le_of_ble_eq_true rfl) dX12_words_155 (fun r260 w262 H locs hp261 hw => ?_)
        obtain ⟨rfl, hg265⟩ := hp261
        have c264 := hg265
        refine lv_i2l hx hb dX12_words_158 rfl ?_
        refine lv_topl (fun x266 ex266 => ?_)
        have ex266 : x266.toInt = r260.toInt := by rw [ex266]; exact wk_i2l _
        have bx266 := wk_i32 r260
        refine tk_last hC hK hw hT kM_at11 (by decide) rfl (by decide) (by decide) dX12_words_159 (fun H locs w267 hw hT k269 => ?_)
        have hF := hF.put kM_at11 (inE_of (a := 0) (b := 10) (by decide) (by decide) (by decide)) k269
        have c270 := k269.gi (Or.inl (tk_ne kM_at12 kM_at11 (by decide))) c253
        have c271 := k269.gi (Or.inl (tk_ne kM_at0 kM_at11 (by decide))) c254
        have c272 := k269.gi (Or.inl (tk_ne kM_at12 kM_at11 (by decide))) c255
        have c273 := k269.gi (Or.inl (tk_ne kM_at0 kM_at11 (by decide))) c256
        have c274 := k269.gi (Or.inl (tk_ne kM_at14 kM_at11 (by decide))) c257
        have c275 := k269.gi (Or.inl (tk_ne kM_at12 kM_at11 (by decide))) c264
        refine lv_aload_n hx hb dX12_words_160 rfl (lv_at hl 2 rfl) ?_
        refine tk_getA hC hK hw hT hinX12 kM_at0 (by decide) rfl 25 (by decide) (List.mem_of_getElem? (i := 1) rfl) rfl rfl dX12_words_161 ?_
        refine lv_bipush (v := 8) hx hb dX12_words_164 (by decide) ?_
        refine lv_aload_n hx hb dX12_words_166 rfl (lv_at hl 2 rfl) ?_
        refine lv_iload_n hx hb dX12_words_167 rfl (lv_at hl 3 rfl) ?_
        refine lv_bipush (v := 6) hx hb dX12_words_168 (by decide) ?_
        refine tk_Vi hC hK hw hT hA hE hSR kM_at0 (by decide) rfl (k_X12_walkerOf_17 l adK adV dC dI cy ad B (by omega) (by omega) qr s1    w267 H.size hT ) (cwV 2 hC.2.2.2.2 gX12_words_X12_walkerOf rfl rfl rfl (by decide +kernel) ⟨Nat.le_of_ble_eq_true rfl, Nat.le_of_ble_eq_true rfl⟩) rfl hl.1 rfl (Nat.le_of_ble_eq_true rfl) dX12_words_170 (fun r276 w278 H locs hp277 hw => ?_)
        obtain ⟨rfl, hg281⟩ := hp277
        have c280 := hg281
        refine lv_i2l hx hb dX12_words_173 rfl ?_
        refine lv_topl (fun x282 ex282 => ?_)
        have ex282 : x282.toInt = r276.toInt := by rw [ex282]; exact wk_i2l _
        have bx282 := wk_i32 r276
        refine tk_last hC hK hw hT kM_at11 (by decide) rfl (by decide) (by decide) dX12_words_174 (fun H locs w283 hw hT k285 => ?_)
        have hF := hF.put kM_at11 (inE_of (a := 0) (b := 10) (by decide) (by decide) (by decide)) k285
        have c286 := k285.gi (Or.inl (tk_ne kM_at12 kM_at11 (by decide))) c270
        have c287 := k285.gi (Or.inl (tk_ne kM_at0 kM_at11 (by decide))) c271
        have c288 := k285.gi (Or.inl (tk_ne kM_at12 kM_at11 (by decide))) c272
        have c289 := k285.gi (Or.inl (tk_ne kM_at0 kM_at11 (by decide))) c273
        have c290 := k285.gi (Or.inl (tk_ne kM_at14 kM_at11 (by decide))) c274
        have c291 := k285.gi (Or.inl (tk_ne kM_at12 kM_at11 (by decide))) c275
        have c292 := k285.gi (Or.inl (tk_ne kM_at12 kM_at11 (by decide))) c280
        refine lv_aload_n hx hb dX12_words_175 rfl (lv_at hl 2 rfl) ?_
        refine tk_getA hC hK hw hT hinX12 kM_at0 (by decide) rfl 25 (by decide) (List.mem_of_getElem? (i := 1) rfl) rfl rfl dX12_words_176 ?_
        refine lv_bipush (v := 9) hx hb dX12_words_179 (by decide) ?_
        refine lv_aload_n hx hb dX12_words_181 rfl (lv_at hl 2 rfl) ?_
        refine lv_iload_n hx hb dX12_words_182 rfl (lv_at hl 3 rfl) ?_
        refine lv_bipush (v := 7) hx hb dX12_words_183 (by decide) ?_
        refine tk_Vi hC hK hw hT hA hE hSR kM_at0 (by decide) rfl (k_X12_walkerOf_18 l adK adV dC dI cy ad B (by omega) (by omega) qr s1    w283 H.size hT ) (cwV 2 hC.2.2.2.2 gX12_words_X12_walkerOf rfl rfl rfl (by decide +kernel) ⟨Nat.le_of_ble_eq_true rfl, Nat.le_of_ble_eq_true rfl⟩) rfl hl.1 rfl (Nat.le_of_ble_eq_true rfl) dX12_words_185 (fun r293 w295 H locs hp294 hw => ?_)
        obtain ⟨rfl, hg300⟩ := hp294
        obtain ⟨g297, g298, c299⟩ := hg300
        refine lv_if_ge (tgt := 197) hx hb dX12_words_188 (by decide) (fun c301 => ?_) (fun c301 => ?_)
        · have c301 : (0 : Int) ≤ r293.toInt := wk_le.mp c301
          refine lv_aload_n hx hb dX12_words_197 rfl (lv_at hl 2 rfl) ?_
          refine lv_iload_n hx hb dX12_words_198 rfl (lv_at hl 3 rfl) ?_
          refine lv_bipush (v := 7) hx hb dX12_words_199 (by decide) ?_
          refine tk_Vi hC hK hw hT hA hE hSR kM_at0 (by decide) rfl (k_X12_walkerOf_18 l adK adV dC dI cy ad B (by omega) (by omega) qr s1    w283 H.size hT ) (cwV 2 hC.2.2.2.2 gX12_words_X12_walkerOf rfl rfl rfl (by decide +kernel) ⟨Nat.le_of_ble_eq_true rfl, Nat.le_of_ble_eq_true rfl⟩) rfl hl.1 rfl (Nat.le_of_ble_eq_true rfl) dX12_words_201 (fun r302 w304 H locs hp303 hw => ?_)
          obtain ⟨rfl, hg309⟩ := hp303
          obtain ⟨g306, g307, c308⟩ := hg309
          obtain rfl : r293 = r302 := c299.symm.trans c308
          refine lv_i2l hx hb dX12_words_204 rfl ?_
          refine lv_topl (fun x310 ex310 => ?_)
          have ex310 : x310.toInt = r293.toInt := by rw [ex310]; exact wk_i2l _
          have bx310 := wk_i32 r293
          refine tk_last hC hK hw hT kM_at11 (by decide) rfl (by decide) (by decide) dX12_words_205 (fun H locs w311 hw hT k313 => ?_)
          have hF := hF.put kM_at11 (inE_of (a := 0) (b := 10) (by decide) (by decide) (by decide)) k313
          have c314 := k313.gi (Or.inl (tk_ne kM_at12 kM_at11 (by decide))) c286
          have c315 := k313.gi (Or.inl (tk_ne kM_at0 kM_at11 (by decide))) c287
          have c316 := k313.gi (Or.inl (tk_ne kM_at12 kM_at11 (by decide))) c288
          have c317 := k313.gi (Or.inl (tk_ne kM_at0 kM_at11 (by decide))) c289
          have c318 := k313.gi (Or.inl (tk_ne kM_at14 kM_at11 (by decide))) c290
          have c319 := k313.gi (Or.inl (tk_ne kM_at12 kM_at11 (by decide))) c291
          have c320 := k313.gi (Or.inl (tk_ne kM_at12 kM_at11 (by decide))) c292
          have c321 := k313.gi (Or.inl (tk_ne kM_at12 kM_at11 (by decide))) c299
          exact tk_vret hC hr hlocks hK ⟨hT, hF, ⟨⟨x30, c315, (show 0 ≤ x30.toInt by omega), (show x30.toInt ≤ 1 by omega)⟩, ⟨r293, c321, (show (-1) ≤ r293.toInt by omega), (show r293.toInt ≤ 9 by omega)⟩⟩⟩ hw dX12_words_206
        · have c301 : r293.toInt < (0 : Int) := wk_leF c301
          refine lv_ldc2 (v := 99) hx hb hC.2.2.2.1 (hC.2.2.2.2 _ (List.mem_of_getElem? (i := 5) rfl)) dX12_words_191 ?_
          refine lv_goto (tgt := 205) hx hb dX12_words_194 (by decide) ?_
          refine tk_last hC hK hw hT kM_at11 (by decide) rfl (by decide) (by decide) dX12_words_205 (fun H locs w322 hw hT k324 => ?_)
          have hF := hF.put kM_at11 (inE_of (a := 0) (b := 10) (by decide) (by decide) (by decide)) k324
          have c325 := k324.gi (Or.inl (tk_ne kM_at12 kM_at11 (by decide))) c286
          have c326 := k324.gi (Or.inl (tk_ne kM_at0 kM_at11 (by decide))) c287
          have c327 := k324.gi (Or.inl (tk_ne kM_at12 kM_at11 (by decide))) c288
          have c328 := k324.gi (Or.inl (tk_ne kM_at0 kM_at11 (by decide))) c289
          have c329 := k324.gi (Or.inl (tk_ne kM_at14 kM_at11 (by decide))) c290
          have c330 := k324.gi (Or.inl (tk_ne kM_at12 kM_at11 (by decide))) c291
          have c331 := k324.gi (Or.inl (tk_ne kM_at12 kM_at11 (by decide))) c292
          have c332 := k324.gi (Or.inl (tk_ne kM_at12 kM_at11 (by decide))) c299
          exact tk_vret hC hr hlocks hK ⟨hT, hF, ⟨⟨x30, c326, (show 0 ≤ x30.toInt by omega), (show x30.toInt ≤ 1 by omega)⟩, ⟨r293, c332, (show (-1) ≤ r293.toInt by omega), (show r293.toInt ≤ 9 by omega)⟩⟩⟩ hw dX12_words_206
      · have c246 : x244.toInt = (100000000 : Int) := wk_eq.mp c246
        refine lv_lconst (v := 0) hx hb dX12_words_123 (by decide) ?_
        refine lv_goto (tgt := 134) hx hb dX12_words_124 (by decide) ?_
        refine tk_last hC hK hw hT kM_at11 (by decide) rfl (by decide) (by decide) dX12_words_134 (fun H locs w333 hw hT k335 => ?_)
        have hF := hF.put kM_at11 (inE_of (a := 0) (b := 10) (by decide) (by decide) (by decide)) k335
        have c336 := k335.gi (Or.inl (tk_ne kM_at12 kM_at11 (by decide))) c240
        have c337 := k335.gi (Or.inl (tk_ne kM_at0 kM_at11 (by decide))) c241
        have c338 := k335.gi (Or.inl (tk_ne kM_at12 kM_at11 (by decide))) c242
        have c339 := k335.gi (Or.inl (tk_ne kM_at0 kM_at11 (by decide))) c243
        have c340 := k335.gi (Or.inl (tk_ne kM_at14 kM_at11 (by decide))) c245
        refine lv_aload_n hx hb dX12_words_135 rfl (lv_at hl 2 rfl) ?_
        refine tk_getA hC hK hw hT hinX12 kM_at0 (by decide) rfl 25 (by decide) (List.mem_of_getElem? (i := 1) rfl) rfl rfl dX12_words_136 ?_
        refine lv_bipush (v := 7) hx hb dX12_words_139 (by decide) ?_
        refine lv_aload_n hx hb dX12_words_141 rfl (lv_at hl 2 rfl) ?_
        refine tk_geti hC hK hw hT hinX12 kM_at0 (by decide) rfl 30 (by decide) (List.mem_of_getElem? (i := 2) rfl) rfl rfl dX12_words_142 (fun x341 c342 rx341 tx341 => ?_)
        refine wk_top x30 (c342.symm.trans c337) ?_
        refine lv_if_eq (tgt := 152) hx hb dX12_words_145 (by decide) (fun _ => ?_) (fun c => (c (wk_eq.mpr (show x30.toInt = (0 : Int) by omega))).elim)
        refine lv_aload_n hx hb dX12_words_152 rfl (lv_at hl 2 rfl) ?_
        refine lv_iload_n hx hb dX12_words_153 rfl (lv_at hl 3 rfl) ?_
        refine lv_iconst (v := 5) hx hb dX12_words_154 (by decide) ?_
        refine tk_Vi hC hK hw hT hA hE hSR kM_at0 (by decide) rfl (k_X12_walkerOf_16 l adK adV dC dI cy ad B (by omega) (by omega) qr s1    w333 H.size hT ) (cwV 2 hC.2.2.2.2 gX12_words_X12_walkerOf rfl rfl rfl (by decide +kernel) ⟨Nat.le_of_ble_eq_true rfl, Nat.le_of_ble_eq_true rfl⟩) rfl hl.1 rfl (Nat.le_of_ble_eq_true rfl) dX12_words_155 (fun r343 w345 H locs hp344 hw => ?_)
        obtain ⟨rfl, hg348⟩ := hp344
        have c347 := hg348
        refine lv_i2l hx hb dX12_words_158 rfl ?_
        refine lv_topl (fun x349 ex349 => ?_)
        have ex349 : x349.toInt = r343.toInt := by rw [ex349]; exact wk_i2l _
        have bx349 := wk_i32 r343
        refine tk_last hC hK hw hT kM_at11 (by decide) rfl (by decide) (by decide) dX12_words_159 (fun H locs w350 hw hT k352 => ?_)
        have hF := hF.put kM_at11 (inE_of (a := 0) (b := 10) (by decide) (by decide) (by decide)) k352
        have c353 := k352.gi (Or.inl (tk_ne kM_at12 kM_at11 (by decide))) c336
        have c354 := k352.gi (Or.inl (tk_ne kM_at0 kM_at11 (by decide))) c337
        have c355 := k352.gi (Or.inl (tk_ne kM_at12 kM_at11 (by decide))) c338
        have c356 := k352.gi (Or.inl (tk_ne kM_at0 kM_at11 (by decide))) c339
        have c357 := k352.gi (Or.inl (tk_ne kM_at14 kM_at11 (by decide))) c340
        have c358 := k352.gi (Or.inl (tk_ne kM_at12 kM_at11 (by decide))) c347
        refine lv_aload_n hx hb dX12_words_160 rfl (lv_at hl 2 rfl) ?_
        refine tk_getA hC hK hw hT hinX12 kM_at0 (by decide) rfl 25 (by decide) (List.mem_of_getElem? (i := 1) rfl) rfl rfl dX12_words_161 ?_
        refine lv_bipush (v := 8) hx hb dX12_words_164 (by decide) ?_
        refine lv_aload_n hx hb dX12_words_166 rfl (lv_at hl 2 rfl) ?_
        refine lv_iload_n hx hb dX12_words_167 rfl (lv_at hl 3 rfl) ?_
        refine lv_bipush (v := 6) hx hb dX12_words_168 (by decide) ?_
        refine tk_Vi hC hK hw hT hA hE hSR kM_at0 (by decide) rfl (k_X12_walkerOf_17 l adK adV dC dI cy ad B (by omega) (by omega) qr s1    w350 H.size hT ) (cwV 2 hC.2.2.2.2 gX12_words_X12_walkerOf rfl rfl rfl (by decide +kernel) ⟨Nat.le_of_ble_eq_true rfl, Nat.le_of_ble_eq_true rfl⟩) rfl hl.1 rfl (Nat.le_of_ble_eq_true rfl) dX12_words_170 (fun r359 w361 H locs hp360 hw => ?_)
        obtain ⟨rfl, hg364⟩ := hp360
        have c363 := hg364
        refine lv_i2l hx hb dX12_words_173 rfl ?_
        refine lv_topl (fun x365 ex365 => ?_)
        have ex365 : x365.toInt = r359.toInt := by rw [ex365]; exact wk_i2l _
        have bx365 := wk_i32 r359
        refine tk_last hC hK hw hT kM_at11 (by decide) rfl (by decide) (by decide) dX12_words_174 (fun H locs w366 hw hT k368 => ?_)
        have hF := hF.put kM_at11 (inE_of (a := 0) (b := 10) (by decide) (by decide) (by decide)) k368
        have c369 := k368.gi (Or.inl (tk_ne kM_at12 kM_at11 (by decide))) c353
        have c370 := k368.gi (Or.inl (tk_ne kM_at0 kM_at11 (by decide))) c354
        have c371 := k368.gi (Or.inl (tk_ne kM_at12 kM_at11 (by decide))) c355
        have c372 := k368.gi (Or.inl (tk_ne kM_at0 kM_at11 (by decide))) c356
        have c373 := k368.gi (Or.inl (tk_ne kM_at14 kM_at11 (by decide))) c357
        have c374 := k368.gi (Or.inl (tk_ne kM_at12 kM_at11 (by decide))) c358
        have c375 := k368.gi (Or.inl (tk_ne kM_at12 kM_at11 (by decide))) c363
        refine lv_aload_n hx hb dX12_words_175 rfl (lv_at hl 2 rfl) ?_
        refine tk_getA hC hK hw hT hinX12 kM_at0 (by decide) rfl 25 (by decide) (List.mem_of_getElem? (i := 1) rfl) rfl rfl dX12_words_176 ?_
        refine lv_bipush (v := 9) hx hb dX12_words_179 (by decide) ?_
        refine lv_aload_n hx hb dX12_words_181 rfl (lv_at hl 2 rfl) ?_
        refine lv_iload_n hx hb dX12_words_182 rfl (lv_at hl 3 rfl) ?_
        refine lv_bipush (v := 7) hx hb dX12_words_183 (by decide) ?_
        refine tk_Vi hC hK hw hT hA hE hSR kM_at0 (by decide) rfl (k_X12_walkerOf_18 l adK adV dC dI cy ad B (by omega) (by omega) qr s1    w366 H.size hT ) (cwV 2 hC.2.2.2.2 gX12_words_X12_walkerOf rfl rfl rfl (by decide +kernel) ⟨Nat.le_of_ble_eq_true rfl, Nat.le_of_ble_eq_true rfl⟩) rfl hl.1 rfl (Nat.le_of_ble_eq_true rfl) dX12_words_185 (fun r376 w378 H locs hp377 hw => ?_)
        obtain ⟨rfl, hg383⟩ := hp377
        obtain ⟨g380, g381, c382⟩ := hg383
        refine lv_if_ge (tgt := 197) hx hb dX12_words_188 (by decide) (fun c384 => ?_) (fun c384 => ?_)
        · have c384 : (0 : Int) ≤ r376.toInt := wk_le.mp c384
          refine lv_aload_n hx hb dX12_words_197 rfl (lv_at hl 2 rfl) ?_
          refine lv_iload_n hx hb dX12_words_198 rfl (lv_at hl 3 rfl) ?_
          refine lv_bipush (v := 7) hx hb dX12_words_199 (by decide) ?_
          refine tk_Vi hC hK hw hT hA hE hSR kM_at0 (by decide) rfl (k_X12_walkerOf_18 l adK adV dC dI cy ad B (by omega) (by omega) qr s1    w366 H.size hT ) (cwV 2 hC.2.2.2.2 gX12_words_X12_walkerOf rfl rfl rfl (by decide +kernel) ⟨Nat.le_of_ble_eq_true rfl, Nat.le_of_ble_eq_true rfl⟩) rfl hl.1 rfl (Nat.le_of_ble_eq_true rfl) dX12_words_201 (fun r385 w387 H locs hp386 hw => ?_)
          obtain ⟨rfl, hg392⟩ := hp386
          obtain ⟨g389, g390, c391⟩ := hg392
          obtain rfl : r376 = r385 := c382.symm.trans c391
          refine lv_i2l hx hb dX12_words_204 rfl ?_
          refine lv_topl (fun x393 ex393 => ?_)
          have ex393 : x393.toInt = r376.toInt := by rw [ex393]; exact wk_i2l _
          have bx393 := wk_i32 r376
          refine tk_last hC hK hw hT kM_at11 (by decide) rfl (by decide) (by decide) dX12_words_205 (fun H locs w394 hw hT k396 => ?_)
          have hF := hF.put kM_at11 (inE_of (a := 0) (b := 10) (by decide) (by decide) (by decide)) k396
          have c397 := k396.gi (Or.inl (tk_ne kM_at12 kM_at11 (by decide))) c369
          have c398 := k396.gi (Or.inl (tk_ne kM_at0 kM_at11 (by decide))) c370
          have c399 := k396.gi (Or.inl (tk_ne kM_at12 kM_at11 (by decide))) c371
          have c400 := k396.gi (Or.inl (tk_ne kM_at0 kM_at11 (by decide))) c372
          have c401 := k396.gi (Or.inl (tk_ne kM_at14 kM_at11 (by decide))) c373
          have c402 := k396.gi (Or.inl (tk_ne kM_at12 kM_at11 (by decide))) c374
          have c403 := k396.gi (Or.inl (tk_ne kM_at12 kM_at11 (by decide))) c375
          have c404 := k396.gi (Or.inl (tk_ne kM_at12 kM_at11 (by decide))) c382
          exact tk_vret hC hr hlocks hK ⟨hT, hF, ⟨⟨x30, c398, (show 0 ≤ x30.toInt by omega), (show x30.toInt ≤ 1 by omega)⟩, ⟨r376, c404, (show (-1) ≤ r376.toInt by omega), (show r376.toInt ≤ 9 by omega)⟩⟩⟩ hw dX12_words_206
        · have c384 : r376.toInt < (0 : Int) := wk_leF c384
          refine lv_ldc2 (v := 99) hx hb hC.2.2.2.1 (hC.2.2.2.2 _ (List.mem_of_getElem? (i := 5) rfl)) dX12_words_191 ?_
          refine lv_goto (tgt := 205) hx hb dX12_words_194 (by decide) ?_
          refine tk_last hC hK hw hT kM_at11 (by decide) rfl (by decide) (by decide) dX12_words_205 (fun H locs w405 hw hT k407 => ?_)
          have hF := hF.put kM_at11 (inE_of (a := 0) (b := 10) (by decide) (by decide) (by decide)) k407
          have c408 := k407.gi (Or.inl (tk_ne kM_at12 kM_at11 (by decide))) c369
          have c409 := k407.gi (Or.inl (tk_ne kM_at0 kM_at11 (by decide))) c370
          have c410 := k407.gi (Or.inl (tk_ne kM_at12 kM_at11 (by decide))) c371
          have c411 := k407.gi (Or.inl (tk_ne kM_at0 kM_at11 (by decide))) c372
          have c412 := k407.gi (Or.inl (tk_ne kM_at14 kM_at11 (by decide))) c373
          have c413 := k407.gi (Or.inl (tk_ne kM_at12 kM_at11 (by decide))) c374
          have c414 := k407.gi (Or.inl (tk_ne kM_at12 kM_at11 (by decide))) c375
          have c415 := k407.gi (Or.inl (tk_ne kM_at12 kM_at11 (by decide))) c382
          exact tk_vret hC hr hlocks hK ⟨hT, hF, ⟨⟨x30, c409, (show 0 ≤ x30.toInt by omega), (show x30.toInt ≤ 1 by omega)⟩, ⟨r376, c415, (show (-1) ≤ r376.toInt by omega), (show r376.toInt ≤ 9 by omega)⟩⟩⟩ hw dX12_words_206
  · have c32 : ¬ x30.toInt = (0 : Int) := wk_eqF c32
    refine lv_lconst (v := 0) hx hb dX12_words_51 (by decide) ?_
    refine lv_goto (tgt := 64) hx hb dX12_words_52 (by decide) ?_
    refine tk_last hC hK hw hT kM_at11 (by decide) rfl (by decide) (by decide) dX12_words_64 (fun H locs w416 hw hT k418 => ?_)
    have hF := hF.put kM_at11 (inE_of (a := 0) (b := 10) (by decide) (by decide) (by decide)) k418
    have c419 := k418.gi (Or.inl (tk_ne kM_at12 kM_at11 (by decide))) c29
    have c420 := k418.gi (Or.inl (tk_ne kM_at0 kM_at11 (by decide))) c31
    refine lv_aload_n hx hb dX12_words_65 rfl (lv_at hl 2 rfl) ?_
    refine tk_getA hC hK hw hT hinX12 kM_at0 (by decide) rfl 25 (by decide) (List.mem_of_getElem? (i := 1) rfl) rfl rfl dX12_words_66 ?_
    refine lv_iconst (v := 3) hx hb dX12_words_69 (by decide) ?_
    refine lv_iload_n hx hb dX12_words_70 rfl (lv_at hl 0 rfl) ?_
    refine lv_i2l hx hb dX12_words_71 rfl ?_
    refine lv_topl (fun x421 ex421 => ?_)
    have ex421 : x421.toInt = r9.toInt := by rw [ex421]; exact wk_i2l _
    have bx421 := wk_i32 r9
    refine tk_last hC hK hw hT kM_at11 (by decide) rfl (by decide) (by decide) dX12_words_72 (fun H locs w422 hw hT k424 => ?_)
    have hF := hF.put kM_at11 (inE_of (a := 0) (b := 10) (by decide) (by decide) (by decide)) k424
    have c425 := k424.gi (Or.inl (tk_ne kM_at12 kM_at11 (by decide))) c419
    have c426 := k424.gi (Or.inl (tk_ne kM_at0 kM_at11 (by decide))) c420
    refine lv_aload_n hx hb dX12_words_73 rfl (lv_at hl 2 rfl) ?_
    refine tk_getA hC hK hw hT hinX12 kM_at0 (by decide) rfl 25 (by decide) (List.mem_of_getElem? (i := 1) rfl) rfl rfl dX12_words_74 ?_
    refine lv_iconst (v := 4) hx hb dX12_words_77 (by decide) ?_
    refine lv_aload_n hx hb dX12_words_78 rfl (lv_at hl 2 rfl) ?_
    refine lv_iload_n hx hb dX12_words_79 rfl (lv_at hl 3 rfl) ?_
    refine lv_iconst (v := 1) hx hb dX12_words_80 (by decide) ?_
    refine tk_Vi hC hK hw hT hA hE hSR kM_at0 (by decide) rfl (k_X12_walkerOf_12 l adK adV dC dI cy ad B (by omega) (by omega) qr s1    w422 H.size hT ) (cwV 2 hC.2.2.2.2 gX12_words_X12_walkerOf rfl rfl rfl (by decide +kernel) ⟨Nat.le_of_ble_eq_true rfl, Nat.le_of_ble_eq_true rfl⟩) rfl hl.1 rfl (Nat.le_of_ble_eq_true rfl) dX12_words_81 (fun r427 w429 H locs hp428 hw => ?_)
    obtain ⟨rfl, hg434⟩ := hp428
    obtain ⟨g431, g432, c433⟩ := hg434
    refine lv_i2l hx hb dX12_words_84 rfl ?_
    refine lv_topl (fun x435 ex435 => ?_)
    have ex435 : x435.toInt = r427.toInt := by rw [ex435]; exact wk_i2l _
    have bx435 := wk_i32 r427
    refine tk_last hC hK hw hT kM_at11 (by decide) rfl (by decide) (by decide) dX12_words_85 (fun H locs w436 hw hT k438 => ?_)
    have hF := hF.put kM_at11 (inE_of (a := 0) (b := 10) (by decide) (by decide) (by decide)) k438
    have c439 := k438.gi (Or.inl (tk_ne kM_at12 kM_at11 (by decide))) c425
    have c440 := k438.gi (Or.inl (tk_ne kM_at0 kM_at11 (by decide))) c426
    have c441 := k438.gi (Or.inl (tk_ne kM_at12 kM_at11 (by decide))) c433
    refine lv_aload_n hx hb dX12_words_86 rfl (lv_at hl 2 rfl) ?_
    refine tk_getA hC hK hw hT hinX12 kM_at0 (by decide) rfl 25 (by decide) (List.mem_of_getElem? (i := 1) rfl) rfl rfl dX12_words_87 ?_
    refine lv_iconst (v := 5) hx hb dX12_words_90 (by decide) ?_
    refine lv_aload_n hx hb dX12_words_91 rfl (lv_at hl 2 rfl) ?_
    refine lv_iload_n hx hb dX12_words_92 rfl (lv_at hl 3 rfl) ?_
    refine tk_Vi hC hK hw hT hA hE hSR kM_at0 (by decide) rfl (k_X12_canGo_2 l adK adV dC dI cy ad B (by omega) (by omega) qr s1    w436 H.size hT ) (cwV 1 hC.2.2.2.2 gX12_words_X12_canGo rfl rfl rfl (by decide +kernel) ⟨Nat.le_of_ble_eq_true rfl, Nat.le_of_ble_eq_true rfl⟩) rfl hl.1 rfl (Nat.le_of_ble_eq_true rfl) dX12_words_93 (fun r442 w444 H locs hp443 hw => ?_)
    obtain ⟨rfl, hg448⟩ := hp443
    rcases hg448 with rfl | ⟨rfl, ⟨x446, c447, rx446, tx446⟩⟩
    · refine lv_if_eq (tgt := 103) hx hb dX12_words_96 (by decide) (fun _ => ?_) (fun c => absurd (by decide) c)
      refine lv_lconst (v := 1) hx hb dX12_words_103 (by decide) ?_
      refine tk_last hC hK hw hT kM_at11 (by decide) rfl (by decide) (by decide) dX12_words_104 (fun H locs w449 hw hT k451 => ?_)
      have hF := hF.put kM_at11 (inE_of (a := 0) (b := 10) (by decide) (by decide) (by decide)) k451
      have c452 := k451.gi (Or.inl (tk_ne kM_at12 kM_at11 (by decide))) c439
      have c453 := k451.gi (Or.inl (tk_ne kM_at0 kM_at11 (by decide))) c440
      have c454 := k451.gi (Or.inl (tk_ne kM_at12 kM_at11 (by decide))) c441
      refine lv_aload_n hx hb dX12_words_105 rfl (lv_at hl 2 rfl) ?_
      refine tk_getA hC hK hw hT hinX12 kM_at0 (by decide) rfl 25 (by decide) (List.mem_of_getElem? (i := 1) rfl) rfl rfl dX12_words_106 ?_
      refine lv_bipush (v := 6) hx hb dX12_words_109 (by decide) ?_
      refine lv_aload_n hx hb dX12_words_111 rfl (lv_at hl 2 rfl) ?_
      refine tk_getA hC hK hw hT hinX12 kM_at0 (by decide) rfl 29 (by decide) (List.mem_of_getElem? (i := 3) rfl) rfl rfl dX12_words_112 ?_
      refine lv_iload_n hx hb dX12_words_115 rfl (lv_at hl 0 rfl) ?_
      refine tk_iald hC hK hw hT kM_at14 rfl rfl (show 0 ≤ r9.toInt by omega) (show r9.toInt < 10 by omega) dX12_words_116 (fun x455 c456 rx455 tx455 => ?_)
      have c456 : gi w449 14 (r9.toInt).toNat = x455 := (congrArg (gi w449 14) (congrArg Int.toNat (show r9.toInt = r9.toInt by omega))).trans c456
      refine lv_ldcw (v := 100000000) hx hb hC.2.2.2.1 (hC.2.2.2.2 _ (List.mem_of_getElem? (i := 4) rfl)) dX12_words_117 ?_
      refine lv_icmp_ne (tgt := 127) hx hb dX12_words_120 (by decide) (fun c457 => ?_) (fun c457 => ?_)
      · have c457 : ¬ x455.toInt = (100000000 : Int) := wk_eqF c457
        refine lv_aload_n hx hb dX12_words_127 rfl (lv_at hl 2 rfl) ?_
        refine tk_getA hC hK hw hT hinX12 kM_at0 (by decide) rfl 29 (by decide) (List.mem_of_getElem? (i := 3) rfl) rfl rfl dX12_words_128 ?_
        refine lv_iload_n hx hb dX12_words_131 rfl (lv_at hl 0 rfl) ?_
        refine tk_iald hC hK hw hT kM_at14 rfl rfl (show 0 ≤ r9.toInt by omega) (show r9.toInt < 10 by omega) dX12_words_132 (fun x458 c459 rx458 tx458 => ?_)
        have c459 : gi w449 14 (r9.toInt).toNat = x458 := (congrArg (gi w449 14) (congrArg Int.toNat (show r9.toInt = r9.toInt by omega))).trans c459
        refine wk_top x455 (c459.symm.trans c456) ?_
        refine lv_i2l hx hb dX12_words_133 rfl ?_
        refine lv_topl (fun x460 ex460 => ?_)
        have ex460 : x460.toInt = x455.toInt := by rw [ex460]; exact wk_i2l _
        have bx460 := wk_i32 x455
        refine tk_last hC hK hw hT kM_at11 (by decide) rfl (by decide) (by decide) dX12_words_134 (fun H locs w461 hw hT k463 => ?_)
        have hF := hF.put kM_at11 (inE_of (a := 0) (b := 10) (by decide) (by decide) (by decide)) k463
        have c464 := k463.gi (Or.inl (tk_ne kM_at12 kM_at11 (by decide))) c452
        have c465 := k463.gi (Or.inl (tk_ne kM_at0 kM_at11 (by decide))) c453
        have c466 := k463.gi (Or.inl (tk_ne kM_at12 kM_at11 (by decide))) c454
        have c467 := k463.gi (Or.inl (tk_ne kM_at14 kM_at11 (by decide))) c456
        refine lv_aload_n hx hb dX12_words_135 rfl (lv_at hl 2 rfl) ?_
        refine tk_getA hC hK hw hT hinX12 kM_at0 (by decide) rfl 25 (by decide) (List.mem_of_getElem? (i := 1) rfl) rfl rfl dX12_words_136 ?_
        refine lv_bipush (v := 7) hx hb dX12_words_139 (by decide) ?_
        refine lv_aload_n hx hb dX12_words_141 rfl (lv_at hl 2 rfl) ?_
        refine tk_geti hC hK hw hT hinX12 kM_at0 (by decide) rfl 30 (by decide) (List.mem_of_getElem? (i := 2) rfl) rfl rfl dX12_words_142 (fun x468 c469 rx468 tx468 => ?_)
        refine wk_top x30 (c469.symm.trans c465) ?_
        refine lv_if_eq (tgt := 152) hx hb dX12_words_145 (by decide) (fun c => absurd c (fun h => absurd (show x30.toInt = (0 : Int) from wk_eq.mp h) (by omega))) (fun _ => ?_)
        refine lv_lconst (v := 0) hx hb dX12_words_148 (by decide) ?_
        refine lv_goto (tgt := 159) hx hb dX12_words_149 (by decide) ?_
        refine tk_last hC hK hw hT kM_at11 (by decide) rfl (by decide) (by decide) dX12_words_159 (fun H locs w470 hw hT k472 => ?_)
        have hF := hF.put kM_at11 (inE_of (a := 0) (b := 10) (by decide) (by decide) (by decide)) k472
        have c473 := k472.gi (Or.inl (tk_ne kM_at12 kM_at11 (by decide))) c464
        have c474 := k472.gi (Or.inl (tk_ne kM_at0 kM_at11 (by decide))) c465
        have c475 := k472.gi (Or.inl (tk_ne kM_at12 kM_at11 (by decide))) c466
        have c476 := k472.gi (Or.inl (tk_ne kM_at14 kM_at11 (by decide))) c467
        refine lv_aload_n hx hb dX12_words_160 rfl (lv_at hl 2 rfl) ?_
        refine tk_getA hC hK hw hT hinX12 kM_at0 (by decide) rfl 25 (by decide) (List.mem_of_getElem? (i := 1) rfl) rfl rfl dX12_words_161 ?_
        refine lv_bipush (v := 8) hx hb dX12_words_164 (by decide) ?_
        refine lv_aload_n hx hb dX12_words_166 rfl (lv_at hl 2 rfl) ?_
        refine lv_iload_n hx hb dX12_words_167 rfl (lv_at hl 3 rfl) ?_
        refine lv_bipush (v := 6) hx hb dX12_words_168 (by decide) ?_
        refine tk_Vi hC hK hw hT hA hE hSR kM_at0 (by decide) rfl (k_X12_walkerOf_17 l adK adV dC dI cy ad B (by omega) (by omega) qr s1    w470 H.size hT ) (cwV 2 hC.2.2.2.2 gX12_words_X12_walkerOf rfl rfl rfl (by decide +kernel) ⟨Nat.le_of_ble_eq_true rfl, Nat.le_of_ble_eq_true rfl⟩) rfl hl.1 rfl (Nat.le_of_ble_eq_true rfl) dX12_words_170 (fun r477 w479 H locs hp478 hw => ?_)
        obtain ⟨rfl, hg482⟩ := hp478
        have c481 := hg482
        refine lv_i2l hx hb dX12_words_173 rfl ?_
        refine lv_topl (fun x483 ex483 => ?_)
        have ex483 : x483.toInt = r477.toInt := by rw [ex483]; exact wk_i2l _
        have bx483 := wk_i32 r477
        refine tk_last hC hK hw hT kM_at11 (by decide) rfl (by decide) (by decide) dX12_words_174 (fun H locs w484 hw hT k486 => ?_)
        have hF := hF.put kM_at11 (inE_of (a := 0) (b := 10) (by decide) (by decide) (by decide)) k486
        have c487 := k486.gi (Or.inl (tk_ne kM_at12 kM_at11 (by decide))) c473
        have c488 := k486.gi (Or.inl (tk_ne kM_at0 kM_at11 (by decide))) c474
        have c489 := k486.gi (Or.inl (tk_ne kM_at12 kM_at11 (by decide))) c475
        have c490 := k486.gi (Or.inl (tk_ne kM_at14 kM_at11 (by decide))) c476
        have c491 := k486.gi (Or.inl (tk_ne kM_at12 kM_at11 (by decide))) c481
        refine lv_aload_n hx hb dX12_words_175 rfl (lv_at hl 2 rfl) ?_
        refine tk_getA hC hK hw hT hinX12 kM_at0 (by decide) rfl 25 (by decide) (List.mem_of_getElem? (i := 1) rfl) rfl rfl dX12_words_176 ?_
        refine lv_bipush (v := 9) hx hb dX12_words_179 (by decide) ?_
        refine lv_aload_n hx hb dX12_words_181 rfl (lv_at hl 2 rfl) ?_
        refine lv_iload_n hx hb dX12_words_182 rfl (lv_at hl 3 rfl) ?_
        refine lv_bipush (v := 7) hx hb dX12_words_183 (by decide) ?_
        refine tk_Vi hC hK hw hT hA hE hSR kM_at0 (by decide) rfl (k_X12_walkerOf_18 l adK adV dC dI cy ad B (by omega) (by omega) qr s1    w484 H.size hT ) (cwV 2 hC.2.2.2.2 gX12_words_X12_walkerOf rfl rfl rfl (by decide +kernel) ⟨Nat.le_of_ble_eq_true rfl, Nat.le_of_ble_eq_true rfl⟩) rfl hl.1 rfl (Nat.le_of_ble_eq_true rfl) dX12_words_185 (fun r492 w494 H locs hp493 hw => ?_)
        obtain ⟨rfl, hg499⟩ := hp493
        obtain ⟨g496, g497, c498⟩ := hg499
        refine lv_if_ge (tgt := 197) hx hb dX12_words_188 (by decide) (fun c500 => ?_) (fun c500 => ?_)
        · have c500 : (0 : Int) ≤ r492.toInt := wk_le.mp c500
          refine lv_aload_n hx hb dX12_words_197 rfl (lv_at hl 2 rfl) ?_
          refine lv_iload_n hx hb dX12_words_198 rfl (lv_at hl 3 rfl) ?_
          refine lv_bipush (v := 7) hx hb dX12_words_199 (by decide) ?_
          refine tk_Vi hC hK hw hT hA hE hSR kM_at0 (by decide) rfl (k_X12_walkerOf_18 l adK adV dC dI cy ad B (by omega) (by omega) qr s1    w484 H.size hT ) (cwV 2 hC.2.2.2.2 gX12_words_X12_walkerOf rfl rfl rfl (by decide +kernel) ⟨Nat.le_of_ble_eq_true rfl, Nat.le_of_ble_eq_true rfl⟩) rfl hl.1 rfl (Nat.le_of_ble_eq_true rfl) dX12_words_201 (fun r501 w503 H locs hp502 hw => ?_)
          obtain ⟨rfl, hg508⟩ := hp502
          obtain ⟨g505, g506, c507⟩ := hg508
          obtain rfl : r492 = r501 := c498.symm.trans c507
          refine lv_i2l hx hb dX12_words_204 rfl ?_
          refine lv_topl (fun x509 ex509 => ?_)
          have ex509 : x509.toInt = r492.toInt := by rw [ex509]; exact wk_i2l _
          have bx509 := wk_i32 r492
          refine tk_last hC hK hw hT kM_at11 (by decide) rfl (by decide) (by decide) dX12_words_205 (fun H locs w510 hw hT k512 => ?_)
          have hF := hF.put kM_at11 (inE_of (a := 0) (b := 10) (by decide) (by decide) (by decide)) k512
          have c513 := k512.gi (Or.inl (tk_ne kM_at12 kM_at11 (by decide))) c487
          have c514 := k512.gi (Or.inl (tk_ne kM_at0 kM_at11 (by decide))) c488
          have c515 := k512.gi (Or.inl (tk_ne kM_at12 kM_at11 (by decide))) c489
          have c516 := k512.gi (Or.inl (tk_ne kM_at14 kM_at11 (by decide))) c490
          have c517 := k512.gi (Or.inl (tk_ne kM_at12 kM_at11 (by decide))) c491
          have c518 := k512.gi (Or.inl (tk_ne kM_at12 kM_at11 (by decide))) c498
          exact tk_vret hC hr hlocks hK ⟨hT, hF, ⟨⟨x30, c514, (show 0 ≤ x30.toInt by omega), (show x30.toInt ≤ 1 by omega)⟩, ⟨r492, c518, (show (-1) ≤ r492.toInt by omega), (show r492.toInt ≤ 9 by omega)⟩⟩⟩ hw dX12_words_206
        · have c500 : r492.toInt < (0 : Int) := wk_leF c500
          refine lv_ldc2 (v := 99) hx hb hC.2.2.2.1 (hC.2.2.2.2 _ (List.mem_of_getElem? (i := 5) rfl)) dX12_words_191 ?_
          refine lv_goto (tgt := 205) hx hb dX12_words_194 (by decide) ?_
          refine tk_last hC hK hw hT kM_at11 (by decide) rfl (by decide) (by decide) dX12_words_205 (fun H locs w519 hw hT k521 => ?_)
          have hF := hF.put kM_at11 (inE_of (a := 0) (b := 10) (by decide) (by decide) (by decide)) k521
          have c522 := k521.gi (Or.inl (tk_ne kM_at12 kM_at11 (by decide))) c487
          have c523 := k521.gi (Or.inl (tk_ne kM_at0 kM_at11 (by decide))) c488
          have c524 := k521.gi (Or.inl (tk_ne kM_at12 kM_at11 (by decide))) c489
          have c525 := k521.gi (Or.inl (tk_ne kM_at14 kM_at11 (by decide))) c490
          have c526 := k521.gi (Or.inl (tk_ne kM_at12 kM_at11 (by decide))) c491
          have c527 := k521.gi (Or.inl (tk_ne kM_at12 kM_at11 (by decide))) c498
          exact tk_vret hC hr hlocks hK ⟨hT, hF, ⟨⟨x30, c523, (show 0 ≤ x30.toInt by omega), (show x30.toInt ≤ 1 by omega)⟩, ⟨r492, c527, (show (-1) ≤ r492.toInt by omega), (show r492.toInt ≤ 9 by omega)⟩⟩⟩ hw dX12_words_206
      · have c457 : x455.toInt = (100000000 : Int) := wk_eq.mp c457
        refine lv_lconst (v := 0) hx hb dX12_words_123 (by decide) ?_
        refine lv_goto (tgt := 134) hx hb dX12_words_124 (by decide) ?_
        refine tk_last hC hK hw hT kM_at11 (by decide) rfl (by decide) (by decide) dX12_words_134 (fun H locs w528 hw hT k530 => ?_)
        have hF := hF.put kM_at11 (inE_of (a := 0) (b := 10) (by decide) (by decide) (by decide)) k530
        have c531 := k530.gi (Or.inl (tk_ne kM_at12 kM_at11 (by decide))) c452
        have c532 := k530.gi (Or.inl (tk_ne kM_at0 kM_at11 (by decide))) c453
        have c533 := k530.gi (Or.inl (tk_ne kM_at12 kM_at11 (by decide))) c454
        have c534 := k530.gi (Or.inl (tk_ne kM_at14 kM_at11 (by decide))) c456
        refine lv_aload_n hx hb dX12_words_135 rfl (lv_at hl 2 rfl) ?_
        refine tk_getA hC hK hw hT hinX12 kM_at0 (by decide) rfl 25 (by decide) (List.mem_of_getElem? (i := 1) rfl) rfl rfl dX12_words_136 ?_
        refine lv_bipush (v := 7) hx hb dX12_words_139 (by decide) ?_
        refine lv_aload_n hx hb dX12_words_141 rfl (lv_at hl 2 rfl) ?_
        refine tk_geti hC hK hw hT hinX12 kM_at0 (by decide) rfl 30 (by decide) (List.mem_of_getElem? (i := 2) rfl) rfl rfl dX12_words_142 (fun x535 c536 rx535 tx535 => ?_)
        refine wk_top x30 (c536.symm.trans c532) ?_
        refine lv_if_eq (tgt := 152) hx hb dX12_words_145 (by decide) (fun c => absurd c (fun h => absurd (show x30.toInt = (0 : Int) from wk_eq.mp h) (by omega))) (fun _ => ?_)
        refine lv_lconst (v := 0) hx hb dX12_words_148 (by decide) ?_
        refine lv_goto (tgt := 159) hx hb dX12_words_149 (by decide) ?_
        refine tk_last hC hK hw hT kM_at11 (by decide) rfl (by decide) (by decide) dX12_words_159 (fun H locs w537 hw hT k539 => ?_)
        have hF := hF.put kM_at11 (inE_of (a := 0) (b := 10) (by decide) (by decide) (by decide)) k539
        have c540 := k539.gi (Or.inl (tk_ne kM_at12 kM_at11 (by decide))) c531
        have c541 := k539.gi (Or.inl (tk_ne kM_at0 kM_at11 (by decide))) c532
        have c542 := k539.gi (Or.inl (tk_ne kM_at12 kM_at11 (by decide))) c533
        have c543 := k539.gi (Or.inl (tk_ne kM_at14 kM_at11 (by decide))) c534
        refine lv_aload_n hx hb dX12_words_160 rfl (lv_at hl 2 rfl) ?_
        refine tk_getA hC hK hw hT hinX12 kM_at0 (by decide) rfl 25 (by decide) (List.mem_of_getElem? (i := 1) rfl) rfl rfl dX12_words_161 ?_
        refine lv_bipush (v := 8) hx hb dX12_words_164 (by decide) ?_
        refine lv_aload_n hx hb dX12_words_166 rfl (lv_at hl 2 rfl) ?_
        refine lv_iload_n hx hb dX12_words_167 rfl (lv_at hl 3 rfl) ?_
        refine lv_bipush (v := 6) hx hb dX12_words_168 (by decide) ?_
        refine tk_Vi hC hK hw hT hA hE hSR kM_at0 (by decide) rfl (k_X12_walkerOf_17 l adK adV dC dI cy ad B (by omega) (by omega) qr s1    w537 H.size hT ) (cwV 2 hC.2.2.2.2 gX12_words_X12_walkerOf rfl rfl rfl (by decide +kernel) ⟨Nat.le_of_ble_eq_true rfl, Nat.le_of_ble_eq_true rfl⟩) rfl hl.1 rfl (Nat.le_of_ble_eq_true rfl) dX12_words_170 (fun r544 w546 H locs hp545 hw => ?_)
        obtain ⟨rfl, hg549⟩ := hp545
        have c548 := hg549
        refine lv_i2l hx hb dX12_words_173 rfl ?_
        refine lv_topl (fun x550 ex550 => ?_)
        have ex550 : x550.toInt = r544.toInt := by rw [ex550]; exact wk_i2l _
        have bx550 := wk_i32 r544
        refine tk_last hC hK hw hT kM_at11 (by decide) rfl (by decide) (by decide) dX12_words_174 (fun H locs w551 hw hT k553 => ?_)
        have hF := hF.put kM_at11 (inE_of (a := 0) (b := 10) (by decide) (by decide) (by decide)) k553
        have c554 := k553.gi (Or.inl (tk_ne kM_at12 kM_at11 (by decide))) c540
        have c555 := k553.gi (Or.inl (tk_ne kM_at0 kM_at11 (by decide))) c541
        have c556 := k553.gi (Or.inl (tk_ne kM_at12 kM_at11 (by decide))) c542
        have c557 := k553.gi (Or.inl (tk_ne kM_at14 kM_at11 (by decide))) c543
        have c558 := k553.gi (Or.inl (tk_ne kM_at12 kM_at11 (by decide))) c548
        refine lv_aload_n hx hb dX12_words_175 rfl (lv_at hl 2 rfl) ?_
        refine tk_getA hC hK hw hT hinX12 kM_at0 (by decide) rfl 25 (by decide) (List.mem_of_getElem? (i := 1) rfl) rfl rfl dX12_words_176 ?_
        refine lv_bipush (v := 9) hx hb dX12_words_179 (by decide) ?_
        refine lv_aload_n hx hb dX12_words_181 rfl (lv_at hl 2 rfl) ?_
        refine lv_iload_n hx hb dX12_words_182 rfl (lv_at hl 3 rfl) ?_
        refine lv_bipush (v := 7) hx hb dX12_words_183 (by decide) ?_
        refine tk_Vi hC hK hw hT hA hE hSR kM_at0 (by decide) rfl (k_X12_walkerOf_18 l adK adV dC dI cy ad B (by omega) (by omega) qr s1    w551 H.size hT ) (cwV 2 hC.2.2.2.2 gX12_words_X12_walkerOf rfl rfl rfl (by decide +kernel) ⟨Nat.le_of_ble_eq_true rfl, Nat.le_of_ble_eq_true rfl⟩) rfl hl.1 rfl (Nat.le_of_ble_eq_true rfl) dX12_words_185 (fun r559 w561 H locs hp560 hw => ?_)
        obtain ⟨rfl, hg566⟩ := hp560
        obtain ⟨g563, g564, c565⟩ := hg566
        refine lv_if_ge (tgt := 197) hx hb dX12_words_188 (by decide) (fun c567 => ?_) (fun c567 => ?_)
        · have c567 : (0 : Int) ≤ r559.toInt := wk_le.mp c567
          refine lv_aload_n hx hb dX12_words_197 rfl (lv_at hl 2 rfl) ?_
          refine lv_iload_n hx hb dX12_words_198 rfl (lv_at hl 3 rfl) ?_
          refine lv_bipush (v := 7) hx hb dX12_words_199 (by decide) ?_
          refine tk_Vi hC hK hw hT hA hE hSR kM_at0 (by decide) rfl (k_X12_walkerOf_18 l adK adV dC dI cy ad B (by omega) (by omega) qr s1    w551 H.size hT ) (cwV 2 hC.2.2.2.2 gX12_words_X12_walkerOf rfl rfl rfl (by decide +kernel) ⟨Nat.le_of_ble_eq_true rfl, Nat.le_of_ble_eq_true rfl⟩) rfl hl.1 rfl (Nat.le_of_ble_eq_true rfl) dX12_words_201 (fun r568 w570 H locs hp569 hw => ?_)
          obtain ⟨rfl, hg575⟩ := hp569
          obtain ⟨g572, g573, c574⟩ := hg575
          obtain rfl : r559 = r568 := c565.symm.trans c574
          refine lv_i2l hx hb dX12_words_204 rfl ?_
          refine lv_topl (fun x576 ex576 => ?_)
          have ex576 : x576.toInt = r559.toInt := by rw [ex576]; exact wk_i2l _
          have bx576 := wk_i32 r559
          refine tk_last hC hK hw hT kM_at11 (by decide) rfl (by decide) (by decide) dX12_words_205 (fun H locs w577 hw hT k579 => ?_)
          have hF := hF.put kM_at11 (inE_of (a := 0) (b := 10) (by decide) (by decide) (by decide)) k579
          have c580 := k579.gi (Or.inl (tk_ne kM_at12 kM_at11 (by decide))) c554
          have c581 := k579.gi (Or.inl (tk_ne kM_at0 kM_at11 (by decide))) c555
          have c582 := k579.gi (Or.inl (tk_ne kM_at12 kM_at11 (by decide))) c556
          have c583 := k579.gi (Or.inl (tk_ne kM_at14 kM_at11 (by decide))) c557
          have c584 := k579.gi (Or.inl (tk_ne kM_at12 kM_at11 (by decide))) c558
          have c585 := k579.gi (Or.inl (tk_ne kM_at12 kM_at11 (by decide))) c565
          exact tk_vret hC hr hlocks hK ⟨hT, hF, ⟨⟨x30, c581, (show 0 ≤ x30.toInt by omega), (show x30.toInt ≤ 1 by omega)⟩, ⟨r559, c585, (show (-1) ≤ r559.toInt by omega), (show r559.toInt ≤ 9 by omega)⟩⟩⟩ hw dX12_words_206
        · have c567 : r559.toInt < (0 : Int) := wk_leF c567
          refine lv_ldc2 (v := 99) hx hb hC.2.2.2.1 (hC.2.2.2.2 _ (List.mem_of_getElem? (i := 5) rfl)) dX12_words_191 ?_
          refine lv_goto (tgt := 205) hx hb dX12_words_194 (by decide) ?_
          refine tk_last hC hK hw hT kM_at11 (by decide) rfl (by decide) (by decide) dX12_words_205 (fun H locs w586 hw hT k588 => ?_)
          have hF := hF.put kM_at11 (inE_of (a := 0) (b := 10) (by decide) (by decide) (by decide)) k588
          have c589 := k588.gi (Or.inl (tk_ne kM_at12 kM_at11 (by decide))) c554
          have c590 := k588.gi (Or.inl (tk_ne kM_at0 kM_at11 (by decide))) c555
          have c591 := k588.gi (Or.inl (tk_ne kM_at12 kM_at11 (by decide))) c556
          have c592 := k588.gi (Or.inl (tk_ne kM_at14 kM_at11 (by decide))) c557
          have c593 := k588.gi (Or.inl (tk_ne kM_at12 kM_at11 (by decide))) c558
          have c594 := k588.gi (Or.inl (tk_ne kM_at12 kM_at11 (by decide))) c565
          exact tk_vret hC hr hlocks hK ⟨hT, hF, ⟨⟨x30, c590, (show 0 ≤ x30.toInt by omega), (show x30.toInt ≤ 1 by omega)⟩, ⟨r559, c594, (show (-1) ≤ r559.toInt by omega), (show r559.toInt ≤ 9 by omega)⟩⟩⟩ hw dX12_words_206
    · refine lv_if_eq (tgt := 103) hx hb dX12_words_96 (by decide) (fun c => absurd c (by decide)) (fun _ => ?_)
      refine lv_lconst (v := 0) hx hb dX12_words_99 (by decide) ?_
      refine lv_goto (tgt := 104) hx hb dX12_words_100 (by decide) ?_
      refine tk_last hC hK hw hT kM_at11 (by decide) rfl (by decide) (by decide) dX12_words_104 (fun H locs w595 hw hT k597 => ?_)
      have hF := hF.put kM_at11 (inE_of (a := 0) (b := 10) (by decide) (by decide) (by decide)) k597
      have c598 := k597.gi (Or.inl (tk_ne kM_at12 kM_at11 (by decide))) c439
      have c599 := k597.gi (Or.inl (tk_ne kM_at0 kM_at11 (by decide))) c440
      have c600 := k597.gi (Or.inl (tk_ne kM_at12 kM_at11 (by decide))) c441
      have c601 := k597.gi (Or.inl (tk_ne kM_at0 kM_at11 (by decide))) c447
      refine lv_aload_n hx hb dX12_words_105 rfl (lv_at hl 2 rfl) ?_
      refine tk_getA hC hK hw hT hinX12 kM_at0 (by decide) rfl 25 (by decide) (List.mem_of_getElem? (i := 1) rfl) rfl rfl dX12_words_106 ?_
      refine lv_bipush (v := 6) hx hb dX12_words_109 (by decide) ?_
      refine lv_aload_n hx hb dX12_words_111 rfl (lv_at hl 2 rfl) ?_
      refine tk_getA hC hK hw hT hinX12 kM_at0 (by decide) rfl 29 (by decide) (List.mem_of_getElem? (i := 3) rfl) rfl rfl dX12_words_112 ?_
      refine lv_iload_n hx hb dX12_words_115 rfl (lv_at hl 0 rfl) ?_
      refine tk_iald hC hK hw hT kM_at14 rfl rfl (show 0 ≤ r9.toInt by omega) (show r9.toInt < 10 by omega) dX12_words_116 (fun x602 c603 rx602 tx602 => ?_)
      have c603 : gi w595 14 (r9.toInt).toNat = x602 := (congrArg (gi w595 14) (congrArg Int.toNat (show r9.toInt = r9.toInt by omega))).trans c603
      refine lv_ldcw (v := 100000000) hx hb hC.2.2.2.1 (hC.2.2.2.2 _ (List.mem_of_getElem? (i := 4) rfl)) dX12_words_117 ?_
      refine lv_icmp_ne (tgt := 127) hx hb dX12_words_120 (by decide) (fun c604 => ?_) (fun c604 => ?_)
      · have c604 : ¬ x602.toInt = (100000000 : Int) := wk_eqF c604
        refine lv_aload_n hx hb dX12_words_127 rfl (lv_at hl 2 rfl) ?_
        refine tk_getA hC hK hw hT hinX12 kM_at0 (by decide) rfl 29 (by decide) (List.mem_of_getElem? (i := 3) rfl) rfl rfl dX12_words_128 ?_
        refine lv_iload_n hx hb dX12_words_131 rfl (lv_at hl 0 rfl) ?_
        refine tk_iald hC hK hw hT kM_at14 rfl rfl (show 0 ≤ r9.toInt by omega) (show r9.toInt < 10 by omega) dX12_words_132 (fun x605 c606 rx605 tx605 => ?_)
        have c606 : gi w595 14 (r9.toInt).toNat = x605 := (congrArg (gi w595 14) (congrArg Int.toNat (show r9.toInt = r9.toInt by omega))).trans c606
        refine wk_top x602 (c606.symm.trans c603) ?_
        refine lv_i2l hx hb dX12_words_133 rfl ?_
        refine lv_topl (fun x607 ex607 => ?_)
        have ex607 : x607.toInt = x602.toInt := by rw [ex607]; exact wk_i2l _
        have bx607 := wk_i32 x602
        refine tk_last hC hK hw hT kM_at11 (by decide) rfl (by decide) (by decide) dX12_words_134 (fun H locs w608 hw hT k610 => ?_)
        have hF := hF.put kM_at11 (inE_of (a := 0) (b := 10) (by decide) (by decide) (by decide)) k610
        have c611 := k610.gi (Or.inl (tk_ne kM_at12 kM_at11 (by decide))) c598
        have c612 := k610.gi (Or.inl (tk_ne kM_at0 kM_at11 (by decide))) c599
        have c613 := k610.gi (Or.inl (tk_ne kM_at12 kM_at11 (by decide))) c600
        have c614 := k610.gi (Or.inl (tk_ne kM_at0 kM_at11 (by decide))) c601
        have c615 := k610.gi (Or.inl (tk_ne kM_at14 kM_at11 (by decide))) c603
        refine lv_aload_n hx hb dX12_words_135 rfl (lv_at hl 2 rfl) ?_
        refine tk_getA hC hK hw hT hinX12 kM_at0 (by decide) rfl 25 (by decide) (List.mem_of_getElem? (i := 1) rfl) rfl rfl dX12_words_136 ?_
        refine lv_bipush (v := 7) hx hb dX12_words_139 (by decide) ?_
        refine lv_aload_n hx hb dX12_words_141 rfl (lv_at hl 2 rfl) ?_
        refine tk_geti hC hK hw hT hinX12 kM_at0 (by decide) rfl 30 (by decide) (List.mem_of_getElem? (i := 2) rfl) rfl rfl dX12_words_142 (fun x616 c617 rx616 tx616 => ?_)
        refine wk_top x30 (c617.symm.trans c612) ?_
        refine lv_if_eq (tgt := 152) hx hb dX12_words_145 (by decide) (fun c => absurd c (fun h => absurd (show x30.toInt = (0 : Int) from wk_eq.mp h) (by omega))) (fun _ => ?_)
        refine lv_lconst (v := 0) hx hb dX12_words_148 (by decide) ?_
        refine lv_goto (tgt := 159) hx hb dX12_words_149 (by decide) ?_
        refine tk_last hC hK hw hT kM_at11 (by decide) rfl (by decide) (by decide) dX12_words_159 (fun H locs w618 hw hT k620 => ?_)
        have hF := hF.put kM_at11 (inE_of (a := 0) (b := 10) (by decide) (by decide) (by decide)) k620
        have c621 := k620.gi (Or.inl (tk_ne kM_at12 kM_at11 (by decide))) c611
        have c622 := k620.gi (Or.inl (tk_ne kM_at0 kM_at11 (by decide))) c612
        have c623 := k620.gi (Or.inl (tk_ne kM_at12 kM_at11 (by decide))) c613
        have c624 := k620.gi (Or.inl (tk_ne kM_at0 kM_at11 (by decide))) c614
        have c625 := k620.gi (Or.inl (tk_ne kM_at14 kM_at11 (by decide))) c615
        refine lv_aload_n hx hb dX12_words_160 rfl (lv_at hl 2 rfl) ?_
        refine tk_getA hC hK hw hT hinX12 kM_at0 (by decide) rfl 25 (by decide) (List.mem_of_getElem? (i := 1) rfl) rfl rfl dX12_words_161 ?_
        refine lv_bipush (v := 8) hx hb dX12_words_164 (by decide) ?_
        refine lv_aload_n hx hb dX12_words_166 rfl (lv_at hl 2 rfl) ?_
        refine lv_iload_n hx hb dX12_words_167 rfl (lv_at hl 3 rfl) ?_
        refine lv_bipush (v := 6) hx hb dX12_words_168 (by decide) ?_
        refine tk_Vi hC hK hw hT hA hE hSR kM_at0 (by decide) rfl (k_X12_walkerOf_17 l adK adV dC dI cy ad B (by omega) (by omega) qr s1    w618 H.size hT ) (cwV 2 hC.2.2.2.2 gX12_words_X12_walkerOf rfl rfl rfl (by decide +kernel) ⟨Nat.le_of_ble_eq_true rfl, Nat.le_of_ble_eq_true rfl⟩) rfl hl.1 rfl (Nat.le_of_ble_eq_true rfl) dX12_words_170 (fun r626 w628 H locs hp627 hw => ?_)
        obtain ⟨rfl, hg631⟩ := hp627
        have c630 := hg631
        refine lv_i2l hx hb dX12_words_173 rfl ?_
        refine lv_topl (fun x632 ex632 => ?_)
        have ex632 : x632.toInt = r626.toInt := by rw [ex632]; exact wk_i2l _
        have bx632 := wk_i32 r626
        refine tk_last hC hK hw hT kM_at11 (by decide) rfl (by decide) (by decide) dX12_words_174 (fun H locs w633 hw hT k635 => ?_)
        have hF := hF.put kM_at11 (inE_of (a := 0) (b := 10) (by decide) (by decide) (by decide)) k635
        have c636 := k635.gi (Or.inl (tk_ne kM_at12 kM_at11 (by decide))) c621
        have c637 := k635.gi (Or.inl (tk_ne kM_at0 kM_at11 (by decide))) c622
        have c638 := k635.gi (Or.inl (tk_ne kM_at12 kM_at11 (by decide))) c623
        have c639 := k635.gi (Or.inl (tk_ne kM_at0 kM_at11 (by decide))) c624
        have c640 := k635.gi (Or.inl (tk_ne kM_at14 kM_at11 (by decide))) c625
        have c641 := k635.gi (Or.inl (tk_ne kM_at12 kM_at11 (by decide))) c630
        refine lv_aload_n hx hb dX12_words_175 rfl (lv_at hl 2 rfl) ?_
        refine tk_getA hC hK hw hT hinX12 kM_at0 (by decide) rfl 25 (by decide) (List.mem_of_getElem? (i := 1) rfl) rfl rfl dX12_words_176 ?_
        refine lv_bipush (v := 9) hx hb dX12_words_179 (by decide) ?_
        refine lv_aload_n hx hb dX12_words_181 rfl (lv_at hl 2 rfl) ?_
        refine lv_iload_n hx hb dX12_words_182 rfl (lv_at hl 3 rfl) ?_
        refine lv_bipush (v := 7) hx hb dX12_words_183 (by decide) ?_
        refine tk_Vi hC hK hw hT hA hE hSR kM_at0 (by decide) rfl (k_X12_walkerOf_18 l adK adV dC dI cy ad B (by omega) (by omega) qr s1    w633 H.size hT ) (cwV 2 hC.2.2.2.2 gX12_words_X12_walkerOf rfl rfl rfl (by decide +kernel) ⟨Nat.le_of_ble_eq_true rfl, Nat.le_of_ble_eq_true rfl⟩) rfl hl.1 rfl (Nat.le_of_ble_eq_true rfl) dX12_words_185 (fun r642 w644 H locs hp643 hw => ?_)
        obtain ⟨rfl, hg649⟩ := hp643
        obtain ⟨g646, g647, c648⟩ := hg649
        refine lv_if_ge (tgt := 197) hx hb dX12_words_188 (by decide) (fun c650 => ?_) (fun c650 => ?_)
        · have c650 : (0 : Int) ≤ r642.toInt := wk_le.mp c650
          refine lv_aload_n hx hb dX12_words_197 rfl (lv_at hl 2 rfl) ?_
          refine lv_iload_n hx hb dX12_words_198 rfl (lv_at hl 3 rfl) ?_
          refine lv_bipush (v := 7) hx hb dX12_words_199 (by decide) ?_
          refine tk_Vi hC hK hw hT hA hE hSR kM_at0 (by decide) rfl (k_X12_walkerOf_18 l adK adV dC dI cy ad B (by omega) (by omega) qr s1    w633 H.size hT ) (cwV 2 hC.2.2.2.2 gX12_words_X12_walkerOf rfl rfl rfl (by decide +kernel) ⟨Nat.le_of_ble_eq_true rfl, Nat.le_of_ble_eq_true rfl⟩) rfl hl.1 rfl (Nat.le_of_ble_eq_true rfl) dX12_words_201 (fun r651 w653 H locs hp652 hw => ?_)
          obtain ⟨rfl, hg658⟩ := hp652
          obtain ⟨g655, g656, c657⟩ := hg658
          obtain rfl : r642 = r651 := c648.symm.trans c657
          refine lv_i2l hx hb dX12_words_204 rfl ?_
          refine lv_topl (fun x659 ex659 => ?_)
          have ex659 : x659.toInt = r642.toInt := by rw [ex659]; exact wk_i2l _
          have bx659 := wk_i32 r642
          refine tk_last hC hK hw hT kM_at11 (by decide) rfl (by decide) (by decide) dX12_words_205 (fun H locs w660 hw hT k662 => ?_)
          have hF := hF.put kM_at11 (inE_of (a := 0) (b := 10) (by decide) (by decide) (by decide)) k662
          have c663 := k662.gi (Or.inl (tk_ne kM_at12 kM_at11 (by decide))) c636
          have c664 := k662.gi (Or.inl (tk_ne kM_at0 kM_at11 (by decide))) c637
          have c665 := k662.gi (Or.inl (tk_ne kM_at12 kM_at11 (by decide))) c638
          have c666 := k662.gi (Or.inl (tk_ne kM_at0 kM_at11 (by decide))) c639
          have c667 := k662.gi (Or.inl (tk_ne kM_at14 kM_at11 (by decide))) c640
          have c668 := k662.gi (Or.inl (tk_ne kM_at12 kM_at11 (by decide))) c641
          have c669 := k662.gi (Or.inl (tk_ne kM_at12 kM_at11 (by decide))) c648
          exact tk_vret hC hr hlocks hK ⟨hT, hF, ⟨⟨x30, c664, (show 0 ≤ x30.toInt by omega), (show x30.toInt ≤ 1 by omega)⟩, ⟨r642, c669, (show (-1) ≤ r642.toInt by omega), (show r642.toInt ≤ 9 by omega)⟩⟩⟩ hw dX12_words_206
        · have c650 : r642.toInt < (0 : Int) := wk_leF c650
          refine lv_ldc2 (v := 99) hx hb hC.2.2.2.1 (hC.2.2.2.2 _ (List.mem_of_getElem? (i := 5) rfl)) dX12_words_191 ?_
          refine lv_goto (tgt := 205) hx hb dX12_words_194 (by decide) ?_
          refine tk_last hC hK hw hT kM_at11 (by decide) rfl (by decide) (by decide) dX12_words_205 (fun H locs w670 hw hT k672 => ?_)
          have hF := hF.put kM_at11 (inE_of (a := 0) (b := 10) (by decide) (by decide) (by decide)) k672
          have c673 := k672.gi (Or.inl (tk_ne kM_at12 kM_at11 (by decide))) c636
          have c674 := k672.gi (Or.inl (tk_ne kM_at0 kM_at11 (by decide))) c637
          have c675 := k672.gi (Or.inl (tk_ne kM_at12 kM_at11 (by decide))) c638
          have c676 := k672.gi (Or.inl (tk_ne kM_at0 kM_at11 (by decide))) c639
          have c677 := k672.gi (Or.inl (tk_ne kM_at14 kM_at11 (by decide))) c640
          have c678 := k672.gi (Or.inl (tk_ne kM_at12 kM_at11 (by decide))) c641
          have c679 := k672.gi (Or.inl (tk_ne kM_at12 kM_at11 (by decide))) c648
          exact tk_vret hC hr hlocks hK ⟨hT, hF, ⟨⟨x30, c674, (show 0 ≤ x30.toInt by omega), (show x30.toInt ≤ 1 by omega)⟩, ⟨r642, c679, (show (-1) ≤ r642.toInt by omega), (show r642.toInt ≤ 9 by omega)⟩⟩⟩ hw dX12_words_206
      · have c604 : x602.toInt = (100000000 : Int) := wk_eq.mp c604
        refine lv_lconst (v := 0) hx hb dX12_words_123 (by decide) ?_
        refine lv_goto (tgt := 134) hx hb dX12_words_124 (by decide) ?_
        refine tk_last hC hK hw hT kM_at11 (by decide) rfl (by decide) (by decide) dX12_words_134 (fun H locs w680 hw hT k682 => ?_)
        have hF := hF.put kM_at11 (inE_of (a := 0) (b := 10) (by decide) (by decide) (by decide)) k682
        have c683 := k682.gi (Or.inl (tk_ne kM_at12 kM_at11 (by decide))) c598
        have c684 := k682.gi (Or.inl (tk_ne kM_at0 kM_at11 (by decide))) c599
        have c685 := k682.gi (Or.inl (tk_ne kM_at12 kM_at11 (by decide))) c600
        have c686 := k682.gi (Or.inl (tk_ne kM_at0 kM_at11 (by decide))) c601
        have c687 := k682.gi (Or.inl (tk_ne kM_at14 kM_at11 (by decide))) c603
        refine lv_aload_n hx hb dX12_words_135 rfl (lv_at hl 2 rfl) ?_
        refine tk_getA hC hK hw hT hinX12 kM_at0 (by decide) rfl 25 (by decide) (List.mem_of_getElem? (i := 1) rfl) rfl rfl dX12_words_136 ?_
        refine lv_bipush (v := 7) hx hb dX12_words_139 (by decide) ?_
        refine lv_aload_n hx hb dX12_words_141 rfl (lv_at hl 2 rfl) ?_
        refine tk_geti hC hK hw hT hinX12 kM_at0 (by decide) rfl 30 (by decide) (List.mem_of_getElem? (i := 2) rfl) rfl rfl dX12_words_142 (fun x688 c689 rx688 tx688 => ?_)
        refine wk_top x30 (c689.symm.trans c684) ?_
        refine lv_if_eq (tgt := 152) hx hb dX12_words_145 (by decide) (fun c => absurd c (fun h => absurd (show x30.toInt = (0 : Int) from wk_eq.mp h) (by omega))) (fun _ => ?_)
        refine lv_lconst (v := 0) hx hb dX12_words_148 (by decide) ?_
        refine lv_goto (tgt := 159) hx hb dX12_words_149 (by decide) ?_
        refine tk_last hC hK hw hT kM_at11 (by decide) rfl (by decide) (by decide) dX12_words_159 (fun H locs w690 hw hT k692 => ?_)
        have hF := hF.put kM_at11 (inE_of (a := 0) (b := 10) (by decide) (by decide) (by decide)) k692
        have c693 := k692.gi (Or.inl (tk_ne kM_at12 kM_at11 (by decide))) c683
        have c694 := k692.gi (Or.inl (tk_ne kM_at0 kM_at11 (by decide))) c684
        have c695 := k692.gi (Or.inl (tk_ne kM_at12 kM_at11 (by decide))) c685
        have c696 := k692.gi (Or.inl (tk_ne kM_at0 kM_at11 (by decide))) c686
        have c697 := k692.gi (Or.inl (tk_ne kM_at14 kM_at11 (by decide))) c687
        refine lv_aload_n hx hb dX12_words_160 rfl (lv_at hl 2 rfl) ?_
        refine tk_getA hC hK hw hT hinX12 kM_at0 (by decide) rfl 25 (by decide) (List.mem_of_getElem? (i := 1) rfl) rfl rfl dX12_words_161 ?_
        refine lv_bipush (v := 8) hx hb dX12_words_164 (by decide) ?_
        refine lv_aload_n hx hb dX12_words_166 rfl (lv_at hl 2 rfl) ?_
        refine lv_iload_n hx hb dX12_words_167 rfl (lv_at hl 3 rfl) ?_
        refine lv_bipush (v := 6) hx hb dX12_words_168 (by decide) ?_
        refine tk_Vi hC hK hw hT hA hE hSR kM_at0 (by decide) rfl (k_X12_walkerOf_17 l adK adV dC dI cy ad B (by omega) (by omega) qr s1    w690 H.size hT ) (cwV 2 hC.2.2.2.2 gX12_words_X12_walkerOf rfl rfl rfl (by decide +kernel) ⟨Nat.le_of_ble_eq_true rfl, Nat.le_of_ble_eq_true rfl⟩) rfl hl.1 rfl (Nat.le_of_ble_eq_true rfl) dX12_words_170 (fun r698 w700 H locs hp699 hw => ?_)
        obtain ⟨rfl, hg703⟩ := hp699
        have c702 := hg703
        refine lv_i2l hx hb dX12_words_173 rfl ?_
        refine lv_topl (fun x704 ex704 => ?_)
        have ex704 : x704.toInt = r698.toInt := by rw [ex704]; exact wk_i2l _
        have bx704 := wk_i32 r698
        refine tk_last hC hK hw hT kM_at11 (by decide) rfl (by decide) (by decide) dX12_words_174 (fun H locs w705 hw hT k707 => ?_)
        have hF := hF.put kM_at11 (inE_of (a := 0) (b := 10) (by decide) (by decide) (by decide)) k707
        have c708 := k707.gi (Or.inl (tk_ne kM_at12 kM_at11 (by decide))) c693
        have c709 := k707.gi (Or.inl (tk_ne kM_at0 kM_at11 (by decide))) c694
        have c710 := k707.gi (Or.inl (tk_ne kM_at12 kM_at11 (by decide))) c695
        have c711 := k707.gi (Or.inl (tk_ne kM_at0 kM_at11 (by decide))) c696
        have c712 := k707.gi (Or.inl (tk_ne kM_at14 kM_at11 (by decide))) c697
        have c713 := k707.gi (Or.inl (tk_ne kM_at12 kM_at11 (by decide))) c702
        refine lv_aload_n hx hb dX12_words_175 rfl (lv_at hl 2 rfl) ?_
        refine tk_getA hC hK hw hT hinX12 kM_at0 (by decide) rfl 25 (by decide) (List.mem_of_getElem? (i := 1) rfl) rfl rfl dX12_words_176 ?_
        refine lv_bipush (v := 9) hx hb dX12_words_179 (by decide) ?_
        refine lv_aload_n hx hb dX12_words_181 rfl (lv_at hl 2 rfl) ?_
        refine lv_iload_n hx hb dX12_words_182 rfl (lv_at hl 3 rfl) ?_
        refine lv_bipush (v := 7) hx hb dX12_words_183 (by decide) ?_
        refine tk_Vi hC hK hw hT hA hE hSR kM_at0 (by decide) rfl (k_X12_walkerOf_18 l adK adV dC dI cy ad B (by omega) (by omega) qr s1    w705 H.size hT ) (cwV 2 hC.2.2.2.2 gX12_words_X12_walkerOf rfl rfl rfl (by decide +kernel) ⟨Nat.le_of_ble_eq_true rfl, Nat.le_of_ble_eq_true rfl⟩) rfl hl.1 rfl (Nat.le_of_ble_eq_true rfl) dX12_words_185 (fun r714 w716 H locs hp715 hw => ?_)
        obtain ⟨rfl, hg721⟩ := hp715
        obtain ⟨g718, g719, c720⟩ := hg721
        refine lv_if_ge (tgt := 197) hx hb dX12_words_188 (by decide) (fun c722 => ?_) (fun c722 => ?_)
        · have c722 : (0 : Int) ≤ r714.toInt := wk_le.mp c722
          refine lv_aload_n hx hb dX12_words_197 rfl (lv_at hl 2 rfl) ?_
          refine lv_iload_n hx hb dX12_words_198 rfl (lv_at hl 3 rfl) ?_
          refine lv_bipush (v := 7) hx hb dX12_words_199 (by decide) ?_
          refine tk_Vi hC hK hw hT hA hE hSR kM_at0 (by decide) rfl (k_X12_walkerOf_18 l adK adV dC dI cy ad B (by omega) (by omega) qr s1    w705 H.size hT ) (cwV 2 hC.2.2.2.2 gX12_words_X12_walkerOf rfl rfl rfl (by decide +kernel) ⟨Nat.le_of_ble_eq_true rfl, Nat.le_of_ble_eq_true rfl⟩) rfl hl.1 rfl (Nat.le_of_ble_eq_true rfl) dX12_words_201 (fun r723 w725 H locs hp724 hw => ?_)
          obtain ⟨rfl, hg730⟩ := hp724
          obtain ⟨g727, g728, c729⟩ := hg730
          obtain rfl : r714 = r723 := c720.symm.trans c729
          refine lv_i2l hx hb dX12_words_204 rfl ?_
          refine lv_topl (fun x731 ex731 => ?_)
          have ex731 : x731.toInt = r714.toInt := by rw [ex731]; exact wk_i2l _
          have bx731 := wk_i32 r714
          refine tk_last hC hK hw hT kM_at11 (by decide) rfl (by decide) (by decide) dX12_words_205 (fun H locs w732 hw hT k734 => ?_)
          have hF := hF.put kM_at11 (inE_of (a := 0) (b := 10) (by decide) (by decide) (by decide)) k734
          have c735 := k734.gi (Or.inl (tk_ne kM_at12 kM_at11 (by decide))) c708
          have c736 := k734.gi (Or.inl (tk_ne kM_at0 kM_at11 (by decide))) c709
          have c737 := k734.gi (Or.inl (tk_ne kM_at12 kM_at11 (by decide))) c710
          have c738 := k734.gi (Or.inl (tk_ne kM_at0 kM_at11 (by decide))) c711
          have c739 := k734.gi (Or.inl (tk_ne kM_at14 kM_at11 (by decide))) c712
          have c740 := k734.gi (Or.inl (tk_ne kM_at12 kM_at11 (by decide))) c713
          have c741 := k734.gi (Or.inl (tk_ne kM_at12 kM_at11 (by decide))) c720
          exact tk_vret hC hr hlocks hK ⟨hT, hF, ⟨⟨x30, c736, (show 0 ≤ x30.toInt by omega), (show x30.toInt ≤ 1 by omega)⟩, ⟨r714, c741, (show (-1) ≤ r714.toInt by omega), (show r714.toInt ≤ 9 by omega)⟩⟩⟩ hw dX12_words_206
        · have c722 : r714.toInt < (0 : Int) := wk_leF c722
          refine lv_ldc2 (v := 99) hx hb hC.2.2.2.1 (hC.2.2.2.2 _ (List.mem_of_getElem? (i := 5) rfl)) dX12_words_191 ?_
          refine lv_goto (tgt := 205) hx hb dX12_words_194 (by decide) ?_
          refine tk_last hC hK hw hT kM_at11 (by decide) rfl (by decide) (by decide) dX12_words_205 (fun H locs w742 hw hT k744 => ?_)
          have hF := hF.put kM_at11 (inE_of (a := 0) (b := 10) (by decide) (by decide) (by decide)) k744
          have c745 := k744.gi (Or.inl (tk_ne kM_at12 kM_at11 (by decide))) c708
          have c746 := k744.gi (Or.inl (tk_ne kM_at0 kM_at11 (by decide))) c709
          have c747 := k744.gi (Or.inl (tk_ne kM_at12 kM_at11 (by decide))) c710
          have c748 := k744.gi (Or.inl (tk_ne kM_at0 kM_at11 (by decide))) c711
          have c749 := k744.gi (Or.inl (tk_ne kM_at14 kM_at11 (by decide))) c712
          have c750 := k744.gi (Or.inl (tk_ne kM_at12 kM_at11 (by decide))) c713
          have c751 := k744.gi (Or.inl (tk_ne kM_at12 kM_at11 (by decide))) c720
          exact tk_vret hC hr hlocks hK ⟨hT, hF, ⟨⟨x30, c746, (show 0 ≤ x30.toInt by omega), (show x30.toInt ≤ 1 by omega)⟩, ⟨r714, c751, (show (-1) ≤ r714.toInt by omega), (show r714.toInt ≤ 9 by omega)⟩⟩⟩ hw dX12_words_206
