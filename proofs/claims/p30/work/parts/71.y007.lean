abbrev Py_X12_isClosed_1 (ad : Nat → Nat) (cy : Nat → ClassId) (B : Int) (qr : Nat) (s1 : Int) (a1 : Int32) (a2 : Int32) (w0 : va_W) : Int32 → va_W → Prop := fun r u => w0 = u ∧ Ev (fun n => m_X12_isClosed n 0 a1.toInt a2.toInt (sL w0)) (r.toInt, sL w0) ∧ ((r = 0 ∧ (¬ mCl w0 a1.toInt a2.toInt)) ∨ (r = 1 ∧ (∃ y : Int32, gi u 0 27 = y ∧ 1 ≤ y.toInt ∧ y.toInt ≤ 1) ∧ (∃ y : Int32, gi u 12 2 = y ∧ 1 ≤ y.toInt ∧ y.toInt ≤ 8) ∧ (mCl w0 a1.toInt a2.toInt)))
set_option maxHeartbeats 4000000 in
set_option maxRecDepth 100000 in
theorem ky_X12_isClosed_1 (l : Launch) (adK adV : Nat → Nat) (dC : Nat → ClassId) (dI : Nat → Nat → Nat) (cy : Nat → ClassId) (ad : Nat → Nat) (B : Int) (hB0 : 100000 ≤ B) (hB1 : B ≤ 1073741824) (qr : Nat) (s1 : Int)  (a1 : Int32) (ra1 : 0 ≤ a1.toInt) (ta1 : a1.toInt ≤ 9) (a2 : Int32) (ra2 : 0 ≤ a2.toInt) (ta2 : a2.toInt ≤ 359) (w0 : va_W) (sz : Nat) (hT : TW ksM ad cy B qr 12 w0)  : Met l yX12_isClosed (wu yX12_isClosed cX12_isClosed 4 (some .boolean)) ({ frames := 1, cells := 0, slots := 0, locals := 12 }) (va_Pc [.ref (ad 0), .int a1, .int a2] (wpreS adK adV dC dI cy sz w0)) (va_Qi (Py_X12_isClosed_1 ad cy B qr s1 a1 a2 w0) (fun u : va_W => wpost dC dI cy (va_A w0 sz) u) (va_A w0 sz)) 0 0 (va_A w0 sz) := by
  refine Met.ofW (cc := cX12_isClosed) (maxL := 4) (ret := (some .boolean)) (by decide) rfl ?_
  intro p e s m args below meth c s₁ Bk hml hv
  obtain ⟨rfl, ⟨hsz, hP, hK, hD0⟩, hE, hSR⟩ := hv
  have hx := Bk.exec
  have hb := Bk.bytes
  have hr := Bk.returns
  have hlocks := Bk.notSynchronized
  have hC : CallFix p m c cX12_isClosed 4 s _ (wu yX12_isClosed cX12_isClosed 4 (some .boolean)) RX12 := ⟨hx, hb, hml, findClass_of_methodNamed Bk.named, atoms_spec (ws := (wu yX12_isClosed cX12_isClosed 4 (some .boolean))) Bk.pre⟩
  subst hsz
  have hD := hD0.self (sz := s.heap.size)
  generalize hAe : va_A w0 s.heap.size = A at hD hE ⊢
  have hA : ∀ q : Nat, s.heap.size ≤ q → A q := fun q h => by rw [← hAe]; exact Or.inr h
  have hw : Wd dC dI A s.heap s.heap [] w0 := ⟨hP, hD, va_S.rf⟩
  have hF : FE ksM ([] : List (Nat × Nat × Nat)) w0 w0 := FE.rf
  have hl := lv_entry ([.ref (ad 0), .int a1, .int a2]) (n := 4) (Nat.le_of_ble_eq_true rfl)
  rw [lg_entry_eq]
  generalize (lg_sl ([.ref (ad 0), .int a1, .int a2]) ++ List.replicate (4 - (lg_sl ([.ref (ad 0), .int a1, .int a2])).length) Slot.unset).toArray = ls at hl ⊢
  have hl : lv_has ls 4 [(0, .ref (ad 0)), (1, .int a1), (2, .int a2)] := hl
  generalize hloc : ([] : List Loc) = locs at hw ⊢
  have hinX12 : ∀ w ∈ u_ws RX12 TX12 42, w ∈ (wu yX12_isClosed cX12_isClosed 4 (some .boolean)) := fun _ h => List.mem_cons_of_mem _ (up_71 h)
  have L2 : ∀ (n2 : Nat) (v2_3 : Int32) (H : Heap) (locs : List Loc) (ls : Array Slot), 0 ≤ a1.toInt → a1.toInt ≤ 9 → 0 ≤ a2.toInt → a2.toInt ≤ 359 → 0 ≤ v2_3.toInt → v2_3.toInt ≤ 8 → (∀ k : Int, 0 ≤ k → k < v2_3.toInt → ¬ mCl1 w0 k a1.toInt a2.toInt) → (8 - v2_3.toInt).toNat < n2 → Wd dC dI A s.heap H locs w0 → TT (fun n => m_X12_isClosed n 0 a1.toInt a2.toInt (sL w0)) (fun n => j_X12_isClosed 0 n 2 [a1.toInt, a2.toInt, v2_3.toInt] (sL w0)) → lv_has ls 4 [(0, .ref (ad 0)), (1, .int a1), (2, .int a2), (3, .int v2_3)] → W p l e ({ frames := 1, cells := 0, slots := 0, locals := 12 }) s m (List.toArray [.ref (ad 0), .int a1, .int a2]) below meth c H locs 0 0 (MQ below (va_Qi (Py_X12_isClosed_1 ad cy B qr s1 a1 a2 w0) (fun u : va_W => wpost dC dI cy A u) A) (List.toArray [.ref (ad 0), .int a1, .int a2]) s 0 0 A) (F0 m 2 ls []) := by
    intro n2
    induction n2 with
    | zero => intro v2_3 H locs ls r1 t2 r3 t4 r5 t6 hcr2_0 hm2 hw hM hl; omega
    | succ n2 ih2 =>
      intro v2_3 H locs ls r1 t2 r3 t4 r5 t6 hcr2_0 hm2 hw hM hl
      replace hM := hM.suc (fun _ => e_X12_isClosed_2)
      refine lv_iload_n hx hb dX12_isClosed_2 rfl (lv_at hl 3 rfl) ?_
      refine lv_aload_n hx hb dX12_isClosed_3 rfl (lv_at hl 0 rfl) ?_
      refine tk_getA hC hK hw hT hinX12 kM_at0 (by decide) rfl 26 (by decide) (List.mem_cons_of_mem _ uw_7_1) rfl rfl dX12_isClosed_4 ?_
      refine lv_iconst (v := 2) hx hb dX12_isClosed_7 (by decide) ?_
      refine tk_ialdR hC hK hw hT kM_at12 rfl (by decide) (by decide) dX12_isClosed_8 (fun x7 c8 Ex7 => ?_)
      have hox7 := c8
      replace hM := hM.rd (sL_at (kM_lt kM_at12) hox7)
      have bx7 := tk_rgI rfl 2 1 1 0 8 (by decide +kernel) ⟨0, by decide, by decide⟩ Ex7
      have c8 : gi w0 12 2 = x7 := c8
      refine lv_icmp_ge (tgt := 61) hx hb dX12_isClosed_9 (by decide) (fun c9 => ?_) (fun c9 => ?_)
      · have c9 : x7.toInt ≤ v2_3.toInt := wk_le.mp c9
        replace hM := hM.pos c9
        refine lv_iconst (v := 0) hx hb dX12_isClosed_61 (by decide) ?_
        exact tk_zret hC hr rfl hlocks hK ⟨rfl, hM.ret (by decide), (Or.inl ⟨rfl, (by first | exact mCl_no hcr2_0 (by simp only [c8]; omega) | exact mCl_off (by simp only [c8]; omega))⟩)⟩ hw dX12_isClosed_62
      · have c9 : v2_3.toInt < x7.toInt := wk_leF c9
        replace hM := hM.neg (Int.not_le.mpr c9)
        refine lv_aload_n hx hb dX12_isClosed_12 rfl (lv_at hl 0 rfl) ?_
        refine tk_geti hC hK hw hT hinX12 kM_at0 (by decide) rfl 27 (by decide) (List.mem_cons_of_mem _ uw_7_2) rfl rfl dX12_isClosed_13 (fun x10 c11 rx10 tx10 => ?_)
        replace hM := hM.rd (sL_at (kM_lt kM_at0) c11)
        refine lv_if_eq (tgt := 61) hx hb dX12_isClosed_16 (by decide) (fun c12 => ?_) (fun c12 => ?_)
        · have c12 : x10.toInt = (0 : Int) := wk_eq.mp c12
          replace hM := hM.pos c12
          refine lv_iconst (v := 0) hx hb dX12_isClosed_61 (by decide) ?_
          exact tk_zret hC hr rfl hlocks hK ⟨rfl, hM.ret (by decide), (Or.inl ⟨rfl, (by first | exact mCl_no hcr2_0 (by simp only [c8, c11]; omega) | exact mCl_off (by simp only [c8, c11]; omega))⟩)⟩ hw dX12_isClosed_62
        · have c12 : ¬ x10.toInt = (0 : Int) := wk_eqF c12
          replace hM := hM.neg c12
          refine lv_aload_n hx hb dX12_isClosed_19 rfl (lv_at hl 0 rfl) ?_
          refine tk_getA hC hK hw hT hinX12 kM_at0 (by decide) rfl 26 (by decide) (List.mem_cons_of_mem _ uw_7_1) rfl rfl dX12_isClosed_20 ?_
          refine lv_sipush (v := 140) hx hb dX12_isClosed_23 (by decide) ?_
          refine lv_iconst (v := 2) hx hb dX12_isClosed_26 (by decide) ?_
          refine lv_iload_n hx hb dX12_isClosed_27 rfl (lv_at hl 3 rfl) ?_
          refine lv_imul hx hb dX12_isClosed_28 ?_
          refine lv_topi (fun x13 ex13 => ?_)
          have ezx13 := ex13
          have ex13 : x13.toInt = (2 : Int) * v2_3.toInt := by rw [ex13]; exact wk_mul (show (-2147483648) ≤ (2 : Int) * v2_3.toInt by omega) (show (2 : Int) * v2_3.toInt ≤ 2147483647 by omega)
          replace hM := hM.lt ex13.symm
          refine lv_iadd hx hb dX12_isClosed_29 ?_
          refine lv_topi (fun x14 ex14 => ?_)
          have ezx14 := ex14
          have ex14 : x14.toInt = (140 : Int) + x13.toInt := by rw [ex14]; exact wk_add (show (-2147483648) ≤ (140 : Int) + x13.toInt by omega) (show (140 : Int) + x13.toInt ≤ 2147483647 by omega)
          replace hM := hM.lt ex14.symm
          refine tk_ialdR hC hK hw hT kM_at12 rfl (show 0 ≤ x14.toInt by first | with_reducible assumption | omega) (show x14.toInt < 296 by first | with_reducible assumption | omega) dX12_isClosed_30 (fun x15 c16 Ex15 => ?_)
          have hox15 := c16
          have c16 : gi w0 12 (2 * v2_3.toInt + 140).toNat = x15 := (congrArg (gi w0 12) (congrArg Int.toNat (show 2 * v2_3.toInt + 140 = x14.toInt by first | exact Int.le_antisymm (by omega) (by omega) | omega))).trans c16
          replace hM := hM.rd (sL_at (kM_lt kM_at12) hox15)
          refine lv_iload_n hx hb dX12_isClosed_31 rfl (lv_at hl 1 rfl) ?_
          refine lv_icmp_ne (tgt := 55) hx hb dX12_isClosed_32 (by decide) (fun c17 => ?_) (fun c17 => ?_)
          · have c17 : ¬ x15.toInt = a1.toInt := wk_eqF c17
            replace hM := hM.pos c17
            obtain ⟨x18, ex18⟩ : ∃ y : Int32, y = v2_3 + Int32.ofInt 1 := ⟨_, rfl⟩
            have erx18 := ex18
            refine lv_iinc (v := x18) (lv' := [(3, .int x18), (0, .ref (ad 0)), (1, .int a1), (2, .int a2)]) hx hb dX12_isClosed_55 hl (k := 3) rfl ex18.symm (by decide) rfl (fun ls hl => ?_)
            have ex18 : x18.toInt = v2_3.toInt + 1 := by rw [ex18]; exact wk_add (y := 1) (show -2147483648 ≤ v2_3.toInt + 1 by omega) (show v2_3.toInt + 1 ≤ 2147483647 by omega)
            replace hM := hM.lt ex18.symm
            refine lv_goto (tgt := 2) hx hb dX12_isClosed_58 (by decide) ?_
            exact ih2 x18 H locs ls  (show 0 ≤ a1.toInt from r1) (show a1.toInt ≤ 9 from t2) (show 0 ≤ a2.toInt from r3) (show a2.toInt ≤ 359 from t4) (show 0 ≤ x18.toInt by first | with_reducible assumption | omega) (show x18.toInt ≤ 8 by first | with_reducible assumption | omega) (show ∀ k : Int, 0 ≤ k → k < x18.toInt → ¬ mCl1 w0 k a1.toInt a2.toInt from all_step hcr2_0 (show ¬ mCl1 w0 v2_3.toInt a1.toInt a2.toInt by unfold mCl1; simp only [c8, c11, c16]; omega) (by omega)) (show (8 - x18.toInt).toNat < n2 by first | exact tn_lt hm2 (by omega) (by omega) | omega) hw  hM (lv_sub hl [1, 2, 3, 0] rfl)
          · have c17 : x15.toInt = a1.toInt := wk_eq.mp c17
            replace hM := hM.neg (fun q => q c17)
            refine lv_aload_n hx hb dX12_isClosed_35 rfl (lv_at hl 0 rfl) ?_
            refine tk_getA hC hK hw hT hinX12 kM_at0 (by decide) rfl 26 (by decide) (List.mem_cons_of_mem _ uw_7_1) rfl rfl dX12_isClosed_36 ?_
            refine lv_sipush (v := 140) hx hb dX12_isClosed_39 (by decide) ?_
            refine lv_iconst (v := 2) hx hb dX12_isClosed_42 (by decide) ?_
            refine lv_iload_n hx hb dX12_isClosed_43 rfl (lv_at hl 3 rfl) ?_
            refine lv_imul hx hb dX12_isClosed_44 ?_
            refine lv_topi (fun x19 ex19 => ?_)
            have ezx19 := ex19
            have ex19 : x19.toInt = (2 : Int) * v2_3.toInt := by rw [ex19]; exact wk_mul (show (-2147483648) ≤ (2 : Int) * v2_3.toInt by omega) (show (2 : Int) * v2_3.toInt ≤ 2147483647 by omega)
            replace hM := hM.lt ex19.symm
            refine lv_iadd hx hb dX12_isClosed_45 ?_
            refine lv_topi (fun x20 ex20 => ?_)
            have ezx20 := ex20
            have ex20 : x20.toInt = (140 : Int) + x19.toInt := by rw [ex20]; exact wk_add (show (-2147483648) ≤ (140 : Int) + x19.toInt by omega) (show (140 : Int) + x19.toInt ≤ 2147483647 by omega)
            replace hM := hM.lt ex20.symm
            refine lv_iconst (v := 1) hx hb dX12_isClosed_46 (by decide) ?_
            refine lv_iadd hx hb dX12_isClosed_47 ?_
            refine lv_topi (fun x21 ex21 => ?_)
            have ezx21 := ex21
            have ex21 : x21.toInt = x20.toInt + (1 : Int) := by rw [ex21]; exact wk_add (show (-2147483648) ≤ x20.toInt + (1 : Int) by omega) (show x20.toInt + (1 : Int) ≤ 2147483647 by omega)
            replace hM := hM.lt ex21.symm
            refine tk_ialdR hC hK hw hT kM_at12 rfl (show 0 ≤ x21.toInt by first | with_reducible assumption | omega) (show x21.toInt < 296 by first | with_reducible assumption | omega) dX12_isClosed_48 (fun x22 c23 Ex22 => ?_)
            have hox22 := c23
            have c23 : gi w0 12 (2 * v2_3.toInt + 141).toNat = x22 := (congrArg (gi w0 12) (congrArg Int.toNat (show 2 * v2_3.toInt + 141 = x21.toInt by first | exact Int.le_antisymm (by omega) (by omega) | omega))).trans c23
            replace hM := hM.rd (sL_at (kM_lt kM_at12) hox22)
            refine lv_iload_n hx hb dX12_isClosed_49 rfl (lv_at hl 2 rfl) ?_
            refine lv_icmp_ne (tgt := 55) hx hb dX12_isClosed_50 (by decide) (fun c24 => ?_) (fun c24 => ?_)
            · have c24 : ¬ x22.toInt = a2.toInt := wk_eqF c24
              replace hM := hM.pos c24
              obtain ⟨x25, ex25⟩ : ∃ y : Int32, y = v2_3 + Int32.ofInt 1 := ⟨_, rfl⟩
              have erx25 := ex25
              refine lv_iinc (v := x25) (lv' := [(3, .int x25), (0, .ref (ad 0)), (1, .int a1), (2, .int a2)]) hx hb dX12_isClosed_55 hl (k := 3) rfl ex25.symm (by decide) rfl (fun ls hl => ?_)
              have ex25 : x25.toInt = v2_3.toInt + 1 := by rw [ex25]; exact wk_add (y := 1) (show -2147483648 ≤ v2_3.toInt + 1 by omega) (show v2_3.toInt + 1 ≤ 2147483647 by omega)
              replace hM := hM.lt ex25.symm
              refine lv_goto (tgt := 2) hx hb dX12_isClosed_58 (by decide) ?_
              exact ih2 x25 H locs ls  (show 0 ≤ a1.toInt from r1) (show a1.toInt ≤ 9 from t2) (show 0 ≤ a2.toInt from r3) (show a2.toInt ≤ 359 from t4) (show 0 ≤ x25.toInt by first | with_reducible assumption | omega) (show x25.toInt ≤ 8 by first | with_reducible assumption | omega) (show ∀ k : Int, 0 ≤ k → k < x25.toInt → ¬ mCl1 w0 k a1.toInt a2.toInt from all_step hcr2_0 (show ¬ mCl1 w0 v2_3.toInt a1.toInt a2.toInt by unfold mCl1; simp only [c8, c11, c16, c23]; omega) (by omega)) (show (8 - x25.toInt).toNat < n2 by first | exact tn_lt hm2 (by omega) (by omega) | omega) hw  hM (lv_sub hl [1, 2, 3, 0] rfl)
            · have c24 : x22.toInt = a2.toInt := wk_eq.mp c24
              replace hM := hM.neg (fun q => q c24)
              refine lv_iconst (v := 1) hx hb dX12_isClosed_53 (by decide) ?_
              exact tk_zret hC hr rfl hlocks hK ⟨rfl, hM.ret (by decide), (Or.inr ⟨rfl, ⟨x10, c11, (show 1 ≤ x10.toInt by first | with_reducible assumption | omega), (show x10.toInt ≤ 1 from tx10)⟩, ⟨x7, c8, (show 1 ≤ x7.toInt by first | with_reducible assumption | omega), (show x7.toInt ≤ 8 by first | with_reducible assumption | omega)⟩, (by exact ⟨v2_3.toInt, by omega, by simp only [c8, c11, c16, c23]; omega, by unfold mCl1; simp only [c8, c11, c16, c23]; omega⟩)⟩)⟩ hw dX12_isClosed_54
  have hM : TT (fun n => m_X12_isClosed n 0 a1.toInt a2.toInt (sL w0)) (fun n => m_X12_isClosed n 0 a1.toInt a2.toInt (sL w0)) := TT.rf
  refine lv_iconst (v := 0) hx hb dX12_isClosed_0 (by decide) ?_
  refine lv_istore_n (lv' := [(3, .int 0), (0, .ref (ad 0)), (1, .int a1), (2, .int a2)]) hx hb dX12_isClosed_1 rfl hl (by decide) rfl (fun ls hl => ?_)
  exact L2 ((8 - (0 : Int)).toNat + 1) 0 s.heap locs ls  (show 0 ≤ a1.toInt from ra1) (show a1.toInt ≤ 9 from ta1) (show 0 ≤ a2.toInt from ra2) (show a2.toInt ≤ 359 from ta2) (by decide) (by decide) (show ∀ k : Int, 0 ≤ k → k < (0 : Int) → ¬ mCl1 w0 k a1.toInt a2.toInt from all_none) (Nat.lt_succ_self _) hw  hM (lv_sub hl [1, 2, 3, 0] rfl)
abbrev Py_X12_isDayFor_1 (ad : Nat → Nat) (cy : Nat → ClassId) (B : Int) (qr : Nat) (s1 : Int) (a1 : Int32) (a2 : Int32) (a3 : Int32) (w0 : va_W) : Int32 → va_W → Prop := fun r u => w0 = u ∧ Ev (fun n => m_X12_isDayFor n 0 a1.toInt a2.toInt a3.toInt (sL w0)) (r.toInt, sL w0) ∧ ((r = 0 ∧ (¬ mDay w0 a1.toInt a2.toInt a3.toInt)) ∨ (r = 0 ∧ gi u 12 (10 * a1.toInt + 10).toNat = a2 ∧ (¬ mDay w0 a1.toInt a2.toInt a3.toInt)) ∨ (r = 1 ∧ (mDay w0 a1.toInt a2.toInt a3.toInt)) ∨ (r = 1 ∧ gi u 12 (10 * a1.toInt + 10).toNat = a2 ∧ (mDay w0 a1.toInt a2.toInt a3.toInt)))
set_option maxHeartbeats 4000000 in
set_option maxRecDepth 100000 in
theorem ky_X12_isDayFor_1 (l : Launch) (adK adV : Nat → Nat) (dC : Nat → ClassId) (dI : Nat → Nat → Nat) (cy : Nat → ClassId) (ad : Nat → Nat) (B : Int) (hB0 : 100000 ≤ B) (hB1 : B ≤ 1073741824) (qr : Nat) (s1 : Int)  (a1 : Int32) (ra1 : 0 ≤ a1.toInt) (ta1 : a1.toInt ≤ 11) (a2 : Int32) (ra2 : 0 ≤ a2.toInt) (ta2 : a2.toInt ≤ 9) (a3 : Int32) (ra3 : 0 ≤ a3.toInt) (ta3 : a3.toInt ≤ 44739242) (w0 : va_W) (sz : Nat) (hT : TW ksM ad cy B qr 12 w0)  : Met l yX12_isDayFor (wu yX12_isDayFor cX12_isDayFor 4 (some .boolean)) ({ frames := 3, cells := 0, slots := 0, locals := 57 }) (va_Pc [.ref (ad 0), .int a1, .int a2, .int a3] (wpreS adK adV dC dI cy sz w0)) (va_Qi (Py_X12_isDayFor_1 ad cy B qr s1 a1 a2 a3 w0) (fun u : va_W => wpost dC dI cy (va_A w0 sz) u) (va_A w0 sz)) 0 0 (va_A w0 sz) := by
  refine Met.ofW (cc := cX12_isDayFor) (maxL := 4) (ret := (some .boolean)) (by decide) rfl ?_
  intro p e s m args below meth c s₁ Bk hml hv
  obtain ⟨rfl, ⟨hsz, hP, hK, hD0⟩, hE, hSR⟩ := hv
  have hx := Bk.exec
  have hb := Bk.bytes
  have hr := Bk.returns
  have hlocks := Bk.notSynchronized
  have hC : CallFix p m c cX12_isDayFor 4 s _ (wu yX12_isDayFor cX12_isDayFor 4 (some .boolean)) RX12 := ⟨hx, hb, hml, findClass_of_methodNamed Bk.named, atoms_spec (ws := (wu yX12_isDayFor cX12_isDayFor 4 (some .boolean))) Bk.pre⟩
  subst hsz
  have hD := hD0.self (sz := s.heap.size)
  generalize hAe : va_A w0 s.heap.size = A at hD hE ⊢
  have hA : ∀ q : Nat, s.heap.size ≤ q → A q := fun q h => by rw [← hAe]; exact Or.inr h
  have hw : Wd dC dI A s.heap s.heap [] w0 := ⟨hP, hD, va_S.rf⟩
  have hF : FE ksM ([] : List (Nat × Nat × Nat)) w0 w0 := FE.rf
  have hl := lv_entry ([.ref (ad 0), .int a1, .int a2, .int a3]) (n := 4) (Nat.le_of_ble_eq_true rfl)
  rw [lg_entry_eq]
  generalize (lg_sl ([.ref (ad 0), .int a1, .int a2, .int a3]) ++ List.replicate (4 - (lg_sl ([.ref (ad 0), .int a1, .int a2, .int a3])).length) Slot.unset).toArray = ls at hl ⊢
  have hl : lv_has ls 4 [(0, .ref (ad 0)), (1, .int a1), (2, .int a2), (3, .int a3)] := hl
  generalize hloc : ([] : List Loc) = locs at hw ⊢
  have hM : TT (fun n => m_X12_isDayFor n 0 a1.toInt a2.toInt a3.toInt (sL w0)) (fun n => m_X12_isDayFor n 0 a1.toInt a2.toInt a3.toInt (sL w0)) := TT.rf
  refine lv_aload_n hx hb dX12_isDayFor_0 rfl (lv_at hl 0 rfl) ?_
  refine lv_aload_n hx hb dX12_isDayFor_1 rfl (lv_at hl 0 rfl) ?_
  refine lv_iload_n hx hb dX12_isDayFor_2 rfl (lv_at hl 1 rfl) ?_
  refine lv_iconst (v := 3) hx hb dX12_isDayFor_3 (by decide) ?_
  refine lv_iload_n hx hb dX12_isDayFor_4 rfl (lv_at hl 3 rfl) ?_
  refine lv_bipush (v := 7) hx hb dX12_isDayFor_5 (by decide) ?_
  refine lv_irem hx hb dX12_isDayFor_7 (by decide) ?_
  refine lv_topi (fun x1 ex1 => ?_)
  have ezx1 := ex1
  have ex1 : x1.toInt = a3.toInt % (7 : Int) := by rw [ex1]; exact wk_rem (show 0 ≤ a3.toInt from ra3) (show 0 < (7 : Int) by decide)
  replace hM := hM.lt ex1.symm
  refine lv_iadd hx hb dX12_isDayFor_8 ?_
  refine lv_topi (fun x2 ex2 => ?_)
  have ezx2 := ex2
  have ex2 : x2.toInt = (3 : Int) + x1.toInt := by rw [ex2]; exact wk_add (show (-2147483648) ≤ (3 : Int) + x1.toInt by omega) (show (3 : Int) + x1.toInt ≤ 2147483647 by omega)
  replace hM := hM.lt ex2.symm
  refine tk_Vi hC hK hw hT hA hE hSR kM_at0 (by decide) rfl (ky_X12_streetOf_5 l adK adV dC dI cy ad B hB0 (Int.le_trans hB1 (by decide)) qr s1   a1 (show 0 ≤ a1.toInt from ra1) (show a1.toInt ≤ 11 from ta1) x2 (show 3 ≤ x2.toInt by first | with_reducible assumption | omega) (show x2.toInt ≤ 9 by first | with_reducible assumption | omega) w0 s.heap.size hT ) (cwV 2 hC.2.2.2.2 uV_RX12_300 rfl rfl rfl (by decide +kernel) ⟨Nat.le_of_ble_eq_true rfl, Nat.le_of_ble_eq_true rfl⟩) rfl hl.1 rfl (Nat.le_of_ble_eq_true rfl) dX12_isDayFor_9 (fun r3 w5 H locs hp4 hw => ?_)
  obtain ⟨rfl, hv11, hg10⟩ := hp4
  obtain ⟨g7, g8, c9⟩ := hg10
  replace hM := hM.call hv11 rfl
  refine lv_iload_n hx hb dX12_isDayFor_12 rfl (lv_at hl 1 rfl) ?_
  refine lv_iload_n hx hb dX12_isDayFor_13 rfl (lv_at hl 2 rfl) ?_
  refine tk_Vi hC hK hw hT hA hE hSR kM_at0 (by decide) rfl (ky_X12_hasSign_2 l adK adV dC dI cy ad B hB0 (Int.le_trans hB1 (by decide)) qr s1   r3 (show 0 ≤ r3.toInt by first | with_reducible assumption | omega) (show r3.toInt ≤ 9 by first | with_reducible assumption | omega) a1 (show 0 ≤ a1.toInt from ra1) (show a1.toInt ≤ 11 from ta1) a2 (show 0 ≤ a2.toInt from ra2) (show a2.toInt ≤ 9 from ta2) w0 H.size hT ) (cwV 3 hC.2.2.2.2 uV_RX12_307 rfl rfl rfl (by decide +kernel) ⟨Nat.le_of_ble_eq_true rfl, Nat.le_of_ble_eq_true rfl⟩) rfl hl.1 rfl (Nat.le_of_ble_eq_true rfl) dX12_isDayFor_14 (fun r12 w14 H locs hp13 hw => ?_)
  obtain ⟨rfl, hv23, hg22⟩ := hp13
  rcases hg22 with ⟨rfl, hq16⟩ | ⟨rfl, c17, hq18⟩ | ⟨rfl, hq19⟩ | ⟨rfl, c20, hq21⟩
  · replace hM := hM.call (r' := 0) hv23 (by decide)
    refine lv_if_ne (tgt := 22) hx hb dX12_isDayFor_17 (by decide) (fun c => absurd (by decide) c) (fun _ => ?_)
    replace hM := hM.neg (by decide)
    refine lv_iconst (v := 0) hx hb dX12_isDayFor_20 (by decide) ?_
    exact tk_zret hC hr rfl hlocks hK ⟨rfl, hM.ret (by decide), (Or.inl ⟨rfl, (by unfold mDay; rw [show (10 * a1.toInt + (3 + a3.toInt % 7) + 10) = 10 * a1.toInt + 1 * x2.toInt + 10 by omega]; simp only [c9]; first | exact ⟨by assumption, by assumption, by assumption⟩ | (rintro ⟨q1, q2, q3⟩; first | exact absurd q1 (by assumption) | exact q2 (by assumption) | exact q3 (by assumption)))⟩)⟩ hw dX12_isDayFor_21
  · replace hM := hM.call (r' := 0) hv23 (by decide)
    refine lv_if_ne (tgt := 22) hx hb dX12_isDayFor_17 (by decide) (fun c => absurd (by decide) c) (fun _ => ?_)
    replace hM := hM.neg (by decide)
    refine lv_iconst (v := 0) hx hb dX12_isDayFor_20 (by decide) ?_
    exact tk_zret hC hr rfl hlocks hK ⟨rfl, hM.ret (by decide), (Or.inr (Or.inl ⟨rfl, c17, (by unfold mDay; rw [show (10 * a1.toInt + (3 + a3.toInt % 7) + 10) = 10 * a1.toInt + 1 * x2.toInt + 10 by omega]; simp only [c9, c17]; first | exact ⟨by assumption, by assumption, by assumption⟩ | (rintro ⟨q1, q2, q3⟩; first | exact absurd q1 (by assumption) | exact q2 (by assumption) | exact q3 (by assumption)))⟩))⟩ hw dX12_isDayFor_21
  · replace hM := hM.call (r' := 1) hv23 (by decide)
    refine lv_if_ne (tgt := 22) hx hb dX12_isDayFor_17 (by decide) (fun _ => ?_) (fun c => absurd c (by decide))
    replace hM := hM.pos (by decide)
    refine lv_aload_n hx hb dX12_isDayFor_22 rfl (lv_at hl 0 rfl) ?_
    refine lv_aload_n hx hb dX12_isDayFor_23 rfl (lv_at hl 0 rfl) ?_
    refine lv_iload_n hx hb dX12_isDayFor_24 rfl (lv_at hl 1 rfl) ?_
    refine lv_iconst (v := 0) hx hb dX12_isDayFor_25 (by decide) ?_
    refine tk_Vi hC hK hw hT hA hE hSR kM_at0 (by decide) rfl (ky_X12_streetOf_3 l adK adV dC dI cy ad B hB0 (Int.le_trans hB1 (by decide)) qr s1   a1 (show 0 ≤ a1.toInt from ra1) (show a1.toInt ≤ 11 from ta1) w0 H.size hT ) (cwV 2 hC.2.2.2.2 uV_RX12_300 rfl rfl rfl (by decide +kernel) ⟨Nat.le_of_ble_eq_true rfl, Nat.le_of_ble_eq_true rfl⟩) rfl hl.1 rfl (Nat.le_of_ble_eq_true rfl) dX12_isDayFor_26 (fun r24 w26 H locs hp25 hw => ?_)
    obtain ⟨rfl, hv32, hg31⟩ := hp25
    obtain ⟨g28, g29, c30⟩ := hg31
    replace hM := hM.call hv32 rfl
    refine lv_iload_n hx hb dX12_isDayFor_29 rfl (lv_at hl 3 rfl) ?_
    refine lv_sipush (v := 360) hx hb dX12_isDayFor_30 (by decide) ?_
    refine lv_irem hx hb dX12_isDayFor_33 (by decide) ?_
    refine lv_topi (fun x33 ex33 => ?_)
    have ezx33 := ex33
    have ex33 : x33.toInt = a3.toInt % (360 : Int) := by rw [ex33]; exact wk_rem (show 0 ≤ a3.toInt from ra3) (show 0 < (360 : Int) by decide)
    replace hM := hM.lt ex33.symm
    refine tk_Vi hC hK hw hT hA hE hSR kM_at0 (by decide) rfl (ky_X12_isClosed_1 l adK adV dC dI cy ad B hB0 (Int.le_trans hB1 (by decide)) qr s1   r24 (show 0 ≤ r24.toInt by first | with_reducible assumption | omega) (show r24.toInt ≤ 9 by first | with_reducible assumption | omega) x33 (show 0 ≤ x33.toInt by first | with_reducible assumption | omega) (show x33.toInt ≤ 359 by first | with_reducible assumption | omega) w0 H.size hT ) (cwV 2 hC.2.2.2.2 uV_RX12_311 rfl rfl rfl (by decide +kernel) ⟨Nat.le_of_ble_eq_true rfl, Nat.le_of_ble_eq_true rfl⟩) rfl hl.1 rfl (Nat.le_of_ble_eq_true rfl) dX12_isDayFor_34 (fun r34 w36 H locs hp35 hw => ?_)
    obtain ⟨rfl, hv45, hg44⟩ := hp35
    rcases hg44 with ⟨rfl, hq38⟩ | ⟨rfl, ⟨x39, c40, rx39, tx39⟩, ⟨x41, c42, rx41, tx41⟩, hq43⟩
    · replace hM := hM.call (r' := 0) hv45 (by decide)
      refine lv_if_ne (tgt := 62) hx hb dX12_isDayFor_37 (by decide) (fun c => absurd (by decide) c) (fun _ => ?_)
      replace hM := hM.neg (by decide)
      refine lv_aload_n hx hb dX12_isDayFor_40 rfl (lv_at hl 0 rfl) ?_
      refine lv_aload_n hx hb dX12_isDayFor_41 rfl (lv_at hl 0 rfl) ?_
      refine lv_iload_n hx hb dX12_isDayFor_42 rfl (lv_at hl 1 rfl) ?_
      refine lv_iconst (v := 1) hx hb dX12_isDayFor_43 (by decide) ?_
      refine tk_Vi hC hK hw hT hA hE hSR kM_at0 (by decide) rfl (ky_X12_streetOf_4 l adK adV dC dI cy ad B hB0 (Int.le_trans hB1 (by decide)) qr s1   a1 (show 0 ≤ a1.toInt from ra1) (show a1.toInt ≤ 11 from ta1) w0 H.size hT ) (cwV 2 hC.2.2.2.2 uV_RX12_300 rfl rfl rfl (by decide +kernel) ⟨Nat.le_of_ble_eq_true rfl, Nat.le_of_ble_eq_true rfl⟩) rfl hl.1 rfl (Nat.le_of_ble_eq_true rfl) dX12_isDayFor_44 (fun r46 w48 H locs hp47 hw => ?_)
      obtain ⟨rfl, hv54, hg53⟩ := hp47
      obtain ⟨g50, g51, c52⟩ := hg53
      replace hM := hM.call hv54 rfl
      refine lv_iload_n hx hb dX12_isDayFor_47 rfl (lv_at hl 3 rfl) ?_
      refine lv_sipush (v := 360) hx hb dX12_isDayFor_48 (by decide) ?_
      refine lv_irem hx hb dX12_isDayFor_51 (by decide) ?_
      refine lv_topi (fun x55 ex55 => ?_)
      have ezx55 := ex55
      have ex55 : x55.toInt = a3.toInt % (360 : Int) := by rw [ex55]; exact wk_rem (show 0 ≤ a3.toInt from ra3) (show 0 < (360 : Int) by decide)
      replace hM := hM.lt ex55.symm
      refine tk_Vi hC hK hw hT hA hE hSR kM_at0 (by decide) rfl (ky_X12_isClosed_1 l adK adV dC dI cy ad B hB0 (Int.le_trans hB1 (by decide)) qr s1   r46 (show 0 ≤ r46.toInt by first | with_reducible assumption | omega) (show r46.toInt ≤ 9 by first | with_reducible assumption | omega) x55 (show 0 ≤ x55.toInt by first | with_reducible assumption | omega) (show x55.toInt ≤ 359 by first | with_reducible assumption | omega) w0 H.size hT ) (cwV 2 hC.2.2.2.2 uV_RX12_311 rfl rfl rfl (by decide +kernel) ⟨Nat.le_of_ble_eq_true rfl, Nat.le_of_ble_eq_true rfl⟩) rfl hl.1 rfl (Nat.le_of_ble_eq_true rfl) dX12_isDayFor_52 (fun r56 w58 H locs hp57 hw => ?_)
      obtain ⟨rfl, hv67, hg66⟩ := hp57
      rcases hg66 with ⟨rfl, hq60⟩ | ⟨rfl, ⟨x61, c62, rx61, tx61⟩, ⟨x63, c64, rx63, tx63⟩, hq65⟩
      · replace hM := hM.call (r' := 0) hv67 (by decide)
        refine lv_if_ne (tgt := 62) hx hb dX12_isDayFor_55 (by decide) (fun c => absurd (by decide) c) (fun _ => ?_)
        replace hM := hM.neg (by decide)
        refine lv_iconst (v := 1) hx hb dX12_isDayFor_58 (by decide) ?_
        refine lv_goto (tgt := 63) hx hb dX12_isDayFor_59 (by decide) ?_
        exact tk_zret hC hr rfl hlocks hK ⟨rfl, hM.ret (by decide), (Or.inr (Or.inr (Or.inl ⟨rfl, (by have hq38 := hq38; rw [show x33.toInt = a3.toInt % 360 by omega] at hq38; have hq60 := hq60; rw [show x55.toInt = a3.toInt % 360 by omega] at hq60; unfold mDay; rw [show (10 * a1.toInt + (3 + a3.toInt % 7) + 10) = 10 * a1.toInt + 1 * x2.toInt + 10 by omega]; simp only [c9, c30, c52]; first | exact ⟨by assumption, by assumption, by assumption⟩ | (rintro ⟨q1, q2, q3⟩; first | exact absurd q1 (by assumption) | exact q2 (by assumption) | exact q3 (by assumption)))⟩)))⟩ hw dX12_isDayFor_63
      · replace hM := hM.call (r' := 1) hv67 (by decide)
        refine lv_if_ne (tgt := 62) hx hb dX12_isDayFor_55 (by decide) (fun _ => ?_) (fun c => absurd c (by decide))
        replace hM := hM.pos (by decide)
        refine lv_iconst (v := 0) hx hb dX12_isDayFor_62 (by decide) ?_
        exact tk_zret hC hr rfl hlocks hK ⟨rfl, hM.ret (by decide), (Or.inl ⟨rfl, (by have hq38 := hq38; rw [show x33.toInt = a3.toInt % 360 by omega] at hq38; have hq65 := hq65; rw [show x55.toInt = a3.toInt % 360 by omega] at hq65; unfold mDay; rw [show (10 * a1.toInt + (3 + a3.toInt % 7) + 10) = 10 * a1.toInt + 1 * x2.toInt + 10 by omega]; simp only [c9, c30, c52, c62, c64]; first | exact ⟨by assumption, by assumption, by assumption⟩ | (rintro ⟨q1, q2, q3⟩; first | exact absurd q1 (by assumption) | exact q2 (by assumption) | exact q3 (by assumption)))⟩)⟩ hw dX12_isDayFor_63
    · replace hM := hM.call (r' := 1) hv45 (by decide)
      refine lv_if_ne (tgt := 62) hx hb dX12_isDayFor_37 (by decide) (fun _ => ?_) (fun c => absurd c (by decide))
      replace hM := hM.pos (by decide)
      refine lv_iconst (v := 0) hx hb dX12_isDayFor_62 (by decide) ?_
      exact tk_zret hC hr rfl hlocks hK ⟨rfl, hM.ret (by decide), (Or.inl ⟨rfl, (by have hq43 := hq43; rw [show x33.toInt = a3.toInt % 360 by omega] at hq43; unfold mDay; rw [show (10 * a1.toInt + (3 + a3.toInt % 7) + 10) = 10 * a1.toInt + 1 * x2.toInt + 10 by omega]; simp only [c9, c30, c40, c42]; first | exact ⟨by assumption, by assumption, by assumption⟩ | (rintro ⟨q1, q2, q3⟩; first | exact absurd q1 (by assumption) | exact q2 (by assumption) | exact q3 (by assumption)))⟩)⟩ hw dX12_isDayFor_63
  · replace hM := hM.call (r' := 1) hv23 (by decide)
    refine lv_if_ne (tgt := 22) hx hb dX12_isDayFor_17 (by decide) (fun _ => ?_) (fun c => absurd c (by decide))
    replace hM := hM.pos (by decide)
    refine lv_aload_n hx hb dX12_isDayFor_22 rfl (lv_at hl 0 rfl) ?_
    refine lv_aload_n hx hb dX12_isDayFor_23 rfl (lv_at hl 0 rfl) ?_
    refine lv_iload_n hx hb dX12_isDayFor_24 rfl (lv_at hl 1 rfl) ?_
    refine lv_iconst (v := 0) hx hb dX12_isDayFor_25 (by decide) ?_
    refine tk_Vi hC hK hw hT hA hE hSR kM_at0 (by decide) rfl (ky_X12_streetOf_3 l adK adV dC dI cy ad B hB0 (Int.le_trans hB1 (by decide)) qr s1   a1 (show 0 ≤ a1.toInt from ra1) (show a1.toInt ≤ 11 from ta1) w0 H.size hT ) (cwV 2 hC.2.2.2.2 uV_RX12_300 rfl rfl rfl (by decide +kernel) ⟨Nat.le_of_ble_eq_true rfl, Nat.le_of_ble_eq_true rfl⟩) rfl hl.1 rfl (Nat.le_of_ble_eq_true rfl) dX12_isDayFor_26 (fun r68 w70 H locs hp69 hw => ?_)
    obtain ⟨rfl, hv76, hg75⟩ := hp69
    obtain ⟨g72, g73, c74⟩ := hg75
    replace hM := hM.call hv76 rfl
    obtain rfl : a2 = r68 := c20.symm.trans c74
    refine lv_iload_n hx hb dX12_isDayFor_29 rfl (lv_at hl 3 rfl) ?_
    refine lv_sipush (v := 360) hx hb dX12_isDayFor_30 (by decide) ?_
    refine lv_irem hx hb dX12_isDayFor_33 (by decide) ?_
    refine lv_topi (fun x77 ex77 => ?_)
    have ezx77 := ex77
    have ex77 : x77.toInt = a3.toInt % (360 : Int) := by rw [ex77]; exact wk_rem (show 0 ≤ a3.toInt from ra3) (show 0 < (360 : Int) by decide)
    replace hM := hM.lt ex77.symm
    refine tk_Vi hC hK hw hT hA hE hSR kM_at0 (by decide) rfl (ky_X12_isClosed_1 l adK adV dC dI cy ad B hB0 (Int.le_trans hB1 (by decide)) qr s1   a2 (show 0 ≤ a2.toInt from ra2) (show a2.toInt ≤ 9 from ta2) x77 (show 0 ≤ x77.toInt by first | with_reducible assumption | omega) (show x77.toInt ≤ 359 by first | with_reducible assumption | omega) w0 H.size hT ) (cwV 2 hC.2.2.2.2 uV_RX12_311 rfl rfl rfl (by decide +kernel) ⟨Nat.le_of_ble_eq_true rfl, Nat.le_of_ble_eq_true rfl⟩) rfl hl.1 rfl (Nat.le_of_ble_eq_true rfl) dX12_isDayFor_34 (fun r78 w80 H locs hp79 hw => ?_)
    obtain ⟨rfl, hv89, hg88⟩ := hp79
    rcases hg88 with ⟨rfl, hq82⟩ | ⟨rfl, ⟨x83, c84, rx83, tx83⟩, ⟨x85, c86, rx85, tx85⟩, hq87⟩
    · replace hM := hM.call (r' := 0) hv89 (by decide)
      refine lv_if_ne (tgt := 62) hx hb dX12_isDayFor_37 (by decide) (fun c => absurd (by decide) c) (fun _ => ?_)
      replace hM := hM.neg (by decide)
      refine lv_aload_n hx hb dX12_isDayFor_40 rfl (lv_at hl 0 rfl) ?_
      refine lv_aload_n hx hb dX12_isDayFor_41 rfl (lv_at hl 0 rfl) ?_
      refine lv_iload_n hx hb dX12_isDayFor_42 rfl (lv_at hl 1 rfl) ?_
      refine lv_iconst (v := 1) hx hb dX12_isDayFor_43 (by decide) ?_
      refine tk_Vi hC hK hw hT hA hE hSR kM_at0 (by decide) rfl (ky_X12_streetOf_4 l adK adV dC dI cy ad B hB0 (Int.le_trans hB1 (by decide)) qr s1   a1 (show 0 ≤ a1.toInt from ra1) (show a1.toInt ≤ 11 from ta1) w0 H.size hT ) (cwV 2 hC.2.2.2.2 uV_RX12_300 rfl rfl rfl (by decide +kernel) ⟨Nat.le_of_ble_eq_true rfl, Nat.le_of_ble_eq_true rfl⟩) rfl hl.1 rfl (Nat.le_of_ble_eq_true rfl) dX12_isDayFor_44 (fun r90 w92 H locs hp91 hw => ?_)
      obtain ⟨rfl, hv98, hg97⟩ := hp91
      obtain ⟨g94, g95, c96⟩ := hg97
      replace hM := hM.call hv98 rfl
      refine lv_iload_n hx hb dX12_isDayFor_47 rfl (lv_at hl 3 rfl) ?_
      refine lv_sipush (v := 360) hx hb dX12_isDayFor_48 (by decide) ?_
      refine lv_irem hx hb dX12_isDayFor_51 (by decide) ?_
      refine lv_topi (fun x99 ex99 => ?_)
      have ezx99 := ex99
      have ex99 : x99.toInt = a3.toInt % (360 : Int) := by rw [ex99]; exact wk_rem (show 0 ≤ a3.toInt from ra3) (show 0 < (360 : Int) by decide)
      replace hM := hM.lt ex99.symm
      refine tk_Vi hC hK hw hT hA hE hSR kM_at0 (by decide) rfl (ky_X12_isClosed_1 l adK adV dC dI cy ad B hB0 (Int.le_trans hB1 (by decide)) qr s1   r90 (show 0 ≤ r90.toInt by first | with_reducible assumption | omega) (show r90.toInt ≤ 9 by first | with_reducible assumption | omega) x99 (show 0 ≤ x99.toInt by first | with_reducible assumption | omega) (show x99.toInt ≤ 359 by first | with_reducible assumption | omega) w0 H.size hT ) (cwV 2 hC.2.2.2.2 uV_RX12_311 rfl rfl rfl (by decide +kernel) ⟨Nat.le_of_ble_eq_true rfl, Nat.le_of_ble_eq_true rfl⟩) rfl hl.1 rfl (Nat.le_of_ble_eq_true rfl) dX12_isDayFor_52 (fun r100 w102 H locs hp101 hw => ?_)
      obtain ⟨rfl, hv111, hg110⟩ := hp101
      rcases hg110 with ⟨rfl, hq104⟩ | ⟨rfl, ⟨x105, c106, rx105, tx105⟩, ⟨x107, c108, rx107, tx107⟩, hq109⟩
      · replace hM := hM.call (r' := 0) hv111 (by decide)
        refine lv_if_ne (tgt := 62) hx hb dX12_isDayFor_55 (by decide) (fun c => absurd (by decide) c) (fun _ => ?_)
        replace hM := hM.neg (by decide)
        refine lv_iconst (v := 1) hx hb dX12_isDayFor_58 (by decide) ?_
        refine lv_goto (tgt := 63) hx hb dX12_isDayFor_59 (by decide) ?_
        exact tk_zret hC hr rfl hlocks hK ⟨rfl, hM.ret (by decide), (Or.inr (Or.inr (Or.inr ⟨rfl, c20, (by have hq82 := hq82; rw [show x77.toInt = a3.toInt % 360 by omega] at hq82; have hq104 := hq104; rw [show x99.toInt = a3.toInt % 360 by omega] at hq104; unfold mDay; rw [show (10 * a1.toInt + (3 + a3.toInt % 7) + 10) = 10 * a1.toInt + 1 * x2.toInt + 10 by omega]; simp only [c9, c20, c96]; first | exact ⟨by assumption, by assumption, by assumption⟩ | (rintro ⟨q1, q2, q3⟩; first | exact absurd q1 (by assumption) | exact q2 (by assumption) | exact q3 (by assumption)))⟩)))⟩ hw dX12_isDayFor_63
      · replace hM := hM.call (r' := 1) hv111 (by decide)
        refine lv_if_ne (tgt := 62) hx hb dX12_isDayFor_55 (by decide) (fun _ => ?_) (fun c => absurd c (by decide))
        replace hM := hM.pos (by decide)
        refine lv_iconst (v := 0) hx hb dX12_isDayFor_62 (by decide) ?_
        exact tk_zret hC hr rfl hlocks hK ⟨rfl, hM.ret (by decide), (Or.inr (Or.inl ⟨rfl, c20, (by have hq82 := hq82; rw [show x77.toInt = a3.toInt % 360 by omega] at hq82; have hq109 := hq109; rw [show x99.toInt = a3.toInt % 360 by omega] at hq109; unfold mDay; rw [show (10 * a1.toInt + (3 + a3.toInt % 7) + 10) = 10 * a1.toInt + 1 * x2.toInt + 10 by omega]; simp only [c9, c20, c96, c106, c108]; first | exact ⟨by assumption, by assumption, by assumption⟩ | (rintro ⟨q1, q2, q3⟩; first | exact absurd q1 (by assumption) | exact q2 (by assumption) | exact q3 (by assumption)))⟩))⟩ hw dX12_isDayFor_63
    · replace hM := hM.call (r' := 1) hv89 (by decide)
      refine lv_if_ne (tgt := 62) hx hb dX12_isDayFor_37 (by decide) (fun _ => ?_) (fun c => absurd c (by decide))
      replace hM := hM.pos (by decide)
      refine lv_iconst (v := 0) hx hb dX12_isDayFor_62 (by decide) ?_
      exact tk_zret hC hr rfl hlocks hK ⟨rfl, hM.ret (by decide), (Or.inr (Or.inl ⟨rfl, c20, (by have hq87 := hq87; rw [show x77.toInt = a3.toInt % 360 by omega] at hq87; unfold mDay; rw [show (10 * a1.toInt + (3 + a3.toInt % 7) + 10) = 10 * a1.toInt + 1 * x2.toInt + 10 by omega]; simp only [c9, c20, c84, c86]; first | exact ⟨by assumption, by assumption, by assumption⟩ | (rintro ⟨q1, q2, q3⟩; first | exact absurd q1 (by assumption) | exact q2 (by assumption) | exact q3 (by assumption)))⟩))⟩ hw dX12_isDayFor_63
abbrev Py_X12_isLifted_1 (ad : Nat → Nat) (cy : Nat → ClassId) (B : Int) (qr : Nat) (s1 : Int) (a1 : Int32) (a2 : Int32) (w0 : va_W) : Int32 → va_W → Prop := fun r u => w0 = u ∧ Ev (fun n => m_X12_isLifted n 0 a1.toInt a2.toInt (sL w0)) (r.toInt, sL w0) ∧ ((r = 0 ∧ (¬ mLf w0 a1.toInt a2.toInt)) ∨ (r = 1 ∧ (∃ y : Int32, gi u 12 3 = y ∧ 1 ≤ y.toInt ∧ y.toInt ≤ 4) ∧ (mLf w0 a1.toInt a2.toInt)))
set_option maxHeartbeats 4000000 in
set_option maxRecDepth 100000 in
theorem ky_X12_isLifted_1 (l : Launch) (adK adV : Nat → Nat) (dC : Nat → ClassId) (dI : Nat → Nat → Nat) (cy : Nat → ClassId) (ad : Nat → Nat) (B : Int) (hB0 : 100000 ≤ B) (hB1 : B ≤ 1073741824) (qr : Nat) (s1 : Int)  (a1 : Int32) (ra1 : 0 ≤ a1.toInt) (ta1 : a1.toInt ≤ 11) (a2 : Int32) (ra2 : 0 ≤ a2.toInt) (ta2 : a2.toInt ≤ 1073741824) (w0 : va_W) (sz : Nat) (hT : TW ksM ad cy B qr 12 w0)  : Met l yX12_isLifted (wu yX12_isLifted cX12_isLifted 5 (some .boolean)) ({ frames := 1, cells := 0, slots := 0, locals := 12 }) (va_Pc [.ref (ad 0), .int a1, .int a2] (wpreS adK adV dC dI cy sz w0)) (va_Qi (Py_X12_isLifted_1 ad cy B qr s1 a1 a2 w0) (fun u : va_W => wpost dC dI cy (va_A w0 sz) u) (va_A w0 sz)) 0 0 (va_A w0 sz) := by
  refine Met.ofW (cc := cX12_isLifted) (maxL := 5) (ret := (some .boolean)) (by decide) rfl ?_
  intro p e s m args below meth c s₁ Bk hml hv
  obtain ⟨rfl, ⟨hsz, hP, hK, hD0⟩, hE, hSR⟩ := hv
  have hx := Bk.exec
  have hb := Bk.bytes
  have hr := Bk.returns
  have hlocks := Bk.notSynchronized
  have hC : CallFix p m c cX12_isLifted 5 s _ (wu yX12_isLifted cX12_isLifted 5 (some .boolean)) RX12 := ⟨hx, hb, hml, findClass_of_methodNamed Bk.named, atoms_spec (ws := (wu yX12_isLifted cX12_isLifted 5 (some .boolean))) Bk.pre⟩
  subst hsz
  have hD := hD0.self (sz := s.heap.size)
  generalize hAe : va_A w0 s.heap.size = A at hD hE ⊢
  have hA : ∀ q : Nat, s.heap.size ≤ q → A q := fun q h => by rw [← hAe]; exact Or.inr h
  have hw : Wd dC dI A s.heap s.heap [] w0 := ⟨hP, hD, va_S.rf⟩
  have hF : FE ksM ([] : List (Nat × Nat × Nat)) w0 w0 := FE.rf
  have hl := lv_entry ([.ref (ad 0), .int a1, .int a2]) (n := 5) (Nat.le_of_ble_eq_true rfl)
  rw [lg_entry_eq]
  generalize (lg_sl ([.ref (ad 0), .int a1, .int a2]) ++ List.replicate (5 - (lg_sl ([.ref (ad 0), .int a1, .int a2])).length) Slot.unset).toArray = ls at hl ⊢
  have hl : lv_has ls 5 [(0, .ref (ad 0)), (1, .int a1), (2, .int a2)] := hl
  generalize hloc : ([] : List Loc) = locs at hw ⊢
  have hinX12 : ∀ w ∈ u_ws RX12 TX12 42, w ∈ (wu yX12_isLifted cX12_isLifted 5 (some .boolean)) := fun _ h => List.mem_cons_of_mem _ (up_71 h)
  have L2 : ∀ (n2 : Nat) (v2_3 : Int32) (H : Heap) (locs : List Loc) (ls : Array Slot), 0 ≤ a1.toInt → a1.toInt ≤ 11 → 0 ≤ a2.toInt → a2.toInt ≤ 1073741824 → 0 ≤ v2_3.toInt → v2_3.toInt ≤ 4 → (∀ k : Int, 0 ≤ k → k < v2_3.toInt → ¬ mLf1 w0 k a1.toInt a2.toInt) → (4 - v2_3.toInt).toNat < n2 → Wd dC dI A s.heap H locs w0 → TT (fun n => m_X12_isLifted n 0 a1.toInt a2.toInt (sL w0)) (fun n => j_X12_isLifted 0 n 2 [a1.toInt, a2.toInt, v2_3.toInt] (sL w0)) → lv_has ls 5 [(0, .ref (ad 0)), (1, .int a1), (2, .int a2), (3, .int v2_3)] → W p l e ({ frames := 1, cells := 0, slots := 0, locals := 12 }) s m (List.toArray [.ref (ad 0), .int a1, .int a2]) below meth c H locs 0 0 (MQ below (va_Qi (Py_X12_isLifted_1 ad cy B qr s1 a1 a2 w0) (fun u : va_W => wpost dC dI cy A u) A) (List.toArray [.ref (ad 0), .int a1, .int a2]) s 0 0 A) (F0 m 2 ls []) := by
    intro n2
    induction n2 with
    | zero => intro v2_3 H locs ls r1 t2 r3 t4 r5 t6 hcr2_0 hm2 hw hM hl; omega
    | succ n2 ih2 =>
      intro v2_3 H locs ls r1 t2 r3 t4 r5 t6 hcr2_0 hm2 hw hM hl
      replace hM := hM.suc (fun _ => e_X12_isLifted_2)
      refine lv_iload_n hx hb dX12_isLifted_2 rfl (lv_at hl 3 rfl) ?_
      refine lv_aload_n hx hb dX12_isLifted_3 rfl (lv_at hl 0 rfl) ?_
      refine tk_getA hC hK hw hT hinX12 kM_at0 (by decide) rfl 26 (by decide) (List.mem_cons_of_mem _ uw_7_1) rfl rfl dX12_isLifted_4 ?_
      refine lv_iconst (v := 3) hx hb dX12_isLifted_7 (by decide) ?_
      refine tk_ialdR hC hK hw hT kM_at12 rfl (by decide) (by decide) dX12_isLifted_8 (fun x7 c8 Ex7 => ?_)
      have hox7 := c8
      replace hM := hM.rd (sL_at (kM_lt kM_at12) hox7)
      have bx7 := tk_rgI rfl 3 1 1 0 4 (by decide +kernel) ⟨0, by decide, by decide⟩ Ex7
      have c8 : gi w0 12 3 = x7 := c8
      refine lv_icmp_ge (tgt := 72) hx hb dX12_isLifted_9 (by decide) (fun c9 => ?_) (fun c9 => ?_)
      · have c9 : x7.toInt ≤ v2_3.toInt := wk_le.mp c9
        replace hM := hM.pos c9
        refine lv_iconst (v := 0) hx hb dX12_isLifted_72 (by decide) ?_
        exact tk_zret hC hr rfl hlocks hK ⟨rfl, hM.ret (by decide), (Or.inl ⟨rfl, (by exact mLf_no hcr2_0 (by simp only [c8]; omega))⟩)⟩ hw dX12_isLifted_73
      · have c9 : v2_3.toInt < x7.toInt := wk_leF c9
        replace hM := hM.neg (Int.not_le.mpr c9)
        refine lv_sipush (v := 156) hx hb dX12_isLifted_12 (by decide) ?_
        refine lv_iconst (v := 3) hx hb dX12_isLifted_15 (by decide) ?_
        refine lv_iload_n hx hb dX12_isLifted_16 rfl (lv_at hl 3 rfl) ?_
        refine lv_imul hx hb dX12_isLifted_17 ?_
        refine lv_topi (fun x10 ex10 => ?_)
        have ezx10 := ex10
        have ex10 : x10.toInt = (3 : Int) * v2_3.toInt := by rw [ex10]; exact wk_mul (show (-2147483648) ≤ (3 : Int) * v2_3.toInt by omega) (show (3 : Int) * v2_3.toInt ≤ 2147483647 by omega)
        replace hM := hM.lt ex10.symm
        refine lv_iadd hx hb dX12_isLifted_18 ?_
        refine lv_topi (fun x11 ex11 => ?_)
        have ezx11 := ex11
        have ex11 : x11.toInt = (156 : Int) + x10.toInt := by rw [ex11]; exact wk_add (show (-2147483648) ≤ (156 : Int) + x10.toInt by omega) (show (156 : Int) + x10.toInt ≤ 2147483647 by omega)
        replace hM := hM.lt ex11.symm
        refine lv_istore (lv' := [(4, .int x11), (0, .ref (ad 0)), (1, .int a1), (2, .int a2), (3, .int v2_3)]) hx hb dX12_isLifted_19 hl (by decide) rfl (fun ls hl => ?_)
        refine lv_aload_n hx hb dX12_isLifted_21 rfl (lv_at hl 1 rfl) ?_
        refine tk_getA hC hK hw hT hinX12 kM_at0 (by decide) rfl 26 (by decide) (List.mem_cons_of_mem _ uw_7_1) rfl rfl dX12_isLifted_22 ?_
        refine lv_iload hx hb dX12_isLifted_25 (lv_at hl 0 rfl) ?_
        refine tk_ialdR hC hK hw hT kM_at12 rfl (show 0 ≤ x11.toInt by first | with_reducible assumption | omega) (show x11.toInt < 296 by first | with_reducible assumption | omega) dX12_isLifted_27 (fun x12 c13 Ex12 => ?_)
        have hox12 := c13
        have c13 : gi w0 12 (3 * v2_3.toInt + 156).toNat = x12 := (congrArg (gi w0 12) (congrArg Int.toNat (show 3 * v2_3.toInt + 156 = x11.toInt by first | exact Int.le_antisymm (by omega) (by omega) | omega))).trans c13
        replace hM := hM.rd (sL_at (kM_lt kM_at12) hox12)
        refine lv_iload_n hx hb dX12_isLifted_28 rfl (lv_at hl 2 rfl) ?_
        refine lv_icmp_ne (tgt := 66) hx hb dX12_isLifted_29 (by decide) (fun c14 => ?_) (fun c14 => ?_)
        · have c14 : ¬ x12.toInt = a1.toInt := wk_eqF c14
          replace hM := hM.pos c14
          obtain ⟨x15, ex15⟩ : ∃ y : Int32, y = v2_3 + Int32.ofInt 1 := ⟨_, rfl⟩
          have erx15 := ex15
          refine lv_iinc (v := x15) (lv' := [(3, .int x15), (4, .int x11), (0, .ref (ad 0)), (1, .int a1), (2, .int a2)]) hx hb dX12_isLifted_66 hl (k := 4) rfl ex15.symm (by decide) rfl (fun ls hl => ?_)
          have ex15 : x15.toInt = v2_3.toInt + 1 := by rw [ex15]; exact wk_add (y := 1) (show -2147483648 ≤ v2_3.toInt + 1 by omega) (show v2_3.toInt + 1 ≤ 2147483647 by omega)
          replace hM := hM.lt ex15.symm
          refine lv_goto (tgt := 2) hx hb dX12_isLifted_69 (by decide) ?_
          exact ih2 x15 H locs ls  (show 0 ≤ a1.toInt from r1) (show a1.toInt ≤ 11 from t2) (show 0 ≤ a2.toInt from r3) (show a2.toInt ≤ 1073741824 from t4) (show 0 ≤ x15.toInt by first | with_reducible assumption | omega) (show x15.toInt ≤ 4 by first | with_reducible assumption | omega) (show ∀ k : Int, 0 ≤ k → k < x15.toInt → ¬ mLf1 w0 k a1.toInt a2.toInt from all_step hcr2_0 (show ¬ mLf1 w0 v2_3.toInt a1.toInt a2.toInt by unfold mLf1; simp only [c8, c13]; omega) (by omega)) (show (4 - x15.toInt).toNat < n2 by first | exact tn_lt hm2 (by omega) (by omega) | omega) hw  hM (lv_sub hl [2, 3, 4, 0] rfl)
        · have c14 : x12.toInt = a1.toInt := wk_eq.mp c14
          replace hM := hM.neg (fun q => q c14)
          refine lv_iload_n hx hb dX12_isLifted_32 rfl (lv_at hl 3 rfl) ?_
          refine lv_bipush (v := 24) hx hb dX12_isLifted_33 (by decide) ?_
          refine lv_irem hx hb dX12_isLifted_35 (by decide) ?_
          refine lv_topi (fun x16 ex16 => ?_)
          have ezx16 := ex16
          have ex16 : x16.toInt = a2.toInt % (24 : Int) := by rw [ex16]; exact wk_rem (show 0 ≤ a2.toInt from r3) (show 0 < (24 : Int) by decide)
          replace hM := hM.lt ex16.symm
          refine lv_aload_n hx hb dX12_isLifted_36 rfl (lv_at hl 1 rfl) ?_
          refine tk_getA hC hK hw hT hinX12 kM_at0 (by decide) rfl 26 (by decide) (List.mem_cons_of_mem _ uw_7_1) rfl rfl dX12_isLifted_37 ?_
          refine lv_iload hx hb dX12_isLifted_40 (lv_at hl 0 rfl) ?_
          refine lv_iconst (v := 1) hx hb dX12_isLifted_42 (by decide) ?_
          refine lv_iadd hx hb dX12_isLifted_43 ?_
          refine lv_topi (fun x17 ex17 => ?_)
          have ezx17 := ex17
          have ex17 : x17.toInt = x11.toInt + (1 : Int) := by rw [ex17]; exact wk_add (show (-2147483648) ≤ x11.toInt + (1 : Int) by omega) (show x11.toInt + (1 : Int) ≤ 2147483647 by omega)
          replace hM := hM.lt ex17.symm
          refine tk_ialdR hC hK hw hT kM_at12 rfl (show 0 ≤ x17.toInt by first | with_reducible assumption | omega) (show x17.toInt < 296 by first | with_reducible assumption | omega) dX12_isLifted_44 (fun x18 c19 Ex18 => ?_)
          have hox18 := c19
          have c19 : gi w0 12 (3 * v2_3.toInt + 157).toNat = x18 := (congrArg (gi w0 12) (congrArg Int.toNat (show 3 * v2_3.toInt + 157 = x17.toInt by first | exact Int.le_antisymm (by omega) (by omega) | omega))).trans c19
          replace hM := hM.rd (sL_at (kM_lt kM_at12) hox18)
          refine lv_icmp_lt (tgt := 66) hx hb dX12_isLifted_45 (by decide) (fun c20 => ?_) (fun c20 => ?_)
          · have c20 : x16.toInt < x18.toInt := wk_lt.mp c20
            replace hM := hM.pos c20
            obtain ⟨x21, ex21⟩ : ∃ y : Int32, y = v2_3 + Int32.ofInt 1 := ⟨_, rfl⟩
            have erx21 := ex21
            refine lv_iinc (v := x21) (lv' := [(3, .int x21), (4, .int x11), (0, .ref (ad 0)), (1, .int a1), (2, .int a2)]) hx hb dX12_isLifted_66 hl (k := 4) rfl ex21.symm (by decide) rfl (fun ls hl => ?_)
            have ex21 : x21.toInt = v2_3.toInt + 1 := by rw [ex21]; exact wk_add (y := 1) (show -2147483648 ≤ v2_3.toInt + 1 by omega) (show v2_3.toInt + 1 ≤ 2147483647 by omega)
            replace hM := hM.lt ex21.symm
            refine lv_goto (tgt := 2) hx hb dX12_isLifted_69 (by decide) ?_
            exact ih2 x21 H locs ls  (show 0 ≤ a1.toInt from r1) (show a1.toInt ≤ 11 from t2) (show 0 ≤ a2.toInt from r3) (show a2.toInt ≤ 1073741824 from t4) (show 0 ≤ x21.toInt by first | with_reducible assumption | omega) (show x21.toInt ≤ 4 by first | with_reducible assumption | omega) (show ∀ k : Int, 0 ≤ k → k < x21.toInt → ¬ mLf1 w0 k a1.toInt a2.toInt from all_step hcr2_0 (show ¬ mLf1 w0 v2_3.toInt a1.toInt a2.toInt by unfold mLf1; simp only [c8, c13, c19]; omega) (by omega)) (show (4 - x21.toInt).toNat < n2 by first | exact tn_lt hm2 (by omega) (by omega) | omega) hw  hM (lv_sub hl [2, 3, 4, 0] rfl)
          · have c20 : x18.toInt ≤ x16.toInt := wk_ltF c20
            replace hM := hM.neg (Int.not_lt.mpr c20)
            refine lv_iload_n hx hb dX12_isLifted_48 rfl (lv_at hl 3 rfl) ?_
            refine lv_bipush (v := 24) hx hb dX12_isLifted_49 (by decide) ?_
            refine lv_irem hx hb dX12_isLifted_51 (by decide) ?_
            refine lv_topi (fun x22 ex22 => ?_)
            have ezx22 := ex22
            have ex22 : x22.toInt = a2.toInt % (24 : Int) := by rw [ex22]; exact wk_rem (show 0 ≤ a2.toInt from r3) (show 0 < (24 : Int) by decide)
            replace hM := hM.lt ex22.symm
            refine lv_aload_n hx hb dX12_isLifted_52 rfl (lv_at hl 1 rfl) ?_
            refine tk_getA hC hK hw hT hinX12 kM_at0 (by decide) rfl 26 (by decide) (List.mem_cons_of_mem _ uw_7_1) rfl rfl dX12_isLifted_53 ?_
            refine lv_iload hx hb dX12_isLifted_56 (lv_at hl 0 rfl) ?_
            refine lv_iconst (v := 2) hx hb dX12_isLifted_58 (by decide) ?_
            refine lv_iadd hx hb dX12_isLifted_59 ?_
            refine lv_topi (fun x23 ex23 => ?_)
            have ezx23 := ex23
            have ex23 : x23.toInt = x11.toInt + (2 : Int) := by rw [ex23]; exact wk_add (show (-2147483648) ≤ x11.toInt + (2 : Int) by omega) (show x11.toInt + (2 : Int) ≤ 2147483647 by omega)
            replace hM := hM.lt ex23.symm
            refine tk_ialdR hC hK hw hT kM_at12 rfl (show 0 ≤ x23.toInt by first | with_reducible assumption | omega) (show x23.toInt < 296 by first | with_reducible assumption | omega) dX12_isLifted_60 (fun x24 c25 Ex24 => ?_)
            have hox24 := c25
            have c25 : gi w0 12 (3 * v2_3.toInt + 158).toNat = x24 := (congrArg (gi w0 12) (congrArg Int.toNat (show 3 * v2_3.toInt + 158 = x23.toInt by first | exact Int.le_antisymm (by omega) (by omega) | omega))).trans c25
            replace hM := hM.rd (sL_at (kM_lt kM_at12) hox24)
            refine lv_icmp_ge (tgt := 66) hx hb dX12_isLifted_61 (by decide) (fun c26 => ?_) (fun c26 => ?_)
            · have c26 : x24.toInt ≤ x22.toInt := wk_le.mp c26
              replace hM := hM.pos c26
              obtain ⟨x27, ex27⟩ : ∃ y : Int32, y = v2_3 + Int32.ofInt 1 := ⟨_, rfl⟩
              have erx27 := ex27
              refine lv_iinc (v := x27) (lv' := [(3, .int x27), (4, .int x11), (0, .ref (ad 0)), (1, .int a1), (2, .int a2)]) hx hb dX12_isLifted_66 hl (k := 4) rfl ex27.symm (by decide) rfl (fun ls hl => ?_)
              have ex27 : x27.toInt = v2_3.toInt + 1 := by rw [ex27]; exact wk_add (y := 1) (show -2147483648 ≤ v2_3.toInt + 1 by omega) (show v2_3.toInt + 1 ≤ 2147483647 by omega)
              replace hM := hM.lt ex27.symm
              refine lv_goto (tgt := 2) hx hb dX12_isLifted_69 (by decide) ?_
              exact ih2 x27 H locs ls  (show 0 ≤ a1.toInt from r1) (show a1.toInt ≤ 11 from t2) (show 0 ≤ a2.toInt from r3) (show a2.toInt ≤ 1073741824 from t4) (show 0 ≤ x27.toInt by first | with_reducible assumption | omega) (show x27.toInt ≤ 4 by first | with_reducible assumption | omega) (show ∀ k : Int, 0 ≤ k → k < x27.toInt → ¬ mLf1 w0 k a1.toInt a2.toInt from all_step hcr2_0 (show ¬ mLf1 w0 v2_3.toInt a1.toInt a2.toInt by unfold mLf1; simp only [c8, c13, c19, c25]; omega) (by omega)) (show (4 - x27.toInt).toNat < n2 by first | exact tn_lt hm2 (by omega) (by omega) | omega) hw  hM (lv_sub hl [2, 3, 4, 0] rfl)
            · have c26 : x22.toInt < x24.toInt := wk_leF c26
              replace hM := hM.neg (Int.not_le.mpr c26)
              refine lv_iconst (v := 1) hx hb dX12_isLifted_64 (by decide) ?_
              exact tk_zret hC hr rfl hlocks hK ⟨rfl, hM.ret (by decide), (Or.inr ⟨rfl, ⟨x7, c8, (show 1 ≤ x7.toInt by first | with_reducible assumption | omega), (show x7.toInt ≤ 4 by first | with_reducible assumption | omega)⟩, (by exact ⟨v2_3.toInt, by omega, by simp only [c8, c13, c19, c25]; omega, by unfold mLf1; simp only [c8, c13, c19, c25]; omega⟩)⟩)⟩ hw dX12_isLifted_65
  have hM : TT (fun n => m_X12_isLifted n 0 a1.toInt a2.toInt (sL w0)) (fun n => m_X12_isLifted n 0 a1.toInt a2.toInt (sL w0)) := TT.rf
  refine lv_iconst (v := 0) hx hb dX12_isLifted_0 (by decide) ?_
  refine lv_istore_n (lv' := [(3, .int 0), (0, .ref (ad 0)), (1, .int a1), (2, .int a2)]) hx hb dX12_isLifted_1 rfl hl (by decide) rfl (fun ls hl => ?_)
  exact L2 ((4 - (0 : Int)).toNat + 1) 0 s.heap locs ls  (show 0 ≤ a1.toInt from ra1) (show a1.toInt ≤ 11 from ta1) (show 0 ≤ a2.toInt from ra2) (show a2.toInt ≤ 1073741824 from ta2) (by decide) (by decide) (show ∀ k : Int, 0 ≤ k → k < (0 : Int) → ¬ mLf1 w0 k a1.toInt a2.toInt from all_none) (Nat.lt_succ_self _) hw  hM (lv_sub hl [1, 2, 3, 0] rfl)
abbrev Py_X12_isOpen_1 (ad : Nat → Nat) (cy : Nat → ClassId) (B : Int) (qr : Nat) (s1 : Int) (a1 : Int32) (a2 : Int32) (a3 : Int32) (w0 : va_W) : Int32 → va_W → Prop := fun r u => w0 = u ∧ Ev (fun n => m_X12_isOpen n 0 a1.toInt a2.toInt a3.toInt (sL w0)) (r.toInt, sL w0) ∧ ((r = 0 ∧ (¬ mOpen w0 a1.toInt a2.toInt a3.toInt)) ∨ (r = 0 ∧ gi u 12 (10 * a1.toInt + 10).toNat = a2 ∧ gi u 12 (10 * a1.toInt + 11).toNat = a2 ∧ (¬ mOpen w0 a1.toInt a2.toInt a3.toInt)) ∨ (r = 0 ∧ gi u 12 (10 * a1.toInt + 10).toNat = a2 ∧ (¬ mOpen w0 a1.toInt a2.toInt a3.toInt)) ∨ (r = 0 ∧ gi u 12 (10 * a1.toInt + 11).toNat = a2 ∧ (¬ mOpen w0 a1.toInt a2.toInt a3.toInt)) ∨ (r = 1 ∧ gi u 12 (10 * a1.toInt + 10).toNat = a2 ∧ gi u 12 (10 * a1.toInt + 11).toNat = a2 ∧ (mOpen w0 a1.toInt a2.toInt a3.toInt)) ∨ (r = 1 ∧ gi u 12 (10 * a1.toInt + 10).toNat = a2 ∧ (mOpen w0 a1.toInt a2.toInt a3.toInt)) ∨ (r = 1 ∧ gi u 12 (10 * a1.toInt + 11).toNat = a2 ∧ (mOpen w0 a1.toInt a2.toInt a3.toInt)))
set_option maxHeartbeats 4000000 in
set_option maxRecDepth 100000 in
theorem ky_X12_isOpen_1 (l : Launch) (adK adV : Nat → Nat) (dC : Nat → ClassId) (dI : Nat → Nat → Nat) (cy : Nat → ClassId) (ad : Nat → Nat) (B : Int) (hB0 : 100000 ≤ B) (hB1 : B ≤ 1073741824) (qr : Nat) (s1 : Int)  (a1 : Int32) (ra1 : 0 ≤ a1.toInt) (ta1 : a1.toInt ≤ 11) (a2 : Int32) (ra2 : 0 ≤ a2.toInt) (ta2 : a2.toInt ≤ 9) (a3 : Int32) (ra3 : 0 ≤ a3.toInt) (ta3 : a3.toInt ≤ 1073741824) (w0 : va_W) (sz : Nat) (hT : TW ksM ad cy B qr 12 w0)  : Met l yX12_isOpen (wu yX12_isOpen cX12_isOpen 4 (some .boolean)) ({ frames := 4, cells := 0, slots := 0, locals := 80 }) (va_Pc [.ref (ad 0), .int a1, .int a2, .int a3] (wpreS adK adV dC dI cy sz w0)) (va_Qi (Py_X12_isOpen_1 ad cy B qr s1 a1 a2 a3 w0) (fun u : va_W => wpost dC dI cy (va_A w0 sz) u) (va_A w0 sz)) 0 0 (va_A w0 sz) := by
  refine Met.ofW (cc := cX12_isOpen) (maxL := 4) (ret := (some .boolean)) (by decide) rfl ?_
  intro p e s m args below meth c s₁ Bk hml hv
  obtain ⟨rfl, ⟨hsz, hP, hK, hD0⟩, hE, hSR⟩ := hv
  have hx := Bk.exec
  have hb := Bk.bytes
  have hr := Bk.returns
  have hlocks := Bk.notSynchronized
  have hC : CallFix p m c cX12_isOpen 4 s _ (wu yX12_isOpen cX12_isOpen 4 (some .boolean)) RX12 := ⟨hx, hb, hml, findClass_of_methodNamed Bk.named, atoms_spec (ws := (wu yX12_isOpen cX12_isOpen 4 (some .boolean))) Bk.pre⟩
  subst hsz
  have hD := hD0.self (sz := s.heap.size)
  generalize hAe : va_A w0 s.heap.size = A at hD hE ⊢
  have hA : ∀ q : Nat, s.heap.size ≤ q → A q := fun q h => by rw [← hAe]; exact Or.inr h
  have hw : Wd dC dI A s.heap s.heap [] w0 := ⟨hP, hD, va_S.rf⟩
  have hF : FE ksM ([] : List (Nat × Nat × Nat)) w0 w0 := FE.rf
  have hl := lv_entry ([.ref (ad 0), .int a1, .int a2, .int a3]) (n := 4) (Nat.le_of_ble_eq_true rfl)
  rw [lg_entry_eq]
  generalize (lg_sl ([.ref (ad 0), .int a1, .int a2, .int a3]) ++ List.replicate (4 - (lg_sl ([.ref (ad 0), .int a1, .int a2, .int a3])).length) Slot.unset).toArray = ls at hl ⊢
  have hl : lv_has ls 4 [(0, .ref (ad 0)), (1, .int a1), (2, .int a2), (3, .int a3)] := hl
  generalize hloc : ([] : List Loc) = locs at hw ⊢
  have hM : TT (fun n => m_X12_isOpen n 0 a1.toInt a2.toInt a3.toInt (sL w0)) (fun n => m_X12_isOpen n 0 a1.toInt a2.toInt a3.toInt (sL w0)) := TT.rf
  refine lv_aload_n hx hb dX12_isOpen_0 rfl (lv_at hl 0 rfl) ?_
  refine lv_iload_n hx hb dX12_isOpen_1 rfl (lv_at hl 1 rfl) ?_
  refine lv_iload_n hx hb dX12_isOpen_2 rfl (lv_at hl 2 rfl) ?_
  refine tk_Vi hC hK hw hT hA hE hSR kM_at0 (by decide) rfl (ky_X12_isAt_1 l adK adV dC dI cy ad B hB0 (Int.le_trans hB1 (by decide)) qr s1   a1 (show 0 ≤ a1.toInt from ra1) (show a1.toInt ≤ 11 from ta1) a2 (show 0 ≤ a2.toInt from ra2) (show a2.toInt ≤ 9 from ta2) w0 s.heap.size hT ) (cwV 2 hC.2.2.2.2 uV_RX12_314 rfl rfl rfl (by decide +kernel) ⟨Nat.le_of_ble_eq_true rfl, Nat.le_of_ble_eq_true rfl⟩) rfl hl.1 rfl (Nat.le_of_ble_eq_true rfl) dX12_isOpen_3 (fun r1 w3 H locs hp2 hw => ?_)
  obtain ⟨rfl, hv11, hg10⟩ := hp2
  rcases hg10 with ⟨rfl, hq5⟩ | ⟨rfl, c6, hq7⟩ | ⟨rfl, c8, hq9⟩
  · replace hM := hM.call (r' := 0) hv11 (by decide)
    refine lv_if_eq (tgt := 35) hx hb dX12_isOpen_6 (by decide) (fun _ => ?_) (fun c => absurd (by decide) c)
    replace hM := hM.pos (by decide)
    refine lv_iconst (v := 0) hx hb dX12_isOpen_35 (by decide) ?_
    exact tk_zret hC hr rfl hlocks hK ⟨rfl, hM.ret (by decide), (Or.inl ⟨rfl, (by unfold mOpen; first | exact ⟨by assumption, by assumption, by assumption⟩ | (rintro ⟨q1, q2, q3⟩; first | exact absurd q1 (by assumption) | exact absurd q2 (by assumption) | exact q3 (by assumption)))⟩)⟩ hw dX12_isOpen_36
  · replace hM := hM.call (r' := 1) hv11 (by decide)
    refine lv_if_eq (tgt := 35) hx hb dX12_isOpen_6 (by decide) (fun c => absurd c (by decide)) (fun _ => ?_)
    replace hM := hM.neg (by decide)
    refine lv_aload_n hx hb dX12_isOpen_9 rfl (lv_at hl 0 rfl) ?_
    refine lv_iload_n hx hb dX12_isOpen_10 rfl (lv_at hl 1 rfl) ?_
    refine lv_iload_n hx hb dX12_isOpen_11 rfl (lv_at hl 2 rfl) ?_
    refine lv_iload_n hx hb dX12_isOpen_12 rfl (lv_at hl 3 rfl) ?_
    refine lv_bipush (v := 24) hx hb dX12_isOpen_13 (by decide) ?_
    refine lv_idiv hx hb dX12_isOpen_15 (by decide) ?_
    refine lv_topi (fun x12 ex12 => ?_)
    have ezx12 := ex12
    have ex12 : x12.toInt = a3.toInt / (24 : Int) := by rw [ex12]; exact wk_div (show 0 ≤ a3.toInt from ra3) (show 0 < (24 : Int) by decide)
    replace hM := hM.lt ex12.symm
    refine tk_Vi hC hK hw hT hA hE hSR kM_at0 (by decide) rfl (ky_X12_isDayFor_1 l adK adV dC dI cy ad B hB0 (Int.le_trans hB1 (by decide)) qr s1   a1 (show 0 ≤ a1.toInt from ra1) (show a1.toInt ≤ 11 from ta1) a2 (show 0 ≤ a2.toInt from ra2) (show a2.toInt ≤ 9 from ta2) x12 (show 0 ≤ x12.toInt by first | with_reducible assumption | omega) (show x12.toInt ≤ 44739242 by first | with_reducible assumption | omega) w0 H.size hT ) (cwV 3 hC.2.2.2.2 uV_RX12_317 rfl rfl rfl (by decide +kernel) ⟨Nat.le_of_ble_eq_true rfl, Nat.le_of_ble_eq_true rfl⟩) rfl hl.1 rfl (Nat.le_of_ble_eq_true rfl) dX12_isOpen_16 (fun r13 w15 H locs hp14 hw => ?_)
    obtain ⟨rfl, hv24, hg23⟩ := hp14
    rcases hg23 with ⟨rfl, hq17⟩ | ⟨rfl, c18, hq19⟩ | ⟨rfl, hq20⟩ | ⟨rfl, c21, hq22⟩
    · replace hM := hM.call (r' := 0) hv24 (by decide)
      refine lv_if_eq (tgt := 35) hx hb dX12_isOpen_19 (by decide) (fun _ => ?_) (fun c => absurd (by decide) c)
      replace hM := hM.pos (by decide)
      refine lv_iconst (v := 0) hx hb dX12_isOpen_35 (by decide) ?_
      exact tk_zret hC hr rfl hlocks hK ⟨rfl, hM.ret (by decide), (Or.inr (Or.inr (Or.inl ⟨rfl, c6, (by rw [show x12.toInt = a3.toInt / 24 by omega] at hq17; unfold mOpen; first | exact ⟨by assumption, by assumption, by assumption⟩ | (rintro ⟨q1, q2, q3⟩; first | exact absurd q1 (by assumption) | exact absurd q2 (by assumption) | exact q3 (by assumption)))⟩)))⟩ hw dX12_isOpen_36
    · replace hM := hM.call (r' := 0) hv24 (by decide)
      refine lv_if_eq (tgt := 35) hx hb dX12_isOpen_19 (by decide) (fun _ => ?_) (fun c => absurd (by decide) c)
      replace hM := hM.pos (by decide)
      refine lv_iconst (v := 0) hx hb dX12_isOpen_35 (by decide) ?_
      exact tk_zret hC hr rfl hlocks hK ⟨rfl, hM.ret (by decide), (Or.inr (Or.inr (Or.inl ⟨rfl, c6, (by rw [show x12.toInt = a3.toInt / 24 by omega] at hq19; unfold mOpen; first | exact ⟨by assumption, by assumption, by assumption⟩ | (rintro ⟨q1, q2, q3⟩; first | exact absurd q1 (by assumption) | exact absurd q2 (by assumption) | exact q3 (by assumption)))⟩)))⟩ hw dX12_isOpen_36
    · replace hM := hM.call (r' := 1) hv24 (by decide)
      refine lv_if_eq (tgt := 35) hx hb dX12_isOpen_19 (by decide) (fun c => absurd c (by decide)) (fun _ => ?_)
      replace hM := hM.neg (by decide)
      refine lv_aload_n hx hb dX12_isOpen_22 rfl (lv_at hl 0 rfl) ?_
      refine lv_iload_n hx hb dX12_isOpen_23 rfl (lv_at hl 1 rfl) ?_
      refine lv_iload_n hx hb dX12_isOpen_24 rfl (lv_at hl 3 rfl) ?_
      refine tk_Vi hC hK hw hT hA hE hSR kM_at0 (by decide) rfl (ky_X12_isLifted_1 l adK adV dC dI cy ad B hB0 (Int.le_trans hB1 (by decide)) qr s1   a1 (show 0 ≤ a1.toInt from ra1) (show a1.toInt ≤ 11 from ta1) a3 (show 0 ≤ a3.toInt from ra3) (show a3.toInt ≤ 1073741824 from ta3) w0 H.size hT ) (cwV 2 hC.2.2.2.2 uV_RX12_320 rfl rfl rfl (by decide +kernel) ⟨Nat.le_of_ble_eq_true rfl, Nat.le_of_ble_eq_true rfl⟩) rfl hl.1 rfl (Nat.le_of_ble_eq_true rfl) dX12_isOpen_25 (fun r25 w27 H locs hp26 hw => ?_)
      obtain ⟨rfl, hv34, hg33⟩ := hp26
      rcases hg33 with ⟨rfl, hq29⟩ | ⟨rfl, ⟨x30, c31, rx30, tx30⟩, hq32⟩
      · replace hM := hM.call (r' := 0) hv34 (by decide)
        refine lv_if_ne (tgt := 35) hx hb dX12_isOpen_28 (by decide) (fun c => absurd (by decide) c) (fun _ => ?_)
        replace hM := hM.neg (by decide)
        refine lv_iconst (v := 1) hx hb dX12_isOpen_31 (by decide) ?_
        refine lv_goto (tgt := 36) hx hb dX12_isOpen_32 (by decide) ?_
        exact tk_zret hC hr rfl hlocks hK ⟨rfl, hM.ret (by decide), (Or.inr (Or.inr (Or.inr (Or.inr (Or.inr (Or.inl ⟨rfl, c6, (by rw [show x12.toInt = a3.toInt / 24 by omega] at hq20; unfold mOpen; first | exact ⟨by assumption, by assumption, by assumption⟩ | (rintro ⟨q1, q2, q3⟩; first | exact absurd q1 (by assumption) | exact absurd q2 (by assumption) | exact q3 (by assumption)))⟩))))))⟩ hw dX12_isOpen_36
      · replace hM := hM.call (r' := 1) hv34 (by decide)
        refine lv_if_ne (tgt := 35) hx hb dX12_isOpen_28 (by decide) (fun _ => ?_) (fun c => absurd c (by decide))
        replace hM := hM.pos (by decide)
        refine lv_iconst (v := 0) hx hb dX12_isOpen_35 (by decide) ?_
        exact tk_zret hC hr rfl hlocks hK ⟨rfl, hM.ret (by decide), (Or.inr (Or.inr (Or.inl ⟨rfl, c6, (by rw [show x12.toInt = a3.toInt / 24 by omega] at hq20; unfold mOpen; first | exact ⟨by assumption, by assumption, by assumption⟩ | (rintro ⟨q1, q2, q3⟩; first | exact absurd q1 (by assumption) | exact absurd q2 (by assumption) | exact q3 (by assumption)))⟩)))⟩ hw dX12_isOpen_36
    · replace hM := hM.call (r' := 1) hv24 (by decide)
      refine lv_if_eq (tgt := 35) hx hb dX12_isOpen_19 (by decide) (fun c => absurd c (by decide)) (fun _ => ?_)
      replace hM := hM.neg (by decide)
      refine lv_aload_n hx hb dX12_isOpen_22 rfl (lv_at hl 0 rfl) ?_
      refine lv_iload_n hx hb dX12_isOpen_23 rfl (lv_at hl 1 rfl) ?_
      refine lv_iload_n hx hb dX12_isOpen_24 rfl (lv_at hl 3 rfl) ?_
      refine tk_Vi hC hK hw hT hA hE hSR kM_at0 (by decide) rfl (ky_X12_isLifted_1 l adK adV dC dI cy ad B hB0 (Int.le_trans hB1 (by decide)) qr s1   a1 (show 0 ≤ a1.toInt from ra1) (show a1.toInt ≤ 11 from ta1) a3 (show 0 ≤ a3.toInt from ra3) (show a3.toInt ≤ 1073741824 from ta3) w0 H.size hT ) (cwV 2 hC.2.2.2.2 uV_RX12_320 rfl rfl rfl (by decide +kernel) ⟨Nat.le_of_ble_eq_true rfl, Nat.le_of_ble_eq_true rfl⟩) rfl hl.1 rfl (Nat.le_of_ble_eq_true rfl) dX12_isOpen_25 (fun r35 w37 H locs hp36 hw => ?_)
      obtain ⟨rfl, hv44, hg43⟩ := hp36
      rcases hg43 with ⟨rfl, hq39⟩ | ⟨rfl, ⟨x40, c41, rx40, tx40⟩, hq42⟩
      · replace hM := hM.call (r' := 0) hv44 (by decide)
        refine lv_if_ne (tgt := 35) hx hb dX12_isOpen_28 (by decide) (fun c => absurd (by decide) c) (fun _ => ?_)
        replace hM := hM.neg (by decide)
        refine lv_iconst (v := 1) hx hb dX12_isOpen_31 (by decide) ?_
        refine lv_goto (tgt := 36) hx hb dX12_isOpen_32 (by decide) ?_
        exact tk_zret hC hr rfl hlocks hK ⟨rfl, hM.ret (by decide), (Or.inr (Or.inr (Or.inr (Or.inr (Or.inr (Or.inl ⟨rfl, c6, (by rw [show x12.toInt = a3.toInt / 24 by omega] at hq22; unfold mOpen; first | exact ⟨by assumption, by assumption, by assumption⟩ | (rintro ⟨q1, q2, q3⟩; first | exact absurd q1 (by assumption) | exact absurd q2 (by assumption) | exact q3 (by assumption)))⟩))))))⟩ hw dX12_isOpen_36
      · replace hM := hM.call (r' := 1) hv44 (by decide)
        refine lv_if_ne (tgt := 35) hx hb dX12_isOpen_28 (by decide) (fun _ => ?_) (fun c => absurd c (by decide))
        replace hM := hM.pos (by decide)
        refine lv_iconst (v := 0) hx hb dX12_isOpen_35 (by decide) ?_
        exact tk_zret hC hr rfl hlocks hK ⟨rfl, hM.ret (by decide), (Or.inr (Or.inr (Or.inl ⟨rfl, c6, (by rw [show x12.toInt = a3.toInt / 24 by omega] at hq22; unfold mOpen; first | exact ⟨by assumption, by assumption, by assumption⟩ | (rintro ⟨q1, q2, q3⟩; first | exact absurd q1 (by assumption) | exact absurd q2 (by assumption) | exact q3 (by assumption)))⟩)))⟩ hw dX12_isOpen_36
  · replace hM := hM.call (r' := 1) hv11 (by decide)
    refine lv_if_eq (tgt := 35) hx hb dX12_isOpen_6 (by decide) (fun c => absurd c (by decide)) (fun _ => ?_)
    replace hM := hM.neg (by decide)
    refine lv_aload_n hx hb dX12_isOpen_9 rfl (lv_at hl 0 rfl) ?_
    refine lv_iload_n hx hb dX12_isOpen_10 rfl (lv_at hl 1 rfl) ?_
    refine lv_iload_n hx hb dX12_isOpen_11 rfl (lv_at hl 2 rfl) ?_
    refine lv_iload_n hx hb dX12_isOpen_12 rfl (lv_at hl 3 rfl) ?_
    refine lv_bipush (v := 24) hx hb dX12_isOpen_13 (by decide) ?_
    refine lv_idiv hx hb dX12_isOpen_15 (by decide) ?_
    refine lv_topi (fun x45 ex45 => ?_)
    have ezx45 := ex45
    have ex45 : x45.toInt = a3.toInt / (24 : Int) := by rw [ex45]; exact wk_div (show 0 ≤ a3.toInt from ra3) (show 0 < (24 : Int) by decide)
    replace hM := hM.lt ex45.symm
    refine tk_Vi hC hK hw hT hA hE hSR kM_at0 (by decide) rfl (ky_X12_isDayFor_1 l adK adV dC dI cy ad B hB0 (Int.le_trans hB1 (by decide)) qr s1   a1 (show 0 ≤ a1.toInt from ra1) (show a1.toInt ≤ 11 from ta1) a2 (show 0 ≤ a2.toInt from ra2) (show a2.toInt ≤ 9 from ta2) x45 (show 0 ≤ x45.toInt by first | with_reducible assumption | omega) (show x45.toInt ≤ 44739242 by first | with_reducible assumption | omega) w0 H.size hT ) (cwV 3 hC.2.2.2.2 uV_RX12_317 rfl rfl rfl (by decide +kernel) ⟨Nat.le_of_ble_eq_true rfl, Nat.le_of_ble_eq_true rfl⟩) rfl hl.1 rfl (Nat.le_of_ble_eq_true rfl) dX12_isOpen_16 (fun r46 w48 H locs hp47 hw => ?_)
    obtain ⟨rfl, hv57, hg56⟩ := hp47
    rcases hg56 with ⟨rfl, hq50⟩ | ⟨rfl, c51, hq52⟩ | ⟨rfl, hq53⟩ | ⟨rfl, c54, hq55⟩
    · replace hM := hM.call (r' := 0) hv57 (by decide)
      refine lv_if_eq (tgt := 35) hx hb dX12_isOpen_19 (by decide) (fun _ => ?_) (fun c => absurd (by decide) c)
      replace hM := hM.pos (by decide)
      refine lv_iconst (v := 0) hx hb dX12_isOpen_35 (by decide) ?_
      exact tk_zret hC hr rfl hlocks hK ⟨rfl, hM.ret (by decide), (Or.inr (Or.inr (Or.inr (Or.inl ⟨rfl, c8, (by rw [show x45.toInt = a3.toInt / 24 by omega] at hq50; unfold mOpen; first | exact ⟨by assumption, by assumption, by assumption⟩ | (rintro ⟨q1, q2, q3⟩; first | exact absurd q1 (by assumption) | exact absurd q2 (by assumption) | exact q3 (by assumption)))⟩))))⟩ hw dX12_isOpen_36
    · replace hM := hM.call (r' := 0) hv57 (by decide)
      refine lv_if_eq (tgt := 35) hx hb dX12_isOpen_19 (by decide) (fun _ => ?_) (fun c => absurd (by decide) c)
      replace hM := hM.pos (by decide)
      refine lv_iconst (v := 0) hx hb dX12_isOpen_35 (by decide) ?_
      exact tk_zret hC hr rfl hlocks hK ⟨rfl, hM.ret (by decide), (Or.inr (Or.inl ⟨rfl, c51, c8, (by rw [show x45.toInt = a3.toInt / 24 by omega] at hq52; unfold mOpen; first | exact ⟨by assumption, by assumption, by assumption⟩ | (rintro ⟨q1, q2, q3⟩; first | exact absurd q1 (by assumption) | exact absurd q2 (by assumption) | exact q3 (by assumption)))⟩))⟩ hw dX12_isOpen_36
    · replace hM := hM.call (r' := 1) hv57 (by decide)
      refine lv_if_eq (tgt := 35) hx hb dX12_isOpen_19 (by decide) (fun c => absurd c (by decide)) (fun _ => ?_)
      replace hM := hM.neg (by decide)
      refine lv_aload_n hx hb dX12_isOpen_22 rfl (lv_at hl 0 rfl) ?_
      refine lv_iload_n hx hb dX12_isOpen_23 rfl (lv_at hl 1 rfl) ?_
      refine lv_iload_n hx hb dX12_isOpen_24 rfl (lv_at hl 3 rfl) ?_
      refine tk_Vi hC hK hw hT hA hE hSR kM_at0 (by decide) rfl (ky_X12_isLifted_1 l adK adV dC dI cy ad B hB0 (Int.le_trans hB1 (by decide)) qr s1   a1 (show 0 ≤ a1.toInt from ra1) (show a1.toInt ≤ 11 from ta1) a3 (show 0 ≤ a3.toInt from ra3) (show a3.toInt ≤ 1073741824 from ta3) w0 H.size hT ) (cwV 2 hC.2.2.2.2 uV_RX12_320 rfl rfl rfl (by decide +kernel) ⟨Nat.le_of_ble_eq_true rfl, Nat.le_of_ble_eq_true rfl⟩) rfl hl.1 rfl (Nat.le_of_ble_eq_true rfl) dX12_isOpen_25 (fun r58 w60 H locs hp59 hw => ?_)
      obtain ⟨rfl, hv67, hg66⟩ := hp59
      rcases hg66 with ⟨rfl, hq62⟩ | ⟨rfl, ⟨x63, c64, rx63, tx63⟩, hq65⟩
      · replace hM := hM.call (r' := 0) hv67 (by decide)
        refine lv_if_ne (tgt := 35) hx hb dX12_isOpen_28 (by decide) (fun c => absurd (by decide) c) (fun _ => ?_)
        replace hM := hM.neg (by decide)
        refine lv_iconst (v := 1) hx hb dX12_isOpen_31 (by decide) ?_
        refine lv_goto (tgt := 36) hx hb dX12_isOpen_32 (by decide) ?_
        exact tk_zret hC hr rfl hlocks hK ⟨rfl, hM.ret (by decide), (Or.inr (Or.inr (Or.inr (Or.inr (Or.inr (Or.inr ⟨rfl, c8, (by rw [show x45.toInt = a3.toInt / 24 by omega] at hq53; unfold mOpen; first | exact ⟨by assumption, by assumption, by assumption⟩ | (rintro ⟨q1, q2, q3⟩; first | exact absurd q1 (by assumption) | exact absurd q2 (by assumption) | exact q3 (by assumption)))⟩))))))⟩ hw dX12_isOpen_36
      · replace hM := hM.call (r' := 1) hv67 (by decide)
        refine lv_if_ne (tgt := 35) hx hb dX12_isOpen_28 (by decide) (fun _ => ?_) (fun c => absurd c (by decide))
        replace hM := hM.pos (by decide)
        refine lv_iconst (v := 0) hx hb dX12_isOpen_35 (by decide) ?_
        exact tk_zret hC hr rfl hlocks hK ⟨rfl, hM.ret (by decide), (Or.inr (Or.inr (Or.inr (Or.inl ⟨rfl, c8, (by rw [show x45.toInt = a3.toInt / 24 by omega] at hq53; unfold mOpen; first | exact ⟨by assumption, by assumption, by assumption⟩ | (rintro ⟨q1, q2, q3⟩; first | exact absurd q1 (by assumption) | exact absurd q2 (by assumption) | exact q3 (by assumption)))⟩))))⟩ hw dX12_isOpen_36
    · replace hM := hM.call (r' := 1) hv57 (by decide)
      refine lv_if_eq (tgt := 35) hx hb dX12_isOpen_19 (by decide) (fun c => absurd c (by decide)) (fun _ => ?_)
      replace hM := hM.neg (by decide)
      refine lv_aload_n hx hb dX12_isOpen_22 rfl (lv_at hl 0 rfl) ?_
      refine lv_iload_n hx hb dX12_isOpen_23 rfl (lv_at hl 1 rfl) ?_
      refine lv_iload_n hx hb dX12_isOpen_24 rfl (lv_at hl 3 rfl) ?_
      refine tk_Vi hC hK hw hT hA hE hSR kM_at0 (by decide) rfl (ky_X12_isLifted_1 l adK adV dC dI cy ad B hB0 (Int.le_trans hB1 (by decide)) qr s1   a1 (show 0 ≤ a1.toInt from ra1) (show a1.toInt ≤ 11 from ta1) a3 (show 0 ≤ a3.toInt from ra3) (show a3.toInt ≤ 1073741824 from ta3) w0 H.size hT ) (cwV 2 hC.2.2.2.2 uV_RX12_320 rfl rfl rfl (by decide +kernel) ⟨Nat.le_of_ble_eq_true rfl, Nat.le_of_ble_eq_true rfl⟩) rfl hl.1 rfl (Nat.le_of_ble_eq_true rfl) dX12_isOpen_25 (fun r68 w70 H locs hp69 hw => ?_)
      obtain ⟨rfl, hv77, hg76⟩ := hp69
      rcases hg76 with ⟨rfl, hq72⟩ | ⟨rfl, ⟨x73, c74, rx73, tx73⟩, hq75⟩
      · replace hM := hM.call (r' := 0) hv77 (by decide)
        refine lv_if_ne (tgt := 35) hx hb dX12_isOpen_28 (by decide) (fun c => absurd (by decide) c) (fun _ => ?_)
        replace hM := hM.neg (by decide)
        refine lv_iconst (v := 1) hx hb dX12_isOpen_31 (by decide) ?_
        refine lv_goto (tgt := 36) hx hb dX12_isOpen_32 (by decide) ?_
        exact tk_zret hC hr rfl hlocks hK ⟨rfl, hM.ret (by decide), (Or.inr (Or.inr (Or.inr (Or.inr (Or.inl ⟨rfl, c54, c8, (by rw [show x45.toInt = a3.toInt / 24 by omega] at hq55; unfold mOpen; first | exact ⟨by assumption, by assumption, by assumption⟩ | (rintro ⟨q1, q2, q3⟩; first | exact absurd q1 (by assumption) | exact absurd q2 (by assumption) | exact q3 (by assumption)))⟩)))))⟩ hw dX12_isOpen_36
      · replace hM := hM.call (r' := 1) hv77 (by decide)
        refine lv_if_ne (tgt := 35) hx hb dX12_isOpen_28 (by decide) (fun _ => ?_) (fun c => absurd c (by decide))
        replace hM := hM.pos (by decide)
        refine lv_iconst (v := 0) hx hb dX12_isOpen_35 (by decide) ?_
        exact tk_zret hC hr rfl hlocks hK ⟨rfl, hM.ret (by decide), (Or.inr (Or.inl ⟨rfl, c54, c8, (by rw [show x45.toInt = a3.toInt / 24 by omega] at hq55; unfold mOpen; first | exact ⟨by assumption, by assumption, by assumption⟩ | (rintro ⟨q1, q2, q3⟩; first | exact absurd q1 (by assumption) | exact absurd q2 (by assumption) | exact q3 (by assumption)))⟩))⟩ hw dX12_isOpen_36
abbrev Py_X12_canGo_1 (ad : Nat → Nat) (cy : Nat → ClassId) (B : Int) (qr : Nat) (s1 : Int)  (w0 : va_W) : Int32 → va_W → Prop := fun r u => w0 = u ∧ Ev (fun n => m_X12_canGo n 0 0 (sL w0)) (r.toInt, sL w0) ∧ ((r = 0) ∨ (r = 1 ∧ (∃ y : Int32, gi u 0 31 = y ∧ 0 ≤ y.toInt ∧ y.toInt ≤ 11)))
set_option maxHeartbeats 4000000 in
set_option maxRecDepth 100000 in
theorem ky_X12_canGo_1 (l : Launch) (adK adV : Nat → Nat) (dC : Nat → ClassId) (dI : Nat → Nat → Nat) (cy : Nat → ClassId) (ad : Nat → Nat) (B : Int) (hB0 : 100000 ≤ B) (hB1 : B ≤ 1073741824) (qr : Nat) (s1 : Int)   (w0 : va_W) (sz : Nat) (hT : TW ksM ad cy B qr 12 w0)  : Met l yX12_canGo (wu yX12_canGo cX12_canGo 2 (some .boolean)) ({ frames := 5, cells := 0, slots := 0, locals := 103 }) (va_Pc [.ref (ad 0), .int 0] (wpreS adK adV dC dI cy sz w0)) (va_Qi (Py_X12_canGo_1 ad cy B qr s1  w0) (fun u : va_W => wpost dC dI cy (va_A w0 sz) u) (va_A w0 sz)) 0 0 (va_A w0 sz) := by
  refine Met.ofW (cc := cX12_canGo) (maxL := 2) (ret := (some .boolean)) (by decide) rfl ?_
  intro p e s m args below meth c s₁ Bk hml hv
  obtain ⟨rfl, ⟨hsz, hP, hK, hD0⟩, hE, hSR⟩ := hv
  have hx := Bk.exec
  have hb := Bk.bytes
  have hr := Bk.returns
  have hlocks := Bk.notSynchronized
  have hC : CallFix p m c cX12_canGo 2 s _ (wu yX12_canGo cX12_canGo 2 (some .boolean)) RX12 := ⟨hx, hb, hml, findClass_of_methodNamed Bk.named, atoms_spec (ws := (wu yX12_canGo cX12_canGo 2 (some .boolean))) Bk.pre⟩
  subst hsz
  have hD := hD0.self (sz := s.heap.size)
  generalize hAe : va_A w0 s.heap.size = A at hD hE ⊢
  have hA : ∀ q : Nat, s.heap.size ≤ q → A q := fun q h => by rw [← hAe]; exact Or.inr h
  have hw : Wd dC dI A s.heap s.heap [] w0 := ⟨hP, hD, va_S.rf⟩
  have hF : FE ksM ([] : List (Nat × Nat × Nat)) w0 w0 := FE.rf
  have hl := lv_entry ([.ref (ad 0), .int 0]) (n := 2) (Nat.le_of_ble_eq_true rfl)
  rw [lg_entry_eq]
  generalize (lg_sl ([.ref (ad 0), .int 0]) ++ List.replicate (2 - (lg_sl ([.ref (ad 0), .int 0])).length) Slot.unset).toArray = ls at hl ⊢
  have hl : lv_has ls 2 [(0, .ref (ad 0)), (1, .int 0)] := hl
  generalize hloc : ([] : List Loc) = locs at hw ⊢
  have hinX12 : ∀ w ∈ u_ws RX12 TX12 42, w ∈ (wu yX12_canGo cX12_canGo 2 (some .boolean)) := fun _ h => List.mem_cons_of_mem _ (up_71 h)
  have J34 : ∀ (f34_0_31 : Int32) (H : Heap) (locs : List Loc) (ls : Array Slot), (-1) ≤ f34_0_31.toInt → f34_0_31.toInt ≤ 11 → Wd dC dI A s.heap H locs w0 → gi w0 0 31 = f34_0_31 → TT (fun n => m_X12_canGo n 0 0 (sL w0)) (fun n => b_X12_canGo_34 n 0 (sL w0)) → lv_has ls 2 [(0, .ref (ad 0)), (1, .int 0)] → W p l e ({ frames := 5, cells := 0, slots := 0, locals := 103 }) s m (List.toArray [.ref (ad 0), .int 0]) below meth c H locs 0 0 (MQ below (va_Qi (Py_X12_canGo_1 ad cy B qr s1  w0) (fun u : va_W => wpost dC dI cy A u) A) (List.toArray [.ref (ad 0), .int 0]) s 0 0 A) (F0 m 34 ls []) := by
    intro f34_0_31 H locs ls r1 t2 hw c3 hM hl
    refine lv_iconst (v := 0) hx hb dX12_canGo_34 (by decide) ?_
    exact tk_zret hC hr rfl hlocks hK ⟨rfl, hM.ret (by decide), (Or.inl rfl)⟩ hw dX12_canGo_35
  have hM : TT (fun n => m_X12_canGo n 0 0 (sL w0)) (fun n => m_X12_canGo n 0 0 (sL w0)) := TT.rf
  refine lv_aload_n hx hb dX12_canGo_0 rfl (lv_at hl 0 rfl) ?_
  refine tk_geti hC hK hw hT hinX12 kM_at0 (by decide) rfl 31 (by decide) (List.mem_cons_of_mem _ uw_46_23) rfl rfl dX12_canGo_1 (fun x4 c5 rx4 tx4 => ?_)
  replace hM := hM.rd (sL_at (kM_lt kM_at0) c5)
  refine lv_if_lt (tgt := 34) hx hb dX12_canGo_4 (by decide) (fun c6 => ?_) (fun c6 => ?_)
  · have c6 : x4.toInt < (0 : Int) := wk_lt.mp c6
    replace hM := hM.pos c6
    exact J34 x4 s.heap locs ls  (show (-1) ≤ x4.toInt from rx4) (show x4.toInt ≤ 11 from tx4)  hw  c5 hM (lv_sub hl [0, 1] rfl)
  · have c6 : (0 : Int) ≤ x4.toInt := wk_ltF c6
    replace hM := hM.neg (Int.not_lt.mpr c6)
    refine lv_aload_n hx hb dX12_canGo_7 rfl (lv_at hl 0 rfl) ?_
    refine lv_aload_n hx hb dX12_canGo_8 rfl (lv_at hl 0 rfl) ?_
    refine tk_geti hC hK hw hT hinX12 kM_at0 (by decide) rfl 31 (by decide) (List.mem_cons_of_mem _ uw_46_23) rfl rfl dX12_canGo_9 (fun x7 c8 rx7 tx7 => ?_)
    refine wk_top x4 (c8.symm.trans c5) ?_
    replace hM := hM.rd (sL_at (kM_lt kM_at0) c5)
    refine lv_aload_n hx hb dX12_canGo_12 rfl (lv_at hl 0 rfl) ?_
    refine lv_iload_n hx hb dX12_canGo_13 rfl (lv_at hl 1 rfl) ?_
    refine lv_iconst (v := 0) hx hb dX12_canGo_14 (by decide) ?_
    refine tk_Vi hC hK hw hT hA hE hSR kM_at0 (by decide) rfl (ky_X12_walkerOf_1 l adK adV dC dI cy ad B hB0 (Int.le_trans hB1 (by decide)) qr s1    w0 s.heap.size hT ) (cwV 2 hC.2.2.2.2 uV_RX12_372 rfl rfl rfl (by decide +kernel) ⟨Nat.le_of_ble_eq_true rfl, Nat.le_of_ble_eq_true rfl⟩) rfl hl.1 rfl (Nat.le_of_ble_eq_true rfl) dX12_canGo_15 (fun r9 w11 H locs hp10 hw => ?_)
    obtain ⟨rfl, hv17, hg16⟩ := hp10
    obtain ⟨g13, g14, c15⟩ := hg16
    replace hM := hM.call hv17 rfl
    refine lv_aload_n hx hb dX12_canGo_18 rfl (lv_at hl 0 rfl) ?_
    refine lv_iload_n hx hb dX12_canGo_19 rfl (lv_at hl 1 rfl) ?_
    refine lv_iconst (v := 4) hx hb dX12_canGo_20 (by decide) ?_
    refine tk_Vi hC hK hw hT hA hE hSR kM_at0 (by decide) rfl (ky_X12_walkerOf_3 l adK adV dC dI cy ad B hB0 (Int.le_trans hB1 (by decide)) qr s1    w0 H.size hT ) (cwV 2 hC.2.2.2.2 uV_RX12_372 rfl rfl rfl (by decide +kernel) ⟨Nat.le_of_ble_eq_true rfl, Nat.le_of_ble_eq_true rfl⟩) rfl hl.1 rfl (Nat.le_of_ble_eq_true rfl) dX12_canGo_21 (fun r18 w20 H locs hp19 hw => ?_)
    obtain ⟨rfl, hv26, hg25⟩ := hp19
    obtain ⟨g22, g23, c24⟩ := hg25
    replace hM := hM.call hv26 rfl
    refine tk_Vi hC hK hw hT hA hE hSR kM_at0 (by decide) rfl (ky_X12_isOpen_1 l adK adV dC dI cy ad B hB0 (Int.le_trans hB1 (by decide)) qr s1   x4 (show 0 ≤ x4.toInt by first | with_reducible assumption | omega) (show x4.toInt ≤ 11 from tx4) r9 (show 0 ≤ r9.toInt by first | with_reducible assumption | omega) (show r9.toInt ≤ 9 by first | with_reducible assumption | omega) r18 (show 0 ≤ r18.toInt by first | with_reducible assumption | omega) (show r18.toInt ≤ 1073741824 by first | with_reducible assumption | omega) w0 H.size hT ) (cwV 3 hC.2.2.2.2 uV_RX12_334 rfl rfl rfl (by decide +kernel) ⟨Nat.le_of_ble_eq_true rfl, Nat.le_of_ble_eq_true rfl⟩) rfl hl.1 rfl (Nat.le_of_ble_eq_true rfl) dX12_canGo_24 (fun r27 w29 H locs hp28 hw => ?_)
    obtain ⟨rfl, hv47, hg46⟩ := hp28
    rcases hg46 with ⟨rfl, hq31⟩ | ⟨rfl, c32, c33, hq34⟩ | ⟨rfl, c35, hq36⟩ | ⟨rfl, c37, hq38⟩ | ⟨rfl, c39, c40, hq41⟩ | ⟨rfl, c42, hq43⟩ | ⟨rfl, c44, hq45⟩
    · replace hM := hM.call (r' := 0) hv47 (by decide)
      refine lv_if_eq (tgt := 34) hx hb dX12_canGo_27 (by decide) (fun _ => ?_) (fun c => absurd (by decide) c)
      replace hM := hM.pos (by decide)
      exact J34 x4 H locs ls  (show (-1) ≤ x4.toInt from rx4) (show x4.toInt ≤ 11 from tx4)  hw  c5 hM (lv_sub hl [0, 1] rfl)
    · replace hM := hM.call (r' := 0) hv47 (by decide)
      refine lv_if_eq (tgt := 34) hx hb dX12_canGo_27 (by decide) (fun _ => ?_) (fun c => absurd (by decide) c)
      replace hM := hM.pos (by decide)
      exact J34 x4 H locs ls  (show (-1) ≤ x4.toInt from rx4) (show x4.toInt ≤ 11 from tx4)  hw  c5 hM (lv_sub hl [0, 1] rfl)
    · replace hM := hM.call (r' := 0) hv47 (by decide)
      refine lv_if_eq (tgt := 34) hx hb dX12_canGo_27 (by decide) (fun _ => ?_) (fun c => absurd (by decide) c)
      replace hM := hM.pos (by decide)
      exact J34 x4 H locs ls  (show (-1) ≤ x4.toInt from rx4) (show x4.toInt ≤ 11 from tx4)  hw  c5 hM (lv_sub hl [0, 1] rfl)
    · replace hM := hM.call (r' := 0) hv47 (by decide)
      refine lv_if_eq (tgt := 34) hx hb dX12_canGo_27 (by decide) (fun _ => ?_) (fun c => absurd (by decide) c)
      replace hM := hM.pos (by decide)
      exact J34 x4 H locs ls  (show (-1) ≤ x4.toInt from rx4) (show x4.toInt ≤ 11 from tx4)  hw  c5 hM (lv_sub hl [0, 1] rfl)
    · replace hM := hM.call (r' := 1) hv47 (by decide)
      refine lv_if_eq (tgt := 34) hx hb dX12_canGo_27 (by decide) (fun c => absurd c (by decide)) (fun _ => ?_)
      replace hM := hM.neg (by decide)
      refine lv_iconst (v := 1) hx hb dX12_canGo_30 (by decide) ?_
      refine lv_goto (tgt := 35) hx hb dX12_canGo_31 (by decide) ?_
      exact tk_zret hC hr rfl hlocks hK ⟨rfl, hM.ret (by decide), (Or.inr ⟨rfl, ⟨x4, c5, (show 0 ≤ x4.toInt by first | with_reducible assumption | omega), (show x4.toInt ≤ 11 from tx4)⟩⟩)⟩ hw dX12_canGo_35
    · replace hM := hM.call (r' := 1) hv47 (by decide)
      refine lv_if_eq (tgt := 34) hx hb dX12_canGo_27 (by decide) (fun c => absurd c (by decide)) (fun _ => ?_)
      replace hM := hM.neg (by decide)
      refine lv_iconst (v := 1) hx hb dX12_canGo_30 (by decide) ?_
      refine lv_goto (tgt := 35) hx hb dX12_canGo_31 (by decide) ?_
      exact tk_zret hC hr rfl hlocks hK ⟨rfl, hM.ret (by decide), (Or.inr ⟨rfl, ⟨x4, c5, (show 0 ≤ x4.toInt by first | with_reducible assumption | omega), (show x4.toInt ≤ 11 from tx4)⟩⟩)⟩ hw dX12_canGo_35
    · replace hM := hM.call (r' := 1) hv47 (by decide)
      refine lv_if_eq (tgt := 34) hx hb dX12_canGo_27 (by decide) (fun c => absurd c (by decide)) (fun _ => ?_)
      replace hM := hM.neg (by decide)
      refine lv_iconst (v := 1) hx hb dX12_canGo_30 (by decide) ?_
      refine lv_goto (tgt := 35) hx hb dX12_canGo_31 (by decide) ?_
      exact tk_zret hC hr rfl hlocks hK ⟨rfl, hM.ret (by decide), (Or.inr ⟨rfl, ⟨x4, c5, (show 0 ≤ x4.toInt by first | with_reducible assumption | omega), (show x4.toInt ≤ 11 from tx4)⟩⟩)⟩ hw dX12_canGo_35
abbrev Py_X12_asideOf_1 (ad : Nat → Nat) (cy : Nat → ClassId) (B : Int) (qr : Nat) (s1 : Int)  (w0 : va_W) : Int32 → va_W → Prop := fun r u => w0 = u ∧ Ev (fun n => m_X12_asideOf n 0 0 (sL w0)) (r.toInt, sL w0) ∧ ((0 ≤ r.toInt ∧ r.toInt ≤ 11 ∧ (∃ y : Int32, gi u 12 1 = y ∧ 1 ≤ y.toInt ∧ y.toInt ≤ 12) ∧ (r.toInt < (gi w0 12 1).toInt ∧ mOw w0 r.toInt (0 : Int32).toInt)) ∨ (r = (-1) ∧ (∀ k : Int, 0 ≤ k → k < (gi w0 12 1).toInt → ¬ mOw w0 k (0 : Int32).toInt)))
set_option maxHeartbeats 4000000 in
set_option maxRecDepth 100000 in
theorem ky_X12_asideOf_1 (l : Launch) (adK adV : Nat → Nat) (dC : Nat → ClassId) (dI : Nat → Nat → Nat) (cy : Nat → ClassId) (ad : Nat → Nat) (B : Int) (hB0 : 100000 ≤ B) (hB1 : B ≤ 1073741824) (qr : Nat) (s1 : Int)   (w0 : va_W) (sz : Nat) (hT : TW ksM ad cy B qr 12 w0)  : Met l yX12_asideOf (wu yX12_asideOf cX12_asideOf 3 (some .int)) ({ frames := 5, cells := 0, slots := 0, locals := 103 }) (va_Pc [.ref (ad 0), .int 0] (wpreS adK adV dC dI cy sz w0)) (va_Qi (Py_X12_asideOf_1 ad cy B qr s1  w0) (fun u : va_W => wpost dC dI cy (va_A w0 sz) u) (va_A w0 sz)) 0 0 (va_A w0 sz) := by
  refine Met.ofW (cc := cX12_asideOf) (maxL := 3) (ret := (some .int)) (by decide) rfl ?_
  intro p e s m args below meth c s₁ Bk hml hv
  obtain ⟨rfl, ⟨hsz, hP, hK, hD0⟩, hE, hSR⟩ := hv
  have hx := Bk.exec
  have hb := Bk.bytes
  have hr := Bk.returns
  have hlocks := Bk.notSynchronized
  have hC : CallFix p m c cX12_asideOf 3 s _ (wu yX12_asideOf cX12_asideOf 3 (some .int)) RX12 := ⟨hx, hb, hml, findClass_of_methodNamed Bk.named, atoms_spec (ws := (wu yX12_asideOf cX12_asideOf 3 (some .int))) Bk.pre⟩
  subst hsz
  have hD := hD0.self (sz := s.heap.size)
  generalize hAe : va_A w0 s.heap.size = A at hD hE ⊢
  have hA : ∀ q : Nat, s.heap.size ≤ q → A q := fun q h => by rw [← hAe]; exact Or.inr h
  have hw : Wd dC dI A s.heap s.heap [] w0 := ⟨hP, hD, va_S.rf⟩
  have hF : FE ksM ([] : List (Nat × Nat × Nat)) w0 w0 := FE.rf
  have hl := lv_entry ([.ref (ad 0), .int 0]) (n := 3) (Nat.le_of_ble_eq_true rfl)
  rw [lg_entry_eq]
  generalize (lg_sl ([.ref (ad 0), .int 0]) ++ List.replicate (3 - (lg_sl ([.ref (ad 0), .int 0])).length) Slot.unset).toArray = ls at hl ⊢
  have hl : lv_has ls 3 [(0, .ref (ad 0)), (1, .int 0)] := hl
  generalize hloc : ([] : List Loc) = locs at hw ⊢
  have hinX12 : ∀ w ∈ u_ws RX12 TX12 42, w ∈ (wu yX12_asideOf cX12_asideOf 3 (some .int)) := fun _ h => List.mem_cons_of_mem _ (up_71 h)
  have L2 : ∀ (n2 : Nat) (v2_2 : Int32) (H : Heap) (locs : List Loc) (ls : Array Slot), 0 ≤ v2_2.toInt → v2_2.toInt ≤ 12 → (∀ k : Int, 0 ≤ k → k < v2_2.toInt → ¬ mOw w0 k (0 : Int32).toInt) → (12 - v2_2.toInt).toNat < n2 → Wd dC dI A s.heap H locs w0 → TT (fun n => m_X12_asideOf n 0 0 (sL w0)) (fun n => j_X12_asideOf 0 n 2 [(0 : Int), v2_2.toInt] (sL w0)) → lv_has ls 3 [(0, .ref (ad 0)), (1, .int 0), (2, .int v2_2)] → W p l e ({ frames := 5, cells := 0, slots := 0, locals := 103 }) s m (List.toArray [.ref (ad 0), .int 0]) below meth c H locs 0 0 (MQ below (va_Qi (Py_X12_asideOf_1 ad cy B qr s1  w0) (fun u : va_W => wpost dC dI cy A u) A) (List.toArray [.ref (ad 0), .int 0]) s 0 0 A) (F0 m 2 ls []) := by
    intro n2
    induction n2 with
    | zero => intro v2_2 H locs ls r1 t2 hcr2_0 hm2 hw hM hl; omega
    | succ n2 ih2 =>
      intro v2_2 H locs ls r1 t2 hcr2_0 hm2 hw hM hl
      replace hM := hM.suc (fun _ => e_X12_asideOf_2)
      refine lv_iload_n hx hb dX12_asideOf_2 rfl (lv_at hl 2 rfl) ?_
      refine lv_aload_n hx hb dX12_asideOf_3 rfl (lv_at hl 0 rfl) ?_
      refine tk_getA hC hK hw hT hinX12 kM_at0 (by decide) rfl 26 (by decide) (List.mem_cons_of_mem _ uw_7_1) rfl rfl dX12_asideOf_4 ?_
      refine lv_iconst (v := 1) hx hb dX12_asideOf_7 (by decide) ?_
      refine tk_ialdR hC hK hw hT kM_at12 rfl (by decide) (by decide) dX12_asideOf_8 (fun x3 c4 Ex3 => ?_)
      have hox3 := c4
      replace hM := hM.rd (sL_at (kM_lt kM_at12) hox3)
      have bx3 : 0 ≤ x3.toInt ∧ x3.toInt ≤ 12 := (tk_rg1 rfl).mp Ex3
      have c4 : gi w0 12 1 = x3 := c4
      refine lv_icmp_ge (tgt := 40) hx hb dX12_asideOf_9 (by decide) (fun c5 => ?_) (fun c5 => ?_)
      · have c5 : x3.toInt ≤ v2_2.toInt := wk_le.mp c5
        replace hM := hM.pos c5
        refine lv_iconst (v := (-1)) hx hb dX12_asideOf_40 (by decide) ?_
        exact tk_iret hC hr hlocks hK ⟨rfl, hM.ret (by decide), (Or.inr ⟨rfl, (by intro k h0 h1; rw [show gi w0 12 1 = x3 from c4] at h1; exact hcr2_0 k h0 (by omega))⟩)⟩ hw dX12_asideOf_41
      · have c5 : v2_2.toInt < x3.toInt := wk_leF c5
        replace hM := hM.neg (Int.not_le.mpr c5)
        refine lv_aload_n hx hb dX12_asideOf_12 rfl (lv_at hl 0 rfl) ?_
        refine lv_iload_n hx hb dX12_asideOf_13 rfl (lv_at hl 2 rfl) ?_
        refine lv_aload_n hx hb dX12_asideOf_14 rfl (lv_at hl 0 rfl) ?_
        refine lv_iload_n hx hb dX12_asideOf_15 rfl (lv_at hl 1 rfl) ?_
        refine lv_iconst (v := 0) hx hb dX12_asideOf_16 (by decide) ?_
        refine tk_Vi hC hK hw hT hA hE hSR kM_at0 (by decide) rfl (ky_X12_walkerOf_1 l adK adV dC dI cy ad B hB0 (Int.le_trans hB1 (by decide)) qr s1    w0 H.size hT ) (cwV 2 hC.2.2.2.2 uV_RX12_372 rfl rfl rfl (by decide +kernel) ⟨Nat.le_of_ble_eq_true rfl, Nat.le_of_ble_eq_true rfl⟩) rfl hl.1 rfl (Nat.le_of_ble_eq_true rfl) dX12_asideOf_17 (fun r6 w8 H locs hp7 hw => ?_)
        obtain ⟨rfl, hv14, hg13⟩ := hp7
        obtain ⟨g10, g11, c12⟩ := hg13
        replace hM := hM.call hv14 rfl
        refine lv_aload_n hx hb dX12_asideOf_20 rfl (lv_at hl 0 rfl) ?_
        refine lv_iload_n hx hb dX12_asideOf_21 rfl (lv_at hl 1 rfl) ?_
        refine lv_iconst (v := 4) hx hb dX12_asideOf_22 (by decide) ?_
        refine tk_Vi hC hK hw hT hA hE hSR kM_at0 (by decide) rfl (ky_X12_walkerOf_3 l adK adV dC dI cy ad B hB0 (Int.le_trans hB1 (by decide)) qr s1    w0 H.size hT ) (cwV 2 hC.2.2.2.2 uV_RX12_372 rfl rfl rfl (by decide +kernel) ⟨Nat.le_of_ble_eq_true rfl, Nat.le_of_ble_eq_true rfl⟩) rfl hl.1 rfl (Nat.le_of_ble_eq_true rfl) dX12_asideOf_23 (fun r15 w17 H locs hp16 hw => ?_)
        obtain ⟨rfl, hv23, hg22⟩ := hp16
        obtain ⟨g19, g20, c21⟩ := hg22
        replace hM := hM.call hv23 rfl
        refine tk_Vi hC hK hw hT hA hE hSR kM_at0 (by decide) rfl (ky_X12_isOpen_1 l adK adV dC dI cy ad B hB0 (Int.le_trans hB1 (by decide)) qr s1   v2_2 (show 0 ≤ v2_2.toInt from r1) (show v2_2.toInt ≤ 11 by first | with_reducible assumption | omega) r6 (show 0 ≤ r6.toInt by first | with_reducible assumption | omega) (show r6.toInt ≤ 9 by first | with_reducible assumption | omega) r15 (show 0 ≤ r15.toInt by first | with_reducible assumption | omega) (show r15.toInt ≤ 1073741824 by first | with_reducible assumption | omega) w0 H.size hT ) (cwV 3 hC.2.2.2.2 uV_RX12_334 rfl rfl rfl (by decide +kernel) ⟨Nat.le_of_ble_eq_true rfl, Nat.le_of_ble_eq_true rfl⟩) rfl hl.1 rfl (Nat.le_of_ble_eq_true rfl) dX12_asideOf_26 (fun r24 w26 H locs hp25 hw => ?_)
        obtain ⟨rfl, hv44, hg43⟩ := hp25
        rcases hg43 with ⟨rfl, hq28⟩ | ⟨rfl, c29, c30, hq31⟩ | ⟨rfl, c32, hq33⟩ | ⟨rfl, c34, hq35⟩ | ⟨rfl, c36, c37, hq38⟩ | ⟨rfl, c39, hq40⟩ | ⟨rfl, c41, hq42⟩
        · replace hM := hM.call (r' := 0) hv44 (by decide)
          refine lv_if_eq (tgt := 34) hx hb dX12_asideOf_29 (by decide) (fun _ => ?_) (fun c => absurd (by decide) c)
          replace hM := hM.pos (by decide)
          obtain ⟨x45, ex45⟩ : ∃ y : Int32, y = v2_2 + Int32.ofInt 1 := ⟨_, rfl⟩
          have erx45 := ex45
          refine lv_iinc (v := x45) (lv' := [(2, .int x45), (0, .ref (ad 0)), (1, .int 0)]) hx hb dX12_asideOf_34 hl (k := 2) rfl ex45.symm (by decide) rfl (fun ls hl => ?_)
          have ex45 : x45.toInt = v2_2.toInt + 1 := by rw [ex45]; exact wk_add (y := 1) (show -2147483648 ≤ v2_2.toInt + 1 by omega) (show v2_2.toInt + 1 ≤ 2147483647 by omega)
          replace hM := hM.lt ex45.symm
          refine lv_goto (tgt := 2) hx hb dX12_asideOf_37 (by decide) ?_
          exact ih2 x45 H locs ls  (show 0 ≤ x45.toInt by first | with_reducible assumption | omega) (show x45.toInt ≤ 12 by first | with_reducible assumption | omega) (show ∀ k : Int, 0 ≤ k → k < x45.toInt → ¬ mOw w0 k (0 : Int32).toInt from all_step hcr2_0 (show ¬ mOw w0 v2_2.toInt (0 : Int32).toInt by unfold mOw; simp only [(show (0 : Int32).toInt = 0 by decide), (show (9 * (0 : Int) + 216).toNat = 216 by decide), (show (9 * (0 : Int) + 220).toNat = 220 by decide), c4, c12, c21]; assumption) (by omega)) (show (12 - x45.toInt).toNat < n2 by first | exact tn_lt hm2 (by omega) (by omega) | omega) hw  hM (lv_sub hl [1, 2, 0] rfl)
        · replace hM := hM.call (r' := 0) hv44 (by decide)
          refine lv_if_eq (tgt := 34) hx hb dX12_asideOf_29 (by decide) (fun _ => ?_) (fun c => absurd (by decide) c)
          replace hM := hM.pos (by decide)
          obtain ⟨x46, ex46⟩ : ∃ y : Int32, y = v2_2 + Int32.ofInt 1 := ⟨_, rfl⟩
          have erx46 := ex46
          refine lv_iinc (v := x46) (lv' := [(2, .int x46), (0, .ref (ad 0)), (1, .int 0)]) hx hb dX12_asideOf_34 hl (k := 2) rfl ex46.symm (by decide) rfl (fun ls hl => ?_)
          have ex46 : x46.toInt = v2_2.toInt + 1 := by rw [ex46]; exact wk_add (y := 1) (show -2147483648 ≤ v2_2.toInt + 1 by omega) (show v2_2.toInt + 1 ≤ 2147483647 by omega)
          replace hM := hM.lt ex46.symm
          refine lv_goto (tgt := 2) hx hb dX12_asideOf_37 (by decide) ?_
          exact ih2 x46 H locs ls  (show 0 ≤ x46.toInt by first | with_reducible assumption | omega) (show x46.toInt ≤ 12 by first | with_reducible assumption | omega) (show ∀ k : Int, 0 ≤ k → k < x46.toInt → ¬ mOw w0 k (0 : Int32).toInt from all_step hcr2_0 (show ¬ mOw w0 v2_2.toInt (0 : Int32).toInt by unfold mOw; simp only [(show (0 : Int32).toInt = 0 by decide), (show (9 * (0 : Int) + 216).toNat = 216 by decide), (show (9 * (0 : Int) + 220).toNat = 220 by decide), c4, c12, c29, c30, c21]; assumption) (by omega)) (show (12 - x46.toInt).toNat < n2 by first | exact tn_lt hm2 (by omega) (by omega) | omega) hw  hM (lv_sub hl [1, 2, 0] rfl)
        · replace hM := hM.call (r' := 0) hv44 (by decide)
          refine lv_if_eq (tgt := 34) hx hb dX12_asideOf_29 (by decide) (fun _ => ?_) (fun c => absurd (by decide) c)
          replace hM := hM.pos (by decide)
          obtain ⟨x47, ex47⟩ : ∃ y : Int32, y = v2_2 + Int32.ofInt 1 := ⟨_, rfl⟩
          have erx47 := ex47
          refine lv_iinc (v := x47) (lv' := [(2, .int x47), (0, .ref (ad 0)), (1, .int 0)]) hx hb dX12_asideOf_34 hl (k := 2) rfl ex47.symm (by decide) rfl (fun ls hl => ?_)
          have ex47 : x47.toInt = v2_2.toInt + 1 := by rw [ex47]; exact wk_add (y := 1) (show -2147483648 ≤ v2_2.toInt + 1 by omega) (show v2_2.toInt + 1 ≤ 2147483647 by omega)
          replace hM := hM.lt ex47.symm
          refine lv_goto (tgt := 2) hx hb dX12_asideOf_37 (by decide) ?_
          exact ih2 x47 H locs ls  (show 0 ≤ x47.toInt by first | with_reducible assumption | omega) (show x47.toInt ≤ 12 by first | with_reducible assumption | omega) (show ∀ k : Int, 0 ≤ k → k < x47.toInt → ¬ mOw w0 k (0 : Int32).toInt from all_step hcr2_0 (show ¬ mOw w0 v2_2.toInt (0 : Int32).toInt by unfold mOw; simp only [(show (0 : Int32).toInt = 0 by decide), (show (9 * (0 : Int) + 216).toNat = 216 by decide), (show (9 * (0 : Int) + 220).toNat = 220 by decide), c4, c12, c32, c21]; assumption) (by omega)) (show (12 - x47.toInt).toNat < n2 by first | exact tn_lt hm2 (by omega) (by omega) | omega) hw  hM (lv_sub hl [1, 2, 0] rfl)
        · replace hM := hM.call (r' := 0) hv44 (by decide)
          refine lv_if_eq (tgt := 34) hx hb dX12_asideOf_29 (by decide) (fun _ => ?_) (fun c => absurd (by decide) c)
          replace hM := hM.pos (by decide)
          obtain ⟨x48, ex48⟩ : ∃ y : Int32, y = v2_2 + Int32.ofInt 1 := ⟨_, rfl⟩
          have erx48 := ex48
          refine lv_iinc (v := x48) (lv' := [(2, .int x48), (0, .ref (ad 0)), (1, .int 0)]) hx hb dX12_asideOf_34 hl (k := 2) rfl ex48.symm (by decide) rfl (fun ls hl => ?_)
          have ex48 : x48.toInt = v2_2.toInt + 1 := by rw [ex48]; exact wk_add (y := 1) (show -2147483648 ≤ v2_2.toInt + 1 by omega) (show v2_2.toInt + 1 ≤ 2147483647 by omega)
          replace hM := hM.lt ex48.symm
          refine lv_goto (tgt := 2) hx hb dX12_asideOf_37 (by decide) ?_
          exact ih2 x48 H locs ls  (show 0 ≤ x48.toInt by first | with_reducible assumption | omega) (show x48.toInt ≤ 12 by first | with_reducible assumption | omega) (show ∀ k : Int, 0 ≤ k → k < x48.toInt → ¬ mOw w0 k (0 : Int32).toInt from all_step hcr2_0 (show ¬ mOw w0 v2_2.toInt (0 : Int32).toInt by unfold mOw; simp only [(show (0 : Int32).toInt = 0 by decide), (show (9 * (0 : Int) + 216).toNat = 216 by decide), (show (9 * (0 : Int) + 220).toNat = 220 by decide), c4, c12, c34, c21]; assumption) (by omega)) (show (12 - x48.toInt).toNat < n2 by first | exact tn_lt hm2 (by omega) (by omega) | omega) hw  hM (lv_sub hl [1, 2, 0] rfl)
        · replace hM := hM.call (r' := 1) hv44 (by decide)
          refine lv_if_eq (tgt := 34) hx hb dX12_asideOf_29 (by decide) (fun c => absurd c (by decide)) (fun _ => ?_)
          replace hM := hM.neg (by decide)
          refine lv_iload_n hx hb dX12_asideOf_32 rfl (lv_at hl 2 rfl) ?_
          exact tk_iret hC hr hlocks hK ⟨rfl, hM.ret rfl, (Or.inl ⟨(show 0 ≤ v2_2.toInt from r1), (show v2_2.toInt ≤ 11 by first | with_reducible assumption | omega), ⟨x3, c4, (show 1 ≤ x3.toInt by first | with_reducible assumption | omega), (show x3.toInt ≤ 12 by first | with_reducible assumption | omega)⟩, (by exact ⟨by simp only [c4, c12, c36, c37, c21]; omega, by unfold mOw; simp only [(show (0 : Int32).toInt = 0 by decide), (show (9 * (0 : Int) + 216).toNat = 216 by decide), (show (9 * (0 : Int) + 220).toNat = 220 by decide), c4, c12, c36, c37, c21]; assumption⟩)⟩)⟩ hw dX12_asideOf_33
        · replace hM := hM.call (r' := 1) hv44 (by decide)
          refine lv_if_eq (tgt := 34) hx hb dX12_asideOf_29 (by decide) (fun c => absurd c (by decide)) (fun _ => ?_)
          replace hM := hM.neg (by decide)
          refine lv_iload_n hx hb dX12_asideOf_32 rfl (lv_at hl 2 rfl) ?_
          exact tk_iret hC hr hlocks hK ⟨rfl, hM.ret rfl, (Or.inl ⟨(show 0 ≤ v2_2.toInt from r1), (show v2_2.toInt ≤ 11 by first | with_reducible assumption | omega), ⟨x3, c4, (show 1 ≤ x3.toInt by first | with_reducible assumption | omega), (show x3.toInt ≤ 12 by first | with_reducible assumption | omega)⟩, (by exact ⟨by simp only [c4, c12, c39, c21]; omega, by unfold mOw; simp only [(show (0 : Int32).toInt = 0 by decide), (show (9 * (0 : Int) + 216).toNat = 216 by decide), (show (9 * (0 : Int) + 220).toNat = 220 by decide), c4, c12, c39, c21]; assumption⟩)⟩)⟩ hw dX12_asideOf_33
        · replace hM := hM.call (r' := 1) hv44 (by decide)
          refine lv_if_eq (tgt := 34) hx hb dX12_asideOf_29 (by decide) (fun c => absurd c (by decide)) (fun _ => ?_)
          replace hM := hM.neg (by decide)
          refine lv_iload_n hx hb dX12_asideOf_32 rfl (lv_at hl 2 rfl) ?_
          exact tk_iret hC hr hlocks hK ⟨rfl, hM.ret rfl, (Or.inl ⟨(show 0 ≤ v2_2.toInt from r1), (show v2_2.toInt ≤ 11 by first | with_reducible assumption | omega), ⟨x3, c4, (show 1 ≤ x3.toInt by first | with_reducible assumption | omega), (show x3.toInt ≤ 12 by first | with_reducible assumption | omega)⟩, (by exact ⟨by simp only [c4, c12, c41, c21]; omega, by unfold mOw; simp only [(show (0 : Int32).toInt = 0 by decide), (show (9 * (0 : Int) + 216).toNat = 216 by decide), (show (9 * (0 : Int) + 220).toNat = 220 by decide), c4, c12, c41, c21]; assumption⟩)⟩)⟩ hw dX12_asideOf_33
  have hM : TT (fun n => m_X12_asideOf n 0 0 (sL w0)) (fun n => m_X12_asideOf n 0 0 (sL w0)) := TT.rf
  refine lv_iconst (v := 0) hx hb dX12_asideOf_0 (by decide) ?_
  refine lv_istore_n (lv' := [(2, .int 0), (0, .ref (ad 0)), (1, .int 0)]) hx hb dX12_asideOf_1 rfl hl (by decide) rfl (fun ls hl => ?_)
  exact L2 ((12 - (0 : Int)).toNat + 1) 0 s.heap locs ls  (by decide) (by decide) (show ∀ k : Int, 0 ≤ k → k < (0 : Int) → ¬ mOw w0 k (0 : Int32).toInt from all_none) (Nat.lt_succ_self _) hw  hM (lv_sub hl [1, 2, 0] rfl)
abbrev Py_X12_mayDo_1 (ad : Nat → Nat) (cy : Nat → ClassId) (B : Int) (qr : Nat) (s1 : Int) (a2 : Int32) (w0 : va_W) : Int32 → va_W → Prop := fun r u => w0 = u ∧ Ev (fun n => m_X12_mayDo n 0 0 a2.toInt (sL w0)) (r.toInt, sL w0) ∧ ((r = 0) ∨ (r = 0 ∧ 0 ≤ a2.toInt ∧ a2.toInt ≤ 0) ∨ (r = 0 ∧ 1 ≤ a2.toInt ∧ a2.toInt ≤ 1) ∨ (r = 1 ∧ a2.toInt ≤ (-1)) ∨ (r = 1 ∧ 0 ≤ a2.toInt ∧ a2.toInt ≤ 0 ∧ (∃ y : Int32, gi u 0 31 = y ∧ 0 ≤ y.toInt ∧ y.toInt ≤ 11)) ∨ (r = 1 ∧ 1 ≤ a2.toInt ∧ a2.toInt ≤ 1 ∧ (∃ y : Int32, gi u 12 1 = y ∧ 1 ≤ y.toInt ∧ y.toInt ≤ 12) ∧ (mAS u (0 : Int32).toInt)) ∨ (r = 1 ∧ 2 ≤ a2.toInt ∧ a2.toInt ≤ 2 ∧ (∃ y : Int32, gi u 0 30 = y ∧ 0 ≤ y.toInt ∧ y.toInt ≤ 0)) ∨ (r = 1 ∧ 3 ≤ a2.toInt))
set_option maxHeartbeats 4000000 in
set_option maxRecDepth 100000 in
theorem ky_X12_mayDo_1 (l : Launch) (adK adV : Nat → Nat) (dC : Nat → ClassId) (dI : Nat → Nat → Nat) (cy : Nat → ClassId) (ad : Nat → Nat) (B : Int) (hB0 : 100000 ≤ B) (hB1 : B ≤ 1073741824) (qr : Nat) (s1 : Int)  (a2 : Int32) (w0 : va_W) (sz : Nat) (hT : TW ksM ad cy B qr 12 w0)  : Met l yX12_mayDo (wu yX12_mayDo cX12_mayDo 3 (some .boolean)) ({ frames := 6, cells := 0, slots := 0, locals := 125 }) (va_Pc [.ref (ad 0), .int 0, .int a2] (wpreS adK adV dC dI cy sz w0)) (va_Qi (Py_X12_mayDo_1 ad cy B qr s1 a2 w0) (fun u : va_W => wpost dC dI cy (va_A w0 sz) u) (va_A w0 sz)) 0 0 (va_A w0 sz) := by
  refine Met.ofW (cc := cX12_mayDo) (maxL := 3) (ret := (some .boolean)) (by decide) rfl ?_
  intro p e s m args below meth c s₁ Bk hml hv
  obtain ⟨rfl, ⟨hsz, hP, hK, hD0⟩, hE, hSR⟩ := hv
  have hx := Bk.exec
  have hb := Bk.bytes
  have hr := Bk.returns
  have hlocks := Bk.notSynchronized
  have hC : CallFix p m c cX12_mayDo 3 s _ (wu yX12_mayDo cX12_mayDo 3 (some .boolean)) RX12 := ⟨hx, hb, hml, findClass_of_methodNamed Bk.named, atoms_spec (ws := (wu yX12_mayDo cX12_mayDo 3 (some .boolean))) Bk.pre⟩
  subst hsz
  have hD := hD0.self (sz := s.heap.size)
  generalize hAe : va_A w0 s.heap.size = A at hD hE ⊢
  have hA : ∀ q : Nat, s.heap.size ≤ q → A q := fun q h => by rw [← hAe]; exact Or.inr h
  have hw : Wd dC dI A s.heap s.heap [] w0 := ⟨hP, hD, va_S.rf⟩
  have hF : FE ksM ([] : List (Nat × Nat × Nat)) w0 w0 := FE.rf
  have hl := lv_entry ([.ref (ad 0), .int 0, .int a2]) (n := 3) (Nat.le_of_ble_eq_true rfl)
  rw [lg_entry_eq]
  generalize (lg_sl ([.ref (ad 0), .int 0, .int a2]) ++ List.replicate (3 - (lg_sl ([.ref (ad 0), .int 0, .int a2])).length) Slot.unset).toArray = ls at hl ⊢
  have hl : lv_has ls 3 [(0, .ref (ad 0)), (1, .int 0), (2, .int a2)] := hl
  generalize hloc : ([] : List Loc) = locs at hw ⊢
  have hinX12 : ∀ w ∈ u_ws RX12 TX12 42, w ∈ (wu yX12_mayDo cX12_mayDo 3 (some .boolean)) := fun _ h => List.mem_cons_of_mem _ (up_71 h)
  have J67 : ∀ (f67_0_30 : Int32) (H : Heap) (locs : List Loc) (ls : Array Slot), 0 ≤ f67_0_30.toInt → f67_0_30.toInt ≤ 1 → Wd dC dI A s.heap H locs w0 → gi w0 0 30 = f67_0_30 → TT (fun n => m_X12_mayDo n 0 0 a2.toInt (sL w0)) (fun n => b_X12_mayDo_67 n 0 (sL w0)) → lv_has ls 3 [(0, .ref (ad 0)), (1, .int 0), (2, .int 2)] → W p l e ({ frames := 6, cells := 0, slots := 0, locals := 125 }) s m (List.toArray [.ref (ad 0), .int 0, .int a2]) below meth c H locs 0 0 (MQ below (va_Qi (Py_X12_mayDo_1 ad cy B qr s1 a2 w0) (fun u : va_W => wpost dC dI cy A u) A) (List.toArray [.ref (ad 0), .int 0, .int a2]) s 0 0 A) (F0 m 67 ls []) := by
    intro f67_0_30 H locs ls r1 t2 hw c3 hM hl
    refine lv_iconst (v := 0) hx hb dX12_mayDo_67 (by decide) ?_
    exact tk_zret hC hr rfl hlocks hK ⟨rfl, hM.ret (by decide), (Or.inl rfl)⟩ hw dX12_mayDo_68
  have hM : TT (fun n => m_X12_mayDo n 0 0 a2.toInt (sL w0)) (fun n => m_X12_mayDo n 0 0 a2.toInt (sL w0)) := TT.rf
  refine lv_iload_n hx hb dX12_mayDo_0 rfl (lv_at hl 2 rfl) ?_
  rcases (show a2.toInt = 0 ∨ a2.toInt = 1 ∨ a2.toInt = 2 ∨ a2.toInt < 0 ∨ 2 < a2.toInt by omega) with c4 | c4 | c4 | c4 | c4
  · refine lv_tableIn (off := 27) (tgt := 28) hx hb dX12_mayDo_1 (by omega) (by omega) (by rw [c4]; rfl) (by decide) ?_
    replace hM := hM.pos (by omega)
    refine lv_aload_n hx hb dX12_mayDo_28 rfl (lv_at hl 0 rfl) ?_
    refine lv_iload_n hx hb dX12_mayDo_29 rfl (lv_at hl 1 rfl) ?_
    refine tk_Vi hC hK hw hT hA hE hSR kM_at0 (by decide) rfl (ky_X12_canGo_1 l adK adV dC dI cy ad B hB0 (Int.le_trans hB1 (by decide)) qr s1    w0 s.heap.size hT ) (cwV 1 hC.2.2.2.2 uV_RX12_387 rfl rfl rfl (by decide +kernel) ⟨Nat.le_of_ble_eq_true rfl, Nat.le_of_ble_eq_true rfl⟩) rfl hl.1 rfl (Nat.le_of_ble_eq_true rfl) dX12_mayDo_30 (fun r5 w7 H locs hp6 hw => ?_)
    obtain ⟨rfl, hv12, hg11⟩ := hp6
    rcases hg11 with rfl | ⟨rfl, ⟨x9, c10, rx9, tx9⟩⟩
    · replace hM := hM.call (r' := 0) hv12 (by decide)
      exact tk_zret hC hr rfl hlocks hK ⟨rfl, hM.ret (by decide), (Or.inr (Or.inl ⟨rfl, (show 0 ≤ a2.toInt by first | with_reducible assumption | omega), (show a2.toInt ≤ 0 by first | with_reducible assumption | omega)⟩))⟩ hw dX12_mayDo_33
    · replace hM := hM.call (r' := 1) hv12 (by decide)
      exact tk_zret hC hr rfl hlocks hK ⟨rfl, hM.ret (by decide), (Or.inr (Or.inr (Or.inr (Or.inr (Or.inl ⟨rfl, (show 0 ≤ a2.toInt by first | with_reducible assumption | omega), (show a2.toInt ≤ 0 by first | with_reducible assumption | omega), ⟨x9, c10, (show 0 ≤ x9.toInt by first | with_reducible assumption | omega), (show x9.toInt ≤ 11 by first | with_reducible assumption | omega)⟩⟩)))))⟩ hw dX12_mayDo_33
  · refine lv_tableIn (off := 33) (tgt := 34) hx hb dX12_mayDo_1 (by omega) (by omega) (by rw [c4]; rfl) (by decide) ?_
    replace hM := hM.neg (by omega)
    replace hM := hM.pos (by omega)
    refine lv_aload_n hx hb dX12_mayDo_34 rfl (lv_at hl 0 rfl) ?_
    refine lv_iload_n hx hb dX12_mayDo_35 rfl (lv_at hl 1 rfl) ?_
    refine tk_Vi hC hK hw hT hA hE hSR kM_at0 (by decide) rfl (ky_X12_asideOf_1 l adK adV dC dI cy ad B hB0 (Int.le_trans hB1 (by decide)) qr s1    w0 s.heap.size hT ) (cwV 1 hC.2.2.2.2 uV_RX12_390 rfl rfl rfl (by decide +kernel) ⟨Nat.le_of_ble_eq_true rfl, Nat.le_of_ble_eq_true rfl⟩) rfl hl.1 rfl (Nat.le_of_ble_eq_true rfl) dX12_mayDo_36 (fun r13 w15 H locs hp14 hw => ?_)
    obtain ⟨rfl, hv24, hg23⟩ := hp14
    rcases hg23 with ⟨g17, g18, ⟨x19, c20, rx19, tx19⟩, hq21⟩ | ⟨rfl, hq22⟩
    · replace hM := hM.call hv24 rfl
      refine lv_if_lt (tgt := 46) hx hb dX12_mayDo_39 (by decide) (fun c => absurd c (fun h => absurd (show r13.toInt < (0 : Int) from wk_lt.mp h) (by omega))) (fun _ => ?_)
      replace hM := hM.neg (by omega)
      refine lv_iconst (v := 1) hx hb dX12_mayDo_42 (by decide) ?_
      refine lv_goto (tgt := 47) hx hb dX12_mayDo_43 (by decide) ?_
      exact tk_zret hC hr rfl hlocks hK ⟨rfl, hM.ret (by decide), (Or.inr (Or.inr (Or.inr (Or.inr (Or.inr (Or.inl ⟨rfl, (show 1 ≤ a2.toInt by first | with_reducible assumption | omega), (show a2.toInt ≤ 1 by first | with_reducible assumption | omega), ⟨x19, c20, (show 1 ≤ x19.toInt by first | with_reducible assumption | omega), (show x19.toInt ≤ 12 by first | with_reducible assumption | omega)⟩, (by exact ⟨_, by omega, hq21.1, hq21.2⟩)⟩))))))⟩ hw dX12_mayDo_47
    · replace hM := hM.call (r' := (-1)) hv24 (by decide)
      refine lv_if_lt (tgt := 46) hx hb dX12_mayDo_39 (by decide) (fun _ => ?_) (fun c => absurd (by decide) c)
      replace hM := hM.pos (by decide)
      refine lv_iconst (v := 0) hx hb dX12_mayDo_46 (by decide) ?_
      exact tk_zret hC hr rfl hlocks hK ⟨rfl, hM.ret (by decide), (Or.inr (Or.inr (Or.inl ⟨rfl, (show 1 ≤ a2.toInt by first | with_reducible assumption | omega), (show a2.toInt ≤ 1 by first | with_reducible assumption | omega)⟩)))⟩ hw dX12_mayDo_47
  · refine lv_tableIn (off := 47) (tgt := 48) hx hb dX12_mayDo_1 (by omega) (by omega) (by rw [c4]; rfl) (by decide) ?_
    replace hM := hM.neg (by omega)
    replace hM := hM.neg (by omega)
    replace hM := hM.pos (by omega)
    refine lv_aload_n hx hb dX12_mayDo_48 rfl (lv_at hl 0 rfl) ?_
    refine tk_geti hC hK hw hT hinX12 kM_at0 (by decide) rfl 30 (by decide) (List.mem_cons_of_mem _ uw_47_4) rfl rfl dX12_mayDo_49 (fun x25 c26 rx25 tx25 => ?_)
    replace hM := hM.rd (sL_at (kM_lt kM_at0) c26)
    refine lv_if_ne (tgt := 67) hx hb dX12_mayDo_52 (by decide) (fun c27 => ?_) (fun c27 => ?_)
    · have c27 : ¬ x25.toInt = (0 : Int) := wk_eqF c27
      replace hM := hM.pos c27
      obtain rfl : a2 = 2 := wk_eq.mpr (show a2.toInt = 2 by first | exact Int.le_antisymm (by omega) (by omega) | omega)
      try simp only [show (2 : Int32).toInt = 2 by decide] at hM
      exact J67 x25 s.heap locs ls  (show 0 ≤ x25.toInt from rx25) (show x25.toInt ≤ 1 from tx25)  hw  c26 hM (lv_sub hl [0, 1, 2] rfl)
    · have c27 : x25.toInt = (0 : Int) := wk_eq.mp c27
      replace hM := hM.neg (fun q => q c27)
      refine lv_aload_n hx hb dX12_mayDo_55 rfl (lv_at hl 0 rfl) ?_
      refine lv_iload_n hx hb dX12_mayDo_56 rfl (lv_at hl 1 rfl) ?_
      refine tk_Vi hC hK hw hT hA hE hSR kM_at0 (by decide) rfl (ky_X12_askedToday_1 l adK adV dC dI cy ad B hB0 (Int.le_trans hB1 (by decide)) qr s1    w0 s.heap.size hT ) (cwV 1 hC.2.2.2.2 uV_RX12_375 rfl rfl rfl (by decide +kernel) ⟨Nat.le_of_ble_eq_true rfl, Nat.le_of_ble_eq_true rfl⟩) rfl hl.1 rfl (Nat.le_of_ble_eq_true rfl) dX12_mayDo_57 (fun r28 w30 H locs hp29 hw => ?_)
      obtain ⟨rfl, hv35, hg34⟩ := hp29
      rcases hg34 with rfl | ⟨rfl, ⟨x32, c33, rx32, tx32⟩⟩
      · replace hM := hM.call (r' := 0) hv35 (by decide)
        refine lv_if_ne (tgt := 67) hx hb dX12_mayDo_60 (by decide) (fun c => absurd (by decide) c) (fun _ => ?_)
        replace hM := hM.neg (by decide)
        refine lv_iconst (v := 1) hx hb dX12_mayDo_63 (by decide) ?_
        refine lv_goto (tgt := 68) hx hb dX12_mayDo_64 (by decide) ?_
        exact tk_zret hC hr rfl hlocks hK ⟨rfl, hM.ret (by decide), (Or.inr (Or.inr (Or.inr (Or.inr (Or.inr (Or.inr (Or.inl ⟨rfl, (show 2 ≤ a2.toInt by first | with_reducible assumption | omega), (show a2.toInt ≤ 2 by first | with_reducible assumption | omega), ⟨x25, c26, (show 0 ≤ x25.toInt from rx25), (show x25.toInt ≤ 0 by first | with_reducible assumption | omega)⟩⟩)))))))⟩ hw dX12_mayDo_68
      · replace hM := hM.call (r' := 1) hv35 (by decide)
        refine lv_if_ne (tgt := 67) hx hb dX12_mayDo_60 (by decide) (fun _ => ?_) (fun c => absurd c (by decide))
        replace hM := hM.pos (by decide)
        obtain rfl : a2 = 2 := wk_eq.mpr (show a2.toInt = 2 by first | exact Int.le_antisymm (by omega) (by omega) | omega)
        try simp only [show (2 : Int32).toInt = 2 by decide] at hM
        exact J67 x25 H locs ls  (show 0 ≤ x25.toInt from rx25) (show x25.toInt ≤ 1 from tx25)  hw  c26 hM (lv_sub hl [0, 1, 2] rfl)
  · refine lv_tableOut (tgt := 69) hx hb dX12_mayDo_1 (Or.inl c4) (by decide) ?_
    replace hM := hM.neg (by omega)
    replace hM := hM.neg (by omega)
    replace hM := hM.neg (by omega)
    refine lv_iconst (v := 1) hx hb dX12_mayDo_69 (by decide) ?_
    exact tk_zret hC hr rfl hlocks hK ⟨rfl, hM.ret (by decide), (Or.inr (Or.inr (Or.inr (Or.inl ⟨rfl, (show a2.toInt ≤ (-1) by first | with_reducible assumption | omega)⟩))))⟩ hw dX12_mayDo_70
  · refine lv_tableOut (tgt := 69) hx hb dX12_mayDo_1 (Or.inr c4) (by decide) ?_
    replace hM := hM.neg (by omega)
    replace hM := hM.neg (by omega)
    replace hM := hM.neg (by omega)
    refine lv_iconst (v := 1) hx hb dX12_mayDo_69 (by decide) ?_
    exact tk_zret hC hr rfl hlocks hK ⟨rfl, hM.ret (by decide), (Or.inr (Or.inr (Or.inr (Or.inr (Or.inr (Or.inr (Or.inr ⟨rfl, (show 3 ≤ a2.toInt by first | with_reducible assumption | omega)⟩)))))))⟩ hw dX12_mayDo_70
abbrev Py_X12_pop_1 (ad : Nat → Nat) (cy : Nat → ClassId) (B : Int) (qr : Nat) (s1 : Int)  (w0 : va_W) : Int64 → va_W → Prop := fun r u => TW ksM ad cy B qr 12 u ∧ FE ksM [(12, 24, 24)] w0 u ∧ Ev (fun n => m_X12_pop n 0 (sL w0)) (r.toInt, sL u) ∧ (((∃ y : Int32, gi u 0 24 = y ∧ 0 ≤ y.toInt ∧ y.toInt ≤ 63) ∧ ((gi u 0 24).toInt = (gi w0 0 24).toInt - 1)))
set_option maxHeartbeats 4000000 in
set_option maxRecDepth 100000 in
theorem ky_X12_pop_1 (l : Launch) (adK adV : Nat → Nat) (dC : Nat → ClassId) (dI : Nat → Nat → Nat) (cy : Nat → ClassId) (ad : Nat → Nat) (B : Int) (hB0 : 100000 ≤ B) (hB1 : B ≤ 1073741824) (qr : Nat) (s1 : Int)   (w0 : va_W) (sz : Nat) (hT : TW ksM ad cy B qr 12 w0) (f0_ : Int32) (cf0_ : gi w0 0 24 = f0_) (rf0_ : 0 ≤ f0_.toInt) (tf0_ : f0_.toInt ≤ 64) (pr0_ : 1 ≤ f0_.toInt) : Met l yX12_pop (wu yX12_pop cX12_pop 1 (some .long)) ({ frames := 1, cells := 0, slots := 0, locals := 12 }) (va_Pc [.ref (ad 0)] (wpreS adK adV dC dI cy sz w0)) (va_Ql (Py_X12_pop_1 ad cy B qr s1  w0) (fun u : va_W => wpost dC dI cy (va_A w0 sz) u) (va_A w0 sz)) 0 0 (va_A w0 sz) := by
  refine Met.ofW (cc := cX12_pop) (maxL := 1) (ret := (some .long)) (by decide) rfl ?_
  intro p e s m args below meth c s₁ Bk hml hv
  obtain ⟨rfl, ⟨hsz, hP, hK, hD0⟩, hE, hSR⟩ := hv
  have hx := Bk.exec
  have hb := Bk.bytes
  have hr := Bk.returns
  have hlocks := Bk.notSynchronized
  have hC : CallFix p m c cX12_pop 1 s _ (wu yX12_pop cX12_pop 1 (some .long)) RX12 := ⟨hx, hb, hml, findClass_of_methodNamed Bk.named, atoms_spec (ws := (wu yX12_pop cX12_pop 1 (some .long))) Bk.pre⟩
  subst hsz
  have hD := hD0.self (sz := s.heap.size)
  generalize hAe : va_A w0 s.heap.size = A at hD hE ⊢
  have hA : ∀ q : Nat, s.heap.size ≤ q → A q := fun q h => by rw [← hAe]; exact Or.inr h
  have hw : Wd dC dI A s.heap s.heap [] w0 := ⟨hP, hD, va_S.rf⟩
  have hF : FE ksM [(12, 24, 24)] w0 w0 := FE.rf
  have hl := lv_entry ([.ref (ad 0)]) (n := 1) (Nat.le_of_ble_eq_true rfl)
  rw [lg_entry_eq]
  generalize (lg_sl ([.ref (ad 0)]) ++ List.replicate (1 - (lg_sl ([.ref (ad 0)])).length) Slot.unset).toArray = ls at hl ⊢
  have hl : lv_has ls 1 [(0, .ref (ad 0))] := hl
  generalize hloc : ([] : List Loc) = locs at hw ⊢
  have hinX12 : ∀ w ∈ u_ws RX12 TX12 42, w ∈ (wu yX12_pop cX12_pop 1 (some .long)) := fun _ h => List.mem_cons_of_mem _ (up_71 h)
  have hM : TT (fun n => m_X12_pop n 0 (sL w0)) (fun n => m_X12_pop n 0 (sL w0)) := TT.rf
  refine lv_aload_n hx hb dX12_pop_0 rfl (lv_at hl 0 rfl) ?_
  refine lv_dup hx hb dX12_pop_1 rfl ?_
  refine tk_geti hC hK hw hT hinX12 kM_at0 (by decide) rfl 24 (by decide) (List.mem_cons_of_mem _ uw_48_14) rfl rfl dX12_pop_2 (fun x1 c2 rx1 tx1 => ?_)
  refine wk_top f0_ (c2.symm.trans cf0_) ?_
  replace hM := hM.rd (sL_at (kM_lt kM_at0) cf0_)
  refine lv_iconst (v := 1) hx hb dX12_pop_5 (by decide) ?_
  refine lv_isub hx hb dX12_pop_6 ?_
  refine lv_topi (fun x3 ex3 => ?_)
  have ezx3 := ex3
  have ex3 : x3.toInt = f0_.toInt - (1 : Int) := by rw [ex3]; exact wk_sub (show (-2147483648) ≤ f0_.toInt - (1 : Int) by omega) (show f0_.toInt - (1 : Int) ≤ 2147483647 by omega)
  replace hM := hM.lt ex3.symm
  have hTq := hT
  refine tk_puti hC hK hw hT hinX12 tyX12_ok nmX12 kM_at0 (by decide) rfl rfl 24 (by decide) (List.mem_cons_of_mem _ uw_48_14) rfl rfl rfl rfl (show 0 ≤ x3.toInt by first | with_reducible assumption | omega) (show x3.toInt ≤ 64 by first | with_reducible assumption | omega) dX12_pop_7 (fun H locs w4 hw hT k6 c5 => ?_)
  replace hM := hM.wr (sL_upf hTq hT kM_at0 (kM_lt kM_at0) (by decide) rfl k6 c5 rfl)
  have hF := hF.put kM_at0 (k := 24) (by decide) k6
  refine lv_aload_n hx hb dX12_pop_10 rfl (lv_at hl 0 rfl) ?_
  refine tk_getA hC hK hw hT hinX12 kM_at0 (by decide) rfl 23 (by decide) (List.mem_cons_of_mem _ uw_6_23) rfl rfl dX12_pop_11 ?_
  refine lv_aload_n hx hb dX12_pop_14 rfl (lv_at hl 0 rfl) ?_
  refine tk_geti hC hK hw hT hinX12 kM_at0 (by decide) rfl 24 (by decide) (List.mem_cons_of_mem _ uw_48_14) rfl rfl dX12_pop_15 (fun x7 c8 rx7 tx7 => ?_)
  refine wk_top x3 (c8.symm.trans c5) ?_
  replace hM := hM.rd (sL_at (kM_lt kM_at0) c5)
  refine tk_laldv hC hK hw hT kM_at10 rfl (show 0 ≤ x3.toInt by first | with_reducible assumption | omega) (show x3.toInt < 64 by first | with_reducible assumption | omega) dX12_pop_18 (fun x9 c10 => ?_)
  replace hM := hM.rd (sL_atl (kM_lt kM_at10) c10)
  exact tk_lret hC hr hlocks hK ⟨hT, hF, hM.ret rfl, ⟨⟨x3, c5, (show 0 ≤ x3.toInt by first | with_reducible assumption | omega), (show x3.toInt ≤ 63 by first | with_reducible assumption | omega)⟩, (by simp only [cf0_, c5]; omega)⟩⟩ hw dX12_pop_19
abbrev Py_X12_one_1 (ad : Nat → Nat) (cy : Nat → ClassId) (B : Int) (qr : Nat) (s1 : Int) (a0 : Int32) (a1 : Int64) (a2 : Int64) (w0 : va_W) : Int64 → va_W → Prop := fun r u => w0 = u ∧ Ev (fun n => m_X12_one n a0.toInt a1.toInt a2.toInt (sL w0)) (r.toInt, sL w0) ∧ ((True))
set_option maxHeartbeats 4000000 in
set_option maxRecDepth 100000 in
theorem ky_X12_one_1 (l : Launch) (adK adV : Nat → Nat) (dC : Nat → ClassId) (dI : Nat → Nat → Nat) (cy : Nat → ClassId) (ad : Nat → Nat) (B : Int) (hB0 : 100000 ≤ B) (hB1 : B ≤ 1073741824) (qr : Nat) (s1 : Int)  (a0 : Int32) (ra0 : 2 ≤ a0.toInt) (ta0 : a0.toInt ≤ 15) (a1 : Int64) (a2 : Int64) (w0 : va_W) (sz : Nat) (hT : TW ksM ad cy B qr 12 w0)  : Met l yX12_one (wu yX12_one cX12_one 5 (some .long)) ({ frames := 1, cells := 0, slots := 0, locals := 12 }) (va_Pc [.int a0, .long a1, .long a2] (wpreS adK adV dC dI cy sz w0)) (va_Ql (Py_X12_one_1 ad cy B qr s1 a0 a1 a2 w0) (fun u : va_W => wpost dC dI cy (va_A w0 sz) u) (va_A w0 sz)) 0 0 (va_A w0 sz) := by
  refine Met.ofW (cc := cX12_one) (maxL := 5) (ret := (some .long)) (by decide) rfl ?_
  intro p e s m args below meth c s₁ Bk hml hv
  obtain ⟨rfl, ⟨hsz, hP, hK, hD0⟩, hE, hSR⟩ := hv
  have hx := Bk.exec
  have hb := Bk.bytes
  have hr := Bk.returns
  have hlocks := Bk.notSynchronized
  have hC : CallFix p m c cX12_one 5 s _ (wu yX12_one cX12_one 5 (some .long)) RX12 := ⟨hx, hb, hml, findClass_of_methodNamed Bk.named, atoms_spec (ws := (wu yX12_one cX12_one 5 (some .long))) Bk.pre⟩
  subst hsz
  have hD := hD0.self (sz := s.heap.size)
  generalize hAe : va_A w0 s.heap.size = A at hD hE ⊢
  have hA : ∀ q : Nat, s.heap.size ≤ q → A q := fun q h => by rw [← hAe]; exact Or.inr h
  have hw : Wd dC dI A s.heap s.heap [] w0 := ⟨hP, hD, va_S.rf⟩
  have hF : FE ksM ([] : List (Nat × Nat × Nat)) w0 w0 := FE.rf
  have hl := lv_entry ([.int a0, .long a1, .long a2]) (n := 5) (Nat.le_of_ble_eq_true rfl)
  rw [lg_entry_eq]
  generalize (lg_sl ([.int a0, .long a1, .long a2]) ++ List.replicate (5 - (lg_sl ([.int a0, .long a1, .long a2])).length) Slot.unset).toArray = ls at hl ⊢
  have hl : lv_has ls 5 [(0, .int a0), (1, .long a1), (3, .long a2)] := hl
  generalize hloc : ([] : List Loc) = locs at hw ⊢
  have hM : TT (fun n => m_X12_one n a0.toInt a1.toInt a2.toInt (sL w0)) (fun n => m_X12_one n a0.toInt a1.toInt a2.toInt (sL w0)) := TT.rf
  refine lv_iload_n hx hb dX12_one_0 rfl (lv_at hl 0 rfl) ?_
  rcases (show a0.toInt = 2 ∨ a0.toInt = 3 ∨ a0.toInt = 4 ∨ a0.toInt = 5 ∨ a0.toInt = 6 ∨ a0.toInt = 7 ∨ a0.toInt = 8 ∨ a0.toInt = 9 ∨ a0.toInt = 10 ∨ a0.toInt = 11 ∨ a0.toInt = 12 ∨ (a0.toInt < 2 ∨ 12 < a0.toInt) by omega) with c1 | c1 | c1 | c1 | c1 | c1 | c1 | c1 | c1 | c1 | c1 | c1
  · refine lv_tableIn (off := 59) (tgt := 60) hx hb dX12_one_1 (by omega) (by omega) (by rw [c1]; rfl) (by decide) ?_
    replace hM := hM.pos (by omega)
    refine lv_lload_n hx hb dX12_one_60 rfl (lv_at hl 1 rfl) ?_
    refine lv_lload_n hx hb dX12_one_61 rfl (lv_at hl 2 rfl) ?_
    refine lv_ladd hx hb dX12_one_62 ?_
    have nx2 := wk_i64 a1
    have nx3 := wk_i64 a2
    refine lv_topl (fun x4 ex4 => ?_)
    have ezx4 := ex4
    replace hM := hM.lt (o64_e (f := fun x y => x + y) ezx4 rfl rfl)
    exact tk_lret hC hr hlocks hK ⟨rfl, hM.ret rfl, trivial⟩ hw dX12_one_63
  · refine lv_tableIn (off := 63) (tgt := 64) hx hb dX12_one_1 (by omega) (by omega) (by rw [c1]; rfl) (by decide) ?_
    replace hM := hM.neg (by omega)
    replace hM := hM.pos (by omega)
    refine lv_lload_n hx hb dX12_one_64 rfl (lv_at hl 1 rfl) ?_
    refine lv_lload_n hx hb dX12_one_65 rfl (lv_at hl 2 rfl) ?_
    refine lv_lsub hx hb dX12_one_66 ?_
    have nx5 := wk_i64 a1
    have nx6 := wk_i64 a2
    refine lv_topl (fun x7 ex7 => ?_)
    have ezx7 := ex7
    replace hM := hM.lt (o64_e (f := fun x y => x - y) ezx7 rfl rfl)
    exact tk_lret hC hr hlocks hK ⟨rfl, hM.ret rfl, trivial⟩ hw dX12_one_67
  · refine lv_tableIn (off := 67) (tgt := 68) hx hb dX12_one_1 (by omega) (by omega) (by rw [c1]; rfl) (by decide) ?_
    replace hM := hM.neg (by omega)
    replace hM := hM.neg (by omega)
    replace hM := hM.pos (by omega)
    refine lv_lload_n hx hb dX12_one_68 rfl (lv_at hl 1 rfl) ?_
    refine lv_lload_n hx hb dX12_one_69 rfl (lv_at hl 2 rfl) ?_
    refine lv_lmul hx hb dX12_one_70 ?_
    have nx8 := wk_i64 a1
    have nx9 := wk_i64 a2
    refine lv_topl (fun x10 ex10 => ?_)
    have ezx10 := ex10
    replace hM := hM.lt (o64_e (f := fun x y => x * y) ezx10 rfl rfl)
    exact tk_lret hC hr hlocks hK ⟨rfl, hM.ret rfl, trivial⟩ hw dX12_one_71
  · refine lv_tableIn (off := 71) (tgt := 72) hx hb dX12_one_1 (by omega) (by omega) (by rw [c1]; rfl) (by decide) ?_
    replace hM := hM.neg (by omega)
    replace hM := hM.neg (by omega)
    replace hM := hM.neg (by omega)
    replace hM := hM.pos (by omega)
    refine lv_lload_n hx hb dX12_one_72 rfl (lv_at hl 2 rfl) ?_
    refine lv_lconst (v := 0) hx hb dX12_one_73 (by decide) ?_
    refine W.lcmp hx hb dX12_one_74 ?_
    refine lv_if_ne (tgt := 82) hx hb dX12_one_75 (by decide) (fun c11 => ?_) (fun c11 => ?_)
    · have c11 : ¬ a2.toInt = (0 : Int) := wk_ceF c11
      replace hM := hM.pos c11
      refine lv_lload_n hx hb dX12_one_82 rfl (lv_at hl 1 rfl) ?_
      refine lv_lload_n hx hb dX12_one_83 rfl (lv_at hl 2 rfl) ?_
      refine lv_ldiv hx hb dX12_one_84 (fun h => absurd (show a2.toInt = 0 from wk_eql.mp h) c11) ?_
      refine lv_topl (fun x12 ex12 => ?_)
      have ezx12 := ex12
      replace hM := hM.lt (o64_e (f := fun x y => x / y) ezx12 rfl rfl)
      exact tk_lret hC hr hlocks hK ⟨rfl, hM.ret rfl, trivial⟩ hw dX12_one_85
    · have c11 : a2.toInt = (0 : Int) := wk_ceT c11
      replace hM := hM.neg (fun q => q c11)
      refine lv_lconst (v := 0) hx hb dX12_one_78 (by decide) ?_
      refine lv_goto (tgt := 85) hx hb dX12_one_79 (by decide) ?_
      exact tk_lret hC hr hlocks hK ⟨rfl, hM.ret (by decide), trivial⟩ hw dX12_one_85
  · refine lv_tableIn (off := 85) (tgt := 86) hx hb dX12_one_1 (by omega) (by omega) (by rw [c1]; rfl) (by decide) ?_
    replace hM := hM.neg (by omega)
    replace hM := hM.neg (by omega)
    replace hM := hM.neg (by omega)
    replace hM := hM.neg (by omega)
    replace hM := hM.pos (by omega)
    refine lv_lload_n hx hb dX12_one_86 rfl (lv_at hl 1 rfl) ?_
    refine lv_lload_n hx hb dX12_one_87 rfl (lv_at hl 2 rfl) ?_
    refine W.lcmp hx hb dX12_one_88 ?_
    refine lv_if_ge (tgt := 96) hx hb dX12_one_89 (by decide) (fun c13 => ?_) (fun c13 => ?_)
    · have c13 : a2.toInt ≤ a1.toInt := wk_cgeT c13
      replace hM := hM.pos c13
      refine lv_lconst (v := 0) hx hb dX12_one_96 (by decide) ?_
      exact tk_lret hC hr hlocks hK ⟨rfl, hM.ret (by decide), trivial⟩ hw dX12_one_97
    · have c13 : a1.toInt < a2.toInt := wk_cgeF c13
      replace hM := hM.neg (Int.not_le.mpr c13)
      refine lv_lconst (v := 1) hx hb dX12_one_92 (by decide) ?_
      refine lv_goto (tgt := 97) hx hb dX12_one_93 (by decide) ?_
      exact tk_lret hC hr hlocks hK ⟨rfl, hM.ret (by decide), trivial⟩ hw dX12_one_97
  · refine lv_tableIn (off := 97) (tgt := 98) hx hb dX12_one_1 (by omega) (by omega) (by rw [c1]; rfl) (by decide) ?_
    replace hM := hM.neg (by omega)
    replace hM := hM.neg (by omega)
    replace hM := hM.neg (by omega)
    replace hM := hM.neg (by omega)
    replace hM := hM.neg (by omega)
    replace hM := hM.pos (by omega)
    refine lv_lload_n hx hb dX12_one_98 rfl (lv_at hl 1 rfl) ?_
    refine lv_lload_n hx hb dX12_one_99 rfl (lv_at hl 2 rfl) ?_
    refine W.lcmp hx hb dX12_one_100 ?_
    refine lv_if_gt (tgt := 108) hx hb dX12_one_101 (by decide) (fun c14 => ?_) (fun c14 => ?_)
    · have c14 : a2.toInt < a1.toInt := wk_cgtT c14
      replace hM := hM.pos c14
      refine lv_lconst (v := 0) hx hb dX12_one_108 (by decide) ?_
      exact tk_lret hC hr hlocks hK ⟨rfl, hM.ret (by decide), trivial⟩ hw dX12_one_109
    · have c14 : a1.toInt ≤ a2.toInt := wk_cgtF c14
      replace hM := hM.neg (Int.not_lt.mpr c14)
      refine lv_lconst (v := 1) hx hb dX12_one_104 (by decide) ?_
      refine lv_goto (tgt := 109) hx hb dX12_one_105 (by decide) ?_
      exact tk_lret hC hr hlocks hK ⟨rfl, hM.ret (by decide), trivial⟩ hw dX12_one_109
  · refine lv_tableIn (off := 109) (tgt := 110) hx hb dX12_one_1 (by omega) (by omega) (by rw [c1]; rfl) (by decide) ?_
    replace hM := hM.neg (by omega)
    replace hM := hM.neg (by omega)
    replace hM := hM.neg (by omega)
    replace hM := hM.neg (by omega)
    replace hM := hM.neg (by omega)
    replace hM := hM.neg (by omega)
    replace hM := hM.pos (by omega)
    refine lv_lload_n hx hb dX12_one_110 rfl (lv_at hl 1 rfl) ?_
    refine lv_lload_n hx hb dX12_one_111 rfl (lv_at hl 2 rfl) ?_
    refine W.lcmp hx hb dX12_one_112 ?_
    refine lv_if_ne (tgt := 120) hx hb dX12_one_113 (by decide) (fun c15 => ?_) (fun c15 => ?_)
    · have c15 : ¬ a1.toInt = a2.toInt := wk_ceF c15
      replace hM := hM.pos c15
      refine lv_lconst (v := 0) hx hb dX12_one_120 (by decide) ?_
      exact tk_lret hC hr hlocks hK ⟨rfl, hM.ret (by decide), trivial⟩ hw dX12_one_121
    · have c15 : a1.toInt = a2.toInt := wk_ceT c15
      replace hM := hM.neg (fun q => q c15)
      refine lv_lconst (v := 1) hx hb dX12_one_116 (by decide) ?_
      refine lv_goto (tgt := 121) hx hb dX12_one_117 (by decide) ?_
      exact tk_lret hC hr hlocks hK ⟨rfl, hM.ret (by decide), trivial⟩ hw dX12_one_121
  · refine lv_tableIn (off := 121) (tgt := 122) hx hb dX12_one_1 (by omega) (by omega) (by rw [c1]; rfl) (by decide) ?_
    replace hM := hM.neg (by omega)
    replace hM := hM.neg (by omega)
    replace hM := hM.neg (by omega)
    replace hM := hM.neg (by omega)
    replace hM := hM.neg (by omega)
    replace hM := hM.neg (by omega)
    replace hM := hM.neg (by omega)
    replace hM := hM.pos (by omega)
    refine lv_lload_n hx hb dX12_one_122 rfl (lv_at hl 1 rfl) ?_
    refine lv_lload_n hx hb dX12_one_123 rfl (lv_at hl 2 rfl) ?_
    refine W.lcmp hx hb dX12_one_124 ?_
    refine lv_if_lt (tgt := 132) hx hb dX12_one_125 (by decide) (fun c16 => ?_) (fun c16 => ?_)
    · have c16 : a1.toInt < a2.toInt := wk_cltT c16
      replace hM := hM.pos c16
      refine lv_lconst (v := 0) hx hb dX12_one_132 (by decide) ?_
      exact tk_lret hC hr hlocks hK ⟨rfl, hM.ret (by decide), trivial⟩ hw dX12_one_133
    · have c16 : a2.toInt ≤ a1.toInt := wk_cltF c16
      replace hM := hM.neg (Int.not_lt.mpr c16)
      refine lv_lconst (v := 1) hx hb dX12_one_128 (by decide) ?_
      refine lv_goto (tgt := 133) hx hb dX12_one_129 (by decide) ?_
      exact tk_lret hC hr hlocks hK ⟨rfl, hM.ret (by decide), trivial⟩ hw dX12_one_133
  · refine lv_tableIn (off := 133) (tgt := 134) hx hb dX12_one_1 (by omega) (by omega) (by rw [c1]; rfl) (by decide) ?_
    replace hM := hM.neg (by omega)
    replace hM := hM.neg (by omega)
    replace hM := hM.neg (by omega)
    replace hM := hM.neg (by omega)
    replace hM := hM.neg (by omega)
    replace hM := hM.neg (by omega)
    replace hM := hM.neg (by omega)
    replace hM := hM.neg (by omega)
    replace hM := hM.pos (by omega)
    refine lv_lload_n hx hb dX12_one_134 rfl (lv_at hl 1 rfl) ?_
    refine lv_lload_n hx hb dX12_one_135 rfl (lv_at hl 2 rfl) ?_
    refine W.lcmp hx hb dX12_one_136 ?_
    refine lv_if_le (tgt := 144) hx hb dX12_one_137 (by decide) (fun c17 => ?_) (fun c17 => ?_)
    · have c17 : a1.toInt ≤ a2.toInt := wk_cleT c17
      replace hM := hM.pos c17
      refine lv_lconst (v := 0) hx hb dX12_one_144 (by decide) ?_
      exact tk_lret hC hr hlocks hK ⟨rfl, hM.ret (by decide), trivial⟩ hw dX12_one_145
    · have c17 : a2.toInt < a1.toInt := wk_cleF c17
      replace hM := hM.neg (Int.not_le.mpr c17)
      refine lv_lconst (v := 1) hx hb dX12_one_140 (by decide) ?_
      refine lv_goto (tgt := 145) hx hb dX12_one_141 (by decide) ?_
      exact tk_lret hC hr hlocks hK ⟨rfl, hM.ret (by decide), trivial⟩ hw dX12_one_145
  · refine lv_tableIn (off := 149) (tgt := 150) hx hb dX12_one_1 (by omega) (by omega) (by rw [c1]; rfl) (by decide) ?_
    replace hM := hM.neg (by omega)
    replace hM := hM.neg (by omega)
    replace hM := hM.neg (by omega)
    replace hM := hM.neg (by omega)
    replace hM := hM.neg (by omega)
    replace hM := hM.neg (by omega)
    replace hM := hM.neg (by omega)
    replace hM := hM.neg (by omega)
    replace hM := hM.neg (by omega)
    replace hM := hM.pos (by omega)
    refine lv_lload_n hx hb dX12_one_150 rfl (lv_at hl 1 rfl) ?_
    refine lv_lload_n hx hb dX12_one_151 rfl (lv_at hl 2 rfl) ?_
    refine lv_lor hx hb dX12_one_152 ?_
    refine lv_topl (fun x18 ex18 => ?_)
    have ezx18 := ex18
    replace hM := hM.lt (o64_e (f := fun x y => x ||| y) ezx18 rfl rfl)
    exact tk_lret hC hr hlocks hK ⟨rfl, hM.ret rfl, trivial⟩ hw dX12_one_153
  · refine lv_tableIn (off := 145) (tgt := 146) hx hb dX12_one_1 (by omega) (by omega) (by rw [c1]; rfl) (by decide) ?_
    replace hM := hM.neg (by omega)
    replace hM := hM.neg (by omega)
    replace hM := hM.neg (by omega)
    replace hM := hM.neg (by omega)
    replace hM := hM.neg (by omega)
    replace hM := hM.neg (by omega)
    replace hM := hM.neg (by omega)
    replace hM := hM.neg (by omega)
    replace hM := hM.neg (by omega)
    replace hM := hM.neg (by omega)
    replace hM := hM.pos (by omega)
    refine lv_lload_n hx hb dX12_one_146 rfl (lv_at hl 1 rfl) ?_
    refine lv_lload_n hx hb dX12_one_147 rfl (lv_at hl 2 rfl) ?_
    refine lv_land hx hb dX12_one_148 ?_
    refine lv_topl (fun x19 ex19 => ?_)
    have ezx19 := ex19
    replace hM := hM.lt (o64_e (f := fun x y => x &&& y) ezx19 rfl rfl)
    exact tk_lret hC hr hlocks hK ⟨rfl, hM.ret rfl, trivial⟩ hw dX12_one_149
  · refine lv_tableOut (tgt := 150) hx hb dX12_one_1 c1 (by decide) ?_
    replace hM := hM.neg (by omega)
    replace hM := hM.neg (by omega)
    replace hM := hM.neg (by omega)
    replace hM := hM.neg (by omega)
    replace hM := hM.neg (by omega)
    replace hM := hM.neg (by omega)
    replace hM := hM.neg (by omega)
    replace hM := hM.neg (by omega)
    replace hM := hM.neg (by omega)
    replace hM := hM.neg (by omega)
    replace hM := hM.neg (by omega)
    refine lv_lload_n hx hb dX12_one_150 rfl (lv_at hl 1 rfl) ?_
    refine lv_lload_n hx hb dX12_one_151 rfl (lv_at hl 2 rfl) ?_
    refine lv_lor hx hb dX12_one_152 ?_
    refine lv_topl (fun x20 ex20 => ?_)
    have ezx20 := ex20
    replace hM := hM.lt (o64_e (f := fun x y => x ||| y) ezx20 rfl rfl)
    exact tk_lret hC hr hlocks hK ⟨rfl, hM.ret rfl, trivial⟩ hw dX12_one_153
abbrev Py_X12_push_1 (ad : Nat → Nat) (cy : Nat → ClassId) (B : Int) (qr : Nat) (s1 : Int) (a1 : Int64) (w0 : va_W) : va_W → Prop := fun u => TW ksM ad cy B qr 12 u ∧ FE ksM [(12, 24, 24), (69, 0, 64)] w0 u ∧ Ev (fun n => m_X12_push n 0 a1.toInt (sL w0)) (0, sL u) ∧ (((∃ y : Int32, gi u 0 24 = y ∧ 1 ≤ y.toInt ∧ y.toInt ≤ 64) ∧ ((gi u 0 24).toInt = (gi w0 0 24).toInt + 1)))
set_option maxHeartbeats 4000000 in
set_option maxRecDepth 100000 in
theorem ky_X12_push_1 (l : Launch) (adK adV : Nat → Nat) (dC : Nat → ClassId) (dI : Nat → Nat → Nat) (cy : Nat → ClassId) (ad : Nat → Nat) (B : Int) (hB0 : 100000 ≤ B) (hB1 : B ≤ 1073741824) (qr : Nat) (s1 : Int)  (a1 : Int64) (w0 : va_W) (sz : Nat) (hT : TW ksM ad cy B qr 12 w0) (f0_ : Int32) (cf0_ : gi w0 0 24 = f0_) (rf0_ : 0 ≤ f0_.toInt) (tf0_ : f0_.toInt ≤ 64) (pr0_ : f0_.toInt ≤ 63) : Met l yX12_push (wu yX12_push cX12_push 3 none) ({ frames := 1, cells := 0, slots := 0, locals := 12 }) (va_Pc [.ref (ad 0), .long a1] (wpreS adK adV dC dI cy sz w0)) (va_Qv (Py_X12_push_1 ad cy B qr s1 a1 w0) (fun u : va_W => wpost dC dI cy (va_A w0 sz) u) (va_A w0 sz)) 0 0 (va_A w0 sz) := by
  refine Met.ofW (cc := cX12_push) (maxL := 3) (ret := none) (by decide) rfl ?_
  intro p e s m args below meth c s₁ Bk hml hv
  obtain ⟨rfl, ⟨hsz, hP, hK, hD0⟩, hE, hSR⟩ := hv
  have hx := Bk.exec
  have hb := Bk.bytes
  have hr := Bk.returns
  have hlocks := Bk.notSynchronized
  have hC : CallFix p m c cX12_push 3 s _ (wu yX12_push cX12_push 3 none) RX12 := ⟨hx, hb, hml, findClass_of_methodNamed Bk.named, atoms_spec (ws := (wu yX12_push cX12_push 3 none)) Bk.pre⟩
  subst hsz
  have hD := hD0.self (sz := s.heap.size)
  generalize hAe : va_A w0 s.heap.size = A at hD hE ⊢
  have hA : ∀ q : Nat, s.heap.size ≤ q → A q := fun q h => by rw [← hAe]; exact Or.inr h
  have hw : Wd dC dI A s.heap s.heap [] w0 := ⟨hP, hD, va_S.rf⟩
  have hF : FE ksM [(12, 24, 24), (69, 0, 64)] w0 w0 := FE.rf
  have hl := lv_entry ([.ref (ad 0), .long a1]) (n := 3) (Nat.le_of_ble_eq_true rfl)
  rw [lg_entry_eq]
  generalize (lg_sl ([.ref (ad 0), .long a1]) ++ List.replicate (3 - (lg_sl ([.ref (ad 0), .long a1])).length) Slot.unset).toArray = ls at hl ⊢
  have hl : lv_has ls 3 [(0, .ref (ad 0)), (1, .long a1)] := hl
  generalize hloc : ([] : List Loc) = locs at hw ⊢
  have hinX12 : ∀ w ∈ u_ws RX12 TX12 42, w ∈ (wu yX12_push cX12_push 3 none) := fun _ h => List.mem_cons_of_mem _ (up_71 h)
  have hM : TT (fun n => m_X12_push n 0 a1.toInt (sL w0)) (fun n => m_X12_push n 0 a1.toInt (sL w0)) := TT.rf
  refine lv_aload_n hx hb dX12_push_0 rfl (lv_at hl 0 rfl) ?_
  refine tk_getA hC hK hw hT hinX12 kM_at0 (by decide) rfl 23 (by decide) (List.mem_cons_of_mem _ uw_6_23) rfl rfl dX12_push_1 ?_
  refine lv_aload_n hx hb dX12_push_4 rfl (lv_at hl 0 rfl) ?_
  refine tk_geti hC hK hw hT hinX12 kM_at0 (by decide) rfl 24 (by decide) (List.mem_cons_of_mem _ uw_48_14) rfl rfl dX12_push_5 (fun x1 c2 rx1 tx1 => ?_)
  refine wk_top f0_ (c2.symm.trans cf0_) ?_
  replace hM := hM.rd (sL_at (kM_lt kM_at0) cf0_)
  refine lv_lload_n hx hb dX12_push_8 rfl (lv_at hl 1 rfl) ?_
  have hTq := hT
  refine tk_lastv hC hK hw hT kM_at10 (by decide) rfl (show 0 ≤ f0_.toInt from rf0_) (show f0_.toInt < 64 from Int.lt_of_le_of_lt pr0_ (by decide)) dX12_push_9 (fun H locs w3 hw hT k5 c4 => ?_)
  replace hM := hM.wr (sL_upk hTq hT kM_at10 (kM_lt kM_at10) rfl k5 c4 rfl)
  have hF := hF.put kM_at10 (inE_of (a := 0) (b := 64) (by decide) (show 0 ≤ f0_.toInt.toNat by omega) (show f0_.toInt.toNat ≤ 64 by omega)) k5
  have c6 := k5.gi (Or.inl (tk_ne kM_at0 kM_at10 (by decide))) cf0_
  refine lv_aload_n hx hb dX12_push_10 rfl (lv_at hl 0 rfl) ?_
  refine lv_dup hx hb dX12_push_11 rfl ?_
  refine tk_geti hC hK hw hT hinX12 kM_at0 (by decide) rfl 24 (by decide) (List.mem_cons_of_mem _ uw_48_14) rfl rfl dX12_push_12 (fun x7 c8 rx7 tx7 => ?_)
  refine wk_top f0_ (c8.symm.trans c6) ?_
  replace hM := hM.rd (sL_at (kM_lt kM_at0) c6)
  refine lv_iconst (v := 1) hx hb dX12_push_15 (by decide) ?_
  refine lv_iadd hx hb dX12_push_16 ?_
  refine lv_topi (fun x9 ex9 => ?_)
  have ezx9 := ex9
  have ex9 : x9.toInt = f0_.toInt + (1 : Int) := by rw [ex9]; exact wk_add (show (-2147483648) ≤ f0_.toInt + (1 : Int) by omega) (show f0_.toInt + (1 : Int) ≤ 2147483647 by omega)
  replace hM := hM.lt ex9.symm
  have hTq := hT
  refine tk_puti hC hK hw hT hinX12 tyX12_ok nmX12 kM_at0 (by decide) rfl rfl 24 (by decide) (List.mem_cons_of_mem _ uw_48_14) rfl rfl rfl rfl (show 0 ≤ x9.toInt by first | with_reducible assumption | omega) (show x9.toInt ≤ 64 by first | with_reducible assumption | omega) dX12_push_17 (fun H locs w10 hw hT k12 c11 => ?_)
  replace hM := hM.wr (sL_upf hTq hT kM_at0 (kM_lt kM_at0) (by decide) rfl k12 c11 rfl)
  have hF := hF.put kM_at0 (k := 24) (by decide) k12
  exact tk_vret hC hr hlocks hK ⟨hT, hF, hM.ret rfl, ⟨⟨x9, c11, (show 1 ≤ x9.toInt by first | with_reducible assumption | omega), (show x9.toInt ≤ 64 by first | with_reducible assumption | omega)⟩, (by simp only [cf0_, c11]; omega)⟩⟩ hw dX12_push_20
abbrev Py_X12_push_2 (ad : Nat → Nat) (cy : Nat → ClassId) (B : Int) (qr : Nat) (s1 : Int) (a1 : Int64) (w0 : va_W) : va_W → Prop := fun u => TW ksM ad cy B qr 12 u ∧ FE ksM [(12, 24, 24), (69, 0, 64)] w0 u ∧ Ev (fun n => m_X12_push n 0 a1.toInt (sL w0)) (0, sL u) ∧ (((∃ y : Int32, gi u 0 24 = y ∧ 1 ≤ y.toInt ∧ y.toInt ≤ 64) ∧ ((gi u 0 24).toInt = (gi w0 0 24).toInt + 1)))
set_option maxHeartbeats 4000000 in
set_option maxRecDepth 100000 in
theorem ky_X12_push_2 (l : Launch) (adK adV : Nat → Nat) (dC : Nat → ClassId) (dI : Nat → Nat → Nat) (cy : Nat → ClassId) (ad : Nat → Nat) (B : Int) (hB0 : 100000 ≤ B) (hB1 : B ≤ 1073741824) (qr : Nat) (s1 : Int)  (a1 : Int64) (ra1 : (-2147483648) ≤ a1.toInt) (ta1 : a1.toInt ≤ 2147483647) (w0 : va_W) (sz : Nat) (hT : TW ksM ad cy B qr 12 w0) (f0_ : Int32) (cf0_ : gi w0 0 24 = f0_) (rf0_ : 0 ≤ f0_.toInt) (tf0_ : f0_.toInt ≤ 64) (pr0_ : f0_.toInt ≤ 63) : Met l yX12_push (wu yX12_push cX12_push 3 none) ({ frames := 1, cells := 0, slots := 0, locals := 12 }) (va_Pc [.ref (ad 0), .long a1] (wpreS adK adV dC dI cy sz w0)) (va_Qv (Py_X12_push_2 ad cy B qr s1 a1 w0) (fun u : va_W => wpost dC dI cy (va_A w0 sz) u) (va_A w0 sz)) 0 0 (va_A w0 sz) := by
  refine Met.ofW (cc := cX12_push) (maxL := 3) (ret := none) (by decide) rfl ?_
  intro p e s m args below meth c s₁ Bk hml hv
  obtain ⟨rfl, ⟨hsz, hP, hK, hD0⟩, hE, hSR⟩ := hv
  have hx := Bk.exec
  have hb := Bk.bytes
  have hr := Bk.returns
  have hlocks := Bk.notSynchronized
  have hC : CallFix p m c cX12_push 3 s _ (wu yX12_push cX12_push 3 none) RX12 := ⟨hx, hb, hml, findClass_of_methodNamed Bk.named, atoms_spec (ws := (wu yX12_push cX12_push 3 none)) Bk.pre⟩
  subst hsz
  have hD := hD0.self (sz := s.heap.size)
  generalize hAe : va_A w0 s.heap.size = A at hD hE ⊢
  have hA : ∀ q : Nat, s.heap.size ≤ q → A q := fun q h => by rw [← hAe]; exact Or.inr h
  have hw : Wd dC dI A s.heap s.heap [] w0 := ⟨hP, hD, va_S.rf⟩
  have hF : FE ksM [(12, 24, 24), (69, 0, 64)] w0 w0 := FE.rf
  have hl := lv_entry ([.ref (ad 0), .long a1]) (n := 3) (Nat.le_of_ble_eq_true rfl)
  rw [lg_entry_eq]
  generalize (lg_sl ([.ref (ad 0), .long a1]) ++ List.replicate (3 - (lg_sl ([.ref (ad 0), .long a1])).length) Slot.unset).toArray = ls at hl ⊢
  have hl : lv_has ls 3 [(0, .ref (ad 0)), (1, .long a1)] := hl
  generalize hloc : ([] : List Loc) = locs at hw ⊢
  have hinX12 : ∀ w ∈ u_ws RX12 TX12 42, w ∈ (wu yX12_push cX12_push 3 none) := fun _ h => List.mem_cons_of_mem _ (up_71 h)
  have hM : TT (fun n => m_X12_push n 0 a1.toInt (sL w0)) (fun n => m_X12_push n 0 a1.toInt (sL w0)) := TT.rf
  refine lv_aload_n hx hb dX12_push_0 rfl (lv_at hl 0 rfl) ?_
  refine tk_getA hC hK hw hT hinX12 kM_at0 (by decide) rfl 23 (by decide) (List.mem_cons_of_mem _ uw_6_23) rfl rfl dX12_push_1 ?_
  refine lv_aload_n hx hb dX12_push_4 rfl (lv_at hl 0 rfl) ?_
  refine tk_geti hC hK hw hT hinX12 kM_at0 (by decide) rfl 24 (by decide) (List.mem_cons_of_mem _ uw_48_14) rfl rfl dX12_push_5 (fun x1 c2 rx1 tx1 => ?_)
  refine wk_top f0_ (c2.symm.trans cf0_) ?_
  replace hM := hM.rd (sL_at (kM_lt kM_at0) cf0_)
  refine lv_lload_n hx hb dX12_push_8 rfl (lv_at hl 1 rfl) ?_
  have hTq := hT
  refine tk_lastv hC hK hw hT kM_at10 (by decide) rfl (show 0 ≤ f0_.toInt from rf0_) (show f0_.toInt < 64 from Int.lt_of_le_of_lt pr0_ (by decide)) dX12_push_9 (fun H locs w3 hw hT k5 c4 => ?_)
  replace hM := hM.wr (sL_upk hTq hT kM_at10 (kM_lt kM_at10) rfl k5 c4 rfl)
  have hF := hF.put kM_at10 (inE_of (a := 0) (b := 64) (by decide) (show 0 ≤ f0_.toInt.toNat by omega) (show f0_.toInt.toNat ≤ 64 by omega)) k5
  have c6 := k5.gi (Or.inl (tk_ne kM_at0 kM_at10 (by decide))) cf0_
  refine lv_aload_n hx hb dX12_push_10 rfl (lv_at hl 0 rfl) ?_
  refine lv_dup hx hb dX12_push_11 rfl ?_
  refine tk_geti hC hK hw hT hinX12 kM_at0 (by decide) rfl 24 (by decide) (List.mem_cons_of_mem _ uw_48_14) rfl rfl dX12_push_12 (fun x7 c8 rx7 tx7 => ?_)
  refine wk_top f0_ (c8.symm.trans c6) ?_
  replace hM := hM.rd (sL_at (kM_lt kM_at0) c6)
  refine lv_iconst (v := 1) hx hb dX12_push_15 (by decide) ?_
  refine lv_iadd hx hb dX12_push_16 ?_
  refine lv_topi (fun x9 ex9 => ?_)
  have ezx9 := ex9
  have ex9 : x9.toInt = f0_.toInt + (1 : Int) := by rw [ex9]; exact wk_add (show (-2147483648) ≤ f0_.toInt + (1 : Int) by omega) (show f0_.toInt + (1 : Int) ≤ 2147483647 by omega)
  replace hM := hM.lt ex9.symm
  have hTq := hT
  refine tk_puti hC hK hw hT hinX12 tyX12_ok nmX12 kM_at0 (by decide) rfl rfl 24 (by decide) (List.mem_cons_of_mem _ uw_48_14) rfl rfl rfl rfl (show 0 ≤ x9.toInt by first | with_reducible assumption | omega) (show x9.toInt ≤ 64 by first | with_reducible assumption | omega) dX12_push_17 (fun H locs w10 hw hT k12 c11 => ?_)
  replace hM := hM.wr (sL_upf hTq hT kM_at0 (kM_lt kM_at0) (by decide) rfl k12 c11 rfl)
  have hF := hF.put kM_at0 (k := 24) (by decide) k12
  exact tk_vret hC hr hlocks hK ⟨hT, hF, hM.ret rfl, ⟨⟨x9, c11, (show 1 ≤ x9.toInt by first | with_reducible assumption | omega), (show x9.toInt ≤ 64 by first | with_reducible assumption | omega)⟩, (by simp only [cf0_, c11]; omega)⟩⟩ hw dX12_push_20
